set_option maxRecDepth 100000 in
set_option maxHeartbeats 4000000 in
theorem k_leadsBoth (zl : Launch) (D : va_G) (cI : ClassId) (ad : Nat → Nat) (M : mS) (one : Nat) (two : Nat) (c : Nat) (v : Int32) (n : Nat) (hR : rOK M) (h1 : one < vn (M 1 3) * vn (M 1 8)) (h2 : two < vn (M 1 3) * vn (M 1 8)) (hc : c < 10) (hn : n < 2 ^ 31) : mM zl D cI ad yX9_leadsBoth wsX9_leadsBoth ({ frames := 56, cells := 0, slots := 0, locals := 1257 } : Room) [.int (nI one), .int (nI two), .int (nI c), .int v, .int (nI n)] M (mF_leadsBoth M one two c v n) := by
  have hin : ∀ w ∈ wsX90, w ∈ wsX9_leadsBoth := fun w h => List.mem_cons_of_mem _ (List.mem_append_right _ h)
  refine mM_ofZ (cc := cX9_leadsBoth) (nL := 12) (by decide) rfl rfl (Nat.le_of_ble_eq_true rfl) ?_
  intro zp ze zs zm zg zb zt zc zA H0 zQ C hA hret H locs ls hl G
  have hx := C.1
  have hb := C.2.1
  have hl : lv_has ls 12 [(0, .ref (ad 0)), (1, .int (nI one)), (2, .int (nI two)), (3, .int (nI c)), (4, .int v), (5, .int (nI n))] := hl
  obtain ⟨rM, hF⟩ : ∃ X : Int32 × mS, X = mF_leadsBoth M one two c v n := ⟨_, rfl⟩
  rw [← hF] at hret
  unfold mF_leadsBoth at hF
  have hC := hR.1
  have hP := hR.2.1
  have hK := hR.2.2.1
  have hA9 := hR.2.2.2.1
  have hS := hR.2.2.2.2
  have hC2 := hC.2.1
  have hC3 := hC.2.2
  have hP2 := hP.2
  have h80 : vn (M 1 3) * vn (M 1 8) ≤ 80 := Nat.le_trans (Nat.mul_le_mul hC3 hP2) (by decide)
  have ha := Nat.div_lt_of_lt_mul h1
  have hb8 := Nat.div_lt_of_lt_mul h2
  refine lv_aload_n hx hb dX9_leadsBoth_0 rfl (lv_at hl 0 rfl) ?_
  refine mr_get C G hin 0 (by decide) rfl (show Cond.fieldLink RX9 7 "WheatCountsModel" "row" "[I" ∈ _ by decide +kernel) (fun _ => rfl) dX9_leadsBoth_1 ?_
  refine lv_iconst (v := 3) hx hb dX9_leadsBoth_4 (by decide) ?_
  refine mr_ald C G 1 (fun _ => rfl) 3 rfl (by omega) (Nat.le_of_ble_eq_true rfl) dX9_leadsBoth_5 ?_
  refine lv_topi (fun x6 hx6 => ?_)
  obtain rfl : x6 = nI (vn (M 1 3)) := hx6.trans hC.1
  refine lv_istore (lv' := [(6, .int (nI (vn (M 1 3)))), (0, .ref (ad 0)), (1, .int (nI one)), (2, .int (nI two)), (3, .int (nI c)), (4, .int v), (5, .int (nI n))]) hx hb dX9_leadsBoth_6 hl (by decide) rfl (fun ls hl => ?_)
  refine lv_iload_n hx hb dX9_leadsBoth_8 rfl (lv_at hl 2 rfl) ?_
  refine lv_iload hx hb dX9_leadsBoth_9 (lv_at hl 0 rfl) ?_
  refine lv_idiv hx hb dX9_leadsBoth_11 (nI_ne0 (by omega) (by omega)) ?_
  refine lv_topi (fun x12 hx12 => ?_)
  obtain rfl : x12 = nI (one / vn (M 1 3)) := hx12.trans (pk_div (by omega) (by omega) (by omega))
  refine lv_istore (lv' := [(7, .int (nI (one / vn (M 1 3)))), (6, .int (nI (vn (M 1 3)))), (0, .ref (ad 0)), (1, .int (nI one)), (2, .int (nI two)), (3, .int (nI c)), (4, .int v), (5, .int (nI n))]) hx hb dX9_leadsBoth_12 hl (by decide) rfl (fun ls hl => ?_)
  refine lv_iload_n hx hb dX9_leadsBoth_14 rfl (lv_at hl 4 rfl) ?_
  refine lv_iload hx hb dX9_leadsBoth_15 (lv_at hl 1 rfl) ?_
  refine lv_idiv hx hb dX9_leadsBoth_17 (nI_ne0 (by omega) (by omega)) ?_
  refine lv_topi (fun x18 hx18 => ?_)
  obtain rfl : x18 = nI (two / vn (M 1 3)) := hx18.trans (pk_div (by omega) (by omega) (by omega))
  refine lv_istore (lv' := [(8, .int (nI (two / vn (M 1 3)))), (7, .int (nI (one / vn (M 1 3)))), (6, .int (nI (vn (M 1 3)))), (0, .ref (ad 0)), (1, .int (nI one)), (2, .int (nI two)), (3, .int (nI c)), (4, .int v), (5, .int (nI n))]) hx hb dX9_leadsBoth_18 hl (by decide) rfl (fun ls hl => ?_)
  refine lv_aload_n hx hb dX9_leadsBoth_20 rfl (lv_at hl 3 rfl) ?_
  refine lv_iload hx hb dX9_leadsBoth_21 (lv_at hl 1 rfl) ?_
  refine lv_iconst (v := 2) hx hb dX9_leadsBoth_23 (by decide) ?_
  refine mr_calli C hA G (k_its zl D cI ad M (one / vn (M 1 3)) 2 (by first | assumption | omega)) (cwV 2 C.2.2.2.2.1 gX9_leadsBoth_X9_its rfl rfl rfl (by decide +kernel) ⟨Nat.le_of_ble_eq_true rfl, Nat.le_of_ble_eq_true rfl⟩) rfl hl.1 rfl (Nat.le_of_ble_eq_true rfl) dX9_leadsBoth_24 ⟨Nat.le_refl _, Nat.le_refl _⟩ (fun H locs G => ?_)
  refine lv_topi (fun x27 hx27 => ?_)
  rw [lt_e hx27] at hF
  refine lv_istore (lv' := [(9, .int x27), (8, .int (nI (two / vn (M 1 3)))), (7, .int (nI (one / vn (M 1 3)))), (6, .int (nI (vn (M 1 3)))), (0, .ref (ad 0)), (1, .int (nI one)), (2, .int (nI two)), (3, .int (nI c)), (4, .int v), (5, .int (nI n))]) hx hb dX9_leadsBoth_27 hl (by decide) rfl (fun ls hl => ?_)
  refine lv_aload_n hx hb dX9_leadsBoth_29 rfl (lv_at hl 4 rfl) ?_
  refine lv_iload hx hb dX9_leadsBoth_30 (lv_at hl 1 rfl) ?_
  refine lv_iconst (v := 2) hx hb dX9_leadsBoth_32 (by decide) ?_
  refine mr_calli C hA G (k_its zl D cI ad M (two / vn (M 1 3)) 2 (by first | assumption | omega)) (cwV 2 C.2.2.2.2.1 gX9_leadsBoth_X9_its rfl rfl rfl (by decide +kernel) ⟨Nat.le_of_ble_eq_true rfl, Nat.le_of_ble_eq_true rfl⟩) rfl hl.1 rfl (Nat.le_of_ble_eq_true rfl) dX9_leadsBoth_33 ⟨Nat.le_refl _, Nat.le_refl _⟩ (fun H locs G => ?_)
  refine lv_topi (fun x36 hx36 => ?_)
  rw [lt_e hx36] at hF
  refine lv_istore (lv' := [(10, .int x36), (9, .int x27), (8, .int (nI (two / vn (M 1 3)))), (7, .int (nI (one / vn (M 1 3)))), (6, .int (nI (vn (M 1 3)))), (0, .ref (ad 0)), (1, .int (nI one)), (2, .int (nI two)), (3, .int (nI c)), (4, .int v), (5, .int (nI n))]) hx hb dX9_leadsBoth_36 hl (by decide) rfl (fun ls hl => ?_)
  refine lv_iload hx hb dX9_leadsBoth_38 (lv_at hl 1 rfl) ?_
  refine lv_iload_n hx hb dX9_leadsBoth_40 rfl (lv_at hl 6 rfl) ?_
  refine lv_iload hx hb dX9_leadsBoth_41 (lv_at hl 4 rfl) ?_
  refine lv_irem hx hb dX9_leadsBoth_43 (nI_ne0 (by omega) (by omega)) ?_
  refine lv_icmp_eq (tgt := 56) hx hb dX9_leadsBoth_44 (by decide) (fun c44 => ?_) (fun c44 => ?_)
  · rw [if_pos c44] at hF
    refine lv_iconst (v := 0) hx hb dX9_leadsBoth_56 (by decide) ?_
    exact hret _ _ _ _ _ _ hF G (Or.inl rfl) dX9_leadsBoth_57
  · rw [if_neg c44] at hF
    refine lv_iload hx hb dX9_leadsBoth_47 (lv_at hl 0 rfl) ?_
    refine lv_iload_n hx hb dX9_leadsBoth_49 rfl (lv_at hl 7 rfl) ?_
    refine lv_iload hx hb dX9_leadsBoth_50 (lv_at hl 4 rfl) ?_
    refine lv_irem hx hb dX9_leadsBoth_52 (nI_ne0 (by omega) (by omega)) ?_
    refine lv_icmp_ne (tgt := 58) hx hb dX9_leadsBoth_53 (by decide) (fun c53 => ?_) (fun c53 => ?_)
    · rw [if_neg c53] at hF
      refine lv_aload_n hx hb dX9_leadsBoth_58 rfl (lv_at hl 5 rfl) ?_
      refine lv_iload hx hb dX9_leadsBoth_59 (lv_at hl 3 rfl) ?_
      refine lv_iconst (v := 2) hx hb dX9_leadsBoth_61 (by decide) ?_
      refine lv_iload_n hx hb dX9_leadsBoth_62 rfl (lv_at hl 6 rfl) ?_
      refine lv_iload hx hb dX9_leadsBoth_63 (lv_at hl 4 rfl) ?_
      refine lv_irem hx hb dX9_leadsBoth_65 (nI_ne0 (by omega) (by omega)) ?_
      refine mr_callv C hA G (k_gets zl D cI ad M (one / vn (M 1 3)) 2 ((nI one) - (nI one) / (nI (vn (M 1 3))) * (nI (vn (M 1 3)))) (by first | assumption | omega)) (cwV 3 C.2.2.2.2.1 gX9_leadsBoth_X9_gets rfl rfl rfl (by decide +kernel) ⟨Nat.le_of_ble_eq_true rfl, Nat.le_of_ble_eq_true rfl⟩) rfl hl.1 rfl (Nat.le_of_ble_eq_true rfl) dX9_leadsBoth_66 ⟨Nat.le_refl _, Nat.le_refl _⟩ (fun H locs G => ?_)
      obtain ⟨M66, hM66⟩ : ∃ X : mS, X = mF_gets M (one / vn (M 1 3)) 2 ((nI one) - (nI one) / (nI (vn (M 1 3))) * (nI (vn (M 1 3)))) := ⟨_, rfl⟩
      rw [← hM66] at G
      rw [lt_e hM66] at hF
      have hR66 : rOK M66 := by rw [hM66]; exact gt_R hR (by omega) (rem_lt (by omega) (by omega) (by omega))
      refine lv_aload_n hx hb dX9_leadsBoth_69 rfl (lv_at hl 5 rfl) ?_
      refine lv_iload hx hb dX9_leadsBoth_70 (lv_at hl 2 rfl) ?_
      refine lv_iconst (v := 2) hx hb dX9_leadsBoth_72 (by decide) ?_
      refine lv_iload_n hx hb dX9_leadsBoth_73 rfl (lv_at hl 7 rfl) ?_
      refine lv_iload hx hb dX9_leadsBoth_74 (lv_at hl 4 rfl) ?_
      refine lv_irem hx hb dX9_leadsBoth_76 (nI_ne0 (by omega) (by omega)) ?_
      refine mr_callv C hA G (k_gets zl D cI ad M66 (two / vn (M 1 3)) 2 ((nI two) - (nI two) / (nI (vn (M 1 3))) * (nI (vn (M 1 3)))) (by first | assumption | omega)) (cwV 3 C.2.2.2.2.1 gX9_leadsBoth_X9_gets rfl rfl rfl (by decide +kernel) ⟨Nat.le_of_ble_eq_true rfl, Nat.le_of_ble_eq_true rfl⟩) rfl hl.1 rfl (Nat.le_of_ble_eq_true rfl) dX9_leadsBoth_77 ⟨Nat.le_refl _, Nat.le_refl _⟩ (fun H locs G => ?_)
      obtain ⟨M77, hM77⟩ : ∃ X : mS, X = mF_gets M66 (two / vn (M 1 3)) 2 ((nI two) - (nI two) / (nI (vn (M 1 3))) * (nI (vn (M 1 3)))) := ⟨_, rfl⟩
      rw [← hM77] at G
      rw [lt_e hM77] at hF
      have hR77 : rOK M77 := by rw [hM77]; exact gt_R hR66 (by omega) (rem_lt (by omega) (by omega) (by omega))
      refine lv_aload_n hx hb dX9_leadsBoth_80 rfl (lv_at hl 5 rfl) ?_
      refine lv_iload_n hx hb dX9_leadsBoth_81 rfl (lv_at hl 8 rfl) ?_
      refine lv_iload hx hb dX9_leadsBoth_82 (lv_at hl 9 rfl) ?_
      refine lv_iload hx hb dX9_leadsBoth_84 (lv_at hl 10 rfl) ?_
      obtain ⟨x86, M86, hx86⟩ : ∃ (X : Int32) (Y : mS), (X, Y) = mF_hasThen M77 c v n := ⟨_, _, rfl⟩
      refine mr_calli (r0 := x86) (M2 := M86) C hA G (by rw [hx86]; exact (k_hasThen zl D cI ad M77 c v n hR77 hc hn)) (cwV 3 C.2.2.2.2.1 gX9_leadsBoth_X9_hasThen rfl rfl rfl (by decide +kernel) ⟨Nat.le_of_ble_eq_true rfl, Nat.le_of_ble_eq_true rfl⟩) rfl hl.1 rfl (Nat.le_of_ble_eq_true rfl) dX9_leadsBoth_86 ⟨Nat.le_refl _, Nat.le_refl _⟩ (fun H locs G => ?_)
      rw [lt2_e hx86] at hF
      refine lv_istore (lv' := [(11, .int x86), (10, .int x36), (9, .int x27), (8, .int (nI (two / vn (M 1 3)))), (7, .int (nI (one / vn (M 1 3)))), (6, .int (nI (vn (M 1 3)))), (0, .ref (ad 0)), (1, .int (nI one)), (2, .int (nI two)), (3, .int (nI c)), (4, .int v), (5, .int (nI n))]) hx hb dX9_leadsBoth_89 hl (by decide) rfl (fun ls hl => ?_)
      refine lv_aload_n hx hb dX9_leadsBoth_91 rfl (lv_at hl 6 rfl) ?_
      refine lv_iload hx hb dX9_leadsBoth_92 (lv_at hl 4 rfl) ?_
      refine lv_iconst (v := 2) hx hb dX9_leadsBoth_94 (by decide) ?_
      refine lv_iload hx hb dX9_leadsBoth_95 (lv_at hl 2 rfl) ?_
      refine mr_callv C hA G (k_gets zl D cI ad M86 (one / vn (M 1 3)) 2 x27 (by first | assumption | omega)) (cwV 3 C.2.2.2.2.1 gX9_leadsBoth_X9_gets rfl rfl rfl (by decide +kernel) ⟨Nat.le_of_ble_eq_true rfl, Nat.le_of_ble_eq_true rfl⟩) rfl hl.1 rfl (Nat.le_of_ble_eq_true rfl) dX9_leadsBoth_97 ⟨Nat.le_refl _, Nat.le_refl _⟩ (fun H locs G => ?_)
      obtain ⟨M97, hM97⟩ : ∃ X : mS, X = mF_gets M86 (one / vn (M 1 3)) 2 x27 := ⟨_, rfl⟩
      rw [← hM97] at G
      rw [lt_e hM97] at hF
      refine lv_aload_n hx hb dX9_leadsBoth_100 rfl (lv_at hl 6 rfl) ?_
      refine lv_iload hx hb dX9_leadsBoth_101 (lv_at hl 3 rfl) ?_
      refine lv_iconst (v := 2) hx hb dX9_leadsBoth_103 (by decide) ?_
      refine lv_iload hx hb dX9_leadsBoth_104 (lv_at hl 1 rfl) ?_
      refine mr_callv C hA G (k_gets zl D cI ad M97 (two / vn (M 1 3)) 2 x36 (by first | assumption | omega)) (cwV 3 C.2.2.2.2.1 gX9_leadsBoth_X9_gets rfl rfl rfl (by decide +kernel) ⟨Nat.le_of_ble_eq_true rfl, Nat.le_of_ble_eq_true rfl⟩) rfl hl.1 rfl (Nat.le_of_ble_eq_true rfl) dX9_leadsBoth_106 ⟨Nat.le_refl _, Nat.le_refl _⟩ (fun H locs G => ?_)
      obtain ⟨M106, hM106⟩ : ∃ X : mS, X = mF_gets M97 (two / vn (M 1 3)) 2 x36 := ⟨_, rfl⟩
      rw [← hM106] at G
      rw [lt_e hM106] at hF
      refine lv_iload hx hb dX9_leadsBoth_109 (lv_at hl 0 rfl) ?_
      exact hret _ _ _ _ _ _ hF G (hT_01 hx86) dX9_leadsBoth_111
    · rw [if_pos c53] at hF
      refine lv_iconst (v := 0) hx hb dX9_leadsBoth_56 (by decide) ?_
      exact hret _ _ _ _ _ _ hF G (Or.inl rfl) dX9_leadsBoth_57
set_option maxRecDepth 100000 in
set_option maxHeartbeats 4000000 in
theorem k_findLeads (zl : Launch) (D : va_G) (cI : ClassId) (ad : Nat → Nat) (M : mS) (c : Nat) (v : Int32) (n : Nat) (hR : rOK M) (hc : c < 10) (hn : n < 2 ^ 31) : mM zl D cI ad yX9_findLeads wsX9_findLeads ({ frames := 57, cells := 0, slots := 0, locals := 1288 } : Room) [.int (nI c), .int v, .int (nI n)] M (mF_findLeads M c v n) := by
  have hin : ∀ w ∈ wsX90, w ∈ wsX9_findLeads := fun w h => List.mem_cons_of_mem _ (List.mem_append_right _ h)
  refine mM_of (cc := cX9_findLeads) (nL := 9) (by decide) rfl rfl (Nat.le_of_ble_eq_true rfl) ?_
  intro zp ze zs zm zg zb zt zc zA H0 zQ C hA hret H locs ls hl G
  have hx := C.1
  have hb := C.2.1
  have hl : lv_has ls 9 [(0, .ref (ad 0)), (1, .int (nI c)), (2, .int v), (3, .int (nI n))] := hl
  obtain ⟨rM, hF⟩ : ∃ X : Int32 × mS, X = mF_findLeads M c v n := ⟨_, rfl⟩
  rw [← hF] at hret
  unfold mF_findLeads at hF
  have hC := hR.1
  have hP := hR.2.1
  have hK := hR.2.2.1
  have hA9 := hR.2.2.2.1
  have hS := hR.2.2.2.2
  have hC2 := hC.2.1
  have hC3 := hC.2.2
  have hP2 := hP.2
  have h80 : vn (M 1 3) * vn (M 1 8) ≤ 80 := Nat.le_trans (Nat.mul_le_mul hC3 hP2) (by decide)
  have hmc : vn (M 1 8) * vn (M 1 3) = vn (M 1 3) * vn (M 1 8) := Nat.mul_comm _ _
  refine lv_aload_n hx hb dX9_findLeads_0 rfl (lv_at hl 0 rfl) ?_
  refine lv_iconst (v := -1) hx hb dX9_findLeads_1 (by decide) ?_
  refine lv_iconst (v := -1) hx hb dX9_findLeads_2 (by decide) ?_
  refine lv_iconst (v := -1) hx hb dX9_findLeads_3 (by decide) ?_
  refine lv_iconst (v := -1) hx hb dX9_findLeads_4 (by decide) ?_
  refine mr_callv C hA G (k_tells zl D cI ad M (-1) (-1) (-1) (-1)) (cwV 4 C.2.2.2.2.1 gX9_findLeads_X9_tells rfl rfl rfl (by decide +kernel) ⟨Nat.le_of_ble_eq_true rfl, Nat.le_of_ble_eq_true rfl⟩) rfl hl.1 rfl (Nat.le_of_ble_eq_true rfl) dX9_findLeads_5 ⟨Nat.le_refl _, Nat.le_refl _⟩ (fun H locs G => ?_)
  obtain ⟨M5, hM5⟩ : ∃ X : mS, X = mF_tells M (-1) (-1) (-1) (-1) := ⟨_, rfl⟩
  rw [← hM5] at G
  rw [lt_e hM5] at hF
  have hqM5 : ∀ x, x < 234 → M5 1 x = M 1 x := fun x hx => by rw [hM5, tl_row _ _ _ _ _ 1 (by decide)]
  have hR5 : rOK M5 := rOK_pt (fun x hx => hqM5 x (by omega)) hR
  refine lv_aload_n hx hb dX9_findLeads_8 rfl (lv_at hl 0 rfl) ?_
  refine lv_iload_n hx hb dX9_findLeads_9 rfl (lv_at hl 1 rfl) ?_
  refine lv_iload_n hx hb dX9_findLeads_10 rfl (lv_at hl 2 rfl) ?_
  refine lv_iload_n hx hb dX9_findLeads_11 rfl (lv_at hl 3 rfl) ?_
  obtain ⟨x12, M12, hx12⟩ : ∃ (X : Int32) (Y : mS), (X, Y) = mF_hasThen M5 c v n := ⟨_, _, rfl⟩
  refine mr_calli (r0 := x12) (M2 := M12) C hA G (by rw [hx12]; exact (k_hasThen zl D cI ad M5 c v n hR5 hc hn)) (cwV 3 C.2.2.2.2.1 gX9_findLeads_X9_hasThen rfl rfl rfl (by decide +kernel) ⟨Nat.le_of_ble_eq_true rfl, Nat.le_of_ble_eq_true rfl⟩) rfl hl.1 rfl (Nat.le_of_ble_eq_true rfl) dX9_findLeads_12 ⟨Nat.le_refl _, Nat.le_refl _⟩ (fun H locs G => ?_)
  rw [lt2_e hx12] at hF
  have hqM12 : ∀ x, x < 234 → M12 1 x = M 1 x := fun x hx => by rw [hT_q hx12 x hx]; exact hqM5 x hx
  refine lv_if_eq (tgt := 20) hx hb dX9_findLeads_15 (by decide) (fun c15 => ?_) (fun c15 => ?_)
  · rw [if_pos c15] at hF
    refine lv_aload_n hx hb dX9_findLeads_20 rfl (lv_at hl 0 rfl) ?_
    refine mr_get C G hin 0 (by decide) rfl (show Cond.fieldLink RX9 7 "WheatCountsModel" "row" "[I" ∈ _ by decide +kernel) (fun _ => rfl) dX9_findLeads_21 ?_
    refine lv_iconst (v := 3) hx hb dX9_findLeads_24 (by decide) ?_
    refine mr_ald C G 1 (fun _ => rfl) 3 rfl (by omega) (Nat.le_of_ble_eq_true rfl) dX9_findLeads_25 ?_
    refine lv_topi (fun x26 hx26 => ?_)
    obtain rfl : x26 = nI (vn (M 1 3)) := hx26.trans (by rw [hqM12 3 (by decide)]; exact hC.1)
    refine lv_istore (lv' := [(4, .int (nI (vn (M 1 3)))), (0, .ref (ad 0)), (1, .int (nI c)), (2, .int v), (3, .int (nI n))]) hx hb dX9_findLeads_26 hl (by decide) rfl (fun ls hl => ?_)
    refine lv_iconst (v := 0) hx hb dX9_findLeads_28 (by decide) ?_
    refine lv_istore (lv' := [(5, .int 0), (4, .int (nI (vn (M 1 3)))), (0, .ref (ad 0)), (1, .int (nI c)), (2, .int v), (3, .int (nI n))]) hx hb dX9_findLeads_29 hl (by decide) rfl (fun ls hl => ?_)
    obtain ⟨K31, hK31⟩ : ∃ X : Nat → mS → Int32 × mS, X = (fun (kax : Nat) (M31x : mS) => (mF_findLeads_L131 M c v n (fun (kbx : Nat) (M131x : mS) => ((-1), M131x)) (vn (M 1 3) * vn (M 1 8) + 1) 0 M31x)) := ⟨_, rfl⟩
    rw [← hK31] at hF
    have hrest31 : ∀ (kax : Nat) (M31x : mS), rM = K31 kax M31x → (∀ x, x < 234 → M31x 1 x = M 1 x) → ∀ (H : Heap) (locs : List Loc) (ls : Array Slot), lv_has ls 9 [(0, .ref (ad 0)), (1, .int (nI c)), (2, .int v), (3, .int (nI n)), (4, .int (nI (vn (M 1 3)))), (5, .int (nI kax))] → mG D cI ad zA H0 H locs M31x → W zp zl ze ({ frames := 57, cells := 0, slots := 0, locals := 1288 } : Room) zs zm zg zb zt zc H locs 0 0 zQ (F0 zm 128 ls []) := by
      intro kax M31x hF hR9 H locs ls hl G
      have hF : rM = (mF_findLeads_L131 M c v n (fun (kbx : Nat) (M131x : mS) => ((-1), M131x)) (vn (M 1 3) * vn (M 1 8) + 1) 0 M31x) := by rw [hK31] at hF; exact hF
      have hqM31x := hR9
      refine lv_iconst (v := 0) hx hb dX9_findLeads_128 (by decide) ?_
      refine lv_istore (lv' := [(5, .int 0), (0, .ref (ad 0)), (1, .int (nI c)), (2, .int v), (3, .int (nI n)), (4, .int (nI (vn (M 1 3))))]) hx hb dX9_findLeads_129 hl (by decide) rfl (fun ls hl => ?_)
      obtain ⟨K131, hK131⟩ : ∃ X : Nat → mS → Int32 × mS, X = (fun (kbx : Nat) (M131x : mS) => ((-1), M131x)) := ⟨_, rfl⟩
      rw [← hK131] at hF
      have hrest131 : ∀ (kbx : Nat) (M131x : mS), rM = K131 kbx M131x → (∀ x, x < 234 → M131x 1 x = M 1 x) → ∀ (H : Heap) (locs : List Loc) (ls : Array Slot), lv_has ls 9 [(0, .ref (ad 0)), (1, .int (nI c)), (2, .int v), (3, .int (nI n)), (4, .int (nI (vn (M 1 3)))), (5, .int (nI kbx))] → mG D cI ad zA H0 H locs M131x → W zp zl ze ({ frames := 57, cells := 0, slots := 0, locals := 1288 } : Room) zs zm zg zb zt zc H locs 0 0 zQ (F0 zm 225 ls []) := by
        intro kbx M131x hF hR9 H locs ls hl G
        have hF : rM = ((-1), M131x) := by rw [hK131] at hF; exact hF
        refine lv_iconst (v := -1) hx hb dX9_findLeads_225 (by decide) ?_
        exact hret _ _ _ _ _ _ hF G dX9_findLeads_226
      have hloop131 : ∀ (f131 : Nat) (kb : Nat) (M131 : mS), (kb ≤ vn (M 1 3) * vn (M 1 8) ∧ vn (M 1 3) * vn (M 1 8) < kb + f131 ∧ (∀ x, x < 234 → M131 1 x = M 1 x)) → rM = mF_findLeads_L131 M c v n K131 f131 kb M131 → ∀ (H : Heap) (locs : List Loc) (ls : Array Slot), lv_has ls 9 [(0, .ref (ad 0)), (1, .int (nI c)), (2, .int v), (3, .int (nI n)), (4, .int (nI (vn (M 1 3)))), (5, .int (nI kb))] → mG D cI ad zA H0 H locs M131 → W zp zl ze ({ frames := 57, cells := 0, slots := 0, locals := 1288 } : Room) zs zm zg zb zt zc H locs 0 0 zQ (F0 zm 131 ls []) := by
        intro f131
        induction f131 with
        | zero =>
          intro kb M131 hI hL131 H locs ls hl G
          exact absurd hI.2.1 (by omega)
        | succ f131 ih131 =>
          intro kb M131 hI hL131 H locs ls hl G
          rw [mF_findLeads_L131_s] at hL131
          have hqM131 := hI.2.2
          have hRM131 : rOK M131 := rOK_pt (fun x hx => hqM131 x (by omega)) hR
          have hPM131 : M131 1 8 = nI (vn (M 1 8)) := by rw [hqM131 8 (by decide)]; exact hP.1
          refine lv_iload hx hb dX9_findLeads_131 (lv_at hl 5 rfl) ?_
          refine lv_aload_n hx hb dX9_findLeads_133 rfl (lv_at hl 0 rfl) ?_
          refine mr_get C G hin 0 (by decide) rfl (show Cond.fieldLink RX9 7 "WheatCountsModel" "row" "[I" ∈ _ by decide +kernel) (fun _ => rfl) dX9_findLeads_134 ?_
          refine lv_bipush (v := 8) hx hb dX9_findLeads_137 (by decide) ?_
          refine mr_ald C G 1 (fun _ => rfl) 8 rfl (by omega) (Nat.le_of_ble_eq_true rfl) dX9_findLeads_139 ?_
          refine lv_iload hx hb dX9_findLeads_140 (lv_at hl 4 rfl) ?_
          refine lv_imul hx hb dX9_findLeads_142 ?_
          refine lv_icmp_ge (tgt := 225) hx hb dX9_findLeads_143 (by decide) (fun c143 => ?_) (fun c143 => ?_)
          · rw [if_pos c143] at hL131
            exact hrest131 kb M131 hL131 hqM131 _ _ _ (lv_sub hl [0, 1, 2, 3, 4, 5] rfl) G
          · rw [if_neg c143] at hL131
            have hkb9 := lp_lt (n := vn (M 1 8) * vn (M 1 3)) (nt_mul hPM131 rfl) c143 (by rw [Nat.mul_comm]; omega) (by omega)
            have hkb : kb < vn (M 1 3) * vn (M 1 8) := by rw [← hmc]; exact hkb9
            have hdw := Nat.div_lt_of_lt_mul hkb
            have hkd : vn (M 1 3) * (kb / vn (M 1 3) + 1) ≤ vn (M 1 3) * vn (M 1 8) := Nat.mul_le_mul (Nat.le_refl _) hdw
            refine lv_iload hx hb dX9_findLeads_146 (lv_at hl 4 rfl) ?_
            refine lv_iload hx hb dX9_findLeads_148 (lv_at hl 5 rfl) ?_
            refine lv_iload hx hb dX9_findLeads_150 (lv_at hl 4 rfl) ?_
            refine lv_idiv hx hb dX9_findLeads_152 (nI_ne0 (by omega) (by omega)) ?_
            refine lv_iconst (v := 1) hx hb dX9_findLeads_153 (by decide) ?_
            refine lv_iadd hx hb dX9_findLeads_154 ?_
            refine lv_imul hx hb dX9_findLeads_155 ?_
            refine lv_topi (fun x156 hx156 => ?_)
            obtain rfl : x156 = nI ((vn (M 1 3)) * ((kb / vn (M 1 3)) + 1)) := hx156.trans (nt_mul rfl (nt_add (pk_div (by omega) (by omega) (by omega)) rfl))
            refine lv_istore (lv' := [(6, .int (nI ((vn (M 1 3)) * ((kb / vn (M 1 3)) + 1)))), (0, .ref (ad 0)), (1, .int (nI c)), (2, .int v), (3, .int (nI n)), (4, .int (nI (vn (M 1 3)))), (5, .int (nI kb))]) hx hb dX9_findLeads_156 hl (by decide) rfl (fun ls hl => ?_)
            obtain ⟨K158, hK158⟩ : ∃ X : Nat → mS → Int32 × mS, X = (fun (kdx : Nat) (M158x : mS) => (mF_findLeads_L131 M c v n K131 f131 (kb + 1) M158x)) := ⟨_, rfl⟩
            rw [← hK158] at hL131
            have hrest158 : ∀ (kdx : Nat) (M158x : mS), rM = K158 kdx M158x → (∀ x, x < 234 → M158x 1 x = M 1 x) → ∀ (H : Heap) (locs : List Loc) (ls : Array Slot), lv_has ls 9 [(0, .ref (ad 0)), (1, .int (nI c)), (2, .int v), (3, .int (nI n)), (4, .int (nI (vn (M 1 3)))), (5, .int (nI kb)), (6, .int (nI kdx))] → mG D cI ad zA H0 H locs M158x → W zp zl ze ({ frames := 57, cells := 0, slots := 0, locals := 1288 } : Room) zs zm zg zb zt zc H locs 0 0 zQ (F0 zm 219 ls []) := by
              intro kdx M158x hF hR9 H locs ls hl G
              have hF : rM = (mF_findLeads_L131 M c v n K131 f131 (kb + 1) M158x) := by rw [hK158] at hF; exact hF
              have hqM158x := hR9
              refine lv_iinc (v := nI (kb + 1)) (lv' := [(5, .int (nI (kb + 1))), (0, .ref (ad 0)), (1, .int (nI c)), (2, .int v), (3, .int (nI n)), (4, .int (nI (vn (M 1 3)))), (6, .int (nI kdx))]) hx hb dX9_findLeads_219 hl (k := 5) rfl (nt_add rfl (show (1 : Int32) = nI 1 from rfl)) (by decide) rfl (fun ls hl => ?_)
              refine lv_goto (tgt := 131) hx hb dX9_findLeads_222 (by decide) ?_
              exact ih131 (kb + 1) M158x ⟨by omega, by omega, hqM158x⟩ hF _ _ _ (lv_sub hl [1, 2, 3, 4, 5, 0] rfl) G
            have hloop158 : ∀ (f158 : Nat) (kd : Nat) (M158 : mS), (kd ≤ vn (M 1 3) * vn (M 1 8) ∧ vn (M 1 3) * vn (M 1 8) < kd + f158 ∧ (∀ x, x < 234 → M158 1 x = M 1 x)) → rM = mF_findLeads_L158 M c v n kb K158 f158 kd M158 → ∀ (H : Heap) (locs : List Loc) (ls : Array Slot), lv_has ls 9 [(0, .ref (ad 0)), (1, .int (nI c)), (2, .int v), (3, .int (nI n)), (4, .int (nI (vn (M 1 3)))), (5, .int (nI kb)), (6, .int (nI kd))] → mG D cI ad zA H0 H locs M158 → W zp zl ze ({ frames := 57, cells := 0, slots := 0, locals := 1288 } : Room) zs zm zg zb zt zc H locs 0 0 zQ (F0 zm 158 ls []) := by
              intro f158
              induction f158 with
              | zero =>
                intro kd M158 hI hL158 H locs ls hl G
                exact absurd hI.2.1 (by omega)
              | succ f158 ih158 =>
                intro kd M158 hI hL158 H locs ls hl G
                rw [mF_findLeads_L158_s] at hL158
                have hqM158 := hI.2.2
                have hRM158 : rOK M158 := rOK_pt (fun x hx => hqM158 x (by omega)) hR
                have hPM158 : M158 1 8 = nI (vn (M 1 8)) := by rw [hqM158 8 (by decide)]; exact hP.1
                refine lv_iload hx hb dX9_findLeads_158 (lv_at hl 6 rfl) ?_
                refine lv_aload_n hx hb dX9_findLeads_160 rfl (lv_at hl 0 rfl) ?_
                refine mr_get C G hin 0 (by decide) rfl (show Cond.fieldLink RX9 7 "WheatCountsModel" "row" "[I" ∈ _ by decide +kernel) (fun _ => rfl) dX9_findLeads_161 ?_
                refine lv_bipush (v := 8) hx hb dX9_findLeads_164 (by decide) ?_
                refine mr_ald C G 1 (fun _ => rfl) 8 rfl (by omega) (Nat.le_of_ble_eq_true rfl) dX9_findLeads_166 ?_
                refine lv_iload hx hb dX9_findLeads_167 (lv_at hl 4 rfl) ?_
                refine lv_imul hx hb dX9_findLeads_169 ?_
                refine lv_icmp_ge (tgt := 219) hx hb dX9_findLeads_170 (by decide) (fun c170 => ?_) (fun c170 => ?_)
                · rw [if_pos c170] at hL158
                  exact hrest158 kd M158 hL158 hqM158 _ _ _ (lv_sub hl [0, 1, 2, 3, 4, 5, 6] rfl) G
                · rw [if_neg c170] at hL158
                  have hkd9 := lp_lt (n := vn (M 1 8) * vn (M 1 3)) (nt_mul hPM158 rfl) c170 (by rw [Nat.mul_comm]; omega) (by omega)
                  have hkd : kd < vn (M 1 3) * vn (M 1 8) := by rw [← hmc]; exact hkd9
                  have hcM : vn (M158 1 3) = vn (M 1 3) := by rw [hqM158 3 (by decide)]
                  have hpM : vn (M158 1 8) = vn (M 1 8) := by rw [hqM158 8 (by decide)]
                  have hb1 : kb < vn (M158 1 3) * vn (M158 1 8) := by rw [hcM, hpM]; exact hkb
                  have hb2 : kd < vn (M158 1 3) * vn (M158 1 8) := by rw [hcM, hpM]; exact hkd
                  refine lv_aload_n hx hb dX9_findLeads_173 rfl (lv_at hl 0 rfl) ?_
                  refine lv_iload hx hb dX9_findLeads_174 (lv_at hl 5 rfl) ?_
                  refine lv_iload hx hb dX9_findLeads_176 (lv_at hl 6 rfl) ?_
                  refine lv_iload_n hx hb dX9_findLeads_178 rfl (lv_at hl 1 rfl) ?_
                  refine lv_iload_n hx hb dX9_findLeads_179 rfl (lv_at hl 2 rfl) ?_
                  refine lv_iload_n hx hb dX9_findLeads_180 rfl (lv_at hl 3 rfl) ?_
                  obtain ⟨x181, M181, hx181⟩ : ∃ (X : Int32) (Y : mS), (X, Y) = mF_leadsBoth M158 kb kd c v n := ⟨_, _, rfl⟩
                  refine mr_calli (r0 := x181) (M2 := M181) C hA G (by rw [hx181]; exact (k_leadsBoth zl D cI ad M158 kb kd c v n hRM158 hb1 hb2 hc hn)) (cwV 5 C.2.2.2.2.1 gX9_findLeads_X9_leadsBoth rfl rfl rfl (by decide +kernel) ⟨Nat.le_of_ble_eq_true rfl, Nat.le_of_ble_eq_true rfl⟩) rfl hl.1 rfl (Nat.le_of_ble_eq_true rfl) dX9_findLeads_181 ⟨Nat.le_refl _, Nat.le_refl _⟩ (fun H locs G => ?_)
                  rw [lt2_e hx181] at hL158
                  have hqM181 : ∀ x, x < 234 → M181 1 x = M 1 x := fun x hx => by rw [lB_q hRM158 hb1 hb2 hx181 x hx]; exact hqM158 x hx
                  refine lv_if_eq (tgt := 213) hx hb dX9_findLeads_184 (by decide) (fun c184 => ?_) (fun c184 => ?_)
                  · rw [if_pos c184] at hL158
                    refine lv_iinc (v := nI (kd + 1)) (lv' := [(6, .int (nI (kd + 1))), (0, .ref (ad 0)), (1, .int (nI c)), (2, .int v), (3, .int (nI n)), (4, .int (nI (vn (M 1 3)))), (5, .int (nI kb))]) hx hb dX9_findLeads_213 hl (k := 6) rfl (nt_add rfl (show (1 : Int32) = nI 1 from rfl)) (by decide) rfl (fun ls hl => ?_)
                    refine lv_goto (tgt := 158) hx hb dX9_findLeads_216 (by decide) ?_
                    exact ih158 (kd + 1) M181 ⟨by omega, by omega, hqM181⟩ hL158 _ _ _ (lv_sub hl [1, 2, 3, 4, 5, 6, 0] rfl) G
                  · rw [if_neg c184] at hL158
                    refine lv_aload_n hx hb dX9_findLeads_187 rfl (lv_at hl 0 rfl) ?_
                    refine lv_iload hx hb dX9_findLeads_188 (lv_at hl 5 rfl) ?_
                    refine lv_iload hx hb dX9_findLeads_190 (lv_at hl 4 rfl) ?_
                    refine lv_idiv hx hb dX9_findLeads_192 (nI_ne0 (by omega) (by omega)) ?_
                    refine lv_iload hx hb dX9_findLeads_193 (lv_at hl 5 rfl) ?_
                    refine lv_iload hx hb dX9_findLeads_195 (lv_at hl 4 rfl) ?_
                    refine lv_irem hx hb dX9_findLeads_197 (nI_ne0 (by omega) (by omega)) ?_
                    refine lv_iload hx hb dX9_findLeads_198 (lv_at hl 6 rfl) ?_
                    refine lv_iload hx hb dX9_findLeads_200 (lv_at hl 4 rfl) ?_
                    refine lv_idiv hx hb dX9_findLeads_202 (nI_ne0 (by omega) (by omega)) ?_
                    refine lv_iload hx hb dX9_findLeads_203 (lv_at hl 6 rfl) ?_
                    refine lv_iload hx hb dX9_findLeads_205 (lv_at hl 4 rfl) ?_
                    refine lv_irem hx hb dX9_findLeads_207 (nI_ne0 (by omega) (by omega)) ?_
                    refine mr_callv C hA G (k_tells zl D cI ad M181 ((nI kb) / (nI (vn (M 1 3)))) ((nI kb) - (nI kb) / (nI (vn (M 1 3))) * (nI (vn (M 1 3)))) ((nI kd) / (nI (vn (M 1 3)))) ((nI kd) - (nI kd) / (nI (vn (M 1 3))) * (nI (vn (M 1 3))))) (cwV 4 C.2.2.2.2.1 gX9_findLeads_X9_tells rfl rfl rfl (by decide +kernel) ⟨Nat.le_of_ble_eq_true rfl, Nat.le_of_ble_eq_true rfl⟩) rfl hl.1 rfl (Nat.le_of_ble_eq_true rfl) dX9_findLeads_208 ⟨Nat.le_refl _, Nat.le_refl _⟩ (fun H locs G => ?_)
                    obtain ⟨M208, hM208⟩ : ∃ X : mS, X = mF_tells M181 ((nI kb) / (nI (vn (M 1 3)))) ((nI kb) - (nI kb) / (nI (vn (M 1 3))) * (nI (vn (M 1 3)))) ((nI kd) / (nI (vn (M 1 3)))) ((nI kd) - (nI kd) / (nI (vn (M 1 3))) * (nI (vn (M 1 3)))) := ⟨_, rfl⟩
                    rw [← hM208] at G
                    rw [lt_e hM208] at hL158
                    refine lv_iconst (v := 2) hx hb dX9_findLeads_211 (by decide) ?_
                    exact hret _ _ _ _ _ _ hL158 G dX9_findLeads_212
            exact hloop158 (vn (M 1 3) * vn (M 1 8) + 1) ((vn (M 1 3)) * ((kb / vn (M 1 3)) + 1)) M131 ⟨hkd, by omega, hqM131⟩ hL131 _ _ _ (lv_sub hl [1, 2, 3, 4, 5, 6, 0] rfl) G
      exact hloop131 (vn (M 1 3) * vn (M 1 8) + 1) 0 M31x ⟨Nat.zero_le _, by omega, hqM31x⟩ hF _ _ _ (lv_sub hl [1, 2, 3, 4, 5, 0] rfl) G
    have hloop31 : ∀ (f31 : Nat) (ka : Nat) (M31 : mS), (ka ≤ vn (M 1 3) * vn (M 1 8) ∧ vn (M 1 3) * vn (M 1 8) < ka + f31 ∧ (∀ x, x < 234 → M31 1 x = M 1 x)) → rM = mF_findLeads_L31 M c v n K31 f31 ka M31 → ∀ (H : Heap) (locs : List Loc) (ls : Array Slot), lv_has ls 9 [(0, .ref (ad 0)), (1, .int (nI c)), (2, .int v), (3, .int (nI n)), (4, .int (nI (vn (M 1 3)))), (5, .int (nI ka))] → mG D cI ad zA H0 H locs M31 → W zp zl ze ({ frames := 57, cells := 0, slots := 0, locals := 1288 } : Room) zs zm zg zb zt zc H locs 0 0 zQ (F0 zm 31 ls []) := by
      intro f31
      induction f31 with
      | zero =>
        intro ka M31 hI hL31 H locs ls hl G
        exact absurd hI.2.1 (by omega)
      | succ f31 ih31 =>
        intro ka M31 hI hL31 H locs ls hl G
        rw [mF_findLeads_L31_s] at hL31
        have hqM31 := hI.2.2
        have hRM31 : rOK M31 := rOK_pt (fun x hx => hqM31 x (by omega)) hR
        have hPM31 : M31 1 8 = nI (vn (M 1 8)) := by rw [hqM31 8 (by decide)]; exact hP.1
        refine lv_iload hx hb dX9_findLeads_31 (lv_at hl 5 rfl) ?_
        refine lv_aload_n hx hb dX9_findLeads_33 rfl (lv_at hl 0 rfl) ?_
        refine mr_get C G hin 0 (by decide) rfl (show Cond.fieldLink RX9 7 "WheatCountsModel" "row" "[I" ∈ _ by decide +kernel) (fun _ => rfl) dX9_findLeads_34 ?_
        refine lv_bipush (v := 8) hx hb dX9_findLeads_37 (by decide) ?_
        refine mr_ald C G 1 (fun _ => rfl) 8 rfl (by omega) (Nat.le_of_ble_eq_true rfl) dX9_findLeads_39 ?_
        refine lv_iload hx hb dX9_findLeads_40 (lv_at hl 4 rfl) ?_
        refine lv_imul hx hb dX9_findLeads_42 ?_
        refine lv_icmp_ge (tgt := 128) hx hb dX9_findLeads_43 (by decide) (fun c43 => ?_) (fun c43 => ?_)
        · rw [if_pos c43] at hL31
          exact hrest31 ka M31 hL31 hqM31 _ _ _ (lv_sub hl [0, 1, 2, 3, 4, 5] rfl) G
        · rw [if_neg c43] at hL31
          have hka9 := lp_lt (n := vn (M 1 8) * vn (M 1 3)) (nt_mul hPM31 rfl) c43 (by rw [Nat.mul_comm]; omega) (by omega)
          have hka : ka < vn (M 1 3) * vn (M 1 8) := by rw [← hmc]; exact hka9
          have hdv := Nat.div_lt_of_lt_mul hka
          refine lv_iload hx hb dX9_findLeads_46 (lv_at hl 5 rfl) ?_
          refine lv_iload hx hb dX9_findLeads_48 (lv_at hl 4 rfl) ?_
          refine lv_idiv hx hb dX9_findLeads_50 (nI_ne0 (by omega) (by omega)) ?_
          refine lv_topi (fun x51 hx51 => ?_)
          obtain rfl : x51 = nI (ka / vn (M 1 3)) := hx51.trans (pk_div (by omega) (by omega) (by omega))
          refine lv_istore (lv' := [(6, .int (nI (ka / vn (M 1 3)))), (0, .ref (ad 0)), (1, .int (nI c)), (2, .int v), (3, .int (nI n)), (4, .int (nI (vn (M 1 3)))), (5, .int (nI ka))]) hx hb dX9_findLeads_51 hl (by decide) rfl (fun ls hl => ?_)
          refine lv_aload_n hx hb dX9_findLeads_53 rfl (lv_at hl 1 rfl) ?_
          refine lv_iload hx hb dX9_findLeads_54 (lv_at hl 0 rfl) ?_
          refine lv_iconst (v := 2) hx hb dX9_findLeads_56 (by decide) ?_
          refine mr_calli C hA G (k_its zl D cI ad M31 (ka / vn (M 1 3)) 2 (by omega)) (cwV 2 C.2.2.2.2.1 gX9_findLeads_X9_its rfl rfl rfl (by decide +kernel) ⟨Nat.le_of_ble_eq_true rfl, Nat.le_of_ble_eq_true rfl⟩) rfl hl.1 rfl (Nat.le_of_ble_eq_true rfl) dX9_findLeads_57 ⟨Nat.le_refl _, Nat.le_refl _⟩ (fun H locs G => ?_)
          refine lv_topi (fun x60 hx60 => ?_)
          rw [lt_e hx60] at hL31
          refine lv_istore (lv' := [(7, .int x60), (6, .int (nI (ka / vn (M 1 3)))), (0, .ref (ad 0)), (1, .int (nI c)), (2, .int v), (3, .int (nI n)), (4, .int (nI (vn (M 1 3)))), (5, .int (nI ka))]) hx hb dX9_findLeads_60 hl (by decide) rfl (fun ls hl => ?_)
          refine lv_iload hx hb dX9_findLeads_62 (lv_at hl 0 rfl) ?_
          refine lv_iload hx hb dX9_findLeads_64 (lv_at hl 7 rfl) ?_
          refine lv_iload hx hb dX9_findLeads_66 (lv_at hl 6 rfl) ?_
          refine lv_irem hx hb dX9_findLeads_68 (nI_ne0 (by omega) (by omega)) ?_
          refine lv_icmp_eq (tgt := 122) hx hb dX9_findLeads_69 (by decide) (fun c69 => ?_) (fun c69 => ?_)
          · rw [if_pos c69] at hL31
            refine lv_iinc (v := nI (ka + 1)) (lv' := [(5, .int (nI (ka + 1))), (7, .int x60), (6, .int (nI (ka / vn (M 1 3)))), (0, .ref (ad 0)), (1, .int (nI c)), (2, .int v), (3, .int (nI n)), (4, .int (nI (vn (M 1 3))))]) hx hb dX9_findLeads_122 hl (k := 7) rfl (nt_add rfl (show (1 : Int32) = nI 1 from rfl)) (by decide) rfl (fun ls hl => ?_)
            refine lv_goto (tgt := 31) hx hb dX9_findLeads_125 (by decide) ?_
            exact ih31 (ka + 1) M31 ⟨by omega, by omega, hqM31⟩ hL31 _ _ _ (lv_sub hl [3, 4, 5, 6, 7, 0] rfl) G
          · rw [if_neg c69] at hL31
            refine lv_aload_n hx hb dX9_findLeads_72 rfl (lv_at hl 2 rfl) ?_
            refine lv_iload hx hb dX9_findLeads_73 (lv_at hl 1 rfl) ?_
            refine lv_iconst (v := 2) hx hb dX9_findLeads_75 (by decide) ?_
            refine lv_iload hx hb dX9_findLeads_76 (lv_at hl 7 rfl) ?_
            refine lv_iload hx hb dX9_findLeads_78 (lv_at hl 6 rfl) ?_
            refine lv_irem hx hb dX9_findLeads_80 (nI_ne0 (by omega) (by omega)) ?_
            refine mr_callv C hA G (k_gets zl D cI ad M31 (ka / vn (M 1 3)) 2 ((nI ka) - (nI ka) / (nI (vn (M 1 3))) * (nI (vn (M 1 3)))) (by first | assumption | omega)) (cwV 3 C.2.2.2.2.1 gX9_findLeads_X9_gets rfl rfl rfl (by decide +kernel) ⟨Nat.le_of_ble_eq_true rfl, Nat.le_of_ble_eq_true rfl⟩) rfl hl.1 rfl (Nat.le_of_ble_eq_true rfl) dX9_findLeads_81 ⟨Nat.le_refl _, Nat.le_refl _⟩ (fun H locs G => ?_)
            obtain ⟨M81, hM81⟩ : ∃ X : mS, X = mF_gets M31 (ka / vn (M 1 3)) 2 ((nI ka) - (nI ka) / (nI (vn (M 1 3))) * (nI (vn (M 1 3)))) := ⟨_, rfl⟩
            rw [← hM81] at G
            rw [lt_e hM81] at hL31
            have hR81 : rOK M81 := by rw [hM81]; exact gt_R hRM31 (by omega) (rem_lt (by omega) (by omega) (by omega))
            refine lv_aload_n hx hb dX9_findLeads_84 rfl (lv_at hl 2 rfl) ?_
            refine lv_iload_n hx hb dX9_findLeads_85 rfl (lv_at hl 3 rfl) ?_
            refine lv_iload_n hx hb dX9_findLeads_86 rfl (lv_at hl 4 rfl) ?_
            refine lv_iload_n hx hb dX9_findLeads_87 rfl (lv_at hl 5 rfl) ?_
            obtain ⟨x88, M88, hx88⟩ : ∃ (X : Int32) (Y : mS), (X, Y) = mF_hasThen M81 c v n := ⟨_, _, rfl⟩
            refine mr_calli (r0 := x88) (M2 := M88) C hA G (by rw [hx88]; exact (k_hasThen zl D cI ad M81 c v n hR81 hc hn)) (cwV 3 C.2.2.2.2.1 gX9_findLeads_X9_hasThen rfl rfl rfl (by decide +kernel) ⟨Nat.le_of_ble_eq_true rfl, Nat.le_of_ble_eq_true rfl⟩) rfl hl.1 rfl (Nat.le_of_ble_eq_true rfl) dX9_findLeads_88 ⟨Nat.le_refl _, Nat.le_refl _⟩ (fun H locs G => ?_)
            rw [lt2_e hx88] at hL31
            refine lv_istore (lv' := [(8, .int x88), (7, .int x60), (6, .int (nI (ka / vn (M 1 3)))), (0, .ref (ad 0)), (1, .int (nI c)), (2, .int v), (3, .int (nI n)), (4, .int (nI (vn (M 1 3)))), (5, .int (nI ka))]) hx hb dX9_findLeads_91 hl (by decide) rfl (fun ls hl => ?_)
            refine lv_aload_n hx hb dX9_findLeads_93 rfl (lv_at hl 3 rfl) ?_
            refine lv_iload hx hb dX9_findLeads_94 (lv_at hl 2 rfl) ?_
            refine lv_iconst (v := 2) hx hb dX9_findLeads_96 (by decide) ?_
            refine lv_iload hx hb dX9_findLeads_97 (lv_at hl 1 rfl) ?_
            refine mr_callv C hA G (k_gets zl D cI ad M88 (ka / vn (M 1 3)) 2 x60 (by first | assumption | omega)) (cwV 3 C.2.2.2.2.1 gX9_findLeads_X9_gets rfl rfl rfl (by decide +kernel) ⟨Nat.le_of_ble_eq_true rfl, Nat.le_of_ble_eq_true rfl⟩) rfl hl.1 rfl (Nat.le_of_ble_eq_true rfl) dX9_findLeads_99 ⟨Nat.le_refl _, Nat.le_refl _⟩ (fun H locs G => ?_)
            obtain ⟨M99, hM99⟩ : ∃ X : mS, X = mF_gets M88 (ka / vn (M 1 3)) 2 x60 := ⟨_, rfl⟩
            rw [← hM99] at G
            rw [lt_e hM99] at hL31
            have hqM99 : ∀ x, x < 234 → M99 1 x = M 1 x := fun x hx => by rw [hM99, gt_back (fun y hy => (hT_q hx88 y hy).trans (by rw [hM81])) hx60 x hx]; exact hqM31 x hx
            refine lv_iload hx hb dX9_findLeads_102 (lv_at hl 0 rfl) ?_
            refine lv_if_eq (tgt := 122) hx hb dX9_findLeads_104 (by decide) (fun c104 => ?_) (fun c104 => ?_)
            · rw [if_pos c104] at hL31
              refine lv_iinc (v := nI (ka + 1)) (lv' := [(5, .int (nI (ka + 1))), (8, .int x88), (7, .int x60), (6, .int (nI (ka / vn (M 1 3)))), (0, .ref (ad 0)), (1, .int (nI c)), (2, .int v), (3, .int (nI n)), (4, .int (nI (vn (M 1 3))))]) hx hb dX9_findLeads_122 hl (k := 8) rfl (nt_add rfl (show (1 : Int32) = nI 1 from rfl)) (by decide) rfl (fun ls hl => ?_)
              refine lv_goto (tgt := 31) hx hb dX9_findLeads_125 (by decide) ?_
              exact ih31 (ka + 1) M99 ⟨by omega, by omega, hqM99⟩ hL31 _ _ _ (lv_sub hl [4, 5, 6, 7, 8, 0] rfl) G
            · rw [if_neg c104] at hL31
              refine lv_aload_n hx hb dX9_findLeads_107 rfl (lv_at hl 3 rfl) ?_
              refine lv_iload hx hb dX9_findLeads_108 (lv_at hl 2 rfl) ?_
              refine lv_iload hx hb dX9_findLeads_110 (lv_at hl 8 rfl) ?_
              refine lv_iload hx hb dX9_findLeads_112 (lv_at hl 7 rfl) ?_
              refine lv_irem hx hb dX9_findLeads_114 (nI_ne0 (by omega) (by omega)) ?_
              refine lv_iconst (v := -1) hx hb dX9_findLeads_115 (by decide) ?_
              refine lv_iconst (v := -1) hx hb dX9_findLeads_116 (by decide) ?_
              refine mr_callv C hA G (k_tells zl D cI ad M99 (nI (ka / vn (M 1 3))) ((nI ka) - (nI ka) / (nI (vn (M 1 3))) * (nI (vn (M 1 3)))) (-1) (-1)) (cwV 4 C.2.2.2.2.1 gX9_findLeads_X9_tells rfl rfl rfl (by decide +kernel) ⟨Nat.le_of_ble_eq_true rfl, Nat.le_of_ble_eq_true rfl⟩) rfl hl.1 rfl (Nat.le_of_ble_eq_true rfl) dX9_findLeads_117 ⟨Nat.le_refl _, Nat.le_refl _⟩ (fun H locs G => ?_)
              obtain ⟨M117, hM117⟩ : ∃ X : mS, X = mF_tells M99 (nI (ka / vn (M 1 3))) ((nI ka) - (nI ka) / (nI (vn (M 1 3))) * (nI (vn (M 1 3)))) (-1) (-1) := ⟨_, rfl⟩
              rw [← hM117] at G
              rw [lt_e hM117] at hL31
              refine lv_iconst (v := 1) hx hb dX9_findLeads_120 (by decide) ?_
              exact hret _ _ _ _ _ _ hL31 G dX9_findLeads_121
    exact hloop31 (vn (M 1 3) * vn (M 1 8) + 1) 0 M12 ⟨Nat.zero_le _, by omega, hqM12⟩ hF _ _ _ (lv_sub hl [2, 3, 4, 5, 1, 0] rfl) G
  · rw [if_neg c15] at hF
    refine lv_iconst (v := 0) hx hb dX9_findLeads_18 (by decide) ?_
    exact hret _ _ _ _ _ _ hF G dX9_findLeads_19
set_option maxRecDepth 100000 in
set_option maxHeartbeats 4000000 in
theorem k_leads (zl : Launch) (D : va_G) (cI : ClassId) (ad : Nat → Nat) (M : mS) (c : Int32) (v : Int32) (n : Int32) (what : Int32) (hR : rOK M) : mM zl D cI ad yX9_leads wsX9_leads ({ frames := 58, cells := 0, slots := 0, locals := 1316 } : Room) [.int c, .int v, .int n, .int what] M (mF_leads M c v n what) := by
  have hin : ∀ w ∈ wsX90, w ∈ wsX9_leads := fun w h => List.mem_cons_of_mem _ (List.mem_append_right _ h)
  refine mM_of (cc := cX9_leads) (nL := 6) (by decide) rfl rfl (Nat.le_of_ble_eq_true rfl) ?_
  intro zp ze zs zm zg zb zt zc zA H0 zQ C hA hret H locs ls hl G
  have hx := C.1
  have hb := C.2.1
  have hl : lv_has ls 6 [(0, .ref (ad 0)), (1, .int c), (2, .int v), (3, .int n), (4, .int what)] := hl
  obtain ⟨rM, hF⟩ : ∃ X : Int32 × mS, X = mF_leads M c v n what := ⟨_, rfl⟩
  rw [← hF] at hret
  unfold mF_leads at hF
  have hC := hR.1
  have hP := hR.2.1
  have hK := hR.2.2.1
  have hA9 := hR.2.2.2.1
  have hS := hR.2.2.2.2
  have hC2 := hC.2.1
  have hC3 := hC.2.2
  have hP2 := hP.2
  refine lv_aload_n hx hb dX9_leads_0 rfl (lv_at hl 0 rfl) ?_
  refine lv_iload_n hx hb dX9_leads_1 rfl (lv_at hl 1 rfl) ?_
  refine mr_calli C hA G (k_isCell zl D cI ad M c) (cwV 1 C.2.2.2.2.1 gX9_leads_X9_isCell rfl rfl rfl (by decide +kernel) ⟨Nat.le_of_ble_eq_true rfl, Nat.le_of_ble_eq_true rfl⟩) rfl hl.1 rfl (Nat.le_of_ble_eq_true rfl) dX9_leads_2 ⟨Nat.le_refl _, Nat.le_refl _⟩ (fun H locs G => ?_)
  refine lv_if_eq (tgt := 37) hx hb dX9_leads_5 (by decide) (fun c5 => ?_) (fun c5 => ?_)
  · rw [if_pos c5] at hF
    refine lv_aload_n hx hb dX9_leads_37 rfl (lv_at hl 0 rfl) ?_
    refine lv_ldc (v := -1000000001) hx hb C.2.2.2.1 (C.2.2.2.2.1 (.constant RX9 58 (-1000000001)) (by decide +kernel)) dX9_leads_38 ?_
    obtain ⟨x40, M40, hx40⟩ : ∃ (X : Int32) (Y : mS), (X, Y) = mF_errs M (-1000000001) := ⟨_, _, rfl⟩
    refine mr_calli (r0 := x40) (M2 := M40) C hA G (by rw [hx40]; exact (k_errs zl D cI ad M (-1000000001) (by unfold vp_in; decide))) (cwV 1 C.2.2.2.2.1 gX9_leads_X9_errs rfl rfl rfl (by decide +kernel) ⟨Nat.le_of_ble_eq_true rfl, Nat.le_of_ble_eq_true rfl⟩) rfl hl.1 rfl (Nat.le_of_ble_eq_true rfl) dX9_leads_40 ⟨Nat.le_refl _, Nat.le_refl _⟩ (fun H locs G => ?_)
    rw [lt2_e hx40] at hF
    exact hret _ _ _ _ _ _ hF G dX9_leads_43
  · rw [if_neg c5] at hF
    have hc := cell_of hC c5
    have hc2 := hc.2
    refine lv_iload_n hx hb dX9_leads_8 rfl (lv_at hl 2 rfl) ?_
    refine lv_iconst (v := 0) hx hb dX9_leads_9 (by decide) ?_
    refine lv_ldc (v := 99999) hx hb C.2.2.2.1 (C.2.2.2.2.1 (.constant RX9 72 (99999)) (by decide +kernel)) dX9_leads_10 ?_
    refine mr_calls C hA G (ks_in zl v 0 99999) (va_cwS 3 C.2.2.2.2.1 gX9_leads_X9_in rfl rfl rfl (by decide +kernel) ⟨Nat.le_of_ble_eq_true rfl, Nat.le_of_ble_eq_true rfl⟩) rfl hl.1 rfl (Nat.le_of_ble_eq_true rfl) dX9_leads_12 ⟨Nat.le_refl _, Nat.le_refl _⟩ (fun H locs G => ?_)
    refine lv_if_eq (tgt := 37) hx hb dX9_leads_15 (by decide) (fun c15 => ?_) (fun c15 => ?_)
    · rw [if_pos c15] at hF
      refine lv_aload_n hx hb dX9_leads_37 rfl (lv_at hl 0 rfl) ?_
      refine lv_ldc (v := -1000000001) hx hb C.2.2.2.1 (C.2.2.2.2.1 (.constant RX9 58 (-1000000001)) (by decide +kernel)) dX9_leads_38 ?_
      obtain ⟨x40, M40, hx40⟩ : ∃ (X : Int32) (Y : mS), (X, Y) = mF_errs M (-1000000001) := ⟨_, _, rfl⟩
      refine mr_calli (r0 := x40) (M2 := M40) C hA G (by rw [hx40]; exact (k_errs zl D cI ad M (-1000000001) (by unfold vp_in; decide))) (cwV 1 C.2.2.2.2.1 gX9_leads_X9_errs rfl rfl rfl (by decide +kernel) ⟨Nat.le_of_ble_eq_true rfl, Nat.le_of_ble_eq_true rfl⟩) rfl hl.1 rfl (Nat.le_of_ble_eq_true rfl) dX9_leads_40 ⟨Nat.le_refl _, Nat.le_refl _⟩ (fun H locs G => ?_)
      rw [lt2_e hx40] at hF
      exact hret _ _ _ _ _ _ hF G dX9_leads_43
    · rw [if_neg c15] at hF
      refine lv_iload_n hx hb dX9_leads_18 rfl (lv_at hl 3 rfl) ?_
      refine lv_iconst (v := 0) hx hb dX9_leads_19 (by decide) ?_
      refine lv_iconst (v := 3) hx hb dX9_leads_20 (by decide) ?_
      refine mr_calls C hA G (ks_in zl n 0 3) (va_cwS 3 C.2.2.2.2.1 gX9_leads_X9_in rfl rfl rfl (by decide +kernel) ⟨Nat.le_of_ble_eq_true rfl, Nat.le_of_ble_eq_true rfl⟩) rfl hl.1 rfl (Nat.le_of_ble_eq_true rfl) dX9_leads_21 ⟨Nat.le_refl _, Nat.le_refl _⟩ (fun H locs G => ?_)
      refine lv_if_eq (tgt := 37) hx hb dX9_leads_24 (by decide) (fun c24 => ?_) (fun c24 => ?_)
      · rw [if_pos c24] at hF
        refine lv_aload_n hx hb dX9_leads_37 rfl (lv_at hl 0 rfl) ?_
        refine lv_ldc (v := -1000000001) hx hb C.2.2.2.1 (C.2.2.2.2.1 (.constant RX9 58 (-1000000001)) (by decide +kernel)) dX9_leads_38 ?_
        obtain ⟨x40, M40, hx40⟩ : ∃ (X : Int32) (Y : mS), (X, Y) = mF_errs M (-1000000001) := ⟨_, _, rfl⟩
        refine mr_calli (r0 := x40) (M2 := M40) C hA G (by rw [hx40]; exact (k_errs zl D cI ad M (-1000000001) (by unfold vp_in; decide))) (cwV 1 C.2.2.2.2.1 gX9_leads_X9_errs rfl rfl rfl (by decide +kernel) ⟨Nat.le_of_ble_eq_true rfl, Nat.le_of_ble_eq_true rfl⟩) rfl hl.1 rfl (Nat.le_of_ble_eq_true rfl) dX9_leads_40 ⟨Nat.le_refl _, Nat.le_refl _⟩ (fun H locs G => ?_)
        rw [lt2_e hx40] at hF
        exact hret _ _ _ _ _ _ hF G dX9_leads_43
      · rw [if_neg c24] at hF
        have hn := in_nat (n := 3) c24 ⟨rfl, by decide⟩
        have hn2 := hn.2
        refine lv_iload hx hb dX9_leads_27 (lv_at hl 4 rfl) ?_
        refine lv_iconst (v := -1) hx hb dX9_leads_29 (by decide) ?_
        refine lv_iconst (v := 3) hx hb dX9_leads_30 (by decide) ?_
        refine mr_calls C hA G (ks_in zl what (-1) 3) (va_cwS 3 C.2.2.2.2.1 gX9_leads_X9_in rfl rfl rfl (by decide +kernel) ⟨Nat.le_of_ble_eq_true rfl, Nat.le_of_ble_eq_true rfl⟩) rfl hl.1 rfl (Nat.le_of_ble_eq_true rfl) dX9_leads_31 ⟨Nat.le_refl _, Nat.le_refl _⟩ (fun H locs G => ?_)
        refine lv_if_ne (tgt := 44) hx hb dX9_leads_34 (by decide) (fun c34 => ?_) (fun c34 => ?_)
        · rw [if_neg c34] at hF
          refine lv_aload_n hx hb dX9_leads_44 rfl (lv_at hl 0 rfl) ?_
          refine lv_iload_n hx hb dX9_leads_45 rfl (lv_at hl 1 rfl) ?_
          refine lv_iload_n hx hb dX9_leads_46 rfl (lv_at hl 2 rfl) ?_
          refine lv_iload_n hx hb dX9_leads_47 rfl (lv_at hl 3 rfl) ?_
          obtain ⟨x48, M48, hx48⟩ : ∃ (X : Int32) (Y : mS), (X, Y) = mF_findLeads M (vn c) v (vn n) := ⟨_, _, rfl⟩
          refine mr_calli (r0 := x48) (M2 := M48) C hA G (by rw [hx48]; exact (k_findLeads zl D cI ad M (vn c) v (vn n) hR (by omega) (by omega))) (cwV 3 C.2.2.2.2.1 gX9_leads_X9_findLeads rfl rfl rfl (by decide +kernel) ⟨Nat.le_of_ble_eq_true rfl, Nat.le_of_ble_eq_true rfl⟩) rfl hl.1 (cons_int hn.1 (cons_int rfl (cons_int hc.1 rfl))) (Nat.le_of_ble_eq_true rfl) dX9_leads_48 ⟨Nat.le_refl _, Nat.le_refl _⟩ (fun H locs G => ?_)
          rw [lt2_e hx48] at hF
          refine lv_istore (lv' := [(5, .int x48), (0, .ref (ad 0)), (1, .int c), (2, .int v), (3, .int n), (4, .int what)]) hx hb dX9_leads_51 hl (by decide) rfl (fun ls hl => ?_)
          refine lv_iload hx hb dX9_leads_53 (lv_at hl 0 rfl) ?_
          refine lv_if_ge (tgt := 65) hx hb dX9_leads_55 (by decide) (fun c55 => ?_) (fun c55 => ?_)
          · rw [if_pos c55] at hF
            refine lv_iload hx hb dX9_leads_65 (lv_at hl 5 rfl) ?_
            refine lv_if_ge (tgt := 75) hx hb dX9_leads_67 (by decide) (fun c67 => ?_) (fun c67 => ?_)
            · rw [if_pos c67] at hF
              refine lv_aload_n hx hb dX9_leads_75 rfl (lv_at hl 1 rfl) ?_
              refine mr_get C G hin 17 (by decide) rfl (show Cond.fieldLink RX9 32 "WheatCountsModel" "led" "[I" ∈ _ by decide +kernel) (fun _ => rfl) dX9_leads_76 ?_
              refine lv_iload hx hb dX9_leads_79 (lv_at hl 5 rfl) ?_
              refine lv_if_ge (tgt := 88) hx hb dX9_leads_81 (by decide) (fun c81 => ?_) (fun c81 => ?_)
              · rw [if_pos c81] at hF
                have hw := wh3 c34 c81
                have hw2 := hw.2
                refine lv_iload hx hb dX9_leads_88 (lv_at hl 5 rfl) ?_
                refine mr_ald C G 7 (fun _ => rfl) (vn what) hw.1 (by omega) (Nat.le_of_ble_eq_true rfl) dX9_leads_90 ?_
                exact hret _ _ _ _ _ _ hF G dX9_leads_91
              · rw [if_neg c81] at hF
                refine lv_iconst (v := 0) hx hb dX9_leads_84 (by decide) ?_
                refine lv_goto (tgt := 90) hx hb dX9_leads_85 (by decide) ?_
                refine mr_ald C G 7 (fun _ => rfl) 0 rfl (by omega) (Nat.le_of_ble_eq_true rfl) dX9_leads_90 ?_
                exact hret _ _ _ _ _ _ hF G dX9_leads_91
            · rw [if_neg c67] at hF
              refine lv_iload hx hb dX9_leads_70 (lv_at hl 0 rfl) ?_
              refine lv_goto (tgt := 91) hx hb dX9_leads_72 (by decide) ?_
              exact hret _ _ _ _ _ _ hF G dX9_leads_91
          · rw [if_neg c55] at hF
            refine lv_aload_n hx hb dX9_leads_58 rfl (lv_at hl 1 rfl) ?_
            refine lv_ldc (v := -1000000002) hx hb C.2.2.2.1 (C.2.2.2.2.1 (.constant RX9 204 (-1000000002)) (by decide +kernel)) dX9_leads_59 ?_
            obtain ⟨x61, M61, hx61⟩ : ∃ (X : Int32) (Y : mS), (X, Y) = mF_errs M48 (-1000000002) := ⟨_, _, rfl⟩
            refine mr_calli (r0 := x61) (M2 := M61) C hA G (by rw [hx61]; exact (k_errs zl D cI ad M48 (-1000000002) (by unfold vp_in; decide))) (cwV 1 C.2.2.2.2.1 gX9_leads_X9_errs rfl rfl rfl (by decide +kernel) ⟨Nat.le_of_ble_eq_true rfl, Nat.le_of_ble_eq_true rfl⟩) rfl hl.1 rfl (Nat.le_of_ble_eq_true rfl) dX9_leads_61 ⟨Nat.le_refl _, Nat.le_refl _⟩ (fun H locs G => ?_)
            rw [lt2_e hx61] at hF
            exact hret _ _ _ _ _ _ hF G dX9_leads_64
        · rw [if_pos c34] at hF
          refine lv_aload_n hx hb dX9_leads_37 rfl (lv_at hl 0 rfl) ?_
          refine lv_ldc (v := -1000000001) hx hb C.2.2.2.1 (C.2.2.2.2.1 (.constant RX9 58 (-1000000001)) (by decide +kernel)) dX9_leads_38 ?_
          obtain ⟨x40, M40, hx40⟩ : ∃ (X : Int32) (Y : mS), (X, Y) = mF_errs M (-1000000001) := ⟨_, _, rfl⟩
          refine mr_calli (r0 := x40) (M2 := M40) C hA G (by rw [hx40]; exact (k_errs zl D cI ad M (-1000000001) (by unfold vp_in; decide))) (cwV 1 C.2.2.2.2.1 gX9_leads_X9_errs rfl rfl rfl (by decide +kernel) ⟨Nat.le_of_ble_eq_true rfl, Nat.le_of_ble_eq_true rfl⟩) rfl hl.1 rfl (Nat.le_of_ble_eq_true rfl) dX9_leads_40 ⟨Nat.le_refl _, Nat.le_refl _⟩ (fun H locs G => ?_)
          rw [lt2_e hx40] at hF
          exact hret _ _ _ _ _ _ hF G dX9_leads_43

