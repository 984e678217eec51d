set_option maxRecDepth 100000 in
set_option maxHeartbeats 4000000 in
theorem k_check (zl : Launch) (D : va_G) (cI : ClassId) (ad : Nat → Nat) (M : mS) (hR : rOK M) (hW : wOK M) : mM zl D cI ad yX9_check wsX9_check ({ frames := 54, cells := 0, slots := 0, locals := 1211 } : Room) [] M (mF_check M) := by
  have hin : ∀ w ∈ wsX90, w ∈ wsX9_check := fun w h => List.mem_cons_of_mem _ (List.mem_append_right _ h)
  refine mM_of (cc := cX9_check) (nL := 4) (by decide) rfl rfl (Nat.le_of_ble_eq_true rfl) ?_
  intro zp ze zs zm zg zb zt zc zA H0 zQ C hA hret H locs ls hl G
  have hx := C.1
  have hb := C.2.1
  have hl : lv_has ls 4 [(0, .ref (ad 0))] := hl
  obtain ⟨rM, hF⟩ : ∃ X : Int32 × mS, X = mF_check M := ⟨_, rfl⟩
  rw [← hF] at hret
  unfold mF_check at hF
  have hC := hR.1
  have hP := hR.2.1
  have hK := hR.2.2.1
  have hA9 := hR.2.2.2.1
  have hS := hR.2.2.2.2
  have hC2 := hC.2.1
  have hC3 := hC.2.2
  have hP2 := hP.2
  have hW2 := hW.2
  refine lv_aload_n hx hb dX9_check_0 rfl (lv_at hl 0 rfl) ?_
  refine mr_get C G hin 0 (by decide) rfl (show Cond.fieldLink RX9 7 "WheatCountsModel" "row" "[I" ∈ _ by decide +kernel) (fun _ => rfl) dX9_check_1 ?_
  refine lv_iconst (v := 5) hx hb dX9_check_4 (by decide) ?_
  refine mr_ald C G 1 (fun _ => rfl) 5 rfl (by omega) (Nat.le_of_ble_eq_true rfl) dX9_check_5 ?_
  refine lv_topi (fun x6 hx6 => ?_)
  obtain rfl : x6 = nI (vn (M 1 5)) := hx6.trans hW.1
  refine lv_istore_n (lv' := [(1, .int (nI (vn (M 1 5)))), (0, .ref (ad 0))]) hx hb dX9_check_6 rfl hl (by decide) rfl (fun ls hl => ?_)
  refine lv_aload_n hx hb dX9_check_7 rfl (lv_at hl 1 rfl) ?_
  refine mr_get C G hin 0 (by decide) rfl (show Cond.fieldLink RX9 7 "WheatCountsModel" "row" "[I" ∈ _ by decide +kernel) (fun _ => rfl) dX9_check_8 ?_
  refine lv_iconst (v := 5) hx hb dX9_check_11 (by decide) ?_
  refine lv_iconst (v := 0) hx hb dX9_check_12 (by decide) ?_
  refine mr_ast C G 1 (fun _ => rfl) 5 rfl (by omega) (Nat.le_of_ble_eq_true rfl) (fun _ => rfl) dX9_check_13 (fun H locs G => ?_)
  obtain ⟨M13, hM13⟩ : ∃ X : mS, X = mU M 1 5 0 := ⟨_, rfl⟩
  rw [← hM13] at G
  rw [lt_e hM13] at hF
  refine lv_aload_n hx hb dX9_check_14 rfl (lv_at hl 1 rfl) ?_
  refine lv_aload_n hx hb dX9_check_15 rfl (lv_at hl 1 rfl) ?_
  refine mr_get C G hin 0 (by decide) rfl (show Cond.fieldLink RX9 7 "WheatCountsModel" "row" "[I" ∈ _ by decide +kernel) (fun _ => rfl) dX9_check_16 ?_
  refine lv_aload_n hx hb dX9_check_19 rfl (lv_at hl 1 rfl) ?_
  refine mr_get C G hin 2 (by decide) rfl (show Cond.fieldLink RX9 16 "WheatCountsModel" "tried" "[I" ∈ _ by decide +kernel) (fun _ => rfl) dX9_check_20 ?_
  refine mr_callv C hA G (k_moveAll_1_3 zl D cI ad M13 ) (cwV 2 C.2.2.2.2.1 gX9_check_X9_moveAll rfl rfl rfl (by decide +kernel) ⟨Nat.le_of_ble_eq_true rfl, Nat.le_of_ble_eq_true rfl⟩) rfl hl.1 rfl (Nat.le_of_ble_eq_true rfl) dX9_check_23 ⟨Nat.le_refl _, Nat.le_refl _⟩ (fun H locs G => ?_)
  obtain ⟨M23, hM23⟩ : ∃ X : mS, X = mF_moveAll_1_3 M13 := ⟨_, rfl⟩
  rw [← hM23] at G
  rw [lt_e hM23] at hF
  have hR23 : rOK M23 := by rw [hM23]; exact rOK_row (mv13_row _ 1 (by decide)) (by rw [hM13]; exact rOK_up hR (by decide) (by decide) (by decide) (by decide) (fun _ _ => by omega) (fun _ _ => by omega))
  refine lv_iconst (v := 0) hx hb dX9_check_26 (by decide) ?_
  refine lv_istore_n (lv' := [(2, .int 0), (1, .int (nI (vn (M 1 5)))), (0, .ref (ad 0))]) hx hb dX9_check_27 rfl hl (by decide) rfl (fun ls hl => ?_)
  refine lv_iconst (v := 1) hx hb dX9_check_28 (by decide) ?_
  refine lv_istore_n (lv' := [(3, .int 1), (2, .int 0), (1, .int (nI (vn (M 1 5)))), (0, .ref (ad 0))]) hx hb dX9_check_29 rfl hl (by decide) rfl (fun ls hl => ?_)
  obtain ⟨kax, v3_30x, M30x, hX30⟩ : ∃ (kax : Nat) (v3_30x : Int32) (M30x : mS), (kax, v3_30x, M30x) = mF_check_L30 M fu22 0 1 M23 := ⟨_, _, _, rfl⟩
  rw [lt3_e hX30] at hF
  have hrest30 : ∀ (H : Heap) (locs : List Loc) (ls : Array Slot), lv_has ls 4 [(0, .ref (ad 0)), (1, .int (nI (vn (M 1 5)))), (2, .int (nI kax)), (3, .int v3_30x)] → mG D cI ad zA H0 H locs M30x → W zp zl ze ({ frames := 54, cells := 0, slots := 0, locals := 1211 } : Room) zs zm zg zb zt zc H locs 0 0 zQ (F0 zm 80 ls []) := by
    intro H locs ls hl G
    refine lv_aload_n hx hb dX9_check_80 rfl (lv_at hl 0 rfl) ?_
    refine lv_aload_n hx hb dX9_check_81 rfl (lv_at hl 0 rfl) ?_
    refine mr_get C G hin 2 (by decide) rfl (show Cond.fieldLink RX9 16 "WheatCountsModel" "tried" "[I" ∈ _ by decide +kernel) (fun _ => rfl) dX9_check_82 ?_
    refine lv_aload_n hx hb dX9_check_85 rfl (lv_at hl 0 rfl) ?_
    refine mr_get C G hin 0 (by decide) rfl (show Cond.fieldLink RX9 7 "WheatCountsModel" "row" "[I" ∈ _ by decide +kernel) (fun _ => rfl) dX9_check_86 ?_
    refine mr_callv C hA G (k_moveAll_3_1 zl D cI ad M30x ) (cwV 2 C.2.2.2.2.1 gX9_check_X9_moveAll rfl rfl rfl (by decide +kernel) ⟨Nat.le_of_ble_eq_true rfl, Nat.le_of_ble_eq_true rfl⟩) rfl hl.1 rfl (Nat.le_of_ble_eq_true rfl) dX9_check_89 ⟨Nat.le_refl _, Nat.le_refl _⟩ (fun H locs G => ?_)
    obtain ⟨M89, hM89⟩ : ∃ X : mS, X = mF_moveAll_3_1 M30x := ⟨_, rfl⟩
    rw [← hM89] at G
    rw [lt_e hM89] at hF
    refine lv_iload_n hx hb dX9_check_92 rfl (lv_at hl 3 rfl) ?_
    refine lv_if_eq (tgt := 100) hx hb dX9_check_93 (by decide) (fun c93 => ?_) (fun c93 => ?_)
    · rw [if_pos c93] at hF
      refine lv_iconst (v := 1) hx hb dX9_check_100 (by decide) ?_
      refine lv_iload_n hx hb dX9_check_101 rfl (lv_at hl 2 rfl) ?_
      refine lv_iadd hx hb dX9_check_102 ?_
      exact hret _ _ _ _ _ _ hF G dX9_check_103
    · rw [if_neg c93] at hF
      refine lv_iconst (v := 0) hx hb dX9_check_96 (by decide) ?_
      refine lv_goto (tgt := 103) hx hb dX9_check_97 (by decide) ?_
      exact hret _ _ _ _ _ _ hF G dX9_check_103
  have hloop30 : ∀ (f : Nat) (ka : Nat) (v3_30 : Int32) (M30 : mS), (ka ≤ 20 ∧ rOK M30 ∧ ((¬ v3_30 = 0 ∧ 20 < ka + f) ∨ (v3_30 = 0 ∧ 0 < f))) → (kax, v3_30x, M30x) = mF_check_L30 M f ka v3_30 M30 → ∀ (H : Heap) (locs : List Loc) (ls : Array Slot), lv_has ls 4 [(0, .ref (ad 0)), (1, .int (nI (vn (M 1 5)))), (2, .int (nI ka)), (3, .int v3_30)] → mG D cI ad zA H0 H locs M30 → W zp zl ze ({ frames := 54, cells := 0, slots := 0, locals := 1211 } : Room) zs zm zg zb zt zc H locs 0 0 zQ (F0 zm 30 ls []) := by
    intro f
    induction f with
    | zero =>
      intro ka v3_30 M30 hI hL30 H locs ls hl G
      exact hI.2.2.elim (fun h => absurd h.2 (by omega)) (fun h => absurd h.2 (by omega))
    | succ f ih =>
      intro ka v3_30 M30 hI hL30 H locs ls hl G
      rw [mF_check_L30_s] at hL30
      refine lv_iload_n hx hb dX9_check_30 rfl (lv_at hl 2 rfl) ?_
      refine lv_iload_n hx hb dX9_check_31 rfl (lv_at hl 1 rfl) ?_
      refine lv_icmp_ge (tgt := 80) hx hb dX9_check_32 (by decide) (fun c32 => ?_) (fun c32 => ?_)
      · rw [if_pos c32] at hL30
        cases hL30
        exact hrest30 _ _ _ (lv_sub hl [0, 1, 2, 3] rfl) G
      · rw [if_neg c32] at hL30
        have hk1 := lp_lt (n := vn (M 1 5)) rfl c32 (by omega) (by omega)
        refine lv_iload_n hx hb dX9_check_35 rfl (lv_at hl 3 rfl) ?_
        refine lv_if_eq (tgt := 80) hx hb dX9_check_36 (by decide) (fun c36 => ?_) (fun c36 => ?_)
        · rw [if_pos c36] at hL30
          cases hL30
          exact hrest30 _ _ _ (lv_sub hl [0, 1, 2, 3] rfl) G
        · rw [if_neg c36] at hL30
          refine lv_aload_n hx hb dX9_check_39 rfl (lv_at hl 0 rfl) ?_
          refine mr_callv C hA G (k_oneHour zl D cI ad M30  hI.2.1) (cwV 0 C.2.2.2.2.1 gX9_check_X9_oneHour rfl rfl rfl (by decide +kernel) ⟨Nat.le_of_ble_eq_true rfl, Nat.le_of_ble_eq_true rfl⟩) rfl hl.1 rfl (Nat.le_of_ble_eq_true rfl) dX9_check_40 ⟨Nat.le_refl _, Nat.le_refl _⟩ (fun H locs G => ?_)
          obtain ⟨M40, hM40⟩ : ∃ X : mS, X = mF_oneHour M30 := ⟨_, rfl⟩
          rw [← hM40] at G
          rw [lt_e hM40] at hL30
          have hR40 : rOK M40 := by rw [hM40]; exact oH_R hI.2.1
          refine lv_aload_n hx hb dX9_check_43 rfl (lv_at hl 0 rfl) ?_
          refine mr_calli C hA G (k_grains zl D cI ad M40  hR40.1) (cwV 0 C.2.2.2.2.1 gX9_check_X9_grains rfl rfl rfl (by decide +kernel) ⟨Nat.le_of_ble_eq_true rfl, Nat.le_of_ble_eq_true rfl⟩) rfl hl.1 rfl (Nat.le_of_ble_eq_true rfl) dX9_check_44 ⟨Nat.le_refl _, Nat.le_refl _⟩ (fun H locs G => ?_)
          refine lv_aload_n hx hb dX9_check_47 rfl (lv_at hl 0 rfl) ?_
          refine mr_get C G hin 0 (by decide) rfl (show Cond.fieldLink RX9 7 "WheatCountsModel" "row" "[I" ∈ _ by decide +kernel) (fun _ => rfl) dX9_check_48 ?_
          refine lv_bipush (v := 114) hx hb dX9_check_51 (by decide) ?_
          refine lv_iload_n hx hb dX9_check_53 rfl (lv_at hl 2 rfl) ?_
          refine lv_iadd hx hb dX9_check_54 ?_
          refine mr_ald C G 1 (fun _ => rfl) (114 + ka) (nt_add rfl rfl) (by omega) (Nat.le_of_ble_eq_true rfl) dX9_check_55 ?_
          obtain ⟨y64, hX64⟩ : ∃ (y64 : Int32), y64 = ((if (mF_grains M40) = (M40 1 (114 + ka)) then 1 else 0) : Int32) := ⟨_, rfl⟩
          rw [lt_e hX64] at hL30
          have hj64 : ∀ (H : Heap) (locs : List Loc) (ls : Array Slot), lv_has ls 4 [(0, .ref (ad 0)), (1, .int (nI (vn (M 1 5)))), (2, .int (nI ka)), (3, .int v3_30)] → mG D cI ad zA H0 H locs M40 → W zp zl ze ({ frames := 54, cells := 0, slots := 0, locals := 1211 } : Room) zs zm zg zb zt zc H locs 0 0 zQ (F0 zm 64 ls [.int y64]) := by
            intro H locs ls hl G
            refine lv_istore_n (lv' := [(3, .int y64), (0, .ref (ad 0)), (1, .int (nI (vn (M 1 5)))), (2, .int (nI ka))]) hx hb dX9_check_64 rfl hl (by decide) rfl (fun ls hl => ?_)
            refine lv_iload_n hx hb dX9_check_65 rfl (lv_at hl 3 rfl) ?_
            refine lv_iload_n hx hb dX9_check_66 rfl (lv_at hl 0 rfl) ?_
            refine lv_if_eq (tgt := 74) hx hb dX9_check_67 (by decide) (fun c67 => ?_) (fun c67 => ?_)
            · rw [if_pos c67] at hL30
              refine lv_iconst (v := 0) hx hb dX9_check_74 (by decide) ?_
              refine lv_iadd hx hb dX9_check_75 ?_
              refine lv_topi (fun x76 hx76 => ?_)
              obtain rfl : x76 = nI (ka + 0) := hx76.trans (nt_add rfl rfl)
              refine lv_istore_n (lv' := [(2, .int (nI (ka + 0))), (3, .int y64), (0, .ref (ad 0)), (1, .int (nI (vn (M 1 5))))]) hx hb dX9_check_76 rfl hl (by decide) rfl (fun ls hl => ?_)
              refine lv_goto (tgt := 30) hx hb dX9_check_77 (by decide) ?_
              exact ih (ka + 0) y64 M40 ⟨by omega, hR40, hI.2.2.elim (fun h9 => by first | exact Or.inl ⟨c67, by omega⟩ | exact Or.inr ⟨c67, by omega⟩) (fun h9 => absurd h9.1 c36)⟩ hL30 _ _ _ (lv_sub hl [2, 3, 0, 1] rfl) G
            · rw [if_neg c67] at hL30
              refine lv_iconst (v := 1) hx hb dX9_check_70 (by decide) ?_
              refine lv_goto (tgt := 75) hx hb dX9_check_71 (by decide) ?_
              refine lv_iadd hx hb dX9_check_75 ?_
              refine lv_topi (fun x76 hx76 => ?_)
              obtain rfl : x76 = nI (ka + 1) := hx76.trans (nt_add rfl rfl)
              refine lv_istore_n (lv' := [(2, .int (nI (ka + 1))), (3, .int y64), (0, .ref (ad 0)), (1, .int (nI (vn (M 1 5))))]) hx hb dX9_check_76 rfl hl (by decide) rfl (fun ls hl => ?_)
              refine lv_goto (tgt := 30) hx hb dX9_check_77 (by decide) ?_
              exact ih (ka + 1) y64 M40 ⟨by omega, hR40, hI.2.2.elim (fun h9 => by first | exact Or.inl ⟨c67, by omega⟩ | exact Or.inr ⟨c67, by omega⟩) (fun h9 => absurd h9.1 c36)⟩ hL30 _ _ _ (lv_sub hl [2, 3, 0, 1] rfl) G
          refine lv_icmp_ne (tgt := 63) hx hb dX9_check_56 (by decide) (fun c56 => ?_) (fun c56 => ?_)
          · rw [if_neg c56] at hX64
            refine lv_iconst (v := 0) hx hb dX9_check_63 (by decide) ?_
            subst hX64
            exact hj64 _ _ _ (lv_sub hl [0, 1, 2, 3] rfl) G
          · rw [if_pos c56] at hX64
            refine lv_iconst (v := 1) hx hb dX9_check_59 (by decide) ?_
            refine lv_goto (tgt := 64) hx hb dX9_check_60 (by decide) ?_
            subst hX64
            exact hj64 _ _ _ (lv_sub hl [0, 1, 2, 3] rfl) G
  exact hloop30 _ _ _ _ ⟨by omega, hR23, Or.inl ⟨by decide, by decide⟩⟩ hX30 _ _ _ (lv_sub hl [3, 2, 1, 0] rfl) G
set_option maxRecDepth 100000 in
set_option maxHeartbeats 4000000 in
theorem k_weeds (zl : Launch) (D : va_G) (cI : ClassId) (ad : Nat → Nat) (M : mS) (s : Int32) (hC : cOK M) (hZ : zOK M) : mM zl D cI ad yX9_weeds wsX9_weeds ({ frames := 2, cells := 0, slots := 0, locals := 43 } : Room) [.int s] M (mF_weeds M s) := by
  have hin : ∀ w ∈ wsX90, w ∈ wsX9_weeds := fun w h => List.mem_cons_of_mem _ (List.mem_append_right _ h)
  refine mM_of (cc := cX9_weeds) (nL := 3) (by decide) rfl rfl (Nat.le_of_ble_eq_true rfl) ?_
  intro zp ze zs zm zg zb zt zc zA H0 zQ C hA hret H locs ls hl G
  have hx := C.1
  have hb := C.2.1
  have hl : lv_has ls 3 [(0, .ref (ad 0)), (1, .int s)] := hl
  obtain ⟨rM, hF⟩ : ∃ X : Int32 × mS, X = mF_weeds M s := ⟨_, rfl⟩
  rw [← hF] at hret
  unfold mF_weeds at hF
  have hC1 := hC.1
  have hC2 := hC.2.1
  have hC3 := hC.2.2
  refine lv_iload_n hx hb dX9_weeds_0 rfl (lv_at hl 1 rfl) ?_
  refine mr_calls C hA G (ks_isSheet zl s) (va_cwS 1 C.2.2.2.2.1 gX9_weeds_X9_isSheet rfl rfl rfl (by decide +kernel) ⟨Nat.le_of_ble_eq_true rfl, Nat.le_of_ble_eq_true rfl⟩) rfl hl.1 rfl (Nat.le_of_ble_eq_true rfl) dX9_weeds_1 ⟨Nat.le_refl _, Nat.le_refl _⟩ (fun H locs G => ?_)
  refine lv_if_ne (tgt := 14) hx hb dX9_weeds_4 (by decide) (fun c4 => ?_) (fun c4 => ?_)
  · rw [if_neg c4] at hF
    have hs := sheet_of c4
    have hs2 := hs.2
    refine lv_aload_n hx hb dX9_weeds_14 rfl (lv_at hl 0 rfl) ?_
    refine mr_get C G hin 18 (by decide) rfl (show Cond.fieldLink RX9 35 "WheatCountsModel" "bitsOf" "[I" ∈ _ by decide +kernel) (fun _ => rfl) dX9_weeds_15 ?_
    refine lv_iload_n hx hb dX9_weeds_18 rfl (lv_at hl 1 rfl) ?_
    refine mr_ald C G 8 (fun _ => rfl) (vn s) hs.1 (by omega) (Nat.le_of_ble_eq_true rfl) dX9_weeds_19 ?_
    refine lv_if_ne (tgt := 30) hx hb dX9_weeds_20 (by decide) (fun c20 => ?_) (fun c20 => ?_)
    · rw [if_neg c20] at hF
      refine lv_iconst (v := 0) hx hb dX9_weeds_30 (by decide) ?_
      refine lv_istore_n (lv' := [(2, .int 0), (0, .ref (ad 0)), (1, .int s)]) hx hb dX9_weeds_31 rfl hl (by decide) rfl (fun ls hl => ?_)
      obtain ⟨kax, M32x, hX32⟩ : ∃ (kax : Nat) (M32x : mS), (kax, M32x) = mF_weeds_L32 s fu11 0 M := ⟨_, _, rfl⟩
      rw [lt2_e hX32] at hF
      have hrest32 : ∀ (H : Heap) (locs : List Loc) (ls : Array Slot), lv_has ls 3 [(0, .ref (ad 0)), (1, .int s), (2, .int (nI kax))] → mG D cI ad zA H0 H locs M32x → W zp zl ze ({ frames := 2, cells := 0, slots := 0, locals := 43 } : Room) zs zm zg zb zt zc H locs 0 0 zQ (F0 zm 96 ls []) := by
        intro H locs ls hl G
        refine lv_iload_n hx hb dX9_weeds_96 rfl (lv_at hl 2 rfl) ?_
        exact hret _ _ _ _ _ _ hF G dX9_weeds_97
      have hloop32 : ∀ (f : Nat) (ka : Nat) (M32 : mS), (ka ≤ 10 ∧ 10 < ka + f ∧ cOK M32) → (kax, M32x) = mF_weeds_L32 s f ka M32 → ∀ (H : Heap) (locs : List Loc) (ls : Array Slot), lv_has ls 3 [(0, .ref (ad 0)), (1, .int s), (2, .int (nI ka))] → mG D cI ad zA H0 H locs M32 → W zp zl ze ({ frames := 2, cells := 0, slots := 0, locals := 43 } : Room) zs zm zg zb zt zc H locs 0 0 zQ (F0 zm 32 ls []) := by
        intro f
        induction f with
        | zero =>
          intro ka M32 hI hL32 H locs ls hl G
          exact absurd hI.2.1 (by omega)
        | succ f ih =>
          intro ka M32 hI hL32 H locs ls hl G
          rw [mF_weeds_L32_s] at hL32
          refine lv_iload_n hx hb dX9_weeds_32 rfl (lv_at hl 2 rfl) ?_
          refine lv_aload_n hx hb dX9_weeds_33 rfl (lv_at hl 0 rfl) ?_
          refine mr_get C G hin 19 (by decide) rfl (show Cond.fieldLink RX9 38 "WheatCountsModel" "sizeOf" "[I" ∈ _ by decide +kernel) (fun _ => rfl) dX9_weeds_34 ?_
          refine lv_iload_n hx hb dX9_weeds_37 rfl (lv_at hl 1 rfl) ?_
          refine mr_ald C G 9 (fun _ => rfl) (vn s) hs.1 (by omega) (Nat.le_of_ble_eq_true rfl) dX9_weeds_38 ?_
          refine lv_icmp_ge (tgt := 96) hx hb dX9_weeds_39 (by decide) (fun c39 => ?_) (fun c39 => ?_)
          · rw [if_pos c39] at hL32
            cases hL32
            exact hrest32 _ _ _ (lv_sub hl [0, 1, 2] rfl) G
          · rw [if_neg c39] at hL32
            refine lv_aload_n hx hb dX9_weeds_42 rfl (lv_at hl 0 rfl) ?_
            refine lv_iload_n hx hb dX9_weeds_43 rfl (lv_at hl 2 rfl) ?_
            refine mr_calli C hA G (k_isCell zl D cI ad M32 (nI ka)) (cwV 1 C.2.2.2.2.1 gX9_weeds_X9_isCell rfl rfl rfl (by decide +kernel) ⟨Nat.le_of_ble_eq_true rfl, Nat.le_of_ble_eq_true rfl⟩) rfl hl.1 rfl (Nat.le_of_ble_eq_true rfl) dX9_weeds_44 ⟨Nat.le_refl _, Nat.le_refl _⟩ (fun H locs G => ?_)
            refine lv_if_eq (tgt := 96) hx hb dX9_weeds_47 (by decide) (fun c47 => ?_) (fun c47 => ?_)
            · rw [if_pos c47] at hL32
              cases hL32
              exact hrest32 _ _ _ (lv_sub hl [0, 1, 2] rfl) G
            · rw [if_neg c47] at hL32
              have hc9 := cell_of hI.2.2 c47
              rw [vn_nI (by omega)] at hc9
              have hc8 := hc9.2
              have hc7 := hI.2.2.2.2
              refine lv_aload_n hx hb dX9_weeds_50 rfl (lv_at hl 0 rfl) ?_
              refine mr_get C G hin 20 (by decide) rfl (show Cond.fieldLink RX9 41 "WheatCountsModel" "sheets" "[I" ∈ _ by decide +kernel) (fun _ => rfl) dX9_weeds_51 ?_
              refine lv_bipush (v := 40) hx hb dX9_weeds_54 (by decide) ?_
              refine lv_iload_n hx hb dX9_weeds_56 rfl (lv_at hl 1 rfl) ?_
              refine lv_imul hx hb dX9_weeds_57 ?_
              refine lv_iload_n hx hb dX9_weeds_58 rfl (lv_at hl 2 rfl) ?_
              refine lv_iadd hx hb dX9_weeds_59 ?_
              refine mr_ald C G 10 (fun _ => rfl) ((40 * (vn s)) + ka) (nt_add (nt_mul rfl hs.1) rfl) (by omega) (Nat.le_of_ble_eq_true rfl) dX9_weeds_60 ?_
              refine lv_iconst (v := 0) hx hb dX9_weeds_61 (by decide) ?_
              refine lv_bipush (v := 99) hx hb dX9_weeds_62 (by decide) ?_
              refine mr_calls C hA G (ks_in zl (M32 10 ((40 * (vn s)) + ka)) 0 99) (va_cwS 3 C.2.2.2.2.1 gX9_weeds_X9_in rfl rfl rfl (by decide +kernel) ⟨Nat.le_of_ble_eq_true rfl, Nat.le_of_ble_eq_true rfl⟩) rfl hl.1 rfl (Nat.le_of_ble_eq_true rfl) dX9_weeds_64 ⟨Nat.le_refl _, Nat.le_refl _⟩ (fun H locs G => ?_)
              refine lv_if_eq (tgt := 96) hx hb dX9_weeds_67 (by decide) (fun c67 => ?_) (fun c67 => ?_)
              · rw [if_pos c67] at hL32
                cases hL32
                exact hrest32 _ _ _ (lv_sub hl [0, 1, 2] rfl) G
              · rw [if_neg c67] at hL32
                refine lv_aload_n hx hb dX9_weeds_70 rfl (lv_at hl 0 rfl) ?_
                refine mr_get C G hin 0 (by decide) rfl (show Cond.fieldLink RX9 7 "WheatCountsModel" "row" "[I" ∈ _ by decide +kernel) (fun _ => rfl) dX9_weeds_71 ?_
                refine lv_bipush (v := 22) hx hb dX9_weeds_74 (by decide) ?_
                refine lv_iload_n hx hb dX9_weeds_76 rfl (lv_at hl 2 rfl) ?_
                refine lv_iadd hx hb dX9_weeds_77 ?_
                refine lv_aload_n hx hb dX9_weeds_78 rfl (lv_at hl 0 rfl) ?_
                refine mr_get C G hin 20 (by decide) rfl (show Cond.fieldLink RX9 41 "WheatCountsModel" "sheets" "[I" ∈ _ by decide +kernel) (fun _ => rfl) dX9_weeds_79 ?_
                refine lv_bipush (v := 40) hx hb dX9_weeds_82 (by decide) ?_
                refine lv_iload_n hx hb dX9_weeds_84 rfl (lv_at hl 1 rfl) ?_
                refine lv_imul hx hb dX9_weeds_85 ?_
                refine lv_iload_n hx hb dX9_weeds_86 rfl (lv_at hl 2 rfl) ?_
                refine lv_iadd hx hb dX9_weeds_87 ?_
                refine mr_ald C G 10 (fun _ => rfl) ((40 * (vn s)) + ka) (nt_add (nt_mul rfl hs.1) rfl) (by omega) (Nat.le_of_ble_eq_true rfl) dX9_weeds_88 ?_
                refine mr_ast C G 1 (fun _ => rfl) (22 + ka) (nt_add rfl rfl) (by omega) (Nat.le_of_ble_eq_true rfl) (fun _ => rfl) dX9_weeds_89 (fun H locs G => ?_)
                obtain ⟨M89, hM89⟩ : ∃ X : mS, X = mU M32 1 (22 + ka) (M32 10 ((40 * (vn s)) + ka)) := ⟨_, rfl⟩
                rw [← hM89] at G
                rw [lt_e hM89] at hL32
                refine lv_iinc (v := nI (ka + 1)) (lv' := [(2, .int (nI (ka + 1))), (0, .ref (ad 0)), (1, .int s)]) hx hb dX9_weeds_90 hl (k := 2) rfl (nt_add rfl (show (1 : Int32) = nI 1 from rfl)) (by decide) rfl (fun ls hl => ?_)
                refine lv_goto (tgt := 32) hx hb dX9_weeds_93 (by decide) ?_
                exact ih (ka + 1) M89 ⟨by omega, by omega, by rw [hM89]; unfold cOK; rw [mU_ne (by omega)]; exact hI.2.2⟩ hL32 _ _ _ (lv_sub hl [1, 2, 0] rfl) G
      exact hloop32 _ _ _ ⟨by omega, by decide, hC⟩ hX32 _ _ _ (lv_sub hl [1, 2, 0] rfl) G
    · rw [if_pos c20] at hF
      refine lv_aload_n hx hb dX9_weeds_23 rfl (lv_at hl 0 rfl) ?_
      refine lv_ldc (v := -1000000002) hx hb C.2.2.2.1 (C.2.2.2.2.1 (.constant RX9 204 (-1000000002)) (by decide +kernel)) dX9_weeds_24 ?_
      obtain ⟨x26, M26, hx26⟩ : ∃ (X : Int32) (Y : mS), (X, Y) = mF_errs M (-1000000002) := ⟨_, _, rfl⟩
      refine mr_calli (r0 := x26) (M2 := M26) C hA G (by rw [hx26]; exact (k_errs zl D cI ad M (-1000000002) (by unfold vp_in; decide))) (cwV 1 C.2.2.2.2.1 gX9_weeds_X9_errs rfl rfl rfl (by decide +kernel) ⟨Nat.le_of_ble_eq_true rfl, Nat.le_of_ble_eq_true rfl⟩) rfl hl.1 rfl (Nat.le_of_ble_eq_true rfl) dX9_weeds_26 ⟨Nat.le_refl _, Nat.le_refl _⟩ (fun H locs G => ?_)
      rw [lt2_e hx26] at hF
      exact hret _ _ _ _ _ _ hF G dX9_weeds_29
  · rw [if_pos c4] at hF
    refine lv_aload_n hx hb dX9_weeds_7 rfl (lv_at hl 0 rfl) ?_
    refine lv_ldc (v := -1000000001) hx hb C.2.2.2.1 (C.2.2.2.2.1 (.constant RX9 58 (-1000000001)) (by decide +kernel)) dX9_weeds_8 ?_
    obtain ⟨x10, M10, hx10⟩ : ∃ (X : Int32) (Y : mS), (X, Y) = mF_errs M (-1000000001) := ⟨_, _, rfl⟩
    refine mr_calli (r0 := x10) (M2 := M10) C hA G (by rw [hx10]; exact (k_errs zl D cI ad M (-1000000001) (by unfold vp_in; decide))) (cwV 1 C.2.2.2.2.1 gX9_weeds_X9_errs rfl rfl rfl (by decide +kernel) ⟨Nat.le_of_ble_eq_true rfl, Nat.le_of_ble_eq_true rfl⟩) rfl hl.1 rfl (Nat.le_of_ble_eq_true rfl) dX9_weeds_10 ⟨Nat.le_refl _, Nat.le_refl _⟩ (fun H locs G => ?_)
    rw [lt2_e hx10] at hF
    exact hret _ _ _ _ _ _ hF G dX9_weeds_13
set_option maxRecDepth 100000 in
set_option maxHeartbeats 4000000 in
theorem k_judge (zl : Launch) (D : va_G) (cI : ClassId) (ad : Nat → Nat) (M : mS) (s : Int32) (hC : cOK M) : mM zl D cI ad yX9_judge wsX9_judge ({ frames := 2, cells := 0, slots := 0, locals := 42 } : Room) [.int s] M (mF_judge M s) := by
  have hin : ∀ w ∈ wsX90, w ∈ wsX9_judge := fun w h => List.mem_cons_of_mem _ (List.mem_append_right _ h)
  refine mM_of (cc := cX9_judge) (nL := 3) (by decide) rfl rfl (Nat.le_of_ble_eq_true rfl) ?_
  intro zp ze zs zm zg zb zt zc zA H0 zQ C hA hret H locs ls hl G
  have hx := C.1
  have hb := C.2.1
  have hl : lv_has ls 3 [(0, .ref (ad 0)), (1, .int s)] := hl
  obtain ⟨rM, hF⟩ : ∃ X : Int32 × mS, X = mF_judge M s := ⟨_, rfl⟩
  rw [← hF] at hret
  unfold mF_judge at hF
  have hC1 := hC.1
  have hC2 := hC.2.1
  have hC3 := hC.2.2
  refine lv_iload_n hx hb dX9_judge_0 rfl (lv_at hl 1 rfl) ?_
  refine mr_calls C hA G (ks_isSheet zl s) (va_cwS 1 C.2.2.2.2.1 gX9_judge_X9_isSheet rfl rfl rfl (by decide +kernel) ⟨Nat.le_of_ble_eq_true rfl, Nat.le_of_ble_eq_true rfl⟩) rfl hl.1 rfl (Nat.le_of_ble_eq_true rfl) dX9_judge_1 ⟨Nat.le_refl _, Nat.le_refl _⟩ (fun H locs G => ?_)
  refine lv_if_ne (tgt := 14) hx hb dX9_judge_4 (by decide) (fun c4 => ?_) (fun c4 => ?_)
  · rw [if_neg c4] at hF
    have hs := sheet_of c4
    have hs2 := hs.2
    refine lv_aload_n hx hb dX9_judge_14 rfl (lv_at hl 0 rfl) ?_
    refine mr_get C G hin 18 (by decide) rfl (show Cond.fieldLink RX9 35 "WheatCountsModel" "bitsOf" "[I" ∈ _ by decide +kernel) (fun _ => rfl) dX9_judge_15 ?_
    refine lv_iload_n hx hb dX9_judge_18 rfl (lv_at hl 1 rfl) ?_
    refine mr_ald C G 8 (fun _ => rfl) (vn s) hs.1 (by omega) (Nat.le_of_ble_eq_true rfl) dX9_judge_19 ?_
    refine lv_if_ne (tgt := 30) hx hb dX9_judge_20 (by decide) (fun c20 => ?_) (fun c20 => ?_)
    · rw [if_neg c20] at hF
      refine lv_iconst (v := 0) hx hb dX9_judge_30 (by decide) ?_
      refine lv_istore_n (lv' := [(2, .int 0), (0, .ref (ad 0)), (1, .int s)]) hx hb dX9_judge_31 rfl hl (by decide) rfl (fun ls hl => ?_)
      obtain ⟨kax, hX32⟩ : ∃ (kax : Nat), kax = mF_judge_L32 M s fu11 0 := ⟨_, rfl⟩
      rw [lt_e hX32] at hF
      have hrest32 : ∀ (H : Heap) (locs : List Loc) (ls : Array Slot), lv_has ls 3 [(0, .ref (ad 0)), (1, .int s), (2, .int (nI kax))] → mG D cI ad zA H0 H locs M → W zp zl ze ({ frames := 2, cells := 0, slots := 0, locals := 42 } : Room) zs zm zg zb zt zc H locs 0 0 zQ (F0 zm 81 ls []) := by
        intro H locs ls hl G
        refine lv_iload_n hx hb dX9_judge_81 rfl (lv_at hl 2 rfl) ?_
        refine lv_aload_n hx hb dX9_judge_82 rfl (lv_at hl 0 rfl) ?_
        refine mr_get C G hin 0 (by decide) rfl (show Cond.fieldLink RX9 7 "WheatCountsModel" "row" "[I" ∈ _ by decide +kernel) (fun _ => rfl) dX9_judge_83 ?_
        refine lv_iconst (v := 3) hx hb dX9_judge_86 (by decide) ?_
        refine mr_ald C G 1 (fun _ => rfl) 3 rfl (by omega) (Nat.le_of_ble_eq_true rfl) dX9_judge_87 ?_
        refine lv_icmp_ne (tgt := 105) hx hb dX9_judge_88 (by decide) (fun c88 => ?_) (fun c88 => ?_)
        · rw [if_neg c88] at hF
          refine lv_iload_n hx hb dX9_judge_105 rfl (lv_at hl 2 rfl) ?_
          exact hret _ _ _ _ _ _ hF G dX9_judge_106
        · rw [if_pos c88] at hF
          refine lv_iload_n hx hb dX9_judge_91 rfl (lv_at hl 2 rfl) ?_
          refine lv_aload_n hx hb dX9_judge_92 rfl (lv_at hl 0 rfl) ?_
          refine mr_get C G hin 19 (by decide) rfl (show Cond.fieldLink RX9 38 "WheatCountsModel" "sizeOf" "[I" ∈ _ by decide +kernel) (fun _ => rfl) dX9_judge_93 ?_
          refine lv_iload_n hx hb dX9_judge_96 rfl (lv_at hl 1 rfl) ?_
          refine mr_ald C G 9 (fun _ => rfl) (vn s) hs.1 (by omega) (Nat.le_of_ble_eq_true rfl) dX9_judge_97 ?_
          refine lv_icmp_ne (tgt := 105) hx hb dX9_judge_98 (by decide) (fun c98 => ?_) (fun c98 => ?_)
          · rw [if_neg c98] at hF
            refine lv_iload_n hx hb dX9_judge_105 rfl (lv_at hl 2 rfl) ?_
            exact hret _ _ _ _ _ _ hF G dX9_judge_106
          · rw [if_pos c98] at hF
            refine lv_iconst (v := -1) hx hb dX9_judge_101 (by decide) ?_
            refine lv_goto (tgt := 106) hx hb dX9_judge_102 (by decide) ?_
            exact hret _ _ _ _ _ _ hF G dX9_judge_106
      have hloop32 : ∀ (f : Nat) (ka : Nat), (ka ≤ 10 ∧ 10 < ka + f) → kax = mF_judge_L32 M s f ka → ∀ (H : Heap) (locs : List Loc) (ls : Array Slot), lv_has ls 3 [(0, .ref (ad 0)), (1, .int s), (2, .int (nI ka))] → mG D cI ad zA H0 H locs M → W zp zl ze ({ frames := 2, cells := 0, slots := 0, locals := 42 } : Room) zs zm zg zb zt zc H locs 0 0 zQ (F0 zm 32 ls []) := by
        intro f
        induction f with
        | zero =>
          intro ka hI hL32 H locs ls hl G
          exact absurd hI (by omega)
        | succ f ih =>
          intro ka hI hL32 H locs ls hl G
          rw [mF_judge_L32_s] at hL32
          refine lv_iload_n hx hb dX9_judge_32 rfl (lv_at hl 2 rfl) ?_
          refine lv_aload_n hx hb dX9_judge_33 rfl (lv_at hl 0 rfl) ?_
          refine mr_get C G hin 0 (by decide) rfl (show Cond.fieldLink RX9 7 "WheatCountsModel" "row" "[I" ∈ _ by decide +kernel) (fun _ => rfl) dX9_judge_34 ?_
          refine lv_iconst (v := 3) hx hb dX9_judge_37 (by decide) ?_
          refine mr_ald C G 1 (fun _ => rfl) 3 rfl (by omega) (Nat.le_of_ble_eq_true rfl) dX9_judge_38 ?_
          refine lv_icmp_ge (tgt := 81) hx hb dX9_judge_39 (by decide) (fun c39 => ?_) (fun c39 => ?_)
          · rw [if_pos c39] at hL32
            subst hL32
            exact hrest32 _ _ _ (lv_sub hl [0, 1, 2] rfl) G
          · rw [if_neg c39] at hL32
            have hk1 := lp_lt hC.1 c39 (by omega) (by omega)
            refine lv_iload_n hx hb dX9_judge_42 rfl (lv_at hl 2 rfl) ?_
            refine lv_aload_n hx hb dX9_judge_43 rfl (lv_at hl 0 rfl) ?_
            refine mr_get C G hin 19 (by decide) rfl (show Cond.fieldLink RX9 38 "WheatCountsModel" "sizeOf" "[I" ∈ _ by decide +kernel) (fun _ => rfl) dX9_judge_44 ?_
            refine lv_iload_n hx hb dX9_judge_47 rfl (lv_at hl 1 rfl) ?_
            refine mr_ald C G 9 (fun _ => rfl) (vn s) hs.1 (by omega) (Nat.le_of_ble_eq_true rfl) dX9_judge_48 ?_
            refine lv_icmp_ge (tgt := 81) hx hb dX9_judge_49 (by decide) (fun c49 => ?_) (fun c49 => ?_)
            · rw [if_pos c49] at hL32
              subst hL32
              exact hrest32 _ _ _ (lv_sub hl [0, 1, 2] rfl) G
            · rw [if_neg c49] at hL32
              refine lv_aload_n hx hb dX9_judge_52 rfl (lv_at hl 0 rfl) ?_
              refine mr_get C G hin 20 (by decide) rfl (show Cond.fieldLink RX9 41 "WheatCountsModel" "sheets" "[I" ∈ _ by decide +kernel) (fun _ => rfl) dX9_judge_53 ?_
              refine lv_bipush (v := 40) hx hb dX9_judge_56 (by decide) ?_
              refine lv_iload_n hx hb dX9_judge_58 rfl (lv_at hl 1 rfl) ?_
              refine lv_imul hx hb dX9_judge_59 ?_
              refine lv_iload_n hx hb dX9_judge_60 rfl (lv_at hl 2 rfl) ?_
              refine lv_iadd hx hb dX9_judge_61 ?_
              refine mr_ald C G 10 (fun _ => rfl) ((40 * (vn s)) + ka) (nt_add (nt_mul rfl hs.1) rfl) (by omega) (Nat.le_of_ble_eq_true rfl) dX9_judge_62 ?_
              refine lv_aload_n hx hb dX9_judge_63 rfl (lv_at hl 0 rfl) ?_
              refine mr_get C G hin 0 (by decide) rfl (show Cond.fieldLink RX9 7 "WheatCountsModel" "row" "[I" ∈ _ by decide +kernel) (fun _ => rfl) dX9_judge_64 ?_
              refine lv_bipush (v := 12) hx hb dX9_judge_67 (by decide) ?_
              refine lv_iload_n hx hb dX9_judge_69 rfl (lv_at hl 2 rfl) ?_
              refine lv_iadd hx hb dX9_judge_70 ?_
              refine mr_ald C G 1 (fun _ => rfl) (12 + ka) (nt_add rfl rfl) (by omega) (Nat.le_of_ble_eq_true rfl) dX9_judge_71 ?_
              refine lv_icmp_ne (tgt := 81) hx hb dX9_judge_72 (by decide) (fun c72 => ?_) (fun c72 => ?_)
              · rw [if_neg c72] at hL32
                subst hL32
                exact hrest32 _ _ _ (lv_sub hl [0, 1, 2] rfl) G
              · rw [if_pos c72] at hL32
                refine lv_iinc (v := nI (ka + 1)) (lv' := [(2, .int (nI (ka + 1))), (0, .ref (ad 0)), (1, .int s)]) hx hb dX9_judge_75 hl (k := 2) rfl (nt_add rfl (show (1 : Int32) = nI 1 from rfl)) (by decide) rfl (fun ls hl => ?_)
                refine lv_goto (tgt := 32) hx hb dX9_judge_78 (by decide) ?_
                exact ih (ka + 1) ⟨by omega, by omega⟩ hL32 _ _ _ (lv_sub hl [1, 2, 0] rfl) G
      exact hloop32 _ _ ⟨by omega, by decide⟩ hX32 _ _ _ (lv_sub hl [1, 2, 0] rfl) G
    · rw [if_pos c20] at hF
      refine lv_aload_n hx hb dX9_judge_23 rfl (lv_at hl 0 rfl) ?_
      refine lv_ldc (v := -1000000002) hx hb C.2.2.2.1 (C.2.2.2.2.1 (.constant RX9 204 (-1000000002)) (by decide +kernel)) dX9_judge_24 ?_
      obtain ⟨x26, M26, hx26⟩ : ∃ (X : Int32) (Y : mS), (X, Y) = mF_errs M (-1000000002) := ⟨_, _, rfl⟩
      refine mr_calli (r0 := x26) (M2 := M26) C hA G (by rw [hx26]; exact (k_errs zl D cI ad M (-1000000002) (by unfold vp_in; decide))) (cwV 1 C.2.2.2.2.1 gX9_judge_X9_errs rfl rfl rfl (by decide +kernel) ⟨Nat.le_of_ble_eq_true rfl, Nat.le_of_ble_eq_true rfl⟩) rfl hl.1 rfl (Nat.le_of_ble_eq_true rfl) dX9_judge_26 ⟨Nat.le_refl _, Nat.le_refl _⟩ (fun H locs G => ?_)
      rw [lt2_e hx26] at hF
      exact hret _ _ _ _ _ _ hF G dX9_judge_29
  · rw [if_pos c4] at hF
    refine lv_aload_n hx hb dX9_judge_7 rfl (lv_at hl 0 rfl) ?_
    refine lv_ldc (v := -1000000001) hx hb C.2.2.2.1 (C.2.2.2.2.1 (.constant RX9 58 (-1000000001)) (by decide +kernel)) dX9_judge_8 ?_
    obtain ⟨x10, M10, hx10⟩ : ∃ (X : Int32) (Y : mS), (X, Y) = mF_errs M (-1000000001) := ⟨_, _, rfl⟩
    refine mr_calli (r0 := x10) (M2 := M10) C hA G (by rw [hx10]; exact (k_errs zl D cI ad M (-1000000001) (by unfold vp_in; decide))) (cwV 1 C.2.2.2.2.1 gX9_judge_X9_errs rfl rfl rfl (by decide +kernel) ⟨Nat.le_of_ble_eq_true rfl, Nat.le_of_ble_eq_true rfl⟩) rfl hl.1 rfl (Nat.le_of_ble_eq_true rfl) dX9_judge_10 ⟨Nat.le_refl _, Nat.le_refl _⟩ (fun H locs G => ?_)
    rw [lt2_e hx10] at hF
    exact hret _ _ _ _ _ _ hF G dX9_judge_13
set_option maxRecDepth 100000 in
set_option maxHeartbeats 4000000 in
theorem k_move (zl : Launch) (D : va_G) (cI : ClassId) (ad : Nat → Nat) (M : mS) (s : Int32) (i : Int32) (s2 : Int32) (j : Int32) (n : Int32) (hZ : zOK M) : mM zl D cI ad yX9_move wsX9_move ({ frames := 2, cells := 0, slots := 0, locals := 42 } : Room) [.int s, .int i, .int s2, .int j, .int n] M (mF_move M s i s2 j n) := by
  have hin : ∀ w ∈ wsX90, w ∈ wsX9_move := fun w h => List.mem_cons_of_mem _ (List.mem_append_right _ h)
  refine mM_of (cc := cX9_move) (nL := 7) (by decide) rfl rfl (Nat.le_of_ble_eq_true rfl) ?_
  intro zp ze zs zm zg zb zt zc zA H0 zQ C hA hret H locs ls hl G
  have hx := C.1
  have hb := C.2.1
  have hl : lv_has ls 7 [(0, .ref (ad 0)), (1, .int s), (2, .int i), (3, .int s2), (4, .int j), (5, .int n)] := hl
  obtain ⟨rM, hF⟩ : ∃ X : Int32 × mS, X = mF_move M s i s2 j n := ⟨_, rfl⟩
  rw [← hF] at hret
  unfold mF_move at hF
  refine lv_iload_n hx hb dX9_move_0 rfl (lv_at hl 1 rfl) ?_
  refine mr_calls C hA G (ks_isSheet zl s) (va_cwS 1 C.2.2.2.2.1 gX9_move_X9_isSheet rfl rfl rfl (by decide +kernel) ⟨Nat.le_of_ble_eq_true rfl, Nat.le_of_ble_eq_true rfl⟩) rfl hl.1 rfl (Nat.le_of_ble_eq_true rfl) dX9_move_1 ⟨Nat.le_refl _, Nat.le_refl _⟩ (fun H locs G => ?_)
  refine lv_if_eq (tgt := 14) hx hb dX9_move_4 (by decide) (fun c4 => ?_) (fun c4 => ?_)
  · rw [if_pos c4] at hF
    refine lv_aload_n hx hb dX9_move_14 rfl (lv_at hl 0 rfl) ?_
    refine lv_ldc (v := -1000000001) hx hb C.2.2.2.1 (C.2.2.2.2.1 (.constant RX9 58 (-1000000001)) (by decide +kernel)) dX9_move_15 ?_
    obtain ⟨x17, M17, hx17⟩ : ∃ (X : Int32) (Y : mS), (X, Y) = mF_errs M (-1000000001) := ⟨_, _, rfl⟩
    refine mr_calli (r0 := x17) (M2 := M17) C hA G (by rw [hx17]; exact (k_errs zl D cI ad M (-1000000001) (by unfold vp_in; decide))) (cwV 1 C.2.2.2.2.1 gX9_move_X9_errs rfl rfl rfl (by decide +kernel) ⟨Nat.le_of_ble_eq_true rfl, Nat.le_of_ble_eq_true rfl⟩) rfl hl.1 rfl (Nat.le_of_ble_eq_true rfl) dX9_move_17 ⟨Nat.le_refl _, Nat.le_refl _⟩ (fun H locs G => ?_)
    rw [lt2_e hx17] at hF
    exact hret _ _ _ _ _ _ hF G dX9_move_20
  · rw [if_neg c4] at hF
    have hs := sheet_of c4
    have hs2 := hs.2
    have hz := hZ _ hs2
    refine lv_iload_n hx hb dX9_move_7 rfl (lv_at hl 3 rfl) ?_
    refine mr_calls C hA G (ks_isSheet zl s2) (va_cwS 1 C.2.2.2.2.1 gX9_move_X9_isSheet rfl rfl rfl (by decide +kernel) ⟨Nat.le_of_ble_eq_true rfl, Nat.le_of_ble_eq_true rfl⟩) rfl hl.1 rfl (Nat.le_of_ble_eq_true rfl) dX9_move_8 ⟨Nat.le_refl _, Nat.le_refl _⟩ (fun H locs G => ?_)
    refine lv_if_ne (tgt := 21) hx hb dX9_move_11 (by decide) (fun c11 => ?_) (fun c11 => ?_)
    · rw [if_neg c11] at hF
      have ht := sheet_of c11
      have ht2 := ht.2
      have hzz := hZ _ ht2
      refine lv_aload_n hx hb dX9_move_21 rfl (lv_at hl 0 rfl) ?_
      refine mr_get C G hin 18 (by decide) rfl (show Cond.fieldLink RX9 35 "WheatCountsModel" "bitsOf" "[I" ∈ _ by decide +kernel) (fun _ => rfl) dX9_move_22 ?_
      refine lv_iload_n hx hb dX9_move_25 rfl (lv_at hl 1 rfl) ?_
      refine mr_ald C G 8 (fun _ => rfl) (vn s) hs.1 (by omega) (Nat.le_of_ble_eq_true rfl) dX9_move_26 ?_
      refine lv_if_eq (tgt := 39) hx hb dX9_move_27 (by decide) (fun c27 => ?_) (fun c27 => ?_)
      · rw [if_pos c27] at hF
        refine lv_aload_n hx hb dX9_move_39 rfl (lv_at hl 0 rfl) ?_
        refine lv_ldc (v := -1000000002) hx hb C.2.2.2.1 (C.2.2.2.2.1 (.constant RX9 204 (-1000000002)) (by decide +kernel)) dX9_move_40 ?_
        obtain ⟨x42, M42, hx42⟩ : ∃ (X : Int32) (Y : mS), (X, Y) = mF_errs M (-1000000002) := ⟨_, _, rfl⟩
        refine mr_calli (r0 := x42) (M2 := M42) C hA G (by rw [hx42]; exact (k_errs zl D cI ad M (-1000000002) (by unfold vp_in; decide))) (cwV 1 C.2.2.2.2.1 gX9_move_X9_errs rfl rfl rfl (by decide +kernel) ⟨Nat.le_of_ble_eq_true rfl, Nat.le_of_ble_eq_true rfl⟩) rfl hl.1 rfl (Nat.le_of_ble_eq_true rfl) dX9_move_42 ⟨Nat.le_refl _, Nat.le_refl _⟩ (fun H locs G => ?_)
        rw [lt2_e hx42] at hF
        exact hret _ _ _ _ _ _ hF G dX9_move_45
      · rw [if_neg c27] at hF
        refine lv_aload_n hx hb dX9_move_30 rfl (lv_at hl 0 rfl) ?_
        refine mr_get C G hin 18 (by decide) rfl (show Cond.fieldLink RX9 35 "WheatCountsModel" "bitsOf" "[I" ∈ _ by decide +kernel) (fun _ => rfl) dX9_move_31 ?_
        refine lv_iload_n hx hb dX9_move_34 rfl (lv_at hl 3 rfl) ?_
        refine mr_ald C G 8 (fun _ => rfl) (vn s2) ht.1 (by omega) (Nat.le_of_ble_eq_true rfl) dX9_move_35 ?_
        refine lv_if_ne (tgt := 46) hx hb dX9_move_36 (by decide) (fun c36 => ?_) (fun c36 => ?_)
        · rw [if_neg c36] at hF
          refine lv_aload_n hx hb dX9_move_46 rfl (lv_at hl 0 rfl) ?_
          refine mr_get C G hin 18 (by decide) rfl (show Cond.fieldLink RX9 35 "WheatCountsModel" "bitsOf" "[I" ∈ _ by decide +kernel) (fun _ => rfl) dX9_move_47 ?_
          refine lv_iload_n hx hb dX9_move_50 rfl (lv_at hl 1 rfl) ?_
          refine mr_ald C G 8 (fun _ => rfl) (vn s) hs.1 (by omega) (Nat.le_of_ble_eq_true rfl) dX9_move_51 ?_
          refine lv_aload_n hx hb dX9_move_52 rfl (lv_at hl 0 rfl) ?_
          refine mr_get C G hin 18 (by decide) rfl (show Cond.fieldLink RX9 35 "WheatCountsModel" "bitsOf" "[I" ∈ _ by decide +kernel) (fun _ => rfl) dX9_move_53 ?_
          refine lv_iload_n hx hb dX9_move_56 rfl (lv_at hl 3 rfl) ?_
          refine mr_ald C G 8 (fun _ => rfl) (vn s2) ht.1 (by omega) (Nat.le_of_ble_eq_true rfl) dX9_move_57 ?_
          refine lv_icmp_eq (tgt := 68) hx hb dX9_move_58 (by decide) (fun c58 => ?_) (fun c58 => ?_)
          · rw [if_pos c58] at hF
            refine lv_iload hx hb dX9_move_68 (lv_at hl 5 rfl) ?_
            refine lv_if_lt (tgt := 109) hx hb dX9_move_70 (by decide) (fun c70 => ?_) (fun c70 => ?_)
            · rw [if_pos c70] at hF
              refine lv_aload_n hx hb dX9_move_109 rfl (lv_at hl 0 rfl) ?_
              refine lv_ldc (v := -1000000001) hx hb C.2.2.2.1 (C.2.2.2.2.1 (.constant RX9 58 (-1000000001)) (by decide +kernel)) dX9_move_110 ?_
              obtain ⟨x112, M112, hx112⟩ : ∃ (X : Int32) (Y : mS), (X, Y) = mF_errs M (-1000000001) := ⟨_, _, rfl⟩
              refine mr_calli (r0 := x112) (M2 := M112) C hA G (by rw [hx112]; exact (k_errs zl D cI ad M (-1000000001) (by unfold vp_in; decide))) (cwV 1 C.2.2.2.2.1 gX9_move_X9_errs rfl rfl rfl (by decide +kernel) ⟨Nat.le_of_ble_eq_true rfl, Nat.le_of_ble_eq_true rfl⟩) rfl hl.1 rfl (Nat.le_of_ble_eq_true rfl) dX9_move_112 ⟨Nat.le_refl _, Nat.le_refl _⟩ (fun H locs G => ?_)
              rw [lt2_e hx112] at hF
              exact hret _ _ _ _ _ _ hF G dX9_move_115
            · rw [if_neg c70] at hF
              refine lv_iload_n hx hb dX9_move_73 rfl (lv_at hl 2 rfl) ?_
              refine lv_if_lt (tgt := 109) hx hb dX9_move_74 (by decide) (fun c74 => ?_) (fun c74 => ?_)
              · rw [if_pos c74] at hF
                refine lv_aload_n hx hb dX9_move_109 rfl (lv_at hl 0 rfl) ?_
                refine lv_ldc (v := -1000000001) hx hb C.2.2.2.1 (C.2.2.2.2.1 (.constant RX9 58 (-1000000001)) (by decide +kernel)) dX9_move_110 ?_
                obtain ⟨x112, M112, hx112⟩ : ∃ (X : Int32) (Y : mS), (X, Y) = mF_errs M (-1000000001) := ⟨_, _, rfl⟩
                refine mr_calli (r0 := x112) (M2 := M112) C hA G (by rw [hx112]; exact (k_errs zl D cI ad M (-1000000001) (by unfold vp_in; decide))) (cwV 1 C.2.2.2.2.1 gX9_move_X9_errs rfl rfl rfl (by decide +kernel) ⟨Nat.le_of_ble_eq_true rfl, Nat.le_of_ble_eq_true rfl⟩) rfl hl.1 rfl (Nat.le_of_ble_eq_true rfl) dX9_move_112 ⟨Nat.le_refl _, Nat.le_refl _⟩ (fun H locs G => ?_)
                rw [lt2_e hx112] at hF
                exact hret _ _ _ _ _ _ hF G dX9_move_115
              · rw [if_neg c74] at hF
                refine lv_iload hx hb dX9_move_77 (lv_at hl 4 rfl) ?_
                refine lv_if_lt (tgt := 109) hx hb dX9_move_79 (by decide) (fun c79 => ?_) (fun c79 => ?_)
                · rw [if_pos c79] at hF
                  refine lv_aload_n hx hb dX9_move_109 rfl (lv_at hl 0 rfl) ?_
                  refine lv_ldc (v := -1000000001) hx hb C.2.2.2.1 (C.2.2.2.2.1 (.constant RX9 58 (-1000000001)) (by decide +kernel)) dX9_move_110 ?_
                  obtain ⟨x112, M112, hx112⟩ : ∃ (X : Int32) (Y : mS), (X, Y) = mF_errs M (-1000000001) := ⟨_, _, rfl⟩
                  refine mr_calli (r0 := x112) (M2 := M112) C hA G (by rw [hx112]; exact (k_errs zl D cI ad M (-1000000001) (by unfold vp_in; decide))) (cwV 1 C.2.2.2.2.1 gX9_move_X9_errs rfl rfl rfl (by decide +kernel) ⟨Nat.le_of_ble_eq_true rfl, Nat.le_of_ble_eq_true rfl⟩) rfl hl.1 rfl (Nat.le_of_ble_eq_true rfl) dX9_move_112 ⟨Nat.le_refl _, Nat.le_refl _⟩ (fun H locs G => ?_)
                  rw [lt2_e hx112] at hF
                  exact hret _ _ _ _ _ _ hF G dX9_move_115
                · rw [if_neg c79] at hF
                  refine lv_iload_n hx hb dX9_move_82 rfl (lv_at hl 2 rfl) ?_
                  refine lv_aload_n hx hb dX9_move_83 rfl (lv_at hl 0 rfl) ?_
                  refine mr_get C G hin 19 (by decide) rfl (show Cond.fieldLink RX9 38 "WheatCountsModel" "sizeOf" "[I" ∈ _ by decide +kernel) (fun _ => rfl) dX9_move_84 ?_
                  refine lv_iload_n hx hb dX9_move_87 rfl (lv_at hl 1 rfl) ?_
                  refine mr_ald C G 9 (fun _ => rfl) (vn s) hs.1 (by omega) (Nat.le_of_ble_eq_true rfl) dX9_move_88 ?_
                  refine lv_iload hx hb dX9_move_89 (lv_at hl 5 rfl) ?_
                  refine lv_isub hx hb dX9_move_91 ?_
                  refine lv_icmp_gt (tgt := 109) hx hb dX9_move_92 (by decide) (fun c92 => ?_) (fun c92 => ?_)
                  · rw [if_pos c92] at hF
                    refine lv_aload_n hx hb dX9_move_109 rfl (lv_at hl 0 rfl) ?_
                    refine lv_ldc (v := -1000000001) hx hb C.2.2.2.1 (C.2.2.2.2.1 (.constant RX9 58 (-1000000001)) (by decide +kernel)) dX9_move_110 ?_
                    obtain ⟨x112, M112, hx112⟩ : ∃ (X : Int32) (Y : mS), (X, Y) = mF_errs M (-1000000001) := ⟨_, _, rfl⟩
                    refine mr_calli (r0 := x112) (M2 := M112) C hA G (by rw [hx112]; exact (k_errs zl D cI ad M (-1000000001) (by unfold vp_in; decide))) (cwV 1 C.2.2.2.2.1 gX9_move_X9_errs rfl rfl rfl (by decide +kernel) ⟨Nat.le_of_ble_eq_true rfl, Nat.le_of_ble_eq_true rfl⟩) rfl hl.1 rfl (Nat.le_of_ble_eq_true rfl) dX9_move_112 ⟨Nat.le_refl _, Nat.le_refl _⟩ (fun H locs G => ?_)
                    rw [lt2_e hx112] at hF
                    exact hret _ _ _ _ _ _ hF G dX9_move_115
                  · rw [if_neg c92] at hF
                    have hb1 := mv_b hz.1 hz.2 c70 c74 c92
                    have hb2 := hb1.2.2
                    have hz2 := hz.2
                    refine lv_iload hx hb dX9_move_95 (lv_at hl 4 rfl) ?_
                    refine lv_aload_n hx hb dX9_move_97 rfl (lv_at hl 0 rfl) ?_
                    refine mr_get C G hin 19 (by decide) rfl (show Cond.fieldLink RX9 38 "WheatCountsModel" "sizeOf" "[I" ∈ _ by decide +kernel) (fun _ => rfl) dX9_move_98 ?_
                    refine lv_iload_n hx hb dX9_move_101 rfl (lv_at hl 3 rfl) ?_
                    refine mr_ald C G 9 (fun _ => rfl) (vn s2) ht.1 (by omega) (Nat.le_of_ble_eq_true rfl) dX9_move_102 ?_
                    refine lv_iload hx hb dX9_move_103 (lv_at hl 5 rfl) ?_
                    refine lv_isub hx hb dX9_move_105 ?_
                    refine lv_icmp_le (tgt := 116) hx hb dX9_move_106 (by decide) (fun c106 => ?_) (fun c106 => ?_)
                    · rw [if_pos c106] at hF
                      have hb3 := mv_b hzz.1 hzz.2 c70 c79 (Int32.not_lt.mpr c106)
                      have hb4 := hb3.2.2
                      have hzz2 := hzz.2
                      refine lv_iconst (v := 0) hx hb dX9_move_116 (by decide) ?_
                      refine lv_istore (lv' := [(6, .int 0), (0, .ref (ad 0)), (1, .int s), (2, .int i), (3, .int s2), (4, .int j), (5, .int n)]) hx hb dX9_move_117 hl (by decide) rfl (fun ls hl => ?_)
                      obtain ⟨M119x, hX119⟩ : ∃ (M119x : mS), M119x = mF_move_L119 M s i (vn n) := ⟨_, rfl⟩
                      rw [lt_e hX119] at hF
                      have hrest119 : ∀ (H : Heap) (locs : List Loc) (ls : Array Slot), lv_has ls 7 [(0, .ref (ad 0)), (1, .int s), (2, .int i), (3, .int s2), (4, .int j), (5, .int n), (6, .int (nI (vn n)))] → mG D cI ad zA H0 H locs M119x → W zp zl ze ({ frames := 2, cells := 0, slots := 0, locals := 42 } : Room) zs zm zg zb zt zc H locs 0 0 zQ (F0 zm 153 ls []) := by
                        intro H locs ls hl G
                        refine lv_iconst (v := 0) hx hb dX9_move_153 (by decide) ?_
                        refine lv_istore (lv' := [(6, .int 0), (0, .ref (ad 0)), (1, .int s), (2, .int i), (3, .int s2), (4, .int j), (5, .int n)]) hx hb dX9_move_154 hl (by decide) rfl (fun ls hl => ?_)
                        obtain ⟨M156x, hX156⟩ : ∃ (M156x : mS), M156x = mF_move_L156 s2 j M119x (vn n) := ⟨_, rfl⟩
                        rw [lt_e hX156] at hF
                        have hrest156 : ∀ (H : Heap) (locs : List Loc) (ls : Array Slot), lv_has ls 7 [(0, .ref (ad 0)), (1, .int s), (2, .int i), (3, .int s2), (4, .int j), (5, .int n), (6, .int (nI (vn n)))] → mG D cI ad zA H0 H locs M156x → W zp zl ze ({ frames := 2, cells := 0, slots := 0, locals := 42 } : Room) zs zm zg zb zt zc H locs 0 0 zQ (F0 zm 191 ls []) := by
                          intro H locs ls hl G
                          refine lv_iload hx hb dX9_move_191 (lv_at hl 5 rfl) ?_
                          exact hret _ _ _ _ _ _ hF G dX9_move_193
                        have hloop156 : ∀ (zj k156 : Nat), zj + k156 = vn n → ∀ (M156 : mS), M156 = mF_move_L156 s2 j M119x k156 → ∀ (H : Heap) (locs : List Loc) (ls : Array Slot), lv_has ls 7 [(0, .ref (ad 0)), (1, .int s), (2, .int i), (3, .int s2), (4, .int j), (5, .int n), (6, .int (nI k156))] → mG D cI ad zA H0 H locs M156 → W zp zl ze ({ frames := 2, cells := 0, slots := 0, locals := 42 } : Room) zs zm zg zb zt zc H locs 0 0 zQ (F0 zm 156 ls []) := by
                          intro zj
                          induction zj with
                          | zero =>
                            intro k156 hk M156 hL H locs ls hl G
                            have hk : k156 = vn n := by omega
                            rw [hk] at hL hl
                            refine lv_iload hx hb dX9_move_156 (lv_at hl 6 rfl) ?_
                            refine lv_iload hx hb dX9_move_158 (lv_at hl 5 rfl) ?_
                            refine lv_icmp_ge (tgt := 191) hx hb dX9_move_160 (by decide) (fun c160 => ?_) (fun c160 => absurd (lp_out (n := vn n) hb1.2.1) c160)
                            obtain rfl := hL.trans hX156.symm
                            exact hrest156 _ _ _ (lv_sub hl [0, 1, 2, 3, 4, 5, 6] rfl) G
                          | succ zj ih =>
                            intro k156 hk M156 hL H locs ls hl G
                            have hkn : k156 < vn n := by omega
                            obtain ⟨M156s, hS0⟩ : ∃ (M156s : mS), M156s = mF_move_L156 s2 j M119x (k156 + 1) := ⟨_, rfl⟩
                            have hS := hS0
                            rw [mF_move_L156_s, lt_e hL] at hS
                            refine lv_iload hx hb dX9_move_156 (lv_at hl 6 rfl) ?_
                            refine lv_iload hx hb dX9_move_158 (lv_at hl 5 rfl) ?_
                            refine lv_icmp_ge (tgt := 191) hx hb dX9_move_160 (by decide) (fun c160 => absurd c160 (lp_in (n := vn n) hb1.2.1 hkn (by omega))) (fun c160 => ?_)
                            refine lv_aload_n hx hb dX9_move_163 rfl (lv_at hl 0 rfl) ?_
                            refine mr_get C G hin 20 (by decide) rfl (show Cond.fieldLink RX9 41 "WheatCountsModel" "sheets" "[I" ∈ _ by decide +kernel) (fun _ => rfl) dX9_move_164 ?_
                            refine lv_bipush (v := 40) hx hb dX9_move_167 (by decide) ?_
                            refine lv_iload_n hx hb dX9_move_169 rfl (lv_at hl 3 rfl) ?_
                            refine lv_imul hx hb dX9_move_170 ?_
                            refine lv_iload hx hb dX9_move_171 (lv_at hl 4 rfl) ?_
                            refine lv_iadd hx hb dX9_move_173 ?_
                            refine lv_iload hx hb dX9_move_174 (lv_at hl 6 rfl) ?_
                            refine lv_iadd hx hb dX9_move_176 ?_
                            refine lv_aload_n hx hb dX9_move_177 rfl (lv_at hl 0 rfl) ?_
                            refine mr_get C G hin 21 (by decide) rfl (show Cond.fieldLink RX9 44 "WheatCountsModel" "moved" "[I" ∈ _ by decide +kernel) (fun _ => rfl) dX9_move_178 ?_
                            refine lv_iload hx hb dX9_move_181 (lv_at hl 6 rfl) ?_
                            refine mr_ald C G 11 (fun _ => rfl) k156 rfl (by omega) (Nat.le_of_ble_eq_true rfl) dX9_move_183 ?_
                            refine mr_ast C G 10 (fun _ => rfl) (((40 * (vn s2)) + (vn j)) + k156) (nt_add (nt_add (nt_mul rfl ht.1) hb3.1) rfl) (by omega) (Nat.le_of_ble_eq_true rfl) (fun _ => rfl) dX9_move_184 (fun H locs G => ?_)
                            obtain ⟨M184, hM184⟩ : ∃ X : mS, X = mU M156 10 (((40 * (vn s2)) + (vn j)) + k156) (M156 11 k156) := ⟨_, rfl⟩
                            rw [← hM184] at G
                            rw [lt_e hM184] at hS
                            refine lv_iinc (v := nI (k156 + 1)) (lv' := [(6, .int (nI (k156 + 1))), (0, .ref (ad 0)), (1, .int s), (2, .int i), (3, .int s2), (4, .int j), (5, .int n)]) hx hb dX9_move_185 hl (k := 6) rfl (nt_add rfl (show (1 : Int32) = nI 1 from rfl)) (by decide) rfl (fun ls hl => ?_)
                            refine lv_goto (tgt := 156) hx hb dX9_move_188 (by decide) ?_
                            subst hS
                            exact ih (k156 + 1) (by omega) _ hS0 _ _ _ (lv_sub hl [1, 2, 3, 4, 5, 6, 0] rfl) G
                        exact hloop156 _ 0 (Nat.add_zero _) _ rfl _ _ _ (lv_sub hl [1, 2, 3, 4, 5, 6, 0] rfl) G
                      have hloop119 : ∀ (zj k119 : Nat), zj + k119 = vn n → ∀ (M119 : mS), M119 = mF_move_L119 M s i k119 → ∀ (H : Heap) (locs : List Loc) (ls : Array Slot), lv_has ls 7 [(0, .ref (ad 0)), (1, .int s), (2, .int i), (3, .int s2), (4, .int j), (5, .int n), (6, .int (nI k119))] → mG D cI ad zA H0 H locs M119 → W zp zl ze ({ frames := 2, cells := 0, slots := 0, locals := 42 } : Room) zs zm zg zb zt zc H locs 0 0 zQ (F0 zm 119 ls []) := by
                        intro zj
                        induction zj with
                        | zero =>
                          intro k119 hk M119 hL H locs ls hl G
                          have hk : k119 = vn n := by omega
                          rw [hk] at hL hl
                          refine lv_iload hx hb dX9_move_119 (lv_at hl 6 rfl) ?_
                          refine lv_iload hx hb dX9_move_121 (lv_at hl 5 rfl) ?_
                          refine lv_icmp_ge (tgt := 153) hx hb dX9_move_123 (by decide) (fun c123 => ?_) (fun c123 => absurd (lp_out (n := vn n) hb1.2.1) c123)
                          obtain rfl := hL.trans hX119.symm
                          exact hrest119 _ _ _ (lv_sub hl [0, 1, 2, 3, 4, 5, 6] rfl) G
                        | succ zj ih =>
                          intro k119 hk M119 hL H locs ls hl G
                          have hkn : k119 < vn n := by omega
                          obtain ⟨M119s, hS0⟩ : ∃ (M119s : mS), M119s = mF_move_L119 M s i (k119 + 1) := ⟨_, rfl⟩
                          have hS := hS0
                          rw [mF_move_L119_s, lt_e hL] at hS
                          refine lv_iload hx hb dX9_move_119 (lv_at hl 6 rfl) ?_
                          refine lv_iload hx hb dX9_move_121 (lv_at hl 5 rfl) ?_
                          refine lv_icmp_ge (tgt := 153) hx hb dX9_move_123 (by decide) (fun c123 => absurd c123 (lp_in (n := vn n) hb1.2.1 hkn (by omega))) (fun c123 => ?_)
                          refine lv_aload_n hx hb dX9_move_126 rfl (lv_at hl 0 rfl) ?_
                          refine mr_get C G hin 21 (by decide) rfl (show Cond.fieldLink RX9 44 "WheatCountsModel" "moved" "[I" ∈ _ by decide +kernel) (fun _ => rfl) dX9_move_127 ?_
                          refine lv_iload hx hb dX9_move_130 (lv_at hl 6 rfl) ?_
                          refine lv_aload_n hx hb dX9_move_132 rfl (lv_at hl 0 rfl) ?_
                          refine mr_get C G hin 20 (by decide) rfl (show Cond.fieldLink RX9 41 "WheatCountsModel" "sheets" "[I" ∈ _ by decide +kernel) (fun _ => rfl) dX9_move_133 ?_
                          refine lv_bipush (v := 40) hx hb dX9_move_136 (by decide) ?_
                          refine lv_iload_n hx hb dX9_move_138 rfl (lv_at hl 1 rfl) ?_
                          refine lv_imul hx hb dX9_move_139 ?_
                          refine lv_iload_n hx hb dX9_move_140 rfl (lv_at hl 2 rfl) ?_
                          refine lv_iadd hx hb dX9_move_141 ?_
                          refine lv_iload hx hb dX9_move_142 (lv_at hl 6 rfl) ?_
                          refine lv_iadd hx hb dX9_move_144 ?_
                          refine mr_ald C G 10 (fun _ => rfl) (((40 * (vn s)) + (vn i)) + k119) (nt_add (nt_add (nt_mul rfl hs.1) hb1.1) rfl) (by omega) (Nat.le_of_ble_eq_true rfl) dX9_move_145 ?_
                          refine mr_ast C G 11 (fun _ => rfl) k119 rfl (by omega) (Nat.le_of_ble_eq_true rfl) (fun _ => rfl) dX9_move_146 (fun H locs G => ?_)
                          obtain ⟨M146, hM146⟩ : ∃ X : mS, X = mU M119 11 k119 (M119 10 (((40 * (vn s)) + (vn i)) + k119)) := ⟨_, rfl⟩
                          rw [← hM146] at G
                          rw [lt_e hM146] at hS
                          refine lv_iinc (v := nI (k119 + 1)) (lv' := [(6, .int (nI (k119 + 1))), (0, .ref (ad 0)), (1, .int s), (2, .int i), (3, .int s2), (4, .int j), (5, .int n)]) hx hb dX9_move_147 hl (k := 6) rfl (nt_add rfl (show (1 : Int32) = nI 1 from rfl)) (by decide) rfl (fun ls hl => ?_)
                          refine lv_goto (tgt := 119) hx hb dX9_move_150 (by decide) ?_
                          subst hS
                          exact ih (k119 + 1) (by omega) _ hS0 _ _ _ (lv_sub hl [1, 2, 3, 4, 5, 6, 0] rfl) G
                      exact hloop119 _ 0 (Nat.add_zero _) _ rfl _ _ _ (lv_sub hl [1, 2, 3, 4, 5, 6, 0] rfl) G
                    · rw [if_neg c106] at hF
                      refine lv_aload_n hx hb dX9_move_109 rfl (lv_at hl 0 rfl) ?_
                      refine lv_ldc (v := -1000000001) hx hb C.2.2.2.1 (C.2.2.2.2.1 (.constant RX9 58 (-1000000001)) (by decide +kernel)) dX9_move_110 ?_
                      obtain ⟨x112, M112, hx112⟩ : ∃ (X : Int32) (Y : mS), (X, Y) = mF_errs M (-1000000001) := ⟨_, _, rfl⟩
                      refine mr_calli (r0 := x112) (M2 := M112) C hA G (by rw [hx112]; exact (k_errs zl D cI ad M (-1000000001) (by unfold vp_in; decide))) (cwV 1 C.2.2.2.2.1 gX9_move_X9_errs rfl rfl rfl (by decide +kernel) ⟨Nat.le_of_ble_eq_true rfl, Nat.le_of_ble_eq_true rfl⟩) rfl hl.1 rfl (Nat.le_of_ble_eq_true rfl) dX9_move_112 ⟨Nat.le_refl _, Nat.le_refl _⟩ (fun H locs G => ?_)
                      rw [lt2_e hx112] at hF
                      exact hret _ _ _ _ _ _ hF G dX9_move_115
          · rw [if_neg c58] at hF
            refine lv_aload_n hx hb dX9_move_61 rfl (lv_at hl 0 rfl) ?_
            refine lv_ldc (v := -1000000005) hx hb C.2.2.2.1 (C.2.2.2.2.1 (.constant RX9 109 (-1000000005)) (by decide +kernel)) dX9_move_62 ?_
            obtain ⟨x64, M64, hx64⟩ : ∃ (X : Int32) (Y : mS), (X, Y) = mF_errs M (-1000000005) := ⟨_, _, rfl⟩
            refine mr_calli (r0 := x64) (M2 := M64) C hA G (by rw [hx64]; exact (k_errs zl D cI ad M (-1000000005) (by unfold vp_in; decide))) (cwV 1 C.2.2.2.2.1 gX9_move_X9_errs rfl rfl rfl (by decide +kernel) ⟨Nat.le_of_ble_eq_true rfl, Nat.le_of_ble_eq_true rfl⟩) rfl hl.1 rfl (Nat.le_of_ble_eq_true rfl) dX9_move_64 ⟨Nat.le_refl _, Nat.le_refl _⟩ (fun H locs G => ?_)
            rw [lt2_e hx64] at hF
            exact hret _ _ _ _ _ _ hF G dX9_move_67
        · rw [if_pos c36] at hF
          refine lv_aload_n hx hb dX9_move_39 rfl (lv_at hl 0 rfl) ?_
          refine lv_ldc (v := -1000000002) hx hb C.2.2.2.1 (C.2.2.2.2.1 (.constant RX9 204 (-1000000002)) (by decide +kernel)) dX9_move_40 ?_
          obtain ⟨x42, M42, hx42⟩ : ∃ (X : Int32) (Y : mS), (X, Y) = mF_errs M (-1000000002) := ⟨_, _, rfl⟩
          refine mr_calli (r0 := x42) (M2 := M42) C hA G (by rw [hx42]; exact (k_errs zl D cI ad M (-1000000002) (by unfold vp_in; decide))) (cwV 1 C.2.2.2.2.1 gX9_move_X9_errs rfl rfl rfl (by decide +kernel) ⟨Nat.le_of_ble_eq_true rfl, Nat.le_of_ble_eq_true rfl⟩) rfl hl.1 rfl (Nat.le_of_ble_eq_true rfl) dX9_move_42 ⟨Nat.le_refl _, Nat.le_refl _⟩ (fun H locs G => ?_)
          rw [lt2_e hx42] at hF
          exact hret _ _ _ _ _ _ hF G dX9_move_45
    · rw [if_pos c11] at hF
      refine lv_aload_n hx hb dX9_move_14 rfl (lv_at hl 0 rfl) ?_
      refine lv_ldc (v := -1000000001) hx hb C.2.2.2.1 (C.2.2.2.2.1 (.constant RX9 58 (-1000000001)) (by decide +kernel)) dX9_move_15 ?_
      obtain ⟨x17, M17, hx17⟩ : ∃ (X : Int32) (Y : mS), (X, Y) = mF_errs M (-1000000001) := ⟨_, _, rfl⟩
      refine mr_calli (r0 := x17) (M2 := M17) C hA G (by rw [hx17]; exact (k_errs zl D cI ad M (-1000000001) (by unfold vp_in; decide))) (cwV 1 C.2.2.2.2.1 gX9_move_X9_errs rfl rfl rfl (by decide +kernel) ⟨Nat.le_of_ble_eq_true rfl, Nat.le_of_ble_eq_true rfl⟩) rfl hl.1 rfl (Nat.le_of_ble_eq_true rfl) dX9_move_17 ⟨Nat.le_refl _, Nat.le_refl _⟩ (fun H locs G => ?_)
      rw [lt2_e hx17] at hF
      exact hret _ _ _ _ _ _ hF G dX9_move_20
set_option maxRecDepth 100000 in
set_option maxHeartbeats 4000000 in
theorem k_feed (zl : Launch) (D : va_G) (cI : ClassId) (ad : Nat → Nat) (M : mS) (word : Int64) (n : Int32) (hT : tOK M) : mM zl D cI ad yX9_feed wsX9_feed ({ frames := 1, cells := 0, slots := 0, locals := 22 } : Room) [.long word, .int n] M (mF_feed M word n) := by
  have hin : ∀ w ∈ wsX90, w ∈ wsX9_feed := fun w h => List.mem_cons_of_mem _ (List.mem_append_right _ h)
  refine mM_of (cc := cX9_feed) (nL := 5) (by decide) rfl rfl (Nat.le_of_ble_eq_true rfl) ?_
  intro zp ze zs zm zg zb zt zc zA H0 zQ C hA hret H locs ls hl G
  have hx := C.1
  have hb := C.2.1
  have hl : lv_has ls 5 [(0, .ref (ad 0)), (1, .long word), (3, .int n)] := hl
  obtain ⟨rM, hF⟩ : ∃ X : Int32 × mS, X = mF_feed M word n := ⟨_, rfl⟩
  rw [← hF] at hret
  unfold mF_feed at hF
  have hT2 := hT.2
  refine lv_iload_n hx hb dX9_feed_0 rfl (lv_at hl 2 rfl) ?_
  refine lv_iconst (v := 1) hx hb dX9_feed_1 (by decide) ?_
  refine lv_bipush (v := 8) hx hb dX9_feed_2 (by decide) ?_
  refine mr_calls C hA G (ks_in zl n 1 8) (va_cwS 3 C.2.2.2.2.1 gX9_feed_X9_in rfl rfl rfl (by decide +kernel) ⟨Nat.le_of_ble_eq_true rfl, Nat.le_of_ble_eq_true rfl⟩) rfl hl.1 rfl (Nat.le_of_ble_eq_true rfl) dX9_feed_4 ⟨Nat.le_refl _, Nat.le_refl _⟩ (fun H locs G => ?_)
  refine lv_if_ne (tgt := 17) hx hb dX9_feed_7 (by decide) (fun c7 => ?_) (fun c7 => ?_)
  · rw [if_neg c7] at hF
    have hn := in_pos (m := 8) c7 (by decide) ⟨rfl, by decide⟩
    have hn2 := hn.2
    refine lv_aload_n hx hb dX9_feed_17 rfl (lv_at hl 0 rfl) ?_
    refine mr_get C G hin 0 (by decide) rfl (show Cond.fieldLink RX9 7 "WheatCountsModel" "row" "[I" ∈ _ by decide +kernel) (fun _ => rfl) dX9_feed_18 ?_
    refine lv_iconst (v := 4) hx hb dX9_feed_21 (by decide) ?_
    refine mr_ald C G 1 (fun _ => rfl) 4 rfl (by omega) (Nat.le_of_ble_eq_true rfl) dX9_feed_22 ?_
    refine lv_iload_n hx hb dX9_feed_23 rfl (lv_at hl 2 rfl) ?_
    refine lv_iadd hx hb dX9_feed_24 ?_
    refine lv_bipush (v := 50) hx hb dX9_feed_25 (by decide) ?_
    refine lv_icmp_le (tgt := 37) hx hb dX9_feed_27 (by decide) (fun c27 => ?_) (fun c27 => ?_)
    · rw [if_pos c27] at hF
      have ht5 := fd_b hT.1 hT2 hn.1 hn2 c27
      refine lv_iconst (v := 0) hx hb dX9_feed_37 (by decide) ?_
      refine lv_istore (lv' := [(4, .int 0), (0, .ref (ad 0)), (1, .long word), (3, .int n)]) hx hb dX9_feed_38 hl (by decide) rfl (fun ls hl => ?_)
      obtain ⟨M40x, hX40⟩ : ∃ (M40x : mS), M40x = mF_feed_L40 M word (vn n) := ⟨_, rfl⟩
      rw [lt_e hX40] at hF
      have hrest40 : ∀ (H : Heap) (locs : List Loc) (ls : Array Slot), lv_has ls 5 [(0, .ref (ad 0)), (1, .long word), (3, .int n), (4, .int (nI (vn n)))] → mG D cI ad zA H0 H locs M40x → W zp zl ze ({ frames := 1, cells := 0, slots := 0, locals := 22 } : Room) zs zm zg zb zt zc H locs 0 0 zQ (F0 zm 88 ls []) := by
        intro H locs ls hl G
        refine lv_aload_n hx hb dX9_feed_88 rfl (lv_at hl 0 rfl) ?_
        refine mr_get C G hin 0 (by decide) rfl (show Cond.fieldLink RX9 7 "WheatCountsModel" "row" "[I" ∈ _ by decide +kernel) (fun _ => rfl) dX9_feed_89 ?_
        refine lv_iconst (v := 4) hx hb dX9_feed_92 (by decide) ?_
        refine mr_ald C G 1 (fun _ => rfl) 4 rfl (by omega) (Nat.le_of_ble_eq_true rfl) dX9_feed_93 ?_
        exact hret _ _ _ _ _ _ hF G dX9_feed_94
      have hloop40 : ∀ (zj k40 : Nat), zj + k40 = vn n → ∀ (M40 : mS), M40 = mF_feed_L40 M word k40 → ∀ (H : Heap) (locs : List Loc) (ls : Array Slot), lv_has ls 5 [(0, .ref (ad 0)), (1, .long word), (3, .int n), (4, .int (nI k40))] → mG D cI ad zA H0 H locs M40 → W zp zl ze ({ frames := 1, cells := 0, slots := 0, locals := 22 } : Room) zs zm zg zb zt zc H locs 0 0 zQ (F0 zm 40 ls []) := by
        intro zj
        induction zj with
        | zero =>
          intro k40 hk M40 hL H locs ls hl G
          have hk : k40 = vn n := by omega
          rw [hk] at hL hl
          refine lv_iload hx hb dX9_feed_40 (lv_at hl 3 rfl) ?_
          refine lv_iload_n hx hb dX9_feed_42 rfl (lv_at hl 2 rfl) ?_
          refine lv_icmp_ge (tgt := 88) hx hb dX9_feed_43 (by decide) (fun c43 => ?_) (fun c43 => absurd (lp_out (n := vn n) hn.1) c43)
          obtain rfl := hL.trans hX40.symm
          exact hrest40 _ _ _ (lv_sub hl [0, 1, 2, 3] rfl) G
        | succ zj ih =>
          intro k40 hk M40 hL H locs ls hl G
          have hkn : k40 < vn n := by omega
          obtain ⟨M40s, hS0⟩ : ∃ (M40s : mS), M40s = mF_feed_L40 M word (k40 + 1) := ⟨_, rfl⟩
          have hS := hS0
          rw [mF_feed_L40_s, lt_e hL] at hS
          have hT40 : M40 1 4 = nI (vn (M 1 4) + k40) := by rw [hL]; exact fd_t hT.1 _ _
          refine lv_iload hx hb dX9_feed_40 (lv_at hl 3 rfl) ?_
          refine lv_iload_n hx hb dX9_feed_42 rfl (lv_at hl 2 rfl) ?_
          refine lv_icmp_ge (tgt := 88) hx hb dX9_feed_43 (by decide) (fun c43 => absurd c43 (lp_in (n := vn n) hn.1 hkn (by omega))) (fun c43 => ?_)
          refine lv_aload_n hx hb dX9_feed_46 rfl (lv_at hl 0 rfl) ?_
          refine mr_get C G hin 0 (by decide) rfl (show Cond.fieldLink RX9 7 "WheatCountsModel" "row" "[I" ∈ _ by decide +kernel) (fun _ => rfl) dX9_feed_47 ?_
          refine lv_bipush (v := 64) hx hb dX9_feed_50 (by decide) ?_
          refine lv_aload_n hx hb dX9_feed_52 rfl (lv_at hl 0 rfl) ?_
          refine mr_get C G hin 0 (by decide) rfl (show Cond.fieldLink RX9 7 "WheatCountsModel" "row" "[I" ∈ _ by decide +kernel) (fun _ => rfl) dX9_feed_53 ?_
          refine lv_iconst (v := 4) hx hb dX9_feed_56 (by decide) ?_
          refine mr_ald C G 1 (fun _ => rfl) 4 rfl (by omega) (Nat.le_of_ble_eq_true rfl) dX9_feed_57 ?_
          refine lv_iadd hx hb dX9_feed_58 ?_
          refine lv_lload_n hx hb dX9_feed_59 rfl (lv_at hl 1 rfl) ?_
          refine lv_bipush (v := 8) hx hb dX9_feed_60 (by decide) ?_
          refine lv_iload hx hb dX9_feed_62 (lv_at hl 3 rfl) ?_
          refine lv_imul hx hb dX9_feed_64 ?_
          refine lv_lshr (v := word >>> ((8 * (nI k40)).toInt64 &&& 63)) hx hb dX9_feed_65 rfl ?_
          refine lv_ldc2 (v := 255) hx hb C.2.2.2.1 (C.2.2.2.2.1 (.constantLong RX9 180 (255)) (by decide +kernel)) dX9_feed_66 ?_
          refine lv_land hx hb dX9_feed_69 ?_
          refine lv_l2i (v := ((word >>> ((8 * (nI k40)).toInt64 &&& 63)) &&& 255).toInt32) hx hb dX9_feed_70 rfl ?_
          refine mr_ast C G 1 (fun _ => rfl) (64 + (vn (M 1 4) + k40)) (nt_add rfl hT40) (by omega) (Nat.le_of_ble_eq_true rfl) (fun _ => rfl) dX9_feed_71 (fun H locs G => ?_)
          obtain ⟨M71, hM71⟩ : ∃ X : mS, X = mU M40 1 (64 + (vn (M 1 4) + k40)) (((word >>> ((8 * (nI k40)).toInt64 &&& 63)) &&& 255).toInt32) := ⟨_, rfl⟩
          rw [← hM71] at G
          rw [lt_e hM71] at hS
          refine lv_aload_n hx hb dX9_feed_72 rfl (lv_at hl 0 rfl) ?_
          refine mr_get C G hin 0 (by decide) rfl (show Cond.fieldLink RX9 7 "WheatCountsModel" "row" "[I" ∈ _ by decide +kernel) (fun _ => rfl) dX9_feed_73 ?_
          refine lv_iconst (v := 4) hx hb dX9_feed_76 (by decide) ?_
          refine lv_dup2_11 hx hb dX9_feed_77 rfl rfl ?_
          refine mr_ald C G 1 (fun _ => rfl) 4 rfl (by omega) (Nat.le_of_ble_eq_true rfl) dX9_feed_78 ?_
          refine lv_iconst (v := 1) hx hb dX9_feed_79 (by decide) ?_
          refine lv_iadd hx hb dX9_feed_80 ?_
          refine mr_ast C G 1 (fun _ => rfl) 4 rfl (by omega) (Nat.le_of_ble_eq_true rfl) (fun _ => rfl) dX9_feed_81 (fun H locs G => ?_)
          obtain ⟨M81, hM81⟩ : ∃ X : mS, X = mU M71 1 4 ((M71 1 4) + 1) := ⟨_, rfl⟩
          rw [← hM81] at G
          rw [lt_e hM81] at hS
          refine lv_iinc (v := nI (k40 + 1)) (lv' := [(4, .int (nI (k40 + 1))), (0, .ref (ad 0)), (1, .long word), (3, .int n)]) hx hb dX9_feed_82 hl (k := 3) rfl (nt_add rfl (show (1 : Int32) = nI 1 from rfl)) (by decide) rfl (fun ls hl => ?_)
          refine lv_goto (tgt := 40) hx hb dX9_feed_85 (by decide) ?_
          subst hS
          exact ih (k40 + 1) (by omega) _ hS0 _ _ _ (lv_sub hl [1, 2, 3, 0] rfl) G
      exact hloop40 _ 0 (Nat.add_zero _) _ rfl _ _ _ (lv_sub hl [1, 2, 3, 0] rfl) G
    · rw [if_neg c27] at hF
      refine lv_aload_n hx hb dX9_feed_30 rfl (lv_at hl 0 rfl) ?_
      refine lv_ldc (v := -1000000004) hx hb C.2.2.2.1 (C.2.2.2.2.1 (.constant RX9 89 (-1000000004)) (by decide +kernel)) dX9_feed_31 ?_
      obtain ⟨x33, M33, hx33⟩ : ∃ (X : Int32) (Y : mS), (X, Y) = mF_errs M (-1000000004) := ⟨_, _, rfl⟩
      refine mr_calli (r0 := x33) (M2 := M33) C hA G (by rw [hx33]; exact (k_errs zl D cI ad M (-1000000004) (by unfold vp_in; decide))) (cwV 1 C.2.2.2.2.1 gX9_feed_X9_errs rfl rfl rfl (by decide +kernel) ⟨Nat.le_of_ble_eq_true rfl, Nat.le_of_ble_eq_true rfl⟩) rfl hl.1 rfl (Nat.le_of_ble_eq_true rfl) dX9_feed_33 ⟨Nat.le_refl _, Nat.le_refl _⟩ (fun H locs G => ?_)
      rw [lt2_e hx33] at hF
      exact hret _ _ _ _ _ _ hF G dX9_feed_36
  · rw [if_pos c7] at hF
    refine lv_aload_n hx hb dX9_feed_10 rfl (lv_at hl 0 rfl) ?_
    refine lv_ldc (v := -1000000001) hx hb C.2.2.2.1 (C.2.2.2.2.1 (.constant RX9 58 (-1000000001)) (by decide +kernel)) dX9_feed_11 ?_
    obtain ⟨x13, M13, hx13⟩ : ∃ (X : Int32) (Y : mS), (X, Y) = mF_errs M (-1000000001) := ⟨_, _, rfl⟩
    refine mr_calli (r0 := x13) (M2 := M13) C hA G (by rw [hx13]; exact (k_errs zl D cI ad M (-1000000001) (by unfold vp_in; decide))) (cwV 1 C.2.2.2.2.1 gX9_feed_X9_errs rfl rfl rfl (by decide +kernel) ⟨Nat.le_of_ble_eq_true rfl, Nat.le_of_ble_eq_true rfl⟩) rfl hl.1 rfl (Nat.le_of_ble_eq_true rfl) dX9_feed_13 ⟨Nat.le_refl _, Nat.le_refl _⟩ (fun H locs G => ?_)
    rw [lt2_e hx13] at hF
    exact hret _ _ _ _ _ _ hF G dX9_feed_16

