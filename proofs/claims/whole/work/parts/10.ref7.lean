set_option maxRecDepth 100000 in
set_option maxHeartbeats 4000000 in
theorem k_passes (zl : Launch) (D : va_G) (cI : ClassId) (ad : Nat → Nat) (M : mS) (n : Nat) (hR : rOK M) (hn : n < 2 ^ 31) : mMv zl D cI ad yX9_passes wsX9_passes ({ frames := 54, cells := 0, slots := 0, locals := 1211 } : Room) [.int (nI n)] M (mF_passes M n) := by
  have hin : ∀ w ∈ wsX90, w ∈ wsX9_passes := fun w h => List.mem_cons_of_mem _ (List.mem_append_right _ h)
  refine mMv_of (cc := cX9_passes) (nL := 3) (by decide) rfl rfl (Nat.le_of_ble_eq_true rfl) ?_
  intro zp ze zs zm zg zb zt zc zA H0 zQ C hA hret H locs ls hl G
  have hx := C.1
  have hb := C.2.1
  have hl : lv_has ls 3 [(0, .ref (ad 0)), (1, .int (nI n))] := hl
  obtain ⟨rM, hF⟩ : ∃ X : mS, X = mF_passes M n := ⟨_, rfl⟩
  rw [← hF] at hret
  unfold mF_passes at hF
  refine lv_iconst (v := 0) hx hb dX9_passes_0 (by decide) ?_
  refine lv_istore_n (lv' := [(2, .int 0), (0, .ref (ad 0)), (1, .int (nI n))]) hx hb dX9_passes_1 rfl hl (by decide) rfl (fun ls hl => ?_)
  obtain ⟨M2x, hX2⟩ : ∃ (M2x : mS), M2x = mF_passes_L2 M n := ⟨_, rfl⟩
  rw [lt_e hX2] at hF
  have hrest2 : ∀ (H : Heap) (locs : List Loc) (ls : Array Slot), lv_has ls 3 [(0, .ref (ad 0)), (1, .int (nI n)), (2, .int (nI n))] → mG D cI ad zA H0 H locs M2x → W zp zl ze ({ frames := 54, cells := 0, slots := 0, locals := 1211 } : Room) zs zm zg zb zt zc H locs 0 0 zQ (F0 zm 17 ls []) := by
    intro H locs ls hl G
    exact hret _ _ _ _ _ hF G dX9_passes_17
  have hloop2 : ∀ (j k2 : Nat), j + k2 = n → ∀ (M2 : mS), M2 = mF_passes_L2 M k2 → ∀ (H : Heap) (locs : List Loc) (ls : Array Slot), lv_has ls 3 [(0, .ref (ad 0)), (1, .int (nI n)), (2, .int (nI k2))] → mG D cI ad zA H0 H locs M2 → W zp zl ze ({ frames := 54, cells := 0, slots := 0, locals := 1211 } : Room) zs zm zg zb zt zc H locs 0 0 zQ (F0 zm 2 ls []) := by
    intro j
    induction j with
    | zero =>
      intro k2 hk M2 hL H locs ls hl G
      have hk : k2 = n := by omega
      rw [hk] at hL hl
      refine lv_iload_n hx hb dX9_passes_2 rfl (lv_at hl 2 rfl) ?_
      refine lv_iload_n hx hb dX9_passes_3 rfl (lv_at hl 1 rfl) ?_
      refine lv_icmp_ge (tgt := 17) hx hb dX9_passes_4 (by decide) (fun c4 => ?_) (fun c4 => absurd (lp_out (n := n) rfl) c4)
      obtain rfl := hL.trans hX2.symm
      exact hrest2 _ _ _ (lv_sub hl [0, 1, 2] rfl) G
    | succ j ih =>
      intro k2 hk M2 hL H locs ls hl G
      have hkn : k2 < n := by omega
      obtain ⟨M2s, hS0⟩ : ∃ (M2s : mS), M2s = mF_passes_L2 M (k2 + 1) := ⟨_, rfl⟩
      have hS := hS0
      rw [mF_passes_L2_s, lt_e hL] at hS
      have hR2 : rOK M2 := by rw [hL]; exact pS_R hR _
      refine lv_iload_n hx hb dX9_passes_2 rfl (lv_at hl 2 rfl) ?_
      refine lv_iload_n hx hb dX9_passes_3 rfl (lv_at hl 1 rfl) ?_
      refine lv_icmp_ge (tgt := 17) hx hb dX9_passes_4 (by decide) (fun c4 => absurd c4 (lp_in (n := n) rfl hkn (by omega))) (fun c4 => ?_)
      refine lv_aload_n hx hb dX9_passes_7 rfl (lv_at hl 0 rfl) ?_
      refine mr_callv C hA G (k_oneHour zl D cI ad M2  hR2) (cwV 0 C.2.2.2.2.1 gX9_passes_X9_oneHour rfl rfl rfl (by decide +kernel) ⟨Nat.le_of_ble_eq_true rfl, Nat.le_of_ble_eq_true rfl⟩) rfl hl.1 rfl (Nat.le_of_ble_eq_true rfl) dX9_passes_8 ⟨Nat.le_refl _, Nat.le_refl _⟩ (fun H locs G => ?_)
      obtain ⟨M8, hM8⟩ : ∃ X : mS, X = mF_oneHour M2 := ⟨_, rfl⟩
      rw [← hM8] at G
      rw [lt_e hM8] at hS
      refine lv_iinc (v := nI (k2 + 1)) (lv' := [(2, .int (nI (k2 + 1))), (0, .ref (ad 0)), (1, .int (nI n))]) hx hb dX9_passes_11 hl (k := 2) rfl (nt_add rfl (show (1 : Int32) = nI 1 from rfl)) (by decide) rfl (fun ls hl => ?_)
      refine lv_goto (tgt := 2) hx hb dX9_passes_14 (by decide) ?_
      subst hS
      exact ih (k2 + 1) (by omega) _ hS0 _ _ _ (lv_sub hl [1, 2, 0] rfl) G
  exact hloop2 _ 0 (Nat.add_zero _) _ rfl _ _ _ (lv_sub hl [1, 2, 0] rfl) G
set_option maxRecDepth 100000 in
set_option maxHeartbeats 4000000 in
theorem k_hours (zl : Launch) (D : va_G) (cI : ClassId) (ad : Nat → Nat) (M : mS) (n : Int32) (hR : rOK M) : mM zl D cI ad yX9_hours wsX9_hours ({ frames := 55, cells := 0, slots := 0, locals := 1233 } : Room) [.int n] M (mF_hours M n) := by
  have hin : ∀ w ∈ wsX90, w ∈ wsX9_hours := fun w h => List.mem_cons_of_mem _ (List.mem_append_right _ h)
  refine mM_of (cc := cX9_hours) (nL := 2) (by decide) rfl rfl (Nat.le_of_ble_eq_true rfl) ?_
  intro zp ze zs zm zg zb zt zc zA H0 zQ C hA hret H locs ls hl G
  have hx := C.1
  have hb := C.2.1
  have hl : lv_has ls 2 [(0, .ref (ad 0)), (1, .int n)] := hl
  obtain ⟨rM, hF⟩ : ∃ X : Int32 × mS, X = mF_hours M n := ⟨_, rfl⟩
  rw [← hF] at hret
  unfold mF_hours at hF
  refine lv_iload_n hx hb dX9_hours_0 rfl (lv_at hl 1 rfl) ?_
  refine lv_iconst (v := 1) hx hb dX9_hours_1 (by decide) ?_
  refine lv_bipush (v := 50) hx hb dX9_hours_2 (by decide) ?_
  refine mr_calls C hA G (ks_in zl n 1 50) (va_cwS 3 C.2.2.2.2.1 gX9_hours_X9_in rfl rfl rfl (by decide +kernel) ⟨Nat.le_of_ble_eq_true rfl, Nat.le_of_ble_eq_true rfl⟩) rfl hl.1 rfl (Nat.le_of_ble_eq_true rfl) dX9_hours_4 ⟨Nat.le_refl _, Nat.le_refl _⟩ (fun H locs G => ?_)
  refine lv_if_ne (tgt := 17) hx hb dX9_hours_7 (by decide) (fun c7 => ?_) (fun c7 => ?_)
  · rw [if_neg c7] at hF
    have hn := in_pos (m := 50) c7 (by decide) ⟨rfl, by decide⟩
    have hn2 := hn.2
    refine lv_aload_n hx hb dX9_hours_17 rfl (lv_at hl 0 rfl) ?_
    refine mr_get C G hin 0 (by decide) rfl (show Cond.fieldLink RX9 7 "WheatCountsModel" "row" "[I" ∈ _ by decide +kernel) (fun _ => rfl) dX9_hours_18 ?_
    refine lv_iconst (v := 0) hx hb dX9_hours_21 (by decide) ?_
    refine mr_ald C G 1 (fun _ => rfl) 0 rfl (by omega) (Nat.le_of_ble_eq_true rfl) dX9_hours_22 ?_
    refine lv_iload_n hx hb dX9_hours_23 rfl (lv_at hl 1 rfl) ?_
    refine lv_iadd hx hb dX9_hours_24 ?_
    refine lv_sipush (v := 9999) hx hb dX9_hours_25 (by decide) ?_
    refine lv_icmp_le (tgt := 38) hx hb dX9_hours_28 (by decide) (fun c28 => ?_) (fun c28 => ?_)
    · rw [if_pos c28] at hF
      refine lv_aload_n hx hb dX9_hours_38 rfl (lv_at hl 0 rfl) ?_
      refine lv_iload_n hx hb dX9_hours_39 rfl (lv_at hl 1 rfl) ?_
      refine mr_callv C hA G (k_passes zl D cI ad M (vn n) hR (by omega)) (cwV 1 C.2.2.2.2.1 gX9_hours_X9_passes rfl rfl rfl (by decide +kernel) ⟨Nat.le_of_ble_eq_true rfl, Nat.le_of_ble_eq_true rfl⟩) rfl hl.1 (cons_int hn.1 rfl) (Nat.le_of_ble_eq_true rfl) dX9_hours_40 ⟨Nat.le_refl _, Nat.le_refl _⟩ (fun H locs G => ?_)
      obtain ⟨M40, hM40⟩ : ∃ X : mS, X = mF_passes M (vn n) := ⟨_, rfl⟩
      rw [← hM40] at G
      rw [lt_e hM40] at hF
      refine lv_aload_n hx hb dX9_hours_43 rfl (lv_at hl 0 rfl) ?_
      refine mr_calli C hA G (k_grains zl D cI ad M40  (by rw [hM40]; exact (pS_R hR _).1)) (cwV 0 C.2.2.2.2.1 gX9_hours_X9_grains rfl rfl rfl (by decide +kernel) ⟨Nat.le_of_ble_eq_true rfl, Nat.le_of_ble_eq_true rfl⟩) rfl hl.1 rfl (Nat.le_of_ble_eq_true rfl) dX9_hours_44 ⟨Nat.le_refl _, Nat.le_refl _⟩ (fun H locs G => ?_)
      exact hret _ _ _ _ _ _ hF G dX9_hours_47
    · rw [if_neg c28] at hF
      refine lv_aload_n hx hb dX9_hours_31 rfl (lv_at hl 0 rfl) ?_
      refine lv_ldc (v := -1000000003) hx hb C.2.2.2.1 (C.2.2.2.2.1 (.constant RX9 63 (-1000000003)) (by decide +kernel)) dX9_hours_32 ?_
      obtain ⟨x34, M34, hx34⟩ : ∃ (X : Int32) (Y : mS), (X, Y) = mF_errs M (-1000000003) := ⟨_, _, rfl⟩
      refine mr_calli (r0 := x34) (M2 := M34) C hA G (by rw [hx34]; exact (k_errs zl D cI ad M (-1000000003) (by unfold vp_in; decide))) (cwV 1 C.2.2.2.2.1 gX9_hours_X9_errs rfl rfl rfl (by decide +kernel) ⟨Nat.le_of_ble_eq_true rfl, Nat.le_of_ble_eq_true rfl⟩) rfl hl.1 rfl (Nat.le_of_ble_eq_true rfl) dX9_hours_34 ⟨Nat.le_refl _, Nat.le_refl _⟩ (fun H locs G => ?_)
      rw [lt2_e hx34] at hF
      exact hret _ _ _ _ _ _ hF G dX9_hours_37
  · rw [if_pos c7] at hF
    refine lv_aload_n hx hb dX9_hours_10 rfl (lv_at hl 0 rfl) ?_
    refine lv_ldc (v := -1000000001) hx hb C.2.2.2.1 (C.2.2.2.2.1 (.constant RX9 58 (-1000000001)) (by decide +kernel)) dX9_hours_11 ?_
    obtain ⟨x13, M13, hx13⟩ : ∃ (X : Int32) (Y : mS), (X, Y) = mF_errs M (-1000000001) := ⟨_, _, rfl⟩
    refine mr_calli (r0 := x13) (M2 := M13) C hA G (by rw [hx13]; exact (k_errs zl D cI ad M (-1000000001) (by unfold vp_in; decide))) (cwV 1 C.2.2.2.2.1 gX9_hours_X9_errs rfl rfl rfl (by decide +kernel) ⟨Nat.le_of_ble_eq_true rfl, Nat.le_of_ble_eq_true rfl⟩) rfl hl.1 rfl (Nat.le_of_ble_eq_true rfl) dX9_hours_13 ⟨Nat.le_refl _, Nat.le_refl _⟩ (fun H locs G => ?_)
    rw [lt2_e hx13] at hF
    exact hret _ _ _ _ _ _ hF G dX9_hours_16
set_option maxRecDepth 100000 in
set_option maxHeartbeats 4000000 in
theorem k_drawn (zl : Launch) (D : va_G) (cI : ClassId) (ad : Nat → Nat) (M : mS) (b : Int32) (h : ¬ b = 0) : mM zl D cI ad yX9_drawn wsX9_drawn ({ frames := 0, cells := 0, slots := 0, locals := 0 } : Room) [.int b] M (mF_drawn M b) := by
  have hin : ∀ w ∈ wsX90, w ∈ wsX9_drawn := fun w h => List.mem_cons_of_mem _ (List.mem_append_right _ h)
  refine mM_of (cc := cX9_drawn) (nL := 2) (by decide) rfl rfl (Nat.le_of_ble_eq_true rfl) ?_
  intro zp ze zs zm zg zb zt zc zA H0 zQ C hA hret H locs ls hl G
  have hx := C.1
  have hb := C.2.1
  have hl : lv_has ls 2 [(0, .ref (ad 0)), (1, .int b)] := hl
  obtain ⟨rM, hF⟩ : ∃ X : Int32 × mS, X = mF_drawn M b := ⟨_, rfl⟩
  rw [← hF] at hret
  unfold mF_drawn at hF
  refine lv_aload_n hx hb dX9_drawn_0 rfl (lv_at hl 0 rfl) ?_
  refine mr_get C G hin 0 (by decide) rfl (show Cond.fieldLink RX9 7 "WheatCountsModel" "row" "[I" ∈ _ by decide +kernel) (fun _ => rfl) dX9_drawn_1 ?_
  refine lv_iconst (v := 2) hx hb dX9_drawn_4 (by decide) ?_
  refine lv_aload_n hx hb dX9_drawn_5 rfl (lv_at hl 0 rfl) ?_
  refine mr_get C G hin 0 (by decide) rfl (show Cond.fieldLink RX9 7 "WheatCountsModel" "row" "[I" ∈ _ by decide +kernel) (fun _ => rfl) dX9_drawn_6 ?_
  refine lv_iconst (v := 2) hx hb dX9_drawn_9 (by decide) ?_
  refine mr_ald C G 1 (fun _ => rfl) 2 rfl (by omega) (Nat.le_of_ble_eq_true rfl) dX9_drawn_10 ?_
  refine lv_ldc (v := 1103515245) hx hb C.2.2.2.1 (C.2.2.2.2.1 (.constant RX9 199 (1103515245)) (by decide +kernel)) dX9_drawn_11 ?_
  refine lv_imul hx hb dX9_drawn_13 ?_
  refine lv_sipush (v := 12345) hx hb dX9_drawn_14 (by decide) ?_
  refine lv_iadd hx hb dX9_drawn_17 ?_
  refine mr_ast C G 1 (fun _ => rfl) 2 rfl (by omega) (Nat.le_of_ble_eq_true rfl) (fun _ => rfl) dX9_drawn_18 (fun H locs G => ?_)
  obtain ⟨M18, hM18⟩ : ∃ X : mS, X = mU M 1 2 (((M 1 2) * 1103515245) + 12345) := ⟨_, rfl⟩
  rw [← hM18] at G
  rw [lt_e hM18] at hF
  refine lv_aload_n hx hb dX9_drawn_19 rfl (lv_at hl 0 rfl) ?_
  refine mr_get C G hin 0 (by decide) rfl (show Cond.fieldLink RX9 7 "WheatCountsModel" "row" "[I" ∈ _ by decide +kernel) (fun _ => rfl) dX9_drawn_20 ?_
  refine lv_iconst (v := 2) hx hb dX9_drawn_23 (by decide) ?_
  refine mr_ald C G 1 (fun _ => rfl) 2 rfl (by omega) (Nat.le_of_ble_eq_true rfl) dX9_drawn_24 ?_
  refine lv_bipush (v := 8) hx hb dX9_drawn_25 (by decide) ?_
  refine lv_iushr (v := ((M18 1 2).toUInt32 >>> ((8 : Int32).toUInt32 &&& Int32.toUInt32 31)).toInt32) hx hb dX9_drawn_27 rfl ?_
  refine lv_iload_n hx hb dX9_drawn_28 rfl (lv_at hl 1 rfl) ?_
  refine lv_irem hx hb dX9_drawn_29 h ?_
  exact hret _ _ _ _ _ _ hF G dX9_drawn_30
set_option maxRecDepth 100000 in
set_option maxHeartbeats 4000000 in
theorem k_evening (zl : Launch) (D : va_G) (cI : ClassId) (ad : Nat → Nat) (M : mS) (hC : cOK M) : mM zl D cI ad yX9_evening wsX9_evening ({ frames := 1, cells := 0, slots := 0, locals := 22 } : Room) [] M (mF_evening M) := by
  have hin : ∀ w ∈ wsX90, w ∈ wsX9_evening := fun w h => List.mem_cons_of_mem _ (List.mem_append_right _ h)
  refine mM_of (cc := cX9_evening) (nL := 3) (by decide) rfl rfl (Nat.le_of_ble_eq_true rfl) ?_
  intro zp ze zs zm zg zb zt zc zA H0 zQ C hA hret H locs ls hl G
  have hx := C.1
  have hb := C.2.1
  have hl : lv_has ls 3 [(0, .ref (ad 0))] := hl
  obtain ⟨rM, hF⟩ : ∃ X : Int32 × mS, X = mF_evening M := ⟨_, rfl⟩
  rw [← hF] at hret
  unfold mF_evening at hF
  have hC1 := hC.1
  have hC2 := hC.2.1
  have hC3 := hC.2.2
  refine lv_iconst (v := 0) hx hb dX9_evening_0 (by decide) ?_
  refine lv_istore_n (lv' := [(1, .int 0), (0, .ref (ad 0))]) hx hb dX9_evening_1 rfl hl (by decide) rfl (fun ls hl => ?_)
  obtain ⟨M2x, hX2⟩ : ∃ (M2x : mS), M2x = mF_evening_L2 M (vn (M 1 3) - 1) := ⟨_, rfl⟩
  rw [lt_e hX2] at hF
  have hC2x : cOK M2x := by unfold cOK; rw [hX2, ev_L2 _ _ 3 (by decide)]; exact hC
  have hrest2 : ∀ (H : Heap) (locs : List Loc) (ls : Array Slot), lv_has ls 3 [(0, .ref (ad 0)), (1, .int (nI (vn (M 1 3) - 1)))] → mG D cI ad zA H0 H locs M2x → W zp zl ze ({ frames := 1, cells := 0, slots := 0, locals := 22 } : Room) zs zm zg zb zt zc H locs 0 0 zQ (F0 zm 97 ls []) := by
    intro H locs ls hl G
    refine lv_aload_n hx hb dX9_evening_97 rfl (lv_at hl 0 rfl) ?_
    refine mr_calli C hA G (k_grains zl D cI ad M2x  hC2x) (cwV 0 C.2.2.2.2.1 gX9_evening_X9_grains rfl rfl rfl (by decide +kernel) ⟨Nat.le_of_ble_eq_true rfl, Nat.le_of_ble_eq_true rfl⟩) rfl hl.1 rfl (Nat.le_of_ble_eq_true rfl) dX9_evening_98 ⟨Nat.le_refl _, Nat.le_refl _⟩ (fun H locs G => ?_)
    exact hret _ _ _ _ _ _ hF G dX9_evening_101
  have hloop2 : ∀ (j k2 : Nat), j + k2 = (vn (M 1 3) - 1) → ∀ (M2 : mS), M2 = mF_evening_L2 M k2 → ∀ (H : Heap) (locs : List Loc) (ls : Array Slot), lv_has ls 3 [(0, .ref (ad 0)), (1, .int (nI k2))] → mG D cI ad zA H0 H locs M2 → W zp zl ze ({ frames := 1, cells := 0, slots := 0, locals := 22 } : Room) zs zm zg zb zt zc H locs 0 0 zQ (F0 zm 2 ls []) := by
    intro j
    induction j with
    | zero =>
      intro k2 hk M2 hL H locs ls hl G
      have hk : k2 = (vn (M 1 3) - 1) := by omega
      rw [hk] at hL hl
      have hr2 : M2 1 3 = M 1 3 := by rw [hL]; exact ev_L2 _ _ 3 (by decide)
      refine lv_iload_n hx hb dX9_evening_2 rfl (lv_at hl 1 rfl) ?_
      refine lv_aload_n hx hb dX9_evening_3 rfl (lv_at hl 0 rfl) ?_
      refine mr_get C G hin 0 (by decide) rfl (show Cond.fieldLink RX9 7 "WheatCountsModel" "row" "[I" ∈ _ by decide +kernel) (fun _ => rfl) dX9_evening_4 ?_
      refine lv_iconst (v := 3) hx hb dX9_evening_7 (by decide) ?_
      refine mr_ald C G 1 (fun _ => rfl) 3 rfl (by omega) (Nat.le_of_ble_eq_true rfl) dX9_evening_8 ?_
      refine lv_iconst (v := 1) hx hb dX9_evening_9 (by decide) ?_
      refine lv_isub hx hb dX9_evening_10 ?_
      refine lv_icmp_ge (tgt := 97) hx hb dX9_evening_11 (by decide) (fun c11 => ?_) (fun c11 => absurd (lp_out (n := (vn (M 1 3) - 1)) (by rw [hr2]; exact nt_sub hC.1 (show (1 : Int32) = nI 1 from rfl) (by omega))) c11)
      obtain rfl := hL.trans hX2.symm
      exact hrest2 _ _ _ (lv_sub hl [0, 1] rfl) G
    | succ j ih =>
      intro k2 hk M2 hL H locs ls hl G
      have hkn : k2 < (vn (M 1 3) - 1) := by omega
      obtain ⟨M2s, hS0⟩ : ∃ (M2s : mS), M2s = mF_evening_L2 M (k2 + 1) := ⟨_, rfl⟩
      have hS := hS0
      rw [mF_evening_L2_s, lt_e hL] at hS
      have hr2 : M2 1 3 = M 1 3 := by rw [hL]; exact ev_L2 _ _ 3 (by decide)
      refine lv_iload_n hx hb dX9_evening_2 rfl (lv_at hl 1 rfl) ?_
      refine lv_aload_n hx hb dX9_evening_3 rfl (lv_at hl 0 rfl) ?_
      refine mr_get C G hin 0 (by decide) rfl (show Cond.fieldLink RX9 7 "WheatCountsModel" "row" "[I" ∈ _ by decide +kernel) (fun _ => rfl) dX9_evening_4 ?_
      refine lv_iconst (v := 3) hx hb dX9_evening_7 (by decide) ?_
      refine mr_ald C G 1 (fun _ => rfl) 3 rfl (by omega) (Nat.le_of_ble_eq_true rfl) dX9_evening_8 ?_
      refine lv_iconst (v := 1) hx hb dX9_evening_9 (by decide) ?_
      refine lv_isub hx hb dX9_evening_10 ?_
      refine lv_icmp_ge (tgt := 97) hx hb dX9_evening_11 (by decide) (fun c11 => absurd c11 (lp_in (n := (vn (M 1 3) - 1)) (by rw [hr2]; exact nt_sub hC.1 (show (1 : Int32) = nI 1 from rfl) (by omega)) hkn (by omega))) (fun c11 => ?_)
      refine lv_aload_n hx hb dX9_evening_14 rfl (lv_at hl 0 rfl) ?_
      refine mr_get C G hin 0 (by decide) rfl (show Cond.fieldLink RX9 7 "WheatCountsModel" "row" "[I" ∈ _ by decide +kernel) (fun _ => rfl) dX9_evening_15 ?_
      refine lv_bipush (v := 10) hx hb dX9_evening_18 (by decide) ?_
      refine mr_ald C G 1 (fun _ => rfl) 10 rfl (by omega) (Nat.le_of_ble_eq_true rfl) dX9_evening_20 ?_
      refine lv_iload_n hx hb dX9_evening_21 rfl (lv_at hl 1 rfl) ?_
      refine mr_calls C hA G (ks_has zl (M2 1 10) (nI k2)) (va_cwS 2 C.2.2.2.2.1 gX9_evening_X9_has rfl rfl rfl (by decide +kernel) ⟨Nat.le_of_ble_eq_true rfl, Nat.le_of_ble_eq_true rfl⟩) rfl hl.1 rfl (Nat.le_of_ble_eq_true rfl) dX9_evening_22 ⟨Nat.le_refl _, Nat.le_refl _⟩ (fun H locs G => ?_)
      obtain ⟨M91, hX91⟩ : ∃ (M91 : mS), M91 = ((if (sF_has (M2 1 10) (nI k2)) = 0 then M2 else (lt ((M2 1 (12 + k2)) - (M2 1 (12 + k2)) / 9 * 9) fun (x40 : Int32) => lt (mU M2 1 ((12 + k2) + 1) (sF_held (((M2 1 ((12 + k2) + 1)) + (M2 1 (12 + k2))) - x40) 0 99999)) fun (M80 : mS) => lt (mU M80 1 (12 + k2) x40) fun (M90 : mS) => M90)) : mS) := ⟨_, rfl⟩
      rw [lt_e hX91] at hS
      have hj91 : ∀ (H : Heap) (locs : List Loc) (ls : Array Slot), lv_has ls 3 [(0, .ref (ad 0)), (1, .int (nI k2))] → mG D cI ad zA H0 H locs M91 → W zp zl ze ({ frames := 1, cells := 0, slots := 0, locals := 22 } : Room) zs zm zg zb zt zc H locs 0 0 zQ (F0 zm 91 ls []) := by
        intro H locs ls hl G
        refine lv_iinc (v := nI (k2 + 1)) (lv' := [(1, .int (nI (k2 + 1))), (0, .ref (ad 0))]) hx hb dX9_evening_91 hl (k := 1) rfl (nt_add rfl (show (1 : Int32) = nI 1 from rfl)) (by decide) rfl (fun ls hl => ?_)
        refine lv_goto (tgt := 2) hx hb dX9_evening_94 (by decide) ?_
        subst hS
        exact ih (k2 + 1) (by omega) _ hS0 _ _ _ (lv_sub hl [1, 0] rfl) G
      refine lv_if_eq (tgt := 91) hx hb dX9_evening_25 (by decide) (fun c25 => ?_) (fun c25 => ?_)
      · rw [if_pos c25] at hX91
        subst hX91
        exact hj91 _ _ _ (lv_sub hl [0, 1] rfl) G
      · rw [if_neg c25] at hX91
        refine lv_aload_n hx hb dX9_evening_28 rfl (lv_at hl 0 rfl) ?_
        refine mr_get C G hin 0 (by decide) rfl (show Cond.fieldLink RX9 7 "WheatCountsModel" "row" "[I" ∈ _ by decide +kernel) (fun _ => rfl) dX9_evening_29 ?_
        refine lv_bipush (v := 12) hx hb dX9_evening_32 (by decide) ?_
        refine lv_iload_n hx hb dX9_evening_34 rfl (lv_at hl 1 rfl) ?_
        refine lv_iadd hx hb dX9_evening_35 ?_
        refine mr_ald C G 1 (fun _ => rfl) (12 + k2) (nt_add rfl rfl) (by omega) (Nat.le_of_ble_eq_true rfl) dX9_evening_36 ?_
        refine lv_bipush (v := 9) hx hb dX9_evening_37 (by decide) ?_
        refine lv_irem hx hb dX9_evening_39 (by decide) ?_
        refine lv_topi (fun x40 hx40 => ?_)
        rw [lt_e hx40] at hX91
        refine lv_istore_n (lv' := [(2, .int x40), (0, .ref (ad 0)), (1, .int (nI k2))]) hx hb dX9_evening_40 rfl hl (by decide) rfl (fun ls hl => ?_)
        refine lv_aload_n hx hb dX9_evening_41 rfl (lv_at hl 1 rfl) ?_
        refine mr_get C G hin 0 (by decide) rfl (show Cond.fieldLink RX9 7 "WheatCountsModel" "row" "[I" ∈ _ by decide +kernel) (fun _ => rfl) dX9_evening_42 ?_
        refine lv_bipush (v := 12) hx hb dX9_evening_45 (by decide) ?_
        refine lv_iload_n hx hb dX9_evening_47 rfl (lv_at hl 2 rfl) ?_
        refine lv_iadd hx hb dX9_evening_48 ?_
        refine lv_iconst (v := 1) hx hb dX9_evening_49 (by decide) ?_
        refine lv_iadd hx hb dX9_evening_50 ?_
        refine lv_aload_n hx hb dX9_evening_51 rfl (lv_at hl 1 rfl) ?_
        refine mr_get C G hin 0 (by decide) rfl (show Cond.fieldLink RX9 7 "WheatCountsModel" "row" "[I" ∈ _ by decide +kernel) (fun _ => rfl) dX9_evening_52 ?_
        refine lv_bipush (v := 12) hx hb dX9_evening_55 (by decide) ?_
        refine lv_iload_n hx hb dX9_evening_57 rfl (lv_at hl 2 rfl) ?_
        refine lv_iadd hx hb dX9_evening_58 ?_
        refine lv_iconst (v := 1) hx hb dX9_evening_59 (by decide) ?_
        refine lv_iadd hx hb dX9_evening_60 ?_
        refine mr_ald C G 1 (fun _ => rfl) ((12 + k2) + 1) (nt_add (nt_add rfl rfl) rfl) (by omega) (Nat.le_of_ble_eq_true rfl) dX9_evening_61 ?_
        refine lv_aload_n hx hb dX9_evening_62 rfl (lv_at hl 1 rfl) ?_
        refine mr_get C G hin 0 (by decide) rfl (show Cond.fieldLink RX9 7 "WheatCountsModel" "row" "[I" ∈ _ by decide +kernel) (fun _ => rfl) dX9_evening_63 ?_
        refine lv_bipush (v := 12) hx hb dX9_evening_66 (by decide) ?_
        refine lv_iload_n hx hb dX9_evening_68 rfl (lv_at hl 2 rfl) ?_
        refine lv_iadd hx hb dX9_evening_69 ?_
        refine mr_ald C G 1 (fun _ => rfl) (12 + k2) (nt_add rfl rfl) (by omega) (Nat.le_of_ble_eq_true rfl) dX9_evening_70 ?_
        refine lv_iadd hx hb dX9_evening_71 ?_
        refine lv_iload_n hx hb dX9_evening_72 rfl (lv_at hl 0 rfl) ?_
        refine lv_isub hx hb dX9_evening_73 ?_
        refine lv_iconst (v := 0) hx hb dX9_evening_74 (by decide) ?_
        refine lv_ldc (v := 99999) hx hb C.2.2.2.1 (C.2.2.2.2.1 (.constant RX9 72 (99999)) (by decide +kernel)) dX9_evening_75 ?_
        refine mr_calls C hA G (ks_held zl (((M2 1 ((12 + k2) + 1)) + (M2 1 (12 + k2))) - x40) 0 99999) (va_cwS 3 C.2.2.2.2.1 gX9_evening_X9_held rfl rfl rfl (by decide +kernel) ⟨Nat.le_of_ble_eq_true rfl, Nat.le_of_ble_eq_true rfl⟩) rfl hl.1 rfl (Nat.le_of_ble_eq_true rfl) dX9_evening_77 ⟨Nat.le_refl _, Nat.le_refl _⟩ (fun H locs G => ?_)
        refine mr_ast C G 1 (fun _ => rfl) ((12 + k2) + 1) (nt_add (nt_add rfl rfl) rfl) (by omega) (Nat.le_of_ble_eq_true rfl) (fun _ => rfl) dX9_evening_80 (fun H locs G => ?_)
        obtain ⟨M80, hM80⟩ : ∃ X : mS, X = mU M2 1 ((12 + k2) + 1) (sF_held (((M2 1 ((12 + k2) + 1)) + (M2 1 (12 + k2))) - x40) 0 99999) := ⟨_, rfl⟩
        rw [← hM80] at G
        rw [lt_e hM80] at hX91
        refine lv_aload_n hx hb dX9_evening_81 rfl (lv_at hl 1 rfl) ?_
        refine mr_get C G hin 0 (by decide) rfl (show Cond.fieldLink RX9 7 "WheatCountsModel" "row" "[I" ∈ _ by decide +kernel) (fun _ => rfl) dX9_evening_82 ?_
        refine lv_bipush (v := 12) hx hb dX9_evening_85 (by decide) ?_
        refine lv_iload_n hx hb dX9_evening_87 rfl (lv_at hl 2 rfl) ?_
        refine lv_iadd hx hb dX9_evening_88 ?_
        refine lv_iload_n hx hb dX9_evening_89 rfl (lv_at hl 0 rfl) ?_
        refine mr_ast C G 1 (fun _ => rfl) (12 + k2) (nt_add rfl rfl) (by omega) (Nat.le_of_ble_eq_true rfl) (fun _ => rfl) dX9_evening_90 (fun H locs G => ?_)
        obtain ⟨M90, hM90⟩ : ∃ X : mS, X = mU M80 1 (12 + k2) x40 := ⟨_, rfl⟩
        rw [← hM90] at G
        rw [lt_e hM90] at hX91
        subst hX91
        exact hj91 _ _ _ (lv_sub hl [1, 2] rfl) G
  exact hloop2 _ 0 (Nat.add_zero _) _ rfl _ _ _ (lv_sub hl [1, 0] rfl) G
set_option maxRecDepth 100000 in
set_option maxHeartbeats 4000000 in
theorem k_hail (zl : Launch) (D : va_G) (cI : ClassId) (ad : Nat → Nat) (M : mS) (v : Int32) (hC : cOK M) : mM zl D cI ad yX9_hail wsX9_hail ({ frames := 1, cells := 0, slots := 0, locals := 22 } : Room) [.int v] M (mF_hail M v) := by
  have hin : ∀ w ∈ wsX90, w ∈ wsX9_hail := fun w h => List.mem_cons_of_mem _ (List.mem_append_right _ h)
  refine mM_of (cc := cX9_hail) (nL := 3) (by decide) rfl rfl (Nat.le_of_ble_eq_true rfl) ?_
  intro zp ze zs zm zg zb zt zc zA H0 zQ C hA hret H locs ls hl G
  have hx := C.1
  have hb := C.2.1
  have hl : lv_has ls 3 [(0, .ref (ad 0)), (1, .int v)] := hl
  obtain ⟨rM, hF⟩ : ∃ X : Int32 × mS, X = mF_hail M v := ⟨_, rfl⟩
  rw [← hF] at hret
  unfold mF_hail at hF
  have hC1 := hC.1
  have hC2 := hC.2.1
  have hC3 := hC.2.2
  refine lv_iload_n hx hb dX9_hail_0 rfl (lv_at hl 1 rfl) ?_
  refine lv_iconst (v := 2) hx hb dX9_hail_1 (by decide) ?_
  refine lv_bipush (v := 9) hx hb dX9_hail_2 (by decide) ?_
  refine mr_calls C hA G (ks_in zl v 2 9) (va_cwS 3 C.2.2.2.2.1 gX9_hail_X9_in rfl rfl rfl (by decide +kernel) ⟨Nat.le_of_ble_eq_true rfl, Nat.le_of_ble_eq_true rfl⟩) rfl hl.1 rfl (Nat.le_of_ble_eq_true rfl) dX9_hail_4 ⟨Nat.le_refl _, Nat.le_refl _⟩ (fun H locs G => ?_)
  refine lv_if_ne (tgt := 17) hx hb dX9_hail_7 (by decide) (fun c7 => ?_) (fun c7 => ?_)
  · rw [if_neg c7] at hF
    have hv0 : ¬ v = 0 := fun e9 => (in_of c7).1 (by rw [e9]; decide)
    refine lv_iconst (v := 0) hx hb dX9_hail_17 (by decide) ?_
    refine lv_istore_n (lv' := [(2, .int 0), (0, .ref (ad 0)), (1, .int v)]) hx hb dX9_hail_18 rfl hl (by decide) rfl (fun ls hl => ?_)
    obtain ⟨M19x, hX19⟩ : ∃ (M19x : mS), M19x = mF_hail_L19 M v (vn (M 1 3)) := ⟨_, rfl⟩
    rw [lt_e hX19] at hF
    have hC19x : cOK M19x := by unfold cOK; rw [hX19, ha_L19 _ _ _ 3 (by decide)]; exact hC
    have hrest19 : ∀ (H : Heap) (locs : List Loc) (ls : Array Slot), lv_has ls 3 [(0, .ref (ad 0)), (1, .int v), (2, .int (nI (vn (M 1 3))))] → mG D cI ad zA H0 H locs M19x → W zp zl ze ({ frames := 1, cells := 0, slots := 0, locals := 22 } : Room) zs zm zg zb zt zc H locs 0 0 zQ (F0 zm 48 ls []) := by
      intro H locs ls hl G
      refine lv_aload_n hx hb dX9_hail_48 rfl (lv_at hl 0 rfl) ?_
      refine mr_calli C hA G (k_grains zl D cI ad M19x  hC19x) (cwV 0 C.2.2.2.2.1 gX9_hail_X9_grains rfl rfl rfl (by decide +kernel) ⟨Nat.le_of_ble_eq_true rfl, Nat.le_of_ble_eq_true rfl⟩) rfl hl.1 rfl (Nat.le_of_ble_eq_true rfl) dX9_hail_49 ⟨Nat.le_refl _, Nat.le_refl _⟩ (fun H locs G => ?_)
      exact hret _ _ _ _ _ _ hF G dX9_hail_52
    have hloop19 : ∀ (j k19 : Nat), j + k19 = vn (M 1 3) → ∀ (M19 : mS), M19 = mF_hail_L19 M v k19 → ∀ (H : Heap) (locs : List Loc) (ls : Array Slot), lv_has ls 3 [(0, .ref (ad 0)), (1, .int v), (2, .int (nI k19))] → mG D cI ad zA H0 H locs M19 → W zp zl ze ({ frames := 1, cells := 0, slots := 0, locals := 22 } : Room) zs zm zg zb zt zc H locs 0 0 zQ (F0 zm 19 ls []) := by
      intro j
      induction j with
      | zero =>
        intro k19 hk M19 hL H locs ls hl G
        have hk : k19 = vn (M 1 3) := by omega
        rw [hk] at hL hl
        have hr19 : M19 1 3 = M 1 3 := by rw [hL]; exact ha_L19 _ _ _ 3 (by decide)
        refine lv_iload_n hx hb dX9_hail_19 rfl (lv_at hl 2 rfl) ?_
        refine lv_aload_n hx hb dX9_hail_20 rfl (lv_at hl 0 rfl) ?_
        refine mr_get C G hin 0 (by decide) rfl (show Cond.fieldLink RX9 7 "WheatCountsModel" "row" "[I" ∈ _ by decide +kernel) (fun _ => rfl) dX9_hail_21 ?_
        refine lv_iconst (v := 3) hx hb dX9_hail_24 (by decide) ?_
        refine mr_ald C G 1 (fun _ => rfl) 3 rfl (by omega) (Nat.le_of_ble_eq_true rfl) dX9_hail_25 ?_
        refine lv_icmp_ge (tgt := 48) hx hb dX9_hail_26 (by decide) (fun c26 => ?_) (fun c26 => absurd (lp_out (n := vn (M 1 3)) (by rw [hr19]; exact hC.1)) c26)
        obtain rfl := hL.trans hX19.symm
        exact hrest19 _ _ _ (lv_sub hl [0, 1, 2] rfl) G
      | succ j ih =>
        intro k19 hk M19 hL H locs ls hl G
        have hkn : k19 < vn (M 1 3) := by omega
        obtain ⟨M19s, hS0⟩ : ∃ (M19s : mS), M19s = mF_hail_L19 M v (k19 + 1) := ⟨_, rfl⟩
        have hS := hS0
        rw [mF_hail_L19_s, lt_e hL] at hS
        have hr19 : M19 1 3 = M 1 3 := by rw [hL]; exact ha_L19 _ _ _ 3 (by decide)
        refine lv_iload_n hx hb dX9_hail_19 rfl (lv_at hl 2 rfl) ?_
        refine lv_aload_n hx hb dX9_hail_20 rfl (lv_at hl 0 rfl) ?_
        refine mr_get C G hin 0 (by decide) rfl (show Cond.fieldLink RX9 7 "WheatCountsModel" "row" "[I" ∈ _ by decide +kernel) (fun _ => rfl) dX9_hail_21 ?_
        refine lv_iconst (v := 3) hx hb dX9_hail_24 (by decide) ?_
        refine mr_ald C G 1 (fun _ => rfl) 3 rfl (by omega) (Nat.le_of_ble_eq_true rfl) dX9_hail_25 ?_
        refine lv_icmp_ge (tgt := 48) hx hb dX9_hail_26 (by decide) (fun c26 => absurd c26 (lp_in (n := vn (M 1 3)) (by rw [hr19]; exact hC.1) hkn (by omega))) (fun c26 => ?_)
        refine lv_aload_n hx hb dX9_hail_29 rfl (lv_at hl 0 rfl) ?_
        refine mr_get C G hin 0 (by decide) rfl (show Cond.fieldLink RX9 7 "WheatCountsModel" "row" "[I" ∈ _ by decide +kernel) (fun _ => rfl) dX9_hail_30 ?_
        refine lv_bipush (v := 12) hx hb dX9_hail_33 (by decide) ?_
        refine lv_iload_n hx hb dX9_hail_35 rfl (lv_at hl 2 rfl) ?_
        refine lv_iadd hx hb dX9_hail_36 ?_
        refine lv_dup2_11 hx hb dX9_hail_37 rfl rfl ?_
        refine mr_ald C G 1 (fun _ => rfl) (12 + k19) (nt_add rfl rfl) (by omega) (Nat.le_of_ble_eq_true rfl) dX9_hail_38 ?_
        refine lv_iload_n hx hb dX9_hail_39 rfl (lv_at hl 1 rfl) ?_
        refine lv_idiv hx hb dX9_hail_40 hv0 ?_
        refine mr_ast C G 1 (fun _ => rfl) (12 + k19) (nt_add rfl rfl) (by omega) (Nat.le_of_ble_eq_true rfl) (fun _ => rfl) dX9_hail_41 (fun H locs G => ?_)
        obtain ⟨M41, hM41⟩ : ∃ X : mS, X = mU M19 1 (12 + k19) ((M19 1 (12 + k19)) / v) := ⟨_, rfl⟩
        rw [← hM41] at G
        rw [lt_e hM41] at hS
        refine lv_iinc (v := nI (k19 + 1)) (lv' := [(2, .int (nI (k19 + 1))), (0, .ref (ad 0)), (1, .int v)]) hx hb dX9_hail_42 hl (k := 2) rfl (nt_add rfl (show (1 : Int32) = nI 1 from rfl)) (by decide) rfl (fun ls hl => ?_)
        refine lv_goto (tgt := 19) hx hb dX9_hail_45 (by decide) ?_
        subst hS
        exact ih (k19 + 1) (by omega) _ hS0 _ _ _ (lv_sub hl [1, 2, 0] rfl) G
    exact hloop19 _ 0 (Nat.add_zero _) _ rfl _ _ _ (lv_sub hl [1, 2, 0] rfl) G
  · rw [if_pos c7] at hF
    refine lv_aload_n hx hb dX9_hail_10 rfl (lv_at hl 0 rfl) ?_
    refine lv_ldc (v := -1000000001) hx hb C.2.2.2.1 (C.2.2.2.2.1 (.constant RX9 58 (-1000000001)) (by decide +kernel)) dX9_hail_11 ?_
    obtain ⟨x13, M13, hx13⟩ : ∃ (X : Int32) (Y : mS), (X, Y) = mF_errs M (-1000000001) := ⟨_, _, rfl⟩
    refine mr_calli (r0 := x13) (M2 := M13) C hA G (by rw [hx13]; exact (k_errs zl D cI ad M (-1000000001) (by unfold vp_in; decide))) (cwV 1 C.2.2.2.2.1 gX9_hail_X9_errs rfl rfl rfl (by decide +kernel) ⟨Nat.le_of_ble_eq_true rfl, Nat.le_of_ble_eq_true rfl⟩) rfl hl.1 rfl (Nat.le_of_ble_eq_true rfl) dX9_hail_13 ⟨Nat.le_refl _, Nat.le_refl _⟩ (fun H locs G => ?_)
    rw [lt2_e hx13] at hF
    exact hret _ _ _ _ _ _ hF G dX9_hail_16
set_option maxRecDepth 100000 in
set_option maxHeartbeats 4000000 in
theorem k_then (zl : Launch) (D : va_G) (cI : ClassId) (ad : Nat → Nat) (M : mS) (n : Int32) (what : Int32) (hR : rOK M) : mM zl D cI ad yX9_then wsX9_then ({ frames := 55, cells := 0, slots := 0, locals := 1233 } : Room) [.int n, .int what] M (mF_then M n what) := by
  have hin : ∀ w ∈ wsX90, w ∈ wsX9_then := fun w h => List.mem_cons_of_mem _ (List.mem_append_right _ h)
  refine mM_of (cc := cX9_then) (nL := 4) (by decide) rfl rfl (Nat.le_of_ble_eq_true rfl) ?_
  intro zp ze zs zm zg zb zt zc zA H0 zQ C hA hret H locs ls hl G
  have hx := C.1
  have hb := C.2.1
  have hl : lv_has ls 4 [(0, .ref (ad 0)), (1, .int n), (2, .int what)] := hl
  obtain ⟨rM, hF⟩ : ∃ X : Int32 × mS, X = mF_then M n what := ⟨_, rfl⟩
  rw [← hF] at hret
  unfold mF_then at hF
  have hC := hR.1
  have hP := hR.2.1
  have hK := hR.2.2.1
  have hA9 := hR.2.2.2.1
  have hS := hR.2.2.2.2
  have hC2 := hC.2.1
  have hC3 := hC.2.2
  have hP2 := hP.2
  refine lv_iload_n hx hb dX9_then_0 rfl (lv_at hl 1 rfl) ?_
  refine lv_iconst (v := 0) hx hb dX9_then_1 (by decide) ?_
  refine lv_bipush (v := 50) hx hb dX9_then_2 (by decide) ?_
  refine mr_calls C hA G (ks_in zl n 0 50) (va_cwS 3 C.2.2.2.2.1 gX9_then_X9_in rfl rfl rfl (by decide +kernel) ⟨Nat.le_of_ble_eq_true rfl, Nat.le_of_ble_eq_true rfl⟩) rfl hl.1 rfl (Nat.le_of_ble_eq_true rfl) dX9_then_4 ⟨Nat.le_refl _, Nat.le_refl _⟩ (fun H locs G => ?_)
  refine lv_if_eq (tgt := 26) hx hb dX9_then_7 (by decide) (fun c7 => ?_) (fun c7 => ?_)
  · rw [if_pos c7] at hF
    refine lv_aload_n hx hb dX9_then_26 rfl (lv_at hl 0 rfl) ?_
    refine lv_ldc (v := -1000000001) hx hb C.2.2.2.1 (C.2.2.2.2.1 (.constant RX9 58 (-1000000001)) (by decide +kernel)) dX9_then_27 ?_
    obtain ⟨x29, M29, hx29⟩ : ∃ (X : Int32) (Y : mS), (X, Y) = mF_errs M (-1000000001) := ⟨_, _, rfl⟩
    refine mr_calli (r0 := x29) (M2 := M29) C hA G (by rw [hx29]; exact (k_errs zl D cI ad M (-1000000001) (by unfold vp_in; decide))) (cwV 1 C.2.2.2.2.1 gX9_then_X9_errs rfl rfl rfl (by decide +kernel) ⟨Nat.le_of_ble_eq_true rfl, Nat.le_of_ble_eq_true rfl⟩) rfl hl.1 rfl (Nat.le_of_ble_eq_true rfl) dX9_then_29 ⟨Nat.le_refl _, Nat.le_refl _⟩ (fun H locs G => ?_)
    rw [lt2_e hx29] at hF
    exact hret _ _ _ _ _ _ hF G dX9_then_32
  · rw [if_neg c7] at hF
    have hn := in_pos (m := 50) c7 (by decide) ⟨rfl, by decide⟩
    have hn2 := hn.2
    refine lv_iload_n hx hb dX9_then_10 rfl (lv_at hl 2 rfl) ?_
    refine lv_iconst (v := -1) hx hb dX9_then_11 (by decide) ?_
    refine lv_aload_n hx hb dX9_then_12 rfl (lv_at hl 0 rfl) ?_
    refine mr_get C G hin 0 (by decide) rfl (show Cond.fieldLink RX9 7 "WheatCountsModel" "row" "[I" ∈ _ by decide +kernel) (fun _ => rfl) dX9_then_13 ?_
    refine lv_iconst (v := 3) hx hb dX9_then_16 (by decide) ?_
    refine mr_ald C G 1 (fun _ => rfl) 3 rfl (by omega) (Nat.le_of_ble_eq_true rfl) dX9_then_17 ?_
    refine lv_iconst (v := 1) hx hb dX9_then_18 (by decide) ?_
    refine lv_isub hx hb dX9_then_19 ?_
    refine mr_calls C hA G (ks_in zl what (-1) ((M 1 3) - 1)) (va_cwS 3 C.2.2.2.2.1 gX9_then_X9_in rfl rfl rfl (by decide +kernel) ⟨Nat.le_of_ble_eq_true rfl, Nat.le_of_ble_eq_true rfl⟩) rfl hl.1 rfl (Nat.le_of_ble_eq_true rfl) dX9_then_20 ⟨Nat.le_refl _, Nat.le_refl _⟩ (fun H locs G => ?_)
    refine lv_if_ne (tgt := 33) hx hb dX9_then_23 (by decide) (fun c23 => ?_) (fun c23 => ?_)
    · rw [if_neg c23] at hF
      refine lv_aload_n hx hb dX9_then_33 rfl (lv_at hl 0 rfl) ?_
      refine lv_aload_n hx hb dX9_then_34 rfl (lv_at hl 0 rfl) ?_
      refine mr_get C G hin 0 (by decide) rfl (show Cond.fieldLink RX9 7 "WheatCountsModel" "row" "[I" ∈ _ by decide +kernel) (fun _ => rfl) dX9_then_35 ?_
      refine lv_aload_n hx hb dX9_then_38 rfl (lv_at hl 0 rfl) ?_
      refine mr_get C G hin 2 (by decide) rfl (show Cond.fieldLink RX9 16 "WheatCountsModel" "tried" "[I" ∈ _ by decide +kernel) (fun _ => rfl) dX9_then_39 ?_
      refine mr_callv C hA G (k_moveAll_1_3 zl D cI ad M ) (cwV 2 C.2.2.2.2.1 gX9_then_X9_moveAll rfl rfl rfl (by decide +kernel) ⟨Nat.le_of_ble_eq_true rfl, Nat.le_of_ble_eq_true rfl⟩) rfl hl.1 rfl (Nat.le_of_ble_eq_true rfl) dX9_then_42 ⟨Nat.le_refl _, Nat.le_refl _⟩ (fun H locs G => ?_)
      obtain ⟨M42, hM42⟩ : ∃ X : mS, X = mF_moveAll_1_3 M := ⟨_, rfl⟩
      rw [← hM42] at G
      rw [lt_e hM42] at hF
      have hR42 : rOK M42 := by rw [hM42]; exact rOK_row (mv13_row _ 1 (by decide)) hR
      refine lv_aload_n hx hb dX9_then_45 rfl (lv_at hl 0 rfl) ?_
      refine lv_iload_n hx hb dX9_then_46 rfl (lv_at hl 1 rfl) ?_
      refine mr_callv C hA G (k_passes zl D cI ad M42 (vn n) hR42 (by omega)) (cwV 1 C.2.2.2.2.1 gX9_then_X9_passes rfl rfl rfl (by decide +kernel) ⟨Nat.le_of_ble_eq_true rfl, Nat.le_of_ble_eq_true rfl⟩) rfl hl.1 (cons_int hn.1 rfl) (Nat.le_of_ble_eq_true rfl) dX9_then_47 ⟨Nat.le_refl _, Nat.le_refl _⟩ (fun H locs G => ?_)
      obtain ⟨M47, hM47⟩ : ∃ X : mS, X = mF_passes M42 (vn n) := ⟨_, rfl⟩
      rw [← hM47] at G
      rw [lt_e hM47] at hF
      refine lv_iload_n hx hb dX9_then_50 rfl (lv_at hl 2 rfl) ?_
      obtain ⟨y73, hX73⟩ : ∃ (y73 : Int32), y73 = ((if 0 ≤ what then (M47 1 (12 + (vn what))) else (M47 1 11)) : Int32) := ⟨_, rfl⟩
      rw [lt_e hX73] at hF
      have hj73 : ∀ (H : Heap) (locs : List Loc) (ls : Array Slot), lv_has ls 4 [(0, .ref (ad 0)), (1, .int n), (2, .int what)] → mG D cI ad zA H0 H locs M47 → W zp zl ze ({ frames := 55, cells := 0, slots := 0, locals := 1233 } : Room) zs zm zg zb zt zc H locs 0 0 zQ (F0 zm 73 ls [.int y73]) := by
        intro H locs ls hl G
        refine lv_istore_n (lv' := [(3, .int y73), (0, .ref (ad 0)), (1, .int n), (2, .int what)]) hx hb dX9_then_73 rfl hl (by decide) rfl (fun ls hl => ?_)
        refine lv_aload_n hx hb dX9_then_74 rfl (lv_at hl 1 rfl) ?_
        refine lv_aload_n hx hb dX9_then_75 rfl (lv_at hl 1 rfl) ?_
        refine mr_get C G hin 2 (by decide) rfl (show Cond.fieldLink RX9 16 "WheatCountsModel" "tried" "[I" ∈ _ by decide +kernel) (fun _ => rfl) dX9_then_76 ?_
        refine lv_aload_n hx hb dX9_then_79 rfl (lv_at hl 1 rfl) ?_
        refine mr_get C G hin 0 (by decide) rfl (show Cond.fieldLink RX9 7 "WheatCountsModel" "row" "[I" ∈ _ by decide +kernel) (fun _ => rfl) dX9_then_80 ?_
        refine mr_callv C hA G (k_moveAll_3_1 zl D cI ad M47 ) (cwV 2 C.2.2.2.2.1 gX9_then_X9_moveAll rfl rfl rfl (by decide +kernel) ⟨Nat.le_of_ble_eq_true rfl, Nat.le_of_ble_eq_true rfl⟩) rfl hl.1 rfl (Nat.le_of_ble_eq_true rfl) dX9_then_83 ⟨Nat.le_refl _, Nat.le_refl _⟩ (fun H locs G => ?_)
        obtain ⟨M83, hM83⟩ : ∃ X : mS, X = mF_moveAll_3_1 M47 := ⟨_, rfl⟩
        rw [← hM83] at G
        rw [lt_e hM83] at hF
        refine lv_iload_n hx hb dX9_then_86 rfl (lv_at hl 0 rfl) ?_
        exact hret _ _ _ _ _ _ hF G dX9_then_87
      refine lv_if_ge (tgt := 64) hx hb dX9_then_51 (by decide) (fun c51 => ?_) (fun c51 => ?_)
      · rw [if_pos c51] at hX73
        have hw := then_w hC c23 c51
        have hw2 := hw.2
        refine lv_aload_n hx hb dX9_then_64 rfl (lv_at hl 0 rfl) ?_
        refine mr_get C G hin 0 (by decide) rfl (show Cond.fieldLink RX9 7 "WheatCountsModel" "row" "[I" ∈ _ by decide +kernel) (fun _ => rfl) dX9_then_65 ?_
        refine lv_bipush (v := 12) hx hb dX9_then_68 (by decide) ?_
        refine lv_iload_n hx hb dX9_then_70 rfl (lv_at hl 2 rfl) ?_
        refine lv_iadd hx hb dX9_then_71 ?_
        refine mr_ald C G 1 (fun _ => rfl) (12 + (vn what)) (nt_add rfl hw.1) (by omega) (Nat.le_of_ble_eq_true rfl) dX9_then_72 ?_
        subst hX73
        exact hj73 _ _ _ (lv_sub hl [0, 1, 2] rfl) G
      · rw [if_neg c51] at hX73
        refine lv_aload_n hx hb dX9_then_54 rfl (lv_at hl 0 rfl) ?_
        refine mr_get C G hin 0 (by decide) rfl (show Cond.fieldLink RX9 7 "WheatCountsModel" "row" "[I" ∈ _ by decide +kernel) (fun _ => rfl) dX9_then_55 ?_
        refine lv_bipush (v := 11) hx hb dX9_then_58 (by decide) ?_
        refine mr_ald C G 1 (fun _ => rfl) 11 rfl (by omega) (Nat.le_of_ble_eq_true rfl) dX9_then_60 ?_
        refine lv_goto (tgt := 73) hx hb dX9_then_61 (by decide) ?_
        subst hX73
        exact hj73 _ _ _ (lv_sub hl [0, 1, 2] rfl) G
    · rw [if_pos c23] at hF
      refine lv_aload_n hx hb dX9_then_26 rfl (lv_at hl 0 rfl) ?_
      refine lv_ldc (v := -1000000001) hx hb C.2.2.2.1 (C.2.2.2.2.1 (.constant RX9 58 (-1000000001)) (by decide +kernel)) dX9_then_27 ?_
      obtain ⟨x29, M29, hx29⟩ : ∃ (X : Int32) (Y : mS), (X, Y) = mF_errs M (-1000000001) := ⟨_, _, rfl⟩
      refine mr_calli (r0 := x29) (M2 := M29) C hA G (by rw [hx29]; exact (k_errs zl D cI ad M (-1000000001) (by unfold vp_in; decide))) (cwV 1 C.2.2.2.2.1 gX9_then_X9_errs rfl rfl rfl (by decide +kernel) ⟨Nat.le_of_ble_eq_true rfl, Nat.le_of_ble_eq_true rfl⟩) rfl hl.1 rfl (Nat.le_of_ble_eq_true rfl) dX9_then_29 ⟨Nat.le_refl _, Nat.le_refl _⟩ (fun H locs G => ?_)
      rw [lt2_e hx29] at hF
      exact hret _ _ _ _ _ _ hF G dX9_then_32
set_option maxRecDepth 100000 in
set_option maxHeartbeats 4000000 in
theorem k_full (zl : Launch) (D : va_G) (cI : ClassId) (ad : Nat → Nat) (M : mS) (v : Int32) (hR : rOK M) : mM zl D cI ad yX9_full wsX9_full ({ frames := 54, cells := 0, slots := 0, locals := 1211 } : Room) [.int v] M (mF_full M v) := by
  have hin : ∀ w ∈ wsX90, w ∈ wsX9_full := fun w h => List.mem_cons_of_mem _ (List.mem_append_right _ h)
  refine mM_of (cc := cX9_full) (nL := 3) (by decide) rfl rfl (Nat.le_of_ble_eq_true rfl) ?_
  intro zp ze zs zm zg zb zt zc zA H0 zQ C hA hret H locs ls hl G
  have hx := C.1
  have hb := C.2.1
  have hl : lv_has ls 3 [(0, .ref (ad 0)), (1, .int v)] := hl
  obtain ⟨rM, hF⟩ : ∃ X : Int32 × mS, X = mF_full M v := ⟨_, rfl⟩
  rw [← hF] at hret
  unfold mF_full at hF
  have hC := hR.1
  have hP := hR.2.1
  have hK := hR.2.2.1
  have hA9 := hR.2.2.2.1
  have hS := hR.2.2.2.2
  have hC2 := hC.2.1
  have hC3 := hC.2.2
  have hP2 := hP.2
  refine lv_iload_n hx hb dX9_full_0 rfl (lv_at hl 1 rfl) ?_
  refine lv_iconst (v := 0) hx hb dX9_full_1 (by decide) ?_
  refine lv_ldc (v := 999999) hx hb C.2.2.2.1 (C.2.2.2.2.1 (.constant RX9 203 (999999)) (by decide +kernel)) dX9_full_2 ?_
  refine mr_calls C hA G (ks_in zl v 0 999999) (va_cwS 3 C.2.2.2.2.1 gX9_full_X9_in rfl rfl rfl (by decide +kernel) ⟨Nat.le_of_ble_eq_true rfl, Nat.le_of_ble_eq_true rfl⟩) rfl hl.1 rfl (Nat.le_of_ble_eq_true rfl) dX9_full_4 ⟨Nat.le_refl _, Nat.le_refl _⟩ (fun H locs G => ?_)
  refine lv_if_ne (tgt := 17) hx hb dX9_full_7 (by decide) (fun c7 => ?_) (fun c7 => ?_)
  · rw [if_neg c7] at hF
    refine lv_aload_n hx hb dX9_full_17 rfl (lv_at hl 0 rfl) ?_
    refine lv_aload_n hx hb dX9_full_18 rfl (lv_at hl 0 rfl) ?_
    refine mr_get C G hin 0 (by decide) rfl (show Cond.fieldLink RX9 7 "WheatCountsModel" "row" "[I" ∈ _ by decide +kernel) (fun _ => rfl) dX9_full_19 ?_
    refine lv_aload_n hx hb dX9_full_22 rfl (lv_at hl 0 rfl) ?_
    refine mr_get C G hin 2 (by decide) rfl (show Cond.fieldLink RX9 16 "WheatCountsModel" "tried" "[I" ∈ _ by decide +kernel) (fun _ => rfl) dX9_full_23 ?_
    refine mr_callv C hA G (k_moveAll_1_3 zl D cI ad M ) (cwV 2 C.2.2.2.2.1 gX9_full_X9_moveAll rfl rfl rfl (by decide +kernel) ⟨Nat.le_of_ble_eq_true rfl, Nat.le_of_ble_eq_true rfl⟩) rfl hl.1 rfl (Nat.le_of_ble_eq_true rfl) dX9_full_26 ⟨Nat.le_refl _, Nat.le_refl _⟩ (fun H locs G => ?_)
    obtain ⟨M26, hM26⟩ : ∃ X : mS, X = mF_moveAll_1_3 M := ⟨_, rfl⟩
    rw [← hM26] at G
    rw [lt_e hM26] at hF
    have hR26 : rOK M26 := by rw [hM26]; exact rOK_row (mv13_row _ 1 (by decide)) hR
    refine lv_iconst (v := 0) hx hb dX9_full_29 (by decide) ?_
    refine lv_istore_n (lv' := [(2, .int 0), (0, .ref (ad 0)), (1, .int v)]) hx hb dX9_full_30 rfl hl (by decide) rfl (fun ls hl => ?_)
    obtain ⟨knx, M31x, hX31⟩ : ∃ (knx : Nat) (M31x : mS), (knx, M31x) = mF_full_L31 v fu52 0 M26 := ⟨_, _, rfl⟩
    rw [lt2_e hX31] at hF
    have hrest31 : ∀ (H : Heap) (locs : List Loc) (ls : Array Slot), lv_has ls 3 [(0, .ref (ad 0)), (1, .int v), (2, .int (nI knx))] → mG D cI ad zA H0 H locs M31x → W zp zl ze ({ frames := 54, cells := 0, slots := 0, locals := 1211 } : Room) zs zm zg zb zt zc H locs 0 0 zQ (F0 zm 55 ls []) := by
      intro H locs ls hl G
      refine lv_aload_n hx hb dX9_full_55 rfl (lv_at hl 0 rfl) ?_
      refine lv_aload_n hx hb dX9_full_56 rfl (lv_at hl 0 rfl) ?_
      refine mr_get C G hin 2 (by decide) rfl (show Cond.fieldLink RX9 16 "WheatCountsModel" "tried" "[I" ∈ _ by decide +kernel) (fun _ => rfl) dX9_full_57 ?_
      refine lv_aload_n hx hb dX9_full_60 rfl (lv_at hl 0 rfl) ?_
      refine mr_get C G hin 0 (by decide) rfl (show Cond.fieldLink RX9 7 "WheatCountsModel" "row" "[I" ∈ _ by decide +kernel) (fun _ => rfl) dX9_full_61 ?_
      refine mr_callv C hA G (k_moveAll_3_1 zl D cI ad M31x ) (cwV 2 C.2.2.2.2.1 gX9_full_X9_moveAll rfl rfl rfl (by decide +kernel) ⟨Nat.le_of_ble_eq_true rfl, Nat.le_of_ble_eq_true rfl⟩) rfl hl.1 rfl (Nat.le_of_ble_eq_true rfl) dX9_full_64 ⟨Nat.le_refl _, Nat.le_refl _⟩ (fun H locs G => ?_)
      obtain ⟨M64, hM64⟩ : ∃ X : mS, X = mF_moveAll_3_1 M31x := ⟨_, rfl⟩
      rw [← hM64] at G
      rw [lt_e hM64] at hF
      refine lv_iload_n hx hb dX9_full_67 rfl (lv_at hl 2 rfl) ?_
      refine lv_bipush (v := 50) hx hb dX9_full_68 (by decide) ?_
      refine lv_icmp_le (tgt := 82) hx hb dX9_full_70 (by decide) (fun c70 => ?_) (fun c70 => ?_)
      · rw [if_pos c70] at hF
        refine lv_iload_n hx hb dX9_full_82 rfl (lv_at hl 2 rfl) ?_
        exact hret _ _ _ _ _ _ hF G dX9_full_83
      · rw [if_neg c70] at hF
        refine lv_aload_n hx hb dX9_full_73 rfl (lv_at hl 0 rfl) ?_
        refine lv_ldc (v := -1000000002) hx hb C.2.2.2.1 (C.2.2.2.2.1 (.constant RX9 204 (-1000000002)) (by decide +kernel)) dX9_full_74 ?_
        obtain ⟨x76, M76, hx76⟩ : ∃ (X : Int32) (Y : mS), (X, Y) = mF_errs M64 (-1000000002) := ⟨_, _, rfl⟩
        refine mr_calli (r0 := x76) (M2 := M76) C hA G (by rw [hx76]; exact (k_errs zl D cI ad M64 (-1000000002) (by unfold vp_in; decide))) (cwV 1 C.2.2.2.2.1 gX9_full_X9_errs rfl rfl rfl (by decide +kernel) ⟨Nat.le_of_ble_eq_true rfl, Nat.le_of_ble_eq_true rfl⟩) rfl hl.1 rfl (Nat.le_of_ble_eq_true rfl) dX9_full_76 ⟨Nat.le_refl _, Nat.le_refl _⟩ (fun H locs G => ?_)
        rw [lt2_e hx76] at hF
        refine lv_goto (tgt := 83) hx hb dX9_full_79 (by decide) ?_
        exact hret _ _ _ _ _ _ hF G dX9_full_83
    have hloop31 : ∀ (f : Nat) (kn : Nat) (M31 : mS), (kn ≤ 51 ∧ 51 < kn + f ∧ rOK M31) → (knx, M31x) = mF_full_L31 v f kn M31 → ∀ (H : Heap) (locs : List Loc) (ls : Array Slot), lv_has ls 3 [(0, .ref (ad 0)), (1, .int v), (2, .int (nI kn))] → mG D cI ad zA H0 H locs M31 → W zp zl ze ({ frames := 54, cells := 0, slots := 0, locals := 1211 } : Room) zs zm zg zb zt zc H locs 0 0 zQ (F0 zm 31 ls []) := by
      intro f
      induction f with
      | zero =>
        intro kn M31 hI hL31 H locs ls hl G
        exact absurd hI.2.1 (by omega)
      | succ f ih =>
        intro kn M31 hI hL31 H locs ls hl G
        rw [mF_full_L31_s] at hL31
        refine lv_iload_n hx hb dX9_full_31 rfl (lv_at hl 2 rfl) ?_
        refine lv_bipush (v := 50) hx hb dX9_full_32 (by decide) ?_
        refine lv_icmp_gt (tgt := 55) hx hb dX9_full_34 (by decide) (fun c34 => ?_) (fun c34 => ?_)
        · rw [if_pos c34] at hL31
          cases hL31
          exact hrest31 _ _ _ (lv_sub hl [0, 1, 2] rfl) G
        · rw [if_neg c34] at hL31
          have hk1 := lp_le (n := 50) rfl c34 (by decide) (by omega)
          refine lv_aload_n hx hb dX9_full_37 rfl (lv_at hl 0 rfl) ?_
          refine mr_calli C hA G (k_grains zl D cI ad M31  hI.2.2.1) (cwV 0 C.2.2.2.2.1 gX9_full_X9_grains rfl rfl rfl (by decide +kernel) ⟨Nat.le_of_ble_eq_true rfl, Nat.le_of_ble_eq_true rfl⟩) rfl hl.1 rfl (Nat.le_of_ble_eq_true rfl) dX9_full_38 ⟨Nat.le_refl _, Nat.le_refl _⟩ (fun H locs G => ?_)
          refine lv_iload_n hx hb dX9_full_41 rfl (lv_at hl 1 rfl) ?_
          refine lv_icmp_ge (tgt := 55) hx hb dX9_full_42 (by decide) (fun c42 => ?_) (fun c42 => ?_)
          · rw [if_pos c42] at hL31
            cases hL31
            exact hrest31 _ _ _ (lv_sub hl [0, 1, 2] rfl) G
          · rw [if_neg c42] at hL31
            refine lv_aload_n hx hb dX9_full_45 rfl (lv_at hl 0 rfl) ?_
            refine mr_callv C hA G (k_oneHour zl D cI ad M31  hI.2.2) (cwV 0 C.2.2.2.2.1 gX9_full_X9_oneHour rfl rfl rfl (by decide +kernel) ⟨Nat.le_of_ble_eq_true rfl, Nat.le_of_ble_eq_true rfl⟩) rfl hl.1 rfl (Nat.le_of_ble_eq_true rfl) dX9_full_46 ⟨Nat.le_refl _, Nat.le_refl _⟩ (fun H locs G => ?_)
            obtain ⟨M46, hM46⟩ : ∃ X : mS, X = mF_oneHour M31 := ⟨_, rfl⟩
            rw [← hM46] at G
            rw [lt_e hM46] at hL31
            refine lv_iinc (v := nI (kn + 1)) (lv' := [(2, .int (nI (kn + 1))), (0, .ref (ad 0)), (1, .int v)]) hx hb dX9_full_49 hl (k := 2) rfl (nt_add rfl (show (1 : Int32) = nI 1 from rfl)) (by decide) rfl (fun ls hl => ?_)
            refine lv_goto (tgt := 31) hx hb dX9_full_52 (by decide) ?_
            exact ih (kn + 1) M46 ⟨by omega, by omega, by rw [hM46]; exact oH_R hI.2.2⟩ hL31 _ _ _ (lv_sub hl [1, 2, 0] rfl) G
    exact hloop31 _ _ _ ⟨by decide, by decide, hR26⟩ hX31 _ _ _ (lv_sub hl [1, 2, 0] rfl) G
  · rw [if_pos c7] at hF
    refine lv_aload_n hx hb dX9_full_10 rfl (lv_at hl 0 rfl) ?_
    refine lv_ldc (v := -1000000001) hx hb C.2.2.2.1 (C.2.2.2.2.1 (.constant RX9 58 (-1000000001)) (by decide +kernel)) dX9_full_11 ?_
    obtain ⟨x13, M13, hx13⟩ : ∃ (X : Int32) (Y : mS), (X, Y) = mF_errs M (-1000000001) := ⟨_, _, rfl⟩
    refine mr_calli (r0 := x13) (M2 := M13) C hA G (by rw [hx13]; exact (k_errs zl D cI ad M (-1000000001) (by unfold vp_in; decide))) (cwV 1 C.2.2.2.2.1 gX9_full_X9_errs rfl rfl rfl (by decide +kernel) ⟨Nat.le_of_ble_eq_true rfl, Nat.le_of_ble_eq_true rfl⟩) rfl hl.1 rfl (Nat.le_of_ble_eq_true rfl) dX9_full_13 ⟨Nat.le_refl _, Nat.le_refl _⟩ (fun H locs G => ?_)
    rw [lt2_e hx13] at hF
    exact hret _ _ _ _ _ _ hF G dX9_full_16
set_option maxRecDepth 100000 in
set_option maxHeartbeats 4000000 in
theorem k_hasThen (zl : Launch) (D : va_G) (cI : ClassId) (ad : Nat → Nat) (M : mS) (c : Nat) (v : Int32) (n : Nat) (hR : rOK M) (hc : c < 10) (hn : n < 2 ^ 31) : mM zl D cI ad yX9_hasThen wsX9_hasThen ({ frames := 55, cells := 0, slots := 0, locals := 1233 } : Room) [.int (nI c), .int v, .int (nI n)] M (mF_hasThen M c v n) := by
  have hin : ∀ w ∈ wsX90, w ∈ wsX9_hasThen := fun w h => List.mem_cons_of_mem _ (List.mem_append_right _ h)
  refine mM_ofZ (cc := cX9_hasThen) (nL := 5) (by decide) rfl rfl (Nat.le_of_ble_eq_true rfl) ?_
  intro zp ze zs zm zg zb zt zc zA H0 zQ C hA hret H locs ls hl G
  have hx := C.1
  have hb := C.2.1
  have hl : lv_has ls 5 [(0, .ref (ad 0)), (1, .int (nI c)), (2, .int v), (3, .int (nI n))] := hl
  obtain ⟨rM, hF⟩ : ∃ X : Int32 × mS, X = mF_hasThen M c v n := ⟨_, rfl⟩
  rw [← hF] at hret
  unfold mF_hasThen at hF
  refine lv_aload_n hx hb dX9_hasThen_0 rfl (lv_at hl 0 rfl) ?_
  refine lv_aload_n hx hb dX9_hasThen_1 rfl (lv_at hl 0 rfl) ?_
  refine mr_get C G hin 0 (by decide) rfl (show Cond.fieldLink RX9 7 "WheatCountsModel" "row" "[I" ∈ _ by decide +kernel) (fun _ => rfl) dX9_hasThen_2 ?_
  refine lv_aload_n hx hb dX9_hasThen_5 rfl (lv_at hl 0 rfl) ?_
  refine mr_get C G hin 2 (by decide) rfl (show Cond.fieldLink RX9 16 "WheatCountsModel" "tried" "[I" ∈ _ by decide +kernel) (fun _ => rfl) dX9_hasThen_6 ?_
  refine mr_callv C hA G (k_moveAll_1_3 zl D cI ad M ) (cwV 2 C.2.2.2.2.1 gX9_hasThen_X9_moveAll rfl rfl rfl (by decide +kernel) ⟨Nat.le_of_ble_eq_true rfl, Nat.le_of_ble_eq_true rfl⟩) rfl hl.1 rfl (Nat.le_of_ble_eq_true rfl) dX9_hasThen_9 ⟨Nat.le_refl _, Nat.le_refl _⟩ (fun H locs G => ?_)
  obtain ⟨M9, hM9⟩ : ∃ X : mS, X = mF_moveAll_1_3 M := ⟨_, rfl⟩
  rw [← hM9] at G
  rw [lt_e hM9] at hF
  have hR9 : rOK M9 := by rw [hM9]; exact rOK_row (mv13_row _ 1 (by decide)) hR
  refine lv_aload_n hx hb dX9_hasThen_12 rfl (lv_at hl 0 rfl) ?_
  refine lv_iload_n hx hb dX9_hasThen_13 rfl (lv_at hl 3 rfl) ?_
  refine mr_callv C hA G (k_passes zl D cI ad M9 n hR9 hn) (cwV 1 C.2.2.2.2.1 gX9_hasThen_X9_passes rfl rfl rfl (by decide +kernel) ⟨Nat.le_of_ble_eq_true rfl, Nat.le_of_ble_eq_true rfl⟩) rfl hl.1 rfl (Nat.le_of_ble_eq_true rfl) dX9_hasThen_14 ⟨Nat.le_refl _, Nat.le_refl _⟩ (fun H locs G => ?_)
  obtain ⟨M14, hM14⟩ : ∃ X : mS, X = mF_passes M9 n := ⟨_, rfl⟩
  rw [← hM14] at G
  rw [lt_e hM14] at hF
  refine lv_aload_n hx hb dX9_hasThen_17 rfl (lv_at hl 0 rfl) ?_
  refine mr_get C G hin 0 (by decide) rfl (show Cond.fieldLink RX9 7 "WheatCountsModel" "row" "[I" ∈ _ by decide +kernel) (fun _ => rfl) dX9_hasThen_18 ?_
  refine lv_bipush (v := 12) hx hb dX9_hasThen_21 (by decide) ?_
  refine lv_iload_n hx hb dX9_hasThen_23 rfl (lv_at hl 1 rfl) ?_
  refine lv_iadd hx hb dX9_hasThen_24 ?_
  refine mr_ald C G 1 (fun _ => rfl) (12 + c) (nt_add rfl rfl) (by omega) (Nat.le_of_ble_eq_true rfl) dX9_hasThen_25 ?_
  refine lv_iload_n hx hb dX9_hasThen_26 rfl (lv_at hl 2 rfl) ?_
  obtain ⟨y35, hX35⟩ : ∃ (y35 : Int32), y35 = ((if (M14 1 (12 + c)) < v then 0 else 1) : Int32) := ⟨_, rfl⟩
  rw [lt_e hX35] at hF
  have hj35 : ∀ (H : Heap) (locs : List Loc) (ls : Array Slot), lv_has ls 5 [(0, .ref (ad 0)), (1, .int (nI c)), (2, .int v), (3, .int (nI n))] → mG D cI ad zA H0 H locs M14 → W zp zl ze ({ frames := 55, cells := 0, slots := 0, locals := 1233 } : Room) zs zm zg zb zt zc H locs 0 0 zQ (F0 zm 35 ls [.int y35]) := by
    intro H locs ls hl G
    refine lv_istore (lv' := [(4, .int y35), (0, .ref (ad 0)), (1, .int (nI c)), (2, .int v), (3, .int (nI n))]) hx hb dX9_hasThen_35 hl (by decide) rfl (fun ls hl => ?_)
    have hz : y35 = 0 ∨ y35 = 1 := by rw [hX35]; split <;> first | exact Or.inl rfl | exact Or.inr rfl
    refine lv_aload_n hx hb dX9_hasThen_37 rfl (lv_at hl 1 rfl) ?_
    refine lv_aload_n hx hb dX9_hasThen_38 rfl (lv_at hl 1 rfl) ?_
    refine mr_get C G hin 2 (by decide) rfl (show Cond.fieldLink RX9 16 "WheatCountsModel" "tried" "[I" ∈ _ by decide +kernel) (fun _ => rfl) dX9_hasThen_39 ?_
    refine lv_aload_n hx hb dX9_hasThen_42 rfl (lv_at hl 1 rfl) ?_
    refine mr_get C G hin 0 (by decide) rfl (show Cond.fieldLink RX9 7 "WheatCountsModel" "row" "[I" ∈ _ by decide +kernel) (fun _ => rfl) dX9_hasThen_43 ?_
    refine mr_callv C hA G (k_moveAll_3_1 zl D cI ad M14 ) (cwV 2 C.2.2.2.2.1 gX9_hasThen_X9_moveAll rfl rfl rfl (by decide +kernel) ⟨Nat.le_of_ble_eq_true rfl, Nat.le_of_ble_eq_true rfl⟩) rfl hl.1 rfl (Nat.le_of_ble_eq_true rfl) dX9_hasThen_46 ⟨Nat.le_refl _, Nat.le_refl _⟩ (fun H locs G => ?_)
    obtain ⟨M46, hM46⟩ : ∃ X : mS, X = mF_moveAll_3_1 M14 := ⟨_, rfl⟩
    rw [← hM46] at G
    rw [lt_e hM46] at hF
    refine lv_iload hx hb dX9_hasThen_49 (lv_at hl 0 rfl) ?_
    exact hret _ _ _ _ _ _ hF G (by first | exact Or.inl rfl | exact Or.inr rfl | assumption) dX9_hasThen_51
  refine lv_icmp_lt (tgt := 34) hx hb dX9_hasThen_27 (by decide) (fun c27 => ?_) (fun c27 => ?_)
  · rw [if_pos c27] at hX35
    refine lv_iconst (v := 0) hx hb dX9_hasThen_34 (by decide) ?_
    subst hX35
    exact hj35 _ _ _ (lv_sub hl [0, 1, 2, 3] rfl) G
  · rw [if_neg c27] at hX35
    refine lv_iconst (v := 1) hx hb dX9_hasThen_30 (by decide) ?_
    refine lv_goto (tgt := 35) hx hb dX9_hasThen_31 (by decide) ?_
    subst hX35
    exact hj35 _ _ _ (lv_sub hl [0, 1, 2, 3] rfl) G

