/-! what must hold of the reference's row, piece by piece -/
set_option maxRecDepth 100000 in
set_option maxHeartbeats 4000000 in
theorem k_whoIsAt (zl : Launch) (D : va_G) (cI : ClassId) (ad : Nat → Nat) (M : mS) (c : Int32) (hP : pOK M) : mM zl D cI ad yX9_whoIsAt wsX9_whoIsAt ({ frames := 1, cells := 0, slots := 0, locals := 22 } : Room) [.int c] M ((mF_whoIsAt M c, M)) := by
  have hin : ∀ w ∈ wsX90, w ∈ wsX9_whoIsAt := fun w h => List.mem_cons_of_mem _ (List.mem_append_right _ h)
  refine mM_of (cc := cX9_whoIsAt) (nL := 4) (by decide) rfl rfl (Nat.le_of_ble_eq_true rfl) ?_
  intro zp ze zs zm zg zb zt zc zA H0 zQ C hA hret H locs ls hl G
  have hx := C.1
  have hb := C.2.1
  have hl : lv_has ls 4 [(0, .ref (ad 0)), (1, .int c)] := hl
  obtain ⟨rM, hF⟩ : ∃ X : Int32, X = mF_whoIsAt M c := ⟨_, rfl⟩
  rw [← hF] at hret
  unfold mF_whoIsAt at hF
  have hP1 := hP.1
  have hP2 := hP.2
  refine lv_iconst (v := 0) hx hb dX9_whoIsAt_0 (by decide) ?_
  refine lv_istore_n (lv' := [(2, .int 0), (0, .ref (ad 0)), (1, .int c)]) hx hb dX9_whoIsAt_1 rfl hl (by decide) rfl (fun ls hl => ?_)
  refine lv_iconst (v := 0) hx hb dX9_whoIsAt_2 (by decide) ?_
  refine lv_istore_n (lv' := [(3, .int 0), (2, .int 0), (0, .ref (ad 0)), (1, .int c)]) hx hb dX9_whoIsAt_3 rfl hl (by decide) rfl (fun ls hl => ?_)
  obtain ⟨v2_4x, hX4⟩ : ∃ (v2_4x : Int32), v2_4x = mF_whoIsAt_L4 M c (vn (M 1 8)) := ⟨_, rfl⟩
  rw [lt_e hX4] at hF
  have hrest4 : ∀ (H : Heap) (locs : List Loc) (ls : Array Slot), lv_has ls 4 [(0, .ref (ad 0)), (1, .int c), (2, .int v2_4x), (3, .int (nI (vn (M 1 8))))] → mG D cI ad zA H0 H locs M → W zp zl ze ({ frames := 1, cells := 0, slots := 0, locals := 22 } : Room) zs zm zg zb zt zc H locs 0 0 zQ (F0 zm 41 ls []) := by
    intro H locs ls hl G
    refine lv_iload_n hx hb dX9_whoIsAt_41 rfl (lv_at hl 2 rfl) ?_
    exact hret _ _ _ _ _ _ (by rw [hF]) G dX9_whoIsAt_42
  have hloop4 : ∀ (j k4 : Nat), j + k4 = vn (M 1 8) → ∀ (v2_4 : Int32), v2_4 = mF_whoIsAt_L4 M c k4 → ∀ (H : Heap) (locs : List Loc) (ls : Array Slot), lv_has ls 4 [(0, .ref (ad 0)), (1, .int c), (2, .int v2_4), (3, .int (nI k4))] → mG D cI ad zA H0 H locs M → W zp zl ze ({ frames := 1, cells := 0, slots := 0, locals := 22 } : Room) zs zm zg zb zt zc H locs 0 0 zQ (F0 zm 4 ls []) := by
    intro j
    induction j with
    | zero =>
      intro k4 hk v2_4 hL H locs ls hl G
      have hk : k4 = vn (M 1 8) := by omega
      rw [hk] at hL hl
      refine lv_iload_n hx hb dX9_whoIsAt_4 rfl (lv_at hl 3 rfl) ?_
      refine lv_aload_n hx hb dX9_whoIsAt_5 rfl (lv_at hl 0 rfl) ?_
      refine mr_get C G hin 0 (by decide) rfl (show Cond.fieldLink RX9 7 "WheatCountsModel" "row" "[I" ∈ _ by decide +kernel) (fun _ => rfl) dX9_whoIsAt_6 ?_
      refine lv_bipush (v := 8) hx hb dX9_whoIsAt_9 (by decide) ?_
      refine mr_ald C G 1 (fun _ => rfl) 8 rfl (by omega) (Nat.le_of_ble_eq_true rfl) dX9_whoIsAt_11 ?_
      refine lv_icmp_ge (tgt := 41) hx hb dX9_whoIsAt_12 (by decide) (fun c12 => ?_) (fun c12 => absurd (lp_out (n := vn (M 1 8)) hP.1) c12)
      obtain rfl := hL.trans hX4.symm
      exact hrest4 _ _ _ (lv_sub hl [0, 1, 2, 3] rfl) G
    | succ j ih =>
      intro k4 hk v2_4 hL H locs ls hl G
      have hkn : k4 < vn (M 1 8) := by omega
      obtain ⟨v2_4s, hS0⟩ : ∃ (v2_4s : Int32), v2_4s = mF_whoIsAt_L4 M c (k4 + 1) := ⟨_, rfl⟩
      have hS := hS0
      rw [mF_whoIsAt_L4_s, lt_e hL] at hS
      refine lv_iload_n hx hb dX9_whoIsAt_4 rfl (lv_at hl 3 rfl) ?_
      refine lv_aload_n hx hb dX9_whoIsAt_5 rfl (lv_at hl 0 rfl) ?_
      refine mr_get C G hin 0 (by decide) rfl (show Cond.fieldLink RX9 7 "WheatCountsModel" "row" "[I" ∈ _ by decide +kernel) (fun _ => rfl) dX9_whoIsAt_6 ?_
      refine lv_bipush (v := 8) hx hb dX9_whoIsAt_9 (by decide) ?_
      refine mr_ald C G 1 (fun _ => rfl) 8 rfl (by omega) (Nat.le_of_ble_eq_true rfl) dX9_whoIsAt_11 ?_
      refine lv_icmp_ge (tgt := 41) hx hb dX9_whoIsAt_12 (by decide) (fun c12 => absurd c12 (lp_in (n := vn (M 1 8)) hP.1 hkn (by omega))) (fun c12 => ?_)
      refine lv_iload_n hx hb dX9_whoIsAt_15 rfl (lv_at hl 2 rfl) ?_
      refine lv_aload_n hx hb dX9_whoIsAt_16 rfl (lv_at hl 0 rfl) ?_
      refine lv_iload_n hx hb dX9_whoIsAt_17 rfl (lv_at hl 3 rfl) ?_
      refine lv_iconst (v := 2) hx hb dX9_whoIsAt_18 (by decide) ?_
      refine mr_calli C hA G (k_its zl D cI ad M k4 2 (by first | assumption | omega)) (cwV 2 C.2.2.2.2.1 gX9_whoIsAt_X9_its rfl rfl rfl (by decide +kernel) ⟨Nat.le_of_ble_eq_true rfl, Nat.le_of_ble_eq_true rfl⟩) rfl hl.1 rfl (Nat.le_of_ble_eq_true rfl) dX9_whoIsAt_19 ⟨Nat.le_refl _, Nat.le_refl _⟩ (fun H locs G => ?_)
      refine lv_iload_n hx hb dX9_whoIsAt_22 rfl (lv_at hl 1 rfl) ?_
      obtain ⟨y33, hX33⟩ : ∃ (y33 : Int32), y33 = ((if (mF_its M k4 2) = c then (1 <<< ((nI k4) &&& 31)) else 0) : Int32) := ⟨_, rfl⟩
      rw [lt_e hX33] at hS
      have hj33 : ∀ (H : Heap) (locs : List Loc) (ls : Array Slot), lv_has ls 4 [(0, .ref (ad 0)), (1, .int c), (2, .int v2_4), (3, .int (nI k4))] → mG D cI ad zA H0 H locs M → W zp zl ze ({ frames := 1, cells := 0, slots := 0, locals := 22 } : Room) zs zm zg zb zt zc H locs 0 0 zQ (F0 zm 33 ls [.int y33, .int v2_4]) := by
        intro H locs ls hl G
        refine lv_ior hx hb dX9_whoIsAt_33 ?_
        refine lv_topi (fun x34 hx34 => ?_)
        rw [lt_e hx34] at hS
        refine lv_istore_n (lv' := [(2, .int x34), (0, .ref (ad 0)), (1, .int c), (3, .int (nI k4))]) hx hb dX9_whoIsAt_34 rfl hl (by decide) rfl (fun ls hl => ?_)
        refine lv_iinc (v := nI (k4 + 1)) (lv' := [(3, .int (nI (k4 + 1))), (2, .int x34), (0, .ref (ad 0)), (1, .int c)]) hx hb dX9_whoIsAt_35 hl (k := 3) rfl (nt_add rfl (show (1 : Int32) = nI 1 from rfl)) (by decide) rfl (fun ls hl => ?_)
        refine lv_goto (tgt := 4) hx hb dX9_whoIsAt_38 (by decide) ?_
        subst hS
        exact ih (k4 + 1) (by omega) _ hS0 _ _ _ (lv_sub hl [2, 3, 1, 0] rfl) G
      refine lv_icmp_ne (tgt := 32) hx hb dX9_whoIsAt_23 (by decide) (fun c23 => ?_) (fun c23 => ?_)
      · rw [if_neg c23] at hX33
        refine lv_iconst (v := 0) hx hb dX9_whoIsAt_32 (by decide) ?_
        subst hX33
        exact hj33 _ _ _ (lv_sub hl [0, 1, 2, 3] rfl) G
      · rw [if_pos c23] at hX33
        refine lv_iconst (v := 1) hx hb dX9_whoIsAt_26 (by decide) ?_
        refine lv_iload_n hx hb dX9_whoIsAt_27 rfl (lv_at hl 3 rfl) ?_
        refine lv_ishl hx hb dX9_whoIsAt_28 ?_
        refine lv_goto (tgt := 33) hx hb dX9_whoIsAt_29 (by decide) ?_
        subst hX33
        exact hj33 _ _ _ (lv_sub hl [0, 1, 2, 3] rfl) G
  exact hloop4 _ 0 (Nat.add_zero _) _ rfl _ _ _ (lv_sub hl [2, 3, 1, 0] rfl) G
set_option maxRecDepth 100000 in
set_option maxHeartbeats 4000000 in
theorem k_grains (zl : Launch) (D : va_G) (cI : ClassId) (ad : Nat → Nat) (M : mS) (hC : cOK M) : mM zl D cI ad yX9_grains wsX9_grains ({ frames := 0, cells := 0, slots := 0, locals := 0 } : Room) [] M ((mF_grains M, M)) := by
  have hin : ∀ w ∈ wsX90, w ∈ wsX9_grains := fun w h => List.mem_cons_of_mem _ (List.mem_append_right _ h)
  refine mM_of (cc := cX9_grains) (nL := 3) (by decide) rfl rfl (Nat.le_of_ble_eq_true rfl) ?_
  intro zp ze zs zm zg zb zt zc zA H0 zQ C hA hret H locs ls hl G
  have hx := C.1
  have hb := C.2.1
  have hl : lv_has ls 3 [(0, .ref (ad 0))] := hl
  obtain ⟨rM, hF⟩ : ∃ X : Int32, X = mF_grains M := ⟨_, rfl⟩
  rw [← hF] at hret
  unfold mF_grains at hF
  have hC1 := hC.1
  have hC2 := hC.2.1
  have hC3 := hC.2.2
  refine lv_iconst (v := 0) hx hb dX9_grains_0 (by decide) ?_
  refine lv_istore_n (lv' := [(1, .int 0), (0, .ref (ad 0))]) hx hb dX9_grains_1 rfl hl (by decide) rfl (fun ls hl => ?_)
  refine lv_iconst (v := 0) hx hb dX9_grains_2 (by decide) ?_
  refine lv_istore_n (lv' := [(2, .int 0), (1, .int 0), (0, .ref (ad 0))]) hx hb dX9_grains_3 rfl hl (by decide) rfl (fun ls hl => ?_)
  obtain ⟨v1_4x, hX4⟩ : ∃ (v1_4x : Int32), v1_4x = mF_grains_L4 M (vn (M 1 3)) := ⟨_, rfl⟩
  rw [lt_e hX4] at hF
  have hrest4 : ∀ (H : Heap) (locs : List Loc) (ls : Array Slot), lv_has ls 3 [(0, .ref (ad 0)), (1, .int v1_4x), (2, .int (nI (vn (M 1 3))))] → mG D cI ad zA H0 H locs M → W zp zl ze ({ frames := 0, cells := 0, slots := 0, locals := 0 } : Room) zs zm zg zb zt zc H locs 0 0 zQ (F0 zm 32 ls []) := by
    intro H locs ls hl G
    refine lv_iload_n hx hb dX9_grains_32 rfl (lv_at hl 1 rfl) ?_
    exact hret _ _ _ _ _ _ (by rw [hF]) G dX9_grains_33
  have hloop4 : ∀ (j k4 : Nat), j + k4 = vn (M 1 3) → ∀ (v1_4 : Int32), v1_4 = mF_grains_L4 M k4 → ∀ (H : Heap) (locs : List Loc) (ls : Array Slot), lv_has ls 3 [(0, .ref (ad 0)), (1, .int v1_4), (2, .int (nI k4))] → mG D cI ad zA H0 H locs M → W zp zl ze ({ frames := 0, cells := 0, slots := 0, locals := 0 } : Room) zs zm zg zb zt zc H locs 0 0 zQ (F0 zm 4 ls []) := by
    intro j
    induction j with
    | zero =>
      intro k4 hk v1_4 hL H locs ls hl G
      have hk : k4 = vn (M 1 3) := by omega
      rw [hk] at hL hl
      refine lv_iload_n hx hb dX9_grains_4 rfl (lv_at hl 2 rfl) ?_
      refine lv_aload_n hx hb dX9_grains_5 rfl (lv_at hl 0 rfl) ?_
      refine mr_get C G hin 0 (by decide) rfl (show Cond.fieldLink RX9 7 "WheatCountsModel" "row" "[I" ∈ _ by decide +kernel) (fun _ => rfl) dX9_grains_6 ?_
      refine lv_iconst (v := 3) hx hb dX9_grains_9 (by decide) ?_
      refine mr_ald C G 1 (fun _ => rfl) 3 rfl (by omega) (Nat.le_of_ble_eq_true rfl) dX9_grains_10 ?_
      refine lv_icmp_ge (tgt := 32) hx hb dX9_grains_11 (by decide) (fun c11 => ?_) (fun c11 => absurd (lp_out (n := vn (M 1 3)) hC.1) c11)
      obtain rfl := hL.trans hX4.symm
      exact hrest4 _ _ _ (lv_sub hl [0, 1, 2] rfl) G
    | succ j ih =>
      intro k4 hk v1_4 hL H locs ls hl G
      have hkn : k4 < vn (M 1 3) := by omega
      obtain ⟨v1_4s, hS0⟩ : ∃ (v1_4s : Int32), v1_4s = mF_grains_L4 M (k4 + 1) := ⟨_, rfl⟩
      have hS := hS0
      rw [mF_grains_L4_s, lt_e hL] at hS
      refine lv_iload_n hx hb dX9_grains_4 rfl (lv_at hl 2 rfl) ?_
      refine lv_aload_n hx hb dX9_grains_5 rfl (lv_at hl 0 rfl) ?_
      refine mr_get C G hin 0 (by decide) rfl (show Cond.fieldLink RX9 7 "WheatCountsModel" "row" "[I" ∈ _ by decide +kernel) (fun _ => rfl) dX9_grains_6 ?_
      refine lv_iconst (v := 3) hx hb dX9_grains_9 (by decide) ?_
      refine mr_ald C G 1 (fun _ => rfl) 3 rfl (by omega) (Nat.le_of_ble_eq_true rfl) dX9_grains_10 ?_
      refine lv_icmp_ge (tgt := 32) hx hb dX9_grains_11 (by decide) (fun c11 => absurd c11 (lp_in (n := vn (M 1 3)) hC.1 hkn (by omega))) (fun c11 => ?_)
      refine lv_iload_n hx hb dX9_grains_14 rfl (lv_at hl 1 rfl) ?_
      refine lv_aload_n hx hb dX9_grains_15 rfl (lv_at hl 0 rfl) ?_
      refine mr_get C G hin 0 (by decide) rfl (show Cond.fieldLink RX9 7 "WheatCountsModel" "row" "[I" ∈ _ by decide +kernel) (fun _ => rfl) dX9_grains_16 ?_
      refine lv_bipush (v := 12) hx hb dX9_grains_19 (by decide) ?_
      refine lv_iload_n hx hb dX9_grains_21 rfl (lv_at hl 2 rfl) ?_
      refine lv_iadd hx hb dX9_grains_22 ?_
      refine mr_ald C G 1 (fun _ => rfl) (12 + k4) (nt_add rfl rfl) (by omega) (Nat.le_of_ble_eq_true rfl) dX9_grains_23 ?_
      refine lv_iadd hx hb dX9_grains_24 ?_
      refine lv_topi (fun x25 hx25 => ?_)
      rw [lt_e hx25] at hS
      refine lv_istore_n (lv' := [(1, .int x25), (0, .ref (ad 0)), (2, .int (nI k4))]) hx hb dX9_grains_25 rfl hl (by decide) rfl (fun ls hl => ?_)
      refine lv_iinc (v := nI (k4 + 1)) (lv' := [(2, .int (nI (k4 + 1))), (1, .int x25), (0, .ref (ad 0))]) hx hb dX9_grains_26 hl (k := 2) rfl (nt_add rfl (show (1 : Int32) = nI 1 from rfl)) (by decide) rfl (fun ls hl => ?_)
      refine lv_goto (tgt := 4) hx hb dX9_grains_29 (by decide) ?_
      subst hS
      exact ih (k4 + 1) (by omega) _ hS0 _ _ _ (lv_sub hl [2, 1, 0] rfl) G
  exact hloop4 _ 0 (Nat.add_zero _) _ rfl _ _ _ (lv_sub hl [2, 1, 0] rfl) G
set_option maxRecDepth 100000 in
set_option maxHeartbeats 4000000 in
theorem k_field (zl : Launch) (D : va_G) (cI : ClassId) (ad : Nat → Nat) (M : mS) (n : Int32) : mM zl D cI ad yX9_field wsX9_field ({ frames := 1, cells := 0, slots := 0, locals := 23 } : Room) [.int n] M (mF_field M n) := by
  have hin : ∀ w ∈ wsX90, w ∈ wsX9_field := fun w h => List.mem_cons_of_mem _ (List.mem_append_right _ h)
  refine mM_of (cc := cX9_field) (nL := 3) (by decide) rfl rfl (Nat.le_of_ble_eq_true rfl) ?_
  intro zp ze zs zm zg zb zt zc zA H0 zQ C hA hret H locs ls hl G
  have hx := C.1
  have hb := C.2.1
  have hl : lv_has ls 3 [(0, .ref (ad 0)), (1, .int n)] := hl
  obtain ⟨rM, hF⟩ : ∃ X : Int32 × mS, X = mF_field M n := ⟨_, rfl⟩
  rw [← hF] at hret
  unfold mF_field at hF
  refine lv_iload_n hx hb dX9_field_0 rfl (lv_at hl 1 rfl) ?_
  refine lv_iconst (v := 3) hx hb dX9_field_1 (by decide) ?_
  refine lv_bipush (v := 10) hx hb dX9_field_2 (by decide) ?_
  refine mr_calls C hA G (ks_in zl n 3 10) (va_cwS 3 C.2.2.2.2.1 gX9_field_X9_in rfl rfl rfl (by decide +kernel) ⟨Nat.le_of_ble_eq_true rfl, Nat.le_of_ble_eq_true rfl⟩) rfl hl.1 rfl (Nat.le_of_ble_eq_true rfl) dX9_field_4 ⟨Nat.le_refl _, Nat.le_refl _⟩ (fun H locs G => ?_)
  refine lv_if_ne (tgt := 17) hx hb dX9_field_7 (by decide) (fun c7 => ?_) (fun c7 => ?_)
  · rw [if_neg c7] at hF
    refine lv_aload_n hx hb dX9_field_17 rfl (lv_at hl 0 rfl) ?_
    refine mr_get C G hin 0 (by decide) rfl (show Cond.fieldLink RX9 7 "WheatCountsModel" "row" "[I" ∈ _ by decide +kernel) (fun _ => rfl) dX9_field_18 ?_
    refine lv_bipush (v := 8) hx hb dX9_field_21 (by decide) ?_
    refine mr_ald C G 1 (fun _ => rfl) 8 rfl (by omega) (Nat.le_of_ble_eq_true rfl) dX9_field_23 ?_
    refine lv_if_le (tgt := 34) hx hb dX9_field_24 (by decide) (fun c24 => ?_) (fun c24 => ?_)
    · rw [if_pos c24] at hF
      refine lv_iconst (v := 0) hx hb dX9_field_34 (by decide) ?_
      refine lv_istore_n (lv' := [(2, .int 0), (0, .ref (ad 0)), (1, .int n)]) hx hb dX9_field_35 rfl hl (by decide) rfl (fun ls hl => ?_)
      obtain ⟨M36x, hX36⟩ : ∃ (M36x : mS), M36x = mF_field_L36 M 10 := ⟨_, rfl⟩
      rw [lt_e hX36] at hF
      have hrest36 : ∀ (H : Heap) (locs : List Loc) (ls : Array Slot), lv_has ls 3 [(0, .ref (ad 0)), (1, .int n), (2, .int (nI 10))] → mG D cI ad zA H0 H locs M36x → W zp zl ze ({ frames := 1, cells := 0, slots := 0, locals := 23 } : Room) zs zm zg zb zt zc H locs 0 0 zQ (F0 zm 68 ls []) := by
        intro H locs ls hl G
        refine lv_aload_n hx hb dX9_field_68 rfl (lv_at hl 0 rfl) ?_
        refine mr_get C G hin 0 (by decide) rfl (show Cond.fieldLink RX9 7 "WheatCountsModel" "row" "[I" ∈ _ by decide +kernel) (fun _ => rfl) dX9_field_69 ?_
        refine lv_bipush (v := 9) hx hb dX9_field_72 (by decide) ?_
        refine lv_iconst (v := 0) hx hb dX9_field_74 (by decide) ?_
        refine mr_ast C G 1 (fun _ => rfl) 9 rfl (by omega) (Nat.le_of_ble_eq_true rfl) (fun _ => rfl) dX9_field_75 (fun H locs G => ?_)
        obtain ⟨M75, hM75⟩ : ∃ X : mS, X = mU M36x 1 9 0 := ⟨_, rfl⟩
        rw [← hM75] at G
        rw [lt_e hM75] at hF
        refine lv_aload_n hx hb dX9_field_76 rfl (lv_at hl 0 rfl) ?_
        refine mr_get C G hin 0 (by decide) rfl (show Cond.fieldLink RX9 7 "WheatCountsModel" "row" "[I" ∈ _ by decide +kernel) (fun _ => rfl) dX9_field_77 ?_
        refine lv_bipush (v := 10) hx hb dX9_field_80 (by decide) ?_
        refine lv_iconst (v := 0) hx hb dX9_field_82 (by decide) ?_
        refine mr_ast C G 1 (fun _ => rfl) 10 rfl (by omega) (Nat.le_of_ble_eq_true rfl) (fun _ => rfl) dX9_field_83 (fun H locs G => ?_)
        obtain ⟨M83, hM83⟩ : ∃ X : mS, X = mU M75 1 10 0 := ⟨_, rfl⟩
        rw [← hM83] at G
        rw [lt_e hM83] at hF
        refine lv_aload_n hx hb dX9_field_84 rfl (lv_at hl 0 rfl) ?_
        refine lv_iconst (v := 3) hx hb dX9_field_85 (by decide) ?_
        refine lv_iload_n hx hb dX9_field_86 rfl (lv_at hl 1 rfl) ?_
        obtain ⟨x87, M87, hx87⟩ : ∃ (X : Int32) (Y : mS), (X, Y) = mF_becomes M83 3 n := ⟨_, _, rfl⟩
        refine mr_calli (r0 := x87) (M2 := M87) C hA G (by rw [hx87]; exact (k_becomes zl D cI ad M83 3 n (by first | assumption | omega))) (cwV 2 C.2.2.2.2.1 gX9_field_X9_becomes rfl rfl rfl (by decide +kernel) ⟨Nat.le_of_ble_eq_true rfl, Nat.le_of_ble_eq_true rfl⟩) rfl hl.1 rfl (Nat.le_of_ble_eq_true rfl) dX9_field_87 ⟨Nat.le_refl _, Nat.le_refl _⟩ (fun H locs G => ?_)
        rw [lt2_e hx87] at hF
        exact hret _ _ _ _ _ _ hF G dX9_field_90
      have hloop36 : ∀ (j k36 : Nat), j + k36 = 10 → ∀ (M36 : mS), M36 = mF_field_L36 M k36 → ∀ (H : Heap) (locs : List Loc) (ls : Array Slot), lv_has ls 3 [(0, .ref (ad 0)), (1, .int n), (2, .int (nI k36))] → mG D cI ad zA H0 H locs M36 → W zp zl ze ({ frames := 1, cells := 0, slots := 0, locals := 23 } : Room) zs zm zg zb zt zc H locs 0 0 zQ (F0 zm 36 ls []) := by
        intro j
        induction j with
        | zero =>
          intro k36 hk M36 hL H locs ls hl G
          have hk : k36 = 10 := by omega
          rw [hk] at hL hl
          refine lv_iload_n hx hb dX9_field_36 rfl (lv_at hl 2 rfl) ?_
          refine lv_bipush (v := 10) hx hb dX9_field_37 (by decide) ?_
          refine lv_icmp_ge (tgt := 68) hx hb dX9_field_39 (by decide) (fun c39 => ?_) (fun c39 => absurd (lp_out (n := 10) rfl) c39)
          obtain rfl := hL.trans hX36.symm
          exact hrest36 _ _ _ (lv_sub hl [0, 1, 2] rfl) G
        | succ j ih =>
          intro k36 hk M36 hL H locs ls hl G
          have hkn : k36 < 10 := by omega
          obtain ⟨M36s, hS0⟩ : ∃ (M36s : mS), M36s = mF_field_L36 M (k36 + 1) := ⟨_, rfl⟩
          have hS := hS0
          rw [mF_field_L36_s, lt_e hL] at hS
          refine lv_iload_n hx hb dX9_field_36 rfl (lv_at hl 2 rfl) ?_
          refine lv_bipush (v := 10) hx hb dX9_field_37 (by decide) ?_
          refine lv_icmp_ge (tgt := 68) hx hb dX9_field_39 (by decide) (fun c39 => absurd c39 (lp_in (n := 10) rfl hkn (by omega))) (fun c39 => ?_)
          refine lv_aload_n hx hb dX9_field_42 rfl (lv_at hl 0 rfl) ?_
          refine mr_get C G hin 0 (by decide) rfl (show Cond.fieldLink RX9 7 "WheatCountsModel" "row" "[I" ∈ _ by decide +kernel) (fun _ => rfl) dX9_field_43 ?_
          refine lv_bipush (v := 12) hx hb dX9_field_46 (by decide) ?_
          refine lv_iload_n hx hb dX9_field_48 rfl (lv_at hl 2 rfl) ?_
          refine lv_iadd hx hb dX9_field_49 ?_
          refine lv_iconst (v := 0) hx hb dX9_field_50 (by decide) ?_
          refine mr_ast C G 1 (fun _ => rfl) (12 + k36) (nt_add rfl rfl) (by omega) (Nat.le_of_ble_eq_true rfl) (fun _ => rfl) dX9_field_51 (fun H locs G => ?_)
          obtain ⟨M51, hM51⟩ : ∃ X : mS, X = mU M36 1 (12 + k36) 0 := ⟨_, rfl⟩
          rw [← hM51] at G
          rw [lt_e hM51] at hS
          refine lv_aload_n hx hb dX9_field_52 rfl (lv_at hl 0 rfl) ?_
          refine mr_get C G hin 0 (by decide) rfl (show Cond.fieldLink RX9 7 "WheatCountsModel" "row" "[I" ∈ _ by decide +kernel) (fun _ => rfl) dX9_field_53 ?_
          refine lv_bipush (v := 22) hx hb dX9_field_56 (by decide) ?_
          refine lv_iload_n hx hb dX9_field_58 rfl (lv_at hl 2 rfl) ?_
          refine lv_iadd hx hb dX9_field_59 ?_
          refine lv_iconst (v := 0) hx hb dX9_field_60 (by decide) ?_
          refine mr_ast C G 1 (fun _ => rfl) (22 + k36) (nt_add rfl rfl) (by omega) (Nat.le_of_ble_eq_true rfl) (fun _ => rfl) dX9_field_61 (fun H locs G => ?_)
          obtain ⟨M61, hM61⟩ : ∃ X : mS, X = mU M51 1 (22 + k36) 0 := ⟨_, rfl⟩
          rw [← hM61] at G
          rw [lt_e hM61] at hS
          refine lv_iinc (v := nI (k36 + 1)) (lv' := [(2, .int (nI (k36 + 1))), (0, .ref (ad 0)), (1, .int n)]) hx hb dX9_field_62 hl (k := 2) rfl (nt_add rfl (show (1 : Int32) = nI 1 from rfl)) (by decide) rfl (fun ls hl => ?_)
          refine lv_goto (tgt := 36) hx hb dX9_field_65 (by decide) ?_
          subst hS
          exact ih (k36 + 1) (by omega) _ hS0 _ _ _ (lv_sub hl [1, 2, 0] rfl) G
      exact hloop36 _ 0 (Nat.add_zero _) _ rfl _ _ _ (lv_sub hl [1, 2, 0] rfl) G
    · rw [if_neg c24] at hF
      refine lv_aload_n hx hb dX9_field_27 rfl (lv_at hl 0 rfl) ?_
      refine lv_ldc (v := -1000000003) hx hb C.2.2.2.1 (C.2.2.2.2.1 (.constant RX9 63 (-1000000003)) (by decide +kernel)) dX9_field_28 ?_
      obtain ⟨x30, M30, hx30⟩ : ∃ (X : Int32) (Y : mS), (X, Y) = mF_errs M (-1000000003) := ⟨_, _, rfl⟩
      refine mr_calli (r0 := x30) (M2 := M30) C hA G (by rw [hx30]; exact (k_errs zl D cI ad M (-1000000003) (by unfold vp_in; decide))) (cwV 1 C.2.2.2.2.1 gX9_field_X9_errs rfl rfl rfl (by decide +kernel) ⟨Nat.le_of_ble_eq_true rfl, Nat.le_of_ble_eq_true rfl⟩) rfl hl.1 rfl (Nat.le_of_ble_eq_true rfl) dX9_field_30 ⟨Nat.le_refl _, Nat.le_refl _⟩ (fun H locs G => ?_)
      rw [lt2_e hx30] at hF
      exact hret _ _ _ _ _ _ hF G dX9_field_33
  · rw [if_pos c7] at hF
    refine lv_aload_n hx hb dX9_field_10 rfl (lv_at hl 0 rfl) ?_
    refine lv_ldc (v := -1000000001) hx hb C.2.2.2.1 (C.2.2.2.2.1 (.constant RX9 58 (-1000000001)) (by decide +kernel)) dX9_field_11 ?_
    obtain ⟨x13, M13, hx13⟩ : ∃ (X : Int32) (Y : mS), (X, Y) = mF_errs M (-1000000001) := ⟨_, _, rfl⟩
    refine mr_calli (r0 := x13) (M2 := M13) C hA G (by rw [hx13]; exact (k_errs zl D cI ad M (-1000000001) (by unfold vp_in; decide))) (cwV 1 C.2.2.2.2.1 gX9_field_X9_errs rfl rfl rfl (by decide +kernel) ⟨Nat.le_of_ble_eq_true rfl, Nat.le_of_ble_eq_true rfl⟩) rfl hl.1 rfl (Nat.le_of_ble_eq_true rfl) dX9_field_13 ⟨Nat.le_refl _, Nat.le_refl _⟩ (fun H locs G => ?_)
    rw [lt2_e hx13] at hF
    exact hret _ _ _ _ _ _ hF G dX9_field_16
set_option maxRecDepth 100000 in
set_option maxHeartbeats 4000000 in
theorem k_sow (zl : Launch) (D : va_G) (cI : ClassId) (ad : Nat → Nat) (M : mS) (c : Int32) (what : Int32) (v : Int32) (hC : cOK M) : mM zl D cI ad yX9_sow wsX9_sow ({ frames := 2, cells := 0, slots := 0, locals := 43 } : Room) [.int c, .int what, .int v] M (mF_sow M c what v) := by
  have hin : ∀ w ∈ wsX90, w ∈ wsX9_sow := fun w h => List.mem_cons_of_mem _ (List.mem_append_right _ h)
  refine mM_of (cc := cX9_sow) (nL := 4) (by decide) rfl rfl (Nat.le_of_ble_eq_true rfl) ?_
  intro zp ze zs zm zg zb zt zc zA H0 zQ C hA hret H locs ls hl G
  have hx := C.1
  have hb := C.2.1
  have hl : lv_has ls 4 [(0, .ref (ad 0)), (1, .int c), (2, .int what), (3, .int v)] := hl
  obtain ⟨rM, hF⟩ : ∃ X : Int32 × mS, X = mF_sow M c what v := ⟨_, rfl⟩
  rw [← hF] at hret
  unfold mF_sow at hF
  have hC1 := hC.1
  have hC2 := hC.2.1
  have hC3 := hC.2.2
  refine lv_aload_n hx hb dX9_sow_0 rfl (lv_at hl 0 rfl) ?_
  refine lv_iload_n hx hb dX9_sow_1 rfl (lv_at hl 1 rfl) ?_
  refine mr_calli C hA G (k_isCell zl D cI ad M c) (cwV 1 C.2.2.2.2.1 gX9_sow_X9_isCell rfl rfl rfl (by decide +kernel) ⟨Nat.le_of_ble_eq_true rfl, Nat.le_of_ble_eq_true rfl⟩) rfl hl.1 rfl (Nat.le_of_ble_eq_true rfl) dX9_sow_2 ⟨Nat.le_refl _, Nat.le_refl _⟩ (fun H locs G => ?_)
  refine lv_if_eq (tgt := 36) hx hb dX9_sow_5 (by decide) (fun c5 => ?_) (fun c5 => ?_)
  · rw [if_pos c5] at hF
    refine lv_aload_n hx hb dX9_sow_36 rfl (lv_at hl 0 rfl) ?_
    refine lv_ldc (v := -1000000001) hx hb C.2.2.2.1 (C.2.2.2.2.1 (.constant RX9 58 (-1000000001)) (by decide +kernel)) dX9_sow_37 ?_
    obtain ⟨x39, M39, hx39⟩ : ∃ (X : Int32) (Y : mS), (X, Y) = mF_errs M (-1000000001) := ⟨_, _, rfl⟩
    refine mr_calli (r0 := x39) (M2 := M39) C hA G (by rw [hx39]; exact (k_errs zl D cI ad M (-1000000001) (by unfold vp_in; decide))) (cwV 1 C.2.2.2.2.1 gX9_sow_X9_errs rfl rfl rfl (by decide +kernel) ⟨Nat.le_of_ble_eq_true rfl, Nat.le_of_ble_eq_true rfl⟩) rfl hl.1 rfl (Nat.le_of_ble_eq_true rfl) dX9_sow_39 ⟨Nat.le_refl _, Nat.le_refl _⟩ (fun H locs G => ?_)
    rw [lt2_e hx39] at hF
    exact hret _ _ _ _ _ _ hF G dX9_sow_42
  · rw [if_neg c5] at hF
    have hc := cell_of hC c5
    have hc2 := hc.2
    refine lv_iload_n hx hb dX9_sow_8 rfl (lv_at hl 2 rfl) ?_
    refine lv_iconst (v := 0) hx hb dX9_sow_9 (by decide) ?_
    refine lv_iconst (v := 1) hx hb dX9_sow_10 (by decide) ?_
    refine mr_calls C hA G (ks_in zl what 0 1) (va_cwS 3 C.2.2.2.2.1 gX9_sow_X9_in rfl rfl rfl (by decide +kernel) ⟨Nat.le_of_ble_eq_true rfl, Nat.le_of_ble_eq_true rfl⟩) rfl hl.1 rfl (Nat.le_of_ble_eq_true rfl) dX9_sow_11 ⟨Nat.le_refl _, Nat.le_refl _⟩ (fun H locs G => ?_)
    refine lv_if_eq (tgt := 36) hx hb dX9_sow_14 (by decide) (fun c14 => ?_) (fun c14 => ?_)
    · rw [if_pos c14] at hF
      refine lv_aload_n hx hb dX9_sow_36 rfl (lv_at hl 0 rfl) ?_
      refine lv_ldc (v := -1000000001) hx hb C.2.2.2.1 (C.2.2.2.2.1 (.constant RX9 58 (-1000000001)) (by decide +kernel)) dX9_sow_37 ?_
      obtain ⟨x39, M39, hx39⟩ : ∃ (X : Int32) (Y : mS), (X, Y) = mF_errs M (-1000000001) := ⟨_, _, rfl⟩
      refine mr_calli (r0 := x39) (M2 := M39) C hA G (by rw [hx39]; exact (k_errs zl D cI ad M (-1000000001) (by unfold vp_in; decide))) (cwV 1 C.2.2.2.2.1 gX9_sow_X9_errs rfl rfl rfl (by decide +kernel) ⟨Nat.le_of_ble_eq_true rfl, Nat.le_of_ble_eq_true rfl⟩) rfl hl.1 rfl (Nat.le_of_ble_eq_true rfl) dX9_sow_39 ⟨Nat.le_refl _, Nat.le_refl _⟩ (fun H locs G => ?_)
      rw [lt2_e hx39] at hF
      exact hret _ _ _ _ _ _ hF G dX9_sow_42
    · rw [if_neg c14] at hF
      refine lv_iload_n hx hb dX9_sow_17 rfl (lv_at hl 3 rfl) ?_
      refine lv_iconst (v := 0) hx hb dX9_sow_18 (by decide) ?_
      refine lv_iload_n hx hb dX9_sow_19 rfl (lv_at hl 2 rfl) ?_
      obtain ⟨y30, hX30⟩ : ∃ (y30 : Int32), y30 = ((if what = 0 then 99999 else 99) : Int32) := ⟨_, rfl⟩
      rw [lt_e hX30] at hF
      have hj30 : ∀ (H : Heap) (locs : List Loc) (ls : Array Slot), lv_has ls 4 [(0, .ref (ad 0)), (1, .int c), (2, .int what), (3, .int v)] → mG D cI ad zA H0 H locs M → W zp zl ze ({ frames := 2, cells := 0, slots := 0, locals := 43 } : Room) zs zm zg zb zt zc H locs 0 0 zQ (F0 zm 30 ls [.int y30, .int 0, .int v]) := by
        intro H locs ls hl G
        refine mr_calls C hA G (ks_in zl v 0 y30) (va_cwS 3 C.2.2.2.2.1 gX9_sow_X9_in rfl rfl rfl (by decide +kernel) ⟨Nat.le_of_ble_eq_true rfl, Nat.le_of_ble_eq_true rfl⟩) rfl hl.1 rfl (Nat.le_of_ble_eq_true rfl) dX9_sow_30 ⟨Nat.le_refl _, Nat.le_refl _⟩ (fun H locs G => ?_)
        refine lv_if_ne (tgt := 43) hx hb dX9_sow_33 (by decide) (fun c33 => ?_) (fun c33 => ?_)
        · rw [if_neg c33] at hF
          refine lv_aload_n hx hb dX9_sow_43 rfl (lv_at hl 0 rfl) ?_
          refine lv_iload_n hx hb dX9_sow_44 rfl (lv_at hl 2 rfl) ?_
          refine lv_if_ne (tgt := 55) hx hb dX9_sow_45 (by decide) (fun c45 => ?_) (fun c45 => ?_)
          · rw [if_neg c45] at hF
            refine lv_bipush (v := 22) hx hb dX9_sow_55 (by decide) ?_
            refine lv_iload_n hx hb dX9_sow_57 rfl (lv_at hl 1 rfl) ?_
            refine lv_iadd hx hb dX9_sow_58 ?_
            refine lv_iload_n hx hb dX9_sow_59 rfl (lv_at hl 3 rfl) ?_
            obtain ⟨x60, M60, hx60⟩ : ∃ (X : Int32) (Y : mS), (X, Y) = mF_becomes M (22 + (vn c)) v := ⟨_, _, rfl⟩
            refine mr_calli (r0 := x60) (M2 := M60) C hA G (by rw [hx60]; exact (k_becomes zl D cI ad M (22 + (vn c)) v (by first | assumption | omega))) (cwV 2 C.2.2.2.2.1 gX9_sow_X9_becomes rfl rfl rfl (by decide +kernel) ⟨Nat.le_of_ble_eq_true rfl, Nat.le_of_ble_eq_true rfl⟩) rfl hl.1 (cons_int rfl (cons_int (nt_add rfl hc.1) rfl)) (Nat.le_of_ble_eq_true rfl) dX9_sow_60 ⟨Nat.le_refl _, Nat.le_refl _⟩ (fun H locs G => ?_)
            rw [lt2_e hx60] at hF
            exact hret _ _ _ _ _ _ hF G dX9_sow_63
          · rw [if_pos c45] at hF
            refine lv_bipush (v := 12) hx hb dX9_sow_48 (by decide) ?_
            refine lv_iload_n hx hb dX9_sow_50 rfl (lv_at hl 1 rfl) ?_
            refine lv_iadd hx hb dX9_sow_51 ?_
            refine lv_goto (tgt := 59) hx hb dX9_sow_52 (by decide) ?_
            refine lv_iload_n hx hb dX9_sow_59 rfl (lv_at hl 3 rfl) ?_
            obtain ⟨x60, M60, hx60⟩ : ∃ (X : Int32) (Y : mS), (X, Y) = mF_becomes M (12 + (vn c)) v := ⟨_, _, rfl⟩
            refine mr_calli (r0 := x60) (M2 := M60) C hA G (by rw [hx60]; exact (k_becomes zl D cI ad M (12 + (vn c)) v (by first | assumption | omega))) (cwV 2 C.2.2.2.2.1 gX9_sow_X9_becomes rfl rfl rfl (by decide +kernel) ⟨Nat.le_of_ble_eq_true rfl, Nat.le_of_ble_eq_true rfl⟩) rfl hl.1 (cons_int rfl (cons_int (nt_add rfl hc.1) rfl)) (Nat.le_of_ble_eq_true rfl) dX9_sow_60 ⟨Nat.le_refl _, Nat.le_refl _⟩ (fun H locs G => ?_)
            rw [lt2_e hx60] at hF
            exact hret _ _ _ _ _ _ hF G dX9_sow_63
        · rw [if_pos c33] at hF
          refine lv_aload_n hx hb dX9_sow_36 rfl (lv_at hl 0 rfl) ?_
          refine lv_ldc (v := -1000000001) hx hb C.2.2.2.1 (C.2.2.2.2.1 (.constant RX9 58 (-1000000001)) (by decide +kernel)) dX9_sow_37 ?_
          obtain ⟨x39, M39, hx39⟩ : ∃ (X : Int32) (Y : mS), (X, Y) = mF_errs M (-1000000001) := ⟨_, _, rfl⟩
          refine mr_calli (r0 := x39) (M2 := M39) C hA G (by rw [hx39]; exact (k_errs zl D cI ad M (-1000000001) (by unfold vp_in; decide))) (cwV 1 C.2.2.2.2.1 gX9_sow_X9_errs rfl rfl rfl (by decide +kernel) ⟨Nat.le_of_ble_eq_true rfl, Nat.le_of_ble_eq_true rfl⟩) rfl hl.1 rfl (Nat.le_of_ble_eq_true rfl) dX9_sow_39 ⟨Nat.le_refl _, Nat.le_refl _⟩ (fun H locs G => ?_)
          rw [lt2_e hx39] at hF
          exact hret _ _ _ _ _ _ hF G dX9_sow_42
      refine lv_if_ne (tgt := 28) hx hb dX9_sow_20 (by decide) (fun c20 => ?_) (fun c20 => ?_)
      · rw [if_neg c20] at hX30
        refine lv_bipush (v := 99) hx hb dX9_sow_28 (by decide) ?_
        subst hX30
        exact hj30 _ _ _ (lv_sub hl [0, 1, 2, 3] rfl) G
      · rw [if_pos c20] at hX30
        refine lv_ldc (v := 99999) hx hb C.2.2.2.1 (C.2.2.2.2.1 (.constant RX9 72 (99999)) (by decide +kernel)) dX9_sow_23 ?_
        refine lv_goto (tgt := 30) hx hb dX9_sow_25 (by decide) ?_
        subst hX30
        exact hj30 _ _ _ (lv_sub hl [0, 1, 2, 3] rfl) G
set_option maxRecDepth 100000 in
set_option maxHeartbeats 4000000 in
theorem k_lay (zl : Launch) (D : va_G) (cI : ClassId) (ad : Nat → Nat) (M : mS) (what : Int32) (v : Int32) : mM zl D cI ad yX9_lay wsX9_lay ({ frames := 1, cells := 0, slots := 0, locals := 23 } : Room) [.int what, .int v] M (mF_lay M what v) := by
  have hin : ∀ w ∈ wsX90, w ∈ wsX9_lay := fun w h => List.mem_cons_of_mem _ (List.mem_append_right _ h)
  refine mM_of (cc := cX9_lay) (nL := 3) (by decide) rfl rfl (Nat.le_of_ble_eq_true rfl) ?_
  intro zp ze zs zm zg zb zt zc zA H0 zQ C hA hret H locs ls hl G
  have hx := C.1
  have hb := C.2.1
  have hl : lv_has ls 3 [(0, .ref (ad 0)), (1, .int what), (2, .int v)] := hl
  obtain ⟨rM, hF⟩ : ∃ X : Int32 × mS, X = mF_lay M what v := ⟨_, rfl⟩
  rw [← hF] at hret
  unfold mF_lay at hF
  refine lv_iload_n hx hb dX9_lay_0 rfl (lv_at hl 1 rfl) ?_
  by_cases c1_0 : what = 0
  · rw [if_pos c1_0] at hF
    refine lv_tableIn (off := 27) (tgt := 28) hx hb dX9_lay_1 (by rw [c1_0]; decide) (by rw [c1_0]; decide) (by rw [c1_0]; rfl) (by decide) ?_
    refine lv_iload_n hx hb dX9_lay_28 rfl (lv_at hl 2 rfl) ?_
    refine lv_iconst (v := 0) hx hb dX9_lay_29 (by decide) ?_
    refine lv_iconst (v := 1) hx hb dX9_lay_30 (by decide) ?_
    refine lv_aload_n hx hb dX9_lay_31 rfl (lv_at hl 0 rfl) ?_
    refine mr_get C G hin 0 (by decide) rfl (show Cond.fieldLink RX9 7 "WheatCountsModel" "row" "[I" ∈ _ by decide +kernel) (fun _ => rfl) dX9_lay_32 ?_
    refine lv_iconst (v := 3) hx hb dX9_lay_35 (by decide) ?_
    refine mr_ald C G 1 (fun _ => rfl) 3 rfl (by omega) (Nat.le_of_ble_eq_true rfl) dX9_lay_36 ?_
    refine lv_iconst (v := 1) hx hb dX9_lay_37 (by decide) ?_
    refine lv_isub hx hb dX9_lay_38 ?_
    refine lv_ishl hx hb dX9_lay_39 ?_
    refine lv_iconst (v := 1) hx hb dX9_lay_40 (by decide) ?_
    refine lv_isub hx hb dX9_lay_41 ?_
    refine mr_calls C hA G (ks_in zl v 0 ((1 <<< (((M 1 3) - 1) &&& 31)) - 1)) (va_cwS 3 C.2.2.2.2.1 gX9_lay_X9_in rfl rfl rfl (by decide +kernel) ⟨Nat.le_of_ble_eq_true rfl, Nat.le_of_ble_eq_true rfl⟩) rfl hl.1 rfl (Nat.le_of_ble_eq_true rfl) dX9_lay_42 ⟨Nat.le_refl _, Nat.le_refl _⟩ (fun H locs G => ?_)
    refine lv_if_eq (tgt := 58) hx hb dX9_lay_45 (by decide) (fun c45 => ?_) (fun c45 => ?_)
    · rw [if_pos c45] at hF
      refine lv_aload_n hx hb dX9_lay_58 rfl (lv_at hl 0 rfl) ?_
      refine lv_ldc (v := -1000000001) hx hb C.2.2.2.1 (C.2.2.2.2.1 (.constant RX9 58 (-1000000001)) (by decide +kernel)) dX9_lay_59 ?_
      obtain ⟨x61, M61, hx61⟩ : ∃ (X : Int32) (Y : mS), (X, Y) = mF_errs M (-1000000001) := ⟨_, _, rfl⟩
      refine mr_calli (r0 := x61) (M2 := M61) C hA G (by rw [hx61]; exact (k_errs zl D cI ad M (-1000000001) (by unfold vp_in; decide))) (cwV 1 C.2.2.2.2.1 gX9_lay_X9_errs rfl rfl rfl (by decide +kernel) ⟨Nat.le_of_ble_eq_true rfl, Nat.le_of_ble_eq_true rfl⟩) rfl hl.1 rfl (Nat.le_of_ble_eq_true rfl) dX9_lay_61 ⟨Nat.le_refl _, Nat.le_refl _⟩ (fun H locs G => ?_)
      rw [lt2_e hx61] at hF
      exact hret _ _ _ _ _ _ hF G dX9_lay_64
    · rw [if_neg c45] at hF
      refine lv_aload_n hx hb dX9_lay_48 rfl (lv_at hl 0 rfl) ?_
      refine lv_bipush (v := 9) hx hb dX9_lay_49 (by decide) ?_
      refine lv_iload_n hx hb dX9_lay_51 rfl (lv_at hl 2 rfl) ?_
      obtain ⟨x52, M52, hx52⟩ : ∃ (X : Int32) (Y : mS), (X, Y) = mF_becomes M 9 v := ⟨_, _, rfl⟩
      refine mr_calli (r0 := x52) (M2 := M52) C hA G (by rw [hx52]; exact (k_becomes zl D cI ad M 9 v (by first | assumption | omega))) (cwV 2 C.2.2.2.2.1 gX9_lay_X9_becomes rfl rfl rfl (by decide +kernel) ⟨Nat.le_of_ble_eq_true rfl, Nat.le_of_ble_eq_true rfl⟩) rfl hl.1 rfl (Nat.le_of_ble_eq_true rfl) dX9_lay_52 ⟨Nat.le_refl _, Nat.le_refl _⟩ (fun H locs G => ?_)
      rw [lt2_e hx52] at hF
      refine lv_goto (tgt := 64) hx hb dX9_lay_55 (by decide) ?_
      exact hret _ _ _ _ _ _ hF G dX9_lay_64
  · rw [if_neg c1_0] at hF
    by_cases c1_1 : what = 1
    · rw [if_pos c1_1] at hF
      refine lv_tableIn (off := 64) (tgt := 65) hx hb dX9_lay_1 (by rw [c1_1]; decide) (by rw [c1_1]; decide) (by rw [c1_1]; rfl) (by decide) ?_
      refine lv_iload_n hx hb dX9_lay_65 rfl (lv_at hl 2 rfl) ?_
      refine lv_iconst (v := 0) hx hb dX9_lay_66 (by decide) ?_
      refine lv_iconst (v := 1) hx hb dX9_lay_67 (by decide) ?_
      refine lv_aload_n hx hb dX9_lay_68 rfl (lv_at hl 0 rfl) ?_
      refine mr_get C G hin 0 (by decide) rfl (show Cond.fieldLink RX9 7 "WheatCountsModel" "row" "[I" ∈ _ by decide +kernel) (fun _ => rfl) dX9_lay_69 ?_
      refine lv_iconst (v := 3) hx hb dX9_lay_72 (by decide) ?_
      refine mr_ald C G 1 (fun _ => rfl) 3 rfl (by omega) (Nat.le_of_ble_eq_true rfl) dX9_lay_73 ?_
      refine lv_ishl hx hb dX9_lay_74 ?_
      refine lv_iconst (v := 1) hx hb dX9_lay_75 (by decide) ?_
      refine lv_isub hx hb dX9_lay_76 ?_
      refine mr_calls C hA G (ks_in zl v 0 ((1 <<< ((M 1 3) &&& 31)) - 1)) (va_cwS 3 C.2.2.2.2.1 gX9_lay_X9_in rfl rfl rfl (by decide +kernel) ⟨Nat.le_of_ble_eq_true rfl, Nat.le_of_ble_eq_true rfl⟩) rfl hl.1 rfl (Nat.le_of_ble_eq_true rfl) dX9_lay_77 ⟨Nat.le_refl _, Nat.le_refl _⟩ (fun H locs G => ?_)
      refine lv_if_eq (tgt := 93) hx hb dX9_lay_80 (by decide) (fun c80 => ?_) (fun c80 => ?_)
      · rw [if_pos c80] at hF
        refine lv_aload_n hx hb dX9_lay_93 rfl (lv_at hl 0 rfl) ?_
        refine lv_ldc (v := -1000000001) hx hb C.2.2.2.1 (C.2.2.2.2.1 (.constant RX9 58 (-1000000001)) (by decide +kernel)) dX9_lay_94 ?_
        obtain ⟨x96, M96, hx96⟩ : ∃ (X : Int32) (Y : mS), (X, Y) = mF_errs M (-1000000001) := ⟨_, _, rfl⟩
        refine mr_calli (r0 := x96) (M2 := M96) C hA G (by rw [hx96]; exact (k_errs zl D cI ad M (-1000000001) (by unfold vp_in; decide))) (cwV 1 C.2.2.2.2.1 gX9_lay_X9_errs rfl rfl rfl (by decide +kernel) ⟨Nat.le_of_ble_eq_true rfl, Nat.le_of_ble_eq_true rfl⟩) rfl hl.1 rfl (Nat.le_of_ble_eq_true rfl) dX9_lay_96 ⟨Nat.le_refl _, Nat.le_refl _⟩ (fun H locs G => ?_)
        rw [lt2_e hx96] at hF
        exact hret _ _ _ _ _ _ hF G dX9_lay_99
      · rw [if_neg c80] at hF
        refine lv_aload_n hx hb dX9_lay_83 rfl (lv_at hl 0 rfl) ?_
        refine lv_bipush (v := 10) hx hb dX9_lay_84 (by decide) ?_
        refine lv_iload_n hx hb dX9_lay_86 rfl (lv_at hl 2 rfl) ?_
        obtain ⟨x87, M87, hx87⟩ : ∃ (X : Int32) (Y : mS), (X, Y) = mF_becomes M 10 v := ⟨_, _, rfl⟩
        refine mr_calli (r0 := x87) (M2 := M87) C hA G (by rw [hx87]; exact (k_becomes zl D cI ad M 10 v (by first | assumption | omega))) (cwV 2 C.2.2.2.2.1 gX9_lay_X9_becomes rfl rfl rfl (by decide +kernel) ⟨Nat.le_of_ble_eq_true rfl, Nat.le_of_ble_eq_true rfl⟩) rfl hl.1 rfl (Nat.le_of_ble_eq_true rfl) dX9_lay_87 ⟨Nat.le_refl _, Nat.le_refl _⟩ (fun H locs G => ?_)
        rw [lt2_e hx87] at hF
        refine lv_goto (tgt := 99) hx hb dX9_lay_90 (by decide) ?_
        exact hret _ _ _ _ _ _ hF G dX9_lay_99
    · rw [if_neg c1_1] at hF
      by_cases c1_2 : what = 2
      · rw [if_pos c1_2] at hF
        refine lv_tableIn (off := 99) (tgt := 100) hx hb dX9_lay_1 (by rw [c1_2]; decide) (by rw [c1_2]; decide) (by rw [c1_2]; rfl) (by decide) ?_
        refine lv_iload_n hx hb dX9_lay_100 rfl (lv_at hl 2 rfl) ?_
        refine lv_iconst (v := 0) hx hb dX9_lay_101 (by decide) ?_
        refine lv_bipush (v := 9) hx hb dX9_lay_102 (by decide) ?_
        refine mr_calls C hA G (ks_in zl v 0 9) (va_cwS 3 C.2.2.2.2.1 gX9_lay_X9_in rfl rfl rfl (by decide +kernel) ⟨Nat.le_of_ble_eq_true rfl, Nat.le_of_ble_eq_true rfl⟩) rfl hl.1 rfl (Nat.le_of_ble_eq_true rfl) dX9_lay_104 ⟨Nat.le_refl _, Nat.le_refl _⟩ (fun H locs G => ?_)
        refine lv_if_eq (tgt := 119) hx hb dX9_lay_107 (by decide) (fun c107 => ?_) (fun c107 => ?_)
        · rw [if_pos c107] at hF
          refine lv_aload_n hx hb dX9_lay_119 rfl (lv_at hl 0 rfl) ?_
          refine lv_ldc (v := -1000000001) hx hb C.2.2.2.1 (C.2.2.2.2.1 (.constant RX9 58 (-1000000001)) (by decide +kernel)) dX9_lay_120 ?_
          obtain ⟨x122, M122, hx122⟩ : ∃ (X : Int32) (Y : mS), (X, Y) = mF_errs M (-1000000001) := ⟨_, _, rfl⟩
          refine mr_calli (r0 := x122) (M2 := M122) C hA G (by rw [hx122]; exact (k_errs zl D cI ad M (-1000000001) (by unfold vp_in; decide))) (cwV 1 C.2.2.2.2.1 gX9_lay_X9_errs rfl rfl rfl (by decide +kernel) ⟨Nat.le_of_ble_eq_true rfl, Nat.le_of_ble_eq_true rfl⟩) rfl hl.1 rfl (Nat.le_of_ble_eq_true rfl) dX9_lay_122 ⟨Nat.le_refl _, Nat.le_refl _⟩ (fun H locs G => ?_)
          rw [lt2_e hx122] at hF
          exact hret _ _ _ _ _ _ hF G dX9_lay_125
        · rw [if_neg c107] at hF
          refine lv_aload_n hx hb dX9_lay_110 rfl (lv_at hl 0 rfl) ?_
          refine lv_iconst (v := 1) hx hb dX9_lay_111 (by decide) ?_
          refine lv_iload_n hx hb dX9_lay_112 rfl (lv_at hl 2 rfl) ?_
          obtain ⟨x113, M113, hx113⟩ : ∃ (X : Int32) (Y : mS), (X, Y) = mF_becomes M 1 v := ⟨_, _, rfl⟩
          refine mr_calli (r0 := x113) (M2 := M113) C hA G (by rw [hx113]; exact (k_becomes zl D cI ad M 1 v (by first | assumption | omega))) (cwV 2 C.2.2.2.2.1 gX9_lay_X9_becomes rfl rfl rfl (by decide +kernel) ⟨Nat.le_of_ble_eq_true rfl, Nat.le_of_ble_eq_true rfl⟩) rfl hl.1 rfl (Nat.le_of_ble_eq_true rfl) dX9_lay_113 ⟨Nat.le_refl _, Nat.le_refl _⟩ (fun H locs G => ?_)
          rw [lt2_e hx113] at hF
          refine lv_goto (tgt := 125) hx hb dX9_lay_116 (by decide) ?_
          exact hret _ _ _ _ _ _ hF G dX9_lay_125
      · rw [if_neg c1_2] at hF
        refine lv_tableOut (tgt := 126) hx hb dX9_lay_1 (sw_out (fun i h1 h2 => by rcases (show i = 0 ∨ i = 1 ∨ i = 2 by omega) with rfl | rfl | rfl <;> first | exact fun e9 => c1_0 (Int32.toInt_inj.mp e9) | exact fun e9 => c1_1 (Int32.toInt_inj.mp e9) | exact fun e9 => c1_2 (Int32.toInt_inj.mp e9))) (by decide) ?_
        refine lv_aload_n hx hb dX9_lay_126 rfl (lv_at hl 0 rfl) ?_
        refine lv_ldc (v := -1000000001) hx hb C.2.2.2.1 (C.2.2.2.2.1 (.constant RX9 58 (-1000000001)) (by decide +kernel)) dX9_lay_127 ?_
        obtain ⟨x129, M129, hx129⟩ : ∃ (X : Int32) (Y : mS), (X, Y) = mF_errs M (-1000000001) := ⟨_, _, rfl⟩
        refine mr_calli (r0 := x129) (M2 := M129) C hA G (by rw [hx129]; exact (k_errs zl D cI ad M (-1000000001) (by unfold vp_in; decide))) (cwV 1 C.2.2.2.2.1 gX9_lay_X9_errs rfl rfl rfl (by decide +kernel) ⟨Nat.le_of_ble_eq_true rfl, Nat.le_of_ble_eq_true rfl⟩) rfl hl.1 rfl (Nat.le_of_ble_eq_true rfl) dX9_lay_129 ⟨Nat.le_refl _, Nat.le_refl _⟩ (fun H locs G => ?_)
        rw [lt2_e hx129] at hF
        exact hret _ _ _ _ _ _ hF G dX9_lay_132
set_option maxRecDepth 100000 in
set_option maxHeartbeats 4000000 in
theorem k_person (zl : Launch) (D : va_G) (cI : ClassId) (ad : Nat → Nat) (M : mS) (km : Int32) (c : Int32) (hC : cOK M) (hP : pOK M) : mM zl D cI ad yX9_person wsX9_person ({ frames := 2, cells := 0, slots := 0, locals := 43 } : Room) [.int km, .int c] M (mF_person M km c) := by
  have hin : ∀ w ∈ wsX90, w ∈ wsX9_person := fun w h => List.mem_cons_of_mem _ (List.mem_append_right _ h)
  refine mM_of (cc := cX9_person) (nL := 4) (by decide) rfl rfl (Nat.le_of_ble_eq_true rfl) ?_
  intro zp ze zs zm zg zb zt zc zA H0 zQ C hA hret H locs ls hl G
  have hx := C.1
  have hb := C.2.1
  have hl : lv_has ls 4 [(0, .ref (ad 0)), (1, .int km), (2, .int c)] := hl
  obtain ⟨rM, hF⟩ : ∃ X : Int32 × mS, X = mF_person M km c := ⟨_, rfl⟩
  rw [← hF] at hret
  unfold mF_person at hF
  have hC1 := hC.1
  have hC2 := hC.2.1
  have hC3 := hC.2.2
  have hP1 := hP.1
  have hP2 := hP.2
  refine lv_iload_n hx hb dX9_person_0 rfl (lv_at hl 1 rfl) ?_
  refine lv_iconst (v := 0) hx hb dX9_person_1 (by decide) ?_
  refine lv_bipush (v := 69) hx hb dX9_person_2 (by decide) ?_
  refine mr_calls C hA G (ks_in zl km 0 69) (va_cwS 3 C.2.2.2.2.1 gX9_person_X9_in rfl rfl rfl (by decide +kernel) ⟨Nat.le_of_ble_eq_true rfl, Nat.le_of_ble_eq_true rfl⟩) rfl hl.1 rfl (Nat.le_of_ble_eq_true rfl) dX9_person_4 ⟨Nat.le_refl _, Nat.le_refl _⟩ (fun H locs G => ?_)
  refine lv_if_eq (tgt := 18) hx hb dX9_person_7 (by decide) (fun c7 => ?_) (fun c7 => ?_)
  · rw [if_pos c7] at hF
    refine lv_aload_n hx hb dX9_person_18 rfl (lv_at hl 0 rfl) ?_
    refine lv_ldc (v := -1000000001) hx hb C.2.2.2.1 (C.2.2.2.2.1 (.constant RX9 58 (-1000000001)) (by decide +kernel)) dX9_person_19 ?_
    obtain ⟨x21, M21, hx21⟩ : ∃ (X : Int32) (Y : mS), (X, Y) = mF_errs M (-1000000001) := ⟨_, _, rfl⟩
    refine mr_calli (r0 := x21) (M2 := M21) C hA G (by rw [hx21]; exact (k_errs zl D cI ad M (-1000000001) (by unfold vp_in; decide))) (cwV 1 C.2.2.2.2.1 gX9_person_X9_errs rfl rfl rfl (by decide +kernel) ⟨Nat.le_of_ble_eq_true rfl, Nat.le_of_ble_eq_true rfl⟩) rfl hl.1 rfl (Nat.le_of_ble_eq_true rfl) dX9_person_21 ⟨Nat.le_refl _, Nat.le_refl _⟩ (fun H locs G => ?_)
    rw [lt2_e hx21] at hF
    exact hret _ _ _ _ _ _ hF G dX9_person_24
  · rw [if_neg c7] at hF
    refine lv_aload_n hx hb dX9_person_10 rfl (lv_at hl 0 rfl) ?_
    refine lv_iload_n hx hb dX9_person_11 rfl (lv_at hl 2 rfl) ?_
    refine mr_calli C hA G (k_isCell zl D cI ad M c) (cwV 1 C.2.2.2.2.1 gX9_person_X9_isCell rfl rfl rfl (by decide +kernel) ⟨Nat.le_of_ble_eq_true rfl, Nat.le_of_ble_eq_true rfl⟩) rfl hl.1 rfl (Nat.le_of_ble_eq_true rfl) dX9_person_12 ⟨Nat.le_refl _, Nat.le_refl _⟩ (fun H locs G => ?_)
    refine lv_if_ne (tgt := 25) hx hb dX9_person_15 (by decide) (fun c15 => ?_) (fun c15 => ?_)
    · rw [if_neg c15] at hF
      refine lv_aload_n hx hb dX9_person_25 rfl (lv_at hl 0 rfl) ?_
      refine mr_get C G hin 0 (by decide) rfl (show Cond.fieldLink RX9 7 "WheatCountsModel" "row" "[I" ∈ _ by decide +kernel) (fun _ => rfl) dX9_person_26 ?_
      refine lv_bipush (v := 8) hx hb dX9_person_29 (by decide) ?_
      refine mr_ald C G 1 (fun _ => rfl) 8 rfl (by omega) (Nat.le_of_ble_eq_true rfl) dX9_person_31 ?_
      refine lv_bipush (v := 8) hx hb dX9_person_32 (by decide) ?_
      refine lv_icmp_ne (tgt := 44) hx hb dX9_person_34 (by decide) (fun c34 => ?_) (fun c34 => ?_)
      · rw [if_neg c34] at hF
        refine lv_aload_n hx hb dX9_person_44 rfl (lv_at hl 0 rfl) ?_
        refine mr_get C G hin 0 (by decide) rfl (show Cond.fieldLink RX9 7 "WheatCountsModel" "row" "[I" ∈ _ by decide +kernel) (fun _ => rfl) dX9_person_45 ?_
        refine lv_bipush (v := 8) hx hb dX9_person_48 (by decide) ?_
        refine mr_ald C G 1 (fun _ => rfl) 8 rfl (by omega) (Nat.le_of_ble_eq_true rfl) dX9_person_50 ?_
        refine lv_topi (fun x51 hx51 => ?_)
        obtain rfl : x51 = nI (vn (M 1 8)) := hx51.trans hP.1
        refine lv_istore_n (lv' := [(3, .int (nI (vn (M 1 8)))), (0, .ref (ad 0)), (1, .int km), (2, .int c)]) hx hb dX9_person_51 rfl hl (by decide) rfl (fun ls hl => ?_)
        refine lv_aload_n hx hb dX9_person_52 rfl (lv_at hl 1 rfl) ?_
        refine lv_iload_n hx hb dX9_person_53 rfl (lv_at hl 0 rfl) ?_
        refine lv_iconst (v := 0) hx hb dX9_person_54 (by decide) ?_
        refine lv_iload_n hx hb dX9_person_55 rfl (lv_at hl 2 rfl) ?_
        refine lv_bipush (v := 10) hx hb dX9_person_56 (by decide) ?_
        refine lv_idiv hx hb dX9_person_58 (by decide) ?_
        refine mr_callv C hA G (k_gets zl D cI ad M (vn (M 1 8)) 0 (km / 10) (by first | assumption | omega)) (cwV 3 C.2.2.2.2.1 gX9_person_X9_gets rfl rfl rfl (by decide +kernel) ⟨Nat.le_of_ble_eq_true rfl, Nat.le_of_ble_eq_true rfl⟩) rfl hl.1 rfl (Nat.le_of_ble_eq_true rfl) dX9_person_59 ⟨Nat.le_refl _, Nat.le_refl _⟩ (fun H locs G => ?_)
        obtain ⟨M59, hM59⟩ : ∃ X : mS, X = mF_gets M (vn (M 1 8)) 0 (km / 10) := ⟨_, rfl⟩
        rw [← hM59] at G
        rw [lt_e hM59] at hF
        refine lv_aload_n hx hb dX9_person_62 rfl (lv_at hl 1 rfl) ?_
        refine lv_iload_n hx hb dX9_person_63 rfl (lv_at hl 0 rfl) ?_
        refine lv_iconst (v := 1) hx hb dX9_person_64 (by decide) ?_
        refine lv_iload_n hx hb dX9_person_65 rfl (lv_at hl 2 rfl) ?_
        refine lv_bipush (v := 10) hx hb dX9_person_66 (by decide) ?_
        refine lv_irem hx hb dX9_person_68 (by decide) ?_
        refine mr_callv C hA G (k_gets zl D cI ad M59 (vn (M 1 8)) 1 (km - km / 10 * 10) (by first | assumption | omega)) (cwV 3 C.2.2.2.2.1 gX9_person_X9_gets rfl rfl rfl (by decide +kernel) ⟨Nat.le_of_ble_eq_true rfl, Nat.le_of_ble_eq_true rfl⟩) rfl hl.1 rfl (Nat.le_of_ble_eq_true rfl) dX9_person_69 ⟨Nat.le_refl _, Nat.le_refl _⟩ (fun H locs G => ?_)
        obtain ⟨M69, hM69⟩ : ∃ X : mS, X = mF_gets M59 (vn (M 1 8)) 1 (km - km / 10 * 10) := ⟨_, rfl⟩
        rw [← hM69] at G
        rw [lt_e hM69] at hF
        refine lv_aload_n hx hb dX9_person_72 rfl (lv_at hl 1 rfl) ?_
        refine lv_iload_n hx hb dX9_person_73 rfl (lv_at hl 0 rfl) ?_
        refine lv_iconst (v := 2) hx hb dX9_person_74 (by decide) ?_
        refine lv_iload_n hx hb dX9_person_75 rfl (lv_at hl 3 rfl) ?_
        refine mr_callv C hA G (k_gets zl D cI ad M69 (vn (M 1 8)) 2 c (by first | assumption | omega)) (cwV 3 C.2.2.2.2.1 gX9_person_X9_gets rfl rfl rfl (by decide +kernel) ⟨Nat.le_of_ble_eq_true rfl, Nat.le_of_ble_eq_true rfl⟩) rfl hl.1 rfl (Nat.le_of_ble_eq_true rfl) dX9_person_76 ⟨Nat.le_refl _, Nat.le_refl _⟩ (fun H locs G => ?_)
        obtain ⟨M76, hM76⟩ : ∃ X : mS, X = mF_gets M69 (vn (M 1 8)) 2 c := ⟨_, rfl⟩
        rw [← hM76] at G
        rw [lt_e hM76] at hF
        refine lv_aload_n hx hb dX9_person_79 rfl (lv_at hl 1 rfl) ?_
        refine lv_iload_n hx hb dX9_person_80 rfl (lv_at hl 0 rfl) ?_
        refine lv_iconst (v := 3) hx hb dX9_person_81 (by decide) ?_
        refine lv_iconst (v := 0) hx hb dX9_person_82 (by decide) ?_
        refine mr_callv C hA G (k_gets zl D cI ad M76 (vn (M 1 8)) 3 0 (by first | assumption | omega)) (cwV 3 C.2.2.2.2.1 gX9_person_X9_gets rfl rfl rfl (by decide +kernel) ⟨Nat.le_of_ble_eq_true rfl, Nat.le_of_ble_eq_true rfl⟩) rfl hl.1 rfl (Nat.le_of_ble_eq_true rfl) dX9_person_83 ⟨Nat.le_refl _, Nat.le_refl _⟩ (fun H locs G => ?_)
        obtain ⟨M83, hM83⟩ : ∃ X : mS, X = mF_gets M76 (vn (M 1 8)) 3 0 := ⟨_, rfl⟩
        rw [← hM83] at G
        rw [lt_e hM83] at hF
        refine lv_aload_n hx hb dX9_person_86 rfl (lv_at hl 1 rfl) ?_
        refine mr_get C G hin 0 (by decide) rfl (show Cond.fieldLink RX9 7 "WheatCountsModel" "row" "[I" ∈ _ by decide +kernel) (fun _ => rfl) dX9_person_87 ?_
        refine lv_bipush (v := 8) hx hb dX9_person_90 (by decide) ?_
        refine lv_dup2_11 hx hb dX9_person_92 rfl rfl ?_
        refine mr_ald C G 1 (fun _ => rfl) 8 rfl (by omega) (Nat.le_of_ble_eq_true rfl) dX9_person_93 ?_
        refine lv_iconst (v := 1) hx hb dX9_person_94 (by decide) ?_
        refine lv_iadd hx hb dX9_person_95 ?_
        refine mr_ast C G 1 (fun _ => rfl) 8 rfl (by omega) (Nat.le_of_ble_eq_true rfl) (fun _ => rfl) dX9_person_96 (fun H locs G => ?_)
        obtain ⟨M96, hM96⟩ : ∃ X : mS, X = mU M83 1 8 ((M83 1 8) + 1) := ⟨_, rfl⟩
        rw [← hM96] at G
        rw [lt_e hM96] at hF
        refine lv_iload_n hx hb dX9_person_97 rfl (lv_at hl 0 rfl) ?_
        exact hret _ _ _ _ _ _ hF G dX9_person_98
      · rw [if_pos c34] at hF
        refine lv_aload_n hx hb dX9_person_37 rfl (lv_at hl 0 rfl) ?_
        refine lv_ldc (v := -1000000004) hx hb C.2.2.2.1 (C.2.2.2.2.1 (.constant RX9 89 (-1000000004)) (by decide +kernel)) dX9_person_38 ?_
        obtain ⟨x40, M40, hx40⟩ : ∃ (X : Int32) (Y : mS), (X, Y) = mF_errs M (-1000000004) := ⟨_, _, rfl⟩
        refine mr_calli (r0 := x40) (M2 := M40) C hA G (by rw [hx40]; exact (k_errs zl D cI ad M (-1000000004) (by unfold vp_in; decide))) (cwV 1 C.2.2.2.2.1 gX9_person_X9_errs rfl rfl rfl (by decide +kernel) ⟨Nat.le_of_ble_eq_true rfl, Nat.le_of_ble_eq_true rfl⟩) rfl hl.1 rfl (Nat.le_of_ble_eq_true rfl) dX9_person_40 ⟨Nat.le_refl _, Nat.le_refl _⟩ (fun H locs G => ?_)
        rw [lt2_e hx40] at hF
        exact hret _ _ _ _ _ _ hF G dX9_person_43
    · rw [if_pos c15] at hF
      refine lv_aload_n hx hb dX9_person_18 rfl (lv_at hl 0 rfl) ?_
      refine lv_ldc (v := -1000000001) hx hb C.2.2.2.1 (C.2.2.2.2.1 (.constant RX9 58 (-1000000001)) (by decide +kernel)) dX9_person_19 ?_
      obtain ⟨x21, M21, hx21⟩ : ∃ (X : Int32) (Y : mS), (X, Y) = mF_errs M (-1000000001) := ⟨_, _, rfl⟩
      refine mr_calli (r0 := x21) (M2 := M21) C hA G (by rw [hx21]; exact (k_errs zl D cI ad M (-1000000001) (by unfold vp_in; decide))) (cwV 1 C.2.2.2.2.1 gX9_person_X9_errs rfl rfl rfl (by decide +kernel) ⟨Nat.le_of_ble_eq_true rfl, Nat.le_of_ble_eq_true rfl⟩) rfl hl.1 rfl (Nat.le_of_ble_eq_true rfl) dX9_person_21 ⟨Nat.le_refl _, Nat.le_refl _⟩ (fun H locs G => ?_)
      rw [lt2_e hx21] at hF
      exact hret _ _ _ _ _ _ hF G dX9_person_24
set_option maxRecDepth 100000 in
set_option maxHeartbeats 4000000 in
theorem k_lead (zl : Launch) (D : va_G) (cI : ClassId) (ad : Nat → Nat) (M : mS) (q : Int32) (what : Int32) (v : Int32) (hC : cOK M) (hP : pOK M) : mM zl D cI ad yX9_lead wsX9_lead ({ frames := 2, cells := 0, slots := 0, locals := 43 } : Room) [.int q, .int what, .int v] M (mF_lead M q what v) := by
  have hin : ∀ w ∈ wsX90, w ∈ wsX9_lead := fun w h => List.mem_cons_of_mem _ (List.mem_append_right _ h)
  refine mM_of (cc := cX9_lead) (nL := 5) (by decide) rfl rfl (Nat.le_of_ble_eq_true rfl) ?_
  intro zp ze zs zm zg zb zt zc zA H0 zQ C hA hret H locs ls hl G
  have hx := C.1
  have hb := C.2.1
  have hl : lv_has ls 5 [(0, .ref (ad 0)), (1, .int q), (2, .int what), (3, .int v)] := hl
  obtain ⟨rM, hF⟩ : ∃ X : Int32 × mS, X = mF_lead M q what v := ⟨_, rfl⟩
  rw [← hF] at hret
  unfold mF_lead at hF
  have hC1 := hC.1
  have hC2 := hC.2.1
  have hC3 := hC.2.2
  have hP1 := hP.1
  have hP2 := hP.2
  refine lv_iload_n hx hb dX9_lead_0 rfl (lv_at hl 2 rfl) ?_
  obtain ⟨y31, hX31⟩ : ∃ (y31 : Int32), y31 = ((if what = 0 then (mF_isCell M v) else (if what = 1 then (if (sF_in v (-1) 1) = 0 then 0 else 1) else 0)) : Int32) := ⟨_, rfl⟩
  rw [lt_e hX31] at hF
  have hj31 : ∀ (H : Heap) (locs : List Loc) (ls : Array Slot), lv_has ls 5 [(0, .ref (ad 0)), (1, .int q), (2, .int what), (3, .int v)] → mG D cI ad zA H0 H locs M → W zp zl ze ({ frames := 2, cells := 0, slots := 0, locals := 43 } : Room) zs zm zg zb zt zc H locs 0 0 zQ (F0 zm 31 ls [.int y31]) := by
    intro H locs ls hl G
    refine lv_istore (lv' := [(4, .int y31), (0, .ref (ad 0)), (1, .int q), (2, .int what), (3, .int v)]) hx hb dX9_lead_31 hl (by decide) rfl (fun ls hl => ?_)
    refine lv_aload_n hx hb dX9_lead_33 rfl (lv_at hl 1 rfl) ?_
    refine lv_iload_n hx hb dX9_lead_34 rfl (lv_at hl 2 rfl) ?_
    refine mr_calli C hA G (k_isPerson zl D cI ad M q) (cwV 1 C.2.2.2.2.1 gX9_lead_X9_isPerson rfl rfl rfl (by decide +kernel) ⟨Nat.le_of_ble_eq_true rfl, Nat.le_of_ble_eq_true rfl⟩) rfl hl.1 rfl (Nat.le_of_ble_eq_true rfl) dX9_lead_35 ⟨Nat.le_refl _, Nat.le_refl _⟩ (fun H locs G => ?_)
    refine lv_if_eq (tgt := 64) hx hb dX9_lead_38 (by decide) (fun c38 => ?_) (fun c38 => ?_)
    · rw [if_pos c38] at hF
      refine lv_aload_n hx hb dX9_lead_64 rfl (lv_at hl 1 rfl) ?_
      refine lv_ldc (v := -1000000001) hx hb C.2.2.2.1 (C.2.2.2.2.1 (.constant RX9 58 (-1000000001)) (by decide +kernel)) dX9_lead_65 ?_
      obtain ⟨x67, M67, hx67⟩ : ∃ (X : Int32) (Y : mS), (X, Y) = mF_errs M (-1000000001) := ⟨_, _, rfl⟩
      refine mr_calli (r0 := x67) (M2 := M67) C hA G (by rw [hx67]; exact (k_errs zl D cI ad M (-1000000001) (by unfold vp_in; decide))) (cwV 1 C.2.2.2.2.1 gX9_lead_X9_errs rfl rfl rfl (by decide +kernel) ⟨Nat.le_of_ble_eq_true rfl, Nat.le_of_ble_eq_true rfl⟩) rfl hl.1 rfl (Nat.le_of_ble_eq_true rfl) dX9_lead_67 ⟨Nat.le_refl _, Nat.le_refl _⟩ (fun H locs G => ?_)
      rw [lt2_e hx67] at hF
      exact hret _ _ _ _ _ _ hF G dX9_lead_70
    · rw [if_neg c38] at hF
      have hp := person_of hP c38
      have hp2 := hp.2
      refine lv_iload hx hb dX9_lead_41 (lv_at hl 0 rfl) ?_
      refine lv_if_eq (tgt := 64) hx hb dX9_lead_43 (by decide) (fun c43 => ?_) (fun c43 => ?_)
      · rw [if_pos c43] at hF
        refine lv_aload_n hx hb dX9_lead_64 rfl (lv_at hl 1 rfl) ?_
        refine lv_ldc (v := -1000000001) hx hb C.2.2.2.1 (C.2.2.2.2.1 (.constant RX9 58 (-1000000001)) (by decide +kernel)) dX9_lead_65 ?_
        obtain ⟨x67, M67, hx67⟩ : ∃ (X : Int32) (Y : mS), (X, Y) = mF_errs M (-1000000001) := ⟨_, _, rfl⟩
        refine mr_calli (r0 := x67) (M2 := M67) C hA G (by rw [hx67]; exact (k_errs zl D cI ad M (-1000000001) (by unfold vp_in; decide))) (cwV 1 C.2.2.2.2.1 gX9_lead_X9_errs rfl rfl rfl (by decide +kernel) ⟨Nat.le_of_ble_eq_true rfl, Nat.le_of_ble_eq_true rfl⟩) rfl hl.1 rfl (Nat.le_of_ble_eq_true rfl) dX9_lead_67 ⟨Nat.le_refl _, Nat.le_refl _⟩ (fun H locs G => ?_)
        rw [lt2_e hx67] at hF
        exact hret _ _ _ _ _ _ hF G dX9_lead_70
      · rw [if_neg c43] at hF
        have hw := lead_w hX31 c43
        have hw2 := hw.2
        refine lv_aload_n hx hb dX9_lead_46 rfl (lv_at hl 1 rfl) ?_
        refine lv_bipush (v := 32) hx hb dX9_lead_47 (by decide) ?_
        refine lv_iconst (v := 4) hx hb dX9_lead_49 (by decide) ?_
        refine lv_iload_n hx hb dX9_lead_50 rfl (lv_at hl 2 rfl) ?_
        refine lv_imul hx hb dX9_lead_51 ?_
        refine lv_iadd hx hb dX9_lead_52 ?_
        refine lv_iconst (v := 2) hx hb dX9_lead_53 (by decide) ?_
        refine lv_iadd hx hb dX9_lead_54 ?_
        refine lv_iload_n hx hb dX9_lead_55 rfl (lv_at hl 3 rfl) ?_
        refine lv_iadd hx hb dX9_lead_56 ?_
        refine lv_iload_n hx hb dX9_lead_57 rfl (lv_at hl 4 rfl) ?_
        obtain ⟨x58, M58, hx58⟩ : ∃ (X : Int32) (Y : mS), (X, Y) = mF_becomes M (((32 + (4 * (vn q))) + 2) + (vn what)) v := ⟨_, _, rfl⟩
        refine mr_calli (r0 := x58) (M2 := M58) C hA G (by rw [hx58]; exact (k_becomes zl D cI ad M (((32 + (4 * (vn q))) + 2) + (vn what)) v (by first | assumption | omega))) (cwV 2 C.2.2.2.2.1 gX9_lead_X9_becomes rfl rfl rfl (by decide +kernel) ⟨Nat.le_of_ble_eq_true rfl, Nat.le_of_ble_eq_true rfl⟩) rfl hl.1 (cons_int rfl (cons_int (nt_add (nt_add (nt_add rfl (nt_mul rfl hp.1)) rfl) hw.1) rfl)) (Nat.le_of_ble_eq_true rfl) dX9_lead_58 ⟨Nat.le_refl _, Nat.le_refl _⟩ (fun H locs G => ?_)
        rw [lt2_e hx58] at hF
        refine lv_goto (tgt := 70) hx hb dX9_lead_61 (by decide) ?_
        exact hret _ _ _ _ _ _ hF G dX9_lead_70
  refine lv_if_ne (tgt := 12) hx hb dX9_lead_1 (by decide) (fun c1 => ?_) (fun c1 => ?_)
  · rw [if_neg c1] at hX31
    refine lv_iload_n hx hb dX9_lead_12 rfl (lv_at hl 2 rfl) ?_
    refine lv_iconst (v := 1) hx hb dX9_lead_13 (by decide) ?_
    refine lv_icmp_ne (tgt := 30) hx hb dX9_lead_14 (by decide) (fun c14 => ?_) (fun c14 => ?_)
    · rw [if_neg c14] at hX31
      refine lv_iconst (v := 0) hx hb dX9_lead_30 (by decide) ?_
      subst hX31
      exact hj31 _ _ _ (lv_sub hl [0, 1, 2, 3] rfl) G
    · rw [if_pos c14] at hX31
      refine lv_iload_n hx hb dX9_lead_17 rfl (lv_at hl 3 rfl) ?_
      refine lv_iconst (v := -1) hx hb dX9_lead_18 (by decide) ?_
      refine lv_iconst (v := 1) hx hb dX9_lead_19 (by decide) ?_
      refine mr_calls C hA G (ks_in zl v (-1) 1) (va_cwS 3 C.2.2.2.2.1 gX9_lead_X9_in rfl rfl rfl (by decide +kernel) ⟨Nat.le_of_ble_eq_true rfl, Nat.le_of_ble_eq_true rfl⟩) rfl hl.1 rfl (Nat.le_of_ble_eq_true rfl) dX9_lead_20 ⟨Nat.le_refl _, Nat.le_refl _⟩ (fun H locs G => ?_)
      refine lv_if_eq (tgt := 30) hx hb dX9_lead_23 (by decide) (fun c23 => ?_) (fun c23 => ?_)
      · rw [if_pos c23] at hX31
        refine lv_iconst (v := 0) hx hb dX9_lead_30 (by decide) ?_
        subst hX31
        exact hj31 _ _ _ (lv_sub hl [0, 1, 2, 3] rfl) G
      · rw [if_neg c23] at hX31
        refine lv_iconst (v := 1) hx hb dX9_lead_26 (by decide) ?_
        refine lv_goto (tgt := 31) hx hb dX9_lead_27 (by decide) ?_
        subst hX31
        exact hj31 _ _ _ (lv_sub hl [0, 1, 2, 3] rfl) G
  · rw [if_pos c1] at hX31
    refine lv_aload_n hx hb dX9_lead_4 rfl (lv_at hl 0 rfl) ?_
    refine lv_iload_n hx hb dX9_lead_5 rfl (lv_at hl 3 rfl) ?_
    refine mr_calli C hA G (k_isCell zl D cI ad M v) (cwV 1 C.2.2.2.2.1 gX9_lead_X9_isCell rfl rfl rfl (by decide +kernel) ⟨Nat.le_of_ble_eq_true rfl, Nat.le_of_ble_eq_true rfl⟩) rfl hl.1 rfl (Nat.le_of_ble_eq_true rfl) dX9_lead_6 ⟨Nat.le_refl _, Nat.le_refl _⟩ (fun H locs G => ?_)
    refine lv_goto (tgt := 31) hx hb dX9_lead_9 (by decide) ?_
    subst hX31
    exact hj31 _ _ _ (lv_sub hl [0, 1, 2, 3] rfl) G
set_option maxRecDepth 100000 in
set_option maxHeartbeats 4000000 in
theorem k_become (zl : Launch) (D : va_G) (cI : ClassId) (ad : Nat → Nat) (M : mS) (q : Int32) (km : Int32) (hP : pOK M) : mM zl D cI ad yX9_become wsX9_become ({ frames := 2, cells := 0, slots := 0, locals := 43 } : Room) [.int q, .int km] M (mF_become M q km) := by
  have hin : ∀ w ∈ wsX90, w ∈ wsX9_become := fun w h => List.mem_cons_of_mem _ (List.mem_append_right _ h)
  refine mM_of (cc := cX9_become) (nL := 3) (by decide) rfl rfl (Nat.le_of_ble_eq_true rfl) ?_
  intro zp ze zs zm zg zb zt zc zA H0 zQ C hA hret H locs ls hl G
  have hx := C.1
  have hb := C.2.1
  have hl : lv_has ls 3 [(0, .ref (ad 0)), (1, .int q), (2, .int km)] := hl
  obtain ⟨rM, hF⟩ : ∃ X : Int32 × mS, X = mF_become M q km := ⟨_, rfl⟩
  rw [← hF] at hret
  unfold mF_become at hF
  have hP1 := hP.1
  have hP2 := hP.2
  refine lv_aload_n hx hb dX9_become_0 rfl (lv_at hl 0 rfl) ?_
  refine lv_iload_n hx hb dX9_become_1 rfl (lv_at hl 1 rfl) ?_
  refine mr_calli C hA G (k_isPerson zl D cI ad M q) (cwV 1 C.2.2.2.2.1 gX9_become_X9_isPerson rfl rfl rfl (by decide +kernel) ⟨Nat.le_of_ble_eq_true rfl, Nat.le_of_ble_eq_true rfl⟩) rfl hl.1 rfl (Nat.le_of_ble_eq_true rfl) dX9_become_2 ⟨Nat.le_refl _, Nat.le_refl _⟩ (fun H locs G => ?_)
  refine lv_if_eq (tgt := 18) hx hb dX9_become_5 (by decide) (fun c5 => ?_) (fun c5 => ?_)
  · rw [if_pos c5] at hF
    refine lv_aload_n hx hb dX9_become_18 rfl (lv_at hl 0 rfl) ?_
    refine lv_ldc (v := -1000000001) hx hb C.2.2.2.1 (C.2.2.2.2.1 (.constant RX9 58 (-1000000001)) (by decide +kernel)) dX9_become_19 ?_
    obtain ⟨x21, M21, hx21⟩ : ∃ (X : Int32) (Y : mS), (X, Y) = mF_errs M (-1000000001) := ⟨_, _, rfl⟩
    refine mr_calli (r0 := x21) (M2 := M21) C hA G (by rw [hx21]; exact (k_errs zl D cI ad M (-1000000001) (by unfold vp_in; decide))) (cwV 1 C.2.2.2.2.1 gX9_become_X9_errs rfl rfl rfl (by decide +kernel) ⟨Nat.le_of_ble_eq_true rfl, Nat.le_of_ble_eq_true rfl⟩) rfl hl.1 rfl (Nat.le_of_ble_eq_true rfl) dX9_become_21 ⟨Nat.le_refl _, Nat.le_refl _⟩ (fun H locs G => ?_)
    rw [lt2_e hx21] at hF
    exact hret _ _ _ _ _ _ hF G dX9_become_24
  · rw [if_neg c5] at hF
    have hp := person_of hP c5
    have hp2 := hp.2
    refine lv_iload_n hx hb dX9_become_8 rfl (lv_at hl 2 rfl) ?_
    refine lv_iconst (v := 0) hx hb dX9_become_9 (by decide) ?_
    refine lv_bipush (v := 69) hx hb dX9_become_10 (by decide) ?_
    refine mr_calls C hA G (ks_in zl km 0 69) (va_cwS 3 C.2.2.2.2.1 gX9_become_X9_in rfl rfl rfl (by decide +kernel) ⟨Nat.le_of_ble_eq_true rfl, Nat.le_of_ble_eq_true rfl⟩) rfl hl.1 rfl (Nat.le_of_ble_eq_true rfl) dX9_become_12 ⟨Nat.le_refl _, Nat.le_refl _⟩ (fun H locs G => ?_)
    refine lv_if_ne (tgt := 25) hx hb dX9_become_15 (by decide) (fun c15 => ?_) (fun c15 => ?_)
    · rw [if_neg c15] at hF
      refine lv_aload_n hx hb dX9_become_25 rfl (lv_at hl 0 rfl) ?_
      refine lv_iload_n hx hb dX9_become_26 rfl (lv_at hl 1 rfl) ?_
      refine lv_iconst (v := 1) hx hb dX9_become_27 (by decide) ?_
      refine lv_iload_n hx hb dX9_become_28 rfl (lv_at hl 2 rfl) ?_
      refine lv_bipush (v := 10) hx hb dX9_become_29 (by decide) ?_
      refine lv_irem hx hb dX9_become_31 (by decide) ?_
      refine mr_callv C hA G (k_gets zl D cI ad M (vn q) 1 (km - km / 10 * 10) (by first | assumption | omega)) (cwV 3 C.2.2.2.2.1 gX9_become_X9_gets rfl rfl rfl (by decide +kernel) ⟨Nat.le_of_ble_eq_true rfl, Nat.le_of_ble_eq_true rfl⟩) rfl hl.1 (cons_int rfl (cons_int rfl (cons_int hp.1 rfl))) (Nat.le_of_ble_eq_true rfl) dX9_become_32 ⟨Nat.le_refl _, Nat.le_refl _⟩ (fun H locs G => ?_)
      obtain ⟨M32, hM32⟩ : ∃ X : mS, X = mF_gets M (vn q) 1 (km - km / 10 * 10) := ⟨_, rfl⟩
      rw [← hM32] at G
      rw [lt_e hM32] at hF
      refine lv_aload_n hx hb dX9_become_35 rfl (lv_at hl 0 rfl) ?_
      refine lv_bipush (v := 32) hx hb dX9_become_36 (by decide) ?_
      refine lv_iconst (v := 4) hx hb dX9_become_38 (by decide) ?_
      refine lv_iload_n hx hb dX9_become_39 rfl (lv_at hl 1 rfl) ?_
      refine lv_imul hx hb dX9_become_40 ?_
      refine lv_iadd hx hb dX9_become_41 ?_
      refine lv_iload_n hx hb dX9_become_42 rfl (lv_at hl 2 rfl) ?_
      refine lv_bipush (v := 10) hx hb dX9_become_43 (by decide) ?_
      refine lv_idiv hx hb dX9_become_45 (by decide) ?_
      obtain ⟨x46, M46, hx46⟩ : ∃ (X : Int32) (Y : mS), (X, Y) = mF_becomes M32 (32 + (4 * (vn q))) (km / 10) := ⟨_, _, rfl⟩
      refine mr_calli (r0 := x46) (M2 := M46) C hA G (by rw [hx46]; exact (k_becomes zl D cI ad M32 (32 + (4 * (vn q))) (km / 10) (by first | assumption | omega))) (cwV 2 C.2.2.2.2.1 gX9_become_X9_becomes rfl rfl rfl (by decide +kernel) ⟨Nat.le_of_ble_eq_true rfl, Nat.le_of_ble_eq_true rfl⟩) rfl hl.1 (cons_int rfl (cons_int (nt_add rfl (nt_mul rfl hp.1)) rfl)) (Nat.le_of_ble_eq_true rfl) dX9_become_46 ⟨Nat.le_refl _, Nat.le_refl _⟩ (fun H locs G => ?_)
      rw [lt2_e hx46] at hF
      exact hret _ _ _ _ _ _ hF G dX9_become_49
    · rw [if_pos c15] at hF
      refine lv_aload_n hx hb dX9_become_18 rfl (lv_at hl 0 rfl) ?_
      refine lv_ldc (v := -1000000001) hx hb C.2.2.2.1 (C.2.2.2.2.1 (.constant RX9 58 (-1000000001)) (by decide +kernel)) dX9_become_19 ?_
      obtain ⟨x21, M21, hx21⟩ : ∃ (X : Int32) (Y : mS), (X, Y) = mF_errs M (-1000000001) := ⟨_, _, rfl⟩
      refine mr_calli (r0 := x21) (M2 := M21) C hA G (by rw [hx21]; exact (k_errs zl D cI ad M (-1000000001) (by unfold vp_in; decide))) (cwV 1 C.2.2.2.2.1 gX9_become_X9_errs rfl rfl rfl (by decide +kernel) ⟨Nat.le_of_ble_eq_true rfl, Nat.le_of_ble_eq_true rfl⟩) rfl hl.1 rfl (Nat.le_of_ble_eq_true rfl) dX9_become_21 ⟨Nat.le_refl _, Nat.le_refl _⟩ (fun H locs G => ?_)
      rw [lt2_e hx21] at hF
      exact hret _ _ _ _ _ _ hF G dX9_become_24
set_option maxRecDepth 100000 in
set_option maxHeartbeats 4000000 in
theorem k_as (zl : Launch) (D : va_G) (cI : ClassId) (ad : Nat → Nat) (M : mS) (q : Int32) (kind : Int32) (hP : pOK M) (hK : kOK M) : mM zl D cI ad yX9_as wsX9_as ({ frames := 2, cells := 0, slots := 0, locals := 43 } : Room) [.int q, .int kind] M (mF_as M q kind) := by
  have hin : ∀ w ∈ wsX90, w ∈ wsX9_as := fun w h => List.mem_cons_of_mem _ (List.mem_append_right _ h)
  refine mM_of (cc := cX9_as) (nL := 4) (by decide) rfl rfl (Nat.le_of_ble_eq_true rfl) ?_
  intro zp ze zs zm zg zb zt zc zA H0 zQ C hA hret H locs ls hl G
  have hx := C.1
  have hb := C.2.1
  have hl : lv_has ls 4 [(0, .ref (ad 0)), (1, .int q), (2, .int kind)] := hl
  obtain ⟨rM, hF⟩ : ∃ X : Int32 × mS, X = mF_as M q kind := ⟨_, rfl⟩
  rw [← hF] at hret
  unfold mF_as at hF
  have hP1 := hP.1
  have hP2 := hP.2
  refine lv_aload_n hx hb dX9_as_0 rfl (lv_at hl 0 rfl) ?_
  refine lv_iload_n hx hb dX9_as_1 rfl (lv_at hl 1 rfl) ?_
  refine mr_calli C hA G (k_isPerson zl D cI ad M q) (cwV 1 C.2.2.2.2.1 gX9_as_X9_isPerson rfl rfl rfl (by decide +kernel) ⟨Nat.le_of_ble_eq_true rfl, Nat.le_of_ble_eq_true rfl⟩) rfl hl.1 rfl (Nat.le_of_ble_eq_true rfl) dX9_as_2 ⟨Nat.le_refl _, Nat.le_refl _⟩ (fun H locs G => ?_)
  refine lv_if_eq (tgt := 18) hx hb dX9_as_5 (by decide) (fun c5 => ?_) (fun c5 => ?_)
  · rw [if_pos c5] at hF
    refine lv_aload_n hx hb dX9_as_18 rfl (lv_at hl 0 rfl) ?_
    refine lv_ldc (v := -1000000001) hx hb C.2.2.2.1 (C.2.2.2.2.1 (.constant RX9 58 (-1000000001)) (by decide +kernel)) dX9_as_19 ?_
    obtain ⟨x21, M21, hx21⟩ : ∃ (X : Int32) (Y : mS), (X, Y) = mF_errs M (-1000000001) := ⟨_, _, rfl⟩
    refine mr_calli (r0 := x21) (M2 := M21) C hA G (by rw [hx21]; exact (k_errs zl D cI ad M (-1000000001) (by unfold vp_in; decide))) (cwV 1 C.2.2.2.2.1 gX9_as_X9_errs rfl rfl rfl (by decide +kernel) ⟨Nat.le_of_ble_eq_true rfl, Nat.le_of_ble_eq_true rfl⟩) rfl hl.1 rfl (Nat.le_of_ble_eq_true rfl) dX9_as_21 ⟨Nat.le_refl _, Nat.le_refl _⟩ (fun H locs G => ?_)
    rw [lt2_e hx21] at hF
    exact hret _ _ _ _ _ _ hF G dX9_as_24
  · rw [if_neg c5] at hF
    have hp := person_of hP c5
    have hp2 := hp.2
    refine lv_iload_n hx hb dX9_as_8 rfl (lv_at hl 2 rfl) ?_
    refine lv_iconst (v := 0) hx hb dX9_as_9 (by decide) ?_
    refine lv_bipush (v := 6) hx hb dX9_as_10 (by decide) ?_
    refine mr_calls C hA G (ks_in zl kind 0 6) (va_cwS 3 C.2.2.2.2.1 gX9_as_X9_in rfl rfl rfl (by decide +kernel) ⟨Nat.le_of_ble_eq_true rfl, Nat.le_of_ble_eq_true rfl⟩) rfl hl.1 rfl (Nat.le_of_ble_eq_true rfl) dX9_as_12 ⟨Nat.le_refl _, Nat.le_refl _⟩ (fun H locs G => ?_)
    refine lv_if_ne (tgt := 25) hx hb dX9_as_15 (by decide) (fun c15 => ?_) (fun c15 => ?_)
    · rw [if_neg c15] at hF
      refine lv_aload_n hx hb dX9_as_25 rfl (lv_at hl 0 rfl) ?_
      refine lv_iload_n hx hb dX9_as_26 rfl (lv_at hl 1 rfl) ?_
      refine lv_iconst (v := 0) hx hb dX9_as_27 (by decide) ?_
      refine mr_calli C hA G (k_its zl D cI ad M (vn q) 0 (by first | assumption | omega)) (cwV 2 C.2.2.2.2.1 gX9_as_X9_its rfl rfl rfl (by decide +kernel) ⟨Nat.le_of_ble_eq_true rfl, Nat.le_of_ble_eq_true rfl⟩) rfl hl.1 (cons_int rfl (cons_int hp.1 rfl)) (Nat.le_of_ble_eq_true rfl) dX9_as_28 ⟨Nat.le_refl _, Nat.le_refl _⟩ (fun H locs G => ?_)
      refine lv_topi (fun x31 hx31 => ?_)
      rw [lt_e hx31] at hF
      refine lv_istore_n (lv' := [(3, .int x31), (0, .ref (ad 0)), (1, .int q), (2, .int kind)]) hx hb dX9_as_31 rfl hl (by decide) rfl (fun ls hl => ?_)
      obtain ⟨v3_32x, hX32⟩ : ∃ (v3_32x : Int32), v3_32x = mF_as_L32 kind 8 x31 := ⟨_, rfl⟩
      rw [lt_e hX32] at hF
      have hrest32 : ∀ (H : Heap) (locs : List Loc) (ls : Array Slot), lv_has ls 4 [(0, .ref (ad 0)), (1, .int q), (2, .int kind), (3, .int v3_32x)] → mG D cI ad zA H0 H locs M → W zp zl ze ({ frames := 2, cells := 0, slots := 0, locals := 43 } : Room) zs zm zg zb zt zc H locs 0 0 zQ (F0 zm 49 ls []) := by
        intro H locs ls hl G
        refine lv_iload_n hx hb dX9_as_49 rfl (lv_at hl 3 rfl) ?_
        refine lv_if_ge (tgt := 62) hx hb dX9_as_50 (by decide) (fun c50 => ?_) (fun c50 => ?_)
        · rw [if_pos c50] at hF
          refine lv_aload_n hx hb dX9_as_62 rfl (lv_at hl 0 rfl) ?_
          refine lv_iload_n hx hb dX9_as_63 rfl (lv_at hl 1 rfl) ?_
          refine lv_iconst (v := 1) hx hb dX9_as_64 (by decide) ?_
          refine mr_calli C hA G (k_its zl D cI ad M (vn q) 1 (by first | assumption | omega)) (cwV 2 C.2.2.2.2.1 gX9_as_X9_its rfl rfl rfl (by decide +kernel) ⟨Nat.le_of_ble_eq_true rfl, Nat.le_of_ble_eq_true rfl⟩) rfl hl.1 (cons_int rfl (cons_int hp.1 rfl)) (Nat.le_of_ble_eq_true rfl) dX9_as_65 ⟨Nat.le_refl _, Nat.le_refl _⟩ (fun H locs G => ?_)
          exact hret _ _ _ _ _ _ hF G dX9_as_68
        · rw [if_neg c50] at hF
          refine lv_aload_n hx hb dX9_as_53 rfl (lv_at hl 0 rfl) ?_
          refine lv_ldc (v := -1000000005) hx hb C.2.2.2.1 (C.2.2.2.2.1 (.constant RX9 109 (-1000000005)) (by decide +kernel)) dX9_as_54 ?_
          obtain ⟨x56, M56, hx56⟩ : ∃ (X : Int32) (Y : mS), (X, Y) = mF_errs M (-1000000005) := ⟨_, _, rfl⟩
          refine mr_calli (r0 := x56) (M2 := M56) C hA G (by rw [hx56]; exact (k_errs zl D cI ad M (-1000000005) (by unfold vp_in; decide))) (cwV 1 C.2.2.2.2.1 gX9_as_X9_errs rfl rfl rfl (by decide +kernel) ⟨Nat.le_of_ble_eq_true rfl, Nat.le_of_ble_eq_true rfl⟩) rfl hl.1 rfl (Nat.le_of_ble_eq_true rfl) dX9_as_56 ⟨Nat.le_refl _, Nat.le_refl _⟩ (fun H locs G => ?_)
          rw [lt2_e hx56] at hF
          refine lv_goto (tgt := 68) hx hb dX9_as_59 (by decide) ?_
          exact hret _ _ _ _ _ _ hF G dX9_as_68
      have hloop32 : ∀ (f : Nat) (v3_32 : Int32), (kch v3_32 ∧ kl v3_32 < f) → v3_32x = mF_as_L32 kind f v3_32 → ∀ (H : Heap) (locs : List Loc) (ls : Array Slot), lv_has ls 4 [(0, .ref (ad 0)), (1, .int q), (2, .int kind), (3, .int v3_32)] → mG D cI ad zA H0 H locs M → W zp zl ze ({ frames := 2, cells := 0, slots := 0, locals := 43 } : Room) zs zm zg zb zt zc H locs 0 0 zQ (F0 zm 32 ls []) := by
        intro f
        induction f with
        | zero =>
          intro v3_32 hI hL32 H locs ls hl G
          exact absurd hI.2 (Nat.not_lt_zero _)
        | succ f ih =>
          intro v3_32 hI hL32 H locs ls hl G
          rw [mF_as_L32_s] at hL32
          refine lv_iload_n hx hb dX9_as_32 rfl (lv_at hl 3 rfl) ?_
          refine lv_if_lt (tgt := 49) hx hb dX9_as_33 (by decide) (fun c33 => ?_) (fun c33 => ?_)
          · rw [if_pos c33] at hL32
            subst hL32
            exact hrest32 _ _ _ (lv_sub hl [0, 1, 2, 3] rfl) G
          · rw [if_neg c33] at hL32
            have hI2 := Or.resolve_left hI.1 (fun e9 => c33 (by rw [e9]; decide))
            have hI3 := above_kl hI2
            refine lv_iload_n hx hb dX9_as_36 rfl (lv_at hl 3 rfl) ?_
            refine lv_iload_n hx hb dX9_as_37 rfl (lv_at hl 2 rfl) ?_
            refine lv_icmp_eq (tgt := 49) hx hb dX9_as_38 (by decide) (fun c38 => ?_) (fun c38 => ?_)
            · rw [if_pos c38] at hL32
              subst hL32
              exact hrest32 _ _ _ (lv_sub hl [0, 1, 2, 3] rfl) G
            · rw [if_neg c38] at hL32
              refine lv_iload_n hx hb dX9_as_41 rfl (lv_at hl 3 rfl) ?_
              refine mr_calls C hA G (ks_above zl v3_32) (va_cwS 1 C.2.2.2.2.1 gX9_as_X9_above rfl rfl rfl (by decide +kernel) ⟨Nat.le_of_ble_eq_true rfl, Nat.le_of_ble_eq_true rfl⟩) rfl hl.1 rfl (Nat.le_of_ble_eq_true rfl) dX9_as_42 ⟨Nat.le_refl _, Nat.le_refl _⟩ (fun H locs G => ?_)
              refine lv_topi (fun x45 hx45 => ?_)
              rw [lt_e hx45] at hL32
              refine lv_istore_n (lv' := [(3, .int x45), (0, .ref (ad 0)), (1, .int q), (2, .int kind)]) hx hb dX9_as_45 rfl hl (by decide) rfl (fun ls hl => ?_)
              refine lv_goto (tgt := 32) hx hb dX9_as_46 (by decide) ?_
              exact ih x45 (by rw [hx45]; exact ⟨hI3.1, Nat.lt_of_lt_of_le hI3.2 (Nat.le_of_lt_succ hI.2)⟩) hL32 _ _ _ (lv_sub hl [1, 2, 3, 0] rfl) G
      exact hloop32 _ _ (kch_its hK (by omega) hx31) hX32 _ _ _ (lv_sub hl [1, 2, 3, 0] rfl) G
    · rw [if_pos c15] at hF
      refine lv_aload_n hx hb dX9_as_18 rfl (lv_at hl 0 rfl) ?_
      refine lv_ldc (v := -1000000001) hx hb C.2.2.2.1 (C.2.2.2.2.1 (.constant RX9 58 (-1000000001)) (by decide +kernel)) dX9_as_19 ?_
      obtain ⟨x21, M21, hx21⟩ : ∃ (X : Int32) (Y : mS), (X, Y) = mF_errs M (-1000000001) := ⟨_, _, rfl⟩
      refine mr_calli (r0 := x21) (M2 := M21) C hA G (by rw [hx21]; exact (k_errs zl D cI ad M (-1000000001) (by unfold vp_in; decide))) (cwV 1 C.2.2.2.2.1 gX9_as_X9_errs rfl rfl rfl (by decide +kernel) ⟨Nat.le_of_ble_eq_true rfl, Nat.le_of_ble_eq_true rfl⟩) rfl hl.1 rfl (Nat.le_of_ble_eq_true rfl) dX9_as_21 ⟨Nat.le_refl _, Nat.le_refl _⟩ (fun H locs G => ?_)
      rw [lt2_e hx21] at hF
      exact hret _ _ _ _ _ _ hF G dX9_as_24
set_option maxRecDepth 100000 in
set_option maxHeartbeats 4000000 in
theorem k_counts (zl : Launch) (D : va_G) (cI : ClassId) (ad : Nat → Nat) (M : mS) (q : Nat) (h : 32 + 4 * q + 1 < 234) : mM zl D cI ad yX9_counts wsX9_counts ({ frames := 1, cells := 0, slots := 0, locals := 22 } : Room) [.int (nI q)] M ((mF_counts M q, M)) := by
  have hin : ∀ w ∈ wsX90, w ∈ wsX9_counts := fun w h => List.mem_cons_of_mem _ (List.mem_append_right _ h)
  refine mM_of (cc := cX9_counts) (nL := 2) (by decide) rfl rfl (Nat.le_of_ble_eq_true rfl) ?_
  intro zp ze zs zm zg zb zt zc zA H0 zQ C hA hret H locs ls hl G
  have hx := C.1
  have hb := C.2.1
  have hl : lv_has ls 2 [(0, .ref (ad 0)), (1, .int (nI q))] := hl
  obtain ⟨rM, hF⟩ : ∃ X : Int32, X = mF_counts M q := ⟨_, rfl⟩
  rw [← hF] at hret
  unfold mF_counts at hF
  refine lv_aload_n hx hb dX9_counts_0 rfl (lv_at hl 0 rfl) ?_
  refine lv_iload_n hx hb dX9_counts_1 rfl (lv_at hl 1 rfl) ?_
  refine lv_iconst (v := 0) hx hb dX9_counts_2 (by decide) ?_
  refine mr_calli C hA G (k_its zl D cI ad M q 0 (by first | assumption | omega)) (cwV 2 C.2.2.2.2.1 gX9_counts_X9_its rfl rfl rfl (by decide +kernel) ⟨Nat.le_of_ble_eq_true rfl, Nat.le_of_ble_eq_true rfl⟩) rfl hl.1 rfl (Nat.le_of_ble_eq_true rfl) dX9_counts_3 ⟨Nat.le_refl _, Nat.le_refl _⟩ (fun H locs G => ?_)
  by_cases c6_1 : (mF_its M q 0) = 1
  · rw [if_pos c6_1] at hF
    refine lv_tableIn (off := 34) (tgt := 40) hx hb dX9_counts_6 (by rw [c6_1]; decide) (by rw [c6_1]; decide) (by rw [c6_1]; rfl) (by decide) ?_
    refine lv_iconst (v := 4) hx hb dX9_counts_40 (by decide) ?_
    exact hret _ _ _ _ _ _ (by rw [hF]) G dX9_counts_41
  · rw [if_neg c6_1] at hF
    by_cases c6_2 : (mF_its M q 0) = 2
    · rw [if_pos c6_2] at hF
      refine lv_tableIn (off := 36) (tgt := 42) hx hb dX9_counts_6 (by rw [c6_2]; decide) (by rw [c6_2]; decide) (by rw [c6_2]; rfl) (by decide) ?_
      refine lv_iconst (v := 1) hx hb dX9_counts_42 (by decide) ?_
      exact hret _ _ _ _ _ _ (by rw [hF]) G dX9_counts_43
    · rw [if_neg c6_2] at hF
      by_cases c6_3 : (mF_its M q 0) = 3
      · rw [if_pos c6_3] at hF
        refine lv_tableIn (off := 49) (tgt := 55) hx hb dX9_counts_6 (by rw [c6_3]; decide) (by rw [c6_3]; decide) (by rw [c6_3]; rfl) (by decide) ?_
        refine lv_iconst (v := 0) hx hb dX9_counts_55 (by decide) ?_
        exact hret _ _ _ _ _ _ (by rw [hF]) G dX9_counts_56
      · rw [if_neg c6_3] at hF
        by_cases c6_4 : (mF_its M q 0) = 4
        · rw [if_pos c6_4] at hF
          refine lv_tableIn (off := 34) (tgt := 40) hx hb dX9_counts_6 (by rw [c6_4]; decide) (by rw [c6_4]; decide) (by rw [c6_4]; rfl) (by decide) ?_
          refine lv_iconst (v := 4) hx hb dX9_counts_40 (by decide) ?_
          exact hret _ _ _ _ _ _ (by rw [hF]) G dX9_counts_41
        · rw [if_neg c6_4] at hF
          by_cases c6_5 : (mF_its M q 0) = 5
          · rw [if_pos c6_5] at hF
            refine lv_tableIn (off := 38) (tgt := 44) hx hb dX9_counts_6 (by rw [c6_5]; decide) (by rw [c6_5]; decide) (by rw [c6_5]; rfl) (by decide) ?_
            refine lv_iconst (v := 1) hx hb dX9_counts_44 (by decide) ?_
            refine lv_aload_n hx hb dX9_counts_45 rfl (lv_at hl 0 rfl) ?_
            refine lv_iload_n hx hb dX9_counts_46 rfl (lv_at hl 1 rfl) ?_
            refine lv_iconst (v := 1) hx hb dX9_counts_47 (by decide) ?_
            refine mr_calli C hA G (k_its zl D cI ad M q 1 (by first | assumption | omega)) (cwV 2 C.2.2.2.2.1 gX9_counts_X9_its rfl rfl rfl (by decide +kernel) ⟨Nat.le_of_ble_eq_true rfl, Nat.le_of_ble_eq_true rfl⟩) rfl hl.1 rfl (Nat.le_of_ble_eq_true rfl) dX9_counts_48 ⟨Nat.le_refl _, Nat.le_refl _⟩ (fun H locs G => ?_)
            refine lv_iconst (v := 2) hx hb dX9_counts_51 (by decide) ?_
            refine lv_irem hx hb dX9_counts_52 (by decide) ?_
            refine lv_iadd hx hb dX9_counts_53 ?_
            exact hret _ _ _ _ _ _ (by rw [hF]) G dX9_counts_54
          · rw [if_neg c6_5] at hF
            refine lv_tableOut (tgt := 57) hx hb dX9_counts_6 (sw_out (fun i h1 h2 => by rcases (show i = 1 ∨ i = 2 ∨ i = 3 ∨ i = 4 ∨ i = 5 by omega) with rfl | rfl | rfl | rfl | rfl <;> first | exact fun e9 => c6_1 (Int32.toInt_inj.mp e9) | exact fun e9 => c6_2 (Int32.toInt_inj.mp e9) | exact fun e9 => c6_3 (Int32.toInt_inj.mp e9) | exact fun e9 => c6_4 (Int32.toInt_inj.mp e9) | exact fun e9 => c6_5 (Int32.toInt_inj.mp e9))) (by decide) ?_
            refine lv_iconst (v := 2) hx hb dX9_counts_57 (by decide) ?_
            exact hret _ _ _ _ _ _ (by rw [hF]) G dX9_counts_58
set_option maxRecDepth 100000 in
set_option maxHeartbeats 4000000 in
theorem k_seed (zl : Launch) (D : va_G) (cI : ClassId) (ad : Nat → Nat) (M : mS) (v : Int32) : mM zl D cI ad yX9_seed wsX9_seed ({ frames := 0, cells := 0, slots := 0, locals := 0 } : Room) [.int v] M (mF_seed M v) := by
  have hin : ∀ w ∈ wsX90, w ∈ wsX9_seed := fun w h => List.mem_cons_of_mem _ (List.mem_append_right _ h)
  refine mM_of (cc := cX9_seed) (nL := 3) (by decide) rfl rfl (Nat.le_of_ble_eq_true rfl) ?_
  intro zp ze zs zm zg zb zt zc zA H0 zQ C hA hret H locs ls hl G
  have hx := C.1
  have hb := C.2.1
  have hl : lv_has ls 3 [(0, .ref (ad 0)), (1, .int v)] := hl
  obtain ⟨rM, hF⟩ : ∃ X : Int32 × mS, X = mF_seed M v := ⟨_, rfl⟩
  rw [← hF] at hret
  unfold mF_seed at hF
  refine lv_aload_n hx hb dX9_seed_0 rfl (lv_at hl 0 rfl) ?_
  refine mr_get C G hin 0 (by decide) rfl (show Cond.fieldLink RX9 7 "WheatCountsModel" "row" "[I" ∈ _ by decide +kernel) (fun _ => rfl) dX9_seed_1 ?_
  refine lv_iconst (v := 2) hx hb dX9_seed_4 (by decide) ?_
  refine mr_ald C G 1 (fun _ => rfl) 2 rfl (by omega) (Nat.le_of_ble_eq_true rfl) dX9_seed_5 ?_
  refine lv_topi (fun x6 hx6 => ?_)
  rw [lt_e hx6] at hF
  refine lv_istore_n (lv' := [(2, .int x6), (0, .ref (ad 0)), (1, .int v)]) hx hb dX9_seed_6 rfl hl (by decide) rfl (fun ls hl => ?_)
  refine lv_aload_n hx hb dX9_seed_7 rfl (lv_at hl 1 rfl) ?_
  refine mr_get C G hin 0 (by decide) rfl (show Cond.fieldLink RX9 7 "WheatCountsModel" "row" "[I" ∈ _ by decide +kernel) (fun _ => rfl) dX9_seed_8 ?_
  refine lv_iconst (v := 2) hx hb dX9_seed_11 (by decide) ?_
  refine lv_iload_n hx hb dX9_seed_12 rfl (lv_at hl 2 rfl) ?_
  refine mr_ast C G 1 (fun _ => rfl) 2 rfl (by omega) (Nat.le_of_ble_eq_true rfl) (fun _ => rfl) dX9_seed_13 (fun H locs G => ?_)
  obtain ⟨M13, hM13⟩ : ∃ X : mS, X = mU M 1 2 v := ⟨_, rfl⟩
  rw [← hM13] at G
  rw [lt_e hM13] at hF
  refine lv_iload_n hx hb dX9_seed_14 rfl (lv_at hl 0 rfl) ?_
  exact hret _ _ _ _ _ _ hF G dX9_seed_15
set_option maxRecDepth 100000 in
set_option maxHeartbeats 4000000 in
theorem k_ran (zl : Launch) (D : va_G) (cI : ClassId) (ad : Nat → Nat) (M : mS) (b : Int32) (hV : vOK M) : mMv zl D cI ad yX9_ran wsX9_ran ({ frames := 0, cells := 0, slots := 0, locals := 0 } : Room) [.int b] M (mF_ran M b) := by
  have hin : ∀ w ∈ wsX90, w ∈ wsX9_ran := fun w h => List.mem_cons_of_mem _ (List.mem_append_right _ h)
  refine mMv_of (cc := cX9_ran) (nL := 2) (by decide) rfl rfl (Nat.le_of_ble_eq_true rfl) ?_
  intro zp ze zs zm zg zb zt zc zA H0 zQ C hA hret H locs ls hl G
  have hx := C.1
  have hb := C.2.1
  have hl : lv_has ls 2 [(0, .ref (ad 0)), (1, .int b)] := hl
  obtain ⟨rM, hF⟩ : ∃ X : mS, X = mF_ran M b := ⟨_, rfl⟩
  rw [← hF] at hret
  unfold mF_ran at hF
  have hV2 := hV.2
  refine lv_aload_n hx hb dX9_ran_0 rfl (lv_at hl 0 rfl) ?_
  refine mr_get C G hin 24 (by decide) rfl (show Cond.fieldLink RX9 234 "WheatCountsModel" "tracedMany" "I" ∈ _ by decide +kernel) (fun _ => rfl) dX9_ran_1 ?_
  refine lv_bipush (v := 40) hx hb dX9_ran_4 (by decide) ?_
  obtain ⟨M29, hX29⟩ : ∃ (M29 : mS), M29 = ((if 40 ≤ (M 0 24) then M else (lt (mU M 13 (vn (M 0 24)) b) fun (M18 : mS) => lt (mU M18 0 24 ((M18 0 24) + 1)) fun (M26 : mS) => M26)) : mS) := ⟨_, rfl⟩
  rw [lt_e hX29] at hF
  have hj29 : ∀ (H : Heap) (locs : List Loc) (ls : Array Slot), lv_has ls 2 [(0, .ref (ad 0)), (1, .int b)] → mG D cI ad zA H0 H locs M29 → W zp zl ze ({ frames := 0, cells := 0, slots := 0, locals := 0 } : Room) zs zm zg zb zt zc H locs 0 0 zQ (F0 zm 29 ls []) := by
    intro H locs ls hl G
    exact hret _ _ _ _ _ hF G dX9_ran_29
  refine lv_icmp_ge (tgt := 29) hx hb dX9_ran_6 (by decide) (fun c6 => ?_) (fun c6 => ?_)
  · rw [if_pos c6] at hX29
    subst hX29
    exact hj29 _ _ _ (lv_sub hl [0, 1] rfl) G
  · rw [if_neg c6] at hX29
    have hv := ran_lt hV c6
    refine lv_aload_n hx hb dX9_ran_9 rfl (lv_at hl 0 rfl) ?_
    refine mr_get C G hin 23 (by decide) rfl (show Cond.fieldLink RX9 50 "WheatCountsModel" "traced" "[I" ∈ _ by decide +kernel) (fun _ => rfl) dX9_ran_10 ?_
    refine lv_aload_n hx hb dX9_ran_13 rfl (lv_at hl 0 rfl) ?_
    refine mr_get C G hin 24 (by decide) rfl (show Cond.fieldLink RX9 234 "WheatCountsModel" "tracedMany" "I" ∈ _ by decide +kernel) (fun _ => rfl) dX9_ran_14 ?_
    refine lv_iload_n hx hb dX9_ran_17 rfl (lv_at hl 1 rfl) ?_
    refine mr_ast C G 13 (fun _ => rfl) (vn (M 0 24)) hV.1 (by omega) (Nat.le_of_ble_eq_true rfl) (fun _ => rfl) dX9_ran_18 (fun H locs G => ?_)
    obtain ⟨M18, hM18⟩ : ∃ X : mS, X = mU M 13 (vn (M 0 24)) b := ⟨_, rfl⟩
    rw [← hM18] at G
    rw [lt_e hM18] at hX29
    refine lv_aload_n hx hb dX9_ran_19 rfl (lv_at hl 0 rfl) ?_
    refine lv_dup hx hb dX9_ran_20 rfl ?_
    refine mr_get C G hin 24 (by decide) rfl (show Cond.fieldLink RX9 234 "WheatCountsModel" "tracedMany" "I" ∈ _ by decide +kernel) (fun _ => rfl) dX9_ran_21 ?_
    refine lv_iconst (v := 1) hx hb dX9_ran_24 (by decide) ?_
    refine lv_iadd hx hb dX9_ran_25 ?_
    refine mr_put C G hin 24 (by decide) rfl rfl (show Cond.fieldLink RX9 234 "WheatCountsModel" "tracedMany" "I" ∈ _ by decide +kernel) (ty := .int) (by decide +kernel) rfl rfl (fun _ => rfl) dX9_ran_26 (fun H locs G => ?_)
    obtain ⟨M26, hM26⟩ : ∃ X : mS, X = mU M18 0 24 ((M18 0 24) + 1) := ⟨_, rfl⟩
    rw [← hM26] at G
    rw [lt_e hM26] at hX29
    subst hX29
    exact hj29 _ _ _ (lv_sub hl [0, 1] rfl) G
set_option maxRecDepth 100000 in
set_option maxHeartbeats 4000000 in
theorem k_trace (zl : Launch) (D : va_G) (cI : ClassId) (ad : Nat → Nat) (M : mS) (i : Int32) (hV : vOK M) : mM zl D cI ad yX9_trace wsX9_trace ({ frames := 1, cells := 0, slots := 0, locals := 22 } : Room) [.int i] M (mF_trace M i) := by
  have hin : ∀ w ∈ wsX90, w ∈ wsX9_trace := fun w h => List.mem_cons_of_mem _ (List.mem_append_right _ h)
  refine mM_of (cc := cX9_trace) (nL := 2) (by decide) rfl rfl (Nat.le_of_ble_eq_true rfl) ?_
  intro zp ze zs zm zg zb zt zc zA H0 zQ C hA hret H locs ls hl G
  have hx := C.1
  have hb := C.2.1
  have hl : lv_has ls 2 [(0, .ref (ad 0)), (1, .int i)] := hl
  obtain ⟨rM, hF⟩ : ∃ X : Int32 × mS, X = mF_trace M i := ⟨_, rfl⟩
  rw [← hF] at hret
  unfold mF_trace at hF
  have hV2 := hV.2
  refine lv_iload_n hx hb dX9_trace_0 rfl (lv_at hl 1 rfl) ?_
  refine lv_iconst (v := 0) hx hb dX9_trace_1 (by decide) ?_
  refine lv_aload_n hx hb dX9_trace_2 rfl (lv_at hl 0 rfl) ?_
  refine mr_get C G hin 24 (by decide) rfl (show Cond.fieldLink RX9 234 "WheatCountsModel" "tracedMany" "I" ∈ _ by decide +kernel) (fun _ => rfl) dX9_trace_3 ?_
  refine lv_iconst (v := 1) hx hb dX9_trace_6 (by decide) ?_
  refine lv_isub hx hb dX9_trace_7 ?_
  refine mr_calls C hA G (ks_in zl i 0 ((M 0 24) - 1)) (va_cwS 3 C.2.2.2.2.1 gX9_trace_X9_in rfl rfl rfl (by decide +kernel) ⟨Nat.le_of_ble_eq_true rfl, Nat.le_of_ble_eq_true rfl⟩) rfl hl.1 rfl (Nat.le_of_ble_eq_true rfl) dX9_trace_8 ⟨Nat.le_refl _, Nat.le_refl _⟩ (fun H locs G => ?_)
  refine lv_if_eq (tgt := 23) hx hb dX9_trace_11 (by decide) (fun c11 => ?_) (fun c11 => ?_)
  · rw [if_pos c11] at hF
    refine lv_aload_n hx hb dX9_trace_23 rfl (lv_at hl 0 rfl) ?_
    refine lv_ldc (v := -1000000002) hx hb C.2.2.2.1 (C.2.2.2.2.1 (.constant RX9 204 (-1000000002)) (by decide +kernel)) dX9_trace_24 ?_
    obtain ⟨x26, M26, hx26⟩ : ∃ (X : Int32) (Y : mS), (X, Y) = mF_errs M (-1000000002) := ⟨_, _, rfl⟩
    refine mr_calli (r0 := x26) (M2 := M26) C hA G (by rw [hx26]; exact (k_errs zl D cI ad M (-1000000002) (by unfold vp_in; decide))) (cwV 1 C.2.2.2.2.1 gX9_trace_X9_errs rfl rfl rfl (by decide +kernel) ⟨Nat.le_of_ble_eq_true rfl, Nat.le_of_ble_eq_true rfl⟩) rfl hl.1 rfl (Nat.le_of_ble_eq_true rfl) dX9_trace_26 ⟨Nat.le_refl _, Nat.le_refl _⟩ (fun H locs G => ?_)
    rw [lt2_e hx26] at hF
    exact hret _ _ _ _ _ _ hF G dX9_trace_29
  · rw [if_neg c11] at hF
    have hi := in_nat c11 (nt_subI hV.1 (fun e9 => c11 (by rw [hV.1, e9]; exact in_m1 i)))
    have hi2 := hi.2
    refine lv_aload_n hx hb dX9_trace_14 rfl (lv_at hl 0 rfl) ?_
    refine mr_get C G hin 23 (by decide) rfl (show Cond.fieldLink RX9 50 "WheatCountsModel" "traced" "[I" ∈ _ by decide +kernel) (fun _ => rfl) dX9_trace_15 ?_
    refine lv_iload_n hx hb dX9_trace_18 rfl (lv_at hl 1 rfl) ?_
    refine mr_ald C G 13 (fun _ => rfl) (vn i) hi.1 (by omega) (Nat.le_of_ble_eq_true rfl) dX9_trace_19 ?_
    refine lv_goto (tgt := 29) hx hb dX9_trace_20 (by decide) ?_
    exact hret _ _ _ _ _ _ hF G dX9_trace_29
set_option maxRecDepth 100000 in
set_option maxHeartbeats 4000000 in
theorem k_sheet (zl : Launch) (D : va_G) (cI : ClassId) (ad : Nat → Nat) (M : mS) (s : Int32) (b : Int32) (n : Int32) : mM zl D cI ad yX9_sheet wsX9_sheet ({ frames := 2, cells := 0, slots := 0, locals := 42 } : Room) [.int s, .int b, .int n] M (mF_sheet M s b n) := by
  have hin : ∀ w ∈ wsX90, w ∈ wsX9_sheet := fun w h => List.mem_cons_of_mem _ (List.mem_append_right _ h)
  refine mM_of (cc := cX9_sheet) (nL := 5) (by decide) rfl rfl (Nat.le_of_ble_eq_true rfl) ?_
  intro zp ze zs zm zg zb zt zc zA H0 zQ C hA hret H locs ls hl G
  have hx := C.1
  have hb := C.2.1
  have hl : lv_has ls 5 [(0, .ref (ad 0)), (1, .int s), (2, .int b), (3, .int n)] := hl
  obtain ⟨rM, hF⟩ : ∃ X : Int32 × mS, X = mF_sheet M s b n := ⟨_, rfl⟩
  rw [← hF] at hret
  unfold mF_sheet at hF
  refine lv_iload_n hx hb dX9_sheet_0 rfl (lv_at hl 1 rfl) ?_
  refine mr_calls C hA G (ks_isSheet zl s) (va_cwS 1 C.2.2.2.2.1 gX9_sheet_X9_isSheet rfl rfl rfl (by decide +kernel) ⟨Nat.le_of_ble_eq_true rfl, Nat.le_of_ble_eq_true rfl⟩) rfl hl.1 rfl (Nat.le_of_ble_eq_true rfl) dX9_sheet_1 ⟨Nat.le_refl _, Nat.le_refl _⟩ (fun H locs G => ?_)
  refine lv_if_eq (tgt := 29) hx hb dX9_sheet_4 (by decide) (fun c4 => ?_) (fun c4 => ?_)
  · rw [if_pos c4] at hF
    refine lv_aload_n hx hb dX9_sheet_29 rfl (lv_at hl 0 rfl) ?_
    refine lv_ldc (v := -1000000001) hx hb C.2.2.2.1 (C.2.2.2.2.1 (.constant RX9 58 (-1000000001)) (by decide +kernel)) dX9_sheet_30 ?_
    obtain ⟨x32, M32, hx32⟩ : ∃ (X : Int32) (Y : mS), (X, Y) = mF_errs M (-1000000001) := ⟨_, _, rfl⟩
    refine mr_calli (r0 := x32) (M2 := M32) C hA G (by rw [hx32]; exact (k_errs zl D cI ad M (-1000000001) (by unfold vp_in; decide))) (cwV 1 C.2.2.2.2.1 gX9_sheet_X9_errs rfl rfl rfl (by decide +kernel) ⟨Nat.le_of_ble_eq_true rfl, Nat.le_of_ble_eq_true rfl⟩) rfl hl.1 rfl (Nat.le_of_ble_eq_true rfl) dX9_sheet_32 ⟨Nat.le_refl _, Nat.le_refl _⟩ (fun H locs G => ?_)
    rw [lt2_e hx32] at hF
    exact hret _ _ _ _ _ _ hF G dX9_sheet_35
  · rw [if_neg c4] at hF
    have hs := sheet_of c4
    have hs2 := hs.2
    have hj36 : ∀ (H : Heap) (locs : List Loc) (ls : Array Slot), rM = mF_sheet_J36 M s b n → lv_has ls 5 [(0, .ref (ad 0)), (1, .int s), (2, .int b), (3, .int n)] → mG D cI ad zA H0 H locs M → W zp zl ze ({ frames := 2, cells := 0, slots := 0, locals := 42 } : Room) zs zm zg zb zt zc H locs 0 0 zQ (F0 zm 36 ls []) := by
      intro H locs ls hF hl G
      unfold mF_sheet_J36 at hF
      have hj51 : ∀ (H : Heap) (locs : List Loc) (ls : Array Slot), rM = mF_sheet_J51 M s b n → lv_has ls 5 [(0, .ref (ad 0)), (1, .int s), (2, .int b), (3, .int n)] → mG D cI ad zA H0 H locs M → W zp zl ze ({ frames := 2, cells := 0, slots := 0, locals := 42 } : Room) zs zm zg zb zt zc H locs 0 0 zQ (F0 zm 51 ls []) := by
        intro H locs ls hF hl G
        unfold mF_sheet_J51 at hF
        have hj68 : ∀ (H : Heap) (locs : List Loc) (ls : Array Slot), rM = mF_sheet_J68 M s b n → lv_has ls 5 [(0, .ref (ad 0)), (1, .int s), (2, .int b), (3, .int n)] → mG D cI ad zA H0 H locs M → W zp zl ze ({ frames := 2, cells := 0, slots := 0, locals := 42 } : Room) zs zm zg zb zt zc H locs 0 0 zQ (F0 zm 68 ls []) := by
          intro H locs ls hF hl G
          unfold mF_sheet_J68 at hF
          refine lv_aload_n hx hb dX9_sheet_68 rfl (lv_at hl 0 rfl) ?_
          refine mr_get C G hin 18 (by decide) rfl (show Cond.fieldLink RX9 35 "WheatCountsModel" "bitsOf" "[I" ∈ _ by decide +kernel) (fun _ => rfl) dX9_sheet_69 ?_
          refine lv_iload_n hx hb dX9_sheet_72 rfl (lv_at hl 1 rfl) ?_
          refine lv_iload_n hx hb dX9_sheet_73 rfl (lv_at hl 2 rfl) ?_
          refine mr_ast C G 8 (fun _ => rfl) (vn s) hs.1 (by omega) (Nat.le_of_ble_eq_true rfl) (fun _ => rfl) dX9_sheet_74 (fun H locs G => ?_)
          obtain ⟨M74, hM74⟩ : ∃ X : mS, X = mU M 8 (vn s) b := ⟨_, rfl⟩
          rw [← hM74] at G
          rw [lt_e hM74] at hF
          refine lv_aload_n hx hb dX9_sheet_75 rfl (lv_at hl 0 rfl) ?_
          refine mr_get C G hin 19 (by decide) rfl (show Cond.fieldLink RX9 38 "WheatCountsModel" "sizeOf" "[I" ∈ _ by decide +kernel) (fun _ => rfl) dX9_sheet_76 ?_
          refine lv_iload_n hx hb dX9_sheet_79 rfl (lv_at hl 1 rfl) ?_
          refine lv_iload_n hx hb dX9_sheet_80 rfl (lv_at hl 2 rfl) ?_
          obtain ⟨y89, hX89⟩ : ∃ (y89 : Int32), y89 = ((if b = 0 then 0 else n) : Int32) := ⟨_, rfl⟩
          rw [lt_e hX89] at hF
          have hj89 : ∀ (H : Heap) (locs : List Loc) (ls : Array Slot), lv_has ls 5 [(0, .ref (ad 0)), (1, .int s), (2, .int b), (3, .int n)] → mG D cI ad zA H0 H locs M74 → W zp zl ze ({ frames := 2, cells := 0, slots := 0, locals := 42 } : Room) zs zm zg zb zt zc H locs 0 0 zQ (F0 zm 89 ls [.int y89, .int s, .ref (ad 9)]) := by
            intro H locs ls hl G
            refine mr_ast C G 9 (fun _ => rfl) (vn s) hs.1 (by omega) (Nat.le_of_ble_eq_true rfl) (fun _ => rfl) dX9_sheet_89 (fun H locs G => ?_)
            obtain ⟨M89, hM89⟩ : ∃ X : mS, X = mU M74 9 (vn s) y89 := ⟨_, rfl⟩
            rw [← hM89] at G
            rw [lt_e hM89] at hF
            refine lv_iconst (v := 0) hx hb dX9_sheet_90 (by decide) ?_
            refine lv_istore (lv' := [(4, .int 0), (0, .ref (ad 0)), (1, .int s), (2, .int b), (3, .int n)]) hx hb dX9_sheet_91 hl (by decide) rfl (fun ls hl => ?_)
            obtain ⟨M93x, hX93⟩ : ∃ (M93x : mS), M93x = mF_sheet_L93 s M89 40 := ⟨_, rfl⟩
            rw [lt_e hX93] at hF
            have hrest93 : ∀ (H : Heap) (locs : List Loc) (ls : Array Slot), lv_has ls 5 [(0, .ref (ad 0)), (1, .int s), (2, .int b), (3, .int n), (4, .int (nI 40))] → mG D cI ad zA H0 H locs M93x → W zp zl ze ({ frames := 2, cells := 0, slots := 0, locals := 42 } : Room) zs zm zg zb zt zc H locs 0 0 zQ (F0 zm 119 ls []) := by
              intro H locs ls hl G
              refine lv_iconst (v := 1) hx hb dX9_sheet_119 (by decide) ?_
              exact hret _ _ _ _ _ _ hF G dX9_sheet_120
            have hloop93 : ∀ (j k93 : Nat), j + k93 = 40 → ∀ (M93 : mS), M93 = mF_sheet_L93 s M89 k93 → ∀ (H : Heap) (locs : List Loc) (ls : Array Slot), lv_has ls 5 [(0, .ref (ad 0)), (1, .int s), (2, .int b), (3, .int n), (4, .int (nI k93))] → mG D cI ad zA H0 H locs M93 → W zp zl ze ({ frames := 2, cells := 0, slots := 0, locals := 42 } : Room) zs zm zg zb zt zc H locs 0 0 zQ (F0 zm 93 ls []) := by
              intro j
              induction j with
              | zero =>
                intro k93 hk M93 hL H locs ls hl G
                have hk : k93 = 40 := by omega
                rw [hk] at hL hl
                refine lv_iload hx hb dX9_sheet_93 (lv_at hl 4 rfl) ?_
                refine lv_bipush (v := 40) hx hb dX9_sheet_95 (by decide) ?_
                refine lv_icmp_ge (tgt := 119) hx hb dX9_sheet_97 (by decide) (fun c97 => ?_) (fun c97 => absurd (lp_out (n := 40) rfl) c97)
                obtain rfl := hL.trans hX93.symm
                exact hrest93 _ _ _ (lv_sub hl [0, 1, 2, 3, 4] rfl) G
              | succ j ih =>
                intro k93 hk M93 hL H locs ls hl G
                have hkn : k93 < 40 := by omega
                obtain ⟨M93s, hS0⟩ : ∃ (M93s : mS), M93s = mF_sheet_L93 s M89 (k93 + 1) := ⟨_, rfl⟩
                have hS := hS0
                rw [mF_sheet_L93_s, lt_e hL] at hS
                refine lv_iload hx hb dX9_sheet_93 (lv_at hl 4 rfl) ?_
                refine lv_bipush (v := 40) hx hb dX9_sheet_95 (by decide) ?_
                refine lv_icmp_ge (tgt := 119) hx hb dX9_sheet_97 (by decide) (fun c97 => absurd c97 (lp_in (n := 40) rfl hkn (by omega))) (fun c97 => ?_)
                refine lv_aload_n hx hb dX9_sheet_100 rfl (lv_at hl 0 rfl) ?_
                refine mr_get C G hin 20 (by decide) rfl (show Cond.fieldLink RX9 41 "WheatCountsModel" "sheets" "[I" ∈ _ by decide +kernel) (fun _ => rfl) dX9_sheet_101 ?_
                refine lv_bipush (v := 40) hx hb dX9_sheet_104 (by decide) ?_
                refine lv_iload_n hx hb dX9_sheet_106 rfl (lv_at hl 1 rfl) ?_
                refine lv_imul hx hb dX9_sheet_107 ?_
                refine lv_iload hx hb dX9_sheet_108 (lv_at hl 4 rfl) ?_
                refine lv_iadd hx hb dX9_sheet_110 ?_
                refine lv_iconst (v := 0) hx hb dX9_sheet_111 (by decide) ?_
                refine mr_ast C G 10 (fun _ => rfl) ((40 * (vn s)) + k93) (nt_add (nt_mul rfl hs.1) rfl) (by omega) (Nat.le_of_ble_eq_true rfl) (fun _ => rfl) dX9_sheet_112 (fun H locs G => ?_)
                obtain ⟨M112, hM112⟩ : ∃ X : mS, X = mU M93 10 ((40 * (vn s)) + k93) 0 := ⟨_, rfl⟩
                rw [← hM112] at G
                rw [lt_e hM112] at hS
                refine lv_iinc (v := nI (k93 + 1)) (lv' := [(4, .int (nI (k93 + 1))), (0, .ref (ad 0)), (1, .int s), (2, .int b), (3, .int n)]) hx hb dX9_sheet_113 hl (k := 4) rfl (nt_add rfl (show (1 : Int32) = nI 1 from rfl)) (by decide) rfl (fun ls hl => ?_)
                refine lv_goto (tgt := 93) hx hb dX9_sheet_116 (by decide) ?_
                subst hS
                exact ih (k93 + 1) (by omega) _ hS0 _ _ _ (lv_sub hl [1, 2, 3, 4, 0] rfl) G
            exact hloop93 _ 0 (Nat.add_zero _) _ rfl _ _ _ (lv_sub hl [1, 2, 3, 4, 0] rfl) G
          refine lv_if_ne (tgt := 88) hx hb dX9_sheet_81 (by decide) (fun c81 => ?_) (fun c81 => ?_)
          · rw [if_neg c81] at hX89
            refine lv_iload_n hx hb dX9_sheet_88 rfl (lv_at hl 3 rfl) ?_
            subst hX89
            exact hj89 _ _ _ (lv_sub hl [0, 1, 2, 3] rfl) G
          · rw [if_pos c81] at hX89
            refine lv_iconst (v := 0) hx hb dX9_sheet_84 (by decide) ?_
            refine lv_goto (tgt := 89) hx hb dX9_sheet_85 (by decide) ?_
            subst hX89
            exact hj89 _ _ _ (lv_sub hl [0, 1, 2, 3] rfl) G
        refine lv_iload_n hx hb dX9_sheet_51 rfl (lv_at hl 2 rfl) ?_
        refine lv_if_eq (tgt := 68) hx hb dX9_sheet_52 (by decide) (fun c52 => ?_) (fun c52 => ?_)
        · rw [if_pos c52] at hF
          exact hj68 _ _ _ hF (lv_sub hl [0, 1, 2, 3] rfl) G
        · rw [if_neg c52] at hF
          refine lv_iload_n hx hb dX9_sheet_55 rfl (lv_at hl 3 rfl) ?_
          refine lv_bipush (v := 40) hx hb dX9_sheet_56 (by decide) ?_
          refine lv_icmp_le (tgt := 68) hx hb dX9_sheet_58 (by decide) (fun c58 => ?_) (fun c58 => ?_)
          · rw [if_pos c58] at hF
            exact hj68 _ _ _ hF (lv_sub hl [0, 1, 2, 3] rfl) G
          · rw [if_neg c58] at hF
            refine lv_aload_n hx hb dX9_sheet_61 rfl (lv_at hl 0 rfl) ?_
            refine lv_ldc (v := -1000000001) hx hb C.2.2.2.1 (C.2.2.2.2.1 (.constant RX9 58 (-1000000001)) (by decide +kernel)) dX9_sheet_62 ?_
            obtain ⟨x64, M64, hx64⟩ : ∃ (X : Int32) (Y : mS), (X, Y) = mF_errs M (-1000000001) := ⟨_, _, rfl⟩
            refine mr_calli (r0 := x64) (M2 := M64) C hA G (by rw [hx64]; exact (k_errs zl D cI ad M (-1000000001) (by unfold vp_in; decide))) (cwV 1 C.2.2.2.2.1 gX9_sheet_X9_errs rfl rfl rfl (by decide +kernel) ⟨Nat.le_of_ble_eq_true rfl, Nat.le_of_ble_eq_true rfl⟩) rfl hl.1 rfl (Nat.le_of_ble_eq_true rfl) dX9_sheet_64 ⟨Nat.le_refl _, Nat.le_refl _⟩ (fun H locs G => ?_)
            rw [lt2_e hx64] at hF
            exact hret _ _ _ _ _ _ hF G dX9_sheet_67
      refine lv_iload_n hx hb dX9_sheet_36 rfl (lv_at hl 2 rfl) ?_
      refine lv_if_eq (tgt := 51) hx hb dX9_sheet_37 (by decide) (fun c37 => ?_) (fun c37 => ?_)
      · rw [if_pos c37] at hF
        exact hj51 _ _ _ hF (lv_sub hl [0, 1, 2, 3] rfl) G
      · rw [if_neg c37] at hF
        refine lv_iload_n hx hb dX9_sheet_40 rfl (lv_at hl 3 rfl) ?_
        refine lv_if_ge (tgt := 51) hx hb dX9_sheet_41 (by decide) (fun c41 => ?_) (fun c41 => ?_)
        · rw [if_pos c41] at hF
          exact hj51 _ _ _ hF (lv_sub hl [0, 1, 2, 3] rfl) G
        · rw [if_neg c41] at hF
          refine lv_aload_n hx hb dX9_sheet_44 rfl (lv_at hl 0 rfl) ?_
          refine lv_ldc (v := -1000000003) hx hb C.2.2.2.1 (C.2.2.2.2.1 (.constant RX9 63 (-1000000003)) (by decide +kernel)) dX9_sheet_45 ?_
          obtain ⟨x47, M47, hx47⟩ : ∃ (X : Int32) (Y : mS), (X, Y) = mF_errs M (-1000000003) := ⟨_, _, rfl⟩
          refine mr_calli (r0 := x47) (M2 := M47) C hA G (by rw [hx47]; exact (k_errs zl D cI ad M (-1000000003) (by unfold vp_in; decide))) (cwV 1 C.2.2.2.2.1 gX9_sheet_X9_errs rfl rfl rfl (by decide +kernel) ⟨Nat.le_of_ble_eq_true rfl, Nat.le_of_ble_eq_true rfl⟩) rfl hl.1 rfl (Nat.le_of_ble_eq_true rfl) dX9_sheet_47 ⟨Nat.le_refl _, Nat.le_refl _⟩ (fun H locs G => ?_)
          rw [lt2_e hx47] at hF
          exact hret _ _ _ _ _ _ hF G dX9_sheet_50
    refine lv_iload_n hx hb dX9_sheet_7 rfl (lv_at hl 2 rfl) ?_
    refine lv_if_eq (tgt := 36) hx hb dX9_sheet_8 (by decide) (fun c8 => ?_) (fun c8 => ?_)
    · rw [if_pos c8] at hF
      exact hj36 _ _ _ hF (lv_sub hl [0, 1, 2, 3] rfl) G
    · rw [if_neg c8] at hF
      refine lv_iload_n hx hb dX9_sheet_11 rfl (lv_at hl 2 rfl) ?_
      refine lv_bipush (v := 8) hx hb dX9_sheet_12 (by decide) ?_
      refine lv_icmp_eq (tgt := 36) hx hb dX9_sheet_14 (by decide) (fun c14 => ?_) (fun c14 => ?_)
      · rw [if_pos c14] at hF
        exact hj36 _ _ _ hF (lv_sub hl [0, 1, 2, 3] rfl) G
      · rw [if_neg c14] at hF
        refine lv_iload_n hx hb dX9_sheet_17 rfl (lv_at hl 2 rfl) ?_
        refine lv_bipush (v := 16) hx hb dX9_sheet_18 (by decide) ?_
        refine lv_icmp_eq (tgt := 36) hx hb dX9_sheet_20 (by decide) (fun c20 => ?_) (fun c20 => ?_)
        · rw [if_pos c20] at hF
          exact hj36 _ _ _ hF (lv_sub hl [0, 1, 2, 3] rfl) G
        · rw [if_neg c20] at hF
          refine lv_iload_n hx hb dX9_sheet_23 rfl (lv_at hl 2 rfl) ?_
          refine lv_bipush (v := 32) hx hb dX9_sheet_24 (by decide) ?_
          refine lv_icmp_eq (tgt := 36) hx hb dX9_sheet_26 (by decide) (fun c26 => ?_) (fun c26 => ?_)
          · rw [if_pos c26] at hF
            exact hj36 _ _ _ hF (lv_sub hl [0, 1, 2, 3] rfl) G
          · rw [if_neg c26] at hF
            refine lv_aload_n hx hb dX9_sheet_29 rfl (lv_at hl 0 rfl) ?_
            refine lv_ldc (v := -1000000001) hx hb C.2.2.2.1 (C.2.2.2.2.1 (.constant RX9 58 (-1000000001)) (by decide +kernel)) dX9_sheet_30 ?_
            obtain ⟨x32, M32, hx32⟩ : ∃ (X : Int32) (Y : mS), (X, Y) = mF_errs M (-1000000001) := ⟨_, _, rfl⟩
            refine mr_calli (r0 := x32) (M2 := M32) C hA G (by rw [hx32]; exact (k_errs zl D cI ad M (-1000000001) (by unfold vp_in; decide))) (cwV 1 C.2.2.2.2.1 gX9_sheet_X9_errs rfl rfl rfl (by decide +kernel) ⟨Nat.le_of_ble_eq_true rfl, Nat.le_of_ble_eq_true rfl⟩) rfl hl.1 rfl (Nat.le_of_ble_eq_true rfl) dX9_sheet_32 ⟨Nat.le_refl _, Nat.le_refl _⟩ (fun H locs G => ?_)
            rw [lt2_e hx32] at hF
            exact hret _ _ _ _ _ _ hF G dX9_sheet_35
set_option maxRecDepth 100000 in
set_option maxHeartbeats 4000000 in
theorem k_put (zl : Launch) (D : va_G) (cI : ClassId) (ad : Nat → Nat) (M : mS) (s : Int32) (i : Int32) (v : Int32) (hZ : zOK M) : mM zl D cI ad yX9_put wsX9_put ({ frames := 2, cells := 0, slots := 0, locals := 42 } : Room) [.int s, .int i, .int v] M (mF_put M s i v) := by
  have hin : ∀ w ∈ wsX90, w ∈ wsX9_put := fun w h => List.mem_cons_of_mem _ (List.mem_append_right _ h)
  refine mM_of (cc := cX9_put) (nL := 4) (by decide) rfl rfl (Nat.le_of_ble_eq_true rfl) ?_
  intro zp ze zs zm zg zb zt zc zA H0 zQ C hA hret H locs ls hl G
  have hx := C.1
  have hb := C.2.1
  have hl : lv_has ls 4 [(0, .ref (ad 0)), (1, .int s), (2, .int i), (3, .int v)] := hl
  obtain ⟨rM, hF⟩ : ∃ X : Int32 × mS, X = mF_put M s i v := ⟨_, rfl⟩
  rw [← hF] at hret
  unfold mF_put at hF
  refine lv_iload_n hx hb dX9_put_0 rfl (lv_at hl 1 rfl) ?_
  refine mr_calls C hA G (ks_isSheet zl s) (va_cwS 1 C.2.2.2.2.1 gX9_put_X9_isSheet rfl rfl rfl (by decide +kernel) ⟨Nat.le_of_ble_eq_true rfl, Nat.le_of_ble_eq_true rfl⟩) rfl hl.1 rfl (Nat.le_of_ble_eq_true rfl) dX9_put_1 ⟨Nat.le_refl _, Nat.le_refl _⟩ (fun H locs G => ?_)
  refine lv_if_ne (tgt := 14) hx hb dX9_put_4 (by decide) (fun c4 => ?_) (fun c4 => ?_)
  · rw [if_neg c4] at hF
    have hs := sheet_of c4
    have hs2 := hs.2
    have hz := hZ _ hs2
    have hz2 := hz.2
    refine lv_aload_n hx hb dX9_put_14 rfl (lv_at hl 0 rfl) ?_
    refine mr_get C G hin 18 (by decide) rfl (show Cond.fieldLink RX9 35 "WheatCountsModel" "bitsOf" "[I" ∈ _ by decide +kernel) (fun _ => rfl) dX9_put_15 ?_
    refine lv_iload_n hx hb dX9_put_18 rfl (lv_at hl 1 rfl) ?_
    refine mr_ald C G 8 (fun _ => rfl) (vn s) hs.1 (by omega) (Nat.le_of_ble_eq_true rfl) dX9_put_19 ?_
    refine lv_if_ne (tgt := 30) hx hb dX9_put_20 (by decide) (fun c20 => ?_) (fun c20 => ?_)
    · rw [if_neg c20] at hF
      refine lv_iload_n hx hb dX9_put_30 rfl (lv_at hl 2 rfl) ?_
      refine lv_iconst (v := 0) hx hb dX9_put_31 (by decide) ?_
      refine lv_aload_n hx hb dX9_put_32 rfl (lv_at hl 0 rfl) ?_
      refine mr_get C G hin 19 (by decide) rfl (show Cond.fieldLink RX9 38 "WheatCountsModel" "sizeOf" "[I" ∈ _ by decide +kernel) (fun _ => rfl) dX9_put_33 ?_
      refine lv_iload_n hx hb dX9_put_36 rfl (lv_at hl 1 rfl) ?_
      refine mr_ald C G 9 (fun _ => rfl) (vn s) hs.1 (by omega) (Nat.le_of_ble_eq_true rfl) dX9_put_37 ?_
      refine lv_iconst (v := 1) hx hb dX9_put_38 (by decide) ?_
      refine lv_isub hx hb dX9_put_39 ?_
      refine mr_calls C hA G (ks_in zl i 0 ((M 9 (vn s)) - 1)) (va_cwS 3 C.2.2.2.2.1 gX9_put_X9_in rfl rfl rfl (by decide +kernel) ⟨Nat.le_of_ble_eq_true rfl, Nat.le_of_ble_eq_true rfl⟩) rfl hl.1 rfl (Nat.le_of_ble_eq_true rfl) dX9_put_40 ⟨Nat.le_refl _, Nat.le_refl _⟩ (fun H locs G => ?_)
      refine lv_if_ne (tgt := 53) hx hb dX9_put_43 (by decide) (fun c43 => ?_) (fun c43 => ?_)
      · rw [if_neg c43] at hF
        have hi := in_nat c43 (nt_subI hz.1 (fun e9 => c43 (by rw [hz.1, e9]; exact in_m1 i)))
        have hi2 := hi.2
        refine lv_aload_n hx hb dX9_put_53 rfl (lv_at hl 0 rfl) ?_
        refine mr_get C G hin 20 (by decide) rfl (show Cond.fieldLink RX9 41 "WheatCountsModel" "sheets" "[I" ∈ _ by decide +kernel) (fun _ => rfl) dX9_put_54 ?_
        refine lv_bipush (v := 40) hx hb dX9_put_57 (by decide) ?_
        refine lv_iload_n hx hb dX9_put_59 rfl (lv_at hl 1 rfl) ?_
        refine lv_imul hx hb dX9_put_60 ?_
        refine lv_iload_n hx hb dX9_put_61 rfl (lv_at hl 2 rfl) ?_
        refine lv_iadd hx hb dX9_put_62 ?_
        refine lv_aload_n hx hb dX9_put_63 rfl (lv_at hl 0 rfl) ?_
        refine mr_get C G hin 18 (by decide) rfl (show Cond.fieldLink RX9 35 "WheatCountsModel" "bitsOf" "[I" ∈ _ by decide +kernel) (fun _ => rfl) dX9_put_64 ?_
        refine lv_iload_n hx hb dX9_put_67 rfl (lv_at hl 1 rfl) ?_
        refine mr_ald C G 8 (fun _ => rfl) (vn s) hs.1 (by omega) (Nat.le_of_ble_eq_true rfl) dX9_put_68 ?_
        refine lv_iload_n hx hb dX9_put_69 rfl (lv_at hl 3 rfl) ?_
        refine mr_calls C hA G (ks_narrow zl (M 8 (vn s)) v) (va_cwS 2 C.2.2.2.2.1 gX9_put_X9_narrow rfl rfl rfl (by decide +kernel) ⟨Nat.le_of_ble_eq_true rfl, Nat.le_of_ble_eq_true rfl⟩) rfl hl.1 rfl (Nat.le_of_ble_eq_true rfl) dX9_put_70 ⟨Nat.le_refl _, Nat.le_refl _⟩ (fun H locs G => ?_)
        refine mr_ast C G 10 (fun _ => rfl) ((40 * (vn s)) + (vn i)) (nt_add (nt_mul rfl hs.1) hi.1) (by omega) (Nat.le_of_ble_eq_true rfl) (fun _ => rfl) dX9_put_73 (fun H locs G => ?_)
        obtain ⟨M73, hM73⟩ : ∃ X : mS, X = mU M 10 ((40 * (vn s)) + (vn i)) (sF_narrow (M 8 (vn s)) v) := ⟨_, rfl⟩
        rw [← hM73] at G
        rw [lt_e hM73] at hF
        refine lv_iconst (v := 1) hx hb dX9_put_74 (by decide) ?_
        exact hret _ _ _ _ _ _ hF G dX9_put_75
      · rw [if_pos c43] at hF
        refine lv_aload_n hx hb dX9_put_46 rfl (lv_at hl 0 rfl) ?_
        refine lv_ldc (v := -1000000001) hx hb C.2.2.2.1 (C.2.2.2.2.1 (.constant RX9 58 (-1000000001)) (by decide +kernel)) dX9_put_47 ?_
        obtain ⟨x49, M49, hx49⟩ : ∃ (X : Int32) (Y : mS), (X, Y) = mF_errs M (-1000000001) := ⟨_, _, rfl⟩
        refine mr_calli (r0 := x49) (M2 := M49) C hA G (by rw [hx49]; exact (k_errs zl D cI ad M (-1000000001) (by unfold vp_in; decide))) (cwV 1 C.2.2.2.2.1 gX9_put_X9_errs rfl rfl rfl (by decide +kernel) ⟨Nat.le_of_ble_eq_true rfl, Nat.le_of_ble_eq_true rfl⟩) rfl hl.1 rfl (Nat.le_of_ble_eq_true rfl) dX9_put_49 ⟨Nat.le_refl _, Nat.le_refl _⟩ (fun H locs G => ?_)
        rw [lt2_e hx49] at hF
        exact hret _ _ _ _ _ _ hF G dX9_put_52
    · rw [if_pos c20] at hF
      refine lv_aload_n hx hb dX9_put_23 rfl (lv_at hl 0 rfl) ?_
      refine lv_ldc (v := -1000000002) hx hb C.2.2.2.1 (C.2.2.2.2.1 (.constant RX9 204 (-1000000002)) (by decide +kernel)) dX9_put_24 ?_
      obtain ⟨x26, M26, hx26⟩ : ∃ (X : Int32) (Y : mS), (X, Y) = mF_errs M (-1000000002) := ⟨_, _, rfl⟩
      refine mr_calli (r0 := x26) (M2 := M26) C hA G (by rw [hx26]; exact (k_errs zl D cI ad M (-1000000002) (by unfold vp_in; decide))) (cwV 1 C.2.2.2.2.1 gX9_put_X9_errs rfl rfl rfl (by decide +kernel) ⟨Nat.le_of_ble_eq_true rfl, Nat.le_of_ble_eq_true rfl⟩) rfl hl.1 rfl (Nat.le_of_ble_eq_true rfl) dX9_put_26 ⟨Nat.le_refl _, Nat.le_refl _⟩ (fun H locs G => ?_)
      rw [lt2_e hx26] at hF
      exact hret _ _ _ _ _ _ hF G dX9_put_29
  · rw [if_pos c4] at hF
    refine lv_aload_n hx hb dX9_put_7 rfl (lv_at hl 0 rfl) ?_
    refine lv_ldc (v := -1000000001) hx hb C.2.2.2.1 (C.2.2.2.2.1 (.constant RX9 58 (-1000000001)) (by decide +kernel)) dX9_put_8 ?_
    obtain ⟨x10, M10, hx10⟩ : ∃ (X : Int32) (Y : mS), (X, Y) = mF_errs M (-1000000001) := ⟨_, _, rfl⟩
    refine mr_calli (r0 := x10) (M2 := M10) C hA G (by rw [hx10]; exact (k_errs zl D cI ad M (-1000000001) (by unfold vp_in; decide))) (cwV 1 C.2.2.2.2.1 gX9_put_X9_errs rfl rfl rfl (by decide +kernel) ⟨Nat.le_of_ble_eq_true rfl, Nat.le_of_ble_eq_true rfl⟩) rfl hl.1 rfl (Nat.le_of_ble_eq_true rfl) dX9_put_10 ⟨Nat.le_refl _, Nat.le_refl _⟩ (fun H locs G => ?_)
    rw [lt2_e hx10] at hF
    exact hret _ _ _ _ _ _ hF G dX9_put_13
set_option maxRecDepth 100000 in
set_option maxHeartbeats 4000000 in
theorem k_image (zl : Launch) (D : va_G) (cI : ClassId) (ad : Nat → Nat) (M : mS) : mM zl D cI ad yX9_image wsX9_image ({ frames := 1, cells := 0, slots := 0, locals := 23 } : Room) [] M (mF_image M) := by
  have hin : ∀ w ∈ wsX90, w ∈ wsX9_image := fun w h => List.mem_cons_of_mem _ (List.mem_append_right _ h)
  refine mM_of (cc := cX9_image) (nL := 1) (by decide) rfl rfl (Nat.le_of_ble_eq_true rfl) ?_
  intro zp ze zs zm zg zb zt zc zA H0 zQ C hA hret H locs ls hl G
  have hx := C.1
  have hb := C.2.1
  have hl : lv_has ls 1 [(0, .ref (ad 0))] := hl
  obtain ⟨rM, hF⟩ : ∃ X : Int32 × mS, X = mF_image M := ⟨_, rfl⟩
  rw [← hF] at hret
  unfold mF_image at hF
  refine lv_aload_n hx hb dX9_image_0 rfl (lv_at hl 0 rfl) ?_
  refine lv_aload_n hx hb dX9_image_1 rfl (lv_at hl 0 rfl) ?_
  refine mr_get C G hin 0 (by decide) rfl (show Cond.fieldLink RX9 7 "WheatCountsModel" "row" "[I" ∈ _ by decide +kernel) (fun _ => rfl) dX9_image_2 ?_
  refine lv_aload_n hx hb dX9_image_5 rfl (lv_at hl 0 rfl) ?_
  refine mr_get C G hin 1 (by decide) rfl (show Cond.fieldLink RX9 13 "WheatCountsModel" "kept" "[I" ∈ _ by decide +kernel) (fun _ => rfl) dX9_image_6 ?_
  refine mr_callv C hA G (k_moveAll_1_2 zl D cI ad M ) (cwV 2 C.2.2.2.2.1 gX9_image_X9_moveAll rfl rfl rfl (by decide +kernel) ⟨Nat.le_of_ble_eq_true rfl, Nat.le_of_ble_eq_true rfl⟩) rfl hl.1 rfl (Nat.le_of_ble_eq_true rfl) dX9_image_9 ⟨Nat.le_refl _, Nat.le_refl _⟩ (fun H locs G => ?_)
  obtain ⟨M9, hM9⟩ : ∃ X : mS, X = mF_moveAll_1_2 M := ⟨_, rfl⟩
  rw [← hM9] at G
  rw [lt_e hM9] at hF
  refine lv_aload_n hx hb dX9_image_12 rfl (lv_at hl 0 rfl) ?_
  refine lv_iconst (v := 1) hx hb dX9_image_13 (by decide) ?_
  refine mr_put C G hin 4 (by decide) rfl rfl (show Cond.fieldLink RX9 264 "WheatCountsModel" "isKept" "Z" ∈ _ by decide +kernel) (ty := .boolean) (by decide +kernel) rfl rfl (fun _ => rfl) dX9_image_14 (fun H locs G => ?_)
  obtain ⟨M14, hM14⟩ : ∃ X : mS, X = mU M9 0 4 1 := ⟨_, rfl⟩
  rw [← hM14] at G
  rw [lt_e hM14] at hF
  refine lv_aload_n hx hb dX9_image_17 rfl (lv_at hl 0 rfl) ?_
  refine lv_dup hx hb dX9_image_18 rfl ?_
  refine mr_get C G hin 5 (by decide) rfl (show Cond.fieldLink RX9 267 "WheatCountsModel" "images" "I" ∈ _ by decide +kernel) (fun _ => rfl) dX9_image_19 ?_
  refine lv_iconst (v := 1) hx hb dX9_image_22 (by decide) ?_
  refine lv_iadd hx hb dX9_image_23 ?_
  refine mr_put C G hin 5 (by decide) rfl rfl (show Cond.fieldLink RX9 267 "WheatCountsModel" "images" "I" ∈ _ by decide +kernel) (ty := .int) (by decide +kernel) rfl rfl (fun _ => rfl) dX9_image_24 (fun H locs G => ?_)
  obtain ⟨M24, hM24⟩ : ∃ X : mS, X = mU M14 0 5 ((M14 0 5) + 1) := ⟨_, rfl⟩
  rw [← hM24] at G
  rw [lt_e hM24] at hF
  refine lv_aload_n hx hb dX9_image_27 rfl (lv_at hl 0 rfl) ?_
  refine mr_get C G hin 5 (by decide) rfl (show Cond.fieldLink RX9 267 "WheatCountsModel" "images" "I" ∈ _ by decide +kernel) (fun _ => rfl) dX9_image_28 ?_
  exact hret _ _ _ _ _ _ hF G dX9_image_31
set_option maxRecDepth 100000 in
set_option maxHeartbeats 4000000 in
theorem k_restore (zl : Launch) (D : va_G) (cI : ClassId) (ad : Nat → Nat) (M : mS) : mM zl D cI ad yX9_restore wsX9_restore ({ frames := 1, cells := 0, slots := 0, locals := 23 } : Room) [] M (mF_restore M) := by
  have hin : ∀ w ∈ wsX90, w ∈ wsX9_restore := fun w h => List.mem_cons_of_mem _ (List.mem_append_right _ h)
  refine mM_of (cc := cX9_restore) (nL := 1) (by decide) rfl rfl (Nat.le_of_ble_eq_true rfl) ?_
  intro zp ze zs zm zg zb zt zc zA H0 zQ C hA hret H locs ls hl G
  have hx := C.1
  have hb := C.2.1
  have hl : lv_has ls 1 [(0, .ref (ad 0))] := hl
  obtain ⟨rM, hF⟩ : ∃ X : Int32 × mS, X = mF_restore M := ⟨_, rfl⟩
  rw [← hF] at hret
  unfold mF_restore at hF
  refine lv_aload_n hx hb dX9_restore_0 rfl (lv_at hl 0 rfl) ?_
  refine mr_get C G hin 4 (by decide) rfl (show Cond.fieldLink RX9 264 "WheatCountsModel" "isKept" "Z" ∈ _ by decide +kernel) (fun _ => rfl) dX9_restore_1 ?_
  refine lv_if_ne (tgt := 14) hx hb dX9_restore_4 (by decide) (fun c4 => ?_) (fun c4 => ?_)
  · rw [if_neg c4] at hF
    refine lv_aload_n hx hb dX9_restore_14 rfl (lv_at hl 0 rfl) ?_
    refine lv_aload_n hx hb dX9_restore_15 rfl (lv_at hl 0 rfl) ?_
    refine mr_get C G hin 1 (by decide) rfl (show Cond.fieldLink RX9 13 "WheatCountsModel" "kept" "[I" ∈ _ by decide +kernel) (fun _ => rfl) dX9_restore_16 ?_
    refine lv_aload_n hx hb dX9_restore_19 rfl (lv_at hl 0 rfl) ?_
    refine mr_get C G hin 0 (by decide) rfl (show Cond.fieldLink RX9 7 "WheatCountsModel" "row" "[I" ∈ _ by decide +kernel) (fun _ => rfl) dX9_restore_20 ?_
    refine mr_callv C hA G (k_moveAll_2_1 zl D cI ad M ) (cwV 2 C.2.2.2.2.1 gX9_restore_X9_moveAll rfl rfl rfl (by decide +kernel) ⟨Nat.le_of_ble_eq_true rfl, Nat.le_of_ble_eq_true rfl⟩) rfl hl.1 rfl (Nat.le_of_ble_eq_true rfl) dX9_restore_23 ⟨Nat.le_refl _, Nat.le_refl _⟩ (fun H locs G => ?_)
    obtain ⟨M23, hM23⟩ : ∃ X : mS, X = mF_moveAll_2_1 M := ⟨_, rfl⟩
    rw [← hM23] at G
    rw [lt_e hM23] at hF
    refine lv_aload_n hx hb dX9_restore_26 rfl (lv_at hl 0 rfl) ?_
    refine mr_get C G hin 0 (by decide) rfl (show Cond.fieldLink RX9 7 "WheatCountsModel" "row" "[I" ∈ _ by decide +kernel) (fun _ => rfl) dX9_restore_27 ?_
    refine lv_iconst (v := 0) hx hb dX9_restore_30 (by decide) ?_
    refine mr_ald C G 1 (fun _ => rfl) 0 rfl (by omega) (Nat.le_of_ble_eq_true rfl) dX9_restore_31 ?_
    exact hret _ _ _ _ _ _ hF G dX9_restore_32
  · rw [if_pos c4] at hF
    refine lv_aload_n hx hb dX9_restore_7 rfl (lv_at hl 0 rfl) ?_
    refine lv_ldc (v := -1000000002) hx hb C.2.2.2.1 (C.2.2.2.2.1 (.constant RX9 204 (-1000000002)) (by decide +kernel)) dX9_restore_8 ?_
    obtain ⟨x10, M10, hx10⟩ : ∃ (X : Int32) (Y : mS), (X, Y) = mF_errs M (-1000000002) := ⟨_, _, rfl⟩
    refine mr_calli (r0 := x10) (M2 := M10) C hA G (by rw [hx10]; exact (k_errs zl D cI ad M (-1000000002) (by unfold vp_in; decide))) (cwV 1 C.2.2.2.2.1 gX9_restore_X9_errs rfl rfl rfl (by decide +kernel) ⟨Nat.le_of_ble_eq_true rfl, Nat.le_of_ble_eq_true rfl⟩) rfl hl.1 rfl (Nat.le_of_ble_eq_true rfl) dX9_restore_10 ⟨Nat.le_refl _, Nat.le_refl _⟩ (fun H locs G => ?_)
    rw [lt2_e hx10] at hF
    exact hret _ _ _ _ _ _ hF G dX9_restore_13
set_option maxRecDepth 100000 in
set_option maxHeartbeats 4000000 in
theorem k_tell (zl : Launch) (D : va_G) (cI : ClassId) (ad : Nat → Nat) (M : mS) (v : Int32) (hW : wOK M) : mM zl D cI ad yX9_tell wsX9_tell ({ frames := 1, cells := 0, slots := 0, locals := 21 } : Room) [.int v] M (mF_tell M v) := by
  have hin : ∀ w ∈ wsX90, w ∈ wsX9_tell := fun w h => List.mem_cons_of_mem _ (List.mem_append_right _ h)
  refine mM_of (cc := cX9_tell) (nL := 2) (by decide) rfl rfl (Nat.le_of_ble_eq_true rfl) ?_
  intro zp ze zs zm zg zb zt zc zA H0 zQ C hA hret H locs ls hl G
  have hx := C.1
  have hb := C.2.1
  have hl : lv_has ls 2 [(0, .ref (ad 0)), (1, .int v)] := hl
  obtain ⟨rM, hF⟩ : ∃ X : Int32 × mS, X = mF_tell M v := ⟨_, rfl⟩
  rw [← hF] at hret
  unfold mF_tell at hF
  refine lv_aload_n hx hb dX9_tell_0 rfl (lv_at hl 0 rfl) ?_
  refine mr_get C G hin 0 (by decide) rfl (show Cond.fieldLink RX9 7 "WheatCountsModel" "row" "[I" ∈ _ by decide +kernel) (fun _ => rfl) dX9_tell_1 ?_
  refine lv_iconst (v := 5) hx hb dX9_tell_4 (by decide) ?_
  refine mr_ald C G 1 (fun _ => rfl) 5 rfl (by omega) (Nat.le_of_ble_eq_true rfl) dX9_tell_5 ?_
  refine lv_bipush (v := 20) hx hb dX9_tell_6 (by decide) ?_
  refine lv_icmp_ne (tgt := 18) hx hb dX9_tell_8 (by decide) (fun c8 => ?_) (fun c8 => ?_)
  · rw [if_neg c8] at hF
    have hw := tell_lt hW c8
    refine lv_aload_n hx hb dX9_tell_18 rfl (lv_at hl 0 rfl) ?_
    refine mr_get C G hin 0 (by decide) rfl (show Cond.fieldLink RX9 7 "WheatCountsModel" "row" "[I" ∈ _ by decide +kernel) (fun _ => rfl) dX9_tell_19 ?_
    refine lv_bipush (v := 114) hx hb dX9_tell_22 (by decide) ?_
    refine lv_aload_n hx hb dX9_tell_24 rfl (lv_at hl 0 rfl) ?_
    refine mr_get C G hin 0 (by decide) rfl (show Cond.fieldLink RX9 7 "WheatCountsModel" "row" "[I" ∈ _ by decide +kernel) (fun _ => rfl) dX9_tell_25 ?_
    refine lv_iconst (v := 5) hx hb dX9_tell_28 (by decide) ?_
    refine mr_ald C G 1 (fun _ => rfl) 5 rfl (by omega) (Nat.le_of_ble_eq_true rfl) dX9_tell_29 ?_
    refine lv_iadd hx hb dX9_tell_30 ?_
    refine lv_iload_n hx hb dX9_tell_31 rfl (lv_at hl 1 rfl) ?_
    refine mr_ast C G 1 (fun _ => rfl) (114 + (vn (M 1 5))) (nt_add rfl hW.1) (by omega) (Nat.le_of_ble_eq_true rfl) (fun _ => rfl) dX9_tell_32 (fun H locs G => ?_)
    obtain ⟨M32, hM32⟩ : ∃ X : mS, X = mU M 1 (114 + (vn (M 1 5))) v := ⟨_, rfl⟩
    rw [← hM32] at G
    rw [lt_e hM32] at hF
    refine lv_aload_n hx hb dX9_tell_33 rfl (lv_at hl 0 rfl) ?_
    refine mr_get C G hin 0 (by decide) rfl (show Cond.fieldLink RX9 7 "WheatCountsModel" "row" "[I" ∈ _ by decide +kernel) (fun _ => rfl) dX9_tell_34 ?_
    refine lv_iconst (v := 5) hx hb dX9_tell_37 (by decide) ?_
    refine lv_dup2_11 hx hb dX9_tell_38 rfl rfl ?_
    refine mr_ald C G 1 (fun _ => rfl) 5 rfl (by omega) (Nat.le_of_ble_eq_true rfl) dX9_tell_39 ?_
    refine lv_iconst (v := 1) hx hb dX9_tell_40 (by decide) ?_
    refine lv_iadd hx hb dX9_tell_41 ?_
    refine mr_ast C G 1 (fun _ => rfl) 5 rfl (by omega) (Nat.le_of_ble_eq_true rfl) (fun _ => rfl) dX9_tell_42 (fun H locs G => ?_)
    obtain ⟨M42, hM42⟩ : ∃ X : mS, X = mU M32 1 5 ((M32 1 5) + 1) := ⟨_, rfl⟩
    rw [← hM42] at G
    rw [lt_e hM42] at hF
    refine lv_aload_n hx hb dX9_tell_43 rfl (lv_at hl 0 rfl) ?_
    refine mr_get C G hin 0 (by decide) rfl (show Cond.fieldLink RX9 7 "WheatCountsModel" "row" "[I" ∈ _ by decide +kernel) (fun _ => rfl) dX9_tell_44 ?_
    refine lv_iconst (v := 5) hx hb dX9_tell_47 (by decide) ?_
    refine mr_ald C G 1 (fun _ => rfl) 5 rfl (by omega) (Nat.le_of_ble_eq_true rfl) dX9_tell_48 ?_
    exact hret _ _ _ _ _ _ hF G dX9_tell_49
  · rw [if_pos c8] at hF
    refine lv_aload_n hx hb dX9_tell_11 rfl (lv_at hl 0 rfl) ?_
    refine lv_ldc (v := -1000000004) hx hb C.2.2.2.1 (C.2.2.2.2.1 (.constant RX9 89 (-1000000004)) (by decide +kernel)) dX9_tell_12 ?_
    obtain ⟨x14, M14, hx14⟩ : ∃ (X : Int32) (Y : mS), (X, Y) = mF_errs M (-1000000004) := ⟨_, _, rfl⟩
    refine mr_calli (r0 := x14) (M2 := M14) C hA G (by rw [hx14]; exact (k_errs zl D cI ad M (-1000000004) (by unfold vp_in; decide))) (cwV 1 C.2.2.2.2.1 gX9_tell_X9_errs rfl rfl rfl (by decide +kernel) ⟨Nat.le_of_ble_eq_true rfl, Nat.le_of_ble_eq_true rfl⟩) rfl hl.1 rfl (Nat.le_of_ble_eq_true rfl) dX9_tell_14 ⟨Nat.le_refl _, Nat.le_refl _⟩ (fun H locs G => ?_)
    rw [lt2_e hx14] at hF
    exact hret _ _ _ _ _ _ hF G dX9_tell_17
set_option maxRecDepth 100000 in
set_option maxHeartbeats 4000000 in
theorem k_count (zl : Launch) (D : va_G) (cI : ClassId) (ad : Nat → Nat) (M : mS) (what : Int32) (hC : cOK M) : mM zl D cI ad yX9_count wsX9_count ({ frames := 1, cells := 0, slots := 0, locals := 22 } : Room) [.int what] M (mF_count M what) := by
  have hin : ∀ w ∈ wsX90, w ∈ wsX9_count := fun w h => List.mem_cons_of_mem _ (List.mem_append_right _ h)
  refine mM_of (cc := cX9_count) (nL := 2) (by decide) rfl rfl (Nat.le_of_ble_eq_true rfl) ?_
  intro zp ze zs zm zg zb zt zc zA H0 zQ C hA hret H locs ls hl G
  have hx := C.1
  have hb := C.2.1
  have hl : lv_has ls 2 [(0, .ref (ad 0)), (1, .int what)] := hl
  obtain ⟨rM, hF⟩ : ∃ X : Int32 × mS, X = mF_count M what := ⟨_, rfl⟩
  rw [← hF] at hret
  unfold mF_count at hF
  have hC1 := hC.1
  have hC2 := hC.2.1
  have hC3 := hC.2.2
  refine lv_iload_n hx hb dX9_count_0 rfl (lv_at hl 1 rfl) ?_
  by_cases c1_0 : what = 0
  · rw [if_pos c1_0] at hF
    refine lv_tableIn (off := 63) (tgt := 64) hx hb dX9_count_1 (by rw [c1_0]; decide) (by rw [c1_0]; decide) (by rw [c1_0]; rfl) (by decide) ?_
    refine lv_aload_n hx hb dX9_count_64 rfl (lv_at hl 0 rfl) ?_
    refine mr_get C G hin 0 (by decide) rfl (show Cond.fieldLink RX9 7 "WheatCountsModel" "row" "[I" ∈ _ by decide +kernel) (fun _ => rfl) dX9_count_65 ?_
    refine lv_iconst (v := 3) hx hb dX9_count_68 (by decide) ?_
    refine mr_ald C G 1 (fun _ => rfl) 3 rfl (by omega) (Nat.le_of_ble_eq_true rfl) dX9_count_69 ?_
    exact hret _ _ _ _ _ _ hF G dX9_count_70
  · rw [if_neg c1_0] at hF
    by_cases c1_1 : what = 1
    · rw [if_pos c1_1] at hF
      refine lv_tableIn (off := 70) (tgt := 71) hx hb dX9_count_1 (by rw [c1_1]; decide) (by rw [c1_1]; decide) (by rw [c1_1]; rfl) (by decide) ?_
      refine lv_aload_n hx hb dX9_count_71 rfl (lv_at hl 0 rfl) ?_
      refine mr_get C G hin 0 (by decide) rfl (show Cond.fieldLink RX9 7 "WheatCountsModel" "row" "[I" ∈ _ by decide +kernel) (fun _ => rfl) dX9_count_72 ?_
      refine lv_bipush (v := 8) hx hb dX9_count_75 (by decide) ?_
      refine mr_ald C G 1 (fun _ => rfl) 8 rfl (by omega) (Nat.le_of_ble_eq_true rfl) dX9_count_77 ?_
      exact hret _ _ _ _ _ _ hF G dX9_count_78
    · rw [if_neg c1_1] at hF
      by_cases c1_2 : what = 2
      · rw [if_pos c1_2] at hF
        refine lv_tableIn (off := 78) (tgt := 79) hx hb dX9_count_1 (by rw [c1_2]; decide) (by rw [c1_2]; decide) (by rw [c1_2]; rfl) (by decide) ?_
        refine lv_aload_n hx hb dX9_count_79 rfl (lv_at hl 0 rfl) ?_
        refine mr_get C G hin 0 (by decide) rfl (show Cond.fieldLink RX9 7 "WheatCountsModel" "row" "[I" ∈ _ by decide +kernel) (fun _ => rfl) dX9_count_80 ?_
        refine lv_iconst (v := 0) hx hb dX9_count_83 (by decide) ?_
        refine mr_ald C G 1 (fun _ => rfl) 0 rfl (by omega) (Nat.le_of_ble_eq_true rfl) dX9_count_84 ?_
        exact hret _ _ _ _ _ _ hF G dX9_count_85
      · rw [if_neg c1_2] at hF
        by_cases c1_3 : what = 3
        · rw [if_pos c1_3] at hF
          refine lv_tableIn (off := 85) (tgt := 86) hx hb dX9_count_1 (by rw [c1_3]; decide) (by rw [c1_3]; decide) (by rw [c1_3]; rfl) (by decide) ?_
          refine lv_aload_n hx hb dX9_count_86 rfl (lv_at hl 0 rfl) ?_
          refine mr_get C G hin 0 (by decide) rfl (show Cond.fieldLink RX9 7 "WheatCountsModel" "row" "[I" ∈ _ by decide +kernel) (fun _ => rfl) dX9_count_87 ?_
          refine lv_bipush (v := 9) hx hb dX9_count_90 (by decide) ?_
          refine mr_ald C G 1 (fun _ => rfl) 9 rfl (by omega) (Nat.le_of_ble_eq_true rfl) dX9_count_92 ?_
          exact hret _ _ _ _ _ _ hF G dX9_count_93
        · rw [if_neg c1_3] at hF
          by_cases c1_4 : what = 4
          · rw [if_pos c1_4] at hF
            refine lv_tableIn (off := 93) (tgt := 94) hx hb dX9_count_1 (by rw [c1_4]; decide) (by rw [c1_4]; decide) (by rw [c1_4]; rfl) (by decide) ?_
            refine lv_aload_n hx hb dX9_count_94 rfl (lv_at hl 0 rfl) ?_
            refine mr_get C G hin 0 (by decide) rfl (show Cond.fieldLink RX9 7 "WheatCountsModel" "row" "[I" ∈ _ by decide +kernel) (fun _ => rfl) dX9_count_95 ?_
            refine lv_bipush (v := 10) hx hb dX9_count_98 (by decide) ?_
            refine mr_ald C G 1 (fun _ => rfl) 10 rfl (by omega) (Nat.le_of_ble_eq_true rfl) dX9_count_100 ?_
            exact hret _ _ _ _ _ _ hF G dX9_count_101
          · rw [if_neg c1_4] at hF
            by_cases c1_5 : what = 5
            · rw [if_pos c1_5] at hF
              refine lv_tableIn (off := 101) (tgt := 102) hx hb dX9_count_1 (by rw [c1_5]; decide) (by rw [c1_5]; decide) (by rw [c1_5]; rfl) (by decide) ?_
              refine lv_aload_n hx hb dX9_count_102 rfl (lv_at hl 0 rfl) ?_
              refine mr_get C G hin 0 (by decide) rfl (show Cond.fieldLink RX9 7 "WheatCountsModel" "row" "[I" ∈ _ by decide +kernel) (fun _ => rfl) dX9_count_103 ?_
              refine lv_iconst (v := 1) hx hb dX9_count_106 (by decide) ?_
              refine mr_ald C G 1 (fun _ => rfl) 1 rfl (by omega) (Nat.le_of_ble_eq_true rfl) dX9_count_107 ?_
              exact hret _ _ _ _ _ _ hF G dX9_count_108
            · rw [if_neg c1_5] at hF
              by_cases c1_6 : what = 6
              · rw [if_pos c1_6] at hF
                refine lv_tableIn (off := 108) (tgt := 109) hx hb dX9_count_1 (by rw [c1_6]; decide) (by rw [c1_6]; decide) (by rw [c1_6]; rfl) (by decide) ?_
                refine lv_aload_n hx hb dX9_count_109 rfl (lv_at hl 0 rfl) ?_
                refine mr_get C G hin 0 (by decide) rfl (show Cond.fieldLink RX9 7 "WheatCountsModel" "row" "[I" ∈ _ by decide +kernel) (fun _ => rfl) dX9_count_110 ?_
                refine lv_bipush (v := 11) hx hb dX9_count_113 (by decide) ?_
                refine mr_ald C G 1 (fun _ => rfl) 11 rfl (by omega) (Nat.le_of_ble_eq_true rfl) dX9_count_115 ?_
                exact hret _ _ _ _ _ _ hF G dX9_count_116
              · rw [if_neg c1_6] at hF
                by_cases c1_7 : what = 7
                · rw [if_pos c1_7] at hF
                  refine lv_tableIn (off := 116) (tgt := 117) hx hb dX9_count_1 (by rw [c1_7]; decide) (by rw [c1_7]; decide) (by rw [c1_7]; rfl) (by decide) ?_
                  refine lv_aload_n hx hb dX9_count_117 rfl (lv_at hl 0 rfl) ?_
                  refine mr_calli C hA G (k_grains zl D cI ad M  (by first | assumption | omega)) (cwV 0 C.2.2.2.2.1 gX9_count_X9_grains rfl rfl rfl (by decide +kernel) ⟨Nat.le_of_ble_eq_true rfl, Nat.le_of_ble_eq_true rfl⟩) rfl hl.1 rfl (Nat.le_of_ble_eq_true rfl) dX9_count_118 ⟨Nat.le_refl _, Nat.le_refl _⟩ (fun H locs G => ?_)
                  exact hret _ _ _ _ _ _ hF G dX9_count_121
                · rw [if_neg c1_7] at hF
                  by_cases c1_8 : what = 8
                  · rw [if_pos c1_8] at hF
                    refine lv_tableIn (off := 121) (tgt := 122) hx hb dX9_count_1 (by rw [c1_8]; decide) (by rw [c1_8]; decide) (by rw [c1_8]; rfl) (by decide) ?_
                    refine lv_aload_n hx hb dX9_count_122 rfl (lv_at hl 0 rfl) ?_
                    refine mr_get C G hin 0 (by decide) rfl (show Cond.fieldLink RX9 7 "WheatCountsModel" "row" "[I" ∈ _ by decide +kernel) (fun _ => rfl) dX9_count_123 ?_
                    refine lv_iconst (v := 4) hx hb dX9_count_126 (by decide) ?_
                    refine mr_ald C G 1 (fun _ => rfl) 4 rfl (by omega) (Nat.le_of_ble_eq_true rfl) dX9_count_127 ?_
                    exact hret _ _ _ _ _ _ hF G dX9_count_128
                  · rw [if_neg c1_8] at hF
                    by_cases c1_9 : what = 9
                    · rw [if_pos c1_9] at hF
                      refine lv_tableIn (off := 128) (tgt := 129) hx hb dX9_count_1 (by rw [c1_9]; decide) (by rw [c1_9]; decide) (by rw [c1_9]; rfl) (by decide) ?_
                      refine lv_aload_n hx hb dX9_count_129 rfl (lv_at hl 0 rfl) ?_
                      refine mr_get C G hin 0 (by decide) rfl (show Cond.fieldLink RX9 7 "WheatCountsModel" "row" "[I" ∈ _ by decide +kernel) (fun _ => rfl) dX9_count_130 ?_
                      refine lv_iconst (v := 5) hx hb dX9_count_133 (by decide) ?_
                      refine mr_ald C G 1 (fun _ => rfl) 5 rfl (by omega) (Nat.le_of_ble_eq_true rfl) dX9_count_134 ?_
                      exact hret _ _ _ _ _ _ hF G dX9_count_135
                    · rw [if_neg c1_9] at hF
                      by_cases c1_10 : what = 10
                      · rw [if_pos c1_10] at hF
                        refine lv_tableIn (off := 135) (tgt := 136) hx hb dX9_count_1 (by rw [c1_10]; decide) (by rw [c1_10]; decide) (by rw [c1_10]; rfl) (by decide) ?_
                        refine lv_aload_n hx hb dX9_count_136 rfl (lv_at hl 0 rfl) ?_
                        refine mr_get C G hin 24 (by decide) rfl (show Cond.fieldLink RX9 234 "WheatCountsModel" "tracedMany" "I" ∈ _ by decide +kernel) (fun _ => rfl) dX9_count_137 ?_
                        exact hret _ _ _ _ _ _ hF G dX9_count_140
                      · rw [if_neg c1_10] at hF
                        by_cases c1_11 : what = 11
                        · rw [if_pos c1_11] at hF
                          refine lv_tableIn (off := 140) (tgt := 141) hx hb dX9_count_1 (by rw [c1_11]; decide) (by rw [c1_11]; decide) (by rw [c1_11]; rfl) (by decide) ?_
                          refine lv_aload_n hx hb dX9_count_141 rfl (lv_at hl 0 rfl) ?_
                          refine mr_get C G hin 0 (by decide) rfl (show Cond.fieldLink RX9 7 "WheatCountsModel" "row" "[I" ∈ _ by decide +kernel) (fun _ => rfl) dX9_count_142 ?_
                          refine lv_iconst (v := 2) hx hb dX9_count_145 (by decide) ?_
                          refine mr_ald C G 1 (fun _ => rfl) 2 rfl (by omega) (Nat.le_of_ble_eq_true rfl) dX9_count_146 ?_
                          exact hret _ _ _ _ _ _ hF G dX9_count_147
                        · rw [if_neg c1_11] at hF
                          refine lv_tableOut (tgt := 148) hx hb dX9_count_1 (sw_out (fun i h1 h2 => by rcases (show i = 0 ∨ i = 1 ∨ i = 2 ∨ i = 3 ∨ i = 4 ∨ i = 5 ∨ i = 6 ∨ i = 7 ∨ i = 8 ∨ i = 9 ∨ i = 10 ∨ i = 11 by omega) with rfl | rfl | rfl | rfl | rfl | rfl | rfl | rfl | rfl | rfl | rfl | rfl <;> first | exact fun e9 => c1_0 (Int32.toInt_inj.mp e9) | exact fun e9 => c1_1 (Int32.toInt_inj.mp e9) | exact fun e9 => c1_2 (Int32.toInt_inj.mp e9) | exact fun e9 => c1_3 (Int32.toInt_inj.mp e9) | exact fun e9 => c1_4 (Int32.toInt_inj.mp e9) | exact fun e9 => c1_5 (Int32.toInt_inj.mp e9) | exact fun e9 => c1_6 (Int32.toInt_inj.mp e9) | exact fun e9 => c1_7 (Int32.toInt_inj.mp e9) | exact fun e9 => c1_8 (Int32.toInt_inj.mp e9) | exact fun e9 => c1_9 (Int32.toInt_inj.mp e9) | exact fun e9 => c1_10 (Int32.toInt_inj.mp e9) | exact fun e9 => c1_11 (Int32.toInt_inj.mp e9))) (by decide) ?_
                          refine lv_aload_n hx hb dX9_count_148 rfl (lv_at hl 0 rfl) ?_
                          refine lv_ldc (v := -1000000001) hx hb C.2.2.2.1 (C.2.2.2.2.1 (.constant RX9 58 (-1000000001)) (by decide +kernel)) dX9_count_149 ?_
                          obtain ⟨x151, M151, hx151⟩ : ∃ (X : Int32) (Y : mS), (X, Y) = mF_errs M (-1000000001) := ⟨_, _, rfl⟩
                          refine mr_calli (r0 := x151) (M2 := M151) C hA G (by rw [hx151]; exact (k_errs zl D cI ad M (-1000000001) (by unfold vp_in; decide))) (cwV 1 C.2.2.2.2.1 gX9_count_X9_errs rfl rfl rfl (by decide +kernel) ⟨Nat.le_of_ble_eq_true rfl, Nat.le_of_ble_eq_true rfl⟩) rfl hl.1 rfl (Nat.le_of_ble_eq_true rfl) dX9_count_151 ⟨Nat.le_refl _, Nat.le_refl _⟩ (fun H locs G => ?_)
                          rw [lt2_e hx151] at hF
                          exact hret _ _ _ _ _ _ hF G dX9_count_154
set_option maxRecDepth 100000 in
set_option maxHeartbeats 4000000 in
theorem k_told (zl : Launch) (D : va_G) (cI : ClassId) (ad : Nat → Nat) (M : mS) (k : Int32) : mM zl D cI ad yX9_told wsX9_told ({ frames := 1, cells := 0, slots := 0, locals := 22 } : Room) [.int k] M (mF_told M k) := by
  have hin : ∀ w ∈ wsX90, w ∈ wsX9_told := fun w h => List.mem_cons_of_mem _ (List.mem_append_right _ h)
  refine mM_of (cc := cX9_told) (nL := 2) (by decide) rfl rfl (Nat.le_of_ble_eq_true rfl) ?_
  intro zp ze zs zm zg zb zt zc zA H0 zQ C hA hret H locs ls hl G
  have hx := C.1
  have hb := C.2.1
  have hl : lv_has ls 2 [(0, .ref (ad 0)), (1, .int k)] := hl
  obtain ⟨rM, hF⟩ : ∃ X : Int32 × mS, X = mF_told M k := ⟨_, rfl⟩
  rw [← hF] at hret
  unfold mF_told at hF
  refine lv_iload_n hx hb dX9_told_0 rfl (lv_at hl 1 rfl) ?_
  refine lv_iconst (v := 1) hx hb dX9_told_1 (by decide) ?_
  refine lv_iconst (v := 5) hx hb dX9_told_2 (by decide) ?_
  refine mr_calls C hA G (ks_in zl k 1 5) (va_cwS 3 C.2.2.2.2.1 gX9_told_X9_in rfl rfl rfl (by decide +kernel) ⟨Nat.le_of_ble_eq_true rfl, Nat.le_of_ble_eq_true rfl⟩) rfl hl.1 rfl (Nat.le_of_ble_eq_true rfl) dX9_told_3 ⟨Nat.le_refl _, Nat.le_refl _⟩ (fun H locs G => ?_)
  refine lv_if_eq (tgt := 18) hx hb dX9_told_6 (by decide) (fun c6 => ?_) (fun c6 => ?_)
  · rw [if_pos c6] at hF
    refine lv_aload_n hx hb dX9_told_18 rfl (lv_at hl 0 rfl) ?_
    refine lv_ldc (v := -1000000001) hx hb C.2.2.2.1 (C.2.2.2.2.1 (.constant RX9 58 (-1000000001)) (by decide +kernel)) dX9_told_19 ?_
    obtain ⟨x21, M21, hx21⟩ : ∃ (X : Int32) (Y : mS), (X, Y) = mF_errs M (-1000000001) := ⟨_, _, rfl⟩
    refine mr_calli (r0 := x21) (M2 := M21) C hA G (by rw [hx21]; exact (k_errs zl D cI ad M (-1000000001) (by unfold vp_in; decide))) (cwV 1 C.2.2.2.2.1 gX9_told_X9_errs rfl rfl rfl (by decide +kernel) ⟨Nat.le_of_ble_eq_true rfl, Nat.le_of_ble_eq_true rfl⟩) rfl hl.1 rfl (Nat.le_of_ble_eq_true rfl) dX9_told_21 ⟨Nat.le_refl _, Nat.le_refl _⟩ (fun H locs G => ?_)
    rw [lt2_e hx21] at hF
    exact hret _ _ _ _ _ _ hF G dX9_told_24
  · rw [if_neg c6] at hF
    have hk := in_1n c6
    have hk2 := hk.2
    refine lv_aload_n hx hb dX9_told_9 rfl (lv_at hl 0 rfl) ?_
    refine mr_get C G hin 6 (by decide) rfl (show Cond.fieldLink RX9 22 "WheatCountsModel" "found" "[I" ∈ _ by decide +kernel) (fun _ => rfl) dX9_told_10 ?_
    refine lv_iload_n hx hb dX9_told_13 rfl (lv_at hl 1 rfl) ?_
    refine mr_ald C G 5 (fun _ => rfl) (vn k) hk.1 (by omega) (Nat.le_of_ble_eq_true rfl) dX9_told_14 ?_
    refine lv_goto (tgt := 24) hx hb dX9_told_15 (by decide) ?_
    exact hret _ _ _ _ _ _ hF G dX9_told_24

