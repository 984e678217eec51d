/-! Leading -/
set_option maxRecDepth 100000 in
set_option maxHeartbeats 4000000 in
theorem kx2_putDown (zl : Launch) (D : va_G) (ad sa : Nat → Nat) (cc : cT) (tt : tT) (X : xS) (f : Nat) (q : Nat) (hf : f < 3) (hq : q < 8) : xMv zl D ad sa cc tt yX2_putDown wsX2_putDown ({ frames := 0, cells := 0, slots := 0, locals := 0 } : Room) [.ref (ad 42), .int (nI f), .int (nI q)] X (x2_putDown X f q) := by
  refine xMv_of (code := cX2_putDown) (nL := 3) (own := RX2) (by decide) rfl rfl (Nat.le_of_ble_eq_true rfl) ?_
  intro zp ze zs zm zg zb zt zc zA zQ C hA hret H locs ls hl G
  have hx := C.1
  have hb := C.2.1
  have hl : lv_has ls 3 [(0, .ref (ad 42)), (1, .int (nI f)), (2, .int (nI q))] := hl
  obtain ⟨rM, hF⟩ : ∃ Z : xS, Z = x2_putDown X f q := ⟨_, rfl⟩
  rw [← hF] at hret
  unfold x2_putDown at hF
  refine lv_aload_n hx hb dX2_putDown_0 rfl (lv_at hl 0 rfl) ?_
  refine xr_get C G (show kL 42 by decide).2 (xL_c (show kL 42 by decide).1) rfl (fun _ h => List.mem_cons_of_mem _ (List.mem_append_right _ h)) 0 (by decide) (show Cond.fieldLink RX2 11 "WheatCounts$Leading" "row" "[I" ∈ _ by decide +kernel) rfl dX2_putDown_1 ?_
  refine lv_iload_n hx hb dX2_putDown_4 rfl (lv_at hl 1 rfl) ?_
  refine lv_iload_n hx hb dX2_putDown_5 rfl (lv_at hl 2 rfl) ?_
  refine xr_ast C G (show kI 43 4 by decide).2 (xI_c (show kI 43 4 by decide).1) f rfl (by omega) (xI_lt (show kI 43 4 by decide)) dX2_putDown_6 (fun H locs G => ?_)
  obtain ⟨X6, hX6⟩ : ∃ Z : xS, Z = mU X 43 f (nI q) := ⟨_, rfl⟩
  have G : xG D ad sa cc tt zA zs.heap H locs X6 := by rw [hX6]; exact G
  rw [lt_e hX6] at hF
  refine lv_aload_n hx hb dX2_putDown_7 rfl (lv_at hl 0 rfl) ?_
  refine xr_get C G (show kL 42 by decide).2 (xL_c (show kL 42 by decide).1) rfl (fun _ h => List.mem_cons_of_mem _ (List.mem_append_right _ h)) 0 (by decide) (show Cond.fieldLink RX2 11 "WheatCounts$Leading" "row" "[I" ∈ _ by decide +kernel) rfl dX2_putDown_8 ?_
  refine lv_iload_n hx hb dX2_putDown_11 rfl (lv_at hl 1 rfl) ?_
  refine lv_iconst (v := 1) hx hb dX2_putDown_12 (by decide) ?_
  refine lv_iadd hx hb dX2_putDown_13 ?_
  refine lv_aload_n hx hb dX2_putDown_14 rfl (lv_at hl 0 rfl) ?_
  refine xr_get C G (show kL 42 by decide).2 (xL_c (show kL 42 by decide).1) rfl (fun _ h => List.mem_cons_of_mem _ (List.mem_append_right _ h)) 4 (by decide) (show Cond.fieldLink RX2 22 "WheatCounts$Leading" "places" "[I" ∈ _ by decide +kernel) rfl dX2_putDown_15 ?_
  refine lv_iload_n hx hb dX2_putDown_18 rfl (lv_at hl 2 rfl) ?_
  refine xr_ald C G (show kI 46 8 by decide).2 (xI_c (show kI 46 8 by decide).1 _) q rfl (by omega) (xI_lt (show kI 46 8 by decide)) dX2_putDown_19 ?_
  refine xr_ast C G (show kI 43 4 by decide).2 (xI_c (show kI 43 4 by decide).1) (f + 1) (nt_add rfl rfl) (by omega) (xI_lt (show kI 43 4 by decide)) dX2_putDown_20 (fun H locs G => ?_)
  obtain ⟨X20, hX20⟩ : ∃ Z : xS, Z = mU X6 43 (f + 1) (X6 46 q) := ⟨_, rfl⟩
  have G : xG D ad sa cc tt zA zs.heap H locs X20 := by rw [hX20]; exact G
  rw [lt_e hX20] at hF
  exact hret _ _ _ _ _ hF G dX2_putDown_21
set_option maxRecDepth 100000 in
set_option maxHeartbeats 4000000 in
theorem ks_X2_index (zl : Launch) (time : Int32) (person : Int32) (start : Int32) : sM zl yX2_index wsX2_index ({ frames := 0, cells := 0, slots := 0, locals := 0 } : Room) [.int time, .int person, .int start] (p2_index time person start) := by
  refine sM_of (own := RX2) (cc := cX2_index) (nL := 3) (Or.inl rfl) (by decide) rfl rfl (Nat.le_of_ble_eq_true rfl) ?_
  intro zp ze zs zm zg zb zt zc zA H0 zQ C hA hret H locs ls hl G
  have hx := C.1
  have hb := C.2.1
  have hl : lv_has ls 3 [(0, .int time), (1, .int person), (2, .int start)] := hl
  obtain ⟨rM, hF⟩ : ∃ X : Int32, X = p2_index time person start := ⟨_, rfl⟩
  rw [← hF] at hret
  unfold p2_index at hF
  refine lv_iload_n hx hb dX2_index_0 rfl (lv_at hl 0 rfl) ?_
  refine lv_bipush (v := 8) hx hb dX2_index_1 (by decide) ?_
  refine lv_imul hx hb dX2_index_3 ?_
  refine lv_iload_n hx hb dX2_index_4 rfl (lv_at hl 1 rfl) ?_
  refine lv_iadd hx hb dX2_index_5 ?_
  refine lv_bipush (v := 10) hx hb dX2_index_6 (by decide) ?_
  refine lv_imul hx hb dX2_index_8 ?_
  refine lv_iload_n hx hb dX2_index_9 rfl (lv_at hl 2 rfl) ?_
  refine lv_iadd hx hb dX2_index_10 ?_
  exact hret _ _ _ _ _ hF G dX2_index_11
set_option maxRecDepth 100000 in
set_option maxHeartbeats 4000000 in
theorem kx2_placeAfter (zl : Launch) (D : va_G) (ad sa : Nat → Nat) (cc : cT) (tt : tT) (X : xS) (q : Nat) (s : Nat) (t : Nat) (hE : X 42 5 = 1) (hc : eC X 1) (hq : q < 8) (hs : s < 10) (ht : t ≤ 3) : xM zl D ad sa cc tt yX2_placeAfter wsX2_placeAfter ({ frames := 1, cells := 0, slots := 0, locals := 22 } : Room) [.ref (ad 42), .int (nI q), .int (nI s), .int (nI t)] X ((x2_placeAfter X q s t, X)) := by
  refine xM_of (code := cX2_placeAfter) (nL := 7) (own := RX2) (by decide) rfl rfl (Nat.le_of_ble_eq_true rfl) ?_
  intro zp ze zs zm zg zb zt zc zA zQ C hA hret H locs ls hl G
  have hx := C.1
  have hb := C.2.1
  have hl : lv_has ls 7 [(0, .ref (ad 42)), (1, .int (nI q)), (2, .int (nI s)), (3, .int (nI t))] := hl
  obtain ⟨rM, hF⟩ : ∃ Z : Int32, Z = x2_placeAfter X q s t := ⟨_, rfl⟩
  rw [← hF] at hret
  unfold x2_placeAfter at hF
  refine lv_iload_n hx hb dX2_placeAfter_0 rfl (lv_at hl 2 rfl) ?_
  refine lv_istore (lv' := [(4, .int (nI s)), (0, .ref (ad 42)), (1, .int (nI q)), (2, .int (nI s)), (3, .int (nI t))]) hx hb dX2_placeAfter_1 hl (by decide) rfl (fun ls hl => ?_)
  refine lv_aload_n hx hb dX2_placeAfter_3 rfl (lv_at hl 1 rfl) ?_
  refine xr_get C G (show kL 42 by decide).2 (xL_c (show kL 42 by decide).1) rfl (fun _ h => List.mem_cons_of_mem _ (List.mem_append_left _ (List.mem_append_right _ h))) 5 (by decide) (show Cond.fieldLink RX2 25 "WheatCounts$Leading" "estate" "LWheatCounts$Estate;" ∈ _ by decide +kernel) rfl dX2_placeAfter_4 ?_
  rw [rT_1 hE]
  refine xr_get C G (show kE 1 by decide).2 (xE_c (show kE 1 by decide).1) rfl (fun _ h => List.mem_cons_of_mem _ (List.mem_append_right _ h)) 13 (by decide) (show Cond.fieldLink RX2 116 "WheatCounts$Estate" "way" "[I" ∈ _ by decide +kernel) rfl dX2_placeAfter_7 ?_
  refine lv_iload_n hx hb dX2_placeAfter_10 rfl (lv_at hl 2 rfl) ?_
  refine xr_ald C G (show kI 8 8 by decide).2 (xI_c (show kI 8 8 by decide).1 _) q rfl (by omega) (xI_lt (show kI 8 8 by decide)) dX2_placeAfter_11 ?_
  refine lv_topi (fun x12 hx12 => ?_)
  rw [lt_e hx12] at hF
  refine lv_istore (lv' := [(5, .int x12), (4, .int (nI s)), (0, .ref (ad 42)), (1, .int (nI q)), (2, .int (nI s)), (3, .int (nI t))]) hx hb dX2_placeAfter_12 hl (by decide) rfl (fun ls hl => ?_)
  refine lv_iconst (v := 0) hx hb dX2_placeAfter_14 (by decide) ?_
  refine lv_istore (lv' := [(6, .int 0), (5, .int x12), (4, .int (nI s)), (0, .ref (ad 42)), (1, .int (nI q)), (2, .int (nI s)), (3, .int (nI t))]) hx hb dX2_placeAfter_15 hl (by decide) rfl (fun ls hl => ?_)
  obtain ⟨v4_17x, v5_17x, hX17⟩ : ∃ (v4_17x : Int32) (v5_17x : Int32), (v4_17x, v5_17x) = x2_placeAfter_L17 X s x12 t := ⟨_, _, rfl⟩
  rw [lt2_e hX17] at hF
  have hrest17 : ∀ (H : Heap) (locs : List Loc) (ls : Array Slot), lv_has ls 7 [(0, .ref (ad 42)), (1, .int (nI q)), (2, .int (nI s)), (3, .int (nI t)), (4, .int v4_17x), (5, .int v5_17x), (6, .int (nI t))] → xG D ad sa cc tt zA zs.heap H locs X → W zp zl ze ({ frames := 1, cells := 0, slots := 0, locals := 22 } : Room) zs zm zg zb zt zc H locs 0 0 zQ (F0 zm 65 ls []) := by
    intro H locs ls hl G
    refine lv_iload hx hb dX2_placeAfter_65 (lv_at hl 4 rfl) ?_
    exact hret _ _ _ _ _ _ (by rw [hF]) G dX2_placeAfter_67
  have hloop17 : ∀ (zj k17 : Nat), zj + k17 = t → ∀ (v4_17 : Int32) (v5_17 : Int32), (v4_17, v5_17) = x2_placeAfter_L17 X s x12 k17 → ∀ (H : Heap) (locs : List Loc) (ls : Array Slot), lv_has ls 7 [(0, .ref (ad 42)), (1, .int (nI q)), (2, .int (nI s)), (3, .int (nI t)), (4, .int v4_17), (5, .int v5_17), (6, .int (nI k17))] → xG D ad sa cc tt zA zs.heap H locs X → W zp zl ze ({ frames := 1, cells := 0, slots := 0, locals := 22 } : Room) zs zm zg zb zt zc H locs 0 0 zQ (F0 zm 17 ls []) := by
    intro zj
    induction zj with
    | zero =>
      intro k17 hk v4_17 v5_17 hL H locs ls hl G
      have hk : k17 = t := by omega
      rw [hk] at hL hl
      refine lv_iload hx hb dX2_placeAfter_17 (lv_at hl 6 rfl) ?_
      refine lv_iload_n hx hb dX2_placeAfter_19 rfl (lv_at hl 3 rfl) ?_
      refine lv_icmp_ge (tgt := 65) hx hb dX2_placeAfter_20 (by decide) (fun c20 => ?_) (fun c20 => absurd (lp_out (n := t) rfl) c20)
      cases hL.trans hX17.symm
      exact hrest17 _ _ _ (lv_sub hl [0, 1, 2, 3, 4, 5, 6] rfl) G
    | succ zj ih =>
      intro k17 hk v4_17 v5_17 hL H locs ls hl G
      have hkn : k17 < t := by omega
      obtain ⟨v4_17s, v5_17s, hS0⟩ : ∃ (v4_17s : Int32) (v5_17s : Int32), (v4_17s, v5_17s) = x2_placeAfter_L17 X s x12 (k17 + 1) := ⟨_, _, rfl⟩
      have hS := hS0
      rw [x2_placeAfter_L17_s, lt2_e hL] at hS
      refine lv_iload hx hb dX2_placeAfter_17 (lv_at hl 6 rfl) ?_
      refine lv_iload_n hx hb dX2_placeAfter_19 rfl (lv_at hl 3 rfl) ?_
      refine lv_icmp_ge (tgt := 65) hx hb dX2_placeAfter_20 (by decide) (fun c20 => absurd c20 (lp_in (n := t) rfl hkn (by omega))) (fun c20 => ?_)
      refine lv_iload hx hb dX2_placeAfter_23 (lv_at hl 4 rfl) ?_
      refine lv_iload hx hb dX2_placeAfter_25 (lv_at hl 5 rfl) ?_
      refine lv_iadd hx hb dX2_placeAfter_27 ?_
      refine lv_iconst (v := 0) hx hb dX2_placeAfter_28 (by decide) ?_
      refine lv_aload_n hx hb dX2_placeAfter_29 rfl (lv_at hl 0 rfl) ?_
      refine xr_get C G (show kL 42 by decide).2 (xL_c (show kL 42 by decide).1) rfl (fun _ h => List.mem_cons_of_mem _ (List.mem_append_left _ (List.mem_append_right _ h))) 5 (by decide) (show Cond.fieldLink RX2 25 "WheatCounts$Leading" "estate" "LWheatCounts$Estate;" ∈ _ by decide +kernel) rfl dX2_placeAfter_30 ?_
      rw [rT_1 hE]
      refine xr_get C G (show kE 1 by decide).2 (xE_c (show kE 1 by decide).1) rfl (fun _ h => List.mem_cons_of_mem _ (List.mem_append_right _ h)) 0 (by decide) (show Cond.fieldLink RX2 96 "WheatCounts$Estate" "cells" "I" ∈ _ by decide +kernel) rfl dX2_placeAfter_33 ?_
      refine lv_iconst (v := 1) hx hb dX2_placeAfter_36 (by decide) ?_
      refine lv_isub hx hb dX2_placeAfter_37 ?_
      refine xr_psn C hA G (ks_X8_within zl (v4_17 + v5_17) 0 ((X 1 0) - 1)) ⟨va_cnB 3 C.2.2.2.2.1 gX2_placeAfter_X8_within_n119 rfl rfl rfl (C.2.2.2.2.2.2.1 _ (List.mem_of_getElem? (i := 5) rfl)) (C.2.2.2.2.1 (.initialized RX8) (by decide +kernel)) (by decide +kernel) ⟨Nat.le_of_ble_eq_true rfl, Nat.le_of_ble_eq_true rfl⟩, C.2.2.2.2.1 (.static yX8_within) (by decide +kernel), trivial⟩ rfl hl.1 rfl (Nat.le_of_ble_eq_true rfl) dX2_placeAfter_38 ⟨Nat.le_refl _, Nat.le_refl _⟩ (fun H locs G => ?_)
      obtain ⟨z5_59, z4_59, hX59⟩ : ∃ (z5_59 : Int32) (z4_59 : Int32), (z5_59, z4_59) = ((if (p8_within (v4_17 + v5_17) 0 ((X 1 0) - 1)) = 0 then (lt (-v5_17) fun (x57 : Int32) => (x57, v4_17)) else (lt (v4_17 + v5_17) fun (x49 : Int32) => (v5_17, x49))) : Int32 × Int32) := ⟨_, _, rfl⟩
      rw [lt2_e hX59] at hS
      have hj59 : ∀ (H : Heap) (locs : List Loc) (ls : Array Slot), lv_has ls 7 [(0, .ref (ad 42)), (1, .int (nI q)), (2, .int (nI s)), (3, .int (nI t)), (4, .int z4_59), (5, .int z5_59), (6, .int (nI k17))] → xG D ad sa cc tt zA zs.heap H locs X → W zp zl ze ({ frames := 1, cells := 0, slots := 0, locals := 22 } : Room) zs zm zg zb zt zc H locs 0 0 zQ (F0 zm 59 ls []) := by
        intro H locs ls hl G
        refine lv_iinc (v := nI (k17 + 1)) (lv' := [(6, .int (nI (k17 + 1))), (0, .ref (ad 42)), (1, .int (nI q)), (2, .int (nI s)), (3, .int (nI t)), (4, .int z4_59), (5, .int z5_59)]) hx hb dX2_placeAfter_59 hl (k := 6) rfl (nt_add rfl (show (1 : Int32) = nI 1 from rfl)) (by decide) rfl (fun ls hl => ?_)
        refine lv_goto (tgt := 17) hx hb dX2_placeAfter_62 (by decide) ?_
        cases hS
        exact ih (k17 + 1) (by omega) _ _ hS0 _ _ _ (lv_sub hl [1, 2, 3, 4, 5, 6, 0] rfl) G
      refine lv_if_eq (tgt := 54) hx hb dX2_placeAfter_41 (by decide) (fun c41 => ?_) (fun c41 => ?_)
      · rw [if_pos c41] at hX59
        refine lv_iload hx hb dX2_placeAfter_54 (lv_at hl 5 rfl) ?_
        refine lv_ineg hx hb dX2_placeAfter_56 ?_
        refine lv_topi (fun x57 hx57 => ?_)
        rw [lt_e hx57] at hX59
        refine lv_istore (lv' := [(5, .int x57), (0, .ref (ad 42)), (1, .int (nI q)), (2, .int (nI s)), (3, .int (nI t)), (4, .int v4_17), (6, .int (nI k17))]) hx hb dX2_placeAfter_57 hl (by decide) rfl (fun ls hl => ?_)
        cases hX59
        exact hj59 _ _ _ (lv_sub hl [1, 2, 3, 4, 5, 0, 6] rfl) G
      · rw [if_neg c41] at hX59
        refine lv_iload hx hb dX2_placeAfter_44 (lv_at hl 4 rfl) ?_
        refine lv_iload hx hb dX2_placeAfter_46 (lv_at hl 5 rfl) ?_
        refine lv_iadd hx hb dX2_placeAfter_48 ?_
        refine lv_topi (fun x49 hx49 => ?_)
        rw [lt_e hx49] at hX59
        refine lv_istore (lv' := [(4, .int x49), (0, .ref (ad 42)), (1, .int (nI q)), (2, .int (nI s)), (3, .int (nI t)), (5, .int v5_17), (6, .int (nI k17))]) hx hb dX2_placeAfter_49 hl (by decide) rfl (fun ls hl => ?_)
        refine lv_goto (tgt := 59) hx hb dX2_placeAfter_51 (by decide) ?_
        cases hX59
        exact hj59 _ _ _ (lv_sub hl [1, 2, 3, 4, 0, 5, 6] rfl) G
  exact hloop17 _ 0 (Nat.add_zero _) _ _ rfl _ _ _ (lv_sub hl [3, 4, 5, 6, 2, 1, 0] rfl) G
theorem lw_L61 (q : Nat) (x : Int32) (k : Nat) (X : xS) (y : Int32) (n p : Nat) (h4 : p ≠ 44) (h5 : p ≠ 45) : x2_lookUpWalks_L61 q x k X y n p = X p := by
  induction n with
  | zero => rfl
  | succ n ih =>
    rw [x2_lookUpWalks_L61_s]
    simp only [lt_i]
    rw [mU_row h5, mU_row h4, ih]
theorem lw_L24 (tt : tT) (X : xS) (q : Nat) (x : Int32) (n p : Nat) (h4 : p ≠ 44) (h5 : p ≠ 45) : x2_lookUpWalks_L24 tt X q x n p = X p := by
  induction n with
  | zero => rfl
  | succ n ih =>
    rw [x2_lookUpWalks_L24_s]
    simp only [lt_i]
    rw [lw_L61 _ _ _ _ _ _ _ h4 h5, ih]
theorem lw_row (tt : tT) (X : xS) (q p : Nat) (h4 : p ≠ 44) (h5 : p ≠ 45) : x2_lookUpWalks tt X q p = X p := by
  unfold x2_lookUpWalks
  simp only [lt_i]
  exact lw_L24 _ _ _ _ _ _ h4 h5
set_option maxRecDepth 100000 in
set_option maxHeartbeats 4000000 in
theorem kx2_lookUpWalks (zl : Launch) (D : va_G) (ad sa : Nat → Nat) (cc : cT) (tt : tT) (X : xS) (q : Nat) (hl9 : lR tt X) (hq : q < 8) : xMv zl D ad sa cc tt yX2_lookUpWalks wsX2_lookUpWalks ({ frames := 4, cells := 0, slots := 0, locals := 95 } : Room) [.ref (ad 42), .int (nI q)] X (x2_lookUpWalks tt X q) := by
  refine xMv_of (code := cX2_lookUpWalks) (nL := 8) (own := RX2) (by decide) rfl rfl (Nat.le_of_ble_eq_true rfl) ?_
  intro zp ze zs zm zg zb zt zc zA zQ C hA hret H locs ls hl G
  have hx := C.1
  have hb := C.2.1
  have hl : lv_has ls 8 [(0, .ref (ad 42)), (1, .int (nI q))] := hl
  obtain ⟨rM, hF⟩ : ∃ Z : xS, Z = x2_lookUpWalks tt X q := ⟨_, rfl⟩
  rw [← hF] at hret
  unfold x2_lookUpWalks at hF
  have hE := hl9.1
  have hce := hl9.2.1
  have hsp := hl9.2.2.1
  have hpl := hl9.2.2.2.1
  have hR := hl9.2.2.2.2
  have hc := hR.1
  have hp := hR.2.1
  have ha := hR.2.2.1
  have ht := hR.2.2.2
  have hc2 := hc.2.1
  have hc3 := hc.2.2
  have hp2 := hp.2
  have hsp2 := hsp.2
  have hce2 := hce.2
  refine lv_aload_n hx hb dX2_lookUpWalks_0 rfl (lv_at hl 0 rfl) ?_
  refine xr_get C G (show kL 42 by decide).2 (xL_c (show kL 42 by decide).1) rfl (fun _ h => List.mem_cons_of_mem _ (List.mem_append_left _ (List.mem_append_left _ (List.mem_append_right _ h)))) 5 (by decide) (show Cond.fieldLink RX2 25 "WheatCounts$Leading" "estate" "LWheatCounts$Estate;" ∈ _ by decide +kernel) rfl dX2_lookUpWalks_1 ?_
  rw [rT_1 hE]
  refine xr_get C G (show kE 1 by decide).2 (xE_c (show kE 1 by decide).1) rfl (fun _ h => List.mem_cons_of_mem _ (List.mem_append_left _ (List.mem_append_right _ h))) 10 (by decide) (show Cond.fieldLink RX2 75 "WheatCounts$Estate" "kind" "[I" ∈ _ by decide +kernel) rfl dX2_lookUpWalks_4 ?_
  refine lv_iload_n hx hb dX2_lookUpWalks_7 rfl (lv_at hl 1 rfl) ?_
  refine xr_ald C G (show kI 5 8 by decide).2 (xI_c (show kI 5 8 by decide).1 _) q rfl (by omega) (xI_lt (show kI 5 8 by decide)) dX2_lookUpWalks_8 ?_
  refine lv_aload_n hx hb dX2_lookUpWalks_9 rfl (lv_at hl 0 rfl) ?_
  refine xr_get C G (show kL 42 by decide).2 (xL_c (show kL 42 by decide).1) rfl (fun _ h => List.mem_cons_of_mem _ (List.mem_append_left _ (List.mem_append_left _ (List.mem_append_right _ h)))) 5 (by decide) (show Cond.fieldLink RX2 25 "WheatCounts$Leading" "estate" "LWheatCounts$Estate;" ∈ _ by decide +kernel) rfl dX2_lookUpWalks_10 ?_
  rw [rT_1 hE]
  refine xr_get C G (show kE 1 by decide).2 (xE_c (show kE 1 by decide).1) rfl (fun _ h => List.mem_cons_of_mem _ (List.mem_append_left _ (List.mem_append_right _ h))) 11 (by decide) (show Cond.fieldLink RX2 78 "WheatCounts$Estate" "m" "[I" ∈ _ by decide +kernel) rfl dX2_lookUpWalks_13 ?_
  refine lv_iload_n hx hb dX2_lookUpWalks_16 rfl (lv_at hl 1 rfl) ?_
  refine xr_ald C G (show kI 6 8 by decide).2 (xI_c (show kI 6 8 by decide).1 _) q rfl (by omega) (xI_lt (show kI 6 8 by decide)) dX2_lookUpWalks_17 ?_
  refine xr_ps C hA G (ks_X1_countsOf zl (X 5 q) (X 6 q)) (va_cwS 2 C.2.2.2.2.1 gX2_lookUpWalks_X1_countsOf rfl rfl rfl (by decide +kernel) ⟨Nat.le_of_ble_eq_true rfl, Nat.le_of_ble_eq_true rfl⟩) rfl hl.1 rfl (Nat.le_of_ble_eq_true rfl) dX2_lookUpWalks_18 ⟨Nat.le_refl _, Nat.le_refl _⟩ (fun H locs G => ?_)
  refine lv_topi (fun x21 hx21 => ?_)
  rw [lt_e hx21] at hF
  refine lv_istore_n (lv' := [(2, .int x21), (0, .ref (ad 42)), (1, .int (nI q))]) hx hb dX2_lookUpWalks_21 rfl hl (by decide) rfl (fun ls hl => ?_)
  refine lv_iconst (v := 0) hx hb dX2_lookUpWalks_22 (by decide) ?_
  refine lv_istore_n (lv' := [(3, .int 0), (2, .int x21), (0, .ref (ad 42)), (1, .int (nI q))]) hx hb dX2_lookUpWalks_23 rfl hl (by decide) rfl (fun ls hl => ?_)
  obtain ⟨X24x, hX24⟩ : ∃ (X24x : xS), X24x = x2_lookUpWalks_L24 tt X q x21 (vn (X 42 7)) := ⟨_, rfl⟩
  rw [lt_e hX24] at hF
  have hrest24 : ∀ (H : Heap) (locs : List Loc) (ls : Array Slot), lv_has ls 8 [(0, .ref (ad 42)), (1, .int (nI q)), (2, .int x21), (3, .int (nI (vn (X 42 7))))] → xG D ad sa cc tt zA zs.heap H locs X24x → W zp zl ze ({ frames := 4, cells := 0, slots := 0, locals := 95 } : Room) zs zm zg zb zt zc H locs 0 0 zQ (F0 zm 171 ls []) := by
    intro H locs ls hl G
    exact hret _ _ _ _ _ hF G dX2_lookUpWalks_171
  have hloop24 : ∀ (zj k24 : Nat), zj + k24 = (vn (X 42 7)) → ∀ (X24 : xS), X24 = x2_lookUpWalks_L24 tt X q x21 k24 → ∀ (H : Heap) (locs : List Loc) (ls : Array Slot), lv_has ls 8 [(0, .ref (ad 42)), (1, .int (nI q)), (2, .int x21), (3, .int (nI k24))] → xG D ad sa cc tt zA zs.heap H locs X24 → W zp zl ze ({ frames := 4, cells := 0, slots := 0, locals := 95 } : Room) zs zm zg zb zt zc H locs 0 0 zQ (F0 zm 24 ls []) := by
    intro zj
    induction zj with
    | zero =>
      intro k24 hk X24 hL H locs ls hl G
      have hk : k24 = (vn (X 42 7)) := by omega
      rw [hk] at hL hl
      have hf24 : ∀ p, p ≠ 44 → p ≠ 45 → X24 p = X p := by rw [hL]; intro p h4 h5; exact lw_L24 _ _ _ _ _ p h4 h5
      refine lv_iload_n hx hb dX2_lookUpWalks_24 rfl (lv_at hl 3 rfl) ?_
      refine lv_aload_n hx hb dX2_lookUpWalks_25 rfl (lv_at hl 0 rfl) ?_
      refine xr_get C G (show kL 42 by decide).2 (xL_c (show kL 42 by decide).1) rfl (fun _ h => List.mem_cons_of_mem _ (List.mem_append_left _ (List.mem_append_left _ (List.mem_append_right _ h)))) 7 (by decide) (show Cond.fieldLink RX2 37 "WheatCounts$Leading" "span" "I" ∈ _ by decide +kernel) rfl dX2_lookUpWalks_26 ?_
      refine lv_icmp_ge (tgt := 171) hx hb dX2_lookUpWalks_29 (by decide) (fun c29 => ?_) (fun c29 => absurd (lp_out (n := (vn (X 42 7))) (by rw [hf24 42 (by decide) (by decide)]; exact hsp.1)) c29)
      obtain rfl := hL.trans hX24.symm
      exact hrest24 _ _ _ (lv_sub hl [0, 1, 2, 3] rfl) G
    | succ zj ih =>
      intro k24 hk X24 hL H locs ls hl G
      have hkn : k24 < (vn (X 42 7)) := by omega
      obtain ⟨X24s, hS0⟩ : ∃ (X24s : xS), X24s = x2_lookUpWalks_L24 tt X q x21 (k24 + 1) := ⟨_, rfl⟩
      have hS := hS0
      rw [x2_lookUpWalks_L24_s, lt_e hL] at hS
      have hf24 : ∀ p, p ≠ 44 → p ≠ 45 → X24 p = X p := by rw [hL]; intro p h4 h5; exact lw_L24 _ _ _ _ _ p h4 h5
      have hR24 : eR tt X24 1 := eR_of (hf24 1 (by decide) (by decide)) (hf24 7 (by decide) (by decide)) hR
      have hk24 : k24 < 3 := by omega
      have hE : X24 42 5 = 1 := by rw [hf24 42 (by decide) (by decide)]; exact hE
      refine lv_iload_n hx hb dX2_lookUpWalks_24 rfl (lv_at hl 3 rfl) ?_
      refine lv_aload_n hx hb dX2_lookUpWalks_25 rfl (lv_at hl 0 rfl) ?_
      refine xr_get C G (show kL 42 by decide).2 (xL_c (show kL 42 by decide).1) rfl (fun _ h => List.mem_cons_of_mem _ (List.mem_append_left _ (List.mem_append_left _ (List.mem_append_right _ h)))) 7 (by decide) (show Cond.fieldLink RX2 37 "WheatCounts$Leading" "span" "I" ∈ _ by decide +kernel) rfl dX2_lookUpWalks_26 ?_
      refine lv_icmp_ge (tgt := 171) hx hb dX2_lookUpWalks_29 (by decide) (fun c29 => absurd c29 (lp_in (n := (vn (X 42 7))) (by rw [hf24 42 (by decide) (by decide)]; exact hsp.1) hkn (by omega))) (fun c29 => ?_)
      refine lv_aload_n hx hb dX2_lookUpWalks_32 rfl (lv_at hl 0 rfl) ?_
      refine xr_get C G (show kL 42 by decide).2 (xL_c (show kL 42 by decide).1) rfl (fun _ h => List.mem_cons_of_mem _ (List.mem_append_left _ (List.mem_append_left _ (List.mem_append_right _ h)))) 5 (by decide) (show Cond.fieldLink RX2 25 "WheatCounts$Leading" "estate" "LWheatCounts$Estate;" ∈ _ by decide +kernel) rfl dX2_lookUpWalks_33 ?_
      rw [rT_1 hE]
      refine lv_iload_n hx hb dX2_lookUpWalks_36 rfl (lv_at hl 1 rfl) ?_
      refine lv_aload_n hx hb dX2_lookUpWalks_37 rfl (lv_at hl 0 rfl) ?_
      refine xr_get C G (show kL 42 by decide).2 (xL_c (show kL 42 by decide).1) rfl (fun _ h => List.mem_cons_of_mem _ (List.mem_append_left _ (List.mem_append_left _ (List.mem_append_right _ h)))) 5 (by decide) (show Cond.fieldLink RX2 25 "WheatCounts$Leading" "estate" "LWheatCounts$Estate;" ∈ _ by decide +kernel) rfl dX2_lookUpWalks_38 ?_
      rw [rT_1 hE]
      refine xr_get C G (show kE 1 by decide).2 (xE_c (show kE 1 by decide).1) rfl (fun _ h => List.mem_cons_of_mem _ (List.mem_append_left _ (List.mem_append_right _ h))) 6 (by decide) (show Cond.fieldLink RX2 86 "WheatCounts$Estate" "fog" "I" ∈ _ by decide +kernel) rfl dX2_lookUpWalks_41 ?_
      refine lv_aload_n hx hb dX2_lookUpWalks_44 rfl (lv_at hl 0 rfl) ?_
      refine xr_get C G (show kL 42 by decide).2 (xL_c (show kL 42 by decide).1) rfl (fun _ h => List.mem_cons_of_mem _ (List.mem_append_left _ (List.mem_append_left _ (List.mem_append_right _ h)))) 5 (by decide) (show Cond.fieldLink RX2 25 "WheatCounts$Leading" "estate" "LWheatCounts$Estate;" ∈ _ by decide +kernel) rfl dX2_lookUpWalks_45 ?_
      rw [rT_1 hE]
      refine xr_get C G (show kE 1 by decide).2 (xE_c (show kE 1 by decide).1) rfl (fun _ h => List.mem_cons_of_mem _ (List.mem_append_left _ (List.mem_append_right _ h))) 7 (by decide) (show Cond.fieldLink RX2 89 "WheatCounts$Estate" "hour" "I" ∈ _ by decide +kernel) rfl dX2_lookUpWalks_48 ?_
      refine lv_iload_n hx hb dX2_lookUpWalks_51 rfl (lv_at hl 3 rfl) ?_
      refine lv_iadd hx hb dX2_lookUpWalks_52 ?_
      refine xr_Vi C hA G (kx0_sightIn zl D ad sa cc tt X24 1 q (X24 1 6) ((X24 1 7) + (nI k24)) (show kE 1 by decide) hR24.2.2.2 (by omega)) (show kE 1 by decide).2 (xE_c (show kE 1 by decide).1) rfl (cwV 3 C.2.2.2.2.1 gX2_lookUpWalks_X0_sightIn rfl rfl rfl (by decide +kernel) ⟨Nat.le_of_ble_eq_true rfl, Nat.le_of_ble_eq_true rfl⟩) rfl hl.1 rfl (Nat.le_of_ble_eq_true rfl) dX2_lookUpWalks_53 ⟨Nat.le_refl _, Nat.le_refl _⟩ (fun H locs G => ?_)
      refine lv_topi (fun x56 hx56 => ?_)
      rw [lt_e hx56] at hS
      refine lv_istore (lv' := [(4, .int x56), (0, .ref (ad 42)), (1, .int (nI q)), (2, .int x21), (3, .int (nI k24))]) hx hb dX2_lookUpWalks_56 hl (by decide) rfl (fun ls hl => ?_)
      refine lv_iconst (v := 0) hx hb dX2_lookUpWalks_58 (by decide) ?_
      refine lv_istore (lv' := [(5, .int 0), (4, .int x56), (0, .ref (ad 42)), (1, .int (nI q)), (2, .int x21), (3, .int (nI k24))]) hx hb dX2_lookUpWalks_59 hl (by decide) rfl (fun ls hl => ?_)
      obtain ⟨X61x, hX61⟩ : ∃ (X61x : xS), X61x = x2_lookUpWalks_L61 q x21 k24 X24 x56 (vn (X 1 0)) := ⟨_, rfl⟩
      rw [lt_e hX61] at hS
      have hrest61 : ∀ (H : Heap) (locs : List Loc) (ls : Array Slot), lv_has ls 8 [(0, .ref (ad 42)), (1, .int (nI q)), (2, .int x21), (3, .int (nI k24)), (4, .int x56), (5, .int (nI (vn (X 1 0))))] → xG D ad sa cc tt zA zs.heap H locs X61x → W zp zl ze ({ frames := 4, cells := 0, slots := 0, locals := 95 } : Room) zs zm zg zb zt zc H locs 0 0 zQ (F0 zm 165 ls []) := by
        intro H locs ls hl G
        refine lv_iinc (v := nI (k24 + 1)) (lv' := [(3, .int (nI (k24 + 1))), (0, .ref (ad 42)), (1, .int (nI q)), (2, .int x21), (4, .int x56), (5, .int (nI (vn (X 1 0))))]) hx hb dX2_lookUpWalks_165 hl (k := 3) rfl (nt_add rfl (show (1 : Int32) = nI 1 from rfl)) (by decide) rfl (fun ls hl => ?_)
        refine lv_goto (tgt := 24) hx hb dX2_lookUpWalks_168 (by decide) ?_
        subst hS
        exact ih (k24 + 1) (by omega) _ hS0 _ _ _ (lv_sub hl [1, 2, 3, 0] rfl) G
      have hloop61 : ∀ (zj k61 : Nat), zj + k61 = (vn (X 1 0)) → ∀ (X61 : xS), X61 = x2_lookUpWalks_L61 q x21 k24 X24 x56 k61 → ∀ (H : Heap) (locs : List Loc) (ls : Array Slot), lv_has ls 8 [(0, .ref (ad 42)), (1, .int (nI q)), (2, .int x21), (3, .int (nI k24)), (4, .int x56), (5, .int (nI k61))] → xG D ad sa cc tt zA zs.heap H locs X61 → W zp zl ze ({ frames := 4, cells := 0, slots := 0, locals := 95 } : Room) zs zm zg zb zt zc H locs 0 0 zQ (F0 zm 61 ls []) := by
        intro zj
        induction zj with
        | zero =>
          intro k61 hk X61 hL H locs ls hl G
          have hk : k61 = (vn (X 1 0)) := by omega
          rw [hk] at hL hl
          have hf61 : ∀ p, p ≠ 44 → p ≠ 45 → X61 p = X p := by rw [hL]; intro p h4 h5; exact (lw_L61 _ _ _ _ _ _ p h4 h5).trans (hf24 p h4 h5)
          have hE : X61 42 5 = 1 := by rw [hf61 42 (by decide) (by decide)]; exact hl9.1
          refine lv_iload hx hb dX2_lookUpWalks_61 (lv_at hl 5 rfl) ?_
          refine lv_aload_n hx hb dX2_lookUpWalks_63 rfl (lv_at hl 0 rfl) ?_
          refine xr_get C G (show kL 42 by decide).2 (xL_c (show kL 42 by decide).1) rfl (fun _ h => List.mem_cons_of_mem _ (List.mem_append_left _ (List.mem_append_left _ (List.mem_append_right _ h)))) 5 (by decide) (show Cond.fieldLink RX2 25 "WheatCounts$Leading" "estate" "LWheatCounts$Estate;" ∈ _ by decide +kernel) rfl dX2_lookUpWalks_64 ?_
          rw [rT_1 hE]
          refine xr_get C G (show kE 1 by decide).2 (xE_c (show kE 1 by decide).1) rfl (fun _ h => List.mem_cons_of_mem _ (List.mem_append_left _ (List.mem_append_right _ h))) 0 (by decide) (show Cond.fieldLink RX2 96 "WheatCounts$Estate" "cells" "I" ∈ _ by decide +kernel) rfl dX2_lookUpWalks_67 ?_
          refine lv_icmp_ge (tgt := 165) hx hb dX2_lookUpWalks_70 (by decide) (fun c70 => ?_) (fun c70 => absurd (lp_out (n := (vn (X 1 0))) (by rw [hf61 1 (by decide) (by decide)]; exact hc.1)) c70)
          obtain rfl := hL.trans hX61.symm
          exact hrest61 _ _ _ (lv_sub hl [0, 1, 2, 3, 4, 5] rfl) G
        | succ zj ih =>
          intro k61 hk X61 hL H locs ls hl G
          have hkn : k61 < (vn (X 1 0)) := by omega
          obtain ⟨X61s, hS0⟩ : ∃ (X61s : xS), X61s = x2_lookUpWalks_L61 q x21 k24 X24 x56 (k61 + 1) := ⟨_, rfl⟩
          have hS := hS0
          rw [x2_lookUpWalks_L61_s, lt_e hL] at hS
          have hf61 : ∀ p, p ≠ 44 → p ≠ 45 → X61 p = X p := by rw [hL]; intro p h4 h5; exact (lw_L61 _ _ _ _ _ _ p h4 h5).trans (hf24 p h4 h5)
          have hR61 : eR tt X61 1 := eR_of (hf61 1 (by decide) (by decide)) (hf61 7 (by decide) (by decide)) hR
          have hE61 : X61 42 5 = 1 := by rw [hf61 42 (by decide) (by decide)]; exact hl9.1
          have hE : X61 42 5 = 1 := hE61
          have hk61 : k61 < 10 := by omega
          have hc61 : k61 < vn (X61 1 0) := by rw [hf61 1 (by decide) (by decide)]; exact hkn
          refine lv_iload hx hb dX2_lookUpWalks_61 (lv_at hl 5 rfl) ?_
          refine lv_aload_n hx hb dX2_lookUpWalks_63 rfl (lv_at hl 0 rfl) ?_
          refine xr_get C G (show kL 42 by decide).2 (xL_c (show kL 42 by decide).1) rfl (fun _ h => List.mem_cons_of_mem _ (List.mem_append_left _ (List.mem_append_left _ (List.mem_append_right _ h)))) 5 (by decide) (show Cond.fieldLink RX2 25 "WheatCounts$Leading" "estate" "LWheatCounts$Estate;" ∈ _ by decide +kernel) rfl dX2_lookUpWalks_64 ?_
          rw [rT_1 hE]
          refine xr_get C G (show kE 1 by decide).2 (xE_c (show kE 1 by decide).1) rfl (fun _ h => List.mem_cons_of_mem _ (List.mem_append_left _ (List.mem_append_right _ h))) 0 (by decide) (show Cond.fieldLink RX2 96 "WheatCounts$Estate" "cells" "I" ∈ _ by decide +kernel) rfl dX2_lookUpWalks_67 ?_
          refine lv_icmp_ge (tgt := 165) hx hb dX2_lookUpWalks_70 (by decide) (fun c70 => absurd c70 (lp_in (n := (vn (X 1 0))) (by rw [hf61 1 (by decide) (by decide)]; exact hc.1) hkn (by omega))) (fun c70 => ?_)
          refine lv_aload_n hx hb dX2_lookUpWalks_73 rfl (lv_at hl 0 rfl) ?_
          refine lv_iload_n hx hb dX2_lookUpWalks_74 rfl (lv_at hl 1 rfl) ?_
          refine lv_iload hx hb dX2_lookUpWalks_75 (lv_at hl 5 rfl) ?_
          refine lv_iload_n hx hb dX2_lookUpWalks_77 rfl (lv_at hl 3 rfl) ?_
          refine xr_Vi C hA G (kx2_placeAfter zl D ad sa cc tt X61 q k61 k24 hE61 hR61.1 (by omega) (by omega) (by omega)) (show kL 42 by decide).2 (xL_c (show kL 42 by decide).1) rfl (cwV 3 C.2.2.2.2.1 gX2_lookUpWalks_X2_placeAfter rfl rfl rfl (by decide +kernel) ⟨Nat.le_of_ble_eq_true rfl, Nat.le_of_ble_eq_true rfl⟩) rfl hl.1 rfl (Nat.le_of_ble_eq_true rfl) dX2_lookUpWalks_78 ⟨Nat.le_refl _, Nat.le_refl _⟩ (fun H locs G => ?_)
          refine lv_topi (fun x81 hx81 => ?_)
          obtain rfl : x81 = nI (vn (x2_placeAfter X61 q k61 k24)) := hx81.trans (pa_lt hc61 hR61.1).1
          refine lv_istore (lv' := [(6, .int (nI (vn (x2_placeAfter X61 q k61 k24)))), (0, .ref (ad 42)), (1, .int (nI q)), (2, .int x21), (3, .int (nI k24)), (4, .int x56), (5, .int (nI k61))]) hx hb dX2_lookUpWalks_81 hl (by decide) rfl (fun ls hl => ?_)
          have hpa := Nat.lt_of_lt_of_le (pa_lt hc61 hR61.1 (q := q) (t := k24)).2 hR61.1.2.2
          refine lv_aload_n hx hb dX2_lookUpWalks_83 rfl (lv_at hl 1 rfl) ?_
          refine xr_get C G (show kL 42 by decide).2 (xL_c (show kL 42 by decide).1) rfl (fun _ h => List.mem_cons_of_mem _ (List.mem_append_left _ (List.mem_append_left _ (List.mem_append_right _ h)))) 5 (by decide) (show Cond.fieldLink RX2 25 "WheatCounts$Leading" "estate" "LWheatCounts$Estate;" ∈ _ by decide +kernel) rfl dX2_lookUpWalks_84 ?_
          rw [rT_1 hE]
          refine lv_iload_n hx hb dX2_lookUpWalks_87 rfl (lv_at hl 2 rfl) ?_
          refine lv_iload hx hb dX2_lookUpWalks_88 (lv_at hl 0 rfl) ?_
          refine lv_iload hx hb dX2_lookUpWalks_90 (lv_at hl 5 rfl) ?_
          refine lv_aload_n hx hb dX2_lookUpWalks_92 rfl (lv_at hl 1 rfl) ?_
          refine xr_get C G (show kL 42 by decide).2 (xL_c (show kL 42 by decide).1) rfl (fun _ h => List.mem_cons_of_mem _ (List.mem_append_left _ (List.mem_append_left _ (List.mem_append_right _ h)))) 5 (by decide) (show Cond.fieldLink RX2 25 "WheatCounts$Leading" "estate" "LWheatCounts$Estate;" ∈ _ by decide +kernel) rfl dX2_lookUpWalks_93 ?_
          rw [rT_1 hE]
          refine xr_get C G (show kE 1 by decide).2 (xE_c (show kE 1 by decide).1) rfl (fun _ h => List.mem_cons_of_mem _ (List.mem_append_left _ (List.mem_append_right _ h))) 4 (by decide) (show Cond.fieldLink RX2 102 "WheatCounts$Estate" "hedges" "I" ∈ _ by decide +kernel) rfl dX2_lookUpWalks_96 ?_
          refine xr_Vi C hA G (kx0_viewFrom zl D ad sa cc tt X61 1 q (vn (x2_placeAfter X61 q k61 k24)) x56 (X61 1 4) (show kE 1 by decide) hR61.1 (by omega) hpa) (show kE 1 by decide).2 (xE_c (show kE 1 by decide).1) rfl (cwV 4 C.2.2.2.2.1 gX2_lookUpWalks_X0_viewFrom rfl rfl rfl (by decide +kernel) ⟨Nat.le_of_ble_eq_true rfl, Nat.le_of_ble_eq_true rfl⟩) rfl hl.1 rfl (Nat.le_of_ble_eq_true rfl) dX2_lookUpWalks_99 ⟨Nat.le_refl _, Nat.le_refl _⟩ (fun H locs G => ?_)
          refine lv_topi (fun x102 hx102 => ?_)
          rw [lt_e hx102] at hS
          refine lv_istore (lv' := [(7, .int x102), (6, .int (nI (vn (x2_placeAfter X61 q k61 k24)))), (0, .ref (ad 42)), (1, .int (nI q)), (2, .int x21), (3, .int (nI k24)), (4, .int x56), (5, .int (nI k61))]) hx hb dX2_lookUpWalks_102 hl (by decide) rfl (fun ls hl => ?_)
          refine lv_aload_n hx hb dX2_lookUpWalks_104 rfl (lv_at hl 2 rfl) ?_
          refine xr_get C G (show kL 42 by decide).2 (xL_c (show kL 42 by decide).1) rfl (fun _ h => List.mem_cons_of_mem _ (List.mem_append_left _ (List.mem_append_left _ (List.mem_append_right _ h)))) 2 (by decide) (show Cond.fieldLink RX2 15 "WheatCounts$Leading" "counted" "[I" ∈ _ by decide +kernel) rfl dX2_lookUpWalks_105 ?_
          refine lv_iload_n hx hb dX2_lookUpWalks_108 rfl (lv_at hl 5 rfl) ?_
          refine lv_iload_n hx hb dX2_lookUpWalks_109 rfl (lv_at hl 3 rfl) ?_
          refine lv_iload hx hb dX2_lookUpWalks_110 (lv_at hl 7 rfl) ?_
          refine xr_ps C hA G (ks_X2_index zl (nI k24) (nI q) (nI k61)) (va_cwS 3 C.2.2.2.2.1 gX2_lookUpWalks_X2_index rfl rfl rfl (by decide +kernel) ⟨Nat.le_of_ble_eq_true rfl, Nat.le_of_ble_eq_true rfl⟩) rfl hl.1 rfl (Nat.le_of_ble_eq_true rfl) dX2_lookUpWalks_112 ⟨Nat.le_refl _, Nat.le_refl _⟩ (fun H locs G => ?_)
          refine lv_iload hx hb dX2_lookUpWalks_115 (lv_at hl 0 rfl) ?_
          refine lv_aload_n hx hb dX2_lookUpWalks_117 rfl (lv_at hl 2 rfl) ?_
          refine xr_get C G (show kL 42 by decide).2 (xL_c (show kL 42 by decide).1) rfl (fun _ h => List.mem_cons_of_mem _ (List.mem_append_left _ (List.mem_append_left _ (List.mem_append_right _ h)))) 6 (by decide) (show Cond.fieldLink RX2 29 "WheatCounts$Leading" "cell" "I" ∈ _ by decide +kernel) rfl dX2_lookUpWalks_118 ?_
          refine xr_psn C hA G (ks_X8_has zl x102 (X61 42 6)) ⟨va_cnB 2 C.2.2.2.2.1 gX2_lookUpWalks_X8_has_n112 rfl rfl rfl (C.2.2.2.2.2.2.1 _ (List.mem_of_getElem? (i := 4) rfl)) (C.2.2.2.2.1 (.initialized RX8) (by decide +kernel)) (by decide +kernel) ⟨Nat.le_of_ble_eq_true rfl, Nat.le_of_ble_eq_true rfl⟩, C.2.2.2.2.1 (.static yX8_has) (by decide +kernel), trivial⟩ rfl hl.1 rfl (Nat.le_of_ble_eq_true rfl) dX2_lookUpWalks_121 ⟨Nat.le_refl _, Nat.le_refl _⟩ (fun H locs G => ?_)
          obtain ⟨y132, hX132⟩ : ∃ (y132 : Int32), y132 = ((if (p8_has x102 (X61 42 6)) = 0 then 0 else x21) : Int32) := ⟨_, rfl⟩
          rw [lt_e hX132] at hS
          have hj132 : ∀ (H : Heap) (locs : List Loc) (ls : Array Slot), lv_has ls 8 [(0, .ref (ad 42)), (1, .int (nI q)), (2, .int x21), (3, .int (nI k24)), (4, .int x56), (5, .int (nI k61)), (6, .int (nI (vn (x2_placeAfter X61 q k61 k24)))), (7, .int x102)] → xG D ad sa cc tt zA zs.heap H locs X61 → W zp zl ze ({ frames := 4, cells := 0, slots := 0, locals := 95 } : Room) zs zm zg zb zt zc H locs 0 0 zQ (F0 zm 132 ls [.int y132, .int (p2_index (nI k24) (nI q) (nI k61)), .ref (ad 44)]) := by
            intro H locs ls hl G
            refine xr_ast C G (show kI 44 240 by decide).2 (xI_c (show kI 44 240 by decide).1) ((k24 * 8 + q) * 10 + k61) (ix_n _ _ _) (by omega) (xI_lt (show kI 44 240 by decide)) dX2_lookUpWalks_132 (fun H locs G => ?_)
            obtain ⟨X132, hX132⟩ : ∃ Z : xS, Z = mU X61 44 ((k24 * 8 + q) * 10 + k61) y132 := ⟨_, rfl⟩
            have G : xG D ad sa cc tt zA zs.heap H locs X132 := by rw [hX132]; exact G
            rw [lt_e hX132] at hS
            have hf61b : ∀ p, p ≠ 44 → p ≠ 45 → X132 p = X p := by rw [hX132]; intro p h4 h5; rw [mU_row h4]; exact hf61 p h4 h5
            refine lv_aload_n hx hb dX2_lookUpWalks_133 rfl (lv_at hl 0 rfl) ?_
            refine xr_get C G (show kL 42 by decide).2 (xL_c (show kL 42 by decide).1) rfl (fun _ h => List.mem_cons_of_mem _ (List.mem_append_left _ (List.mem_append_left _ (List.mem_append_right _ h)))) 3 (by decide) (show Cond.fieldLink RX2 18 "WheatCounts$Leading" "stands" "[Z" ∈ _ by decide +kernel) rfl dX2_lookUpWalks_134 ?_
            refine lv_iload_n hx hb dX2_lookUpWalks_137 rfl (lv_at hl 3 rfl) ?_
            refine lv_iload_n hx hb dX2_lookUpWalks_138 rfl (lv_at hl 1 rfl) ?_
            refine lv_iload hx hb dX2_lookUpWalks_139 (lv_at hl 5 rfl) ?_
            refine xr_ps C hA G (ks_X2_index zl (nI k24) (nI q) (nI k61)) (va_cwS 3 C.2.2.2.2.1 gX2_lookUpWalks_X2_index rfl rfl rfl (by decide +kernel) ⟨Nat.le_of_ble_eq_true rfl, Nat.le_of_ble_eq_true rfl⟩) rfl hl.1 rfl (Nat.le_of_ble_eq_true rfl) dX2_lookUpWalks_141 ⟨Nat.le_refl _, Nat.le_refl _⟩ (fun H locs G => ?_)
            refine lv_iload hx hb dX2_lookUpWalks_144 (lv_at hl 6 rfl) ?_
            refine lv_aload_n hx hb dX2_lookUpWalks_146 rfl (lv_at hl 0 rfl) ?_
            refine xr_get C G (show kL 42 by decide).2 (xL_c (show kL 42 by decide).1) rfl (fun _ h => List.mem_cons_of_mem _ (List.mem_append_left _ (List.mem_append_left _ (List.mem_append_right _ h)))) 6 (by decide) (show Cond.fieldLink RX2 29 "WheatCounts$Leading" "cell" "I" ∈ _ by decide +kernel) rfl dX2_lookUpWalks_147 ?_
            obtain ⟨y158, hX158⟩ : ∃ (y158 : Int32), y158 = ((if (nI (vn (x2_placeAfter X61 q k61 k24))) = (X132 42 6) then 1 else 0) : Int32) := ⟨_, rfl⟩
            rw [lt_e hX158] at hS
            have hj158 : ∀ (H : Heap) (locs : List Loc) (ls : Array Slot), lv_has ls 8 [(0, .ref (ad 42)), (1, .int (nI q)), (2, .int x21), (3, .int (nI k24)), (4, .int x56), (5, .int (nI k61)), (6, .int (nI (vn (x2_placeAfter X61 q k61 k24)))), (7, .int x102)] → xG D ad sa cc tt zA zs.heap H locs X132 → W zp zl ze ({ frames := 4, cells := 0, slots := 0, locals := 95 } : Room) zs zm zg zb zt zc H locs 0 0 zQ (F0 zm 158 ls [.int y158, .int (p2_index (nI k24) (nI q) (nI k61)), .ref (ad 45)]) := by
              intro H locs ls hl G
              refine xr_zst C G ((k24 * 8 + q) * 10 + k61) (ix_n _ _ _) (by omega) (by rw [hX158]; split <;> first | exact Or.inl rfl | exact Or.inr rfl) dX2_lookUpWalks_158 (fun H locs G => ?_)
              obtain ⟨X158, hX158⟩ : ∃ Z : xS, Z = mU X132 45 ((k24 * 8 + q) * 10 + k61) y158 := ⟨_, rfl⟩
              have G : xG D ad sa cc tt zA zs.heap H locs X158 := by rw [hX158]; exact G
              rw [lt_e hX158] at hS
              refine lv_iinc (v := nI (k61 + 1)) (lv' := [(5, .int (nI (k61 + 1))), (0, .ref (ad 42)), (1, .int (nI q)), (2, .int x21), (3, .int (nI k24)), (4, .int x56), (6, .int (nI (vn (x2_placeAfter X61 q k61 k24)))), (7, .int x102)]) hx hb dX2_lookUpWalks_159 hl (k := 5) rfl (nt_add rfl (show (1 : Int32) = nI 1 from rfl)) (by decide) rfl (fun ls hl => ?_)
              refine lv_goto (tgt := 61) hx hb dX2_lookUpWalks_162 (by decide) ?_
              subst hS
              exact ih (k61 + 1) (by omega) _ hS0 _ _ _ (lv_sub hl [1, 2, 3, 4, 5, 0] rfl) G
            refine lv_icmp_ne (tgt := 157) hx hb dX2_lookUpWalks_150 (by decide) (fun c150 => ?_) (fun c150 => ?_)
            · rw [if_neg c150] at hX158
              refine lv_iconst (v := 0) hx hb dX2_lookUpWalks_157 (by decide) ?_
              subst hX158
              exact hj158 _ _ _ (lv_sub hl [0, 1, 2, 3, 4, 5, 6, 7] rfl) G
            · rw [if_pos c150] at hX158
              refine lv_iconst (v := 1) hx hb dX2_lookUpWalks_153 (by decide) ?_
              refine lv_goto (tgt := 158) hx hb dX2_lookUpWalks_154 (by decide) ?_
              subst hX158
              exact hj158 _ _ _ (lv_sub hl [0, 1, 2, 3, 4, 5, 6, 7] rfl) G
          refine lv_if_eq (tgt := 131) hx hb dX2_lookUpWalks_124 (by decide) (fun c124 => ?_) (fun c124 => ?_)
          · rw [if_pos c124] at hX132
            refine lv_iconst (v := 0) hx hb dX2_lookUpWalks_131 (by decide) ?_
            subst hX132
            exact hj132 _ _ _ (lv_sub hl [2, 3, 4, 5, 6, 7, 1, 0] rfl) G
          · rw [if_neg c124] at hX132
            refine lv_iload_n hx hb dX2_lookUpWalks_127 rfl (lv_at hl 4 rfl) ?_
            refine lv_goto (tgt := 132) hx hb dX2_lookUpWalks_128 (by decide) ?_
            subst hX132
            exact hj132 _ _ _ (lv_sub hl [2, 3, 4, 5, 6, 7, 1, 0] rfl) G
      exact hloop61 _ 0 (Nat.add_zero _) _ rfl _ _ _ (lv_sub hl [2, 3, 4, 5, 1, 0] rfl) G
  exact hloop24 _ 0 (Nat.add_zero _) _ rfl _ _ _ (lv_sub hl [2, 3, 1, 0] rfl) G
set_option maxRecDepth 100000 in
set_option maxHeartbeats 4000000 in
theorem kx2_harvest (zl : Launch) (D : va_G) (ad sa : Nat → Nat) (cc : cT) (tt : tT) (X : xS) (hL : lR tt X) : xM zl D ad sa cc tt yX2_harvest wsX2_harvest ({ frames := 4, cells := 0, slots := 0, locals := 95 } : Room) [.ref (ad 42)] X ((x2_harvest tt X, X)) := by
  refine xM_of (code := cX2_harvest) (nL := 5) (own := RX2) (by decide) rfl rfl (Nat.le_of_ble_eq_true rfl) ?_
  intro zp ze zs zm zg zb zt zc zA zQ C hA hret H locs ls hl G
  have hx := C.1
  have hb := C.2.1
  have hl : lv_has ls 5 [(0, .ref (ad 42))] := hl
  obtain ⟨rM, hF⟩ : ∃ Z : Int32, Z = x2_harvest tt X := ⟨_, rfl⟩
  rw [← hF] at hret
  unfold x2_harvest at hF
  have hE := hL.1
  have hce := hL.2.1
  have hsp := hL.2.2.1
  have hpl := hL.2.2.2.1
  have hR := hL.2.2.2.2
  have hc := hR.1
  have hp := hR.2.1
  have ha := hR.2.2.1
  have ht := hR.2.2.2
  have hc2 := hc.2.1
  have hc3 := hc.2.2
  have hp2 := hp.2
  have hsp2 := hsp.2
  have hce2 := hce.2
  refine lv_aload_n hx hb dX2_harvest_0 rfl (lv_at hl 0 rfl) ?_
  refine xr_get C G (show kL 42 by decide).2 (xL_c (show kL 42 by decide).1) rfl (fun _ h => List.mem_cons_of_mem _ (List.mem_append_left _ (List.mem_append_left _ (List.mem_append_right _ h)))) 5 (by decide) (show Cond.fieldLink RX2 25 "WheatCounts$Leading" "estate" "LWheatCounts$Estate;" ∈ _ by decide +kernel) rfl dX2_harvest_1 ?_
  rw [rT_1 hE]
  refine xr_get C G (show kE 1 by decide).2 (xE_c (show kE 1 by decide).1) rfl (fun _ h => List.mem_cons_of_mem _ (List.mem_append_left _ (List.mem_append_right _ h))) 1 (by decide) (show Cond.fieldLink RX2 123 "WheatCounts$Estate" "grains" "[I" ∈ _ by decide +kernel) rfl dX2_harvest_4 ?_
  refine lv_aload_n hx hb dX2_harvest_7 rfl (lv_at hl 0 rfl) ?_
  refine xr_get C G (show kL 42 by decide).2 (xL_c (show kL 42 by decide).1) rfl (fun _ h => List.mem_cons_of_mem _ (List.mem_append_left _ (List.mem_append_left _ (List.mem_append_right _ h)))) 6 (by decide) (show Cond.fieldLink RX2 29 "WheatCounts$Leading" "cell" "I" ∈ _ by decide +kernel) rfl dX2_harvest_8 ?_
  refine xr_ald C G (show kI 2 10 by decide).2 (xI_c (show kI 2 10 by decide).1 _) (vn (X 42 6)) hce.1 (by omega) (xI_lt (show kI 2 10 by decide)) dX2_harvest_11 ?_
  refine lv_topi (fun x12 hx12 => ?_)
  rw [lt_e hx12] at hF
  refine lv_istore_n (lv' := [(1, .int x12), (0, .ref (ad 42))]) hx hb dX2_harvest_12 rfl hl (by decide) rfl (fun ls hl => ?_)
  refine lv_iconst (v := 0) hx hb dX2_harvest_13 (by decide) ?_
  refine lv_istore_n (lv' := [(2, .int 0), (1, .int x12), (0, .ref (ad 42))]) hx hb dX2_harvest_14 rfl hl (by decide) rfl (fun ls hl => ?_)
  obtain ⟨v1_15x, hX15⟩ : ∃ (v1_15x : Int32), v1_15x = x2_harvest_L15 tt X x12 (vn (X 42 7)) := ⟨_, rfl⟩
  rw [lt_e hX15] at hF
  have hrest15 : ∀ (H : Heap) (locs : List Loc) (ls : Array Slot), lv_has ls 5 [(0, .ref (ad 42)), (1, .int v1_15x), (2, .int (nI (vn (X 42 7))))] → xG D ad sa cc tt zA zs.heap H locs X → W zp zl ze ({ frames := 4, cells := 0, slots := 0, locals := 95 } : Room) zs zm zg zb zt zc H locs 0 0 zQ (F0 zm 165 ls []) := by
    intro H locs ls hl G
    refine lv_iload_n hx hb dX2_harvest_165 rfl (lv_at hl 1 rfl) ?_
    exact hret _ _ _ _ _ _ (by rw [hF]) G dX2_harvest_166
  have hloop15 : ∀ (zj k15 : Nat), zj + k15 = (vn (X 42 7)) → ∀ (v1_15 : Int32), v1_15 = x2_harvest_L15 tt X x12 k15 → ∀ (H : Heap) (locs : List Loc) (ls : Array Slot), lv_has ls 5 [(0, .ref (ad 42)), (1, .int v1_15), (2, .int (nI k15))] → xG D ad sa cc tt zA zs.heap H locs X → W zp zl ze ({ frames := 4, cells := 0, slots := 0, locals := 95 } : Room) zs zm zg zb zt zc H locs 0 0 zQ (F0 zm 15 ls []) := by
    intro zj
    induction zj with
    | zero =>
      intro k15 hk v1_15 hL H locs ls hl G
      have hk : k15 = (vn (X 42 7)) := by omega
      rw [hk] at hL hl
      refine lv_iload_n hx hb dX2_harvest_15 rfl (lv_at hl 2 rfl) ?_
      refine lv_aload_n hx hb dX2_harvest_16 rfl (lv_at hl 0 rfl) ?_
      refine xr_get C G (show kL 42 by decide).2 (xL_c (show kL 42 by decide).1) rfl (fun _ h => List.mem_cons_of_mem _ (List.mem_append_left _ (List.mem_append_left _ (List.mem_append_right _ h)))) 7 (by decide) (show Cond.fieldLink RX2 37 "WheatCounts$Leading" "span" "I" ∈ _ by decide +kernel) rfl dX2_harvest_17 ?_
      refine lv_icmp_ge (tgt := 165) hx hb dX2_harvest_20 (by decide) (fun c20 => ?_) (fun c20 => absurd (lp_out (n := (vn (X 42 7))) hsp.1) c20)
      obtain rfl := hL.trans hX15.symm
      exact hrest15 _ _ _ (lv_sub hl [0, 1, 2] rfl) G
    | succ zj ih =>
      intro k15 hk v1_15 hL H locs ls hl G
      have hkn : k15 < (vn (X 42 7)) := by omega
      obtain ⟨v1_15s, hS0⟩ : ∃ (v1_15s : Int32), v1_15s = x2_harvest_L15 tt X x12 (k15 + 1) := ⟨_, rfl⟩
      have hS := hS0
      rw [x2_harvest_L15_s, lt_e hL] at hS
      have hk15 : k15 < 3 := by omega
      refine lv_iload_n hx hb dX2_harvest_15 rfl (lv_at hl 2 rfl) ?_
      refine lv_aload_n hx hb dX2_harvest_16 rfl (lv_at hl 0 rfl) ?_
      refine xr_get C G (show kL 42 by decide).2 (xL_c (show kL 42 by decide).1) rfl (fun _ h => List.mem_cons_of_mem _ (List.mem_append_left _ (List.mem_append_left _ (List.mem_append_right _ h)))) 7 (by decide) (show Cond.fieldLink RX2 37 "WheatCounts$Leading" "span" "I" ∈ _ by decide +kernel) rfl dX2_harvest_17 ?_
      refine lv_icmp_ge (tgt := 165) hx hb dX2_harvest_20 (by decide) (fun c20 => absurd c20 (lp_in (n := (vn (X 42 7))) hsp.1 hkn (by omega))) (fun c20 => ?_)
      refine lv_iconst (v := 0) hx hb dX2_harvest_23 (by decide) ?_
      refine lv_istore_n (lv' := [(3, .int 0), (0, .ref (ad 42)), (1, .int v1_15), (2, .int (nI k15))]) hx hb dX2_harvest_24 rfl hl (by decide) rfl (fun ls hl => ?_)
      refine lv_iconst (v := 0) hx hb dX2_harvest_25 (by decide) ?_
      refine lv_istore (lv' := [(4, .int 0), (3, .int 0), (0, .ref (ad 42)), (1, .int v1_15), (2, .int (nI k15))]) hx hb dX2_harvest_26 hl (by decide) rfl (fun ls hl => ?_)
      obtain ⟨v3_28x, hX28⟩ : ∃ (v3_28x : Int32), v3_28x = x2_harvest_L28 X k15 (vn (X 1 9)) := ⟨_, rfl⟩
      rw [lt_e hX28] at hS
      have hrest28 : ∀ (H : Heap) (locs : List Loc) (ls : Array Slot), lv_has ls 5 [(0, .ref (ad 42)), (1, .int v1_15), (2, .int (nI k15)), (3, .int v3_28x), (4, .int (nI (vn (X 1 9))))] → xG D ad sa cc tt zA zs.heap H locs X → W zp zl ze ({ frames := 4, cells := 0, slots := 0, locals := 95 } : Room) zs zm zg zb zt zc H locs 0 0 zQ (F0 zm 67 ls []) := by
        intro H locs ls hl G
        refine lv_iload_n hx hb dX2_harvest_67 rfl (lv_at hl 1 rfl) ?_
        refine lv_iload_n hx hb dX2_harvest_68 rfl (lv_at hl 3 rfl) ?_
        refine lv_iconst (v := 2) hx hb dX2_harvest_69 (by decide) ?_
        refine lv_idiv hx hb dX2_harvest_70 (by decide) ?_
        refine lv_iadd hx hb dX2_harvest_71 ?_
        refine lv_aload_n hx hb dX2_harvest_72 rfl (lv_at hl 0 rfl) ?_
        refine xr_get C G (show kL 42 by decide).2 (xL_c (show kL 42 by decide).1) rfl (fun _ h => List.mem_cons_of_mem _ (List.mem_append_left _ (List.mem_append_left _ (List.mem_append_right _ h)))) 5 (by decide) (show Cond.fieldLink RX2 25 "WheatCounts$Leading" "estate" "LWheatCounts$Estate;" ∈ _ by decide +kernel) rfl dX2_harvest_73 ?_
        rw [rT_1 hE]
        refine xr_get C G (show kE 1 by decide).2 (xE_c (show kE 1 by decide).1) rfl (fun _ h => List.mem_cons_of_mem _ (List.mem_append_left _ (List.mem_append_right _ h))) 2 (by decide) (show Cond.fieldLink RX2 126 "WheatCounts$Estate" "weeds" "[I" ∈ _ by decide +kernel) rfl dX2_harvest_76 ?_
        refine lv_aload_n hx hb dX2_harvest_79 rfl (lv_at hl 0 rfl) ?_
        refine xr_get C G (show kL 42 by decide).2 (xL_c (show kL 42 by decide).1) rfl (fun _ h => List.mem_cons_of_mem _ (List.mem_append_left _ (List.mem_append_left _ (List.mem_append_right _ h)))) 6 (by decide) (show Cond.fieldLink RX2 29 "WheatCounts$Leading" "cell" "I" ∈ _ by decide +kernel) rfl dX2_harvest_80 ?_
        refine xr_ald C G (show kI 3 10 by decide).2 (xI_c (show kI 3 10 by decide).1 _) (vn (X 42 6)) hce.1 (by omega) (xI_lt (show kI 3 10 by decide)) dX2_harvest_83 ?_
        refine lv_isub hx hb dX2_harvest_84 ?_
        refine lv_ldc (v := 99999) hx hb C.2.2.2.1 (C.2.2.2.2.1 (.constant RX2 129 (99999)) (by decide +kernel)) dX2_harvest_85 ?_
        refine xr_psn C hA G (ks_X8_held zl ((v1_15 + (v3_28x / 2)) - (X 3 (vn (X 42 6)))) 99999) ⟨va_cnB 2 C.2.2.2.2.1 gX2_harvest_X8_held_n33 rfl rfl rfl (C.2.2.2.2.2.2.1 _ (List.mem_of_getElem? (i := 6) rfl)) (C.2.2.2.2.1 (.initialized RX8) (by decide +kernel)) (by decide +kernel) ⟨Nat.le_of_ble_eq_true rfl, Nat.le_of_ble_eq_true rfl⟩, C.2.2.2.2.1 (.static yX8_held) (by decide +kernel), trivial⟩ rfl hl.1 rfl (Nat.le_of_ble_eq_true rfl) dX2_harvest_87 ⟨Nat.le_refl _, Nat.le_refl _⟩ (fun H locs G => ?_)
        refine lv_topi (fun x90 hx90 => ?_)
        rw [lt_e hx90] at hS
        refine lv_istore_n (lv' := [(1, .int x90), (0, .ref (ad 42)), (2, .int (nI k15)), (3, .int v3_28x), (4, .int (nI (vn (X 1 9))))]) hx hb dX2_harvest_90 rfl hl (by decide) rfl (fun ls hl => ?_)
        refine lv_iconst (v := 0) hx hb dX2_harvest_91 (by decide) ?_
        refine lv_istore (lv' := [(4, .int 0), (1, .int x90), (0, .ref (ad 42)), (2, .int (nI k15)), (3, .int v3_28x)]) hx hb dX2_harvest_92 hl (by decide) rfl (fun ls hl => ?_)
        obtain ⟨v1_94x, hX94⟩ : ∃ (v1_94x : Int32), v1_94x = x2_harvest_L94 tt X k15 x90 (vn (X 1 9)) := ⟨_, rfl⟩
        rw [lt_e hX94] at hS
        have hrest94 : ∀ (H : Heap) (locs : List Loc) (ls : Array Slot), lv_has ls 5 [(0, .ref (ad 42)), (1, .int v1_94x), (2, .int (nI k15)), (3, .int v3_28x), (4, .int (nI (vn (X 1 9))))] → xG D ad sa cc tt zA zs.heap H locs X → W zp zl ze ({ frames := 4, cells := 0, slots := 0, locals := 95 } : Room) zs zm zg zb zt zc H locs 0 0 zQ (F0 zm 159 ls []) := by
          intro H locs ls hl G
          refine lv_iinc (v := nI (k15 + 1)) (lv' := [(2, .int (nI (k15 + 1))), (0, .ref (ad 42)), (1, .int v1_94x), (3, .int v3_28x), (4, .int (nI (vn (X 1 9))))]) hx hb dX2_harvest_159 hl (k := 2) rfl (nt_add rfl (show (1 : Int32) = nI 1 from rfl)) (by decide) rfl (fun ls hl => ?_)
          refine lv_goto (tgt := 15) hx hb dX2_harvest_162 (by decide) ?_
          subst hS
          exact ih (k15 + 1) (by omega) _ hS0 _ _ _ (lv_sub hl [1, 2, 0] rfl) G
        have hloop94 : ∀ (zj k94 : Nat), zj + k94 = (vn (X 1 9)) → ∀ (v1_94 : Int32), v1_94 = x2_harvest_L94 tt X k15 x90 k94 → ∀ (H : Heap) (locs : List Loc) (ls : Array Slot), lv_has ls 5 [(0, .ref (ad 42)), (1, .int v1_94), (2, .int (nI k15)), (3, .int v3_28x), (4, .int (nI k94))] → xG D ad sa cc tt zA zs.heap H locs X → W zp zl ze ({ frames := 4, cells := 0, slots := 0, locals := 95 } : Room) zs zm zg zb zt zc H locs 0 0 zQ (F0 zm 94 ls []) := by
          intro zj
          induction zj with
          | zero =>
            intro k94 hk v1_94 hL H locs ls hl G
            have hk : k94 = (vn (X 1 9)) := by omega
            rw [hk] at hL hl
            refine lv_iload hx hb dX2_harvest_94 (lv_at hl 4 rfl) ?_
            refine lv_aload_n hx hb dX2_harvest_96 rfl (lv_at hl 0 rfl) ?_
            refine xr_get C G (show kL 42 by decide).2 (xL_c (show kL 42 by decide).1) rfl (fun _ h => List.mem_cons_of_mem _ (List.mem_append_left _ (List.mem_append_left _ (List.mem_append_right _ h)))) 5 (by decide) (show Cond.fieldLink RX2 25 "WheatCounts$Leading" "estate" "LWheatCounts$Estate;" ∈ _ by decide +kernel) rfl dX2_harvest_97 ?_
            rw [rT_1 hE]
            refine xr_get C G (show kE 1 by decide).2 (xE_c (show kE 1 by decide).1) rfl (fun _ h => List.mem_cons_of_mem _ (List.mem_append_left _ (List.mem_append_right _ h))) 9 (by decide) (show Cond.fieldLink RX2 49 "WheatCounts$Estate" "people" "I" ∈ _ by decide +kernel) rfl dX2_harvest_100 ?_
            refine lv_icmp_ge (tgt := 159) hx hb dX2_harvest_103 (by decide) (fun c103 => ?_) (fun c103 => absurd (lp_out (n := (vn (X 1 9))) hp.1) c103)
            obtain rfl := hL.trans hX94.symm
            exact hrest94 _ _ _ (lv_sub hl [0, 1, 2, 3, 4] rfl) G
          | succ zj ih =>
            intro k94 hk v1_94 hL H locs ls hl G
            have hkn : k94 < (vn (X 1 9)) := by omega
            obtain ⟨v1_94s, hS0⟩ : ∃ (v1_94s : Int32), v1_94s = x2_harvest_L94 tt X k15 x90 (k94 + 1) := ⟨_, rfl⟩
            have hS := hS0
            rw [x2_harvest_L94_s, lt_e hL] at hS
            have hk94 : k94 < 8 := by omega
            have hv94 := (hpl k94 hk94).2
            refine lv_iload hx hb dX2_harvest_94 (lv_at hl 4 rfl) ?_
            refine lv_aload_n hx hb dX2_harvest_96 rfl (lv_at hl 0 rfl) ?_
            refine xr_get C G (show kL 42 by decide).2 (xL_c (show kL 42 by decide).1) rfl (fun _ h => List.mem_cons_of_mem _ (List.mem_append_left _ (List.mem_append_left _ (List.mem_append_right _ h)))) 5 (by decide) (show Cond.fieldLink RX2 25 "WheatCounts$Leading" "estate" "LWheatCounts$Estate;" ∈ _ by decide +kernel) rfl dX2_harvest_97 ?_
            rw [rT_1 hE]
            refine xr_get C G (show kE 1 by decide).2 (xE_c (show kE 1 by decide).1) rfl (fun _ h => List.mem_cons_of_mem _ (List.mem_append_left _ (List.mem_append_right _ h))) 9 (by decide) (show Cond.fieldLink RX2 49 "WheatCounts$Estate" "people" "I" ∈ _ by decide +kernel) rfl dX2_harvest_100 ?_
            refine lv_icmp_ge (tgt := 159) hx hb dX2_harvest_103 (by decide) (fun c103 => absurd c103 (lp_in (n := (vn (X 1 9))) hp.1 hkn (by omega))) (fun c103 => ?_)
            refine lv_aload_n hx hb dX2_harvest_106 rfl (lv_at hl 0 rfl) ?_
            refine xr_get C G (show kL 42 by decide).2 (xL_c (show kL 42 by decide).1) rfl (fun _ h => List.mem_cons_of_mem _ (List.mem_append_left _ (List.mem_append_left _ (List.mem_append_right _ h)))) 3 (by decide) (show Cond.fieldLink RX2 18 "WheatCounts$Leading" "stands" "[Z" ∈ _ by decide +kernel) rfl dX2_harvest_107 ?_
            refine lv_iload_n hx hb dX2_harvest_110 rfl (lv_at hl 2 rfl) ?_
            refine lv_iload hx hb dX2_harvest_111 (lv_at hl 4 rfl) ?_
            refine lv_aload_n hx hb dX2_harvest_113 rfl (lv_at hl 0 rfl) ?_
            refine xr_get C G (show kL 42 by decide).2 (xL_c (show kL 42 by decide).1) rfl (fun _ h => List.mem_cons_of_mem _ (List.mem_append_left _ (List.mem_append_left _ (List.mem_append_right _ h)))) 4 (by decide) (show Cond.fieldLink RX2 22 "WheatCounts$Leading" "places" "[I" ∈ _ by decide +kernel) rfl dX2_harvest_114 ?_
            refine lv_iload hx hb dX2_harvest_117 (lv_at hl 4 rfl) ?_
            refine xr_ald C G (show kI 46 8 by decide).2 (xI_c (show kI 46 8 by decide).1 _) k94 rfl (by omega) (xI_lt (show kI 46 8 by decide)) dX2_harvest_119 ?_
            refine xr_ps C hA G (ks_X2_index zl (nI k15) (nI k94) (X 46 k94)) (va_cwS 3 C.2.2.2.2.1 gX2_harvest_X2_index rfl rfl rfl (by decide +kernel) ⟨Nat.le_of_ble_eq_true rfl, Nat.le_of_ble_eq_true rfl⟩) rfl hl.1 rfl (Nat.le_of_ble_eq_true rfl) dX2_harvest_120 ⟨Nat.le_refl _, Nat.le_refl _⟩ (fun H locs G => ?_)
            refine xr_zld C G ((k15 * 8 + k94) * 10 + vn (X 46 k94)) (ix_p (hpl k94 (by omega)).1) (by omega) dX2_harvest_123 ?_
            obtain ⟨z1_153, hX153⟩ : ∃ (z1_153 : Int32), z1_153 = ((if (X 45 ((k15 * 8 + k94) * 10 + vn (X 46 k94))) = 0 then v1_94 else (lt (v1_94 - (if (x0_takesFrom tt X 1 k94 v1_94 ((X 1 7) + (nI k15))) < v1_94 then (x0_takesFrom tt X 1 k94 v1_94 ((X 1 7) + (nI k15))) else v1_94)) fun (x152 : Int32) => x152)) : Int32) := ⟨_, rfl⟩
            rw [lt_e hX153] at hS
            have hj153 : ∀ (H : Heap) (locs : List Loc) (ls : Array Slot), lv_has ls 5 [(0, .ref (ad 42)), (1, .int z1_153), (2, .int (nI k15)), (3, .int v3_28x), (4, .int (nI k94))] → xG D ad sa cc tt zA zs.heap H locs X → W zp zl ze ({ frames := 4, cells := 0, slots := 0, locals := 95 } : Room) zs zm zg zb zt zc H locs 0 0 zQ (F0 zm 153 ls []) := by
              intro H locs ls hl G
              refine lv_iinc (v := nI (k94 + 1)) (lv' := [(4, .int (nI (k94 + 1))), (0, .ref (ad 42)), (1, .int z1_153), (2, .int (nI k15)), (3, .int v3_28x)]) hx hb dX2_harvest_153 hl (k := 4) rfl (nt_add rfl (show (1 : Int32) = nI 1 from rfl)) (by decide) rfl (fun ls hl => ?_)
              refine lv_goto (tgt := 94) hx hb dX2_harvest_156 (by decide) ?_
              subst hS
              exact ih (k94 + 1) (by omega) _ hS0 _ _ _ (lv_sub hl [1, 2, 3, 4, 0] rfl) G
            refine lv_if_eq (tgt := 153) hx hb dX2_harvest_124 (by decide) (fun c124 => ?_) (fun c124 => ?_)
            · rw [if_pos c124] at hX153
              subst hX153
              exact hj153 _ _ _ (lv_sub hl [0, 1, 2, 3, 4] rfl) G
            · rw [if_neg c124] at hX153
              refine lv_iload_n hx hb dX2_harvest_127 rfl (lv_at hl 1 rfl) ?_
              refine lv_iload_n hx hb dX2_harvest_128 rfl (lv_at hl 1 rfl) ?_
              refine lv_aload_n hx hb dX2_harvest_129 rfl (lv_at hl 0 rfl) ?_
              refine xr_get C G (show kL 42 by decide).2 (xL_c (show kL 42 by decide).1) rfl (fun _ h => List.mem_cons_of_mem _ (List.mem_append_left _ (List.mem_append_left _ (List.mem_append_right _ h)))) 5 (by decide) (show Cond.fieldLink RX2 25 "WheatCounts$Leading" "estate" "LWheatCounts$Estate;" ∈ _ by decide +kernel) rfl dX2_harvest_130 ?_
              rw [rT_1 hE]
              refine lv_iload hx hb dX2_harvest_133 (lv_at hl 4 rfl) ?_
              refine lv_iload_n hx hb dX2_harvest_135 rfl (lv_at hl 1 rfl) ?_
              refine lv_aload_n hx hb dX2_harvest_136 rfl (lv_at hl 0 rfl) ?_
              refine xr_get C G (show kL 42 by decide).2 (xL_c (show kL 42 by decide).1) rfl (fun _ h => List.mem_cons_of_mem _ (List.mem_append_left _ (List.mem_append_left _ (List.mem_append_right _ h)))) 5 (by decide) (show Cond.fieldLink RX2 25 "WheatCounts$Leading" "estate" "LWheatCounts$Estate;" ∈ _ by decide +kernel) rfl dX2_harvest_137 ?_
              rw [rT_1 hE]
              refine xr_get C G (show kE 1 by decide).2 (xE_c (show kE 1 by decide).1) rfl (fun _ h => List.mem_cons_of_mem _ (List.mem_append_left _ (List.mem_append_right _ h))) 7 (by decide) (show Cond.fieldLink RX2 89 "WheatCounts$Estate" "hour" "I" ∈ _ by decide +kernel) rfl dX2_harvest_140 ?_
              refine lv_iload_n hx hb dX2_harvest_143 rfl (lv_at hl 2 rfl) ?_
              refine lv_iadd hx hb dX2_harvest_144 ?_
              refine xr_Vi C hA G (kx0_takesFrom zl D ad sa cc tt X 1 k94 v1_94 ((X 1 7) + (nI k15)) (show kE 1 by decide) ht (by omega)) (show kE 1 by decide).2 (xE_c (show kE 1 by decide).1) rfl (cwV 3 C.2.2.2.2.1 gX2_harvest_X0_takesFrom rfl rfl rfl (by decide +kernel) ⟨Nat.le_of_ble_eq_true rfl, Nat.le_of_ble_eq_true rfl⟩) rfl hl.1 rfl (Nat.le_of_ble_eq_true rfl) dX2_harvest_145 ⟨Nat.le_refl _, Nat.le_refl _⟩ (fun H locs G => ?_)
              refine va_mmin hx hb (C.2.2.1.trans hl.1.symm) C.2.2.2.1 (C.2.2.2.2.1 (.methodLink RX2 133 Lib.Math.min.name) (by decide +kernel)) (C.2.2.2.2.1 (.static Lib.Math.min.name) (by decide +kernel)) (C.2.2.2.2.1 (.initialized "java/lang/Math") (by decide +kernel)) (C.2.2.2.2.1 (.code Lib.Math.min.name Lib.Math.min.code 2 (some .int)) (by decide +kernel)) (Nat.le_of_ble_eq_true rfl) (Nat.le_of_ble_eq_true rfl) (Nat.le_refl _) (Nat.le_refl _) dX2_harvest_148 ?_
              refine lv_isub hx hb dX2_harvest_151 ?_
              refine lv_topi (fun x152 hx152 => ?_)
              rw [lt_e hx152] at hX153
              refine lv_istore_n (lv' := [(1, .int x152), (0, .ref (ad 42)), (2, .int (nI k15)), (3, .int v3_28x), (4, .int (nI k94))]) hx hb dX2_harvest_152 rfl hl (by decide) rfl (fun ls hl => ?_)
              subst hX153
              exact hj153 _ _ _ (lv_sub hl [1, 0, 2, 3, 4] rfl) G
        exact hloop94 _ 0 (Nat.add_zero _) _ rfl _ _ _ (lv_sub hl [2, 1, 3, 4, 0] rfl) G
      have hloop28 : ∀ (zj k28 : Nat), zj + k28 = (vn (X 1 9)) → ∀ (v3_28 : Int32), v3_28 = x2_harvest_L28 X k15 k28 → ∀ (H : Heap) (locs : List Loc) (ls : Array Slot), lv_has ls 5 [(0, .ref (ad 42)), (1, .int v1_15), (2, .int (nI k15)), (3, .int v3_28), (4, .int (nI k28))] → xG D ad sa cc tt zA zs.heap H locs X → W zp zl ze ({ frames := 4, cells := 0, slots := 0, locals := 95 } : Room) zs zm zg zb zt zc H locs 0 0 zQ (F0 zm 28 ls []) := by
        intro zj
        induction zj with
        | zero =>
          intro k28 hk v3_28 hL H locs ls hl G
          have hk : k28 = (vn (X 1 9)) := by omega
          rw [hk] at hL hl
          refine lv_iload hx hb dX2_harvest_28 (lv_at hl 4 rfl) ?_
          refine lv_aload_n hx hb dX2_harvest_30 rfl (lv_at hl 0 rfl) ?_
          refine xr_get C G (show kL 42 by decide).2 (xL_c (show kL 42 by decide).1) rfl (fun _ h => List.mem_cons_of_mem _ (List.mem_append_left _ (List.mem_append_left _ (List.mem_append_right _ h)))) 5 (by decide) (show Cond.fieldLink RX2 25 "WheatCounts$Leading" "estate" "LWheatCounts$Estate;" ∈ _ by decide +kernel) rfl dX2_harvest_31 ?_
          rw [rT_1 hE]
          refine xr_get C G (show kE 1 by decide).2 (xE_c (show kE 1 by decide).1) rfl (fun _ h => List.mem_cons_of_mem _ (List.mem_append_left _ (List.mem_append_right _ h))) 9 (by decide) (show Cond.fieldLink RX2 49 "WheatCounts$Estate" "people" "I" ∈ _ by decide +kernel) rfl dX2_harvest_34 ?_
          refine lv_icmp_ge (tgt := 67) hx hb dX2_harvest_37 (by decide) (fun c37 => ?_) (fun c37 => absurd (lp_out (n := (vn (X 1 9))) hp.1) c37)
          obtain rfl := hL.trans hX28.symm
          exact hrest28 _ _ _ (lv_sub hl [0, 1, 2, 3, 4] rfl) G
        | succ zj ih =>
          intro k28 hk v3_28 hL H locs ls hl G
          have hkn : k28 < (vn (X 1 9)) := by omega
          obtain ⟨v3_28s, hS0⟩ : ∃ (v3_28s : Int32), v3_28s = x2_harvest_L28 X k15 (k28 + 1) := ⟨_, rfl⟩
          have hS := hS0
          rw [x2_harvest_L28_s, lt_e hL] at hS
          have hk28 : k28 < 8 := by omega
          have hv28 := (hpl k28 hk28).2
          refine lv_iload hx hb dX2_harvest_28 (lv_at hl 4 rfl) ?_
          refine lv_aload_n hx hb dX2_harvest_30 rfl (lv_at hl 0 rfl) ?_
          refine xr_get C G (show kL 42 by decide).2 (xL_c (show kL 42 by decide).1) rfl (fun _ h => List.mem_cons_of_mem _ (List.mem_append_left _ (List.mem_append_left _ (List.mem_append_right _ h)))) 5 (by decide) (show Cond.fieldLink RX2 25 "WheatCounts$Leading" "estate" "LWheatCounts$Estate;" ∈ _ by decide +kernel) rfl dX2_harvest_31 ?_
          rw [rT_1 hE]
          refine xr_get C G (show kE 1 by decide).2 (xE_c (show kE 1 by decide).1) rfl (fun _ h => List.mem_cons_of_mem _ (List.mem_append_left _ (List.mem_append_right _ h))) 9 (by decide) (show Cond.fieldLink RX2 49 "WheatCounts$Estate" "people" "I" ∈ _ by decide +kernel) rfl dX2_harvest_34 ?_
          refine lv_icmp_ge (tgt := 67) hx hb dX2_harvest_37 (by decide) (fun c37 => absurd c37 (lp_in (n := (vn (X 1 9))) hp.1 hkn (by omega))) (fun c37 => ?_)
          refine lv_iload_n hx hb dX2_harvest_40 rfl (lv_at hl 3 rfl) ?_
          refine lv_aload_n hx hb dX2_harvest_41 rfl (lv_at hl 0 rfl) ?_
          refine xr_get C G (show kL 42 by decide).2 (xL_c (show kL 42 by decide).1) rfl (fun _ h => List.mem_cons_of_mem _ (List.mem_append_left _ (List.mem_append_left _ (List.mem_append_right _ h)))) 2 (by decide) (show Cond.fieldLink RX2 15 "WheatCounts$Leading" "counted" "[I" ∈ _ by decide +kernel) rfl dX2_harvest_42 ?_
          refine lv_iload_n hx hb dX2_harvest_45 rfl (lv_at hl 2 rfl) ?_
          refine lv_iload hx hb dX2_harvest_46 (lv_at hl 4 rfl) ?_
          refine lv_aload_n hx hb dX2_harvest_48 rfl (lv_at hl 0 rfl) ?_
          refine xr_get C G (show kL 42 by decide).2 (xL_c (show kL 42 by decide).1) rfl (fun _ h => List.mem_cons_of_mem _ (List.mem_append_left _ (List.mem_append_left _ (List.mem_append_right _ h)))) 4 (by decide) (show Cond.fieldLink RX2 22 "WheatCounts$Leading" "places" "[I" ∈ _ by decide +kernel) rfl dX2_harvest_49 ?_
          refine lv_iload hx hb dX2_harvest_52 (lv_at hl 4 rfl) ?_
          refine xr_ald C G (show kI 46 8 by decide).2 (xI_c (show kI 46 8 by decide).1 _) k28 rfl (by omega) (xI_lt (show kI 46 8 by decide)) dX2_harvest_54 ?_
          refine xr_ps C hA G (ks_X2_index zl (nI k15) (nI k28) (X 46 k28)) (va_cwS 3 C.2.2.2.2.1 gX2_harvest_X2_index rfl rfl rfl (by decide +kernel) ⟨Nat.le_of_ble_eq_true rfl, Nat.le_of_ble_eq_true rfl⟩) rfl hl.1 rfl (Nat.le_of_ble_eq_true rfl) dX2_harvest_55 ⟨Nat.le_refl _, Nat.le_refl _⟩ (fun H locs G => ?_)
          refine xr_ald C G (show kI 44 240 by decide).2 (xI_c (show kI 44 240 by decide).1 _) ((k15 * 8 + k28) * 10 + vn (X 46 k28)) (ix_p (hpl k28 (by omega)).1) (by omega) (xI_lt (show kI 44 240 by decide)) dX2_harvest_58 ?_
          refine lv_iadd hx hb dX2_harvest_59 ?_
          refine lv_topi (fun x60 hx60 => ?_)
          rw [lt_e hx60] at hS
          refine lv_istore_n (lv' := [(3, .int x60), (0, .ref (ad 42)), (1, .int v1_15), (2, .int (nI k15)), (4, .int (nI k28))]) hx hb dX2_harvest_60 rfl hl (by decide) rfl (fun ls hl => ?_)
          refine lv_iinc (v := nI (k28 + 1)) (lv' := [(4, .int (nI (k28 + 1))), (3, .int x60), (0, .ref (ad 42)), (1, .int v1_15), (2, .int (nI k15))]) hx hb dX2_harvest_61 hl (k := 4) rfl (nt_add rfl (show (1 : Int32) = nI 1 from rfl)) (by decide) rfl (fun ls hl => ?_)
          refine lv_goto (tgt := 28) hx hb dX2_harvest_64 (by decide) ?_
          subst hS
          exact ih (k28 + 1) (by omega) _ hS0 _ _ _ (lv_sub hl [2, 3, 4, 1, 0] rfl) G
      exact hloop28 _ 0 (Nat.add_zero _) _ rfl _ _ _ (lv_sub hl [2, 3, 4, 1, 0] rfl) G
  exact hloop15 _ 0 (Nat.add_zero _) _ rfl _ _ _ (lv_sub hl [2, 1, 0] rfl) G
set_option maxRecDepth 100000 in
set_option maxHeartbeats 4000000 in
theorem kx2_mostHarvest (zl : Launch) (D : va_G) (ad sa : Nat → Nat) (cc : cT) (tt : tT) (X : xS) (hL : lR tt X) : xM zl D ad sa cc tt yX2_mostHarvest wsX2_mostHarvest ({ frames := 1, cells := 0, slots := 0, locals := 24 } : Room) [.ref (ad 42)] X ((x2_mostHarvest X, X)) := by
  refine xM_of (code := cX2_mostHarvest) (nL := 7) (own := RX2) (by decide) rfl rfl (Nat.le_of_ble_eq_true rfl) ?_
  intro zp ze zs zm zg zb zt zc zA zQ C hA hret H locs ls hl G
  have hx := C.1
  have hb := C.2.1
  have hl : lv_has ls 7 [(0, .ref (ad 42))] := hl
  obtain ⟨rM, hF⟩ : ∃ Z : Int32, Z = x2_mostHarvest X := ⟨_, rfl⟩
  rw [← hF] at hret
  unfold x2_mostHarvest at hF
  have hE := hL.1
  have hce := hL.2.1
  have hsp := hL.2.2.1
  have hpl := hL.2.2.2.1
  have hR := hL.2.2.2.2
  have hc := hR.1
  have hp := hR.2.1
  have ha := hR.2.2.1
  have ht := hR.2.2.2
  have hc2 := hc.2.1
  have hc3 := hc.2.2
  have hp2 := hp.2
  have hsp2 := hsp.2
  have hce2 := hce.2
  refine lv_aload_n hx hb dX2_mostHarvest_0 rfl (lv_at hl 0 rfl) ?_
  refine xr_get C G (show kL 42 by decide).2 (xL_c (show kL 42 by decide).1) rfl (fun _ h => List.mem_cons_of_mem _ (List.mem_append_left _ (List.mem_append_right _ h))) 5 (by decide) (show Cond.fieldLink RX2 25 "WheatCounts$Leading" "estate" "LWheatCounts$Estate;" ∈ _ by decide +kernel) rfl dX2_mostHarvest_1 ?_
  rw [rT_1 hE]
  refine xr_get C G (show kE 1 by decide).2 (xE_c (show kE 1 by decide).1) rfl (fun _ h => List.mem_cons_of_mem _ (List.mem_append_right _ h)) 1 (by decide) (show Cond.fieldLink RX2 123 "WheatCounts$Estate" "grains" "[I" ∈ _ by decide +kernel) rfl dX2_mostHarvest_4 ?_
  refine lv_aload_n hx hb dX2_mostHarvest_7 rfl (lv_at hl 0 rfl) ?_
  refine xr_get C G (show kL 42 by decide).2 (xL_c (show kL 42 by decide).1) rfl (fun _ h => List.mem_cons_of_mem _ (List.mem_append_left _ (List.mem_append_right _ h))) 6 (by decide) (show Cond.fieldLink RX2 29 "WheatCounts$Leading" "cell" "I" ∈ _ by decide +kernel) rfl dX2_mostHarvest_8 ?_
  refine xr_ald C G (show kI 2 10 by decide).2 (xI_c (show kI 2 10 by decide).1 _) (vn (X 42 6)) hce.1 (by omega) (xI_lt (show kI 2 10 by decide)) dX2_mostHarvest_11 ?_
  refine lv_topi (fun x12 hx12 => ?_)
  rw [lt_e hx12] at hF
  refine lv_istore_n (lv' := [(1, .int x12), (0, .ref (ad 42))]) hx hb dX2_mostHarvest_12 rfl hl (by decide) rfl (fun ls hl => ?_)
  refine lv_iconst (v := 0) hx hb dX2_mostHarvest_13 (by decide) ?_
  refine lv_istore_n (lv' := [(2, .int 0), (1, .int x12), (0, .ref (ad 42))]) hx hb dX2_mostHarvest_14 rfl hl (by decide) rfl (fun ls hl => ?_)
  obtain ⟨v1_15x, hX15⟩ : ∃ (v1_15x : Int32), v1_15x = x2_mostHarvest_L15 X x12 (vn (X 42 7)) := ⟨_, rfl⟩
  rw [lt_e hX15] at hF
  have hrest15 : ∀ (H : Heap) (locs : List Loc) (ls : Array Slot), lv_has ls 7 [(0, .ref (ad 42)), (1, .int v1_15x), (2, .int (nI (vn (X 42 7))))] → xG D ad sa cc tt zA zs.heap H locs X → W zp zl ze ({ frames := 1, cells := 0, slots := 0, locals := 24 } : Room) zs zm zg zb zt zc H locs 0 0 zQ (F0 zm 125 ls []) := by
    intro H locs ls hl G
    refine lv_iload_n hx hb dX2_mostHarvest_125 rfl (lv_at hl 1 rfl) ?_
    exact hret _ _ _ _ _ _ (by rw [hF]) G dX2_mostHarvest_126
  have hloop15 : ∀ (zj k15 : Nat), zj + k15 = (vn (X 42 7)) → ∀ (v1_15 : Int32), v1_15 = x2_mostHarvest_L15 X x12 k15 → ∀ (H : Heap) (locs : List Loc) (ls : Array Slot), lv_has ls 7 [(0, .ref (ad 42)), (1, .int v1_15), (2, .int (nI k15))] → xG D ad sa cc tt zA zs.heap H locs X → W zp zl ze ({ frames := 1, cells := 0, slots := 0, locals := 24 } : Room) zs zm zg zb zt zc H locs 0 0 zQ (F0 zm 15 ls []) := by
    intro zj
    induction zj with
    | zero =>
      intro k15 hk v1_15 hL H locs ls hl G
      have hk : k15 = (vn (X 42 7)) := by omega
      rw [hk] at hL hl
      refine lv_iload_n hx hb dX2_mostHarvest_15 rfl (lv_at hl 2 rfl) ?_
      refine lv_aload_n hx hb dX2_mostHarvest_16 rfl (lv_at hl 0 rfl) ?_
      refine xr_get C G (show kL 42 by decide).2 (xL_c (show kL 42 by decide).1) rfl (fun _ h => List.mem_cons_of_mem _ (List.mem_append_left _ (List.mem_append_right _ h))) 7 (by decide) (show Cond.fieldLink RX2 37 "WheatCounts$Leading" "span" "I" ∈ _ by decide +kernel) rfl dX2_mostHarvest_17 ?_
      refine lv_icmp_ge (tgt := 125) hx hb dX2_mostHarvest_20 (by decide) (fun c20 => ?_) (fun c20 => absurd (lp_out (n := (vn (X 42 7))) hsp.1) c20)
      obtain rfl := hL.trans hX15.symm
      exact hrest15 _ _ _ (lv_sub hl [0, 1, 2] rfl) G
    | succ zj ih =>
      intro k15 hk v1_15 hL H locs ls hl G
      have hkn : k15 < (vn (X 42 7)) := by omega
      obtain ⟨v1_15s, hS0⟩ : ∃ (v1_15s : Int32), v1_15s = x2_mostHarvest_L15 X x12 (k15 + 1) := ⟨_, rfl⟩
      have hS := hS0
      rw [x2_mostHarvest_L15_s, lt_e hL] at hS
      have hk15 : k15 < 3 := by omega
      refine lv_iload_n hx hb dX2_mostHarvest_15 rfl (lv_at hl 2 rfl) ?_
      refine lv_aload_n hx hb dX2_mostHarvest_16 rfl (lv_at hl 0 rfl) ?_
      refine xr_get C G (show kL 42 by decide).2 (xL_c (show kL 42 by decide).1) rfl (fun _ h => List.mem_cons_of_mem _ (List.mem_append_left _ (List.mem_append_right _ h))) 7 (by decide) (show Cond.fieldLink RX2 37 "WheatCounts$Leading" "span" "I" ∈ _ by decide +kernel) rfl dX2_mostHarvest_17 ?_
      refine lv_icmp_ge (tgt := 125) hx hb dX2_mostHarvest_20 (by decide) (fun c20 => absurd c20 (lp_in (n := (vn (X 42 7))) hsp.1 hkn (by omega))) (fun c20 => ?_)
      refine lv_iconst (v := 0) hx hb dX2_mostHarvest_23 (by decide) ?_
      refine lv_istore_n (lv' := [(3, .int 0), (0, .ref (ad 42)), (1, .int v1_15), (2, .int (nI k15))]) hx hb dX2_mostHarvest_24 rfl hl (by decide) rfl (fun ls hl => ?_)
      refine lv_iconst (v := 0) hx hb dX2_mostHarvest_25 (by decide) ?_
      refine lv_istore (lv' := [(4, .int 0), (3, .int 0), (0, .ref (ad 42)), (1, .int v1_15), (2, .int (nI k15))]) hx hb dX2_mostHarvest_26 hl (by decide) rfl (fun ls hl => ?_)
      obtain ⟨v3_28x, hX28⟩ : ∃ (v3_28x : Int32), v3_28x = x2_mostHarvest_L28 X k15 (vn (X 1 9)) := ⟨_, rfl⟩
      rw [lt_e hX28] at hS
      have hrest28 : ∀ (H : Heap) (locs : List Loc) (ls : Array Slot), lv_has ls 7 [(0, .ref (ad 42)), (1, .int v1_15), (2, .int (nI k15)), (3, .int v3_28x), (4, .int (nI (vn (X 1 9))))] → xG D ad sa cc tt zA zs.heap H locs X → W zp zl ze ({ frames := 1, cells := 0, slots := 0, locals := 24 } : Room) zs zm zg zb zt zc H locs 0 0 zQ (F0 zm 95 ls []) := by
        intro H locs ls hl G
        refine lv_iload_n hx hb dX2_mostHarvest_95 rfl (lv_at hl 1 rfl) ?_
        refine lv_iload_n hx hb dX2_mostHarvest_96 rfl (lv_at hl 3 rfl) ?_
        refine lv_iconst (v := 2) hx hb dX2_mostHarvest_97 (by decide) ?_
        refine lv_idiv hx hb dX2_mostHarvest_98 (by decide) ?_
        refine lv_iadd hx hb dX2_mostHarvest_99 ?_
        refine lv_aload_n hx hb dX2_mostHarvest_100 rfl (lv_at hl 0 rfl) ?_
        refine xr_get C G (show kL 42 by decide).2 (xL_c (show kL 42 by decide).1) rfl (fun _ h => List.mem_cons_of_mem _ (List.mem_append_left _ (List.mem_append_right _ h))) 5 (by decide) (show Cond.fieldLink RX2 25 "WheatCounts$Leading" "estate" "LWheatCounts$Estate;" ∈ _ by decide +kernel) rfl dX2_mostHarvest_101 ?_
        rw [rT_1 hE]
        refine xr_get C G (show kE 1 by decide).2 (xE_c (show kE 1 by decide).1) rfl (fun _ h => List.mem_cons_of_mem _ (List.mem_append_right _ h)) 2 (by decide) (show Cond.fieldLink RX2 126 "WheatCounts$Estate" "weeds" "[I" ∈ _ by decide +kernel) rfl dX2_mostHarvest_104 ?_
        refine lv_aload_n hx hb dX2_mostHarvest_107 rfl (lv_at hl 0 rfl) ?_
        refine xr_get C G (show kL 42 by decide).2 (xL_c (show kL 42 by decide).1) rfl (fun _ h => List.mem_cons_of_mem _ (List.mem_append_left _ (List.mem_append_right _ h))) 6 (by decide) (show Cond.fieldLink RX2 29 "WheatCounts$Leading" "cell" "I" ∈ _ by decide +kernel) rfl dX2_mostHarvest_108 ?_
        refine xr_ald C G (show kI 3 10 by decide).2 (xI_c (show kI 3 10 by decide).1 _) (vn (X 42 6)) hce.1 (by omega) (xI_lt (show kI 3 10 by decide)) dX2_mostHarvest_111 ?_
        refine lv_isub hx hb dX2_mostHarvest_112 ?_
        refine lv_ldc (v := 99999) hx hb C.2.2.2.1 (C.2.2.2.2.1 (.constant RX2 129 (99999)) (by decide +kernel)) dX2_mostHarvest_113 ?_
        refine xr_psn C hA G (ks_X8_held zl ((v1_15 + (v3_28x / 2)) - (X 3 (vn (X 42 6)))) 99999) ⟨va_cnB 2 C.2.2.2.2.1 gX2_mostHarvest_X8_held_n33 rfl rfl rfl (C.2.2.2.2.2.2.1 _ (List.mem_of_getElem? (i := 6) rfl)) (C.2.2.2.2.1 (.initialized RX8) (by decide +kernel)) (by decide +kernel) ⟨Nat.le_of_ble_eq_true rfl, Nat.le_of_ble_eq_true rfl⟩, C.2.2.2.2.1 (.static yX8_held) (by decide +kernel), trivial⟩ rfl hl.1 rfl (Nat.le_of_ble_eq_true rfl) dX2_mostHarvest_115 ⟨Nat.le_refl _, Nat.le_refl _⟩ (fun H locs G => ?_)
        refine lv_topi (fun x118 hx118 => ?_)
        rw [lt_e hx118] at hS
        refine lv_istore_n (lv' := [(1, .int x118), (0, .ref (ad 42)), (2, .int (nI k15)), (3, .int v3_28x), (4, .int (nI (vn (X 1 9))))]) hx hb dX2_mostHarvest_118 rfl hl (by decide) rfl (fun ls hl => ?_)
        refine lv_iinc (v := nI (k15 + 1)) (lv' := [(2, .int (nI (k15 + 1))), (1, .int x118), (0, .ref (ad 42)), (3, .int v3_28x), (4, .int (nI (vn (X 1 9))))]) hx hb dX2_mostHarvest_119 hl (k := 2) rfl (nt_add rfl (show (1 : Int32) = nI 1 from rfl)) (by decide) rfl (fun ls hl => ?_)
        refine lv_goto (tgt := 15) hx hb dX2_mostHarvest_122 (by decide) ?_
        subst hS
        exact ih (k15 + 1) (by omega) _ hS0 _ _ _ (lv_sub hl [2, 1, 0] rfl) G
      have hloop28 : ∀ (zj k28 : Nat), zj + k28 = (vn (X 1 9)) → ∀ (v3_28 : Int32), v3_28 = x2_mostHarvest_L28 X k15 k28 → ∀ (H : Heap) (locs : List Loc) (ls : Array Slot), lv_has ls 7 [(0, .ref (ad 42)), (1, .int v1_15), (2, .int (nI k15)), (3, .int v3_28), (4, .int (nI k28))] → xG D ad sa cc tt zA zs.heap H locs X → W zp zl ze ({ frames := 1, cells := 0, slots := 0, locals := 24 } : Room) zs zm zg zb zt zc H locs 0 0 zQ (F0 zm 28 ls []) := by
        intro zj
        induction zj with
        | zero =>
          intro k28 hk v3_28 hL H locs ls hl G
          have hk : k28 = (vn (X 1 9)) := by omega
          rw [hk] at hL hl
          refine lv_iload hx hb dX2_mostHarvest_28 (lv_at hl 4 rfl) ?_
          refine lv_aload_n hx hb dX2_mostHarvest_30 rfl (lv_at hl 0 rfl) ?_
          refine xr_get C G (show kL 42 by decide).2 (xL_c (show kL 42 by decide).1) rfl (fun _ h => List.mem_cons_of_mem _ (List.mem_append_left _ (List.mem_append_right _ h))) 5 (by decide) (show Cond.fieldLink RX2 25 "WheatCounts$Leading" "estate" "LWheatCounts$Estate;" ∈ _ by decide +kernel) rfl dX2_mostHarvest_31 ?_
          rw [rT_1 hE]
          refine xr_get C G (show kE 1 by decide).2 (xE_c (show kE 1 by decide).1) rfl (fun _ h => List.mem_cons_of_mem _ (List.mem_append_right _ h)) 9 (by decide) (show Cond.fieldLink RX2 49 "WheatCounts$Estate" "people" "I" ∈ _ by decide +kernel) rfl dX2_mostHarvest_34 ?_
          refine lv_icmp_ge (tgt := 95) hx hb dX2_mostHarvest_37 (by decide) (fun c37 => ?_) (fun c37 => absurd (lp_out (n := (vn (X 1 9))) hp.1) c37)
          obtain rfl := hL.trans hX28.symm
          exact hrest28 _ _ _ (lv_sub hl [0, 1, 2, 3, 4] rfl) G
        | succ zj ih =>
          intro k28 hk v3_28 hL H locs ls hl G
          have hkn : k28 < (vn (X 1 9)) := by omega
          obtain ⟨v3_28s, hS0⟩ : ∃ (v3_28s : Int32), v3_28s = x2_mostHarvest_L28 X k15 (k28 + 1) := ⟨_, rfl⟩
          have hS := hS0
          rw [x2_mostHarvest_L28_s, lt_e hL] at hS
          have hk28 : k28 < 8 := by omega
          refine lv_iload hx hb dX2_mostHarvest_28 (lv_at hl 4 rfl) ?_
          refine lv_aload_n hx hb dX2_mostHarvest_30 rfl (lv_at hl 0 rfl) ?_
          refine xr_get C G (show kL 42 by decide).2 (xL_c (show kL 42 by decide).1) rfl (fun _ h => List.mem_cons_of_mem _ (List.mem_append_left _ (List.mem_append_right _ h))) 5 (by decide) (show Cond.fieldLink RX2 25 "WheatCounts$Leading" "estate" "LWheatCounts$Estate;" ∈ _ by decide +kernel) rfl dX2_mostHarvest_31 ?_
          rw [rT_1 hE]
          refine xr_get C G (show kE 1 by decide).2 (xE_c (show kE 1 by decide).1) rfl (fun _ h => List.mem_cons_of_mem _ (List.mem_append_right _ h)) 9 (by decide) (show Cond.fieldLink RX2 49 "WheatCounts$Estate" "people" "I" ∈ _ by decide +kernel) rfl dX2_mostHarvest_34 ?_
          refine lv_icmp_ge (tgt := 95) hx hb dX2_mostHarvest_37 (by decide) (fun c37 => absurd c37 (lp_in (n := (vn (X 1 9))) hp.1 hkn (by omega))) (fun c37 => ?_)
          refine lv_iconst (v := 0) hx hb dX2_mostHarvest_40 (by decide) ?_
          refine lv_istore (lv' := [(5, .int 0), (0, .ref (ad 42)), (1, .int v1_15), (2, .int (nI k15)), (3, .int v3_28), (4, .int (nI k28))]) hx hb dX2_mostHarvest_41 hl (by decide) rfl (fun ls hl => ?_)
          refine lv_iconst (v := 0) hx hb dX2_mostHarvest_43 (by decide) ?_
          refine lv_istore (lv' := [(6, .int 0), (5, .int 0), (0, .ref (ad 42)), (1, .int v1_15), (2, .int (nI k15)), (3, .int v3_28), (4, .int (nI k28))]) hx hb dX2_mostHarvest_44 hl (by decide) rfl (fun ls hl => ?_)
          obtain ⟨v5_46x, hX46⟩ : ∃ (v5_46x : Int32), v5_46x = x2_mostHarvest_L46 X k15 k28 (vn (X 1 0)) := ⟨_, rfl⟩
          rw [lt_e hX46] at hS
          have hrest46 : ∀ (H : Heap) (locs : List Loc) (ls : Array Slot), lv_has ls 7 [(0, .ref (ad 42)), (1, .int v1_15), (2, .int (nI k15)), (3, .int v3_28), (4, .int (nI k28)), (5, .int v5_46x), (6, .int (nI (vn (X 1 0))))] → xG D ad sa cc tt zA zs.heap H locs X → W zp zl ze ({ frames := 1, cells := 0, slots := 0, locals := 24 } : Room) zs zm zg zb zt zc H locs 0 0 zQ (F0 zm 84 ls []) := by
            intro H locs ls hl G
            refine lv_iload_n hx hb dX2_mostHarvest_84 rfl (lv_at hl 3 rfl) ?_
            refine lv_iload hx hb dX2_mostHarvest_85 (lv_at hl 5 rfl) ?_
            refine lv_iadd hx hb dX2_mostHarvest_87 ?_
            refine lv_topi (fun x88 hx88 => ?_)
            rw [lt_e hx88] at hS
            refine lv_istore_n (lv' := [(3, .int x88), (0, .ref (ad 42)), (1, .int v1_15), (2, .int (nI k15)), (4, .int (nI k28)), (5, .int v5_46x), (6, .int (nI (vn (X 1 0))))]) hx hb dX2_mostHarvest_88 rfl hl (by decide) rfl (fun ls hl => ?_)
            refine lv_iinc (v := nI (k28 + 1)) (lv' := [(4, .int (nI (k28 + 1))), (3, .int x88), (0, .ref (ad 42)), (1, .int v1_15), (2, .int (nI k15)), (5, .int v5_46x), (6, .int (nI (vn (X 1 0))))]) hx hb dX2_mostHarvest_89 hl (k := 4) rfl (nt_add rfl (show (1 : Int32) = nI 1 from rfl)) (by decide) rfl (fun ls hl => ?_)
            refine lv_goto (tgt := 28) hx hb dX2_mostHarvest_92 (by decide) ?_
            subst hS
            exact ih (k28 + 1) (by omega) _ hS0 _ _ _ (lv_sub hl [2, 3, 4, 1, 0] rfl) G
          have hloop46 : ∀ (zj k46 : Nat), zj + k46 = (vn (X 1 0)) → ∀ (v5_46 : Int32), v5_46 = x2_mostHarvest_L46 X k15 k28 k46 → ∀ (H : Heap) (locs : List Loc) (ls : Array Slot), lv_has ls 7 [(0, .ref (ad 42)), (1, .int v1_15), (2, .int (nI k15)), (3, .int v3_28), (4, .int (nI k28)), (5, .int v5_46), (6, .int (nI k46))] → xG D ad sa cc tt zA zs.heap H locs X → W zp zl ze ({ frames := 1, cells := 0, slots := 0, locals := 24 } : Room) zs zm zg zb zt zc H locs 0 0 zQ (F0 zm 46 ls []) := by
            intro zj
            induction zj with
            | zero =>
              intro k46 hk v5_46 hL H locs ls hl G
              have hk : k46 = (vn (X 1 0)) := by omega
              rw [hk] at hL hl
              refine lv_iload hx hb dX2_mostHarvest_46 (lv_at hl 6 rfl) ?_
              refine lv_aload_n hx hb dX2_mostHarvest_48 rfl (lv_at hl 0 rfl) ?_
              refine xr_get C G (show kL 42 by decide).2 (xL_c (show kL 42 by decide).1) rfl (fun _ h => List.mem_cons_of_mem _ (List.mem_append_left _ (List.mem_append_right _ h))) 5 (by decide) (show Cond.fieldLink RX2 25 "WheatCounts$Leading" "estate" "LWheatCounts$Estate;" ∈ _ by decide +kernel) rfl dX2_mostHarvest_49 ?_
              rw [rT_1 hE]
              refine xr_get C G (show kE 1 by decide).2 (xE_c (show kE 1 by decide).1) rfl (fun _ h => List.mem_cons_of_mem _ (List.mem_append_right _ h)) 0 (by decide) (show Cond.fieldLink RX2 96 "WheatCounts$Estate" "cells" "I" ∈ _ by decide +kernel) rfl dX2_mostHarvest_52 ?_
              refine lv_icmp_ge (tgt := 84) hx hb dX2_mostHarvest_55 (by decide) (fun c55 => ?_) (fun c55 => absurd (lp_out (n := (vn (X 1 0))) hc.1) c55)
              obtain rfl := hL.trans hX46.symm
              exact hrest46 _ _ _ (lv_sub hl [0, 1, 2, 3, 4, 5, 6] rfl) G
            | succ zj ih =>
              intro k46 hk v5_46 hL H locs ls hl G
              have hkn : k46 < (vn (X 1 0)) := by omega
              obtain ⟨v5_46s, hS0⟩ : ∃ (v5_46s : Int32), v5_46s = x2_mostHarvest_L46 X k15 k28 (k46 + 1) := ⟨_, rfl⟩
              have hS := hS0
              rw [x2_mostHarvest_L46_s, lt_e hL] at hS
              have hk46 : k46 < 10 := by omega
              refine lv_iload hx hb dX2_mostHarvest_46 (lv_at hl 6 rfl) ?_
              refine lv_aload_n hx hb dX2_mostHarvest_48 rfl (lv_at hl 0 rfl) ?_
              refine xr_get C G (show kL 42 by decide).2 (xL_c (show kL 42 by decide).1) rfl (fun _ h => List.mem_cons_of_mem _ (List.mem_append_left _ (List.mem_append_right _ h))) 5 (by decide) (show Cond.fieldLink RX2 25 "WheatCounts$Leading" "estate" "LWheatCounts$Estate;" ∈ _ by decide +kernel) rfl dX2_mostHarvest_49 ?_
              rw [rT_1 hE]
              refine xr_get C G (show kE 1 by decide).2 (xE_c (show kE 1 by decide).1) rfl (fun _ h => List.mem_cons_of_mem _ (List.mem_append_right _ h)) 0 (by decide) (show Cond.fieldLink RX2 96 "WheatCounts$Estate" "cells" "I" ∈ _ by decide +kernel) rfl dX2_mostHarvest_52 ?_
              refine lv_icmp_ge (tgt := 84) hx hb dX2_mostHarvest_55 (by decide) (fun c55 => absurd c55 (lp_in (n := (vn (X 1 0))) hc.1 hkn (by omega))) (fun c55 => ?_)
              refine lv_iload hx hb dX2_mostHarvest_58 (lv_at hl 5 rfl) ?_
              refine lv_aload_n hx hb dX2_mostHarvest_60 rfl (lv_at hl 0 rfl) ?_
              refine xr_get C G (show kL 42 by decide).2 (xL_c (show kL 42 by decide).1) rfl (fun _ h => List.mem_cons_of_mem _ (List.mem_append_left _ (List.mem_append_right _ h))) 2 (by decide) (show Cond.fieldLink RX2 15 "WheatCounts$Leading" "counted" "[I" ∈ _ by decide +kernel) rfl dX2_mostHarvest_61 ?_
              refine lv_iload_n hx hb dX2_mostHarvest_64 rfl (lv_at hl 2 rfl) ?_
              refine lv_iload hx hb dX2_mostHarvest_65 (lv_at hl 4 rfl) ?_
              refine lv_iload hx hb dX2_mostHarvest_67 (lv_at hl 6 rfl) ?_
              refine xr_ps C hA G (ks_X2_index zl (nI k15) (nI k28) (nI k46)) (va_cwS 3 C.2.2.2.2.1 gX2_mostHarvest_X2_index rfl rfl rfl (by decide +kernel) ⟨Nat.le_of_ble_eq_true rfl, Nat.le_of_ble_eq_true rfl⟩) rfl hl.1 rfl (Nat.le_of_ble_eq_true rfl) dX2_mostHarvest_69 ⟨Nat.le_refl _, Nat.le_refl _⟩ (fun H locs G => ?_)
              refine xr_ald C G (show kI 44 240 by decide).2 (xI_c (show kI 44 240 by decide).1 _) ((k15 * 8 + k28) * 10 + k46) (ix_n _ _ _) (by omega) (xI_lt (show kI 44 240 by decide)) dX2_mostHarvest_72 ?_
              refine va_mmax hx hb (C.2.2.1.trans hl.1.symm) C.2.2.2.1 (C.2.2.2.2.1 (.methodLink RX2 138 Lib.Math.max.name) (by decide +kernel)) (C.2.2.2.2.1 (.static Lib.Math.max.name) (by decide +kernel)) (C.2.2.2.2.1 (.initialized "java/lang/Math") (by decide +kernel)) (C.2.2.2.2.1 (.code Lib.Math.max.name Lib.Math.max.code 2 (some .int)) (by decide +kernel)) (Nat.le_of_ble_eq_true rfl) (Nat.le_of_ble_eq_true rfl) (Nat.le_refl _) (Nat.le_refl _) dX2_mostHarvest_73 ?_
              refine lv_topi (fun x76 hx76 => ?_)
              rw [lt_e hx76] at hS
              refine lv_istore (lv' := [(5, .int x76), (0, .ref (ad 42)), (1, .int v1_15), (2, .int (nI k15)), (3, .int v3_28), (4, .int (nI k28)), (6, .int (nI k46))]) hx hb dX2_mostHarvest_76 hl (by decide) rfl (fun ls hl => ?_)
              refine lv_iinc (v := nI (k46 + 1)) (lv' := [(6, .int (nI (k46 + 1))), (5, .int x76), (0, .ref (ad 42)), (1, .int v1_15), (2, .int (nI k15)), (3, .int v3_28), (4, .int (nI k28))]) hx hb dX2_mostHarvest_78 hl (k := 6) rfl (nt_add rfl (show (1 : Int32) = nI 1 from rfl)) (by decide) rfl (fun ls hl => ?_)
              refine lv_goto (tgt := 46) hx hb dX2_mostHarvest_81 (by decide) ?_
              subst hS
              exact ih (k46 + 1) (by omega) _ hS0 _ _ _ (lv_sub hl [2, 3, 4, 5, 6, 1, 0] rfl) G
          exact hloop46 _ 0 (Nat.add_zero _) _ rfl _ _ _ (lv_sub hl [2, 3, 4, 5, 6, 1, 0] rfl) G
      exact hloop28 _ 0 (Nat.add_zero _) _ rfl _ _ _ (lv_sub hl [2, 3, 4, 1, 0] rfl) G
  exact hloop15 _ 0 (Nat.add_zero _) _ rfl _ _ _ (lv_sub hl [2, 1, 0] rfl) G
set_option maxRecDepth 100000 in
set_option maxHeartbeats 4000000 in
theorem kx2_isFoundByOne (zl : Launch) (D : va_G) (ad sa : Nat → Nat) (cc : cT) (tt : tT) (X : xS) (v : Int32) (hL : lR tt X) : xM zl D ad sa cc tt yX2_isFoundByOne wsX2_isFoundByOne ({ frames := 5, cells := 0, slots := 0, locals := 119 } : Room) [.ref (ad 42), .int v] X (x2_isFoundByOne tt X v) := by
  refine xM_ofZ (code := cX2_isFoundByOne) (nL := 4) (own := RX2) (by decide) rfl rfl (Nat.le_of_ble_eq_true rfl) ?_
  intro zp ze zs zm zg zb zt zc zA zQ C hA hret H locs ls hl G
  have hx := C.1
  have hb := C.2.1
  have hl : lv_has ls 4 [(0, .ref (ad 42)), (1, .int v)] := hl
  obtain ⟨rM, hF⟩ : ∃ Z : Int32 × xS, Z = x2_isFoundByOne tt X v := ⟨_, rfl⟩
  rw [← hF] at hret
  unfold x2_isFoundByOne at hF
  have hqX : lP tt X X := ⟨fun _ _ => rfl, hL⟩
  have hE := hL.1
  refine lv_iconst (v := 0) hx hb dX2_isFoundByOne_0 (by decide) ?_
  refine lv_istore_n (lv' := [(2, .int 0), (0, .ref (ad 42)), (1, .int v)]) hx hb dX2_isFoundByOne_1 rfl hl (by decide) rfl (fun ls hl => ?_)
  obtain ⟨K2, hK2⟩ : ∃ Zk : Nat → xS → Int32 × xS, Zk = (fun (kax : Nat) (X2x : xS) => (0, X2x)) := ⟨_, rfl⟩
  rw [← hK2] at hF
  have hrest2 : ∀ (kax : Nat) (X2x : xS), rM = K2 kax X2x → (lP tt X X2x) → ∀ (H : Heap) (locs : List Loc) (ls : Array Slot), lv_has ls 4 [(0, .ref (ad 42)), (1, .int v), (2, .int (nI kax))] → xG D ad sa cc tt zA zs.heap H locs X2x → W zp zl ze ({ frames := 5, cells := 0, slots := 0, locals := 119 } : Room) zs zm zg zb zt zc H locs 0 0 zQ (F0 zm 94 ls []) := by
    intro kax X2x hF hR9 H locs ls hl G
    have hF : rM = (0, X2x) := by rw [hK2] at hF; exact hF
    have hqX2x := hR9
    have hE := hqX2x.2.1
    refine lv_iconst (v := 0) hx hb dX2_isFoundByOne_94 (by decide) ?_
    exact hret _ _ _ _ _ _ hF G (Or.inl rfl) dX2_isFoundByOne_95
  have hloop2 : ∀ (f2 : Nat) (ka : Nat) (X2 : xS), (ka ≤ 8 ∧ 8 < ka + f2 ∧ lP tt X X2) → rM = x2_isFoundByOne_L2 tt v K2 f2 ka X2 → ∀ (H : Heap) (locs : List Loc) (ls : Array Slot), lv_has ls 4 [(0, .ref (ad 42)), (1, .int v), (2, .int (nI ka))] → xG D ad sa cc tt zA zs.heap H locs X2 → W zp zl ze ({ frames := 5, cells := 0, slots := 0, locals := 119 } : Room) zs zm zg zb zt zc H locs 0 0 zQ (F0 zm 2 ls []) := by
    intro f2
    induction f2 with
    | zero =>
      intro ka X2 hI hL2 H locs ls hl G
      exact absurd hI.2.1 (by omega)
    | succ f2 ih2 =>
      intro ka X2 hI hL2 H locs ls hl G
      rw [x2_isFoundByOne_L2_s] at hL2
      have hqX2 := hI.2.2
      have hE := hqX2.2.1
      refine lv_iload_n hx hb dX2_isFoundByOne_2 rfl (lv_at hl 2 rfl) ?_
      refine lv_aload_n hx hb dX2_isFoundByOne_3 rfl (lv_at hl 0 rfl) ?_
      refine xr_get C G (show kL 42 by decide).2 (xL_c (show kL 42 by decide).1) rfl (fun _ h => List.mem_cons_of_mem _ (List.mem_append_left _ (List.mem_append_left _ (List.mem_append_right _ h)))) 5 (by decide) (show Cond.fieldLink RX2 25 "WheatCounts$Leading" "estate" "LWheatCounts$Estate;" ∈ _ by decide +kernel) rfl dX2_isFoundByOne_4 ?_
      rw [rT_1 hE]
      refine xr_get C G (show kE 1 by decide).2 (xE_c (show kE 1 by decide).1) rfl (fun _ h => List.mem_cons_of_mem _ (List.mem_append_left _ (List.mem_append_right _ h))) 9 (by decide) (show Cond.fieldLink RX2 49 "WheatCounts$Estate" "people" "I" ∈ _ by decide +kernel) rfl dX2_isFoundByOne_7 ?_
      refine lv_icmp_ge (tgt := 94) hx hb dX2_isFoundByOne_10 (by decide) (fun c10 => ?_) (fun c10 => ?_)
      · rw [if_pos c10] at hL2
        exact hrest2 ka X2 hL2 hqX2 _ _ _ (lv_sub hl [0, 1, 2] rfl) G
      · rw [if_neg c10] at hL2
        have ha8 := lp_lt hqX2.2.2.2.2.2.2.1.1 c10 (by have := hqX2.2.2.2.2.2.2.1.2; omega) (by omega)
        have ha8b := Nat.lt_of_lt_of_le ha8 hqX2.2.2.2.2.2.2.1.2
        refine lv_iconst (v := 0) hx hb dX2_isFoundByOne_13 (by decide) ?_
        refine lv_istore_n (lv' := [(3, .int 0), (0, .ref (ad 42)), (1, .int v), (2, .int (nI ka))]) hx hb dX2_isFoundByOne_14 rfl hl (by decide) rfl (fun ls hl => ?_)
        obtain ⟨K15, hK15⟩ : ∃ Zk : Nat → xS → Int32 × xS, Zk = (fun (kbx : Nat) (X15x : xS) => (lt (mU X15x 46 ka (X15x 7 ka)) fun (X87 : xS) => (x2_isFoundByOne_L2 tt v K2 f2 (ka + 1) X87))) := ⟨_, rfl⟩
        rw [← hK15] at hL2
        have hrest15 : ∀ (kbx : Nat) (X15x : xS), rM = K15 kbx X15x → (lP tt X X15x) → ∀ (H : Heap) (locs : List Loc) (ls : Array Slot), lv_has ls 4 [(0, .ref (ad 42)), (1, .int v), (2, .int (nI ka)), (3, .int (nI kbx))] → xG D ad sa cc tt zA zs.heap H locs X15x → W zp zl ze ({ frames := 5, cells := 0, slots := 0, locals := 119 } : Room) zs zm zg zb zt zc H locs 0 0 zQ (F0 zm 73 ls []) := by
          intro kbx X15x hF hR9 H locs ls hl G
          have hF : rM = (lt (mU X15x 46 ka (X15x 7 ka)) fun (X87 : xS) => (x2_isFoundByOne_L2 tt v K2 f2 (ka + 1) X87)) := by rw [hK15] at hF; exact hF
          have hqX15x := hR9
          have hE := hqX15x.2.1
          refine lv_aload_n hx hb dX2_isFoundByOne_73 rfl (lv_at hl 0 rfl) ?_
          refine xr_get C G (show kL 42 by decide).2 (xL_c (show kL 42 by decide).1) rfl (fun _ h => List.mem_cons_of_mem _ (List.mem_append_left _ (List.mem_append_left _ (List.mem_append_right _ h)))) 4 (by decide) (show Cond.fieldLink RX2 22 "WheatCounts$Leading" "places" "[I" ∈ _ by decide +kernel) rfl dX2_isFoundByOne_74 ?_
          refine lv_iload_n hx hb dX2_isFoundByOne_77 rfl (lv_at hl 2 rfl) ?_
          refine lv_aload_n hx hb dX2_isFoundByOne_78 rfl (lv_at hl 0 rfl) ?_
          refine xr_get C G (show kL 42 by decide).2 (xL_c (show kL 42 by decide).1) rfl (fun _ h => List.mem_cons_of_mem _ (List.mem_append_left _ (List.mem_append_left _ (List.mem_append_right _ h)))) 5 (by decide) (show Cond.fieldLink RX2 25 "WheatCounts$Leading" "estate" "LWheatCounts$Estate;" ∈ _ by decide +kernel) rfl dX2_isFoundByOne_79 ?_
          rw [rT_1 hE]
          refine xr_get C G (show kE 1 by decide).2 (xE_c (show kE 1 by decide).1) rfl (fun _ h => List.mem_cons_of_mem _ (List.mem_append_left _ (List.mem_append_right _ h))) 12 (by decide) (show Cond.fieldLink RX2 54 "WheatCounts$Estate" "at" "[I" ∈ _ by decide +kernel) rfl dX2_isFoundByOne_82 ?_
          refine lv_iload_n hx hb dX2_isFoundByOne_85 rfl (lv_at hl 2 rfl) ?_
          refine xr_ald C G (show kI 7 8 by decide).2 (xI_c (show kI 7 8 by decide).1 _) ka rfl (by omega) (xI_lt (show kI 7 8 by decide)) dX2_isFoundByOne_86 ?_
          refine xr_ast C G (show kI 46 8 by decide).2 (xI_c (show kI 46 8 by decide).1) ka rfl (by omega) (xI_lt (show kI 46 8 by decide)) dX2_isFoundByOne_87 (fun H locs G => ?_)
          obtain ⟨X87, hX87⟩ : ∃ Z : xS, Z = mU X15x 46 ka (X15x 7 ka) := ⟨_, rfl⟩
          have G : xG D ad sa cc tt zA zs.heap H locs X87 := by rw [hX87]; exact G
          rw [lt_e hX87] at hF
          have hqX87 : lP tt X X87 := by rw [hX87]; exact lP_put hqX15x (by omega) (hqX15x.2.2.2.2.2.2.2.1 ka (by omega))
          refine lv_iinc (v := nI (ka + 1)) (lv' := [(2, .int (nI (ka + 1))), (0, .ref (ad 42)), (1, .int v), (3, .int (nI kbx))]) hx hb dX2_isFoundByOne_88 hl (k := 2) rfl (nt_add rfl (show (1 : Int32) = nI 1 from rfl)) (by decide) rfl (fun ls hl => ?_)
          refine lv_goto (tgt := 2) hx hb dX2_isFoundByOne_91 (by decide) ?_
          exact ih2 (ka + 1) X87 ⟨by omega, by omega, hqX87⟩ hF _ _ _ (lv_sub hl [1, 2, 0] rfl) G
        have hloop15 : ∀ (f15 : Nat) (kb : Nat) (X15 : xS), (kb ≤ 10 ∧ 10 < kb + f15 ∧ lP tt X X15) → rM = x2_isFoundByOne_L15 tt v ka K15 f15 kb X15 → ∀ (H : Heap) (locs : List Loc) (ls : Array Slot), lv_has ls 4 [(0, .ref (ad 42)), (1, .int v), (2, .int (nI ka)), (3, .int (nI kb))] → xG D ad sa cc tt zA zs.heap H locs X15 → W zp zl ze ({ frames := 5, cells := 0, slots := 0, locals := 119 } : Room) zs zm zg zb zt zc H locs 0 0 zQ (F0 zm 15 ls []) := by
          intro f15
          induction f15 with
          | zero =>
            intro kb X15 hI hL15 H locs ls hl G
            exact absurd hI.2.1 (by omega)
          | succ f15 ih15 =>
            intro kb X15 hI hL15 H locs ls hl G
            rw [x2_isFoundByOne_L15_s] at hL15
            have hqX15 := hI.2.2
            have hE := hqX15.2.1
            refine lv_iload_n hx hb dX2_isFoundByOne_15 rfl (lv_at hl 3 rfl) ?_
            refine lv_aload_n hx hb dX2_isFoundByOne_16 rfl (lv_at hl 0 rfl) ?_
            refine xr_get C G (show kL 42 by decide).2 (xL_c (show kL 42 by decide).1) rfl (fun _ h => List.mem_cons_of_mem _ (List.mem_append_left _ (List.mem_append_left _ (List.mem_append_right _ h)))) 5 (by decide) (show Cond.fieldLink RX2 25 "WheatCounts$Leading" "estate" "LWheatCounts$Estate;" ∈ _ by decide +kernel) rfl dX2_isFoundByOne_17 ?_
            rw [rT_1 hE]
            refine xr_get C G (show kE 1 by decide).2 (xE_c (show kE 1 by decide).1) rfl (fun _ h => List.mem_cons_of_mem _ (List.mem_append_left _ (List.mem_append_right _ h))) 0 (by decide) (show Cond.fieldLink RX2 96 "WheatCounts$Estate" "cells" "I" ∈ _ by decide +kernel) rfl dX2_isFoundByOne_20 ?_
            refine lv_icmp_ge (tgt := 73) hx hb dX2_isFoundByOne_23 (by decide) (fun c23 => ?_) (fun c23 => ?_)
            · rw [if_pos c23] at hL15
              exact hrest15 kb X15 hL15 hqX15 _ _ _ (lv_sub hl [0, 1, 2, 3] rfl) G
            · rw [if_neg c23] at hL15
              have hb9 := Nat.lt_of_lt_of_le (lp_lt hqX15.2.2.2.2.2.1.1 c23 (by have := hqX15.2.2.2.2.2.1.2.2; omega) (by omega)) hqX15.2.2.2.2.2.1.2.2
              refine lv_aload_n hx hb dX2_isFoundByOne_26 rfl (lv_at hl 0 rfl) ?_
              refine xr_get C G (show kL 42 by decide).2 (xL_c (show kL 42 by decide).1) rfl (fun _ h => List.mem_cons_of_mem _ (List.mem_append_left _ (List.mem_append_left _ (List.mem_append_right _ h)))) 4 (by decide) (show Cond.fieldLink RX2 22 "WheatCounts$Leading" "places" "[I" ∈ _ by decide +kernel) rfl dX2_isFoundByOne_27 ?_
              refine lv_iload_n hx hb dX2_isFoundByOne_30 rfl (lv_at hl 2 rfl) ?_
              refine lv_iload_n hx hb dX2_isFoundByOne_31 rfl (lv_at hl 3 rfl) ?_
              refine xr_ast C G (show kI 46 8 by decide).2 (xI_c (show kI 46 8 by decide).1) ka rfl (by omega) (xI_lt (show kI 46 8 by decide)) dX2_isFoundByOne_32 (fun H locs G => ?_)
              obtain ⟨X32, hX32⟩ : ∃ Z : xS, Z = mU X15 46 ka (nI kb) := ⟨_, rfl⟩
              have G : xG D ad sa cc tt zA zs.heap H locs X32 := by rw [hX32]; exact G
              rw [lt_e hX32] at hL15
              have hqX32 : lP tt X X32 := by rw [hX32]; exact lP_put hqX15 (by omega) ⟨by rw [vn_nI (by omega)], by rw [vn_nI (by omega)]; omega⟩
              have hE := hqX32.2.1
              refine lv_iload_n hx hb dX2_isFoundByOne_33 rfl (lv_at hl 3 rfl) ?_
              refine lv_aload_n hx hb dX2_isFoundByOne_34 rfl (lv_at hl 0 rfl) ?_
              refine xr_get C G (show kL 42 by decide).2 (xL_c (show kL 42 by decide).1) rfl (fun _ h => List.mem_cons_of_mem _ (List.mem_append_left _ (List.mem_append_left _ (List.mem_append_right _ h)))) 5 (by decide) (show Cond.fieldLink RX2 25 "WheatCounts$Leading" "estate" "LWheatCounts$Estate;" ∈ _ by decide +kernel) rfl dX2_isFoundByOne_35 ?_
              rw [rT_1 hE]
              refine xr_get C G (show kE 1 by decide).2 (xE_c (show kE 1 by decide).1) rfl (fun _ h => List.mem_cons_of_mem _ (List.mem_append_left _ (List.mem_append_right _ h))) 12 (by decide) (show Cond.fieldLink RX2 54 "WheatCounts$Estate" "at" "[I" ∈ _ by decide +kernel) rfl dX2_isFoundByOne_38 ?_
              refine lv_iload_n hx hb dX2_isFoundByOne_41 rfl (lv_at hl 2 rfl) ?_
              refine xr_ald C G (show kI 7 8 by decide).2 (xI_c (show kI 7 8 by decide).1 _) ka rfl (by omega) (xI_lt (show kI 7 8 by decide)) dX2_isFoundByOne_42 ?_
              refine lv_icmp_eq (tgt := 67) hx hb dX2_isFoundByOne_43 (by decide) (fun c43 => ?_) (fun c43 => ?_)
              · rw [if_pos c43] at hL15
                refine lv_iinc (v := nI (kb + 1)) (lv' := [(3, .int (nI (kb + 1))), (0, .ref (ad 42)), (1, .int v), (2, .int (nI ka))]) hx hb dX2_isFoundByOne_67 hl (k := 3) rfl (nt_add rfl (show (1 : Int32) = nI 1 from rfl)) (by decide) rfl (fun ls hl => ?_)
                refine lv_goto (tgt := 15) hx hb dX2_isFoundByOne_70 (by decide) ?_
                exact ih15 (kb + 1) X32 ⟨by omega, by omega, hqX32⟩ hL15 _ _ _ (lv_sub hl [1, 2, 3, 0] rfl) G
              · rw [if_neg c43] at hL15
                refine lv_aload_n hx hb dX2_isFoundByOne_46 rfl (lv_at hl 0 rfl) ?_
                refine xr_Vi C hA G (kx2_harvest zl D ad sa cc tt X32 hqX32.2) (show kL 42 by decide).2 (xL_c (show kL 42 by decide).1) rfl (cwV 0 C.2.2.2.2.1 gX2_isFoundByOne_X2_harvest rfl rfl rfl (by decide +kernel) ⟨Nat.le_of_ble_eq_true rfl, Nat.le_of_ble_eq_true rfl⟩) rfl hl.1 rfl (Nat.le_of_ble_eq_true rfl) dX2_isFoundByOne_47 ⟨Nat.le_refl _, Nat.le_refl _⟩ (fun H locs G => ?_)
                refine lv_iload_n hx hb dX2_isFoundByOne_50 rfl (lv_at hl 1 rfl) ?_
                refine lv_icmp_lt (tgt := 67) hx hb dX2_isFoundByOne_51 (by decide) (fun c51 => ?_) (fun c51 => ?_)
                · rw [if_pos c51] at hL15
                  refine lv_iinc (v := nI (kb + 1)) (lv' := [(3, .int (nI (kb + 1))), (0, .ref (ad 42)), (1, .int v), (2, .int (nI ka))]) hx hb dX2_isFoundByOne_67 hl (k := 3) rfl (nt_add rfl (show (1 : Int32) = nI 1 from rfl)) (by decide) rfl (fun ls hl => ?_)
                  refine lv_goto (tgt := 15) hx hb dX2_isFoundByOne_70 (by decide) ?_
                  exact ih15 (kb + 1) X32 ⟨by omega, by omega, hqX32⟩ hL15 _ _ _ (lv_sub hl [1, 2, 3, 0] rfl) G
                · rw [if_neg c51] at hL15
                  refine lv_aload_n hx hb dX2_isFoundByOne_54 rfl (lv_at hl 0 rfl) ?_
                  refine lv_iconst (v := 0) hx hb dX2_isFoundByOne_55 (by decide) ?_
                  refine lv_iload_n hx hb dX2_isFoundByOne_56 rfl (lv_at hl 2 rfl) ?_
                  refine xr_Vv C hA G (kx2_putDown zl D ad sa cc tt X32 0 ka (by omega) (by omega)) (show kL 42 by decide).2 (xL_c (show kL 42 by decide).1) rfl (cwV 2 C.2.2.2.2.1 gX2_isFoundByOne_X2_putDown rfl rfl rfl (by decide +kernel) ⟨Nat.le_of_ble_eq_true rfl, Nat.le_of_ble_eq_true rfl⟩) rfl hl.1 rfl (Nat.le_of_ble_eq_true rfl) dX2_isFoundByOne_57 ⟨Nat.le_refl _, Nat.le_refl _⟩ (fun H locs G => ?_)
                  obtain ⟨X57, hX57⟩ : ∃ Z : xS, Z = x2_putDown X32 0 ka := ⟨_, rfl⟩
                  have G : xG D ad sa cc tt zA zs.heap H locs X57 := by rw [hX57]; exact G
                  rw [lt_e hX57] at hL15
                  refine lv_aload_n hx hb dX2_isFoundByOne_60 rfl (lv_at hl 0 rfl) ?_
                  refine lv_iconst (v := 1) hx hb dX2_isFoundByOne_61 (by decide) ?_
                  refine xr_put C G (show kL 42 by decide).2 (xL_c (show kL 42 by decide).1) rfl (fun _ h => List.mem_cons_of_mem _ (List.mem_append_left _ (List.mem_append_left _ (List.mem_append_right _ h)))) tyX2 tyX2_ok nmX2 1 (by decide) rfl (show Cond.fieldLink RX2 46 "WheatCounts$Leading" "moved" "I" ∈ _ by decide +kernel) (ty := .int) (by decide +kernel) rfl rfl (Nat.le_of_ble_eq_true rfl) (upd (X57 42) 1 1) (xL_c (show kL 42 by decide).1) dX2_isFoundByOne_62 (fun H locs G => ?_)
                  obtain ⟨X62, hX62⟩ : ∃ Z : xS, Z = mU X57 42 1 1 := ⟨_, rfl⟩
                  have G : xG D ad sa cc tt zA zs.heap H locs X62 := by rw [hX62]; exact G
                  rw [lt_e hX62] at hL15
                  refine lv_iconst (v := 1) hx hb dX2_isFoundByOne_65 (by decide) ?_
                  exact hret _ _ _ _ _ _ hL15 G (Or.inr rfl) dX2_isFoundByOne_66
        exact hloop15 11 0 X2 ⟨by omega, by omega, hqX2⟩ hL2 _ _ _ (lv_sub hl [1, 2, 3, 0] rfl) G
  exact hloop2 9 0 X ⟨by omega, by omega, hqX⟩ hF _ _ _ (lv_sub hl [1, 2, 0] rfl) G
set_option maxRecDepth 100000 in
set_option maxHeartbeats 4000000 in
theorem kx2_isFoundByTwo (zl : Launch) (D : va_G) (ad sa : Nat → Nat) (cc : cT) (tt : tT) (X : xS) (v : Int32) (hL : lR tt X) : xM zl D ad sa cc tt yX2_isFoundByTwo wsX2_isFoundByTwo ({ frames := 5, cells := 0, slots := 0, locals := 119 } : Room) [.ref (ad 42), .int v] X (x2_isFoundByTwo tt X v) := by
  refine xM_ofZ (code := cX2_isFoundByTwo) (nL := 6) (own := RX2) (by decide) rfl rfl (Nat.le_of_ble_eq_true rfl) ?_
  intro zp ze zs zm zg zb zt zc zA zQ C hA hret H locs ls hl G
  have hx := C.1
  have hb := C.2.1
  have hl : lv_has ls 6 [(0, .ref (ad 42)), (1, .int v)] := hl
  obtain ⟨rM, hF⟩ : ∃ Z : Int32 × xS, Z = x2_isFoundByTwo tt X v := ⟨_, rfl⟩
  rw [← hF] at hret
  unfold x2_isFoundByTwo at hF
  have hqX : lP tt X X := ⟨fun _ _ => rfl, hL⟩
  have hE := hL.1
  refine lv_iconst (v := 0) hx hb dX2_isFoundByTwo_0 (by decide) ?_
  refine lv_istore_n (lv' := [(2, .int 0), (0, .ref (ad 42)), (1, .int v)]) hx hb dX2_isFoundByTwo_1 rfl hl (by decide) rfl (fun ls hl => ?_)
  obtain ⟨K2, hK2⟩ : ∃ Zk : Nat → xS → Int32 × xS, Zk = (fun (kax : Nat) (X2x : xS) => (0, X2x)) := ⟨_, rfl⟩
  rw [← hK2] at hF
  have hrest2 : ∀ (kax : Nat) (X2x : xS), rM = K2 kax X2x → (lP tt X X2x) → ∀ (H : Heap) (locs : List Loc) (ls : Array Slot), lv_has ls 6 [(0, .ref (ad 42)), (1, .int v), (2, .int (nI kax))] → xG D ad sa cc tt zA zs.heap H locs X2x → W zp zl ze ({ frames := 5, cells := 0, slots := 0, locals := 119 } : Room) zs zm zg zb zt zc H locs 0 0 zQ (F0 zm 186 ls []) := by
    intro kax X2x hF hR9 H locs ls hl G
    have hF : rM = (0, X2x) := by rw [hK2] at hF; exact hF
    have hqX2x := hR9
    have hE := hqX2x.2.1
    refine lv_iconst (v := 0) hx hb dX2_isFoundByTwo_186 (by decide) ?_
    exact hret _ _ _ _ _ _ hF G (Or.inl rfl) dX2_isFoundByTwo_187
  have hloop2 : ∀ (f2 : Nat) (ka : Nat) (X2 : xS), (ka ≤ 8 ∧ 8 < ka + f2 ∧ lP tt X X2) → rM = x2_isFoundByTwo_L2 tt v K2 f2 ka X2 → ∀ (H : Heap) (locs : List Loc) (ls : Array Slot), lv_has ls 6 [(0, .ref (ad 42)), (1, .int v), (2, .int (nI ka))] → xG D ad sa cc tt zA zs.heap H locs X2 → W zp zl ze ({ frames := 5, cells := 0, slots := 0, locals := 119 } : Room) zs zm zg zb zt zc H locs 0 0 zQ (F0 zm 2 ls []) := by
    intro f2
    induction f2 with
    | zero =>
      intro ka X2 hI hL2 H locs ls hl G
      exact absurd hI.2.1 (by omega)
    | succ f2 ih2 =>
      intro ka X2 hI hL2 H locs ls hl G
      rw [x2_isFoundByTwo_L2_s] at hL2
      have hqX2 := hI.2.2
      have hE := hqX2.2.1
      refine lv_iload_n hx hb dX2_isFoundByTwo_2 rfl (lv_at hl 2 rfl) ?_
      refine lv_aload_n hx hb dX2_isFoundByTwo_3 rfl (lv_at hl 0 rfl) ?_
      refine xr_get C G (show kL 42 by decide).2 (xL_c (show kL 42 by decide).1) rfl (fun _ h => List.mem_cons_of_mem _ (List.mem_append_left _ (List.mem_append_left _ (List.mem_append_right _ h)))) 5 (by decide) (show Cond.fieldLink RX2 25 "WheatCounts$Leading" "estate" "LWheatCounts$Estate;" ∈ _ by decide +kernel) rfl dX2_isFoundByTwo_4 ?_
      rw [rT_1 hE]
      refine xr_get C G (show kE 1 by decide).2 (xE_c (show kE 1 by decide).1) rfl (fun _ h => List.mem_cons_of_mem _ (List.mem_append_left _ (List.mem_append_right _ h))) 9 (by decide) (show Cond.fieldLink RX2 49 "WheatCounts$Estate" "people" "I" ∈ _ by decide +kernel) rfl dX2_isFoundByTwo_7 ?_
      refine lv_icmp_ge (tgt := 186) hx hb dX2_isFoundByTwo_10 (by decide) (fun c10 => ?_) (fun c10 => ?_)
      · rw [if_pos c10] at hL2
        exact hrest2 ka X2 hL2 hqX2 _ _ _ (lv_sub hl [0, 1, 2] rfl) G
      · rw [if_neg c10] at hL2
        have ha8 := lp_lt hqX2.2.2.2.2.2.2.1.1 c10 (by have := hqX2.2.2.2.2.2.2.1.2; omega) (by omega)
        have ha8b := Nat.lt_of_lt_of_le ha8 hqX2.2.2.2.2.2.2.1.2
        refine lv_iconst (v := 0) hx hb dX2_isFoundByTwo_13 (by decide) ?_
        refine lv_istore_n (lv' := [(3, .int 0), (0, .ref (ad 42)), (1, .int v), (2, .int (nI ka))]) hx hb dX2_isFoundByTwo_14 rfl hl (by decide) rfl (fun ls hl => ?_)
        obtain ⟨K15, hK15⟩ : ∃ Zk : Nat → xS → Int32 × xS, Zk = (fun (kbx : Nat) (X15x : xS) => (lt (mU X15x 46 ka (X15x 7 ka)) fun (X179 : xS) => (x2_isFoundByTwo_L2 tt v K2 f2 (ka + 1) X179))) := ⟨_, rfl⟩
        rw [← hK15] at hL2
        have hrest15 : ∀ (kbx : Nat) (X15x : xS), rM = K15 kbx X15x → (lP tt X X15x) → ∀ (H : Heap) (locs : List Loc) (ls : Array Slot), lv_has ls 6 [(0, .ref (ad 42)), (1, .int v), (2, .int (nI ka)), (3, .int (nI kbx))] → xG D ad sa cc tt zA zs.heap H locs X15x → W zp zl ze ({ frames := 5, cells := 0, slots := 0, locals := 119 } : Room) zs zm zg zb zt zc H locs 0 0 zQ (F0 zm 165 ls []) := by
          intro kbx X15x hF hR9 H locs ls hl G
          have hF : rM = (lt (mU X15x 46 ka (X15x 7 ka)) fun (X179 : xS) => (x2_isFoundByTwo_L2 tt v K2 f2 (ka + 1) X179)) := by rw [hK15] at hF; exact hF
          have hqX15x := hR9
          have hE := hqX15x.2.1
          refine lv_aload_n hx hb dX2_isFoundByTwo_165 rfl (lv_at hl 0 rfl) ?_
          refine xr_get C G (show kL 42 by decide).2 (xL_c (show kL 42 by decide).1) rfl (fun _ h => List.mem_cons_of_mem _ (List.mem_append_left _ (List.mem_append_left _ (List.mem_append_right _ h)))) 4 (by decide) (show Cond.fieldLink RX2 22 "WheatCounts$Leading" "places" "[I" ∈ _ by decide +kernel) rfl dX2_isFoundByTwo_166 ?_
          refine lv_iload_n hx hb dX2_isFoundByTwo_169 rfl (lv_at hl 2 rfl) ?_
          refine lv_aload_n hx hb dX2_isFoundByTwo_170 rfl (lv_at hl 0 rfl) ?_
          refine xr_get C G (show kL 42 by decide).2 (xL_c (show kL 42 by decide).1) rfl (fun _ h => List.mem_cons_of_mem _ (List.mem_append_left _ (List.mem_append_left _ (List.mem_append_right _ h)))) 5 (by decide) (show Cond.fieldLink RX2 25 "WheatCounts$Leading" "estate" "LWheatCounts$Estate;" ∈ _ by decide +kernel) rfl dX2_isFoundByTwo_171 ?_
          rw [rT_1 hE]
          refine xr_get C G (show kE 1 by decide).2 (xE_c (show kE 1 by decide).1) rfl (fun _ h => List.mem_cons_of_mem _ (List.mem_append_left _ (List.mem_append_right _ h))) 12 (by decide) (show Cond.fieldLink RX2 54 "WheatCounts$Estate" "at" "[I" ∈ _ by decide +kernel) rfl dX2_isFoundByTwo_174 ?_
          refine lv_iload_n hx hb dX2_isFoundByTwo_177 rfl (lv_at hl 2 rfl) ?_
          refine xr_ald C G (show kI 7 8 by decide).2 (xI_c (show kI 7 8 by decide).1 _) ka rfl (by omega) (xI_lt (show kI 7 8 by decide)) dX2_isFoundByTwo_178 ?_
          refine xr_ast C G (show kI 46 8 by decide).2 (xI_c (show kI 46 8 by decide).1) ka rfl (by omega) (xI_lt (show kI 46 8 by decide)) dX2_isFoundByTwo_179 (fun H locs G => ?_)
          obtain ⟨X179, hX179⟩ : ∃ Z : xS, Z = mU X15x 46 ka (X15x 7 ka) := ⟨_, rfl⟩
          have G : xG D ad sa cc tt zA zs.heap H locs X179 := by rw [hX179]; exact G
          rw [lt_e hX179] at hF
          have hqX179 : lP tt X X179 := by rw [hX179]; exact lP_put hqX15x (by omega) (hqX15x.2.2.2.2.2.2.2.1 ka (by omega))
          refine lv_iinc (v := nI (ka + 1)) (lv' := [(2, .int (nI (ka + 1))), (0, .ref (ad 42)), (1, .int v), (3, .int (nI kbx))]) hx hb dX2_isFoundByTwo_180 hl (k := 2) rfl (nt_add rfl (show (1 : Int32) = nI 1 from rfl)) (by decide) rfl (fun ls hl => ?_)
          refine lv_goto (tgt := 2) hx hb dX2_isFoundByTwo_183 (by decide) ?_
          exact ih2 (ka + 1) X179 ⟨by omega, by omega, hqX179⟩ hF _ _ _ (lv_sub hl [1, 2, 0] rfl) G
        have hloop15 : ∀ (f15 : Nat) (kb : Nat) (X15 : xS), (kb ≤ 10 ∧ 10 < kb + f15 ∧ lP tt X X15) → rM = x2_isFoundByTwo_L15 tt v ka K15 f15 kb X15 → ∀ (H : Heap) (locs : List Loc) (ls : Array Slot), lv_has ls 6 [(0, .ref (ad 42)), (1, .int v), (2, .int (nI ka)), (3, .int (nI kb))] → xG D ad sa cc tt zA zs.heap H locs X15 → W zp zl ze ({ frames := 5, cells := 0, slots := 0, locals := 119 } : Room) zs zm zg zb zt zc H locs 0 0 zQ (F0 zm 15 ls []) := by
          intro f15
          induction f15 with
          | zero =>
            intro kb X15 hI hL15 H locs ls hl G
            exact absurd hI.2.1 (by omega)
          | succ f15 ih15 =>
            intro kb X15 hI hL15 H locs ls hl G
            rw [x2_isFoundByTwo_L15_s] at hL15
            have hqX15 := hI.2.2
            have hE := hqX15.2.1
            refine lv_iload_n hx hb dX2_isFoundByTwo_15 rfl (lv_at hl 3 rfl) ?_
            refine lv_aload_n hx hb dX2_isFoundByTwo_16 rfl (lv_at hl 0 rfl) ?_
            refine xr_get C G (show kL 42 by decide).2 (xL_c (show kL 42 by decide).1) rfl (fun _ h => List.mem_cons_of_mem _ (List.mem_append_left _ (List.mem_append_left _ (List.mem_append_right _ h)))) 5 (by decide) (show Cond.fieldLink RX2 25 "WheatCounts$Leading" "estate" "LWheatCounts$Estate;" ∈ _ by decide +kernel) rfl dX2_isFoundByTwo_17 ?_
            rw [rT_1 hE]
            refine xr_get C G (show kE 1 by decide).2 (xE_c (show kE 1 by decide).1) rfl (fun _ h => List.mem_cons_of_mem _ (List.mem_append_left _ (List.mem_append_right _ h))) 0 (by decide) (show Cond.fieldLink RX2 96 "WheatCounts$Estate" "cells" "I" ∈ _ by decide +kernel) rfl dX2_isFoundByTwo_20 ?_
            refine lv_icmp_ge (tgt := 165) hx hb dX2_isFoundByTwo_23 (by decide) (fun c23 => ?_) (fun c23 => ?_)
            · rw [if_pos c23] at hL15
              exact hrest15 kb X15 hL15 hqX15 _ _ _ (lv_sub hl [0, 1, 2, 3] rfl) G
            · rw [if_neg c23] at hL15
              have hb9 := Nat.lt_of_lt_of_le (lp_lt hqX15.2.2.2.2.2.1.1 c23 (by have := hqX15.2.2.2.2.2.1.2.2; omega) (by omega)) hqX15.2.2.2.2.2.1.2.2
              refine lv_aload_n hx hb dX2_isFoundByTwo_26 rfl (lv_at hl 0 rfl) ?_
              refine xr_get C G (show kL 42 by decide).2 (xL_c (show kL 42 by decide).1) rfl (fun _ h => List.mem_cons_of_mem _ (List.mem_append_left _ (List.mem_append_left _ (List.mem_append_right _ h)))) 4 (by decide) (show Cond.fieldLink RX2 22 "WheatCounts$Leading" "places" "[I" ∈ _ by decide +kernel) rfl dX2_isFoundByTwo_27 ?_
              refine lv_iload_n hx hb dX2_isFoundByTwo_30 rfl (lv_at hl 2 rfl) ?_
              refine lv_iload_n hx hb dX2_isFoundByTwo_31 rfl (lv_at hl 3 rfl) ?_
              refine xr_ast C G (show kI 46 8 by decide).2 (xI_c (show kI 46 8 by decide).1) ka rfl (by omega) (xI_lt (show kI 46 8 by decide)) dX2_isFoundByTwo_32 (fun H locs G => ?_)
              obtain ⟨X32, hX32⟩ : ∃ Z : xS, Z = mU X15 46 ka (nI kb) := ⟨_, rfl⟩
              have G : xG D ad sa cc tt zA zs.heap H locs X32 := by rw [hX32]; exact G
              rw [lt_e hX32] at hL15
              have hqX32 : lP tt X X32 := by rw [hX32]; exact lP_put hqX15 (by omega) ⟨by rw [vn_nI (by omega)], by rw [vn_nI (by omega)]; omega⟩
              have hE := hqX32.2.1
              refine lv_iload_n hx hb dX2_isFoundByTwo_33 rfl (lv_at hl 2 rfl) ?_
              refine lv_iconst (v := 1) hx hb dX2_isFoundByTwo_34 (by decide) ?_
              refine lv_iadd hx hb dX2_isFoundByTwo_35 ?_
              refine lv_topi (fun x36 hx36 => ?_)
              obtain rfl : x36 = nI (ka + 1) := hx36.trans (nt_add rfl rfl)
              refine lv_istore (lv' := [(4, .int (nI (ka + 1))), (0, .ref (ad 42)), (1, .int v), (2, .int (nI ka)), (3, .int (nI kb))]) hx hb dX2_isFoundByTwo_36 hl (by decide) rfl (fun ls hl => ?_)
              obtain ⟨K38, hK38⟩ : ∃ Zk : Nat → xS → Int32 × xS, Zk = (fun (kcx : Nat) (X38x : xS) => (x2_isFoundByTwo_L15 tt v ka K15 f15 (kb + 1) X38x)) := ⟨_, rfl⟩
              rw [← hK38] at hL15
              have hrest38 : ∀ (kcx : Nat) (X38x : xS), rM = K38 kcx X38x → (lP tt X X38x) → ∀ (H : Heap) (locs : List Loc) (ls : Array Slot), lv_has ls 6 [(0, .ref (ad 42)), (1, .int v), (2, .int (nI ka)), (3, .int (nI kb)), (4, .int (nI kcx))] → xG D ad sa cc tt zA zs.heap H locs X38x → W zp zl ze ({ frames := 5, cells := 0, slots := 0, locals := 119 } : Room) zs zm zg zb zt zc H locs 0 0 zQ (F0 zm 159 ls []) := by
                intro kcx X38x hF hR9 H locs ls hl G
                have hF : rM = (x2_isFoundByTwo_L15 tt v ka K15 f15 (kb + 1) X38x) := by rw [hK38] at hF; exact hF
                have hqX38x := hR9
                have hE := hqX38x.2.1
                refine lv_iinc (v := nI (kb + 1)) (lv' := [(3, .int (nI (kb + 1))), (0, .ref (ad 42)), (1, .int v), (2, .int (nI ka)), (4, .int (nI kcx))]) hx hb dX2_isFoundByTwo_159 hl (k := 3) rfl (nt_add rfl (show (1 : Int32) = nI 1 from rfl)) (by decide) rfl (fun ls hl => ?_)
                refine lv_goto (tgt := 15) hx hb dX2_isFoundByTwo_162 (by decide) ?_
                exact ih15 (kb + 1) X38x ⟨by omega, by omega, hqX38x⟩ hF _ _ _ (lv_sub hl [1, 2, 3, 0] rfl) G
              have hloop38 : ∀ (f38 : Nat) (kc : Nat) (X38 : xS), (kc ≤ 8 ∧ 8 < kc + f38 ∧ lP tt X X38) → rM = x2_isFoundByTwo_L38 tt v ka kb K38 f38 kc X38 → ∀ (H : Heap) (locs : List Loc) (ls : Array Slot), lv_has ls 6 [(0, .ref (ad 42)), (1, .int v), (2, .int (nI ka)), (3, .int (nI kb)), (4, .int (nI kc))] → xG D ad sa cc tt zA zs.heap H locs X38 → W zp zl ze ({ frames := 5, cells := 0, slots := 0, locals := 119 } : Room) zs zm zg zb zt zc H locs 0 0 zQ (F0 zm 38 ls []) := by
                intro f38
                induction f38 with
                | zero =>
                  intro kc X38 hI hL38 H locs ls hl G
                  exact absurd hI.2.1 (by omega)
                | succ f38 ih38 =>
                  intro kc X38 hI hL38 H locs ls hl G
                  rw [x2_isFoundByTwo_L38_s] at hL38
                  have hqX38 := hI.2.2
                  have hE := hqX38.2.1
                  refine lv_iload hx hb dX2_isFoundByTwo_38 (lv_at hl 4 rfl) ?_
                  refine lv_aload_n hx hb dX2_isFoundByTwo_40 rfl (lv_at hl 0 rfl) ?_
                  refine xr_get C G (show kL 42 by decide).2 (xL_c (show kL 42 by decide).1) rfl (fun _ h => List.mem_cons_of_mem _ (List.mem_append_left _ (List.mem_append_left _ (List.mem_append_right _ h)))) 5 (by decide) (show Cond.fieldLink RX2 25 "WheatCounts$Leading" "estate" "LWheatCounts$Estate;" ∈ _ by decide +kernel) rfl dX2_isFoundByTwo_41 ?_
                  rw [rT_1 hE]
                  refine xr_get C G (show kE 1 by decide).2 (xE_c (show kE 1 by decide).1) rfl (fun _ h => List.mem_cons_of_mem _ (List.mem_append_left _ (List.mem_append_right _ h))) 9 (by decide) (show Cond.fieldLink RX2 49 "WheatCounts$Estate" "people" "I" ∈ _ by decide +kernel) rfl dX2_isFoundByTwo_44 ?_
                  refine lv_icmp_ge (tgt := 159) hx hb dX2_isFoundByTwo_47 (by decide) (fun c47 => ?_) (fun c47 => ?_)
                  · rw [if_pos c47] at hL38
                    exact hrest38 kc X38 hL38 hqX38 _ _ _ (lv_sub hl [0, 1, 2, 3, 4] rfl) G
                  · rw [if_neg c47] at hL38
                    have hc9 := Nat.lt_of_lt_of_le (lp_lt hqX38.2.2.2.2.2.2.1.1 c47 (by have := hqX38.2.2.2.2.2.2.1.2; omega) (by omega)) hqX38.2.2.2.2.2.2.1.2
                    refine lv_iload_n hx hb dX2_isFoundByTwo_50 rfl (lv_at hl 3 rfl) ?_
                    refine lv_aload_n hx hb dX2_isFoundByTwo_51 rfl (lv_at hl 0 rfl) ?_
                    refine xr_get C G (show kL 42 by decide).2 (xL_c (show kL 42 by decide).1) rfl (fun _ h => List.mem_cons_of_mem _ (List.mem_append_left _ (List.mem_append_left _ (List.mem_append_right _ h)))) 5 (by decide) (show Cond.fieldLink RX2 25 "WheatCounts$Leading" "estate" "LWheatCounts$Estate;" ∈ _ by decide +kernel) rfl dX2_isFoundByTwo_52 ?_
                    rw [rT_1 hE]
                    refine xr_get C G (show kE 1 by decide).2 (xE_c (show kE 1 by decide).1) rfl (fun _ h => List.mem_cons_of_mem _ (List.mem_append_left _ (List.mem_append_right _ h))) 12 (by decide) (show Cond.fieldLink RX2 54 "WheatCounts$Estate" "at" "[I" ∈ _ by decide +kernel) rfl dX2_isFoundByTwo_55 ?_
                    refine lv_iload_n hx hb dX2_isFoundByTwo_58 rfl (lv_at hl 2 rfl) ?_
                    refine xr_ald C G (show kI 7 8 by decide).2 (xI_c (show kI 7 8 by decide).1 _) ka rfl (by omega) (xI_lt (show kI 7 8 by decide)) dX2_isFoundByTwo_59 ?_
                    refine lv_icmp_eq (tgt := 159) hx hb dX2_isFoundByTwo_60 (by decide) (fun c60 => ?_) (fun c60 => ?_)
                    · rw [if_pos c60] at hL38
                      exact hrest38 kc X38 hL38 hqX38 _ _ _ (lv_sub hl [0, 1, 2, 3, 4] rfl) G
                    · rw [if_neg c60] at hL38
                      refine lv_iconst (v := 0) hx hb dX2_isFoundByTwo_63 (by decide) ?_
                      refine lv_istore (lv' := [(5, .int 0), (0, .ref (ad 42)), (1, .int v), (2, .int (nI ka)), (3, .int (nI kb)), (4, .int (nI kc))]) hx hb dX2_isFoundByTwo_64 hl (by decide) rfl (fun ls hl => ?_)
                      obtain ⟨K66, hK66⟩ : ∃ Zk : Nat → xS → Int32 × xS, Zk = (fun (kdx : Nat) (X66x : xS) => (lt (mU X66x 46 kc (X66x 7 kc)) fun (X152 : xS) => (x2_isFoundByTwo_L38 tt v ka kb K38 f38 (kc + 1) X152))) := ⟨_, rfl⟩
                      rw [← hK66] at hL38
                      have hrest66 : ∀ (kdx : Nat) (X66x : xS), rM = K66 kdx X66x → (lP tt X X66x) → ∀ (H : Heap) (locs : List Loc) (ls : Array Slot), lv_has ls 6 [(0, .ref (ad 42)), (1, .int v), (2, .int (nI ka)), (3, .int (nI kb)), (4, .int (nI kc)), (5, .int (nI kdx))] → xG D ad sa cc tt zA zs.heap H locs X66x → W zp zl ze ({ frames := 5, cells := 0, slots := 0, locals := 119 } : Room) zs zm zg zb zt zc H locs 0 0 zQ (F0 zm 136 ls []) := by
                        intro kdx X66x hF hR9 H locs ls hl G
                        have hF : rM = (lt (mU X66x 46 kc (X66x 7 kc)) fun (X152 : xS) => (x2_isFoundByTwo_L38 tt v ka kb K38 f38 (kc + 1) X152)) := by rw [hK66] at hF; exact hF
                        have hqX66x := hR9
                        have hE := hqX66x.2.1
                        refine lv_aload_n hx hb dX2_isFoundByTwo_136 rfl (lv_at hl 0 rfl) ?_
                        refine xr_get C G (show kL 42 by decide).2 (xL_c (show kL 42 by decide).1) rfl (fun _ h => List.mem_cons_of_mem _ (List.mem_append_left _ (List.mem_append_left _ (List.mem_append_right _ h)))) 4 (by decide) (show Cond.fieldLink RX2 22 "WheatCounts$Leading" "places" "[I" ∈ _ by decide +kernel) rfl dX2_isFoundByTwo_137 ?_
                        refine lv_iload hx hb dX2_isFoundByTwo_140 (lv_at hl 4 rfl) ?_
                        refine lv_aload_n hx hb dX2_isFoundByTwo_142 rfl (lv_at hl 0 rfl) ?_
                        refine xr_get C G (show kL 42 by decide).2 (xL_c (show kL 42 by decide).1) rfl (fun _ h => List.mem_cons_of_mem _ (List.mem_append_left _ (List.mem_append_left _ (List.mem_append_right _ h)))) 5 (by decide) (show Cond.fieldLink RX2 25 "WheatCounts$Leading" "estate" "LWheatCounts$Estate;" ∈ _ by decide +kernel) rfl dX2_isFoundByTwo_143 ?_
                        rw [rT_1 hE]
                        refine xr_get C G (show kE 1 by decide).2 (xE_c (show kE 1 by decide).1) rfl (fun _ h => List.mem_cons_of_mem _ (List.mem_append_left _ (List.mem_append_right _ h))) 12 (by decide) (show Cond.fieldLink RX2 54 "WheatCounts$Estate" "at" "[I" ∈ _ by decide +kernel) rfl dX2_isFoundByTwo_146 ?_
                        refine lv_iload hx hb dX2_isFoundByTwo_149 (lv_at hl 4 rfl) ?_
                        refine xr_ald C G (show kI 7 8 by decide).2 (xI_c (show kI 7 8 by decide).1 _) kc rfl (by omega) (xI_lt (show kI 7 8 by decide)) dX2_isFoundByTwo_151 ?_
                        refine xr_ast C G (show kI 46 8 by decide).2 (xI_c (show kI 46 8 by decide).1) kc rfl (by omega) (xI_lt (show kI 46 8 by decide)) dX2_isFoundByTwo_152 (fun H locs G => ?_)
                        obtain ⟨X152, hX152⟩ : ∃ Z : xS, Z = mU X66x 46 kc (X66x 7 kc) := ⟨_, rfl⟩
                        have G : xG D ad sa cc tt zA zs.heap H locs X152 := by rw [hX152]; exact G
                        rw [lt_e hX152] at hF
                        have hqX152 : lP tt X X152 := by rw [hX152]; exact lP_put hqX66x (by omega) (hqX66x.2.2.2.2.2.2.2.1 kc (by omega))
                        refine lv_iinc (v := nI (kc + 1)) (lv' := [(4, .int (nI (kc + 1))), (0, .ref (ad 42)), (1, .int v), (2, .int (nI ka)), (3, .int (nI kb)), (5, .int (nI kdx))]) hx hb dX2_isFoundByTwo_153 hl (k := 4) rfl (nt_add rfl (show (1 : Int32) = nI 1 from rfl)) (by decide) rfl (fun ls hl => ?_)
                        refine lv_goto (tgt := 38) hx hb dX2_isFoundByTwo_156 (by decide) ?_
                        exact ih38 (kc + 1) X152 ⟨by omega, by omega, hqX152⟩ hF _ _ _ (lv_sub hl [1, 2, 3, 4, 0] rfl) G
                      have hloop66 : ∀ (f66 : Nat) (kd : Nat) (X66 : xS), (kd ≤ 10 ∧ 10 < kd + f66 ∧ lP tt X X66) → rM = x2_isFoundByTwo_L66 tt v ka kc K66 f66 kd X66 → ∀ (H : Heap) (locs : List Loc) (ls : Array Slot), lv_has ls 6 [(0, .ref (ad 42)), (1, .int v), (2, .int (nI ka)), (3, .int (nI kb)), (4, .int (nI kc)), (5, .int (nI kd))] → xG D ad sa cc tt zA zs.heap H locs X66 → W zp zl ze ({ frames := 5, cells := 0, slots := 0, locals := 119 } : Room) zs zm zg zb zt zc H locs 0 0 zQ (F0 zm 66 ls []) := by
                        intro f66
                        induction f66 with
                        | zero =>
                          intro kd X66 hI hL66 H locs ls hl G
                          exact absurd hI.2.1 (by omega)
                        | succ f66 ih66 =>
                          intro kd X66 hI hL66 H locs ls hl G
                          rw [x2_isFoundByTwo_L66_s] at hL66
                          have hqX66 := hI.2.2
                          have hE := hqX66.2.1
                          refine lv_iload hx hb dX2_isFoundByTwo_66 (lv_at hl 5 rfl) ?_
                          refine lv_aload_n hx hb dX2_isFoundByTwo_68 rfl (lv_at hl 0 rfl) ?_
                          refine xr_get C G (show kL 42 by decide).2 (xL_c (show kL 42 by decide).1) rfl (fun _ h => List.mem_cons_of_mem _ (List.mem_append_left _ (List.mem_append_left _ (List.mem_append_right _ h)))) 5 (by decide) (show Cond.fieldLink RX2 25 "WheatCounts$Leading" "estate" "LWheatCounts$Estate;" ∈ _ by decide +kernel) rfl dX2_isFoundByTwo_69 ?_
                          rw [rT_1 hE]
                          refine xr_get C G (show kE 1 by decide).2 (xE_c (show kE 1 by decide).1) rfl (fun _ h => List.mem_cons_of_mem _ (List.mem_append_left _ (List.mem_append_right _ h))) 0 (by decide) (show Cond.fieldLink RX2 96 "WheatCounts$Estate" "cells" "I" ∈ _ by decide +kernel) rfl dX2_isFoundByTwo_72 ?_
                          refine lv_icmp_ge (tgt := 136) hx hb dX2_isFoundByTwo_75 (by decide) (fun c75 => ?_) (fun c75 => ?_)
                          · rw [if_pos c75] at hL66
                            exact hrest66 kd X66 hL66 hqX66 _ _ _ (lv_sub hl [0, 1, 2, 3, 4, 5] rfl) G
                          · rw [if_neg c75] at hL66
                            have hd9 := Nat.lt_of_lt_of_le (lp_lt hqX66.2.2.2.2.2.1.1 c75 (by have := hqX66.2.2.2.2.2.1.2.2; omega) (by omega)) hqX66.2.2.2.2.2.1.2.2
                            refine lv_aload_n hx hb dX2_isFoundByTwo_78 rfl (lv_at hl 0 rfl) ?_
                            refine xr_get C G (show kL 42 by decide).2 (xL_c (show kL 42 by decide).1) rfl (fun _ h => List.mem_cons_of_mem _ (List.mem_append_left _ (List.mem_append_left _ (List.mem_append_right _ h)))) 4 (by decide) (show Cond.fieldLink RX2 22 "WheatCounts$Leading" "places" "[I" ∈ _ by decide +kernel) rfl dX2_isFoundByTwo_79 ?_
                            refine lv_iload hx hb dX2_isFoundByTwo_82 (lv_at hl 4 rfl) ?_
                            refine lv_iload hx hb dX2_isFoundByTwo_84 (lv_at hl 5 rfl) ?_
                            refine xr_ast C G (show kI 46 8 by decide).2 (xI_c (show kI 46 8 by decide).1) kc rfl (by omega) (xI_lt (show kI 46 8 by decide)) dX2_isFoundByTwo_86 (fun H locs G => ?_)
                            obtain ⟨X86, hX86⟩ : ∃ Z : xS, Z = mU X66 46 kc (nI kd) := ⟨_, rfl⟩
                            have G : xG D ad sa cc tt zA zs.heap H locs X86 := by rw [hX86]; exact G
                            rw [lt_e hX86] at hL66
                            have hqX86 : lP tt X X86 := by rw [hX86]; exact lP_put hqX66 (by omega) ⟨by rw [vn_nI (by omega)], by rw [vn_nI (by omega)]; omega⟩
                            have hE := hqX86.2.1
                            refine lv_iload hx hb dX2_isFoundByTwo_87 (lv_at hl 5 rfl) ?_
                            refine lv_aload_n hx hb dX2_isFoundByTwo_89 rfl (lv_at hl 0 rfl) ?_
                            refine xr_get C G (show kL 42 by decide).2 (xL_c (show kL 42 by decide).1) rfl (fun _ h => List.mem_cons_of_mem _ (List.mem_append_left _ (List.mem_append_left _ (List.mem_append_right _ h)))) 5 (by decide) (show Cond.fieldLink RX2 25 "WheatCounts$Leading" "estate" "LWheatCounts$Estate;" ∈ _ by decide +kernel) rfl dX2_isFoundByTwo_90 ?_
                            rw [rT_1 hE]
                            refine xr_get C G (show kE 1 by decide).2 (xE_c (show kE 1 by decide).1) rfl (fun _ h => List.mem_cons_of_mem _ (List.mem_append_left _ (List.mem_append_right _ h))) 12 (by decide) (show Cond.fieldLink RX2 54 "WheatCounts$Estate" "at" "[I" ∈ _ by decide +kernel) rfl dX2_isFoundByTwo_93 ?_
                            refine lv_iload hx hb dX2_isFoundByTwo_96 (lv_at hl 4 rfl) ?_
                            refine xr_ald C G (show kI 7 8 by decide).2 (xI_c (show kI 7 8 by decide).1 _) kc rfl (by omega) (xI_lt (show kI 7 8 by decide)) dX2_isFoundByTwo_98 ?_
                            refine lv_icmp_eq (tgt := 130) hx hb dX2_isFoundByTwo_99 (by decide) (fun c99 => ?_) (fun c99 => ?_)
                            · rw [if_pos c99] at hL66
                              refine lv_iinc (v := nI (kd + 1)) (lv' := [(5, .int (nI (kd + 1))), (0, .ref (ad 42)), (1, .int v), (2, .int (nI ka)), (3, .int (nI kb)), (4, .int (nI kc))]) hx hb dX2_isFoundByTwo_130 hl (k := 5) rfl (nt_add rfl (show (1 : Int32) = nI 1 from rfl)) (by decide) rfl (fun ls hl => ?_)
                              refine lv_goto (tgt := 66) hx hb dX2_isFoundByTwo_133 (by decide) ?_
                              exact ih66 (kd + 1) X86 ⟨by omega, by omega, hqX86⟩ hL66 _ _ _ (lv_sub hl [1, 2, 3, 4, 5, 0] rfl) G
                            · rw [if_neg c99] at hL66
                              refine lv_aload_n hx hb dX2_isFoundByTwo_102 rfl (lv_at hl 0 rfl) ?_
                              refine xr_Vi C hA G (kx2_harvest zl D ad sa cc tt X86 hqX86.2) (show kL 42 by decide).2 (xL_c (show kL 42 by decide).1) rfl (cwV 0 C.2.2.2.2.1 gX2_isFoundByTwo_X2_harvest rfl rfl rfl (by decide +kernel) ⟨Nat.le_of_ble_eq_true rfl, Nat.le_of_ble_eq_true rfl⟩) rfl hl.1 rfl (Nat.le_of_ble_eq_true rfl) dX2_isFoundByTwo_103 ⟨Nat.le_refl _, Nat.le_refl _⟩ (fun H locs G => ?_)
                              refine lv_iload_n hx hb dX2_isFoundByTwo_106 rfl (lv_at hl 1 rfl) ?_
                              refine lv_icmp_lt (tgt := 130) hx hb dX2_isFoundByTwo_107 (by decide) (fun c107 => ?_) (fun c107 => ?_)
                              · rw [if_pos c107] at hL66
                                refine lv_iinc (v := nI (kd + 1)) (lv' := [(5, .int (nI (kd + 1))), (0, .ref (ad 42)), (1, .int v), (2, .int (nI ka)), (3, .int (nI kb)), (4, .int (nI kc))]) hx hb dX2_isFoundByTwo_130 hl (k := 5) rfl (nt_add rfl (show (1 : Int32) = nI 1 from rfl)) (by decide) rfl (fun ls hl => ?_)
                                refine lv_goto (tgt := 66) hx hb dX2_isFoundByTwo_133 (by decide) ?_
                                exact ih66 (kd + 1) X86 ⟨by omega, by omega, hqX86⟩ hL66 _ _ _ (lv_sub hl [1, 2, 3, 4, 5, 0] rfl) G
                              · rw [if_neg c107] at hL66
                                refine lv_aload_n hx hb dX2_isFoundByTwo_110 rfl (lv_at hl 0 rfl) ?_
                                refine lv_iconst (v := 0) hx hb dX2_isFoundByTwo_111 (by decide) ?_
                                refine lv_iload_n hx hb dX2_isFoundByTwo_112 rfl (lv_at hl 2 rfl) ?_
                                refine xr_Vv C hA G (kx2_putDown zl D ad sa cc tt X86 0 ka (by omega) (by omega)) (show kL 42 by decide).2 (xL_c (show kL 42 by decide).1) rfl (cwV 2 C.2.2.2.2.1 gX2_isFoundByTwo_X2_putDown rfl rfl rfl (by decide +kernel) ⟨Nat.le_of_ble_eq_true rfl, Nat.le_of_ble_eq_true rfl⟩) rfl hl.1 rfl (Nat.le_of_ble_eq_true rfl) dX2_isFoundByTwo_113 ⟨Nat.le_refl _, Nat.le_refl _⟩ (fun H locs G => ?_)
                                obtain ⟨X113, hX113⟩ : ∃ Z : xS, Z = x2_putDown X86 0 ka := ⟨_, rfl⟩
                                have G : xG D ad sa cc tt zA zs.heap H locs X113 := by rw [hX113]; exact G
                                rw [lt_e hX113] at hL66
                                refine lv_aload_n hx hb dX2_isFoundByTwo_116 rfl (lv_at hl 0 rfl) ?_
                                refine lv_iconst (v := 2) hx hb dX2_isFoundByTwo_117 (by decide) ?_
                                refine lv_iload hx hb dX2_isFoundByTwo_118 (lv_at hl 4 rfl) ?_
                                refine xr_Vv C hA G (kx2_putDown zl D ad sa cc tt X113 2 kc (by omega) (by omega)) (show kL 42 by decide).2 (xL_c (show kL 42 by decide).1) rfl (cwV 2 C.2.2.2.2.1 gX2_isFoundByTwo_X2_putDown rfl rfl rfl (by decide +kernel) ⟨Nat.le_of_ble_eq_true rfl, Nat.le_of_ble_eq_true rfl⟩) rfl hl.1 rfl (Nat.le_of_ble_eq_true rfl) dX2_isFoundByTwo_120 ⟨Nat.le_refl _, Nat.le_refl _⟩ (fun H locs G => ?_)
                                obtain ⟨X120, hX120⟩ : ∃ Z : xS, Z = x2_putDown X113 2 kc := ⟨_, rfl⟩
                                have G : xG D ad sa cc tt zA zs.heap H locs X120 := by rw [hX120]; exact G
                                rw [lt_e hX120] at hL66
                                refine lv_aload_n hx hb dX2_isFoundByTwo_123 rfl (lv_at hl 0 rfl) ?_
                                refine lv_iconst (v := 2) hx hb dX2_isFoundByTwo_124 (by decide) ?_
                                refine xr_put C G (show kL 42 by decide).2 (xL_c (show kL 42 by decide).1) rfl (fun _ h => List.mem_cons_of_mem _ (List.mem_append_left _ (List.mem_append_left _ (List.mem_append_right _ h)))) tyX2 tyX2_ok nmX2 1 (by decide) rfl (show Cond.fieldLink RX2 46 "WheatCounts$Leading" "moved" "I" ∈ _ by decide +kernel) (ty := .int) (by decide +kernel) rfl rfl (Nat.le_of_ble_eq_true rfl) (upd (X120 42) 1 2) (xL_c (show kL 42 by decide).1) dX2_isFoundByTwo_125 (fun H locs G => ?_)
                                obtain ⟨X125, hX125⟩ : ∃ Z : xS, Z = mU X120 42 1 2 := ⟨_, rfl⟩
                                have G : xG D ad sa cc tt zA zs.heap H locs X125 := by rw [hX125]; exact G
                                rw [lt_e hX125] at hL66
                                refine lv_iconst (v := 1) hx hb dX2_isFoundByTwo_128 (by decide) ?_
                                exact hret _ _ _ _ _ _ hL66 G (Or.inr rfl) dX2_isFoundByTwo_129
                      exact hloop66 11 0 X38 ⟨by omega, by omega, hqX38⟩ hL38 _ _ _ (lv_sub hl [1, 2, 3, 4, 5, 0] rfl) G
              exact hloop38 9 (ka + 1) X32 ⟨by omega, by omega, hqX32⟩ hL15 _ _ _ (lv_sub hl [1, 2, 3, 4, 0] rfl) G
        exact hloop15 11 0 X2 ⟨by omega, by omega, hqX2⟩ hL2 _ _ _ (lv_sub hl [1, 2, 3, 0] rfl) G
  exact hloop2 9 0 X ⟨by omega, by omega, hqX⟩ hF _ _ _ (lv_sub hl [1, 2, 0] rfl) G
theorem lR_lw {tt : tT} {Y : xS} {q : Nat} (h : lR tt Y) : lR tt (x2_lookUpWalks tt Y q) := lR_of (fun k _ => by rw [lw_row _ _ _ _ (by decide) (by decide)]) (fun j hj => by rw [lw_row _ _ _ _ (by decide) (by decide)]; exact h.2.2.2.1 j hj) (lw_row _ _ _ _ (by decide) (by decide)) (lw_row _ _ _ _ (by decide) (by decide)) h
theorem ld_L36 {tt : tT} {X Y : xS} (h : lD tt X Y) (k : Nat) (hk : k ≤ 8) : lD tt X (x2_isFound_L36 tt Y k) := by
  induction k with
  | zero => exact h
  | succ k ih =>
    have ih := ih (by omega)
    rw [x2_isFound_L36_s]
    simp only [lt_i]
    refine ⟨fun p h2 h3 h4 h5 h6 => ?_, lR_lw (lP_at (X := x2_isFound_L36 tt Y k) ⟨fun _ _ => rfl, ih.2⟩ (by omega)).2⟩
    rw [lw_row _ _ _ _ h4 h5, mU_row h6]
    exact ih.1 p h2 h3 h4 h5 h6
set_option maxRecDepth 100000 in
set_option maxHeartbeats 4000000 in
theorem kx2_isFound (zl : Launch) (D : va_G) (ad sa : Nat → Nat) (cc : cT) (tt : tT) (X : xS) (c : Nat) (v : Int32) (nn : Nat) (hR : eR tt X 1) (hc10 : c < 10) (hn3 : nn ≤ 3) (hpl : ∀ q, q < 8 → X 46 q = nI (vn (X 46 q)) ∧ vn (X 46 q) < 10) : xM zl D ad sa cc tt yX2_isFound wsX2_isFound ({ frames := 6, cells := 0, slots := 0, locals := 144 } : Room) [.ref (ad 42), .ref (ad 1), .int (nI c), .int v, .int (nI nn)] X (x2_isFound tt X c v nn) := by
  refine xM_ofZ (code := cX2_isFound) (nL := 6) (own := RX2) (by decide) rfl rfl (Nat.le_of_ble_eq_true rfl) ?_
  intro zp ze zs zm zg zb zt zc zA zQ C hA hret H locs ls hl G
  have hx := C.1
  have hb := C.2.1
  have hl : lv_has ls 6 [(0, .ref (ad 42)), (1, .ref (ad 1)), (2, .int (nI c)), (3, .int v), (4, .int (nI nn))] := hl
  obtain ⟨rM, hF⟩ : ∃ Z : Int32 × xS, Z = x2_isFound tt X c v nn := ⟨_, rfl⟩
  rw [← hF] at hret
  unfold x2_isFound at hF
  have hc := hR.1
  have hp := hR.2.1
  have ha := hR.2.2.1
  have ht := hR.2.2.2
  have hc2 := hc.2.1
  have hc3 := hc.2.2
  have hp2 := hp.2
  refine lv_aload_n hx hb dX2_isFound_0 rfl (lv_at hl 0 rfl) ?_
  refine lv_aload_n hx hb dX2_isFound_1 rfl (lv_at hl 1 rfl) ?_
  refine xr_put C G (show kL 42 by decide).2 (xL_c (show kL 42 by decide).1) rfl (fun _ h => List.mem_cons_of_mem _ (List.mem_append_left _ (List.mem_append_left _ (List.mem_append_right _ h)))) tyX2 tyX2_ok nmX2 5 (by decide) rfl (show Cond.fieldLink RX2 25 "WheatCounts$Leading" "estate" "LWheatCounts$Estate;" ∈ _ by decide +kernel) (ty := .object RX0) (by decide +kernel) rfl rfl (Nat.le_of_ble_eq_true rfl) (upd (X 42) 5 1) (xL_c (show kL 42 by decide).1) dX2_isFound_2 (fun H locs G => ?_)
  obtain ⟨X2, hX2⟩ : ∃ Z : xS, Z = mU X 42 5 1 := ⟨_, rfl⟩
  have G : xG D ad sa cc tt zA zs.heap H locs X2 := by rw [hX2]; exact G
  rw [lt_e hX2] at hF
  refine lv_aload_n hx hb dX2_isFound_5 rfl (lv_at hl 0 rfl) ?_
  refine lv_iload_n hx hb dX2_isFound_6 rfl (lv_at hl 2 rfl) ?_
  refine xr_put C G (show kL 42 by decide).2 (xL_c (show kL 42 by decide).1) rfl (fun _ h => List.mem_cons_of_mem _ (List.mem_append_left _ (List.mem_append_left _ (List.mem_append_right _ h)))) tyX2 tyX2_ok nmX2 6 (by decide) rfl (show Cond.fieldLink RX2 29 "WheatCounts$Leading" "cell" "I" ∈ _ by decide +kernel) (ty := .int) (by decide +kernel) rfl rfl (Nat.le_of_ble_eq_true rfl) (upd (X2 42) 6 (nI c)) (xL_c (show kL 42 by decide).1) dX2_isFound_7 (fun H locs G => ?_)
  obtain ⟨X7, hX7⟩ : ∃ Z : xS, Z = mU X2 42 6 (nI c) := ⟨_, rfl⟩
  have G : xG D ad sa cc tt zA zs.heap H locs X7 := by rw [hX7]; exact G
  rw [lt_e hX7] at hF
  refine lv_aload_n hx hb dX2_isFound_10 rfl (lv_at hl 0 rfl) ?_
  refine lv_iload hx hb dX2_isFound_11 (lv_at hl 4 rfl) ?_
  refine lv_iconst (v := 3) hx hb dX2_isFound_13 (by decide) ?_
  refine xr_psn C hA G (ks_X8_held zl (nI nn) 3) ⟨va_cnB 2 C.2.2.2.2.1 gX2_isFound_X8_held_n33 rfl rfl rfl (C.2.2.2.2.2.2.1 _ (List.mem_of_getElem? (i := 6) rfl)) (C.2.2.2.2.1 (.initialized RX8) (by decide +kernel)) (by decide +kernel) ⟨Nat.le_of_ble_eq_true rfl, Nat.le_of_ble_eq_true rfl⟩, C.2.2.2.2.1 (.static yX8_held) (by decide +kernel), trivial⟩ rfl hl.1 rfl (Nat.le_of_ble_eq_true rfl) dX2_isFound_14 ⟨Nat.le_refl _, Nat.le_refl _⟩ (fun H locs G => ?_)
  refine xr_put C G (show kL 42 by decide).2 (xL_c (show kL 42 by decide).1) rfl (fun _ h => List.mem_cons_of_mem _ (List.mem_append_left _ (List.mem_append_left _ (List.mem_append_right _ h)))) tyX2 tyX2_ok nmX2 7 (by decide) rfl (show Cond.fieldLink RX2 37 "WheatCounts$Leading" "span" "I" ∈ _ by decide +kernel) (ty := .int) (by decide +kernel) rfl rfl (Nat.le_of_ble_eq_true rfl) (upd (X7 42) 7 (p8_held (nI nn) 3)) (xL_c (show kL 42 by decide).1) dX2_isFound_17 (fun H locs G => ?_)
  obtain ⟨X17, hX17⟩ : ∃ Z : xS, Z = mU X7 42 7 (p8_held (nI nn) 3) := ⟨_, rfl⟩
  have G : xG D ad sa cc tt zA zs.heap H locs X17 := by rw [hX17]; exact G
  rw [lt_e hX17] at hF
  refine lv_aload_n hx hb dX2_isFound_20 rfl (lv_at hl 0 rfl) ?_
  refine xr_get C G (show kL 42 by decide).2 (xL_c (show kL 42 by decide).1) rfl (fun _ h => List.mem_cons_of_mem _ (List.mem_append_left _ (List.mem_append_left _ (List.mem_append_right _ h)))) 0 (by decide) (show Cond.fieldLink RX2 11 "WheatCounts$Leading" "row" "[I" ∈ _ by decide +kernel) rfl dX2_isFound_21 ?_
  refine lv_iconst (v := -1) hx hb dX2_isFound_24 (by decide) ?_
  refine xr_Sv C hA G (kx7_fill_53178 zl D ad sa cc tt X17 43 4 (-1) (show kI 43 4 by decide)) (va_cwS 2 C.2.2.2.2.1 gX2_isFound_J7_fill_53178 rfl rfl rfl (by decide +kernel) ⟨Nat.le_of_ble_eq_true rfl, Nat.le_of_ble_eq_true rfl⟩) rfl hl.1 rfl (Nat.le_of_ble_eq_true rfl) dX2_isFound_25 ⟨Nat.le_refl _, Nat.le_refl _⟩ (fun H locs G => ?_)
  obtain ⟨X25, hX25⟩ : ∃ Z : xS, Z = x7_fill_53178 X17 43 4 (-1) := ⟨_, rfl⟩
  have G : xG D ad sa cc tt zA zs.heap H locs X25 := by rw [hX25]; exact G
  rw [lt_e hX25] at hF
  refine lv_aload_n hx hb dX2_isFound_28 rfl (lv_at hl 0 rfl) ?_
  refine lv_iconst (v := 0) hx hb dX2_isFound_29 (by decide) ?_
  refine xr_put C G (show kL 42 by decide).2 (xL_c (show kL 42 by decide).1) rfl (fun _ h => List.mem_cons_of_mem _ (List.mem_append_left _ (List.mem_append_left _ (List.mem_append_right _ h)))) tyX2 tyX2_ok nmX2 1 (by decide) rfl (show Cond.fieldLink RX2 46 "WheatCounts$Leading" "moved" "I" ∈ _ by decide +kernel) (ty := .int) (by decide +kernel) rfl rfl (Nat.le_of_ble_eq_true rfl) (upd (X25 42) 1 0) (xL_c (show kL 42 by decide).1) dX2_isFound_30 (fun H locs G => ?_)
  obtain ⟨X30, hX30⟩ : ∃ Z : xS, Z = mU X25 42 1 0 := ⟨_, rfl⟩
  have G : xG D ad sa cc tt zA zs.heap H locs X30 := by rw [hX30]; exact G
  rw [lt_e hX30] at hF
  have hld : lD tt X X30 := by rw [hX30, hX25, hX17, hX7, hX2]; exact ld_0 hR hc10 hn3 hpl
  refine lv_iconst (v := 0) hx hb dX2_isFound_33 (by decide) ?_
  refine lv_istore (lv' := [(5, .int 0), (0, .ref (ad 42)), (1, .ref (ad 1)), (2, .int (nI c)), (3, .int v), (4, .int (nI nn))]) hx hb dX2_isFound_34 hl (by decide) rfl (fun ls hl => ?_)
  obtain ⟨X36x, hX36⟩ : ∃ (X36x : xS), X36x = x2_isFound_L36 tt X30 (vn (X 1 9)) := ⟨_, rfl⟩
  rw [lt_e hX36] at hF
  have hl36x : lD tt X X36x := by rw [hX36]; exact ld_L36 hld _ (by omega)
  have hrest36 : ∀ (H : Heap) (locs : List Loc) (ls : Array Slot), lv_has ls 6 [(0, .ref (ad 42)), (1, .ref (ad 1)), (2, .int (nI c)), (3, .int v), (4, .int (nI nn)), (5, .int (nI (vn (X 1 9))))] → xG D ad sa cc tt zA zs.heap H locs X36x → W zp zl ze ({ frames := 6, cells := 0, slots := 0, locals := 144 } : Room) zs zm zg zb zt zc H locs 0 0 zQ (F0 zm 77 ls []) := by
    intro H locs ls hl G
    refine lv_aload_n hx hb dX2_isFound_77 rfl (lv_at hl 0 rfl) ?_
    refine xr_Vi C hA G (kx2_harvest zl D ad sa cc tt X36x hl36x.2) (show kL 42 by decide).2 (xL_c (show kL 42 by decide).1) rfl (cwV 0 C.2.2.2.2.1 gX2_isFound_X2_harvest rfl rfl rfl (by decide +kernel) ⟨Nat.le_of_ble_eq_true rfl, Nat.le_of_ble_eq_true rfl⟩) rfl hl.1 rfl (Nat.le_of_ble_eq_true rfl) dX2_isFound_78 ⟨Nat.le_refl _, Nat.le_refl _⟩ (fun H locs G => ?_)
    refine lv_iload_n hx hb dX2_isFound_81 rfl (lv_at hl 3 rfl) ?_
    refine lv_icmp_lt (tgt := 87) hx hb dX2_isFound_82 (by decide) (fun c82 => ?_) (fun c82 => ?_)
    · rw [if_pos c82] at hF
      refine lv_aload_n hx hb dX2_isFound_87 rfl (lv_at hl 0 rfl) ?_
      refine xr_Vi C hA G (kx2_mostHarvest zl D ad sa cc tt X36x hl36x.2) (show kL 42 by decide).2 (xL_c (show kL 42 by decide).1) rfl (cwV 0 C.2.2.2.2.1 gX2_isFound_X2_mostHarvest rfl rfl rfl (by decide +kernel) ⟨Nat.le_of_ble_eq_true rfl, Nat.le_of_ble_eq_true rfl⟩) rfl hl.1 rfl (Nat.le_of_ble_eq_true rfl) dX2_isFound_88 ⟨Nat.le_refl _, Nat.le_refl _⟩ (fun H locs G => ?_)
      refine lv_iload_n hx hb dX2_isFound_91 rfl (lv_at hl 3 rfl) ?_
      refine lv_icmp_lt (tgt := 115) hx hb dX2_isFound_92 (by decide) (fun c92 => ?_) (fun c92 => ?_)
      · rw [if_pos c92] at hF
        refine lv_iconst (v := 0) hx hb dX2_isFound_115 (by decide) ?_
        exact hret _ _ _ _ _ _ hF G (Or.inl rfl) dX2_isFound_116
      · rw [if_neg c92] at hF
        refine lv_aload_n hx hb dX2_isFound_95 rfl (lv_at hl 0 rfl) ?_
        refine lv_iload_n hx hb dX2_isFound_96 rfl (lv_at hl 3 rfl) ?_
        obtain ⟨x97, X97, hx97⟩ : ∃ (Z : Int32) (Y : xS), (Z, Y) = x2_isFoundByOne tt X36x v := ⟨_, _, rfl⟩
        refine xr_Vi (r0 := x97) (X2 := X97) C hA G (by rw [hx97]; exact (kx2_isFoundByOne zl D ad sa cc tt X36x v hl36x.2)) (show kL 42 by decide).2 (xL_c (show kL 42 by decide).1) rfl (cwV 1 C.2.2.2.2.1 gX2_isFound_X2_isFoundByOne rfl rfl rfl (by decide +kernel) ⟨Nat.le_of_ble_eq_true rfl, Nat.le_of_ble_eq_true rfl⟩) rfl hl.1 rfl (Nat.le_of_ble_eq_true rfl) dX2_isFound_97 ⟨Nat.le_refl _, Nat.le_refl _⟩ (fun H locs G => ?_)
        rw [lt2_e hx97] at hF
        have hl97 := f1_01 hx97 hl36x.2
        refine lv_if_ne (tgt := 111) hx hb dX2_isFound_100 (by decide) (fun c100 => ?_) (fun c100 => ?_)
        · rw [if_neg c100] at hF
          refine lv_iconst (v := 1) hx hb dX2_isFound_111 (by decide) ?_
          refine lv_goto (tgt := 116) hx hb dX2_isFound_112 (by decide) ?_
          exact hret _ _ _ _ _ _ hF G (Or.inr rfl) dX2_isFound_116
        · rw [if_pos c100] at hF
          refine lv_aload_n hx hb dX2_isFound_103 rfl (lv_at hl 0 rfl) ?_
          refine lv_iload_n hx hb dX2_isFound_104 rfl (lv_at hl 3 rfl) ?_
          obtain ⟨x105, X105, hx105⟩ : ∃ (Z : Int32) (Y : xS), (Z, Y) = x2_isFoundByTwo tt X97 v := ⟨_, _, rfl⟩
          refine xr_Vi (r0 := x105) (X2 := X105) C hA G (by rw [hx105]; exact (kx2_isFoundByTwo zl D ad sa cc tt X97 v hl97)) (show kL 42 by decide).2 (xL_c (show kL 42 by decide).1) rfl (cwV 1 C.2.2.2.2.1 gX2_isFound_X2_isFoundByTwo rfl rfl rfl (by decide +kernel) ⟨Nat.le_of_ble_eq_true rfl, Nat.le_of_ble_eq_true rfl⟩) rfl hl.1 rfl (Nat.le_of_ble_eq_true rfl) dX2_isFound_105 ⟨Nat.le_refl _, Nat.le_refl _⟩ (fun H locs G => ?_)
          rw [lt2_e hx105] at hF
          refine lv_if_eq (tgt := 115) hx hb dX2_isFound_108 (by decide) (fun c108 => ?_) (fun c108 => ?_)
          · rw [if_pos c108] at hF
            refine lv_iconst (v := 0) hx hb dX2_isFound_115 (by decide) ?_
            exact hret _ _ _ _ _ _ hF G (Or.inl rfl) dX2_isFound_116
          · rw [if_neg c108] at hF
            refine lv_iconst (v := 1) hx hb dX2_isFound_111 (by decide) ?_
            refine lv_goto (tgt := 116) hx hb dX2_isFound_112 (by decide) ?_
            exact hret _ _ _ _ _ _ hF G (Or.inr rfl) dX2_isFound_116
    · rw [if_neg c82] at hF
      refine lv_iconst (v := 1) hx hb dX2_isFound_85 (by decide) ?_
      exact hret _ _ _ _ _ _ hF G (Or.inr rfl) dX2_isFound_86
  have hloop36 : ∀ (zj k36 : Nat), zj + k36 = (vn (X 1 9)) → ∀ (X36 : xS), X36 = x2_isFound_L36 tt X30 k36 → ∀ (H : Heap) (locs : List Loc) (ls : Array Slot), lv_has ls 6 [(0, .ref (ad 42)), (1, .ref (ad 1)), (2, .int (nI c)), (3, .int v), (4, .int (nI nn)), (5, .int (nI k36))] → xG D ad sa cc tt zA zs.heap H locs X36 → W zp zl ze ({ frames := 6, cells := 0, slots := 0, locals := 144 } : Room) zs zm zg zb zt zc H locs 0 0 zQ (F0 zm 36 ls []) := by
    intro zj
    induction zj with
    | zero =>
      intro k36 hk X36 hL H locs ls hl G
      have hk : k36 = (vn (X 1 9)) := by omega
      rw [hk] at hL hl
      have hl36 : lD tt X X36 := by rw [hL]; exact ld_L36 hld _ (by omega)
      have hE := hl36.2.1
      refine lv_iload hx hb dX2_isFound_36 (lv_at hl 5 rfl) ?_
      refine lv_aload_n hx hb dX2_isFound_38 rfl (lv_at hl 0 rfl) ?_
      refine xr_get C G (show kL 42 by decide).2 (xL_c (show kL 42 by decide).1) rfl (fun _ h => List.mem_cons_of_mem _ (List.mem_append_left _ (List.mem_append_left _ (List.mem_append_right _ h)))) 5 (by decide) (show Cond.fieldLink RX2 25 "WheatCounts$Leading" "estate" "LWheatCounts$Estate;" ∈ _ by decide +kernel) rfl dX2_isFound_39 ?_
      rw [rT_1 hE]
      refine xr_get C G (show kE 1 by decide).2 (xE_c (show kE 1 by decide).1) rfl (fun _ h => List.mem_cons_of_mem _ (List.mem_append_left _ (List.mem_append_right _ h))) 9 (by decide) (show Cond.fieldLink RX2 49 "WheatCounts$Estate" "people" "I" ∈ _ by decide +kernel) rfl dX2_isFound_42 ?_
      refine lv_icmp_ge (tgt := 77) hx hb dX2_isFound_45 (by decide) (fun c45 => ?_) (fun c45 => absurd (lp_out (n := (vn (X 1 9))) (by rw [hl36.1 1 (by decide) (by decide) (by decide) (by decide) (by decide)]; exact hp.1)) c45)
      obtain rfl := hL.trans hX36.symm
      exact hrest36 _ _ _ (lv_sub hl [0, 1, 2, 3, 4, 5] rfl) G
    | succ zj ih =>
      intro k36 hk X36 hL H locs ls hl G
      have hkn : k36 < (vn (X 1 9)) := by omega
      obtain ⟨X36s, hS0⟩ : ∃ (X36s : xS), X36s = x2_isFound_L36 tt X30 (k36 + 1) := ⟨_, rfl⟩
      have hS := hS0
      rw [x2_isFound_L36_s, lt_e hL] at hS
      have hl36 : lD tt X X36 := by rw [hL]; exact ld_L36 hld _ (by omega)
      have hE := hl36.2.1
      have hk8 : k36 < 8 := by omega
      refine lv_iload hx hb dX2_isFound_36 (lv_at hl 5 rfl) ?_
      refine lv_aload_n hx hb dX2_isFound_38 rfl (lv_at hl 0 rfl) ?_
      refine xr_get C G (show kL 42 by decide).2 (xL_c (show kL 42 by decide).1) rfl (fun _ h => List.mem_cons_of_mem _ (List.mem_append_left _ (List.mem_append_left _ (List.mem_append_right _ h)))) 5 (by decide) (show Cond.fieldLink RX2 25 "WheatCounts$Leading" "estate" "LWheatCounts$Estate;" ∈ _ by decide +kernel) rfl dX2_isFound_39 ?_
      rw [rT_1 hE]
      refine xr_get C G (show kE 1 by decide).2 (xE_c (show kE 1 by decide).1) rfl (fun _ h => List.mem_cons_of_mem _ (List.mem_append_left _ (List.mem_append_right _ h))) 9 (by decide) (show Cond.fieldLink RX2 49 "WheatCounts$Estate" "people" "I" ∈ _ by decide +kernel) rfl dX2_isFound_42 ?_
      refine lv_icmp_ge (tgt := 77) hx hb dX2_isFound_45 (by decide) (fun c45 => absurd c45 (lp_in (n := (vn (X 1 9))) (by rw [hl36.1 1 (by decide) (by decide) (by decide) (by decide) (by decide)]; exact hp.1) hkn (by omega))) (fun c45 => ?_)
      refine lv_aload_n hx hb dX2_isFound_48 rfl (lv_at hl 0 rfl) ?_
      refine xr_get C G (show kL 42 by decide).2 (xL_c (show kL 42 by decide).1) rfl (fun _ h => List.mem_cons_of_mem _ (List.mem_append_left _ (List.mem_append_left _ (List.mem_append_right _ h)))) 4 (by decide) (show Cond.fieldLink RX2 22 "WheatCounts$Leading" "places" "[I" ∈ _ by decide +kernel) rfl dX2_isFound_49 ?_
      refine lv_iload hx hb dX2_isFound_52 (lv_at hl 5 rfl) ?_
      refine lv_aload_n hx hb dX2_isFound_54 rfl (lv_at hl 0 rfl) ?_
      refine xr_get C G (show kL 42 by decide).2 (xL_c (show kL 42 by decide).1) rfl (fun _ h => List.mem_cons_of_mem _ (List.mem_append_left _ (List.mem_append_left _ (List.mem_append_right _ h)))) 5 (by decide) (show Cond.fieldLink RX2 25 "WheatCounts$Leading" "estate" "LWheatCounts$Estate;" ∈ _ by decide +kernel) rfl dX2_isFound_55 ?_
      rw [rT_1 hE]
      refine xr_get C G (show kE 1 by decide).2 (xE_c (show kE 1 by decide).1) rfl (fun _ h => List.mem_cons_of_mem _ (List.mem_append_left _ (List.mem_append_right _ h))) 12 (by decide) (show Cond.fieldLink RX2 54 "WheatCounts$Estate" "at" "[I" ∈ _ by decide +kernel) rfl dX2_isFound_58 ?_
      refine lv_iload hx hb dX2_isFound_61 (lv_at hl 5 rfl) ?_
      refine xr_ald C G (show kI 7 8 by decide).2 (xI_c (show kI 7 8 by decide).1 _) k36 rfl (by omega) (xI_lt (show kI 7 8 by decide)) dX2_isFound_63 ?_
      refine xr_ast C G (show kI 46 8 by decide).2 (xI_c (show kI 46 8 by decide).1) k36 rfl (by omega) (xI_lt (show kI 46 8 by decide)) dX2_isFound_64 (fun H locs G => ?_)
      obtain ⟨X64, hX64⟩ : ∃ Z : xS, Z = mU X36 46 k36 (X36 7 k36) := ⟨_, rfl⟩
      have G : xG D ad sa cc tt zA zs.heap H locs X64 := by rw [hX64]; exact G
      rw [lt_e hX64] at hS
      have hl64 : lR tt X64 := by rw [hX64]; exact (lP_at (X := X36) ⟨fun _ _ => rfl, hl36.2⟩ hk8).2
      refine lv_aload_n hx hb dX2_isFound_65 rfl (lv_at hl 0 rfl) ?_
      refine lv_iload hx hb dX2_isFound_66 (lv_at hl 5 rfl) ?_
      refine xr_Vv C hA G (kx2_lookUpWalks zl D ad sa cc tt X64 k36 hl64 (by omega)) (show kL 42 by decide).2 (xL_c (show kL 42 by decide).1) rfl (cwV 1 C.2.2.2.2.1 gX2_isFound_X2_lookUpWalks rfl rfl rfl (by decide +kernel) ⟨Nat.le_of_ble_eq_true rfl, Nat.le_of_ble_eq_true rfl⟩) rfl hl.1 rfl (Nat.le_of_ble_eq_true rfl) dX2_isFound_68 ⟨Nat.le_refl _, Nat.le_refl _⟩ (fun H locs G => ?_)
      obtain ⟨X68, hX68⟩ : ∃ Z : xS, Z = x2_lookUpWalks tt X64 k36 := ⟨_, rfl⟩
      have G : xG D ad sa cc tt zA zs.heap H locs X68 := by rw [hX68]; exact G
      rw [lt_e hX68] at hS
      refine lv_iinc (v := nI (k36 + 1)) (lv' := [(5, .int (nI (k36 + 1))), (0, .ref (ad 42)), (1, .ref (ad 1)), (2, .int (nI c)), (3, .int v), (4, .int (nI nn))]) hx hb dX2_isFound_71 hl (k := 5) rfl (nt_add rfl (show (1 : Int32) = nI 1 from rfl)) (by decide) rfl (fun ls hl => ?_)
      refine lv_goto (tgt := 36) hx hb dX2_isFound_74 (by decide) ?_
      subst hS
      exact ih (k36 + 1) (by omega) _ hS0 _ _ _ (lv_sub hl [1, 2, 3, 4, 5, 0] rfl) G
  exact hloop36 _ 0 (Nat.add_zero _) _ rfl _ _ _ (lv_sub hl [1, 2, 3, 4, 5, 0] rfl) G

