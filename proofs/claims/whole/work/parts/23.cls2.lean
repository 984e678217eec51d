/-! the estate -/
set_option maxRecDepth 100000 in
set_option maxHeartbeats 4000000 in
theorem kx7_fill_53178 (zl : Launch) (D : va_G) (ad sa : Nat → Nat) (cc : cT) (tt : tT) (X : xS) (q : Nat) (n : Nat) (v : Int32) (hq : kI q n) : xMv zl D ad sa cc tt yJ7_fill_53178 wsJ7_fill_53178 ({ frames := 0, cells := 0, slots := 0, locals := 0 } : Room) [.ref (ad q), .int v] X (x7_fill_53178 X q n v) := by
  refine xMv_of (code := cJ7_fill_53178) (nL := 4) (own := RJ7) (by decide) rfl rfl (Nat.le_of_ble_eq_true rfl) ?_
  intro zp ze zs zm zg zb zt zc zA zQ C hA hret H locs ls hl G
  have hx := C.1
  have hb := C.2.1
  have hl : lv_has ls 4 [(0, .ref (ad q)), (1, .int v)] := hl
  obtain ⟨rM, hF⟩ : ∃ Z : xS, Z = x7_fill_53178 X q n v := ⟨_, rfl⟩
  rw [← hF] at hret
  unfold x7_fill_53178 at hF
  refine lv_iconst (v := 0) hx hb dJ7_fill_53178_0 (by decide) ?_
  refine lv_istore_n (lv' := [(2, .int 0), (0, .ref (ad q)), (1, .int v)]) hx hb dJ7_fill_53178_1 rfl hl (by decide) rfl (fun ls hl => ?_)
  refine lv_aload_n hx hb dJ7_fill_53178_2 rfl (lv_at hl 1 rfl) ?_
  refine xr_len C G hq.2 (xI_c hq.1 _) dJ7_fill_53178_3 ?_
  refine lv_istore_n (lv' := [(3, .int (nI n)), (2, .int 0), (0, .ref (ad q)), (1, .int v)]) hx hb dJ7_fill_53178_4 rfl hl (by decide) rfl (fun ls hl => ?_)
  obtain ⟨X5x, hX5⟩ : ∃ (X5x : xS), X5x = x7_fill_53178_L5 X q v n := ⟨_, rfl⟩
  rw [lt_e hX5] at hF
  have hrest5 : ∀ (H : Heap) (locs : List Loc) (ls : Array Slot), lv_has ls 4 [(0, .ref (ad q)), (1, .int v), (2, .int (nI n)), (3, .int (nI n))] → xG D ad sa cc tt zA zs.heap H locs X5x → W zp zl ze ({ frames := 0, cells := 0, slots := 0, locals := 0 } : Room) zs zm zg zb zt zc H locs 0 0 zQ (F0 zm 20 ls []) := by
    intro H locs ls hl G
    exact hret _ _ _ _ _ hF G dJ7_fill_53178_20
  have hloop5 : ∀ (zj k5 : Nat), zj + k5 = n → ∀ (X5 : xS), X5 = x7_fill_53178_L5 X q v k5 → ∀ (H : Heap) (locs : List Loc) (ls : Array Slot), lv_has ls 4 [(0, .ref (ad q)), (1, .int v), (2, .int (nI k5)), (3, .int (nI n))] → xG D ad sa cc tt zA zs.heap H locs X5 → W zp zl ze ({ frames := 0, cells := 0, slots := 0, locals := 0 } : Room) zs zm zg zb zt zc H locs 0 0 zQ (F0 zm 5 ls []) := by
    intro zj
    induction zj with
    | zero =>
      intro k5 hk X5 hL H locs ls hl G
      have hk : k5 = n := by omega
      rw [hk] at hL hl
      refine lv_iload_n hx hb dJ7_fill_53178_5 rfl (lv_at hl 2 rfl) ?_
      refine lv_iload_n hx hb dJ7_fill_53178_6 rfl (lv_at hl 3 rfl) ?_
      refine lv_icmp_ge (tgt := 20) hx hb dJ7_fill_53178_7 (by decide) (fun c7 => ?_) (fun c7 => absurd (lp_out (n := n) rfl) c7)
      obtain rfl := hL.trans hX5.symm
      exact hrest5 _ _ _ (lv_sub hl [0, 1, 2, 3] rfl) G
    | succ zj ih =>
      intro k5 hk X5 hL H locs ls hl G
      have hkn : k5 < n := by omega
      obtain ⟨X5s, hS0⟩ : ∃ (X5s : xS), X5s = x7_fill_53178_L5 X q v (k5 + 1) := ⟨_, rfl⟩
      have hS := hS0
      rw [x7_fill_53178_L5_s, lt_e hL] at hS
      refine lv_iload_n hx hb dJ7_fill_53178_5 rfl (lv_at hl 2 rfl) ?_
      refine lv_iload_n hx hb dJ7_fill_53178_6 rfl (lv_at hl 3 rfl) ?_
      refine lv_icmp_ge (tgt := 20) hx hb dJ7_fill_53178_7 (by decide) (fun c7 => absurd c7 (lp_in (n := n) rfl hkn (xI_lt hq))) (fun c7 => ?_)
      refine lv_aload_n hx hb dJ7_fill_53178_10 rfl (lv_at hl 0 rfl) ?_
      refine lv_iload_n hx hb dJ7_fill_53178_11 rfl (lv_at hl 2 rfl) ?_
      refine lv_iload_n hx hb dJ7_fill_53178_12 rfl (lv_at hl 1 rfl) ?_
      refine xr_ast C G hq.2 (xI_c hq.1) k5 rfl (by omega) (xI_lt hq) dJ7_fill_53178_13 (fun H locs G => ?_)
      obtain ⟨X13, hX13⟩ : ∃ Z : xS, Z = mU X5 q k5 v := ⟨_, rfl⟩
      have G : xG D ad sa cc tt zA zs.heap H locs X13 := by rw [hX13]; exact G
      rw [lt_e hX13] at hS
      refine lv_iinc (v := nI (k5 + 1)) (lv' := [(2, .int (nI (k5 + 1))), (0, .ref (ad q)), (1, .int v), (3, .int (nI n))]) hx hb dJ7_fill_53178_14 hl (k := 2) rfl (nt_add rfl (show (1 : Int32) = nI 1 from rfl)) (by decide) rfl (fun ls hl => ?_)
      refine lv_goto (tgt := 5) hx hb dJ7_fill_53178_17 (by decide) ?_
      subst hS
      exact ih (k5 + 1) (by omega) _ hS0 _ _ _ (lv_sub hl [1, 2, 0, 3] rfl) G
  exact hloop5 _ 0 (Nat.add_zero _) _ rfl _ _ _ (lv_sub hl [2, 3, 1, 0] rfl) G
set_option maxRecDepth 100000 in
set_option maxHeartbeats 4000000 in
theorem kx0_startAnew (zl : Launch) (D : va_G) (ad sa : Nat → Nat) (cc : cT) (tt : tT) (X : xS) (pT : Nat) (n : Int32) (hT : kE pT) : xMv zl D ad sa cc tt yX0_startAnew wsX0_startAnew ({ frames := 1, cells := 0, slots := 0, locals := 23 } : Room) [.ref (ad pT), .int n] X (x0_startAnew X pT n) := by
  refine xMv_of (code := cX0_startAnew) (nL := 2) (own := RX0) (by decide) rfl rfl (Nat.le_of_ble_eq_true rfl) ?_
  intro zp ze zs zm zg zb zt zc zA zQ C hA hret H locs ls hl G
  have hx := C.1
  have hb := C.2.1
  have hl : lv_has ls 2 [(0, .ref (ad pT)), (1, .int n)] := hl
  obtain ⟨rM, hF⟩ : ∃ Z : xS, Z = x0_startAnew X pT n := ⟨_, rfl⟩
  rw [← hF] at hret
  unfold x0_startAnew at hF
  refine lv_aload_n hx hb dX0_startAnew_0 rfl (lv_at hl 0 rfl) ?_
  refine lv_iload_n hx hb dX0_startAnew_1 rfl (lv_at hl 1 rfl) ?_
  refine xr_put C G hT.2 (xE_c hT.1) rfl (fun _ h => List.mem_cons_of_mem _ (List.mem_append_right _ h)) tyX0 tyX0_ok nmX0 0 (by decide) rfl (show Cond.fieldLink RX0 9 "WheatCounts$Estate" "cells" "I" ∈ _ by decide +kernel) (ty := .int) (by decide +kernel) rfl rfl (Nat.le_of_ble_eq_true rfl) (upd (X pT) 0 n) (xE_c hT.1) dX0_startAnew_2 (fun H locs G => ?_)
  obtain ⟨X2, hX2⟩ : ∃ Z : xS, Z = mU X pT 0 n := ⟨_, rfl⟩
  have G : xG D ad sa cc tt zA zs.heap H locs X2 := by rw [hX2]; exact G
  rw [lt_e hX2] at hF
  refine lv_aload_n hx hb dX0_startAnew_5 rfl (lv_at hl 0 rfl) ?_
  refine xr_get C G hT.2 (xE_c hT.1) rfl (fun _ h => List.mem_cons_of_mem _ (List.mem_append_right _ h)) 1 (by decide) (show Cond.fieldLink RX0 15 "WheatCounts$Estate" "grains" "[I" ∈ _ by decide +kernel) rfl dX0_startAnew_6 ?_
  refine lv_iconst (v := 0) hx hb dX0_startAnew_9 (by decide) ?_
  refine xr_Sv C hA G (kx7_fill_53178 zl D ad sa cc tt X2 (pT + 1) 10 0 (xE_1 hT)) (va_cwS 2 C.2.2.2.2.1 gX0_startAnew_J7_fill_53178 rfl rfl rfl (by decide +kernel) ⟨Nat.le_of_ble_eq_true rfl, Nat.le_of_ble_eq_true rfl⟩) rfl hl.1 rfl (Nat.le_of_ble_eq_true rfl) dX0_startAnew_10 ⟨Nat.le_refl _, Nat.le_refl _⟩ (fun H locs G => ?_)
  obtain ⟨X10, hX10⟩ : ∃ Z : xS, Z = x7_fill_53178 X2 (pT + 1) 10 0 := ⟨_, rfl⟩
  have G : xG D ad sa cc tt zA zs.heap H locs X10 := by rw [hX10]; exact G
  rw [lt_e hX10] at hF
  refine lv_aload_n hx hb dX0_startAnew_13 rfl (lv_at hl 0 rfl) ?_
  refine xr_get C G hT.2 (xE_c hT.1) rfl (fun _ h => List.mem_cons_of_mem _ (List.mem_append_right _ h)) 2 (by decide) (show Cond.fieldLink RX0 19 "WheatCounts$Estate" "weeds" "[I" ∈ _ by decide +kernel) rfl dX0_startAnew_14 ?_
  refine lv_iconst (v := 0) hx hb dX0_startAnew_17 (by decide) ?_
  refine xr_Sv C hA G (kx7_fill_53178 zl D ad sa cc tt X10 (pT + 2) 10 0 (xE_2 hT)) (va_cwS 2 C.2.2.2.2.1 gX0_startAnew_J7_fill_53178 rfl rfl rfl (by decide +kernel) ⟨Nat.le_of_ble_eq_true rfl, Nat.le_of_ble_eq_true rfl⟩) rfl hl.1 rfl (Nat.le_of_ble_eq_true rfl) dX0_startAnew_18 ⟨Nat.le_refl _, Nat.le_refl _⟩ (fun H locs G => ?_)
  obtain ⟨X18, hX18⟩ : ∃ Z : xS, Z = x7_fill_53178 X10 (pT + 2) 10 0 := ⟨_, rfl⟩
  have G : xG D ad sa cc tt zA zs.heap H locs X18 := by rw [hX18]; exact G
  rw [lt_e hX18] at hF
  refine lv_aload_n hx hb dX0_startAnew_21 rfl (lv_at hl 0 rfl) ?_
  refine lv_iconst (v := 0) hx hb dX0_startAnew_22 (by decide) ?_
  refine xr_put C G hT.2 (xE_c hT.1) rfl (fun _ h => List.mem_cons_of_mem _ (List.mem_append_right _ h)) tyX0 tyX0_ok nmX0 4 (by decide) rfl (show Cond.fieldLink RX0 58 "WheatCounts$Estate" "hedges" "I" ∈ _ by decide +kernel) (ty := .int) (by decide +kernel) rfl rfl (Nat.le_of_ble_eq_true rfl) (upd (X18 pT) 4 0) (xE_c hT.1) dX0_startAnew_23 (fun H locs G => ?_)
  obtain ⟨X23, hX23⟩ : ∃ Z : xS, Z = mU X18 pT 4 0 := ⟨_, rfl⟩
  have G : xG D ad sa cc tt zA zs.heap H locs X23 := by rw [hX23]; exact G
  rw [lt_e hX23] at hF
  refine lv_aload_n hx hb dX0_startAnew_26 rfl (lv_at hl 0 rfl) ?_
  refine lv_iconst (v := 0) hx hb dX0_startAnew_27 (by decide) ?_
  refine xr_put C G hT.2 (xE_c hT.1) rfl (fun _ h => List.mem_cons_of_mem _ (List.mem_append_right _ h)) tyX0 tyX0_ok nmX0 5 (by decide) rfl (show Cond.fieldLink RX0 61 "WheatCounts$Estate" "lean" "I" ∈ _ by decide +kernel) (ty := .int) (by decide +kernel) rfl rfl (Nat.le_of_ble_eq_true rfl) (upd (X23 pT) 5 0) (xE_c hT.1) dX0_startAnew_28 (fun H locs G => ?_)
  obtain ⟨X28, hX28⟩ : ∃ Z : xS, Z = mU X23 pT 5 0 := ⟨_, rfl⟩
  have G : xG D ad sa cc tt zA zs.heap H locs X28 := by rw [hX28]; exact G
  rw [lt_e hX28] at hF
  exact hret _ _ _ _ _ hF G dX0_startAnew_31
set_option maxRecDepth 100000 in
set_option maxHeartbeats 4000000 in
theorem kx0_addOne (zl : Launch) (D : va_G) (ad sa : Nat → Nat) (cc : cT) (tt : tT) (X : xS) (pT : Nat) (k : Int32) (m : Int32) (c : Int32) (hT : kE pT) (hp : eP X pT) : xM zl D ad sa cc tt yX0_addOne wsX0_addOne ({ frames := 0, cells := 0, slots := 0, locals := 0 } : Room) [.ref (ad pT), .int k, .int m, .int c] X (x0_addOne X pT k m c) := by
  refine xM_of (code := cX0_addOne) (nL := 5) (own := RX0) (by decide) rfl rfl (Nat.le_of_ble_eq_true rfl) ?_
  intro zp ze zs zm zg zb zt zc zA zQ C hA hret H locs ls hl G
  have hx := C.1
  have hb := C.2.1
  have hl : lv_has ls 5 [(0, .ref (ad pT)), (1, .int k), (2, .int m), (3, .int c)] := hl
  obtain ⟨rM, hF⟩ : ∃ Z : Int32 × xS, Z = x0_addOne X pT k m c := ⟨_, rfl⟩
  rw [← hF] at hret
  unfold x0_addOne at hF
  have hp2 := hp.2
  refine lv_aload_n hx hb dX0_addOne_0 rfl (lv_at hl 0 rfl) ?_
  refine xr_get C G hT.2 (xE_c hT.1) rfl (fun _ h => List.mem_cons_of_mem _ (List.mem_append_right _ h)) 9 (by decide) (show Cond.fieldLink RX0 73 "WheatCounts$Estate" "people" "I" ∈ _ by decide +kernel) rfl dX0_addOne_1 ?_
  refine lv_topi (fun x4 hx4 => ?_)
  obtain rfl : x4 = nI (vn (X pT 9)) := hx4.trans hp.1
  refine lv_istore (lv' := [(4, .int (nI (vn (X pT 9)))), (0, .ref (ad pT)), (1, .int k), (2, .int m), (3, .int c)]) hx hb dX0_addOne_4 hl (by decide) rfl (fun ls hl => ?_)
  refine lv_iload hx hb dX0_addOne_6 (lv_at hl 0 rfl) ?_
  refine lv_bipush (v := 8) hx hb dX0_addOne_8 (by decide) ?_
  obtain ⟨X55, hX55⟩ : ∃ (X55 : xS), X55 = ((if 8 ≤ (nI (vn (X pT 9))) then X else (lt (mU X (pT + 4) (vn (X pT 9)) k) fun (X20 : xS) => lt (mU X20 (pT + 5) (vn (X pT 9)) m) fun (X28 : xS) => lt (mU X28 (pT + 6) (vn (X pT 9)) c) fun (X36 : xS) => lt (mU X36 (pT + 7) (vn (X pT 9)) 0) fun (X44 : xS) => lt (mU X44 pT 9 ((X44 pT 9) + 1)) fun (X52 : xS) => X52)) : xS) := ⟨_, rfl⟩
  rw [lt_e hX55] at hF
  have hj55 : ∀ (H : Heap) (locs : List Loc) (ls : Array Slot), lv_has ls 5 [(0, .ref (ad pT)), (1, .int k), (2, .int m), (3, .int c), (4, .int (nI (vn (X pT 9))))] → xG D ad sa cc tt zA zs.heap H locs X55 → W zp zl ze ({ frames := 0, cells := 0, slots := 0, locals := 0 } : Room) zs zm zg zb zt zc H locs 0 0 zQ (F0 zm 55 ls []) := by
    intro H locs ls hl G
    refine lv_iload hx hb dX0_addOne_55 (lv_at hl 4 rfl) ?_
    exact hret _ _ _ _ _ _ hF G dX0_addOne_57
  refine lv_icmp_ge (tgt := 55) hx hb dX0_addOne_10 (by decide) (fun c10 => ?_) (fun c10 => ?_)
  · rw [if_pos c10] at hX55
    subst hX55
    exact hj55 _ _ _ (lv_sub hl [1, 2, 3, 4, 0] rfl) G
  · rw [if_neg c10] at hX55
    have hlt := lp_lt (n := 8) rfl c10 (by decide) (by omega)
    refine lv_aload_n hx hb dX0_addOne_13 rfl (lv_at hl 1 rfl) ?_
    refine xr_get C G hT.2 (xE_c hT.1) rfl (fun _ h => List.mem_cons_of_mem _ (List.mem_append_right _ h)) 10 (by decide) (show Cond.fieldLink RX0 25 "WheatCounts$Estate" "kind" "[I" ∈ _ by decide +kernel) rfl dX0_addOne_14 ?_
    refine lv_iload hx hb dX0_addOne_17 (lv_at hl 0 rfl) ?_
    refine lv_iload_n hx hb dX0_addOne_19 rfl (lv_at hl 2 rfl) ?_
    refine xr_ast C G (xE_4 hT).2 (xI_c (xE_4 hT).1) (vn (X pT 9)) rfl (by omega) (xI_lt (xE_4 hT)) dX0_addOne_20 (fun H locs G => ?_)
    obtain ⟨X20, hX20⟩ : ∃ Z : xS, Z = mU X (pT + 4) (vn (X pT 9)) k := ⟨_, rfl⟩
    have G : xG D ad sa cc tt zA zs.heap H locs X20 := by rw [hX20]; exact G
    rw [lt_e hX20] at hX55
    refine lv_aload_n hx hb dX0_addOne_21 rfl (lv_at hl 1 rfl) ?_
    refine xr_get C G hT.2 (xE_c hT.1) rfl (fun _ h => List.mem_cons_of_mem _ (List.mem_append_right _ h)) 11 (by decide) (show Cond.fieldLink RX0 28 "WheatCounts$Estate" "m" "[I" ∈ _ by decide +kernel) rfl dX0_addOne_22 ?_
    refine lv_iload hx hb dX0_addOne_25 (lv_at hl 0 rfl) ?_
    refine lv_iload_n hx hb dX0_addOne_27 rfl (lv_at hl 3 rfl) ?_
    refine xr_ast C G (xE_5 hT).2 (xI_c (xE_5 hT).1) (vn (X pT 9)) rfl (by omega) (xI_lt (xE_5 hT)) dX0_addOne_28 (fun H locs G => ?_)
    obtain ⟨X28, hX28⟩ : ∃ Z : xS, Z = mU X20 (pT + 5) (vn (X pT 9)) m := ⟨_, rfl⟩
    have G : xG D ad sa cc tt zA zs.heap H locs X28 := by rw [hX28]; exact G
    rw [lt_e hX28] at hX55
    refine lv_aload_n hx hb dX0_addOne_29 rfl (lv_at hl 1 rfl) ?_
    refine xr_get C G hT.2 (xE_c hT.1) rfl (fun _ h => List.mem_cons_of_mem _ (List.mem_append_right _ h)) 12 (by decide) (show Cond.fieldLink RX0 31 "WheatCounts$Estate" "at" "[I" ∈ _ by decide +kernel) rfl dX0_addOne_30 ?_
    refine lv_iload hx hb dX0_addOne_33 (lv_at hl 0 rfl) ?_
    refine lv_iload_n hx hb dX0_addOne_35 rfl (lv_at hl 4 rfl) ?_
    refine xr_ast C G (xE_6 hT).2 (xI_c (xE_6 hT).1) (vn (X pT 9)) rfl (by omega) (xI_lt (xE_6 hT)) dX0_addOne_36 (fun H locs G => ?_)
    obtain ⟨X36, hX36⟩ : ∃ Z : xS, Z = mU X28 (pT + 6) (vn (X pT 9)) c := ⟨_, rfl⟩
    have G : xG D ad sa cc tt zA zs.heap H locs X36 := by rw [hX36]; exact G
    rw [lt_e hX36] at hX55
    refine lv_aload_n hx hb dX0_addOne_37 rfl (lv_at hl 1 rfl) ?_
    refine xr_get C G hT.2 (xE_c hT.1) rfl (fun _ h => List.mem_cons_of_mem _ (List.mem_append_right _ h)) 13 (by decide) (show Cond.fieldLink RX0 34 "WheatCounts$Estate" "way" "[I" ∈ _ by decide +kernel) rfl dX0_addOne_38 ?_
    refine lv_iload hx hb dX0_addOne_41 (lv_at hl 0 rfl) ?_
    refine lv_iconst (v := 0) hx hb dX0_addOne_43 (by decide) ?_
    refine xr_ast C G (xE_7 hT).2 (xI_c (xE_7 hT).1) (vn (X pT 9)) rfl (by omega) (xI_lt (xE_7 hT)) dX0_addOne_44 (fun H locs G => ?_)
    obtain ⟨X44, hX44⟩ : ∃ Z : xS, Z = mU X36 (pT + 7) (vn (X pT 9)) 0 := ⟨_, rfl⟩
    have G : xG D ad sa cc tt zA zs.heap H locs X44 := by rw [hX44]; exact G
    rw [lt_e hX44] at hX55
    refine lv_aload_n hx hb dX0_addOne_45 rfl (lv_at hl 1 rfl) ?_
    refine lv_dup hx hb dX0_addOne_46 rfl ?_
    refine xr_get C G hT.2 (xE_c hT.1) rfl (fun _ h => List.mem_cons_of_mem _ (List.mem_append_right _ h)) 9 (by decide) (show Cond.fieldLink RX0 73 "WheatCounts$Estate" "people" "I" ∈ _ by decide +kernel) rfl dX0_addOne_47 ?_
    refine lv_iconst (v := 1) hx hb dX0_addOne_50 (by decide) ?_
    refine lv_iadd hx hb dX0_addOne_51 ?_
    refine xr_put C G hT.2 (xE_c hT.1) rfl (fun _ h => List.mem_cons_of_mem _ (List.mem_append_right _ h)) tyX0 tyX0_ok nmX0 9 (by decide) rfl (show Cond.fieldLink RX0 73 "WheatCounts$Estate" "people" "I" ∈ _ by decide +kernel) (ty := .int) (by decide +kernel) rfl rfl (Nat.le_of_ble_eq_true rfl) (upd (X44 pT) 9 ((X44 pT 9) + 1)) (xE_c hT.1) dX0_addOne_52 (fun H locs G => ?_)
    obtain ⟨X52, hX52⟩ : ∃ Z : xS, Z = mU X44 pT 9 ((X44 pT 9) + 1) := ⟨_, rfl⟩
    have G : xG D ad sa cc tt zA zs.heap H locs X52 := by rw [hX52]; exact G
    rw [lt_e hX52] at hX55
    subst hX55
    exact hj55 _ _ _ (lv_sub hl [1, 2, 3, 4, 0] rfl) G
set_option maxRecDepth 100000 in
set_option maxHeartbeats 4000000 in
theorem kx0_grainsIn (zl : Launch) (D : va_G) (ad sa : Nat → Nat) (cc : cT) (tt : tT) (X : xS) (pT : Nat) (set : Int32) (hT : kE pT) (hc : eC X pT) : xM zl D ad sa cc tt yX0_grainsIn wsX0_grainsIn ({ frames := 1, cells := 0, slots := 0, locals := 21 } : Room) [.ref (ad pT), .int set] X ((x0_grainsIn X pT set, X)) := by
  refine xM_of (code := cX0_grainsIn) (nL := 4) (own := RX0) (by decide) rfl rfl (Nat.le_of_ble_eq_true rfl) ?_
  intro zp ze zs zm zg zb zt zc zA zQ C hA hret H locs ls hl G
  have hx := C.1
  have hb := C.2.1
  have hl : lv_has ls 4 [(0, .ref (ad pT)), (1, .int set)] := hl
  obtain ⟨rM, hF⟩ : ∃ Z : Int32, Z = x0_grainsIn X pT set := ⟨_, rfl⟩
  rw [← hF] at hret
  unfold x0_grainsIn at hF
  have hc2 := hc.2.1
  have hc3 := hc.2.2
  refine lv_iconst (v := 0) hx hb dX0_grainsIn_0 (by decide) ?_
  refine lv_istore_n (lv' := [(2, .int 0), (0, .ref (ad pT)), (1, .int set)]) hx hb dX0_grainsIn_1 rfl hl (by decide) rfl (fun ls hl => ?_)
  refine lv_iconst (v := 0) hx hb dX0_grainsIn_2 (by decide) ?_
  refine lv_istore_n (lv' := [(3, .int 0), (2, .int 0), (0, .ref (ad pT)), (1, .int set)]) hx hb dX0_grainsIn_3 rfl hl (by decide) rfl (fun ls hl => ?_)
  obtain ⟨v2_4x, hX4⟩ : ∃ (v2_4x : Int32), v2_4x = x0_grainsIn_L4 X pT set (vn (X pT 0)) := ⟨_, rfl⟩
  rw [lt_e hX4] at hF
  have hrest4 : ∀ (H : Heap) (locs : List Loc) (ls : Array Slot), lv_has ls 4 [(0, .ref (ad pT)), (1, .int set), (2, .int v2_4x), (3, .int (nI (vn (X pT 0))))] → xG D ad sa cc tt zA zs.heap H locs X → W zp zl ze ({ frames := 1, cells := 0, slots := 0, locals := 21 } : Room) zs zm zg zb zt zc H locs 0 0 zQ (F0 zm 35 ls []) := by
    intro H locs ls hl G
    refine lv_iload_n hx hb dX0_grainsIn_35 rfl (lv_at hl 2 rfl) ?_
    exact hret _ _ _ _ _ _ (by rw [hF]) G dX0_grainsIn_36
  have hloop4 : ∀ (zj k4 : Nat), zj + k4 = vn (X pT 0) → ∀ (v2_4 : Int32), v2_4 = x0_grainsIn_L4 X pT set k4 → ∀ (H : Heap) (locs : List Loc) (ls : Array Slot), lv_has ls 4 [(0, .ref (ad pT)), (1, .int set), (2, .int v2_4), (3, .int (nI k4))] → xG D ad sa cc tt zA zs.heap H locs X → W zp zl ze ({ frames := 1, cells := 0, slots := 0, locals := 21 } : Room) zs zm zg zb zt zc H locs 0 0 zQ (F0 zm 4 ls []) := by
    intro zj
    induction zj with
    | zero =>
      intro k4 hk v2_4 hL H locs ls hl G
      have hk : k4 = vn (X pT 0) := by omega
      rw [hk] at hL hl
      refine lv_iload_n hx hb dX0_grainsIn_4 rfl (lv_at hl 3 rfl) ?_
      refine lv_aload_n hx hb dX0_grainsIn_5 rfl (lv_at hl 0 rfl) ?_
      refine xr_get C G hT.2 (xE_c hT.1) rfl (fun _ h => List.mem_cons_of_mem _ (List.mem_append_right _ h)) 0 (by decide) (show Cond.fieldLink RX0 9 "WheatCounts$Estate" "cells" "I" ∈ _ by decide +kernel) rfl dX0_grainsIn_6 ?_
      refine lv_icmp_ge (tgt := 35) hx hb dX0_grainsIn_9 (by decide) (fun c9 => ?_) (fun c9 => absurd (lp_out (n := vn (X pT 0)) hc.1) c9)
      obtain rfl := hL.trans hX4.symm
      exact hrest4 _ _ _ (lv_sub hl [0, 1, 2, 3] rfl) G
    | succ zj ih =>
      intro k4 hk v2_4 hL H locs ls hl G
      have hkn : k4 < vn (X pT 0) := by omega
      obtain ⟨v2_4s, hS0⟩ : ∃ (v2_4s : Int32), v2_4s = x0_grainsIn_L4 X pT set (k4 + 1) := ⟨_, rfl⟩
      have hS := hS0
      rw [x0_grainsIn_L4_s, lt_e hL] at hS
      refine lv_iload_n hx hb dX0_grainsIn_4 rfl (lv_at hl 3 rfl) ?_
      refine lv_aload_n hx hb dX0_grainsIn_5 rfl (lv_at hl 0 rfl) ?_
      refine xr_get C G hT.2 (xE_c hT.1) rfl (fun _ h => List.mem_cons_of_mem _ (List.mem_append_right _ h)) 0 (by decide) (show Cond.fieldLink RX0 9 "WheatCounts$Estate" "cells" "I" ∈ _ by decide +kernel) rfl dX0_grainsIn_6 ?_
      refine lv_icmp_ge (tgt := 35) hx hb dX0_grainsIn_9 (by decide) (fun c9 => absurd c9 (lp_in (n := vn (X pT 0)) hc.1 hkn (by omega))) (fun c9 => ?_)
      refine lv_iload_n hx hb dX0_grainsIn_12 rfl (lv_at hl 1 rfl) ?_
      refine lv_iload_n hx hb dX0_grainsIn_13 rfl (lv_at hl 3 rfl) ?_
      refine xr_psn C hA G (ks_X8_has zl set (nI k4)) ⟨va_cnB 2 C.2.2.2.2.1 gX0_grainsIn_X8_has_n103 rfl rfl rfl (C.2.2.2.2.2.2.1 _ (List.mem_of_getElem? (i := 0) rfl)) (C.2.2.2.2.1 (.initialized RX8) (by decide +kernel)) (by decide +kernel) ⟨Nat.le_of_ble_eq_true rfl, Nat.le_of_ble_eq_true rfl⟩, C.2.2.2.2.1 (.static yX8_has) (by decide +kernel), trivial⟩ rfl hl.1 rfl (Nat.le_of_ble_eq_true rfl) dX0_grainsIn_14 ⟨Nat.le_refl _, Nat.le_refl _⟩ (fun H locs G => ?_)
      obtain ⟨z2_29, hX29⟩ : ∃ (z2_29 : Int32), z2_29 = ((if (p8_has set (nI k4)) = 0 then v2_4 else (lt (v2_4 + (X (pT + 1) k4)) fun (x28 : Int32) => x28)) : Int32) := ⟨_, rfl⟩
      rw [lt_e hX29] at hS
      have hj29 : ∀ (H : Heap) (locs : List Loc) (ls : Array Slot), lv_has ls 4 [(0, .ref (ad pT)), (1, .int set), (2, .int z2_29), (3, .int (nI k4))] → xG D ad sa cc tt zA zs.heap H locs X → W zp zl ze ({ frames := 1, cells := 0, slots := 0, locals := 21 } : Room) zs zm zg zb zt zc H locs 0 0 zQ (F0 zm 29 ls []) := by
        intro H locs ls hl G
        refine lv_iinc (v := nI (k4 + 1)) (lv' := [(3, .int (nI (k4 + 1))), (0, .ref (ad pT)), (1, .int set), (2, .int z2_29)]) hx hb dX0_grainsIn_29 hl (k := 3) rfl (nt_add rfl (show (1 : Int32) = nI 1 from rfl)) (by decide) rfl (fun ls hl => ?_)
        refine lv_goto (tgt := 4) hx hb dX0_grainsIn_32 (by decide) ?_
        subst hS
        exact ih (k4 + 1) (by omega) _ hS0 _ _ _ (lv_sub hl [1, 2, 3, 0] rfl) G
      refine lv_if_eq (tgt := 29) hx hb dX0_grainsIn_17 (by decide) (fun c17 => ?_) (fun c17 => ?_)
      · rw [if_pos c17] at hX29
        subst hX29
        exact hj29 _ _ _ (lv_sub hl [0, 1, 2, 3] rfl) G
      · rw [if_neg c17] at hX29
        refine lv_iload_n hx hb dX0_grainsIn_20 rfl (lv_at hl 2 rfl) ?_
        refine lv_aload_n hx hb dX0_grainsIn_21 rfl (lv_at hl 0 rfl) ?_
        refine xr_get C G hT.2 (xE_c hT.1) rfl (fun _ h => List.mem_cons_of_mem _ (List.mem_append_right _ h)) 1 (by decide) (show Cond.fieldLink RX0 15 "WheatCounts$Estate" "grains" "[I" ∈ _ by decide +kernel) rfl dX0_grainsIn_22 ?_
        refine lv_iload_n hx hb dX0_grainsIn_25 rfl (lv_at hl 3 rfl) ?_
        refine xr_ald C G (xE_1 hT).2 (xI_c (xE_1 hT).1 _) k4 rfl (by omega) (xI_lt (xE_1 hT)) dX0_grainsIn_26 ?_
        refine lv_iadd hx hb dX0_grainsIn_27 ?_
        refine lv_topi (fun x28 hx28 => ?_)
        rw [lt_e hx28] at hX29
        refine lv_istore_n (lv' := [(2, .int x28), (0, .ref (ad pT)), (1, .int set), (3, .int (nI k4))]) hx hb dX0_grainsIn_28 rfl hl (by decide) rfl (fun ls hl => ?_)
        subst hX29
        exact hj29 _ _ _ (lv_sub hl [1, 2, 0, 3] rfl) G
  exact hloop4 _ 0 (Nat.add_zero _) _ rfl _ _ _ (lv_sub hl [2, 3, 1, 0] rfl) G
set_option maxRecDepth 100000 in
set_option maxHeartbeats 4000000 in
theorem kx0_together (zl : Launch) (D : va_G) (ad sa : Nat → Nat) (cc : cT) (tt : tT) (X : xS) (pT : Nat) (hT : kE pT) (hc : eC X pT) : xM zl D ad sa cc tt yX0_together wsX0_together ({ frames := 2, cells := 0, slots := 0, locals := 44 } : Room) [.ref (ad pT)] X ((x0_together X pT, X)) := by
  refine xM_of (code := cX0_together) (nL := 1) (own := RX0) (by decide) rfl rfl (Nat.le_of_ble_eq_true rfl) ?_
  intro zp ze zs zm zg zb zt zc zA zQ C hA hret H locs ls hl G
  have hx := C.1
  have hb := C.2.1
  have hl : lv_has ls 1 [(0, .ref (ad pT))] := hl
  obtain ⟨rM, hF⟩ : ∃ Z : Int32, Z = x0_together X pT := ⟨_, rfl⟩
  rw [← hF] at hret
  unfold x0_together at hF
  refine lv_aload_n hx hb dX0_together_0 rfl (lv_at hl 0 rfl) ?_
  refine lv_iconst (v := 1) hx hb dX0_together_1 (by decide) ?_
  refine lv_aload_n hx hb dX0_together_2 rfl (lv_at hl 0 rfl) ?_
  refine xr_get C G hT.2 (xE_c hT.1) rfl (fun _ h => List.mem_cons_of_mem _ (List.mem_append_right _ h)) 0 (by decide) (show Cond.fieldLink RX0 9 "WheatCounts$Estate" "cells" "I" ∈ _ by decide +kernel) rfl dX0_together_3 ?_
  refine lv_ishl hx hb dX0_together_6 ?_
  refine lv_iconst (v := 1) hx hb dX0_together_7 (by decide) ?_
  refine lv_isub hx hb dX0_together_8 ?_
  refine xr_Vi C hA G (kx0_grainsIn zl D ad sa cc tt X pT ((1 <<< ((X pT 0) &&& 31)) - 1) hT (by first | assumption | omega)) hT.2 (xE_c hT.1) rfl (cwV 1 C.2.2.2.2.1 gX0_together_X0_grainsIn rfl rfl rfl (by decide +kernel) ⟨Nat.le_of_ble_eq_true rfl, Nat.le_of_ble_eq_true rfl⟩) rfl hl.1 rfl (Nat.le_of_ble_eq_true rfl) dX0_together_9 ⟨Nat.le_refl _, Nat.le_refl _⟩ (fun H locs G => ?_)
  exact hret _ _ _ _ _ _ (by rw [hF]) G dX0_together_12
set_option maxRecDepth 100000 in
set_option maxHeartbeats 4000000 in
theorem kx0_mirrored (zl : Launch) (D : va_G) (ad sa : Nat → Nat) (cc : cT) (tt : tT) (X : xS) (pT : Nat) (set : Int32) (hT : kE pT) (hc : eC X pT) : xM zl D ad sa cc tt yX0_mirrored wsX0_mirrored ({ frames := 1, cells := 0, slots := 0, locals := 21 } : Room) [.ref (ad pT), .int set] X ((x0_mirrored X pT set, X)) := by
  refine xM_of (code := cX0_mirrored) (nL := 4) (own := RX0) (by decide) rfl rfl (Nat.le_of_ble_eq_true rfl) ?_
  intro zp ze zs zm zg zb zt zc zA zQ C hA hret H locs ls hl G
  have hx := C.1
  have hb := C.2.1
  have hl : lv_has ls 4 [(0, .ref (ad pT)), (1, .int set)] := hl
  obtain ⟨rM, hF⟩ : ∃ Z : Int32, Z = x0_mirrored X pT set := ⟨_, rfl⟩
  rw [← hF] at hret
  unfold x0_mirrored at hF
  have hc2 := hc.2.1
  have hc3 := hc.2.2
  refine lv_iconst (v := 0) hx hb dX0_mirrored_0 (by decide) ?_
  refine lv_istore_n (lv' := [(2, .int 0), (0, .ref (ad pT)), (1, .int set)]) hx hb dX0_mirrored_1 rfl hl (by decide) rfl (fun ls hl => ?_)
  refine lv_iconst (v := 0) hx hb dX0_mirrored_2 (by decide) ?_
  refine lv_istore_n (lv' := [(3, .int 0), (2, .int 0), (0, .ref (ad pT)), (1, .int set)]) hx hb dX0_mirrored_3 rfl hl (by decide) rfl (fun ls hl => ?_)
  obtain ⟨v2_4x, hX4⟩ : ∃ (v2_4x : Int32), v2_4x = x0_mirrored_L4 X pT set (vn (X pT 0)) := ⟨_, rfl⟩
  rw [lt_e hX4] at hF
  have hrest4 : ∀ (H : Heap) (locs : List Loc) (ls : Array Slot), lv_has ls 4 [(0, .ref (ad pT)), (1, .int set), (2, .int v2_4x), (3, .int (nI (vn (X pT 0))))] → xG D ad sa cc tt zA zs.heap H locs X → W zp zl ze ({ frames := 1, cells := 0, slots := 0, locals := 21 } : Room) zs zm zg zb zt zc H locs 0 0 zQ (F0 zm 39 ls []) := by
    intro H locs ls hl G
    refine lv_iload_n hx hb dX0_mirrored_39 rfl (lv_at hl 2 rfl) ?_
    exact hret _ _ _ _ _ _ (by rw [hF]) G dX0_mirrored_40
  have hloop4 : ∀ (zj k4 : Nat), zj + k4 = vn (X pT 0) → ∀ (v2_4 : Int32), v2_4 = x0_mirrored_L4 X pT set k4 → ∀ (H : Heap) (locs : List Loc) (ls : Array Slot), lv_has ls 4 [(0, .ref (ad pT)), (1, .int set), (2, .int v2_4), (3, .int (nI k4))] → xG D ad sa cc tt zA zs.heap H locs X → W zp zl ze ({ frames := 1, cells := 0, slots := 0, locals := 21 } : Room) zs zm zg zb zt zc H locs 0 0 zQ (F0 zm 4 ls []) := by
    intro zj
    induction zj with
    | zero =>
      intro k4 hk v2_4 hL H locs ls hl G
      have hk : k4 = vn (X pT 0) := by omega
      rw [hk] at hL hl
      refine lv_iload_n hx hb dX0_mirrored_4 rfl (lv_at hl 3 rfl) ?_
      refine lv_aload_n hx hb dX0_mirrored_5 rfl (lv_at hl 0 rfl) ?_
      refine xr_get C G hT.2 (xE_c hT.1) rfl (fun _ h => List.mem_cons_of_mem _ (List.mem_append_right _ h)) 0 (by decide) (show Cond.fieldLink RX0 9 "WheatCounts$Estate" "cells" "I" ∈ _ by decide +kernel) rfl dX0_mirrored_6 ?_
      refine lv_icmp_ge (tgt := 39) hx hb dX0_mirrored_9 (by decide) (fun c9 => ?_) (fun c9 => absurd (lp_out (n := vn (X pT 0)) hc.1) c9)
      obtain rfl := hL.trans hX4.symm
      exact hrest4 _ _ _ (lv_sub hl [0, 1, 2, 3] rfl) G
    | succ zj ih =>
      intro k4 hk v2_4 hL H locs ls hl G
      have hkn : k4 < vn (X pT 0) := by omega
      obtain ⟨v2_4s, hS0⟩ : ∃ (v2_4s : Int32), v2_4s = x0_mirrored_L4 X pT set (k4 + 1) := ⟨_, rfl⟩
      have hS := hS0
      rw [x0_mirrored_L4_s, lt_e hL] at hS
      refine lv_iload_n hx hb dX0_mirrored_4 rfl (lv_at hl 3 rfl) ?_
      refine lv_aload_n hx hb dX0_mirrored_5 rfl (lv_at hl 0 rfl) ?_
      refine xr_get C G hT.2 (xE_c hT.1) rfl (fun _ h => List.mem_cons_of_mem _ (List.mem_append_right _ h)) 0 (by decide) (show Cond.fieldLink RX0 9 "WheatCounts$Estate" "cells" "I" ∈ _ by decide +kernel) rfl dX0_mirrored_6 ?_
      refine lv_icmp_ge (tgt := 39) hx hb dX0_mirrored_9 (by decide) (fun c9 => absurd c9 (lp_in (n := vn (X pT 0)) hc.1 hkn (by omega))) (fun c9 => ?_)
      refine lv_iload_n hx hb dX0_mirrored_12 rfl (lv_at hl 1 rfl) ?_
      refine lv_aload_n hx hb dX0_mirrored_13 rfl (lv_at hl 0 rfl) ?_
      refine xr_get C G hT.2 (xE_c hT.1) rfl (fun _ h => List.mem_cons_of_mem _ (List.mem_append_right _ h)) 0 (by decide) (show Cond.fieldLink RX0 9 "WheatCounts$Estate" "cells" "I" ∈ _ by decide +kernel) rfl dX0_mirrored_14 ?_
      refine lv_iconst (v := 1) hx hb dX0_mirrored_17 (by decide) ?_
      refine lv_isub hx hb dX0_mirrored_18 ?_
      refine lv_iload_n hx hb dX0_mirrored_19 rfl (lv_at hl 3 rfl) ?_
      refine lv_isub hx hb dX0_mirrored_20 ?_
      refine xr_psn C hA G (ks_X8_has zl set (((X pT 0) - 1) - (nI k4))) ⟨va_cnB 2 C.2.2.2.2.1 gX0_mirrored_X8_has_n103 rfl rfl rfl (C.2.2.2.2.2.2.1 _ (List.mem_of_getElem? (i := 0) rfl)) (C.2.2.2.2.1 (.initialized RX8) (by decide +kernel)) (by decide +kernel) ⟨Nat.le_of_ble_eq_true rfl, Nat.le_of_ble_eq_true rfl⟩, C.2.2.2.2.1 (.static yX8_has) (by decide +kernel), trivial⟩ rfl hl.1 rfl (Nat.le_of_ble_eq_true rfl) dX0_mirrored_21 ⟨Nat.le_refl _, Nat.le_refl _⟩ (fun H locs G => ?_)
      obtain ⟨z2_33, hX33⟩ : ∃ (z2_33 : Int32), z2_33 = ((if (p8_has set (((X pT 0) - 1) - (nI k4))) = 0 then v2_4 else (lt (v2_4 ||| (1 <<< ((nI k4) &&& 31))) fun (x32 : Int32) => x32)) : Int32) := ⟨_, rfl⟩
      rw [lt_e hX33] at hS
      have hj33 : ∀ (H : Heap) (locs : List Loc) (ls : Array Slot), lv_has ls 4 [(0, .ref (ad pT)), (1, .int set), (2, .int z2_33), (3, .int (nI k4))] → xG D ad sa cc tt zA zs.heap H locs X → W zp zl ze ({ frames := 1, cells := 0, slots := 0, locals := 21 } : Room) zs zm zg zb zt zc H locs 0 0 zQ (F0 zm 33 ls []) := by
        intro H locs ls hl G
        refine lv_iinc (v := nI (k4 + 1)) (lv' := [(3, .int (nI (k4 + 1))), (0, .ref (ad pT)), (1, .int set), (2, .int z2_33)]) hx hb dX0_mirrored_33 hl (k := 3) rfl (nt_add rfl (show (1 : Int32) = nI 1 from rfl)) (by decide) rfl (fun ls hl => ?_)
        refine lv_goto (tgt := 4) hx hb dX0_mirrored_36 (by decide) ?_
        subst hS
        exact ih (k4 + 1) (by omega) _ hS0 _ _ _ (lv_sub hl [1, 2, 3, 0] rfl) G
      refine lv_if_eq (tgt := 33) hx hb dX0_mirrored_24 (by decide) (fun c24 => ?_) (fun c24 => ?_)
      · rw [if_pos c24] at hX33
        subst hX33
        exact hj33 _ _ _ (lv_sub hl [0, 1, 2, 3] rfl) G
      · rw [if_neg c24] at hX33
        refine lv_iload_n hx hb dX0_mirrored_27 rfl (lv_at hl 2 rfl) ?_
        refine lv_iconst (v := 1) hx hb dX0_mirrored_28 (by decide) ?_
        refine lv_iload_n hx hb dX0_mirrored_29 rfl (lv_at hl 3 rfl) ?_
        refine lv_ishl hx hb dX0_mirrored_30 ?_
        refine lv_ior hx hb dX0_mirrored_31 ?_
        refine lv_topi (fun x32 hx32 => ?_)
        rw [lt_e hx32] at hX33
        refine lv_istore_n (lv' := [(2, .int x32), (0, .ref (ad pT)), (1, .int set), (3, .int (nI k4))]) hx hb dX0_mirrored_32 rfl hl (by decide) rfl (fun ls hl => ?_)
        subst hX33
        exact hj33 _ _ _ (lv_sub hl [1, 2, 0, 3] rfl) G
  exact hloop4 _ 0 (Nat.add_zero _) _ rfl _ _ _ (lv_sub hl [2, 3, 1, 0] rfl) G
set_option maxRecDepth 100000 in
set_option maxHeartbeats 4000000 in
theorem kx0_whoAreAt (zl : Launch) (D : va_G) (ad sa : Nat → Nat) (cc : cT) (tt : tT) (X : xS) (pT : Nat) (c : Int32) (hT : kE pT) (hp : eP X pT) : xM zl D ad sa cc tt yX0_whoAreAt wsX0_whoAreAt ({ frames := 0, cells := 0, slots := 0, locals := 0 } : Room) [.ref (ad pT), .int c] X ((x0_whoAreAt X pT c, X)) := by
  refine xM_of (code := cX0_whoAreAt) (nL := 4) (own := RX0) (by decide) rfl rfl (Nat.le_of_ble_eq_true rfl) ?_
  intro zp ze zs zm zg zb zt zc zA zQ C hA hret H locs ls hl G
  have hx := C.1
  have hb := C.2.1
  have hl : lv_has ls 4 [(0, .ref (ad pT)), (1, .int c)] := hl
  obtain ⟨rM, hF⟩ : ∃ Z : Int32, Z = x0_whoAreAt X pT c := ⟨_, rfl⟩
  rw [← hF] at hret
  unfold x0_whoAreAt at hF
  have hp2 := hp.2
  refine lv_iconst (v := 0) hx hb dX0_whoAreAt_0 (by decide) ?_
  refine lv_istore_n (lv' := [(2, .int 0), (0, .ref (ad pT)), (1, .int c)]) hx hb dX0_whoAreAt_1 rfl hl (by decide) rfl (fun ls hl => ?_)
  refine lv_iconst (v := 0) hx hb dX0_whoAreAt_2 (by decide) ?_
  refine lv_istore_n (lv' := [(3, .int 0), (2, .int 0), (0, .ref (ad pT)), (1, .int c)]) hx hb dX0_whoAreAt_3 rfl hl (by decide) rfl (fun ls hl => ?_)
  obtain ⟨v2_4x, hX4⟩ : ∃ (v2_4x : Int32), v2_4x = x0_whoAreAt_L4 X pT c (vn (X pT 9)) := ⟨_, rfl⟩
  rw [lt_e hX4] at hF
  have hrest4 : ∀ (H : Heap) (locs : List Loc) (ls : Array Slot), lv_has ls 4 [(0, .ref (ad pT)), (1, .int c), (2, .int v2_4x), (3, .int (nI (vn (X pT 9))))] → xG D ad sa cc tt zA zs.heap H locs X → W zp zl ze ({ frames := 0, cells := 0, slots := 0, locals := 0 } : Room) zs zm zg zb zt zc H locs 0 0 zQ (F0 zm 34 ls []) := by
    intro H locs ls hl G
    refine lv_iload_n hx hb dX0_whoAreAt_34 rfl (lv_at hl 2 rfl) ?_
    exact hret _ _ _ _ _ _ (by rw [hF]) G dX0_whoAreAt_35
  have hloop4 : ∀ (zj k4 : Nat), zj + k4 = vn (X pT 9) → ∀ (v2_4 : Int32), v2_4 = x0_whoAreAt_L4 X pT c k4 → ∀ (H : Heap) (locs : List Loc) (ls : Array Slot), lv_has ls 4 [(0, .ref (ad pT)), (1, .int c), (2, .int v2_4), (3, .int (nI k4))] → xG D ad sa cc tt zA zs.heap H locs X → W zp zl ze ({ frames := 0, cells := 0, slots := 0, locals := 0 } : Room) zs zm zg zb zt zc H locs 0 0 zQ (F0 zm 4 ls []) := by
    intro zj
    induction zj with
    | zero =>
      intro k4 hk v2_4 hL H locs ls hl G
      have hk : k4 = vn (X pT 9) := by omega
      rw [hk] at hL hl
      refine lv_iload_n hx hb dX0_whoAreAt_4 rfl (lv_at hl 3 rfl) ?_
      refine lv_aload_n hx hb dX0_whoAreAt_5 rfl (lv_at hl 0 rfl) ?_
      refine xr_get C G hT.2 (xE_c hT.1) rfl (fun _ h => List.mem_cons_of_mem _ (List.mem_append_right _ h)) 9 (by decide) (show Cond.fieldLink RX0 73 "WheatCounts$Estate" "people" "I" ∈ _ by decide +kernel) rfl dX0_whoAreAt_6 ?_
      refine lv_icmp_ge (tgt := 34) hx hb dX0_whoAreAt_9 (by decide) (fun c9 => ?_) (fun c9 => absurd (lp_out (n := vn (X pT 9)) hp.1) c9)
      obtain rfl := hL.trans hX4.symm
      exact hrest4 _ _ _ (lv_sub hl [0, 1, 2, 3] rfl) G
    | succ zj ih =>
      intro k4 hk v2_4 hL H locs ls hl G
      have hkn : k4 < vn (X pT 9) := by omega
      obtain ⟨v2_4s, hS0⟩ : ∃ (v2_4s : Int32), v2_4s = x0_whoAreAt_L4 X pT c (k4 + 1) := ⟨_, rfl⟩
      have hS := hS0
      rw [x0_whoAreAt_L4_s, lt_e hL] at hS
      refine lv_iload_n hx hb dX0_whoAreAt_4 rfl (lv_at hl 3 rfl) ?_
      refine lv_aload_n hx hb dX0_whoAreAt_5 rfl (lv_at hl 0 rfl) ?_
      refine xr_get C G hT.2 (xE_c hT.1) rfl (fun _ h => List.mem_cons_of_mem _ (List.mem_append_right _ h)) 9 (by decide) (show Cond.fieldLink RX0 73 "WheatCounts$Estate" "people" "I" ∈ _ by decide +kernel) rfl dX0_whoAreAt_6 ?_
      refine lv_icmp_ge (tgt := 34) hx hb dX0_whoAreAt_9 (by decide) (fun c9 => absurd c9 (lp_in (n := vn (X pT 9)) hp.1 hkn (by omega))) (fun c9 => ?_)
      refine lv_aload_n hx hb dX0_whoAreAt_12 rfl (lv_at hl 0 rfl) ?_
      refine xr_get C G hT.2 (xE_c hT.1) rfl (fun _ h => List.mem_cons_of_mem _ (List.mem_append_right _ h)) 12 (by decide) (show Cond.fieldLink RX0 31 "WheatCounts$Estate" "at" "[I" ∈ _ by decide +kernel) rfl dX0_whoAreAt_13 ?_
      refine lv_iload_n hx hb dX0_whoAreAt_16 rfl (lv_at hl 3 rfl) ?_
      refine xr_ald C G (xE_6 hT).2 (xI_c (xE_6 hT).1 _) k4 rfl (by omega) (xI_lt (xE_6 hT)) dX0_whoAreAt_17 ?_
      refine lv_iload_n hx hb dX0_whoAreAt_18 rfl (lv_at hl 1 rfl) ?_
      obtain ⟨z2_28, hX28⟩ : ∃ (z2_28 : Int32), z2_28 = ((if (X (pT + 6) k4) = c then (lt (v2_4 ||| (1 <<< ((nI k4) &&& 31))) fun (x27 : Int32) => x27) else v2_4) : Int32) := ⟨_, rfl⟩
      rw [lt_e hX28] at hS
      have hj28 : ∀ (H : Heap) (locs : List Loc) (ls : Array Slot), lv_has ls 4 [(0, .ref (ad pT)), (1, .int c), (2, .int z2_28), (3, .int (nI k4))] → xG D ad sa cc tt zA zs.heap H locs X → W zp zl ze ({ frames := 0, cells := 0, slots := 0, locals := 0 } : Room) zs zm zg zb zt zc H locs 0 0 zQ (F0 zm 28 ls []) := by
        intro H locs ls hl G
        refine lv_iinc (v := nI (k4 + 1)) (lv' := [(3, .int (nI (k4 + 1))), (0, .ref (ad pT)), (1, .int c), (2, .int z2_28)]) hx hb dX0_whoAreAt_28 hl (k := 3) rfl (nt_add rfl (show (1 : Int32) = nI 1 from rfl)) (by decide) rfl (fun ls hl => ?_)
        refine lv_goto (tgt := 4) hx hb dX0_whoAreAt_31 (by decide) ?_
        subst hS
        exact ih (k4 + 1) (by omega) _ hS0 _ _ _ (lv_sub hl [1, 2, 3, 0] rfl) G
      refine lv_icmp_ne (tgt := 28) hx hb dX0_whoAreAt_19 (by decide) (fun c19 => ?_) (fun c19 => ?_)
      · rw [if_neg c19] at hX28
        subst hX28
        exact hj28 _ _ _ (lv_sub hl [0, 1, 2, 3] rfl) G
      · rw [if_pos c19] at hX28
        refine lv_iload_n hx hb dX0_whoAreAt_22 rfl (lv_at hl 2 rfl) ?_
        refine lv_iconst (v := 1) hx hb dX0_whoAreAt_23 (by decide) ?_
        refine lv_iload_n hx hb dX0_whoAreAt_24 rfl (lv_at hl 3 rfl) ?_
        refine lv_ishl hx hb dX0_whoAreAt_25 ?_
        refine lv_ior hx hb dX0_whoAreAt_26 ?_
        refine lv_topi (fun x27 hx27 => ?_)
        rw [lt_e hx27] at hX28
        refine lv_istore_n (lv' := [(2, .int x27), (0, .ref (ad pT)), (1, .int c), (3, .int (nI k4))]) hx hb dX0_whoAreAt_27 rfl hl (by decide) rfl (fun ls hl => ?_)
        subst hX28
        exact hj28 _ _ _ (lv_sub hl [1, 2, 0, 3] rfl) G
  exact hloop4 _ 0 (Nat.add_zero _) _ rfl _ _ _ (lv_sub hl [2, 3, 1, 0] rfl) G
set_option maxRecDepth 100000 in
set_option maxHeartbeats 4000000 in
theorem kx0_viewFrom (zl : Launch) (D : va_G) (ad sa : Nat → Nat) (cc : cT) (tt : tT) (X : xS) (pT : Nat) (q : Nat) (a : Nat) (sight : Int32) (between : Int32) (hT : kE pT) (hc : eC X pT) (hq : q < 8) (ha : a < 10) : xM zl D ad sa cc tt yX0_viewFrom wsX0_viewFrom ({ frames := 2, cells := 0, slots := 0, locals := 44 } : Room) [.ref (ad pT), .int (nI q), .int (nI a), .int sight, .int between] X ((x0_viewFrom X pT q a sight between, X)) := by
  refine xM_of (code := cX0_viewFrom) (nL := 7) (own := RX0) (by decide) rfl rfl (Nat.le_of_ble_eq_true rfl) ?_
  intro zp ze zs zm zg zb zt zc zA zQ C hA hret H locs ls hl G
  have hx := C.1
  have hb := C.2.1
  have hl : lv_has ls 7 [(0, .ref (ad pT)), (1, .int (nI q)), (2, .int (nI a)), (3, .int sight), (4, .int between)] := hl
  obtain ⟨rM, hF⟩ : ∃ Z : Int32, Z = x0_viewFrom X pT q a sight between := ⟨_, rfl⟩
  rw [← hF] at hret
  unfold x0_viewFrom at hF
  have hc2 := hc.2.1
  have hc3 := hc.2.2
  refine lv_iconst (v := 1) hx hb dX0_viewFrom_0 (by decide) ?_
  refine lv_iload_n hx hb dX0_viewFrom_1 rfl (lv_at hl 2 rfl) ?_
  refine lv_ishl hx hb dX0_viewFrom_2 ?_
  refine lv_topi (fun x3 hx3 => ?_)
  rw [lt_e hx3] at hF
  refine lv_istore (lv' := [(5, .int x3), (0, .ref (ad pT)), (1, .int (nI q)), (2, .int (nI a)), (3, .int sight), (4, .int between)]) hx hb dX0_viewFrom_3 hl (by decide) rfl (fun ls hl => ?_)
  refine lv_iload_n hx hb dX0_viewFrom_5 rfl (lv_at hl 3 rfl) ?_
  refine lv_iconst (v := 1) hx hb dX0_viewFrom_6 (by decide) ?_
  refine lv_isub hx hb dX0_viewFrom_7 ?_
  refine lv_topi (fun x8 hx8 => ?_)
  rw [lt_e hx8] at hF
  refine lv_istore (lv' := [(6, .int x8), (5, .int x3), (0, .ref (ad pT)), (1, .int (nI q)), (2, .int (nI a)), (3, .int sight), (4, .int between)]) hx hb dX0_viewFrom_8 hl (by decide) rfl (fun ls hl => ?_)
  obtain ⟨v6_10x, v5_10x, hX10⟩ : ∃ (v6_10x : Int32) (v5_10x : Int32), (v6_10x, v5_10x) = x0_viewFrom_L10 a sight between fu11 x8 x3 := ⟨_, _, rfl⟩
  rw [lt2_e hX10] at hF
  have hrest10 : ∀ (H : Heap) (locs : List Loc) (ls : Array Slot), lv_has ls 7 [(0, .ref (ad pT)), (1, .int (nI q)), (2, .int (nI a)), (3, .int sight), (4, .int between), (5, .int v5_10x), (6, .int v6_10x)] → xG D ad sa cc tt zA zs.heap H locs X → W zp zl ze ({ frames := 2, cells := 0, slots := 0, locals := 44 } : Room) zs zm zg zb zt zc H locs 0 0 zQ (F0 zm 48 ls []) := by
    intro H locs ls hl G
    refine lv_iload_n hx hb dX0_viewFrom_48 rfl (lv_at hl 2 rfl) ?_
    refine lv_iconst (v := 1) hx hb dX0_viewFrom_49 (by decide) ?_
    refine lv_iadd hx hb dX0_viewFrom_50 ?_
    refine lv_topi (fun x51 hx51 => ?_)
    obtain rfl : x51 = nI (a + 1) := hx51.trans (nt_add rfl rfl)
    refine lv_istore (lv' := [(6, .int (nI (a + 1))), (0, .ref (ad pT)), (1, .int (nI q)), (2, .int (nI a)), (3, .int sight), (4, .int between), (5, .int v5_10x)]) hx hb dX0_viewFrom_51 hl (by decide) rfl (fun ls hl => ?_)
    obtain ⟨kbx, v5_53x, hX53⟩ : ∃ (kbx : Nat) (v5_53x : Int32), (kbx, v5_53x) = x0_viewFrom_L53 X pT a sight between fu11 (a + 1) v5_10x := ⟨_, _, rfl⟩
    rw [lt2_e hX53] at hF
    have hrest53 : ∀ (H : Heap) (locs : List Loc) (ls : Array Slot), lv_has ls 7 [(0, .ref (ad pT)), (1, .int (nI q)), (2, .int (nI a)), (3, .int sight), (4, .int between), (5, .int v5_53x), (6, .int (nI kbx))] → xG D ad sa cc tt zA zs.heap H locs X → W zp zl ze ({ frames := 2, cells := 0, slots := 0, locals := 44 } : Room) zs zm zg zb zt zc H locs 0 0 zQ (F0 zm 97 ls []) := by
      intro H locs ls hl G
      refine lv_aload_n hx hb dX0_viewFrom_97 rfl (lv_at hl 0 rfl) ?_
      refine xr_get C G hT.2 (xE_c hT.1) rfl (fun _ h => List.mem_cons_of_mem _ (List.mem_append_right _ h)) 10 (by decide) (show Cond.fieldLink RX0 25 "WheatCounts$Estate" "kind" "[I" ∈ _ by decide +kernel) rfl dX0_viewFrom_98 ?_
      refine lv_iload_n hx hb dX0_viewFrom_101 rfl (lv_at hl 1 rfl) ?_
      refine xr_ald C G (xE_4 hT).2 (xI_c (xE_4 hT).1 _) q rfl (by omega) (xI_lt (xE_4 hT)) dX0_viewFrom_102 ?_
      refine lv_iconst (v := 5) hx hb dX0_viewFrom_103 (by decide) ?_
      refine lv_icmp_ne (tgt := 119) hx hb dX0_viewFrom_104 (by decide) (fun c104 => ?_) (fun c104 => ?_)
      · rw [if_neg c104] at hF
        refine lv_iload hx hb dX0_viewFrom_119 (lv_at hl 5 rfl) ?_
        exact hret _ _ _ _ _ _ (by rw [hF]) G dX0_viewFrom_121
      · rw [if_pos c104] at hF
        refine lv_iload hx hb dX0_viewFrom_107 (lv_at hl 5 rfl) ?_
        refine lv_aload_n hx hb dX0_viewFrom_109 rfl (lv_at hl 0 rfl) ?_
        refine lv_iload hx hb dX0_viewFrom_110 (lv_at hl 5 rfl) ?_
        refine xr_Vi C hA G (kx0_mirrored zl D ad sa cc tt X pT v5_53x hT hc) hT.2 (xE_c hT.1) rfl (cwV 1 C.2.2.2.2.1 gX0_viewFrom_X0_mirrored rfl rfl rfl (by decide +kernel) ⟨Nat.le_of_ble_eq_true rfl, Nat.le_of_ble_eq_true rfl⟩) rfl hl.1 rfl (Nat.le_of_ble_eq_true rfl) dX0_viewFrom_112 ⟨Nat.le_refl _, Nat.le_refl _⟩ (fun H locs G => ?_)
        refine lv_ior hx hb dX0_viewFrom_115 ?_
        refine lv_goto (tgt := 121) hx hb dX0_viewFrom_116 (by decide) ?_
        exact hret _ _ _ _ _ _ (by rw [hF]) G dX0_viewFrom_121
    have hloop53 : ∀ (f : Nat) (kb : Nat) (v5_53 : Int32), (kb ≤ 10 ∧ 10 < kb + f) → (kbx, v5_53x) = x0_viewFrom_L53 X pT a sight between f kb v5_53 → ∀ (H : Heap) (locs : List Loc) (ls : Array Slot), lv_has ls 7 [(0, .ref (ad pT)), (1, .int (nI q)), (2, .int (nI a)), (3, .int sight), (4, .int between), (5, .int v5_53), (6, .int (nI kb))] → xG D ad sa cc tt zA zs.heap H locs X → W zp zl ze ({ frames := 2, cells := 0, slots := 0, locals := 44 } : Room) zs zm zg zb zt zc H locs 0 0 zQ (F0 zm 53 ls []) := by
      intro f
      induction f with
      | zero =>
        intro kb v5_53 hI hL53 H locs ls hl G
        exact absurd hI (by omega)
      | succ f ih =>
        intro kb v5_53 hI hL53 H locs ls hl G
        rw [x0_viewFrom_L53_s] at hL53
        refine lv_iload hx hb dX0_viewFrom_53 (lv_at hl 6 rfl) ?_
        refine lv_aload_n hx hb dX0_viewFrom_55 rfl (lv_at hl 0 rfl) ?_
        refine xr_get C G hT.2 (xE_c hT.1) rfl (fun _ h => List.mem_cons_of_mem _ (List.mem_append_right _ h)) 0 (by decide) (show Cond.fieldLink RX0 9 "WheatCounts$Estate" "cells" "I" ∈ _ by decide +kernel) rfl dX0_viewFrom_56 ?_
        refine lv_icmp_ge (tgt := 97) hx hb dX0_viewFrom_59 (by decide) (fun c59 => ?_) (fun c59 => ?_)
        · rw [if_pos c59] at hL53
          cases hL53
          exact hrest53 _ _ _ (lv_sub hl [0, 1, 2, 3, 4, 5, 6] rfl) G
        · rw [if_neg c59] at hL53
          have hk2 := lp_lt hc.1 c59 (by omega) (by omega)
          refine lv_iload hx hb dX0_viewFrom_62 (lv_at hl 6 rfl) ?_
          refine lv_iload_n hx hb dX0_viewFrom_64 rfl (lv_at hl 2 rfl) ?_
          refine lv_iload_n hx hb dX0_viewFrom_65 rfl (lv_at hl 3 rfl) ?_
          refine lv_iadd hx hb dX0_viewFrom_66 ?_
          refine lv_icmp_gt (tgt := 97) hx hb dX0_viewFrom_67 (by decide) (fun c67 => ?_) (fun c67 => ?_)
          · rw [if_pos c67] at hL53
            cases hL53
            exact hrest53 _ _ _ (lv_sub hl [0, 1, 2, 3, 4, 5, 6] rfl) G
          · rw [if_neg c67] at hL53
            refine lv_iload hx hb dX0_viewFrom_70 (lv_at hl 4 rfl) ?_
            refine lv_iload hx hb dX0_viewFrom_72 (lv_at hl 6 rfl) ?_
            refine lv_iconst (v := 1) hx hb dX0_viewFrom_74 (by decide) ?_
            refine lv_isub hx hb dX0_viewFrom_75 ?_
            refine xr_psn C hA G (ks_X8_has zl between ((nI kb) - 1)) ⟨va_cnB 2 C.2.2.2.2.1 gX0_viewFrom_X8_has_n103 rfl rfl rfl (C.2.2.2.2.2.2.1 _ (List.mem_of_getElem? (i := 0) rfl)) (C.2.2.2.2.1 (.initialized RX8) (by decide +kernel)) (by decide +kernel) ⟨Nat.le_of_ble_eq_true rfl, Nat.le_of_ble_eq_true rfl⟩, C.2.2.2.2.1 (.static yX8_has) (by decide +kernel), trivial⟩ rfl hl.1 rfl (Nat.le_of_ble_eq_true rfl) dX0_viewFrom_76 ⟨Nat.le_refl _, Nat.le_refl _⟩ (fun H locs G => ?_)
            refine lv_if_ne (tgt := 97) hx hb dX0_viewFrom_79 (by decide) (fun c79 => ?_) (fun c79 => ?_)
            · rw [if_neg c79] at hL53
              cases hL53
              exact hrest53 _ _ _ (lv_sub hl [0, 1, 2, 3, 4, 5, 6] rfl) G
            · rw [if_pos c79] at hL53
              refine lv_iload hx hb dX0_viewFrom_82 (lv_at hl 5 rfl) ?_
              refine lv_iconst (v := 1) hx hb dX0_viewFrom_84 (by decide) ?_
              refine lv_iload hx hb dX0_viewFrom_85 (lv_at hl 6 rfl) ?_
              refine lv_ishl hx hb dX0_viewFrom_87 ?_
              refine lv_ior hx hb dX0_viewFrom_88 ?_
              refine lv_topi (fun x89 hx89 => ?_)
              rw [lt_e hx89] at hL53
              refine lv_istore (lv' := [(5, .int x89), (0, .ref (ad pT)), (1, .int (nI q)), (2, .int (nI a)), (3, .int sight), (4, .int between), (6, .int (nI kb))]) hx hb dX0_viewFrom_89 hl (by decide) rfl (fun ls hl => ?_)
              refine lv_iinc (v := nI (kb + 1)) (lv' := [(6, .int (nI (kb + 1))), (5, .int x89), (0, .ref (ad pT)), (1, .int (nI q)), (2, .int (nI a)), (3, .int sight), (4, .int between)]) hx hb dX0_viewFrom_91 hl (k := 6) rfl (nt_add rfl (show (1 : Int32) = nI 1 from rfl)) (by decide) rfl (fun ls hl => ?_)
              refine lv_goto (tgt := 53) hx hb dX0_viewFrom_94 (by decide) ?_
              exact ih (kb + 1) x89 ⟨by omega, by omega⟩ hL53 _ _ _ (lv_sub hl [2, 3, 4, 5, 6, 1, 0] rfl) G
    exact hloop53 _ _ _ ⟨by omega, by show 10 < _ + 11; omega⟩ hX53 _ _ _ (lv_sub hl [1, 2, 3, 4, 5, 6, 0] rfl) G
  have hloop10 : ∀ (f : Nat) (v6_10 : Int32) (v5_10 : Int32), (vfi v6_10 f) → (v6_10x, v5_10x) = x0_viewFrom_L10 a sight between f v6_10 v5_10 → ∀ (H : Heap) (locs : List Loc) (ls : Array Slot), lv_has ls 7 [(0, .ref (ad pT)), (1, .int (nI q)), (2, .int (nI a)), (3, .int sight), (4, .int between), (5, .int v5_10), (6, .int v6_10)] → xG D ad sa cc tt zA zs.heap H locs X → W zp zl ze ({ frames := 2, cells := 0, slots := 0, locals := 44 } : Room) zs zm zg zb zt zc H locs 0 0 zQ (F0 zm 10 ls []) := by
    intro f
    induction f with
    | zero =>
      intro v6_10 v5_10 hI hL10 H locs ls hl G
      exact absurd hI vfi_0
    | succ f ih =>
      intro v6_10 v5_10 hI hL10 H locs ls hl G
      rw [x0_viewFrom_L10_s] at hL10
      refine lv_iload hx hb dX0_viewFrom_10 (lv_at hl 6 rfl) ?_
      refine lv_if_lt (tgt := 48) hx hb dX0_viewFrom_12 (by decide) (fun c12 => ?_) (fun c12 => ?_)
      · rw [if_pos c12] at hL10
        cases hL10
        exact hrest10 _ _ _ (lv_sub hl [0, 1, 2, 3, 4, 5, 6] rfl) G
      · rw [if_neg c12] at hL10
        refine lv_iload hx hb dX0_viewFrom_15 (lv_at hl 6 rfl) ?_
        refine lv_iload_n hx hb dX0_viewFrom_17 rfl (lv_at hl 2 rfl) ?_
        refine lv_iload_n hx hb dX0_viewFrom_18 rfl (lv_at hl 3 rfl) ?_
        refine lv_isub hx hb dX0_viewFrom_19 ?_
        refine lv_icmp_lt (tgt := 48) hx hb dX0_viewFrom_20 (by decide) (fun c20 => ?_) (fun c20 => ?_)
        · rw [if_pos c20] at hL10
          cases hL10
          exact hrest10 _ _ _ (lv_sub hl [0, 1, 2, 3, 4, 5, 6] rfl) G
        · rw [if_neg c20] at hL10
          refine lv_iload hx hb dX0_viewFrom_23 (lv_at hl 4 rfl) ?_
          refine lv_iload hx hb dX0_viewFrom_25 (lv_at hl 6 rfl) ?_
          refine xr_psn C hA G (ks_X8_has zl between v6_10) ⟨va_cnB 2 C.2.2.2.2.1 gX0_viewFrom_X8_has_n103 rfl rfl rfl (C.2.2.2.2.2.2.1 _ (List.mem_of_getElem? (i := 0) rfl)) (C.2.2.2.2.1 (.initialized RX8) (by decide +kernel)) (by decide +kernel) ⟨Nat.le_of_ble_eq_true rfl, Nat.le_of_ble_eq_true rfl⟩, C.2.2.2.2.1 (.static yX8_has) (by decide +kernel), trivial⟩ rfl hl.1 rfl (Nat.le_of_ble_eq_true rfl) dX0_viewFrom_27 ⟨Nat.le_refl _, Nat.le_refl _⟩ (fun H locs G => ?_)
          refine lv_if_ne (tgt := 48) hx hb dX0_viewFrom_30 (by decide) (fun c30 => ?_) (fun c30 => ?_)
          · rw [if_neg c30] at hL10
            cases hL10
            exact hrest10 _ _ _ (lv_sub hl [0, 1, 2, 3, 4, 5, 6] rfl) G
          · rw [if_pos c30] at hL10
            refine lv_iload hx hb dX0_viewFrom_33 (lv_at hl 5 rfl) ?_
            refine lv_iconst (v := 1) hx hb dX0_viewFrom_35 (by decide) ?_
            refine lv_iload hx hb dX0_viewFrom_36 (lv_at hl 6 rfl) ?_
            refine lv_ishl hx hb dX0_viewFrom_38 ?_
            refine lv_ior hx hb dX0_viewFrom_39 ?_
            refine lv_topi (fun x40 hx40 => ?_)
            rw [lt_e hx40] at hL10
            refine lv_istore (lv' := [(5, .int x40), (0, .ref (ad pT)), (1, .int (nI q)), (2, .int (nI a)), (3, .int sight), (4, .int between), (6, .int v6_10)]) hx hb dX0_viewFrom_40 hl (by decide) rfl (fun ls hl => ?_)
            refine lv_iinc (v := (v6_10 + (-1))) (lv' := [(6, .int (v6_10 + (-1))), (5, .int x40), (0, .ref (ad pT)), (1, .int (nI q)), (2, .int (nI a)), (3, .int sight), (4, .int between)]) hx hb dX0_viewFrom_42 hl (k := 6) rfl rfl (by decide) rfl (fun ls hl => ?_)
            refine lv_goto (tgt := 10) hx hb dX0_viewFrom_45 (by decide) ?_
            exact ih (v6_10 + (-1)) x40 (vfi_step hI c12) hL10 _ _ _ (lv_sub hl [2, 3, 4, 5, 6, 1, 0] rfl) G
  exact hloop10 _ _ _ ⟨a, by omega, by show a < 11; omega, hx8⟩ hX10 _ _ _ (lv_sub hl [2, 3, 4, 5, 6, 1, 0] rfl) G
set_option maxRecDepth 100000 in
set_option maxHeartbeats 4000000 in
theorem kx0_goOn (zl : Launch) (D : va_G) (ad sa : Nat → Nat) (cc : cT) (tt : tT) (X : xS) (pT : Nat) (q : Nat) (hT : kE pT) (hq : q < 8) : xMv zl D ad sa cc tt yX0_goOn wsX0_goOn ({ frames := 1, cells := 0, slots := 0, locals := 22 } : Room) [.ref (ad pT), .int (nI q)] X (x0_goOn X pT q) := by
  refine xMv_of (code := cX0_goOn) (nL := 3) (own := RX0) (by decide) rfl rfl (Nat.le_of_ble_eq_true rfl) ?_
  intro zp ze zs zm zg zb zt zc zA zQ C hA hret H locs ls hl G
  have hx := C.1
  have hb := C.2.1
  have hl : lv_has ls 3 [(0, .ref (ad pT)), (1, .int (nI q))] := hl
  obtain ⟨rM, hF⟩ : ∃ Z : xS, Z = x0_goOn X pT q := ⟨_, rfl⟩
  rw [← hF] at hret
  unfold x0_goOn at hF
  refine lv_aload_n hx hb dX0_goOn_0 rfl (lv_at hl 0 rfl) ?_
  refine xr_get C G hT.2 (xE_c hT.1) rfl (fun _ h => List.mem_cons_of_mem _ (List.mem_append_right _ h)) 12 (by decide) (show Cond.fieldLink RX0 31 "WheatCounts$Estate" "at" "[I" ∈ _ by decide +kernel) rfl dX0_goOn_1 ?_
  refine lv_iload_n hx hb dX0_goOn_4 rfl (lv_at hl 1 rfl) ?_
  refine xr_ald C G (xE_6 hT).2 (xI_c (xE_6 hT).1 _) q rfl (by omega) (xI_lt (xE_6 hT)) dX0_goOn_5 ?_
  refine lv_aload_n hx hb dX0_goOn_6 rfl (lv_at hl 0 rfl) ?_
  refine xr_get C G hT.2 (xE_c hT.1) rfl (fun _ h => List.mem_cons_of_mem _ (List.mem_append_right _ h)) 13 (by decide) (show Cond.fieldLink RX0 34 "WheatCounts$Estate" "way" "[I" ∈ _ by decide +kernel) rfl dX0_goOn_7 ?_
  refine lv_iload_n hx hb dX0_goOn_10 rfl (lv_at hl 1 rfl) ?_
  refine xr_ald C G (xE_7 hT).2 (xI_c (xE_7 hT).1 _) q rfl (by omega) (xI_lt (xE_7 hT)) dX0_goOn_11 ?_
  refine lv_iadd hx hb dX0_goOn_12 ?_
  refine lv_topi (fun x13 hx13 => ?_)
  rw [lt_e hx13] at hF
  refine lv_istore_n (lv' := [(2, .int x13), (0, .ref (ad pT)), (1, .int (nI q))]) hx hb dX0_goOn_13 rfl hl (by decide) rfl (fun ls hl => ?_)
  refine lv_iload_n hx hb dX0_goOn_14 rfl (lv_at hl 0 rfl) ?_
  refine lv_iconst (v := 0) hx hb dX0_goOn_15 (by decide) ?_
  refine lv_aload_n hx hb dX0_goOn_16 rfl (lv_at hl 1 rfl) ?_
  refine xr_get C G hT.2 (xE_c hT.1) rfl (fun _ h => List.mem_cons_of_mem _ (List.mem_append_right _ h)) 0 (by decide) (show Cond.fieldLink RX0 9 "WheatCounts$Estate" "cells" "I" ∈ _ by decide +kernel) rfl dX0_goOn_17 ?_
  refine lv_iconst (v := 1) hx hb dX0_goOn_20 (by decide) ?_
  refine lv_isub hx hb dX0_goOn_21 ?_
  refine xr_psn C hA G (ks_X8_within zl x13 0 ((X pT 0) - 1)) ⟨va_cnB 3 C.2.2.2.2.1 gX0_goOn_X8_within_n162 rfl rfl rfl (C.2.2.2.2.2.2.1 _ (List.mem_of_getElem? (i := 2) rfl)) (C.2.2.2.2.1 (.initialized RX8) (by decide +kernel)) (by decide +kernel) ⟨Nat.le_of_ble_eq_true rfl, Nat.le_of_ble_eq_true rfl⟩, C.2.2.2.2.1 (.static yX8_within) (by decide +kernel), trivial⟩ rfl hl.1 rfl (Nat.le_of_ble_eq_true rfl) dX0_goOn_22 ⟨Nat.le_refl _, Nat.le_refl _⟩ (fun H locs G => ?_)
  obtain ⟨X51, hX51⟩ : ∃ (X51 : xS), X51 = ((if (p8_within x13 0 ((X pT 0) - 1)) = 0 then (lt (mU X (pT + 7) q (-(X (pT + 7) q))) fun (X50 : xS) => X50) else (lt (mU X (pT + 6) q x13) fun (X34 : xS) => X34)) : xS) := ⟨_, rfl⟩
  rw [lt_e hX51] at hF
  have hj51 : ∀ (H : Heap) (locs : List Loc) (ls : Array Slot), lv_has ls 3 [(0, .ref (ad pT)), (1, .int (nI q)), (2, .int x13)] → xG D ad sa cc tt zA zs.heap H locs X51 → W zp zl ze ({ frames := 1, cells := 0, slots := 0, locals := 22 } : Room) zs zm zg zb zt zc H locs 0 0 zQ (F0 zm 51 ls []) := by
    intro H locs ls hl G
    exact hret _ _ _ _ _ hF G dX0_goOn_51
  refine lv_if_eq (tgt := 38) hx hb dX0_goOn_25 (by decide) (fun c25 => ?_) (fun c25 => ?_)
  · rw [if_pos c25] at hX51
    refine lv_aload_n hx hb dX0_goOn_38 rfl (lv_at hl 1 rfl) ?_
    refine xr_get C G hT.2 (xE_c hT.1) rfl (fun _ h => List.mem_cons_of_mem _ (List.mem_append_right _ h)) 13 (by decide) (show Cond.fieldLink RX0 34 "WheatCounts$Estate" "way" "[I" ∈ _ by decide +kernel) rfl dX0_goOn_39 ?_
    refine lv_iload_n hx hb dX0_goOn_42 rfl (lv_at hl 2 rfl) ?_
    refine lv_aload_n hx hb dX0_goOn_43 rfl (lv_at hl 1 rfl) ?_
    refine xr_get C G hT.2 (xE_c hT.1) rfl (fun _ h => List.mem_cons_of_mem _ (List.mem_append_right _ h)) 13 (by decide) (show Cond.fieldLink RX0 34 "WheatCounts$Estate" "way" "[I" ∈ _ by decide +kernel) rfl dX0_goOn_44 ?_
    refine lv_iload_n hx hb dX0_goOn_47 rfl (lv_at hl 2 rfl) ?_
    refine xr_ald C G (xE_7 hT).2 (xI_c (xE_7 hT).1 _) q rfl (by omega) (xI_lt (xE_7 hT)) dX0_goOn_48 ?_
    refine lv_ineg hx hb dX0_goOn_49 ?_
    refine xr_ast C G (xE_7 hT).2 (xI_c (xE_7 hT).1) q rfl (by omega) (xI_lt (xE_7 hT)) dX0_goOn_50 (fun H locs G => ?_)
    obtain ⟨X50, hX50⟩ : ∃ Z : xS, Z = mU X (pT + 7) q (-(X (pT + 7) q)) := ⟨_, rfl⟩
    have G : xG D ad sa cc tt zA zs.heap H locs X50 := by rw [hX50]; exact G
    rw [lt_e hX50] at hX51
    subst hX51
    exact hj51 _ _ _ (lv_sub hl [1, 2, 0] rfl) G
  · rw [if_neg c25] at hX51
    refine lv_aload_n hx hb dX0_goOn_28 rfl (lv_at hl 1 rfl) ?_
    refine xr_get C G hT.2 (xE_c hT.1) rfl (fun _ h => List.mem_cons_of_mem _ (List.mem_append_right _ h)) 12 (by decide) (show Cond.fieldLink RX0 31 "WheatCounts$Estate" "at" "[I" ∈ _ by decide +kernel) rfl dX0_goOn_29 ?_
    refine lv_iload_n hx hb dX0_goOn_32 rfl (lv_at hl 2 rfl) ?_
    refine lv_iload_n hx hb dX0_goOn_33 rfl (lv_at hl 0 rfl) ?_
    refine xr_ast C G (xE_6 hT).2 (xI_c (xE_6 hT).1) q rfl (by omega) (xI_lt (xE_6 hT)) dX0_goOn_34 (fun H locs G => ?_)
    obtain ⟨X34, hX34⟩ : ∃ Z : xS, Z = mU X (pT + 6) q x13 := ⟨_, rfl⟩
    have G : xG D ad sa cc tt zA zs.heap H locs X34 := by rw [hX34]; exact G
    rw [lt_e hX34] at hX51
    refine lv_goto (tgt := 51) hx hb dX0_goOn_35 (by decide) ?_
    subst hX51
    exact hj51 _ _ _ (lv_sub hl [1, 2, 0] rfl) G
set_option maxRecDepth 100000 in
set_option maxHeartbeats 4000000 in
theorem kx0_draw (zl : Launch) (D : va_G) (ad sa : Nat → Nat) (cc : cT) (tt : tT) (X : xS) (pT : Nat) (hT : kE pT) : xM zl D ad sa cc tt yX0_draw wsX0_draw ({ frames := 0, cells := 0, slots := 0, locals := 0 } : Room) [.ref (ad pT)] X (x0_draw X pT) := by
  refine xM_of (code := cX0_draw) (nL := 1) (own := RX0) (by decide) rfl rfl (Nat.le_of_ble_eq_true rfl) ?_
  intro zp ze zs zm zg zb zt zc zA zQ C hA hret H locs ls hl G
  have hx := C.1
  have hb := C.2.1
  have hl : lv_has ls 1 [(0, .ref (ad pT))] := hl
  obtain ⟨rM, hF⟩ : ∃ Z : Int32 × xS, Z = x0_draw X pT := ⟨_, rfl⟩
  rw [← hF] at hret
  unfold x0_draw at hF
  refine lv_aload_n hx hb dX0_draw_0 rfl (lv_at hl 0 rfl) ?_
  refine lv_aload_n hx hb dX0_draw_1 rfl (lv_at hl 0 rfl) ?_
  refine xr_get C G hT.2 (xE_c hT.1) rfl (fun _ h => List.mem_cons_of_mem _ (List.mem_append_right _ h)) 18 (by decide) (show Cond.fieldLink RX0 49 "WheatCounts$Estate" "z" "I" ∈ _ by decide +kernel) rfl dX0_draw_2 ?_
  refine lv_ldc (v := 1103515245) hx hb C.2.2.2.1 (C.2.2.2.2.1 (.constant RX0 170 (1103515245)) (by decide +kernel)) dX0_draw_5 ?_
  refine lv_imul hx hb dX0_draw_7 ?_
  refine lv_sipush (v := 12345) hx hb dX0_draw_8 (by decide) ?_
  refine lv_iadd hx hb dX0_draw_11 ?_
  refine xr_put C G hT.2 (xE_c hT.1) rfl (fun _ h => List.mem_cons_of_mem _ (List.mem_append_right _ h)) tyX0 tyX0_ok nmX0 18 (by decide) rfl (show Cond.fieldLink RX0 49 "WheatCounts$Estate" "z" "I" ∈ _ by decide +kernel) (ty := .int) (by decide +kernel) rfl rfl (Nat.le_of_ble_eq_true rfl) (upd (X pT) 18 (((X pT 18) * 1103515245) + 12345)) (xE_c hT.1) dX0_draw_12 (fun H locs G => ?_)
  obtain ⟨X12, hX12⟩ : ∃ Z : xS, Z = mU X pT 18 (((X pT 18) * 1103515245) + 12345) := ⟨_, rfl⟩
  have G : xG D ad sa cc tt zA zs.heap H locs X12 := by rw [hX12]; exact G
  rw [lt_e hX12] at hF
  refine lv_aload_n hx hb dX0_draw_15 rfl (lv_at hl 0 rfl) ?_
  refine xr_get C G hT.2 (xE_c hT.1) rfl (fun _ h => List.mem_cons_of_mem _ (List.mem_append_right _ h)) 18 (by decide) (show Cond.fieldLink RX0 49 "WheatCounts$Estate" "z" "I" ∈ _ by decide +kernel) rfl dX0_draw_16 ?_
  refine lv_bipush (v := 8) hx hb dX0_draw_19 (by decide) ?_
  refine lv_iushr (v := ((X12 pT 18).toUInt32 >>> ((8 : Int32).toUInt32 &&& Int32.toUInt32 31)).toInt32) hx hb dX0_draw_21 rfl ?_
  exact hret _ _ _ _ _ _ hF G dX0_draw_22
set_option maxRecDepth 100000 in
set_option maxHeartbeats 4000000 in
theorem kx0_turnOneByDraws (zl : Launch) (D : va_G) (ad sa : Nat → Nat) (cc : cT) (tt : tT) (X : xS) (pT : Nat) (hT : kE pT) (hp : eP X pT) : xMv zl D ad sa cc tt yX0_turnOneByDraws wsX0_turnOneByDraws ({ frames := 1, cells := 0, slots := 0, locals := 20 } : Room) [.ref (ad pT)] X (x0_turnOneByDraws X pT) := by
  refine xMv_of (code := cX0_turnOneByDraws) (nL := 2) (own := RX0) (by decide) rfl rfl (Nat.le_of_ble_eq_true rfl) ?_
  intro zp ze zs zm zg zb zt zc zA zQ C hA hret H locs ls hl G
  have hx := C.1
  have hb := C.2.1
  have hl : lv_has ls 2 [(0, .ref (ad pT))] := hl
  obtain ⟨rM, hF⟩ : ∃ Z : xS, Z = x0_turnOneByDraws X pT := ⟨_, rfl⟩
  rw [← hF] at hret
  unfold x0_turnOneByDraws at hF
  have hp2 := hp.2
  refine lv_aload_n hx hb dX0_turnOneByDraws_0 rfl (lv_at hl 0 rfl) ?_
  refine xr_get C G hT.2 (xE_c hT.1) rfl (fun _ h => List.mem_cons_of_mem _ (List.mem_append_right _ h)) 9 (by decide) (show Cond.fieldLink RX0 73 "WheatCounts$Estate" "people" "I" ∈ _ by decide +kernel) rfl dX0_turnOneByDraws_1 ?_
  obtain ⟨X31, hX31⟩ : ∃ (X31 : xS), X31 = ((if (X pT 9) ≤ 0 then X else (lt2 (x0_draw X pT) fun (x8 : Int32) (X8 : xS) => lt (x8 - x8 / (X8 pT 9) * (X8 pT 9)) fun (x16 : Int32) => lt2 (x0_draw X8 pT) fun (x23 : Int32) (X23 : xS) => lt (mU X23 (pT + 7) (vn x16) ((x23 - x23 / 3 * 3) - 1)) fun (X30 : xS) => X30)) : xS) := ⟨_, rfl⟩
  rw [lt_e hX31] at hF
  have hj31 : ∀ (H : Heap) (locs : List Loc) (ls : Array Slot), lv_has ls 2 [(0, .ref (ad pT))] → xG D ad sa cc tt zA zs.heap H locs X31 → W zp zl ze ({ frames := 1, cells := 0, slots := 0, locals := 20 } : Room) zs zm zg zb zt zc H locs 0 0 zQ (F0 zm 31 ls []) := by
    intro H locs ls hl G
    exact hret _ _ _ _ _ hF G dX0_turnOneByDraws_31
  refine lv_if_le (tgt := 31) hx hb dX0_turnOneByDraws_4 (by decide) (fun c4 => ?_) (fun c4 => ?_)
  · rw [if_pos c4] at hX31
    subst hX31
    exact hj31 _ _ _ (lv_sub hl [0] rfl) G
  · rw [if_neg c4] at hX31
    have hm0 : 0 < vn (X pT 9) := Nat.pos_of_ne_zero (fun e9 => c4 (by rw [hp.1, e9]; decide))
    refine lv_aload_n hx hb dX0_turnOneByDraws_7 rfl (lv_at hl 0 rfl) ?_
    obtain ⟨x8, X8, hx8⟩ : ∃ (Z : Int32) (Y : xS), (Z, Y) = x0_draw X pT := ⟨_, _, rfl⟩
    refine xr_Vi (r0 := x8) (X2 := X8) C hA G (by rw [hx8]; exact (kx0_draw zl D ad sa cc tt X pT hT)) hT.2 (xE_c hT.1) rfl (cwV 0 C.2.2.2.2.1 gX0_turnOneByDraws_X0_draw rfl rfl rfl (by decide +kernel) ⟨Nat.le_of_ble_eq_true rfl, Nat.le_of_ble_eq_true rfl⟩) rfl hl.1 rfl (Nat.le_of_ble_eq_true rfl) dX0_turnOneByDraws_8 ⟨Nat.le_refl _, Nat.le_refl _⟩ (fun H locs G => ?_)
    rw [lt2_e hx8] at hX31
    have h89 : X8 pT 9 = nI (vn (X pT 9)) := by rw [xdr_9 hx8]; exact hp.1
    have hn0 : ¬ X8 pT 9 = 0 := by rw [h89]; exact nI_ne0 hm0 (by omega)
    refine lv_aload_n hx hb dX0_turnOneByDraws_11 rfl (lv_at hl 0 rfl) ?_
    refine xr_get C G hT.2 (xE_c hT.1) rfl (fun _ h => List.mem_cons_of_mem _ (List.mem_append_right _ h)) 9 (by decide) (show Cond.fieldLink RX0 73 "WheatCounts$Estate" "people" "I" ∈ _ by decide +kernel) rfl dX0_turnOneByDraws_12 ?_
    refine lv_irem hx hb dX0_turnOneByDraws_15 hn0 ?_
    refine lv_topi (fun x16 hx16 => ?_)
    rw [lt_e hx16] at hX31
    refine lv_istore_n (lv' := [(1, .int x16), (0, .ref (ad pT))]) hx hb dX0_turnOneByDraws_16 rfl hl (by decide) rfl (fun ls hl => ?_)
    have hd := xdr_lt (y := x16) hx8 (by rw [hx16, h89]) hm0 (by omega)
    have hd2 := hd.2
    refine lv_aload_n hx hb dX0_turnOneByDraws_17 rfl (lv_at hl 1 rfl) ?_
    refine xr_get C G hT.2 (xE_c hT.1) rfl (fun _ h => List.mem_cons_of_mem _ (List.mem_append_right _ h)) 13 (by decide) (show Cond.fieldLink RX0 34 "WheatCounts$Estate" "way" "[I" ∈ _ by decide +kernel) rfl dX0_turnOneByDraws_18 ?_
    refine lv_iload_n hx hb dX0_turnOneByDraws_21 rfl (lv_at hl 0 rfl) ?_
    refine lv_aload_n hx hb dX0_turnOneByDraws_22 rfl (lv_at hl 1 rfl) ?_
    obtain ⟨x23, X23, hx23⟩ : ∃ (Z : Int32) (Y : xS), (Z, Y) = x0_draw X8 pT := ⟨_, _, rfl⟩
    refine xr_Vi (r0 := x23) (X2 := X23) C hA G (by rw [hx23]; exact (kx0_draw zl D ad sa cc tt X8 pT hT)) hT.2 (xE_c hT.1) rfl (cwV 0 C.2.2.2.2.1 gX0_turnOneByDraws_X0_draw rfl rfl rfl (by decide +kernel) ⟨Nat.le_of_ble_eq_true rfl, Nat.le_of_ble_eq_true rfl⟩) rfl hl.1 rfl (Nat.le_of_ble_eq_true rfl) dX0_turnOneByDraws_23 ⟨Nat.le_refl _, Nat.le_refl _⟩ (fun H locs G => ?_)
    rw [lt2_e hx23] at hX31
    refine lv_iconst (v := 3) hx hb dX0_turnOneByDraws_26 (by decide) ?_
    refine lv_irem hx hb dX0_turnOneByDraws_27 (by decide) ?_
    refine lv_iconst (v := 1) hx hb dX0_turnOneByDraws_28 (by decide) ?_
    refine lv_isub hx hb dX0_turnOneByDraws_29 ?_
    refine xr_ast C G (xE_7 hT).2 (xI_c (xE_7 hT).1) (vn x16) hd.1 (by omega) (xI_lt (xE_7 hT)) dX0_turnOneByDraws_30 (fun H locs G => ?_)
    obtain ⟨X30, hX30⟩ : ∃ Z : xS, Z = mU X23 (pT + 7) (vn x16) ((x23 - x23 / 3 * 3) - 1) := ⟨_, rfl⟩
    have G : xG D ad sa cc tt zA zs.heap H locs X30 := by rw [hX30]; exact G
    rw [lt_e hX30] at hX31
    subst hX31
    exact hj31 _ _ _ (lv_sub hl [1] rfl) G
set_option maxRecDepth 100000 in
set_option maxHeartbeats 4000000 in
theorem kx0_addUpLeaning (zl : Launch) (D : va_G) (ad sa : Nat → Nat) (cc : cT) (tt : tT) (X : xS) (pT : Nat) (hT : kE pT) (hc : eC X pT) : xMv zl D ad sa cc tt yX0_addUpLeaning wsX0_addUpLeaning ({ frames := 1, cells := 0, slots := 0, locals := 21 } : Room) [.ref (ad pT)] X (x0_addUpLeaning X pT) := by
  refine xMv_of (code := cX0_addUpLeaning) (nL := 3) (own := RX0) (by decide) rfl rfl (Nat.le_of_ble_eq_true rfl) ?_
  intro zp ze zs zm zg zb zt zc zA zQ C hA hret H locs ls hl G
  have hx := C.1
  have hb := C.2.1
  have hl : lv_has ls 3 [(0, .ref (ad pT))] := hl
  obtain ⟨rM, hF⟩ : ∃ Z : xS, Z = x0_addUpLeaning X pT := ⟨_, rfl⟩
  rw [← hF] at hret
  unfold x0_addUpLeaning at hF
  have hc2 := hc.2.1
  have hc3 := hc.2.2
  refine lv_iconst (v := 0) hx hb dX0_addUpLeaning_0 (by decide) ?_
  refine lv_istore_n (lv' := [(1, .int 0), (0, .ref (ad pT))]) hx hb dX0_addUpLeaning_1 rfl hl (by decide) rfl (fun ls hl => ?_)
  obtain ⟨X2x, hX2⟩ : ∃ (X2x : xS), X2x = x0_addUpLeaning_L2 X pT (vn (X pT 0) - 1) := ⟨_, rfl⟩
  rw [lt_e hX2] at hF
  have hrest2 : ∀ (H : Heap) (locs : List Loc) (ls : Array Slot), lv_has ls 3 [(0, .ref (ad pT)), (1, .int (nI (vn (X pT 0) - 1)))] → xG D ad sa cc tt zA zs.heap H locs X2x → W zp zl ze ({ frames := 1, cells := 0, slots := 0, locals := 21 } : Room) zs zm zg zb zt zc H locs 0 0 zQ (F0 zm 76 ls []) := by
    intro H locs ls hl G
    exact hret _ _ _ _ _ hF G dX0_addUpLeaning_76
  have hloop2 : ∀ (zj k2 : Nat), zj + k2 = (vn (X pT 0) - 1) → ∀ (X2 : xS), X2 = x0_addUpLeaning_L2 X pT k2 → ∀ (H : Heap) (locs : List Loc) (ls : Array Slot), lv_has ls 3 [(0, .ref (ad pT)), (1, .int (nI k2))] → xG D ad sa cc tt zA zs.heap H locs X2 → W zp zl ze ({ frames := 1, cells := 0, slots := 0, locals := 21 } : Room) zs zm zg zb zt zc H locs 0 0 zQ (F0 zm 2 ls []) := by
    intro zj
    induction zj with
    | zero =>
      intro k2 hk X2 hL H locs ls hl G
      have hk : k2 = (vn (X pT 0) - 1) := by omega
      rw [hk] at hL hl
      have hr2 : X2 pT = X pT := by rw [hL]; exact xaL _ _ _
      refine lv_iload_n hx hb dX0_addUpLeaning_2 rfl (lv_at hl 1 rfl) ?_
      refine lv_aload_n hx hb dX0_addUpLeaning_3 rfl (lv_at hl 0 rfl) ?_
      refine xr_get C G hT.2 (xE_c hT.1) rfl (fun _ h => List.mem_cons_of_mem _ (List.mem_append_right _ h)) 0 (by decide) (show Cond.fieldLink RX0 9 "WheatCounts$Estate" "cells" "I" ∈ _ by decide +kernel) rfl dX0_addUpLeaning_4 ?_
      refine lv_iconst (v := 1) hx hb dX0_addUpLeaning_7 (by decide) ?_
      refine lv_isub hx hb dX0_addUpLeaning_8 ?_
      refine lv_icmp_ge (tgt := 76) hx hb dX0_addUpLeaning_9 (by decide) (fun c9 => ?_) (fun c9 => absurd (lp_out (n := (vn (X pT 0) - 1)) (by rw [hr2]; exact nt_sub hc.1 (show (1 : Int32) = nI 1 from rfl) (by omega))) c9)
      obtain rfl := hL.trans hX2.symm
      exact hrest2 _ _ _ (lv_sub hl [0, 1] rfl) G
    | succ zj ih =>
      intro k2 hk X2 hL H locs ls hl G
      have hkn : k2 < (vn (X pT 0) - 1) := by omega
      obtain ⟨X2s, hS0⟩ : ∃ (X2s : xS), X2s = x0_addUpLeaning_L2 X pT (k2 + 1) := ⟨_, rfl⟩
      have hS := hS0
      rw [x0_addUpLeaning_L2_s, lt_e hL] at hS
      have hr2 : X2 pT = X pT := by rw [hL]; exact xaL _ _ _
      refine lv_iload_n hx hb dX0_addUpLeaning_2 rfl (lv_at hl 1 rfl) ?_
      refine lv_aload_n hx hb dX0_addUpLeaning_3 rfl (lv_at hl 0 rfl) ?_
      refine xr_get C G hT.2 (xE_c hT.1) rfl (fun _ h => List.mem_cons_of_mem _ (List.mem_append_right _ h)) 0 (by decide) (show Cond.fieldLink RX0 9 "WheatCounts$Estate" "cells" "I" ∈ _ by decide +kernel) rfl dX0_addUpLeaning_4 ?_
      refine lv_iconst (v := 1) hx hb dX0_addUpLeaning_7 (by decide) ?_
      refine lv_isub hx hb dX0_addUpLeaning_8 ?_
      refine lv_icmp_ge (tgt := 76) hx hb dX0_addUpLeaning_9 (by decide) (fun c9 => absurd c9 (lp_in (n := (vn (X pT 0) - 1)) (by rw [hr2]; exact nt_sub hc.1 (show (1 : Int32) = nI 1 from rfl) (by omega)) hkn (by omega))) (fun c9 => ?_)
      refine lv_aload_n hx hb dX0_addUpLeaning_12 rfl (lv_at hl 0 rfl) ?_
      refine xr_get C G hT.2 (xE_c hT.1) rfl (fun _ h => List.mem_cons_of_mem _ (List.mem_append_right _ h)) 5 (by decide) (show Cond.fieldLink RX0 61 "WheatCounts$Estate" "lean" "I" ∈ _ by decide +kernel) rfl dX0_addUpLeaning_13 ?_
      refine lv_iload_n hx hb dX0_addUpLeaning_16 rfl (lv_at hl 1 rfl) ?_
      refine xr_psn C hA G (ks_X8_has zl (X2 pT 5) (nI k2)) ⟨va_cnB 2 C.2.2.2.2.1 gX0_addUpLeaning_X8_has_n103 rfl rfl rfl (C.2.2.2.2.2.2.1 _ (List.mem_of_getElem? (i := 0) rfl)) (C.2.2.2.2.1 (.initialized RX8) (by decide +kernel)) (by decide +kernel) ⟨Nat.le_of_ble_eq_true rfl, Nat.le_of_ble_eq_true rfl⟩, C.2.2.2.2.1 (.static yX8_has) (by decide +kernel), trivial⟩ rfl hl.1 rfl (Nat.le_of_ble_eq_true rfl) dX0_addUpLeaning_17 ⟨Nat.le_refl _, Nat.le_refl _⟩ (fun H locs G => ?_)
      obtain ⟨X70, hX70⟩ : ∃ (X70 : xS), X70 = ((if (p8_has (X2 pT 5) (nI k2)) = 0 then X2 else (lt ((X2 (pT + 1) k2) - (X2 (pT + 1) k2) / 9 * 9) fun (x32 : Int32) => lt (mU X2 (pT + 1) (k2 + 1) (p8_held (((X2 (pT + 1) (k2 + 1)) + (X2 (pT + 1) k2)) - x32) 99999)) fun (X62 : xS) => lt (mU X62 (pT + 1) k2 x32) fun (X69 : xS) => X69)) : xS) := ⟨_, rfl⟩
      rw [lt_e hX70] at hS
      have hj70 : ∀ (H : Heap) (locs : List Loc) (ls : Array Slot), lv_has ls 3 [(0, .ref (ad pT)), (1, .int (nI k2))] → xG D ad sa cc tt zA zs.heap H locs X70 → W zp zl ze ({ frames := 1, cells := 0, slots := 0, locals := 21 } : Room) zs zm zg zb zt zc H locs 0 0 zQ (F0 zm 70 ls []) := by
        intro H locs ls hl G
        refine lv_iinc (v := nI (k2 + 1)) (lv' := [(1, .int (nI (k2 + 1))), (0, .ref (ad pT))]) hx hb dX0_addUpLeaning_70 hl (k := 1) rfl (nt_add rfl (show (1 : Int32) = nI 1 from rfl)) (by decide) rfl (fun ls hl => ?_)
        refine lv_goto (tgt := 2) hx hb dX0_addUpLeaning_73 (by decide) ?_
        subst hS
        exact ih (k2 + 1) (by omega) _ hS0 _ _ _ (lv_sub hl [1, 0] rfl) G
      refine lv_if_eq (tgt := 70) hx hb dX0_addUpLeaning_20 (by decide) (fun c20 => ?_) (fun c20 => ?_)
      · rw [if_pos c20] at hX70
        subst hX70
        exact hj70 _ _ _ (lv_sub hl [0, 1] rfl) G
      · rw [if_neg c20] at hX70
        refine lv_aload_n hx hb dX0_addUpLeaning_23 rfl (lv_at hl 0 rfl) ?_
        refine xr_get C G hT.2 (xE_c hT.1) rfl (fun _ h => List.mem_cons_of_mem _ (List.mem_append_right _ h)) 1 (by decide) (show Cond.fieldLink RX0 15 "WheatCounts$Estate" "grains" "[I" ∈ _ by decide +kernel) rfl dX0_addUpLeaning_24 ?_
        refine lv_iload_n hx hb dX0_addUpLeaning_27 rfl (lv_at hl 1 rfl) ?_
        refine xr_ald C G (xE_1 hT).2 (xI_c (xE_1 hT).1 _) k2 rfl (by omega) (xI_lt (xE_1 hT)) dX0_addUpLeaning_28 ?_
        refine lv_bipush (v := 9) hx hb dX0_addUpLeaning_29 (by decide) ?_
        refine lv_irem hx hb dX0_addUpLeaning_31 (by decide) ?_
        refine lv_topi (fun x32 hx32 => ?_)
        rw [lt_e hx32] at hX70
        refine lv_istore_n (lv' := [(2, .int x32), (0, .ref (ad pT)), (1, .int (nI k2))]) hx hb dX0_addUpLeaning_32 rfl hl (by decide) rfl (fun ls hl => ?_)
        refine lv_aload_n hx hb dX0_addUpLeaning_33 rfl (lv_at hl 1 rfl) ?_
        refine xr_get C G hT.2 (xE_c hT.1) rfl (fun _ h => List.mem_cons_of_mem _ (List.mem_append_right _ h)) 1 (by decide) (show Cond.fieldLink RX0 15 "WheatCounts$Estate" "grains" "[I" ∈ _ by decide +kernel) rfl dX0_addUpLeaning_34 ?_
        refine lv_iload_n hx hb dX0_addUpLeaning_37 rfl (lv_at hl 2 rfl) ?_
        refine lv_iconst (v := 1) hx hb dX0_addUpLeaning_38 (by decide) ?_
        refine lv_iadd hx hb dX0_addUpLeaning_39 ?_
        refine lv_aload_n hx hb dX0_addUpLeaning_40 rfl (lv_at hl 1 rfl) ?_
        refine xr_get C G hT.2 (xE_c hT.1) rfl (fun _ h => List.mem_cons_of_mem _ (List.mem_append_right _ h)) 1 (by decide) (show Cond.fieldLink RX0 15 "WheatCounts$Estate" "grains" "[I" ∈ _ by decide +kernel) rfl dX0_addUpLeaning_41 ?_
        refine lv_iload_n hx hb dX0_addUpLeaning_44 rfl (lv_at hl 2 rfl) ?_
        refine lv_iconst (v := 1) hx hb dX0_addUpLeaning_45 (by decide) ?_
        refine lv_iadd hx hb dX0_addUpLeaning_46 ?_
        refine xr_ald C G (xE_1 hT).2 (xI_c (xE_1 hT).1 _) (k2 + 1) (nt_add rfl rfl) (by omega) (xI_lt (xE_1 hT)) dX0_addUpLeaning_47 ?_
        refine lv_aload_n hx hb dX0_addUpLeaning_48 rfl (lv_at hl 1 rfl) ?_
        refine xr_get C G hT.2 (xE_c hT.1) rfl (fun _ h => List.mem_cons_of_mem _ (List.mem_append_right _ h)) 1 (by decide) (show Cond.fieldLink RX0 15 "WheatCounts$Estate" "grains" "[I" ∈ _ by decide +kernel) rfl dX0_addUpLeaning_49 ?_
        refine lv_iload_n hx hb dX0_addUpLeaning_52 rfl (lv_at hl 2 rfl) ?_
        refine xr_ald C G (xE_1 hT).2 (xI_c (xE_1 hT).1 _) k2 rfl (by omega) (xI_lt (xE_1 hT)) dX0_addUpLeaning_53 ?_
        refine lv_iadd hx hb dX0_addUpLeaning_54 ?_
        refine lv_iload_n hx hb dX0_addUpLeaning_55 rfl (lv_at hl 0 rfl) ?_
        refine lv_isub hx hb dX0_addUpLeaning_56 ?_
        refine lv_ldc (v := 99999) hx hb C.2.2.2.1 (C.2.2.2.2.1 (.constant RX0 155 (99999)) (by decide +kernel)) dX0_addUpLeaning_57 ?_
        refine xr_psn C hA G (ks_X8_held zl (((X2 (pT + 1) (k2 + 1)) + (X2 (pT + 1) k2)) - x32) 99999) ⟨va_cnB 2 C.2.2.2.2.1 gX0_addUpLeaning_X8_held_n113 rfl rfl rfl (C.2.2.2.2.2.2.1 _ (List.mem_of_getElem? (i := 1) rfl)) (C.2.2.2.2.1 (.initialized RX8) (by decide +kernel)) (by decide +kernel) ⟨Nat.le_of_ble_eq_true rfl, Nat.le_of_ble_eq_true rfl⟩, C.2.2.2.2.1 (.static yX8_held) (by decide +kernel), trivial⟩ rfl hl.1 rfl (Nat.le_of_ble_eq_true rfl) dX0_addUpLeaning_59 ⟨Nat.le_refl _, Nat.le_refl _⟩ (fun H locs G => ?_)
        refine xr_ast C G (xE_1 hT).2 (xI_c (xE_1 hT).1) (k2 + 1) (nt_add rfl rfl) (by omega) (xI_lt (xE_1 hT)) dX0_addUpLeaning_62 (fun H locs G => ?_)
        obtain ⟨X62, hX62⟩ : ∃ Z : xS, Z = mU X2 (pT + 1) (k2 + 1) (p8_held (((X2 (pT + 1) (k2 + 1)) + (X2 (pT + 1) k2)) - x32) 99999) := ⟨_, rfl⟩
        have G : xG D ad sa cc tt zA zs.heap H locs X62 := by rw [hX62]; exact G
        rw [lt_e hX62] at hX70
        refine lv_aload_n hx hb dX0_addUpLeaning_63 rfl (lv_at hl 1 rfl) ?_
        refine xr_get C G hT.2 (xE_c hT.1) rfl (fun _ h => List.mem_cons_of_mem _ (List.mem_append_right _ h)) 1 (by decide) (show Cond.fieldLink RX0 15 "WheatCounts$Estate" "grains" "[I" ∈ _ by decide +kernel) rfl dX0_addUpLeaning_64 ?_
        refine lv_iload_n hx hb dX0_addUpLeaning_67 rfl (lv_at hl 2 rfl) ?_
        refine lv_iload_n hx hb dX0_addUpLeaning_68 rfl (lv_at hl 0 rfl) ?_
        refine xr_ast C G (xE_1 hT).2 (xI_c (xE_1 hT).1) k2 rfl (by omega) (xI_lt (xE_1 hT)) dX0_addUpLeaning_69 (fun H locs G => ?_)
        obtain ⟨X69, hX69⟩ : ∃ Z : xS, Z = mU X62 (pT + 1) k2 x32 := ⟨_, rfl⟩
        have G : xG D ad sa cc tt zA zs.heap H locs X69 := by rw [hX69]; exact G
        rw [lt_e hX69] at hX70
        subst hX70
        exact hj70 _ _ _ (lv_sub hl [1, 2] rfl) G
  exact hloop2 _ 0 (Nat.add_zero _) _ rfl _ _ _ (lv_sub hl [1, 0] rfl) G
set_option maxRecDepth 100000 in
set_option maxHeartbeats 4000000 in
theorem kx0_divideGrains (zl : Launch) (D : va_G) (ad sa : Nat → Nat) (cc : cT) (tt : tT) (X : xS) (pT : Nat) (v : Int32) (hT : kE pT) (hc : eC X pT) : xMv zl D ad sa cc tt yX0_divideGrains wsX0_divideGrains ({ frames := 0, cells := 0, slots := 0, locals := 0 } : Room) [.ref (ad pT), .int v] X (x0_divideGrains X pT v) := by
  refine xMv_of (code := cX0_divideGrains) (nL := 3) (own := RX0) (by decide) rfl rfl (Nat.le_of_ble_eq_true rfl) ?_
  intro zp ze zs zm zg zb zt zc zA zQ C hA hret H locs ls hl G
  have hx := C.1
  have hb := C.2.1
  have hl : lv_has ls 3 [(0, .ref (ad pT)), (1, .int v)] := hl
  obtain ⟨rM, hF⟩ : ∃ Z : xS, Z = x0_divideGrains X pT v := ⟨_, rfl⟩
  rw [← hF] at hret
  unfold x0_divideGrains at hF
  have hc2 := hc.2.1
  have hc3 := hc.2.2
  refine lv_iconst (v := 0) hx hb dX0_divideGrains_0 (by decide) ?_
  refine lv_istore_n (lv' := [(2, .int 0), (0, .ref (ad pT)), (1, .int v)]) hx hb dX0_divideGrains_1 rfl hl (by decide) rfl (fun ls hl => ?_)
  obtain ⟨kax, X2x, hX2⟩ : ∃ (kax : Nat) (X2x : xS), (kax, X2x) = x0_divideGrains_L2 pT v fu11 0 X := ⟨_, _, rfl⟩
  rw [lt2_e hX2] at hF
  have hrest2 : ∀ (H : Heap) (locs : List Loc) (ls : Array Slot), lv_has ls 3 [(0, .ref (ad pT)), (1, .int v), (2, .int (nI kax))] → xG D ad sa cc tt zA zs.heap H locs X2x → W zp zl ze ({ frames := 0, cells := 0, slots := 0, locals := 0 } : Room) zs zm zg zb zt zc H locs 0 0 zQ (F0 zm 34 ls []) := by
    intro H locs ls hl G
    exact hret _ _ _ _ _ hF G dX0_divideGrains_34
  have hloop2 : ∀ (f : Nat) (ka : Nat) (X2 : xS), (ka ≤ 10 ∧ 10 < ka + f ∧ X2 pT = X pT) → (kax, X2x) = x0_divideGrains_L2 pT v f ka X2 → ∀ (H : Heap) (locs : List Loc) (ls : Array Slot), lv_has ls 3 [(0, .ref (ad pT)), (1, .int v), (2, .int (nI ka))] → xG D ad sa cc tt zA zs.heap H locs X2 → W zp zl ze ({ frames := 0, cells := 0, slots := 0, locals := 0 } : Room) zs zm zg zb zt zc H locs 0 0 zQ (F0 zm 2 ls []) := by
    intro f
    induction f with
    | zero =>
      intro ka X2 hI hL2 H locs ls hl G
      exact absurd hI.2.1 (by omega)
    | succ f ih =>
      intro ka X2 hI hL2 H locs ls hl G
      rw [x0_divideGrains_L2_s] at hL2
      refine lv_iload_n hx hb dX0_divideGrains_2 rfl (lv_at hl 2 rfl) ?_
      refine lv_aload_n hx hb dX0_divideGrains_3 rfl (lv_at hl 0 rfl) ?_
      refine xr_get C G hT.2 (xE_c hT.1) rfl (fun _ h => List.mem_cons_of_mem _ (List.mem_append_right _ h)) 0 (by decide) (show Cond.fieldLink RX0 9 "WheatCounts$Estate" "cells" "I" ∈ _ by decide +kernel) rfl dX0_divideGrains_4 ?_
      refine lv_icmp_ge (tgt := 34) hx hb dX0_divideGrains_7 (by decide) (fun c7 => ?_) (fun c7 => ?_)
      · rw [if_pos c7] at hL2
        cases hL2
        exact hrest2 _ _ _ (lv_sub hl [0, 1, 2] rfl) G
      · rw [if_neg c7] at hL2
        have hk1 := lp_lt (show X2 pT 0 = nI (vn (X pT 0)) by rw [hI.2.2]; exact hc.1) c7 (by omega) (by omega)
        refine lv_iload_n hx hb dX0_divideGrains_10 rfl (lv_at hl 1 rfl) ?_
        refine lv_if_eq (tgt := 34) hx hb dX0_divideGrains_11 (by decide) (fun c11 => ?_) (fun c11 => ?_)
        · rw [if_pos c11] at hL2
          cases hL2
          exact hrest2 _ _ _ (lv_sub hl [0, 1, 2] rfl) G
        · rw [if_neg c11] at hL2
          refine lv_aload_n hx hb dX0_divideGrains_14 rfl (lv_at hl 0 rfl) ?_
          refine xr_get C G hT.2 (xE_c hT.1) rfl (fun _ h => List.mem_cons_of_mem _ (List.mem_append_right _ h)) 1 (by decide) (show Cond.fieldLink RX0 15 "WheatCounts$Estate" "grains" "[I" ∈ _ by decide +kernel) rfl dX0_divideGrains_15 ?_
          refine lv_iload_n hx hb dX0_divideGrains_18 rfl (lv_at hl 2 rfl) ?_
          refine lv_aload_n hx hb dX0_divideGrains_19 rfl (lv_at hl 0 rfl) ?_
          refine xr_get C G hT.2 (xE_c hT.1) rfl (fun _ h => List.mem_cons_of_mem _ (List.mem_append_right _ h)) 1 (by decide) (show Cond.fieldLink RX0 15 "WheatCounts$Estate" "grains" "[I" ∈ _ by decide +kernel) rfl dX0_divideGrains_20 ?_
          refine lv_iload_n hx hb dX0_divideGrains_23 rfl (lv_at hl 2 rfl) ?_
          refine xr_ald C G (xE_1 hT).2 (xI_c (xE_1 hT).1 _) ka rfl (by omega) (xI_lt (xE_1 hT)) dX0_divideGrains_24 ?_
          refine lv_iload_n hx hb dX0_divideGrains_25 rfl (lv_at hl 1 rfl) ?_
          refine lv_idiv hx hb dX0_divideGrains_26 c11 ?_
          refine xr_ast C G (xE_1 hT).2 (xI_c (xE_1 hT).1) ka rfl (by omega) (xI_lt (xE_1 hT)) dX0_divideGrains_27 (fun H locs G => ?_)
          obtain ⟨X27, hX27⟩ : ∃ Z : xS, Z = mU X2 (pT + 1) ka ((X2 (pT + 1) ka) / v) := ⟨_, rfl⟩
          have G : xG D ad sa cc tt zA zs.heap H locs X27 := by rw [hX27]; exact G
          rw [lt_e hX27] at hL2
          refine lv_iinc (v := nI (ka + 1)) (lv' := [(2, .int (nI (ka + 1))), (0, .ref (ad pT)), (1, .int v)]) hx hb dX0_divideGrains_28 hl (k := 2) rfl (nt_add rfl (show (1 : Int32) = nI 1 from rfl)) (by decide) rfl (fun ls hl => ?_)
          refine lv_goto (tgt := 2) hx hb dX0_divideGrains_31 (by decide) ?_
          exact ih (ka + 1) X27 ⟨by omega, by omega, by rw [hX27, mU_row (by omega)]; exact hI.2.2⟩ hL2 _ _ _ (lv_sub hl [1, 2, 0] rfl) G
  exact hloop2 _ _ _ ⟨by omega, by decide, rfl⟩ hX2 _ _ _ (lv_sub hl [1, 2, 0] rfl) G

