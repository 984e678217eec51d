/-! voices, sheets -/
set_option maxRecDepth 100000 in
set_option maxHeartbeats 4000000 in
theorem kx5_startAnew (zl : Launch) (D : va_G) (ad sa : Nat → Nat) (cc : cT) (tt : tT) (X : xS) (pT : Nat) (bits : Int32) (n : Int32) (hT : kS pT) : xMv zl D ad sa cc tt yX5_startAnew wsX5_startAnew ({ frames := 1, cells := 0, slots := 0, locals := 23 } : Room) [.ref (ad pT), .int bits, .int n] X (x5_startAnew X pT bits n) := by
  refine xMv_of (code := cX5_startAnew) (nL := 3) (own := RX5) (by decide) rfl rfl (Nat.le_of_ble_eq_true rfl) ?_
  intro zp ze zs zm zg zb zt zc zA zQ C hA hret H locs ls hl G
  have hx := C.1
  have hb := C.2.1
  have hl : lv_has ls 3 [(0, .ref (ad pT)), (1, .int bits), (2, .int n)] := hl
  obtain ⟨rM, hF⟩ : ∃ Z : xS, Z = x5_startAnew X pT bits n := ⟨_, rfl⟩
  rw [← hF] at hret
  unfold x5_startAnew at hF
  refine lv_aload_n hx hb dX5_startAnew_0 rfl (lv_at hl 0 rfl) ?_
  refine lv_iload_n hx hb dX5_startAnew_1 rfl (lv_at hl 1 rfl) ?_
  refine xr_put C G hT.2 (xS_c hT.1) rfl (fun _ h => List.mem_cons_of_mem _ (List.mem_append_right _ h)) tyX5 tyX5_ok nmX5 1 (by decide) rfl (show Cond.fieldLink RX5 15 "WheatCounts$Sheet" "bits" "I" ∈ _ by decide +kernel) (ty := .int) (by decide +kernel) rfl rfl (Nat.le_of_ble_eq_true rfl) (upd (X pT) 1 bits) (xS_c hT.1) dX5_startAnew_2 (fun H locs G => ?_)
  obtain ⟨X2, hX2⟩ : ∃ Z : xS, Z = mU X pT 1 bits := ⟨_, rfl⟩
  have G : xG D ad sa cc tt zA zs.heap H locs X2 := by rw [hX2]; exact G
  rw [lt_e hX2] at hF
  refine lv_aload_n hx hb dX5_startAnew_5 rfl (lv_at hl 0 rfl) ?_
  refine lv_iload_n hx hb dX5_startAnew_6 rfl (lv_at hl 2 rfl) ?_
  refine lv_bipush (v := 40) hx hb dX5_startAnew_7 (by decide) ?_
  refine xr_psn C hA G (ks_X8_held zl n 40) ⟨va_cnB 2 C.2.2.2.2.1 gX5_startAnew_X8_held_n19 rfl rfl rfl (C.2.2.2.2.2.2.1 _ (List.mem_of_getElem? (i := 7) rfl)) (C.2.2.2.2.1 (.initialized RX8) (by decide +kernel)) (by decide +kernel) ⟨Nat.le_of_ble_eq_true rfl, Nat.le_of_ble_eq_true rfl⟩, C.2.2.2.2.1 (.static yX8_held) (by decide +kernel), trivial⟩ rfl hl.1 rfl (Nat.le_of_ble_eq_true rfl) dX5_startAnew_9 ⟨Nat.le_refl _, Nat.le_refl _⟩ (fun H locs G => ?_)
  refine xr_put C G hT.2 (xS_c hT.1) rfl (fun _ h => List.mem_cons_of_mem _ (List.mem_append_right _ h)) tyX5 tyX5_ok nmX5 2 (by decide) rfl (show Cond.fieldLink RX5 23 "WheatCounts$Sheet" "size" "I" ∈ _ by decide +kernel) (ty := .int) (by decide +kernel) rfl rfl (Nat.le_of_ble_eq_true rfl) (upd (X2 pT) 2 (p8_held n 40)) (xS_c hT.1) dX5_startAnew_12 (fun H locs G => ?_)
  obtain ⟨X12, hX12⟩ : ∃ Z : xS, Z = mU X2 pT 2 (p8_held n 40) := ⟨_, rfl⟩
  have G : xG D ad sa cc tt zA zs.heap H locs X12 := by rw [hX12]; exact G
  rw [lt_e hX12] at hF
  refine lv_aload_n hx hb dX5_startAnew_15 rfl (lv_at hl 0 rfl) ?_
  refine xr_get C G hT.2 (xS_c hT.1) rfl (fun _ h => List.mem_cons_of_mem _ (List.mem_append_right _ h)) 0 (by decide) (show Cond.fieldLink RX5 9 "WheatCounts$Sheet" "numbers" "[I" ∈ _ by decide +kernel) rfl dX5_startAnew_16 ?_
  refine lv_iconst (v := 0) hx hb dX5_startAnew_19 (by decide) ?_
  refine xr_Sv C hA G (kx7_fill_53178 zl D ad sa cc tt X12 (pT + 1) 40 0 (xS_1 hT)) (va_cwS 2 C.2.2.2.2.1 gX5_startAnew_J7_fill_53178 rfl rfl rfl (by decide +kernel) ⟨Nat.le_of_ble_eq_true rfl, Nat.le_of_ble_eq_true rfl⟩) rfl hl.1 rfl (Nat.le_of_ble_eq_true rfl) dX5_startAnew_20 ⟨Nat.le_refl _, Nat.le_refl _⟩ (fun H locs G => ?_)
  obtain ⟨X20, hX20⟩ : ∃ Z : xS, Z = x7_fill_53178 X12 (pT + 1) 40 0 := ⟨_, rfl⟩
  have G : xG D ad sa cc tt zA zs.heap H locs X20 := by rw [hX20]; exact G
  rw [lt_e hX20] at hF
  exact hret _ _ _ _ _ hF G dX5_startAnew_23
set_option maxRecDepth 100000 in
set_option maxHeartbeats 4000000 in
theorem kx5_set (zl : Launch) (D : va_G) (ad sa : Nat → Nat) (cc : cT) (tt : tT) (X : xS) (pT : Nat) (i : Int32) (v : Int32) (hT : kS pT) (hz : X pT 2 = nI (vn (X pT 2)) ∧ vn (X pT 2) ≤ 40) : xMv zl D ad sa cc tt yX5_set wsX5_set ({ frames := 0, cells := 0, slots := 0, locals := 0 } : Room) [.ref (ad pT), .int i, .int v] X (x5_set X pT i v) := by
  refine xMv_of (code := cX5_set) (nL := 3) (own := RX5) (by decide) rfl rfl (Nat.le_of_ble_eq_true rfl) ?_
  intro zp ze zs zm zg zb zt zc zA zQ C hA hret H locs ls hl G
  have hx := C.1
  have hb := C.2.1
  have hl : lv_has ls 3 [(0, .ref (ad pT)), (1, .int i), (2, .int v)] := hl
  obtain ⟨rM, hF⟩ : ∃ Z : xS, Z = x5_set X pT i v := ⟨_, rfl⟩
  rw [← hF] at hret
  unfold x5_set at hF
  have hz2 := hz.2
  refine lv_iload_n hx hb dX5_set_0 rfl (lv_at hl 1 rfl) ?_
  obtain ⟨X47, hX47⟩ : ∃ (X47 : xS), X47 = ((if i < 0 then X else (if (X pT 2) ≤ i then X else (lt ((if (X pT 1) = 8 then (v.toInt8.toInt32) else (if (X pT 1) = 16 then (v.toInt16.toInt32) else v)) : Int32) fun (y46 : Int32) => (lt (mU X (pT + 1) (vn i) y46) fun (X46 : xS) => X46)))) : xS) := ⟨_, rfl⟩
  rw [lt_e hX47] at hF
  have hj47 : ∀ (H : Heap) (locs : List Loc) (ls : Array Slot), lv_has ls 3 [(0, .ref (ad pT)), (1, .int i), (2, .int v)] → xG D ad sa cc tt zA zs.heap H locs X47 → W zp zl ze ({ frames := 0, cells := 0, slots := 0, locals := 0 } : Room) zs zm zg zb zt zc H locs 0 0 zQ (F0 zm 47 ls []) := by
    intro H locs ls hl G
    exact hret _ _ _ _ _ hF G dX5_set_47
  refine lv_if_lt (tgt := 47) hx hb dX5_set_1 (by decide) (fun c1 => ?_) (fun c1 => ?_)
  · rw [if_pos c1] at hX47
    subst hX47
    exact hj47 _ _ _ (lv_sub hl [0, 1, 2] rfl) G
  · rw [if_neg c1] at hX47
    refine lv_iload_n hx hb dX5_set_4 rfl (lv_at hl 1 rfl) ?_
    refine lv_aload_n hx hb dX5_set_5 rfl (lv_at hl 0 rfl) ?_
    refine xr_get C G hT.2 (xS_c hT.1) rfl (fun _ h => List.mem_cons_of_mem _ (List.mem_append_right _ h)) 2 (by decide) (show Cond.fieldLink RX5 23 "WheatCounts$Sheet" "size" "I" ∈ _ by decide +kernel) rfl dX5_set_6 ?_
    refine lv_icmp_ge (tgt := 47) hx hb dX5_set_9 (by decide) (fun c9 => ?_) (fun c9 => ?_)
    · rw [if_pos c9] at hX47
      subst hX47
      exact hj47 _ _ _ (lv_sub hl [0, 1, 2] rfl) G
    · rw [if_neg c9] at hX47
      have hi := ix_lt hz.1 (by omega) c1 c9
      have hi2 := hi.2
      refine lv_aload_n hx hb dX5_set_12 rfl (lv_at hl 0 rfl) ?_
      refine xr_get C G hT.2 (xS_c hT.1) rfl (fun _ h => List.mem_cons_of_mem _ (List.mem_append_right _ h)) 0 (by decide) (show Cond.fieldLink RX5 9 "WheatCounts$Sheet" "numbers" "[I" ∈ _ by decide +kernel) rfl dX5_set_13 ?_
      refine lv_iload_n hx hb dX5_set_16 rfl (lv_at hl 1 rfl) ?_
      refine lv_aload_n hx hb dX5_set_17 rfl (lv_at hl 0 rfl) ?_
      refine xr_get C G hT.2 (xS_c hT.1) rfl (fun _ h => List.mem_cons_of_mem _ (List.mem_append_right _ h)) 1 (by decide) (show Cond.fieldLink RX5 15 "WheatCounts$Sheet" "bits" "I" ∈ _ by decide +kernel) rfl dX5_set_18 ?_
      refine lv_bipush (v := 8) hx hb dX5_set_21 (by decide) ?_
      obtain ⟨y46, hX46⟩ : ∃ (y46 : Int32), y46 = ((if (X pT 1) = 8 then (v.toInt8.toInt32) else (if (X pT 1) = 16 then (v.toInt16.toInt32) else v)) : Int32) := ⟨_, rfl⟩
      rw [lt_e hX46] at hX47
      have hj46 : ∀ (H : Heap) (locs : List Loc) (ls : Array Slot), lv_has ls 3 [(0, .ref (ad pT)), (1, .int i), (2, .int v)] → xG D ad sa cc tt zA zs.heap H locs X → W zp zl ze ({ frames := 0, cells := 0, slots := 0, locals := 0 } : Room) zs zm zg zb zt zc H locs 0 0 zQ (F0 zm 46 ls [.int y46, .int i, .ref (ad (pT + 1))]) := by
        intro H locs ls hl G
        refine xr_ast C G (xS_1 hT).2 (xI_c (xS_1 hT).1) (vn i) hi.1 (by omega) (xI_lt (xS_1 hT)) dX5_set_46 (fun H locs G => ?_)
        obtain ⟨X46, hX46⟩ : ∃ Z : xS, Z = mU X (pT + 1) (vn i) y46 := ⟨_, rfl⟩
        have G : xG D ad sa cc tt zA zs.heap H locs X46 := by rw [hX46]; exact G
        rw [lt_e hX46] at hX47
        subst hX47
        exact hj47 _ _ _ (lv_sub hl [0, 1, 2] rfl) G
      refine lv_icmp_ne (tgt := 31) hx hb dX5_set_23 (by decide) (fun c23 => ?_) (fun c23 => ?_)
      · rw [if_neg c23] at hX46
        refine lv_aload_n hx hb dX5_set_31 rfl (lv_at hl 0 rfl) ?_
        refine xr_get C G hT.2 (xS_c hT.1) rfl (fun _ h => List.mem_cons_of_mem _ (List.mem_append_right _ h)) 1 (by decide) (show Cond.fieldLink RX5 15 "WheatCounts$Sheet" "bits" "I" ∈ _ by decide +kernel) rfl dX5_set_32 ?_
        refine lv_bipush (v := 16) hx hb dX5_set_35 (by decide) ?_
        refine lv_icmp_ne (tgt := 45) hx hb dX5_set_37 (by decide) (fun c37 => ?_) (fun c37 => ?_)
        · rw [if_neg c37] at hX46
          refine lv_iload_n hx hb dX5_set_45 rfl (lv_at hl 2 rfl) ?_
          subst hX46
          exact hj46 _ _ _ (lv_sub hl [0, 1, 2] rfl) G
        · rw [if_pos c37] at hX46
          refine lv_iload_n hx hb dX5_set_40 rfl (lv_at hl 2 rfl) ?_
          refine lv_i2s (v := v.toInt16.toInt32) hx hb dX5_set_41 rfl ?_
          refine lv_goto (tgt := 46) hx hb dX5_set_42 (by decide) ?_
          subst hX46
          exact hj46 _ _ _ (lv_sub hl [0, 1, 2] rfl) G
      · rw [if_pos c23] at hX46
        refine lv_iload_n hx hb dX5_set_26 rfl (lv_at hl 2 rfl) ?_
        refine lv_i2b (v := v.toInt8.toInt32) hx hb dX5_set_27 rfl ?_
        refine lv_goto (tgt := 46) hx hb dX5_set_28 (by decide) ?_
        subst hX46
        exact hj46 _ _ _ (lv_sub hl [0, 1, 2] rfl) G
set_option maxRecDepth 100000 in
set_option maxHeartbeats 4000000 in
theorem kx7_begin (zl : Launch) (D : va_G) (ad sa : Nat → Nat) (cc : cT) (tt : tT) (X : xS) (kind : Int32) (n : Int32) (m : Int32) : xMv zl D ad sa cc tt yX7_begin wsX7_begin ({ frames := 1, cells := 0, slots := 0, locals := 20 } : Room) [.ref (ad 47), .int kind, .int n, .int m] X (x7_begin X kind n m) := by
  refine xMv_of (code := cX7_begin) (nL := 4) (own := RX7) (by decide) rfl rfl (Nat.le_of_ble_eq_true rfl) ?_
  intro zp ze zs zm zg zb zt zc zA zQ C hA hret H locs ls hl G
  have hx := C.1
  have hb := C.2.1
  have hl : lv_has ls 4 [(0, .ref (ad 47)), (1, .int kind), (2, .int n), (3, .int m)] := hl
  obtain ⟨rM, hF⟩ : ∃ Z : xS, Z = x7_begin X kind n m := ⟨_, rfl⟩
  rw [← hF] at hret
  unfold x7_begin at hF
  refine lv_aload_n hx hb dX7_begin_0 rfl (lv_at hl 0 rfl) ?_
  refine lv_iload_n hx hb dX7_begin_1 rfl (lv_at hl 1 rfl) ?_
  refine xr_put C G (show kV 47 by decide).2 (xV_c (show kV 47 by decide).1) rfl (fun _ h => List.mem_cons_of_mem _ (List.mem_append_left _ (List.mem_append_right _ h))) tyX7 tyX7_ok nmX7 1 (by decide) rfl (show Cond.fieldLink RX7 20 "WheatCounts$Voices" "kind" "I" ∈ _ by decide +kernel) (ty := .int) (by decide +kernel) rfl rfl (Nat.le_of_ble_eq_true rfl) (upd (X 47) 1 kind) (xV_c (show kV 47 by decide).1) dX7_begin_2 (fun H locs G => ?_)
  obtain ⟨X2, hX2⟩ : ∃ Z : xS, Z = mU X 47 1 kind := ⟨_, rfl⟩
  have G : xG D ad sa cc tt zA zs.heap H locs X2 := by rw [hX2]; exact G
  rw [lt_e hX2] at hF
  refine lv_aload_n hx hb dX7_begin_5 rfl (lv_at hl 0 rfl) ?_
  refine lv_iload_n hx hb dX7_begin_6 rfl (lv_at hl 2 rfl) ?_
  refine xr_put C G (show kV 47 by decide).2 (xV_c (show kV 47 by decide).1) rfl (fun _ h => List.mem_cons_of_mem _ (List.mem_append_left _ (List.mem_append_right _ h))) tyX7 tyX7_ok nmX7 2 (by decide) rfl (show Cond.fieldLink RX7 24 "WheatCounts$Voices" "n" "I" ∈ _ by decide +kernel) (ty := .int) (by decide +kernel) rfl rfl (Nat.le_of_ble_eq_true rfl) (upd (X2 47) 2 n) (xV_c (show kV 47 by decide).1) dX7_begin_7 (fun H locs G => ?_)
  obtain ⟨X7, hX7⟩ : ∃ Z : xS, Z = mU X2 47 2 n := ⟨_, rfl⟩
  have G : xG D ad sa cc tt zA zs.heap H locs X7 := by rw [hX7]; exact G
  rw [lt_e hX7] at hF
  refine lv_aload_n hx hb dX7_begin_10 rfl (lv_at hl 0 rfl) ?_
  refine lv_iload_n hx hb dX7_begin_11 rfl (lv_at hl 3 rfl) ?_
  refine xr_put C G (show kV 47 by decide).2 (xV_c (show kV 47 by decide).1) rfl (fun _ h => List.mem_cons_of_mem _ (List.mem_append_left _ (List.mem_append_right _ h))) tyX7 tyX7_ok nmX7 3 (by decide) rfl (show Cond.fieldLink RX7 27 "WheatCounts$Voices" "m" "I" ∈ _ by decide +kernel) (ty := .int) (by decide +kernel) rfl rfl (Nat.le_of_ble_eq_true rfl) (upd (X7 47) 3 m) (xV_c (show kV 47 by decide).1) dX7_begin_12 (fun H locs G => ?_)
  obtain ⟨X12, hX12⟩ : ∃ Z : xS, Z = mU X7 47 3 m := ⟨_, rfl⟩
  have G : xG D ad sa cc tt zA zs.heap H locs X12 := by rw [hX12]; exact G
  rw [lt_e hX12] at hF
  refine lv_aload_n hx hb dX7_begin_15 rfl (lv_at hl 0 rfl) ?_
  refine xr_get C G (show kV 47 by decide).2 (xV_c (show kV 47 by decide).1) rfl (fun _ h => List.mem_cons_of_mem _ (List.mem_append_left _ (List.mem_append_right _ h))) 0 (by decide) (show Cond.fieldLink RX7 14 "WheatCounts$Voices" "bodies" "LWheatCounts$Row;" ∈ _ by decide +kernel) rfl dX7_begin_16 ?_
  refine xr_Vv C hA G (kx4_clear zl D ad sa cc tt X12 48 (show kR 48 by decide)) (show kR 48 by decide).2 (xR_c (show kR 48 by decide).1) rfl (cwV 0 C.2.2.2.2.1 gX7_begin_X4_clear rfl rfl rfl (by decide +kernel) ⟨Nat.le_of_ble_eq_true rfl, Nat.le_of_ble_eq_true rfl⟩) rfl hl.1 rfl (Nat.le_of_ble_eq_true rfl) dX7_begin_19 ⟨Nat.le_refl _, Nat.le_refl _⟩ (fun H locs G => ?_)
  obtain ⟨X19, hX19⟩ : ∃ Z : xS, Z = x4_clear X12 48 := ⟨_, rfl⟩
  have G : xG D ad sa cc tt zA zs.heap H locs X19 := by rw [hX19]; exact G
  rw [lt_e hX19] at hF
  exact hret _ _ _ _ _ hF G dX7_begin_22
set_option maxRecDepth 100000 in
set_option maxHeartbeats 4000000 in
theorem kx7_say_z (zl : Launch) (D : va_G) (ad sa : Nat → Nat) (cc : cT) (tt : tT) (zf : Nat) (X : xS) (act of x : Int32) (hv : vS X) : xM zl D ad sa cc tt yX7_say wsX7_say ({ frames := zf + 4, cells := 0, slots := 0, locals := 29 * zf + 200 } : Room) [.ref (ad 47), .int act, .int of, .int x, .int 13] X (x7_say 0 X act of x) := by
  refine xM_of (code := cX7_say) (nL := 10) (own := RX7) (by decide) rfl rfl (Nat.le_of_ble_eq_true rfl) ?_
  intro zp ze zs zm zg zb zt zc zA zQ C hA hret H locs ls hl G
  have hx := C.1
  have hb := C.2.1
  have hl : lv_has ls 10 [(0, .ref (ad 47)), (1, .int act), (2, .int of), (3, .int x), (4, .int 13)] := hl
  obtain ⟨rM, hF⟩ : ∃ Z : Int32 × xS, Z = x7_say 0 X act of x := ⟨_, rfl⟩
  rw [← hF] at hret
  rw [x7_say_z] at hF
  refine lv_iload_n hx hb dX7_say_0 rfl (lv_at hl 1 rfl) ?_
  refine lv_iload_n hx hb dX7_say_1 rfl (lv_at hl 2 rfl) ?_
  refine xr_Si C hA G (kx7_ownerOf zl D ad sa cc tt X act of) (va_cwS 2 C.2.2.2.2.1 gX7_say_X7_ownerOf rfl rfl rfl (by decide +kernel) ⟨(by show 2 + 1 ≤ zf + 4; omega), (by show 8 + (4 + 11) + 42 ≤ 29 * zf + 200; omega)⟩) rfl hl.1 rfl (Nat.le_of_ble_eq_true rfl) dX7_say_2 ⟨Nat.le_refl _, Nat.le_refl _⟩ (fun H locs G => ?_)
  refine lv_topi (fun x5 hx5 => ?_)
  rw [lt_e hx5] at hF
  refine lv_istore (lv' := [(5, .int x5), (0, .ref (ad 47)), (1, .int act), (2, .int of), (3, .int x), (4, .int 13)]) hx hb dX7_say_5 hl (by decide) rfl (fun ls hl => ?_)
  refine lv_iload hx hb dX7_say_7 (lv_at hl 0 rfl) ?_
  refine lv_if_lt (tgt := 19) hx hb dX7_say_9 (by decide) (fun c9 => ?_) (fun c9 => ?_)
  · rw [if_pos c9] at hF
    refine lv_iconst (v := 0) hx hb dX7_say_19 (by decide) ?_
    exact hret _ _ _ _ _ _ hF G dX7_say_20
  · rw [if_neg c9] at hF
    refine lv_iload hx hb dX7_say_12 (lv_at hl 5 rfl) ?_
    refine lv_bipush (v := 12) hx hb dX7_say_14 (by decide) ?_
    refine lv_icmp_le (tgt := 21) hx hb dX7_say_16 (by decide) (fun c16 => absurd c16 (by decide)) (fun c16 => ?_)
    refine lv_iconst (v := 0) hx hb dX7_say_19 (by decide) ?_
    exact hret _ _ _ _ _ _ hF G dX7_say_20
set_option maxRecDepth 100000 in
set_option maxHeartbeats 4000000 in
theorem kx7_say_s (zl : Launch) (D : va_G) (ad sa : Nat → Nat) (cc : cT) (tt : tT) (zf zd : Nat) (ih : ∀ (X : xS) (act of x : Int32), vS X → xM zl D ad sa cc tt yX7_say wsX7_say ({ frames := zf + 4, cells := 0, slots := 0, locals := 29 * zf + 200 } : Room) [.ref (ad 47), .int act, .int of, .int x, .int (nI (zd + 1))] X (x7_say zf X act of x)) (hd : zd ≤ 12) (X : xS) (act of x : Int32) (hv : vS X) : xM zl D ad sa cc tt yX7_say wsX7_say ({ frames := (zf + 1) + 4, cells := 0, slots := 0, locals := 29 * (zf + 1) + 200 } : Room) [.ref (ad 47), .int act, .int of, .int x, .int (nI zd)] X (x7_say (zf + 1) X act of x) := by
  refine xM_of (code := cX7_say) (nL := 10) (own := RX7) (by decide) rfl rfl (Nat.le_of_ble_eq_true rfl) ?_
  intro zp ze zs zm zg zb zt zc zA zQ C hA hret H locs ls hl G
  have hx := C.1
  have hb := C.2.1
  have hl : lv_has ls 10 [(0, .ref (ad 47)), (1, .int act), (2, .int of), (3, .int x), (4, .int (nI zd))] := hl
  obtain ⟨rM, hF⟩ : ∃ Z : Int32 × xS, Z = x7_say (zf + 1) X act of x := ⟨_, rfl⟩
  rw [← hF] at hret
  rw [x7_say_s] at hF
  refine lv_iload_n hx hb dX7_say_0 rfl (lv_at hl 1 rfl) ?_
  refine lv_iload_n hx hb dX7_say_1 rfl (lv_at hl 2 rfl) ?_
  refine xr_Si C hA G (kx7_ownerOf zl D ad sa cc tt X act of) (va_cwS 2 C.2.2.2.2.1 gX7_say_X7_ownerOf rfl rfl rfl (by decide +kernel) ⟨(by show 2 + 1 ≤ (zf + 1) + 4; omega), (by show 8 + (4 + 11) + 42 ≤ 29 * (zf + 1) + 200; omega)⟩) rfl hl.1 rfl (Nat.le_of_ble_eq_true rfl) dX7_say_2 ⟨Nat.le_refl _, Nat.le_refl _⟩ (fun H locs G => ?_)
  refine lv_topi (fun x5 hx5 => ?_)
  rw [lt_e hx5] at hF
  refine lv_istore (lv' := [(5, .int x5), (0, .ref (ad 47)), (1, .int act), (2, .int of), (3, .int x), (4, .int (nI zd))]) hx hb dX7_say_5 hl (by decide) rfl (fun ls hl => ?_)
  refine lv_iload hx hb dX7_say_7 (lv_at hl 0 rfl) ?_
  refine lv_if_lt (tgt := 19) hx hb dX7_say_9 (by decide) (fun c9 => ?_) (fun c9 => ?_)
  · rw [if_pos c9] at hF
    refine lv_iconst (v := 0) hx hb dX7_say_19 (by decide) ?_
    exact hret _ _ _ _ _ _ hF G dX7_say_20
  · rw [if_neg c9] at hF
    refine lv_iload hx hb dX7_say_12 (lv_at hl 5 rfl) ?_
    refine lv_bipush (v := 12) hx hb dX7_say_14 (by decide) ?_
    refine lv_icmp_le (tgt := 21) hx hb dX7_say_16 (by decide) (fun c16 => ?_) (fun c16 => absurd (sd_le hd) c16)
    refine lv_iload hx hb dX7_say_21 (lv_at hl 0 rfl) ?_
    refine xr_Si C hA G (kx1_above zl D ad sa cc tt X x5) (va_cwS 1 C.2.2.2.2.1 gX7_say_X1_above rfl rfl rfl (by decide +kernel) ⟨(by show 1 + 1 ≤ (zf + 1) + 4; omega), (by show 8 + (1 + 11) + 22 ≤ 29 * (zf + 1) + 200; omega)⟩) rfl hl.1 rfl (Nat.le_of_ble_eq_true rfl) dX7_say_23 ⟨Nat.le_refl _, Nat.le_refl _⟩ (fun H locs G => ?_)
    refine lv_topi (fun x26 hx26 => ?_)
    rw [lt_e hx26] at hF
    refine lv_istore (lv' := [(6, .int x26), (5, .int x5), (0, .ref (ad 47)), (1, .int act), (2, .int of), (3, .int x), (4, .int (nI zd))]) hx hb dX7_say_26 hl (by decide) rfl (fun ls hl => ?_)
    refine lv_iload_n hx hb dX7_say_28 rfl (lv_at hl 3 rfl) ?_
    refine lv_iload hx hb dX7_say_29 (lv_at hl 1 rfl) ?_
    refine xr_Si C hA G (kx7_bodyOf zl D ad sa cc tt X act x5) (va_cwS 2 C.2.2.2.2.1 gX7_say_X7_bodyOf rfl rfl rfl (by decide +kernel) ⟨(by show 0 + 1 ≤ (zf + 1) + 4; omega), (by show 8 + (3 + 11) + 0 ≤ 29 * (zf + 1) + 200; omega)⟩) rfl hl.1 rfl (Nat.le_of_ble_eq_true rfl) dX7_say_31 ⟨Nat.le_refl _, Nat.le_refl _⟩ (fun H locs G => ?_)
    refine lv_topi (fun x34 hx34 => ?_)
    rw [lt_e hx34] at hF
    refine lv_istore (lv' := [(7, .int x34), (6, .int x26), (5, .int x5), (0, .ref (ad 47)), (1, .int act), (2, .int of), (3, .int x), (4, .int (nI zd))]) hx hb dX7_say_34 hl (by decide) rfl (fun ls hl => ?_)
    refine lv_aload_n hx hb dX7_say_36 rfl (lv_at hl 3 rfl) ?_
    refine xr_get C G (show kV 47 by decide).2 (xV_c (show kV 47 by decide).1) rfl (fun _ h => List.mem_cons_of_mem _ (List.mem_append_left _ (List.mem_append_right _ h))) 1 (by decide) (show Cond.fieldLink RX7 20 "WheatCounts$Voices" "kind" "I" ∈ _ by decide +kernel) rfl dX7_say_37 ?_
    refine lv_topi (fun x40 hx40 => ?_)
    rw [lt_e hx40] at hF
    refine lv_istore (lv' := [(8, .int x40), (7, .int x34), (6, .int x26), (5, .int x5), (0, .ref (ad 47)), (1, .int act), (2, .int of), (3, .int x), (4, .int (nI zd))]) hx hb dX7_say_40 hl (by decide) rfl (fun ls hl => ?_)
    refine lv_iload hx hb dX7_say_42 (lv_at hl 8 rfl) ?_
    refine lv_iconst (v := 1) hx hb dX7_say_44 (by decide) ?_
    refine lv_iadd hx hb dX7_say_45 ?_
    refine lv_topi (fun x46 hx46 => ?_)
    obtain rfl : x46 = nI (zd + 1) := hx46.trans (nt_add rfl rfl)
    refine lv_istore (lv' := [(9, .int (nI (zd + 1))), (8, .int x40), (7, .int x34), (6, .int x26), (5, .int x5), (0, .ref (ad 47)), (1, .int act), (2, .int of), (3, .int x), (4, .int (nI zd))]) hx hb dX7_say_46 hl (by decide) rfl (fun ls hl => ?_)
    refine lv_aload_n hx hb dX7_say_48 rfl (lv_at hl 5 rfl) ?_
    refine xr_get C G (show kV 47 by decide).2 (xV_c (show kV 47 by decide).1) rfl (fun _ h => List.mem_cons_of_mem _ (List.mem_append_left _ (List.mem_append_right _ h))) 0 (by decide) (show Cond.fieldLink RX7 14 "WheatCounts$Voices" "bodies" "LWheatCounts$Row;" ∈ _ by decide +kernel) rfl dX7_say_49 ?_
    refine lv_iload hx hb dX7_say_52 (lv_at hl 2 rfl) ?_
    refine xr_Vv C hA G (kx4_add zl D ad sa cc tt X 48 x34 (show kR 48 by decide) hv) (show kR 48 by decide).2 (xR_c (show kR 48 by decide).1) rfl (cwV 1 C.2.2.2.2.1 gX7_say_X4_add rfl rfl rfl (by decide +kernel) ⟨(by show 0 + 1 ≤ (zf + 1) + 4; omega), (by show 8 + (2 + 11) + 0 ≤ 29 * (zf + 1) + 200; omega)⟩) rfl hl.1 rfl (Nat.le_of_ble_eq_true rfl) dX7_say_54 ⟨Nat.le_refl _, Nat.le_refl _⟩ (fun H locs G => ?_)
    obtain ⟨X54, hX54⟩ : ∃ Z : xS, Z = x4_add X 48 x34 := ⟨_, rfl⟩
    have G : xG D ad sa cc tt zA zs.heap H locs X54 := by rw [hX54]; exact G
    rw [lt_e hX54] at hF
    have hv : vS X54 := by rw [hX54]; exact ad_v hv
    refine lv_iload hx hb dX7_say_57 (lv_at hl 2 rfl) ?_
    by_cases c59_10 : x34 = 10
    · rw [if_pos c59_10] at hF
      refine lv_lookup (off := 97) (tgt := 156) hx hb dX7_say_59 (by decide) (by rw [c59_10]; rfl) (by decide) ?_
      refine lv_iload_n hx hb dX7_say_156 rfl (lv_at hl 8 rfl) ?_
      refine lv_aload_n hx hb dX7_say_157 rfl (lv_at hl 5 rfl) ?_
      refine xr_get C G (show kV 47 by decide).2 (xV_c (show kV 47 by decide).1) rfl (fun _ h => List.mem_cons_of_mem _ (List.mem_append_left _ (List.mem_append_right _ h))) 2 (by decide) (show Cond.fieldLink RX7 24 "WheatCounts$Voices" "n" "I" ∈ _ by decide +kernel) rfl dX7_say_158 ?_
      refine lv_iadd hx hb dX7_say_161 ?_
      exact hret _ _ _ _ _ _ hF G dX7_say_162
    · rw [if_neg c59_10] at hF
      by_cases c59_11 : x34 = 11
      · rw [if_pos c59_11] at hF
        refine lv_lookup (off := 104) (tgt := 163) hx hb dX7_say_59 (by decide) (by rw [c59_11]; rfl) (by decide) ?_
        refine lv_aload_n hx hb dX7_say_163 rfl (lv_at hl 5 rfl) ?_
        refine lv_iconst (v := 0) hx hb dX7_say_164 (by decide) ?_
        refine lv_iload hx hb dX7_say_165 (lv_at hl 1 rfl) ?_
        refine lv_iload_n hx hb dX7_say_167 rfl (lv_at hl 8 rfl) ?_
        refine lv_iload hx hb dX7_say_168 (lv_at hl 0 rfl) ?_
        obtain ⟨x170, X170, hx170⟩ : ∃ (Z : Int32) (Y : xS), (Z, Y) = x7_say zf X54 0 x40 x := ⟨_, _, rfl⟩
        refine xr_Si (r0 := x170) (X2 := X170) C hA G (by rw [hx170]; exact ih X54 0 x40 x hv) (va_cwS 5 C.2.2.2.2.1 gX7_say_X7_say rfl rfl rfl (by decide +kernel) ⟨(by show (zf + 4) + 1 ≤ (zf + 1) + 4; omega), (by show 8 + (10 + 11) + (29 * zf + 200) ≤ 29 * (zf + 1) + 200; omega)⟩) rfl hl.1 rfl (Nat.le_of_ble_eq_true rfl) dX7_say_170 ⟨Nat.le_refl _, Nat.le_refl _⟩ (fun H locs G => ?_)
        have hv : vS X170 := by have h9 := sy_v zf X54 0 x40 x hv; rw [← hx170] at h9; exact h9
        rw [lt2_e hx170] at hF
        refine lv_iconst (v := 2) hx hb dX7_say_173 (by decide) ?_
        refine lv_imul hx hb dX7_say_174 ?_
        exact hret _ _ _ _ _ _ hF G dX7_say_175
      · rw [if_neg c59_11] at hF
        by_cases c59_12 : x34 = 12
        · rw [if_pos c59_12] at hF
          refine lv_lookup (off := 117) (tgt := 176) hx hb dX7_say_59 (by decide) (by rw [c59_12]; rfl) (by decide) ?_
          refine lv_iload_n hx hb dX7_say_176 rfl (lv_at hl 8 rfl) ?_
          refine lv_aload_n hx hb dX7_say_177 rfl (lv_at hl 5 rfl) ?_
          refine xr_get C G (show kV 47 by decide).2 (xV_c (show kV 47 by decide).1) rfl (fun _ h => List.mem_cons_of_mem _ (List.mem_append_left _ (List.mem_append_right _ h))) 3 (by decide) (show Cond.fieldLink RX7 27 "WheatCounts$Voices" "m" "I" ∈ _ by decide +kernel) rfl dX7_say_178 ?_
          refine lv_isub hx hb dX7_say_181 ?_
          exact hret _ _ _ _ _ _ hF G dX7_say_182
        · rw [if_neg c59_12] at hF
          by_cases c59_13 : x34 = 13
          · rw [if_pos c59_13] at hF
            refine lv_lookup (off := 124) (tgt := 183) hx hb dX7_say_59 (by decide) (by rw [c59_13]; rfl) (by decide) ?_
            refine lv_aload_n hx hb dX7_say_183 rfl (lv_at hl 5 rfl) ?_
            refine lv_iconst (v := 1) hx hb dX7_say_184 (by decide) ?_
            refine lv_iload hx hb dX7_say_185 (lv_at hl 1 rfl) ?_
            refine lv_iload_n hx hb dX7_say_187 rfl (lv_at hl 8 rfl) ?_
            refine lv_iload hx hb dX7_say_188 (lv_at hl 0 rfl) ?_
            obtain ⟨x190, X190, hx190⟩ : ∃ (Z : Int32) (Y : xS), (Z, Y) = x7_say zf X54 1 x40 x := ⟨_, _, rfl⟩
            refine xr_Si (r0 := x190) (X2 := X190) C hA G (by rw [hx190]; exact ih X54 1 x40 x hv) (va_cwS 5 C.2.2.2.2.1 gX7_say_X7_say rfl rfl rfl (by decide +kernel) ⟨(by show (zf + 4) + 1 ≤ (zf + 1) + 4; omega), (by show 8 + (10 + 11) + (29 * zf + 200) ≤ 29 * (zf + 1) + 200; omega)⟩) rfl hl.1 rfl (Nat.le_of_ble_eq_true rfl) dX7_say_190 ⟨Nat.le_refl _, Nat.le_refl _⟩ (fun H locs G => ?_)
            have hv : vS X190 := by have h9 := sy_v zf X54 1 x40 x hv; rw [← hx190] at h9; exact h9
            rw [lt2_e hx190] at hF
            refine lv_aload_n hx hb dX7_say_193 rfl (lv_at hl 5 rfl) ?_
            refine lv_iconst (v := 2) hx hb dX7_say_194 (by decide) ?_
            refine lv_iload hx hb dX7_say_195 (lv_at hl 1 rfl) ?_
            refine lv_iload_n hx hb dX7_say_197 rfl (lv_at hl 8 rfl) ?_
            refine lv_iload hx hb dX7_say_198 (lv_at hl 0 rfl) ?_
            obtain ⟨x200, X200, hx200⟩ : ∃ (Z : Int32) (Y : xS), (Z, Y) = x7_say zf X190 2 x40 x := ⟨_, _, rfl⟩
            refine xr_Si (r0 := x200) (X2 := X200) C hA G (by rw [hx200]; exact ih X190 2 x40 x hv) (va_cwS 5 C.2.2.2.2.1 gX7_say_X7_say rfl rfl rfl (by decide +kernel) ⟨(by show (zf + 4) + 1 ≤ (zf + 1) + 4; omega), (by show 8 + (10 + 11) + (29 * zf + 200) ≤ 29 * (zf + 1) + 200; omega)⟩) rfl hl.1 rfl (Nat.le_of_ble_eq_true rfl) dX7_say_200 ⟨Nat.le_refl _, Nat.le_refl _⟩ (fun H locs G => ?_)
            have hv : vS X200 := by have h9 := sy_v zf X190 2 x40 x hv; rw [← hx200] at h9; exact h9
            rw [lt2_e hx200] at hF
            refine lv_ixor hx hb dX7_say_203 ?_
            exact hret _ _ _ _ _ _ hF G dX7_say_204
          · rw [if_neg c59_13] at hF
            by_cases c59_20 : x34 = 20
            · rw [if_pos c59_20] at hF
              refine lv_lookup (off := 146) (tgt := 205) hx hb dX7_say_59 (by decide) (by rw [c59_20]; rfl) (by decide) ?_
              refine lv_aload_n hx hb dX7_say_205 rfl (lv_at hl 5 rfl) ?_
              refine lv_iconst (v := 0) hx hb dX7_say_206 (by decide) ?_
              refine lv_iload hx hb dX7_say_207 (lv_at hl 3 rfl) ?_
              refine lv_iload_n hx hb dX7_say_209 rfl (lv_at hl 8 rfl) ?_
              refine lv_iload hx hb dX7_say_210 (lv_at hl 0 rfl) ?_
              obtain ⟨x212, X212, hx212⟩ : ∃ (Z : Int32) (Y : xS), (Z, Y) = x7_say zf X54 0 x26 x := ⟨_, _, rfl⟩
              refine xr_Si (r0 := x212) (X2 := X212) C hA G (by rw [hx212]; exact ih X54 0 x26 x hv) (va_cwS 5 C.2.2.2.2.1 gX7_say_X7_say rfl rfl rfl (by decide +kernel) ⟨(by show (zf + 4) + 1 ≤ (zf + 1) + 4; omega), (by show 8 + (10 + 11) + (29 * zf + 200) ≤ 29 * (zf + 1) + 200; omega)⟩) rfl hl.1 rfl (Nat.le_of_ble_eq_true rfl) dX7_say_212 ⟨Nat.le_refl _, Nat.le_refl _⟩ (fun H locs G => ?_)
              have hv : vS X212 := by have h9 := sy_v zf X54 0 x26 x hv; rw [← hx212] at h9; exact h9
              rw [lt2_e hx212] at hF
              refine lv_iconst (v := 3) hx hb dX7_say_215 (by decide) ?_
              refine lv_imul hx hb dX7_say_216 ?_
              exact hret _ _ _ _ _ _ hF G dX7_say_217
            · rw [if_neg c59_20] at hF
              by_cases c59_30 : x34 = 30
              · rw [if_pos c59_30] at hF
                refine lv_lookup (off := 159) (tgt := 218) hx hb dX7_say_59 (by decide) (by rw [c59_30]; rfl) (by decide) ?_
                refine lv_aload_n hx hb dX7_say_218 rfl (lv_at hl 5 rfl) ?_
                refine lv_iconst (v := 1) hx hb dX7_say_219 (by decide) ?_
                refine lv_iload hx hb dX7_say_220 (lv_at hl 3 rfl) ?_
                refine lv_iload_n hx hb dX7_say_222 rfl (lv_at hl 8 rfl) ?_
                refine lv_iload hx hb dX7_say_223 (lv_at hl 0 rfl) ?_
                obtain ⟨x225, X225, hx225⟩ : ∃ (Z : Int32) (Y : xS), (Z, Y) = x7_say zf X54 1 x26 x := ⟨_, _, rfl⟩
                refine xr_Si (r0 := x225) (X2 := X225) C hA G (by rw [hx225]; exact ih X54 1 x26 x hv) (va_cwS 5 C.2.2.2.2.1 gX7_say_X7_say rfl rfl rfl (by decide +kernel) ⟨(by show (zf + 4) + 1 ≤ (zf + 1) + 4; omega), (by show 8 + (10 + 11) + (29 * zf + 200) ≤ 29 * (zf + 1) + 200; omega)⟩) rfl hl.1 rfl (Nat.le_of_ble_eq_true rfl) dX7_say_225 ⟨Nat.le_refl _, Nat.le_refl _⟩ (fun H locs G => ?_)
                have hv : vS X225 := by have h9 := sy_v zf X54 1 x26 x hv; rw [← hx225] at h9; exact h9
                rw [lt2_e hx225] at hF
                refine lv_aload_n hx hb dX7_say_228 rfl (lv_at hl 5 rfl) ?_
                refine lv_iconst (v := 2) hx hb dX7_say_229 (by decide) ?_
                refine lv_iload hx hb dX7_say_230 (lv_at hl 1 rfl) ?_
                refine lv_iconst (v := 1) hx hb dX7_say_232 (by decide) ?_
                refine lv_iload hx hb dX7_say_233 (lv_at hl 0 rfl) ?_
                obtain ⟨x235, X235, hx235⟩ : ∃ (Z : Int32) (Y : xS), (Z, Y) = x7_say zf X225 2 x40 1 := ⟨_, _, rfl⟩
                refine xr_Si (r0 := x235) (X2 := X235) C hA G (by rw [hx235]; exact ih X225 2 x40 1 hv) (va_cwS 5 C.2.2.2.2.1 gX7_say_X7_say rfl rfl rfl (by decide +kernel) ⟨(by show (zf + 4) + 1 ≤ (zf + 1) + 4; omega), (by show 8 + (10 + 11) + (29 * zf + 200) ≤ 29 * (zf + 1) + 200; omega)⟩) rfl hl.1 rfl (Nat.le_of_ble_eq_true rfl) dX7_say_235 ⟨Nat.le_refl _, Nat.le_refl _⟩ (fun H locs G => ?_)
                have hv : vS X235 := by have h9 := sy_v zf X225 2 x40 1 hv; rw [← hx235] at h9; exact h9
                rw [lt2_e hx235] at hF
                refine lv_isub hx hb dX7_say_238 ?_
                exact hret _ _ _ _ _ _ hF G dX7_say_239
              · rw [if_neg c59_30] at hF
                by_cases c59_40 : x34 = 40
                · rw [if_pos c59_40] at hF
                  refine lv_lookup (off := 181) (tgt := 240) hx hb dX7_say_59 (by decide) (by rw [c59_40]; rfl) (by decide) ?_
                  refine lv_aload_n hx hb dX7_say_240 rfl (lv_at hl 5 rfl) ?_
                  refine lv_iconst (v := 2) hx hb dX7_say_241 (by decide) ?_
                  refine lv_iload hx hb dX7_say_242 (lv_at hl 3 rfl) ?_
                  refine lv_iload_n hx hb dX7_say_244 rfl (lv_at hl 8 rfl) ?_
                  refine lv_iload hx hb dX7_say_245 (lv_at hl 0 rfl) ?_
                  obtain ⟨x247, X247, hx247⟩ : ∃ (Z : Int32) (Y : xS), (Z, Y) = x7_say zf X54 2 x26 x := ⟨_, _, rfl⟩
                  refine xr_Si (r0 := x247) (X2 := X247) C hA G (by rw [hx247]; exact ih X54 2 x26 x hv) (va_cwS 5 C.2.2.2.2.1 gX7_say_X7_say rfl rfl rfl (by decide +kernel) ⟨(by show (zf + 4) + 1 ≤ (zf + 1) + 4; omega), (by show 8 + (10 + 11) + (29 * zf + 200) ≤ 29 * (zf + 1) + 200; omega)⟩) rfl hl.1 rfl (Nat.le_of_ble_eq_true rfl) dX7_say_247 ⟨Nat.le_refl _, Nat.le_refl _⟩ (fun H locs G => ?_)
                  have hv : vS X247 := by have h9 := sy_v zf X54 2 x26 x hv; rw [← hx247] at h9; exact h9
                  rw [lt2_e hx247] at hF
                  refine lv_ineg hx hb dX7_say_250 ?_
                  exact hret _ _ _ _ _ _ hF G dX7_say_251
                · rw [if_neg c59_40] at hF
                  by_cases c59_50 : x34 = 50
                  · rw [if_pos c59_50] at hF
                    refine lv_lookup (off := 193) (tgt := 252) hx hb dX7_say_59 (by decide) (by rw [c59_50]; rfl) (by decide) ?_
                    refine lv_aload_n hx hb dX7_say_252 rfl (lv_at hl 5 rfl) ?_
                    refine lv_iconst (v := 3) hx hb dX7_say_253 (by decide) ?_
                    refine lv_iload hx hb dX7_say_254 (lv_at hl 3 rfl) ?_
                    refine lv_iload_n hx hb dX7_say_256 rfl (lv_at hl 8 rfl) ?_
                    refine lv_iload hx hb dX7_say_257 (lv_at hl 0 rfl) ?_
                    obtain ⟨x259, X259, hx259⟩ : ∃ (Z : Int32) (Y : xS), (Z, Y) = x7_say zf X54 3 x26 x := ⟨_, _, rfl⟩
                    refine xr_Si (r0 := x259) (X2 := X259) C hA G (by rw [hx259]; exact ih X54 3 x26 x hv) (va_cwS 5 C.2.2.2.2.1 gX7_say_X7_say rfl rfl rfl (by decide +kernel) ⟨(by show (zf + 4) + 1 ≤ (zf + 1) + 4; omega), (by show 8 + (10 + 11) + (29 * zf + 200) ≤ 29 * (zf + 1) + 200; omega)⟩) rfl hl.1 rfl (Nat.le_of_ble_eq_true rfl) dX7_say_259 ⟨Nat.le_refl _, Nat.le_refl _⟩ (fun H locs G => ?_)
                    have hv : vS X259 := by have h9 := sy_v zf X54 3 x26 x hv; rw [← hx259] at h9; exact h9
                    rw [lt2_e hx259] at hF
                    refine lv_aload_n hx hb dX7_say_262 rfl (lv_at hl 5 rfl) ?_
                    refine lv_iconst (v := 0) hx hb dX7_say_263 (by decide) ?_
                    refine lv_iload hx hb dX7_say_264 (lv_at hl 1 rfl) ?_
                    refine lv_iconst (v := 2) hx hb dX7_say_266 (by decide) ?_
                    refine lv_iload hx hb dX7_say_267 (lv_at hl 0 rfl) ?_
                    obtain ⟨x269, X269, hx269⟩ : ∃ (Z : Int32) (Y : xS), (Z, Y) = x7_say zf X259 0 x40 2 := ⟨_, _, rfl⟩
                    refine xr_Si (r0 := x269) (X2 := X269) C hA G (by rw [hx269]; exact ih X259 0 x40 2 hv) (va_cwS 5 C.2.2.2.2.1 gX7_say_X7_say rfl rfl rfl (by decide +kernel) ⟨(by show (zf + 4) + 1 ≤ (zf + 1) + 4; omega), (by show 8 + (10 + 11) + (29 * zf + 200) ≤ 29 * (zf + 1) + 200; omega)⟩) rfl hl.1 rfl (Nat.le_of_ble_eq_true rfl) dX7_say_269 ⟨Nat.le_refl _, Nat.le_refl _⟩ (fun H locs G => ?_)
                    have hv : vS X269 := by have h9 := sy_v zf X259 0 x40 2 hv; rw [← hx269] at h9; exact h9
                    rw [lt2_e hx269] at hF
                    refine lv_isub hx hb dX7_say_272 ?_
                    exact hret _ _ _ _ _ _ hF G dX7_say_273
                  · rw [if_neg c59_50] at hF
                    by_cases c59_60 : x34 = 60
                    · rw [if_pos c59_60] at hF
                      refine lv_lookup (off := 215) (tgt := 274) hx hb dX7_say_59 (by decide) (by rw [c59_60]; rfl) (by decide) ?_
                      refine lv_aload_n hx hb dX7_say_274 rfl (lv_at hl 5 rfl) ?_
                      refine lv_iconst (v := 1) hx hb dX7_say_275 (by decide) ?_
                      refine lv_iload hx hb dX7_say_276 (lv_at hl 3 rfl) ?_
                      refine lv_iload_n hx hb dX7_say_278 rfl (lv_at hl 8 rfl) ?_
                      refine lv_iconst (v := 1) hx hb dX7_say_279 (by decide) ?_
                      refine lv_iadd hx hb dX7_say_280 ?_
                      refine lv_iload hx hb dX7_say_281 (lv_at hl 0 rfl) ?_
                      obtain ⟨x283, X283, hx283⟩ : ∃ (Z : Int32) (Y : xS), (Z, Y) = x7_say zf X54 1 x26 (x + 1) := ⟨_, _, rfl⟩
                      refine xr_Si (r0 := x283) (X2 := X283) C hA G (by rw [hx283]; exact ih X54 1 x26 (x + 1) hv) (va_cwS 5 C.2.2.2.2.1 gX7_say_X7_say rfl rfl rfl (by decide +kernel) ⟨(by show (zf + 4) + 1 ≤ (zf + 1) + 4; omega), (by show 8 + (10 + 11) + (29 * zf + 200) ≤ 29 * (zf + 1) + 200; omega)⟩) rfl hl.1 rfl (Nat.le_of_ble_eq_true rfl) dX7_say_283 ⟨Nat.le_refl _, Nat.le_refl _⟩ (fun H locs G => ?_)
                      have hv : vS X283 := by have h9 := sy_v zf X54 1 x26 (x + 1) hv; rw [← hx283] at h9; exact h9
                      rw [lt2_e hx283] at hF
                      exact hret _ _ _ _ _ _ hF G dX7_say_286
                    · rw [if_neg c59_60] at hF
                      by_cases c59_70 : x34 = 70
                      · rw [if_pos c59_70] at hF
                        refine lv_lookup (off := 228) (tgt := 287) hx hb dX7_say_59 (by decide) (by rw [c59_70]; rfl) (by decide) ?_
                        refine lv_aload_n hx hb dX7_say_287 rfl (lv_at hl 5 rfl) ?_
                        refine lv_iconst (v := 2) hx hb dX7_say_288 (by decide) ?_
                        refine lv_iload hx hb dX7_say_289 (lv_at hl 3 rfl) ?_
                        refine lv_iload_n hx hb dX7_say_291 rfl (lv_at hl 8 rfl) ?_
                        refine lv_iload hx hb dX7_say_292 (lv_at hl 0 rfl) ?_
                        obtain ⟨x294, X294, hx294⟩ : ∃ (Z : Int32) (Y : xS), (Z, Y) = x7_say zf X54 2 x26 x := ⟨_, _, rfl⟩
                        refine xr_Si (r0 := x294) (X2 := X294) C hA G (by rw [hx294]; exact ih X54 2 x26 x hv) (va_cwS 5 C.2.2.2.2.1 gX7_say_X7_say rfl rfl rfl (by decide +kernel) ⟨(by show (zf + 4) + 1 ≤ (zf + 1) + 4; omega), (by show 8 + (10 + 11) + (29 * zf + 200) ≤ 29 * (zf + 1) + 200; omega)⟩) rfl hl.1 rfl (Nat.le_of_ble_eq_true rfl) dX7_say_294 ⟨Nat.le_refl _, Nat.le_refl _⟩ (fun H locs G => ?_)
                        have hv : vS X294 := by have h9 := sy_v zf X54 2 x26 x hv; rw [← hx294] at h9; exact h9
                        rw [lt2_e hx294] at hF
                        refine lv_aload_n hx hb dX7_say_297 rfl (lv_at hl 5 rfl) ?_
                        refine xr_get C G (show kV 47 by decide).2 (xV_c (show kV 47 by decide).1) rfl (fun _ h => List.mem_cons_of_mem _ (List.mem_append_left _ (List.mem_append_right _ h))) 2 (by decide) (show Cond.fieldLink RX7 24 "WheatCounts$Voices" "n" "I" ∈ _ by decide +kernel) rfl dX7_say_298 ?_
                        refine lv_ixor hx hb dX7_say_301 ?_
                        exact hret _ _ _ _ _ _ hF G dX7_say_302
                      · rw [if_neg c59_70] at hF
                        by_cases c59_71 : x34 = 71
                        · rw [if_pos c59_71] at hF
                          refine lv_lookup (off := 244) (tgt := 303) hx hb dX7_say_59 (by decide) (by rw [c59_71]; rfl) (by decide) ?_
                          refine lv_aload_n hx hb dX7_say_303 rfl (lv_at hl 5 rfl) ?_
                          refine lv_iconst (v := 1) hx hb dX7_say_304 (by decide) ?_
                          refine lv_iload hx hb dX7_say_305 (lv_at hl 1 rfl) ?_
                          refine lv_iload_n hx hb dX7_say_307 rfl (lv_at hl 8 rfl) ?_
                          refine lv_iload hx hb dX7_say_308 (lv_at hl 0 rfl) ?_
                          obtain ⟨x310, X310, hx310⟩ : ∃ (Z : Int32) (Y : xS), (Z, Y) = x7_say zf X54 1 x40 x := ⟨_, _, rfl⟩
                          refine xr_Si (r0 := x310) (X2 := X310) C hA G (by rw [hx310]; exact ih X54 1 x40 x hv) (va_cwS 5 C.2.2.2.2.1 gX7_say_X7_say rfl rfl rfl (by decide +kernel) ⟨(by show (zf + 4) + 1 ≤ (zf + 1) + 4; omega), (by show 8 + (10 + 11) + (29 * zf + 200) ≤ 29 * (zf + 1) + 200; omega)⟩) rfl hl.1 rfl (Nat.le_of_ble_eq_true rfl) dX7_say_310 ⟨Nat.le_refl _, Nat.le_refl _⟩ (fun H locs G => ?_)
                          have hv : vS X310 := by have h9 := sy_v zf X54 1 x40 x hv; rw [← hx310] at h9; exact h9
                          rw [lt2_e hx310] at hF
                          refine lv_aload_n hx hb dX7_say_313 rfl (lv_at hl 5 rfl) ?_
                          refine lv_iconst (v := 3) hx hb dX7_say_314 (by decide) ?_
                          refine lv_iload hx hb dX7_say_315 (lv_at hl 3 rfl) ?_
                          refine lv_iload_n hx hb dX7_say_317 rfl (lv_at hl 8 rfl) ?_
                          refine lv_iload hx hb dX7_say_318 (lv_at hl 0 rfl) ?_
                          obtain ⟨x320, X320, hx320⟩ : ∃ (Z : Int32) (Y : xS), (Z, Y) = x7_say zf X310 3 x26 x := ⟨_, _, rfl⟩
                          refine xr_Si (r0 := x320) (X2 := X320) C hA G (by rw [hx320]; exact ih X310 3 x26 x hv) (va_cwS 5 C.2.2.2.2.1 gX7_say_X7_say rfl rfl rfl (by decide +kernel) ⟨(by show (zf + 4) + 1 ≤ (zf + 1) + 4; omega), (by show 8 + (10 + 11) + (29 * zf + 200) ≤ 29 * (zf + 1) + 200; omega)⟩) rfl hl.1 rfl (Nat.le_of_ble_eq_true rfl) dX7_say_320 ⟨Nat.le_refl _, Nat.le_refl _⟩ (fun H locs G => ?_)
                          have hv : vS X320 := by have h9 := sy_v zf X310 3 x26 x hv; rw [← hx320] at h9; exact h9
                          rw [lt2_e hx320] at hF
                          refine lv_isub hx hb dX7_say_323 ?_
                          exact hret _ _ _ _ _ _ hF G dX7_say_324
                        · rw [if_neg c59_71] at hF
                          refine lv_lookup (tgt := 325) (off := 266) hx hb dX7_say_59 (by decide) (by simp [Op.lookupswitch.offset, List.find?, show ¬ (10 : Int) = x34.toInt from fun e9 => c59_10 (Int32.toInt_inj.mp e9.symm), show ¬ (11 : Int) = x34.toInt from fun e9 => c59_11 (Int32.toInt_inj.mp e9.symm), show ¬ (12 : Int) = x34.toInt from fun e9 => c59_12 (Int32.toInt_inj.mp e9.symm), show ¬ (13 : Int) = x34.toInt from fun e9 => c59_13 (Int32.toInt_inj.mp e9.symm), show ¬ (20 : Int) = x34.toInt from fun e9 => c59_20 (Int32.toInt_inj.mp e9.symm), show ¬ (30 : Int) = x34.toInt from fun e9 => c59_30 (Int32.toInt_inj.mp e9.symm), show ¬ (40 : Int) = x34.toInt from fun e9 => c59_40 (Int32.toInt_inj.mp e9.symm), show ¬ (50 : Int) = x34.toInt from fun e9 => c59_50 (Int32.toInt_inj.mp e9.symm), show ¬ (60 : Int) = x34.toInt from fun e9 => c59_60 (Int32.toInt_inj.mp e9.symm), show ¬ (70 : Int) = x34.toInt from fun e9 => c59_70 (Int32.toInt_inj.mp e9.symm), show ¬ (71 : Int) = x34.toInt from fun e9 => c59_71 (Int32.toInt_inj.mp e9.symm)]) (by decide) ?_
                          refine lv_iconst (v := 0) hx hb dX7_say_325 (by decide) ?_
                          exact hret _ _ _ _ _ _ hF G dX7_say_326
theorem kx7_say (zl : Launch) (D : va_G) (ad sa : Nat → Nat) (cc : cT) (tt : tT) : ∀ (f d : Nat), f + d = 13 → ∀ (X : xS) (act of x : Int32), vS X → xM zl D ad sa cc tt yX7_say wsX7_say ({ frames := f + 4, cells := 0, slots := 0, locals := 29 * f + 200 } : Room) [.ref (ad 47), .int act, .int of, .int x, .int (nI d)] X (x7_say f X act of x) := by
  intro f
  induction f with
  | zero =>
    intro d hd X act of x hv
    rw [show d = 13 by omega]
    exact kx7_say_z zl D ad sa cc tt 0 X act of x hv
  | succ f ih =>
    intro d hd X act of x hv
    exact kx7_say_s zl D ad sa cc tt f d (fun X act of x hv => ih (d + 1) (by omega) X act of x hv) (by omega) X act of x hv
theorem kx7_say0 (zl : Launch) (D : va_G) (ad sa : Nat → Nat) (cc : cT) (tt : tT) (X : xS) (act of x : Int32) (hv : vS X) : xM zl D ad sa cc tt yX7_say wsX7_say ({ frames := 17, cells := 0, slots := 0, locals := 577 } : Room) [.ref (ad 47), .int act, .int of, .int x, .int 0] X (x7_say 13 X act of x) := kx7_say zl D ad sa cc tt 13 0 rfl X act of x hv
set_option maxRecDepth 100000 in
set_option maxHeartbeats 4000000 in
theorem kx7_answer (zl : Launch) (D : va_G) (ad sa : Nat → Nat) (cc : cT) (tt : tT) (X : xS) (act : Int32) (x : Int32) (hv : vS X) : xM zl D ad sa cc tt yX7_answer wsX7_answer ({ frames := 18, cells := 0, slots := 0, locals := 606 } : Room) [.ref (ad 47), .int act, .int x] X (x7_answer X act x) := by
  refine xM_of (code := cX7_answer) (nL := 3) (own := RX7) (by decide) rfl rfl (Nat.le_of_ble_eq_true rfl) ?_
  intro zp ze zs zm zg zb zt zc zA zQ C hA hret H locs ls hl G
  have hx := C.1
  have hb := C.2.1
  have hl : lv_has ls 3 [(0, .ref (ad 47)), (1, .int act), (2, .int x)] := hl
  obtain ⟨rM, hF⟩ : ∃ Z : Int32 × xS, Z = x7_answer X act x := ⟨_, rfl⟩
  rw [← hF] at hret
  unfold x7_answer at hF
  refine lv_aload_n hx hb dX7_answer_0 rfl (lv_at hl 0 rfl) ?_
  refine lv_iload_n hx hb dX7_answer_1 rfl (lv_at hl 1 rfl) ?_
  refine lv_aload_n hx hb dX7_answer_2 rfl (lv_at hl 0 rfl) ?_
  refine xr_get C G (show kV 47 by decide).2 (xV_c (show kV 47 by decide).1) rfl (fun _ h => List.mem_cons_of_mem _ (List.mem_append_left _ (List.mem_append_right _ h))) 1 (by decide) (show Cond.fieldLink RX7 20 "WheatCounts$Voices" "kind" "I" ∈ _ by decide +kernel) rfl dX7_answer_3 ?_
  refine lv_iload_n hx hb dX7_answer_6 rfl (lv_at hl 2 rfl) ?_
  refine lv_iconst (v := 0) hx hb dX7_answer_7 (by decide) ?_
  obtain ⟨x8, X8, hx8⟩ : ∃ (Z : Int32) (Y : xS), (Z, Y) = x7_say 13 X act (X 47 1) x := ⟨_, _, rfl⟩
  refine xr_Si (r0 := x8) (X2 := X8) C hA G (by rw [hx8]; exact (kx7_say0 zl D ad sa cc tt X act (X 47 1) x hv)) (va_cwS 5 C.2.2.2.2.1 gX7_answer_X7_say rfl rfl rfl (by decide +kernel) ⟨Nat.le_of_ble_eq_true rfl, Nat.le_of_ble_eq_true rfl⟩) rfl hl.1 rfl (Nat.le_of_ble_eq_true rfl) dX7_answer_8 ⟨Nat.le_refl _, Nat.le_refl _⟩ (fun H locs G => ?_)
  rw [lt2_e hx8] at hF
  exact hret _ _ _ _ _ _ hF G dX7_answer_11

