set_option maxRecDepth 100000 in
set_option maxHeartbeats 4000000 in
theorem kx8_seed (zl : Launch) (D : va_G) (ad sa : Nat → Nat) (cc : cT) (tt : tT) (X : xS) (v : Int32) : xM zl D ad sa cc tt yX8_seed wsX8_seed ({ frames := 0, cells := 0, slots := 0, locals := 0 } : Room) [.ref (ad 0), .int v] X (x8_seed X v) := by
  refine xM_of (code := cX8_seed) (nL := 3) (own := RX8) (by decide) rfl rfl (Nat.le_of_ble_eq_true rfl) ?_
  intro zp ze zs zm zg zb zt zc zA zQ C hA hret H locs ls hl G
  have hx := C.1
  have hb := C.2.1
  have hl : lv_has ls 3 [(0, .ref (ad 0)), (1, .int v)] := hl
  obtain ⟨rM, hF⟩ : ∃ Z : Int32 × xS, Z = x8_seed X v := ⟨_, rfl⟩
  rw [← hF] at hret
  unfold x8_seed at hF
  refine lv_aload_n hx hb dX8_seed_0 rfl (lv_at hl 0 rfl) ?_
  refine xr_get C G (show kW 0 by decide).2 (xW_c (show kW 0 by decide).1) rfl (fun _ h => List.mem_cons_of_mem _ (List.mem_append_left _ (List.mem_append_right _ h))) 0 (by decide) (show Cond.fieldLink RX8 10 "WheatCounts" "estate" "LWheatCounts$Estate;" ∈ _ by decide +kernel) rfl dX8_seed_1 ?_
  refine xr_get C G (show kE 1 by decide).2 (xE_c (show kE 1 by decide).1) rfl (fun _ h => List.mem_cons_of_mem _ (List.mem_append_right _ h)) 18 (by decide) (show Cond.fieldLink RX8 282 "WheatCounts$Estate" "z" "I" ∈ _ by decide +kernel) rfl dX8_seed_4 ?_
  refine lv_topi (fun x7 hx7 => ?_)
  rw [lt_e hx7] at hF
  refine lv_istore_n (lv' := [(2, .int x7), (0, .ref (ad 0)), (1, .int v)]) hx hb dX8_seed_7 rfl hl (by decide) rfl (fun ls hl => ?_)
  refine lv_aload_n hx hb dX8_seed_8 rfl (lv_at hl 1 rfl) ?_
  refine xr_get C G (show kW 0 by decide).2 (xW_c (show kW 0 by decide).1) rfl (fun _ h => List.mem_cons_of_mem _ (List.mem_append_left _ (List.mem_append_right _ h))) 0 (by decide) (show Cond.fieldLink RX8 10 "WheatCounts" "estate" "LWheatCounts$Estate;" ∈ _ by decide +kernel) rfl dX8_seed_9 ?_
  refine lv_iload_n hx hb dX8_seed_12 rfl (lv_at hl 2 rfl) ?_
  refine xr_put C G (show kE 1 by decide).2 (xE_c (show kE 1 by decide).1) rfl (fun _ h => List.mem_cons_of_mem _ (List.mem_append_right _ h)) tyX0 tyX0_ok nmX0 18 (by decide) rfl (show Cond.fieldLink RX8 282 "WheatCounts$Estate" "z" "I" ∈ _ by decide +kernel) (ty := .int) (by decide +kernel) rfl rfl (Nat.le_of_ble_eq_true rfl) (upd (X 1) 18 v) (xE_c (show kE 1 by decide).1) dX8_seed_13 (fun H locs G => ?_)
  obtain ⟨X13, hX13⟩ : ∃ Z : xS, Z = mU X 1 18 v := ⟨_, rfl⟩
  have G : xG D ad sa cc tt zA zs.heap H locs X13 := by rw [hX13]; exact G
  rw [lt_e hX13] at hF
  refine lv_iload_n hx hb dX8_seed_16 rfl (lv_at hl 0 rfl) ?_
  exact hret _ _ _ _ _ _ hF G dX8_seed_17
set_option maxRecDepth 100000 in
set_option maxHeartbeats 4000000 in
theorem kx8_voice (zl : Launch) (D : va_G) (ad sa : Nat → Nat) (cc : cT) (tt : tT) (X : xS) (q : Int32) (act : Int32) (x : Int32) (hp : eP X 1) (hv : vS X) : xM zl D ad sa cc tt yX8_voice wsX8_voice ({ frames := 19, cells := 0, slots := 0, locals := 628 } : Room) [.ref (ad 0), .int q, .int act, .int x] X (x8_voice X q act x) := by
  refine xM_of (code := cX8_voice) (nL := 4) (own := RX8) (by decide) rfl rfl (Nat.le_of_ble_eq_true rfl) ?_
  intro zp ze zs zm zg zb zt zc zA zQ C hA hret H locs ls hl G
  have hx := C.1
  have hb := C.2.1
  have hl : lv_has ls 4 [(0, .ref (ad 0)), (1, .int q), (2, .int act), (3, .int x)] := hl
  obtain ⟨rM, hF⟩ : ∃ Z : Int32 × xS, Z = x8_voice X q act x := ⟨_, rfl⟩
  rw [← hF] at hret
  unfold x8_voice at hF
  have hp2 := hp.2
  refine lv_aload_n hx hb dX8_voice_0 rfl (lv_at hl 0 rfl) ?_
  refine lv_iload_n hx hb dX8_voice_1 rfl (lv_at hl 1 rfl) ?_
  refine xr_Vi C hA G (kx8_isPerson zl D ad sa cc tt X q) (show kW 0 by decide).2 (xW_c (show kW 0 by decide).1) rfl (cwV 1 C.2.2.2.2.1 gX8_voice_X8_isPerson rfl rfl rfl (by decide +kernel) ⟨Nat.le_of_ble_eq_true rfl, Nat.le_of_ble_eq_true rfl⟩) rfl hl.1 rfl (Nat.le_of_ble_eq_true rfl) dX8_voice_2 ⟨Nat.le_refl _, Nat.le_refl _⟩ (fun H locs G => ?_)
  refine lv_if_eq (tgt := 17) hx hb dX8_voice_5 (by decide) (fun c5 => ?_) (fun c5 => ?_)
  · rw [if_pos c5] at hF
    refine lv_aload_n hx hb dX8_voice_17 rfl (lv_at hl 0 rfl) ?_
    refine lv_iconst (v := 1) hx hb dX8_voice_18 (by decide) ?_
    obtain ⟨x19, X19, hx19⟩ : ∃ (Z : Int32) (Y : xS), (Z, Y) = x8_error X 1 := ⟨_, _, rfl⟩
    refine xr_Vi (r0 := x19) (X2 := X19) C hA G (by rw [hx19]; exact (kx8_error zl D ad sa cc tt X 1)) (show kW 0 by decide).2 (xW_c (show kW 0 by decide).1) rfl (cwV 1 C.2.2.2.2.1 gX8_voice_X8_error rfl rfl rfl (by decide +kernel) ⟨Nat.le_of_ble_eq_true rfl, Nat.le_of_ble_eq_true rfl⟩) rfl hl.1 rfl (Nat.le_of_ble_eq_true rfl) dX8_voice_19 ⟨Nat.le_refl _, Nat.le_refl _⟩ (fun H locs G => ?_)
    rw [lt2_e hx19] at hF
    exact hret _ _ _ _ _ _ hF G dX8_voice_22
  · rw [if_neg c5] at hF
    have q9 := pers_x hp c5
    have q92 := q9.2
    have q93 : vn q < 8 := by omega
    refine lv_iload_n hx hb dX8_voice_8 rfl (lv_at hl 2 rfl) ?_
    refine lv_iconst (v := 0) hx hb dX8_voice_9 (by decide) ?_
    refine lv_iconst (v := 3) hx hb dX8_voice_10 (by decide) ?_
    refine xr_ps C hA G (ks_X8_within zl act 0 3) (va_cwS 3 C.2.2.2.2.1 gX8_voice_X8_within rfl rfl rfl (by decide +kernel) ⟨Nat.le_of_ble_eq_true rfl, Nat.le_of_ble_eq_true rfl⟩) rfl hl.1 rfl (Nat.le_of_ble_eq_true rfl) dX8_voice_11 ⟨Nat.le_refl _, Nat.le_refl _⟩ (fun H locs G => ?_)
    refine lv_if_ne (tgt := 23) hx hb dX8_voice_14 (by decide) (fun c14 => ?_) (fun c14 => ?_)
    · rw [if_neg c14] at hF
      refine lv_aload_n hx hb dX8_voice_23 rfl (lv_at hl 0 rfl) ?_
      refine xr_get C G (show kW 0 by decide).2 (xW_c (show kW 0 by decide).1) rfl (fun _ h => List.mem_cons_of_mem _ (List.mem_append_left _ (List.mem_append_left _ (List.mem_append_left _ (List.mem_append_right _ h))))) 6 (by decide) (show Cond.fieldLink RX8 39 "WheatCounts" "voices" "LWheatCounts$Voices;" ∈ _ by decide +kernel) rfl dX8_voice_24 ?_
      refine lv_aload_n hx hb dX8_voice_27 rfl (lv_at hl 0 rfl) ?_
      refine xr_get C G (show kW 0 by decide).2 (xW_c (show kW 0 by decide).1) rfl (fun _ h => List.mem_cons_of_mem _ (List.mem_append_left _ (List.mem_append_left _ (List.mem_append_left _ (List.mem_append_right _ h))))) 0 (by decide) (show Cond.fieldLink RX8 10 "WheatCounts" "estate" "LWheatCounts$Estate;" ∈ _ by decide +kernel) rfl dX8_voice_28 ?_
      refine xr_get C G (show kE 1 by decide).2 (xE_c (show kE 1 by decide).1) rfl (fun _ h => List.mem_cons_of_mem _ (List.mem_append_left _ (List.mem_append_left _ (List.mem_append_right _ h)))) 10 (by decide) (show Cond.fieldLink RX8 118 "WheatCounts$Estate" "kind" "[I" ∈ _ by decide +kernel) rfl dX8_voice_31 ?_
      refine lv_iload_n hx hb dX8_voice_34 rfl (lv_at hl 1 rfl) ?_
      refine xr_ald C G (show kI 5 8 by decide).2 (xI_c (show kI 5 8 by decide).1 _) (vn q) q9.1 (by omega) (xI_lt (show kI 5 8 by decide)) dX8_voice_35 ?_
      refine lv_iload_n hx hb dX8_voice_36 rfl (lv_at hl 1 rfl) ?_
      refine lv_aload_n hx hb dX8_voice_37 rfl (lv_at hl 0 rfl) ?_
      refine xr_get C G (show kW 0 by decide).2 (xW_c (show kW 0 by decide).1) rfl (fun _ h => List.mem_cons_of_mem _ (List.mem_append_left _ (List.mem_append_left _ (List.mem_append_left _ (List.mem_append_right _ h))))) 0 (by decide) (show Cond.fieldLink RX8 10 "WheatCounts" "estate" "LWheatCounts$Estate;" ∈ _ by decide +kernel) rfl dX8_voice_38 ?_
      refine xr_get C G (show kE 1 by decide).2 (xE_c (show kE 1 by decide).1) rfl (fun _ h => List.mem_cons_of_mem _ (List.mem_append_left _ (List.mem_append_left _ (List.mem_append_right _ h)))) 11 (by decide) (show Cond.fieldLink RX8 121 "WheatCounts$Estate" "m" "[I" ∈ _ by decide +kernel) rfl dX8_voice_41 ?_
      refine lv_iload_n hx hb dX8_voice_44 rfl (lv_at hl 1 rfl) ?_
      refine xr_ald C G (show kI 6 8 by decide).2 (xI_c (show kI 6 8 by decide).1 _) (vn q) q9.1 (by omega) (xI_lt (show kI 6 8 by decide)) dX8_voice_45 ?_
      refine xr_Vv C hA G (kx7_begin zl D ad sa cc tt X (X 5 (vn q)) q (X 6 (vn q))) (show kV 47 by decide).2 (xV_c (show kV 47 by decide).1) rfl (cwV 3 C.2.2.2.2.1 gX8_voice_X7_begin rfl rfl rfl (by decide +kernel) ⟨Nat.le_of_ble_eq_true rfl, Nat.le_of_ble_eq_true rfl⟩) rfl hl.1 rfl (Nat.le_of_ble_eq_true rfl) dX8_voice_46 ⟨Nat.le_refl _, Nat.le_refl _⟩ (fun H locs G => ?_)
      obtain ⟨X46, hX46⟩ : ∃ Z : xS, Z = x7_begin X (X 5 (vn q)) q (X 6 (vn q)) := ⟨_, rfl⟩
      have G : xG D ad sa cc tt zA zs.heap H locs X46 := by rw [hX46]; exact G
      rw [lt_e hX46] at hF
      have hv46 : vS X46 := by rw [hX46]; exact bg_v _ _ _ _
      refine lv_aload_n hx hb dX8_voice_49 rfl (lv_at hl 0 rfl) ?_
      refine xr_get C G (show kW 0 by decide).2 (xW_c (show kW 0 by decide).1) rfl (fun _ h => List.mem_cons_of_mem _ (List.mem_append_left _ (List.mem_append_left _ (List.mem_append_left _ (List.mem_append_right _ h))))) 6 (by decide) (show Cond.fieldLink RX8 39 "WheatCounts" "voices" "LWheatCounts$Voices;" ∈ _ by decide +kernel) rfl dX8_voice_50 ?_
      refine lv_iload_n hx hb dX8_voice_53 rfl (lv_at hl 2 rfl) ?_
      refine lv_iload_n hx hb dX8_voice_54 rfl (lv_at hl 3 rfl) ?_
      obtain ⟨x55, X55, hx55⟩ : ∃ (Z : Int32) (Y : xS), (Z, Y) = x7_answer X46 act x := ⟨_, _, rfl⟩
      refine xr_Vi (r0 := x55) (X2 := X55) C hA G (by rw [hx55]; exact (kx7_answer zl D ad sa cc tt X46 act x hv46)) (show kV 47 by decide).2 (xV_c (show kV 47 by decide).1) rfl (cwV 2 C.2.2.2.2.1 gX8_voice_X7_answer rfl rfl rfl (by decide +kernel) ⟨Nat.le_of_ble_eq_true rfl, Nat.le_of_ble_eq_true rfl⟩) rfl hl.1 rfl (Nat.le_of_ble_eq_true rfl) dX8_voice_55 ⟨Nat.le_refl _, Nat.le_refl _⟩ (fun H locs G => ?_)
      rw [lt2_e hx55] at hF
      exact hret _ _ _ _ _ _ hF G dX8_voice_58
    · rw [if_pos c14] at hF
      refine lv_aload_n hx hb dX8_voice_17 rfl (lv_at hl 0 rfl) ?_
      refine lv_iconst (v := 1) hx hb dX8_voice_18 (by decide) ?_
      obtain ⟨x19, X19, hx19⟩ : ∃ (Z : Int32) (Y : xS), (Z, Y) = x8_error X 1 := ⟨_, _, rfl⟩
      refine xr_Vi (r0 := x19) (X2 := X19) C hA G (by rw [hx19]; exact (kx8_error zl D ad sa cc tt X 1)) (show kW 0 by decide).2 (xW_c (show kW 0 by decide).1) rfl (cwV 1 C.2.2.2.2.1 gX8_voice_X8_error rfl rfl rfl (by decide +kernel) ⟨Nat.le_of_ble_eq_true rfl, Nat.le_of_ble_eq_true rfl⟩) rfl hl.1 rfl (Nat.le_of_ble_eq_true rfl) dX8_voice_19 ⟨Nat.le_refl _, Nat.le_refl _⟩ (fun H locs G => ?_)
      rw [lt2_e hx19] at hF
      exact hret _ _ _ _ _ _ hF G dX8_voice_22
set_option maxRecDepth 100000 in
set_option maxHeartbeats 4000000 in
theorem kx8_trace (zl : Launch) (D : va_G) (ad sa : Nat → Nat) (cc : cT) (tt : tT) (X : xS) (i : Int32) (hv : vS X) : xM zl D ad sa cc tt yX8_trace wsX8_trace ({ frames := 2, cells := 0, slots := 0, locals := 43 } : Room) [.ref (ad 0), .int i] X (x8_trace X i) := by
  refine xM_of (code := cX8_trace) (nL := 2) (own := RX8) (by decide) rfl rfl (Nat.le_of_ble_eq_true rfl) ?_
  intro zp ze zs zm zg zb zt zc zA zQ C hA hret H locs ls hl G
  have hx := C.1
  have hb := C.2.1
  have hl : lv_has ls 2 [(0, .ref (ad 0)), (1, .int i)] := hl
  obtain ⟨rM, hF⟩ : ∃ Z : Int32 × xS, Z = x8_trace X i := ⟨_, rfl⟩
  rw [← hF] at hret
  unfold x8_trace at hF
  refine lv_iload_n hx hb dX8_trace_0 rfl (lv_at hl 1 rfl) ?_
  refine lv_iconst (v := 0) hx hb dX8_trace_1 (by decide) ?_
  refine lv_aload_n hx hb dX8_trace_2 rfl (lv_at hl 0 rfl) ?_
  refine xr_get C G (show kW 0 by decide).2 (xW_c (show kW 0 by decide).1) rfl (fun _ h => List.mem_cons_of_mem _ (List.mem_append_left _ (List.mem_append_left _ (List.mem_append_right _ h)))) 6 (by decide) (show Cond.fieldLink RX8 39 "WheatCounts" "voices" "LWheatCounts$Voices;" ∈ _ by decide +kernel) rfl dX8_trace_3 ?_
  refine xr_get C G (show kV 47 by decide).2 (xV_c (show kV 47 by decide).1) rfl (fun _ h => List.mem_cons_of_mem _ (List.mem_append_left _ (List.mem_append_right _ h))) 0 (by decide) (show Cond.fieldLink RX8 292 "WheatCounts$Voices" "bodies" "LWheatCounts$Row;" ∈ _ by decide +kernel) rfl dX8_trace_6 ?_
  refine xr_get C G (show kR 48 by decide).2 (xR_c (show kR 48 by decide).1) rfl (fun _ h => List.mem_cons_of_mem _ (List.mem_append_right _ h)) 1 (by decide) (show Cond.fieldLink RX8 156 "WheatCounts$Row" "size" "I" ∈ _ by decide +kernel) rfl dX8_trace_9 ?_
  refine lv_iconst (v := 1) hx hb dX8_trace_12 (by decide) ?_
  refine lv_isub hx hb dX8_trace_13 ?_
  refine xr_ps C hA G (ks_X8_within zl i 0 ((X 48 1) - 1)) (va_cwS 3 C.2.2.2.2.1 gX8_trace_X8_within rfl rfl rfl (by decide +kernel) ⟨Nat.le_of_ble_eq_true rfl, Nat.le_of_ble_eq_true rfl⟩) rfl hl.1 rfl (Nat.le_of_ble_eq_true rfl) dX8_trace_14 ⟨Nat.le_refl _, Nat.le_refl _⟩ (fun H locs G => ?_)
  refine lv_if_ne (tgt := 26) hx hb dX8_trace_17 (by decide) (fun c17 => ?_) (fun c17 => ?_)
  · rw [if_neg c17] at hF
    refine lv_aload_n hx hb dX8_trace_26 rfl (lv_at hl 0 rfl) ?_
    refine xr_get C G (show kW 0 by decide).2 (xW_c (show kW 0 by decide).1) rfl (fun _ h => List.mem_cons_of_mem _ (List.mem_append_left _ (List.mem_append_left _ (List.mem_append_right _ h)))) 6 (by decide) (show Cond.fieldLink RX8 39 "WheatCounts" "voices" "LWheatCounts$Voices;" ∈ _ by decide +kernel) rfl dX8_trace_27 ?_
    refine xr_get C G (show kV 47 by decide).2 (xV_c (show kV 47 by decide).1) rfl (fun _ h => List.mem_cons_of_mem _ (List.mem_append_left _ (List.mem_append_right _ h))) 0 (by decide) (show Cond.fieldLink RX8 292 "WheatCounts$Voices" "bodies" "LWheatCounts$Row;" ∈ _ by decide +kernel) rfl dX8_trace_30 ?_
    refine lv_iload_n hx hb dX8_trace_33 rfl (lv_at hl 1 rfl) ?_
    refine xr_Vi C hA G (kx4_get zl D ad sa cc tt X 48 i (show kR 48 by decide) hv) (show kR 48 by decide).2 (xR_c (show kR 48 by decide).1) rfl (cwV 1 C.2.2.2.2.1 gX8_trace_X4_get rfl rfl rfl (by decide +kernel) ⟨Nat.le_of_ble_eq_true rfl, Nat.le_of_ble_eq_true rfl⟩) rfl hl.1 rfl (Nat.le_of_ble_eq_true rfl) dX8_trace_34 ⟨Nat.le_refl _, Nat.le_refl _⟩ (fun H locs G => ?_)
    exact hret _ _ _ _ _ _ hF G dX8_trace_37
  · rw [if_pos c17] at hF
    refine lv_aload_n hx hb dX8_trace_20 rfl (lv_at hl 0 rfl) ?_
    refine lv_iconst (v := 2) hx hb dX8_trace_21 (by decide) ?_
    obtain ⟨x22, X22, hx22⟩ : ∃ (Z : Int32) (Y : xS), (Z, Y) = x8_error X 2 := ⟨_, _, rfl⟩
    refine xr_Vi (r0 := x22) (X2 := X22) C hA G (by rw [hx22]; exact (kx8_error zl D ad sa cc tt X 2)) (show kW 0 by decide).2 (xW_c (show kW 0 by decide).1) rfl (cwV 1 C.2.2.2.2.1 gX8_trace_X8_error rfl rfl rfl (by decide +kernel) ⟨Nat.le_of_ble_eq_true rfl, Nat.le_of_ble_eq_true rfl⟩) rfl hl.1 rfl (Nat.le_of_ble_eq_true rfl) dX8_trace_22 ⟨Nat.le_refl _, Nat.le_refl _⟩ (fun H locs G => ?_)
    rw [lt2_e hx22] at hF
    exact hret _ _ _ _ _ _ hF G dX8_trace_25
set_option maxRecDepth 100000 in
set_option maxHeartbeats 4000000 in
theorem kx8_sheet (zl : Launch) (D : va_G) (ad sa : Nat → Nat) (cc : cT) (tt : tT) (X : xS) (s : Int32) (bits : Int32) (n : Int32) : xM zl D ad sa cc tt yX8_sheet wsX8_sheet ({ frames := 2, cells := 0, slots := 0, locals := 45 } : Room) [.ref (ad 0), .int s, .int bits, .int n] X (x8_sheet X s bits n) := by
  refine xM_of (code := cX8_sheet) (nL := 4) (own := RX8) (by decide) rfl rfl (Nat.le_of_ble_eq_true rfl) ?_
  intro zp ze zs zm zg zb zt zc zA zQ C hA hret H locs ls hl G
  have hx := C.1
  have hb := C.2.1
  have hl : lv_has ls 4 [(0, .ref (ad 0)), (1, .int s), (2, .int bits), (3, .int n)] := hl
  obtain ⟨rM, hF⟩ : ∃ Z : Int32 × xS, Z = x8_sheet X s bits n := ⟨_, rfl⟩
  rw [← hF] at hret
  unfold x8_sheet at hF
  refine lv_iload_n hx hb dX8_sheet_0 rfl (lv_at hl 1 rfl) ?_
  refine xr_ps C hA G (ks_X8_isSheet zl s) (va_cwS 1 C.2.2.2.2.1 gX8_sheet_X8_isSheet rfl rfl rfl (by decide +kernel) ⟨Nat.le_of_ble_eq_true rfl, Nat.le_of_ble_eq_true rfl⟩) rfl hl.1 rfl (Nat.le_of_ble_eq_true rfl) dX8_sheet_1 ⟨Nat.le_refl _, Nat.le_refl _⟩ (fun H locs G => ?_)
  refine lv_if_eq (tgt := 29) hx hb dX8_sheet_4 (by decide) (fun c4 => ?_) (fun c4 => ?_)
  · rw [if_pos c4] at hF
    refine lv_aload_n hx hb dX8_sheet_29 rfl (lv_at hl 0 rfl) ?_
    refine lv_iconst (v := 1) hx hb dX8_sheet_30 (by decide) ?_
    obtain ⟨x31, X31, hx31⟩ : ∃ (Z : Int32) (Y : xS), (Z, Y) = x8_error X 1 := ⟨_, _, rfl⟩
    refine xr_Vi (r0 := x31) (X2 := X31) C hA G (by rw [hx31]; exact (kx8_error zl D ad sa cc tt X 1)) (show kW 0 by decide).2 (xW_c (show kW 0 by decide).1) rfl (cwV 1 C.2.2.2.2.1 gX8_sheet_X8_error rfl rfl rfl (by decide +kernel) ⟨Nat.le_of_ble_eq_true rfl, Nat.le_of_ble_eq_true rfl⟩) rfl hl.1 rfl (Nat.le_of_ble_eq_true rfl) dX8_sheet_31 ⟨Nat.le_refl _, Nat.le_refl _⟩ (fun H locs G => ?_)
    rw [lt2_e hx31] at hF
    exact hret _ _ _ _ _ _ hF G dX8_sheet_34
  · rw [if_neg c4] at hF
    have s9 := in_natp (n := 3) c4 rfl (by decide)
    have s92 := s9.2
    refine lv_iload_n hx hb dX8_sheet_7 rfl (lv_at hl 2 rfl) ?_
    refine lv_if_eq (tgt := 35) hx hb dX8_sheet_8 (by decide) (fun c8 => ?_) (fun c8 => ?_)
    · rw [if_pos c8] at hF
      refine lv_iload_n hx hb dX8_sheet_35 rfl (lv_at hl 2 rfl) ?_
      refine lv_if_eq (tgt := 49) hx hb dX8_sheet_36 (by decide) (fun c36 => ?_) (fun c36 => ?_)
      · rw [if_pos c36] at hF
        refine lv_iload_n hx hb dX8_sheet_49 rfl (lv_at hl 2 rfl) ?_
        refine lv_if_eq (tgt := 65) hx hb dX8_sheet_50 (by decide) (fun c50 => ?_) (fun c50 => ?_)
        · rw [if_pos c50] at hF
          refine lv_aload_n hx hb dX8_sheet_65 rfl (lv_at hl 0 rfl) ?_
          refine xr_get C G (show kW 0 by decide).2 (xW_c (show kW 0 by decide).1) rfl (fun _ h => List.mem_cons_of_mem _ (List.mem_append_left _ (List.mem_append_right _ h))) 7 (by decide) (show Cond.fieldLink RX8 45 "WheatCounts" "sheets" "[LWheatCounts$Sheet;" ∈ _ by decide +kernel) rfl dX8_sheet_66 ?_
          refine lv_iload_n hx hb dX8_sheet_69 rfl (lv_at hl 1 rfl) ?_
          refine xr_qld C G (vn s) s9.1 (by omega) dX8_sheet_70 ?_
          refine lv_iload_n hx hb dX8_sheet_71 rfl (lv_at hl 2 rfl) ?_
          refine lv_iload_n hx hb dX8_sheet_72 rfl (lv_at hl 2 rfl) ?_
          obtain ⟨y81, hX81⟩ : ∃ (y81 : Int32), y81 = ((if bits = 0 then 0 else n) : Int32) := ⟨_, rfl⟩
          rw [lt_e hX81] at hF
          have hj81 : ∀ (H : Heap) (locs : List Loc) (ls : Array Slot), lv_has ls 4 [(0, .ref (ad 0)), (1, .int s), (2, .int bits), (3, .int n)] → xG D ad sa cc tt zA zs.heap H locs X → W zp zl ze ({ frames := 2, cells := 0, slots := 0, locals := 45 } : Room) zs zm zg zb zt zc H locs 0 0 zQ (F0 zm 81 ls [.int y81, .int bits, .ref (ad (51 + 2 * (vn s)))]) := by
            intro H locs ls hl G
            refine xr_Vv C hA G (kx5_startAnew zl D ad sa cc tt X (51 + 2 * (vn s)) bits y81 (kS_s (show (vn s) < 4 by omega))) (kS_s (show (vn s) < 4 by omega)).2 (xS_c (kS_s (show (vn s) < 4 by omega)).1) rfl (cwV 2 C.2.2.2.2.1 gX8_sheet_X5_startAnew rfl rfl rfl (by decide +kernel) ⟨Nat.le_of_ble_eq_true rfl, Nat.le_of_ble_eq_true rfl⟩) rfl hl.1 rfl (Nat.le_of_ble_eq_true rfl) dX8_sheet_81 ⟨Nat.le_refl _, Nat.le_refl _⟩ (fun H locs G => ?_)
            obtain ⟨X81, hX81⟩ : ∃ Z : xS, Z = x5_startAnew X (51 + 2 * (vn s)) bits y81 := ⟨_, rfl⟩
            have G : xG D ad sa cc tt zA zs.heap H locs X81 := by rw [hX81]; exact G
            rw [lt_e hX81] at hF
            refine lv_iconst (v := 1) hx hb dX8_sheet_84 (by decide) ?_
            exact hret _ _ _ _ _ _ hF G dX8_sheet_85
          refine lv_if_ne (tgt := 80) hx hb dX8_sheet_73 (by decide) (fun c73 => ?_) (fun c73 => ?_)
          · rw [if_neg c73] at hX81
            refine lv_iload_n hx hb dX8_sheet_80 rfl (lv_at hl 3 rfl) ?_
            subst hX81
            exact hj81 _ _ _ (lv_sub hl [0, 1, 2, 3] rfl) G
          · rw [if_pos c73] at hX81
            refine lv_iconst (v := 0) hx hb dX8_sheet_76 (by decide) ?_
            refine lv_goto (tgt := 81) hx hb dX8_sheet_77 (by decide) ?_
            subst hX81
            exact hj81 _ _ _ (lv_sub hl [0, 1, 2, 3] rfl) G
        · rw [if_neg c50] at hF
          refine lv_iload_n hx hb dX8_sheet_53 rfl (lv_at hl 3 rfl) ?_
          refine lv_bipush (v := 40) hx hb dX8_sheet_54 (by decide) ?_
          refine lv_icmp_le (tgt := 65) hx hb dX8_sheet_56 (by decide) (fun c56 => ?_) (fun c56 => ?_)
          · rw [if_pos c56] at hF
            refine lv_aload_n hx hb dX8_sheet_65 rfl (lv_at hl 0 rfl) ?_
            refine xr_get C G (show kW 0 by decide).2 (xW_c (show kW 0 by decide).1) rfl (fun _ h => List.mem_cons_of_mem _ (List.mem_append_left _ (List.mem_append_right _ h))) 7 (by decide) (show Cond.fieldLink RX8 45 "WheatCounts" "sheets" "[LWheatCounts$Sheet;" ∈ _ by decide +kernel) rfl dX8_sheet_66 ?_
            refine lv_iload_n hx hb dX8_sheet_69 rfl (lv_at hl 1 rfl) ?_
            refine xr_qld C G (vn s) s9.1 (by omega) dX8_sheet_70 ?_
            refine lv_iload_n hx hb dX8_sheet_71 rfl (lv_at hl 2 rfl) ?_
            refine lv_iload_n hx hb dX8_sheet_72 rfl (lv_at hl 2 rfl) ?_
            obtain ⟨y81, hX81⟩ : ∃ (y81 : Int32), y81 = ((if bits = 0 then 0 else n) : Int32) := ⟨_, rfl⟩
            rw [lt_e hX81] at hF
            have hj81 : ∀ (H : Heap) (locs : List Loc) (ls : Array Slot), lv_has ls 4 [(0, .ref (ad 0)), (1, .int s), (2, .int bits), (3, .int n)] → xG D ad sa cc tt zA zs.heap H locs X → W zp zl ze ({ frames := 2, cells := 0, slots := 0, locals := 45 } : Room) zs zm zg zb zt zc H locs 0 0 zQ (F0 zm 81 ls [.int y81, .int bits, .ref (ad (51 + 2 * (vn s)))]) := by
              intro H locs ls hl G
              refine xr_Vv C hA G (kx5_startAnew zl D ad sa cc tt X (51 + 2 * (vn s)) bits y81 (kS_s (show (vn s) < 4 by omega))) (kS_s (show (vn s) < 4 by omega)).2 (xS_c (kS_s (show (vn s) < 4 by omega)).1) rfl (cwV 2 C.2.2.2.2.1 gX8_sheet_X5_startAnew rfl rfl rfl (by decide +kernel) ⟨Nat.le_of_ble_eq_true rfl, Nat.le_of_ble_eq_true rfl⟩) rfl hl.1 rfl (Nat.le_of_ble_eq_true rfl) dX8_sheet_81 ⟨Nat.le_refl _, Nat.le_refl _⟩ (fun H locs G => ?_)
              obtain ⟨X81, hX81⟩ : ∃ Z : xS, Z = x5_startAnew X (51 + 2 * (vn s)) bits y81 := ⟨_, rfl⟩
              have G : xG D ad sa cc tt zA zs.heap H locs X81 := by rw [hX81]; exact G
              rw [lt_e hX81] at hF
              refine lv_iconst (v := 1) hx hb dX8_sheet_84 (by decide) ?_
              exact hret _ _ _ _ _ _ hF G dX8_sheet_85
            refine lv_if_ne (tgt := 80) hx hb dX8_sheet_73 (by decide) (fun c73 => ?_) (fun c73 => ?_)
            · rw [if_neg c73] at hX81
              refine lv_iload_n hx hb dX8_sheet_80 rfl (lv_at hl 3 rfl) ?_
              subst hX81
              exact hj81 _ _ _ (lv_sub hl [0, 1, 2, 3] rfl) G
            · rw [if_pos c73] at hX81
              refine lv_iconst (v := 0) hx hb dX8_sheet_76 (by decide) ?_
              refine lv_goto (tgt := 81) hx hb dX8_sheet_77 (by decide) ?_
              subst hX81
              exact hj81 _ _ _ (lv_sub hl [0, 1, 2, 3] rfl) G
          · rw [if_neg c56] at hF
            refine lv_aload_n hx hb dX8_sheet_59 rfl (lv_at hl 0 rfl) ?_
            refine lv_iconst (v := 1) hx hb dX8_sheet_60 (by decide) ?_
            obtain ⟨x61, X61, hx61⟩ : ∃ (Z : Int32) (Y : xS), (Z, Y) = x8_error X 1 := ⟨_, _, rfl⟩
            refine xr_Vi (r0 := x61) (X2 := X61) C hA G (by rw [hx61]; exact (kx8_error zl D ad sa cc tt X 1)) (show kW 0 by decide).2 (xW_c (show kW 0 by decide).1) rfl (cwV 1 C.2.2.2.2.1 gX8_sheet_X8_error rfl rfl rfl (by decide +kernel) ⟨Nat.le_of_ble_eq_true rfl, Nat.le_of_ble_eq_true rfl⟩) rfl hl.1 rfl (Nat.le_of_ble_eq_true rfl) dX8_sheet_61 ⟨Nat.le_refl _, Nat.le_refl _⟩ (fun H locs G => ?_)
            rw [lt2_e hx61] at hF
            exact hret _ _ _ _ _ _ hF G dX8_sheet_64
      · rw [if_neg c36] at hF
        refine lv_iload_n hx hb dX8_sheet_39 rfl (lv_at hl 3 rfl) ?_
        refine lv_if_ge (tgt := 49) hx hb dX8_sheet_40 (by decide) (fun c40 => ?_) (fun c40 => ?_)
        · rw [if_pos c40] at hF
          refine lv_iload_n hx hb dX8_sheet_49 rfl (lv_at hl 2 rfl) ?_
          refine lv_if_eq (tgt := 65) hx hb dX8_sheet_50 (by decide) (fun c50 => ?_) (fun c50 => ?_)
          · rw [if_pos c50] at hF
            refine lv_aload_n hx hb dX8_sheet_65 rfl (lv_at hl 0 rfl) ?_
            refine xr_get C G (show kW 0 by decide).2 (xW_c (show kW 0 by decide).1) rfl (fun _ h => List.mem_cons_of_mem _ (List.mem_append_left _ (List.mem_append_right _ h))) 7 (by decide) (show Cond.fieldLink RX8 45 "WheatCounts" "sheets" "[LWheatCounts$Sheet;" ∈ _ by decide +kernel) rfl dX8_sheet_66 ?_
            refine lv_iload_n hx hb dX8_sheet_69 rfl (lv_at hl 1 rfl) ?_
            refine xr_qld C G (vn s) s9.1 (by omega) dX8_sheet_70 ?_
            refine lv_iload_n hx hb dX8_sheet_71 rfl (lv_at hl 2 rfl) ?_
            refine lv_iload_n hx hb dX8_sheet_72 rfl (lv_at hl 2 rfl) ?_
            obtain ⟨y81, hX81⟩ : ∃ (y81 : Int32), y81 = ((if bits = 0 then 0 else n) : Int32) := ⟨_, rfl⟩
            rw [lt_e hX81] at hF
            have hj81 : ∀ (H : Heap) (locs : List Loc) (ls : Array Slot), lv_has ls 4 [(0, .ref (ad 0)), (1, .int s), (2, .int bits), (3, .int n)] → xG D ad sa cc tt zA zs.heap H locs X → W zp zl ze ({ frames := 2, cells := 0, slots := 0, locals := 45 } : Room) zs zm zg zb zt zc H locs 0 0 zQ (F0 zm 81 ls [.int y81, .int bits, .ref (ad (51 + 2 * (vn s)))]) := by
              intro H locs ls hl G
              refine xr_Vv C hA G (kx5_startAnew zl D ad sa cc tt X (51 + 2 * (vn s)) bits y81 (kS_s (show (vn s) < 4 by omega))) (kS_s (show (vn s) < 4 by omega)).2 (xS_c (kS_s (show (vn s) < 4 by omega)).1) rfl (cwV 2 C.2.2.2.2.1 gX8_sheet_X5_startAnew rfl rfl rfl (by decide +kernel) ⟨Nat.le_of_ble_eq_true rfl, Nat.le_of_ble_eq_true rfl⟩) rfl hl.1 rfl (Nat.le_of_ble_eq_true rfl) dX8_sheet_81 ⟨Nat.le_refl _, Nat.le_refl _⟩ (fun H locs G => ?_)
              obtain ⟨X81, hX81⟩ : ∃ Z : xS, Z = x5_startAnew X (51 + 2 * (vn s)) bits y81 := ⟨_, rfl⟩
              have G : xG D ad sa cc tt zA zs.heap H locs X81 := by rw [hX81]; exact G
              rw [lt_e hX81] at hF
              refine lv_iconst (v := 1) hx hb dX8_sheet_84 (by decide) ?_
              exact hret _ _ _ _ _ _ hF G dX8_sheet_85
            refine lv_if_ne (tgt := 80) hx hb dX8_sheet_73 (by decide) (fun c73 => ?_) (fun c73 => ?_)
            · rw [if_neg c73] at hX81
              refine lv_iload_n hx hb dX8_sheet_80 rfl (lv_at hl 3 rfl) ?_
              subst hX81
              exact hj81 _ _ _ (lv_sub hl [0, 1, 2, 3] rfl) G
            · rw [if_pos c73] at hX81
              refine lv_iconst (v := 0) hx hb dX8_sheet_76 (by decide) ?_
              refine lv_goto (tgt := 81) hx hb dX8_sheet_77 (by decide) ?_
              subst hX81
              exact hj81 _ _ _ (lv_sub hl [0, 1, 2, 3] rfl) G
          · rw [if_neg c50] at hF
            refine lv_iload_n hx hb dX8_sheet_53 rfl (lv_at hl 3 rfl) ?_
            refine lv_bipush (v := 40) hx hb dX8_sheet_54 (by decide) ?_
            refine lv_icmp_le (tgt := 65) hx hb dX8_sheet_56 (by decide) (fun c56 => ?_) (fun c56 => ?_)
            · rw [if_pos c56] at hF
              refine lv_aload_n hx hb dX8_sheet_65 rfl (lv_at hl 0 rfl) ?_
              refine xr_get C G (show kW 0 by decide).2 (xW_c (show kW 0 by decide).1) rfl (fun _ h => List.mem_cons_of_mem _ (List.mem_append_left _ (List.mem_append_right _ h))) 7 (by decide) (show Cond.fieldLink RX8 45 "WheatCounts" "sheets" "[LWheatCounts$Sheet;" ∈ _ by decide +kernel) rfl dX8_sheet_66 ?_
              refine lv_iload_n hx hb dX8_sheet_69 rfl (lv_at hl 1 rfl) ?_
              refine xr_qld C G (vn s) s9.1 (by omega) dX8_sheet_70 ?_
              refine lv_iload_n hx hb dX8_sheet_71 rfl (lv_at hl 2 rfl) ?_
              refine lv_iload_n hx hb dX8_sheet_72 rfl (lv_at hl 2 rfl) ?_
              obtain ⟨y81, hX81⟩ : ∃ (y81 : Int32), y81 = ((if bits = 0 then 0 else n) : Int32) := ⟨_, rfl⟩
              rw [lt_e hX81] at hF
              have hj81 : ∀ (H : Heap) (locs : List Loc) (ls : Array Slot), lv_has ls 4 [(0, .ref (ad 0)), (1, .int s), (2, .int bits), (3, .int n)] → xG D ad sa cc tt zA zs.heap H locs X → W zp zl ze ({ frames := 2, cells := 0, slots := 0, locals := 45 } : Room) zs zm zg zb zt zc H locs 0 0 zQ (F0 zm 81 ls [.int y81, .int bits, .ref (ad (51 + 2 * (vn s)))]) := by
                intro H locs ls hl G
                refine xr_Vv C hA G (kx5_startAnew zl D ad sa cc tt X (51 + 2 * (vn s)) bits y81 (kS_s (show (vn s) < 4 by omega))) (kS_s (show (vn s) < 4 by omega)).2 (xS_c (kS_s (show (vn s) < 4 by omega)).1) rfl (cwV 2 C.2.2.2.2.1 gX8_sheet_X5_startAnew rfl rfl rfl (by decide +kernel) ⟨Nat.le_of_ble_eq_true rfl, Nat.le_of_ble_eq_true rfl⟩) rfl hl.1 rfl (Nat.le_of_ble_eq_true rfl) dX8_sheet_81 ⟨Nat.le_refl _, Nat.le_refl _⟩ (fun H locs G => ?_)
                obtain ⟨X81, hX81⟩ : ∃ Z : xS, Z = x5_startAnew X (51 + 2 * (vn s)) bits y81 := ⟨_, rfl⟩
                have G : xG D ad sa cc tt zA zs.heap H locs X81 := by rw [hX81]; exact G
                rw [lt_e hX81] at hF
                refine lv_iconst (v := 1) hx hb dX8_sheet_84 (by decide) ?_
                exact hret _ _ _ _ _ _ hF G dX8_sheet_85
              refine lv_if_ne (tgt := 80) hx hb dX8_sheet_73 (by decide) (fun c73 => ?_) (fun c73 => ?_)
              · rw [if_neg c73] at hX81
                refine lv_iload_n hx hb dX8_sheet_80 rfl (lv_at hl 3 rfl) ?_
                subst hX81
                exact hj81 _ _ _ (lv_sub hl [0, 1, 2, 3] rfl) G
              · rw [if_pos c73] at hX81
                refine lv_iconst (v := 0) hx hb dX8_sheet_76 (by decide) ?_
                refine lv_goto (tgt := 81) hx hb dX8_sheet_77 (by decide) ?_
                subst hX81
                exact hj81 _ _ _ (lv_sub hl [0, 1, 2, 3] rfl) G
            · rw [if_neg c56] at hF
              refine lv_aload_n hx hb dX8_sheet_59 rfl (lv_at hl 0 rfl) ?_
              refine lv_iconst (v := 1) hx hb dX8_sheet_60 (by decide) ?_
              obtain ⟨x61, X61, hx61⟩ : ∃ (Z : Int32) (Y : xS), (Z, Y) = x8_error X 1 := ⟨_, _, rfl⟩
              refine xr_Vi (r0 := x61) (X2 := X61) C hA G (by rw [hx61]; exact (kx8_error zl D ad sa cc tt X 1)) (show kW 0 by decide).2 (xW_c (show kW 0 by decide).1) rfl (cwV 1 C.2.2.2.2.1 gX8_sheet_X8_error rfl rfl rfl (by decide +kernel) ⟨Nat.le_of_ble_eq_true rfl, Nat.le_of_ble_eq_true rfl⟩) rfl hl.1 rfl (Nat.le_of_ble_eq_true rfl) dX8_sheet_61 ⟨Nat.le_refl _, Nat.le_refl _⟩ (fun H locs G => ?_)
              rw [lt2_e hx61] at hF
              exact hret _ _ _ _ _ _ hF G dX8_sheet_64
        · rw [if_neg c40] at hF
          refine lv_aload_n hx hb dX8_sheet_43 rfl (lv_at hl 0 rfl) ?_
          refine lv_iconst (v := 3) hx hb dX8_sheet_44 (by decide) ?_
          obtain ⟨x45, X45, hx45⟩ : ∃ (Z : Int32) (Y : xS), (Z, Y) = x8_error X 3 := ⟨_, _, rfl⟩
          refine xr_Vi (r0 := x45) (X2 := X45) C hA G (by rw [hx45]; exact (kx8_error zl D ad sa cc tt X 3)) (show kW 0 by decide).2 (xW_c (show kW 0 by decide).1) rfl (cwV 1 C.2.2.2.2.1 gX8_sheet_X8_error rfl rfl rfl (by decide +kernel) ⟨Nat.le_of_ble_eq_true rfl, Nat.le_of_ble_eq_true rfl⟩) rfl hl.1 rfl (Nat.le_of_ble_eq_true rfl) dX8_sheet_45 ⟨Nat.le_refl _, Nat.le_refl _⟩ (fun H locs G => ?_)
          rw [lt2_e hx45] at hF
          exact hret _ _ _ _ _ _ hF G dX8_sheet_48
    · rw [if_neg c8] at hF
      refine lv_iload_n hx hb dX8_sheet_11 rfl (lv_at hl 2 rfl) ?_
      refine lv_bipush (v := 8) hx hb dX8_sheet_12 (by decide) ?_
      refine lv_icmp_eq (tgt := 35) hx hb dX8_sheet_14 (by decide) (fun c14 => ?_) (fun c14 => ?_)
      · rw [if_pos c14] at hF
        refine lv_iload_n hx hb dX8_sheet_35 rfl (lv_at hl 2 rfl) ?_
        refine lv_if_eq (tgt := 49) hx hb dX8_sheet_36 (by decide) (fun c36 => ?_) (fun c36 => ?_)
        · rw [if_pos c36] at hF
          refine lv_iload_n hx hb dX8_sheet_49 rfl (lv_at hl 2 rfl) ?_
          refine lv_if_eq (tgt := 65) hx hb dX8_sheet_50 (by decide) (fun c50 => ?_) (fun c50 => ?_)
          · rw [if_pos c50] at hF
            refine lv_aload_n hx hb dX8_sheet_65 rfl (lv_at hl 0 rfl) ?_
            refine xr_get C G (show kW 0 by decide).2 (xW_c (show kW 0 by decide).1) rfl (fun _ h => List.mem_cons_of_mem _ (List.mem_append_left _ (List.mem_append_right _ h))) 7 (by decide) (show Cond.fieldLink RX8 45 "WheatCounts" "sheets" "[LWheatCounts$Sheet;" ∈ _ by decide +kernel) rfl dX8_sheet_66 ?_
            refine lv_iload_n hx hb dX8_sheet_69 rfl (lv_at hl 1 rfl) ?_
            refine xr_qld C G (vn s) s9.1 (by omega) dX8_sheet_70 ?_
            refine lv_iload_n hx hb dX8_sheet_71 rfl (lv_at hl 2 rfl) ?_
            refine lv_iload_n hx hb dX8_sheet_72 rfl (lv_at hl 2 rfl) ?_
            obtain ⟨y81, hX81⟩ : ∃ (y81 : Int32), y81 = ((if bits = 0 then 0 else n) : Int32) := ⟨_, rfl⟩
            rw [lt_e hX81] at hF
            have hj81 : ∀ (H : Heap) (locs : List Loc) (ls : Array Slot), lv_has ls 4 [(0, .ref (ad 0)), (1, .int s), (2, .int bits), (3, .int n)] → xG D ad sa cc tt zA zs.heap H locs X → W zp zl ze ({ frames := 2, cells := 0, slots := 0, locals := 45 } : Room) zs zm zg zb zt zc H locs 0 0 zQ (F0 zm 81 ls [.int y81, .int bits, .ref (ad (51 + 2 * (vn s)))]) := by
              intro H locs ls hl G
              refine xr_Vv C hA G (kx5_startAnew zl D ad sa cc tt X (51 + 2 * (vn s)) bits y81 (kS_s (show (vn s) < 4 by omega))) (kS_s (show (vn s) < 4 by omega)).2 (xS_c (kS_s (show (vn s) < 4 by omega)).1) rfl (cwV 2 C.2.2.2.2.1 gX8_sheet_X5_startAnew rfl rfl rfl (by decide +kernel) ⟨Nat.le_of_ble_eq_true rfl, Nat.le_of_ble_eq_true rfl⟩) rfl hl.1 rfl (Nat.le_of_ble_eq_true rfl) dX8_sheet_81 ⟨Nat.le_refl _, Nat.le_refl _⟩ (fun H locs G => ?_)
              obtain ⟨X81, hX81⟩ : ∃ Z : xS, Z = x5_startAnew X (51 + 2 * (vn s)) bits y81 := ⟨_, rfl⟩
              have G : xG D ad sa cc tt zA zs.heap H locs X81 := by rw [hX81]; exact G
              rw [lt_e hX81] at hF
              refine lv_iconst (v := 1) hx hb dX8_sheet_84 (by decide) ?_
              exact hret _ _ _ _ _ _ hF G dX8_sheet_85
            refine lv_if_ne (tgt := 80) hx hb dX8_sheet_73 (by decide) (fun c73 => ?_) (fun c73 => ?_)
            · rw [if_neg c73] at hX81
              refine lv_iload_n hx hb dX8_sheet_80 rfl (lv_at hl 3 rfl) ?_
              subst hX81
              exact hj81 _ _ _ (lv_sub hl [0, 1, 2, 3] rfl) G
            · rw [if_pos c73] at hX81
              refine lv_iconst (v := 0) hx hb dX8_sheet_76 (by decide) ?_
              refine lv_goto (tgt := 81) hx hb dX8_sheet_77 (by decide) ?_
              subst hX81
              exact hj81 _ _ _ (lv_sub hl [0, 1, 2, 3] rfl) G
          · rw [if_neg c50] at hF
            refine lv_iload_n hx hb dX8_sheet_53 rfl (lv_at hl 3 rfl) ?_
            refine lv_bipush (v := 40) hx hb dX8_sheet_54 (by decide) ?_
            refine lv_icmp_le (tgt := 65) hx hb dX8_sheet_56 (by decide) (fun c56 => ?_) (fun c56 => ?_)
            · rw [if_pos c56] at hF
              refine lv_aload_n hx hb dX8_sheet_65 rfl (lv_at hl 0 rfl) ?_
              refine xr_get C G (show kW 0 by decide).2 (xW_c (show kW 0 by decide).1) rfl (fun _ h => List.mem_cons_of_mem _ (List.mem_append_left _ (List.mem_append_right _ h))) 7 (by decide) (show Cond.fieldLink RX8 45 "WheatCounts" "sheets" "[LWheatCounts$Sheet;" ∈ _ by decide +kernel) rfl dX8_sheet_66 ?_
              refine lv_iload_n hx hb dX8_sheet_69 rfl (lv_at hl 1 rfl) ?_
              refine xr_qld C G (vn s) s9.1 (by omega) dX8_sheet_70 ?_
              refine lv_iload_n hx hb dX8_sheet_71 rfl (lv_at hl 2 rfl) ?_
              refine lv_iload_n hx hb dX8_sheet_72 rfl (lv_at hl 2 rfl) ?_
              obtain ⟨y81, hX81⟩ : ∃ (y81 : Int32), y81 = ((if bits = 0 then 0 else n) : Int32) := ⟨_, rfl⟩
              rw [lt_e hX81] at hF
              have hj81 : ∀ (H : Heap) (locs : List Loc) (ls : Array Slot), lv_has ls 4 [(0, .ref (ad 0)), (1, .int s), (2, .int bits), (3, .int n)] → xG D ad sa cc tt zA zs.heap H locs X → W zp zl ze ({ frames := 2, cells := 0, slots := 0, locals := 45 } : Room) zs zm zg zb zt zc H locs 0 0 zQ (F0 zm 81 ls [.int y81, .int bits, .ref (ad (51 + 2 * (vn s)))]) := by
                intro H locs ls hl G
                refine xr_Vv C hA G (kx5_startAnew zl D ad sa cc tt X (51 + 2 * (vn s)) bits y81 (kS_s (show (vn s) < 4 by omega))) (kS_s (show (vn s) < 4 by omega)).2 (xS_c (kS_s (show (vn s) < 4 by omega)).1) rfl (cwV 2 C.2.2.2.2.1 gX8_sheet_X5_startAnew rfl rfl rfl (by decide +kernel) ⟨Nat.le_of_ble_eq_true rfl, Nat.le_of_ble_eq_true rfl⟩) rfl hl.1 rfl (Nat.le_of_ble_eq_true rfl) dX8_sheet_81 ⟨Nat.le_refl _, Nat.le_refl _⟩ (fun H locs G => ?_)
                obtain ⟨X81, hX81⟩ : ∃ Z : xS, Z = x5_startAnew X (51 + 2 * (vn s)) bits y81 := ⟨_, rfl⟩
                have G : xG D ad sa cc tt zA zs.heap H locs X81 := by rw [hX81]; exact G
                rw [lt_e hX81] at hF
                refine lv_iconst (v := 1) hx hb dX8_sheet_84 (by decide) ?_
                exact hret _ _ _ _ _ _ hF G dX8_sheet_85
              refine lv_if_ne (tgt := 80) hx hb dX8_sheet_73 (by decide) (fun c73 => ?_) (fun c73 => ?_)
              · rw [if_neg c73] at hX81
                refine lv_iload_n hx hb dX8_sheet_80 rfl (lv_at hl 3 rfl) ?_
                subst hX81
                exact hj81 _ _ _ (lv_sub hl [0, 1, 2, 3] rfl) G
              · rw [if_pos c73] at hX81
                refine lv_iconst (v := 0) hx hb dX8_sheet_76 (by decide) ?_
                refine lv_goto (tgt := 81) hx hb dX8_sheet_77 (by decide) ?_
                subst hX81
                exact hj81 _ _ _ (lv_sub hl [0, 1, 2, 3] rfl) G
            · rw [if_neg c56] at hF
              refine lv_aload_n hx hb dX8_sheet_59 rfl (lv_at hl 0 rfl) ?_
              refine lv_iconst (v := 1) hx hb dX8_sheet_60 (by decide) ?_
              obtain ⟨x61, X61, hx61⟩ : ∃ (Z : Int32) (Y : xS), (Z, Y) = x8_error X 1 := ⟨_, _, rfl⟩
              refine xr_Vi (r0 := x61) (X2 := X61) C hA G (by rw [hx61]; exact (kx8_error zl D ad sa cc tt X 1)) (show kW 0 by decide).2 (xW_c (show kW 0 by decide).1) rfl (cwV 1 C.2.2.2.2.1 gX8_sheet_X8_error rfl rfl rfl (by decide +kernel) ⟨Nat.le_of_ble_eq_true rfl, Nat.le_of_ble_eq_true rfl⟩) rfl hl.1 rfl (Nat.le_of_ble_eq_true rfl) dX8_sheet_61 ⟨Nat.le_refl _, Nat.le_refl _⟩ (fun H locs G => ?_)
              rw [lt2_e hx61] at hF
              exact hret _ _ _ _ _ _ hF G dX8_sheet_64
        · rw [if_neg c36] at hF
          refine lv_iload_n hx hb dX8_sheet_39 rfl (lv_at hl 3 rfl) ?_
          refine lv_if_ge (tgt := 49) hx hb dX8_sheet_40 (by decide) (fun c40 => ?_) (fun c40 => ?_)
          · rw [if_pos c40] at hF
            refine lv_iload_n hx hb dX8_sheet_49 rfl (lv_at hl 2 rfl) ?_
            refine lv_if_eq (tgt := 65) hx hb dX8_sheet_50 (by decide) (fun c50 => ?_) (fun c50 => ?_)
            · rw [if_pos c50] at hF
              refine lv_aload_n hx hb dX8_sheet_65 rfl (lv_at hl 0 rfl) ?_
              refine xr_get C G (show kW 0 by decide).2 (xW_c (show kW 0 by decide).1) rfl (fun _ h => List.mem_cons_of_mem _ (List.mem_append_left _ (List.mem_append_right _ h))) 7 (by decide) (show Cond.fieldLink RX8 45 "WheatCounts" "sheets" "[LWheatCounts$Sheet;" ∈ _ by decide +kernel) rfl dX8_sheet_66 ?_
              refine lv_iload_n hx hb dX8_sheet_69 rfl (lv_at hl 1 rfl) ?_
              refine xr_qld C G (vn s) s9.1 (by omega) dX8_sheet_70 ?_
              refine lv_iload_n hx hb dX8_sheet_71 rfl (lv_at hl 2 rfl) ?_
              refine lv_iload_n hx hb dX8_sheet_72 rfl (lv_at hl 2 rfl) ?_
              obtain ⟨y81, hX81⟩ : ∃ (y81 : Int32), y81 = ((if bits = 0 then 0 else n) : Int32) := ⟨_, rfl⟩
              rw [lt_e hX81] at hF
              have hj81 : ∀ (H : Heap) (locs : List Loc) (ls : Array Slot), lv_has ls 4 [(0, .ref (ad 0)), (1, .int s), (2, .int bits), (3, .int n)] → xG D ad sa cc tt zA zs.heap H locs X → W zp zl ze ({ frames := 2, cells := 0, slots := 0, locals := 45 } : Room) zs zm zg zb zt zc H locs 0 0 zQ (F0 zm 81 ls [.int y81, .int bits, .ref (ad (51 + 2 * (vn s)))]) := by
                intro H locs ls hl G
                refine xr_Vv C hA G (kx5_startAnew zl D ad sa cc tt X (51 + 2 * (vn s)) bits y81 (kS_s (show (vn s) < 4 by omega))) (kS_s (show (vn s) < 4 by omega)).2 (xS_c (kS_s (show (vn s) < 4 by omega)).1) rfl (cwV 2 C.2.2.2.2.1 gX8_sheet_X5_startAnew rfl rfl rfl (by decide +kernel) ⟨Nat.le_of_ble_eq_true rfl, Nat.le_of_ble_eq_true rfl⟩) rfl hl.1 rfl (Nat.le_of_ble_eq_true rfl) dX8_sheet_81 ⟨Nat.le_refl _, Nat.le_refl _⟩ (fun H locs G => ?_)
                obtain ⟨X81, hX81⟩ : ∃ Z : xS, Z = x5_startAnew X (51 + 2 * (vn s)) bits y81 := ⟨_, rfl⟩
                have G : xG D ad sa cc tt zA zs.heap H locs X81 := by rw [hX81]; exact G
                rw [lt_e hX81] at hF
                refine lv_iconst (v := 1) hx hb dX8_sheet_84 (by decide) ?_
                exact hret _ _ _ _ _ _ hF G dX8_sheet_85
              refine lv_if_ne (tgt := 80) hx hb dX8_sheet_73 (by decide) (fun c73 => ?_) (fun c73 => ?_)
              · rw [if_neg c73] at hX81
                refine lv_iload_n hx hb dX8_sheet_80 rfl (lv_at hl 3 rfl) ?_
                subst hX81
                exact hj81 _ _ _ (lv_sub hl [0, 1, 2, 3] rfl) G
              · rw [if_pos c73] at hX81
                refine lv_iconst (v := 0) hx hb dX8_sheet_76 (by decide) ?_
                refine lv_goto (tgt := 81) hx hb dX8_sheet_77 (by decide) ?_
                subst hX81
                exact hj81 _ _ _ (lv_sub hl [0, 1, 2, 3] rfl) G
            · rw [if_neg c50] at hF
              refine lv_iload_n hx hb dX8_sheet_53 rfl (lv_at hl 3 rfl) ?_
              refine lv_bipush (v := 40) hx hb dX8_sheet_54 (by decide) ?_
              refine lv_icmp_le (tgt := 65) hx hb dX8_sheet_56 (by decide) (fun c56 => ?_) (fun c56 => ?_)
              · rw [if_pos c56] at hF
                refine lv_aload_n hx hb dX8_sheet_65 rfl (lv_at hl 0 rfl) ?_
                refine xr_get C G (show kW 0 by decide).2 (xW_c (show kW 0 by decide).1) rfl (fun _ h => List.mem_cons_of_mem _ (List.mem_append_left _ (List.mem_append_right _ h))) 7 (by decide) (show Cond.fieldLink RX8 45 "WheatCounts" "sheets" "[LWheatCounts$Sheet;" ∈ _ by decide +kernel) rfl dX8_sheet_66 ?_
                refine lv_iload_n hx hb dX8_sheet_69 rfl (lv_at hl 1 rfl) ?_
                refine xr_qld C G (vn s) s9.1 (by omega) dX8_sheet_70 ?_
                refine lv_iload_n hx hb dX8_sheet_71 rfl (lv_at hl 2 rfl) ?_
                refine lv_iload_n hx hb dX8_sheet_72 rfl (lv_at hl 2 rfl) ?_
                obtain ⟨y81, hX81⟩ : ∃ (y81 : Int32), y81 = ((if bits = 0 then 0 else n) : Int32) := ⟨_, rfl⟩
                rw [lt_e hX81] at hF
                have hj81 : ∀ (H : Heap) (locs : List Loc) (ls : Array Slot), lv_has ls 4 [(0, .ref (ad 0)), (1, .int s), (2, .int bits), (3, .int n)] → xG D ad sa cc tt zA zs.heap H locs X → W zp zl ze ({ frames := 2, cells := 0, slots := 0, locals := 45 } : Room) zs zm zg zb zt zc H locs 0 0 zQ (F0 zm 81 ls [.int y81, .int bits, .ref (ad (51 + 2 * (vn s)))]) := by
                  intro H locs ls hl G
                  refine xr_Vv C hA G (kx5_startAnew zl D ad sa cc tt X (51 + 2 * (vn s)) bits y81 (kS_s (show (vn s) < 4 by omega))) (kS_s (show (vn s) < 4 by omega)).2 (xS_c (kS_s (show (vn s) < 4 by omega)).1) rfl (cwV 2 C.2.2.2.2.1 gX8_sheet_X5_startAnew rfl rfl rfl (by decide +kernel) ⟨Nat.le_of_ble_eq_true rfl, Nat.le_of_ble_eq_true rfl⟩) rfl hl.1 rfl (Nat.le_of_ble_eq_true rfl) dX8_sheet_81 ⟨Nat.le_refl _, Nat.le_refl _⟩ (fun H locs G => ?_)
                  obtain ⟨X81, hX81⟩ : ∃ Z : xS, Z = x5_startAnew X (51 + 2 * (vn s)) bits y81 := ⟨_, rfl⟩
                  have G : xG D ad sa cc tt zA zs.heap H locs X81 := by rw [hX81]; exact G
                  rw [lt_e hX81] at hF
                  refine lv_iconst (v := 1) hx hb dX8_sheet_84 (by decide) ?_
                  exact hret _ _ _ _ _ _ hF G dX8_sheet_85
                refine lv_if_ne (tgt := 80) hx hb dX8_sheet_73 (by decide) (fun c73 => ?_) (fun c73 => ?_)
                · rw [if_neg c73] at hX81
                  refine lv_iload_n hx hb dX8_sheet_80 rfl (lv_at hl 3 rfl) ?_
                  subst hX81
                  exact hj81 _ _ _ (lv_sub hl [0, 1, 2, 3] rfl) G
                · rw [if_pos c73] at hX81
                  refine lv_iconst (v := 0) hx hb dX8_sheet_76 (by decide) ?_
                  refine lv_goto (tgt := 81) hx hb dX8_sheet_77 (by decide) ?_
                  subst hX81
                  exact hj81 _ _ _ (lv_sub hl [0, 1, 2, 3] rfl) G
              · rw [if_neg c56] at hF
                refine lv_aload_n hx hb dX8_sheet_59 rfl (lv_at hl 0 rfl) ?_
                refine lv_iconst (v := 1) hx hb dX8_sheet_60 (by decide) ?_
                obtain ⟨x61, X61, hx61⟩ : ∃ (Z : Int32) (Y : xS), (Z, Y) = x8_error X 1 := ⟨_, _, rfl⟩
                refine xr_Vi (r0 := x61) (X2 := X61) C hA G (by rw [hx61]; exact (kx8_error zl D ad sa cc tt X 1)) (show kW 0 by decide).2 (xW_c (show kW 0 by decide).1) rfl (cwV 1 C.2.2.2.2.1 gX8_sheet_X8_error rfl rfl rfl (by decide +kernel) ⟨Nat.le_of_ble_eq_true rfl, Nat.le_of_ble_eq_true rfl⟩) rfl hl.1 rfl (Nat.le_of_ble_eq_true rfl) dX8_sheet_61 ⟨Nat.le_refl _, Nat.le_refl _⟩ (fun H locs G => ?_)
                rw [lt2_e hx61] at hF
                exact hret _ _ _ _ _ _ hF G dX8_sheet_64
          · rw [if_neg c40] at hF
            refine lv_aload_n hx hb dX8_sheet_43 rfl (lv_at hl 0 rfl) ?_
            refine lv_iconst (v := 3) hx hb dX8_sheet_44 (by decide) ?_
            obtain ⟨x45, X45, hx45⟩ : ∃ (Z : Int32) (Y : xS), (Z, Y) = x8_error X 3 := ⟨_, _, rfl⟩
            refine xr_Vi (r0 := x45) (X2 := X45) C hA G (by rw [hx45]; exact (kx8_error zl D ad sa cc tt X 3)) (show kW 0 by decide).2 (xW_c (show kW 0 by decide).1) rfl (cwV 1 C.2.2.2.2.1 gX8_sheet_X8_error rfl rfl rfl (by decide +kernel) ⟨Nat.le_of_ble_eq_true rfl, Nat.le_of_ble_eq_true rfl⟩) rfl hl.1 rfl (Nat.le_of_ble_eq_true rfl) dX8_sheet_45 ⟨Nat.le_refl _, Nat.le_refl _⟩ (fun H locs G => ?_)
            rw [lt2_e hx45] at hF
            exact hret _ _ _ _ _ _ hF G dX8_sheet_48
      · rw [if_neg c14] at hF
        refine lv_iload_n hx hb dX8_sheet_17 rfl (lv_at hl 2 rfl) ?_
        refine lv_bipush (v := 16) hx hb dX8_sheet_18 (by decide) ?_
        refine lv_icmp_eq (tgt := 35) hx hb dX8_sheet_20 (by decide) (fun c20 => ?_) (fun c20 => ?_)
        · rw [if_pos c20] at hF
          refine lv_iload_n hx hb dX8_sheet_35 rfl (lv_at hl 2 rfl) ?_
          refine lv_if_eq (tgt := 49) hx hb dX8_sheet_36 (by decide) (fun c36 => ?_) (fun c36 => ?_)
          · rw [if_pos c36] at hF
            refine lv_iload_n hx hb dX8_sheet_49 rfl (lv_at hl 2 rfl) ?_
            refine lv_if_eq (tgt := 65) hx hb dX8_sheet_50 (by decide) (fun c50 => ?_) (fun c50 => ?_)
            · rw [if_pos c50] at hF
              refine lv_aload_n hx hb dX8_sheet_65 rfl (lv_at hl 0 rfl) ?_
              refine xr_get C G (show kW 0 by decide).2 (xW_c (show kW 0 by decide).1) rfl (fun _ h => List.mem_cons_of_mem _ (List.mem_append_left _ (List.mem_append_right _ h))) 7 (by decide) (show Cond.fieldLink RX8 45 "WheatCounts" "sheets" "[LWheatCounts$Sheet;" ∈ _ by decide +kernel) rfl dX8_sheet_66 ?_
              refine lv_iload_n hx hb dX8_sheet_69 rfl (lv_at hl 1 rfl) ?_
              refine xr_qld C G (vn s) s9.1 (by omega) dX8_sheet_70 ?_
              refine lv_iload_n hx hb dX8_sheet_71 rfl (lv_at hl 2 rfl) ?_
              refine lv_iload_n hx hb dX8_sheet_72 rfl (lv_at hl 2 rfl) ?_
              obtain ⟨y81, hX81⟩ : ∃ (y81 : Int32), y81 = ((if bits = 0 then 0 else n) : Int32) := ⟨_, rfl⟩
              rw [lt_e hX81] at hF
              have hj81 : ∀ (H : Heap) (locs : List Loc) (ls : Array Slot), lv_has ls 4 [(0, .ref (ad 0)), (1, .int s), (2, .int bits), (3, .int n)] → xG D ad sa cc tt zA zs.heap H locs X → W zp zl ze ({ frames := 2, cells := 0, slots := 0, locals := 45 } : Room) zs zm zg zb zt zc H locs 0 0 zQ (F0 zm 81 ls [.int y81, .int bits, .ref (ad (51 + 2 * (vn s)))]) := by
                intro H locs ls hl G
                refine xr_Vv C hA G (kx5_startAnew zl D ad sa cc tt X (51 + 2 * (vn s)) bits y81 (kS_s (show (vn s) < 4 by omega))) (kS_s (show (vn s) < 4 by omega)).2 (xS_c (kS_s (show (vn s) < 4 by omega)).1) rfl (cwV 2 C.2.2.2.2.1 gX8_sheet_X5_startAnew rfl rfl rfl (by decide +kernel) ⟨Nat.le_of_ble_eq_true rfl, Nat.le_of_ble_eq_true rfl⟩) rfl hl.1 rfl (Nat.le_of_ble_eq_true rfl) dX8_sheet_81 ⟨Nat.le_refl _, Nat.le_refl _⟩ (fun H locs G => ?_)
                obtain ⟨X81, hX81⟩ : ∃ Z : xS, Z = x5_startAnew X (51 + 2 * (vn s)) bits y81 := ⟨_, rfl⟩
                have G : xG D ad sa cc tt zA zs.heap H locs X81 := by rw [hX81]; exact G
                rw [lt_e hX81] at hF
                refine lv_iconst (v := 1) hx hb dX8_sheet_84 (by decide) ?_
                exact hret _ _ _ _ _ _ hF G dX8_sheet_85
              refine lv_if_ne (tgt := 80) hx hb dX8_sheet_73 (by decide) (fun c73 => ?_) (fun c73 => ?_)
              · rw [if_neg c73] at hX81
                refine lv_iload_n hx hb dX8_sheet_80 rfl (lv_at hl 3 rfl) ?_
                subst hX81
                exact hj81 _ _ _ (lv_sub hl [0, 1, 2, 3] rfl) G
              · rw [if_pos c73] at hX81
                refine lv_iconst (v := 0) hx hb dX8_sheet_76 (by decide) ?_
                refine lv_goto (tgt := 81) hx hb dX8_sheet_77 (by decide) ?_
                subst hX81
                exact hj81 _ _ _ (lv_sub hl [0, 1, 2, 3] rfl) G
            · rw [if_neg c50] at hF
              refine lv_iload_n hx hb dX8_sheet_53 rfl (lv_at hl 3 rfl) ?_
              refine lv_bipush (v := 40) hx hb dX8_sheet_54 (by decide) ?_
              refine lv_icmp_le (tgt := 65) hx hb dX8_sheet_56 (by decide) (fun c56 => ?_) (fun c56 => ?_)
              · rw [if_pos c56] at hF
                refine lv_aload_n hx hb dX8_sheet_65 rfl (lv_at hl 0 rfl) ?_
                refine xr_get C G (show kW 0 by decide).2 (xW_c (show kW 0 by decide).1) rfl (fun _ h => List.mem_cons_of_mem _ (List.mem_append_left _ (List.mem_append_right _ h))) 7 (by decide) (show Cond.fieldLink RX8 45 "WheatCounts" "sheets" "[LWheatCounts$Sheet;" ∈ _ by decide +kernel) rfl dX8_sheet_66 ?_
                refine lv_iload_n hx hb dX8_sheet_69 rfl (lv_at hl 1 rfl) ?_
                refine xr_qld C G (vn s) s9.1 (by omega) dX8_sheet_70 ?_
                refine lv_iload_n hx hb dX8_sheet_71 rfl (lv_at hl 2 rfl) ?_
                refine lv_iload_n hx hb dX8_sheet_72 rfl (lv_at hl 2 rfl) ?_
                obtain ⟨y81, hX81⟩ : ∃ (y81 : Int32), y81 = ((if bits = 0 then 0 else n) : Int32) := ⟨_, rfl⟩
                rw [lt_e hX81] at hF
                have hj81 : ∀ (H : Heap) (locs : List Loc) (ls : Array Slot), lv_has ls 4 [(0, .ref (ad 0)), (1, .int s), (2, .int bits), (3, .int n)] → xG D ad sa cc tt zA zs.heap H locs X → W zp zl ze ({ frames := 2, cells := 0, slots := 0, locals := 45 } : Room) zs zm zg zb zt zc H locs 0 0 zQ (F0 zm 81 ls [.int y81, .int bits, .ref (ad (51 + 2 * (vn s)))]) := by
                  intro H locs ls hl G
                  refine xr_Vv C hA G (kx5_startAnew zl D ad sa cc tt X (51 + 2 * (vn s)) bits y81 (kS_s (show (vn s) < 4 by omega))) (kS_s (show (vn s) < 4 by omega)).2 (xS_c (kS_s (show (vn s) < 4 by omega)).1) rfl (cwV 2 C.2.2.2.2.1 gX8_sheet_X5_startAnew rfl rfl rfl (by decide +kernel) ⟨Nat.le_of_ble_eq_true rfl, Nat.le_of_ble_eq_true rfl⟩) rfl hl.1 rfl (Nat.le_of_ble_eq_true rfl) dX8_sheet_81 ⟨Nat.le_refl _, Nat.le_refl _⟩ (fun H locs G => ?_)
                  obtain ⟨X81, hX81⟩ : ∃ Z : xS, Z = x5_startAnew X (51 + 2 * (vn s)) bits y81 := ⟨_, rfl⟩
                  have G : xG D ad sa cc tt zA zs.heap H locs X81 := by rw [hX81]; exact G
                  rw [lt_e hX81] at hF
                  refine lv_iconst (v := 1) hx hb dX8_sheet_84 (by decide) ?_
                  exact hret _ _ _ _ _ _ hF G dX8_sheet_85
                refine lv_if_ne (tgt := 80) hx hb dX8_sheet_73 (by decide) (fun c73 => ?_) (fun c73 => ?_)
                · rw [if_neg c73] at hX81
                  refine lv_iload_n hx hb dX8_sheet_80 rfl (lv_at hl 3 rfl) ?_
                  subst hX81
                  exact hj81 _ _ _ (lv_sub hl [0, 1, 2, 3] rfl) G
                · rw [if_pos c73] at hX81
                  refine lv_iconst (v := 0) hx hb dX8_sheet_76 (by decide) ?_
                  refine lv_goto (tgt := 81) hx hb dX8_sheet_77 (by decide) ?_
                  subst hX81
                  exact hj81 _ _ _ (lv_sub hl [0, 1, 2, 3] rfl) G
              · rw [if_neg c56] at hF
                refine lv_aload_n hx hb dX8_sheet_59 rfl (lv_at hl 0 rfl) ?_
                refine lv_iconst (v := 1) hx hb dX8_sheet_60 (by decide) ?_
                obtain ⟨x61, X61, hx61⟩ : ∃ (Z : Int32) (Y : xS), (Z, Y) = x8_error X 1 := ⟨_, _, rfl⟩
                refine xr_Vi (r0 := x61) (X2 := X61) C hA G (by rw [hx61]; exact (kx8_error zl D ad sa cc tt X 1)) (show kW 0 by decide).2 (xW_c (show kW 0 by decide).1) rfl (cwV 1 C.2.2.2.2.1 gX8_sheet_X8_error rfl rfl rfl (by decide +kernel) ⟨Nat.le_of_ble_eq_true rfl, Nat.le_of_ble_eq_true rfl⟩) rfl hl.1 rfl (Nat.le_of_ble_eq_true rfl) dX8_sheet_61 ⟨Nat.le_refl _, Nat.le_refl _⟩ (fun H locs G => ?_)
                rw [lt2_e hx61] at hF
                exact hret _ _ _ _ _ _ hF G dX8_sheet_64
          · rw [if_neg c36] at hF
            refine lv_iload_n hx hb dX8_sheet_39 rfl (lv_at hl 3 rfl) ?_
            refine lv_if_ge (tgt := 49) hx hb dX8_sheet_40 (by decide) (fun c40 => ?_) (fun c40 => ?_)
            · rw [if_pos c40] at hF
              refine lv_iload_n hx hb dX8_sheet_49 rfl (lv_at hl 2 rfl) ?_
              refine lv_if_eq (tgt := 65) hx hb dX8_sheet_50 (by decide) (fun c50 => ?_) (fun c50 => ?_)
              · rw [if_pos c50] at hF
                refine lv_aload_n hx hb dX8_sheet_65 rfl (lv_at hl 0 rfl) ?_
                refine xr_get C G (show kW 0 by decide).2 (xW_c (show kW 0 by decide).1) rfl (fun _ h => List.mem_cons_of_mem _ (List.mem_append_left _ (List.mem_append_right _ h))) 7 (by decide) (show Cond.fieldLink RX8 45 "WheatCounts" "sheets" "[LWheatCounts$Sheet;" ∈ _ by decide +kernel) rfl dX8_sheet_66 ?_
                refine lv_iload_n hx hb dX8_sheet_69 rfl (lv_at hl 1 rfl) ?_
                refine xr_qld C G (vn s) s9.1 (by omega) dX8_sheet_70 ?_
                refine lv_iload_n hx hb dX8_sheet_71 rfl (lv_at hl 2 rfl) ?_
                refine lv_iload_n hx hb dX8_sheet_72 rfl (lv_at hl 2 rfl) ?_
                obtain ⟨y81, hX81⟩ : ∃ (y81 : Int32), y81 = ((if bits = 0 then 0 else n) : Int32) := ⟨_, rfl⟩
                rw [lt_e hX81] at hF
                have hj81 : ∀ (H : Heap) (locs : List Loc) (ls : Array Slot), lv_has ls 4 [(0, .ref (ad 0)), (1, .int s), (2, .int bits), (3, .int n)] → xG D ad sa cc tt zA zs.heap H locs X → W zp zl ze ({ frames := 2, cells := 0, slots := 0, locals := 45 } : Room) zs zm zg zb zt zc H locs 0 0 zQ (F0 zm 81 ls [.int y81, .int bits, .ref (ad (51 + 2 * (vn s)))]) := by
                  intro H locs ls hl G
                  refine xr_Vv C hA G (kx5_startAnew zl D ad sa cc tt X (51 + 2 * (vn s)) bits y81 (kS_s (show (vn s) < 4 by omega))) (kS_s (show (vn s) < 4 by omega)).2 (xS_c (kS_s (show (vn s) < 4 by omega)).1) rfl (cwV 2 C.2.2.2.2.1 gX8_sheet_X5_startAnew rfl rfl rfl (by decide +kernel) ⟨Nat.le_of_ble_eq_true rfl, Nat.le_of_ble_eq_true rfl⟩) rfl hl.1 rfl (Nat.le_of_ble_eq_true rfl) dX8_sheet_81 ⟨Nat.le_refl _, Nat.le_refl _⟩ (fun H locs G => ?_)
                  obtain ⟨X81, hX81⟩ : ∃ Z : xS, Z = x5_startAnew X (51 + 2 * (vn s)) bits y81 := ⟨_, rfl⟩
                  have G : xG D ad sa cc tt zA zs.heap H locs X81 := by rw [hX81]; exact G
                  rw [lt_e hX81] at hF
                  refine lv_iconst (v := 1) hx hb dX8_sheet_84 (by decide) ?_
                  exact hret _ _ _ _ _ _ hF G dX8_sheet_85
                refine lv_if_ne (tgt := 80) hx hb dX8_sheet_73 (by decide) (fun c73 => ?_) (fun c73 => ?_)
                · rw [if_neg c73] at hX81
                  refine lv_iload_n hx hb dX8_sheet_80 rfl (lv_at hl 3 rfl) ?_
                  subst hX81
                  exact hj81 _ _ _ (lv_sub hl [0, 1, 2, 3] rfl) G
                · rw [if_pos c73] at hX81
                  refine lv_iconst (v := 0) hx hb dX8_sheet_76 (by decide) ?_
                  refine lv_goto (tgt := 81) hx hb dX8_sheet_77 (by decide) ?_
                  subst hX81
                  exact hj81 _ _ _ (lv_sub hl [0, 1, 2, 3] rfl) G
              · rw [if_neg c50] at hF
                refine lv_iload_n hx hb dX8_sheet_53 rfl (lv_at hl 3 rfl) ?_
                refine lv_bipush (v := 40) hx hb dX8_sheet_54 (by decide) ?_
                refine lv_icmp_le (tgt := 65) hx hb dX8_sheet_56 (by decide) (fun c56 => ?_) (fun c56 => ?_)
                · rw [if_pos c56] at hF
                  refine lv_aload_n hx hb dX8_sheet_65 rfl (lv_at hl 0 rfl) ?_
                  refine xr_get C G (show kW 0 by decide).2 (xW_c (show kW 0 by decide).1) rfl (fun _ h => List.mem_cons_of_mem _ (List.mem_append_left _ (List.mem_append_right _ h))) 7 (by decide) (show Cond.fieldLink RX8 45 "WheatCounts" "sheets" "[LWheatCounts$Sheet;" ∈ _ by decide +kernel) rfl dX8_sheet_66 ?_
                  refine lv_iload_n hx hb dX8_sheet_69 rfl (lv_at hl 1 rfl) ?_
                  refine xr_qld C G (vn s) s9.1 (by omega) dX8_sheet_70 ?_
                  refine lv_iload_n hx hb dX8_sheet_71 rfl (lv_at hl 2 rfl) ?_
                  refine lv_iload_n hx hb dX8_sheet_72 rfl (lv_at hl 2 rfl) ?_
                  obtain ⟨y81, hX81⟩ : ∃ (y81 : Int32), y81 = ((if bits = 0 then 0 else n) : Int32) := ⟨_, rfl⟩
                  rw [lt_e hX81] at hF
                  have hj81 : ∀ (H : Heap) (locs : List Loc) (ls : Array Slot), lv_has ls 4 [(0, .ref (ad 0)), (1, .int s), (2, .int bits), (3, .int n)] → xG D ad sa cc tt zA zs.heap H locs X → W zp zl ze ({ frames := 2, cells := 0, slots := 0, locals := 45 } : Room) zs zm zg zb zt zc H locs 0 0 zQ (F0 zm 81 ls [.int y81, .int bits, .ref (ad (51 + 2 * (vn s)))]) := by
                    intro H locs ls hl G
                    refine xr_Vv C hA G (kx5_startAnew zl D ad sa cc tt X (51 + 2 * (vn s)) bits y81 (kS_s (show (vn s) < 4 by omega))) (kS_s (show (vn s) < 4 by omega)).2 (xS_c (kS_s (show (vn s) < 4 by omega)).1) rfl (cwV 2 C.2.2.2.2.1 gX8_sheet_X5_startAnew rfl rfl rfl (by decide +kernel) ⟨Nat.le_of_ble_eq_true rfl, Nat.le_of_ble_eq_true rfl⟩) rfl hl.1 rfl (Nat.le_of_ble_eq_true rfl) dX8_sheet_81 ⟨Nat.le_refl _, Nat.le_refl _⟩ (fun H locs G => ?_)
                    obtain ⟨X81, hX81⟩ : ∃ Z : xS, Z = x5_startAnew X (51 + 2 * (vn s)) bits y81 := ⟨_, rfl⟩
                    have G : xG D ad sa cc tt zA zs.heap H locs X81 := by rw [hX81]; exact G
                    rw [lt_e hX81] at hF
                    refine lv_iconst (v := 1) hx hb dX8_sheet_84 (by decide) ?_
                    exact hret _ _ _ _ _ _ hF G dX8_sheet_85
                  refine lv_if_ne (tgt := 80) hx hb dX8_sheet_73 (by decide) (fun c73 => ?_) (fun c73 => ?_)
                  · rw [if_neg c73] at hX81
                    refine lv_iload_n hx hb dX8_sheet_80 rfl (lv_at hl 3 rfl) ?_
                    subst hX81
                    exact hj81 _ _ _ (lv_sub hl [0, 1, 2, 3] rfl) G
                  · rw [if_pos c73] at hX81
                    refine lv_iconst (v := 0) hx hb dX8_sheet_76 (by decide) ?_
                    refine lv_goto (tgt := 81) hx hb dX8_sheet_77 (by decide) ?_
                    subst hX81
                    exact hj81 _ _ _ (lv_sub hl [0, 1, 2, 3] rfl) G
                · rw [if_neg c56] at hF
                  refine lv_aload_n hx hb dX8_sheet_59 rfl (lv_at hl 0 rfl) ?_
                  refine lv_iconst (v := 1) hx hb dX8_sheet_60 (by decide) ?_
                  obtain ⟨x61, X61, hx61⟩ : ∃ (Z : Int32) (Y : xS), (Z, Y) = x8_error X 1 := ⟨_, _, rfl⟩
                  refine xr_Vi (r0 := x61) (X2 := X61) C hA G (by rw [hx61]; exact (kx8_error zl D ad sa cc tt X 1)) (show kW 0 by decide).2 (xW_c (show kW 0 by decide).1) rfl (cwV 1 C.2.2.2.2.1 gX8_sheet_X8_error rfl rfl rfl (by decide +kernel) ⟨Nat.le_of_ble_eq_true rfl, Nat.le_of_ble_eq_true rfl⟩) rfl hl.1 rfl (Nat.le_of_ble_eq_true rfl) dX8_sheet_61 ⟨Nat.le_refl _, Nat.le_refl _⟩ (fun H locs G => ?_)
                  rw [lt2_e hx61] at hF
                  exact hret _ _ _ _ _ _ hF G dX8_sheet_64
            · rw [if_neg c40] at hF
              refine lv_aload_n hx hb dX8_sheet_43 rfl (lv_at hl 0 rfl) ?_
              refine lv_iconst (v := 3) hx hb dX8_sheet_44 (by decide) ?_
              obtain ⟨x45, X45, hx45⟩ : ∃ (Z : Int32) (Y : xS), (Z, Y) = x8_error X 3 := ⟨_, _, rfl⟩
              refine xr_Vi (r0 := x45) (X2 := X45) C hA G (by rw [hx45]; exact (kx8_error zl D ad sa cc tt X 3)) (show kW 0 by decide).2 (xW_c (show kW 0 by decide).1) rfl (cwV 1 C.2.2.2.2.1 gX8_sheet_X8_error rfl rfl rfl (by decide +kernel) ⟨Nat.le_of_ble_eq_true rfl, Nat.le_of_ble_eq_true rfl⟩) rfl hl.1 rfl (Nat.le_of_ble_eq_true rfl) dX8_sheet_45 ⟨Nat.le_refl _, Nat.le_refl _⟩ (fun H locs G => ?_)
              rw [lt2_e hx45] at hF
              exact hret _ _ _ _ _ _ hF G dX8_sheet_48
        · rw [if_neg c20] at hF
          refine lv_iload_n hx hb dX8_sheet_23 rfl (lv_at hl 2 rfl) ?_
          refine lv_bipush (v := 32) hx hb dX8_sheet_24 (by decide) ?_
          refine lv_icmp_eq (tgt := 35) hx hb dX8_sheet_26 (by decide) (fun c26 => ?_) (fun c26 => ?_)
          · rw [if_pos c26] at hF
            refine lv_iload_n hx hb dX8_sheet_35 rfl (lv_at hl 2 rfl) ?_
            refine lv_if_eq (tgt := 49) hx hb dX8_sheet_36 (by decide) (fun c36 => ?_) (fun c36 => ?_)
            · rw [if_pos c36] at hF
              refine lv_iload_n hx hb dX8_sheet_49 rfl (lv_at hl 2 rfl) ?_
              refine lv_if_eq (tgt := 65) hx hb dX8_sheet_50 (by decide) (fun c50 => ?_) (fun c50 => ?_)
              · rw [if_pos c50] at hF
                refine lv_aload_n hx hb dX8_sheet_65 rfl (lv_at hl 0 rfl) ?_
                refine xr_get C G (show kW 0 by decide).2 (xW_c (show kW 0 by decide).1) rfl (fun _ h => List.mem_cons_of_mem _ (List.mem_append_left _ (List.mem_append_right _ h))) 7 (by decide) (show Cond.fieldLink RX8 45 "WheatCounts" "sheets" "[LWheatCounts$Sheet;" ∈ _ by decide +kernel) rfl dX8_sheet_66 ?_
                refine lv_iload_n hx hb dX8_sheet_69 rfl (lv_at hl 1 rfl) ?_
                refine xr_qld C G (vn s) s9.1 (by omega) dX8_sheet_70 ?_
                refine lv_iload_n hx hb dX8_sheet_71 rfl (lv_at hl 2 rfl) ?_
                refine lv_iload_n hx hb dX8_sheet_72 rfl (lv_at hl 2 rfl) ?_
                obtain ⟨y81, hX81⟩ : ∃ (y81 : Int32), y81 = ((if bits = 0 then 0 else n) : Int32) := ⟨_, rfl⟩
                rw [lt_e hX81] at hF
                have hj81 : ∀ (H : Heap) (locs : List Loc) (ls : Array Slot), lv_has ls 4 [(0, .ref (ad 0)), (1, .int s), (2, .int bits), (3, .int n)] → xG D ad sa cc tt zA zs.heap H locs X → W zp zl ze ({ frames := 2, cells := 0, slots := 0, locals := 45 } : Room) zs zm zg zb zt zc H locs 0 0 zQ (F0 zm 81 ls [.int y81, .int bits, .ref (ad (51 + 2 * (vn s)))]) := by
                  intro H locs ls hl G
                  refine xr_Vv C hA G (kx5_startAnew zl D ad sa cc tt X (51 + 2 * (vn s)) bits y81 (kS_s (show (vn s) < 4 by omega))) (kS_s (show (vn s) < 4 by omega)).2 (xS_c (kS_s (show (vn s) < 4 by omega)).1) rfl (cwV 2 C.2.2.2.2.1 gX8_sheet_X5_startAnew rfl rfl rfl (by decide +kernel) ⟨Nat.le_of_ble_eq_true rfl, Nat.le_of_ble_eq_true rfl⟩) rfl hl.1 rfl (Nat.le_of_ble_eq_true rfl) dX8_sheet_81 ⟨Nat.le_refl _, Nat.le_refl _⟩ (fun H locs G => ?_)
                  obtain ⟨X81, hX81⟩ : ∃ Z : xS, Z = x5_startAnew X (51 + 2 * (vn s)) bits y81 := ⟨_, rfl⟩
                  have G : xG D ad sa cc tt zA zs.heap H locs X81 := by rw [hX81]; exact G
                  rw [lt_e hX81] at hF
                  refine lv_iconst (v := 1) hx hb dX8_sheet_84 (by decide) ?_
                  exact hret _ _ _ _ _ _ hF G dX8_sheet_85
                refine lv_if_ne (tgt := 80) hx hb dX8_sheet_73 (by decide) (fun c73 => ?_) (fun c73 => ?_)
                · rw [if_neg c73] at hX81
                  refine lv_iload_n hx hb dX8_sheet_80 rfl (lv_at hl 3 rfl) ?_
                  subst hX81
                  exact hj81 _ _ _ (lv_sub hl [0, 1, 2, 3] rfl) G
                · rw [if_pos c73] at hX81
                  refine lv_iconst (v := 0) hx hb dX8_sheet_76 (by decide) ?_
                  refine lv_goto (tgt := 81) hx hb dX8_sheet_77 (by decide) ?_
                  subst hX81
                  exact hj81 _ _ _ (lv_sub hl [0, 1, 2, 3] rfl) G
              · rw [if_neg c50] at hF
                refine lv_iload_n hx hb dX8_sheet_53 rfl (lv_at hl 3 rfl) ?_
                refine lv_bipush (v := 40) hx hb dX8_sheet_54 (by decide) ?_
                refine lv_icmp_le (tgt := 65) hx hb dX8_sheet_56 (by decide) (fun c56 => ?_) (fun c56 => ?_)
                · rw [if_pos c56] at hF
                  refine lv_aload_n hx hb dX8_sheet_65 rfl (lv_at hl 0 rfl) ?_
                  refine xr_get C G (show kW 0 by decide).2 (xW_c (show kW 0 by decide).1) rfl (fun _ h => List.mem_cons_of_mem _ (List.mem_append_left _ (List.mem_append_right _ h))) 7 (by decide) (show Cond.fieldLink RX8 45 "WheatCounts" "sheets" "[LWheatCounts$Sheet;" ∈ _ by decide +kernel) rfl dX8_sheet_66 ?_
                  refine lv_iload_n hx hb dX8_sheet_69 rfl (lv_at hl 1 rfl) ?_
                  refine xr_qld C G (vn s) s9.1 (by omega) dX8_sheet_70 ?_
                  refine lv_iload_n hx hb dX8_sheet_71 rfl (lv_at hl 2 rfl) ?_
                  refine lv_iload_n hx hb dX8_sheet_72 rfl (lv_at hl 2 rfl) ?_
                  obtain ⟨y81, hX81⟩ : ∃ (y81 : Int32), y81 = ((if bits = 0 then 0 else n) : Int32) := ⟨_, rfl⟩
                  rw [lt_e hX81] at hF
                  have hj81 : ∀ (H : Heap) (locs : List Loc) (ls : Array Slot), lv_has ls 4 [(0, .ref (ad 0)), (1, .int s), (2, .int bits), (3, .int n)] → xG D ad sa cc tt zA zs.heap H locs X → W zp zl ze ({ frames := 2, cells := 0, slots := 0, locals := 45 } : Room) zs zm zg zb zt zc H locs 0 0 zQ (F0 zm 81 ls [.int y81, .int bits, .ref (ad (51 + 2 * (vn s)))]) := by
                    intro H locs ls hl G
                    refine xr_Vv C hA G (kx5_startAnew zl D ad sa cc tt X (51 + 2 * (vn s)) bits y81 (kS_s (show (vn s) < 4 by omega))) (kS_s (show (vn s) < 4 by omega)).2 (xS_c (kS_s (show (vn s) < 4 by omega)).1) rfl (cwV 2 C.2.2.2.2.1 gX8_sheet_X5_startAnew rfl rfl rfl (by decide +kernel) ⟨Nat.le_of_ble_eq_true rfl, Nat.le_of_ble_eq_true rfl⟩) rfl hl.1 rfl (Nat.le_of_ble_eq_true rfl) dX8_sheet_81 ⟨Nat.le_refl _, Nat.le_refl _⟩ (fun H locs G => ?_)
                    obtain ⟨X81, hX81⟩ : ∃ Z : xS, Z = x5_startAnew X (51 + 2 * (vn s)) bits y81 := ⟨_, rfl⟩
                    have G : xG D ad sa cc tt zA zs.heap H locs X81 := by rw [hX81]; exact G
                    rw [lt_e hX81] at hF
                    refine lv_iconst (v := 1) hx hb dX8_sheet_84 (by decide) ?_
                    exact hret _ _ _ _ _ _ hF G dX8_sheet_85
                  refine lv_if_ne (tgt := 80) hx hb dX8_sheet_73 (by decide) (fun c73 => ?_) (fun c73 => ?_)
                  · rw [if_neg c73] at hX81
                    refine lv_iload_n hx hb dX8_sheet_80 rfl (lv_at hl 3 rfl) ?_
                    subst hX81
                    exact hj81 _ _ _ (lv_sub hl [0, 1, 2, 3] rfl) G
                  · rw [if_pos c73] at hX81
                    refine lv_iconst (v := 0) hx hb dX8_sheet_76 (by decide) ?_
                    refine lv_goto (tgt := 81) hx hb dX8_sheet_77 (by decide) ?_
                    subst hX81
                    exact hj81 _ _ _ (lv_sub hl [0, 1, 2, 3] rfl) G
                · rw [if_neg c56] at hF
                  refine lv_aload_n hx hb dX8_sheet_59 rfl (lv_at hl 0 rfl) ?_
                  refine lv_iconst (v := 1) hx hb dX8_sheet_60 (by decide) ?_
                  obtain ⟨x61, X61, hx61⟩ : ∃ (Z : Int32) (Y : xS), (Z, Y) = x8_error X 1 := ⟨_, _, rfl⟩
                  refine xr_Vi (r0 := x61) (X2 := X61) C hA G (by rw [hx61]; exact (kx8_error zl D ad sa cc tt X 1)) (show kW 0 by decide).2 (xW_c (show kW 0 by decide).1) rfl (cwV 1 C.2.2.2.2.1 gX8_sheet_X8_error rfl rfl rfl (by decide +kernel) ⟨Nat.le_of_ble_eq_true rfl, Nat.le_of_ble_eq_true rfl⟩) rfl hl.1 rfl (Nat.le_of_ble_eq_true rfl) dX8_sheet_61 ⟨Nat.le_refl _, Nat.le_refl _⟩ (fun H locs G => ?_)
                  rw [lt2_e hx61] at hF
                  exact hret _ _ _ _ _ _ hF G dX8_sheet_64
            · rw [if_neg c36] at hF
              refine lv_iload_n hx hb dX8_sheet_39 rfl (lv_at hl 3 rfl) ?_
              refine lv_if_ge (tgt := 49) hx hb dX8_sheet_40 (by decide) (fun c40 => ?_) (fun c40 => ?_)
              · rw [if_pos c40] at hF
                refine lv_iload_n hx hb dX8_sheet_49 rfl (lv_at hl 2 rfl) ?_
                refine lv_if_eq (tgt := 65) hx hb dX8_sheet_50 (by decide) (fun c50 => ?_) (fun c50 => ?_)
                · rw [if_pos c50] at hF
                  refine lv_aload_n hx hb dX8_sheet_65 rfl (lv_at hl 0 rfl) ?_
                  refine xr_get C G (show kW 0 by decide).2 (xW_c (show kW 0 by decide).1) rfl (fun _ h => List.mem_cons_of_mem _ (List.mem_append_left _ (List.mem_append_right _ h))) 7 (by decide) (show Cond.fieldLink RX8 45 "WheatCounts" "sheets" "[LWheatCounts$Sheet;" ∈ _ by decide +kernel) rfl dX8_sheet_66 ?_
                  refine lv_iload_n hx hb dX8_sheet_69 rfl (lv_at hl 1 rfl) ?_
                  refine xr_qld C G (vn s) s9.1 (by omega) dX8_sheet_70 ?_
                  refine lv_iload_n hx hb dX8_sheet_71 rfl (lv_at hl 2 rfl) ?_
                  refine lv_iload_n hx hb dX8_sheet_72 rfl (lv_at hl 2 rfl) ?_
                  obtain ⟨y81, hX81⟩ : ∃ (y81 : Int32), y81 = ((if bits = 0 then 0 else n) : Int32) := ⟨_, rfl⟩
                  rw [lt_e hX81] at hF
                  have hj81 : ∀ (H : Heap) (locs : List Loc) (ls : Array Slot), lv_has ls 4 [(0, .ref (ad 0)), (1, .int s), (2, .int bits), (3, .int n)] → xG D ad sa cc tt zA zs.heap H locs X → W zp zl ze ({ frames := 2, cells := 0, slots := 0, locals := 45 } : Room) zs zm zg zb zt zc H locs 0 0 zQ (F0 zm 81 ls [.int y81, .int bits, .ref (ad (51 + 2 * (vn s)))]) := by
                    intro H locs ls hl G
                    refine xr_Vv C hA G (kx5_startAnew zl D ad sa cc tt X (51 + 2 * (vn s)) bits y81 (kS_s (show (vn s) < 4 by omega))) (kS_s (show (vn s) < 4 by omega)).2 (xS_c (kS_s (show (vn s) < 4 by omega)).1) rfl (cwV 2 C.2.2.2.2.1 gX8_sheet_X5_startAnew rfl rfl rfl (by decide +kernel) ⟨Nat.le_of_ble_eq_true rfl, Nat.le_of_ble_eq_true rfl⟩) rfl hl.1 rfl (Nat.le_of_ble_eq_true rfl) dX8_sheet_81 ⟨Nat.le_refl _, Nat.le_refl _⟩ (fun H locs G => ?_)
                    obtain ⟨X81, hX81⟩ : ∃ Z : xS, Z = x5_startAnew X (51 + 2 * (vn s)) bits y81 := ⟨_, rfl⟩
                    have G : xG D ad sa cc tt zA zs.heap H locs X81 := by rw [hX81]; exact G
                    rw [lt_e hX81] at hF
                    refine lv_iconst (v := 1) hx hb dX8_sheet_84 (by decide) ?_
                    exact hret _ _ _ _ _ _ hF G dX8_sheet_85
                  refine lv_if_ne (tgt := 80) hx hb dX8_sheet_73 (by decide) (fun c73 => ?_) (fun c73 => ?_)
                  · rw [if_neg c73] at hX81
                    refine lv_iload_n hx hb dX8_sheet_80 rfl (lv_at hl 3 rfl) ?_
                    subst hX81
                    exact hj81 _ _ _ (lv_sub hl [0, 1, 2, 3] rfl) G
                  · rw [if_pos c73] at hX81
                    refine lv_iconst (v := 0) hx hb dX8_sheet_76 (by decide) ?_
                    refine lv_goto (tgt := 81) hx hb dX8_sheet_77 (by decide) ?_
                    subst hX81
                    exact hj81 _ _ _ (lv_sub hl [0, 1, 2, 3] rfl) G
                · rw [if_neg c50] at hF
                  refine lv_iload_n hx hb dX8_sheet_53 rfl (lv_at hl 3 rfl) ?_
                  refine lv_bipush (v := 40) hx hb dX8_sheet_54 (by decide) ?_
                  refine lv_icmp_le (tgt := 65) hx hb dX8_sheet_56 (by decide) (fun c56 => ?_) (fun c56 => ?_)
                  · rw [if_pos c56] at hF
                    refine lv_aload_n hx hb dX8_sheet_65 rfl (lv_at hl 0 rfl) ?_
                    refine xr_get C G (show kW 0 by decide).2 (xW_c (show kW 0 by decide).1) rfl (fun _ h => List.mem_cons_of_mem _ (List.mem_append_left _ (List.mem_append_right _ h))) 7 (by decide) (show Cond.fieldLink RX8 45 "WheatCounts" "sheets" "[LWheatCounts$Sheet;" ∈ _ by decide +kernel) rfl dX8_sheet_66 ?_
                    refine lv_iload_n hx hb dX8_sheet_69 rfl (lv_at hl 1 rfl) ?_
                    refine xr_qld C G (vn s) s9.1 (by omega) dX8_sheet_70 ?_
                    refine lv_iload_n hx hb dX8_sheet_71 rfl (lv_at hl 2 rfl) ?_
                    refine lv_iload_n hx hb dX8_sheet_72 rfl (lv_at hl 2 rfl) ?_
                    obtain ⟨y81, hX81⟩ : ∃ (y81 : Int32), y81 = ((if bits = 0 then 0 else n) : Int32) := ⟨_, rfl⟩
                    rw [lt_e hX81] at hF
                    have hj81 : ∀ (H : Heap) (locs : List Loc) (ls : Array Slot), lv_has ls 4 [(0, .ref (ad 0)), (1, .int s), (2, .int bits), (3, .int n)] → xG D ad sa cc tt zA zs.heap H locs X → W zp zl ze ({ frames := 2, cells := 0, slots := 0, locals := 45 } : Room) zs zm zg zb zt zc H locs 0 0 zQ (F0 zm 81 ls [.int y81, .int bits, .ref (ad (51 + 2 * (vn s)))]) := by
                      intro H locs ls hl G
                      refine xr_Vv C hA G (kx5_startAnew zl D ad sa cc tt X (51 + 2 * (vn s)) bits y81 (kS_s (show (vn s) < 4 by omega))) (kS_s (show (vn s) < 4 by omega)).2 (xS_c (kS_s (show (vn s) < 4 by omega)).1) rfl (cwV 2 C.2.2.2.2.1 gX8_sheet_X5_startAnew rfl rfl rfl (by decide +kernel) ⟨Nat.le_of_ble_eq_true rfl, Nat.le_of_ble_eq_true rfl⟩) rfl hl.1 rfl (Nat.le_of_ble_eq_true rfl) dX8_sheet_81 ⟨Nat.le_refl _, Nat.le_refl _⟩ (fun H locs G => ?_)
                      obtain ⟨X81, hX81⟩ : ∃ Z : xS, Z = x5_startAnew X (51 + 2 * (vn s)) bits y81 := ⟨_, rfl⟩
                      have G : xG D ad sa cc tt zA zs.heap H locs X81 := by rw [hX81]; exact G
                      rw [lt_e hX81] at hF
                      refine lv_iconst (v := 1) hx hb dX8_sheet_84 (by decide) ?_
                      exact hret _ _ _ _ _ _ hF G dX8_sheet_85
                    refine lv_if_ne (tgt := 80) hx hb dX8_sheet_73 (by decide) (fun c73 => ?_) (fun c73 => ?_)
                    · rw [if_neg c73] at hX81
                      refine lv_iload_n hx hb dX8_sheet_80 rfl (lv_at hl 3 rfl) ?_
                      subst hX81
                      exact hj81 _ _ _ (lv_sub hl [0, 1, 2, 3] rfl) G
                    · rw [if_pos c73] at hX81
                      refine lv_iconst (v := 0) hx hb dX8_sheet_76 (by decide) ?_
                      refine lv_goto (tgt := 81) hx hb dX8_sheet_77 (by decide) ?_
                      subst hX81
                      exact hj81 _ _ _ (lv_sub hl [0, 1, 2, 3] rfl) G
                  · rw [if_neg c56] at hF
                    refine lv_aload_n hx hb dX8_sheet_59 rfl (lv_at hl 0 rfl) ?_
                    refine lv_iconst (v := 1) hx hb dX8_sheet_60 (by decide) ?_
                    obtain ⟨x61, X61, hx61⟩ : ∃ (Z : Int32) (Y : xS), (Z, Y) = x8_error X 1 := ⟨_, _, rfl⟩
                    refine xr_Vi (r0 := x61) (X2 := X61) C hA G (by rw [hx61]; exact (kx8_error zl D ad sa cc tt X 1)) (show kW 0 by decide).2 (xW_c (show kW 0 by decide).1) rfl (cwV 1 C.2.2.2.2.1 gX8_sheet_X8_error rfl rfl rfl (by decide +kernel) ⟨Nat.le_of_ble_eq_true rfl, Nat.le_of_ble_eq_true rfl⟩) rfl hl.1 rfl (Nat.le_of_ble_eq_true rfl) dX8_sheet_61 ⟨Nat.le_refl _, Nat.le_refl _⟩ (fun H locs G => ?_)
                    rw [lt2_e hx61] at hF
                    exact hret _ _ _ _ _ _ hF G dX8_sheet_64
              · rw [if_neg c40] at hF
                refine lv_aload_n hx hb dX8_sheet_43 rfl (lv_at hl 0 rfl) ?_
                refine lv_iconst (v := 3) hx hb dX8_sheet_44 (by decide) ?_
                obtain ⟨x45, X45, hx45⟩ : ∃ (Z : Int32) (Y : xS), (Z, Y) = x8_error X 3 := ⟨_, _, rfl⟩
                refine xr_Vi (r0 := x45) (X2 := X45) C hA G (by rw [hx45]; exact (kx8_error zl D ad sa cc tt X 3)) (show kW 0 by decide).2 (xW_c (show kW 0 by decide).1) rfl (cwV 1 C.2.2.2.2.1 gX8_sheet_X8_error rfl rfl rfl (by decide +kernel) ⟨Nat.le_of_ble_eq_true rfl, Nat.le_of_ble_eq_true rfl⟩) rfl hl.1 rfl (Nat.le_of_ble_eq_true rfl) dX8_sheet_45 ⟨Nat.le_refl _, Nat.le_refl _⟩ (fun H locs G => ?_)
                rw [lt2_e hx45] at hF
                exact hret _ _ _ _ _ _ hF G dX8_sheet_48
          · rw [if_neg c26] at hF
            refine lv_aload_n hx hb dX8_sheet_29 rfl (lv_at hl 0 rfl) ?_
            refine lv_iconst (v := 1) hx hb dX8_sheet_30 (by decide) ?_
            obtain ⟨x31, X31, hx31⟩ : ∃ (Z : Int32) (Y : xS), (Z, Y) = x8_error X 1 := ⟨_, _, rfl⟩
            refine xr_Vi (r0 := x31) (X2 := X31) C hA G (by rw [hx31]; exact (kx8_error zl D ad sa cc tt X 1)) (show kW 0 by decide).2 (xW_c (show kW 0 by decide).1) rfl (cwV 1 C.2.2.2.2.1 gX8_sheet_X8_error rfl rfl rfl (by decide +kernel) ⟨Nat.le_of_ble_eq_true rfl, Nat.le_of_ble_eq_true rfl⟩) rfl hl.1 rfl (Nat.le_of_ble_eq_true rfl) dX8_sheet_31 ⟨Nat.le_refl _, Nat.le_refl _⟩ (fun H locs G => ?_)
            rw [lt2_e hx31] at hF
            exact hret _ _ _ _ _ _ hF G dX8_sheet_34
set_option maxRecDepth 100000 in
set_option maxHeartbeats 4000000 in
theorem kx8_put (zl : Launch) (D : va_G) (ad sa : Nat → Nat) (cc : cT) (tt : tT) (X : xS) (s : Int32) (i : Int32) (v : Int32) (hsh : shR X) : xM zl D ad sa cc tt yX8_put wsX8_put ({ frames := 2, cells := 0, slots := 0, locals := 43 } : Room) [.ref (ad 0), .int s, .int i, .int v] X (x8_put X s i v) := by
  refine xM_of (code := cX8_put) (nL := 4) (own := RX8) (by decide) rfl rfl (Nat.le_of_ble_eq_true rfl) ?_
  intro zp ze zs zm zg zb zt zc zA zQ C hA hret H locs ls hl G
  have hx := C.1
  have hb := C.2.1
  have hl : lv_has ls 4 [(0, .ref (ad 0)), (1, .int s), (2, .int i), (3, .int v)] := hl
  obtain ⟨rM, hF⟩ : ∃ Z : Int32 × xS, Z = x8_put X s i v := ⟨_, rfl⟩
  rw [← hF] at hret
  unfold x8_put at hF
  refine lv_iload_n hx hb dX8_put_0 rfl (lv_at hl 1 rfl) ?_
  refine xr_ps C hA G (ks_X8_isSheet zl s) (va_cwS 1 C.2.2.2.2.1 gX8_put_X8_isSheet rfl rfl rfl (by decide +kernel) ⟨Nat.le_of_ble_eq_true rfl, Nat.le_of_ble_eq_true rfl⟩) rfl hl.1 rfl (Nat.le_of_ble_eq_true rfl) dX8_put_1 ⟨Nat.le_refl _, Nat.le_refl _⟩ (fun H locs G => ?_)
  refine lv_if_ne (tgt := 13) hx hb dX8_put_4 (by decide) (fun c4 => ?_) (fun c4 => ?_)
  · rw [if_neg c4] at hF
    have s9 := in_natp (n := 3) c4 rfl (by decide)
    have s92 := s9.2
    refine lv_aload_n hx hb dX8_put_13 rfl (lv_at hl 0 rfl) ?_
    refine xr_get C G (show kW 0 by decide).2 (xW_c (show kW 0 by decide).1) rfl (fun _ h => List.mem_cons_of_mem _ (List.mem_append_left _ (List.mem_append_right _ h))) 7 (by decide) (show Cond.fieldLink RX8 45 "WheatCounts" "sheets" "[LWheatCounts$Sheet;" ∈ _ by decide +kernel) rfl dX8_put_14 ?_
    refine lv_iload_n hx hb dX8_put_17 rfl (lv_at hl 1 rfl) ?_
    refine xr_qld C G (vn s) s9.1 (by omega) dX8_put_18 ?_
    refine xr_Vi C hA G (kx5_isMissing zl D ad sa cc tt X (51 + 2 * (vn s)) (kS_s (show (vn s) < 4 by omega))) (kS_s (show (vn s) < 4 by omega)).2 (xS_c (kS_s (show (vn s) < 4 by omega)).1) rfl (cwV 0 C.2.2.2.2.1 gX8_put_X5_isMissing rfl rfl rfl (by decide +kernel) ⟨Nat.le_of_ble_eq_true rfl, Nat.le_of_ble_eq_true rfl⟩) rfl hl.1 rfl (Nat.le_of_ble_eq_true rfl) dX8_put_19 ⟨Nat.le_refl _, Nat.le_refl _⟩ (fun H locs G => ?_)
    refine lv_if_eq (tgt := 31) hx hb dX8_put_22 (by decide) (fun c22 => ?_) (fun c22 => ?_)
    · rw [if_pos c22] at hF
      refine lv_iload_n hx hb dX8_put_31 rfl (lv_at hl 2 rfl) ?_
      refine lv_iconst (v := 0) hx hb dX8_put_32 (by decide) ?_
      refine lv_aload_n hx hb dX8_put_33 rfl (lv_at hl 0 rfl) ?_
      refine xr_get C G (show kW 0 by decide).2 (xW_c (show kW 0 by decide).1) rfl (fun _ h => List.mem_cons_of_mem _ (List.mem_append_left _ (List.mem_append_right _ h))) 7 (by decide) (show Cond.fieldLink RX8 45 "WheatCounts" "sheets" "[LWheatCounts$Sheet;" ∈ _ by decide +kernel) rfl dX8_put_34 ?_
      refine lv_iload_n hx hb dX8_put_37 rfl (lv_at hl 1 rfl) ?_
      refine xr_qld C G (vn s) s9.1 (by omega) dX8_put_38 ?_
      refine xr_get C G (kS_s (show (vn s) < 4 by omega)).2 (xS_c (kS_s (show (vn s) < 4 by omega)).1) rfl (fun _ h => List.mem_cons_of_mem _ (List.mem_append_right _ h)) 2 (by decide) (show Cond.fieldLink RX8 241 "WheatCounts$Sheet" "size" "I" ∈ _ by decide +kernel) rfl dX8_put_39 ?_
      refine lv_iconst (v := 1) hx hb dX8_put_42 (by decide) ?_
      refine lv_isub hx hb dX8_put_43 ?_
      refine xr_ps C hA G (ks_X8_within zl i 0 ((X (51 + 2 * (vn s)) 2) - 1)) (va_cwS 3 C.2.2.2.2.1 gX8_put_X8_within rfl rfl rfl (by decide +kernel) ⟨Nat.le_of_ble_eq_true rfl, Nat.le_of_ble_eq_true rfl⟩) rfl hl.1 rfl (Nat.le_of_ble_eq_true rfl) dX8_put_44 ⟨Nat.le_refl _, Nat.le_refl _⟩ (fun H locs G => ?_)
      refine lv_if_ne (tgt := 56) hx hb dX8_put_47 (by decide) (fun c47 => ?_) (fun c47 => ?_)
      · rw [if_neg c47] at hF
        refine lv_aload_n hx hb dX8_put_56 rfl (lv_at hl 0 rfl) ?_
        refine xr_get C G (show kW 0 by decide).2 (xW_c (show kW 0 by decide).1) rfl (fun _ h => List.mem_cons_of_mem _ (List.mem_append_left _ (List.mem_append_right _ h))) 7 (by decide) (show Cond.fieldLink RX8 45 "WheatCounts" "sheets" "[LWheatCounts$Sheet;" ∈ _ by decide +kernel) rfl dX8_put_57 ?_
        refine lv_iload_n hx hb dX8_put_60 rfl (lv_at hl 1 rfl) ?_
        refine xr_qld C G (vn s) s9.1 (by omega) dX8_put_61 ?_
        refine lv_iload_n hx hb dX8_put_62 rfl (lv_at hl 2 rfl) ?_
        refine lv_iload_n hx hb dX8_put_63 rfl (lv_at hl 3 rfl) ?_
        refine xr_Vv C hA G (kx5_set zl D ad sa cc tt X (51 + 2 * (vn s)) i v (kS_s (show (vn s) < 4 by omega)) (hsh _ (by omega))) (kS_s (show (vn s) < 4 by omega)).2 (xS_c (kS_s (show (vn s) < 4 by omega)).1) rfl (cwV 2 C.2.2.2.2.1 gX8_put_X5_set rfl rfl rfl (by decide +kernel) ⟨Nat.le_of_ble_eq_true rfl, Nat.le_of_ble_eq_true rfl⟩) rfl hl.1 rfl (Nat.le_of_ble_eq_true rfl) dX8_put_64 ⟨Nat.le_refl _, Nat.le_refl _⟩ (fun H locs G => ?_)
        obtain ⟨X64, hX64⟩ : ∃ Z : xS, Z = x5_set X (51 + 2 * (vn s)) i v := ⟨_, rfl⟩
        have G : xG D ad sa cc tt zA zs.heap H locs X64 := by rw [hX64]; exact G
        rw [lt_e hX64] at hF
        refine lv_iconst (v := 1) hx hb dX8_put_67 (by decide) ?_
        exact hret _ _ _ _ _ _ hF G dX8_put_68
      · rw [if_pos c47] at hF
        refine lv_aload_n hx hb dX8_put_50 rfl (lv_at hl 0 rfl) ?_
        refine lv_iconst (v := 1) hx hb dX8_put_51 (by decide) ?_
        obtain ⟨x52, X52, hx52⟩ : ∃ (Z : Int32) (Y : xS), (Z, Y) = x8_error X 1 := ⟨_, _, rfl⟩
        refine xr_Vi (r0 := x52) (X2 := X52) C hA G (by rw [hx52]; exact (kx8_error zl D ad sa cc tt X 1)) (show kW 0 by decide).2 (xW_c (show kW 0 by decide).1) rfl (cwV 1 C.2.2.2.2.1 gX8_put_X8_error rfl rfl rfl (by decide +kernel) ⟨Nat.le_of_ble_eq_true rfl, Nat.le_of_ble_eq_true rfl⟩) rfl hl.1 rfl (Nat.le_of_ble_eq_true rfl) dX8_put_52 ⟨Nat.le_refl _, Nat.le_refl _⟩ (fun H locs G => ?_)
        rw [lt2_e hx52] at hF
        exact hret _ _ _ _ _ _ hF G dX8_put_55
    · rw [if_neg c22] at hF
      refine lv_aload_n hx hb dX8_put_25 rfl (lv_at hl 0 rfl) ?_
      refine lv_iconst (v := 2) hx hb dX8_put_26 (by decide) ?_
      obtain ⟨x27, X27, hx27⟩ : ∃ (Z : Int32) (Y : xS), (Z, Y) = x8_error X 2 := ⟨_, _, rfl⟩
      refine xr_Vi (r0 := x27) (X2 := X27) C hA G (by rw [hx27]; exact (kx8_error zl D ad sa cc tt X 2)) (show kW 0 by decide).2 (xW_c (show kW 0 by decide).1) rfl (cwV 1 C.2.2.2.2.1 gX8_put_X8_error rfl rfl rfl (by decide +kernel) ⟨Nat.le_of_ble_eq_true rfl, Nat.le_of_ble_eq_true rfl⟩) rfl hl.1 rfl (Nat.le_of_ble_eq_true rfl) dX8_put_27 ⟨Nat.le_refl _, Nat.le_refl _⟩ (fun H locs G => ?_)
      rw [lt2_e hx27] at hF
      exact hret _ _ _ _ _ _ hF G dX8_put_30
  · rw [if_pos c4] at hF
    refine lv_aload_n hx hb dX8_put_7 rfl (lv_at hl 0 rfl) ?_
    refine lv_iconst (v := 1) hx hb dX8_put_8 (by decide) ?_
    obtain ⟨x9, X9, hx9⟩ : ∃ (Z : Int32) (Y : xS), (Z, Y) = x8_error X 1 := ⟨_, _, rfl⟩
    refine xr_Vi (r0 := x9) (X2 := X9) C hA G (by rw [hx9]; exact (kx8_error zl D ad sa cc tt X 1)) (show kW 0 by decide).2 (xW_c (show kW 0 by decide).1) rfl (cwV 1 C.2.2.2.2.1 gX8_put_X8_error rfl rfl rfl (by decide +kernel) ⟨Nat.le_of_ble_eq_true rfl, Nat.le_of_ble_eq_true rfl⟩) rfl hl.1 rfl (Nat.le_of_ble_eq_true rfl) dX8_put_9 ⟨Nat.le_refl _, Nat.le_refl _⟩ (fun H locs G => ?_)
    rw [lt2_e hx9] at hF
    exact hret _ _ _ _ _ _ hF G dX8_put_12
set_option maxRecDepth 100000 in
set_option maxHeartbeats 4000000 in
theorem kx8_move (zl : Launch) (D : va_G) (ad sa : Nat → Nat) (cc : cT) (tt : tT) (X : xS) (s : Int32) (i : Int32) (s2 : Int32) (j : Int32) (n : Int32) (hsh : shR X) : xM zl D ad sa cc tt yX8_move wsX8_move ({ frames := 2, cells := 0, slots := 0, locals := 60 } : Room) [.ref (ad 0), .int s, .int i, .int s2, .int j, .int n] X (x8_move X s i s2 j n) := by
  refine xM_of (code := cX8_move) (nL := 8) (own := RX8) (by decide) rfl rfl (Nat.le_of_ble_eq_true rfl) ?_
  intro zp ze zs zm zg zb zt zc zA zQ C hA hret H locs ls hl G
  have hx := C.1
  have hb := C.2.1
  have hl : lv_has ls 8 [(0, .ref (ad 0)), (1, .int s), (2, .int i), (3, .int s2), (4, .int j), (5, .int n)] := hl
  obtain ⟨rM, hF⟩ : ∃ Z : Int32 × xS, Z = x8_move X s i s2 j n := ⟨_, rfl⟩
  rw [← hF] at hret
  unfold x8_move at hF
  refine lv_iload_n hx hb dX8_move_0 rfl (lv_at hl 1 rfl) ?_
  refine xr_ps C hA G (ks_X8_isSheet zl s) (va_cwS 1 C.2.2.2.2.1 gX8_move_X8_isSheet rfl rfl rfl (by decide +kernel) ⟨Nat.le_of_ble_eq_true rfl, Nat.le_of_ble_eq_true rfl⟩) rfl hl.1 rfl (Nat.le_of_ble_eq_true rfl) dX8_move_1 ⟨Nat.le_refl _, Nat.le_refl _⟩ (fun H locs G => ?_)
  refine lv_if_eq (tgt := 14) hx hb dX8_move_4 (by decide) (fun c4 => ?_) (fun c4 => ?_)
  · rw [if_pos c4] at hF
    refine lv_aload_n hx hb dX8_move_14 rfl (lv_at hl 0 rfl) ?_
    refine lv_iconst (v := 1) hx hb dX8_move_15 (by decide) ?_
    obtain ⟨x16, X16, hx16⟩ : ∃ (Z : Int32) (Y : xS), (Z, Y) = x8_error X 1 := ⟨_, _, rfl⟩
    refine xr_Vi (r0 := x16) (X2 := X16) C hA G (by rw [hx16]; exact (kx8_error zl D ad sa cc tt X 1)) (show kW 0 by decide).2 (xW_c (show kW 0 by decide).1) rfl (cwV 1 C.2.2.2.2.1 gX8_move_X8_error rfl rfl rfl (by decide +kernel) ⟨Nat.le_of_ble_eq_true rfl, Nat.le_of_ble_eq_true rfl⟩) rfl hl.1 rfl (Nat.le_of_ble_eq_true rfl) dX8_move_16 ⟨Nat.le_refl _, Nat.le_refl _⟩ (fun H locs G => ?_)
    rw [lt2_e hx16] at hF
    exact hret _ _ _ _ _ _ hF G dX8_move_19
  · rw [if_neg c4] at hF
    have s9 := in_natp (n := 3) c4 rfl (by decide)
    have s92 := s9.2
    have hz := hsh _ (show vn s < 4 by omega)
    refine lv_iload_n hx hb dX8_move_7 rfl (lv_at hl 3 rfl) ?_
    refine xr_ps C hA G (ks_X8_isSheet zl s2) (va_cwS 1 C.2.2.2.2.1 gX8_move_X8_isSheet rfl rfl rfl (by decide +kernel) ⟨Nat.le_of_ble_eq_true rfl, Nat.le_of_ble_eq_true rfl⟩) rfl hl.1 rfl (Nat.le_of_ble_eq_true rfl) dX8_move_8 ⟨Nat.le_refl _, Nat.le_refl _⟩ (fun H locs G => ?_)
    refine lv_if_ne (tgt := 20) hx hb dX8_move_11 (by decide) (fun c11 => ?_) (fun c11 => ?_)
    · rw [if_neg c11] at hF
      have s29 := in_natp (n := 3) c11 rfl (by decide)
      have s292 := s29.2
      have hzz := hsh _ (show vn s2 < 4 by omega)
      refine lv_aload_n hx hb dX8_move_20 rfl (lv_at hl 0 rfl) ?_
      refine xr_get C G (show kW 0 by decide).2 (xW_c (show kW 0 by decide).1) rfl (fun _ h => List.mem_cons_of_mem _ (List.mem_append_left _ (List.mem_append_right _ h))) 7 (by decide) (show Cond.fieldLink RX8 45 "WheatCounts" "sheets" "[LWheatCounts$Sheet;" ∈ _ by decide +kernel) rfl dX8_move_21 ?_
      refine lv_iload_n hx hb dX8_move_24 rfl (lv_at hl 1 rfl) ?_
      refine xr_qld C G (vn s) s9.1 (by omega) dX8_move_25 ?_
      refine lv_astore (lv' := [(6, .ref (ad (51 + 2 * (vn s)))), (0, .ref (ad 0)), (1, .int s), (2, .int i), (3, .int s2), (4, .int j), (5, .int n)]) hx hb dX8_move_26 hl (by decide) rfl (fun ls hl => ?_)
      refine lv_aload_n hx hb dX8_move_28 rfl (lv_at hl 1 rfl) ?_
      refine xr_get C G (show kW 0 by decide).2 (xW_c (show kW 0 by decide).1) rfl (fun _ h => List.mem_cons_of_mem _ (List.mem_append_left _ (List.mem_append_right _ h))) 7 (by decide) (show Cond.fieldLink RX8 45 "WheatCounts" "sheets" "[LWheatCounts$Sheet;" ∈ _ by decide +kernel) rfl dX8_move_29 ?_
      refine lv_iload_n hx hb dX8_move_32 rfl (lv_at hl 4 rfl) ?_
      refine xr_qld C G (vn s2) s29.1 (by omega) dX8_move_33 ?_
      refine lv_astore (lv' := [(7, .ref (ad (51 + 2 * (vn s2)))), (6, .ref (ad (51 + 2 * (vn s)))), (0, .ref (ad 0)), (1, .int s), (2, .int i), (3, .int s2), (4, .int j), (5, .int n)]) hx hb dX8_move_34 hl (by decide) rfl (fun ls hl => ?_)
      refine lv_aload hx hb dX8_move_36 (lv_at hl 1 rfl) ?_
      refine xr_Vi C hA G (kx5_isMissing zl D ad sa cc tt X (51 + 2 * (vn s)) (kS_s (show (vn s) < 4 by omega))) (kS_s (show (vn s) < 4 by omega)).2 (xS_c (kS_s (show (vn s) < 4 by omega)).1) rfl (cwV 0 C.2.2.2.2.1 gX8_move_X5_isMissing rfl rfl rfl (by decide +kernel) ⟨Nat.le_of_ble_eq_true rfl, Nat.le_of_ble_eq_true rfl⟩) rfl hl.1 rfl (Nat.le_of_ble_eq_true rfl) dX8_move_38 ⟨Nat.le_refl _, Nat.le_refl _⟩ (fun H locs G => ?_)
      refine lv_if_ne (tgt := 52) hx hb dX8_move_41 (by decide) (fun c41 => ?_) (fun c41 => ?_)
      · rw [if_neg c41] at hF
        refine lv_aload_n hx hb dX8_move_52 rfl (lv_at hl 2 rfl) ?_
        refine lv_iconst (v := 2) hx hb dX8_move_53 (by decide) ?_
        obtain ⟨x54, X54, hx54⟩ : ∃ (Z : Int32) (Y : xS), (Z, Y) = x8_error X 2 := ⟨_, _, rfl⟩
        refine xr_Vi (r0 := x54) (X2 := X54) C hA G (by rw [hx54]; exact (kx8_error zl D ad sa cc tt X 2)) (show kW 0 by decide).2 (xW_c (show kW 0 by decide).1) rfl (cwV 1 C.2.2.2.2.1 gX8_move_X8_error rfl rfl rfl (by decide +kernel) ⟨Nat.le_of_ble_eq_true rfl, Nat.le_of_ble_eq_true rfl⟩) rfl hl.1 rfl (Nat.le_of_ble_eq_true rfl) dX8_move_54 ⟨Nat.le_refl _, Nat.le_refl _⟩ (fun H locs G => ?_)
        rw [lt2_e hx54] at hF
        exact hret _ _ _ _ _ _ hF G dX8_move_57
      · rw [if_pos c41] at hF
        refine lv_aload hx hb dX8_move_44 (lv_at hl 0 rfl) ?_
        refine xr_Vi C hA G (kx5_isMissing zl D ad sa cc tt X (51 + 2 * (vn s2)) (kS_s (show (vn s2) < 4 by omega))) (kS_s (show (vn s2) < 4 by omega)).2 (xS_c (kS_s (show (vn s2) < 4 by omega)).1) rfl (cwV 0 C.2.2.2.2.1 gX8_move_X5_isMissing rfl rfl rfl (by decide +kernel) ⟨Nat.le_of_ble_eq_true rfl, Nat.le_of_ble_eq_true rfl⟩) rfl hl.1 rfl (Nat.le_of_ble_eq_true rfl) dX8_move_46 ⟨Nat.le_refl _, Nat.le_refl _⟩ (fun H locs G => ?_)
        refine lv_if_eq (tgt := 58) hx hb dX8_move_49 (by decide) (fun c49 => ?_) (fun c49 => ?_)
        · rw [if_pos c49] at hF
          refine lv_aload hx hb dX8_move_58 (lv_at hl 1 rfl) ?_
          refine xr_get C G (kS_s (show (vn s) < 4 by omega)).2 (xS_c (kS_s (show (vn s) < 4 by omega)).1) rfl (fun _ h => List.mem_cons_of_mem _ (List.mem_append_right _ h)) 1 (by decide) (show Cond.fieldLink RX8 304 "WheatCounts$Sheet" "bits" "I" ∈ _ by decide +kernel) rfl dX8_move_60 ?_
          refine lv_aload hx hb dX8_move_63 (lv_at hl 0 rfl) ?_
          refine xr_get C G (kS_s (show (vn s2) < 4 by omega)).2 (xS_c (kS_s (show (vn s2) < 4 by omega)).1) rfl (fun _ h => List.mem_cons_of_mem _ (List.mem_append_right _ h)) 1 (by decide) (show Cond.fieldLink RX8 304 "WheatCounts$Sheet" "bits" "I" ∈ _ by decide +kernel) rfl dX8_move_65 ?_
          refine lv_icmp_eq (tgt := 77) hx hb dX8_move_68 (by decide) (fun c68 => ?_) (fun c68 => ?_)
          · rw [if_pos c68] at hF
            refine lv_iload hx hb dX8_move_77 (lv_at hl 7 rfl) ?_
            refine lv_if_lt (tgt := 115) hx hb dX8_move_79 (by decide) (fun c79 => ?_) (fun c79 => ?_)
            · rw [if_pos c79] at hF
              refine lv_aload_n hx hb dX8_move_115 rfl (lv_at hl 2 rfl) ?_
              refine lv_iconst (v := 1) hx hb dX8_move_116 (by decide) ?_
              obtain ⟨x117, X117, hx117⟩ : ∃ (Z : Int32) (Y : xS), (Z, Y) = x8_error X 1 := ⟨_, _, rfl⟩
              refine xr_Vi (r0 := x117) (X2 := X117) C hA G (by rw [hx117]; exact (kx8_error zl D ad sa cc tt X 1)) (show kW 0 by decide).2 (xW_c (show kW 0 by decide).1) rfl (cwV 1 C.2.2.2.2.1 gX8_move_X8_error rfl rfl rfl (by decide +kernel) ⟨Nat.le_of_ble_eq_true rfl, Nat.le_of_ble_eq_true rfl⟩) rfl hl.1 rfl (Nat.le_of_ble_eq_true rfl) dX8_move_117 ⟨Nat.le_refl _, Nat.le_refl _⟩ (fun H locs G => ?_)
              rw [lt2_e hx117] at hF
              exact hret _ _ _ _ _ _ hF G dX8_move_120
            · rw [if_neg c79] at hF
              refine lv_iload_n hx hb dX8_move_82 rfl (lv_at hl 4 rfl) ?_
              refine lv_iconst (v := 0) hx hb dX8_move_83 (by decide) ?_
              refine lv_aload hx hb dX8_move_84 (lv_at hl 1 rfl) ?_
              refine xr_get C G (kS_s (show (vn s) < 4 by omega)).2 (xS_c (kS_s (show (vn s) < 4 by omega)).1) rfl (fun _ h => List.mem_cons_of_mem _ (List.mem_append_right _ h)) 2 (by decide) (show Cond.fieldLink RX8 241 "WheatCounts$Sheet" "size" "I" ∈ _ by decide +kernel) rfl dX8_move_86 ?_
              refine lv_iload hx hb dX8_move_89 (lv_at hl 7 rfl) ?_
              refine lv_isub hx hb dX8_move_91 ?_
              refine xr_ps C hA G (ks_X8_within zl i 0 ((X (51 + 2 * (vn s)) 2) - n)) (va_cwS 3 C.2.2.2.2.1 gX8_move_X8_within rfl rfl rfl (by decide +kernel) ⟨Nat.le_of_ble_eq_true rfl, Nat.le_of_ble_eq_true rfl⟩) rfl hl.1 rfl (Nat.le_of_ble_eq_true rfl) dX8_move_92 ⟨Nat.le_refl _, Nat.le_refl _⟩ (fun H locs G => ?_)
              refine lv_if_eq (tgt := 115) hx hb dX8_move_95 (by decide) (fun c95 => ?_) (fun c95 => ?_)
              · rw [if_pos c95] at hF
                refine lv_aload_n hx hb dX8_move_115 rfl (lv_at hl 2 rfl) ?_
                refine lv_iconst (v := 1) hx hb dX8_move_116 (by decide) ?_
                obtain ⟨x117, X117, hx117⟩ : ∃ (Z : Int32) (Y : xS), (Z, Y) = x8_error X 1 := ⟨_, _, rfl⟩
                refine xr_Vi (r0 := x117) (X2 := X117) C hA G (by rw [hx117]; exact (kx8_error zl D ad sa cc tt X 1)) (show kW 0 by decide).2 (xW_c (show kW 0 by decide).1) rfl (cwV 1 C.2.2.2.2.1 gX8_move_X8_error rfl rfl rfl (by decide +kernel) ⟨Nat.le_of_ble_eq_true rfl, Nat.le_of_ble_eq_true rfl⟩) rfl hl.1 rfl (Nat.le_of_ble_eq_true rfl) dX8_move_117 ⟨Nat.le_refl _, Nat.le_refl _⟩ (fun H locs G => ?_)
                rw [lt2_e hx117] at hF
                exact hret _ _ _ _ _ _ hF G dX8_move_120
              · rw [if_neg c95] at hF
                have hb1 := mv_b hz.1 hz.2 c79 (p8_in c95).1 (p8_in c95).2
                have hb2 := hb1.2.2
                have hz2 := hz.2
                refine lv_iload hx hb dX8_move_98 (lv_at hl 6 rfl) ?_
                refine lv_iconst (v := 0) hx hb dX8_move_100 (by decide) ?_
                refine lv_aload hx hb dX8_move_101 (lv_at hl 0 rfl) ?_
                refine xr_get C G (kS_s (show (vn s2) < 4 by omega)).2 (xS_c (kS_s (show (vn s2) < 4 by omega)).1) rfl (fun _ h => List.mem_cons_of_mem _ (List.mem_append_right _ h)) 2 (by decide) (show Cond.fieldLink RX8 241 "WheatCounts$Sheet" "size" "I" ∈ _ by decide +kernel) rfl dX8_move_103 ?_
                refine lv_iload hx hb dX8_move_106 (lv_at hl 7 rfl) ?_
                refine lv_isub hx hb dX8_move_108 ?_
                refine xr_ps C hA G (ks_X8_within zl j 0 ((X (51 + 2 * (vn s2)) 2) - n)) (va_cwS 3 C.2.2.2.2.1 gX8_move_X8_within rfl rfl rfl (by decide +kernel) ⟨Nat.le_of_ble_eq_true rfl, Nat.le_of_ble_eq_true rfl⟩) rfl hl.1 rfl (Nat.le_of_ble_eq_true rfl) dX8_move_109 ⟨Nat.le_refl _, Nat.le_refl _⟩ (fun H locs G => ?_)
                refine lv_if_ne (tgt := 121) hx hb dX8_move_112 (by decide) (fun c112 => ?_) (fun c112 => ?_)
                · rw [if_neg c112] at hF
                  have hb3 := mv_b hzz.1 hzz.2 c79 (p8_in c112).1 (p8_in c112).2
                  have hb4 := hb3.2.2
                  have hzz2 := hzz.2
                  refine lv_aload hx hb dX8_move_121 (lv_at hl 1 rfl) ?_
                  refine xr_get C G (kS_s (show (vn s) < 4 by omega)).2 (xS_c (kS_s (show (vn s) < 4 by omega)).1) rfl (fun _ h => List.mem_cons_of_mem _ (List.mem_append_right _ h)) 0 (by decide) (show Cond.fieldLink RX8 252 "WheatCounts$Sheet" "numbers" "[I" ∈ _ by decide +kernel) rfl dX8_move_123 ?_
                  refine lv_iload_n hx hb dX8_move_126 rfl (lv_at hl 4 rfl) ?_
                  refine lv_aload hx hb dX8_move_127 (lv_at hl 0 rfl) ?_
                  refine xr_get C G (kS_s (show (vn s2) < 4 by omega)).2 (xS_c (kS_s (show (vn s2) < 4 by omega)).1) rfl (fun _ h => List.mem_cons_of_mem _ (List.mem_append_right _ h)) 0 (by decide) (show Cond.fieldLink RX8 252 "WheatCounts$Sheet" "numbers" "[I" ∈ _ by decide +kernel) rfl dX8_move_129 ?_
                  refine lv_iload hx hb dX8_move_132 (lv_at hl 6 rfl) ?_
                  refine lv_iload hx hb dX8_move_134 (lv_at hl 7 rfl) ?_
                  refine xr_cpg C G (index := 307) (by decide +kernel) (by decide +kernel) (by decide +kernel) (by decide +kernel) (xS_1 (kS_s (show (vn s) < 4 by omega))) (xS_1 (kS_s (show (vn s2) < 4 by omega))) hb1.1 hb3.1 hb1.2.1 (by omega) (by omega) (by omega) hl.1 (Nat.le_of_ble_eq_true rfl) (Nat.le_of_ble_eq_true rfl) dX8_move_136 (fun H locs G => ?_)
                  obtain ⟨X136, hX136⟩ : ∃ Z : xS, Z = xcg X ((51 + 2 * (vn s)) + 1) ((51 + 2 * (vn s2)) + 1) (vn i) (vn j) (vn n) := ⟨_, rfl⟩
                  have G : xG D ad sa cc tt zA zs.heap H locs X136 := by rw [hX136]; exact G
                  rw [lt_e hX136] at hF
                  refine lv_iload hx hb dX8_move_139 (lv_at hl 7 rfl) ?_
                  exact hret _ _ _ _ _ _ hF G dX8_move_141
                · rw [if_pos c112] at hF
                  refine lv_aload_n hx hb dX8_move_115 rfl (lv_at hl 2 rfl) ?_
                  refine lv_iconst (v := 1) hx hb dX8_move_116 (by decide) ?_
                  obtain ⟨x117, X117, hx117⟩ : ∃ (Z : Int32) (Y : xS), (Z, Y) = x8_error X 1 := ⟨_, _, rfl⟩
                  refine xr_Vi (r0 := x117) (X2 := X117) C hA G (by rw [hx117]; exact (kx8_error zl D ad sa cc tt X 1)) (show kW 0 by decide).2 (xW_c (show kW 0 by decide).1) rfl (cwV 1 C.2.2.2.2.1 gX8_move_X8_error rfl rfl rfl (by decide +kernel) ⟨Nat.le_of_ble_eq_true rfl, Nat.le_of_ble_eq_true rfl⟩) rfl hl.1 rfl (Nat.le_of_ble_eq_true rfl) dX8_move_117 ⟨Nat.le_refl _, Nat.le_refl _⟩ (fun H locs G => ?_)
                  rw [lt2_e hx117] at hF
                  exact hret _ _ _ _ _ _ hF G dX8_move_120
          · rw [if_neg c68] at hF
            refine lv_aload_n hx hb dX8_move_71 rfl (lv_at hl 2 rfl) ?_
            refine lv_iconst (v := 5) hx hb dX8_move_72 (by decide) ?_
            obtain ⟨x73, X73, hx73⟩ : ∃ (Z : Int32) (Y : xS), (Z, Y) = x8_error X 5 := ⟨_, _, rfl⟩
            refine xr_Vi (r0 := x73) (X2 := X73) C hA G (by rw [hx73]; exact (kx8_error zl D ad sa cc tt X 5)) (show kW 0 by decide).2 (xW_c (show kW 0 by decide).1) rfl (cwV 1 C.2.2.2.2.1 gX8_move_X8_error rfl rfl rfl (by decide +kernel) ⟨Nat.le_of_ble_eq_true rfl, Nat.le_of_ble_eq_true rfl⟩) rfl hl.1 rfl (Nat.le_of_ble_eq_true rfl) dX8_move_73 ⟨Nat.le_refl _, Nat.le_refl _⟩ (fun H locs G => ?_)
            rw [lt2_e hx73] at hF
            exact hret _ _ _ _ _ _ hF G dX8_move_76
        · rw [if_neg c49] at hF
          refine lv_aload_n hx hb dX8_move_52 rfl (lv_at hl 2 rfl) ?_
          refine lv_iconst (v := 2) hx hb dX8_move_53 (by decide) ?_
          obtain ⟨x54, X54, hx54⟩ : ∃ (Z : Int32) (Y : xS), (Z, Y) = x8_error X 2 := ⟨_, _, rfl⟩
          refine xr_Vi (r0 := x54) (X2 := X54) C hA G (by rw [hx54]; exact (kx8_error zl D ad sa cc tt X 2)) (show kW 0 by decide).2 (xW_c (show kW 0 by decide).1) rfl (cwV 1 C.2.2.2.2.1 gX8_move_X8_error rfl rfl rfl (by decide +kernel) ⟨Nat.le_of_ble_eq_true rfl, Nat.le_of_ble_eq_true rfl⟩) rfl hl.1 rfl (Nat.le_of_ble_eq_true rfl) dX8_move_54 ⟨Nat.le_refl _, Nat.le_refl _⟩ (fun H locs G => ?_)
          rw [lt2_e hx54] at hF
          exact hret _ _ _ _ _ _ hF G dX8_move_57
    · rw [if_pos c11] at hF
      refine lv_aload_n hx hb dX8_move_14 rfl (lv_at hl 0 rfl) ?_
      refine lv_iconst (v := 1) hx hb dX8_move_15 (by decide) ?_
      obtain ⟨x16, X16, hx16⟩ : ∃ (Z : Int32) (Y : xS), (Z, Y) = x8_error X 1 := ⟨_, _, rfl⟩
      refine xr_Vi (r0 := x16) (X2 := X16) C hA G (by rw [hx16]; exact (kx8_error zl D ad sa cc tt X 1)) (show kW 0 by decide).2 (xW_c (show kW 0 by decide).1) rfl (cwV 1 C.2.2.2.2.1 gX8_move_X8_error rfl rfl rfl (by decide +kernel) ⟨Nat.le_of_ble_eq_true rfl, Nat.le_of_ble_eq_true rfl⟩) rfl hl.1 rfl (Nat.le_of_ble_eq_true rfl) dX8_move_16 ⟨Nat.le_refl _, Nat.le_refl _⟩ (fun H locs G => ?_)
      rw [lt2_e hx16] at hF
      exact hret _ _ _ _ _ _ hF G dX8_move_19
set_option maxRecDepth 100000 in
set_option maxHeartbeats 4000000 in
theorem kx8_weeds (zl : Launch) (D : va_G) (ad sa : Nat → Nat) (cc : cT) (tt : tT) (X : xS) (s : Int32) (hc : eC X 1) (hsh : shR X) : xM zl D ad sa cc tt yX8_weeds wsX8_weeds ({ frames := 2, cells := 0, slots := 0, locals := 43 } : Room) [.ref (ad 0), .int s] X (x8_weeds X s) := by
  refine xM_of (code := cX8_weeds) (nL := 5) (own := RX8) (by decide) rfl rfl (Nat.le_of_ble_eq_true rfl) ?_
  intro zp ze zs zm zg zb zt zc zA zQ C hA hret H locs ls hl G
  have hx := C.1
  have hb := C.2.1
  have hl : lv_has ls 5 [(0, .ref (ad 0)), (1, .int s)] := hl
  obtain ⟨rM, hF⟩ : ∃ Z : Int32 × xS, Z = x8_weeds X s := ⟨_, rfl⟩
  rw [← hF] at hret
  unfold x8_weeds at hF
  have hc2 := hc.2.1
  have hc3 := hc.2.2
  refine lv_iload_n hx hb dX8_weeds_0 rfl (lv_at hl 1 rfl) ?_
  refine xr_ps C hA G (ks_X8_isSheet zl s) (va_cwS 1 C.2.2.2.2.1 gX8_weeds_X8_isSheet rfl rfl rfl (by decide +kernel) ⟨Nat.le_of_ble_eq_true rfl, Nat.le_of_ble_eq_true rfl⟩) rfl hl.1 rfl (Nat.le_of_ble_eq_true rfl) dX8_weeds_1 ⟨Nat.le_refl _, Nat.le_refl _⟩ (fun H locs G => ?_)
  refine lv_if_ne (tgt := 13) hx hb dX8_weeds_4 (by decide) (fun c4 => ?_) (fun c4 => ?_)
  · rw [if_neg c4] at hF
    have s9 := in_natp (n := 3) c4 rfl (by decide)
    have s92 := s9.2
    have hz9 := hsh _ (show vn s < 4 by omega)
    have hz92 := hz9.2
    refine lv_aload_n hx hb dX8_weeds_13 rfl (lv_at hl 0 rfl) ?_
    refine xr_get C G (show kW 0 by decide).2 (xW_c (show kW 0 by decide).1) rfl (fun _ h => List.mem_cons_of_mem _ (List.mem_append_left _ (List.mem_append_left _ (List.mem_append_right _ h)))) 7 (by decide) (show Cond.fieldLink RX8 45 "WheatCounts" "sheets" "[LWheatCounts$Sheet;" ∈ _ by decide +kernel) rfl dX8_weeds_14 ?_
    refine lv_iload_n hx hb dX8_weeds_17 rfl (lv_at hl 1 rfl) ?_
    refine xr_qld C G (vn s) s9.1 (by omega) dX8_weeds_18 ?_
    refine lv_astore_n (lv' := [(2, .ref (ad (51 + 2 * (vn s)))), (0, .ref (ad 0)), (1, .int s)]) hx hb dX8_weeds_19 rfl hl (by decide) rfl (fun ls hl => ?_)
    refine lv_aload_n hx hb dX8_weeds_20 rfl (lv_at hl 0 rfl) ?_
    refine xr_Vi C hA G (kx5_isMissing zl D ad sa cc tt X (51 + 2 * (vn s)) (kS_s (show (vn s) < 4 by omega))) (kS_s (show (vn s) < 4 by omega)).2 (xS_c (kS_s (show (vn s) < 4 by omega)).1) rfl (cwV 0 C.2.2.2.2.1 gX8_weeds_X5_isMissing rfl rfl rfl (by decide +kernel) ⟨Nat.le_of_ble_eq_true rfl, Nat.le_of_ble_eq_true rfl⟩) rfl hl.1 rfl (Nat.le_of_ble_eq_true rfl) dX8_weeds_21 ⟨Nat.le_refl _, Nat.le_refl _⟩ (fun H locs G => ?_)
    refine lv_if_eq (tgt := 33) hx hb dX8_weeds_24 (by decide) (fun c24 => ?_) (fun c24 => ?_)
    · rw [if_pos c24] at hF
      refine lv_aload_n hx hb dX8_weeds_33 rfl (lv_at hl 0 rfl) ?_
      refine xr_get C G (kS_s (show (vn s) < 4 by omega)).2 (xS_c (kS_s (show (vn s) < 4 by omega)).1) rfl (fun _ h => List.mem_cons_of_mem _ (List.mem_append_left _ (List.mem_append_right _ h))) 2 (by decide) (show Cond.fieldLink RX8 241 "WheatCounts$Sheet" "size" "I" ∈ _ by decide +kernel) rfl dX8_weeds_34 ?_
      refine lv_aload_n hx hb dX8_weeds_37 rfl (lv_at hl 1 rfl) ?_
      refine xr_get C G (show kW 0 by decide).2 (xW_c (show kW 0 by decide).1) rfl (fun _ h => List.mem_cons_of_mem _ (List.mem_append_left _ (List.mem_append_left _ (List.mem_append_right _ h)))) 0 (by decide) (show Cond.fieldLink RX8 10 "WheatCounts" "estate" "LWheatCounts$Estate;" ∈ _ by decide +kernel) rfl dX8_weeds_38 ?_
      refine xr_get C G (show kE 1 by decide).2 (xE_c (show kE 1 by decide).1) rfl (fun _ h => List.mem_cons_of_mem _ (List.mem_append_right _ h)) 0 (by decide) (show Cond.fieldLink RX8 72 "WheatCounts$Estate" "cells" "I" ∈ _ by decide +kernel) rfl dX8_weeds_41 ?_
      refine va_mmin hx hb (C.2.2.1.trans hl.1.symm) C.2.2.2.1 (C.2.2.2.2.1 (.methodLink RX8 313 Lib.Math.min.name) (by decide +kernel)) (C.2.2.2.2.1 (.static Lib.Math.min.name) (by decide +kernel)) (C.2.2.2.2.1 (.initialized "java/lang/Math") (by decide +kernel)) (C.2.2.2.2.1 (.code Lib.Math.min.name Lib.Math.min.code 2 (some .int)) (by decide +kernel)) (Nat.le_of_ble_eq_true rfl) (Nat.le_of_ble_eq_true rfl) (Nat.le_refl _) (Nat.le_refl _) dX8_weeds_44 ?_
      refine lv_topi (fun x47 hx47 => ?_)
      rw [lt_e hx47] at hF
      refine lv_istore_n (lv' := [(3, .int x47), (2, .ref (ad (51 + 2 * (vn s)))), (0, .ref (ad 0)), (1, .int s)]) hx hb dX8_weeds_47 rfl hl (by decide) rfl (fun ls hl => ?_)
      have hm9 := mn_x hz9.1 hc.1 hx47 (by omega) (by omega)
      have hm91 := hm9.2.1
      have hm92 := hm9.2.2
      refine lv_iconst (v := 0) hx hb dX8_weeds_48 (by decide) ?_
      refine lv_istore (lv' := [(4, .int 0), (3, .int x47), (2, .ref (ad (51 + 2 * (vn s)))), (0, .ref (ad 0)), (1, .int s)]) hx hb dX8_weeds_49 hl (by decide) rfl (fun ls hl => ?_)
      obtain ⟨K51, hK51⟩ : ∃ Zk : Nat → xS → Int32 × xS, Zk = (fun (ksx : Nat) (X51x : xS) => (x47, X51x)) := ⟨_, rfl⟩
      rw [← hK51] at hF
      have hrest51 : ∀ (ksx : Nat) (X51x : xS), rM = K51 ksx X51x → (True) → ∀ (H : Heap) (locs : List Loc) (ls : Array Slot), lv_has ls 5 [(0, .ref (ad 0)), (1, .int s), (2, .ref (ad (51 + 2 * (vn s)))), (3, .int x47), (4, .int (nI ksx))] → xG D ad sa cc tt zA zs.heap H locs X51x → W zp zl ze ({ frames := 2, cells := 0, slots := 0, locals := 43 } : Room) zs zm zg zb zt zc H locs 0 0 zQ (F0 zm 99 ls []) := by
        intro ksx X51x hF hR9 H locs ls hl G
        have hF : rM = (x47, X51x) := by rw [hK51] at hF; exact hF
        refine lv_iload_n hx hb dX8_weeds_99 rfl (lv_at hl 3 rfl) ?_
        exact hret _ _ _ _ _ _ hF G dX8_weeds_100
      have hloop51 : ∀ (f51 : Nat) (ks : Nat) (X51 : xS), (ks ≤ vn x47 ∧ vn x47 < ks + f51 ∧ (∀ p, p ≠ 3 → X51 p = X p)) → rM = x8_weeds_L51 s x47 K51 f51 ks X51 → ∀ (H : Heap) (locs : List Loc) (ls : Array Slot), lv_has ls 5 [(0, .ref (ad 0)), (1, .int s), (2, .ref (ad (51 + 2 * (vn s)))), (3, .int x47), (4, .int (nI ks))] → xG D ad sa cc tt zA zs.heap H locs X51 → W zp zl ze ({ frames := 2, cells := 0, slots := 0, locals := 43 } : Room) zs zm zg zb zt zc H locs 0 0 zQ (F0 zm 51 ls []) := by
        intro f51
        induction f51 with
        | zero =>
          intro ks X51 hI hL51 H locs ls hl G
          exact absurd hI.2.1 (by omega)
        | succ f51 ih51 =>
          intro ks X51 hI hL51 H locs ls hl G
          rw [x8_weeds_L51_s] at hL51
          have hqX51 := hI.2.2
          refine lv_iload hx hb dX8_weeds_51 (lv_at hl 4 rfl) ?_
          refine lv_iload_n hx hb dX8_weeds_53 rfl (lv_at hl 3 rfl) ?_
          refine lv_icmp_ge (tgt := 99) hx hb dX8_weeds_54 (by decide) (fun c54 => ?_) (fun c54 => ?_)
          · rw [if_pos c54] at hL51
            exact hrest51 ks X51 hL51 trivial _ _ _ (lv_sub hl [0, 1, 2, 3, 4] rfl) G
          · rw [if_neg c54] at hL51
            have hk9 := lp_lt hm9.1 c54 (by omega) (by omega)
            refine lv_aload_n hx hb dX8_weeds_57 rfl (lv_at hl 2 rfl) ?_
            refine xr_get C G (kS_s (show (vn s) < 4 by omega)).2 (xS_c (kS_s (show (vn s) < 4 by omega)).1) rfl (fun _ h => List.mem_cons_of_mem _ (List.mem_append_left _ (List.mem_append_right _ h))) 0 (by decide) (show Cond.fieldLink RX8 252 "WheatCounts$Sheet" "numbers" "[I" ∈ _ by decide +kernel) rfl dX8_weeds_58 ?_
            refine lv_iload hx hb dX8_weeds_61 (lv_at hl 4 rfl) ?_
            refine xr_ald C G (xS_1 (kS_s (show (vn s) < 4 by omega))).2 (xI_c (xS_1 (kS_s (show (vn s) < 4 by omega))).1 _) ks rfl (by omega) (xI_lt (xS_1 (kS_s (show (vn s) < 4 by omega)))) dX8_weeds_63 ?_
            refine lv_iconst (v := 0) hx hb dX8_weeds_64 (by decide) ?_
            refine lv_bipush (v := 99) hx hb dX8_weeds_65 (by decide) ?_
            refine xr_ps C hA G (ks_X8_within zl (X51 ((51 + 2 * (vn s)) + 1) ks) 0 99) (va_cwS 3 C.2.2.2.2.1 gX8_weeds_X8_within rfl rfl rfl (by decide +kernel) ⟨Nat.le_of_ble_eq_true rfl, Nat.le_of_ble_eq_true rfl⟩) rfl hl.1 rfl (Nat.le_of_ble_eq_true rfl) dX8_weeds_67 ⟨Nat.le_refl _, Nat.le_refl _⟩ (fun H locs G => ?_)
            refine lv_if_ne (tgt := 76) hx hb dX8_weeds_70 (by decide) (fun c70 => ?_) (fun c70 => ?_)
            · rw [if_neg c70] at hL51
              refine lv_aload_n hx hb dX8_weeds_76 rfl (lv_at hl 0 rfl) ?_
              refine xr_get C G (show kW 0 by decide).2 (xW_c (show kW 0 by decide).1) rfl (fun _ h => List.mem_cons_of_mem _ (List.mem_append_left _ (List.mem_append_left _ (List.mem_append_right _ h)))) 0 (by decide) (show Cond.fieldLink RX8 10 "WheatCounts" "estate" "LWheatCounts$Estate;" ∈ _ by decide +kernel) rfl dX8_weeds_77 ?_
              refine xr_get C G (show kE 1 by decide).2 (xE_c (show kE 1 by decide).1) rfl (fun _ h => List.mem_cons_of_mem _ (List.mem_append_right _ h)) 2 (by decide) (show Cond.fieldLink RX8 87 "WheatCounts$Estate" "weeds" "[I" ∈ _ by decide +kernel) rfl dX8_weeds_80 ?_
              refine lv_iload hx hb dX8_weeds_83 (lv_at hl 4 rfl) ?_
              refine lv_aload_n hx hb dX8_weeds_85 rfl (lv_at hl 2 rfl) ?_
              refine xr_get C G (kS_s (show (vn s) < 4 by omega)).2 (xS_c (kS_s (show (vn s) < 4 by omega)).1) rfl (fun _ h => List.mem_cons_of_mem _ (List.mem_append_left _ (List.mem_append_right _ h))) 0 (by decide) (show Cond.fieldLink RX8 252 "WheatCounts$Sheet" "numbers" "[I" ∈ _ by decide +kernel) rfl dX8_weeds_86 ?_
              refine lv_iload hx hb dX8_weeds_89 (lv_at hl 4 rfl) ?_
              refine xr_ald C G (xS_1 (kS_s (show (vn s) < 4 by omega))).2 (xI_c (xS_1 (kS_s (show (vn s) < 4 by omega))).1 _) ks rfl (by omega) (xI_lt (xS_1 (kS_s (show (vn s) < 4 by omega)))) dX8_weeds_91 ?_
              refine xr_ast C G (show kI 3 10 by decide).2 (xI_c (show kI 3 10 by decide).1) ks rfl (by omega) (xI_lt (show kI 3 10 by decide)) dX8_weeds_92 (fun H locs G => ?_)
              obtain ⟨X92, hX92⟩ : ∃ Z : xS, Z = mU X51 3 ks (X51 ((51 + 2 * (vn s)) + 1) ks) := ⟨_, rfl⟩
              have G : xG D ad sa cc tt zA zs.heap H locs X92 := by rw [hX92]; exact G
              rw [lt_e hX92] at hL51
              have hqX92 : ∀ p, p ≠ 3 → X92 p = X p := by rw [hX92]; intro p h; rw [mU_row h]; exact hqX51 p h
              refine lv_iinc (v := nI (ks + 1)) (lv' := [(4, .int (nI (ks + 1))), (0, .ref (ad 0)), (1, .int s), (2, .ref (ad (51 + 2 * (vn s)))), (3, .int x47)]) hx hb dX8_weeds_93 hl (k := 4) rfl (nt_add rfl (show (1 : Int32) = nI 1 from rfl)) (by decide) rfl (fun ls hl => ?_)
              refine lv_goto (tgt := 51) hx hb dX8_weeds_96 (by decide) ?_
              exact ih51 (ks + 1) X92 ⟨by omega, by omega, hqX92⟩ hL51 _ _ _ (lv_sub hl [1, 2, 3, 4, 0] rfl) G
            · rw [if_pos c70] at hL51
              refine lv_iload hx hb dX8_weeds_73 (lv_at hl 4 rfl) ?_
              exact hret _ _ _ _ _ _ hL51 G dX8_weeds_75
      exact hloop51 (vn x47 + 1) 0 X ⟨Nat.zero_le _, by omega, fun _ _ => rfl⟩ hF _ _ _ (lv_sub hl [3, 4, 2, 1, 0] rfl) G
    · rw [if_neg c24] at hF
      refine lv_aload_n hx hb dX8_weeds_27 rfl (lv_at hl 1 rfl) ?_
      refine lv_iconst (v := 2) hx hb dX8_weeds_28 (by decide) ?_
      obtain ⟨x29, X29, hx29⟩ : ∃ (Z : Int32) (Y : xS), (Z, Y) = x8_error X 2 := ⟨_, _, rfl⟩
      refine xr_Vi (r0 := x29) (X2 := X29) C hA G (by rw [hx29]; exact (kx8_error zl D ad sa cc tt X 2)) (show kW 0 by decide).2 (xW_c (show kW 0 by decide).1) rfl (cwV 1 C.2.2.2.2.1 gX8_weeds_X8_error rfl rfl rfl (by decide +kernel) ⟨Nat.le_of_ble_eq_true rfl, Nat.le_of_ble_eq_true rfl⟩) rfl hl.1 rfl (Nat.le_of_ble_eq_true rfl) dX8_weeds_29 ⟨Nat.le_refl _, Nat.le_refl _⟩ (fun H locs G => ?_)
      rw [lt2_e hx29] at hF
      exact hret _ _ _ _ _ _ hF G dX8_weeds_32
  · rw [if_pos c4] at hF
    refine lv_aload_n hx hb dX8_weeds_7 rfl (lv_at hl 0 rfl) ?_
    refine lv_iconst (v := 1) hx hb dX8_weeds_8 (by decide) ?_
    obtain ⟨x9, X9, hx9⟩ : ∃ (Z : Int32) (Y : xS), (Z, Y) = x8_error X 1 := ⟨_, _, rfl⟩
    refine xr_Vi (r0 := x9) (X2 := X9) C hA G (by rw [hx9]; exact (kx8_error zl D ad sa cc tt X 1)) (show kW 0 by decide).2 (xW_c (show kW 0 by decide).1) rfl (cwV 1 C.2.2.2.2.1 gX8_weeds_X8_error rfl rfl rfl (by decide +kernel) ⟨Nat.le_of_ble_eq_true rfl, Nat.le_of_ble_eq_true rfl⟩) rfl hl.1 rfl (Nat.le_of_ble_eq_true rfl) dX8_weeds_9 ⟨Nat.le_refl _, Nat.le_refl _⟩ (fun H locs G => ?_)
    rw [lt2_e hx9] at hF
    exact hret _ _ _ _ _ _ hF G dX8_weeds_12
set_option maxRecDepth 100000 in
set_option maxHeartbeats 4000000 in
theorem kx8_judge (zl : Launch) (D : va_G) (ad sa : Nat → Nat) (cc : cT) (tt : tT) (X : xS) (s : Int32) (hc : eC X 1) (hsh : shR X) : xM zl D ad sa cc tt yX8_judge wsX8_judge ({ frames := 2, cells := 0, slots := 0, locals := 43 } : Room) [.ref (ad 0), .int s] X (x8_judge X s) := by
  refine xM_of (code := cX8_judge) (nL := 5) (own := RX8) (by decide) rfl rfl (Nat.le_of_ble_eq_true rfl) ?_
  intro zp ze zs zm zg zb zt zc zA zQ C hA hret H locs ls hl G
  have hx := C.1
  have hb := C.2.1
  have hl : lv_has ls 5 [(0, .ref (ad 0)), (1, .int s)] := hl
  obtain ⟨rM, hF⟩ : ∃ Z : Int32 × xS, Z = x8_judge X s := ⟨_, rfl⟩
  rw [← hF] at hret
  unfold x8_judge at hF
  have hc2 := hc.2.1
  have hc3 := hc.2.2
  refine lv_iload_n hx hb dX8_judge_0 rfl (lv_at hl 1 rfl) ?_
  refine xr_ps C hA G (ks_X8_isSheet zl s) (va_cwS 1 C.2.2.2.2.1 gX8_judge_X8_isSheet rfl rfl rfl (by decide +kernel) ⟨Nat.le_of_ble_eq_true rfl, Nat.le_of_ble_eq_true rfl⟩) rfl hl.1 rfl (Nat.le_of_ble_eq_true rfl) dX8_judge_1 ⟨Nat.le_refl _, Nat.le_refl _⟩ (fun H locs G => ?_)
  refine lv_if_ne (tgt := 13) hx hb dX8_judge_4 (by decide) (fun c4 => ?_) (fun c4 => ?_)
  · rw [if_neg c4] at hF
    have s9 := in_natp (n := 3) c4 rfl (by decide)
    have s92 := s9.2
    have hz9 := hsh _ (show vn s < 4 by omega)
    have hz92 := hz9.2
    refine lv_aload_n hx hb dX8_judge_13 rfl (lv_at hl 0 rfl) ?_
    refine xr_get C G (show kW 0 by decide).2 (xW_c (show kW 0 by decide).1) rfl (fun _ h => List.mem_cons_of_mem _ (List.mem_append_left _ (List.mem_append_left _ (List.mem_append_right _ h)))) 7 (by decide) (show Cond.fieldLink RX8 45 "WheatCounts" "sheets" "[LWheatCounts$Sheet;" ∈ _ by decide +kernel) rfl dX8_judge_14 ?_
    refine lv_iload_n hx hb dX8_judge_17 rfl (lv_at hl 1 rfl) ?_
    refine xr_qld C G (vn s) s9.1 (by omega) dX8_judge_18 ?_
    refine lv_astore_n (lv' := [(2, .ref (ad (51 + 2 * (vn s)))), (0, .ref (ad 0)), (1, .int s)]) hx hb dX8_judge_19 rfl hl (by decide) rfl (fun ls hl => ?_)
    refine lv_aload_n hx hb dX8_judge_20 rfl (lv_at hl 0 rfl) ?_
    refine xr_Vi C hA G (kx5_isMissing zl D ad sa cc tt X (51 + 2 * (vn s)) (kS_s (show (vn s) < 4 by omega))) (kS_s (show (vn s) < 4 by omega)).2 (xS_c (kS_s (show (vn s) < 4 by omega)).1) rfl (cwV 0 C.2.2.2.2.1 gX8_judge_X5_isMissing rfl rfl rfl (by decide +kernel) ⟨Nat.le_of_ble_eq_true rfl, Nat.le_of_ble_eq_true rfl⟩) rfl hl.1 rfl (Nat.le_of_ble_eq_true rfl) dX8_judge_21 ⟨Nat.le_refl _, Nat.le_refl _⟩ (fun H locs G => ?_)
    refine lv_if_eq (tgt := 33) hx hb dX8_judge_24 (by decide) (fun c24 => ?_) (fun c24 => ?_)
    · rw [if_pos c24] at hF
      refine lv_aload_n hx hb dX8_judge_33 rfl (lv_at hl 0 rfl) ?_
      refine xr_get C G (kS_s (show (vn s) < 4 by omega)).2 (xS_c (kS_s (show (vn s) < 4 by omega)).1) rfl (fun _ h => List.mem_cons_of_mem _ (List.mem_append_left _ (List.mem_append_right _ h))) 2 (by decide) (show Cond.fieldLink RX8 241 "WheatCounts$Sheet" "size" "I" ∈ _ by decide +kernel) rfl dX8_judge_34 ?_
      refine lv_aload_n hx hb dX8_judge_37 rfl (lv_at hl 1 rfl) ?_
      refine xr_get C G (show kW 0 by decide).2 (xW_c (show kW 0 by decide).1) rfl (fun _ h => List.mem_cons_of_mem _ (List.mem_append_left _ (List.mem_append_left _ (List.mem_append_right _ h)))) 0 (by decide) (show Cond.fieldLink RX8 10 "WheatCounts" "estate" "LWheatCounts$Estate;" ∈ _ by decide +kernel) rfl dX8_judge_38 ?_
      refine xr_get C G (show kE 1 by decide).2 (xE_c (show kE 1 by decide).1) rfl (fun _ h => List.mem_cons_of_mem _ (List.mem_append_right _ h)) 0 (by decide) (show Cond.fieldLink RX8 72 "WheatCounts$Estate" "cells" "I" ∈ _ by decide +kernel) rfl dX8_judge_41 ?_
      refine va_mmin hx hb (C.2.2.1.trans hl.1.symm) C.2.2.2.1 (C.2.2.2.2.1 (.methodLink RX8 313 Lib.Math.min.name) (by decide +kernel)) (C.2.2.2.2.1 (.static Lib.Math.min.name) (by decide +kernel)) (C.2.2.2.2.1 (.initialized "java/lang/Math") (by decide +kernel)) (C.2.2.2.2.1 (.code Lib.Math.min.name Lib.Math.min.code 2 (some .int)) (by decide +kernel)) (Nat.le_of_ble_eq_true rfl) (Nat.le_of_ble_eq_true rfl) (Nat.le_refl _) (Nat.le_refl _) dX8_judge_44 ?_
      refine lv_topi (fun x47 hx47 => ?_)
      rw [lt_e hx47] at hF
      refine lv_istore_n (lv' := [(3, .int x47), (2, .ref (ad (51 + 2 * (vn s)))), (0, .ref (ad 0)), (1, .int s)]) hx hb dX8_judge_47 rfl hl (by decide) rfl (fun ls hl => ?_)
      have hm9 := mn_x hz9.1 hc.1 hx47 (by omega) (by omega)
      have hm91 := hm9.2.1
      have hm92 := hm9.2.2
      refine lv_iconst (v := 0) hx hb dX8_judge_48 (by decide) ?_
      refine lv_istore (lv' := [(4, .int 0), (3, .int x47), (2, .ref (ad (51 + 2 * (vn s)))), (0, .ref (ad 0)), (1, .int s)]) hx hb dX8_judge_49 hl (by decide) rfl (fun ls hl => ?_)
      obtain ⟨K51, hK51⟩ : ∃ Zk : Nat → Int32 × xS, Zk = (fun (ksx : Nat) => (if (X (51 + 2 * (vn s)) 2) = (X 1 0) then ((-1), X) else (x47, X))) := ⟨_, rfl⟩
      rw [← hK51] at hF
      have hrest51 : ∀ (ksx : Nat), rM = K51 ksx → (True) → ∀ (H : Heap) (locs : List Loc) (ls : Array Slot), lv_has ls 5 [(0, .ref (ad 0)), (1, .int s), (2, .ref (ad (51 + 2 * (vn s)))), (3, .int x47), (4, .int (nI ksx))] → xG D ad sa cc tt zA zs.heap H locs X → W zp zl ze ({ frames := 2, cells := 0, slots := 0, locals := 43 } : Room) zs zm zg zb zt zc H locs 0 0 zQ (F0 zm 86 ls []) := by
        intro ksx hF hR9 H locs ls hl G
        have hF : rM = (if (X (51 + 2 * (vn s)) 2) = (X 1 0) then ((-1), X) else (x47, X)) := by rw [hK51] at hF; exact hF
        refine lv_aload_n hx hb dX8_judge_86 rfl (lv_at hl 2 rfl) ?_
        refine xr_get C G (kS_s (show (vn s) < 4 by omega)).2 (xS_c (kS_s (show (vn s) < 4 by omega)).1) rfl (fun _ h => List.mem_cons_of_mem _ (List.mem_append_left _ (List.mem_append_right _ h))) 2 (by decide) (show Cond.fieldLink RX8 241 "WheatCounts$Sheet" "size" "I" ∈ _ by decide +kernel) rfl dX8_judge_87 ?_
        refine lv_aload_n hx hb dX8_judge_90 rfl (lv_at hl 0 rfl) ?_
        refine xr_get C G (show kW 0 by decide).2 (xW_c (show kW 0 by decide).1) rfl (fun _ h => List.mem_cons_of_mem _ (List.mem_append_left _ (List.mem_append_left _ (List.mem_append_right _ h)))) 0 (by decide) (show Cond.fieldLink RX8 10 "WheatCounts" "estate" "LWheatCounts$Estate;" ∈ _ by decide +kernel) rfl dX8_judge_91 ?_
        refine xr_get C G (show kE 1 by decide).2 (xE_c (show kE 1 by decide).1) rfl (fun _ h => List.mem_cons_of_mem _ (List.mem_append_right _ h)) 0 (by decide) (show Cond.fieldLink RX8 72 "WheatCounts$Estate" "cells" "I" ∈ _ by decide +kernel) rfl dX8_judge_94 ?_
        refine lv_icmp_ne (tgt := 104) hx hb dX8_judge_97 (by decide) (fun c97 => ?_) (fun c97 => ?_)
        · rw [if_neg c97] at hF
          refine lv_iload_n hx hb dX8_judge_104 rfl (lv_at hl 3 rfl) ?_
          exact hret _ _ _ _ _ _ hF G dX8_judge_105
        · rw [if_pos c97] at hF
          refine lv_iconst (v := -1) hx hb dX8_judge_100 (by decide) ?_
          refine lv_goto (tgt := 105) hx hb dX8_judge_101 (by decide) ?_
          exact hret _ _ _ _ _ _ hF G dX8_judge_105
      have hloop51 : ∀ (f51 : Nat) (ks : Nat), (ks ≤ vn x47 ∧ vn x47 < ks + f51) → rM = x8_judge_L51 X s x47 K51 f51 ks → ∀ (H : Heap) (locs : List Loc) (ls : Array Slot), lv_has ls 5 [(0, .ref (ad 0)), (1, .int s), (2, .ref (ad (51 + 2 * (vn s)))), (3, .int x47), (4, .int (nI ks))] → xG D ad sa cc tt zA zs.heap H locs X → W zp zl ze ({ frames := 2, cells := 0, slots := 0, locals := 43 } : Room) zs zm zg zb zt zc H locs 0 0 zQ (F0 zm 51 ls []) := by
        intro f51
        induction f51 with
        | zero =>
          intro ks hI hL51 H locs ls hl G
          exact absurd hI.2 (by omega)
        | succ f51 ih51 =>
          intro ks hI hL51 H locs ls hl G
          rw [x8_judge_L51_s] at hL51
          refine lv_iload hx hb dX8_judge_51 (lv_at hl 4 rfl) ?_
          refine lv_iload_n hx hb dX8_judge_53 rfl (lv_at hl 3 rfl) ?_
          refine lv_icmp_ge (tgt := 86) hx hb dX8_judge_54 (by decide) (fun c54 => ?_) (fun c54 => ?_)
          · rw [if_pos c54] at hL51
            exact hrest51 ks hL51 trivial _ _ _ (lv_sub hl [0, 1, 2, 3, 4] rfl) G
          · rw [if_neg c54] at hL51
            have hk9 := lp_lt hm9.1 c54 (by omega) (by omega)
            refine lv_aload_n hx hb dX8_judge_57 rfl (lv_at hl 2 rfl) ?_
            refine xr_get C G (kS_s (show (vn s) < 4 by omega)).2 (xS_c (kS_s (show (vn s) < 4 by omega)).1) rfl (fun _ h => List.mem_cons_of_mem _ (List.mem_append_left _ (List.mem_append_right _ h))) 0 (by decide) (show Cond.fieldLink RX8 252 "WheatCounts$Sheet" "numbers" "[I" ∈ _ by decide +kernel) rfl dX8_judge_58 ?_
            refine lv_iload hx hb dX8_judge_61 (lv_at hl 4 rfl) ?_
            refine xr_ald C G (xS_1 (kS_s (show (vn s) < 4 by omega))).2 (xI_c (xS_1 (kS_s (show (vn s) < 4 by omega))).1 _) ks rfl (by omega) (xI_lt (xS_1 (kS_s (show (vn s) < 4 by omega)))) dX8_judge_63 ?_
            refine lv_aload_n hx hb dX8_judge_64 rfl (lv_at hl 0 rfl) ?_
            refine xr_get C G (show kW 0 by decide).2 (xW_c (show kW 0 by decide).1) rfl (fun _ h => List.mem_cons_of_mem _ (List.mem_append_left _ (List.mem_append_left _ (List.mem_append_right _ h)))) 0 (by decide) (show Cond.fieldLink RX8 10 "WheatCounts" "estate" "LWheatCounts$Estate;" ∈ _ by decide +kernel) rfl dX8_judge_65 ?_
            refine xr_get C G (show kE 1 by decide).2 (xE_c (show kE 1 by decide).1) rfl (fun _ h => List.mem_cons_of_mem _ (List.mem_append_right _ h)) 1 (by decide) (show Cond.fieldLink RX8 84 "WheatCounts$Estate" "grains" "[I" ∈ _ by decide +kernel) rfl dX8_judge_68 ?_
            refine lv_iload hx hb dX8_judge_71 (lv_at hl 4 rfl) ?_
            refine xr_ald C G (show kI 2 10 by decide).2 (xI_c (show kI 2 10 by decide).1 _) ks rfl (by omega) (xI_lt (show kI 2 10 by decide)) dX8_judge_73 ?_
            refine lv_icmp_eq (tgt := 80) hx hb dX8_judge_74 (by decide) (fun c74 => ?_) (fun c74 => ?_)
            · rw [if_pos c74] at hL51
              refine lv_iinc (v := nI (ks + 1)) (lv' := [(4, .int (nI (ks + 1))), (0, .ref (ad 0)), (1, .int s), (2, .ref (ad (51 + 2 * (vn s)))), (3, .int x47)]) hx hb dX8_judge_80 hl (k := 4) rfl (nt_add rfl (show (1 : Int32) = nI 1 from rfl)) (by decide) rfl (fun ls hl => ?_)
              refine lv_goto (tgt := 51) hx hb dX8_judge_83 (by decide) ?_
              exact ih51 (ks + 1) ⟨by omega, by omega⟩ hL51 _ _ _ (lv_sub hl [1, 2, 3, 4, 0] rfl) G
            · rw [if_neg c74] at hL51
              refine lv_iload hx hb dX8_judge_77 (lv_at hl 4 rfl) ?_
              exact hret _ _ _ _ _ _ hL51 G dX8_judge_79
      exact hloop51 (vn x47 + 1) 0 ⟨Nat.zero_le _, by omega⟩ hF _ _ _ (lv_sub hl [3, 4, 2, 1, 0] rfl) G
    · rw [if_neg c24] at hF
      refine lv_aload_n hx hb dX8_judge_27 rfl (lv_at hl 1 rfl) ?_
      refine lv_iconst (v := 2) hx hb dX8_judge_28 (by decide) ?_
      obtain ⟨x29, X29, hx29⟩ : ∃ (Z : Int32) (Y : xS), (Z, Y) = x8_error X 2 := ⟨_, _, rfl⟩
      refine xr_Vi (r0 := x29) (X2 := X29) C hA G (by rw [hx29]; exact (kx8_error zl D ad sa cc tt X 2)) (show kW 0 by decide).2 (xW_c (show kW 0 by decide).1) rfl (cwV 1 C.2.2.2.2.1 gX8_judge_X8_error rfl rfl rfl (by decide +kernel) ⟨Nat.le_of_ble_eq_true rfl, Nat.le_of_ble_eq_true rfl⟩) rfl hl.1 rfl (Nat.le_of_ble_eq_true rfl) dX8_judge_29 ⟨Nat.le_refl _, Nat.le_refl _⟩ (fun H locs G => ?_)
      rw [lt2_e hx29] at hF
      exact hret _ _ _ _ _ _ hF G dX8_judge_32
  · rw [if_pos c4] at hF
    refine lv_aload_n hx hb dX8_judge_7 rfl (lv_at hl 0 rfl) ?_
    refine lv_iconst (v := 1) hx hb dX8_judge_8 (by decide) ?_
    obtain ⟨x9, X9, hx9⟩ : ∃ (Z : Int32) (Y : xS), (Z, Y) = x8_error X 1 := ⟨_, _, rfl⟩
    refine xr_Vi (r0 := x9) (X2 := X9) C hA G (by rw [hx9]; exact (kx8_error zl D ad sa cc tt X 1)) (show kW 0 by decide).2 (xW_c (show kW 0 by decide).1) rfl (cwV 1 C.2.2.2.2.1 gX8_judge_X8_error rfl rfl rfl (by decide +kernel) ⟨Nat.le_of_ble_eq_true rfl, Nat.le_of_ble_eq_true rfl⟩) rfl hl.1 rfl (Nat.le_of_ble_eq_true rfl) dX8_judge_9 ⟨Nat.le_refl _, Nat.le_refl _⟩ (fun H locs G => ?_)
    rw [lt2_e hx9] at hF
    exact hret _ _ _ _ _ _ hF G dX8_judge_12
set_option maxRecDepth 100000 in
set_option maxHeartbeats 4000000 in
theorem kx8_image (zl : Launch) (D : va_G) (ad sa : Nat → Nat) (cc : cT) (tt : tT) (X : xS) (hz : zR X 1) : xM zl D ad sa cc tt yX8_image wsX8_image ({ frames := 3, cells := 0, slots := 0, locals := 81 } : Room) [.ref (ad 0)] X (x8_image X) := by
  refine xM_of (code := cX8_image) (nL := 1) (own := RX8) (by decide) rfl rfl (Nat.le_of_ble_eq_true rfl) ?_
  intro zp ze zs zm zg zb zt zc zA zQ C hA hret H locs ls hl G
  have hx := C.1
  have hb := C.2.1
  have hl : lv_has ls 1 [(0, .ref (ad 0))] := hl
  obtain ⟨rM, hF⟩ : ∃ Z : Int32 × xS, Z = x8_image X := ⟨_, rfl⟩
  rw [← hF] at hret
  unfold x8_image at hF
  refine lv_aload_n hx hb dX8_image_0 rfl (lv_at hl 0 rfl) ?_
  refine xr_get C G (show kW 0 by decide).2 (xW_c (show kW 0 by decide).1) rfl (fun _ h => List.mem_cons_of_mem _ (List.mem_append_left _ (List.mem_append_left _ (List.mem_append_right _ h)))) 2 (by decide) (show Cond.fieldLink RX8 19 "WheatCounts" "kept" "LWheatCounts$Estate;" ∈ _ by decide +kernel) rfl dX8_image_1 ?_
  refine lv_aload_n hx hb dX8_image_4 rfl (lv_at hl 0 rfl) ?_
  refine xr_get C G (show kW 0 by decide).2 (xW_c (show kW 0 by decide).1) rfl (fun _ h => List.mem_cons_of_mem _ (List.mem_append_left _ (List.mem_append_left _ (List.mem_append_right _ h)))) 0 (by decide) (show Cond.fieldLink RX8 10 "WheatCounts" "estate" "LWheatCounts$Estate;" ∈ _ by decide +kernel) rfl dX8_image_5 ?_
  refine xr_Vv C hA G (kx0_takeOver zl D ad sa cc tt X 25 1 (show kE 25 by decide) (show kE 1 by decide) hz.1 hz.2 (by decide)) (show kE 25 by decide).2 (xE_c (show kE 25 by decide).1) rfl (cwV 1 C.2.2.2.2.1 gX8_image_X0_takeOver rfl rfl rfl (by decide +kernel) ⟨Nat.le_of_ble_eq_true rfl, Nat.le_of_ble_eq_true rfl⟩) rfl hl.1 rfl (Nat.le_of_ble_eq_true rfl) dX8_image_8 ⟨Nat.le_refl _, Nat.le_refl _⟩ (fun H locs G => ?_)
  obtain ⟨X8, hX8⟩ : ∃ Z : xS, Z = x0_takeOver X 25 1 := ⟨_, rfl⟩
  have G : xG D ad sa cc tt zA zs.heap H locs X8 := by rw [hX8]; exact G
  rw [lt_e hX8] at hF
  refine lv_aload_n hx hb dX8_image_11 rfl (lv_at hl 0 rfl) ?_
  refine lv_dup hx hb dX8_image_12 rfl ?_
  refine xr_get C G (show kW 0 by decide).2 (xW_c (show kW 0 by decide).1) rfl (fun _ h => List.mem_cons_of_mem _ (List.mem_append_left _ (List.mem_append_left _ (List.mem_append_right _ h)))) 3 (by decide) (show Cond.fieldLink RX8 318 "WheatCounts" "timesKept" "I" ∈ _ by decide +kernel) rfl dX8_image_13 ?_
  refine lv_iconst (v := 1) hx hb dX8_image_16 (by decide) ?_
  refine lv_iadd hx hb dX8_image_17 ?_
  refine xr_put C G (show kW 0 by decide).2 (xW_c (show kW 0 by decide).1) rfl (fun _ h => List.mem_cons_of_mem _ (List.mem_append_left _ (List.mem_append_left _ (List.mem_append_right _ h)))) tyX8 tyX8_ok nmX8 3 (by decide) rfl (show Cond.fieldLink RX8 318 "WheatCounts" "timesKept" "I" ∈ _ by decide +kernel) (ty := .int) (by decide +kernel) rfl rfl (Nat.le_of_ble_eq_true rfl) (upd (X8 0) 3 ((X8 0 3) + 1)) (xW_c (show kW 0 by decide).1) dX8_image_18 (fun H locs G => ?_)
  obtain ⟨X18, hX18⟩ : ∃ Z : xS, Z = mU X8 0 3 ((X8 0 3) + 1) := ⟨_, rfl⟩
  have G : xG D ad sa cc tt zA zs.heap H locs X18 := by rw [hX18]; exact G
  rw [lt_e hX18] at hF
  refine lv_aload_n hx hb dX8_image_21 rfl (lv_at hl 0 rfl) ?_
  refine xr_get C G (show kW 0 by decide).2 (xW_c (show kW 0 by decide).1) rfl (fun _ h => List.mem_cons_of_mem _ (List.mem_append_left _ (List.mem_append_left _ (List.mem_append_right _ h)))) 3 (by decide) (show Cond.fieldLink RX8 318 "WheatCounts" "timesKept" "I" ∈ _ by decide +kernel) rfl dX8_image_22 ?_
  exact hret _ _ _ _ _ _ hF G dX8_image_25
set_option maxRecDepth 100000 in
set_option maxHeartbeats 4000000 in
theorem kx8_restore (zl : Launch) (D : va_G) (ad sa : Nat → Nat) (cc : cT) (tt : tT) (X : xS) (hz5 : zR X 25) : xM zl D ad sa cc tt yX8_restore wsX8_restore ({ frames := 3, cells := 0, slots := 0, locals := 81 } : Room) [.ref (ad 0)] X (x8_restore X) := by
  refine xM_of (code := cX8_restore) (nL := 1) (own := RX8) (by decide) rfl rfl (Nat.le_of_ble_eq_true rfl) ?_
  intro zp ze zs zm zg zb zt zc zA zQ C hA hret H locs ls hl G
  have hx := C.1
  have hb := C.2.1
  have hl : lv_has ls 1 [(0, .ref (ad 0))] := hl
  obtain ⟨rM, hF⟩ : ∃ Z : Int32 × xS, Z = x8_restore X := ⟨_, rfl⟩
  rw [← hF] at hret
  unfold x8_restore at hF
  refine lv_aload_n hx hb dX8_restore_0 rfl (lv_at hl 0 rfl) ?_
  refine xr_get C G (show kW 0 by decide).2 (xW_c (show kW 0 by decide).1) rfl (fun _ h => List.mem_cons_of_mem _ (List.mem_append_left _ (List.mem_append_left _ (List.mem_append_right _ h)))) 3 (by decide) (show Cond.fieldLink RX8 318 "WheatCounts" "timesKept" "I" ∈ _ by decide +kernel) rfl dX8_restore_1 ?_
  refine lv_if_ne (tgt := 13) hx hb dX8_restore_4 (by decide) (fun c4 => ?_) (fun c4 => ?_)
  · rw [if_neg c4] at hF
    refine lv_aload_n hx hb dX8_restore_13 rfl (lv_at hl 0 rfl) ?_
    refine xr_get C G (show kW 0 by decide).2 (xW_c (show kW 0 by decide).1) rfl (fun _ h => List.mem_cons_of_mem _ (List.mem_append_left _ (List.mem_append_left _ (List.mem_append_right _ h)))) 0 (by decide) (show Cond.fieldLink RX8 10 "WheatCounts" "estate" "LWheatCounts$Estate;" ∈ _ by decide +kernel) rfl dX8_restore_14 ?_
    refine lv_aload_n hx hb dX8_restore_17 rfl (lv_at hl 0 rfl) ?_
    refine xr_get C G (show kW 0 by decide).2 (xW_c (show kW 0 by decide).1) rfl (fun _ h => List.mem_cons_of_mem _ (List.mem_append_left _ (List.mem_append_left _ (List.mem_append_right _ h)))) 2 (by decide) (show Cond.fieldLink RX8 19 "WheatCounts" "kept" "LWheatCounts$Estate;" ∈ _ by decide +kernel) rfl dX8_restore_18 ?_
    refine xr_Vv C hA G (kx0_takeOver zl D ad sa cc tt X 1 25 (show kE 1 by decide) (show kE 25 by decide) hz5.1 hz5.2 (by decide)) (show kE 1 by decide).2 (xE_c (show kE 1 by decide).1) rfl (cwV 1 C.2.2.2.2.1 gX8_restore_X0_takeOver rfl rfl rfl (by decide +kernel) ⟨Nat.le_of_ble_eq_true rfl, Nat.le_of_ble_eq_true rfl⟩) rfl hl.1 rfl (Nat.le_of_ble_eq_true rfl) dX8_restore_21 ⟨Nat.le_refl _, Nat.le_refl _⟩ (fun H locs G => ?_)
    obtain ⟨X21, hX21⟩ : ∃ Z : xS, Z = x0_takeOver X 1 25 := ⟨_, rfl⟩
    have G : xG D ad sa cc tt zA zs.heap H locs X21 := by rw [hX21]; exact G
    rw [lt_e hX21] at hF
    refine lv_aload_n hx hb dX8_restore_24 rfl (lv_at hl 0 rfl) ?_
    refine xr_get C G (show kW 0 by decide).2 (xW_c (show kW 0 by decide).1) rfl (fun _ h => List.mem_cons_of_mem _ (List.mem_append_left _ (List.mem_append_left _ (List.mem_append_right _ h)))) 0 (by decide) (show Cond.fieldLink RX8 10 "WheatCounts" "estate" "LWheatCounts$Estate;" ∈ _ by decide +kernel) rfl dX8_restore_25 ?_
    refine xr_get C G (show kE 1 by decide).2 (xE_c (show kE 1 by decide).1) rfl (fun _ h => List.mem_cons_of_mem _ (List.mem_append_left _ (List.mem_append_right _ h))) 7 (by decide) (show Cond.fieldLink RX8 130 "WheatCounts$Estate" "hour" "I" ∈ _ by decide +kernel) rfl dX8_restore_28 ?_
    exact hret _ _ _ _ _ _ hF G dX8_restore_31
  · rw [if_pos c4] at hF
    refine lv_aload_n hx hb dX8_restore_7 rfl (lv_at hl 0 rfl) ?_
    refine lv_iconst (v := 2) hx hb dX8_restore_8 (by decide) ?_
    obtain ⟨x9, X9, hx9⟩ : ∃ (Z : Int32) (Y : xS), (Z, Y) = x8_error X 2 := ⟨_, _, rfl⟩
    refine xr_Vi (r0 := x9) (X2 := X9) C hA G (by rw [hx9]; exact (kx8_error zl D ad sa cc tt X 2)) (show kW 0 by decide).2 (xW_c (show kW 0 by decide).1) rfl (cwV 1 C.2.2.2.2.1 gX8_restore_X8_error rfl rfl rfl (by decide +kernel) ⟨Nat.le_of_ble_eq_true rfl, Nat.le_of_ble_eq_true rfl⟩) rfl hl.1 rfl (Nat.le_of_ble_eq_true rfl) dX8_restore_9 ⟨Nat.le_refl _, Nat.le_refl _⟩ (fun H locs G => ?_)
    rw [lt2_e hx9] at hF
    exact hret _ _ _ _ _ _ hF G dX8_restore_12
set_option maxRecDepth 100000 in
set_option maxHeartbeats 4000000 in
theorem kx8_tell (zl : Launch) (D : va_G) (ad sa : Nat → Nat) (cc : cT) (tt : tT) (X : xS) (v : Int32) (hz : zR X 1) : xM zl D ad sa cc tt yX8_tell wsX8_tell ({ frames := 2, cells := 0, slots := 0, locals := 43 } : Room) [.ref (ad 0), .int v] X (x8_tell X v) := by
  refine xM_of (code := cX8_tell) (nL := 2) (own := RX8) (by decide) rfl rfl (Nat.le_of_ble_eq_true rfl) ?_
  intro zp ze zs zm zg zb zt zc zA zQ C hA hret H locs ls hl G
  have hx := C.1
  have hb := C.2.1
  have hl : lv_has ls 2 [(0, .ref (ad 0)), (1, .int v)] := hl
  obtain ⟨rM, hF⟩ : ∃ Z : Int32 × xS, Z = x8_tell X v := ⟨_, rfl⟩
  rw [← hF] at hret
  unfold x8_tell at hF
  refine lv_aload_n hx hb dX8_tell_0 rfl (lv_at hl 0 rfl) ?_
  refine xr_get C G (show kW 0 by decide).2 (xW_c (show kW 0 by decide).1) rfl (fun _ h => List.mem_cons_of_mem _ (List.mem_append_left _ (List.mem_append_left _ (List.mem_append_right _ h)))) 0 (by decide) (show Cond.fieldLink RX8 10 "WheatCounts" "estate" "LWheatCounts$Estate;" ∈ _ by decide +kernel) rfl dX8_tell_1 ?_
  refine xr_get C G (show kE 1 by decide).2 (xE_c (show kE 1 by decide).1) rfl (fun _ h => List.mem_cons_of_mem _ (List.mem_append_left _ (List.mem_append_right _ h))) 17 (by decide) (show Cond.fieldLink RX8 321 "WheatCounts$Estate" "waiting" "LWheatCounts$Row;" ∈ _ by decide +kernel) rfl dX8_tell_4 ?_
  refine xr_get C G (show kR 11 by decide).2 (xR_c (show kR 11 by decide).1) rfl (fun _ h => List.mem_cons_of_mem _ (List.mem_append_right _ h)) 1 (by decide) (show Cond.fieldLink RX8 156 "WheatCounts$Row" "size" "I" ∈ _ by decide +kernel) rfl dX8_tell_7 ?_
  refine lv_bipush (v := 20) hx hb dX8_tell_10 (by decide) ?_
  refine lv_icmp_lt (tgt := 21) hx hb dX8_tell_12 (by decide) (fun c12 => ?_) (fun c12 => ?_)
  · rw [if_pos c12] at hF
    refine lv_aload_n hx hb dX8_tell_21 rfl (lv_at hl 0 rfl) ?_
    refine xr_get C G (show kW 0 by decide).2 (xW_c (show kW 0 by decide).1) rfl (fun _ h => List.mem_cons_of_mem _ (List.mem_append_left _ (List.mem_append_left _ (List.mem_append_right _ h)))) 0 (by decide) (show Cond.fieldLink RX8 10 "WheatCounts" "estate" "LWheatCounts$Estate;" ∈ _ by decide +kernel) rfl dX8_tell_22 ?_
    refine xr_get C G (show kE 1 by decide).2 (xE_c (show kE 1 by decide).1) rfl (fun _ h => List.mem_cons_of_mem _ (List.mem_append_left _ (List.mem_append_right _ h))) 17 (by decide) (show Cond.fieldLink RX8 321 "WheatCounts$Estate" "waiting" "LWheatCounts$Row;" ∈ _ by decide +kernel) rfl dX8_tell_25 ?_
    refine lv_iload_n hx hb dX8_tell_28 rfl (lv_at hl 1 rfl) ?_
    refine xr_Vv C hA G (kx4_add zl D ad sa cc tt X 11 v (show kR 11 by decide) hz.2) (show kR 11 by decide).2 (xR_c (show kR 11 by decide).1) rfl (cwV 1 C.2.2.2.2.1 gX8_tell_X4_add rfl rfl rfl (by decide +kernel) ⟨Nat.le_of_ble_eq_true rfl, Nat.le_of_ble_eq_true rfl⟩) rfl hl.1 rfl (Nat.le_of_ble_eq_true rfl) dX8_tell_29 ⟨Nat.le_refl _, Nat.le_refl _⟩ (fun H locs G => ?_)
    obtain ⟨X29, hX29⟩ : ∃ Z : xS, Z = x4_add X 11 v := ⟨_, rfl⟩
    have G : xG D ad sa cc tt zA zs.heap H locs X29 := by rw [hX29]; exact G
    rw [lt_e hX29] at hF
    refine lv_aload_n hx hb dX8_tell_32 rfl (lv_at hl 0 rfl) ?_
    refine xr_get C G (show kW 0 by decide).2 (xW_c (show kW 0 by decide).1) rfl (fun _ h => List.mem_cons_of_mem _ (List.mem_append_left _ (List.mem_append_left _ (List.mem_append_right _ h)))) 0 (by decide) (show Cond.fieldLink RX8 10 "WheatCounts" "estate" "LWheatCounts$Estate;" ∈ _ by decide +kernel) rfl dX8_tell_33 ?_
    refine xr_get C G (show kE 1 by decide).2 (xE_c (show kE 1 by decide).1) rfl (fun _ h => List.mem_cons_of_mem _ (List.mem_append_left _ (List.mem_append_right _ h))) 17 (by decide) (show Cond.fieldLink RX8 321 "WheatCounts$Estate" "waiting" "LWheatCounts$Row;" ∈ _ by decide +kernel) rfl dX8_tell_36 ?_
    refine xr_get C G (show kR 11 by decide).2 (xR_c (show kR 11 by decide).1) rfl (fun _ h => List.mem_cons_of_mem _ (List.mem_append_right _ h)) 1 (by decide) (show Cond.fieldLink RX8 156 "WheatCounts$Row" "size" "I" ∈ _ by decide +kernel) rfl dX8_tell_39 ?_
    exact hret _ _ _ _ _ _ hF G dX8_tell_42
  · rw [if_neg c12] at hF
    refine lv_aload_n hx hb dX8_tell_15 rfl (lv_at hl 0 rfl) ?_
    refine lv_iconst (v := 4) hx hb dX8_tell_16 (by decide) ?_
    obtain ⟨x17, X17, hx17⟩ : ∃ (Z : Int32) (Y : xS), (Z, Y) = x8_error X 4 := ⟨_, _, rfl⟩
    refine xr_Vi (r0 := x17) (X2 := X17) C hA G (by rw [hx17]; exact (kx8_error zl D ad sa cc tt X 4)) (show kW 0 by decide).2 (xW_c (show kW 0 by decide).1) rfl (cwV 1 C.2.2.2.2.1 gX8_tell_X8_error rfl rfl rfl (by decide +kernel) ⟨Nat.le_of_ble_eq_true rfl, Nat.le_of_ble_eq_true rfl⟩) rfl hl.1 rfl (Nat.le_of_ble_eq_true rfl) dX8_tell_17 ⟨Nat.le_refl _, Nat.le_refl _⟩ (fun H locs G => ?_)
    rw [lt2_e hx17] at hF
    exact hret _ _ _ _ _ _ hF G dX8_tell_20
set_option maxRecDepth 100000 in
set_option maxHeartbeats 4000000 in
theorem kx8_check (zl : Launch) (D : va_G) (ad sa : Nat → Nat) (cc : cT) (tt : tT) (X : xS) (hR : eR tt X 1) (hz : zR X 1) : xM zl D ad sa cc tt yX8_check wsX8_check ({ frames := 6, cells := 0, slots := 0, locals := 142 } : Room) [.ref (ad 0)] X (x8_check tt X) := by
  refine xM_of (code := cX8_check) (nL := 3) (own := RX8) (by decide) rfl rfl (Nat.le_of_ble_eq_true rfl) ?_
  intro zp ze zs zm zg zb zt zc zA zQ C hA hret H locs ls hl G
  have hx := C.1
  have hb := C.2.1
  have hl : lv_has ls 3 [(0, .ref (ad 0))] := hl
  obtain ⟨rM, hF⟩ : ∃ Z : Int32 × xS, Z = x8_check tt X := ⟨_, rfl⟩
  rw [← hF] at hret
  unfold x8_check at hF
  have hc := hR.1
  have hp := hR.2.1
  have ha := hR.2.2.1
  have ht := hR.2.2.2
  have hc2 := hc.2.1
  have hc3 := hc.2.2
  have hp2 := hp.2
  have hz2 := hz.2.2
  refine lv_iconst (v := 0) hx hb dX8_check_0 (by decide) ?_
  refine lv_istore_n (lv' := [(1, .int 0), (0, .ref (ad 0))]) hx hb dX8_check_1 rfl hl (by decide) rfl (fun ls hl => ?_)
  refine lv_aload_n hx hb dX8_check_2 rfl (lv_at hl 1 rfl) ?_
  refine xr_get C G (show kW 0 by decide).2 (xW_c (show kW 0 by decide).1) rfl (fun _ h => List.mem_cons_of_mem _ (List.mem_append_left _ (List.mem_append_left _ (List.mem_append_left _ (List.mem_append_right _ h))))) 1 (by decide) (show Cond.fieldLink RX8 16 "WheatCounts" "thought" "LWheatCounts$Estate;" ∈ _ by decide +kernel) rfl dX8_check_3 ?_
  refine lv_aload_n hx hb dX8_check_6 rfl (lv_at hl 1 rfl) ?_
  refine xr_get C G (show kW 0 by decide).2 (xW_c (show kW 0 by decide).1) rfl (fun _ h => List.mem_cons_of_mem _ (List.mem_append_left _ (List.mem_append_left _ (List.mem_append_left _ (List.mem_append_right _ h))))) 0 (by decide) (show Cond.fieldLink RX8 10 "WheatCounts" "estate" "LWheatCounts$Estate;" ∈ _ by decide +kernel) rfl dX8_check_7 ?_
  refine xr_Vv C hA G (kx0_takeOver zl D ad sa cc tt X 13 1 (show kE 13 by decide) (show kE 1 by decide) hz.1 hz.2 (by decide)) (show kE 13 by decide).2 (xE_c (show kE 13 by decide).1) rfl (cwV 1 C.2.2.2.2.1 gX8_check_X0_takeOver rfl rfl rfl (by decide +kernel) ⟨Nat.le_of_ble_eq_true rfl, Nat.le_of_ble_eq_true rfl⟩) rfl hl.1 rfl (Nat.le_of_ble_eq_true rfl) dX8_check_10 ⟨Nat.le_refl _, Nat.le_refl _⟩ (fun H locs G => ?_)
  obtain ⟨X10, hX10⟩ : ∃ Z : xS, Z = x0_takeOver X 13 1 := ⟨_, rfl⟩
  have G : xG D ad sa cc tt zA zs.heap H locs X10 := by rw [hX10]; exact G
  rw [lt_e hX10] at hF
  have hR10 : eR tt X10 13 := by rw [hX10, tk_e hz (by decide) (by decide) (by decide)]; exact tk_R hR (by decide)
  have hq10 : ∀ p, p < 13 → X10 p = X p := by rw [hX10, tk_e hz (by decide) (by decide) (by decide)]; intro p h; exact tk_out (Or.inl h)
  refine lv_iconst (v := 0) hx hb dX8_check_13 (by decide) ?_
  refine lv_istore_n (lv' := [(2, .int 0), (1, .int 0), (0, .ref (ad 0))]) hx hb dX8_check_14 rfl hl (by decide) rfl (fun ls hl => ?_)
  obtain ⟨kax, v1_15x, X15x, hX15⟩ : ∃ (kax : Nat) (v1_15x : Int32) (X15x : xS), (kax, v1_15x, X15x) = x8_check_L15 tt (vn (X 11 1) + 1) 0 0 X10 := ⟨_, _, _, rfl⟩
  rw [lt3_e hX15] at hF
  have hrest15 : ∀ (H : Heap) (locs : List Loc) (ls : Array Slot), lv_has ls 3 [(0, .ref (ad 0)), (1, .int v1_15x), (2, .int (nI kax))] → xG D ad sa cc tt zA zs.heap H locs X15x → W zp zl ze ({ frames := 6, cells := 0, slots := 0, locals := 142 } : Room) zs zm zg zb zt zc H locs 0 0 zQ (F0 zm 71 ls []) := by
    intro H locs ls hl G
    refine lv_aload_n hx hb dX8_check_71 rfl (lv_at hl 0 rfl) ?_
    refine xr_get C G (show kW 0 by decide).2 (xW_c (show kW 0 by decide).1) rfl (fun _ h => List.mem_cons_of_mem _ (List.mem_append_left _ (List.mem_append_left _ (List.mem_append_left _ (List.mem_append_right _ h))))) 0 (by decide) (show Cond.fieldLink RX8 10 "WheatCounts" "estate" "LWheatCounts$Estate;" ∈ _ by decide +kernel) rfl dX8_check_72 ?_
    refine xr_get C G (show kE 1 by decide).2 (xE_c (show kE 1 by decide).1) rfl (fun _ h => List.mem_cons_of_mem _ (List.mem_append_left _ (List.mem_append_left _ (List.mem_append_right _ h)))) 17 (by decide) (show Cond.fieldLink RX8 321 "WheatCounts$Estate" "waiting" "LWheatCounts$Row;" ∈ _ by decide +kernel) rfl dX8_check_75 ?_
    refine xr_Vv C hA G (kx4_clear zl D ad sa cc tt X15x 11 (show kR 11 by decide)) (show kR 11 by decide).2 (xR_c (show kR 11 by decide).1) rfl (cwV 0 C.2.2.2.2.1 gX8_check_X4_clear rfl rfl rfl (by decide +kernel) ⟨Nat.le_of_ble_eq_true rfl, Nat.le_of_ble_eq_true rfl⟩) rfl hl.1 rfl (Nat.le_of_ble_eq_true rfl) dX8_check_78 ⟨Nat.le_refl _, Nat.le_refl _⟩ (fun H locs G => ?_)
    obtain ⟨X78, hX78⟩ : ∃ Z : xS, Z = x4_clear X15x 11 := ⟨_, rfl⟩
    have G : xG D ad sa cc tt zA zs.heap H locs X78 := by rw [hX78]; exact G
    rw [lt_e hX78] at hF
    refine lv_iload_n hx hb dX8_check_81 rfl (lv_at hl 1 rfl) ?_
    exact hret _ _ _ _ _ _ hF G dX8_check_82
  have hloop15 : ∀ (f : Nat) (ka : Nat) (v1_15 : Int32) (X15 : xS), (ka ≤ vn (X 11 1) ∧ vn (X 11 1) < ka + f ∧ eR tt X15 13 ∧ (∀ p, p < 13 → X15 p = X p)) → (kax, v1_15x, X15x) = x8_check_L15 tt f ka v1_15 X15 → ∀ (H : Heap) (locs : List Loc) (ls : Array Slot), lv_has ls 3 [(0, .ref (ad 0)), (1, .int v1_15), (2, .int (nI ka))] → xG D ad sa cc tt zA zs.heap H locs X15 → W zp zl ze ({ frames := 6, cells := 0, slots := 0, locals := 142 } : Room) zs zm zg zb zt zc H locs 0 0 zQ (F0 zm 15 ls []) := by
    intro f
    induction f with
    | zero =>
      intro ka v1_15 X15 hI hL15 H locs ls hl G
      exact absurd hI.2.1 (by omega)
    | succ f ih =>
      intro ka v1_15 X15 hI hL15 H locs ls hl G
      rw [x8_check_L15_s] at hL15
      have hR15 := hI.2.2.1
      have hq15 := hI.2.2.2
      have hz3 : vn (X 11 1) ≤ 20 := hz.2.2
      refine lv_iload_n hx hb dX8_check_15 rfl (lv_at hl 2 rfl) ?_
      refine lv_aload_n hx hb dX8_check_16 rfl (lv_at hl 0 rfl) ?_
      refine xr_get C G (show kW 0 by decide).2 (xW_c (show kW 0 by decide).1) rfl (fun _ h => List.mem_cons_of_mem _ (List.mem_append_left _ (List.mem_append_left _ (List.mem_append_left _ (List.mem_append_right _ h))))) 0 (by decide) (show Cond.fieldLink RX8 10 "WheatCounts" "estate" "LWheatCounts$Estate;" ∈ _ by decide +kernel) rfl dX8_check_17 ?_
      refine xr_get C G (show kE 1 by decide).2 (xE_c (show kE 1 by decide).1) rfl (fun _ h => List.mem_cons_of_mem _ (List.mem_append_left _ (List.mem_append_left _ (List.mem_append_right _ h)))) 17 (by decide) (show Cond.fieldLink RX8 321 "WheatCounts$Estate" "waiting" "LWheatCounts$Row;" ∈ _ by decide +kernel) rfl dX8_check_20 ?_
      refine xr_get C G (show kR 11 by decide).2 (xR_c (show kR 11 by decide).1) rfl (fun _ h => List.mem_cons_of_mem _ (List.mem_append_left _ (List.mem_append_right _ h))) 1 (by decide) (show Cond.fieldLink RX8 156 "WheatCounts$Row" "size" "I" ∈ _ by decide +kernel) rfl dX8_check_23 ?_
      refine lv_icmp_ge (tgt := 71) hx hb dX8_check_26 (by decide) (fun c26 => ?_) (fun c26 => ?_)
      · rw [if_pos c26] at hL15
        cases hL15
        exact hrest15 _ _ _ (lv_sub hl [0, 1, 2] rfl) G
      · rw [if_neg c26] at hL15
        have hk9 := lp_lt (show X15 11 1 = nI (vn (X 11 1)) by rw [hq15 11 (by decide)]; exact hz.2.1) c26 (by show vn (X (1 + 10) 1) < _; omega) (by omega)
        refine lv_iload_n hx hb dX8_check_29 rfl (lv_at hl 1 rfl) ?_
        refine lv_if_ne (tgt := 71) hx hb dX8_check_30 (by decide) (fun c30 => ?_) (fun c30 => ?_)
        · rw [if_neg c30] at hL15
          cases hL15
          exact hrest15 _ _ _ (lv_sub hl [0, 1, 2] rfl) G
        · rw [if_pos c30] at hL15
          refine lv_aload_n hx hb dX8_check_33 rfl (lv_at hl 0 rfl) ?_
          refine xr_get C G (show kW 0 by decide).2 (xW_c (show kW 0 by decide).1) rfl (fun _ h => List.mem_cons_of_mem _ (List.mem_append_left _ (List.mem_append_left _ (List.mem_append_left _ (List.mem_append_right _ h))))) 1 (by decide) (show Cond.fieldLink RX8 16 "WheatCounts" "thought" "LWheatCounts$Estate;" ∈ _ by decide +kernel) rfl dX8_check_34 ?_
          refine xr_Vv C hA G (kx0_passHour zl D ad sa cc tt X15 13 (show kE 13 by decide) hR15) (show kE 13 by decide).2 (xE_c (show kE 13 by decide).1) rfl (cwV 0 C.2.2.2.2.1 gX8_check_X0_passHour rfl rfl rfl (by decide +kernel) ⟨Nat.le_of_ble_eq_true rfl, Nat.le_of_ble_eq_true rfl⟩) rfl hl.1 rfl (Nat.le_of_ble_eq_true rfl) dX8_check_37 ⟨Nat.le_refl _, Nat.le_refl _⟩ (fun H locs G => ?_)
          obtain ⟨X37, hX37⟩ : ∃ Z : xS, Z = x0_passHour tt X15 13 := ⟨_, rfl⟩
          have G : xG D ad sa cc tt zA zs.heap H locs X37 := by rw [hX37]; exact G
          rw [lt_e hX37] at hL15
          have hR37 : eR tt X37 13 := by rw [hX37]; exact (ph_R hR15).1
          have hq37 : ∀ p, p < 13 → X37 p = X p := by rw [hX37]; intro p h; rw [ph_out tt (Or.inl h)]; exact hq15 p h
          refine lv_aload_n hx hb dX8_check_40 rfl (lv_at hl 0 rfl) ?_
          refine xr_get C G (show kW 0 by decide).2 (xW_c (show kW 0 by decide).1) rfl (fun _ h => List.mem_cons_of_mem _ (List.mem_append_left _ (List.mem_append_left _ (List.mem_append_left _ (List.mem_append_right _ h))))) 1 (by decide) (show Cond.fieldLink RX8 16 "WheatCounts" "thought" "LWheatCounts$Estate;" ∈ _ by decide +kernel) rfl dX8_check_41 ?_
          refine xr_Vi C hA G (kx0_together zl D ad sa cc tt X37 13 (show kE 13 by decide) hR37.1) (show kE 13 by decide).2 (xE_c (show kE 13 by decide).1) rfl (cwV 0 C.2.2.2.2.1 gX8_check_X0_together rfl rfl rfl (by decide +kernel) ⟨Nat.le_of_ble_eq_true rfl, Nat.le_of_ble_eq_true rfl⟩) rfl hl.1 rfl (Nat.le_of_ble_eq_true rfl) dX8_check_44 ⟨Nat.le_refl _, Nat.le_refl _⟩ (fun H locs G => ?_)
          refine lv_aload_n hx hb dX8_check_47 rfl (lv_at hl 0 rfl) ?_
          refine xr_get C G (show kW 0 by decide).2 (xW_c (show kW 0 by decide).1) rfl (fun _ h => List.mem_cons_of_mem _ (List.mem_append_left _ (List.mem_append_left _ (List.mem_append_left _ (List.mem_append_right _ h))))) 0 (by decide) (show Cond.fieldLink RX8 10 "WheatCounts" "estate" "LWheatCounts$Estate;" ∈ _ by decide +kernel) rfl dX8_check_48 ?_
          refine xr_get C G (show kE 1 by decide).2 (xE_c (show kE 1 by decide).1) rfl (fun _ h => List.mem_cons_of_mem _ (List.mem_append_left _ (List.mem_append_left _ (List.mem_append_right _ h)))) 17 (by decide) (show Cond.fieldLink RX8 321 "WheatCounts$Estate" "waiting" "LWheatCounts$Row;" ∈ _ by decide +kernel) rfl dX8_check_51 ?_
          refine lv_iload_n hx hb dX8_check_54 rfl (lv_at hl 2 rfl) ?_
          refine xr_Vi C hA G (kx4_get zl D ad sa cc tt X37 11 (nI ka) (show kR 11 by decide) (by rw [hq37 11 (by decide)]; exact hz.2)) (show kR 11 by decide).2 (xR_c (show kR 11 by decide).1) rfl (cwV 1 C.2.2.2.2.1 gX8_check_X4_get rfl rfl rfl (by decide +kernel) ⟨Nat.le_of_ble_eq_true rfl, Nat.le_of_ble_eq_true rfl⟩) rfl hl.1 rfl (Nat.le_of_ble_eq_true rfl) dX8_check_55 ⟨Nat.le_refl _, Nat.le_refl _⟩ (fun H locs G => ?_)
          obtain ⟨z1_65, hX65⟩ : ∃ (z1_65 : Int32), z1_65 = ((if (x0_together X37 13) = (x4_get X37 11 (nI ka)) then v1_15 else nI (1 + ka)) : Int32) := ⟨_, rfl⟩
          rw [lt_e hX65] at hL15
          have hj65 : ∀ (H : Heap) (locs : List Loc) (ls : Array Slot), lv_has ls 3 [(0, .ref (ad 0)), (1, .int z1_65), (2, .int (nI ka))] → xG D ad sa cc tt zA zs.heap H locs X37 → W zp zl ze ({ frames := 6, cells := 0, slots := 0, locals := 142 } : Room) zs zm zg zb zt zc H locs 0 0 zQ (F0 zm 65 ls []) := by
            intro H locs ls hl G
            refine lv_iinc (v := nI (ka + 1)) (lv' := [(2, .int (nI (ka + 1))), (0, .ref (ad 0)), (1, .int z1_65)]) hx hb dX8_check_65 hl (k := 2) rfl (nt_add rfl (show (1 : Int32) = nI 1 from rfl)) (by decide) rfl (fun ls hl => ?_)
            refine lv_goto (tgt := 15) hx hb dX8_check_68 (by decide) ?_
            exact ih (ka + 1) z1_65 X37 ⟨by omega, by omega, hR37, hq37⟩ hL15 _ _ _ (lv_sub hl [1, 2, 0] rfl) G
          refine lv_icmp_eq (tgt := 65) hx hb dX8_check_58 (by decide) (fun c58 => ?_) (fun c58 => ?_)
          · rw [if_pos c58] at hX65
            subst hX65
            exact hj65 _ _ _ (lv_sub hl [0, 1, 2] rfl) G
          · rw [if_neg c58] at hX65
            refine lv_iconst (v := 1) hx hb dX8_check_61 (by decide) ?_
            refine lv_iload_n hx hb dX8_check_62 rfl (lv_at hl 2 rfl) ?_
            refine lv_iadd hx hb dX8_check_63 ?_
            refine lv_topi (fun x64 hx64 => ?_)
            obtain rfl : x64 = nI (1 + ka) := hx64.trans (nt_add rfl rfl)
            refine lv_istore_n (lv' := [(1, .int (nI (1 + ka))), (0, .ref (ad 0)), (2, .int (nI ka))]) hx hb dX8_check_64 rfl hl (by decide) rfl (fun ls hl => ?_)
            subst hX65
            exact hj65 _ _ _ (lv_sub hl [1, 0, 2] rfl) G
  exact hloop15 _ _ _ _ ⟨Nat.zero_le _, by omega, hR10, hq10⟩ hX15 _ _ _ (lv_sub hl [2, 1, 0] rfl) G
set_option maxRecDepth 100000 in
set_option maxHeartbeats 4000000 in
theorem kx8_count (zl : Launch) (D : va_G) (ad sa : Nat → Nat) (cc : cT) (tt : tT) (X : xS) (what : Int32) (hc : eC X 1) : xM zl D ad sa cc tt yX8_count wsX8_count ({ frames := 3, cells := 0, slots := 0, locals := 64 } : Room) [.ref (ad 0), .int what] X (x8_count X what) := by
  refine xM_of (code := cX8_count) (nL := 2) (own := RX8) (by decide) rfl rfl (Nat.le_of_ble_eq_true rfl) ?_
  intro zp ze zs zm zg zb zt zc zA zQ C hA hret H locs ls hl G
  have hx := C.1
  have hb := C.2.1
  have hl : lv_has ls 2 [(0, .ref (ad 0)), (1, .int what)] := hl
  obtain ⟨rM, hF⟩ : ∃ Z : Int32 × xS, Z = x8_count X what := ⟨_, rfl⟩
  rw [← hF] at hret
  unfold x8_count at hF
  refine lv_iload_n hx hb dX8_count_0 rfl (lv_at hl 1 rfl) ?_
  by_cases c1_0 : what = 0
  · rw [if_pos c1_0] at hF
    refine lv_tableIn (off := 63) (tgt := 64) hx hb dX8_count_1 (by rw [c1_0]; decide) (by rw [c1_0]; decide) (by rw [c1_0]; rfl) (by decide) ?_
    refine lv_aload_n hx hb dX8_count_64 rfl (lv_at hl 0 rfl) ?_
    refine xr_get C G (show kW 0 by decide).2 (xW_c (show kW 0 by decide).1) rfl (fun _ h => List.mem_cons_of_mem _ (List.mem_append_left _ (List.mem_append_left _ (List.mem_append_left _ (List.mem_append_right _ h))))) 0 (by decide) (show Cond.fieldLink RX8 10 "WheatCounts" "estate" "LWheatCounts$Estate;" ∈ _ by decide +kernel) rfl dX8_count_65 ?_
    refine xr_get C G (show kE 1 by decide).2 (xE_c (show kE 1 by decide).1) rfl (fun _ h => List.mem_cons_of_mem _ (List.mem_append_left _ (List.mem_append_left _ (List.mem_append_right _ h)))) 0 (by decide) (show Cond.fieldLink RX8 72 "WheatCounts$Estate" "cells" "I" ∈ _ by decide +kernel) rfl dX8_count_68 ?_
    exact hret _ _ _ _ _ _ hF G dX8_count_71
  · rw [if_neg c1_0] at hF
    by_cases c1_1 : what = 1
    · rw [if_pos c1_1] at hF
      refine lv_tableIn (off := 71) (tgt := 72) hx hb dX8_count_1 (by rw [c1_1]; decide) (by rw [c1_1]; decide) (by rw [c1_1]; rfl) (by decide) ?_
      refine lv_aload_n hx hb dX8_count_72 rfl (lv_at hl 0 rfl) ?_
      refine xr_get C G (show kW 0 by decide).2 (xW_c (show kW 0 by decide).1) rfl (fun _ h => List.mem_cons_of_mem _ (List.mem_append_left _ (List.mem_append_left _ (List.mem_append_left _ (List.mem_append_right _ h))))) 0 (by decide) (show Cond.fieldLink RX8 10 "WheatCounts" "estate" "LWheatCounts$Estate;" ∈ _ by decide +kernel) rfl dX8_count_73 ?_
      refine xr_get C G (show kE 1 by decide).2 (xE_c (show kE 1 by decide).1) rfl (fun _ h => List.mem_cons_of_mem _ (List.mem_append_left _ (List.mem_append_left _ (List.mem_append_right _ h)))) 9 (by decide) (show Cond.fieldLink RX8 68 "WheatCounts$Estate" "people" "I" ∈ _ by decide +kernel) rfl dX8_count_76 ?_
      exact hret _ _ _ _ _ _ hF G dX8_count_79
    · rw [if_neg c1_1] at hF
      by_cases c1_2 : what = 2
      · rw [if_pos c1_2] at hF
        refine lv_tableIn (off := 79) (tgt := 80) hx hb dX8_count_1 (by rw [c1_2]; decide) (by rw [c1_2]; decide) (by rw [c1_2]; rfl) (by decide) ?_
        refine lv_aload_n hx hb dX8_count_80 rfl (lv_at hl 0 rfl) ?_
        refine xr_get C G (show kW 0 by decide).2 (xW_c (show kW 0 by decide).1) rfl (fun _ h => List.mem_cons_of_mem _ (List.mem_append_left _ (List.mem_append_left _ (List.mem_append_left _ (List.mem_append_right _ h))))) 0 (by decide) (show Cond.fieldLink RX8 10 "WheatCounts" "estate" "LWheatCounts$Estate;" ∈ _ by decide +kernel) rfl dX8_count_81 ?_
        refine xr_get C G (show kE 1 by decide).2 (xE_c (show kE 1 by decide).1) rfl (fun _ h => List.mem_cons_of_mem _ (List.mem_append_left _ (List.mem_append_left _ (List.mem_append_right _ h)))) 7 (by decide) (show Cond.fieldLink RX8 130 "WheatCounts$Estate" "hour" "I" ∈ _ by decide +kernel) rfl dX8_count_84 ?_
        exact hret _ _ _ _ _ _ hF G dX8_count_87
      · rw [if_neg c1_2] at hF
        by_cases c1_3 : what = 3
        · rw [if_pos c1_3] at hF
          refine lv_tableIn (off := 87) (tgt := 88) hx hb dX8_count_1 (by rw [c1_3]; decide) (by rw [c1_3]; decide) (by rw [c1_3]; rfl) (by decide) ?_
          refine lv_aload_n hx hb dX8_count_88 rfl (lv_at hl 0 rfl) ?_
          refine xr_get C G (show kW 0 by decide).2 (xW_c (show kW 0 by decide).1) rfl (fun _ h => List.mem_cons_of_mem _ (List.mem_append_left _ (List.mem_append_left _ (List.mem_append_left _ (List.mem_append_right _ h))))) 0 (by decide) (show Cond.fieldLink RX8 10 "WheatCounts" "estate" "LWheatCounts$Estate;" ∈ _ by decide +kernel) rfl dX8_count_89 ?_
          refine xr_get C G (show kE 1 by decide).2 (xE_c (show kE 1 by decide).1) rfl (fun _ h => List.mem_cons_of_mem _ (List.mem_append_left _ (List.mem_append_left _ (List.mem_append_right _ h)))) 4 (by decide) (show Cond.fieldLink RX8 99 "WheatCounts$Estate" "hedges" "I" ∈ _ by decide +kernel) rfl dX8_count_92 ?_
          exact hret _ _ _ _ _ _ hF G dX8_count_95
        · rw [if_neg c1_3] at hF
          by_cases c1_4 : what = 4
          · rw [if_pos c1_4] at hF
            refine lv_tableIn (off := 95) (tgt := 96) hx hb dX8_count_1 (by rw [c1_4]; decide) (by rw [c1_4]; decide) (by rw [c1_4]; rfl) (by decide) ?_
            refine lv_aload_n hx hb dX8_count_96 rfl (lv_at hl 0 rfl) ?_
            refine xr_get C G (show kW 0 by decide).2 (xW_c (show kW 0 by decide).1) rfl (fun _ h => List.mem_cons_of_mem _ (List.mem_append_left _ (List.mem_append_left _ (List.mem_append_left _ (List.mem_append_right _ h))))) 0 (by decide) (show Cond.fieldLink RX8 10 "WheatCounts" "estate" "LWheatCounts$Estate;" ∈ _ by decide +kernel) rfl dX8_count_97 ?_
            refine xr_get C G (show kE 1 by decide).2 (xE_c (show kE 1 by decide).1) rfl (fun _ h => List.mem_cons_of_mem _ (List.mem_append_left _ (List.mem_append_left _ (List.mem_append_right _ h)))) 5 (by decide) (show Cond.fieldLink RX8 102 "WheatCounts$Estate" "lean" "I" ∈ _ by decide +kernel) rfl dX8_count_100 ?_
            exact hret _ _ _ _ _ _ hF G dX8_count_103
          · rw [if_neg c1_4] at hF
            by_cases c1_5 : what = 5
            · rw [if_pos c1_5] at hF
              refine lv_tableIn (off := 103) (tgt := 104) hx hb dX8_count_1 (by rw [c1_5]; decide) (by rw [c1_5]; decide) (by rw [c1_5]; rfl) (by decide) ?_
              refine lv_aload_n hx hb dX8_count_104 rfl (lv_at hl 0 rfl) ?_
              refine xr_get C G (show kW 0 by decide).2 (xW_c (show kW 0 by decide).1) rfl (fun _ h => List.mem_cons_of_mem _ (List.mem_append_left _ (List.mem_append_left _ (List.mem_append_left _ (List.mem_append_right _ h))))) 0 (by decide) (show Cond.fieldLink RX8 10 "WheatCounts" "estate" "LWheatCounts$Estate;" ∈ _ by decide +kernel) rfl dX8_count_105 ?_
              refine xr_get C G (show kE 1 by decide).2 (xE_c (show kE 1 by decide).1) rfl (fun _ h => List.mem_cons_of_mem _ (List.mem_append_left _ (List.mem_append_left _ (List.mem_append_right _ h)))) 6 (by decide) (show Cond.fieldLink RX8 105 "WheatCounts$Estate" "fog" "I" ∈ _ by decide +kernel) rfl dX8_count_108 ?_
              exact hret _ _ _ _ _ _ hF G dX8_count_111
            · rw [if_neg c1_5] at hF
              by_cases c1_6 : what = 6
              · rw [if_pos c1_6] at hF
                refine lv_tableIn (off := 111) (tgt := 112) hx hb dX8_count_1 (by rw [c1_6]; decide) (by rw [c1_6]; decide) (by rw [c1_6]; rfl) (by decide) ?_
                refine lv_aload_n hx hb dX8_count_112 rfl (lv_at hl 0 rfl) ?_
                refine xr_get C G (show kW 0 by decide).2 (xW_c (show kW 0 by decide).1) rfl (fun _ h => List.mem_cons_of_mem _ (List.mem_append_left _ (List.mem_append_left _ (List.mem_append_left _ (List.mem_append_right _ h))))) 0 (by decide) (show Cond.fieldLink RX8 10 "WheatCounts" "estate" "LWheatCounts$Estate;" ∈ _ by decide +kernel) rfl dX8_count_113 ?_
                refine xr_get C G (show kE 1 by decide).2 (xE_c (show kE 1 by decide).1) rfl (fun _ h => List.mem_cons_of_mem _ (List.mem_append_left _ (List.mem_append_left _ (List.mem_append_right _ h)))) 8 (by decide) (show Cond.fieldLink RX8 214 "WheatCounts$Estate" "stolen" "I" ∈ _ by decide +kernel) rfl dX8_count_116 ?_
                exact hret _ _ _ _ _ _ hF G dX8_count_119
              · rw [if_neg c1_6] at hF
                by_cases c1_7 : what = 7
                · rw [if_pos c1_7] at hF
                  refine lv_tableIn (off := 119) (tgt := 120) hx hb dX8_count_1 (by rw [c1_7]; decide) (by rw [c1_7]; decide) (by rw [c1_7]; rfl) (by decide) ?_
                  refine lv_aload_n hx hb dX8_count_120 rfl (lv_at hl 0 rfl) ?_
                  refine xr_get C G (show kW 0 by decide).2 (xW_c (show kW 0 by decide).1) rfl (fun _ h => List.mem_cons_of_mem _ (List.mem_append_left _ (List.mem_append_left _ (List.mem_append_left _ (List.mem_append_right _ h))))) 0 (by decide) (show Cond.fieldLink RX8 10 "WheatCounts" "estate" "LWheatCounts$Estate;" ∈ _ by decide +kernel) rfl dX8_count_121 ?_
                  refine xr_Vi C hA G (kx0_together zl D ad sa cc tt X 1 (show kE 1 by decide) hc) (show kE 1 by decide).2 (xE_c (show kE 1 by decide).1) rfl (cwV 0 C.2.2.2.2.1 gX8_count_X0_together rfl rfl rfl (by decide +kernel) ⟨Nat.le_of_ble_eq_true rfl, Nat.le_of_ble_eq_true rfl⟩) rfl hl.1 rfl (Nat.le_of_ble_eq_true rfl) dX8_count_124 ⟨Nat.le_refl _, Nat.le_refl _⟩ (fun H locs G => ?_)
                  exact hret _ _ _ _ _ _ hF G dX8_count_127
                · rw [if_neg c1_7] at hF
                  by_cases c1_8 : what = 8
                  · rw [if_pos c1_8] at hF
                    refine lv_tableIn (off := 127) (tgt := 128) hx hb dX8_count_1 (by rw [c1_8]; decide) (by rw [c1_8]; decide) (by rw [c1_8]; rfl) (by decide) ?_
                    refine lv_aload_n hx hb dX8_count_128 rfl (lv_at hl 0 rfl) ?_
                    refine xr_get C G (show kW 0 by decide).2 (xW_c (show kW 0 by decide).1) rfl (fun _ h => List.mem_cons_of_mem _ (List.mem_append_left _ (List.mem_append_left _ (List.mem_append_left _ (List.mem_append_right _ h))))) 0 (by decide) (show Cond.fieldLink RX8 10 "WheatCounts" "estate" "LWheatCounts$Estate;" ∈ _ by decide +kernel) rfl dX8_count_129 ?_
                    refine xr_get C G (show kE 1 by decide).2 (xE_c (show kE 1 by decide).1) rfl (fun _ h => List.mem_cons_of_mem _ (List.mem_append_left _ (List.mem_append_left _ (List.mem_append_right _ h)))) 16 (by decide) (show Cond.fieldLink RX8 152 "WheatCounts$Estate" "tape" "LWheatCounts$Row;" ∈ _ by decide +kernel) rfl dX8_count_132 ?_
                    refine xr_get C G (show kR 9 by decide).2 (xR_c (show kR 9 by decide).1) rfl (fun _ h => List.mem_cons_of_mem _ (List.mem_append_left _ (List.mem_append_right _ h))) 1 (by decide) (show Cond.fieldLink RX8 156 "WheatCounts$Row" "size" "I" ∈ _ by decide +kernel) rfl dX8_count_135 ?_
                    exact hret _ _ _ _ _ _ hF G dX8_count_138
                  · rw [if_neg c1_8] at hF
                    by_cases c1_9 : what = 9
                    · rw [if_pos c1_9] at hF
                      refine lv_tableIn (off := 138) (tgt := 139) hx hb dX8_count_1 (by rw [c1_9]; decide) (by rw [c1_9]; decide) (by rw [c1_9]; rfl) (by decide) ?_
                      refine lv_aload_n hx hb dX8_count_139 rfl (lv_at hl 0 rfl) ?_
                      refine xr_get C G (show kW 0 by decide).2 (xW_c (show kW 0 by decide).1) rfl (fun _ h => List.mem_cons_of_mem _ (List.mem_append_left _ (List.mem_append_left _ (List.mem_append_left _ (List.mem_append_right _ h))))) 0 (by decide) (show Cond.fieldLink RX8 10 "WheatCounts" "estate" "LWheatCounts$Estate;" ∈ _ by decide +kernel) rfl dX8_count_140 ?_
                      refine xr_get C G (show kE 1 by decide).2 (xE_c (show kE 1 by decide).1) rfl (fun _ h => List.mem_cons_of_mem _ (List.mem_append_left _ (List.mem_append_left _ (List.mem_append_right _ h)))) 17 (by decide) (show Cond.fieldLink RX8 321 "WheatCounts$Estate" "waiting" "LWheatCounts$Row;" ∈ _ by decide +kernel) rfl dX8_count_143 ?_
                      refine xr_get C G (show kR 11 by decide).2 (xR_c (show kR 11 by decide).1) rfl (fun _ h => List.mem_cons_of_mem _ (List.mem_append_left _ (List.mem_append_right _ h))) 1 (by decide) (show Cond.fieldLink RX8 156 "WheatCounts$Row" "size" "I" ∈ _ by decide +kernel) rfl dX8_count_146 ?_
                      exact hret _ _ _ _ _ _ hF G dX8_count_149
                    · rw [if_neg c1_9] at hF
                      by_cases c1_10 : what = 10
                      · rw [if_pos c1_10] at hF
                        refine lv_tableIn (off := 149) (tgt := 150) hx hb dX8_count_1 (by rw [c1_10]; decide) (by rw [c1_10]; decide) (by rw [c1_10]; rfl) (by decide) ?_
                        refine lv_aload_n hx hb dX8_count_150 rfl (lv_at hl 0 rfl) ?_
                        refine xr_get C G (show kW 0 by decide).2 (xW_c (show kW 0 by decide).1) rfl (fun _ h => List.mem_cons_of_mem _ (List.mem_append_left _ (List.mem_append_left _ (List.mem_append_left _ (List.mem_append_right _ h))))) 6 (by decide) (show Cond.fieldLink RX8 39 "WheatCounts" "voices" "LWheatCounts$Voices;" ∈ _ by decide +kernel) rfl dX8_count_151 ?_
                        refine xr_get C G (show kV 47 by decide).2 (xV_c (show kV 47 by decide).1) rfl (fun _ h => List.mem_cons_of_mem _ (List.mem_append_right _ h)) 0 (by decide) (show Cond.fieldLink RX8 292 "WheatCounts$Voices" "bodies" "LWheatCounts$Row;" ∈ _ by decide +kernel) rfl dX8_count_154 ?_
                        refine xr_get C G (show kR 48 by decide).2 (xR_c (show kR 48 by decide).1) rfl (fun _ h => List.mem_cons_of_mem _ (List.mem_append_left _ (List.mem_append_right _ h))) 1 (by decide) (show Cond.fieldLink RX8 156 "WheatCounts$Row" "size" "I" ∈ _ by decide +kernel) rfl dX8_count_157 ?_
                        exact hret _ _ _ _ _ _ hF G dX8_count_160
                      · rw [if_neg c1_10] at hF
                        by_cases c1_11 : what = 11
                        · rw [if_pos c1_11] at hF
                          refine lv_tableIn (off := 160) (tgt := 161) hx hb dX8_count_1 (by rw [c1_11]; decide) (by rw [c1_11]; decide) (by rw [c1_11]; rfl) (by decide) ?_
                          refine lv_aload_n hx hb dX8_count_161 rfl (lv_at hl 0 rfl) ?_
                          refine xr_get C G (show kW 0 by decide).2 (xW_c (show kW 0 by decide).1) rfl (fun _ h => List.mem_cons_of_mem _ (List.mem_append_left _ (List.mem_append_left _ (List.mem_append_left _ (List.mem_append_right _ h))))) 0 (by decide) (show Cond.fieldLink RX8 10 "WheatCounts" "estate" "LWheatCounts$Estate;" ∈ _ by decide +kernel) rfl dX8_count_162 ?_
                          refine xr_get C G (show kE 1 by decide).2 (xE_c (show kE 1 by decide).1) rfl (fun _ h => List.mem_cons_of_mem _ (List.mem_append_left _ (List.mem_append_left _ (List.mem_append_right _ h)))) 18 (by decide) (show Cond.fieldLink RX8 282 "WheatCounts$Estate" "z" "I" ∈ _ by decide +kernel) rfl dX8_count_165 ?_
                          exact hret _ _ _ _ _ _ hF G dX8_count_168
                        · rw [if_neg c1_11] at hF
                          refine lv_tableOut (tgt := 169) hx hb dX8_count_1 (sw_out (fun i h1 h2 => by rcases (show i = 0 ∨ i = 1 ∨ i = 2 ∨ i = 3 ∨ i = 4 ∨ i = 5 ∨ i = 6 ∨ i = 7 ∨ i = 8 ∨ i = 9 ∨ i = 10 ∨ i = 11 by omega) with rfl | rfl | rfl | rfl | rfl | rfl | rfl | rfl | rfl | rfl | rfl | rfl <;> first | exact fun e9 => c1_0 (Int32.toInt_inj.mp e9) | exact fun e9 => c1_1 (Int32.toInt_inj.mp e9) | exact fun e9 => c1_2 (Int32.toInt_inj.mp e9) | exact fun e9 => c1_3 (Int32.toInt_inj.mp e9) | exact fun e9 => c1_4 (Int32.toInt_inj.mp e9) | exact fun e9 => c1_5 (Int32.toInt_inj.mp e9) | exact fun e9 => c1_6 (Int32.toInt_inj.mp e9) | exact fun e9 => c1_7 (Int32.toInt_inj.mp e9) | exact fun e9 => c1_8 (Int32.toInt_inj.mp e9) | exact fun e9 => c1_9 (Int32.toInt_inj.mp e9) | exact fun e9 => c1_10 (Int32.toInt_inj.mp e9) | exact fun e9 => c1_11 (Int32.toInt_inj.mp e9))) (by decide) ?_
                          refine lv_aload_n hx hb dX8_count_169 rfl (lv_at hl 0 rfl) ?_
                          refine lv_iconst (v := 1) hx hb dX8_count_170 (by decide) ?_
                          obtain ⟨x171, X171, hx171⟩ : ∃ (Z : Int32) (Y : xS), (Z, Y) = x8_error X 1 := ⟨_, _, rfl⟩
                          refine xr_Vi (r0 := x171) (X2 := X171) C hA G (by rw [hx171]; exact (kx8_error zl D ad sa cc tt X 1)) (show kW 0 by decide).2 (xW_c (show kW 0 by decide).1) rfl (cwV 1 C.2.2.2.2.1 gX8_count_X8_error rfl rfl rfl (by decide +kernel) ⟨Nat.le_of_ble_eq_true rfl, Nat.le_of_ble_eq_true rfl⟩) rfl hl.1 rfl (Nat.le_of_ble_eq_true rfl) dX8_count_171 ⟨Nat.le_refl _, Nat.le_refl _⟩ (fun H locs G => ?_)
                          rw [lt2_e hx171] at hF
                          exact hret _ _ _ _ _ _ hF G dX8_count_174
set_option maxRecDepth 100000 in
set_option maxHeartbeats 4000000 in
theorem kx8_told (zl : Launch) (D : va_G) (ad sa : Nat → Nat) (cc : cT) (tt : tT) (X : xS) (k : Int32) : xM zl D ad sa cc tt yX8_told wsX8_told ({ frames := 2, cells := 0, slots := 0, locals := 43 } : Room) [.ref (ad 0), .int k] X (x8_told X k) := by
  refine xM_of (code := cX8_told) (nL := 2) (own := RX8) (by decide) rfl rfl (Nat.le_of_ble_eq_true rfl) ?_
  intro zp ze zs zm zg zb zt zc zA zQ C hA hret H locs ls hl G
  have hx := C.1
  have hb := C.2.1
  have hl : lv_has ls 2 [(0, .ref (ad 0)), (1, .int k)] := hl
  obtain ⟨rM, hF⟩ : ∃ Z : Int32 × xS, Z = x8_told X k := ⟨_, rfl⟩
  rw [← hF] at hret
  unfold x8_told at hF
  refine lv_iload_n hx hb dX8_told_0 rfl (lv_at hl 1 rfl) ?_
  refine lv_iconst (v := 1) hx hb dX8_told_1 (by decide) ?_
  refine lv_iconst (v := 5) hx hb dX8_told_2 (by decide) ?_
  refine xr_ps C hA G (ks_X8_within zl k 1 5) (va_cwS 3 C.2.2.2.2.1 gX8_told_X8_within rfl rfl rfl (by decide +kernel) ⟨Nat.le_of_ble_eq_true rfl, Nat.le_of_ble_eq_true rfl⟩) rfl hl.1 rfl (Nat.le_of_ble_eq_true rfl) dX8_told_3 ⟨Nat.le_refl _, Nat.le_refl _⟩ (fun H locs G => ?_)
  refine lv_if_ne (tgt := 15) hx hb dX8_told_6 (by decide) (fun c6 => ?_) (fun c6 => ?_)
  · rw [if_neg c6] at hF
    have k9 := in_natq (n := 5) c6 rfl (by decide) (by decide)
    have k92 := k9.2
    refine lv_aload_n hx hb dX8_told_15 rfl (lv_at hl 0 rfl) ?_
    refine xr_get C G (show kW 0 by decide).2 (xW_c (show kW 0 by decide).1) rfl (fun _ h => List.mem_cons_of_mem _ (List.mem_append_right _ h)) 10 (by decide) (show Cond.fieldLink RX8 57 "WheatCounts" "errors" "[I" ∈ _ by decide +kernel) rfl dX8_told_16 ?_
    refine lv_iload_n hx hb dX8_told_19 rfl (lv_at hl 1 rfl) ?_
    refine xr_ald C G (show kI 61 6 by decide).2 (xI_c (show kI 61 6 by decide).1 _) (vn k) k9.1 (by omega) (xI_lt (show kI 61 6 by decide)) dX8_told_20 ?_
    exact hret _ _ _ _ _ _ hF G dX8_told_21
  · rw [if_pos c6] at hF
    refine lv_aload_n hx hb dX8_told_9 rfl (lv_at hl 0 rfl) ?_
    refine lv_iconst (v := 1) hx hb dX8_told_10 (by decide) ?_
    obtain ⟨x11, X11, hx11⟩ : ∃ (Z : Int32) (Y : xS), (Z, Y) = x8_error X 1 := ⟨_, _, rfl⟩
    refine xr_Vi (r0 := x11) (X2 := X11) C hA G (by rw [hx11]; exact (kx8_error zl D ad sa cc tt X 1)) (show kW 0 by decide).2 (xW_c (show kW 0 by decide).1) rfl (cwV 1 C.2.2.2.2.1 gX8_told_X8_error rfl rfl rfl (by decide +kernel) ⟨Nat.le_of_ble_eq_true rfl, Nat.le_of_ble_eq_true rfl⟩) rfl hl.1 rfl (Nat.le_of_ble_eq_true rfl) dX8_told_11 ⟨Nat.le_refl _, Nat.le_refl _⟩ (fun H locs G => ?_)
    rw [lt2_e hx11] at hF
    exact hret _ _ _ _ _ _ hF G dX8_told_14
set_option maxRecDepth 100000 in
set_option maxHeartbeats 4000000 in
theorem kx8_feed (zl : Launch) (D : va_G) (ad sa : Nat → Nat) (cc : cT) (tt : tT) (X : xS) (word : Int64) (n : Int32) (hz : zR X 1) : xM zl D ad sa cc tt yX8_feed wsX8_feed ({ frames := 2, cells := 0, slots := 0, locals := 43 } : Room) [.ref (ad 0), .long word, .int n] X (x8_feed X word n) := by
  refine xM_of (code := cX8_feed) (nL := 5) (own := RX8) (by decide) rfl rfl (Nat.le_of_ble_eq_true rfl) ?_
  intro zp ze zs zm zg zb zt zc zA zQ C hA hret H locs ls hl G
  have hx := C.1
  have hb := C.2.1
  have hl : lv_has ls 5 [(0, .ref (ad 0)), (1, .long word), (3, .int n)] := hl
  obtain ⟨rM, hF⟩ : ∃ Z : Int32 × xS, Z = x8_feed X word n := ⟨_, rfl⟩
  rw [← hF] at hret
  unfold x8_feed at hF
  have hz1 := hz.1.1
  have hz2 : vn (X 9 1) ≤ 50 := hz.1.2
  refine lv_iload_n hx hb dX8_feed_0 rfl (lv_at hl 2 rfl) ?_
  refine lv_iconst (v := 1) hx hb dX8_feed_1 (by decide) ?_
  refine lv_bipush (v := 8) hx hb dX8_feed_2 (by decide) ?_
  refine xr_ps C hA G (ks_X8_within zl n 1 8) (va_cwS 3 C.2.2.2.2.1 gX8_feed_X8_within rfl rfl rfl (by decide +kernel) ⟨Nat.le_of_ble_eq_true rfl, Nat.le_of_ble_eq_true rfl⟩) rfl hl.1 rfl (Nat.le_of_ble_eq_true rfl) dX8_feed_4 ⟨Nat.le_refl _, Nat.le_refl _⟩ (fun H locs G => ?_)
  refine lv_if_ne (tgt := 16) hx hb dX8_feed_7 (by decide) (fun c7 => ?_) (fun c7 => ?_)
  · rw [if_neg c7] at hF
    have n9 := in_natq (n := 8) c7 rfl (by decide) (by decide)
    have n92 := n9.2
    refine lv_aload_n hx hb dX8_feed_16 rfl (lv_at hl 0 rfl) ?_
    refine xr_get C G (show kW 0 by decide).2 (xW_c (show kW 0 by decide).1) rfl (fun _ h => List.mem_cons_of_mem _ (List.mem_append_left _ (List.mem_append_left _ (List.mem_append_right _ h)))) 0 (by decide) (show Cond.fieldLink RX8 10 "WheatCounts" "estate" "LWheatCounts$Estate;" ∈ _ by decide +kernel) rfl dX8_feed_17 ?_
    refine xr_get C G (show kE 1 by decide).2 (xE_c (show kE 1 by decide).1) rfl (fun _ h => List.mem_cons_of_mem _ (List.mem_append_left _ (List.mem_append_right _ h))) 16 (by decide) (show Cond.fieldLink RX8 152 "WheatCounts$Estate" "tape" "LWheatCounts$Row;" ∈ _ by decide +kernel) rfl dX8_feed_20 ?_
    refine xr_get C G (show kR 9 by decide).2 (xR_c (show kR 9 by decide).1) rfl (fun _ h => List.mem_cons_of_mem _ (List.mem_append_right _ h)) 1 (by decide) (show Cond.fieldLink RX8 156 "WheatCounts$Row" "size" "I" ∈ _ by decide +kernel) rfl dX8_feed_23 ?_
    refine lv_iload_n hx hb dX8_feed_26 rfl (lv_at hl 2 rfl) ?_
    refine lv_iadd hx hb dX8_feed_27 ?_
    refine lv_bipush (v := 50) hx hb dX8_feed_28 (by decide) ?_
    refine lv_icmp_le (tgt := 39) hx hb dX8_feed_30 (by decide) (fun c30 => ?_) (fun c30 => ?_)
    · rw [if_pos c30] at hF
      have ht5 := fd_b (t := vn (X 9 1)) hz1 hz2 n9.1 n92 c30
      refine lv_iconst (v := 0) hx hb dX8_feed_39 (by decide) ?_
      refine lv_istore (lv' := [(4, .int 0), (0, .ref (ad 0)), (1, .long word), (3, .int n)]) hx hb dX8_feed_40 hl (by decide) rfl (fun ls hl => ?_)
      obtain ⟨X42x, hX42⟩ : ∃ (X42x : xS), X42x = x8_feed_L42 X word (vn n) := ⟨_, rfl⟩
      rw [lt_e hX42] at hF
      have hrest42 : ∀ (H : Heap) (locs : List Loc) (ls : Array Slot), lv_has ls 5 [(0, .ref (ad 0)), (1, .long word), (3, .int n), (4, .int (nI (vn n)))] → xG D ad sa cc tt zA zs.heap H locs X42x → W zp zl ze ({ frames := 2, cells := 0, slots := 0, locals := 43 } : Room) zs zm zg zb zt zc H locs 0 0 zQ (F0 zm 76 ls []) := by
        intro H locs ls hl G
        refine lv_aload_n hx hb dX8_feed_76 rfl (lv_at hl 0 rfl) ?_
        refine xr_get C G (show kW 0 by decide).2 (xW_c (show kW 0 by decide).1) rfl (fun _ h => List.mem_cons_of_mem _ (List.mem_append_left _ (List.mem_append_left _ (List.mem_append_right _ h)))) 0 (by decide) (show Cond.fieldLink RX8 10 "WheatCounts" "estate" "LWheatCounts$Estate;" ∈ _ by decide +kernel) rfl dX8_feed_77 ?_
        refine xr_get C G (show kE 1 by decide).2 (xE_c (show kE 1 by decide).1) rfl (fun _ h => List.mem_cons_of_mem _ (List.mem_append_left _ (List.mem_append_right _ h))) 16 (by decide) (show Cond.fieldLink RX8 152 "WheatCounts$Estate" "tape" "LWheatCounts$Row;" ∈ _ by decide +kernel) rfl dX8_feed_80 ?_
        refine xr_get C G (show kR 9 by decide).2 (xR_c (show kR 9 by decide).1) rfl (fun _ h => List.mem_cons_of_mem _ (List.mem_append_right _ h)) 1 (by decide) (show Cond.fieldLink RX8 156 "WheatCounts$Row" "size" "I" ∈ _ by decide +kernel) rfl dX8_feed_83 ?_
        exact hret _ _ _ _ _ _ hF G dX8_feed_86
      have hloop42 : ∀ (zj k42 : Nat), zj + k42 = (vn n) → ∀ (X42 : xS), X42 = x8_feed_L42 X word k42 → ∀ (H : Heap) (locs : List Loc) (ls : Array Slot), lv_has ls 5 [(0, .ref (ad 0)), (1, .long word), (3, .int n), (4, .int (nI k42))] → xG D ad sa cc tt zA zs.heap H locs X42 → W zp zl ze ({ frames := 2, cells := 0, slots := 0, locals := 43 } : Room) zs zm zg zb zt zc H locs 0 0 zQ (F0 zm 42 ls []) := by
        intro zj
        induction zj with
        | zero =>
          intro k42 hk X42 hL H locs ls hl G
          have hk : k42 = (vn n) := by omega
          rw [hk] at hL hl
          refine lv_iload hx hb dX8_feed_42 (lv_at hl 3 rfl) ?_
          refine lv_iload_n hx hb dX8_feed_44 rfl (lv_at hl 2 rfl) ?_
          refine lv_icmp_ge (tgt := 76) hx hb dX8_feed_45 (by decide) (fun c45 => ?_) (fun c45 => absurd (lp_out (n := (vn n)) n9.1) c45)
          obtain rfl := hL.trans hX42.symm
          exact hrest42 _ _ _ (lv_sub hl [0, 1, 2, 3] rfl) G
        | succ zj ih =>
          intro k42 hk X42 hL H locs ls hl G
          have hkn : k42 < (vn n) := by omega
          obtain ⟨X42s, hS0⟩ : ∃ (X42s : xS), X42s = x8_feed_L42 X word (k42 + 1) := ⟨_, rfl⟩
          have hS := hS0
          rw [x8_feed_L42_s, lt_e hL] at hS
          have hT42 : X42 9 1 = nI (vn (X 9 1) + k42) := by rw [hL]; exact fdx_t hz1 _ k42 (by omega)
          refine lv_iload hx hb dX8_feed_42 (lv_at hl 3 rfl) ?_
          refine lv_iload_n hx hb dX8_feed_44 rfl (lv_at hl 2 rfl) ?_
          refine lv_icmp_ge (tgt := 76) hx hb dX8_feed_45 (by decide) (fun c45 => absurd c45 (lp_in (n := (vn n)) n9.1 hkn (by omega))) (fun c45 => ?_)
          refine lv_aload_n hx hb dX8_feed_48 rfl (lv_at hl 0 rfl) ?_
          refine xr_get C G (show kW 0 by decide).2 (xW_c (show kW 0 by decide).1) rfl (fun _ h => List.mem_cons_of_mem _ (List.mem_append_left _ (List.mem_append_left _ (List.mem_append_right _ h)))) 0 (by decide) (show Cond.fieldLink RX8 10 "WheatCounts" "estate" "LWheatCounts$Estate;" ∈ _ by decide +kernel) rfl dX8_feed_49 ?_
          refine xr_get C G (show kE 1 by decide).2 (xE_c (show kE 1 by decide).1) rfl (fun _ h => List.mem_cons_of_mem _ (List.mem_append_left _ (List.mem_append_right _ h))) 16 (by decide) (show Cond.fieldLink RX8 152 "WheatCounts$Estate" "tape" "LWheatCounts$Row;" ∈ _ by decide +kernel) rfl dX8_feed_52 ?_
          refine lv_lload_n hx hb dX8_feed_55 rfl (lv_at hl 1 rfl) ?_
          refine lv_bipush (v := 8) hx hb dX8_feed_56 (by decide) ?_
          refine lv_iload hx hb dX8_feed_58 (lv_at hl 3 rfl) ?_
          refine lv_imul hx hb dX8_feed_60 ?_
          refine lv_lushr (v := (word.toUInt64 >>> ((8 * (nI k42)).toInt64.toUInt64 &&& Int64.toUInt64 63)).toInt64) hx hb dX8_feed_61 rfl ?_
          refine lv_ldc2 (v := 255) hx hb C.2.2.2.1 (C.2.2.2.2.1 (.constantLong RX8 161 (255)) (by decide +kernel)) dX8_feed_62 ?_
          refine lv_land hx hb dX8_feed_65 ?_
          refine lv_l2i (v := (((word.toUInt64 >>> ((8 * (nI k42)).toInt64.toUInt64 &&& Int64.toUInt64 63)).toInt64) &&& 255).toInt32) hx hb dX8_feed_66 rfl ?_
          refine xr_Vv C hA G (kx4_add zl D ad sa cc tt X42 9 ((((word.toUInt64 >>> ((8 * (nI k42)).toInt64.toUInt64 &&& Int64.toUInt64 63)).toInt64) &&& 255).toInt32) (show kR 9 by decide) (by rw [hT42, vn_nI (by omega)]; exact ⟨rfl, by show _ ≤ 50; omega⟩)) (show kR 9 by decide).2 (xR_c (show kR 9 by decide).1) rfl (cwV 1 C.2.2.2.2.1 gX8_feed_X4_add rfl rfl rfl (by decide +kernel) ⟨Nat.le_of_ble_eq_true rfl, Nat.le_of_ble_eq_true rfl⟩) rfl hl.1 rfl (Nat.le_of_ble_eq_true rfl) dX8_feed_67 ⟨Nat.le_refl _, Nat.le_refl _⟩ (fun H locs G => ?_)
          obtain ⟨X67, hX67⟩ : ∃ Z : xS, Z = x4_add X42 9 ((((word.toUInt64 >>> ((8 * (nI k42)).toInt64.toUInt64 &&& Int64.toUInt64 63)).toInt64) &&& 255).toInt32) := ⟨_, rfl⟩
          have G : xG D ad sa cc tt zA zs.heap H locs X67 := by rw [hX67]; exact G
          rw [lt_e hX67] at hS
          refine lv_iinc (v := nI (k42 + 1)) (lv' := [(4, .int (nI (k42 + 1))), (0, .ref (ad 0)), (1, .long word), (3, .int n)]) hx hb dX8_feed_70 hl (k := 3) rfl (nt_add rfl (show (1 : Int32) = nI 1 from rfl)) (by decide) rfl (fun ls hl => ?_)
          refine lv_goto (tgt := 42) hx hb dX8_feed_73 (by decide) ?_
          subst hS
          exact ih (k42 + 1) (by omega) _ hS0 _ _ _ (lv_sub hl [1, 2, 3, 0] rfl) G
      exact hloop42 _ 0 (Nat.add_zero _) _ rfl _ _ _ (lv_sub hl [1, 2, 3, 0] rfl) G
    · rw [if_neg c30] at hF
      refine lv_aload_n hx hb dX8_feed_33 rfl (lv_at hl 0 rfl) ?_
      refine lv_iconst (v := 4) hx hb dX8_feed_34 (by decide) ?_
      obtain ⟨x35, X35, hx35⟩ : ∃ (Z : Int32) (Y : xS), (Z, Y) = x8_error X 4 := ⟨_, _, rfl⟩
      refine xr_Vi (r0 := x35) (X2 := X35) C hA G (by rw [hx35]; exact (kx8_error zl D ad sa cc tt X 4)) (show kW 0 by decide).2 (xW_c (show kW 0 by decide).1) rfl (cwV 1 C.2.2.2.2.1 gX8_feed_X8_error rfl rfl rfl (by decide +kernel) ⟨Nat.le_of_ble_eq_true rfl, Nat.le_of_ble_eq_true rfl⟩) rfl hl.1 rfl (Nat.le_of_ble_eq_true rfl) dX8_feed_35 ⟨Nat.le_refl _, Nat.le_refl _⟩ (fun H locs G => ?_)
      rw [lt2_e hx35] at hF
      exact hret _ _ _ _ _ _ hF G dX8_feed_38
  · rw [if_pos c7] at hF
    refine lv_aload_n hx hb dX8_feed_10 rfl (lv_at hl 0 rfl) ?_
    refine lv_iconst (v := 1) hx hb dX8_feed_11 (by decide) ?_
    obtain ⟨x12, X12, hx12⟩ : ∃ (Z : Int32) (Y : xS), (Z, Y) = x8_error X 1 := ⟨_, _, rfl⟩
    refine xr_Vi (r0 := x12) (X2 := X12) C hA G (by rw [hx12]; exact (kx8_error zl D ad sa cc tt X 1)) (show kW 0 by decide).2 (xW_c (show kW 0 by decide).1) rfl (cwV 1 C.2.2.2.2.1 gX8_feed_X8_error rfl rfl rfl (by decide +kernel) ⟨Nat.le_of_ble_eq_true rfl, Nat.le_of_ble_eq_true rfl⟩) rfl hl.1 rfl (Nat.le_of_ble_eq_true rfl) dX8_feed_12 ⟨Nat.le_refl _, Nat.le_refl _⟩ (fun H locs G => ?_)
    rw [lt2_e hx12] at hF
    exact hret _ _ _ _ _ _ hF G dX8_feed_15

