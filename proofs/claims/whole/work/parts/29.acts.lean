section zmore
variable {p : Program} {l : Launch} {e : Env} {R : Room} {s : State} {m : MethodId} {args : Array Value} {below : List Frame} {meth : Method} {c : Code} {H : Heap} {locs : List Loc} {cells slots : Nat} {Q : State → Prop} {code : ByteArray} {nL : Nat} {own : String} {Ts : List Cond} {D : va_G} {ad sa : Nat → Nat} {cc : cT} {t : tT} {A : Nat → Prop} {X : xS} {pc : Nat} {ls : Array Slot} {rest : List Value}
theorem xr_qld (C : xC code nL own Ts D sa cc A p s m c args) (G : xG D ad sa cc t A s.heap H locs X) {i : Int32} (e0 : Nat) (hi : i = nI e0) (he : e0 < 4) (hdg : decode code pc = .ok (.aaload, 1)) (kk : W p l e R s m args below meth c H locs cells slots Q (F0 m (pc + 1) ls (.ref (ad (51 + 2 * e0)) :: rest))) : W p l e R s m args below meth c H locs cells slots Q (F0 m pc ls (.int i :: .ref (ad 50) :: rest)) := by
  obtain ⟨w, hP, hD, hS⟩ := G
  subst hi
  refine va_aldq (ws := xW ad sa cc t X w) C.1 C.2.1 C.2.2.2.2.2.1 hP 50 2 ((xW_get ad sa cc t X w (by decide)).trans rfl) rfl (vp_in_nI he (by decide)) hdg ?_
  rw [nI_clamp (by omega)]
  exact kk
theorem xr_cpg (C : xC code nL own Ts D sa cc A p s m c args) (G : xG D ad sa cc t A s.heap H locs X) {index : Nat} (hlink : Cond.methodLink own index arraycopyName ∈ Ts) (hnat : Cond.native arraycopyName ∈ Ts) (hstat : Cond.static arraycopyName ∈ Ts) (hini : Cond.initialized "java/lang/System" ∈ Ts) {q0 q1 n0 n1 sp dp n : Nat} (hk0 : kI q0 n0) (hk1 : kI q1 n1) {x y z : Int32} (hx : x = nI sp) (hy : y = nI dp) (hz : z = nI n) (hn0 : sp + n ≤ n0) (hn1 : dp + n ≤ n1) (hb : n0 ≤ 340 ∧ n1 ≤ 340) (hl : ls.size = nL) (hframes : 1 ≤ R.frames) (hlocals : (rest.map fun v => v.category).sum + (nativeFrameWords "java/lang/System" "arraycopy" 5 + 11) ≤ R.locals) (hdg : decode code pc = .ok (.invokestatic index, 3)) (kk : ∀ (H1 : Heap) (locs1 : List Loc), xG D ad sa cc t A s.heap H1 locs1 (xcg X q0 q1 sp dp n) → W p l e R s m args below meth c H1 locs1 cells slots Q (F0 m (pc + 3) ls rest)) : W p l e R s m args below meth c H locs cells slots Q (F0 m pc ls (.int z :: .int y :: .ref (ad q1) :: .int x :: .ref (ad q0) :: rest)) := by
  obtain ⟨w, hP, hD, hS⟩ := G
  subst hx
  subst hy
  subst hz
  have e1 : (nI sp).toNatClampNeg = sp := nI_clamp (by omega)
  have e2 : (nI dp).toNatClampNeg = dp := nI_clamp (by omega)
  have e3 : (nI n).toNatClampNeg = n := nI_clamp (by omega)
  refine va_copyi (ws := xW ad sa cc t X w) C.1 C.2.1 (C.2.2.1.trans hl.symm) C.2.2.2.1 (C.2.2.2.2.1 _ hlink) (C.2.2.2.2.1 _ hnat) (C.2.2.2.2.1 _ hstat) (C.2.2.2.2.1 _ hini) C.2.2.2.2.2.1 hP hD hS q0 q1 0 0 ((xW_get ad sa cc t X w hk0.2).trans (by rw [xI_c hk0.1])) ((xW_get ad sa cc t X w hk1.2).trans (by rw [xI_c hk1.1])) rfl rfl rfl (nI_pos (by omega)) (nI_pos (by omega)) (nI_pos (by omega)) (by rw [e1, e3]; exact hn0) (by rw [e2, e3]; exact hn1) (fun _ _ => rfl) hframes hlocals hdg (fun H1 locs1 hP hD hS => ?_)
  rw [e1, e2, e3, xW_set ad sa cc t X w hk1.2 (xI_c hk1.1 _)] at hP hD
  exact kk H1 locs1 ⟨w, hP, hD, hS⟩
end zmore
set_option maxRecDepth 100000 in
set_option maxHeartbeats 4000000 in
theorem ks_J6_bitCount_0f7a4 (zl : Launch) (i : Int32) : sM zl yJ6_bitCount_0f7a4 wsJ6_bitCount_0f7a4 ({ frames := 0, cells := 0, slots := 0, locals := 0 } : Room) [.int i] (p6_bitCount_0f7a4 i) := by
  refine sM_of (own := RJ6) (cc := cJ6_bitCount_0f7a4) (nL := 1) (Or.inl rfl) (by decide) rfl rfl (Nat.le_of_ble_eq_true rfl) ?_
  intro zp ze zs zm zg zb zt zc zA H0 zQ C hA hret H locs ls hl G
  have hx := C.1
  have hb := C.2.1
  have hl : lv_has ls 1 [(0, .int i)] := hl
  obtain ⟨rM, hF⟩ : ∃ X : Int32, X = p6_bitCount_0f7a4 i := ⟨_, rfl⟩
  rw [← hF] at hret
  unfold p6_bitCount_0f7a4 at hF
  refine lv_iload_n hx hb dJ6_bitCount_0f7a4_0 rfl (lv_at hl 0 rfl) ?_
  refine lv_iload_n hx hb dJ6_bitCount_0f7a4_1 rfl (lv_at hl 0 rfl) ?_
  refine lv_iconst (v := 1) hx hb dJ6_bitCount_0f7a4_2 (by decide) ?_
  refine lv_iushr (v := (i.toUInt32 >>> ((1 : Int32).toUInt32 &&& Int32.toUInt32 31)).toInt32) hx hb dJ6_bitCount_0f7a4_3 rfl ?_
  refine lv_ldcw (v := 1431655765) hx hb C.2.2.2.1 (C.2.2.2.2 (.constant RJ6 265 (1431655765)) (by decide +kernel)) dJ6_bitCount_0f7a4_4 ?_
  refine lv_iand hx hb dJ6_bitCount_0f7a4_7 ?_
  refine lv_isub hx hb dJ6_bitCount_0f7a4_8 ?_
  refine lv_topi (fun x9 hx9 => ?_)
  rw [lt_e hx9] at hF
  refine lv_istore_n (lv' := [(0, .int x9)]) hx hb dJ6_bitCount_0f7a4_9 rfl hl (by decide) rfl (fun ls hl => ?_)
  refine lv_iload_n hx hb dJ6_bitCount_0f7a4_10 rfl (lv_at hl 0 rfl) ?_
  refine lv_ldcw (v := 858993459) hx hb C.2.2.2.1 (C.2.2.2.2 (.constant RJ6 266 (858993459)) (by decide +kernel)) dJ6_bitCount_0f7a4_11 ?_
  refine lv_iand hx hb dJ6_bitCount_0f7a4_14 ?_
  refine lv_iload_n hx hb dJ6_bitCount_0f7a4_15 rfl (lv_at hl 0 rfl) ?_
  refine lv_iconst (v := 2) hx hb dJ6_bitCount_0f7a4_16 (by decide) ?_
  refine lv_iushr (v := (x9.toUInt32 >>> ((2 : Int32).toUInt32 &&& Int32.toUInt32 31)).toInt32) hx hb dJ6_bitCount_0f7a4_17 rfl ?_
  refine lv_ldcw (v := 858993459) hx hb C.2.2.2.1 (C.2.2.2.2 (.constant RJ6 266 (858993459)) (by decide +kernel)) dJ6_bitCount_0f7a4_18 ?_
  refine lv_iand hx hb dJ6_bitCount_0f7a4_21 ?_
  refine lv_iadd hx hb dJ6_bitCount_0f7a4_22 ?_
  refine lv_topi (fun x23 hx23 => ?_)
  rw [lt_e hx23] at hF
  refine lv_istore_n (lv' := [(0, .int x23)]) hx hb dJ6_bitCount_0f7a4_23 rfl hl (by decide) rfl (fun ls hl => ?_)
  refine lv_iload_n hx hb dJ6_bitCount_0f7a4_24 rfl (lv_at hl 0 rfl) ?_
  refine lv_iload_n hx hb dJ6_bitCount_0f7a4_25 rfl (lv_at hl 0 rfl) ?_
  refine lv_iconst (v := 4) hx hb dJ6_bitCount_0f7a4_26 (by decide) ?_
  refine lv_iushr (v := (x23.toUInt32 >>> ((4 : Int32).toUInt32 &&& Int32.toUInt32 31)).toInt32) hx hb dJ6_bitCount_0f7a4_27 rfl ?_
  refine lv_iadd hx hb dJ6_bitCount_0f7a4_28 ?_
  refine lv_ldcw (v := 252645135) hx hb C.2.2.2.1 (C.2.2.2.2 (.constant RJ6 267 (252645135)) (by decide +kernel)) dJ6_bitCount_0f7a4_29 ?_
  refine lv_iand hx hb dJ6_bitCount_0f7a4_32 ?_
  refine lv_topi (fun x33 hx33 => ?_)
  rw [lt_e hx33] at hF
  refine lv_istore_n (lv' := [(0, .int x33)]) hx hb dJ6_bitCount_0f7a4_33 rfl hl (by decide) rfl (fun ls hl => ?_)
  refine lv_iload_n hx hb dJ6_bitCount_0f7a4_34 rfl (lv_at hl 0 rfl) ?_
  refine lv_iload_n hx hb dJ6_bitCount_0f7a4_35 rfl (lv_at hl 0 rfl) ?_
  refine lv_bipush (v := 8) hx hb dJ6_bitCount_0f7a4_36 (by decide) ?_
  refine lv_iushr (v := (x33.toUInt32 >>> ((8 : Int32).toUInt32 &&& Int32.toUInt32 31)).toInt32) hx hb dJ6_bitCount_0f7a4_38 rfl ?_
  refine lv_iadd hx hb dJ6_bitCount_0f7a4_39 ?_
  refine lv_topi (fun x40 hx40 => ?_)
  rw [lt_e hx40] at hF
  refine lv_istore_n (lv' := [(0, .int x40)]) hx hb dJ6_bitCount_0f7a4_40 rfl hl (by decide) rfl (fun ls hl => ?_)
  refine lv_iload_n hx hb dJ6_bitCount_0f7a4_41 rfl (lv_at hl 0 rfl) ?_
  refine lv_iload_n hx hb dJ6_bitCount_0f7a4_42 rfl (lv_at hl 0 rfl) ?_
  refine lv_bipush (v := 16) hx hb dJ6_bitCount_0f7a4_43 (by decide) ?_
  refine lv_iushr (v := (x40.toUInt32 >>> ((16 : Int32).toUInt32 &&& Int32.toUInt32 31)).toInt32) hx hb dJ6_bitCount_0f7a4_45 rfl ?_
  refine lv_iadd hx hb dJ6_bitCount_0f7a4_46 ?_
  refine lv_topi (fun x47 hx47 => ?_)
  rw [lt_e hx47] at hF
  refine lv_istore_n (lv' := [(0, .int x47)]) hx hb dJ6_bitCount_0f7a4_47 rfl hl (by decide) rfl (fun ls hl => ?_)
  refine lv_iload_n hx hb dJ6_bitCount_0f7a4_48 rfl (lv_at hl 0 rfl) ?_
  refine lv_bipush (v := 63) hx hb dJ6_bitCount_0f7a4_49 (by decide) ?_
  refine lv_iand hx hb dJ6_bitCount_0f7a4_51 ?_
  exact hret _ _ _ _ _ hF G dJ6_bitCount_0f7a4_52
set_option maxRecDepth 100000 in
set_option maxHeartbeats 4000000 in
theorem ks_X8_isFewer (zl : Launch) (set : Int32) (best : Int32) : sM zl yX8_isFewer wsX8_isFewer ({ frames := 1, cells := 0, slots := 0, locals := 20 } : Room) [.int set, .int best] (p8_isFewer set best) := by
  refine sM_of (own := RX8) (cc := cX8_isFewer) (nL := 2) (Or.inr ⟨rfl, p8_isFewer_01 ..⟩) (by decide) rfl rfl (Nat.le_of_ble_eq_true rfl) ?_
  intro zp ze zs zm zg zb zt zc zA H0 zQ C hA hret H locs ls hl G
  have hx := C.1
  have hb := C.2.1
  have hl : lv_has ls 2 [(0, .int set), (1, .int best)] := hl
  obtain ⟨rM, hF⟩ : ∃ X : Int32, X = p8_isFewer set best := ⟨_, rfl⟩
  rw [← hF] at hret
  unfold p8_isFewer at hF
  refine lv_iload_n hx hb dX8_isFewer_0 rfl (lv_at hl 1 rfl) ?_
  refine lv_if_lt (tgt := 15) hx hb dX8_isFewer_1 (by decide) (fun c1 => ?_) (fun c1 => ?_)
  · rw [if_pos c1] at hF
    refine lv_iconst (v := 1) hx hb dX8_isFewer_15 (by decide) ?_
    refine lv_goto (tgt := 20) hx hb dX8_isFewer_16 (by decide) ?_
    exact hret _ _ _ _ _ hF G dX8_isFewer_20
  · rw [if_neg c1] at hF
    refine lv_iload_n hx hb dX8_isFewer_4 rfl (lv_at hl 0 rfl) ?_
    refine sr_calls C hA G (ks_J6_bitCount_0f7a4 zl set) (va_cwS 1 C.2.2.2.2 gX8_isFewer_J6_bitCount_0f7a4 rfl rfl rfl (by decide +kernel) ⟨Nat.le_of_ble_eq_true rfl, Nat.le_of_ble_eq_true rfl⟩) rfl hl.1 rfl (Nat.le_of_ble_eq_true rfl) dX8_isFewer_5 ⟨Nat.le_refl _, Nat.le_refl _⟩ (fun H locs G => ?_)
    refine lv_iload_n hx hb dX8_isFewer_8 rfl (lv_at hl 1 rfl) ?_
    refine sr_calls C hA G (ks_J6_bitCount_0f7a4 zl best) (va_cwS 1 C.2.2.2.2 gX8_isFewer_J6_bitCount_0f7a4 rfl rfl rfl (by decide +kernel) ⟨Nat.le_of_ble_eq_true rfl, Nat.le_of_ble_eq_true rfl⟩) rfl hl.1 rfl (Nat.le_of_ble_eq_true rfl) dX8_isFewer_9 ⟨Nat.le_refl _, Nat.le_refl _⟩ (fun H locs G => ?_)
    refine lv_icmp_ge (tgt := 19) hx hb dX8_isFewer_12 (by decide) (fun c12 => ?_) (fun c12 => ?_)
    · rw [if_pos c12] at hF
      refine lv_iconst (v := 0) hx hb dX8_isFewer_19 (by decide) ?_
      exact hret _ _ _ _ _ hF G dX8_isFewer_20
    · rw [if_neg c12] at hF
      refine lv_iconst (v := 1) hx hb dX8_isFewer_15 (by decide) ?_
      refine lv_goto (tgt := 20) hx hb dX8_isFewer_16 (by decide) ?_
      exact hret _ _ _ _ _ hF G dX8_isFewer_20
set_option maxRecDepth 100000 in
set_option maxHeartbeats 4000000 in
theorem kx8_field (zl : Launch) (D : va_G) (ad sa : Nat → Nat) (cc : cT) (tt : tT) (X : xS) (n : Int32) : xM zl D ad sa cc tt yX8_field wsX8_field ({ frames := 2, cells := 0, slots := 0, locals := 44 } : Room) [.ref (ad 0), .int n] X (x8_field X n) := by
  refine xM_of (code := cX8_field) (nL := 3) (own := RX8) (by decide) rfl rfl (Nat.le_of_ble_eq_true rfl) ?_
  intro zp ze zs zm zg zb zt zc zA zQ C hA hret H locs ls hl G
  have hx := C.1
  have hb := C.2.1
  have hl : lv_has ls 3 [(0, .ref (ad 0)), (1, .int n)] := hl
  obtain ⟨rM, hF⟩ : ∃ Z : Int32 × xS, Z = x8_field X n := ⟨_, rfl⟩
  rw [← hF] at hret
  unfold x8_field at hF
  refine lv_iload_n hx hb dX8_field_0 rfl (lv_at hl 1 rfl) ?_
  refine lv_iconst (v := 3) hx hb dX8_field_1 (by decide) ?_
  refine lv_bipush (v := 10) hx hb dX8_field_2 (by decide) ?_
  refine xr_ps C hA G (ks_X8_within zl n 3 10) (va_cwS 3 C.2.2.2.2.1 gX8_field_X8_within rfl rfl rfl (by decide +kernel) ⟨Nat.le_of_ble_eq_true rfl, Nat.le_of_ble_eq_true rfl⟩) rfl hl.1 rfl (Nat.le_of_ble_eq_true rfl) dX8_field_4 ⟨Nat.le_refl _, Nat.le_refl _⟩ (fun H locs G => ?_)
  refine lv_if_ne (tgt := 16) hx hb dX8_field_7 (by decide) (fun c7 => ?_) (fun c7 => ?_)
  · rw [if_neg c7] at hF
    refine lv_aload_n hx hb dX8_field_16 rfl (lv_at hl 0 rfl) ?_
    refine xr_get C G (show kW 0 by decide).2 (xW_c (show kW 0 by decide).1) rfl (fun _ h => List.mem_cons_of_mem _ (List.mem_append_left _ (List.mem_append_right _ h))) 0 (by decide) (show Cond.fieldLink RX8 10 "WheatCounts" "estate" "LWheatCounts$Estate;" ∈ _ by decide +kernel) rfl dX8_field_17 ?_
    refine xr_get C G (show kE 1 by decide).2 (xE_c (show kE 1 by decide).1) rfl (fun _ h => List.mem_cons_of_mem _ (List.mem_append_right _ h)) 9 (by decide) (show Cond.fieldLink RX8 68 "WheatCounts$Estate" "people" "I" ∈ _ by decide +kernel) rfl dX8_field_20 ?_
    refine lv_if_le (tgt := 32) hx hb dX8_field_23 (by decide) (fun c23 => ?_) (fun c23 => ?_)
    · rw [if_pos c23] at hF
      refine lv_aload_n hx hb dX8_field_32 rfl (lv_at hl 0 rfl) ?_
      refine xr_get C G (show kW 0 by decide).2 (xW_c (show kW 0 by decide).1) rfl (fun _ h => List.mem_cons_of_mem _ (List.mem_append_left _ (List.mem_append_right _ h))) 0 (by decide) (show Cond.fieldLink RX8 10 "WheatCounts" "estate" "LWheatCounts$Estate;" ∈ _ by decide +kernel) rfl dX8_field_33 ?_
      refine xr_get C G (show kE 1 by decide).2 (xE_c (show kE 1 by decide).1) rfl (fun _ h => List.mem_cons_of_mem _ (List.mem_append_right _ h)) 0 (by decide) (show Cond.fieldLink RX8 72 "WheatCounts$Estate" "cells" "I" ∈ _ by decide +kernel) rfl dX8_field_36 ?_
      refine lv_topi (fun x39 hx39 => ?_)
      rw [lt_e hx39] at hF
      refine lv_istore_n (lv' := [(2, .int x39), (0, .ref (ad 0)), (1, .int n)]) hx hb dX8_field_39 rfl hl (by decide) rfl (fun ls hl => ?_)
      refine lv_aload_n hx hb dX8_field_40 rfl (lv_at hl 1 rfl) ?_
      refine xr_get C G (show kW 0 by decide).2 (xW_c (show kW 0 by decide).1) rfl (fun _ h => List.mem_cons_of_mem _ (List.mem_append_left _ (List.mem_append_right _ h))) 0 (by decide) (show Cond.fieldLink RX8 10 "WheatCounts" "estate" "LWheatCounts$Estate;" ∈ _ by decide +kernel) rfl dX8_field_41 ?_
      refine lv_iload_n hx hb dX8_field_44 rfl (lv_at hl 2 rfl) ?_
      refine xr_Vv C hA G (kx0_startAnew zl D ad sa cc tt X 1 n (show kE 1 by decide)) (show kE 1 by decide).2 (xE_c (show kE 1 by decide).1) rfl (cwV 1 C.2.2.2.2.1 gX8_field_X0_startAnew rfl rfl rfl (by decide +kernel) ⟨Nat.le_of_ble_eq_true rfl, Nat.le_of_ble_eq_true rfl⟩) rfl hl.1 rfl (Nat.le_of_ble_eq_true rfl) dX8_field_45 ⟨Nat.le_refl _, Nat.le_refl _⟩ (fun H locs G => ?_)
      obtain ⟨X45, hX45⟩ : ∃ Z : xS, Z = x0_startAnew X 1 n := ⟨_, rfl⟩
      have G : xG D ad sa cc tt zA zs.heap H locs X45 := by rw [hX45]; exact G
      rw [lt_e hX45] at hF
      refine lv_iload_n hx hb dX8_field_48 rfl (lv_at hl 0 rfl) ?_
      exact hret _ _ _ _ _ _ hF G dX8_field_49
    · rw [if_neg c23] at hF
      refine lv_aload_n hx hb dX8_field_26 rfl (lv_at hl 0 rfl) ?_
      refine lv_iconst (v := 3) hx hb dX8_field_27 (by decide) ?_
      obtain ⟨x28, X28, hx28⟩ : ∃ (Z : Int32) (Y : xS), (Z, Y) = x8_error X 3 := ⟨_, _, rfl⟩
      refine xr_Vi (r0 := x28) (X2 := X28) C hA G (by rw [hx28]; exact (kx8_error zl D ad sa cc tt X 3)) (show kW 0 by decide).2 (xW_c (show kW 0 by decide).1) rfl (cwV 1 C.2.2.2.2.1 gX8_field_X8_error rfl rfl rfl (by decide +kernel) ⟨Nat.le_of_ble_eq_true rfl, Nat.le_of_ble_eq_true rfl⟩) rfl hl.1 rfl (Nat.le_of_ble_eq_true rfl) dX8_field_28 ⟨Nat.le_refl _, Nat.le_refl _⟩ (fun H locs G => ?_)
      rw [lt2_e hx28] at hF
      exact hret _ _ _ _ _ _ hF G dX8_field_31
  · rw [if_pos c7] at hF
    refine lv_aload_n hx hb dX8_field_10 rfl (lv_at hl 0 rfl) ?_
    refine lv_iconst (v := 1) hx hb dX8_field_11 (by decide) ?_
    obtain ⟨x12, X12, hx12⟩ : ∃ (Z : Int32) (Y : xS), (Z, Y) = x8_error X 1 := ⟨_, _, rfl⟩
    refine xr_Vi (r0 := x12) (X2 := X12) C hA G (by rw [hx12]; exact (kx8_error zl D ad sa cc tt X 1)) (show kW 0 by decide).2 (xW_c (show kW 0 by decide).1) rfl (cwV 1 C.2.2.2.2.1 gX8_field_X8_error rfl rfl rfl (by decide +kernel) ⟨Nat.le_of_ble_eq_true rfl, Nat.le_of_ble_eq_true rfl⟩) rfl hl.1 rfl (Nat.le_of_ble_eq_true rfl) dX8_field_12 ⟨Nat.le_refl _, Nat.le_refl _⟩ (fun H locs G => ?_)
    rw [lt2_e hx12] at hF
    exact hret _ _ _ _ _ _ hF G dX8_field_15
set_option maxRecDepth 100000 in
set_option maxHeartbeats 4000000 in
theorem kx8_sow (zl : Launch) (D : va_G) (ad sa : Nat → Nat) (cc : cT) (tt : tT) (X : xS) (c : Int32) (what : Int32) (v : Int32) (hc : eC X 1) : xM zl D ad sa cc tt yX8_sow wsX8_sow ({ frames := 2, cells := 0, slots := 0, locals := 43 } : Room) [.ref (ad 0), .int c, .int what, .int v] X (x8_sow X c what v) := by
  refine xM_of (code := cX8_sow) (nL := 6) (own := RX8) (by decide) rfl rfl (Nat.le_of_ble_eq_true rfl) ?_
  intro zp ze zs zm zg zb zt zc zA zQ C hA hret H locs ls hl G
  have hx := C.1
  have hb := C.2.1
  have hl : lv_has ls 6 [(0, .ref (ad 0)), (1, .int c), (2, .int what), (3, .int v)] := hl
  obtain ⟨rM, hF⟩ : ∃ Z : Int32 × xS, Z = x8_sow X c what v := ⟨_, rfl⟩
  rw [← hF] at hret
  unfold x8_sow at hF
  have hc2 := hc.2.1
  have hc3 := hc.2.2
  refine lv_aload_n hx hb dX8_sow_0 rfl (lv_at hl 0 rfl) ?_
  refine lv_iload_n hx hb dX8_sow_1 rfl (lv_at hl 1 rfl) ?_
  refine xr_Vi C hA G (kx8_isCell zl D ad sa cc tt X c) (show kW 0 by decide).2 (xW_c (show kW 0 by decide).1) rfl (cwV 1 C.2.2.2.2.1 gX8_sow_X8_isCell rfl rfl rfl (by decide +kernel) ⟨Nat.le_of_ble_eq_true rfl, Nat.le_of_ble_eq_true rfl⟩) rfl hl.1 rfl (Nat.le_of_ble_eq_true rfl) dX8_sow_2 ⟨Nat.le_refl _, Nat.le_refl _⟩ (fun H locs G => ?_)
  refine lv_if_eq (tgt := 36) hx hb dX8_sow_5 (by decide) (fun c5 => ?_) (fun c5 => ?_)
  · rw [if_pos c5] at hF
    refine lv_aload_n hx hb dX8_sow_36 rfl (lv_at hl 0 rfl) ?_
    refine lv_iconst (v := 1) hx hb dX8_sow_37 (by decide) ?_
    obtain ⟨x38, X38, hx38⟩ : ∃ (Z : Int32) (Y : xS), (Z, Y) = x8_error X 1 := ⟨_, _, rfl⟩
    refine xr_Vi (r0 := x38) (X2 := X38) C hA G (by rw [hx38]; exact (kx8_error zl D ad sa cc tt X 1)) (show kW 0 by decide).2 (xW_c (show kW 0 by decide).1) rfl (cwV 1 C.2.2.2.2.1 gX8_sow_X8_error rfl rfl rfl (by decide +kernel) ⟨Nat.le_of_ble_eq_true rfl, Nat.le_of_ble_eq_true rfl⟩) rfl hl.1 rfl (Nat.le_of_ble_eq_true rfl) dX8_sow_38 ⟨Nat.le_refl _, Nat.le_refl _⟩ (fun H locs G => ?_)
    rw [lt2_e hx38] at hF
    exact hret _ _ _ _ _ _ hF G dX8_sow_41
  · rw [if_neg c5] at hF
    have c9 := cell_x hc c5
    have c92 := c9.2
    refine lv_iload_n hx hb dX8_sow_8 rfl (lv_at hl 2 rfl) ?_
    refine lv_iconst (v := 0) hx hb dX8_sow_9 (by decide) ?_
    refine lv_iconst (v := 1) hx hb dX8_sow_10 (by decide) ?_
    refine xr_ps C hA G (ks_X8_within zl what 0 1) (va_cwS 3 C.2.2.2.2.1 gX8_sow_X8_within rfl rfl rfl (by decide +kernel) ⟨Nat.le_of_ble_eq_true rfl, Nat.le_of_ble_eq_true rfl⟩) rfl hl.1 rfl (Nat.le_of_ble_eq_true rfl) dX8_sow_11 ⟨Nat.le_refl _, Nat.le_refl _⟩ (fun H locs G => ?_)
    refine lv_if_eq (tgt := 36) hx hb dX8_sow_14 (by decide) (fun c14 => ?_) (fun c14 => ?_)
    · rw [if_pos c14] at hF
      refine lv_aload_n hx hb dX8_sow_36 rfl (lv_at hl 0 rfl) ?_
      refine lv_iconst (v := 1) hx hb dX8_sow_37 (by decide) ?_
      obtain ⟨x38, X38, hx38⟩ : ∃ (Z : Int32) (Y : xS), (Z, Y) = x8_error X 1 := ⟨_, _, rfl⟩
      refine xr_Vi (r0 := x38) (X2 := X38) C hA G (by rw [hx38]; exact (kx8_error zl D ad sa cc tt X 1)) (show kW 0 by decide).2 (xW_c (show kW 0 by decide).1) rfl (cwV 1 C.2.2.2.2.1 gX8_sow_X8_error rfl rfl rfl (by decide +kernel) ⟨Nat.le_of_ble_eq_true rfl, Nat.le_of_ble_eq_true rfl⟩) rfl hl.1 rfl (Nat.le_of_ble_eq_true rfl) dX8_sow_38 ⟨Nat.le_refl _, Nat.le_refl _⟩ (fun H locs G => ?_)
      rw [lt2_e hx38] at hF
      exact hret _ _ _ _ _ _ hF G dX8_sow_41
    · rw [if_neg c14] at hF
      refine lv_iload_n hx hb dX8_sow_17 rfl (lv_at hl 3 rfl) ?_
      refine lv_iconst (v := 0) hx hb dX8_sow_18 (by decide) ?_
      refine lv_iload_n hx hb dX8_sow_19 rfl (lv_at hl 2 rfl) ?_
      obtain ⟨y30, hX30⟩ : ∃ (y30 : Int32), y30 = ((if what = 0 then 99999 else 99) : Int32) := ⟨_, rfl⟩
      rw [lt_e hX30] at hF
      have hj30 : ∀ (H : Heap) (locs : List Loc) (ls : Array Slot), lv_has ls 6 [(0, .ref (ad 0)), (1, .int c), (2, .int what), (3, .int v)] → xG D ad sa cc tt zA zs.heap H locs X → W zp zl ze ({ frames := 2, cells := 0, slots := 0, locals := 43 } : Room) zs zm zg zb zt zc H locs 0 0 zQ (F0 zm 30 ls [.int y30, .int 0, .int v]) := by
        intro H locs ls hl G
        refine xr_ps C hA G (ks_X8_within zl v 0 y30) (va_cwS 3 C.2.2.2.2.1 gX8_sow_X8_within rfl rfl rfl (by decide +kernel) ⟨Nat.le_of_ble_eq_true rfl, Nat.le_of_ble_eq_true rfl⟩) rfl hl.1 rfl (Nat.le_of_ble_eq_true rfl) dX8_sow_30 ⟨Nat.le_refl _, Nat.le_refl _⟩ (fun H locs G => ?_)
        refine lv_if_ne (tgt := 42) hx hb dX8_sow_33 (by decide) (fun c33 => ?_) (fun c33 => ?_)
        · rw [if_neg c33] at hF
          refine lv_iload_n hx hb dX8_sow_42 rfl (lv_at hl 2 rfl) ?_
          refine lv_if_ne (tgt := 56) hx hb dX8_sow_43 (by decide) (fun c43 => ?_) (fun c43 => ?_)
          · rw [if_neg c43] at hF
            refine lv_aload_n hx hb dX8_sow_56 rfl (lv_at hl 0 rfl) ?_
            refine xr_get C G (show kW 0 by decide).2 (xW_c (show kW 0 by decide).1) rfl (fun _ h => List.mem_cons_of_mem _ (List.mem_append_left _ (List.mem_append_right _ h))) 0 (by decide) (show Cond.fieldLink RX8 10 "WheatCounts" "estate" "LWheatCounts$Estate;" ∈ _ by decide +kernel) rfl dX8_sow_57 ?_
            refine xr_get C G (show kE 1 by decide).2 (xE_c (show kE 1 by decide).1) rfl (fun _ h => List.mem_cons_of_mem _ (List.mem_append_right _ h)) 2 (by decide) (show Cond.fieldLink RX8 87 "WheatCounts$Estate" "weeds" "[I" ∈ _ by decide +kernel) rfl dX8_sow_60 ?_
            refine lv_astore (lv' := [(4, .ref (ad 3)), (0, .ref (ad 0)), (1, .int c), (2, .int what), (3, .int v)]) hx hb dX8_sow_63 hl (by decide) rfl (fun ls hl => ?_)
            refine lv_aload hx hb dX8_sow_65 (lv_at hl 0 rfl) ?_
            refine lv_iload_n hx hb dX8_sow_67 rfl (lv_at hl 2 rfl) ?_
            refine xr_ald C G (show kI 3 10 by decide).2 (xI_c (show kI 3 10 by decide).1 _) (vn c) c9.1 (by omega) (xI_lt (show kI 3 10 by decide)) dX8_sow_68 ?_
            refine lv_topi (fun x69 hx69 => ?_)
            rw [lt_e hx69] at hF
            refine lv_istore (lv' := [(5, .int x69), (4, .ref (ad 3)), (0, .ref (ad 0)), (1, .int c), (2, .int what), (3, .int v)]) hx hb dX8_sow_69 hl (by decide) rfl (fun ls hl => ?_)
            refine lv_aload hx hb dX8_sow_71 (lv_at hl 1 rfl) ?_
            refine lv_iload_n hx hb dX8_sow_73 rfl (lv_at hl 3 rfl) ?_
            refine lv_iload_n hx hb dX8_sow_74 rfl (lv_at hl 5 rfl) ?_
            refine xr_ast C G (show kI 3 10 by decide).2 (xI_c (show kI 3 10 by decide).1) (vn c) c9.1 (by omega) (xI_lt (show kI 3 10 by decide)) dX8_sow_75 (fun H locs G => ?_)
            obtain ⟨X75, hX75⟩ : ∃ Z : xS, Z = mU X 3 (vn c) v := ⟨_, rfl⟩
            have G : xG D ad sa cc tt zA zs.heap H locs X75 := by rw [hX75]; exact G
            rw [lt_e hX75] at hF
            refine lv_iload hx hb dX8_sow_76 (lv_at hl 0 rfl) ?_
            exact hret _ _ _ _ _ _ hF G dX8_sow_78
          · rw [if_pos c43] at hF
            refine lv_aload_n hx hb dX8_sow_46 rfl (lv_at hl 0 rfl) ?_
            refine xr_get C G (show kW 0 by decide).2 (xW_c (show kW 0 by decide).1) rfl (fun _ h => List.mem_cons_of_mem _ (List.mem_append_left _ (List.mem_append_right _ h))) 0 (by decide) (show Cond.fieldLink RX8 10 "WheatCounts" "estate" "LWheatCounts$Estate;" ∈ _ by decide +kernel) rfl dX8_sow_47 ?_
            refine xr_get C G (show kE 1 by decide).2 (xE_c (show kE 1 by decide).1) rfl (fun _ h => List.mem_cons_of_mem _ (List.mem_append_right _ h)) 1 (by decide) (show Cond.fieldLink RX8 84 "WheatCounts$Estate" "grains" "[I" ∈ _ by decide +kernel) rfl dX8_sow_50 ?_
            refine lv_goto (tgt := 63) hx hb dX8_sow_53 (by decide) ?_
            refine lv_astore (lv' := [(4, .ref (ad 2)), (0, .ref (ad 0)), (1, .int c), (2, .int what), (3, .int v)]) hx hb dX8_sow_63 hl (by decide) rfl (fun ls hl => ?_)
            refine lv_aload hx hb dX8_sow_65 (lv_at hl 0 rfl) ?_
            refine lv_iload_n hx hb dX8_sow_67 rfl (lv_at hl 2 rfl) ?_
            refine xr_ald C G (show kI 2 10 by decide).2 (xI_c (show kI 2 10 by decide).1 _) (vn c) c9.1 (by omega) (xI_lt (show kI 2 10 by decide)) dX8_sow_68 ?_
            refine lv_topi (fun x69 hx69 => ?_)
            rw [lt_e hx69] at hF
            refine lv_istore (lv' := [(5, .int x69), (4, .ref (ad 2)), (0, .ref (ad 0)), (1, .int c), (2, .int what), (3, .int v)]) hx hb dX8_sow_69 hl (by decide) rfl (fun ls hl => ?_)
            refine lv_aload hx hb dX8_sow_71 (lv_at hl 1 rfl) ?_
            refine lv_iload_n hx hb dX8_sow_73 rfl (lv_at hl 3 rfl) ?_
            refine lv_iload_n hx hb dX8_sow_74 rfl (lv_at hl 5 rfl) ?_
            refine xr_ast C G (show kI 2 10 by decide).2 (xI_c (show kI 2 10 by decide).1) (vn c) c9.1 (by omega) (xI_lt (show kI 2 10 by decide)) dX8_sow_75 (fun H locs G => ?_)
            obtain ⟨X75, hX75⟩ : ∃ Z : xS, Z = mU X 2 (vn c) v := ⟨_, rfl⟩
            have G : xG D ad sa cc tt zA zs.heap H locs X75 := by rw [hX75]; exact G
            rw [lt_e hX75] at hF
            refine lv_iload hx hb dX8_sow_76 (lv_at hl 0 rfl) ?_
            exact hret _ _ _ _ _ _ hF G dX8_sow_78
        · rw [if_pos c33] at hF
          refine lv_aload_n hx hb dX8_sow_36 rfl (lv_at hl 0 rfl) ?_
          refine lv_iconst (v := 1) hx hb dX8_sow_37 (by decide) ?_
          obtain ⟨x38, X38, hx38⟩ : ∃ (Z : Int32) (Y : xS), (Z, Y) = x8_error X 1 := ⟨_, _, rfl⟩
          refine xr_Vi (r0 := x38) (X2 := X38) C hA G (by rw [hx38]; exact (kx8_error zl D ad sa cc tt X 1)) (show kW 0 by decide).2 (xW_c (show kW 0 by decide).1) rfl (cwV 1 C.2.2.2.2.1 gX8_sow_X8_error rfl rfl rfl (by decide +kernel) ⟨Nat.le_of_ble_eq_true rfl, Nat.le_of_ble_eq_true rfl⟩) rfl hl.1 rfl (Nat.le_of_ble_eq_true rfl) dX8_sow_38 ⟨Nat.le_refl _, Nat.le_refl _⟩ (fun H locs G => ?_)
          rw [lt2_e hx38] at hF
          exact hret _ _ _ _ _ _ hF G dX8_sow_41
      refine lv_if_ne (tgt := 28) hx hb dX8_sow_20 (by decide) (fun c20 => ?_) (fun c20 => ?_)
      · rw [if_neg c20] at hX30
        refine lv_bipush (v := 99) hx hb dX8_sow_28 (by decide) ?_
        subst hX30
        exact hj30 _ _ _ (lv_sub hl [0, 1, 2, 3] rfl) G
      · rw [if_pos c20] at hX30
        refine lv_ldc (v := 99999) hx hb C.2.2.2.1 (C.2.2.2.2.1 (.constant RX8 83 (99999)) (by decide +kernel)) dX8_sow_23 ?_
        refine lv_goto (tgt := 30) hx hb dX8_sow_25 (by decide) ?_
        subst hX30
        exact hj30 _ _ _ (lv_sub hl [0, 1, 2, 3] rfl) G
set_option maxRecDepth 100000 in
set_option maxHeartbeats 4000000 in
theorem kx8_ofCell (zl : Launch) (D : va_G) (ad sa : Nat → Nat) (cc : cT) (tt : tT) (X : xS) (c : Int32) (what : Int32) (hR : eR tt X 1) : xM zl D ad sa cc tt yX8_ofCell wsX8_ofCell ({ frames := 6, cells := 0, slots := 0, locals := 139 } : Room) [.ref (ad 0), .int c, .int what] X (x8_ofCell tt X c what) := by
  refine xM_of (code := cX8_ofCell) (nL := 3) (own := RX8) (by decide) rfl rfl (Nat.le_of_ble_eq_true rfl) ?_
  intro zp ze zs zm zg zb zt zc zA zQ C hA hret H locs ls hl G
  have hx := C.1
  have hb := C.2.1
  have hl : lv_has ls 3 [(0, .ref (ad 0)), (1, .int c), (2, .int what)] := hl
  obtain ⟨rM, hF⟩ : ∃ Z : Int32 × xS, Z = x8_ofCell tt X c what := ⟨_, rfl⟩
  rw [← hF] at hret
  unfold x8_ofCell at hF
  have hc := hR.1
  have hp := hR.2.1
  have ha := hR.2.2.1
  have ht := hR.2.2.2
  have hc2 := hc.2.1
  have hc3 := hc.2.2
  have hp2 := hp.2
  refine lv_aload_n hx hb dX8_ofCell_0 rfl (lv_at hl 0 rfl) ?_
  refine lv_iload_n hx hb dX8_ofCell_1 rfl (lv_at hl 1 rfl) ?_
  refine xr_Vi C hA G (kx8_isCell zl D ad sa cc tt X c) (show kW 0 by decide).2 (xW_c (show kW 0 by decide).1) rfl (cwV 1 C.2.2.2.2.1 gX8_ofCell_X8_isCell rfl rfl rfl (by decide +kernel) ⟨Nat.le_of_ble_eq_true rfl, Nat.le_of_ble_eq_true rfl⟩) rfl hl.1 rfl (Nat.le_of_ble_eq_true rfl) dX8_ofCell_2 ⟨Nat.le_refl _, Nat.le_refl _⟩ (fun H locs G => ?_)
  refine lv_if_ne (tgt := 14) hx hb dX8_ofCell_5 (by decide) (fun c5 => ?_) (fun c5 => ?_)
  · rw [if_neg c5] at hF
    have c9 := cell_x hc c5
    have c92 := c9.2
    refine lv_iload_n hx hb dX8_ofCell_14 rfl (lv_at hl 2 rfl) ?_
    by_cases c15_0 : what = 0
    · rw [if_pos c15_0] at hF
      refine lv_tableIn (off := 29) (tgt := 44) hx hb dX8_ofCell_15 (by rw [c15_0]; decide) (by rw [c15_0]; decide) (by rw [c15_0]; rfl) (by decide) ?_
      refine lv_aload_n hx hb dX8_ofCell_44 rfl (lv_at hl 0 rfl) ?_
      refine xr_get C G (show kW 0 by decide).2 (xW_c (show kW 0 by decide).1) rfl (fun _ h => List.mem_cons_of_mem _ (List.mem_append_left _ (List.mem_append_left _ (List.mem_append_right _ h)))) 0 (by decide) (show Cond.fieldLink RX8 10 "WheatCounts" "estate" "LWheatCounts$Estate;" ∈ _ by decide +kernel) rfl dX8_ofCell_45 ?_
      refine xr_get C G (show kE 1 by decide).2 (xE_c (show kE 1 by decide).1) rfl (fun _ h => List.mem_cons_of_mem _ (List.mem_append_left _ (List.mem_append_right _ h))) 1 (by decide) (show Cond.fieldLink RX8 84 "WheatCounts$Estate" "grains" "[I" ∈ _ by decide +kernel) rfl dX8_ofCell_48 ?_
      refine lv_iload_n hx hb dX8_ofCell_51 rfl (lv_at hl 1 rfl) ?_
      refine xr_ald C G (show kI 2 10 by decide).2 (xI_c (show kI 2 10 by decide).1 _) (vn c) c9.1 (by omega) (xI_lt (show kI 2 10 by decide)) dX8_ofCell_52 ?_
      exact hret _ _ _ _ _ _ hF G dX8_ofCell_53
    · rw [if_neg c15_0] at hF
      by_cases c15_1 : what = 1
      · rw [if_pos c15_1] at hF
        refine lv_tableIn (off := 39) (tgt := 54) hx hb dX8_ofCell_15 (by rw [c15_1]; decide) (by rw [c15_1]; decide) (by rw [c15_1]; rfl) (by decide) ?_
        refine lv_aload_n hx hb dX8_ofCell_54 rfl (lv_at hl 0 rfl) ?_
        refine xr_get C G (show kW 0 by decide).2 (xW_c (show kW 0 by decide).1) rfl (fun _ h => List.mem_cons_of_mem _ (List.mem_append_left _ (List.mem_append_left _ (List.mem_append_right _ h)))) 0 (by decide) (show Cond.fieldLink RX8 10 "WheatCounts" "estate" "LWheatCounts$Estate;" ∈ _ by decide +kernel) rfl dX8_ofCell_55 ?_
        refine xr_get C G (show kE 1 by decide).2 (xE_c (show kE 1 by decide).1) rfl (fun _ h => List.mem_cons_of_mem _ (List.mem_append_left _ (List.mem_append_right _ h))) 2 (by decide) (show Cond.fieldLink RX8 87 "WheatCounts$Estate" "weeds" "[I" ∈ _ by decide +kernel) rfl dX8_ofCell_58 ?_
        refine lv_iload_n hx hb dX8_ofCell_61 rfl (lv_at hl 1 rfl) ?_
        refine xr_ald C G (show kI 3 10 by decide).2 (xI_c (show kI 3 10 by decide).1 _) (vn c) c9.1 (by omega) (xI_lt (show kI 3 10 by decide)) dX8_ofCell_62 ?_
        exact hret _ _ _ _ _ _ hF G dX8_ofCell_63
      · rw [if_neg c15_1] at hF
        by_cases c15_2 : what = 2
        · rw [if_pos c15_2] at hF
          refine lv_tableIn (off := 49) (tgt := 64) hx hb dX8_ofCell_15 (by rw [c15_2]; decide) (by rw [c15_2]; decide) (by rw [c15_2]; rfl) (by decide) ?_
          refine lv_aload_n hx hb dX8_ofCell_64 rfl (lv_at hl 0 rfl) ?_
          refine xr_get C G (show kW 0 by decide).2 (xW_c (show kW 0 by decide).1) rfl (fun _ h => List.mem_cons_of_mem _ (List.mem_append_left _ (List.mem_append_left _ (List.mem_append_right _ h)))) 0 (by decide) (show Cond.fieldLink RX8 10 "WheatCounts" "estate" "LWheatCounts$Estate;" ∈ _ by decide +kernel) rfl dX8_ofCell_65 ?_
          refine lv_iload_n hx hb dX8_ofCell_68 rfl (lv_at hl 1 rfl) ?_
          refine xr_Vi C hA G (kx0_whoSee zl D ad sa cc tt X 1 c (show kE 1 by decide) hR) (show kE 1 by decide).2 (xE_c (show kE 1 by decide).1) rfl (cwV 1 C.2.2.2.2.1 gX8_ofCell_X0_whoSee rfl rfl rfl (by decide +kernel) ⟨Nat.le_of_ble_eq_true rfl, Nat.le_of_ble_eq_true rfl⟩) rfl hl.1 rfl (Nat.le_of_ble_eq_true rfl) dX8_ofCell_69 ⟨Nat.le_refl _, Nat.le_refl _⟩ (fun H locs G => ?_)
          exact hret _ _ _ _ _ _ hF G dX8_ofCell_72
        · rw [if_neg c15_2] at hF
          by_cases c15_3 : what = 3
          · rw [if_pos c15_3] at hF
            refine lv_tableIn (off := 58) (tgt := 73) hx hb dX8_ofCell_15 (by rw [c15_3]; decide) (by rw [c15_3]; decide) (by rw [c15_3]; rfl) (by decide) ?_
            refine lv_aload_n hx hb dX8_ofCell_73 rfl (lv_at hl 0 rfl) ?_
            refine xr_get C G (show kW 0 by decide).2 (xW_c (show kW 0 by decide).1) rfl (fun _ h => List.mem_cons_of_mem _ (List.mem_append_left _ (List.mem_append_left _ (List.mem_append_right _ h)))) 0 (by decide) (show Cond.fieldLink RX8 10 "WheatCounts" "estate" "LWheatCounts$Estate;" ∈ _ by decide +kernel) rfl dX8_ofCell_74 ?_
            refine lv_iload_n hx hb dX8_ofCell_77 rfl (lv_at hl 1 rfl) ?_
            refine xr_Vi C hA G (kx0_whoAreAt zl D ad sa cc tt X 1 c (show kE 1 by decide) hp) (show kE 1 by decide).2 (xE_c (show kE 1 by decide).1) rfl (cwV 1 C.2.2.2.2.1 gX8_ofCell_X0_whoAreAt rfl rfl rfl (by decide +kernel) ⟨Nat.le_of_ble_eq_true rfl, Nat.le_of_ble_eq_true rfl⟩) rfl hl.1 rfl (Nat.le_of_ble_eq_true rfl) dX8_ofCell_78 ⟨Nat.le_refl _, Nat.le_refl _⟩ (fun H locs G => ?_)
            exact hret _ _ _ _ _ _ hF G dX8_ofCell_81
          · rw [if_neg c15_3] at hF
            refine lv_tableOut (tgt := 82) hx hb dX8_ofCell_15 (sw_out (fun i h1 h2 => by rcases (show i = 0 ∨ i = 1 ∨ i = 2 ∨ i = 3 by omega) with rfl | rfl | rfl | rfl <;> first | exact fun e9 => c15_0 (Int32.toInt_inj.mp e9) | exact fun e9 => c15_1 (Int32.toInt_inj.mp e9) | exact fun e9 => c15_2 (Int32.toInt_inj.mp e9) | exact fun e9 => c15_3 (Int32.toInt_inj.mp e9))) (by decide) ?_
            refine lv_aload_n hx hb dX8_ofCell_82 rfl (lv_at hl 0 rfl) ?_
            refine lv_iconst (v := 1) hx hb dX8_ofCell_83 (by decide) ?_
            obtain ⟨x84, X84, hx84⟩ : ∃ (Z : Int32) (Y : xS), (Z, Y) = x8_error X 1 := ⟨_, _, rfl⟩
            refine xr_Vi (r0 := x84) (X2 := X84) C hA G (by rw [hx84]; exact (kx8_error zl D ad sa cc tt X 1)) (show kW 0 by decide).2 (xW_c (show kW 0 by decide).1) rfl (cwV 1 C.2.2.2.2.1 gX8_ofCell_X8_error rfl rfl rfl (by decide +kernel) ⟨Nat.le_of_ble_eq_true rfl, Nat.le_of_ble_eq_true rfl⟩) rfl hl.1 rfl (Nat.le_of_ble_eq_true rfl) dX8_ofCell_84 ⟨Nat.le_refl _, Nat.le_refl _⟩ (fun H locs G => ?_)
            rw [lt2_e hx84] at hF
            exact hret _ _ _ _ _ _ hF G dX8_ofCell_87
  · rw [if_pos c5] at hF
    refine lv_aload_n hx hb dX8_ofCell_8 rfl (lv_at hl 0 rfl) ?_
    refine lv_iconst (v := 1) hx hb dX8_ofCell_9 (by decide) ?_
    obtain ⟨x10, X10, hx10⟩ : ∃ (Z : Int32) (Y : xS), (Z, Y) = x8_error X 1 := ⟨_, _, rfl⟩
    refine xr_Vi (r0 := x10) (X2 := X10) C hA G (by rw [hx10]; exact (kx8_error zl D ad sa cc tt X 1)) (show kW 0 by decide).2 (xW_c (show kW 0 by decide).1) rfl (cwV 1 C.2.2.2.2.1 gX8_ofCell_X8_error rfl rfl rfl (by decide +kernel) ⟨Nat.le_of_ble_eq_true rfl, Nat.le_of_ble_eq_true rfl⟩) rfl hl.1 rfl (Nat.le_of_ble_eq_true rfl) dX8_ofCell_10 ⟨Nat.le_refl _, Nat.le_refl _⟩ (fun H locs G => ?_)
    rw [lt2_e hx10] at hF
    exact hret _ _ _ _ _ _ hF G dX8_ofCell_13
set_option maxRecDepth 100000 in
set_option maxHeartbeats 4000000 in
theorem kx8_mostLaid (zl : Launch) (D : va_G) (ad sa : Nat → Nat) (cc : cT) (tt : tT) (X : xS) (what : Int32) : xM zl D ad sa cc tt yX8_mostLaid wsX8_mostLaid ({ frames := 0, cells := 0, slots := 0, locals := 0 } : Room) [.ref (ad 0), .int what] X ((x8_mostLaid X what, X)) := by
  refine xM_of (code := cX8_mostLaid) (nL := 2) (own := RX8) (by decide) rfl rfl (Nat.le_of_ble_eq_true rfl) ?_
  intro zp ze zs zm zg zb zt zc zA zQ C hA hret H locs ls hl G
  have hx := C.1
  have hb := C.2.1
  have hl : lv_has ls 2 [(0, .ref (ad 0)), (1, .int what)] := hl
  obtain ⟨rM, hF⟩ : ∃ Z : Int32, Z = x8_mostLaid X what := ⟨_, rfl⟩
  rw [← hF] at hret
  unfold x8_mostLaid at hF
  refine lv_iload_n hx hb dX8_mostLaid_0 rfl (lv_at hl 1 rfl) ?_
  by_cases c1_0 : what = 0
  · rw [if_pos c1_0] at hF
    refine lv_lookup (off := 27) (tgt := 28) hx hb dX8_mostLaid_1 (by decide) (by rw [c1_0]; rfl) (by decide) ?_
    refine lv_iconst (v := 1) hx hb dX8_mostLaid_28 (by decide) ?_
    refine lv_aload_n hx hb dX8_mostLaid_29 rfl (lv_at hl 0 rfl) ?_
    refine xr_get C G (show kW 0 by decide).2 (xW_c (show kW 0 by decide).1) rfl (fun _ h => List.mem_cons_of_mem _ (List.mem_append_left _ (List.mem_append_right _ h))) 0 (by decide) (show Cond.fieldLink RX8 10 "WheatCounts" "estate" "LWheatCounts$Estate;" ∈ _ by decide +kernel) rfl dX8_mostLaid_30 ?_
    refine xr_get C G (show kE 1 by decide).2 (xE_c (show kE 1 by decide).1) rfl (fun _ h => List.mem_cons_of_mem _ (List.mem_append_right _ h)) 0 (by decide) (show Cond.fieldLink RX8 72 "WheatCounts$Estate" "cells" "I" ∈ _ by decide +kernel) rfl dX8_mostLaid_33 ?_
    refine lv_iconst (v := 1) hx hb dX8_mostLaid_36 (by decide) ?_
    refine lv_isub hx hb dX8_mostLaid_37 ?_
    refine lv_ishl hx hb dX8_mostLaid_38 ?_
    refine lv_iconst (v := 1) hx hb dX8_mostLaid_39 (by decide) ?_
    refine lv_isub hx hb dX8_mostLaid_40 ?_
    exact hret _ _ _ _ _ _ (by rw [hF]) G dX8_mostLaid_41
  · rw [if_neg c1_0] at hF
    by_cases c1_1 : what = 1
    · rw [if_pos c1_1] at hF
      refine lv_lookup (off := 41) (tgt := 42) hx hb dX8_mostLaid_1 (by decide) (by rw [c1_1]; rfl) (by decide) ?_
      refine lv_iconst (v := 1) hx hb dX8_mostLaid_42 (by decide) ?_
      refine lv_aload_n hx hb dX8_mostLaid_43 rfl (lv_at hl 0 rfl) ?_
      refine xr_get C G (show kW 0 by decide).2 (xW_c (show kW 0 by decide).1) rfl (fun _ h => List.mem_cons_of_mem _ (List.mem_append_left _ (List.mem_append_right _ h))) 0 (by decide) (show Cond.fieldLink RX8 10 "WheatCounts" "estate" "LWheatCounts$Estate;" ∈ _ by decide +kernel) rfl dX8_mostLaid_44 ?_
      refine xr_get C G (show kE 1 by decide).2 (xE_c (show kE 1 by decide).1) rfl (fun _ h => List.mem_cons_of_mem _ (List.mem_append_right _ h)) 0 (by decide) (show Cond.fieldLink RX8 72 "WheatCounts$Estate" "cells" "I" ∈ _ by decide +kernel) rfl dX8_mostLaid_47 ?_
      refine lv_ishl hx hb dX8_mostLaid_50 ?_
      refine lv_iconst (v := 1) hx hb dX8_mostLaid_51 (by decide) ?_
      refine lv_isub hx hb dX8_mostLaid_52 ?_
      exact hret _ _ _ _ _ _ (by rw [hF]) G dX8_mostLaid_53
    · rw [if_neg c1_1] at hF
      refine lv_lookup (tgt := 54) (off := 53) hx hb dX8_mostLaid_1 (by decide) (by simp [Op.lookupswitch.offset, List.find?, show ¬ (0 : Int) = what.toInt from fun e9 => c1_0 (Int32.toInt_inj.mp e9.symm), show ¬ (1 : Int) = what.toInt from fun e9 => c1_1 (Int32.toInt_inj.mp e9.symm)]) (by decide) ?_
      refine lv_bipush (v := 9) hx hb dX8_mostLaid_54 (by decide) ?_
      exact hret _ _ _ _ _ _ (by rw [hF]) G dX8_mostLaid_56
set_option maxRecDepth 100000 in
set_option maxHeartbeats 4000000 in
theorem kx8_lay (zl : Launch) (D : va_G) (ad sa : Nat → Nat) (cc : cT) (tt : tT) (X : xS) (what : Int32) (v : Int32) : xM zl D ad sa cc tt yX8_lay wsX8_lay ({ frames := 2, cells := 0, slots := 0, locals := 43 } : Room) [.ref (ad 0), .int what, .int v] X (x8_lay X what v) := by
  refine xM_of (code := cX8_lay) (nL := 4) (own := RX8) (by decide) rfl rfl (Nat.le_of_ble_eq_true rfl) ?_
  intro zp ze zs zm zg zb zt zc zA zQ C hA hret H locs ls hl G
  have hx := C.1
  have hb := C.2.1
  have hl : lv_has ls 4 [(0, .ref (ad 0)), (1, .int what), (2, .int v)] := hl
  obtain ⟨rM, hF⟩ : ∃ Z : Int32 × xS, Z = x8_lay X what v := ⟨_, rfl⟩
  rw [← hF] at hret
  unfold x8_lay at hF
  refine lv_iload_n hx hb dX8_lay_0 rfl (lv_at hl 1 rfl) ?_
  refine lv_iconst (v := 0) hx hb dX8_lay_1 (by decide) ?_
  refine lv_iconst (v := 2) hx hb dX8_lay_2 (by decide) ?_
  refine xr_ps C hA G (ks_X8_within zl what 0 2) (va_cwS 3 C.2.2.2.2.1 gX8_lay_X8_within rfl rfl rfl (by decide +kernel) ⟨Nat.le_of_ble_eq_true rfl, Nat.le_of_ble_eq_true rfl⟩) rfl hl.1 rfl (Nat.le_of_ble_eq_true rfl) dX8_lay_3 ⟨Nat.le_refl _, Nat.le_refl _⟩ (fun H locs G => ?_)
  refine lv_if_eq (tgt := 22) hx hb dX8_lay_6 (by decide) (fun c6 => ?_) (fun c6 => ?_)
  · rw [if_pos c6] at hF
    refine lv_aload_n hx hb dX8_lay_22 rfl (lv_at hl 0 rfl) ?_
    refine lv_iconst (v := 1) hx hb dX8_lay_23 (by decide) ?_
    obtain ⟨x24, X24, hx24⟩ : ∃ (Z : Int32) (Y : xS), (Z, Y) = x8_error X 1 := ⟨_, _, rfl⟩
    refine xr_Vi (r0 := x24) (X2 := X24) C hA G (by rw [hx24]; exact (kx8_error zl D ad sa cc tt X 1)) (show kW 0 by decide).2 (xW_c (show kW 0 by decide).1) rfl (cwV 1 C.2.2.2.2.1 gX8_lay_X8_error rfl rfl rfl (by decide +kernel) ⟨Nat.le_of_ble_eq_true rfl, Nat.le_of_ble_eq_true rfl⟩) rfl hl.1 rfl (Nat.le_of_ble_eq_true rfl) dX8_lay_24 ⟨Nat.le_refl _, Nat.le_refl _⟩ (fun H locs G => ?_)
    rw [lt2_e hx24] at hF
    exact hret _ _ _ _ _ _ hF G dX8_lay_27
  · rw [if_neg c6] at hF
    refine lv_iload_n hx hb dX8_lay_9 rfl (lv_at hl 2 rfl) ?_
    refine lv_iconst (v := 0) hx hb dX8_lay_10 (by decide) ?_
    refine lv_aload_n hx hb dX8_lay_11 rfl (lv_at hl 0 rfl) ?_
    refine lv_iload_n hx hb dX8_lay_12 rfl (lv_at hl 1 rfl) ?_
    refine xr_Vi C hA G (kx8_mostLaid zl D ad sa cc tt X what) (show kW 0 by decide).2 (xW_c (show kW 0 by decide).1) rfl (cwV 1 C.2.2.2.2.1 gX8_lay_X8_mostLaid rfl rfl rfl (by decide +kernel) ⟨Nat.le_of_ble_eq_true rfl, Nat.le_of_ble_eq_true rfl⟩) rfl hl.1 rfl (Nat.le_of_ble_eq_true rfl) dX8_lay_13 ⟨Nat.le_refl _, Nat.le_refl _⟩ (fun H locs G => ?_)
    refine xr_ps C hA G (ks_X8_within zl v 0 (x8_mostLaid X what)) (va_cwS 3 C.2.2.2.2.1 gX8_lay_X8_within rfl rfl rfl (by decide +kernel) ⟨Nat.le_of_ble_eq_true rfl, Nat.le_of_ble_eq_true rfl⟩) rfl hl.1 rfl (Nat.le_of_ble_eq_true rfl) dX8_lay_16 ⟨Nat.le_refl _, Nat.le_refl _⟩ (fun H locs G => ?_)
    refine lv_if_ne (tgt := 28) hx hb dX8_lay_19 (by decide) (fun c19 => ?_) (fun c19 => ?_)
    · rw [if_neg c19] at hF
      refine lv_iload_n hx hb dX8_lay_28 rfl (lv_at hl 1 rfl) ?_
      obtain ⟨z3_91, X91, hX91⟩ : ∃ (z3_91 : Int32) (X91 : xS), (z3_91, X91) = ((if what = 0 then (lt (X 1 4) fun (x39 : Int32) => lt (mU X 1 4 v) fun (X45 : xS) => (x39, X45)) else (if what = 1 then (lt (X 1 5) fun (x63 : Int32) => lt (mU X 1 5 v) fun (X69 : xS) => (x63, X69)) else (lt (X 1 6) fun (x82 : Int32) => lt (mU X 1 6 v) fun (X88 : xS) => (x82, X88)))) : Int32 × xS) := ⟨_, _, rfl⟩
      rw [lt2_e hX91] at hF
      have hj91 : ∀ (H : Heap) (locs : List Loc) (ls : Array Slot), lv_has ls 4 [(0, .ref (ad 0)), (1, .int what), (2, .int v), (3, .int z3_91)] → xG D ad sa cc tt zA zs.heap H locs X91 → W zp zl ze ({ frames := 2, cells := 0, slots := 0, locals := 43 } : Room) zs zm zg zb zt zc H locs 0 0 zQ (F0 zm 91 ls []) := by
        intro H locs ls hl G
        refine lv_iload_n hx hb dX8_lay_91 rfl (lv_at hl 3 rfl) ?_
        exact hret _ _ _ _ _ _ hF G dX8_lay_92
      refine lv_if_ne (tgt := 51) hx hb dX8_lay_29 (by decide) (fun c29 => ?_) (fun c29 => ?_)
      · rw [if_neg c29] at hX91
        refine lv_iload_n hx hb dX8_lay_51 rfl (lv_at hl 1 rfl) ?_
        refine lv_iconst (v := 1) hx hb dX8_lay_52 (by decide) ?_
        refine lv_icmp_ne (tgt := 75) hx hb dX8_lay_53 (by decide) (fun c53 => ?_) (fun c53 => ?_)
        · rw [if_neg c53] at hX91
          refine lv_aload_n hx hb dX8_lay_75 rfl (lv_at hl 0 rfl) ?_
          refine xr_get C G (show kW 0 by decide).2 (xW_c (show kW 0 by decide).1) rfl (fun _ h => List.mem_cons_of_mem _ (List.mem_append_left _ (List.mem_append_right _ h))) 0 (by decide) (show Cond.fieldLink RX8 10 "WheatCounts" "estate" "LWheatCounts$Estate;" ∈ _ by decide +kernel) rfl dX8_lay_76 ?_
          refine xr_get C G (show kE 1 by decide).2 (xE_c (show kE 1 by decide).1) rfl (fun _ h => List.mem_cons_of_mem _ (List.mem_append_right _ h)) 6 (by decide) (show Cond.fieldLink RX8 105 "WheatCounts$Estate" "fog" "I" ∈ _ by decide +kernel) rfl dX8_lay_79 ?_
          refine lv_topi (fun x82 hx82 => ?_)
          rw [lt_e hx82] at hX91
          refine lv_istore_n (lv' := [(3, .int x82), (0, .ref (ad 0)), (1, .int what), (2, .int v)]) hx hb dX8_lay_82 rfl hl (by decide) rfl (fun ls hl => ?_)
          refine lv_aload_n hx hb dX8_lay_83 rfl (lv_at hl 1 rfl) ?_
          refine xr_get C G (show kW 0 by decide).2 (xW_c (show kW 0 by decide).1) rfl (fun _ h => List.mem_cons_of_mem _ (List.mem_append_left _ (List.mem_append_right _ h))) 0 (by decide) (show Cond.fieldLink RX8 10 "WheatCounts" "estate" "LWheatCounts$Estate;" ∈ _ by decide +kernel) rfl dX8_lay_84 ?_
          refine lv_iload_n hx hb dX8_lay_87 rfl (lv_at hl 3 rfl) ?_
          refine xr_put C G (show kE 1 by decide).2 (xE_c (show kE 1 by decide).1) rfl (fun _ h => List.mem_cons_of_mem _ (List.mem_append_right _ h)) tyX0 tyX0_ok nmX0 6 (by decide) rfl (show Cond.fieldLink RX8 105 "WheatCounts$Estate" "fog" "I" ∈ _ by decide +kernel) (ty := .int) (by decide +kernel) rfl rfl (Nat.le_of_ble_eq_true rfl) (upd (X 1) 6 v) (xE_c (show kE 1 by decide).1) dX8_lay_88 (fun H locs G => ?_)
          obtain ⟨X88, hX88⟩ : ∃ Z : xS, Z = mU X 1 6 v := ⟨_, rfl⟩
          have G : xG D ad sa cc tt zA zs.heap H locs X88 := by rw [hX88]; exact G
          rw [lt_e hX88] at hX91
          cases hX91
          exact hj91 _ _ _ (lv_sub hl [1, 2, 3, 0] rfl) G
        · rw [if_pos c53] at hX91
          refine lv_aload_n hx hb dX8_lay_56 rfl (lv_at hl 0 rfl) ?_
          refine xr_get C G (show kW 0 by decide).2 (xW_c (show kW 0 by decide).1) rfl (fun _ h => List.mem_cons_of_mem _ (List.mem_append_left _ (List.mem_append_right _ h))) 0 (by decide) (show Cond.fieldLink RX8 10 "WheatCounts" "estate" "LWheatCounts$Estate;" ∈ _ by decide +kernel) rfl dX8_lay_57 ?_
          refine xr_get C G (show kE 1 by decide).2 (xE_c (show kE 1 by decide).1) rfl (fun _ h => List.mem_cons_of_mem _ (List.mem_append_right _ h)) 5 (by decide) (show Cond.fieldLink RX8 102 "WheatCounts$Estate" "lean" "I" ∈ _ by decide +kernel) rfl dX8_lay_60 ?_
          refine lv_topi (fun x63 hx63 => ?_)
          rw [lt_e hx63] at hX91
          refine lv_istore_n (lv' := [(3, .int x63), (0, .ref (ad 0)), (1, .int what), (2, .int v)]) hx hb dX8_lay_63 rfl hl (by decide) rfl (fun ls hl => ?_)
          refine lv_aload_n hx hb dX8_lay_64 rfl (lv_at hl 1 rfl) ?_
          refine xr_get C G (show kW 0 by decide).2 (xW_c (show kW 0 by decide).1) rfl (fun _ h => List.mem_cons_of_mem _ (List.mem_append_left _ (List.mem_append_right _ h))) 0 (by decide) (show Cond.fieldLink RX8 10 "WheatCounts" "estate" "LWheatCounts$Estate;" ∈ _ by decide +kernel) rfl dX8_lay_65 ?_
          refine lv_iload_n hx hb dX8_lay_68 rfl (lv_at hl 3 rfl) ?_
          refine xr_put C G (show kE 1 by decide).2 (xE_c (show kE 1 by decide).1) rfl (fun _ h => List.mem_cons_of_mem _ (List.mem_append_right _ h)) tyX0 tyX0_ok nmX0 5 (by decide) rfl (show Cond.fieldLink RX8 102 "WheatCounts$Estate" "lean" "I" ∈ _ by decide +kernel) (ty := .int) (by decide +kernel) rfl rfl (Nat.le_of_ble_eq_true rfl) (upd (X 1) 5 v) (xE_c (show kE 1 by decide).1) dX8_lay_69 (fun H locs G => ?_)
          obtain ⟨X69, hX69⟩ : ∃ Z : xS, Z = mU X 1 5 v := ⟨_, rfl⟩
          have G : xG D ad sa cc tt zA zs.heap H locs X69 := by rw [hX69]; exact G
          rw [lt_e hX69] at hX91
          refine lv_goto (tgt := 91) hx hb dX8_lay_72 (by decide) ?_
          cases hX91
          exact hj91 _ _ _ (lv_sub hl [1, 2, 3, 0] rfl) G
      · rw [if_pos c29] at hX91
        refine lv_aload_n hx hb dX8_lay_32 rfl (lv_at hl 0 rfl) ?_
        refine xr_get C G (show kW 0 by decide).2 (xW_c (show kW 0 by decide).1) rfl (fun _ h => List.mem_cons_of_mem _ (List.mem_append_left _ (List.mem_append_right _ h))) 0 (by decide) (show Cond.fieldLink RX8 10 "WheatCounts" "estate" "LWheatCounts$Estate;" ∈ _ by decide +kernel) rfl dX8_lay_33 ?_
        refine xr_get C G (show kE 1 by decide).2 (xE_c (show kE 1 by decide).1) rfl (fun _ h => List.mem_cons_of_mem _ (List.mem_append_right _ h)) 4 (by decide) (show Cond.fieldLink RX8 99 "WheatCounts$Estate" "hedges" "I" ∈ _ by decide +kernel) rfl dX8_lay_36 ?_
        refine lv_topi (fun x39 hx39 => ?_)
        rw [lt_e hx39] at hX91
        refine lv_istore_n (lv' := [(3, .int x39), (0, .ref (ad 0)), (1, .int what), (2, .int v)]) hx hb dX8_lay_39 rfl hl (by decide) rfl (fun ls hl => ?_)
        refine lv_aload_n hx hb dX8_lay_40 rfl (lv_at hl 1 rfl) ?_
        refine xr_get C G (show kW 0 by decide).2 (xW_c (show kW 0 by decide).1) rfl (fun _ h => List.mem_cons_of_mem _ (List.mem_append_left _ (List.mem_append_right _ h))) 0 (by decide) (show Cond.fieldLink RX8 10 "WheatCounts" "estate" "LWheatCounts$Estate;" ∈ _ by decide +kernel) rfl dX8_lay_41 ?_
        refine lv_iload_n hx hb dX8_lay_44 rfl (lv_at hl 3 rfl) ?_
        refine xr_put C G (show kE 1 by decide).2 (xE_c (show kE 1 by decide).1) rfl (fun _ h => List.mem_cons_of_mem _ (List.mem_append_right _ h)) tyX0 tyX0_ok nmX0 4 (by decide) rfl (show Cond.fieldLink RX8 99 "WheatCounts$Estate" "hedges" "I" ∈ _ by decide +kernel) (ty := .int) (by decide +kernel) rfl rfl (Nat.le_of_ble_eq_true rfl) (upd (X 1) 4 v) (xE_c (show kE 1 by decide).1) dX8_lay_45 (fun H locs G => ?_)
        obtain ⟨X45, hX45⟩ : ∃ Z : xS, Z = mU X 1 4 v := ⟨_, rfl⟩
        have G : xG D ad sa cc tt zA zs.heap H locs X45 := by rw [hX45]; exact G
        rw [lt_e hX45] at hX91
        refine lv_goto (tgt := 91) hx hb dX8_lay_48 (by decide) ?_
        cases hX91
        exact hj91 _ _ _ (lv_sub hl [1, 2, 3, 0] rfl) G
    · rw [if_pos c19] at hF
      refine lv_aload_n hx hb dX8_lay_22 rfl (lv_at hl 0 rfl) ?_
      refine lv_iconst (v := 1) hx hb dX8_lay_23 (by decide) ?_
      obtain ⟨x24, X24, hx24⟩ : ∃ (Z : Int32) (Y : xS), (Z, Y) = x8_error X 1 := ⟨_, _, rfl⟩
      refine xr_Vi (r0 := x24) (X2 := X24) C hA G (by rw [hx24]; exact (kx8_error zl D ad sa cc tt X 1)) (show kW 0 by decide).2 (xW_c (show kW 0 by decide).1) rfl (cwV 1 C.2.2.2.2.1 gX8_lay_X8_error rfl rfl rfl (by decide +kernel) ⟨Nat.le_of_ble_eq_true rfl, Nat.le_of_ble_eq_true rfl⟩) rfl hl.1 rfl (Nat.le_of_ble_eq_true rfl) dX8_lay_24 ⟨Nat.le_refl _, Nat.le_refl _⟩ (fun H locs G => ?_)
      rw [lt2_e hx24] at hF
      exact hret _ _ _ _ _ _ hF G dX8_lay_27
set_option maxRecDepth 100000 in
set_option maxHeartbeats 4000000 in
theorem kx8_person (zl : Launch) (D : va_G) (ad sa : Nat → Nat) (cc : cT) (tt : tT) (X : xS) (km : Int32) (c : Int32) (hp : eP X 1) : xM zl D ad sa cc tt yX8_person wsX8_person ({ frames := 2, cells := 0, slots := 0, locals := 43 } : Room) [.ref (ad 0), .int km, .int c] X (x8_person X km c) := by
  refine xM_of (code := cX8_person) (nL := 3) (own := RX8) (by decide) rfl rfl (Nat.le_of_ble_eq_true rfl) ?_
  intro zp ze zs zm zg zb zt zc zA zQ C hA hret H locs ls hl G
  have hx := C.1
  have hb := C.2.1
  have hl : lv_has ls 3 [(0, .ref (ad 0)), (1, .int km), (2, .int c)] := hl
  obtain ⟨rM, hF⟩ : ∃ Z : Int32 × xS, Z = x8_person X km c := ⟨_, rfl⟩
  rw [← hF] at hret
  unfold x8_person at hF
  refine lv_iload_n hx hb dX8_person_0 rfl (lv_at hl 1 rfl) ?_
  refine xr_ps C hA G (ks_X8_isKindAndNumber zl km) (va_cwS 1 C.2.2.2.2.1 gX8_person_X8_isKindAndNumber rfl rfl rfl (by decide +kernel) ⟨Nat.le_of_ble_eq_true rfl, Nat.le_of_ble_eq_true rfl⟩) rfl hl.1 rfl (Nat.le_of_ble_eq_true rfl) dX8_person_1 ⟨Nat.le_refl _, Nat.le_refl _⟩ (fun H locs G => ?_)
  refine lv_if_eq (tgt := 15) hx hb dX8_person_4 (by decide) (fun c4 => ?_) (fun c4 => ?_)
  · rw [if_pos c4] at hF
    refine lv_aload_n hx hb dX8_person_15 rfl (lv_at hl 0 rfl) ?_
    refine lv_iconst (v := 1) hx hb dX8_person_16 (by decide) ?_
    obtain ⟨x17, X17, hx17⟩ : ∃ (Z : Int32) (Y : xS), (Z, Y) = x8_error X 1 := ⟨_, _, rfl⟩
    refine xr_Vi (r0 := x17) (X2 := X17) C hA G (by rw [hx17]; exact (kx8_error zl D ad sa cc tt X 1)) (show kW 0 by decide).2 (xW_c (show kW 0 by decide).1) rfl (cwV 1 C.2.2.2.2.1 gX8_person_X8_error rfl rfl rfl (by decide +kernel) ⟨Nat.le_of_ble_eq_true rfl, Nat.le_of_ble_eq_true rfl⟩) rfl hl.1 rfl (Nat.le_of_ble_eq_true rfl) dX8_person_17 ⟨Nat.le_refl _, Nat.le_refl _⟩ (fun H locs G => ?_)
    rw [lt2_e hx17] at hF
    exact hret _ _ _ _ _ _ hF G dX8_person_20
  · rw [if_neg c4] at hF
    refine lv_aload_n hx hb dX8_person_7 rfl (lv_at hl 0 rfl) ?_
    refine lv_iload_n hx hb dX8_person_8 rfl (lv_at hl 2 rfl) ?_
    refine xr_Vi C hA G (kx8_isCell zl D ad sa cc tt X c) (show kW 0 by decide).2 (xW_c (show kW 0 by decide).1) rfl (cwV 1 C.2.2.2.2.1 gX8_person_X8_isCell rfl rfl rfl (by decide +kernel) ⟨Nat.le_of_ble_eq_true rfl, Nat.le_of_ble_eq_true rfl⟩) rfl hl.1 rfl (Nat.le_of_ble_eq_true rfl) dX8_person_9 ⟨Nat.le_refl _, Nat.le_refl _⟩ (fun H locs G => ?_)
    refine lv_if_ne (tgt := 21) hx hb dX8_person_12 (by decide) (fun c12 => ?_) (fun c12 => ?_)
    · rw [if_neg c12] at hF
      refine lv_aload_n hx hb dX8_person_21 rfl (lv_at hl 0 rfl) ?_
      refine xr_get C G (show kW 0 by decide).2 (xW_c (show kW 0 by decide).1) rfl (fun _ h => List.mem_cons_of_mem _ (List.mem_append_left _ (List.mem_append_right _ h))) 0 (by decide) (show Cond.fieldLink RX8 10 "WheatCounts" "estate" "LWheatCounts$Estate;" ∈ _ by decide +kernel) rfl dX8_person_22 ?_
      refine xr_get C G (show kE 1 by decide).2 (xE_c (show kE 1 by decide).1) rfl (fun _ h => List.mem_cons_of_mem _ (List.mem_append_right _ h)) 9 (by decide) (show Cond.fieldLink RX8 68 "WheatCounts$Estate" "people" "I" ∈ _ by decide +kernel) rfl dX8_person_25 ?_
      refine lv_bipush (v := 8) hx hb dX8_person_28 (by decide) ?_
      refine lv_icmp_lt (tgt := 39) hx hb dX8_person_30 (by decide) (fun c30 => ?_) (fun c30 => ?_)
      · rw [if_pos c30] at hF
        refine lv_aload_n hx hb dX8_person_39 rfl (lv_at hl 0 rfl) ?_
        refine xr_get C G (show kW 0 by decide).2 (xW_c (show kW 0 by decide).1) rfl (fun _ h => List.mem_cons_of_mem _ (List.mem_append_left _ (List.mem_append_right _ h))) 0 (by decide) (show Cond.fieldLink RX8 10 "WheatCounts" "estate" "LWheatCounts$Estate;" ∈ _ by decide +kernel) rfl dX8_person_40 ?_
        refine lv_iload_n hx hb dX8_person_43 rfl (lv_at hl 1 rfl) ?_
        refine lv_bipush (v := 10) hx hb dX8_person_44 (by decide) ?_
        refine lv_idiv hx hb dX8_person_46 (by decide) ?_
        refine lv_iload_n hx hb dX8_person_47 rfl (lv_at hl 1 rfl) ?_
        refine lv_bipush (v := 10) hx hb dX8_person_48 (by decide) ?_
        refine lv_irem hx hb dX8_person_50 (by decide) ?_
        refine lv_iload_n hx hb dX8_person_51 rfl (lv_at hl 2 rfl) ?_
        obtain ⟨x52, X52, hx52⟩ : ∃ (Z : Int32) (Y : xS), (Z, Y) = x0_addOne X 1 (km / 10) (km - km / 10 * 10) c := ⟨_, _, rfl⟩
        refine xr_Vi (r0 := x52) (X2 := X52) C hA G (by rw [hx52]; exact (kx0_addOne zl D ad sa cc tt X 1 (km / 10) (km - km / 10 * 10) c (show kE 1 by decide) hp)) (show kE 1 by decide).2 (xE_c (show kE 1 by decide).1) rfl (cwV 3 C.2.2.2.2.1 gX8_person_X0_addOne rfl rfl rfl (by decide +kernel) ⟨Nat.le_of_ble_eq_true rfl, Nat.le_of_ble_eq_true rfl⟩) rfl hl.1 rfl (Nat.le_of_ble_eq_true rfl) dX8_person_52 ⟨Nat.le_refl _, Nat.le_refl _⟩ (fun H locs G => ?_)
        rw [lt2_e hx52] at hF
        exact hret _ _ _ _ _ _ hF G dX8_person_55
      · rw [if_neg c30] at hF
        refine lv_aload_n hx hb dX8_person_33 rfl (lv_at hl 0 rfl) ?_
        refine lv_iconst (v := 4) hx hb dX8_person_34 (by decide) ?_
        obtain ⟨x35, X35, hx35⟩ : ∃ (Z : Int32) (Y : xS), (Z, Y) = x8_error X 4 := ⟨_, _, rfl⟩
        refine xr_Vi (r0 := x35) (X2 := X35) C hA G (by rw [hx35]; exact (kx8_error zl D ad sa cc tt X 4)) (show kW 0 by decide).2 (xW_c (show kW 0 by decide).1) rfl (cwV 1 C.2.2.2.2.1 gX8_person_X8_error rfl rfl rfl (by decide +kernel) ⟨Nat.le_of_ble_eq_true rfl, Nat.le_of_ble_eq_true rfl⟩) rfl hl.1 rfl (Nat.le_of_ble_eq_true rfl) dX8_person_35 ⟨Nat.le_refl _, Nat.le_refl _⟩ (fun H locs G => ?_)
        rw [lt2_e hx35] at hF
        exact hret _ _ _ _ _ _ hF G dX8_person_38
    · rw [if_pos c12] at hF
      refine lv_aload_n hx hb dX8_person_15 rfl (lv_at hl 0 rfl) ?_
      refine lv_iconst (v := 1) hx hb dX8_person_16 (by decide) ?_
      obtain ⟨x17, X17, hx17⟩ : ∃ (Z : Int32) (Y : xS), (Z, Y) = x8_error X 1 := ⟨_, _, rfl⟩
      refine xr_Vi (r0 := x17) (X2 := X17) C hA G (by rw [hx17]; exact (kx8_error zl D ad sa cc tt X 1)) (show kW 0 by decide).2 (xW_c (show kW 0 by decide).1) rfl (cwV 1 C.2.2.2.2.1 gX8_person_X8_error rfl rfl rfl (by decide +kernel) ⟨Nat.le_of_ble_eq_true rfl, Nat.le_of_ble_eq_true rfl⟩) rfl hl.1 rfl (Nat.le_of_ble_eq_true rfl) dX8_person_17 ⟨Nat.le_refl _, Nat.le_refl _⟩ (fun H locs G => ?_)
      rw [lt2_e hx17] at hF
      exact hret _ _ _ _ _ _ hF G dX8_person_20
set_option maxRecDepth 100000 in
set_option maxHeartbeats 4000000 in
theorem kx8_ofPerson (zl : Launch) (D : va_G) (ad sa : Nat → Nat) (cc : cT) (tt : tT) (X : xS) (q : Int32) (what : Int32) (hR : eR tt X 1) : xM zl D ad sa cc tt yX8_ofPerson wsX8_ofPerson ({ frames := 5, cells := 0, slots := 0, locals := 116 } : Room) [.ref (ad 0), .int q, .int what] X (x8_ofPerson tt X q what) := by
  refine xM_of (code := cX8_ofPerson) (nL := 3) (own := RX8) (by decide) rfl rfl (Nat.le_of_ble_eq_true rfl) ?_
  intro zp ze zs zm zg zb zt zc zA zQ C hA hret H locs ls hl G
  have hx := C.1
  have hb := C.2.1
  have hl : lv_has ls 3 [(0, .ref (ad 0)), (1, .int q), (2, .int what)] := hl
  obtain ⟨rM, hF⟩ : ∃ Z : Int32 × xS, Z = x8_ofPerson tt X q what := ⟨_, rfl⟩
  rw [← hF] at hret
  unfold x8_ofPerson at hF
  have hc := hR.1
  have hp := hR.2.1
  have ha := hR.2.2.1
  have ht := hR.2.2.2
  have hc2 := hc.2.1
  have hc3 := hc.2.2
  have hp2 := hp.2
  refine lv_aload_n hx hb dX8_ofPerson_0 rfl (lv_at hl 0 rfl) ?_
  refine lv_iload_n hx hb dX8_ofPerson_1 rfl (lv_at hl 1 rfl) ?_
  refine xr_Vi C hA G (kx8_isPerson zl D ad sa cc tt X q) (show kW 0 by decide).2 (xW_c (show kW 0 by decide).1) rfl (cwV 1 C.2.2.2.2.1 gX8_ofPerson_X8_isPerson rfl rfl rfl (by decide +kernel) ⟨Nat.le_of_ble_eq_true rfl, Nat.le_of_ble_eq_true rfl⟩) rfl hl.1 rfl (Nat.le_of_ble_eq_true rfl) dX8_ofPerson_2 ⟨Nat.le_refl _, Nat.le_refl _⟩ (fun H locs G => ?_)
  refine lv_if_ne (tgt := 14) hx hb dX8_ofPerson_5 (by decide) (fun c5 => ?_) (fun c5 => ?_)
  · rw [if_neg c5] at hF
    have q9 := pers_x hp c5
    have q92 := q9.2
    have q93 : vn q < 8 := by omega
    refine lv_iload_n hx hb dX8_ofPerson_14 rfl (lv_at hl 2 rfl) ?_
    by_cases c15_0 : what = 0
    · rw [if_pos c15_0] at hF
      refine lv_tableIn (off := 45) (tgt := 60) hx hb dX8_ofPerson_15 (by rw [c15_0]; decide) (by rw [c15_0]; decide) (by rw [c15_0]; rfl) (by decide) ?_
      refine lv_aload_n hx hb dX8_ofPerson_60 rfl (lv_at hl 0 rfl) ?_
      refine xr_get C G (show kW 0 by decide).2 (xW_c (show kW 0 by decide).1) rfl (fun _ h => List.mem_cons_of_mem _ (List.mem_append_left _ (List.mem_append_left _ (List.mem_append_right _ h)))) 0 (by decide) (show Cond.fieldLink RX8 10 "WheatCounts" "estate" "LWheatCounts$Estate;" ∈ _ by decide +kernel) rfl dX8_ofPerson_61 ?_
      refine xr_get C G (show kE 1 by decide).2 (xE_c (show kE 1 by decide).1) rfl (fun _ h => List.mem_cons_of_mem _ (List.mem_append_left _ (List.mem_append_right _ h))) 10 (by decide) (show Cond.fieldLink RX8 118 "WheatCounts$Estate" "kind" "[I" ∈ _ by decide +kernel) rfl dX8_ofPerson_64 ?_
      refine lv_iload_n hx hb dX8_ofPerson_67 rfl (lv_at hl 1 rfl) ?_
      refine xr_ald C G (show kI 5 8 by decide).2 (xI_c (show kI 5 8 by decide).1 _) (vn q) q9.1 (by omega) (xI_lt (show kI 5 8 by decide)) dX8_ofPerson_68 ?_
      exact hret _ _ _ _ _ _ hF G dX8_ofPerson_69
    · rw [if_neg c15_0] at hF
      by_cases c15_1 : what = 1
      · rw [if_pos c15_1] at hF
        refine lv_tableIn (off := 55) (tgt := 70) hx hb dX8_ofPerson_15 (by rw [c15_1]; decide) (by rw [c15_1]; decide) (by rw [c15_1]; rfl) (by decide) ?_
        refine lv_aload_n hx hb dX8_ofPerson_70 rfl (lv_at hl 0 rfl) ?_
        refine xr_get C G (show kW 0 by decide).2 (xW_c (show kW 0 by decide).1) rfl (fun _ h => List.mem_cons_of_mem _ (List.mem_append_left _ (List.mem_append_left _ (List.mem_append_right _ h)))) 0 (by decide) (show Cond.fieldLink RX8 10 "WheatCounts" "estate" "LWheatCounts$Estate;" ∈ _ by decide +kernel) rfl dX8_ofPerson_71 ?_
        refine xr_get C G (show kE 1 by decide).2 (xE_c (show kE 1 by decide).1) rfl (fun _ h => List.mem_cons_of_mem _ (List.mem_append_left _ (List.mem_append_right _ h))) 11 (by decide) (show Cond.fieldLink RX8 121 "WheatCounts$Estate" "m" "[I" ∈ _ by decide +kernel) rfl dX8_ofPerson_74 ?_
        refine lv_iload_n hx hb dX8_ofPerson_77 rfl (lv_at hl 1 rfl) ?_
        refine xr_ald C G (show kI 6 8 by decide).2 (xI_c (show kI 6 8 by decide).1 _) (vn q) q9.1 (by omega) (xI_lt (show kI 6 8 by decide)) dX8_ofPerson_78 ?_
        exact hret _ _ _ _ _ _ hF G dX8_ofPerson_79
      · rw [if_neg c15_1] at hF
        by_cases c15_2 : what = 2
        · rw [if_pos c15_2] at hF
          refine lv_tableIn (off := 65) (tgt := 80) hx hb dX8_ofPerson_15 (by rw [c15_2]; decide) (by rw [c15_2]; decide) (by rw [c15_2]; rfl) (by decide) ?_
          refine lv_aload_n hx hb dX8_ofPerson_80 rfl (lv_at hl 0 rfl) ?_
          refine xr_get C G (show kW 0 by decide).2 (xW_c (show kW 0 by decide).1) rfl (fun _ h => List.mem_cons_of_mem _ (List.mem_append_left _ (List.mem_append_left _ (List.mem_append_right _ h)))) 0 (by decide) (show Cond.fieldLink RX8 10 "WheatCounts" "estate" "LWheatCounts$Estate;" ∈ _ by decide +kernel) rfl dX8_ofPerson_81 ?_
          refine xr_get C G (show kE 1 by decide).2 (xE_c (show kE 1 by decide).1) rfl (fun _ h => List.mem_cons_of_mem _ (List.mem_append_left _ (List.mem_append_right _ h))) 12 (by decide) (show Cond.fieldLink RX8 124 "WheatCounts$Estate" "at" "[I" ∈ _ by decide +kernel) rfl dX8_ofPerson_84 ?_
          refine lv_iload_n hx hb dX8_ofPerson_87 rfl (lv_at hl 1 rfl) ?_
          refine xr_ald C G (show kI 7 8 by decide).2 (xI_c (show kI 7 8 by decide).1 _) (vn q) q9.1 (by omega) (xI_lt (show kI 7 8 by decide)) dX8_ofPerson_88 ?_
          exact hret _ _ _ _ _ _ hF G dX8_ofPerson_89
        · rw [if_neg c15_2] at hF
          by_cases c15_3 : what = 3
          · rw [if_pos c15_3] at hF
            refine lv_tableIn (off := 75) (tgt := 90) hx hb dX8_ofPerson_15 (by rw [c15_3]; decide) (by rw [c15_3]; decide) (by rw [c15_3]; rfl) (by decide) ?_
            refine lv_aload_n hx hb dX8_ofPerson_90 rfl (lv_at hl 0 rfl) ?_
            refine xr_get C G (show kW 0 by decide).2 (xW_c (show kW 0 by decide).1) rfl (fun _ h => List.mem_cons_of_mem _ (List.mem_append_left _ (List.mem_append_left _ (List.mem_append_right _ h)))) 0 (by decide) (show Cond.fieldLink RX8 10 "WheatCounts" "estate" "LWheatCounts$Estate;" ∈ _ by decide +kernel) rfl dX8_ofPerson_91 ?_
            refine xr_get C G (show kE 1 by decide).2 (xE_c (show kE 1 by decide).1) rfl (fun _ h => List.mem_cons_of_mem _ (List.mem_append_left _ (List.mem_append_right _ h))) 13 (by decide) (show Cond.fieldLink RX8 127 "WheatCounts$Estate" "way" "[I" ∈ _ by decide +kernel) rfl dX8_ofPerson_94 ?_
            refine lv_iload_n hx hb dX8_ofPerson_97 rfl (lv_at hl 1 rfl) ?_
            refine xr_ald C G (show kI 8 8 by decide).2 (xI_c (show kI 8 8 by decide).1 _) (vn q) q9.1 (by omega) (xI_lt (show kI 8 8 by decide)) dX8_ofPerson_98 ?_
            exact hret _ _ _ _ _ _ hF G dX8_ofPerson_99
          · rw [if_neg c15_3] at hF
            by_cases c15_4 : what = 4
            · rw [if_pos c15_4] at hF
              refine lv_tableIn (off := 85) (tgt := 100) hx hb dX8_ofPerson_15 (by rw [c15_4]; decide) (by rw [c15_4]; decide) (by rw [c15_4]; rfl) (by decide) ?_
              refine lv_aload_n hx hb dX8_ofPerson_100 rfl (lv_at hl 0 rfl) ?_
              refine xr_get C G (show kW 0 by decide).2 (xW_c (show kW 0 by decide).1) rfl (fun _ h => List.mem_cons_of_mem _ (List.mem_append_left _ (List.mem_append_left _ (List.mem_append_right _ h)))) 0 (by decide) (show Cond.fieldLink RX8 10 "WheatCounts" "estate" "LWheatCounts$Estate;" ∈ _ by decide +kernel) rfl dX8_ofPerson_101 ?_
              refine lv_iload_n hx hb dX8_ofPerson_104 rfl (lv_at hl 1 rfl) ?_
              refine lv_aload_n hx hb dX8_ofPerson_105 rfl (lv_at hl 0 rfl) ?_
              refine xr_get C G (show kW 0 by decide).2 (xW_c (show kW 0 by decide).1) rfl (fun _ h => List.mem_cons_of_mem _ (List.mem_append_left _ (List.mem_append_left _ (List.mem_append_right _ h)))) 0 (by decide) (show Cond.fieldLink RX8 10 "WheatCounts" "estate" "LWheatCounts$Estate;" ∈ _ by decide +kernel) rfl dX8_ofPerson_106 ?_
              refine xr_get C G (show kE 1 by decide).2 (xE_c (show kE 1 by decide).1) rfl (fun _ h => List.mem_cons_of_mem _ (List.mem_append_left _ (List.mem_append_right _ h))) 6 (by decide) (show Cond.fieldLink RX8 105 "WheatCounts$Estate" "fog" "I" ∈ _ by decide +kernel) rfl dX8_ofPerson_109 ?_
              refine lv_aload_n hx hb dX8_ofPerson_112 rfl (lv_at hl 0 rfl) ?_
              refine xr_get C G (show kW 0 by decide).2 (xW_c (show kW 0 by decide).1) rfl (fun _ h => List.mem_cons_of_mem _ (List.mem_append_left _ (List.mem_append_left _ (List.mem_append_right _ h)))) 0 (by decide) (show Cond.fieldLink RX8 10 "WheatCounts" "estate" "LWheatCounts$Estate;" ∈ _ by decide +kernel) rfl dX8_ofPerson_113 ?_
              refine xr_get C G (show kE 1 by decide).2 (xE_c (show kE 1 by decide).1) rfl (fun _ h => List.mem_cons_of_mem _ (List.mem_append_left _ (List.mem_append_right _ h))) 7 (by decide) (show Cond.fieldLink RX8 130 "WheatCounts$Estate" "hour" "I" ∈ _ by decide +kernel) rfl dX8_ofPerson_116 ?_
              refine xr_Vi C hA G (kx0_sightIn zl D ad sa cc tt X 1 (vn q) (X 1 6) (X 1 7) (show kE 1 by decide) ht (by omega)) (show kE 1 by decide).2 (xE_c (show kE 1 by decide).1) rfl (cwV 3 C.2.2.2.2.1 gX8_ofPerson_X0_sightIn rfl rfl rfl (by decide +kernel) ⟨Nat.le_of_ble_eq_true rfl, Nat.le_of_ble_eq_true rfl⟩) rfl hl.1 (cons_int rfl (cons_int rfl (cons_int q9.1 rfl))) (Nat.le_of_ble_eq_true rfl) dX8_ofPerson_119 ⟨Nat.le_refl _, Nat.le_refl _⟩ (fun H locs G => ?_)
              exact hret _ _ _ _ _ _ hF G dX8_ofPerson_122
            · rw [if_neg c15_4] at hF
              by_cases c15_5 : what = 5
              · rw [if_pos c15_5] at hF
                refine lv_tableIn (off := 108) (tgt := 123) hx hb dX8_ofPerson_15 (by rw [c15_5]; decide) (by rw [c15_5]; decide) (by rw [c15_5]; rfl) (by decide) ?_
                refine lv_aload_n hx hb dX8_ofPerson_123 rfl (lv_at hl 0 rfl) ?_
                refine xr_get C G (show kW 0 by decide).2 (xW_c (show kW 0 by decide).1) rfl (fun _ h => List.mem_cons_of_mem _ (List.mem_append_left _ (List.mem_append_left _ (List.mem_append_right _ h)))) 0 (by decide) (show Cond.fieldLink RX8 10 "WheatCounts" "estate" "LWheatCounts$Estate;" ∈ _ by decide +kernel) rfl dX8_ofPerson_124 ?_
                refine xr_get C G (show kE 1 by decide).2 (xE_c (show kE 1 by decide).1) rfl (fun _ h => List.mem_cons_of_mem _ (List.mem_append_left _ (List.mem_append_right _ h))) 10 (by decide) (show Cond.fieldLink RX8 118 "WheatCounts$Estate" "kind" "[I" ∈ _ by decide +kernel) rfl dX8_ofPerson_127 ?_
                refine lv_iload_n hx hb dX8_ofPerson_130 rfl (lv_at hl 1 rfl) ?_
                refine xr_ald C G (show kI 5 8 by decide).2 (xI_c (show kI 5 8 by decide).1 _) (vn q) q9.1 (by omega) (xI_lt (show kI 5 8 by decide)) dX8_ofPerson_131 ?_
                refine lv_aload_n hx hb dX8_ofPerson_132 rfl (lv_at hl 0 rfl) ?_
                refine xr_get C G (show kW 0 by decide).2 (xW_c (show kW 0 by decide).1) rfl (fun _ h => List.mem_cons_of_mem _ (List.mem_append_left _ (List.mem_append_left _ (List.mem_append_right _ h)))) 0 (by decide) (show Cond.fieldLink RX8 10 "WheatCounts" "estate" "LWheatCounts$Estate;" ∈ _ by decide +kernel) rfl dX8_ofPerson_133 ?_
                refine xr_get C G (show kE 1 by decide).2 (xE_c (show kE 1 by decide).1) rfl (fun _ h => List.mem_cons_of_mem _ (List.mem_append_left _ (List.mem_append_right _ h))) 11 (by decide) (show Cond.fieldLink RX8 121 "WheatCounts$Estate" "m" "[I" ∈ _ by decide +kernel) rfl dX8_ofPerson_136 ?_
                refine lv_iload_n hx hb dX8_ofPerson_139 rfl (lv_at hl 1 rfl) ?_
                refine xr_ald C G (show kI 6 8 by decide).2 (xI_c (show kI 6 8 by decide).1 _) (vn q) q9.1 (by omega) (xI_lt (show kI 6 8 by decide)) dX8_ofPerson_140 ?_
                refine xr_ps C hA G (ks_X1_countsOf zl (X 5 (vn q)) (X 6 (vn q))) (va_cwS 2 C.2.2.2.2.1 gX8_ofPerson_X1_countsOf rfl rfl rfl (by decide +kernel) ⟨Nat.le_of_ble_eq_true rfl, Nat.le_of_ble_eq_true rfl⟩) rfl hl.1 rfl (Nat.le_of_ble_eq_true rfl) dX8_ofPerson_141 ⟨Nat.le_refl _, Nat.le_refl _⟩ (fun H locs G => ?_)
                exact hret _ _ _ _ _ _ hF G dX8_ofPerson_144
              · rw [if_neg c15_5] at hF
                by_cases c15_6 : what = 6
                · rw [if_pos c15_6] at hF
                  refine lv_tableIn (off := 130) (tgt := 145) hx hb dX8_ofPerson_15 (by rw [c15_6]; decide) (by rw [c15_6]; decide) (by rw [c15_6]; rfl) (by decide) ?_
                  refine lv_aload_n hx hb dX8_ofPerson_145 rfl (lv_at hl 0 rfl) ?_
                  refine xr_get C G (show kW 0 by decide).2 (xW_c (show kW 0 by decide).1) rfl (fun _ h => List.mem_cons_of_mem _ (List.mem_append_left _ (List.mem_append_left _ (List.mem_append_right _ h)))) 0 (by decide) (show Cond.fieldLink RX8 10 "WheatCounts" "estate" "LWheatCounts$Estate;" ∈ _ by decide +kernel) rfl dX8_ofPerson_146 ?_
                  refine lv_iload_n hx hb dX8_ofPerson_149 rfl (lv_at hl 1 rfl) ?_
                  refine lv_aload_n hx hb dX8_ofPerson_150 rfl (lv_at hl 0 rfl) ?_
                  refine xr_get C G (show kW 0 by decide).2 (xW_c (show kW 0 by decide).1) rfl (fun _ h => List.mem_cons_of_mem _ (List.mem_append_left _ (List.mem_append_left _ (List.mem_append_right _ h)))) 0 (by decide) (show Cond.fieldLink RX8 10 "WheatCounts" "estate" "LWheatCounts$Estate;" ∈ _ by decide +kernel) rfl dX8_ofPerson_151 ?_
                  refine xr_get C G (show kE 1 by decide).2 (xE_c (show kE 1 by decide).1) rfl (fun _ h => List.mem_cons_of_mem _ (List.mem_append_left _ (List.mem_append_right _ h))) 1 (by decide) (show Cond.fieldLink RX8 84 "WheatCounts$Estate" "grains" "[I" ∈ _ by decide +kernel) rfl dX8_ofPerson_154 ?_
                  refine lv_aload_n hx hb dX8_ofPerson_157 rfl (lv_at hl 0 rfl) ?_
                  refine xr_get C G (show kW 0 by decide).2 (xW_c (show kW 0 by decide).1) rfl (fun _ h => List.mem_cons_of_mem _ (List.mem_append_left _ (List.mem_append_left _ (List.mem_append_right _ h)))) 0 (by decide) (show Cond.fieldLink RX8 10 "WheatCounts" "estate" "LWheatCounts$Estate;" ∈ _ by decide +kernel) rfl dX8_ofPerson_158 ?_
                  refine xr_get C G (show kE 1 by decide).2 (xE_c (show kE 1 by decide).1) rfl (fun _ h => List.mem_cons_of_mem _ (List.mem_append_left _ (List.mem_append_right _ h))) 12 (by decide) (show Cond.fieldLink RX8 124 "WheatCounts$Estate" "at" "[I" ∈ _ by decide +kernel) rfl dX8_ofPerson_161 ?_
                  refine lv_iload_n hx hb dX8_ofPerson_164 rfl (lv_at hl 1 rfl) ?_
                  refine xr_ald C G (show kI 7 8 by decide).2 (xI_c (show kI 7 8 by decide).1 _) (vn q) q9.1 (by omega) (xI_lt (show kI 7 8 by decide)) dX8_ofPerson_165 ?_
                  refine xr_ald C G (show kI 2 10 by decide).2 (xI_c (show kI 2 10 by decide).1 _) (vn (X 7 (vn q))) (ha _ q93).1 (by have := (ha _ q93).2; omega) (xI_lt (show kI 2 10 by decide)) dX8_ofPerson_166 ?_
                  refine lv_aload_n hx hb dX8_ofPerson_167 rfl (lv_at hl 0 rfl) ?_
                  refine xr_get C G (show kW 0 by decide).2 (xW_c (show kW 0 by decide).1) rfl (fun _ h => List.mem_cons_of_mem _ (List.mem_append_left _ (List.mem_append_left _ (List.mem_append_right _ h)))) 0 (by decide) (show Cond.fieldLink RX8 10 "WheatCounts" "estate" "LWheatCounts$Estate;" ∈ _ by decide +kernel) rfl dX8_ofPerson_168 ?_
                  refine xr_get C G (show kE 1 by decide).2 (xE_c (show kE 1 by decide).1) rfl (fun _ h => List.mem_cons_of_mem _ (List.mem_append_left _ (List.mem_append_right _ h))) 7 (by decide) (show Cond.fieldLink RX8 130 "WheatCounts$Estate" "hour" "I" ∈ _ by decide +kernel) rfl dX8_ofPerson_171 ?_
                  refine xr_Vi C hA G (kx0_takesFrom zl D ad sa cc tt X 1 (vn q) (X 2 (vn (X 7 (vn q)))) (X 1 7) (show kE 1 by decide) ht (by omega)) (show kE 1 by decide).2 (xE_c (show kE 1 by decide).1) rfl (cwV 3 C.2.2.2.2.1 gX8_ofPerson_X0_takesFrom rfl rfl rfl (by decide +kernel) ⟨Nat.le_of_ble_eq_true rfl, Nat.le_of_ble_eq_true rfl⟩) rfl hl.1 (cons_int rfl (cons_int rfl (cons_int q9.1 rfl))) (Nat.le_of_ble_eq_true rfl) dX8_ofPerson_174 ⟨Nat.le_refl _, Nat.le_refl _⟩ (fun H locs G => ?_)
                  exact hret _ _ _ _ _ _ hF G dX8_ofPerson_177
                · rw [if_neg c15_6] at hF
                  by_cases c15_7 : what = 7
                  · rw [if_pos c15_7] at hF
                    refine lv_tableIn (off := 163) (tgt := 178) hx hb dX8_ofPerson_15 (by rw [c15_7]; decide) (by rw [c15_7]; decide) (by rw [c15_7]; rfl) (by decide) ?_
                    refine lv_aload_n hx hb dX8_ofPerson_178 rfl (lv_at hl 0 rfl) ?_
                    refine xr_get C G (show kW 0 by decide).2 (xW_c (show kW 0 by decide).1) rfl (fun _ h => List.mem_cons_of_mem _ (List.mem_append_left _ (List.mem_append_left _ (List.mem_append_right _ h)))) 0 (by decide) (show Cond.fieldLink RX8 10 "WheatCounts" "estate" "LWheatCounts$Estate;" ∈ _ by decide +kernel) rfl dX8_ofPerson_179 ?_
                    refine lv_iload_n hx hb dX8_ofPerson_182 rfl (lv_at hl 1 rfl) ?_
                    refine xr_Vi C hA G (kx0_seenBy zl D ad sa cc tt X 1 (vn q) (show kE 1 by decide) hR (by omega)) (show kE 1 by decide).2 (xE_c (show kE 1 by decide).1) rfl (cwV 1 C.2.2.2.2.1 gX8_ofPerson_X0_seenBy rfl rfl rfl (by decide +kernel) ⟨Nat.le_of_ble_eq_true rfl, Nat.le_of_ble_eq_true rfl⟩) rfl hl.1 (cons_int q9.1 rfl) (Nat.le_of_ble_eq_true rfl) dX8_ofPerson_183 ⟨Nat.le_refl _, Nat.le_refl _⟩ (fun H locs G => ?_)
                    exact hret _ _ _ _ _ _ hF G dX8_ofPerson_186
                  · rw [if_neg c15_7] at hF
                    refine lv_tableOut (tgt := 187) hx hb dX8_ofPerson_15 (sw_out (fun i h1 h2 => by rcases (show i = 0 ∨ i = 1 ∨ i = 2 ∨ i = 3 ∨ i = 4 ∨ i = 5 ∨ i = 6 ∨ i = 7 by omega) with rfl | rfl | rfl | rfl | rfl | rfl | rfl | rfl <;> first | exact fun e9 => c15_0 (Int32.toInt_inj.mp e9) | exact fun e9 => c15_1 (Int32.toInt_inj.mp e9) | exact fun e9 => c15_2 (Int32.toInt_inj.mp e9) | exact fun e9 => c15_3 (Int32.toInt_inj.mp e9) | exact fun e9 => c15_4 (Int32.toInt_inj.mp e9) | exact fun e9 => c15_5 (Int32.toInt_inj.mp e9) | exact fun e9 => c15_6 (Int32.toInt_inj.mp e9) | exact fun e9 => c15_7 (Int32.toInt_inj.mp e9))) (by decide) ?_
                    refine lv_aload_n hx hb dX8_ofPerson_187 rfl (lv_at hl 0 rfl) ?_
                    refine lv_iconst (v := 1) hx hb dX8_ofPerson_188 (by decide) ?_
                    obtain ⟨x189, X189, hx189⟩ : ∃ (Z : Int32) (Y : xS), (Z, Y) = x8_error X 1 := ⟨_, _, rfl⟩
                    refine xr_Vi (r0 := x189) (X2 := X189) C hA G (by rw [hx189]; exact (kx8_error zl D ad sa cc tt X 1)) (show kW 0 by decide).2 (xW_c (show kW 0 by decide).1) rfl (cwV 1 C.2.2.2.2.1 gX8_ofPerson_X8_error rfl rfl rfl (by decide +kernel) ⟨Nat.le_of_ble_eq_true rfl, Nat.le_of_ble_eq_true rfl⟩) rfl hl.1 rfl (Nat.le_of_ble_eq_true rfl) dX8_ofPerson_189 ⟨Nat.le_refl _, Nat.le_refl _⟩ (fun H locs G => ?_)
                    rw [lt2_e hx189] at hF
                    exact hret _ _ _ _ _ _ hF G dX8_ofPerson_192
  · rw [if_pos c5] at hF
    refine lv_aload_n hx hb dX8_ofPerson_8 rfl (lv_at hl 0 rfl) ?_
    refine lv_iconst (v := 1) hx hb dX8_ofPerson_9 (by decide) ?_
    obtain ⟨x10, X10, hx10⟩ : ∃ (Z : Int32) (Y : xS), (Z, Y) = x8_error X 1 := ⟨_, _, rfl⟩
    refine xr_Vi (r0 := x10) (X2 := X10) C hA G (by rw [hx10]; exact (kx8_error zl D ad sa cc tt X 1)) (show kW 0 by decide).2 (xW_c (show kW 0 by decide).1) rfl (cwV 1 C.2.2.2.2.1 gX8_ofPerson_X8_error rfl rfl rfl (by decide +kernel) ⟨Nat.le_of_ble_eq_true rfl, Nat.le_of_ble_eq_true rfl⟩) rfl hl.1 rfl (Nat.le_of_ble_eq_true rfl) dX8_ofPerson_10 ⟨Nat.le_refl _, Nat.le_refl _⟩ (fun H locs G => ?_)
    rw [lt2_e hx10] at hF
    exact hret _ _ _ _ _ _ hF G dX8_ofPerson_13
set_option maxRecDepth 100000 in
set_option maxHeartbeats 4000000 in
theorem kx8_lead (zl : Launch) (D : va_G) (ad sa : Nat → Nat) (cc : cT) (tt : tT) (X : xS) (q : Int32) (what : Int32) (v : Int32) (hp : eP X 1) : xM zl D ad sa cc tt yX8_lead wsX8_lead ({ frames := 2, cells := 0, slots := 0, locals := 43 } : Room) [.ref (ad 0), .int q, .int what, .int v] X (x8_lead X q what v) := by
  refine xM_of (code := cX8_lead) (nL := 6) (own := RX8) (by decide) rfl rfl (Nat.le_of_ble_eq_true rfl) ?_
  intro zp ze zs zm zg zb zt zc zA zQ C hA hret H locs ls hl G
  have hx := C.1
  have hb := C.2.1
  have hl : lv_has ls 6 [(0, .ref (ad 0)), (1, .int q), (2, .int what), (3, .int v)] := hl
  obtain ⟨rM, hF⟩ : ∃ Z : Int32 × xS, Z = x8_lead X q what v := ⟨_, rfl⟩
  rw [← hF] at hret
  unfold x8_lead at hF
  have hp2 := hp.2
  refine lv_aload_n hx hb dX8_lead_0 rfl (lv_at hl 0 rfl) ?_
  refine lv_iload_n hx hb dX8_lead_1 rfl (lv_at hl 1 rfl) ?_
  refine xr_Vi C hA G (kx8_isPerson zl D ad sa cc tt X q) (show kW 0 by decide).2 (xW_c (show kW 0 by decide).1) rfl (cwV 1 C.2.2.2.2.1 gX8_lead_X8_isPerson rfl rfl rfl (by decide +kernel) ⟨Nat.le_of_ble_eq_true rfl, Nat.le_of_ble_eq_true rfl⟩) rfl hl.1 rfl (Nat.le_of_ble_eq_true rfl) dX8_lead_2 ⟨Nat.le_refl _, Nat.le_refl _⟩ (fun H locs G => ?_)
  refine lv_if_eq (tgt := 41) hx hb dX8_lead_5 (by decide) (fun c5 => ?_) (fun c5 => ?_)
  · rw [if_pos c5] at hF
    refine lv_aload_n hx hb dX8_lead_41 rfl (lv_at hl 0 rfl) ?_
    refine lv_iconst (v := 1) hx hb dX8_lead_42 (by decide) ?_
    obtain ⟨x43, X43, hx43⟩ : ∃ (Z : Int32) (Y : xS), (Z, Y) = x8_error X 1 := ⟨_, _, rfl⟩
    refine xr_Vi (r0 := x43) (X2 := X43) C hA G (by rw [hx43]; exact (kx8_error zl D ad sa cc tt X 1)) (show kW 0 by decide).2 (xW_c (show kW 0 by decide).1) rfl (cwV 1 C.2.2.2.2.1 gX8_lead_X8_error rfl rfl rfl (by decide +kernel) ⟨Nat.le_of_ble_eq_true rfl, Nat.le_of_ble_eq_true rfl⟩) rfl hl.1 rfl (Nat.le_of_ble_eq_true rfl) dX8_lead_43 ⟨Nat.le_refl _, Nat.le_refl _⟩ (fun H locs G => ?_)
    rw [lt2_e hx43] at hF
    exact hret _ _ _ _ _ _ hF G dX8_lead_46
  · rw [if_neg c5] at hF
    have q9 := pers_x hp c5
    have q92 := q9.2
    have q93 : vn q < 8 := by omega
    refine lv_iload_n hx hb dX8_lead_8 rfl (lv_at hl 2 rfl) ?_
    refine lv_iconst (v := 0) hx hb dX8_lead_9 (by decide) ?_
    refine lv_iconst (v := 1) hx hb dX8_lead_10 (by decide) ?_
    refine xr_ps C hA G (ks_X8_within zl what 0 1) (va_cwS 3 C.2.2.2.2.1 gX8_lead_X8_within rfl rfl rfl (by decide +kernel) ⟨Nat.le_of_ble_eq_true rfl, Nat.le_of_ble_eq_true rfl⟩) rfl hl.1 rfl (Nat.le_of_ble_eq_true rfl) dX8_lead_11 ⟨Nat.le_refl _, Nat.le_refl _⟩ (fun H locs G => ?_)
    refine lv_if_eq (tgt := 41) hx hb dX8_lead_14 (by decide) (fun c14 => ?_) (fun c14 => ?_)
    · rw [if_pos c14] at hF
      refine lv_aload_n hx hb dX8_lead_41 rfl (lv_at hl 0 rfl) ?_
      refine lv_iconst (v := 1) hx hb dX8_lead_42 (by decide) ?_
      obtain ⟨x43, X43, hx43⟩ : ∃ (Z : Int32) (Y : xS), (Z, Y) = x8_error X 1 := ⟨_, _, rfl⟩
      refine xr_Vi (r0 := x43) (X2 := X43) C hA G (by rw [hx43]; exact (kx8_error zl D ad sa cc tt X 1)) (show kW 0 by decide).2 (xW_c (show kW 0 by decide).1) rfl (cwV 1 C.2.2.2.2.1 gX8_lead_X8_error rfl rfl rfl (by decide +kernel) ⟨Nat.le_of_ble_eq_true rfl, Nat.le_of_ble_eq_true rfl⟩) rfl hl.1 rfl (Nat.le_of_ble_eq_true rfl) dX8_lead_43 ⟨Nat.le_refl _, Nat.le_refl _⟩ (fun H locs G => ?_)
      rw [lt2_e hx43] at hF
      exact hret _ _ _ _ _ _ hF G dX8_lead_46
    · rw [if_neg c14] at hF
      refine lv_iload_n hx hb dX8_lead_17 rfl (lv_at hl 2 rfl) ?_
      refine lv_if_ne (tgt := 32) hx hb dX8_lead_18 (by decide) (fun c18 => ?_) (fun c18 => ?_)
      · rw [if_neg c18] at hF
        refine lv_iload_n hx hb dX8_lead_32 rfl (lv_at hl 3 rfl) ?_
        refine lv_iconst (v := -1) hx hb dX8_lead_33 (by decide) ?_
        refine lv_iconst (v := 1) hx hb dX8_lead_34 (by decide) ?_
        refine xr_ps C hA G (ks_X8_within zl v (-1) 1) (va_cwS 3 C.2.2.2.2.1 gX8_lead_X8_within rfl rfl rfl (by decide +kernel) ⟨Nat.le_of_ble_eq_true rfl, Nat.le_of_ble_eq_true rfl⟩) rfl hl.1 rfl (Nat.le_of_ble_eq_true rfl) dX8_lead_35 ⟨Nat.le_refl _, Nat.le_refl _⟩ (fun H locs G => ?_)
        refine lv_if_ne (tgt := 47) hx hb dX8_lead_38 (by decide) (fun c38 => ?_) (fun c38 => ?_)
        · rw [if_neg c38] at hF
          refine lv_iload_n hx hb dX8_lead_47 rfl (lv_at hl 2 rfl) ?_
          refine lv_if_ne (tgt := 61) hx hb dX8_lead_48 (by decide) (fun c48 => ?_) (fun c48 => ?_)
          · rw [if_neg c48] at hF
            refine lv_aload_n hx hb dX8_lead_61 rfl (lv_at hl 0 rfl) ?_
            refine xr_get C G (show kW 0 by decide).2 (xW_c (show kW 0 by decide).1) rfl (fun _ h => List.mem_cons_of_mem _ (List.mem_append_left _ (List.mem_append_right _ h))) 0 (by decide) (show Cond.fieldLink RX8 10 "WheatCounts" "estate" "LWheatCounts$Estate;" ∈ _ by decide +kernel) rfl dX8_lead_62 ?_
            refine xr_get C G (show kE 1 by decide).2 (xE_c (show kE 1 by decide).1) rfl (fun _ h => List.mem_cons_of_mem _ (List.mem_append_right _ h)) 13 (by decide) (show Cond.fieldLink RX8 127 "WheatCounts$Estate" "way" "[I" ∈ _ by decide +kernel) rfl dX8_lead_65 ?_
            refine lv_astore (lv' := [(4, .ref (ad 8)), (0, .ref (ad 0)), (1, .int q), (2, .int what), (3, .int v)]) hx hb dX8_lead_68 hl (by decide) rfl (fun ls hl => ?_)
            refine lv_aload hx hb dX8_lead_70 (lv_at hl 0 rfl) ?_
            refine lv_iload_n hx hb dX8_lead_72 rfl (lv_at hl 2 rfl) ?_
            refine xr_ald C G (show kI 8 8 by decide).2 (xI_c (show kI 8 8 by decide).1 _) (vn q) q9.1 (by omega) (xI_lt (show kI 8 8 by decide)) dX8_lead_73 ?_
            refine lv_topi (fun x74 hx74 => ?_)
            rw [lt_e hx74] at hF
            refine lv_istore (lv' := [(5, .int x74), (4, .ref (ad 8)), (0, .ref (ad 0)), (1, .int q), (2, .int what), (3, .int v)]) hx hb dX8_lead_74 hl (by decide) rfl (fun ls hl => ?_)
            refine lv_aload hx hb dX8_lead_76 (lv_at hl 1 rfl) ?_
            refine lv_iload_n hx hb dX8_lead_78 rfl (lv_at hl 3 rfl) ?_
            refine lv_iload_n hx hb dX8_lead_79 rfl (lv_at hl 5 rfl) ?_
            refine xr_ast C G (show kI 8 8 by decide).2 (xI_c (show kI 8 8 by decide).1) (vn q) q9.1 (by omega) (xI_lt (show kI 8 8 by decide)) dX8_lead_80 (fun H locs G => ?_)
            obtain ⟨X80, hX80⟩ : ∃ Z : xS, Z = mU X 8 (vn q) v := ⟨_, rfl⟩
            have G : xG D ad sa cc tt zA zs.heap H locs X80 := by rw [hX80]; exact G
            rw [lt_e hX80] at hF
            refine lv_iload hx hb dX8_lead_81 (lv_at hl 0 rfl) ?_
            exact hret _ _ _ _ _ _ hF G dX8_lead_83
          · rw [if_pos c48] at hF
            refine lv_aload_n hx hb dX8_lead_51 rfl (lv_at hl 0 rfl) ?_
            refine xr_get C G (show kW 0 by decide).2 (xW_c (show kW 0 by decide).1) rfl (fun _ h => List.mem_cons_of_mem _ (List.mem_append_left _ (List.mem_append_right _ h))) 0 (by decide) (show Cond.fieldLink RX8 10 "WheatCounts" "estate" "LWheatCounts$Estate;" ∈ _ by decide +kernel) rfl dX8_lead_52 ?_
            refine xr_get C G (show kE 1 by decide).2 (xE_c (show kE 1 by decide).1) rfl (fun _ h => List.mem_cons_of_mem _ (List.mem_append_right _ h)) 12 (by decide) (show Cond.fieldLink RX8 124 "WheatCounts$Estate" "at" "[I" ∈ _ by decide +kernel) rfl dX8_lead_55 ?_
            refine lv_goto (tgt := 68) hx hb dX8_lead_58 (by decide) ?_
            refine lv_astore (lv' := [(4, .ref (ad 7)), (0, .ref (ad 0)), (1, .int q), (2, .int what), (3, .int v)]) hx hb dX8_lead_68 hl (by decide) rfl (fun ls hl => ?_)
            refine lv_aload hx hb dX8_lead_70 (lv_at hl 0 rfl) ?_
            refine lv_iload_n hx hb dX8_lead_72 rfl (lv_at hl 2 rfl) ?_
            refine xr_ald C G (show kI 7 8 by decide).2 (xI_c (show kI 7 8 by decide).1 _) (vn q) q9.1 (by omega) (xI_lt (show kI 7 8 by decide)) dX8_lead_73 ?_
            refine lv_topi (fun x74 hx74 => ?_)
            rw [lt_e hx74] at hF
            refine lv_istore (lv' := [(5, .int x74), (4, .ref (ad 7)), (0, .ref (ad 0)), (1, .int q), (2, .int what), (3, .int v)]) hx hb dX8_lead_74 hl (by decide) rfl (fun ls hl => ?_)
            refine lv_aload hx hb dX8_lead_76 (lv_at hl 1 rfl) ?_
            refine lv_iload_n hx hb dX8_lead_78 rfl (lv_at hl 3 rfl) ?_
            refine lv_iload_n hx hb dX8_lead_79 rfl (lv_at hl 5 rfl) ?_
            refine xr_ast C G (show kI 7 8 by decide).2 (xI_c (show kI 7 8 by decide).1) (vn q) q9.1 (by omega) (xI_lt (show kI 7 8 by decide)) dX8_lead_80 (fun H locs G => ?_)
            obtain ⟨X80, hX80⟩ : ∃ Z : xS, Z = mU X 7 (vn q) v := ⟨_, rfl⟩
            have G : xG D ad sa cc tt zA zs.heap H locs X80 := by rw [hX80]; exact G
            rw [lt_e hX80] at hF
            refine lv_iload hx hb dX8_lead_81 (lv_at hl 0 rfl) ?_
            exact hret _ _ _ _ _ _ hF G dX8_lead_83
        · rw [if_pos c38] at hF
          refine lv_aload_n hx hb dX8_lead_41 rfl (lv_at hl 0 rfl) ?_
          refine lv_iconst (v := 1) hx hb dX8_lead_42 (by decide) ?_
          obtain ⟨x43, X43, hx43⟩ : ∃ (Z : Int32) (Y : xS), (Z, Y) = x8_error X 1 := ⟨_, _, rfl⟩
          refine xr_Vi (r0 := x43) (X2 := X43) C hA G (by rw [hx43]; exact (kx8_error zl D ad sa cc tt X 1)) (show kW 0 by decide).2 (xW_c (show kW 0 by decide).1) rfl (cwV 1 C.2.2.2.2.1 gX8_lead_X8_error rfl rfl rfl (by decide +kernel) ⟨Nat.le_of_ble_eq_true rfl, Nat.le_of_ble_eq_true rfl⟩) rfl hl.1 rfl (Nat.le_of_ble_eq_true rfl) dX8_lead_43 ⟨Nat.le_refl _, Nat.le_refl _⟩ (fun H locs G => ?_)
          rw [lt2_e hx43] at hF
          exact hret _ _ _ _ _ _ hF G dX8_lead_46
      · rw [if_pos c18] at hF
        refine lv_aload_n hx hb dX8_lead_21 rfl (lv_at hl 0 rfl) ?_
        refine lv_iload_n hx hb dX8_lead_22 rfl (lv_at hl 3 rfl) ?_
        refine xr_Vi C hA G (kx8_isCell zl D ad sa cc tt X v) (show kW 0 by decide).2 (xW_c (show kW 0 by decide).1) rfl (cwV 1 C.2.2.2.2.1 gX8_lead_X8_isCell rfl rfl rfl (by decide +kernel) ⟨Nat.le_of_ble_eq_true rfl, Nat.le_of_ble_eq_true rfl⟩) rfl hl.1 rfl (Nat.le_of_ble_eq_true rfl) dX8_lead_23 ⟨Nat.le_refl _, Nat.le_refl _⟩ (fun H locs G => ?_)
        refine lv_if_eq (tgt := 41) hx hb dX8_lead_26 (by decide) (fun c26 => ?_) (fun c26 => ?_)
        · rw [if_pos c26] at hF
          refine lv_aload_n hx hb dX8_lead_41 rfl (lv_at hl 0 rfl) ?_
          refine lv_iconst (v := 1) hx hb dX8_lead_42 (by decide) ?_
          obtain ⟨x43, X43, hx43⟩ : ∃ (Z : Int32) (Y : xS), (Z, Y) = x8_error X 1 := ⟨_, _, rfl⟩
          refine xr_Vi (r0 := x43) (X2 := X43) C hA G (by rw [hx43]; exact (kx8_error zl D ad sa cc tt X 1)) (show kW 0 by decide).2 (xW_c (show kW 0 by decide).1) rfl (cwV 1 C.2.2.2.2.1 gX8_lead_X8_error rfl rfl rfl (by decide +kernel) ⟨Nat.le_of_ble_eq_true rfl, Nat.le_of_ble_eq_true rfl⟩) rfl hl.1 rfl (Nat.le_of_ble_eq_true rfl) dX8_lead_43 ⟨Nat.le_refl _, Nat.le_refl _⟩ (fun H locs G => ?_)
          rw [lt2_e hx43] at hF
          exact hret _ _ _ _ _ _ hF G dX8_lead_46
        · rw [if_neg c26] at hF
          refine lv_goto (tgt := 47) hx hb dX8_lead_29 (by decide) ?_
          refine lv_iload_n hx hb dX8_lead_47 rfl (lv_at hl 2 rfl) ?_
          refine lv_if_ne (tgt := 61) hx hb dX8_lead_48 (by decide) (fun c48 => ?_) (fun c48 => ?_)
          · rw [if_neg c48] at hF
            refine lv_aload_n hx hb dX8_lead_61 rfl (lv_at hl 0 rfl) ?_
            refine xr_get C G (show kW 0 by decide).2 (xW_c (show kW 0 by decide).1) rfl (fun _ h => List.mem_cons_of_mem _ (List.mem_append_left _ (List.mem_append_right _ h))) 0 (by decide) (show Cond.fieldLink RX8 10 "WheatCounts" "estate" "LWheatCounts$Estate;" ∈ _ by decide +kernel) rfl dX8_lead_62 ?_
            refine xr_get C G (show kE 1 by decide).2 (xE_c (show kE 1 by decide).1) rfl (fun _ h => List.mem_cons_of_mem _ (List.mem_append_right _ h)) 13 (by decide) (show Cond.fieldLink RX8 127 "WheatCounts$Estate" "way" "[I" ∈ _ by decide +kernel) rfl dX8_lead_65 ?_
            refine lv_astore (lv' := [(4, .ref (ad 8)), (0, .ref (ad 0)), (1, .int q), (2, .int what), (3, .int v)]) hx hb dX8_lead_68 hl (by decide) rfl (fun ls hl => ?_)
            refine lv_aload hx hb dX8_lead_70 (lv_at hl 0 rfl) ?_
            refine lv_iload_n hx hb dX8_lead_72 rfl (lv_at hl 2 rfl) ?_
            refine xr_ald C G (show kI 8 8 by decide).2 (xI_c (show kI 8 8 by decide).1 _) (vn q) q9.1 (by omega) (xI_lt (show kI 8 8 by decide)) dX8_lead_73 ?_
            refine lv_topi (fun x74 hx74 => ?_)
            rw [lt_e hx74] at hF
            refine lv_istore (lv' := [(5, .int x74), (4, .ref (ad 8)), (0, .ref (ad 0)), (1, .int q), (2, .int what), (3, .int v)]) hx hb dX8_lead_74 hl (by decide) rfl (fun ls hl => ?_)
            refine lv_aload hx hb dX8_lead_76 (lv_at hl 1 rfl) ?_
            refine lv_iload_n hx hb dX8_lead_78 rfl (lv_at hl 3 rfl) ?_
            refine lv_iload_n hx hb dX8_lead_79 rfl (lv_at hl 5 rfl) ?_
            refine xr_ast C G (show kI 8 8 by decide).2 (xI_c (show kI 8 8 by decide).1) (vn q) q9.1 (by omega) (xI_lt (show kI 8 8 by decide)) dX8_lead_80 (fun H locs G => ?_)
            obtain ⟨X80, hX80⟩ : ∃ Z : xS, Z = mU X 8 (vn q) v := ⟨_, rfl⟩
            have G : xG D ad sa cc tt zA zs.heap H locs X80 := by rw [hX80]; exact G
            rw [lt_e hX80] at hF
            refine lv_iload hx hb dX8_lead_81 (lv_at hl 0 rfl) ?_
            exact hret _ _ _ _ _ _ hF G dX8_lead_83
          · rw [if_pos c48] at hF
            refine lv_aload_n hx hb dX8_lead_51 rfl (lv_at hl 0 rfl) ?_
            refine xr_get C G (show kW 0 by decide).2 (xW_c (show kW 0 by decide).1) rfl (fun _ h => List.mem_cons_of_mem _ (List.mem_append_left _ (List.mem_append_right _ h))) 0 (by decide) (show Cond.fieldLink RX8 10 "WheatCounts" "estate" "LWheatCounts$Estate;" ∈ _ by decide +kernel) rfl dX8_lead_52 ?_
            refine xr_get C G (show kE 1 by decide).2 (xE_c (show kE 1 by decide).1) rfl (fun _ h => List.mem_cons_of_mem _ (List.mem_append_right _ h)) 12 (by decide) (show Cond.fieldLink RX8 124 "WheatCounts$Estate" "at" "[I" ∈ _ by decide +kernel) rfl dX8_lead_55 ?_
            refine lv_goto (tgt := 68) hx hb dX8_lead_58 (by decide) ?_
            refine lv_astore (lv' := [(4, .ref (ad 7)), (0, .ref (ad 0)), (1, .int q), (2, .int what), (3, .int v)]) hx hb dX8_lead_68 hl (by decide) rfl (fun ls hl => ?_)
            refine lv_aload hx hb dX8_lead_70 (lv_at hl 0 rfl) ?_
            refine lv_iload_n hx hb dX8_lead_72 rfl (lv_at hl 2 rfl) ?_
            refine xr_ald C G (show kI 7 8 by decide).2 (xI_c (show kI 7 8 by decide).1 _) (vn q) q9.1 (by omega) (xI_lt (show kI 7 8 by decide)) dX8_lead_73 ?_
            refine lv_topi (fun x74 hx74 => ?_)
            rw [lt_e hx74] at hF
            refine lv_istore (lv' := [(5, .int x74), (4, .ref (ad 7)), (0, .ref (ad 0)), (1, .int q), (2, .int what), (3, .int v)]) hx hb dX8_lead_74 hl (by decide) rfl (fun ls hl => ?_)
            refine lv_aload hx hb dX8_lead_76 (lv_at hl 1 rfl) ?_
            refine lv_iload_n hx hb dX8_lead_78 rfl (lv_at hl 3 rfl) ?_
            refine lv_iload_n hx hb dX8_lead_79 rfl (lv_at hl 5 rfl) ?_
            refine xr_ast C G (show kI 7 8 by decide).2 (xI_c (show kI 7 8 by decide).1) (vn q) q9.1 (by omega) (xI_lt (show kI 7 8 by decide)) dX8_lead_80 (fun H locs G => ?_)
            obtain ⟨X80, hX80⟩ : ∃ Z : xS, Z = mU X 7 (vn q) v := ⟨_, rfl⟩
            have G : xG D ad sa cc tt zA zs.heap H locs X80 := by rw [hX80]; exact G
            rw [lt_e hX80] at hF
            refine lv_iload hx hb dX8_lead_81 (lv_at hl 0 rfl) ?_
            exact hret _ _ _ _ _ _ hF G dX8_lead_83
set_option maxRecDepth 100000 in
set_option maxHeartbeats 4000000 in
theorem kx8_become (zl : Launch) (D : va_G) (ad sa : Nat → Nat) (cc : cT) (tt : tT) (X : xS) (q : Int32) (km : Int32) (hp : eP X 1) : xM zl D ad sa cc tt yX8_become wsX8_become ({ frames := 2, cells := 0, slots := 0, locals := 43 } : Room) [.ref (ad 0), .int q, .int km] X (x8_become X q km) := by
  refine xM_of (code := cX8_become) (nL := 4) (own := RX8) (by decide) rfl rfl (Nat.le_of_ble_eq_true rfl) ?_
  intro zp ze zs zm zg zb zt zc zA zQ C hA hret H locs ls hl G
  have hx := C.1
  have hb := C.2.1
  have hl : lv_has ls 4 [(0, .ref (ad 0)), (1, .int q), (2, .int km)] := hl
  obtain ⟨rM, hF⟩ : ∃ Z : Int32 × xS, Z = x8_become X q km := ⟨_, rfl⟩
  rw [← hF] at hret
  unfold x8_become at hF
  have hp2 := hp.2
  refine lv_aload_n hx hb dX8_become_0 rfl (lv_at hl 0 rfl) ?_
  refine lv_iload_n hx hb dX8_become_1 rfl (lv_at hl 1 rfl) ?_
  refine xr_Vi C hA G (kx8_isPerson zl D ad sa cc tt X q) (show kW 0 by decide).2 (xW_c (show kW 0 by decide).1) rfl (cwV 1 C.2.2.2.2.1 gX8_become_X8_isPerson rfl rfl rfl (by decide +kernel) ⟨Nat.le_of_ble_eq_true rfl, Nat.le_of_ble_eq_true rfl⟩) rfl hl.1 rfl (Nat.le_of_ble_eq_true rfl) dX8_become_2 ⟨Nat.le_refl _, Nat.le_refl _⟩ (fun H locs G => ?_)
  refine lv_if_eq (tgt := 15) hx hb dX8_become_5 (by decide) (fun c5 => ?_) (fun c5 => ?_)
  · rw [if_pos c5] at hF
    refine lv_aload_n hx hb dX8_become_15 rfl (lv_at hl 0 rfl) ?_
    refine lv_iconst (v := 1) hx hb dX8_become_16 (by decide) ?_
    obtain ⟨x17, X17, hx17⟩ : ∃ (Z : Int32) (Y : xS), (Z, Y) = x8_error X 1 := ⟨_, _, rfl⟩
    refine xr_Vi (r0 := x17) (X2 := X17) C hA G (by rw [hx17]; exact (kx8_error zl D ad sa cc tt X 1)) (show kW 0 by decide).2 (xW_c (show kW 0 by decide).1) rfl (cwV 1 C.2.2.2.2.1 gX8_become_X8_error rfl rfl rfl (by decide +kernel) ⟨Nat.le_of_ble_eq_true rfl, Nat.le_of_ble_eq_true rfl⟩) rfl hl.1 rfl (Nat.le_of_ble_eq_true rfl) dX8_become_17 ⟨Nat.le_refl _, Nat.le_refl _⟩ (fun H locs G => ?_)
    rw [lt2_e hx17] at hF
    exact hret _ _ _ _ _ _ hF G dX8_become_20
  · rw [if_neg c5] at hF
    have q9 := pers_x hp c5
    have q92 := q9.2
    have q93 : vn q < 8 := by omega
    refine lv_iload_n hx hb dX8_become_8 rfl (lv_at hl 2 rfl) ?_
    refine xr_ps C hA G (ks_X8_isKindAndNumber zl km) (va_cwS 1 C.2.2.2.2.1 gX8_become_X8_isKindAndNumber rfl rfl rfl (by decide +kernel) ⟨Nat.le_of_ble_eq_true rfl, Nat.le_of_ble_eq_true rfl⟩) rfl hl.1 rfl (Nat.le_of_ble_eq_true rfl) dX8_become_9 ⟨Nat.le_refl _, Nat.le_refl _⟩ (fun H locs G => ?_)
    refine lv_if_ne (tgt := 21) hx hb dX8_become_12 (by decide) (fun c12 => ?_) (fun c12 => ?_)
    · rw [if_neg c12] at hF
      refine lv_aload_n hx hb dX8_become_21 rfl (lv_at hl 0 rfl) ?_
      refine xr_get C G (show kW 0 by decide).2 (xW_c (show kW 0 by decide).1) rfl (fun _ h => List.mem_cons_of_mem _ (List.mem_append_left _ (List.mem_append_right _ h))) 0 (by decide) (show Cond.fieldLink RX8 10 "WheatCounts" "estate" "LWheatCounts$Estate;" ∈ _ by decide +kernel) rfl dX8_become_22 ?_
      refine xr_get C G (show kE 1 by decide).2 (xE_c (show kE 1 by decide).1) rfl (fun _ h => List.mem_cons_of_mem _ (List.mem_append_right _ h)) 10 (by decide) (show Cond.fieldLink RX8 118 "WheatCounts$Estate" "kind" "[I" ∈ _ by decide +kernel) rfl dX8_become_25 ?_
      refine lv_iload_n hx hb dX8_become_28 rfl (lv_at hl 1 rfl) ?_
      refine xr_ald C G (show kI 5 8 by decide).2 (xI_c (show kI 5 8 by decide).1 _) (vn q) q9.1 (by omega) (xI_lt (show kI 5 8 by decide)) dX8_become_29 ?_
      refine lv_topi (fun x30 hx30 => ?_)
      rw [lt_e hx30] at hF
      refine lv_istore_n (lv' := [(3, .int x30), (0, .ref (ad 0)), (1, .int q), (2, .int km)]) hx hb dX8_become_30 rfl hl (by decide) rfl (fun ls hl => ?_)
      refine lv_aload_n hx hb dX8_become_31 rfl (lv_at hl 1 rfl) ?_
      refine xr_get C G (show kW 0 by decide).2 (xW_c (show kW 0 by decide).1) rfl (fun _ h => List.mem_cons_of_mem _ (List.mem_append_left _ (List.mem_append_right _ h))) 0 (by decide) (show Cond.fieldLink RX8 10 "WheatCounts" "estate" "LWheatCounts$Estate;" ∈ _ by decide +kernel) rfl dX8_become_32 ?_
      refine xr_get C G (show kE 1 by decide).2 (xE_c (show kE 1 by decide).1) rfl (fun _ h => List.mem_cons_of_mem _ (List.mem_append_right _ h)) 10 (by decide) (show Cond.fieldLink RX8 118 "WheatCounts$Estate" "kind" "[I" ∈ _ by decide +kernel) rfl dX8_become_35 ?_
      refine lv_iload_n hx hb dX8_become_38 rfl (lv_at hl 2 rfl) ?_
      refine lv_iload_n hx hb dX8_become_39 rfl (lv_at hl 3 rfl) ?_
      refine lv_bipush (v := 10) hx hb dX8_become_40 (by decide) ?_
      refine lv_idiv hx hb dX8_become_42 (by decide) ?_
      refine xr_ast C G (show kI 5 8 by decide).2 (xI_c (show kI 5 8 by decide).1) (vn q) q9.1 (by omega) (xI_lt (show kI 5 8 by decide)) dX8_become_43 (fun H locs G => ?_)
      obtain ⟨X43, hX43⟩ : ∃ Z : xS, Z = mU X 5 (vn q) (km / 10) := ⟨_, rfl⟩
      have G : xG D ad sa cc tt zA zs.heap H locs X43 := by rw [hX43]; exact G
      rw [lt_e hX43] at hF
      refine lv_aload_n hx hb dX8_become_44 rfl (lv_at hl 1 rfl) ?_
      refine xr_get C G (show kW 0 by decide).2 (xW_c (show kW 0 by decide).1) rfl (fun _ h => List.mem_cons_of_mem _ (List.mem_append_left _ (List.mem_append_right _ h))) 0 (by decide) (show Cond.fieldLink RX8 10 "WheatCounts" "estate" "LWheatCounts$Estate;" ∈ _ by decide +kernel) rfl dX8_become_45 ?_
      refine xr_get C G (show kE 1 by decide).2 (xE_c (show kE 1 by decide).1) rfl (fun _ h => List.mem_cons_of_mem _ (List.mem_append_right _ h)) 11 (by decide) (show Cond.fieldLink RX8 121 "WheatCounts$Estate" "m" "[I" ∈ _ by decide +kernel) rfl dX8_become_48 ?_
      refine lv_iload_n hx hb dX8_become_51 rfl (lv_at hl 2 rfl) ?_
      refine lv_iload_n hx hb dX8_become_52 rfl (lv_at hl 3 rfl) ?_
      refine lv_bipush (v := 10) hx hb dX8_become_53 (by decide) ?_
      refine lv_irem hx hb dX8_become_55 (by decide) ?_
      refine xr_ast C G (show kI 6 8 by decide).2 (xI_c (show kI 6 8 by decide).1) (vn q) q9.1 (by omega) (xI_lt (show kI 6 8 by decide)) dX8_become_56 (fun H locs G => ?_)
      obtain ⟨X56, hX56⟩ : ∃ Z : xS, Z = mU X43 6 (vn q) (km - km / 10 * 10) := ⟨_, rfl⟩
      have G : xG D ad sa cc tt zA zs.heap H locs X56 := by rw [hX56]; exact G
      rw [lt_e hX56] at hF
      refine lv_iload_n hx hb dX8_become_57 rfl (lv_at hl 0 rfl) ?_
      exact hret _ _ _ _ _ _ hF G dX8_become_58
    · rw [if_pos c12] at hF
      refine lv_aload_n hx hb dX8_become_15 rfl (lv_at hl 0 rfl) ?_
      refine lv_iconst (v := 1) hx hb dX8_become_16 (by decide) ?_
      obtain ⟨x17, X17, hx17⟩ : ∃ (Z : Int32) (Y : xS), (Z, Y) = x8_error X 1 := ⟨_, _, rfl⟩
      refine xr_Vi (r0 := x17) (X2 := X17) C hA G (by rw [hx17]; exact (kx8_error zl D ad sa cc tt X 1)) (show kW 0 by decide).2 (xW_c (show kW 0 by decide).1) rfl (cwV 1 C.2.2.2.2.1 gX8_become_X8_error rfl rfl rfl (by decide +kernel) ⟨Nat.le_of_ble_eq_true rfl, Nat.le_of_ble_eq_true rfl⟩) rfl hl.1 rfl (Nat.le_of_ble_eq_true rfl) dX8_become_17 ⟨Nat.le_refl _, Nat.le_refl _⟩ (fun H locs G => ?_)
      rw [lt2_e hx17] at hF
      exact hret _ _ _ _ _ _ hF G dX8_become_20
set_option maxRecDepth 100000 in
set_option maxHeartbeats 4000000 in
theorem kx8_as (zl : Launch) (D : va_G) (ad sa : Nat → Nat) (cc : cT) (tt : tT) (X : xS) (q : Int32) (kind : Int32) (hp : eP X 1) : xM zl D ad sa cc tt yX8_as wsX8_as ({ frames := 3, cells := 0, slots := 0, locals := 65 } : Room) [.ref (ad 0), .int q, .int kind] X (x8_as X q kind) := by
  refine xM_of (code := cX8_as) (nL := 3) (own := RX8) (by decide) rfl rfl (Nat.le_of_ble_eq_true rfl) ?_
  intro zp ze zs zm zg zb zt zc zA zQ C hA hret H locs ls hl G
  have hx := C.1
  have hb := C.2.1
  have hl : lv_has ls 3 [(0, .ref (ad 0)), (1, .int q), (2, .int kind)] := hl
  obtain ⟨rM, hF⟩ : ∃ Z : Int32 × xS, Z = x8_as X q kind := ⟨_, rfl⟩
  rw [← hF] at hret
  unfold x8_as at hF
  have hp2 := hp.2
  refine lv_aload_n hx hb dX8_as_0 rfl (lv_at hl 0 rfl) ?_
  refine lv_iload_n hx hb dX8_as_1 rfl (lv_at hl 1 rfl) ?_
  refine xr_Vi C hA G (kx8_isPerson zl D ad sa cc tt X q) (show kW 0 by decide).2 (xW_c (show kW 0 by decide).1) rfl (cwV 1 C.2.2.2.2.1 gX8_as_X8_isPerson rfl rfl rfl (by decide +kernel) ⟨Nat.le_of_ble_eq_true rfl, Nat.le_of_ble_eq_true rfl⟩) rfl hl.1 rfl (Nat.le_of_ble_eq_true rfl) dX8_as_2 ⟨Nat.le_refl _, Nat.le_refl _⟩ (fun H locs G => ?_)
  refine lv_if_eq (tgt := 18) hx hb dX8_as_5 (by decide) (fun c5 => ?_) (fun c5 => ?_)
  · rw [if_pos c5] at hF
    refine lv_aload_n hx hb dX8_as_18 rfl (lv_at hl 0 rfl) ?_
    refine lv_iconst (v := 1) hx hb dX8_as_19 (by decide) ?_
    obtain ⟨x20, X20, hx20⟩ : ∃ (Z : Int32) (Y : xS), (Z, Y) = x8_error X 1 := ⟨_, _, rfl⟩
    refine xr_Vi (r0 := x20) (X2 := X20) C hA G (by rw [hx20]; exact (kx8_error zl D ad sa cc tt X 1)) (show kW 0 by decide).2 (xW_c (show kW 0 by decide).1) rfl (cwV 1 C.2.2.2.2.1 gX8_as_X8_error rfl rfl rfl (by decide +kernel) ⟨Nat.le_of_ble_eq_true rfl, Nat.le_of_ble_eq_true rfl⟩) rfl hl.1 rfl (Nat.le_of_ble_eq_true rfl) dX8_as_20 ⟨Nat.le_refl _, Nat.le_refl _⟩ (fun H locs G => ?_)
    rw [lt2_e hx20] at hF
    exact hret _ _ _ _ _ _ hF G dX8_as_23
  · rw [if_neg c5] at hF
    have q9 := pers_x hp c5
    have q92 := q9.2
    have q93 : vn q < 8 := by omega
    refine lv_iload_n hx hb dX8_as_8 rfl (lv_at hl 2 rfl) ?_
    refine lv_iconst (v := 0) hx hb dX8_as_9 (by decide) ?_
    refine lv_bipush (v := 6) hx hb dX8_as_10 (by decide) ?_
    refine xr_ps C hA G (ks_X8_within zl kind 0 6) (va_cwS 3 C.2.2.2.2.1 gX8_as_X8_within rfl rfl rfl (by decide +kernel) ⟨Nat.le_of_ble_eq_true rfl, Nat.le_of_ble_eq_true rfl⟩) rfl hl.1 rfl (Nat.le_of_ble_eq_true rfl) dX8_as_12 ⟨Nat.le_refl _, Nat.le_refl _⟩ (fun H locs G => ?_)
    refine lv_if_ne (tgt := 24) hx hb dX8_as_15 (by decide) (fun c15 => ?_) (fun c15 => ?_)
    · rw [if_neg c15] at hF
      refine lv_aload_n hx hb dX8_as_24 rfl (lv_at hl 0 rfl) ?_
      refine xr_get C G (show kW 0 by decide).2 (xW_c (show kW 0 by decide).1) rfl (fun _ h => List.mem_cons_of_mem _ (List.mem_append_left _ (List.mem_append_right _ h))) 0 (by decide) (show Cond.fieldLink RX8 10 "WheatCounts" "estate" "LWheatCounts$Estate;" ∈ _ by decide +kernel) rfl dX8_as_25 ?_
      refine xr_get C G (show kE 1 by decide).2 (xE_c (show kE 1 by decide).1) rfl (fun _ h => List.mem_cons_of_mem _ (List.mem_append_right _ h)) 10 (by decide) (show Cond.fieldLink RX8 118 "WheatCounts$Estate" "kind" "[I" ∈ _ by decide +kernel) rfl dX8_as_28 ?_
      refine lv_iload_n hx hb dX8_as_31 rfl (lv_at hl 1 rfl) ?_
      refine xr_ald C G (show kI 5 8 by decide).2 (xI_c (show kI 5 8 by decide).1 _) (vn q) q9.1 (by omega) (xI_lt (show kI 5 8 by decide)) dX8_as_32 ?_
      refine lv_iload_n hx hb dX8_as_33 rfl (lv_at hl 2 rfl) ?_
      refine xr_Si C hA G (kx1_isOneOf zl D ad sa cc tt X (X 5 (vn q)) kind) (va_cwS 2 C.2.2.2.2.1 gX8_as_X1_isOneOf rfl rfl rfl (by decide +kernel) ⟨Nat.le_of_ble_eq_true rfl, Nat.le_of_ble_eq_true rfl⟩) rfl hl.1 rfl (Nat.le_of_ble_eq_true rfl) dX8_as_34 ⟨Nat.le_refl _, Nat.le_refl _⟩ (fun H locs G => ?_)
      refine lv_if_ne (tgt := 46) hx hb dX8_as_37 (by decide) (fun c37 => ?_) (fun c37 => ?_)
      · rw [if_neg c37] at hF
        refine lv_aload_n hx hb dX8_as_46 rfl (lv_at hl 0 rfl) ?_
        refine xr_get C G (show kW 0 by decide).2 (xW_c (show kW 0 by decide).1) rfl (fun _ h => List.mem_cons_of_mem _ (List.mem_append_left _ (List.mem_append_right _ h))) 0 (by decide) (show Cond.fieldLink RX8 10 "WheatCounts" "estate" "LWheatCounts$Estate;" ∈ _ by decide +kernel) rfl dX8_as_47 ?_
        refine xr_get C G (show kE 1 by decide).2 (xE_c (show kE 1 by decide).1) rfl (fun _ h => List.mem_cons_of_mem _ (List.mem_append_right _ h)) 11 (by decide) (show Cond.fieldLink RX8 121 "WheatCounts$Estate" "m" "[I" ∈ _ by decide +kernel) rfl dX8_as_50 ?_
        refine lv_iload_n hx hb dX8_as_53 rfl (lv_at hl 1 rfl) ?_
        refine xr_ald C G (show kI 6 8 by decide).2 (xI_c (show kI 6 8 by decide).1 _) (vn q) q9.1 (by omega) (xI_lt (show kI 6 8 by decide)) dX8_as_54 ?_
        exact hret _ _ _ _ _ _ hF G dX8_as_55
      · rw [if_pos c37] at hF
        refine lv_aload_n hx hb dX8_as_40 rfl (lv_at hl 0 rfl) ?_
        refine lv_iconst (v := 5) hx hb dX8_as_41 (by decide) ?_
        obtain ⟨x42, X42, hx42⟩ : ∃ (Z : Int32) (Y : xS), (Z, Y) = x8_error X 5 := ⟨_, _, rfl⟩
        refine xr_Vi (r0 := x42) (X2 := X42) C hA G (by rw [hx42]; exact (kx8_error zl D ad sa cc tt X 5)) (show kW 0 by decide).2 (xW_c (show kW 0 by decide).1) rfl (cwV 1 C.2.2.2.2.1 gX8_as_X8_error rfl rfl rfl (by decide +kernel) ⟨Nat.le_of_ble_eq_true rfl, Nat.le_of_ble_eq_true rfl⟩) rfl hl.1 rfl (Nat.le_of_ble_eq_true rfl) dX8_as_42 ⟨Nat.le_refl _, Nat.le_refl _⟩ (fun H locs G => ?_)
        rw [lt2_e hx42] at hF
        exact hret _ _ _ _ _ _ hF G dX8_as_45
    · rw [if_pos c15] at hF
      refine lv_aload_n hx hb dX8_as_18 rfl (lv_at hl 0 rfl) ?_
      refine lv_iconst (v := 1) hx hb dX8_as_19 (by decide) ?_
      obtain ⟨x20, X20, hx20⟩ : ∃ (Z : Int32) (Y : xS), (Z, Y) = x8_error X 1 := ⟨_, _, rfl⟩
      refine xr_Vi (r0 := x20) (X2 := X20) C hA G (by rw [hx20]; exact (kx8_error zl D ad sa cc tt X 1)) (show kW 0 by decide).2 (xW_c (show kW 0 by decide).1) rfl (cwV 1 C.2.2.2.2.1 gX8_as_X8_error rfl rfl rfl (by decide +kernel) ⟨Nat.le_of_ble_eq_true rfl, Nat.le_of_ble_eq_true rfl⟩) rfl hl.1 rfl (Nat.le_of_ble_eq_true rfl) dX8_as_20 ⟨Nat.le_refl _, Nat.le_refl _⟩ (fun H locs G => ?_)
      rw [lt2_e hx20] at hF
      exact hret _ _ _ _ _ _ hF G dX8_as_23
set_option maxRecDepth 100000 in
set_option maxHeartbeats 4000000 in
theorem kx8_law (zl : Launch) (D : va_G) (ad sa : Nat → Nat) (cc : cT) (tt : tT) (X : xS) (use : Int32) (a : Int32) (b : Int32) (d : Int32) (ht : eT tt X 1) : xM zl D ad sa cc tt yX8_law wsX8_law ({ frames := 3, cells := 0, slots := 0, locals := 72 } : Room) [.ref (ad 0), .int use, .int a, .int b, .int d] X (x8_law tt X use a b d) := by
  refine xM_of (code := cX8_law) (nL := 5) (own := RX8) (by decide) rfl rfl (Nat.le_of_ble_eq_true rfl) ?_
  intro zp ze zs zm zg zb zt zc zA zQ C hA hret H locs ls hl G
  have hx := C.1
  have hb := C.2.1
  have hl : lv_has ls 5 [(0, .ref (ad 0)), (1, .int use), (2, .int a), (3, .int b), (4, .int d)] := hl
  obtain ⟨rM, hF⟩ : ∃ Z : Int32 × xS, Z = x8_law tt X use a b d := ⟨_, rfl⟩
  rw [← hF] at hret
  unfold x8_law at hF
  refine lv_iload_n hx hb dX8_law_0 rfl (lv_at hl 1 rfl) ?_
  refine lv_iconst (v := 0) hx hb dX8_law_1 (by decide) ?_
  refine lv_iconst (v := 1) hx hb dX8_law_2 (by decide) ?_
  refine xr_ps C hA G (ks_X8_within zl use 0 1) (va_cwS 3 C.2.2.2.2.1 gX8_law_X8_within rfl rfl rfl (by decide +kernel) ⟨Nat.le_of_ble_eq_true rfl, Nat.le_of_ble_eq_true rfl⟩) rfl hl.1 rfl (Nat.le_of_ble_eq_true rfl) dX8_law_3 ⟨Nat.le_refl _, Nat.le_refl _⟩ (fun H locs G => ?_)
  refine lv_if_ne (tgt := 15) hx hb dX8_law_6 (by decide) (fun c6 => ?_) (fun c6 => ?_)
  · rw [if_neg c6] at hF
    refine lv_iload_n hx hb dX8_law_15 rfl (lv_at hl 1 rfl) ?_
    refine lv_if_ne (tgt := 33) hx hb dX8_law_16 (by decide) (fun c16 => ?_) (fun c16 => ?_)
    · rw [if_neg c16] at hF
      refine lv_aload_n hx hb dX8_law_33 rfl (lv_at hl 0 rfl) ?_
      refine xr_get C G (show kW 0 by decide).2 (xW_c (show kW 0 by decide).1) rfl (fun _ h => List.mem_cons_of_mem _ (List.mem_append_left _ (List.mem_append_left _ (List.mem_append_right _ h)))) 0 (by decide) (show Cond.fieldLink RX8 10 "WheatCounts" "estate" "LWheatCounts$Estate;" ∈ _ by decide +kernel) rfl dX8_law_34 ?_
      refine lv_iload_n hx hb dX8_law_37 rfl (lv_at hl 2 rfl) ?_
      refine lv_iload_n hx hb dX8_law_38 rfl (lv_at hl 3 rfl) ?_
      refine lv_iload hx hb dX8_law_39 (lv_at hl 4 rfl) ?_
      refine xr_Vi C hA G (kx0_theftGiven zl D ad sa cc tt X 1 a b d (show kE 1 by decide) ht) (show kE 1 by decide).2 (xE_c (show kE 1 by decide).1) rfl (cwV 3 C.2.2.2.2.1 gX8_law_X0_theftGiven rfl rfl rfl (by decide +kernel) ⟨Nat.le_of_ble_eq_true rfl, Nat.le_of_ble_eq_true rfl⟩) rfl hl.1 rfl (Nat.le_of_ble_eq_true rfl) dX8_law_41 ⟨Nat.le_refl _, Nat.le_refl _⟩ (fun H locs G => ?_)
      exact hret _ _ _ _ _ _ hF G dX8_law_44
    · rw [if_pos c16] at hF
      refine lv_aload_n hx hb dX8_law_19 rfl (lv_at hl 0 rfl) ?_
      refine xr_get C G (show kW 0 by decide).2 (xW_c (show kW 0 by decide).1) rfl (fun _ h => List.mem_cons_of_mem _ (List.mem_append_left _ (List.mem_append_left _ (List.mem_append_right _ h)))) 0 (by decide) (show Cond.fieldLink RX8 10 "WheatCounts" "estate" "LWheatCounts$Estate;" ∈ _ by decide +kernel) rfl dX8_law_20 ?_
      refine lv_iload_n hx hb dX8_law_23 rfl (lv_at hl 2 rfl) ?_
      refine lv_iload_n hx hb dX8_law_24 rfl (lv_at hl 3 rfl) ?_
      refine lv_iload hx hb dX8_law_25 (lv_at hl 4 rfl) ?_
      refine xr_Vi C hA G (kx0_sightGiven zl D ad sa cc tt X 1 a b d (show kE 1 by decide) ht) (show kE 1 by decide).2 (xE_c (show kE 1 by decide).1) rfl (cwV 3 C.2.2.2.2.1 gX8_law_X0_sightGiven rfl rfl rfl (by decide +kernel) ⟨Nat.le_of_ble_eq_true rfl, Nat.le_of_ble_eq_true rfl⟩) rfl hl.1 rfl (Nat.le_of_ble_eq_true rfl) dX8_law_27 ⟨Nat.le_refl _, Nat.le_refl _⟩ (fun H locs G => ?_)
      refine lv_goto (tgt := 44) hx hb dX8_law_30 (by decide) ?_
      exact hret _ _ _ _ _ _ hF G dX8_law_44
  · rw [if_pos c6] at hF
    refine lv_aload_n hx hb dX8_law_9 rfl (lv_at hl 0 rfl) ?_
    refine lv_iconst (v := 1) hx hb dX8_law_10 (by decide) ?_
    obtain ⟨x11, X11, hx11⟩ : ∃ (Z : Int32) (Y : xS), (Z, Y) = x8_error X 1 := ⟨_, _, rfl⟩
    refine xr_Vi (r0 := x11) (X2 := X11) C hA G (by rw [hx11]; exact (kx8_error zl D ad sa cc tt X 1)) (show kW 0 by decide).2 (xW_c (show kW 0 by decide).1) rfl (cwV 1 C.2.2.2.2.1 gX8_law_X8_error rfl rfl rfl (by decide +kernel) ⟨Nat.le_of_ble_eq_true rfl, Nat.le_of_ble_eq_true rfl⟩) rfl hl.1 rfl (Nat.le_of_ble_eq_true rfl) dX8_law_11 ⟨Nat.le_refl _, Nat.le_refl _⟩ (fun H locs G => ?_)
    rw [lt2_e hx11] at hF
    exact hret _ _ _ _ _ _ hF G dX8_law_14
set_option maxRecDepth 100000 in
set_option maxHeartbeats 4000000 in
theorem kx8_hours (zl : Launch) (D : va_G) (ad sa : Nat → Nat) (cc : cT) (tt : tT) (X : xS) (n : Int32) (hR : eR tt X 1) : xM zl D ad sa cc tt yX8_hours wsX8_hours ({ frames := 6, cells := 0, slots := 0, locals := 142 } : Room) [.ref (ad 0), .int n] X (x8_hours tt X n) := by
  refine xM_of (code := cX8_hours) (nL := 3) (own := RX8) (by decide) rfl rfl (Nat.le_of_ble_eq_true rfl) ?_
  intro zp ze zs zm zg zb zt zc zA zQ C hA hret H locs ls hl G
  have hx := C.1
  have hb := C.2.1
  have hl : lv_has ls 3 [(0, .ref (ad 0)), (1, .int n)] := hl
  obtain ⟨rM, hF⟩ : ∃ Z : Int32 × xS, Z = x8_hours tt X n := ⟨_, rfl⟩
  rw [← hF] at hret
  unfold x8_hours at hF
  refine lv_iload_n hx hb dX8_hours_0 rfl (lv_at hl 1 rfl) ?_
  refine lv_iconst (v := 1) hx hb dX8_hours_1 (by decide) ?_
  refine lv_bipush (v := 50) hx hb dX8_hours_2 (by decide) ?_
  refine xr_ps C hA G (ks_X8_within zl n 1 50) (va_cwS 3 C.2.2.2.2.1 gX8_hours_X8_within rfl rfl rfl (by decide +kernel) ⟨Nat.le_of_ble_eq_true rfl, Nat.le_of_ble_eq_true rfl⟩) rfl hl.1 rfl (Nat.le_of_ble_eq_true rfl) dX8_hours_4 ⟨Nat.le_refl _, Nat.le_refl _⟩ (fun H locs G => ?_)
  refine lv_if_ne (tgt := 16) hx hb dX8_hours_7 (by decide) (fun c7 => ?_) (fun c7 => ?_)
  · rw [if_neg c7] at hF
    have n9 := in_natq (n := 50) c7 rfl (by decide) (by decide)
    have n92 := n9.2
    refine lv_aload_n hx hb dX8_hours_16 rfl (lv_at hl 0 rfl) ?_
    refine xr_get C G (show kW 0 by decide).2 (xW_c (show kW 0 by decide).1) rfl (fun _ h => List.mem_cons_of_mem _ (List.mem_append_left _ (List.mem_append_left _ (List.mem_append_right _ h)))) 0 (by decide) (show Cond.fieldLink RX8 10 "WheatCounts" "estate" "LWheatCounts$Estate;" ∈ _ by decide +kernel) rfl dX8_hours_17 ?_
    refine xr_get C G (show kE 1 by decide).2 (xE_c (show kE 1 by decide).1) rfl (fun _ h => List.mem_cons_of_mem _ (List.mem_append_left _ (List.mem_append_right _ h))) 7 (by decide) (show Cond.fieldLink RX8 130 "WheatCounts$Estate" "hour" "I" ∈ _ by decide +kernel) rfl dX8_hours_20 ?_
    refine lv_iload_n hx hb dX8_hours_23 rfl (lv_at hl 1 rfl) ?_
    refine lv_iadd hx hb dX8_hours_24 ?_
    refine lv_sipush (v := 9999) hx hb dX8_hours_25 (by decide) ?_
    refine lv_icmp_le (tgt := 37) hx hb dX8_hours_28 (by decide) (fun c28 => ?_) (fun c28 => ?_)
    · rw [if_pos c28] at hF
      refine lv_iconst (v := 0) hx hb dX8_hours_37 (by decide) ?_
      refine lv_istore_n (lv' := [(2, .int 0), (0, .ref (ad 0)), (1, .int n)]) hx hb dX8_hours_38 rfl hl (by decide) rfl (fun ls hl => ?_)
      obtain ⟨X39x, hX39⟩ : ∃ (X39x : xS), X39x = x8_hours_L39 tt X (vn n) := ⟨_, rfl⟩
      rw [lt_e hX39] at hF
      have hR39x : eR tt X39x 1 := by rw [hX39]; exact hr_L39 hR _
      have hrest39 : ∀ (H : Heap) (locs : List Loc) (ls : Array Slot), lv_has ls 3 [(0, .ref (ad 0)), (1, .int n), (2, .int (nI (vn n)))] → xG D ad sa cc tt zA zs.heap H locs X39x → W zp zl ze ({ frames := 6, cells := 0, slots := 0, locals := 142 } : Room) zs zm zg zb zt zc H locs 0 0 zQ (F0 zm 57 ls []) := by
        intro H locs ls hl G
        refine lv_aload_n hx hb dX8_hours_57 rfl (lv_at hl 0 rfl) ?_
        refine xr_get C G (show kW 0 by decide).2 (xW_c (show kW 0 by decide).1) rfl (fun _ h => List.mem_cons_of_mem _ (List.mem_append_left _ (List.mem_append_left _ (List.mem_append_right _ h)))) 0 (by decide) (show Cond.fieldLink RX8 10 "WheatCounts" "estate" "LWheatCounts$Estate;" ∈ _ by decide +kernel) rfl dX8_hours_58 ?_
        refine xr_Vi C hA G (kx0_together zl D ad sa cc tt X39x 1 (show kE 1 by decide) hR39x.1) (show kE 1 by decide).2 (xE_c (show kE 1 by decide).1) rfl (cwV 0 C.2.2.2.2.1 gX8_hours_X0_together rfl rfl rfl (by decide +kernel) ⟨Nat.le_of_ble_eq_true rfl, Nat.le_of_ble_eq_true rfl⟩) rfl hl.1 rfl (Nat.le_of_ble_eq_true rfl) dX8_hours_61 ⟨Nat.le_refl _, Nat.le_refl _⟩ (fun H locs G => ?_)
        exact hret _ _ _ _ _ _ hF G dX8_hours_64
      have hloop39 : ∀ (zj k39 : Nat), zj + k39 = (vn n) → ∀ (X39 : xS), X39 = x8_hours_L39 tt X k39 → ∀ (H : Heap) (locs : List Loc) (ls : Array Slot), lv_has ls 3 [(0, .ref (ad 0)), (1, .int n), (2, .int (nI k39))] → xG D ad sa cc tt zA zs.heap H locs X39 → W zp zl ze ({ frames := 6, cells := 0, slots := 0, locals := 142 } : Room) zs zm zg zb zt zc H locs 0 0 zQ (F0 zm 39 ls []) := by
        intro zj
        induction zj with
        | zero =>
          intro k39 hk X39 hL H locs ls hl G
          have hk : k39 = (vn n) := by omega
          rw [hk] at hL hl
          refine lv_iload_n hx hb dX8_hours_39 rfl (lv_at hl 2 rfl) ?_
          refine lv_iload_n hx hb dX8_hours_40 rfl (lv_at hl 1 rfl) ?_
          refine lv_icmp_ge (tgt := 57) hx hb dX8_hours_41 (by decide) (fun c41 => ?_) (fun c41 => absurd (lp_out (n := (vn n)) n9.1) c41)
          obtain rfl := hL.trans hX39.symm
          exact hrest39 _ _ _ (lv_sub hl [0, 1, 2] rfl) G
        | succ zj ih =>
          intro k39 hk X39 hL H locs ls hl G
          have hkn : k39 < (vn n) := by omega
          obtain ⟨X39s, hS0⟩ : ∃ (X39s : xS), X39s = x8_hours_L39 tt X (k39 + 1) := ⟨_, rfl⟩
          have hS := hS0
          rw [x8_hours_L39_s, lt_e hL] at hS
          have hR39 : eR tt X39 1 := by rw [hL]; exact hr_L39 hR _
          refine lv_iload_n hx hb dX8_hours_39 rfl (lv_at hl 2 rfl) ?_
          refine lv_iload_n hx hb dX8_hours_40 rfl (lv_at hl 1 rfl) ?_
          refine lv_icmp_ge (tgt := 57) hx hb dX8_hours_41 (by decide) (fun c41 => absurd c41 (lp_in (n := (vn n)) n9.1 hkn (by omega))) (fun c41 => ?_)
          refine lv_aload_n hx hb dX8_hours_44 rfl (lv_at hl 0 rfl) ?_
          refine xr_get C G (show kW 0 by decide).2 (xW_c (show kW 0 by decide).1) rfl (fun _ h => List.mem_cons_of_mem _ (List.mem_append_left _ (List.mem_append_left _ (List.mem_append_right _ h)))) 0 (by decide) (show Cond.fieldLink RX8 10 "WheatCounts" "estate" "LWheatCounts$Estate;" ∈ _ by decide +kernel) rfl dX8_hours_45 ?_
          refine xr_Vv C hA G (kx0_passHour zl D ad sa cc tt X39 1 (show kE 1 by decide) hR39) (show kE 1 by decide).2 (xE_c (show kE 1 by decide).1) rfl (cwV 0 C.2.2.2.2.1 gX8_hours_X0_passHour rfl rfl rfl (by decide +kernel) ⟨Nat.le_of_ble_eq_true rfl, Nat.le_of_ble_eq_true rfl⟩) rfl hl.1 rfl (Nat.le_of_ble_eq_true rfl) dX8_hours_48 ⟨Nat.le_refl _, Nat.le_refl _⟩ (fun H locs G => ?_)
          obtain ⟨X48, hX48⟩ : ∃ Z : xS, Z = x0_passHour tt X39 1 := ⟨_, rfl⟩
          have G : xG D ad sa cc tt zA zs.heap H locs X48 := by rw [hX48]; exact G
          rw [lt_e hX48] at hS
          refine lv_iinc (v := nI (k39 + 1)) (lv' := [(2, .int (nI (k39 + 1))), (0, .ref (ad 0)), (1, .int n)]) hx hb dX8_hours_51 hl (k := 2) rfl (nt_add rfl (show (1 : Int32) = nI 1 from rfl)) (by decide) rfl (fun ls hl => ?_)
          refine lv_goto (tgt := 39) hx hb dX8_hours_54 (by decide) ?_
          subst hS
          exact ih (k39 + 1) (by omega) _ hS0 _ _ _ (lv_sub hl [1, 2, 0] rfl) G
      exact hloop39 _ 0 (Nat.add_zero _) _ rfl _ _ _ (lv_sub hl [1, 2, 0] rfl) G
    · rw [if_neg c28] at hF
      refine lv_aload_n hx hb dX8_hours_31 rfl (lv_at hl 0 rfl) ?_
      refine lv_iconst (v := 3) hx hb dX8_hours_32 (by decide) ?_
      obtain ⟨x33, X33, hx33⟩ : ∃ (Z : Int32) (Y : xS), (Z, Y) = x8_error X 3 := ⟨_, _, rfl⟩
      refine xr_Vi (r0 := x33) (X2 := X33) C hA G (by rw [hx33]; exact (kx8_error zl D ad sa cc tt X 3)) (show kW 0 by decide).2 (xW_c (show kW 0 by decide).1) rfl (cwV 1 C.2.2.2.2.1 gX8_hours_X8_error rfl rfl rfl (by decide +kernel) ⟨Nat.le_of_ble_eq_true rfl, Nat.le_of_ble_eq_true rfl⟩) rfl hl.1 rfl (Nat.le_of_ble_eq_true rfl) dX8_hours_33 ⟨Nat.le_refl _, Nat.le_refl _⟩ (fun H locs G => ?_)
      rw [lt2_e hx33] at hF
      exact hret _ _ _ _ _ _ hF G dX8_hours_36
  · rw [if_pos c7] at hF
    refine lv_aload_n hx hb dX8_hours_10 rfl (lv_at hl 0 rfl) ?_
    refine lv_iconst (v := 1) hx hb dX8_hours_11 (by decide) ?_
    obtain ⟨x12, X12, hx12⟩ : ∃ (Z : Int32) (Y : xS), (Z, Y) = x8_error X 1 := ⟨_, _, rfl⟩
    refine xr_Vi (r0 := x12) (X2 := X12) C hA G (by rw [hx12]; exact (kx8_error zl D ad sa cc tt X 1)) (show kW 0 by decide).2 (xW_c (show kW 0 by decide).1) rfl (cwV 1 C.2.2.2.2.1 gX8_hours_X8_error rfl rfl rfl (by decide +kernel) ⟨Nat.le_of_ble_eq_true rfl, Nat.le_of_ble_eq_true rfl⟩) rfl hl.1 rfl (Nat.le_of_ble_eq_true rfl) dX8_hours_12 ⟨Nat.le_refl _, Nat.le_refl _⟩ (fun H locs G => ?_)
    rw [lt2_e hx12] at hF
    exact hret _ _ _ _ _ _ hF G dX8_hours_15
set_option maxRecDepth 100000 in
set_option maxHeartbeats 4000000 in
theorem kx8_loose (zl : Launch) (D : va_G) (ad sa : Nat → Nat) (cc : cT) (tt : tT) (X : xS) (n : Int32) (hR : eR tt X 1) : xM zl D ad sa cc tt yX8_loose wsX8_loose ({ frames := 6, cells := 0, slots := 0, locals := 142 } : Room) [.ref (ad 0), .int n] X (x8_loose tt X n) := by
  refine xM_of (code := cX8_loose) (nL := 3) (own := RX8) (by decide) rfl rfl (Nat.le_of_ble_eq_true rfl) ?_
  intro zp ze zs zm zg zb zt zc zA zQ C hA hret H locs ls hl G
  have hx := C.1
  have hb := C.2.1
  have hl : lv_has ls 3 [(0, .ref (ad 0)), (1, .int n)] := hl
  obtain ⟨rM, hF⟩ : ∃ Z : Int32 × xS, Z = x8_loose tt X n := ⟨_, rfl⟩
  rw [← hF] at hret
  unfold x8_loose at hF
  refine lv_iload_n hx hb dX8_loose_0 rfl (lv_at hl 1 rfl) ?_
  refine lv_iconst (v := 1) hx hb dX8_loose_1 (by decide) ?_
  refine lv_bipush (v := 40) hx hb dX8_loose_2 (by decide) ?_
  refine xr_ps C hA G (ks_X8_within zl n 1 40) (va_cwS 3 C.2.2.2.2.1 gX8_loose_X8_within rfl rfl rfl (by decide +kernel) ⟨Nat.le_of_ble_eq_true rfl, Nat.le_of_ble_eq_true rfl⟩) rfl hl.1 rfl (Nat.le_of_ble_eq_true rfl) dX8_loose_4 ⟨Nat.le_refl _, Nat.le_refl _⟩ (fun H locs G => ?_)
  refine lv_if_ne (tgt := 16) hx hb dX8_loose_7 (by decide) (fun c7 => ?_) (fun c7 => ?_)
  · rw [if_neg c7] at hF
    have n9 := in_natq (n := 40) c7 rfl (by decide) (by decide)
    have n92 := n9.2
    refine lv_aload_n hx hb dX8_loose_16 rfl (lv_at hl 0 rfl) ?_
    refine xr_get C G (show kW 0 by decide).2 (xW_c (show kW 0 by decide).1) rfl (fun _ h => List.mem_cons_of_mem _ (List.mem_append_left _ (List.mem_append_left _ (List.mem_append_right _ h)))) 0 (by decide) (show Cond.fieldLink RX8 10 "WheatCounts" "estate" "LWheatCounts$Estate;" ∈ _ by decide +kernel) rfl dX8_loose_17 ?_
    refine xr_get C G (show kE 1 by decide).2 (xE_c (show kE 1 by decide).1) rfl (fun _ h => List.mem_cons_of_mem _ (List.mem_append_left _ (List.mem_append_right _ h))) 7 (by decide) (show Cond.fieldLink RX8 130 "WheatCounts$Estate" "hour" "I" ∈ _ by decide +kernel) rfl dX8_loose_20 ?_
    refine lv_iload_n hx hb dX8_loose_23 rfl (lv_at hl 1 rfl) ?_
    refine lv_iadd hx hb dX8_loose_24 ?_
    refine lv_sipush (v := 9999) hx hb dX8_loose_25 (by decide) ?_
    refine lv_icmp_le (tgt := 37) hx hb dX8_loose_28 (by decide) (fun c28 => ?_) (fun c28 => ?_)
    · rw [if_pos c28] at hF
      refine lv_iconst (v := 0) hx hb dX8_loose_37 (by decide) ?_
      refine lv_istore_n (lv' := [(2, .int 0), (0, .ref (ad 0)), (1, .int n)]) hx hb dX8_loose_38 rfl hl (by decide) rfl (fun ls hl => ?_)
      obtain ⟨X39x, hX39⟩ : ∃ (X39x : xS), X39x = x8_loose_L39 tt X (vn n) := ⟨_, rfl⟩
      rw [lt_e hX39] at hF
      have hR39x : eR tt X39x 1 := by rw [hX39]; exact lo_L39 hR _
      have hrest39 : ∀ (H : Heap) (locs : List Loc) (ls : Array Slot), lv_has ls 3 [(0, .ref (ad 0)), (1, .int n), (2, .int (nI (vn n)))] → xG D ad sa cc tt zA zs.heap H locs X39x → W zp zl ze ({ frames := 6, cells := 0, slots := 0, locals := 142 } : Room) zs zm zg zb zt zc H locs 0 0 zQ (F0 zm 64 ls []) := by
        intro H locs ls hl G
        refine lv_aload_n hx hb dX8_loose_64 rfl (lv_at hl 0 rfl) ?_
        refine xr_get C G (show kW 0 by decide).2 (xW_c (show kW 0 by decide).1) rfl (fun _ h => List.mem_cons_of_mem _ (List.mem_append_left _ (List.mem_append_left _ (List.mem_append_right _ h)))) 0 (by decide) (show Cond.fieldLink RX8 10 "WheatCounts" "estate" "LWheatCounts$Estate;" ∈ _ by decide +kernel) rfl dX8_loose_65 ?_
        refine xr_Vi C hA G (kx0_together zl D ad sa cc tt X39x 1 (show kE 1 by decide) hR39x.1) (show kE 1 by decide).2 (xE_c (show kE 1 by decide).1) rfl (cwV 0 C.2.2.2.2.1 gX8_loose_X0_together rfl rfl rfl (by decide +kernel) ⟨Nat.le_of_ble_eq_true rfl, Nat.le_of_ble_eq_true rfl⟩) rfl hl.1 rfl (Nat.le_of_ble_eq_true rfl) dX8_loose_68 ⟨Nat.le_refl _, Nat.le_refl _⟩ (fun H locs G => ?_)
        exact hret _ _ _ _ _ _ hF G dX8_loose_71
      have hloop39 : ∀ (zj k39 : Nat), zj + k39 = (vn n) → ∀ (X39 : xS), X39 = x8_loose_L39 tt X k39 → ∀ (H : Heap) (locs : List Loc) (ls : Array Slot), lv_has ls 3 [(0, .ref (ad 0)), (1, .int n), (2, .int (nI k39))] → xG D ad sa cc tt zA zs.heap H locs X39 → W zp zl ze ({ frames := 6, cells := 0, slots := 0, locals := 142 } : Room) zs zm zg zb zt zc H locs 0 0 zQ (F0 zm 39 ls []) := by
        intro zj
        induction zj with
        | zero =>
          intro k39 hk X39 hL H locs ls hl G
          have hk : k39 = (vn n) := by omega
          rw [hk] at hL hl
          refine lv_iload_n hx hb dX8_loose_39 rfl (lv_at hl 2 rfl) ?_
          refine lv_iload_n hx hb dX8_loose_40 rfl (lv_at hl 1 rfl) ?_
          refine lv_icmp_ge (tgt := 64) hx hb dX8_loose_41 (by decide) (fun c41 => ?_) (fun c41 => absurd (lp_out (n := (vn n)) n9.1) c41)
          obtain rfl := hL.trans hX39.symm
          exact hrest39 _ _ _ (lv_sub hl [0, 1, 2] rfl) G
        | succ zj ih =>
          intro k39 hk X39 hL H locs ls hl G
          have hkn : k39 < (vn n) := by omega
          obtain ⟨X39s, hS0⟩ : ∃ (X39s : xS), X39s = x8_loose_L39 tt X (k39 + 1) := ⟨_, rfl⟩
          have hS := hS0
          rw [x8_loose_L39_s, lt_e hL] at hS
          have hR39 : eR tt X39 1 := by rw [hL]; exact lo_L39 hR _
          refine lv_iload_n hx hb dX8_loose_39 rfl (lv_at hl 2 rfl) ?_
          refine lv_iload_n hx hb dX8_loose_40 rfl (lv_at hl 1 rfl) ?_
          refine lv_icmp_ge (tgt := 64) hx hb dX8_loose_41 (by decide) (fun c41 => absurd c41 (lp_in (n := (vn n)) n9.1 hkn (by omega))) (fun c41 => ?_)
          refine lv_aload_n hx hb dX8_loose_44 rfl (lv_at hl 0 rfl) ?_
          refine xr_get C G (show kW 0 by decide).2 (xW_c (show kW 0 by decide).1) rfl (fun _ h => List.mem_cons_of_mem _ (List.mem_append_left _ (List.mem_append_left _ (List.mem_append_right _ h)))) 0 (by decide) (show Cond.fieldLink RX8 10 "WheatCounts" "estate" "LWheatCounts$Estate;" ∈ _ by decide +kernel) rfl dX8_loose_45 ?_
          refine xr_Vv C hA G (kx0_turnOneByDraws zl D ad sa cc tt X39 1 (show kE 1 by decide) hR39.2.1) (show kE 1 by decide).2 (xE_c (show kE 1 by decide).1) rfl (cwV 0 C.2.2.2.2.1 gX8_loose_X0_turnOneByDraws rfl rfl rfl (by decide +kernel) ⟨Nat.le_of_ble_eq_true rfl, Nat.le_of_ble_eq_true rfl⟩) rfl hl.1 rfl (Nat.le_of_ble_eq_true rfl) dX8_loose_48 ⟨Nat.le_refl _, Nat.le_refl _⟩ (fun H locs G => ?_)
          obtain ⟨X48, hX48⟩ : ∃ Z : xS, Z = x0_turnOneByDraws X39 1 := ⟨_, rfl⟩
          have G : xG D ad sa cc tt zA zs.heap H locs X48 := by rw [hX48]; exact G
          rw [lt_e hX48] at hS
          have hR48 : eR tt X48 1 := by rw [hX48]; exact td_R hR39
          refine lv_aload_n hx hb dX8_loose_51 rfl (lv_at hl 0 rfl) ?_
          refine xr_get C G (show kW 0 by decide).2 (xW_c (show kW 0 by decide).1) rfl (fun _ h => List.mem_cons_of_mem _ (List.mem_append_left _ (List.mem_append_left _ (List.mem_append_right _ h)))) 0 (by decide) (show Cond.fieldLink RX8 10 "WheatCounts" "estate" "LWheatCounts$Estate;" ∈ _ by decide +kernel) rfl dX8_loose_52 ?_
          refine xr_Vv C hA G (kx0_passHour zl D ad sa cc tt X48 1 (show kE 1 by decide) hR48) (show kE 1 by decide).2 (xE_c (show kE 1 by decide).1) rfl (cwV 0 C.2.2.2.2.1 gX8_loose_X0_passHour rfl rfl rfl (by decide +kernel) ⟨Nat.le_of_ble_eq_true rfl, Nat.le_of_ble_eq_true rfl⟩) rfl hl.1 rfl (Nat.le_of_ble_eq_true rfl) dX8_loose_55 ⟨Nat.le_refl _, Nat.le_refl _⟩ (fun H locs G => ?_)
          obtain ⟨X55, hX55⟩ : ∃ Z : xS, Z = x0_passHour tt X48 1 := ⟨_, rfl⟩
          have G : xG D ad sa cc tt zA zs.heap H locs X55 := by rw [hX55]; exact G
          rw [lt_e hX55] at hS
          refine lv_iinc (v := nI (k39 + 1)) (lv' := [(2, .int (nI (k39 + 1))), (0, .ref (ad 0)), (1, .int n)]) hx hb dX8_loose_58 hl (k := 2) rfl (nt_add rfl (show (1 : Int32) = nI 1 from rfl)) (by decide) rfl (fun ls hl => ?_)
          refine lv_goto (tgt := 39) hx hb dX8_loose_61 (by decide) ?_
          subst hS
          exact ih (k39 + 1) (by omega) _ hS0 _ _ _ (lv_sub hl [1, 2, 0] rfl) G
      exact hloop39 _ 0 (Nat.add_zero _) _ rfl _ _ _ (lv_sub hl [1, 2, 0] rfl) G
    · rw [if_neg c28] at hF
      refine lv_aload_n hx hb dX8_loose_31 rfl (lv_at hl 0 rfl) ?_
      refine lv_iconst (v := 3) hx hb dX8_loose_32 (by decide) ?_
      obtain ⟨x33, X33, hx33⟩ : ∃ (Z : Int32) (Y : xS), (Z, Y) = x8_error X 3 := ⟨_, _, rfl⟩
      refine xr_Vi (r0 := x33) (X2 := X33) C hA G (by rw [hx33]; exact (kx8_error zl D ad sa cc tt X 3)) (show kW 0 by decide).2 (xW_c (show kW 0 by decide).1) rfl (cwV 1 C.2.2.2.2.1 gX8_loose_X8_error rfl rfl rfl (by decide +kernel) ⟨Nat.le_of_ble_eq_true rfl, Nat.le_of_ble_eq_true rfl⟩) rfl hl.1 rfl (Nat.le_of_ble_eq_true rfl) dX8_loose_33 ⟨Nat.le_refl _, Nat.le_refl _⟩ (fun H locs G => ?_)
      rw [lt2_e hx33] at hF
      exact hret _ _ _ _ _ _ hF G dX8_loose_36
  · rw [if_pos c7] at hF
    refine lv_aload_n hx hb dX8_loose_10 rfl (lv_at hl 0 rfl) ?_
    refine lv_iconst (v := 1) hx hb dX8_loose_11 (by decide) ?_
    obtain ⟨x12, X12, hx12⟩ : ∃ (Z : Int32) (Y : xS), (Z, Y) = x8_error X 1 := ⟨_, _, rfl⟩
    refine xr_Vi (r0 := x12) (X2 := X12) C hA G (by rw [hx12]; exact (kx8_error zl D ad sa cc tt X 1)) (show kW 0 by decide).2 (xW_c (show kW 0 by decide).1) rfl (cwV 1 C.2.2.2.2.1 gX8_loose_X8_error rfl rfl rfl (by decide +kernel) ⟨Nat.le_of_ble_eq_true rfl, Nat.le_of_ble_eq_true rfl⟩) rfl hl.1 rfl (Nat.le_of_ble_eq_true rfl) dX8_loose_12 ⟨Nat.le_refl _, Nat.le_refl _⟩ (fun H locs G => ?_)
    rw [lt2_e hx12] at hF
    exact hret _ _ _ _ _ _ hF G dX8_loose_15
set_option maxRecDepth 100000 in
set_option maxHeartbeats 4000000 in
theorem kx8_evening (zl : Launch) (D : va_G) (ad sa : Nat → Nat) (cc : cT) (tt : tT) (X : xS) (hc : eC X 1) : xM zl D ad sa cc tt yX8_evening wsX8_evening ({ frames := 3, cells := 0, slots := 0, locals := 64 } : Room) [.ref (ad 0)] X (x8_evening X) := by
  refine xM_of (code := cX8_evening) (nL := 1) (own := RX8) (by decide) rfl rfl (Nat.le_of_ble_eq_true rfl) ?_
  intro zp ze zs zm zg zb zt zc zA zQ C hA hret H locs ls hl G
  have hx := C.1
  have hb := C.2.1
  have hl : lv_has ls 1 [(0, .ref (ad 0))] := hl
  obtain ⟨rM, hF⟩ : ∃ Z : Int32 × xS, Z = x8_evening X := ⟨_, rfl⟩
  rw [← hF] at hret
  unfold x8_evening at hF
  refine lv_aload_n hx hb dX8_evening_0 rfl (lv_at hl 0 rfl) ?_
  refine xr_get C G (show kW 0 by decide).2 (xW_c (show kW 0 by decide).1) rfl (fun _ h => List.mem_cons_of_mem _ (List.mem_append_left _ (List.mem_append_right _ h))) 0 (by decide) (show Cond.fieldLink RX8 10 "WheatCounts" "estate" "LWheatCounts$Estate;" ∈ _ by decide +kernel) rfl dX8_evening_1 ?_
  refine xr_Vv C hA G (kx0_addUpLeaning zl D ad sa cc tt X 1 (show kE 1 by decide) hc) (show kE 1 by decide).2 (xE_c (show kE 1 by decide).1) rfl (cwV 0 C.2.2.2.2.1 gX8_evening_X0_addUpLeaning rfl rfl rfl (by decide +kernel) ⟨Nat.le_of_ble_eq_true rfl, Nat.le_of_ble_eq_true rfl⟩) rfl hl.1 rfl (Nat.le_of_ble_eq_true rfl) dX8_evening_4 ⟨Nat.le_refl _, Nat.le_refl _⟩ (fun H locs G => ?_)
  obtain ⟨X4, hX4⟩ : ∃ Z : xS, Z = x0_addUpLeaning X 1 := ⟨_, rfl⟩
  have G : xG D ad sa cc tt zA zs.heap H locs X4 := by rw [hX4]; exact G
  rw [lt_e hX4] at hF
  have hc4 : eC X4 1 := by rw [hX4]; exact al_C hc
  refine lv_aload_n hx hb dX8_evening_7 rfl (lv_at hl 0 rfl) ?_
  refine xr_get C G (show kW 0 by decide).2 (xW_c (show kW 0 by decide).1) rfl (fun _ h => List.mem_cons_of_mem _ (List.mem_append_left _ (List.mem_append_right _ h))) 0 (by decide) (show Cond.fieldLink RX8 10 "WheatCounts" "estate" "LWheatCounts$Estate;" ∈ _ by decide +kernel) rfl dX8_evening_8 ?_
  refine xr_Vi C hA G (kx0_together zl D ad sa cc tt X4 1 (show kE 1 by decide) hc4) (show kE 1 by decide).2 (xE_c (show kE 1 by decide).1) rfl (cwV 0 C.2.2.2.2.1 gX8_evening_X0_together rfl rfl rfl (by decide +kernel) ⟨Nat.le_of_ble_eq_true rfl, Nat.le_of_ble_eq_true rfl⟩) rfl hl.1 rfl (Nat.le_of_ble_eq_true rfl) dX8_evening_11 ⟨Nat.le_refl _, Nat.le_refl _⟩ (fun H locs G => ?_)
  exact hret _ _ _ _ _ _ hF G dX8_evening_14
set_option maxRecDepth 100000 in
set_option maxHeartbeats 4000000 in
theorem kx8_hail (zl : Launch) (D : va_G) (ad sa : Nat → Nat) (cc : cT) (tt : tT) (X : xS) (v : Int32) (hc : eC X 1) : xM zl D ad sa cc tt yX8_hail wsX8_hail ({ frames := 3, cells := 0, slots := 0, locals := 64 } : Room) [.ref (ad 0), .int v] X (x8_hail X v) := by
  refine xM_of (code := cX8_hail) (nL := 2) (own := RX8) (by decide) rfl rfl (Nat.le_of_ble_eq_true rfl) ?_
  intro zp ze zs zm zg zb zt zc zA zQ C hA hret H locs ls hl G
  have hx := C.1
  have hb := C.2.1
  have hl : lv_has ls 2 [(0, .ref (ad 0)), (1, .int v)] := hl
  obtain ⟨rM, hF⟩ : ∃ Z : Int32 × xS, Z = x8_hail X v := ⟨_, rfl⟩
  rw [← hF] at hret
  unfold x8_hail at hF
  refine lv_iload_n hx hb dX8_hail_0 rfl (lv_at hl 1 rfl) ?_
  refine lv_iconst (v := 2) hx hb dX8_hail_1 (by decide) ?_
  refine lv_bipush (v := 9) hx hb dX8_hail_2 (by decide) ?_
  refine xr_ps C hA G (ks_X8_within zl v 2 9) (va_cwS 3 C.2.2.2.2.1 gX8_hail_X8_within rfl rfl rfl (by decide +kernel) ⟨Nat.le_of_ble_eq_true rfl, Nat.le_of_ble_eq_true rfl⟩) rfl hl.1 rfl (Nat.le_of_ble_eq_true rfl) dX8_hail_4 ⟨Nat.le_refl _, Nat.le_refl _⟩ (fun H locs G => ?_)
  refine lv_if_ne (tgt := 16) hx hb dX8_hail_7 (by decide) (fun c7 => ?_) (fun c7 => ?_)
  · rw [if_neg c7] at hF
    refine lv_aload_n hx hb dX8_hail_16 rfl (lv_at hl 0 rfl) ?_
    refine xr_get C G (show kW 0 by decide).2 (xW_c (show kW 0 by decide).1) rfl (fun _ h => List.mem_cons_of_mem _ (List.mem_append_left _ (List.mem_append_right _ h))) 0 (by decide) (show Cond.fieldLink RX8 10 "WheatCounts" "estate" "LWheatCounts$Estate;" ∈ _ by decide +kernel) rfl dX8_hail_17 ?_
    refine lv_iload_n hx hb dX8_hail_20 rfl (lv_at hl 1 rfl) ?_
    refine xr_Vv C hA G (kx0_divideGrains zl D ad sa cc tt X 1 v (show kE 1 by decide) hc) (show kE 1 by decide).2 (xE_c (show kE 1 by decide).1) rfl (cwV 1 C.2.2.2.2.1 gX8_hail_X0_divideGrains rfl rfl rfl (by decide +kernel) ⟨Nat.le_of_ble_eq_true rfl, Nat.le_of_ble_eq_true rfl⟩) rfl hl.1 rfl (Nat.le_of_ble_eq_true rfl) dX8_hail_21 ⟨Nat.le_refl _, Nat.le_refl _⟩ (fun H locs G => ?_)
    obtain ⟨X21, hX21⟩ : ∃ Z : xS, Z = x0_divideGrains X 1 v := ⟨_, rfl⟩
    have G : xG D ad sa cc tt zA zs.heap H locs X21 := by rw [hX21]; exact G
    rw [lt_e hX21] at hF
    have hc21 : eC X21 1 := by rw [hX21]; exact dg_C hc
    refine lv_aload_n hx hb dX8_hail_24 rfl (lv_at hl 0 rfl) ?_
    refine xr_get C G (show kW 0 by decide).2 (xW_c (show kW 0 by decide).1) rfl (fun _ h => List.mem_cons_of_mem _ (List.mem_append_left _ (List.mem_append_right _ h))) 0 (by decide) (show Cond.fieldLink RX8 10 "WheatCounts" "estate" "LWheatCounts$Estate;" ∈ _ by decide +kernel) rfl dX8_hail_25 ?_
    refine xr_Vi C hA G (kx0_together zl D ad sa cc tt X21 1 (show kE 1 by decide) hc21) (show kE 1 by decide).2 (xE_c (show kE 1 by decide).1) rfl (cwV 0 C.2.2.2.2.1 gX8_hail_X0_together rfl rfl rfl (by decide +kernel) ⟨Nat.le_of_ble_eq_true rfl, Nat.le_of_ble_eq_true rfl⟩) rfl hl.1 rfl (Nat.le_of_ble_eq_true rfl) dX8_hail_28 ⟨Nat.le_refl _, Nat.le_refl _⟩ (fun H locs G => ?_)
    exact hret _ _ _ _ _ _ hF G dX8_hail_31
  · rw [if_pos c7] at hF
    refine lv_aload_n hx hb dX8_hail_10 rfl (lv_at hl 0 rfl) ?_
    refine lv_iconst (v := 1) hx hb dX8_hail_11 (by decide) ?_
    obtain ⟨x12, X12, hx12⟩ : ∃ (Z : Int32) (Y : xS), (Z, Y) = x8_error X 1 := ⟨_, _, rfl⟩
    refine xr_Vi (r0 := x12) (X2 := X12) C hA G (by rw [hx12]; exact (kx8_error zl D ad sa cc tt X 1)) (show kW 0 by decide).2 (xW_c (show kW 0 by decide).1) rfl (cwV 1 C.2.2.2.2.1 gX8_hail_X8_error rfl rfl rfl (by decide +kernel) ⟨Nat.le_of_ble_eq_true rfl, Nat.le_of_ble_eq_true rfl⟩) rfl hl.1 rfl (Nat.le_of_ble_eq_true rfl) dX8_hail_12 ⟨Nat.le_refl _, Nat.le_refl _⟩ (fun H locs G => ?_)
    rw [lt2_e hx12] at hF
    exact hret _ _ _ _ _ _ hF G dX8_hail_15
set_option maxRecDepth 100000 in
set_option maxHeartbeats 4000000 in
theorem kx8_then (zl : Launch) (D : va_G) (ad sa : Nat → Nat) (cc : cT) (tt : tT) (X : xS) (n : Int32) (what : Int32) (hR : eR tt X 1) (hz : zR X 1) : xM zl D ad sa cc tt yX8_then wsX8_then ({ frames := 6, cells := 0, slots := 0, locals := 142 } : Room) [.ref (ad 0), .int n, .int what] X (x8_then tt X n what) := by
  refine xM_of (code := cX8_then) (nL := 4) (own := RX8) (by decide) rfl rfl (Nat.le_of_ble_eq_true rfl) ?_
  intro zp ze zs zm zg zb zt zc zA zQ C hA hret H locs ls hl G
  have hx := C.1
  have hb := C.2.1
  have hl : lv_has ls 4 [(0, .ref (ad 0)), (1, .int n), (2, .int what)] := hl
  obtain ⟨rM, hF⟩ : ∃ Z : Int32 × xS, Z = x8_then tt X n what := ⟨_, rfl⟩
  rw [← hF] at hret
  unfold x8_then at hF
  have hc := hR.1
  have hp := hR.2.1
  have ha := hR.2.2.1
  have ht := hR.2.2.2
  have hc2 := hc.2.1
  have hc3 := hc.2.2
  have hp2 := hp.2
  refine lv_iload_n hx hb dX8_then_0 rfl (lv_at hl 1 rfl) ?_
  refine lv_iconst (v := 0) hx hb dX8_then_1 (by decide) ?_
  refine lv_bipush (v := 50) hx hb dX8_then_2 (by decide) ?_
  refine xr_ps C hA G (ks_X8_within zl n 0 50) (va_cwS 3 C.2.2.2.2.1 gX8_then_X8_within rfl rfl rfl (by decide +kernel) ⟨Nat.le_of_ble_eq_true rfl, Nat.le_of_ble_eq_true rfl⟩) rfl hl.1 rfl (Nat.le_of_ble_eq_true rfl) dX8_then_4 ⟨Nat.le_refl _, Nat.le_refl _⟩ (fun H locs G => ?_)
  refine lv_if_eq (tgt := 27) hx hb dX8_then_7 (by decide) (fun c7 => ?_) (fun c7 => ?_)
  · rw [if_pos c7] at hF
    refine lv_aload_n hx hb dX8_then_27 rfl (lv_at hl 0 rfl) ?_
    refine lv_iconst (v := 1) hx hb dX8_then_28 (by decide) ?_
    obtain ⟨x29, X29, hx29⟩ : ∃ (Z : Int32) (Y : xS), (Z, Y) = x8_error X 1 := ⟨_, _, rfl⟩
    refine xr_Vi (r0 := x29) (X2 := X29) C hA G (by rw [hx29]; exact (kx8_error zl D ad sa cc tt X 1)) (show kW 0 by decide).2 (xW_c (show kW 0 by decide).1) rfl (cwV 1 C.2.2.2.2.1 gX8_then_X8_error rfl rfl rfl (by decide +kernel) ⟨Nat.le_of_ble_eq_true rfl, Nat.le_of_ble_eq_true rfl⟩) rfl hl.1 rfl (Nat.le_of_ble_eq_true rfl) dX8_then_29 ⟨Nat.le_refl _, Nat.le_refl _⟩ (fun H locs G => ?_)
    rw [lt2_e hx29] at hF
    exact hret _ _ _ _ _ _ hF G dX8_then_32
  · rw [if_neg c7] at hF
    have n9 := in_natp (n := 50) c7 rfl (by decide)
    have n92 := n9.2
    refine lv_iload_n hx hb dX8_then_10 rfl (lv_at hl 2 rfl) ?_
    refine lv_iconst (v := -1) hx hb dX8_then_11 (by decide) ?_
    refine lv_aload_n hx hb dX8_then_12 rfl (lv_at hl 0 rfl) ?_
    refine xr_get C G (show kW 0 by decide).2 (xW_c (show kW 0 by decide).1) rfl (fun _ h => List.mem_cons_of_mem _ (List.mem_append_left _ (List.mem_append_left _ (List.mem_append_left _ (List.mem_append_right _ h))))) 0 (by decide) (show Cond.fieldLink RX8 10 "WheatCounts" "estate" "LWheatCounts$Estate;" ∈ _ by decide +kernel) rfl dX8_then_13 ?_
    refine xr_get C G (show kE 1 by decide).2 (xE_c (show kE 1 by decide).1) rfl (fun _ h => List.mem_cons_of_mem _ (List.mem_append_left _ (List.mem_append_left _ (List.mem_append_right _ h)))) 0 (by decide) (show Cond.fieldLink RX8 72 "WheatCounts$Estate" "cells" "I" ∈ _ by decide +kernel) rfl dX8_then_16 ?_
    refine lv_iconst (v := 1) hx hb dX8_then_19 (by decide) ?_
    refine lv_isub hx hb dX8_then_20 ?_
    refine xr_ps C hA G (ks_X8_within zl what (-1) ((X 1 0) - 1)) (va_cwS 3 C.2.2.2.2.1 gX8_then_X8_within rfl rfl rfl (by decide +kernel) ⟨Nat.le_of_ble_eq_true rfl, Nat.le_of_ble_eq_true rfl⟩) rfl hl.1 rfl (Nat.le_of_ble_eq_true rfl) dX8_then_21 ⟨Nat.le_refl _, Nat.le_refl _⟩ (fun H locs G => ?_)
    refine lv_if_ne (tgt := 33) hx hb dX8_then_24 (by decide) (fun c24 => ?_) (fun c24 => ?_)
    · rw [if_neg c24] at hF
      refine lv_aload_n hx hb dX8_then_33 rfl (lv_at hl 0 rfl) ?_
      refine xr_get C G (show kW 0 by decide).2 (xW_c (show kW 0 by decide).1) rfl (fun _ h => List.mem_cons_of_mem _ (List.mem_append_left _ (List.mem_append_left _ (List.mem_append_left _ (List.mem_append_right _ h))))) 1 (by decide) (show Cond.fieldLink RX8 16 "WheatCounts" "thought" "LWheatCounts$Estate;" ∈ _ by decide +kernel) rfl dX8_then_34 ?_
      refine lv_aload_n hx hb dX8_then_37 rfl (lv_at hl 0 rfl) ?_
      refine xr_get C G (show kW 0 by decide).2 (xW_c (show kW 0 by decide).1) rfl (fun _ h => List.mem_cons_of_mem _ (List.mem_append_left _ (List.mem_append_left _ (List.mem_append_left _ (List.mem_append_right _ h))))) 0 (by decide) (show Cond.fieldLink RX8 10 "WheatCounts" "estate" "LWheatCounts$Estate;" ∈ _ by decide +kernel) rfl dX8_then_38 ?_
      refine xr_Vv C hA G (kx0_takeOver zl D ad sa cc tt X 13 1 (show kE 13 by decide) (show kE 1 by decide) hz.1 hz.2 (by decide)) (show kE 13 by decide).2 (xE_c (show kE 13 by decide).1) rfl (cwV 1 C.2.2.2.2.1 gX8_then_X0_takeOver rfl rfl rfl (by decide +kernel) ⟨Nat.le_of_ble_eq_true rfl, Nat.le_of_ble_eq_true rfl⟩) rfl hl.1 rfl (Nat.le_of_ble_eq_true rfl) dX8_then_41 ⟨Nat.le_refl _, Nat.le_refl _⟩ (fun H locs G => ?_)
      obtain ⟨X41, hX41⟩ : ∃ Z : xS, Z = x0_takeOver X 13 1 := ⟨_, rfl⟩
      have G : xG D ad sa cc tt zA zs.heap H locs X41 := by rw [hX41]; exact G
      rw [lt_e hX41] at hF
      have hR41 : eR tt X41 13 := by rw [hX41, tk_e hz (by decide) (by decide) (by decide)]; exact tk_R hR (by decide)
      refine lv_iconst (v := 0) hx hb dX8_then_44 (by decide) ?_
      refine lv_istore_n (lv' := [(3, .int 0), (0, .ref (ad 0)), (1, .int n), (2, .int what)]) hx hb dX8_then_45 rfl hl (by decide) rfl (fun ls hl => ?_)
      obtain ⟨X46x, hX46⟩ : ∃ (X46x : xS), X46x = x8_then_L46 tt X41 (vn n) := ⟨_, rfl⟩
      rw [lt_e hX46] at hF
      have hrest46 : ∀ (H : Heap) (locs : List Loc) (ls : Array Slot), lv_has ls 4 [(0, .ref (ad 0)), (1, .int n), (2, .int what), (3, .int (nI (vn n)))] → xG D ad sa cc tt zA zs.heap H locs X46x → W zp zl ze ({ frames := 6, cells := 0, slots := 0, locals := 142 } : Room) zs zm zg zb zt zc H locs 0 0 zQ (F0 zm 64 ls []) := by
        intro H locs ls hl G
        refine lv_iload_n hx hb dX8_then_64 rfl (lv_at hl 2 rfl) ?_
        refine lv_if_ge (tgt := 78) hx hb dX8_then_65 (by decide) (fun c65 => ?_) (fun c65 => ?_)
        · rw [if_pos c65] at hF
          have w9 := xin_pos c24 c65 (nt_sub hc.1 (show (1 : Int32) = nI 1 from rfl) (by omega)) (by omega)
          have w92 := w9.2
          refine lv_aload_n hx hb dX8_then_78 rfl (lv_at hl 0 rfl) ?_
          refine xr_get C G (show kW 0 by decide).2 (xW_c (show kW 0 by decide).1) rfl (fun _ h => List.mem_cons_of_mem _ (List.mem_append_left _ (List.mem_append_left _ (List.mem_append_left _ (List.mem_append_right _ h))))) 1 (by decide) (show Cond.fieldLink RX8 16 "WheatCounts" "thought" "LWheatCounts$Estate;" ∈ _ by decide +kernel) rfl dX8_then_79 ?_
          refine xr_get C G (show kE 13 by decide).2 (xE_c (show kE 13 by decide).1) rfl (fun _ h => List.mem_cons_of_mem _ (List.mem_append_left _ (List.mem_append_left _ (List.mem_append_right _ h)))) 1 (by decide) (show Cond.fieldLink RX8 84 "WheatCounts$Estate" "grains" "[I" ∈ _ by decide +kernel) rfl dX8_then_82 ?_
          refine lv_iload_n hx hb dX8_then_85 rfl (lv_at hl 2 rfl) ?_
          refine xr_ald C G (show kI 14 10 by decide).2 (xI_c (show kI 14 10 by decide).1 _) (vn what) w9.1 (by omega) (xI_lt (show kI 14 10 by decide)) dX8_then_86 ?_
          exact hret _ _ _ _ _ _ hF G dX8_then_87
        · rw [if_neg c65] at hF
          refine lv_aload_n hx hb dX8_then_68 rfl (lv_at hl 0 rfl) ?_
          refine xr_get C G (show kW 0 by decide).2 (xW_c (show kW 0 by decide).1) rfl (fun _ h => List.mem_cons_of_mem _ (List.mem_append_left _ (List.mem_append_left _ (List.mem_append_left _ (List.mem_append_right _ h))))) 1 (by decide) (show Cond.fieldLink RX8 16 "WheatCounts" "thought" "LWheatCounts$Estate;" ∈ _ by decide +kernel) rfl dX8_then_69 ?_
          refine xr_get C G (show kE 13 by decide).2 (xE_c (show kE 13 by decide).1) rfl (fun _ h => List.mem_cons_of_mem _ (List.mem_append_left _ (List.mem_append_left _ (List.mem_append_right _ h)))) 8 (by decide) (show Cond.fieldLink RX8 214 "WheatCounts$Estate" "stolen" "I" ∈ _ by decide +kernel) rfl dX8_then_72 ?_
          refine lv_goto (tgt := 87) hx hb dX8_then_75 (by decide) ?_
          exact hret _ _ _ _ _ _ hF G dX8_then_87
      have hloop46 : ∀ (zj k46 : Nat), zj + k46 = (vn n) → ∀ (X46 : xS), X46 = x8_then_L46 tt X41 k46 → ∀ (H : Heap) (locs : List Loc) (ls : Array Slot), lv_has ls 4 [(0, .ref (ad 0)), (1, .int n), (2, .int what), (3, .int (nI k46))] → xG D ad sa cc tt zA zs.heap H locs X46 → W zp zl ze ({ frames := 6, cells := 0, slots := 0, locals := 142 } : Room) zs zm zg zb zt zc H locs 0 0 zQ (F0 zm 46 ls []) := by
        intro zj
        induction zj with
        | zero =>
          intro k46 hk X46 hL H locs ls hl G
          have hk : k46 = (vn n) := by omega
          rw [hk] at hL hl
          refine lv_iload_n hx hb dX8_then_46 rfl (lv_at hl 3 rfl) ?_
          refine lv_iload_n hx hb dX8_then_47 rfl (lv_at hl 1 rfl) ?_
          refine lv_icmp_ge (tgt := 64) hx hb dX8_then_48 (by decide) (fun c48 => ?_) (fun c48 => absurd (lp_out (n := (vn n)) n9.1) c48)
          obtain rfl := hL.trans hX46.symm
          exact hrest46 _ _ _ (lv_sub hl [0, 1, 2, 3] rfl) G
        | succ zj ih =>
          intro k46 hk X46 hL H locs ls hl G
          have hkn : k46 < (vn n) := by omega
          obtain ⟨X46s, hS0⟩ : ∃ (X46s : xS), X46s = x8_then_L46 tt X41 (k46 + 1) := ⟨_, rfl⟩
          have hS := hS0
          rw [x8_then_L46_s, lt_e hL] at hS
          have hR46 : eR tt X46 13 := by rw [hL]; exact th_L46 hR41 _
          refine lv_iload_n hx hb dX8_then_46 rfl (lv_at hl 3 rfl) ?_
          refine lv_iload_n hx hb dX8_then_47 rfl (lv_at hl 1 rfl) ?_
          refine lv_icmp_ge (tgt := 64) hx hb dX8_then_48 (by decide) (fun c48 => absurd c48 (lp_in (n := (vn n)) n9.1 hkn (by omega))) (fun c48 => ?_)
          refine lv_aload_n hx hb dX8_then_51 rfl (lv_at hl 0 rfl) ?_
          refine xr_get C G (show kW 0 by decide).2 (xW_c (show kW 0 by decide).1) rfl (fun _ h => List.mem_cons_of_mem _ (List.mem_append_left _ (List.mem_append_left _ (List.mem_append_left _ (List.mem_append_right _ h))))) 1 (by decide) (show Cond.fieldLink RX8 16 "WheatCounts" "thought" "LWheatCounts$Estate;" ∈ _ by decide +kernel) rfl dX8_then_52 ?_
          refine xr_Vv C hA G (kx0_passHour zl D ad sa cc tt X46 13 (show kE 13 by decide) hR46) (show kE 13 by decide).2 (xE_c (show kE 13 by decide).1) rfl (cwV 0 C.2.2.2.2.1 gX8_then_X0_passHour rfl rfl rfl (by decide +kernel) ⟨Nat.le_of_ble_eq_true rfl, Nat.le_of_ble_eq_true rfl⟩) rfl hl.1 rfl (Nat.le_of_ble_eq_true rfl) dX8_then_55 ⟨Nat.le_refl _, Nat.le_refl _⟩ (fun H locs G => ?_)
          obtain ⟨X55, hX55⟩ : ∃ Z : xS, Z = x0_passHour tt X46 13 := ⟨_, rfl⟩
          have G : xG D ad sa cc tt zA zs.heap H locs X55 := by rw [hX55]; exact G
          rw [lt_e hX55] at hS
          refine lv_iinc (v := nI (k46 + 1)) (lv' := [(3, .int (nI (k46 + 1))), (0, .ref (ad 0)), (1, .int n), (2, .int what)]) hx hb dX8_then_58 hl (k := 3) rfl (nt_add rfl (show (1 : Int32) = nI 1 from rfl)) (by decide) rfl (fun ls hl => ?_)
          refine lv_goto (tgt := 46) hx hb dX8_then_61 (by decide) ?_
          subst hS
          exact ih (k46 + 1) (by omega) _ hS0 _ _ _ (lv_sub hl [1, 2, 3, 0] rfl) G
      exact hloop46 _ 0 (Nat.add_zero _) _ rfl _ _ _ (lv_sub hl [1, 2, 3, 0] rfl) G
    · rw [if_pos c24] at hF
      refine lv_aload_n hx hb dX8_then_27 rfl (lv_at hl 0 rfl) ?_
      refine lv_iconst (v := 1) hx hb dX8_then_28 (by decide) ?_
      obtain ⟨x29, X29, hx29⟩ : ∃ (Z : Int32) (Y : xS), (Z, Y) = x8_error X 1 := ⟨_, _, rfl⟩
      refine xr_Vi (r0 := x29) (X2 := X29) C hA G (by rw [hx29]; exact (kx8_error zl D ad sa cc tt X 1)) (show kW 0 by decide).2 (xW_c (show kW 0 by decide).1) rfl (cwV 1 C.2.2.2.2.1 gX8_then_X8_error rfl rfl rfl (by decide +kernel) ⟨Nat.le_of_ble_eq_true rfl, Nat.le_of_ble_eq_true rfl⟩) rfl hl.1 rfl (Nat.le_of_ble_eq_true rfl) dX8_then_29 ⟨Nat.le_refl _, Nat.le_refl _⟩ (fun H locs G => ?_)
      rw [lt2_e hx29] at hF
      exact hret _ _ _ _ _ _ hF G dX8_then_32
set_option maxRecDepth 100000 in
set_option maxHeartbeats 4000000 in
theorem kx8_full (zl : Launch) (D : va_G) (ad sa : Nat → Nat) (cc : cT) (tt : tT) (X : xS) (v : Int32) (hR : eR tt X 1) (hz : zR X 1) : xM zl D ad sa cc tt yX8_full wsX8_full ({ frames := 6, cells := 0, slots := 0, locals := 142 } : Room) [.ref (ad 0), .int v] X (x8_full tt X v) := by
  refine xM_of (code := cX8_full) (nL := 3) (own := RX8) (by decide) rfl rfl (Nat.le_of_ble_eq_true rfl) ?_
  intro zp ze zs zm zg zb zt zc zA zQ C hA hret H locs ls hl G
  have hx := C.1
  have hb := C.2.1
  have hl : lv_has ls 3 [(0, .ref (ad 0)), (1, .int v)] := hl
  obtain ⟨rM, hF⟩ : ∃ Z : Int32 × xS, Z = x8_full tt X v := ⟨_, rfl⟩
  rw [← hF] at hret
  unfold x8_full at hF
  refine lv_iload_n hx hb dX8_full_0 rfl (lv_at hl 1 rfl) ?_
  refine lv_iconst (v := 0) hx hb dX8_full_1 (by decide) ?_
  refine lv_ldc (v := 999999) hx hb C.2.2.2.1 (C.2.2.2.2.1 (.constant RX8 217 (999999)) (by decide +kernel)) dX8_full_2 ?_
  refine xr_ps C hA G (ks_X8_within zl v 0 999999) (va_cwS 3 C.2.2.2.2.1 gX8_full_X8_within rfl rfl rfl (by decide +kernel) ⟨Nat.le_of_ble_eq_true rfl, Nat.le_of_ble_eq_true rfl⟩) rfl hl.1 rfl (Nat.le_of_ble_eq_true rfl) dX8_full_4 ⟨Nat.le_refl _, Nat.le_refl _⟩ (fun H locs G => ?_)
  refine lv_if_ne (tgt := 16) hx hb dX8_full_7 (by decide) (fun c7 => ?_) (fun c7 => ?_)
  · rw [if_neg c7] at hF
    refine lv_aload_n hx hb dX8_full_16 rfl (lv_at hl 0 rfl) ?_
    refine xr_get C G (show kW 0 by decide).2 (xW_c (show kW 0 by decide).1) rfl (fun _ h => List.mem_cons_of_mem _ (List.mem_append_left _ (List.mem_append_left _ (List.mem_append_left _ (List.mem_append_right _ h))))) 1 (by decide) (show Cond.fieldLink RX8 16 "WheatCounts" "thought" "LWheatCounts$Estate;" ∈ _ by decide +kernel) rfl dX8_full_17 ?_
    refine lv_aload_n hx hb dX8_full_20 rfl (lv_at hl 0 rfl) ?_
    refine xr_get C G (show kW 0 by decide).2 (xW_c (show kW 0 by decide).1) rfl (fun _ h => List.mem_cons_of_mem _ (List.mem_append_left _ (List.mem_append_left _ (List.mem_append_left _ (List.mem_append_right _ h))))) 0 (by decide) (show Cond.fieldLink RX8 10 "WheatCounts" "estate" "LWheatCounts$Estate;" ∈ _ by decide +kernel) rfl dX8_full_21 ?_
    refine xr_Vv C hA G (kx0_takeOver zl D ad sa cc tt X 13 1 (show kE 13 by decide) (show kE 1 by decide) hz.1 hz.2 (by decide)) (show kE 13 by decide).2 (xE_c (show kE 13 by decide).1) rfl (cwV 1 C.2.2.2.2.1 gX8_full_X0_takeOver rfl rfl rfl (by decide +kernel) ⟨Nat.le_of_ble_eq_true rfl, Nat.le_of_ble_eq_true rfl⟩) rfl hl.1 rfl (Nat.le_of_ble_eq_true rfl) dX8_full_24 ⟨Nat.le_refl _, Nat.le_refl _⟩ (fun H locs G => ?_)
    obtain ⟨X24, hX24⟩ : ∃ Z : xS, Z = x0_takeOver X 13 1 := ⟨_, rfl⟩
    have G : xG D ad sa cc tt zA zs.heap H locs X24 := by rw [hX24]; exact G
    rw [lt_e hX24] at hF
    have hR24 : eR tt X24 13 := by rw [hX24, tk_e hz (by decide) (by decide) (by decide)]; exact tk_R hR (by decide)
    refine lv_iconst (v := 0) hx hb dX8_full_27 (by decide) ?_
    refine lv_istore_n (lv' := [(2, .int 0), (0, .ref (ad 0)), (1, .int v)]) hx hb dX8_full_28 rfl hl (by decide) rfl (fun ls hl => ?_)
    obtain ⟨K29, hK29⟩ : ∃ Zk : Nat → xS → Int32 × xS, Zk = (fun (kix : Nat) (X29x : xS) => (lt2 (x8_error X29x 2) fun (x63 : Int32) (X63 : xS) => (x63, X63))) := ⟨_, rfl⟩
    rw [← hK29] at hF
    have hrest29 : ∀ (kix : Nat) (X29x : xS), rM = K29 kix X29x → (True) → ∀ (H : Heap) (locs : List Loc) (ls : Array Slot), lv_has ls 3 [(0, .ref (ad 0)), (1, .int v), (2, .int (nI kix))] → xG D ad sa cc tt zA zs.heap H locs X29x → W zp zl ze ({ frames := 6, cells := 0, slots := 0, locals := 142 } : Room) zs zm zg zb zt zc H locs 0 0 zQ (F0 zm 61 ls []) := by
      intro kix X29x hF hR9 H locs ls hl G
      have hF : rM = (lt2 (x8_error X29x 2) fun (x63 : Int32) (X63 : xS) => (x63, X63)) := by rw [hK29] at hF; exact hF
      refine lv_aload_n hx hb dX8_full_61 rfl (lv_at hl 0 rfl) ?_
      refine lv_iconst (v := 2) hx hb dX8_full_62 (by decide) ?_
      obtain ⟨x63, X63, hx63⟩ : ∃ (Z : Int32) (Y : xS), (Z, Y) = x8_error X29x 2 := ⟨_, _, rfl⟩
      refine xr_Vi (r0 := x63) (X2 := X63) C hA G (by rw [hx63]; exact (kx8_error zl D ad sa cc tt X29x 2)) (show kW 0 by decide).2 (xW_c (show kW 0 by decide).1) rfl (cwV 1 C.2.2.2.2.1 gX8_full_X8_error rfl rfl rfl (by decide +kernel) ⟨Nat.le_of_ble_eq_true rfl, Nat.le_of_ble_eq_true rfl⟩) rfl hl.1 rfl (Nat.le_of_ble_eq_true rfl) dX8_full_63 ⟨Nat.le_refl _, Nat.le_refl _⟩ (fun H locs G => ?_)
      rw [lt2_e hx63] at hF
      exact hret _ _ _ _ _ _ hF G dX8_full_66
    have hloop29 : ∀ (f29 : Nat) (ki : Nat) (X29 : xS), (ki ≤ 51 ∧ 51 < ki + f29 ∧ eR tt X29 13) → rM = x8_full_L29 tt v K29 f29 ki X29 → ∀ (H : Heap) (locs : List Loc) (ls : Array Slot), lv_has ls 3 [(0, .ref (ad 0)), (1, .int v), (2, .int (nI ki))] → xG D ad sa cc tt zA zs.heap H locs X29 → W zp zl ze ({ frames := 6, cells := 0, slots := 0, locals := 142 } : Room) zs zm zg zb zt zc H locs 0 0 zQ (F0 zm 29 ls []) := by
      intro f29
      induction f29 with
      | zero =>
        intro ki X29 hI hL29 H locs ls hl G
        exact absurd hI.2.1 (by omega)
      | succ f29 ih29 =>
        intro ki X29 hI hL29 H locs ls hl G
        rw [x8_full_L29_s] at hL29
        have hqX29 := hI.2.2
        refine lv_iload_n hx hb dX8_full_29 rfl (lv_at hl 2 rfl) ?_
        refine lv_bipush (v := 50) hx hb dX8_full_30 (by decide) ?_
        refine lv_icmp_gt (tgt := 61) hx hb dX8_full_32 (by decide) (fun c32 => ?_) (fun c32 => ?_)
        · rw [if_pos c32] at hL29
          exact hrest29 ki X29 hL29 trivial _ _ _ (lv_sub hl [0, 1, 2] rfl) G
        · rw [if_neg c32] at hL29
          have hk5 : ki ≤ 50 := gt50 c32 (by omega)
          refine lv_aload_n hx hb dX8_full_35 rfl (lv_at hl 0 rfl) ?_
          refine xr_get C G (show kW 0 by decide).2 (xW_c (show kW 0 by decide).1) rfl (fun _ h => List.mem_cons_of_mem _ (List.mem_append_left _ (List.mem_append_left _ (List.mem_append_left _ (List.mem_append_right _ h))))) 1 (by decide) (show Cond.fieldLink RX8 16 "WheatCounts" "thought" "LWheatCounts$Estate;" ∈ _ by decide +kernel) rfl dX8_full_36 ?_
          refine xr_Vi C hA G (kx0_together zl D ad sa cc tt X29 13 (show kE 13 by decide) hqX29.1) (show kE 13 by decide).2 (xE_c (show kE 13 by decide).1) rfl (cwV 0 C.2.2.2.2.1 gX8_full_X0_together rfl rfl rfl (by decide +kernel) ⟨Nat.le_of_ble_eq_true rfl, Nat.le_of_ble_eq_true rfl⟩) rfl hl.1 rfl (Nat.le_of_ble_eq_true rfl) dX8_full_39 ⟨Nat.le_refl _, Nat.le_refl _⟩ (fun H locs G => ?_)
          refine lv_iload_n hx hb dX8_full_42 rfl (lv_at hl 1 rfl) ?_
          refine lv_icmp_lt (tgt := 48) hx hb dX8_full_43 (by decide) (fun c43 => ?_) (fun c43 => ?_)
          · rw [if_pos c43] at hL29
            refine lv_aload_n hx hb dX8_full_48 rfl (lv_at hl 0 rfl) ?_
            refine xr_get C G (show kW 0 by decide).2 (xW_c (show kW 0 by decide).1) rfl (fun _ h => List.mem_cons_of_mem _ (List.mem_append_left _ (List.mem_append_left _ (List.mem_append_left _ (List.mem_append_right _ h))))) 1 (by decide) (show Cond.fieldLink RX8 16 "WheatCounts" "thought" "LWheatCounts$Estate;" ∈ _ by decide +kernel) rfl dX8_full_49 ?_
            refine xr_Vv C hA G (kx0_passHour zl D ad sa cc tt X29 13 (show kE 13 by decide) hqX29) (show kE 13 by decide).2 (xE_c (show kE 13 by decide).1) rfl (cwV 0 C.2.2.2.2.1 gX8_full_X0_passHour rfl rfl rfl (by decide +kernel) ⟨Nat.le_of_ble_eq_true rfl, Nat.le_of_ble_eq_true rfl⟩) rfl hl.1 rfl (Nat.le_of_ble_eq_true rfl) dX8_full_52 ⟨Nat.le_refl _, Nat.le_refl _⟩ (fun H locs G => ?_)
            obtain ⟨X52, hX52⟩ : ∃ Z : xS, Z = x0_passHour tt X29 13 := ⟨_, rfl⟩
            have G : xG D ad sa cc tt zA zs.heap H locs X52 := by rw [hX52]; exact G
            rw [lt_e hX52] at hL29
            have hqX52 : eR tt X52 13 := by rw [hX52]; exact (ph_R hqX29).1
            refine lv_iinc (v := nI (ki + 1)) (lv' := [(2, .int (nI (ki + 1))), (0, .ref (ad 0)), (1, .int v)]) hx hb dX8_full_55 hl (k := 2) rfl (nt_add rfl (show (1 : Int32) = nI 1 from rfl)) (by decide) rfl (fun ls hl => ?_)
            refine lv_goto (tgt := 29) hx hb dX8_full_58 (by decide) ?_
            exact ih29 (ki + 1) X52 ⟨by omega, by omega, hqX52⟩ hL29 _ _ _ (lv_sub hl [1, 2, 0] rfl) G
          · rw [if_neg c43] at hL29
            refine lv_iload_n hx hb dX8_full_46 rfl (lv_at hl 2 rfl) ?_
            exact hret _ _ _ _ _ _ hL29 G dX8_full_47
    exact hloop29 52 0 X24 ⟨by omega, by omega, hR24⟩ hF _ _ _ (lv_sub hl [1, 2, 0] rfl) G
  · rw [if_pos c7] at hF
    refine lv_aload_n hx hb dX8_full_10 rfl (lv_at hl 0 rfl) ?_
    refine lv_iconst (v := 1) hx hb dX8_full_11 (by decide) ?_
    obtain ⟨x12, X12, hx12⟩ : ∃ (Z : Int32) (Y : xS), (Z, Y) = x8_error X 1 := ⟨_, _, rfl⟩
    refine xr_Vi (r0 := x12) (X2 := X12) C hA G (by rw [hx12]; exact (kx8_error zl D ad sa cc tt X 1)) (show kW 0 by decide).2 (xW_c (show kW 0 by decide).1) rfl (cwV 1 C.2.2.2.2.1 gX8_full_X8_error rfl rfl rfl (by decide +kernel) ⟨Nat.le_of_ble_eq_true rfl, Nat.le_of_ble_eq_true rfl⟩) rfl hl.1 rfl (Nat.le_of_ble_eq_true rfl) dX8_full_12 ⟨Nat.le_refl _, Nat.le_refl _⟩ (fun H locs G => ?_)
    rw [lt2_e hx12] at hF
    exact hret _ _ _ _ _ _ hF G dX8_full_15
set_option maxRecDepth 100000 in
set_option maxHeartbeats 4000000 in
theorem kx8_leads (zl : Launch) (D : va_G) (ad sa : Nat → Nat) (cc : cT) (tt : tT) (X : xS) (c : Int32) (v : Int32) (n : Int32) (what : Int32) (hR : eR tt X 1) (hpl : ∀ q, q < 8 → X 46 q = nI (vn (X 46 q)) ∧ vn (X 46 q) < 10) : xM zl D ad sa cc tt yX8_leads wsX8_leads ({ frames := 7, cells := 0, slots := 0, locals := 169 } : Room) [.ref (ad 0), .int c, .int v, .int n, .int what] X (x8_leads tt X c v n what) := by
  refine xM_of (code := cX8_leads) (nL := 5) (own := RX8) (by decide) rfl rfl (Nat.le_of_ble_eq_true rfl) ?_
  intro zp ze zs zm zg zb zt zc zA zQ C hA hret H locs ls hl G
  have hx := C.1
  have hb := C.2.1
  have hl : lv_has ls 5 [(0, .ref (ad 0)), (1, .int c), (2, .int v), (3, .int n), (4, .int what)] := hl
  obtain ⟨rM, hF⟩ : ∃ Z : Int32 × xS, Z = x8_leads tt X c v n what := ⟨_, rfl⟩
  rw [← hF] at hret
  unfold x8_leads at hF
  have hc := hR.1
  have hp := hR.2.1
  have ha := hR.2.2.1
  have ht := hR.2.2.2
  have hc2 := hc.2.1
  have hc3 := hc.2.2
  have hp2 := hp.2
  refine lv_aload_n hx hb dX8_leads_0 rfl (lv_at hl 0 rfl) ?_
  refine lv_iload_n hx hb dX8_leads_1 rfl (lv_at hl 1 rfl) ?_
  refine xr_Vi C hA G (kx8_isCell zl D ad sa cc tt X c) (show kW 0 by decide).2 (xW_c (show kW 0 by decide).1) rfl (cwV 1 C.2.2.2.2.1 gX8_leads_X8_isCell rfl rfl rfl (by decide +kernel) ⟨Nat.le_of_ble_eq_true rfl, Nat.le_of_ble_eq_true rfl⟩) rfl hl.1 rfl (Nat.le_of_ble_eq_true rfl) dX8_leads_2 ⟨Nat.le_refl _, Nat.le_refl _⟩ (fun H locs G => ?_)
  refine lv_if_eq (tgt := 37) hx hb dX8_leads_5 (by decide) (fun c5 => ?_) (fun c5 => ?_)
  · rw [if_pos c5] at hF
    refine lv_aload_n hx hb dX8_leads_37 rfl (lv_at hl 0 rfl) ?_
    refine lv_iconst (v := 1) hx hb dX8_leads_38 (by decide) ?_
    obtain ⟨x39, X39, hx39⟩ : ∃ (Z : Int32) (Y : xS), (Z, Y) = x8_error X 1 := ⟨_, _, rfl⟩
    refine xr_Vi (r0 := x39) (X2 := X39) C hA G (by rw [hx39]; exact (kx8_error zl D ad sa cc tt X 1)) (show kW 0 by decide).2 (xW_c (show kW 0 by decide).1) rfl (cwV 1 C.2.2.2.2.1 gX8_leads_X8_error rfl rfl rfl (by decide +kernel) ⟨Nat.le_of_ble_eq_true rfl, Nat.le_of_ble_eq_true rfl⟩) rfl hl.1 rfl (Nat.le_of_ble_eq_true rfl) dX8_leads_39 ⟨Nat.le_refl _, Nat.le_refl _⟩ (fun H locs G => ?_)
    rw [lt2_e hx39] at hF
    exact hret _ _ _ _ _ _ hF G dX8_leads_42
  · rw [if_neg c5] at hF
    have c9 := cell_x hc c5
    have c92 := c9.2
    refine lv_iload_n hx hb dX8_leads_8 rfl (lv_at hl 2 rfl) ?_
    refine lv_iconst (v := 0) hx hb dX8_leads_9 (by decide) ?_
    refine lv_ldc (v := 99999) hx hb C.2.2.2.1 (C.2.2.2.2.1 (.constant RX8 83 (99999)) (by decide +kernel)) dX8_leads_10 ?_
    refine xr_ps C hA G (ks_X8_within zl v 0 99999) (va_cwS 3 C.2.2.2.2.1 gX8_leads_X8_within rfl rfl rfl (by decide +kernel) ⟨Nat.le_of_ble_eq_true rfl, Nat.le_of_ble_eq_true rfl⟩) rfl hl.1 rfl (Nat.le_of_ble_eq_true rfl) dX8_leads_12 ⟨Nat.le_refl _, Nat.le_refl _⟩ (fun H locs G => ?_)
    refine lv_if_eq (tgt := 37) hx hb dX8_leads_15 (by decide) (fun c15 => ?_) (fun c15 => ?_)
    · rw [if_pos c15] at hF
      refine lv_aload_n hx hb dX8_leads_37 rfl (lv_at hl 0 rfl) ?_
      refine lv_iconst (v := 1) hx hb dX8_leads_38 (by decide) ?_
      obtain ⟨x39, X39, hx39⟩ : ∃ (Z : Int32) (Y : xS), (Z, Y) = x8_error X 1 := ⟨_, _, rfl⟩
      refine xr_Vi (r0 := x39) (X2 := X39) C hA G (by rw [hx39]; exact (kx8_error zl D ad sa cc tt X 1)) (show kW 0 by decide).2 (xW_c (show kW 0 by decide).1) rfl (cwV 1 C.2.2.2.2.1 gX8_leads_X8_error rfl rfl rfl (by decide +kernel) ⟨Nat.le_of_ble_eq_true rfl, Nat.le_of_ble_eq_true rfl⟩) rfl hl.1 rfl (Nat.le_of_ble_eq_true rfl) dX8_leads_39 ⟨Nat.le_refl _, Nat.le_refl _⟩ (fun H locs G => ?_)
      rw [lt2_e hx39] at hF
      exact hret _ _ _ _ _ _ hF G dX8_leads_42
    · rw [if_neg c15] at hF
      refine lv_iload_n hx hb dX8_leads_18 rfl (lv_at hl 3 rfl) ?_
      refine lv_iconst (v := 0) hx hb dX8_leads_19 (by decide) ?_
      refine lv_iconst (v := 3) hx hb dX8_leads_20 (by decide) ?_
      refine xr_ps C hA G (ks_X8_within zl n 0 3) (va_cwS 3 C.2.2.2.2.1 gX8_leads_X8_within rfl rfl rfl (by decide +kernel) ⟨Nat.le_of_ble_eq_true rfl, Nat.le_of_ble_eq_true rfl⟩) rfl hl.1 rfl (Nat.le_of_ble_eq_true rfl) dX8_leads_21 ⟨Nat.le_refl _, Nat.le_refl _⟩ (fun H locs G => ?_)
      refine lv_if_eq (tgt := 37) hx hb dX8_leads_24 (by decide) (fun c24 => ?_) (fun c24 => ?_)
      · rw [if_pos c24] at hF
        refine lv_aload_n hx hb dX8_leads_37 rfl (lv_at hl 0 rfl) ?_
        refine lv_iconst (v := 1) hx hb dX8_leads_38 (by decide) ?_
        obtain ⟨x39, X39, hx39⟩ : ∃ (Z : Int32) (Y : xS), (Z, Y) = x8_error X 1 := ⟨_, _, rfl⟩
        refine xr_Vi (r0 := x39) (X2 := X39) C hA G (by rw [hx39]; exact (kx8_error zl D ad sa cc tt X 1)) (show kW 0 by decide).2 (xW_c (show kW 0 by decide).1) rfl (cwV 1 C.2.2.2.2.1 gX8_leads_X8_error rfl rfl rfl (by decide +kernel) ⟨Nat.le_of_ble_eq_true rfl, Nat.le_of_ble_eq_true rfl⟩) rfl hl.1 rfl (Nat.le_of_ble_eq_true rfl) dX8_leads_39 ⟨Nat.le_refl _, Nat.le_refl _⟩ (fun H locs G => ?_)
        rw [lt2_e hx39] at hF
        exact hret _ _ _ _ _ _ hF G dX8_leads_42
      · rw [if_neg c24] at hF
        have n9 := in_natp (n := 3) c24 rfl (by decide)
        have n92 := n9.2
        refine lv_iload hx hb dX8_leads_27 (lv_at hl 4 rfl) ?_
        refine lv_iconst (v := -1) hx hb dX8_leads_29 (by decide) ?_
        refine lv_iconst (v := 3) hx hb dX8_leads_30 (by decide) ?_
        refine xr_ps C hA G (ks_X8_within zl what (-1) 3) (va_cwS 3 C.2.2.2.2.1 gX8_leads_X8_within rfl rfl rfl (by decide +kernel) ⟨Nat.le_of_ble_eq_true rfl, Nat.le_of_ble_eq_true rfl⟩) rfl hl.1 rfl (Nat.le_of_ble_eq_true rfl) dX8_leads_31 ⟨Nat.le_refl _, Nat.le_refl _⟩ (fun H locs G => ?_)
        refine lv_if_ne (tgt := 43) hx hb dX8_leads_34 (by decide) (fun c34 => ?_) (fun c34 => ?_)
        · rw [if_neg c34] at hF
          refine lv_aload_n hx hb dX8_leads_43 rfl (lv_at hl 0 rfl) ?_
          refine xr_get C G (show kW 0 by decide).2 (xW_c (show kW 0 by decide).1) rfl (fun _ h => List.mem_cons_of_mem _ (List.mem_append_left _ (List.mem_append_left _ (List.mem_append_left _ (List.mem_append_right _ h))))) 5 (by decide) (show Cond.fieldLink RX8 32 "WheatCounts" "leading" "LWheatCounts$Leading;" ∈ _ by decide +kernel) rfl dX8_leads_44 ?_
          refine lv_aload_n hx hb dX8_leads_47 rfl (lv_at hl 0 rfl) ?_
          refine xr_get C G (show kW 0 by decide).2 (xW_c (show kW 0 by decide).1) rfl (fun _ h => List.mem_cons_of_mem _ (List.mem_append_left _ (List.mem_append_left _ (List.mem_append_left _ (List.mem_append_right _ h))))) 0 (by decide) (show Cond.fieldLink RX8 10 "WheatCounts" "estate" "LWheatCounts$Estate;" ∈ _ by decide +kernel) rfl dX8_leads_48 ?_
          refine lv_iload_n hx hb dX8_leads_51 rfl (lv_at hl 1 rfl) ?_
          refine lv_iload_n hx hb dX8_leads_52 rfl (lv_at hl 2 rfl) ?_
          refine lv_iload_n hx hb dX8_leads_53 rfl (lv_at hl 3 rfl) ?_
          obtain ⟨x54, X54, hx54⟩ : ∃ (Z : Int32) (Y : xS), (Z, Y) = x2_isFound tt X (vn c) v (vn n) := ⟨_, _, rfl⟩
          refine xr_Vi (r0 := x54) (X2 := X54) C hA G (by rw [hx54]; exact (kx2_isFound zl D ad sa cc tt X (vn c) v (vn n) hR (by omega) (by omega) hpl)) (show kL 42 by decide).2 (xL_c (show kL 42 by decide).1) rfl (cwV 4 C.2.2.2.2.1 gX8_leads_X2_isFound rfl rfl rfl (by decide +kernel) ⟨Nat.le_of_ble_eq_true rfl, Nat.le_of_ble_eq_true rfl⟩) rfl hl.1 (cons_int n9.1 (cons_int rfl (cons_int c9.1 (congrArg (List.cons _) rfl)))) (Nat.le_of_ble_eq_true rfl) dX8_leads_54 ⟨Nat.le_refl _, Nat.le_refl _⟩ (fun H locs G => ?_)
          rw [lt2_e hx54] at hF
          refine lv_if_ne (tgt := 66) hx hb dX8_leads_57 (by decide) (fun c57 => ?_) (fun c57 => ?_)
          · rw [if_neg c57] at hF
            refine lv_iload hx hb dX8_leads_66 (lv_at hl 4 rfl) ?_
            refine lv_if_ge (tgt := 81) hx hb dX8_leads_68 (by decide) (fun c68 => ?_) (fun c68 => ?_)
            · rw [if_pos c68] at hF
              have w9 := xin_pos c34 c68 (n := 3) rfl (by decide)
              have w92 := w9.2
              refine lv_aload_n hx hb dX8_leads_81 rfl (lv_at hl 0 rfl) ?_
              refine xr_get C G (show kW 0 by decide).2 (xW_c (show kW 0 by decide).1) rfl (fun _ h => List.mem_cons_of_mem _ (List.mem_append_left _ (List.mem_append_left _ (List.mem_append_left _ (List.mem_append_right _ h))))) 5 (by decide) (show Cond.fieldLink RX8 32 "WheatCounts" "leading" "LWheatCounts$Leading;" ∈ _ by decide +kernel) rfl dX8_leads_82 ?_
              refine xr_get C G (show kL 42 by decide).2 (xL_c (show kL 42 by decide).1) rfl (fun _ h => List.mem_cons_of_mem _ (List.mem_append_left _ (List.mem_append_left _ (List.mem_append_right _ h)))) 0 (by decide) (show Cond.fieldLink RX8 225 "WheatCounts$Leading" "row" "[I" ∈ _ by decide +kernel) rfl dX8_leads_85 ?_
              refine lv_iload hx hb dX8_leads_88 (lv_at hl 4 rfl) ?_
              refine xr_ald C G (show kI 43 4 by decide).2 (xI_c (show kI 43 4 by decide).1 _) (vn what) w9.1 (by omega) (xI_lt (show kI 43 4 by decide)) dX8_leads_90 ?_
              exact hret _ _ _ _ _ _ hF G dX8_leads_91
            · rw [if_neg c68] at hF
              refine lv_aload_n hx hb dX8_leads_71 rfl (lv_at hl 0 rfl) ?_
              refine xr_get C G (show kW 0 by decide).2 (xW_c (show kW 0 by decide).1) rfl (fun _ h => List.mem_cons_of_mem _ (List.mem_append_left _ (List.mem_append_left _ (List.mem_append_left _ (List.mem_append_right _ h))))) 5 (by decide) (show Cond.fieldLink RX8 32 "WheatCounts" "leading" "LWheatCounts$Leading;" ∈ _ by decide +kernel) rfl dX8_leads_72 ?_
              refine xr_get C G (show kL 42 by decide).2 (xL_c (show kL 42 by decide).1) rfl (fun _ h => List.mem_cons_of_mem _ (List.mem_append_left _ (List.mem_append_left _ (List.mem_append_right _ h)))) 1 (by decide) (show Cond.fieldLink RX8 222 "WheatCounts$Leading" "moved" "I" ∈ _ by decide +kernel) rfl dX8_leads_75 ?_
              refine lv_goto (tgt := 91) hx hb dX8_leads_78 (by decide) ?_
              exact hret _ _ _ _ _ _ hF G dX8_leads_91
          · rw [if_pos c57] at hF
            refine lv_aload_n hx hb dX8_leads_60 rfl (lv_at hl 0 rfl) ?_
            refine lv_iconst (v := 2) hx hb dX8_leads_61 (by decide) ?_
            obtain ⟨x62, X62, hx62⟩ : ∃ (Z : Int32) (Y : xS), (Z, Y) = x8_error X54 2 := ⟨_, _, rfl⟩
            refine xr_Vi (r0 := x62) (X2 := X62) C hA G (by rw [hx62]; exact (kx8_error zl D ad sa cc tt X54 2)) (show kW 0 by decide).2 (xW_c (show kW 0 by decide).1) rfl (cwV 1 C.2.2.2.2.1 gX8_leads_X8_error rfl rfl rfl (by decide +kernel) ⟨Nat.le_of_ble_eq_true rfl, Nat.le_of_ble_eq_true rfl⟩) rfl hl.1 rfl (Nat.le_of_ble_eq_true rfl) dX8_leads_62 ⟨Nat.le_refl _, Nat.le_refl _⟩ (fun H locs G => ?_)
            rw [lt2_e hx62] at hF
            exact hret _ _ _ _ _ _ hF G dX8_leads_65
        · rw [if_pos c34] at hF
          refine lv_aload_n hx hb dX8_leads_37 rfl (lv_at hl 0 rfl) ?_
          refine lv_iconst (v := 1) hx hb dX8_leads_38 (by decide) ?_
          obtain ⟨x39, X39, hx39⟩ : ∃ (Z : Int32) (Y : xS), (Z, Y) = x8_error X 1 := ⟨_, _, rfl⟩
          refine xr_Vi (r0 := x39) (X2 := X39) C hA G (by rw [hx39]; exact (kx8_error zl D ad sa cc tt X 1)) (show kW 0 by decide).2 (xW_c (show kW 0 by decide).1) rfl (cwV 1 C.2.2.2.2.1 gX8_leads_X8_error rfl rfl rfl (by decide +kernel) ⟨Nat.le_of_ble_eq_true rfl, Nat.le_of_ble_eq_true rfl⟩) rfl hl.1 rfl (Nat.le_of_ble_eq_true rfl) dX8_leads_39 ⟨Nat.le_refl _, Nat.le_refl _⟩ (fun H locs G => ?_)
          rw [lt2_e hx39] at hF
          exact hret _ _ _ _ _ _ hF G dX8_leads_42
set_option maxRecDepth 100000 in
set_option maxHeartbeats 4000000 in
theorem kx8_manyOrLeast (zl : Launch) (D : va_G) (ad sa : Nat → Nat) (cc : cT) (tt : tT) (X : xS) (what : Int32) (many : Int32) (least : Int32) : xM zl D ad sa cc tt yX8_manyOrLeast wsX8_manyOrLeast ({ frames := 2, cells := 0, slots := 0, locals := 43 } : Room) [.ref (ad 0), .int what, .int many, .int least] X (x8_manyOrLeast X what many least) := by
  refine xM_of (code := cX8_manyOrLeast) (nL := 4) (own := RX8) (by decide) rfl rfl (Nat.le_of_ble_eq_true rfl) ?_
  intro zp ze zs zm zg zb zt zc zA zQ C hA hret H locs ls hl G
  have hx := C.1
  have hb := C.2.1
  have hl : lv_has ls 4 [(0, .ref (ad 0)), (1, .int what), (2, .int many), (3, .int least)] := hl
  obtain ⟨rM, hF⟩ : ∃ Z : Int32 × xS, Z = x8_manyOrLeast X what many least := ⟨_, rfl⟩
  rw [← hF] at hret
  unfold x8_manyOrLeast at hF
  refine lv_iload_n hx hb dX8_manyOrLeast_0 rfl (lv_at hl 1 rfl) ?_
  refine lv_if_ne (tgt := 6) hx hb dX8_manyOrLeast_1 (by decide) (fun c1 => ?_) (fun c1 => ?_)
  · rw [if_neg c1] at hF
    refine lv_iload_n hx hb dX8_manyOrLeast_6 rfl (lv_at hl 3 rfl) ?_
    refine lv_if_ge (tgt := 18) hx hb dX8_manyOrLeast_7 (by decide) (fun c7 => ?_) (fun c7 => ?_)
    · rw [if_pos c7] at hF
      refine lv_iload_n hx hb dX8_manyOrLeast_18 rfl (lv_at hl 3 rfl) ?_
      exact hret _ _ _ _ _ _ hF G dX8_manyOrLeast_19
    · rw [if_neg c7] at hF
      refine lv_aload_n hx hb dX8_manyOrLeast_10 rfl (lv_at hl 0 rfl) ?_
      refine lv_iconst (v := 2) hx hb dX8_manyOrLeast_11 (by decide) ?_
      obtain ⟨x12, X12, hx12⟩ : ∃ (Z : Int32) (Y : xS), (Z, Y) = x8_error X 2 := ⟨_, _, rfl⟩
      refine xr_Vi (r0 := x12) (X2 := X12) C hA G (by rw [hx12]; exact (kx8_error zl D ad sa cc tt X 2)) (show kW 0 by decide).2 (xW_c (show kW 0 by decide).1) rfl (cwV 1 C.2.2.2.2.1 gX8_manyOrLeast_X8_error rfl rfl rfl (by decide +kernel) ⟨Nat.le_of_ble_eq_true rfl, Nat.le_of_ble_eq_true rfl⟩) rfl hl.1 rfl (Nat.le_of_ble_eq_true rfl) dX8_manyOrLeast_12 ⟨Nat.le_refl _, Nat.le_refl _⟩ (fun H locs G => ?_)
      rw [lt2_e hx12] at hF
      refine lv_goto (tgt := 19) hx hb dX8_manyOrLeast_15 (by decide) ?_
      exact hret _ _ _ _ _ _ hF G dX8_manyOrLeast_19
  · rw [if_pos c1] at hF
    refine lv_iload_n hx hb dX8_manyOrLeast_4 rfl (lv_at hl 2 rfl) ?_
    exact hret _ _ _ _ _ _ hF G dX8_manyOrLeast_5
set_option maxRecDepth 100000 in
set_option maxHeartbeats 4000000 in
theorem kx8_sums (zl : Launch) (D : va_G) (ad sa : Nat → Nat) (cc : cT) (tt : tT) (X : xS) (v : Int32) (what : Int32) (hc : eC X 1) : xM zl D ad sa cc tt yX8_sums wsX8_sums ({ frames := 3, cells := 0, slots := 0, locals := 66 } : Room) [.ref (ad 0), .int v, .int what] X (x8_sums X v what) := by
  refine xM_of (code := cX8_sums) (nL := 6) (own := RX8) (by decide) rfl rfl (Nat.le_of_ble_eq_true rfl) ?_
  intro zp ze zs zm zg zb zt zc zA zQ C hA hret H locs ls hl G
  have hx := C.1
  have hb := C.2.1
  have hl : lv_has ls 6 [(0, .ref (ad 0)), (1, .int v), (2, .int what)] := hl
  obtain ⟨rM, hF⟩ : ∃ Z : Int32 × xS, Z = x8_sums X v what := ⟨_, rfl⟩
  rw [← hF] at hret
  unfold x8_sums at hF
  have hc2 := hc.2.1
  have hc3 := hc.2.2
  refine lv_iload_n hx hb dX8_sums_0 rfl (lv_at hl 1 rfl) ?_
  refine lv_iconst (v := 0) hx hb dX8_sums_1 (by decide) ?_
  refine lv_ldc (v := 999999) hx hb C.2.2.2.1 (C.2.2.2.2.1 (.constant RX8 217 (999999)) (by decide +kernel)) dX8_sums_2 ?_
  refine xr_ps C hA G (ks_X8_within zl v 0 999999) (va_cwS 3 C.2.2.2.2.1 gX8_sums_X8_within rfl rfl rfl (by decide +kernel) ⟨Nat.le_of_ble_eq_true rfl, Nat.le_of_ble_eq_true rfl⟩) rfl hl.1 rfl (Nat.le_of_ble_eq_true rfl) dX8_sums_4 ⟨Nat.le_refl _, Nat.le_refl _⟩ (fun H locs G => ?_)
  refine lv_if_eq (tgt := 19) hx hb dX8_sums_7 (by decide) (fun c7 => ?_) (fun c7 => ?_)
  · rw [if_pos c7] at hF
    refine lv_aload_n hx hb dX8_sums_19 rfl (lv_at hl 0 rfl) ?_
    refine lv_iconst (v := 1) hx hb dX8_sums_20 (by decide) ?_
    obtain ⟨x21, X21, hx21⟩ : ∃ (Z : Int32) (Y : xS), (Z, Y) = x8_error X 1 := ⟨_, _, rfl⟩
    refine xr_Vi (r0 := x21) (X2 := X21) C hA G (by rw [hx21]; exact (kx8_error zl D ad sa cc tt X 1)) (show kW 0 by decide).2 (xW_c (show kW 0 by decide).1) rfl (cwV 1 C.2.2.2.2.1 gX8_sums_X8_error rfl rfl rfl (by decide +kernel) ⟨Nat.le_of_ble_eq_true rfl, Nat.le_of_ble_eq_true rfl⟩) rfl hl.1 rfl (Nat.le_of_ble_eq_true rfl) dX8_sums_21 ⟨Nat.le_refl _, Nat.le_refl _⟩ (fun H locs G => ?_)
    rw [lt2_e hx21] at hF
    exact hret _ _ _ _ _ _ hF G dX8_sums_24
  · rw [if_neg c7] at hF
    refine lv_iload_n hx hb dX8_sums_10 rfl (lv_at hl 2 rfl) ?_
    refine lv_iconst (v := 0) hx hb dX8_sums_11 (by decide) ?_
    refine lv_iconst (v := 1) hx hb dX8_sums_12 (by decide) ?_
    refine xr_ps C hA G (ks_X8_within zl what 0 1) (va_cwS 3 C.2.2.2.2.1 gX8_sums_X8_within rfl rfl rfl (by decide +kernel) ⟨Nat.le_of_ble_eq_true rfl, Nat.le_of_ble_eq_true rfl⟩) rfl hl.1 rfl (Nat.le_of_ble_eq_true rfl) dX8_sums_13 ⟨Nat.le_refl _, Nat.le_refl _⟩ (fun H locs G => ?_)
    refine lv_if_ne (tgt := 25) hx hb dX8_sums_16 (by decide) (fun c16 => ?_) (fun c16 => ?_)
    · rw [if_neg c16] at hF
      refine lv_iconst (v := 0) hx hb dX8_sums_25 (by decide) ?_
      refine lv_istore_n (lv' := [(3, .int 0), (0, .ref (ad 0)), (1, .int v), (2, .int what)]) hx hb dX8_sums_26 rfl hl (by decide) rfl (fun ls hl => ?_)
      refine lv_iconst (v := -1) hx hb dX8_sums_27 (by decide) ?_
      refine lv_istore (lv' := [(4, .int (-1)), (3, .int 0), (0, .ref (ad 0)), (1, .int v), (2, .int what)]) hx hb dX8_sums_28 hl (by decide) rfl (fun ls hl => ?_)
      refine lv_iconst (v := 1) hx hb dX8_sums_30 (by decide) ?_
      refine lv_aload_n hx hb dX8_sums_31 rfl (lv_at hl 2 rfl) ?_
      refine xr_get C G (show kW 0 by decide).2 (xW_c (show kW 0 by decide).1) rfl (fun _ h => List.mem_cons_of_mem _ (List.mem_append_left _ (List.mem_append_right _ h))) 0 (by decide) (show Cond.fieldLink RX8 10 "WheatCounts" "estate" "LWheatCounts$Estate;" ∈ _ by decide +kernel) rfl dX8_sums_32 ?_
      refine xr_get C G (show kE 1 by decide).2 (xE_c (show kE 1 by decide).1) rfl (fun _ h => List.mem_cons_of_mem _ (List.mem_append_right _ h)) 0 (by decide) (show Cond.fieldLink RX8 72 "WheatCounts$Estate" "cells" "I" ∈ _ by decide +kernel) rfl dX8_sums_35 ?_
      refine lv_ishl hx hb dX8_sums_38 ?_
      refine lv_iconst (v := 1) hx hb dX8_sums_39 (by decide) ?_
      refine lv_isub hx hb dX8_sums_40 ?_
      refine lv_topi (fun x41 hx41 => ?_)
      rw [lt_e hx41] at hF
      refine lv_istore (lv' := [(5, .int x41), (4, .int (-1)), (3, .int 0), (0, .ref (ad 0)), (1, .int v), (2, .int what)]) hx hb dX8_sums_41 hl (by decide) rfl (fun ls hl => ?_)
      obtain ⟨v5_43x, v4_43x, v3_43x, hX43⟩ : ∃ (v5_43x : Int32) (v4_43x : Int32) (v3_43x : Int32), (v5_43x, v4_43x, v3_43x) = x8_sums_L43 X v (2 ^ vn (X 1 0) + 1) x41 (-1) 0 := ⟨_, _, _, rfl⟩
      rw [lt3_e hX43] at hF
      have hrest43 : ∀ (H : Heap) (locs : List Loc) (ls : Array Slot), lv_has ls 6 [(0, .ref (ad 0)), (1, .int v), (2, .int what), (3, .int v3_43x), (4, .int v4_43x), (5, .int v5_43x)] → xG D ad sa cc tt zA zs.heap H locs X → W zp zl ze ({ frames := 3, cells := 0, slots := 0, locals := 66 } : Room) zs zm zg zb zt zc H locs 0 0 zQ (F0 zm 74 ls []) := by
        intro H locs ls hl G
        refine lv_aload_n hx hb dX8_sums_74 rfl (lv_at hl 0 rfl) ?_
        refine lv_iload_n hx hb dX8_sums_75 rfl (lv_at hl 2 rfl) ?_
        refine lv_iload_n hx hb dX8_sums_76 rfl (lv_at hl 3 rfl) ?_
        refine lv_iload hx hb dX8_sums_77 (lv_at hl 4 rfl) ?_
        obtain ⟨x79, X79, hx79⟩ : ∃ (Z : Int32) (Y : xS), (Z, Y) = x8_manyOrLeast X what v3_43x v4_43x := ⟨_, _, rfl⟩
        refine xr_Vi (r0 := x79) (X2 := X79) C hA G (by rw [hx79]; exact (kx8_manyOrLeast zl D ad sa cc tt X what v3_43x v4_43x)) (show kW 0 by decide).2 (xW_c (show kW 0 by decide).1) rfl (cwV 3 C.2.2.2.2.1 gX8_sums_X8_manyOrLeast rfl rfl rfl (by decide +kernel) ⟨Nat.le_of_ble_eq_true rfl, Nat.le_of_ble_eq_true rfl⟩) rfl hl.1 rfl (Nat.le_of_ble_eq_true rfl) dX8_sums_79 ⟨Nat.le_refl _, Nat.le_refl _⟩ (fun H locs G => ?_)
        rw [lt2_e hx79] at hF
        exact hret _ _ _ _ _ _ hF G dX8_sums_82
      have hloop43 : ∀ (f : Nat) (v5_43 : Int32) (v4_43 : Int32) (v3_43 : Int32), (v5_43 = nI f + (-2) ∧ 0 < f) → (v5_43x, v4_43x, v3_43x) = x8_sums_L43 X v f v5_43 v4_43 v3_43 → ∀ (H : Heap) (locs : List Loc) (ls : Array Slot), lv_has ls 6 [(0, .ref (ad 0)), (1, .int v), (2, .int what), (3, .int v3_43), (4, .int v4_43), (5, .int v5_43)] → xG D ad sa cc tt zA zs.heap H locs X → W zp zl ze ({ frames := 3, cells := 0, slots := 0, locals := 66 } : Room) zs zm zg zb zt zc H locs 0 0 zQ (F0 zm 43 ls []) := by
        intro f
        induction f with
        | zero =>
          intro v5_43 v4_43 v3_43 hI hL43 H locs ls hl G
          exact absurd hI.2 (Nat.lt_irrefl _)
        | succ f ih =>
          intro v5_43 v4_43 v3_43 hI hL43 H locs ls hl G
          rw [x8_sums_L43_s] at hL43
          refine lv_iload hx hb dX8_sums_43 (lv_at hl 5 rfl) ?_
          refine lv_if_lt (tgt := 74) hx hb dX8_sums_45 (by decide) (fun c45 => ?_) (fun c45 => ?_)
          · rw [if_pos c45] at hL43
            cases hL43
            exact hrest43 _ _ _ (lv_sub hl [0, 1, 2, 3, 4, 5] rfl) G
          · rw [if_neg c45] at hL43
            refine lv_aload_n hx hb dX8_sums_48 rfl (lv_at hl 0 rfl) ?_
            refine xr_get C G (show kW 0 by decide).2 (xW_c (show kW 0 by decide).1) rfl (fun _ h => List.mem_cons_of_mem _ (List.mem_append_left _ (List.mem_append_right _ h))) 0 (by decide) (show Cond.fieldLink RX8 10 "WheatCounts" "estate" "LWheatCounts$Estate;" ∈ _ by decide +kernel) rfl dX8_sums_49 ?_
            refine lv_iload hx hb dX8_sums_52 (lv_at hl 5 rfl) ?_
            refine xr_Vi C hA G (kx0_grainsIn zl D ad sa cc tt X 1 v5_43 (show kE 1 by decide) hc) (show kE 1 by decide).2 (xE_c (show kE 1 by decide).1) rfl (cwV 1 C.2.2.2.2.1 gX8_sums_X0_grainsIn rfl rfl rfl (by decide +kernel) ⟨Nat.le_of_ble_eq_true rfl, Nat.le_of_ble_eq_true rfl⟩) rfl hl.1 rfl (Nat.le_of_ble_eq_true rfl) dX8_sums_54 ⟨Nat.le_refl _, Nat.le_refl _⟩ (fun H locs G => ?_)
            refine lv_iload_n hx hb dX8_sums_57 rfl (lv_at hl 1 rfl) ?_
            obtain ⟨z3_68, z4_68, hX68⟩ : ∃ (z3_68 : Int32) (z4_68 : Int32), (z3_68, z4_68) = ((if (x0_grainsIn X 1 v5_43) = v then ((v3_43 + 1), v5_43) else (v3_43, v4_43)) : Int32 × Int32) := ⟨_, _, rfl⟩
            rw [lt2_e hX68] at hL43
            have hj68 : ∀ (H : Heap) (locs : List Loc) (ls : Array Slot), lv_has ls 6 [(0, .ref (ad 0)), (1, .int v), (2, .int what), (3, .int z3_68), (4, .int z4_68), (5, .int v5_43)] → xG D ad sa cc tt zA zs.heap H locs X → W zp zl ze ({ frames := 3, cells := 0, slots := 0, locals := 66 } : Room) zs zm zg zb zt zc H locs 0 0 zQ (F0 zm 68 ls []) := by
              intro H locs ls hl G
              refine lv_iinc (v := (v5_43 + (-1))) (lv' := [(5, .int (v5_43 + (-1))), (0, .ref (ad 0)), (1, .int v), (2, .int what), (3, .int z3_68), (4, .int z4_68)]) hx hb dX8_sums_68 hl (k := 5) rfl rfl (by decide) rfl (fun ls hl => ?_)
              refine lv_goto (tgt := 43) hx hb dX8_sums_71 (by decide) ?_
              exact ih (v5_43 + (-1)) z4_68 z3_68 (sums_step hI c45) hL43 _ _ _ (lv_sub hl [1, 2, 3, 4, 5, 0] rfl) G
            refine lv_icmp_ne (tgt := 68) hx hb dX8_sums_58 (by decide) (fun c58 => ?_) (fun c58 => ?_)
            · rw [if_neg c58] at hX68
              cases hX68
              exact hj68 _ _ _ (lv_sub hl [0, 1, 2, 3, 4, 5] rfl) G
            · rw [if_pos c58] at hX68
              refine lv_iinc (v := (v3_43 + 1)) (lv' := [(3, .int (v3_43 + 1)), (0, .ref (ad 0)), (1, .int v), (2, .int what), (4, .int v4_43), (5, .int v5_43)]) hx hb dX8_sums_61 hl (k := 3) rfl rfl (by decide) rfl (fun ls hl => ?_)
              refine lv_iload hx hb dX8_sums_64 (lv_at hl 5 rfl) ?_
              refine lv_istore (lv' := [(4, .int v5_43), (3, .int (v3_43 + 1)), (0, .ref (ad 0)), (1, .int v), (2, .int what), (5, .int v5_43)]) hx hb dX8_sums_66 hl (by decide) rfl (fun ls hl => ?_)
              cases hX68
              exact hj68 _ _ _ (lv_sub hl [2, 3, 4, 1, 0, 5] rfl) G
      exact hloop43 _ _ _ _ ⟨by rw [hx41]; exact sums_init hc.1 hc3, Nat.succ_pos _⟩ hX43 _ _ _ (lv_sub hl [3, 4, 5, 2, 1, 0] rfl) G
    · rw [if_pos c16] at hF
      refine lv_aload_n hx hb dX8_sums_19 rfl (lv_at hl 0 rfl) ?_
      refine lv_iconst (v := 1) hx hb dX8_sums_20 (by decide) ?_
      obtain ⟨x21, X21, hx21⟩ : ∃ (Z : Int32) (Y : xS), (Z, Y) = x8_error X 1 := ⟨_, _, rfl⟩
      refine xr_Vi (r0 := x21) (X2 := X21) C hA G (by rw [hx21]; exact (kx8_error zl D ad sa cc tt X 1)) (show kW 0 by decide).2 (xW_c (show kW 0 by decide).1) rfl (cwV 1 C.2.2.2.2.1 gX8_sums_X8_error rfl rfl rfl (by decide +kernel) ⟨Nat.le_of_ble_eq_true rfl, Nat.le_of_ble_eq_true rfl⟩) rfl hl.1 rfl (Nat.le_of_ble_eq_true rfl) dX8_sums_21 ⟨Nat.le_refl _, Nat.le_refl _⟩ (fun H locs G => ?_)
      rw [lt2_e hx21] at hF
      exact hret _ _ _ _ _ _ hF G dX8_sums_24
set_option maxRecDepth 100000 in
set_option maxHeartbeats 4000000 in
theorem kx8_lookAround (zl : Launch) (D : va_G) (ad sa : Nat → Nat) (cc : cT) (tt : tT) (X : xS) (hR : eR tt X 1) : xMv zl D ad sa cc tt yX8_lookAround wsX8_lookAround ({ frames := 5, cells := 0, slots := 0, locals := 116 } : Room) [.ref (ad 0)] X (x8_lookAround tt X) := by
  refine xMv_of (code := cX8_lookAround) (nL := 2) (own := RX8) (by decide) rfl rfl (Nat.le_of_ble_eq_true rfl) ?_
  intro zp ze zs zm zg zb zt zc zA zQ C hA hret H locs ls hl G
  have hx := C.1
  have hb := C.2.1
  have hl : lv_has ls 2 [(0, .ref (ad 0))] := hl
  obtain ⟨rM, hF⟩ : ∃ Z : xS, Z = x8_lookAround tt X := ⟨_, rfl⟩
  rw [← hF] at hret
  unfold x8_lookAround at hF
  have hc := hR.1
  have hp := hR.2.1
  have ha := hR.2.2.1
  have ht := hR.2.2.2
  have hc2 := hc.2.1
  have hc3 := hc.2.2
  have hp2 := hp.2
  refine lv_iconst (v := 0) hx hb dX8_lookAround_0 (by decide) ?_
  refine lv_istore_n (lv' := [(1, .int 0), (0, .ref (ad 0))]) hx hb dX8_lookAround_1 rfl hl (by decide) rfl (fun ls hl => ?_)
  obtain ⟨X2x, hX2⟩ : ∃ (X2x : xS), X2x = x8_lookAround_L2 tt X (vn (X 1 9)) := ⟨_, rfl⟩
  rw [lt_e hX2] at hF
  have hrest2 : ∀ (H : Heap) (locs : List Loc) (ls : Array Slot), lv_has ls 2 [(0, .ref (ad 0)), (1, .int (nI (vn (X 1 9))))] → xG D ad sa cc tt zA zs.heap H locs X2x → W zp zl ze ({ frames := 5, cells := 0, slots := 0, locals := 116 } : Room) zs zm zg zb zt zc H locs 0 0 zQ (F0 zm 42 ls []) := by
    intro H locs ls hl G
    exact hret _ _ _ _ _ hF G dX8_lookAround_42
  have hloop2 : ∀ (zj k2 : Nat), zj + k2 = (vn (X 1 9)) → ∀ (X2 : xS), X2 = x8_lookAround_L2 tt X k2 → ∀ (H : Heap) (locs : List Loc) (ls : Array Slot), lv_has ls 2 [(0, .ref (ad 0)), (1, .int (nI k2))] → xG D ad sa cc tt zA zs.heap H locs X2 → W zp zl ze ({ frames := 5, cells := 0, slots := 0, locals := 116 } : Room) zs zm zg zb zt zc H locs 0 0 zQ (F0 zm 2 ls []) := by
    intro zj
    induction zj with
    | zero =>
      intro k2 hk X2 hL H locs ls hl G
      have hk : k2 = (vn (X 1 9)) := by omega
      rw [hk] at hL hl
      have hk2 : ∀ p, p ≠ 60 → X2 p = X p := by rw [hL]; intro p h; exact la_L2 _ _ _ _ h
      refine lv_iload_n hx hb dX8_lookAround_2 rfl (lv_at hl 1 rfl) ?_
      refine lv_aload_n hx hb dX8_lookAround_3 rfl (lv_at hl 0 rfl) ?_
      refine xr_get C G (show kW 0 by decide).2 (xW_c (show kW 0 by decide).1) rfl (fun _ h => List.mem_cons_of_mem _ (List.mem_append_left _ (List.mem_append_left _ (List.mem_append_right _ h)))) 0 (by decide) (show Cond.fieldLink RX8 10 "WheatCounts" "estate" "LWheatCounts$Estate;" ∈ _ by decide +kernel) rfl dX8_lookAround_4 ?_
      refine xr_get C G (show kE 1 by decide).2 (xE_c (show kE 1 by decide).1) rfl (fun _ h => List.mem_cons_of_mem _ (List.mem_append_left _ (List.mem_append_right _ h))) 9 (by decide) (show Cond.fieldLink RX8 68 "WheatCounts$Estate" "people" "I" ∈ _ by decide +kernel) rfl dX8_lookAround_7 ?_
      refine lv_icmp_ge (tgt := 42) hx hb dX8_lookAround_10 (by decide) (fun c10 => ?_) (fun c10 => absurd (lp_out (n := (vn (X 1 9))) (by rw [hk2 1 (by decide)]; exact hp.1)) c10)
      obtain rfl := hL.trans hX2.symm
      exact hrest2 _ _ _ (lv_sub hl [0, 1] rfl) G
    | succ zj ih =>
      intro k2 hk X2 hL H locs ls hl G
      have hkn : k2 < (vn (X 1 9)) := by omega
      obtain ⟨X2s, hS0⟩ : ∃ (X2s : xS), X2s = x8_lookAround_L2 tt X (k2 + 1) := ⟨_, rfl⟩
      have hS := hS0
      rw [x8_lookAround_L2_s, lt_e hL] at hS
      have hk2 : ∀ p, p ≠ 60 → X2 p = X p := by rw [hL]; intro p h; exact la_L2 _ _ _ _ h
      have hR2 : eR tt X2 1 := eR_of (hk2 1 (by decide)) (hk2 7 (by decide)) hR
      refine lv_iload_n hx hb dX8_lookAround_2 rfl (lv_at hl 1 rfl) ?_
      refine lv_aload_n hx hb dX8_lookAround_3 rfl (lv_at hl 0 rfl) ?_
      refine xr_get C G (show kW 0 by decide).2 (xW_c (show kW 0 by decide).1) rfl (fun _ h => List.mem_cons_of_mem _ (List.mem_append_left _ (List.mem_append_left _ (List.mem_append_right _ h)))) 0 (by decide) (show Cond.fieldLink RX8 10 "WheatCounts" "estate" "LWheatCounts$Estate;" ∈ _ by decide +kernel) rfl dX8_lookAround_4 ?_
      refine xr_get C G (show kE 1 by decide).2 (xE_c (show kE 1 by decide).1) rfl (fun _ h => List.mem_cons_of_mem _ (List.mem_append_left _ (List.mem_append_right _ h))) 9 (by decide) (show Cond.fieldLink RX8 68 "WheatCounts$Estate" "people" "I" ∈ _ by decide +kernel) rfl dX8_lookAround_7 ?_
      refine lv_icmp_ge (tgt := 42) hx hb dX8_lookAround_10 (by decide) (fun c10 => absurd c10 (lp_in (n := (vn (X 1 9))) (by rw [hk2 1 (by decide)]; exact hp.1) hkn (by omega))) (fun c10 => ?_)
      refine lv_iload_n hx hb dX8_lookAround_13 rfl (lv_at hl 1 rfl) ?_
      refine lv_aload_n hx hb dX8_lookAround_14 rfl (lv_at hl 0 rfl) ?_
      refine xr_get C G (show kW 0 by decide).2 (xW_c (show kW 0 by decide).1) rfl (fun _ h => List.mem_cons_of_mem _ (List.mem_append_left _ (List.mem_append_left _ (List.mem_append_right _ h)))) 9 (by decide) (show Cond.fieldLink RX8 54 "WheatCounts" "views" "[I" ∈ _ by decide +kernel) rfl dX8_lookAround_15 ?_
      refine xr_len C G (show kI 60 8 by decide).2 (xI_c (show kI 60 8 by decide).1 _) dX8_lookAround_18 ?_
      refine lv_icmp_ge (tgt := 42) hx hb dX8_lookAround_19 (by decide) (fun c19 => absurd c19 (lp_in (n := 8) rfl (by omega) (by decide))) (fun c19 => ?_)
      refine lv_aload_n hx hb dX8_lookAround_22 rfl (lv_at hl 0 rfl) ?_
      refine xr_get C G (show kW 0 by decide).2 (xW_c (show kW 0 by decide).1) rfl (fun _ h => List.mem_cons_of_mem _ (List.mem_append_left _ (List.mem_append_left _ (List.mem_append_right _ h)))) 9 (by decide) (show Cond.fieldLink RX8 54 "WheatCounts" "views" "[I" ∈ _ by decide +kernel) rfl dX8_lookAround_23 ?_
      refine lv_iload_n hx hb dX8_lookAround_26 rfl (lv_at hl 1 rfl) ?_
      refine lv_aload_n hx hb dX8_lookAround_27 rfl (lv_at hl 0 rfl) ?_
      refine xr_get C G (show kW 0 by decide).2 (xW_c (show kW 0 by decide).1) rfl (fun _ h => List.mem_cons_of_mem _ (List.mem_append_left _ (List.mem_append_left _ (List.mem_append_right _ h)))) 0 (by decide) (show Cond.fieldLink RX8 10 "WheatCounts" "estate" "LWheatCounts$Estate;" ∈ _ by decide +kernel) rfl dX8_lookAround_28 ?_
      refine lv_iload_n hx hb dX8_lookAround_31 rfl (lv_at hl 1 rfl) ?_
      refine xr_Vi C hA G (kx0_seenBy zl D ad sa cc tt X2 1 k2 (show kE 1 by decide) hR2 (by omega)) (show kE 1 by decide).2 (xE_c (show kE 1 by decide).1) rfl (cwV 1 C.2.2.2.2.1 gX8_lookAround_X0_seenBy rfl rfl rfl (by decide +kernel) ⟨Nat.le_of_ble_eq_true rfl, Nat.le_of_ble_eq_true rfl⟩) rfl hl.1 rfl (Nat.le_of_ble_eq_true rfl) dX8_lookAround_32 ⟨Nat.le_refl _, Nat.le_refl _⟩ (fun H locs G => ?_)
      refine xr_ast C G (show kI 60 8 by decide).2 (xI_c (show kI 60 8 by decide).1) k2 rfl (by omega) (xI_lt (show kI 60 8 by decide)) dX8_lookAround_35 (fun H locs G => ?_)
      obtain ⟨X35, hX35⟩ : ∃ Z : xS, Z = mU X2 60 k2 (x0_seenBy tt X2 1 k2) := ⟨_, rfl⟩
      have G : xG D ad sa cc tt zA zs.heap H locs X35 := by rw [hX35]; exact G
      rw [lt_e hX35] at hS
      refine lv_iinc (v := nI (k2 + 1)) (lv' := [(1, .int (nI (k2 + 1))), (0, .ref (ad 0))]) hx hb dX8_lookAround_36 hl (k := 1) rfl (nt_add rfl (show (1 : Int32) = nI 1 from rfl)) (by decide) rfl (fun ls hl => ?_)
      refine lv_goto (tgt := 2) hx hb dX8_lookAround_39 (by decide) ?_
      subst hS
      exact ih (k2 + 1) (by omega) _ hS0 _ _ _ (lv_sub hl [1, 0] rfl) G
  exact hloop2 _ 0 (Nat.add_zero _) _ rfl _ _ _ (lv_sub hl [1, 0] rfl) G
set_option maxRecDepth 100000 in
set_option maxHeartbeats 4000000 in
theorem kx8_growsAs (zl : Launch) (D : va_G) (ad sa : Nat → Nat) (cc : cT) (tt : tT) (X : xS) (pS : Nat) (set : Int32) (hpS : kS pS) (hc : eC X 1) (hp : eP X 1) : xM zl D ad sa cc tt yX8_growsAs wsX8_growsAs ({ frames := 1, cells := 0, slots := 0, locals := 21 } : Room) [.ref (ad 0), .int set, .ref (ad pS)] X ((x8_growsAs X pS set, X)) := by
  refine xM_ofZ (code := cX8_growsAs) (nL := 6) (own := RX8) (by decide) rfl rfl (Nat.le_of_ble_eq_true rfl) ?_
  intro zp ze zs zm zg zb zt zc zA zQ C hA hret H locs ls hl G
  have hx := C.1
  have hb := C.2.1
  have hl : lv_has ls 6 [(0, .ref (ad 0)), (1, .int set), (2, .ref (ad pS))] := hl
  obtain ⟨rM, hF⟩ : ∃ Z : Int32, Z = x8_growsAs X pS set := ⟨_, rfl⟩
  rw [← hF] at hret
  unfold x8_growsAs at hF
  have hc2 := hc.2.1
  have hc3 := hc.2.2
  have hp2 := hp.2
  refine lv_iconst (v := 0) hx hb dX8_growsAs_0 (by decide) ?_
  refine lv_istore_n (lv' := [(3, .int 0), (0, .ref (ad 0)), (1, .int set), (2, .ref (ad pS))]) hx hb dX8_growsAs_1 rfl hl (by decide) rfl (fun ls hl => ?_)
  obtain ⟨K2, hK2⟩ : ∃ Zk : Nat → Int32, Zk = (fun (ksx : Nat) => 1) := ⟨_, rfl⟩
  rw [← hK2] at hF
  have hrest2 : ∀ (ksx : Nat), rM = K2 ksx → (True) → ∀ (H : Heap) (locs : List Loc) (ls : Array Slot), lv_has ls 6 [(0, .ref (ad 0)), (1, .int set), (2, .ref (ad pS)), (3, .int (nI ksx))] → xG D ad sa cc tt zA zs.heap H locs X → W zp zl ze ({ frames := 1, cells := 0, slots := 0, locals := 21 } : Room) zs zm zg zb zt zc H locs 0 0 zQ (F0 zm 127 ls []) := by
    intro ksx hF hR9 H locs ls hl G
    have hF : rM = 1 := by rw [hK2] at hF; exact hF
    refine lv_iconst (v := 1) hx hb dX8_growsAs_127 (by decide) ?_
    exact hret _ _ _ _ _ _ (by rw [hF]) G (Or.inr rfl) dX8_growsAs_128
  have hloop2 : ∀ (f2 : Nat) (ks : Nat), (ks ≤ 10 ∧ 10 < ks + f2) → rM = x8_growsAs_L2 X pS set K2 f2 ks → ∀ (H : Heap) (locs : List Loc) (ls : Array Slot), lv_has ls 6 [(0, .ref (ad 0)), (1, .int set), (2, .ref (ad pS)), (3, .int (nI ks))] → xG D ad sa cc tt zA zs.heap H locs X → W zp zl ze ({ frames := 1, cells := 0, slots := 0, locals := 21 } : Room) zs zm zg zb zt zc H locs 0 0 zQ (F0 zm 2 ls []) := by
    intro f2
    induction f2 with
    | zero =>
      intro ks hI hL2 H locs ls hl G
      exact absurd hI.2 (by omega)
    | succ f2 ih2 =>
      intro ks hI hL2 H locs ls hl G
      rw [x8_growsAs_L2_s] at hL2
      refine lv_iload_n hx hb dX8_growsAs_2 rfl (lv_at hl 3 rfl) ?_
      refine lv_aload_n hx hb dX8_growsAs_3 rfl (lv_at hl 0 rfl) ?_
      refine xr_get C G (show kW 0 by decide).2 (xW_c (show kW 0 by decide).1) rfl (fun _ h => List.mem_cons_of_mem _ (List.mem_append_left _ (List.mem_append_left _ (List.mem_append_right _ h)))) 0 (by decide) (show Cond.fieldLink RX8 10 "WheatCounts" "estate" "LWheatCounts$Estate;" ∈ _ by decide +kernel) rfl dX8_growsAs_4 ?_
      refine xr_get C G (show kE 1 by decide).2 (xE_c (show kE 1 by decide).1) rfl (fun _ h => List.mem_cons_of_mem _ (List.mem_append_left _ (List.mem_append_right _ h))) 0 (by decide) (show Cond.fieldLink RX8 72 "WheatCounts$Estate" "cells" "I" ∈ _ by decide +kernel) rfl dX8_growsAs_7 ?_
      refine lv_icmp_ge (tgt := 127) hx hb dX8_growsAs_10 (by decide) (fun c10 => ?_) (fun c10 => ?_)
      · rw [if_pos c10] at hL2
        exact hrest2 ks hL2 trivial _ _ _ (lv_sub hl [0, 1, 2, 3] rfl) G
      · rw [if_neg c10] at hL2
        have hk1 := lp_lt hc.1 c10 (by omega) (by omega)
        refine lv_iload_n hx hb dX8_growsAs_13 rfl (lv_at hl 3 rfl) ?_
        refine lv_aload_n hx hb dX8_growsAs_14 rfl (lv_at hl 2 rfl) ?_
        refine xr_get C G hpS.2 (xS_c hpS.1) rfl (fun _ h => List.mem_cons_of_mem _ (List.mem_append_right _ h)) 2 (by decide) (show Cond.fieldLink RX8 241 "WheatCounts$Sheet" "size" "I" ∈ _ by decide +kernel) rfl dX8_growsAs_15 ?_
        refine lv_icmp_ge (tgt := 127) hx hb dX8_growsAs_18 (by decide) (fun c18 => ?_) (fun c18 => ?_)
        · rw [if_pos c18] at hL2
          exact hrest2 ks hL2 trivial _ _ _ (lv_sub hl [0, 1, 2, 3] rfl) G
        · rw [if_neg c18] at hL2
          refine lv_iconst (v := 0) hx hb dX8_growsAs_21 (by decide) ?_
          refine lv_istore (lv' := [(4, .int 0), (0, .ref (ad 0)), (1, .int set), (2, .ref (ad pS)), (3, .int (nI ks))]) hx hb dX8_growsAs_22 hl (by decide) rfl (fun ls hl => ?_)
          refine lv_iconst (v := 0) hx hb dX8_growsAs_24 (by decide) ?_
          refine lv_istore (lv' := [(5, .int 0), (4, .int 0), (0, .ref (ad 0)), (1, .int set), (2, .ref (ad pS)), (3, .int (nI ks))]) hx hb dX8_growsAs_25 hl (by decide) rfl (fun ls hl => ?_)
          obtain ⟨v4_27x, hX27⟩ : ∃ (v4_27x : Int32), v4_27x = x8_growsAs_L27 X set ks (vn (X 1 9)) := ⟨_, rfl⟩
          rw [lt_e hX27] at hL2
          have hrest27 : ∀ (H : Heap) (locs : List Loc) (ls : Array Slot), lv_has ls 6 [(0, .ref (ad 0)), (1, .int set), (2, .ref (ad pS)), (3, .int (nI ks)), (4, .int v4_27x), (5, .int (nI (vn (X 1 9))))] → xG D ad sa cc tt zA zs.heap H locs X → W zp zl ze ({ frames := 1, cells := 0, slots := 0, locals := 21 } : Room) zs zm zg zb zt zc H locs 0 0 zQ (F0 zm 106 ls []) := by
            intro H locs ls hl G
            refine lv_iload hx hb dX8_growsAs_106 (lv_at hl 4 rfl) ?_
            refine lv_iconst (v := 2) hx hb dX8_growsAs_108 (by decide) ?_
            refine lv_idiv hx hb dX8_growsAs_109 (by decide) ?_
            refine lv_aload_n hx hb dX8_growsAs_110 rfl (lv_at hl 2 rfl) ?_
            refine xr_get C G hpS.2 (xS_c hpS.1) rfl (fun _ h => List.mem_cons_of_mem _ (List.mem_append_right _ h)) 0 (by decide) (show Cond.fieldLink RX8 252 "WheatCounts$Sheet" "numbers" "[I" ∈ _ by decide +kernel) rfl dX8_growsAs_111 ?_
            refine lv_iload_n hx hb dX8_growsAs_114 rfl (lv_at hl 3 rfl) ?_
            refine xr_ald C G (xS_1 hpS).2 (xI_c (xS_1 hpS).1 _) ks rfl (by omega) (xI_lt (xS_1 hpS)) dX8_growsAs_115 ?_
            refine lv_icmp_eq (tgt := 121) hx hb dX8_growsAs_116 (by decide) (fun c116 => ?_) (fun c116 => ?_)
            · rw [if_pos c116] at hL2
              refine lv_iinc (v := nI (ks + 1)) (lv' := [(3, .int (nI (ks + 1))), (0, .ref (ad 0)), (1, .int set), (2, .ref (ad pS)), (4, .int v4_27x), (5, .int (nI (vn (X 1 9))))]) hx hb dX8_growsAs_121 hl (k := 3) rfl (nt_add rfl (show (1 : Int32) = nI 1 from rfl)) (by decide) rfl (fun ls hl => ?_)
              refine lv_goto (tgt := 2) hx hb dX8_growsAs_124 (by decide) ?_
              exact ih2 (ks + 1) ⟨by omega, by omega⟩ hL2 _ _ _ (lv_sub hl [1, 2, 3, 0] rfl) G
            · rw [if_neg c116] at hL2
              refine lv_iconst (v := 0) hx hb dX8_growsAs_119 (by decide) ?_
              exact hret _ _ _ _ _ _ (by rw [hL2]) G (Or.inl rfl) dX8_growsAs_120
          have hloop27 : ∀ (zj k27 : Nat), zj + k27 = (vn (X 1 9)) → ∀ (v4_27 : Int32), v4_27 = x8_growsAs_L27 X set ks k27 → ∀ (H : Heap) (locs : List Loc) (ls : Array Slot), lv_has ls 6 [(0, .ref (ad 0)), (1, .int set), (2, .ref (ad pS)), (3, .int (nI ks)), (4, .int v4_27), (5, .int (nI k27))] → xG D ad sa cc tt zA zs.heap H locs X → W zp zl ze ({ frames := 1, cells := 0, slots := 0, locals := 21 } : Room) zs zm zg zb zt zc H locs 0 0 zQ (F0 zm 27 ls []) := by
            intro zj
            induction zj with
            | zero =>
              intro k27 hk v4_27 hL H locs ls hl G
              have hk : k27 = (vn (X 1 9)) := by omega
              rw [hk] at hL hl
              refine lv_iload hx hb dX8_growsAs_27 (lv_at hl 5 rfl) ?_
              refine lv_aload_n hx hb dX8_growsAs_29 rfl (lv_at hl 0 rfl) ?_
              refine xr_get C G (show kW 0 by decide).2 (xW_c (show kW 0 by decide).1) rfl (fun _ h => List.mem_cons_of_mem _ (List.mem_append_left _ (List.mem_append_left _ (List.mem_append_right _ h)))) 0 (by decide) (show Cond.fieldLink RX8 10 "WheatCounts" "estate" "LWheatCounts$Estate;" ∈ _ by decide +kernel) rfl dX8_growsAs_30 ?_
              refine xr_get C G (show kE 1 by decide).2 (xE_c (show kE 1 by decide).1) rfl (fun _ h => List.mem_cons_of_mem _ (List.mem_append_left _ (List.mem_append_right _ h))) 9 (by decide) (show Cond.fieldLink RX8 68 "WheatCounts$Estate" "people" "I" ∈ _ by decide +kernel) rfl dX8_growsAs_33 ?_
              refine lv_icmp_ge (tgt := 106) hx hb dX8_growsAs_36 (by decide) (fun c36 => ?_) (fun c36 => absurd (lp_out (n := (vn (X 1 9))) hp.1) c36)
              obtain rfl := hL.trans hX27.symm
              exact hrest27 _ _ _ (lv_sub hl [0, 1, 2, 3, 4, 5] rfl) G
            | succ zj ih =>
              intro k27 hk v4_27 hL H locs ls hl G
              have hkn : k27 < (vn (X 1 9)) := by omega
              obtain ⟨v4_27s, hS0⟩ : ∃ (v4_27s : Int32), v4_27s = x8_growsAs_L27 X set ks (k27 + 1) := ⟨_, rfl⟩
              have hS := hS0
              rw [x8_growsAs_L27_s, lt_e hL] at hS
              refine lv_iload hx hb dX8_growsAs_27 (lv_at hl 5 rfl) ?_
              refine lv_aload_n hx hb dX8_growsAs_29 rfl (lv_at hl 0 rfl) ?_
              refine xr_get C G (show kW 0 by decide).2 (xW_c (show kW 0 by decide).1) rfl (fun _ h => List.mem_cons_of_mem _ (List.mem_append_left _ (List.mem_append_left _ (List.mem_append_right _ h)))) 0 (by decide) (show Cond.fieldLink RX8 10 "WheatCounts" "estate" "LWheatCounts$Estate;" ∈ _ by decide +kernel) rfl dX8_growsAs_30 ?_
              refine xr_get C G (show kE 1 by decide).2 (xE_c (show kE 1 by decide).1) rfl (fun _ h => List.mem_cons_of_mem _ (List.mem_append_left _ (List.mem_append_right _ h))) 9 (by decide) (show Cond.fieldLink RX8 68 "WheatCounts$Estate" "people" "I" ∈ _ by decide +kernel) rfl dX8_growsAs_33 ?_
              refine lv_icmp_ge (tgt := 106) hx hb dX8_growsAs_36 (by decide) (fun c36 => absurd c36 (lp_in (n := (vn (X 1 9))) hp.1 hkn (by omega))) (fun c36 => ?_)
              refine lv_iload hx hb dX8_growsAs_39 (lv_at hl 5 rfl) ?_
              refine lv_aload_n hx hb dX8_growsAs_41 rfl (lv_at hl 0 rfl) ?_
              refine xr_get C G (show kW 0 by decide).2 (xW_c (show kW 0 by decide).1) rfl (fun _ h => List.mem_cons_of_mem _ (List.mem_append_left _ (List.mem_append_left _ (List.mem_append_right _ h)))) 9 (by decide) (show Cond.fieldLink RX8 54 "WheatCounts" "views" "[I" ∈ _ by decide +kernel) rfl dX8_growsAs_42 ?_
              refine xr_len C G (show kI 60 8 by decide).2 (xI_c (show kI 60 8 by decide).1 _) dX8_growsAs_45 ?_
              refine lv_icmp_ge (tgt := 106) hx hb dX8_growsAs_46 (by decide) (fun c46 => absurd c46 (lp_in (n := 8) rfl (by omega) (by decide))) (fun c46 => ?_)
              refine lv_iload_n hx hb dX8_growsAs_49 rfl (lv_at hl 1 rfl) ?_
              refine lv_iload hx hb dX8_growsAs_50 (lv_at hl 5 rfl) ?_
              refine xr_ps C hA G (ks_X8_has zl set (nI k27)) (va_cwS 2 C.2.2.2.2.1 gX8_growsAs_X8_has rfl rfl rfl (by decide +kernel) ⟨Nat.le_of_ble_eq_true rfl, Nat.le_of_ble_eq_true rfl⟩) rfl hl.1 rfl (Nat.le_of_ble_eq_true rfl) dX8_growsAs_52 ⟨Nat.le_refl _, Nat.le_refl _⟩ (fun H locs G => ?_)
              obtain ⟨z4_100, hX100⟩ : ∃ (z4_100 : Int32), z4_100 = ((if (p8_has set (nI k27)) = 0 then v4_27 else (if (p8_has (X 60 k27) (nI ks)) = 0 then v4_27 else (lt (v4_27 + (p1_countsOf (X 5 k27) (X 6 k27))) fun (x98 : Int32) => x98))) : Int32) := ⟨_, rfl⟩
              rw [lt_e hX100] at hS
              have hj100 : ∀ (H : Heap) (locs : List Loc) (ls : Array Slot), lv_has ls 6 [(0, .ref (ad 0)), (1, .int set), (2, .ref (ad pS)), (3, .int (nI ks)), (4, .int z4_100), (5, .int (nI k27))] → xG D ad sa cc tt zA zs.heap H locs X → W zp zl ze ({ frames := 1, cells := 0, slots := 0, locals := 21 } : Room) zs zm zg zb zt zc H locs 0 0 zQ (F0 zm 100 ls []) := by
                intro H locs ls hl G
                refine lv_iinc (v := nI (k27 + 1)) (lv' := [(5, .int (nI (k27 + 1))), (0, .ref (ad 0)), (1, .int set), (2, .ref (ad pS)), (3, .int (nI ks)), (4, .int z4_100)]) hx hb dX8_growsAs_100 hl (k := 5) rfl (nt_add rfl (show (1 : Int32) = nI 1 from rfl)) (by decide) rfl (fun ls hl => ?_)
                refine lv_goto (tgt := 27) hx hb dX8_growsAs_103 (by decide) ?_
                subst hS
                exact ih (k27 + 1) (by omega) _ hS0 _ _ _ (lv_sub hl [1, 2, 3, 4, 5, 0] rfl) G
              refine lv_if_eq (tgt := 100) hx hb dX8_growsAs_55 (by decide) (fun c55 => ?_) (fun c55 => ?_)
              · rw [if_pos c55] at hX100
                subst hX100
                exact hj100 _ _ _ (lv_sub hl [0, 1, 2, 3, 4, 5] rfl) G
              · rw [if_neg c55] at hX100
                refine lv_aload_n hx hb dX8_growsAs_58 rfl (lv_at hl 0 rfl) ?_
                refine xr_get C G (show kW 0 by decide).2 (xW_c (show kW 0 by decide).1) rfl (fun _ h => List.mem_cons_of_mem _ (List.mem_append_left _ (List.mem_append_left _ (List.mem_append_right _ h)))) 9 (by decide) (show Cond.fieldLink RX8 54 "WheatCounts" "views" "[I" ∈ _ by decide +kernel) rfl dX8_growsAs_59 ?_
                refine lv_iload hx hb dX8_growsAs_62 (lv_at hl 5 rfl) ?_
                refine xr_ald C G (show kI 60 8 by decide).2 (xI_c (show kI 60 8 by decide).1 _) k27 rfl (by omega) (xI_lt (show kI 60 8 by decide)) dX8_growsAs_64 ?_
                refine lv_iload_n hx hb dX8_growsAs_65 rfl (lv_at hl 3 rfl) ?_
                refine xr_ps C hA G (ks_X8_has zl (X 60 k27) (nI ks)) (va_cwS 2 C.2.2.2.2.1 gX8_growsAs_X8_has rfl rfl rfl (by decide +kernel) ⟨Nat.le_of_ble_eq_true rfl, Nat.le_of_ble_eq_true rfl⟩) rfl hl.1 rfl (Nat.le_of_ble_eq_true rfl) dX8_growsAs_66 ⟨Nat.le_refl _, Nat.le_refl _⟩ (fun H locs G => ?_)
                refine lv_if_eq (tgt := 100) hx hb dX8_growsAs_69 (by decide) (fun c69 => ?_) (fun c69 => ?_)
                · rw [if_pos c69] at hX100
                  subst hX100
                  exact hj100 _ _ _ (lv_sub hl [0, 1, 2, 3, 4, 5] rfl) G
                · rw [if_neg c69] at hX100
                  refine lv_iload hx hb dX8_growsAs_72 (lv_at hl 4 rfl) ?_
                  refine lv_aload_n hx hb dX8_growsAs_74 rfl (lv_at hl 0 rfl) ?_
                  refine xr_get C G (show kW 0 by decide).2 (xW_c (show kW 0 by decide).1) rfl (fun _ h => List.mem_cons_of_mem _ (List.mem_append_left _ (List.mem_append_left _ (List.mem_append_right _ h)))) 0 (by decide) (show Cond.fieldLink RX8 10 "WheatCounts" "estate" "LWheatCounts$Estate;" ∈ _ by decide +kernel) rfl dX8_growsAs_75 ?_
                  refine xr_get C G (show kE 1 by decide).2 (xE_c (show kE 1 by decide).1) rfl (fun _ h => List.mem_cons_of_mem _ (List.mem_append_left _ (List.mem_append_right _ h))) 10 (by decide) (show Cond.fieldLink RX8 118 "WheatCounts$Estate" "kind" "[I" ∈ _ by decide +kernel) rfl dX8_growsAs_78 ?_
                  refine lv_iload hx hb dX8_growsAs_81 (lv_at hl 5 rfl) ?_
                  refine xr_ald C G (show kI 5 8 by decide).2 (xI_c (show kI 5 8 by decide).1 _) k27 rfl (by omega) (xI_lt (show kI 5 8 by decide)) dX8_growsAs_83 ?_
                  refine lv_aload_n hx hb dX8_growsAs_84 rfl (lv_at hl 0 rfl) ?_
                  refine xr_get C G (show kW 0 by decide).2 (xW_c (show kW 0 by decide).1) rfl (fun _ h => List.mem_cons_of_mem _ (List.mem_append_left _ (List.mem_append_left _ (List.mem_append_right _ h)))) 0 (by decide) (show Cond.fieldLink RX8 10 "WheatCounts" "estate" "LWheatCounts$Estate;" ∈ _ by decide +kernel) rfl dX8_growsAs_85 ?_
                  refine xr_get C G (show kE 1 by decide).2 (xE_c (show kE 1 by decide).1) rfl (fun _ h => List.mem_cons_of_mem _ (List.mem_append_left _ (List.mem_append_right _ h))) 11 (by decide) (show Cond.fieldLink RX8 121 "WheatCounts$Estate" "m" "[I" ∈ _ by decide +kernel) rfl dX8_growsAs_88 ?_
                  refine lv_iload hx hb dX8_growsAs_91 (lv_at hl 5 rfl) ?_
                  refine xr_ald C G (show kI 6 8 by decide).2 (xI_c (show kI 6 8 by decide).1 _) k27 rfl (by omega) (xI_lt (show kI 6 8 by decide)) dX8_growsAs_93 ?_
                  refine xr_ps C hA G (ks_X1_countsOf zl (X 5 k27) (X 6 k27)) (va_cwS 2 C.2.2.2.2.1 gX8_growsAs_X1_countsOf rfl rfl rfl (by decide +kernel) ⟨Nat.le_of_ble_eq_true rfl, Nat.le_of_ble_eq_true rfl⟩) rfl hl.1 rfl (Nat.le_of_ble_eq_true rfl) dX8_growsAs_94 ⟨Nat.le_refl _, Nat.le_refl _⟩ (fun H locs G => ?_)
                  refine lv_iadd hx hb dX8_growsAs_97 ?_
                  refine lv_topi (fun x98 hx98 => ?_)
                  rw [lt_e hx98] at hX100
                  refine lv_istore (lv' := [(4, .int x98), (0, .ref (ad 0)), (1, .int set), (2, .ref (ad pS)), (3, .int (nI ks)), (5, .int (nI k27))]) hx hb dX8_growsAs_98 hl (by decide) rfl (fun ls hl => ?_)
                  subst hX100
                  exact hj100 _ _ _ (lv_sub hl [1, 2, 3, 4, 0, 5] rfl) G
          exact hloop27 _ 0 (Nat.add_zero _) _ rfl _ _ _ (lv_sub hl [2, 3, 4, 5, 1, 0] rfl) G
  exact hloop2 11 0 ⟨by omega, by omega⟩ hF _ _ _ (lv_sub hl [1, 2, 3, 0] rfl) G
set_option maxRecDepth 100000 in
set_option maxHeartbeats 4000000 in
theorem kx8_looked (zl : Launch) (D : va_G) (ad sa : Nat → Nat) (cc : cT) (tt : tT) (X : xS) (s : Int32) (what : Int32) (hR : eR tt X 1) (hsh : shR X) : xM zl D ad sa cc tt yX8_looked wsX8_looked ({ frames := 6, cells := 0, slots := 0, locals := 137 } : Room) [.ref (ad 0), .int s, .int what] X (x8_looked tt X s what) := by
  refine xM_of (code := cX8_looked) (nL := 6) (own := RX8) (by decide) rfl rfl (Nat.le_of_ble_eq_true rfl) ?_
  intro zp ze zs zm zg zb zt zc zA zQ C hA hret H locs ls hl G
  have hx := C.1
  have hb := C.2.1
  have hl : lv_has ls 6 [(0, .ref (ad 0)), (1, .int s), (2, .int what)] := hl
  obtain ⟨rM, hF⟩ : ∃ Z : Int32 × xS, Z = x8_looked tt X s what := ⟨_, rfl⟩
  rw [← hF] at hret
  unfold x8_looked at hF
  have hc := hR.1
  have hp := hR.2.1
  have ha := hR.2.2.1
  have ht := hR.2.2.2
  have hc2 := hc.2.1
  have hc3 := hc.2.2
  have hp2 := hp.2
  refine lv_iload_n hx hb dX8_looked_0 rfl (lv_at hl 1 rfl) ?_
  refine xr_ps C hA G (ks_X8_isSheet zl s) (va_cwS 1 C.2.2.2.2.1 gX8_looked_X8_isSheet rfl rfl rfl (by decide +kernel) ⟨Nat.le_of_ble_eq_true rfl, Nat.le_of_ble_eq_true rfl⟩) rfl hl.1 rfl (Nat.le_of_ble_eq_true rfl) dX8_looked_1 ⟨Nat.le_refl _, Nat.le_refl _⟩ (fun H locs G => ?_)
  refine lv_if_eq (tgt := 16) hx hb dX8_looked_4 (by decide) (fun c4 => ?_) (fun c4 => ?_)
  · rw [if_pos c4] at hF
    refine lv_aload_n hx hb dX8_looked_16 rfl (lv_at hl 0 rfl) ?_
    refine lv_iconst (v := 1) hx hb dX8_looked_17 (by decide) ?_
    obtain ⟨x18, X18, hx18⟩ : ∃ (Z : Int32) (Y : xS), (Z, Y) = x8_error X 1 := ⟨_, _, rfl⟩
    refine xr_Vi (r0 := x18) (X2 := X18) C hA G (by rw [hx18]; exact (kx8_error zl D ad sa cc tt X 1)) (show kW 0 by decide).2 (xW_c (show kW 0 by decide).1) rfl (cwV 1 C.2.2.2.2.1 gX8_looked_X8_error rfl rfl rfl (by decide +kernel) ⟨Nat.le_of_ble_eq_true rfl, Nat.le_of_ble_eq_true rfl⟩) rfl hl.1 rfl (Nat.le_of_ble_eq_true rfl) dX8_looked_18 ⟨Nat.le_refl _, Nat.le_refl _⟩ (fun H locs G => ?_)
    rw [lt2_e hx18] at hF
    exact hret _ _ _ _ _ _ hF G dX8_looked_21
  · rw [if_neg c4] at hF
    have s9 := in_natp (n := 3) c4 rfl (by decide)
    have s92 := s9.2
    refine lv_iload_n hx hb dX8_looked_7 rfl (lv_at hl 2 rfl) ?_
    refine lv_iconst (v := 0) hx hb dX8_looked_8 (by decide) ?_
    refine lv_iconst (v := 1) hx hb dX8_looked_9 (by decide) ?_
    refine xr_ps C hA G (ks_X8_within zl what 0 1) (va_cwS 3 C.2.2.2.2.1 gX8_looked_X8_within rfl rfl rfl (by decide +kernel) ⟨Nat.le_of_ble_eq_true rfl, Nat.le_of_ble_eq_true rfl⟩) rfl hl.1 rfl (Nat.le_of_ble_eq_true rfl) dX8_looked_10 ⟨Nat.le_refl _, Nat.le_refl _⟩ (fun H locs G => ?_)
    refine lv_if_ne (tgt := 22) hx hb dX8_looked_13 (by decide) (fun c13 => ?_) (fun c13 => ?_)
    · rw [if_neg c13] at hF
      refine lv_aload_n hx hb dX8_looked_22 rfl (lv_at hl 0 rfl) ?_
      refine xr_get C G (show kW 0 by decide).2 (xW_c (show kW 0 by decide).1) rfl (fun _ h => List.mem_cons_of_mem _ (List.mem_append_left _ (List.mem_append_left _ (List.mem_append_left _ (List.mem_append_right _ h))))) 7 (by decide) (show Cond.fieldLink RX8 45 "WheatCounts" "sheets" "[LWheatCounts$Sheet;" ∈ _ by decide +kernel) rfl dX8_looked_23 ?_
      refine lv_iload_n hx hb dX8_looked_26 rfl (lv_at hl 1 rfl) ?_
      refine xr_qld C G (vn s) s9.1 (by omega) dX8_looked_27 ?_
      refine xr_Vi C hA G (kx5_isMissing zl D ad sa cc tt X (51 + 2 * (vn s)) (kS_s (show (vn s) < 4 by omega))) (kS_s (show (vn s) < 4 by omega)).2 (xS_c (kS_s (show (vn s) < 4 by omega)).1) rfl (cwV 0 C.2.2.2.2.1 gX8_looked_X5_isMissing rfl rfl rfl (by decide +kernel) ⟨Nat.le_of_ble_eq_true rfl, Nat.le_of_ble_eq_true rfl⟩) rfl hl.1 rfl (Nat.le_of_ble_eq_true rfl) dX8_looked_28 ⟨Nat.le_refl _, Nat.le_refl _⟩ (fun H locs G => ?_)
      refine lv_if_ne (tgt := 53) hx hb dX8_looked_31 (by decide) (fun c31 => ?_) (fun c31 => ?_)
      · rw [if_neg c31] at hF
        refine lv_aload_n hx hb dX8_looked_53 rfl (lv_at hl 0 rfl) ?_
        refine lv_iconst (v := 2) hx hb dX8_looked_54 (by decide) ?_
        obtain ⟨x55, X55, hx55⟩ : ∃ (Z : Int32) (Y : xS), (Z, Y) = x8_error X 2 := ⟨_, _, rfl⟩
        refine xr_Vi (r0 := x55) (X2 := X55) C hA G (by rw [hx55]; exact (kx8_error zl D ad sa cc tt X 2)) (show kW 0 by decide).2 (xW_c (show kW 0 by decide).1) rfl (cwV 1 C.2.2.2.2.1 gX8_looked_X8_error rfl rfl rfl (by decide +kernel) ⟨Nat.le_of_ble_eq_true rfl, Nat.le_of_ble_eq_true rfl⟩) rfl hl.1 rfl (Nat.le_of_ble_eq_true rfl) dX8_looked_55 ⟨Nat.le_refl _, Nat.le_refl _⟩ (fun H locs G => ?_)
        rw [lt2_e hx55] at hF
        exact hret _ _ _ _ _ _ hF G dX8_looked_58
      · rw [if_pos c31] at hF
        refine lv_aload_n hx hb dX8_looked_34 rfl (lv_at hl 0 rfl) ?_
        refine xr_get C G (show kW 0 by decide).2 (xW_c (show kW 0 by decide).1) rfl (fun _ h => List.mem_cons_of_mem _ (List.mem_append_left _ (List.mem_append_left _ (List.mem_append_left _ (List.mem_append_right _ h))))) 7 (by decide) (show Cond.fieldLink RX8 45 "WheatCounts" "sheets" "[LWheatCounts$Sheet;" ∈ _ by decide +kernel) rfl dX8_looked_35 ?_
        refine lv_iload_n hx hb dX8_looked_38 rfl (lv_at hl 1 rfl) ?_
        refine xr_qld C G (vn s) s9.1 (by omega) dX8_looked_39 ?_
        refine xr_get C G (kS_s (show (vn s) < 4 by omega)).2 (xS_c (kS_s (show (vn s) < 4 by omega)).1) rfl (fun _ h => List.mem_cons_of_mem _ (List.mem_append_left _ (List.mem_append_left _ (List.mem_append_right _ h)))) 2 (by decide) (show Cond.fieldLink RX8 241 "WheatCounts$Sheet" "size" "I" ∈ _ by decide +kernel) rfl dX8_looked_40 ?_
        refine lv_aload_n hx hb dX8_looked_43 rfl (lv_at hl 0 rfl) ?_
        refine xr_get C G (show kW 0 by decide).2 (xW_c (show kW 0 by decide).1) rfl (fun _ h => List.mem_cons_of_mem _ (List.mem_append_left _ (List.mem_append_left _ (List.mem_append_left _ (List.mem_append_right _ h))))) 0 (by decide) (show Cond.fieldLink RX8 10 "WheatCounts" "estate" "LWheatCounts$Estate;" ∈ _ by decide +kernel) rfl dX8_looked_44 ?_
        refine xr_get C G (show kE 1 by decide).2 (xE_c (show kE 1 by decide).1) rfl (fun _ h => List.mem_cons_of_mem _ (List.mem_append_left _ (List.mem_append_right _ h))) 0 (by decide) (show Cond.fieldLink RX8 72 "WheatCounts$Estate" "cells" "I" ∈ _ by decide +kernel) rfl dX8_looked_47 ?_
        refine lv_icmp_eq (tgt := 59) hx hb dX8_looked_50 (by decide) (fun c50 => ?_) (fun c50 => ?_)
        · rw [if_pos c50] at hF
          refine lv_aload_n hx hb dX8_looked_59 rfl (lv_at hl 0 rfl) ?_
          refine xr_Vv C hA G (kx8_lookAround zl D ad sa cc tt X hR) (show kW 0 by decide).2 (xW_c (show kW 0 by decide).1) rfl (cwV 0 C.2.2.2.2.1 gX8_looked_X8_lookAround rfl rfl rfl (by decide +kernel) ⟨Nat.le_of_ble_eq_true rfl, Nat.le_of_ble_eq_true rfl⟩) rfl hl.1 rfl (Nat.le_of_ble_eq_true rfl) dX8_looked_60 ⟨Nat.le_refl _, Nat.le_refl _⟩ (fun H locs G => ?_)
          obtain ⟨X60, hX60⟩ : ∃ Z : xS, Z = x8_lookAround tt X := ⟨_, rfl⟩
          have G : xG D ad sa cc tt zA zs.heap H locs X60 := by rw [hX60]; exact G
          rw [lt_e hX60] at hF
          have hk60 : ∀ p, p ≠ 60 → X60 p = X p := by rw [hX60]; intro p h; exact la_row tt X p h
          have hR60 : eR tt X60 1 := eR_of (hk60 1 (by decide)) (hk60 7 (by decide)) hR
          have hp60 := hR60.2.1
          have hp602 := hp60.2
          refine lv_iconst (v := 0) hx hb dX8_looked_63 (by decide) ?_
          refine lv_istore_n (lv' := [(3, .int 0), (0, .ref (ad 0)), (1, .int s), (2, .int what)]) hx hb dX8_looked_64 rfl hl (by decide) rfl (fun ls hl => ?_)
          refine lv_iconst (v := -1) hx hb dX8_looked_65 (by decide) ?_
          refine lv_istore (lv' := [(4, .int (-1)), (3, .int 0), (0, .ref (ad 0)), (1, .int s), (2, .int what)]) hx hb dX8_looked_66 hl (by decide) rfl (fun ls hl => ?_)
          refine lv_iconst (v := 1) hx hb dX8_looked_68 (by decide) ?_
          refine lv_aload_n hx hb dX8_looked_69 rfl (lv_at hl 2 rfl) ?_
          refine xr_get C G (show kW 0 by decide).2 (xW_c (show kW 0 by decide).1) rfl (fun _ h => List.mem_cons_of_mem _ (List.mem_append_left _ (List.mem_append_left _ (List.mem_append_left _ (List.mem_append_right _ h))))) 0 (by decide) (show Cond.fieldLink RX8 10 "WheatCounts" "estate" "LWheatCounts$Estate;" ∈ _ by decide +kernel) rfl dX8_looked_70 ?_
          refine xr_get C G (show kE 1 by decide).2 (xE_c (show kE 1 by decide).1) rfl (fun _ h => List.mem_cons_of_mem _ (List.mem_append_left _ (List.mem_append_right _ h))) 9 (by decide) (show Cond.fieldLink RX8 68 "WheatCounts$Estate" "people" "I" ∈ _ by decide +kernel) rfl dX8_looked_73 ?_
          refine lv_ishl hx hb dX8_looked_76 ?_
          refine lv_iconst (v := 1) hx hb dX8_looked_77 (by decide) ?_
          refine lv_isub hx hb dX8_looked_78 ?_
          refine lv_topi (fun x79 hx79 => ?_)
          rw [lt_e hx79] at hF
          refine lv_istore (lv' := [(5, .int x79), (4, .int (-1)), (3, .int 0), (0, .ref (ad 0)), (1, .int s), (2, .int what)]) hx hb dX8_looked_79 hl (by decide) rfl (fun ls hl => ?_)
          obtain ⟨v5_81x, v4_81x, v3_81x, hX81⟩ : ∃ (v5_81x : Int32) (v4_81x : Int32) (v3_81x : Int32), (v5_81x, v4_81x, v3_81x) = x8_looked_L81 s X60 (2 ^ vn (X60 1 9) + 1) x79 (-1) 0 := ⟨_, _, _, rfl⟩
          rw [lt3_e hX81] at hF
          have hrest81 : ∀ (H : Heap) (locs : List Loc) (ls : Array Slot), lv_has ls 6 [(0, .ref (ad 0)), (1, .int s), (2, .int what), (3, .int v3_81x), (4, .int v4_81x), (5, .int v5_81x)] → xG D ad sa cc tt zA zs.heap H locs X60 → W zp zl ze ({ frames := 6, cells := 0, slots := 0, locals := 137 } : Room) zs zm zg zb zt zc H locs 0 0 zQ (F0 zm 114 ls []) := by
            intro H locs ls hl G
            refine lv_aload_n hx hb dX8_looked_114 rfl (lv_at hl 0 rfl) ?_
            refine lv_iload_n hx hb dX8_looked_115 rfl (lv_at hl 2 rfl) ?_
            refine lv_iload_n hx hb dX8_looked_116 rfl (lv_at hl 3 rfl) ?_
            refine lv_iload hx hb dX8_looked_117 (lv_at hl 4 rfl) ?_
            obtain ⟨x119, X119, hx119⟩ : ∃ (Z : Int32) (Y : xS), (Z, Y) = x8_manyOrLeast X60 what v3_81x v4_81x := ⟨_, _, rfl⟩
            refine xr_Vi (r0 := x119) (X2 := X119) C hA G (by rw [hx119]; exact (kx8_manyOrLeast zl D ad sa cc tt X60 what v3_81x v4_81x)) (show kW 0 by decide).2 (xW_c (show kW 0 by decide).1) rfl (cwV 3 C.2.2.2.2.1 gX8_looked_X8_manyOrLeast rfl rfl rfl (by decide +kernel) ⟨Nat.le_of_ble_eq_true rfl, Nat.le_of_ble_eq_true rfl⟩) rfl hl.1 rfl (Nat.le_of_ble_eq_true rfl) dX8_looked_119 ⟨Nat.le_refl _, Nat.le_refl _⟩ (fun H locs G => ?_)
            rw [lt2_e hx119] at hF
            exact hret _ _ _ _ _ _ hF G dX8_looked_122
          have hloop81 : ∀ (f : Nat) (v5_81 : Int32) (v4_81 : Int32) (v3_81 : Int32), (v5_81 = nI f + (-2) ∧ 0 < f) → (v5_81x, v4_81x, v3_81x) = x8_looked_L81 s X60 f v5_81 v4_81 v3_81 → ∀ (H : Heap) (locs : List Loc) (ls : Array Slot), lv_has ls 6 [(0, .ref (ad 0)), (1, .int s), (2, .int what), (3, .int v3_81), (4, .int v4_81), (5, .int v5_81)] → xG D ad sa cc tt zA zs.heap H locs X60 → W zp zl ze ({ frames := 6, cells := 0, slots := 0, locals := 137 } : Room) zs zm zg zb zt zc H locs 0 0 zQ (F0 zm 81 ls []) := by
            intro f
            induction f with
            | zero =>
              intro v5_81 v4_81 v3_81 hI hL81 H locs ls hl G
              exact absurd hI.2 (Nat.lt_irrefl _)
            | succ f ih =>
              intro v5_81 v4_81 v3_81 hI hL81 H locs ls hl G
              rw [x8_looked_L81_s] at hL81
              refine lv_iload hx hb dX8_looked_81 (lv_at hl 5 rfl) ?_
              refine lv_if_lt (tgt := 114) hx hb dX8_looked_83 (by decide) (fun c83 => ?_) (fun c83 => ?_)
              · rw [if_pos c83] at hL81
                cases hL81
                exact hrest81 _ _ _ (lv_sub hl [0, 1, 2, 3, 4, 5] rfl) G
              · rw [if_neg c83] at hL81
                refine lv_aload_n hx hb dX8_looked_86 rfl (lv_at hl 0 rfl) ?_
                refine lv_iload hx hb dX8_looked_87 (lv_at hl 5 rfl) ?_
                refine lv_aload_n hx hb dX8_looked_89 rfl (lv_at hl 0 rfl) ?_
                refine xr_get C G (show kW 0 by decide).2 (xW_c (show kW 0 by decide).1) rfl (fun _ h => List.mem_cons_of_mem _ (List.mem_append_left _ (List.mem_append_left _ (List.mem_append_left _ (List.mem_append_right _ h))))) 7 (by decide) (show Cond.fieldLink RX8 45 "WheatCounts" "sheets" "[LWheatCounts$Sheet;" ∈ _ by decide +kernel) rfl dX8_looked_90 ?_
                refine lv_iload_n hx hb dX8_looked_93 rfl (lv_at hl 1 rfl) ?_
                refine xr_qld C G (vn s) s9.1 (by omega) dX8_looked_94 ?_
                refine xr_Vi C hA G (kx8_growsAs zl D ad sa cc tt X60 (51 + 2 * (vn s)) v5_81 (kS_s (show (vn s) < 4 by omega)) hR60.1 hR60.2.1) (show kW 0 by decide).2 (xW_c (show kW 0 by decide).1) rfl (cwV 2 C.2.2.2.2.1 gX8_looked_X8_growsAs rfl rfl rfl (by decide +kernel) ⟨Nat.le_of_ble_eq_true rfl, Nat.le_of_ble_eq_true rfl⟩) rfl hl.1 rfl (Nat.le_of_ble_eq_true rfl) dX8_looked_95 ⟨Nat.le_refl _, Nat.le_refl _⟩ (fun H locs G => ?_)
                obtain ⟨z3_108, z4_108, hX108⟩ : ∃ (z3_108 : Int32) (z4_108 : Int32), (z3_108, z4_108) = ((if (x8_growsAs X60 (51 + 2 * (vn s)) v5_81) = 0 then (v3_81, v4_81) else ((v3_81 + 1), v5_81)) : Int32 × Int32) := ⟨_, _, rfl⟩
                rw [lt2_e hX108] at hL81
                have hj108 : ∀ (H : Heap) (locs : List Loc) (ls : Array Slot), lv_has ls 6 [(0, .ref (ad 0)), (1, .int s), (2, .int what), (3, .int z3_108), (4, .int z4_108), (5, .int v5_81)] → xG D ad sa cc tt zA zs.heap H locs X60 → W zp zl ze ({ frames := 6, cells := 0, slots := 0, locals := 137 } : Room) zs zm zg zb zt zc H locs 0 0 zQ (F0 zm 108 ls []) := by
                  intro H locs ls hl G
                  refine lv_iinc (v := (v5_81 + (-1))) (lv' := [(5, .int (v5_81 + (-1))), (0, .ref (ad 0)), (1, .int s), (2, .int what), (3, .int z3_108), (4, .int z4_108)]) hx hb dX8_looked_108 hl (k := 5) rfl rfl (by decide) rfl (fun ls hl => ?_)
                  refine lv_goto (tgt := 81) hx hb dX8_looked_111 (by decide) ?_
                  exact ih (v5_81 + (-1)) z4_108 z3_108 (sums_step hI c83) hL81 _ _ _ (lv_sub hl [1, 2, 3, 4, 5, 0] rfl) G
                refine lv_if_eq (tgt := 108) hx hb dX8_looked_98 (by decide) (fun c98 => ?_) (fun c98 => ?_)
                · rw [if_pos c98] at hX108
                  cases hX108
                  exact hj108 _ _ _ (lv_sub hl [0, 1, 2, 3, 4, 5] rfl) G
                · rw [if_neg c98] at hX108
                  refine lv_iinc (v := (v3_81 + 1)) (lv' := [(3, .int (v3_81 + 1)), (0, .ref (ad 0)), (1, .int s), (2, .int what), (4, .int v4_81), (5, .int v5_81)]) hx hb dX8_looked_101 hl (k := 3) rfl rfl (by decide) rfl (fun ls hl => ?_)
                  refine lv_iload hx hb dX8_looked_104 (lv_at hl 5 rfl) ?_
                  refine lv_istore (lv' := [(4, .int v5_81), (3, .int (v3_81 + 1)), (0, .ref (ad 0)), (1, .int s), (2, .int what), (5, .int v5_81)]) hx hb dX8_looked_106 hl (by decide) rfl (fun ls hl => ?_)
                  cases hX108
                  exact hj108 _ _ _ (lv_sub hl [2, 3, 4, 1, 0, 5] rfl) G
          exact hloop81 _ _ _ _ ⟨by rw [hx79]; exact sums_init hp60.1 (by omega), Nat.succ_pos _⟩ hX81 _ _ _ (lv_sub hl [3, 4, 5, 2, 1, 0] rfl) G
        · rw [if_neg c50] at hF
          refine lv_aload_n hx hb dX8_looked_53 rfl (lv_at hl 0 rfl) ?_
          refine lv_iconst (v := 2) hx hb dX8_looked_54 (by decide) ?_
          obtain ⟨x55, X55, hx55⟩ : ∃ (Z : Int32) (Y : xS), (Z, Y) = x8_error X 2 := ⟨_, _, rfl⟩
          refine xr_Vi (r0 := x55) (X2 := X55) C hA G (by rw [hx55]; exact (kx8_error zl D ad sa cc tt X 2)) (show kW 0 by decide).2 (xW_c (show kW 0 by decide).1) rfl (cwV 1 C.2.2.2.2.1 gX8_looked_X8_error rfl rfl rfl (by decide +kernel) ⟨Nat.le_of_ble_eq_true rfl, Nat.le_of_ble_eq_true rfl⟩) rfl hl.1 rfl (Nat.le_of_ble_eq_true rfl) dX8_looked_55 ⟨Nat.le_refl _, Nat.le_refl _⟩ (fun H locs G => ?_)
          rw [lt2_e hx55] at hF
          exact hret _ _ _ _ _ _ hF G dX8_looked_58
    · rw [if_pos c13] at hF
      refine lv_aload_n hx hb dX8_looked_16 rfl (lv_at hl 0 rfl) ?_
      refine lv_iconst (v := 1) hx hb dX8_looked_17 (by decide) ?_
      obtain ⟨x18, X18, hx18⟩ : ∃ (Z : Int32) (Y : xS), (Z, Y) = x8_error X 1 := ⟨_, _, rfl⟩
      refine xr_Vi (r0 := x18) (X2 := X18) C hA G (by rw [hx18]; exact (kx8_error zl D ad sa cc tt X 1)) (show kW 0 by decide).2 (xW_c (show kW 0 by decide).1) rfl (cwV 1 C.2.2.2.2.1 gX8_looked_X8_error rfl rfl rfl (by decide +kernel) ⟨Nat.le_of_ble_eq_true rfl, Nat.le_of_ble_eq_true rfl⟩) rfl hl.1 rfl (Nat.le_of_ble_eq_true rfl) dX8_looked_18 ⟨Nat.le_refl _, Nat.le_refl _⟩ (fun H locs G => ?_)
      rw [lt2_e hx18] at hF
      exact hret _ _ _ _ _ _ hF G dX8_looked_21
set_option maxRecDepth 100000 in
set_option maxHeartbeats 4000000 in
theorem kx8_seenTogether (zl : Launch) (D : va_G) (ad sa : Nat → Nat) (cc : cT) (tt : tT) (X : xS) (set : Int32) (hp : eP X 1) : xM zl D ad sa cc tt yX8_seenTogether wsX8_seenTogether ({ frames := 1, cells := 0, slots := 0, locals := 21 } : Room) [.ref (ad 0), .int set] X ((x8_seenTogether X set, X)) := by
  refine xM_of (code := cX8_seenTogether) (nL := 4) (own := RX8) (by decide) rfl rfl (Nat.le_of_ble_eq_true rfl) ?_
  intro zp ze zs zm zg zb zt zc zA zQ C hA hret H locs ls hl G
  have hx := C.1
  have hb := C.2.1
  have hl : lv_has ls 4 [(0, .ref (ad 0)), (1, .int set)] := hl
  obtain ⟨rM, hF⟩ : ∃ Z : Int32, Z = x8_seenTogether X set := ⟨_, rfl⟩
  rw [← hF] at hret
  unfold x8_seenTogether at hF
  have hp2 := hp.2
  refine lv_iconst (v := 0) hx hb dX8_seenTogether_0 (by decide) ?_
  refine lv_istore_n (lv' := [(2, .int 0), (0, .ref (ad 0)), (1, .int set)]) hx hb dX8_seenTogether_1 rfl hl (by decide) rfl (fun ls hl => ?_)
  refine lv_iconst (v := 0) hx hb dX8_seenTogether_2 (by decide) ?_
  refine lv_istore_n (lv' := [(3, .int 0), (2, .int 0), (0, .ref (ad 0)), (1, .int set)]) hx hb dX8_seenTogether_3 rfl hl (by decide) rfl (fun ls hl => ?_)
  obtain ⟨v2_4x, hX4⟩ : ∃ (v2_4x : Int32), v2_4x = x8_seenTogether_L4 X set (vn (X 1 9)) := ⟨_, rfl⟩
  rw [lt_e hX4] at hF
  have hrest4 : ∀ (H : Heap) (locs : List Loc) (ls : Array Slot), lv_has ls 4 [(0, .ref (ad 0)), (1, .int set), (2, .int v2_4x), (3, .int (nI (vn (X 1 9))))] → xG D ad sa cc tt zA zs.heap H locs X → W zp zl ze ({ frames := 1, cells := 0, slots := 0, locals := 21 } : Room) zs zm zg zb zt zc H locs 0 0 zQ (F0 zm 47 ls []) := by
    intro H locs ls hl G
    refine lv_iload_n hx hb dX8_seenTogether_47 rfl (lv_at hl 2 rfl) ?_
    exact hret _ _ _ _ _ _ (by rw [hF]) G dX8_seenTogether_48
  have hloop4 : ∀ (zj k4 : Nat), zj + k4 = (vn (X 1 9)) → ∀ (v2_4 : Int32), v2_4 = x8_seenTogether_L4 X set k4 → ∀ (H : Heap) (locs : List Loc) (ls : Array Slot), lv_has ls 4 [(0, .ref (ad 0)), (1, .int set), (2, .int v2_4), (3, .int (nI k4))] → xG D ad sa cc tt zA zs.heap H locs X → W zp zl ze ({ frames := 1, cells := 0, slots := 0, locals := 21 } : Room) zs zm zg zb zt zc H locs 0 0 zQ (F0 zm 4 ls []) := by
    intro zj
    induction zj with
    | zero =>
      intro k4 hk v2_4 hL H locs ls hl G
      have hk : k4 = (vn (X 1 9)) := by omega
      rw [hk] at hL hl
      refine lv_iload_n hx hb dX8_seenTogether_4 rfl (lv_at hl 3 rfl) ?_
      refine lv_aload_n hx hb dX8_seenTogether_5 rfl (lv_at hl 0 rfl) ?_
      refine xr_get C G (show kW 0 by decide).2 (xW_c (show kW 0 by decide).1) rfl (fun _ h => List.mem_cons_of_mem _ (List.mem_append_left _ (List.mem_append_right _ h))) 0 (by decide) (show Cond.fieldLink RX8 10 "WheatCounts" "estate" "LWheatCounts$Estate;" ∈ _ by decide +kernel) rfl dX8_seenTogether_6 ?_
      refine xr_get C G (show kE 1 by decide).2 (xE_c (show kE 1 by decide).1) rfl (fun _ h => List.mem_cons_of_mem _ (List.mem_append_right _ h)) 9 (by decide) (show Cond.fieldLink RX8 68 "WheatCounts$Estate" "people" "I" ∈ _ by decide +kernel) rfl dX8_seenTogether_9 ?_
      refine lv_icmp_ge (tgt := 47) hx hb dX8_seenTogether_12 (by decide) (fun c12 => ?_) (fun c12 => absurd (lp_out (n := (vn (X 1 9))) hp.1) c12)
      obtain rfl := hL.trans hX4.symm
      exact hrest4 _ _ _ (lv_sub hl [0, 1, 2, 3] rfl) G
    | succ zj ih =>
      intro k4 hk v2_4 hL H locs ls hl G
      have hkn : k4 < (vn (X 1 9)) := by omega
      obtain ⟨v2_4s, hS0⟩ : ∃ (v2_4s : Int32), v2_4s = x8_seenTogether_L4 X set (k4 + 1) := ⟨_, rfl⟩
      have hS := hS0
      rw [x8_seenTogether_L4_s, lt_e hL] at hS
      refine lv_iload_n hx hb dX8_seenTogether_4 rfl (lv_at hl 3 rfl) ?_
      refine lv_aload_n hx hb dX8_seenTogether_5 rfl (lv_at hl 0 rfl) ?_
      refine xr_get C G (show kW 0 by decide).2 (xW_c (show kW 0 by decide).1) rfl (fun _ h => List.mem_cons_of_mem _ (List.mem_append_left _ (List.mem_append_right _ h))) 0 (by decide) (show Cond.fieldLink RX8 10 "WheatCounts" "estate" "LWheatCounts$Estate;" ∈ _ by decide +kernel) rfl dX8_seenTogether_6 ?_
      refine xr_get C G (show kE 1 by decide).2 (xE_c (show kE 1 by decide).1) rfl (fun _ h => List.mem_cons_of_mem _ (List.mem_append_right _ h)) 9 (by decide) (show Cond.fieldLink RX8 68 "WheatCounts$Estate" "people" "I" ∈ _ by decide +kernel) rfl dX8_seenTogether_9 ?_
      refine lv_icmp_ge (tgt := 47) hx hb dX8_seenTogether_12 (by decide) (fun c12 => absurd c12 (lp_in (n := (vn (X 1 9))) hp.1 hkn (by omega))) (fun c12 => ?_)
      refine lv_iload_n hx hb dX8_seenTogether_15 rfl (lv_at hl 3 rfl) ?_
      refine lv_aload_n hx hb dX8_seenTogether_16 rfl (lv_at hl 0 rfl) ?_
      refine xr_get C G (show kW 0 by decide).2 (xW_c (show kW 0 by decide).1) rfl (fun _ h => List.mem_cons_of_mem _ (List.mem_append_left _ (List.mem_append_right _ h))) 9 (by decide) (show Cond.fieldLink RX8 54 "WheatCounts" "views" "[I" ∈ _ by decide +kernel) rfl dX8_seenTogether_17 ?_
      refine xr_len C G (show kI 60 8 by decide).2 (xI_c (show kI 60 8 by decide).1 _) dX8_seenTogether_20 ?_
      refine lv_icmp_ge (tgt := 47) hx hb dX8_seenTogether_21 (by decide) (fun c21 => absurd c21 (lp_in (n := 8) rfl (by omega) (by decide))) (fun c21 => ?_)
      refine lv_iload_n hx hb dX8_seenTogether_24 rfl (lv_at hl 1 rfl) ?_
      refine lv_iload_n hx hb dX8_seenTogether_25 rfl (lv_at hl 3 rfl) ?_
      refine xr_ps C hA G (ks_X8_has zl set (nI k4)) (va_cwS 2 C.2.2.2.2.1 gX8_seenTogether_X8_has rfl rfl rfl (by decide +kernel) ⟨Nat.le_of_ble_eq_true rfl, Nat.le_of_ble_eq_true rfl⟩) rfl hl.1 rfl (Nat.le_of_ble_eq_true rfl) dX8_seenTogether_26 ⟨Nat.le_refl _, Nat.le_refl _⟩ (fun H locs G => ?_)
      obtain ⟨z2_41, hX41⟩ : ∃ (z2_41 : Int32), z2_41 = ((if (p8_has set (nI k4)) = 0 then v2_4 else (lt (v2_4 ||| (X 60 k4)) fun (x40 : Int32) => x40)) : Int32) := ⟨_, rfl⟩
      rw [lt_e hX41] at hS
      have hj41 : ∀ (H : Heap) (locs : List Loc) (ls : Array Slot), lv_has ls 4 [(0, .ref (ad 0)), (1, .int set), (2, .int z2_41), (3, .int (nI k4))] → xG D ad sa cc tt zA zs.heap H locs X → W zp zl ze ({ frames := 1, cells := 0, slots := 0, locals := 21 } : Room) zs zm zg zb zt zc H locs 0 0 zQ (F0 zm 41 ls []) := by
        intro H locs ls hl G
        refine lv_iinc (v := nI (k4 + 1)) (lv' := [(3, .int (nI (k4 + 1))), (0, .ref (ad 0)), (1, .int set), (2, .int z2_41)]) hx hb dX8_seenTogether_41 hl (k := 3) rfl (nt_add rfl (show (1 : Int32) = nI 1 from rfl)) (by decide) rfl (fun ls hl => ?_)
        refine lv_goto (tgt := 4) hx hb dX8_seenTogether_44 (by decide) ?_
        subst hS
        exact ih (k4 + 1) (by omega) _ hS0 _ _ _ (lv_sub hl [1, 2, 3, 0] rfl) G
      refine lv_if_eq (tgt := 41) hx hb dX8_seenTogether_29 (by decide) (fun c29 => ?_) (fun c29 => ?_)
      · rw [if_pos c29] at hX41
        subst hX41
        exact hj41 _ _ _ (lv_sub hl [0, 1, 2, 3] rfl) G
      · rw [if_neg c29] at hX41
        refine lv_iload_n hx hb dX8_seenTogether_32 rfl (lv_at hl 2 rfl) ?_
        refine lv_aload_n hx hb dX8_seenTogether_33 rfl (lv_at hl 0 rfl) ?_
        refine xr_get C G (show kW 0 by decide).2 (xW_c (show kW 0 by decide).1) rfl (fun _ h => List.mem_cons_of_mem _ (List.mem_append_left _ (List.mem_append_right _ h))) 9 (by decide) (show Cond.fieldLink RX8 54 "WheatCounts" "views" "[I" ∈ _ by decide +kernel) rfl dX8_seenTogether_34 ?_
        refine lv_iload_n hx hb dX8_seenTogether_37 rfl (lv_at hl 3 rfl) ?_
        refine xr_ald C G (show kI 60 8 by decide).2 (xI_c (show kI 60 8 by decide).1 _) k4 rfl (by omega) (xI_lt (show kI 60 8 by decide)) dX8_seenTogether_38 ?_
        refine lv_ior hx hb dX8_seenTogether_39 ?_
        refine lv_topi (fun x40 hx40 => ?_)
        rw [lt_e hx40] at hX41
        refine lv_istore_n (lv' := [(2, .int x40), (0, .ref (ad 0)), (1, .int set), (3, .int (nI k4))]) hx hb dX8_seenTogether_40 rfl hl (by decide) rfl (fun ls hl => ?_)
        subst hX41
        exact hj41 _ _ _ (lv_sub hl [1, 2, 0, 3] rfl) G
  exact hloop4 _ 0 (Nat.add_zero _) _ rfl _ _ _ (lv_sub hl [2, 3, 1, 0] rfl) G
set_option maxRecDepth 100000 in
set_option maxHeartbeats 4000000 in
theorem kx8_watch (zl : Launch) (D : va_G) (ad sa : Nat → Nat) (cc : cT) (tt : tT) (X : xS) (hR : eR tt X 1) : xM zl D ad sa cc tt yX8_watch wsX8_watch ({ frames := 6, cells := 0, slots := 0, locals := 137 } : Room) [.ref (ad 0)] X (x8_watch tt X) := by
  refine xM_of (code := cX8_watch) (nL := 4) (own := RX8) (by decide) rfl rfl (Nat.le_of_ble_eq_true rfl) ?_
  intro zp ze zs zm zg zb zt zc zA zQ C hA hret H locs ls hl G
  have hx := C.1
  have hb := C.2.1
  have hl : lv_has ls 4 [(0, .ref (ad 0))] := hl
  obtain ⟨rM, hF⟩ : ∃ Z : Int32 × xS, Z = x8_watch tt X := ⟨_, rfl⟩
  rw [← hF] at hret
  unfold x8_watch at hF
  have hc := hR.1
  have hp := hR.2.1
  have ha := hR.2.2.1
  have ht := hR.2.2.2
  have hc2 := hc.2.1
  have hc3 := hc.2.2
  have hp2 := hp.2
  refine lv_aload_n hx hb dX8_watch_0 rfl (lv_at hl 0 rfl) ?_
  refine xr_Vv C hA G (kx8_lookAround zl D ad sa cc tt X hR) (show kW 0 by decide).2 (xW_c (show kW 0 by decide).1) rfl (cwV 0 C.2.2.2.2.1 gX8_watch_X8_lookAround rfl rfl rfl (by decide +kernel) ⟨Nat.le_of_ble_eq_true rfl, Nat.le_of_ble_eq_true rfl⟩) rfl hl.1 rfl (Nat.le_of_ble_eq_true rfl) dX8_watch_1 ⟨Nat.le_refl _, Nat.le_refl _⟩ (fun H locs G => ?_)
  obtain ⟨X1, hX1⟩ : ∃ Z : xS, Z = x8_lookAround tt X := ⟨_, rfl⟩
  have G : xG D ad sa cc tt zA zs.heap H locs X1 := by rw [hX1]; exact G
  rw [lt_e hX1] at hF
  have hk1 : ∀ p, p ≠ 60 → X1 p = X p := by rw [hX1]; intro p h; exact la_row tt X p h
  have hR1 : eR tt X1 1 := eR_of (hk1 1 (by decide)) (hk1 7 (by decide)) hR
  have hp1 := hR1.2.1
  have hp12 := hp1.2
  have hb8 := shl1 hp1.1 (by omega)
  refine lv_iconst (v := 1) hx hb dX8_watch_4 (by decide) ?_
  refine lv_aload_n hx hb dX8_watch_5 rfl (lv_at hl 0 rfl) ?_
  refine xr_get C G (show kW 0 by decide).2 (xW_c (show kW 0 by decide).1) rfl (fun _ h => List.mem_cons_of_mem _ (List.mem_append_left _ (List.mem_append_left _ (List.mem_append_right _ h)))) 0 (by decide) (show Cond.fieldLink RX8 10 "WheatCounts" "estate" "LWheatCounts$Estate;" ∈ _ by decide +kernel) rfl dX8_watch_6 ?_
  refine xr_get C G (show kE 1 by decide).2 (xE_c (show kE 1 by decide).1) rfl (fun _ h => List.mem_cons_of_mem _ (List.mem_append_left _ (List.mem_append_right _ h))) 0 (by decide) (show Cond.fieldLink RX8 72 "WheatCounts$Estate" "cells" "I" ∈ _ by decide +kernel) rfl dX8_watch_9 ?_
  refine lv_ishl hx hb dX8_watch_12 ?_
  refine lv_iconst (v := 1) hx hb dX8_watch_13 (by decide) ?_
  refine lv_isub hx hb dX8_watch_14 ?_
  refine lv_topi (fun x15 hx15 => ?_)
  rw [lt_e hx15] at hF
  refine lv_istore_n (lv' := [(1, .int x15), (0, .ref (ad 0))]) hx hb dX8_watch_15 rfl hl (by decide) rfl (fun ls hl => ?_)
  refine lv_iconst (v := -1) hx hb dX8_watch_16 (by decide) ?_
  refine lv_istore_n (lv' := [(2, .int (-1)), (1, .int x15), (0, .ref (ad 0))]) hx hb dX8_watch_17 rfl hl (by decide) rfl (fun ls hl => ?_)
  refine lv_iconst (v := 0) hx hb dX8_watch_18 (by decide) ?_
  refine lv_istore_n (lv' := [(3, .int 0), (2, .int (-1)), (1, .int x15), (0, .ref (ad 0))]) hx hb dX8_watch_19 rfl hl (by decide) rfl (fun ls hl => ?_)
  obtain ⟨v2_20x, hX20⟩ : ∃ (v2_20x : Int32), v2_20x = x8_watch_L20 X1 x15 (2 ^ vn (X1 1 9)) := ⟨_, rfl⟩
  rw [lt_e hX20] at hF
  have hrest20 : ∀ (H : Heap) (locs : List Loc) (ls : Array Slot), lv_has ls 4 [(0, .ref (ad 0)), (1, .int x15), (2, .int v2_20x), (3, .int (nI (2 ^ vn (X1 1 9))))] → xG D ad sa cc tt zA zs.heap H locs X1 → W zp zl ze ({ frames := 6, cells := 0, slots := 0, locals := 137 } : Room) zs zm zg zb zt zc H locs 0 0 zQ (F0 zm 58 ls []) := by
    intro H locs ls hl G
    refine lv_iload_n hx hb dX8_watch_58 rfl (lv_at hl 2 rfl) ?_
    refine lv_if_ge (tgt := 70) hx hb dX8_watch_59 (by decide) (fun c59 => ?_) (fun c59 => ?_)
    · rw [if_pos c59] at hF
      refine lv_iload_n hx hb dX8_watch_70 rfl (lv_at hl 2 rfl) ?_
      exact hret _ _ _ _ _ _ hF G dX8_watch_71
    · rw [if_neg c59] at hF
      refine lv_aload_n hx hb dX8_watch_62 rfl (lv_at hl 0 rfl) ?_
      refine lv_iconst (v := 2) hx hb dX8_watch_63 (by decide) ?_
      obtain ⟨x64, X64, hx64⟩ : ∃ (Z : Int32) (Y : xS), (Z, Y) = x8_error X1 2 := ⟨_, _, rfl⟩
      refine xr_Vi (r0 := x64) (X2 := X64) C hA G (by rw [hx64]; exact (kx8_error zl D ad sa cc tt X1 2)) (show kW 0 by decide).2 (xW_c (show kW 0 by decide).1) rfl (cwV 1 C.2.2.2.2.1 gX8_watch_X8_error rfl rfl rfl (by decide +kernel) ⟨Nat.le_of_ble_eq_true rfl, Nat.le_of_ble_eq_true rfl⟩) rfl hl.1 rfl (Nat.le_of_ble_eq_true rfl) dX8_watch_64 ⟨Nat.le_refl _, Nat.le_refl _⟩ (fun H locs G => ?_)
      rw [lt2_e hx64] at hF
      refine lv_goto (tgt := 71) hx hb dX8_watch_67 (by decide) ?_
      exact hret _ _ _ _ _ _ hF G dX8_watch_71
  have hloop20 : ∀ (zj k20 : Nat), zj + k20 = (2 ^ vn (X1 1 9)) → ∀ (v2_20 : Int32), v2_20 = x8_watch_L20 X1 x15 k20 → ∀ (H : Heap) (locs : List Loc) (ls : Array Slot), lv_has ls 4 [(0, .ref (ad 0)), (1, .int x15), (2, .int v2_20), (3, .int (nI k20))] → xG D ad sa cc tt zA zs.heap H locs X1 → W zp zl ze ({ frames := 6, cells := 0, slots := 0, locals := 137 } : Room) zs zm zg zb zt zc H locs 0 0 zQ (F0 zm 20 ls []) := by
    intro zj
    induction zj with
    | zero =>
      intro k20 hk v2_20 hL H locs ls hl G
      have hk : k20 = (2 ^ vn (X1 1 9)) := by omega
      rw [hk] at hL hl
      refine lv_iload_n hx hb dX8_watch_20 rfl (lv_at hl 3 rfl) ?_
      refine lv_iconst (v := 1) hx hb dX8_watch_21 (by decide) ?_
      refine lv_aload_n hx hb dX8_watch_22 rfl (lv_at hl 0 rfl) ?_
      refine xr_get C G (show kW 0 by decide).2 (xW_c (show kW 0 by decide).1) rfl (fun _ h => List.mem_cons_of_mem _ (List.mem_append_left _ (List.mem_append_left _ (List.mem_append_right _ h)))) 0 (by decide) (show Cond.fieldLink RX8 10 "WheatCounts" "estate" "LWheatCounts$Estate;" ∈ _ by decide +kernel) rfl dX8_watch_23 ?_
      refine xr_get C G (show kE 1 by decide).2 (xE_c (show kE 1 by decide).1) rfl (fun _ h => List.mem_cons_of_mem _ (List.mem_append_left _ (List.mem_append_right _ h))) 9 (by decide) (show Cond.fieldLink RX8 68 "WheatCounts$Estate" "people" "I" ∈ _ by decide +kernel) rfl dX8_watch_26 ?_
      refine lv_ishl hx hb dX8_watch_29 ?_
      refine lv_icmp_ge (tgt := 58) hx hb dX8_watch_30 (by decide) (fun c30 => ?_) (fun c30 => absurd (lp_out (n := (2 ^ vn (X1 1 9))) hb8.1) c30)
      obtain rfl := hL.trans hX20.symm
      exact hrest20 _ _ _ (lv_sub hl [0, 1, 2, 3] rfl) G
    | succ zj ih =>
      intro k20 hk v2_20 hL H locs ls hl G
      have hkn : k20 < (2 ^ vn (X1 1 9)) := by omega
      obtain ⟨v2_20s, hS0⟩ : ∃ (v2_20s : Int32), v2_20s = x8_watch_L20 X1 x15 (k20 + 1) := ⟨_, rfl⟩
      have hS := hS0
      rw [x8_watch_L20_s, lt_e hL] at hS
      refine lv_iload_n hx hb dX8_watch_20 rfl (lv_at hl 3 rfl) ?_
      refine lv_iconst (v := 1) hx hb dX8_watch_21 (by decide) ?_
      refine lv_aload_n hx hb dX8_watch_22 rfl (lv_at hl 0 rfl) ?_
      refine xr_get C G (show kW 0 by decide).2 (xW_c (show kW 0 by decide).1) rfl (fun _ h => List.mem_cons_of_mem _ (List.mem_append_left _ (List.mem_append_left _ (List.mem_append_right _ h)))) 0 (by decide) (show Cond.fieldLink RX8 10 "WheatCounts" "estate" "LWheatCounts$Estate;" ∈ _ by decide +kernel) rfl dX8_watch_23 ?_
      refine xr_get C G (show kE 1 by decide).2 (xE_c (show kE 1 by decide).1) rfl (fun _ h => List.mem_cons_of_mem _ (List.mem_append_left _ (List.mem_append_right _ h))) 9 (by decide) (show Cond.fieldLink RX8 68 "WheatCounts$Estate" "people" "I" ∈ _ by decide +kernel) rfl dX8_watch_26 ?_
      refine lv_ishl hx hb dX8_watch_29 ?_
      refine lv_icmp_ge (tgt := 58) hx hb dX8_watch_30 (by decide) (fun c30 => absurd c30 (lp_in (n := (2 ^ vn (X1 1 9))) hb8.1 hkn hb8.2)) (fun c30 => ?_)
      refine lv_iload_n hx hb dX8_watch_33 rfl (lv_at hl 3 rfl) ?_
      refine lv_iload_n hx hb dX8_watch_34 rfl (lv_at hl 2 rfl) ?_
      refine xr_ps C hA G (ks_X8_isFewer zl (nI k20) v2_20) (va_cwS 2 C.2.2.2.2.1 gX8_watch_X8_isFewer rfl rfl rfl (by decide +kernel) ⟨Nat.le_of_ble_eq_true rfl, Nat.le_of_ble_eq_true rfl⟩) rfl hl.1 rfl (Nat.le_of_ble_eq_true rfl) dX8_watch_35 ⟨Nat.le_refl _, Nat.le_refl _⟩ (fun H locs G => ?_)
      obtain ⟨z2_52, hX52⟩ : ∃ (z2_52 : Int32), z2_52 = ((if (p8_isFewer (nI k20) v2_20) = 0 then v2_20 else (if (x8_seenTogether X1 (nI k20)) = x15 then nI k20 else v2_20)) : Int32) := ⟨_, rfl⟩
      rw [lt_e hX52] at hS
      have hj52 : ∀ (H : Heap) (locs : List Loc) (ls : Array Slot), lv_has ls 4 [(0, .ref (ad 0)), (1, .int x15), (2, .int z2_52), (3, .int (nI k20))] → xG D ad sa cc tt zA zs.heap H locs X1 → W zp zl ze ({ frames := 6, cells := 0, slots := 0, locals := 137 } : Room) zs zm zg zb zt zc H locs 0 0 zQ (F0 zm 52 ls []) := by
        intro H locs ls hl G
        refine lv_iinc (v := nI (k20 + 1)) (lv' := [(3, .int (nI (k20 + 1))), (0, .ref (ad 0)), (1, .int x15), (2, .int z2_52)]) hx hb dX8_watch_52 hl (k := 3) rfl (nt_add rfl (show (1 : Int32) = nI 1 from rfl)) (by decide) rfl (fun ls hl => ?_)
        refine lv_goto (tgt := 20) hx hb dX8_watch_55 (by decide) ?_
        subst hS
        exact ih (k20 + 1) (by omega) _ hS0 _ _ _ (lv_sub hl [1, 2, 3, 0] rfl) G
      refine lv_if_eq (tgt := 52) hx hb dX8_watch_38 (by decide) (fun c38 => ?_) (fun c38 => ?_)
      · rw [if_pos c38] at hX52
        subst hX52
        exact hj52 _ _ _ (lv_sub hl [0, 1, 2, 3] rfl) G
      · rw [if_neg c38] at hX52
        refine lv_aload_n hx hb dX8_watch_41 rfl (lv_at hl 0 rfl) ?_
        refine lv_iload_n hx hb dX8_watch_42 rfl (lv_at hl 3 rfl) ?_
        refine xr_Vi C hA G (kx8_seenTogether zl D ad sa cc tt X1 (nI k20) hp1) (show kW 0 by decide).2 (xW_c (show kW 0 by decide).1) rfl (cwV 1 C.2.2.2.2.1 gX8_watch_X8_seenTogether rfl rfl rfl (by decide +kernel) ⟨Nat.le_of_ble_eq_true rfl, Nat.le_of_ble_eq_true rfl⟩) rfl hl.1 rfl (Nat.le_of_ble_eq_true rfl) dX8_watch_43 ⟨Nat.le_refl _, Nat.le_refl _⟩ (fun H locs G => ?_)
        refine lv_iload_n hx hb dX8_watch_46 rfl (lv_at hl 1 rfl) ?_
        refine lv_icmp_ne (tgt := 52) hx hb dX8_watch_47 (by decide) (fun c47 => ?_) (fun c47 => ?_)
        · rw [if_neg c47] at hX52
          subst hX52
          exact hj52 _ _ _ (lv_sub hl [0, 1, 2, 3] rfl) G
        · rw [if_pos c47] at hX52
          refine lv_iload_n hx hb dX8_watch_50 rfl (lv_at hl 3 rfl) ?_
          refine lv_istore_n (lv' := [(2, .int (nI k20)), (0, .ref (ad 0)), (1, .int x15), (3, .int (nI k20))]) hx hb dX8_watch_51 rfl hl (by decide) rfl (fun ls hl => ?_)
          subst hX52
          exact hj52 _ _ _ (lv_sub hl [1, 2, 0, 3] rfl) G
  exact hloop20 _ 0 (Nat.add_zero _) _ rfl _ _ _ (lv_sub hl [3, 2, 1, 0] rfl) G
set_option maxRecDepth 100000 in
set_option maxHeartbeats 4000000 in
theorem kx8_measureReaches (zl : Launch) (D : va_G) (ad sa : Nat → Nat) (cc : cT) (tt : tT) (X : xS) (fog : Int32) (hR : eR tt X 1) : xMv zl D ad sa cc tt yX8_measureReaches wsX8_measureReaches ({ frames := 4, cells := 0, slots := 0, locals := 95 } : Room) [.ref (ad 0), .int fog] X (x8_measureReaches tt X fog) := by
  refine xMv_of (code := cX8_measureReaches) (nL := 3) (own := RX8) (by decide) rfl rfl (Nat.le_of_ble_eq_true rfl) ?_
  intro zp ze zs zm zg zb zt zc zA zQ C hA hret H locs ls hl G
  have hx := C.1
  have hb := C.2.1
  have hl : lv_has ls 3 [(0, .ref (ad 0)), (1, .int fog)] := hl
  obtain ⟨rM, hF⟩ : ∃ Z : xS, Z = x8_measureReaches tt X fog := ⟨_, rfl⟩
  rw [← hF] at hret
  unfold x8_measureReaches at hF
  have hc := hR.1
  have hp := hR.2.1
  have ha := hR.2.2.1
  have ht := hR.2.2.2
  have hc2 := hc.2.1
  have hc3 := hc.2.2
  have hp2 := hp.2
  refine lv_iconst (v := 0) hx hb dX8_measureReaches_0 (by decide) ?_
  refine lv_istore_n (lv' := [(2, .int 0), (0, .ref (ad 0)), (1, .int fog)]) hx hb dX8_measureReaches_1 rfl hl (by decide) rfl (fun ls hl => ?_)
  obtain ⟨X2x, hX2⟩ : ∃ (X2x : xS), X2x = x8_measureReaches_L2 tt X fog (vn (X 1 9)) := ⟨_, rfl⟩
  rw [lt_e hX2] at hF
  have hrest2 : ∀ (H : Heap) (locs : List Loc) (ls : Array Slot), lv_has ls 3 [(0, .ref (ad 0)), (1, .int fog), (2, .int (nI (vn (X 1 9))))] → xG D ad sa cc tt zA zs.heap H locs X2x → W zp zl ze ({ frames := 4, cells := 0, slots := 0, locals := 95 } : Room) zs zm zg zb zt zc H locs 0 0 zQ (F0 zm 50 ls []) := by
    intro H locs ls hl G
    exact hret _ _ _ _ _ hF G dX8_measureReaches_50
  have hloop2 : ∀ (zj k2 : Nat), zj + k2 = (vn (X 1 9)) → ∀ (X2 : xS), X2 = x8_measureReaches_L2 tt X fog k2 → ∀ (H : Heap) (locs : List Loc) (ls : Array Slot), lv_has ls 3 [(0, .ref (ad 0)), (1, .int fog), (2, .int (nI k2))] → xG D ad sa cc tt zA zs.heap H locs X2 → W zp zl ze ({ frames := 4, cells := 0, slots := 0, locals := 95 } : Room) zs zm zg zb zt zc H locs 0 0 zQ (F0 zm 2 ls []) := by
    intro zj
    induction zj with
    | zero =>
      intro k2 hk X2 hL H locs ls hl G
      have hk : k2 = (vn (X 1 9)) := by omega
      rw [hk] at hL hl
      have hk2 : ∀ p, p ≠ 59 → X2 p = X p := by rw [hL]; intro p h; exact mr_L2 _ _ _ _ _ h
      refine lv_iload_n hx hb dX8_measureReaches_2 rfl (lv_at hl 2 rfl) ?_
      refine lv_aload_n hx hb dX8_measureReaches_3 rfl (lv_at hl 0 rfl) ?_
      refine xr_get C G (show kW 0 by decide).2 (xW_c (show kW 0 by decide).1) rfl (fun _ h => List.mem_cons_of_mem _ (List.mem_append_left _ (List.mem_append_left _ (List.mem_append_right _ h)))) 0 (by decide) (show Cond.fieldLink RX8 10 "WheatCounts" "estate" "LWheatCounts$Estate;" ∈ _ by decide +kernel) rfl dX8_measureReaches_4 ?_
      refine xr_get C G (show kE 1 by decide).2 (xE_c (show kE 1 by decide).1) rfl (fun _ h => List.mem_cons_of_mem _ (List.mem_append_left _ (List.mem_append_right _ h))) 9 (by decide) (show Cond.fieldLink RX8 68 "WheatCounts$Estate" "people" "I" ∈ _ by decide +kernel) rfl dX8_measureReaches_7 ?_
      refine lv_icmp_ge (tgt := 50) hx hb dX8_measureReaches_10 (by decide) (fun c10 => ?_) (fun c10 => absurd (lp_out (n := (vn (X 1 9))) (by rw [hk2 1 (by decide)]; exact hp.1)) c10)
      obtain rfl := hL.trans hX2.symm
      exact hrest2 _ _ _ (lv_sub hl [0, 1, 2] rfl) G
    | succ zj ih =>
      intro k2 hk X2 hL H locs ls hl G
      have hkn : k2 < (vn (X 1 9)) := by omega
      obtain ⟨X2s, hS0⟩ : ∃ (X2s : xS), X2s = x8_measureReaches_L2 tt X fog (k2 + 1) := ⟨_, rfl⟩
      have hS := hS0
      rw [x8_measureReaches_L2_s, lt_e hL] at hS
      have hk2 : ∀ p, p ≠ 59 → X2 p = X p := by rw [hL]; intro p h; exact mr_L2 _ _ _ _ _ h
      have hR2 : eR tt X2 1 := eR_of (hk2 1 (by decide)) (hk2 7 (by decide)) hR
      refine lv_iload_n hx hb dX8_measureReaches_2 rfl (lv_at hl 2 rfl) ?_
      refine lv_aload_n hx hb dX8_measureReaches_3 rfl (lv_at hl 0 rfl) ?_
      refine xr_get C G (show kW 0 by decide).2 (xW_c (show kW 0 by decide).1) rfl (fun _ h => List.mem_cons_of_mem _ (List.mem_append_left _ (List.mem_append_left _ (List.mem_append_right _ h)))) 0 (by decide) (show Cond.fieldLink RX8 10 "WheatCounts" "estate" "LWheatCounts$Estate;" ∈ _ by decide +kernel) rfl dX8_measureReaches_4 ?_
      refine xr_get C G (show kE 1 by decide).2 (xE_c (show kE 1 by decide).1) rfl (fun _ h => List.mem_cons_of_mem _ (List.mem_append_left _ (List.mem_append_right _ h))) 9 (by decide) (show Cond.fieldLink RX8 68 "WheatCounts$Estate" "people" "I" ∈ _ by decide +kernel) rfl dX8_measureReaches_7 ?_
      refine lv_icmp_ge (tgt := 50) hx hb dX8_measureReaches_10 (by decide) (fun c10 => absurd c10 (lp_in (n := (vn (X 1 9))) (by rw [hk2 1 (by decide)]; exact hp.1) hkn (by omega))) (fun c10 => ?_)
      refine lv_iload_n hx hb dX8_measureReaches_13 rfl (lv_at hl 2 rfl) ?_
      refine lv_aload_n hx hb dX8_measureReaches_14 rfl (lv_at hl 0 rfl) ?_
      refine xr_get C G (show kW 0 by decide).2 (xW_c (show kW 0 by decide).1) rfl (fun _ h => List.mem_cons_of_mem _ (List.mem_append_left _ (List.mem_append_left _ (List.mem_append_right _ h)))) 8 (by decide) (show Cond.fieldLink RX8 50 "WheatCounts" "reaches" "[I" ∈ _ by decide +kernel) rfl dX8_measureReaches_15 ?_
      refine xr_len C G (show kI 59 8 by decide).2 (xI_c (show kI 59 8 by decide).1 _) dX8_measureReaches_18 ?_
      refine lv_icmp_ge (tgt := 50) hx hb dX8_measureReaches_19 (by decide) (fun c19 => absurd c19 (lp_in (n := 8) rfl (by omega) (by decide))) (fun c19 => ?_)
      refine lv_aload_n hx hb dX8_measureReaches_22 rfl (lv_at hl 0 rfl) ?_
      refine xr_get C G (show kW 0 by decide).2 (xW_c (show kW 0 by decide).1) rfl (fun _ h => List.mem_cons_of_mem _ (List.mem_append_left _ (List.mem_append_left _ (List.mem_append_right _ h)))) 8 (by decide) (show Cond.fieldLink RX8 50 "WheatCounts" "reaches" "[I" ∈ _ by decide +kernel) rfl dX8_measureReaches_23 ?_
      refine lv_iload_n hx hb dX8_measureReaches_26 rfl (lv_at hl 2 rfl) ?_
      refine lv_aload_n hx hb dX8_measureReaches_27 rfl (lv_at hl 0 rfl) ?_
      refine xr_get C G (show kW 0 by decide).2 (xW_c (show kW 0 by decide).1) rfl (fun _ h => List.mem_cons_of_mem _ (List.mem_append_left _ (List.mem_append_left _ (List.mem_append_right _ h)))) 0 (by decide) (show Cond.fieldLink RX8 10 "WheatCounts" "estate" "LWheatCounts$Estate;" ∈ _ by decide +kernel) rfl dX8_measureReaches_28 ?_
      refine lv_iload_n hx hb dX8_measureReaches_31 rfl (lv_at hl 2 rfl) ?_
      refine lv_iload_n hx hb dX8_measureReaches_32 rfl (lv_at hl 1 rfl) ?_
      refine lv_aload_n hx hb dX8_measureReaches_33 rfl (lv_at hl 0 rfl) ?_
      refine xr_get C G (show kW 0 by decide).2 (xW_c (show kW 0 by decide).1) rfl (fun _ h => List.mem_cons_of_mem _ (List.mem_append_left _ (List.mem_append_left _ (List.mem_append_right _ h)))) 0 (by decide) (show Cond.fieldLink RX8 10 "WheatCounts" "estate" "LWheatCounts$Estate;" ∈ _ by decide +kernel) rfl dX8_measureReaches_34 ?_
      refine xr_get C G (show kE 1 by decide).2 (xE_c (show kE 1 by decide).1) rfl (fun _ h => List.mem_cons_of_mem _ (List.mem_append_left _ (List.mem_append_right _ h))) 7 (by decide) (show Cond.fieldLink RX8 130 "WheatCounts$Estate" "hour" "I" ∈ _ by decide +kernel) rfl dX8_measureReaches_37 ?_
      refine xr_Vi C hA G (kx0_sightIn zl D ad sa cc tt X2 1 k2 fog (X2 1 7) (show kE 1 by decide) hR2.2.2.2 (by omega)) (show kE 1 by decide).2 (xE_c (show kE 1 by decide).1) rfl (cwV 3 C.2.2.2.2.1 gX8_measureReaches_X0_sightIn rfl rfl rfl (by decide +kernel) ⟨Nat.le_of_ble_eq_true rfl, Nat.le_of_ble_eq_true rfl⟩) rfl hl.1 rfl (Nat.le_of_ble_eq_true rfl) dX8_measureReaches_40 ⟨Nat.le_refl _, Nat.le_refl _⟩ (fun H locs G => ?_)
      refine xr_ast C G (show kI 59 8 by decide).2 (xI_c (show kI 59 8 by decide).1) k2 rfl (by omega) (xI_lt (show kI 59 8 by decide)) dX8_measureReaches_43 (fun H locs G => ?_)
      obtain ⟨X43, hX43⟩ : ∃ Z : xS, Z = mU X2 59 k2 (x0_sightIn tt X2 1 k2 fog (X2 1 7)) := ⟨_, rfl⟩
      have G : xG D ad sa cc tt zA zs.heap H locs X43 := by rw [hX43]; exact G
      rw [lt_e hX43] at hS
      refine lv_iinc (v := nI (k2 + 1)) (lv' := [(2, .int (nI (k2 + 1))), (0, .ref (ad 0)), (1, .int fog)]) hx hb dX8_measureReaches_44 hl (k := 2) rfl (nt_add rfl (show (1 : Int32) = nI 1 from rfl)) (by decide) rfl (fun ls hl => ?_)
      refine lv_goto (tgt := 2) hx hb dX8_measureReaches_47 (by decide) ?_
      subst hS
      exact ih (k2 + 1) (by omega) _ hS0 _ _ _ (lv_sub hl [1, 2, 0] rfl) G
  exact hloop2 _ 0 (Nat.add_zero _) _ rfl _ _ _ (lv_sub hl [1, 2, 0] rfl) G
set_option maxRecDepth 100000 in
set_option maxHeartbeats 4000000 in
theorem kx8_hide (zl : Launch) (D : va_G) (ad sa : Nat → Nat) (cc : cT) (tt : tT) (X : xS) (c : Int32) (hR : eR tt X 1) : xM zl D ad sa cc tt yX8_hide wsX8_hide ({ frames := 5, cells := 0, slots := 0, locals := 117 } : Room) [.ref (ad 0), .int c] X (x8_hide tt X c) := by
  refine xM_of (code := cX8_hide) (nL := 4) (own := RX8) (by decide) rfl rfl (Nat.le_of_ble_eq_true rfl) ?_
  intro zp ze zs zm zg zb zt zc zA zQ C hA hret H locs ls hl G
  have hx := C.1
  have hb := C.2.1
  have hl : lv_has ls 4 [(0, .ref (ad 0)), (1, .int c)] := hl
  obtain ⟨rM, hF⟩ : ∃ Z : Int32 × xS, Z = x8_hide tt X c := ⟨_, rfl⟩
  rw [← hF] at hret
  unfold x8_hide at hF
  have hc := hR.1
  have hp := hR.2.1
  have ha := hR.2.2.1
  have ht := hR.2.2.2
  have hc2 := hc.2.1
  have hc3 := hc.2.2
  have hp2 := hp.2
  refine lv_aload_n hx hb dX8_hide_0 rfl (lv_at hl 0 rfl) ?_
  refine lv_iload_n hx hb dX8_hide_1 rfl (lv_at hl 1 rfl) ?_
  refine xr_Vi C hA G (kx8_isCell zl D ad sa cc tt X c) (show kW 0 by decide).2 (xW_c (show kW 0 by decide).1) rfl (cwV 1 C.2.2.2.2.1 gX8_hide_X8_isCell rfl rfl rfl (by decide +kernel) ⟨Nat.le_of_ble_eq_true rfl, Nat.le_of_ble_eq_true rfl⟩) rfl hl.1 rfl (Nat.le_of_ble_eq_true rfl) dX8_hide_2 ⟨Nat.le_refl _, Nat.le_refl _⟩ (fun H locs G => ?_)
  refine lv_if_ne (tgt := 14) hx hb dX8_hide_5 (by decide) (fun c5 => ?_) (fun c5 => ?_)
  · rw [if_neg c5] at hF
    refine lv_aload_n hx hb dX8_hide_14 rfl (lv_at hl 0 rfl) ?_
    refine lv_aload_n hx hb dX8_hide_15 rfl (lv_at hl 0 rfl) ?_
    refine xr_get C G (show kW 0 by decide).2 (xW_c (show kW 0 by decide).1) rfl (fun _ h => List.mem_cons_of_mem _ (List.mem_append_left _ (List.mem_append_left _ (List.mem_append_right _ h)))) 0 (by decide) (show Cond.fieldLink RX8 10 "WheatCounts" "estate" "LWheatCounts$Estate;" ∈ _ by decide +kernel) rfl dX8_hide_16 ?_
    refine xr_get C G (show kE 1 by decide).2 (xE_c (show kE 1 by decide).1) rfl (fun _ h => List.mem_cons_of_mem _ (List.mem_append_left _ (List.mem_append_right _ h))) 6 (by decide) (show Cond.fieldLink RX8 105 "WheatCounts$Estate" "fog" "I" ∈ _ by decide +kernel) rfl dX8_hide_19 ?_
    refine xr_Vv C hA G (kx8_measureReaches zl D ad sa cc tt X (X 1 6) hR) (show kW 0 by decide).2 (xW_c (show kW 0 by decide).1) rfl (cwV 1 C.2.2.2.2.1 gX8_hide_X8_measureReaches rfl rfl rfl (by decide +kernel) ⟨Nat.le_of_ble_eq_true rfl, Nat.le_of_ble_eq_true rfl⟩) rfl hl.1 rfl (Nat.le_of_ble_eq_true rfl) dX8_hide_22 ⟨Nat.le_refl _, Nat.le_refl _⟩ (fun H locs G => ?_)
    obtain ⟨X22, hX22⟩ : ∃ Z : xS, Z = x8_measureReaches tt X (X 1 6) := ⟨_, rfl⟩
    have G : xG D ad sa cc tt zA zs.heap H locs X22 := by rw [hX22]; exact G
    rw [lt_e hX22] at hF
    have hk22 : ∀ p, p ≠ 59 → X22 p = X p := by rw [hX22]; intro p h; exact mr_row tt X _ p h
    have hR22 : eR tt X22 1 := eR_of (hk22 1 (by decide)) (hk22 7 (by decide)) hR
    have hb8 : 1 <<< ((X22 1 0 - 1) &&& 31) = nI (2 ^ (vn (X22 1 0) - 1)) ∧ 2 ^ (vn (X22 1 0) - 1) < 2 ^ 31 := shl1 (nt_sub hR22.1.1 (show (1 : Int32) = nI 1 from rfl) (by have := hR22.1.2.1; omega)) (by have := hR22.1.2.2; omega)
    refine lv_iconst (v := -1) hx hb dX8_hide_25 (by decide) ?_
    refine lv_istore_n (lv' := [(2, .int (-1)), (0, .ref (ad 0)), (1, .int c)]) hx hb dX8_hide_26 rfl hl (by decide) rfl (fun ls hl => ?_)
    refine lv_iconst (v := 0) hx hb dX8_hide_27 (by decide) ?_
    refine lv_istore_n (lv' := [(3, .int 0), (2, .int (-1)), (0, .ref (ad 0)), (1, .int c)]) hx hb dX8_hide_28 rfl hl (by decide) rfl (fun ls hl => ?_)
    obtain ⟨v2_29x, hX29⟩ : ∃ (v2_29x : Int32), v2_29x = x8_hide_L29 c X22 (2 ^ (vn (X22 1 0) - 1)) := ⟨_, rfl⟩
    rw [lt_e hX29] at hF
    have hrest29 : ∀ (H : Heap) (locs : List Loc) (ls : Array Slot), lv_has ls 4 [(0, .ref (ad 0)), (1, .int c), (2, .int v2_29x), (3, .int (nI (2 ^ (vn (X22 1 0) - 1))))] → xG D ad sa cc tt zA zs.heap H locs X22 → W zp zl ze ({ frames := 5, cells := 0, slots := 0, locals := 117 } : Room) zs zm zg zb zt zc H locs 0 0 zQ (F0 zm 84 ls []) := by
      intro H locs ls hl G
      refine lv_iload_n hx hb dX8_hide_84 rfl (lv_at hl 2 rfl) ?_
      refine lv_if_ge (tgt := 96) hx hb dX8_hide_85 (by decide) (fun c85 => ?_) (fun c85 => ?_)
      · rw [if_pos c85] at hF
        refine lv_iload_n hx hb dX8_hide_96 rfl (lv_at hl 2 rfl) ?_
        exact hret _ _ _ _ _ _ hF G dX8_hide_97
      · rw [if_neg c85] at hF
        refine lv_aload_n hx hb dX8_hide_88 rfl (lv_at hl 0 rfl) ?_
        refine lv_iconst (v := 2) hx hb dX8_hide_89 (by decide) ?_
        obtain ⟨x90, X90, hx90⟩ : ∃ (Z : Int32) (Y : xS), (Z, Y) = x8_error X22 2 := ⟨_, _, rfl⟩
        refine xr_Vi (r0 := x90) (X2 := X90) C hA G (by rw [hx90]; exact (kx8_error zl D ad sa cc tt X22 2)) (show kW 0 by decide).2 (xW_c (show kW 0 by decide).1) rfl (cwV 1 C.2.2.2.2.1 gX8_hide_X8_error rfl rfl rfl (by decide +kernel) ⟨Nat.le_of_ble_eq_true rfl, Nat.le_of_ble_eq_true rfl⟩) rfl hl.1 rfl (Nat.le_of_ble_eq_true rfl) dX8_hide_90 ⟨Nat.le_refl _, Nat.le_refl _⟩ (fun H locs G => ?_)
        rw [lt2_e hx90] at hF
        refine lv_goto (tgt := 97) hx hb dX8_hide_93 (by decide) ?_
        exact hret _ _ _ _ _ _ hF G dX8_hide_97
    have hloop29 : ∀ (zj k29 : Nat), zj + k29 = (2 ^ (vn (X22 1 0) - 1)) → ∀ (v2_29 : Int32), v2_29 = x8_hide_L29 c X22 k29 → ∀ (H : Heap) (locs : List Loc) (ls : Array Slot), lv_has ls 4 [(0, .ref (ad 0)), (1, .int c), (2, .int v2_29), (3, .int (nI k29))] → xG D ad sa cc tt zA zs.heap H locs X22 → W zp zl ze ({ frames := 5, cells := 0, slots := 0, locals := 117 } : Room) zs zm zg zb zt zc H locs 0 0 zQ (F0 zm 29 ls []) := by
      intro zj
      induction zj with
      | zero =>
        intro k29 hk v2_29 hL H locs ls hl G
        have hk : k29 = (2 ^ (vn (X22 1 0) - 1)) := by omega
        rw [hk] at hL hl
        refine lv_iload_n hx hb dX8_hide_29 rfl (lv_at hl 3 rfl) ?_
        refine lv_iconst (v := 1) hx hb dX8_hide_30 (by decide) ?_
        refine lv_aload_n hx hb dX8_hide_31 rfl (lv_at hl 0 rfl) ?_
        refine xr_get C G (show kW 0 by decide).2 (xW_c (show kW 0 by decide).1) rfl (fun _ h => List.mem_cons_of_mem _ (List.mem_append_left _ (List.mem_append_left _ (List.mem_append_right _ h)))) 0 (by decide) (show Cond.fieldLink RX8 10 "WheatCounts" "estate" "LWheatCounts$Estate;" ∈ _ by decide +kernel) rfl dX8_hide_32 ?_
        refine xr_get C G (show kE 1 by decide).2 (xE_c (show kE 1 by decide).1) rfl (fun _ h => List.mem_cons_of_mem _ (List.mem_append_left _ (List.mem_append_right _ h))) 0 (by decide) (show Cond.fieldLink RX8 72 "WheatCounts$Estate" "cells" "I" ∈ _ by decide +kernel) rfl dX8_hide_35 ?_
        refine lv_iconst (v := 1) hx hb dX8_hide_38 (by decide) ?_
        refine lv_isub hx hb dX8_hide_39 ?_
        refine lv_ishl hx hb dX8_hide_40 ?_
        refine lv_icmp_ge (tgt := 84) hx hb dX8_hide_41 (by decide) (fun c41 => ?_) (fun c41 => absurd (lp_out (n := (2 ^ (vn (X22 1 0) - 1))) hb8.1) c41)
        obtain rfl := hL.trans hX29.symm
        exact hrest29 _ _ _ (lv_sub hl [0, 1, 2, 3] rfl) G
      | succ zj ih =>
        intro k29 hk v2_29 hL H locs ls hl G
        have hkn : k29 < (2 ^ (vn (X22 1 0) - 1)) := by omega
        obtain ⟨v2_29s, hS0⟩ : ∃ (v2_29s : Int32), v2_29s = x8_hide_L29 c X22 (k29 + 1) := ⟨_, rfl⟩
        have hS := hS0
        rw [x8_hide_L29_s, lt_e hL] at hS
        refine lv_iload_n hx hb dX8_hide_29 rfl (lv_at hl 3 rfl) ?_
        refine lv_iconst (v := 1) hx hb dX8_hide_30 (by decide) ?_
        refine lv_aload_n hx hb dX8_hide_31 rfl (lv_at hl 0 rfl) ?_
        refine xr_get C G (show kW 0 by decide).2 (xW_c (show kW 0 by decide).1) rfl (fun _ h => List.mem_cons_of_mem _ (List.mem_append_left _ (List.mem_append_left _ (List.mem_append_right _ h)))) 0 (by decide) (show Cond.fieldLink RX8 10 "WheatCounts" "estate" "LWheatCounts$Estate;" ∈ _ by decide +kernel) rfl dX8_hide_32 ?_
        refine xr_get C G (show kE 1 by decide).2 (xE_c (show kE 1 by decide).1) rfl (fun _ h => List.mem_cons_of_mem _ (List.mem_append_left _ (List.mem_append_right _ h))) 0 (by decide) (show Cond.fieldLink RX8 72 "WheatCounts$Estate" "cells" "I" ∈ _ by decide +kernel) rfl dX8_hide_35 ?_
        refine lv_iconst (v := 1) hx hb dX8_hide_38 (by decide) ?_
        refine lv_isub hx hb dX8_hide_39 ?_
        refine lv_ishl hx hb dX8_hide_40 ?_
        refine lv_icmp_ge (tgt := 84) hx hb dX8_hide_41 (by decide) (fun c41 => absurd c41 (lp_in (n := (2 ^ (vn (X22 1 0) - 1))) hb8.1 hkn hb8.2)) (fun c41 => ?_)
        refine lv_iload_n hx hb dX8_hide_44 rfl (lv_at hl 3 rfl) ?_
        refine lv_iload_n hx hb dX8_hide_45 rfl (lv_at hl 2 rfl) ?_
        refine xr_ps C hA G (ks_X8_isFewer zl (nI k29) v2_29) (va_cwS 2 C.2.2.2.2.1 gX8_hide_X8_isFewer rfl rfl rfl (by decide +kernel) ⟨Nat.le_of_ble_eq_true rfl, Nat.le_of_ble_eq_true rfl⟩) rfl hl.1 rfl (Nat.le_of_ble_eq_true rfl) dX8_hide_46 ⟨Nat.le_refl _, Nat.le_refl _⟩ (fun H locs G => ?_)
        obtain ⟨z2_78, hX78⟩ : ∃ (z2_78 : Int32), z2_78 = ((if (p8_isFewer (nI k29) v2_29) = 0 then v2_29 else (if (x0_isSeen X22 1 59 8 c ((X22 1 4) ||| (nI k29))) = 0 then nI k29 else v2_29)) : Int32) := ⟨_, rfl⟩
        rw [lt_e hX78] at hS
        have hj78 : ∀ (H : Heap) (locs : List Loc) (ls : Array Slot), lv_has ls 4 [(0, .ref (ad 0)), (1, .int c), (2, .int z2_78), (3, .int (nI k29))] → xG D ad sa cc tt zA zs.heap H locs X22 → W zp zl ze ({ frames := 5, cells := 0, slots := 0, locals := 117 } : Room) zs zm zg zb zt zc H locs 0 0 zQ (F0 zm 78 ls []) := by
          intro H locs ls hl G
          refine lv_iinc (v := nI (k29 + 1)) (lv' := [(3, .int (nI (k29 + 1))), (0, .ref (ad 0)), (1, .int c), (2, .int z2_78)]) hx hb dX8_hide_78 hl (k := 3) rfl (nt_add rfl (show (1 : Int32) = nI 1 from rfl)) (by decide) rfl (fun ls hl => ?_)
          refine lv_goto (tgt := 29) hx hb dX8_hide_81 (by decide) ?_
          subst hS
          exact ih (k29 + 1) (by omega) _ hS0 _ _ _ (lv_sub hl [1, 2, 3, 0] rfl) G
        refine lv_if_eq (tgt := 78) hx hb dX8_hide_49 (by decide) (fun c49 => ?_) (fun c49 => ?_)
        · rw [if_pos c49] at hX78
          subst hX78
          exact hj78 _ _ _ (lv_sub hl [0, 1, 2, 3] rfl) G
        · rw [if_neg c49] at hX78
          refine lv_aload_n hx hb dX8_hide_52 rfl (lv_at hl 0 rfl) ?_
          refine xr_get C G (show kW 0 by decide).2 (xW_c (show kW 0 by decide).1) rfl (fun _ h => List.mem_cons_of_mem _ (List.mem_append_left _ (List.mem_append_left _ (List.mem_append_right _ h)))) 0 (by decide) (show Cond.fieldLink RX8 10 "WheatCounts" "estate" "LWheatCounts$Estate;" ∈ _ by decide +kernel) rfl dX8_hide_53 ?_
          refine lv_iload_n hx hb dX8_hide_56 rfl (lv_at hl 1 rfl) ?_
          refine lv_aload_n hx hb dX8_hide_57 rfl (lv_at hl 0 rfl) ?_
          refine xr_get C G (show kW 0 by decide).2 (xW_c (show kW 0 by decide).1) rfl (fun _ h => List.mem_cons_of_mem _ (List.mem_append_left _ (List.mem_append_left _ (List.mem_append_right _ h)))) 8 (by decide) (show Cond.fieldLink RX8 50 "WheatCounts" "reaches" "[I" ∈ _ by decide +kernel) rfl dX8_hide_58 ?_
          refine lv_aload_n hx hb dX8_hide_61 rfl (lv_at hl 0 rfl) ?_
          refine xr_get C G (show kW 0 by decide).2 (xW_c (show kW 0 by decide).1) rfl (fun _ h => List.mem_cons_of_mem _ (List.mem_append_left _ (List.mem_append_left _ (List.mem_append_right _ h)))) 0 (by decide) (show Cond.fieldLink RX8 10 "WheatCounts" "estate" "LWheatCounts$Estate;" ∈ _ by decide +kernel) rfl dX8_hide_62 ?_
          refine xr_get C G (show kE 1 by decide).2 (xE_c (show kE 1 by decide).1) rfl (fun _ h => List.mem_cons_of_mem _ (List.mem_append_left _ (List.mem_append_right _ h))) 4 (by decide) (show Cond.fieldLink RX8 99 "WheatCounts$Estate" "hedges" "I" ∈ _ by decide +kernel) rfl dX8_hide_65 ?_
          refine lv_iload_n hx hb dX8_hide_68 rfl (lv_at hl 3 rfl) ?_
          refine lv_ior hx hb dX8_hide_69 ?_
          refine xr_Vi C hA G (kx0_isSeen zl D ad sa cc tt X22 1 59 8 c ((X22 1 4) ||| (nI k29)) (show kE 1 by decide) (show kI 59 8 by decide) hR22.1 hR22.2.1 hR22.2.2.1 (Nat.le_refl _)) (show kE 1 by decide).2 (xE_c (show kE 1 by decide).1) rfl (cwV 3 C.2.2.2.2.1 gX8_hide_X0_isSeen rfl rfl rfl (by decide +kernel) ⟨Nat.le_of_ble_eq_true rfl, Nat.le_of_ble_eq_true rfl⟩) rfl hl.1 rfl (Nat.le_of_ble_eq_true rfl) dX8_hide_70 ⟨Nat.le_refl _, Nat.le_refl _⟩ (fun H locs G => ?_)
          refine lv_if_ne (tgt := 78) hx hb dX8_hide_73 (by decide) (fun c73 => ?_) (fun c73 => ?_)
          · rw [if_neg c73] at hX78
            subst hX78
            exact hj78 _ _ _ (lv_sub hl [0, 1, 2, 3] rfl) G
          · rw [if_pos c73] at hX78
            refine lv_iload_n hx hb dX8_hide_76 rfl (lv_at hl 3 rfl) ?_
            refine lv_istore_n (lv' := [(2, .int (nI k29)), (0, .ref (ad 0)), (1, .int c), (3, .int (nI k29))]) hx hb dX8_hide_77 rfl hl (by decide) rfl (fun ls hl => ?_)
            subst hX78
            exact hj78 _ _ _ (lv_sub hl [1, 2, 0, 3] rfl) G
    exact hloop29 _ 0 (Nat.add_zero _) _ rfl _ _ _ (lv_sub hl [2, 3, 1, 0] rfl) G
  · rw [if_pos c5] at hF
    refine lv_aload_n hx hb dX8_hide_8 rfl (lv_at hl 0 rfl) ?_
    refine lv_iconst (v := 1) hx hb dX8_hide_9 (by decide) ?_
    obtain ⟨x10, X10, hx10⟩ : ∃ (Z : Int32) (Y : xS), (Z, Y) = x8_error X 1 := ⟨_, _, rfl⟩
    refine xr_Vi (r0 := x10) (X2 := X10) C hA G (by rw [hx10]; exact (kx8_error zl D ad sa cc tt X 1)) (show kW 0 by decide).2 (xW_c (show kW 0 by decide).1) rfl (cwV 1 C.2.2.2.2.1 gX8_hide_X8_error rfl rfl rfl (by decide +kernel) ⟨Nat.le_of_ble_eq_true rfl, Nat.le_of_ble_eq_true rfl⟩) rfl hl.1 rfl (Nat.le_of_ble_eq_true rfl) dX8_hide_10 ⟨Nat.le_refl _, Nat.le_refl _⟩ (fun H locs G => ?_)
    rw [lt2_e hx10] at hF
    exact hret _ _ _ _ _ _ hF G dX8_hide_13
set_option maxRecDepth 100000 in
set_option maxHeartbeats 4000000 in
theorem kx8_togetherBehind (zl : Launch) (D : va_G) (ad sa : Nat → Nat) (cc : cT) (tt : tT) (X : xS) (n : Nat) (hR : eR tt X 13) (hn : n ≤ 50) : xM zl D ad sa cc tt yX8_togetherBehind wsX8_togetherBehind ({ frames := 6, cells := 0, slots := 0, locals := 142 } : Room) [.ref (ad 0), .int (nI n)] X (x8_togetherBehind tt X n) := by
  refine xM_of (code := cX8_togetherBehind) (nL := 3) (own := RX8) (by decide) rfl rfl (Nat.le_of_ble_eq_true rfl) ?_
  intro zp ze zs zm zg zb zt zc zA zQ C hA hret H locs ls hl G
  have hx := C.1
  have hb := C.2.1
  have hl : lv_has ls 3 [(0, .ref (ad 0)), (1, .int (nI n))] := hl
  obtain ⟨rM, hF⟩ : ∃ Z : Int32 × xS, Z = x8_togetherBehind tt X n := ⟨_, rfl⟩
  rw [← hF] at hret
  unfold x8_togetherBehind at hF
  refine lv_iconst (v := 0) hx hb dX8_togetherBehind_0 (by decide) ?_
  refine lv_istore_n (lv' := [(2, .int 0), (0, .ref (ad 0)), (1, .int (nI n))]) hx hb dX8_togetherBehind_1 rfl hl (by decide) rfl (fun ls hl => ?_)
  obtain ⟨X2x, hX2⟩ : ∃ (X2x : xS), X2x = x8_togetherBehind_L2 tt X n := ⟨_, rfl⟩
  rw [lt_e hX2] at hF
  have hR2x : eR tt X2x 13 := by rw [hX2]; exact tb_L2 hR _
  have hrest2 : ∀ (H : Heap) (locs : List Loc) (ls : Array Slot), lv_has ls 3 [(0, .ref (ad 0)), (1, .int (nI n)), (2, .int (nI n))] → xG D ad sa cc tt zA zs.heap H locs X2x → W zp zl ze ({ frames := 6, cells := 0, slots := 0, locals := 142 } : Room) zs zm zg zb zt zc H locs 0 0 zQ (F0 zm 20 ls []) := by
    intro H locs ls hl G
    refine lv_aload_n hx hb dX8_togetherBehind_20 rfl (lv_at hl 0 rfl) ?_
    refine xr_get C G (show kW 0 by decide).2 (xW_c (show kW 0 by decide).1) rfl (fun _ h => List.mem_cons_of_mem _ (List.mem_append_left _ (List.mem_append_left _ (List.mem_append_right _ h)))) 1 (by decide) (show Cond.fieldLink RX8 16 "WheatCounts" "thought" "LWheatCounts$Estate;" ∈ _ by decide +kernel) rfl dX8_togetherBehind_21 ?_
    refine xr_Vi C hA G (kx0_together zl D ad sa cc tt X2x 13 (show kE 13 by decide) hR2x.1) (show kE 13 by decide).2 (xE_c (show kE 13 by decide).1) rfl (cwV 0 C.2.2.2.2.1 gX8_togetherBehind_X0_together rfl rfl rfl (by decide +kernel) ⟨Nat.le_of_ble_eq_true rfl, Nat.le_of_ble_eq_true rfl⟩) rfl hl.1 rfl (Nat.le_of_ble_eq_true rfl) dX8_togetherBehind_24 ⟨Nat.le_refl _, Nat.le_refl _⟩ (fun H locs G => ?_)
    exact hret _ _ _ _ _ _ hF G dX8_togetherBehind_27
  have hloop2 : ∀ (zj k2 : Nat), zj + k2 = n → ∀ (X2 : xS), X2 = x8_togetherBehind_L2 tt X k2 → ∀ (H : Heap) (locs : List Loc) (ls : Array Slot), lv_has ls 3 [(0, .ref (ad 0)), (1, .int (nI n)), (2, .int (nI k2))] → xG D ad sa cc tt zA zs.heap H locs X2 → W zp zl ze ({ frames := 6, cells := 0, slots := 0, locals := 142 } : Room) zs zm zg zb zt zc H locs 0 0 zQ (F0 zm 2 ls []) := by
    intro zj
    induction zj with
    | zero =>
      intro k2 hk X2 hL H locs ls hl G
      have hk : k2 = n := by omega
      rw [hk] at hL hl
      refine lv_iload_n hx hb dX8_togetherBehind_2 rfl (lv_at hl 2 rfl) ?_
      refine lv_iload_n hx hb dX8_togetherBehind_3 rfl (lv_at hl 1 rfl) ?_
      refine lv_icmp_ge (tgt := 20) hx hb dX8_togetherBehind_4 (by decide) (fun c4 => ?_) (fun c4 => absurd (lp_out (n := n) rfl) c4)
      obtain rfl := hL.trans hX2.symm
      exact hrest2 _ _ _ (lv_sub hl [0, 1, 2] rfl) G
    | succ zj ih =>
      intro k2 hk X2 hL H locs ls hl G
      have hkn : k2 < n := by omega
      obtain ⟨X2s, hS0⟩ : ∃ (X2s : xS), X2s = x8_togetherBehind_L2 tt X (k2 + 1) := ⟨_, rfl⟩
      have hS := hS0
      rw [x8_togetherBehind_L2_s, lt_e hL] at hS
      have hR2 : eR tt X2 13 := by rw [hL]; exact tb_L2 hR _
      refine lv_iload_n hx hb dX8_togetherBehind_2 rfl (lv_at hl 2 rfl) ?_
      refine lv_iload_n hx hb dX8_togetherBehind_3 rfl (lv_at hl 1 rfl) ?_
      refine lv_icmp_ge (tgt := 20) hx hb dX8_togetherBehind_4 (by decide) (fun c4 => absurd c4 (lp_in (n := n) rfl hkn (by omega))) (fun c4 => ?_)
      refine lv_aload_n hx hb dX8_togetherBehind_7 rfl (lv_at hl 0 rfl) ?_
      refine xr_get C G (show kW 0 by decide).2 (xW_c (show kW 0 by decide).1) rfl (fun _ h => List.mem_cons_of_mem _ (List.mem_append_left _ (List.mem_append_left _ (List.mem_append_right _ h)))) 1 (by decide) (show Cond.fieldLink RX8 16 "WheatCounts" "thought" "LWheatCounts$Estate;" ∈ _ by decide +kernel) rfl dX8_togetherBehind_8 ?_
      refine xr_Vv C hA G (kx0_passHour zl D ad sa cc tt X2 13 (show kE 13 by decide) hR2) (show kE 13 by decide).2 (xE_c (show kE 13 by decide).1) rfl (cwV 0 C.2.2.2.2.1 gX8_togetherBehind_X0_passHour rfl rfl rfl (by decide +kernel) ⟨Nat.le_of_ble_eq_true rfl, Nat.le_of_ble_eq_true rfl⟩) rfl hl.1 rfl (Nat.le_of_ble_eq_true rfl) dX8_togetherBehind_11 ⟨Nat.le_refl _, Nat.le_refl _⟩ (fun H locs G => ?_)
      obtain ⟨X11, hX11⟩ : ∃ Z : xS, Z = x0_passHour tt X2 13 := ⟨_, rfl⟩
      have G : xG D ad sa cc tt zA zs.heap H locs X11 := by rw [hX11]; exact G
      rw [lt_e hX11] at hS
      refine lv_iinc (v := nI (k2 + 1)) (lv' := [(2, .int (nI (k2 + 1))), (0, .ref (ad 0)), (1, .int (nI n))]) hx hb dX8_togetherBehind_14 hl (k := 2) rfl (nt_add rfl (show (1 : Int32) = nI 1 from rfl)) (by decide) rfl (fun ls hl => ?_)
      refine lv_goto (tgt := 2) hx hb dX8_togetherBehind_17 (by decide) ?_
      subst hS
      exact ih (k2 + 1) (by omega) _ hS0 _ _ _ (lv_sub hl [1, 2, 0] rfl) G
  exact hloop2 _ 0 (Nat.add_zero _) _ rfl _ _ _ (lv_sub hl [1, 2, 0] rfl) G
set_option maxRecDepth 100000 in
set_option maxHeartbeats 4000000 in
theorem kx8_gains (zl : Launch) (D : va_G) (ad sa : Nat → Nat) (cc : cT) (tt : tT) (X : xS) (q : Int32) (n : Int32) (hR : eR tt X 1) (hz : zR X 1) : xM zl D ad sa cc tt yX8_gains wsX8_gains ({ frames := 7, cells := 0, slots := 0, locals := 164 } : Room) [.ref (ad 0), .int q, .int n] X (x8_gains tt X q n) := by
  refine xM_of (code := cX8_gains) (nL := 4) (own := RX8) (by decide) rfl rfl (Nat.le_of_ble_eq_true rfl) ?_
  intro zp ze zs zm zg zb zt zc zA zQ C hA hret H locs ls hl G
  have hx := C.1
  have hb := C.2.1
  have hl : lv_has ls 4 [(0, .ref (ad 0)), (1, .int q), (2, .int n)] := hl
  obtain ⟨rM, hF⟩ : ∃ Z : Int32 × xS, Z = x8_gains tt X q n := ⟨_, rfl⟩
  rw [← hF] at hret
  unfold x8_gains at hF
  have hc := hR.1
  have hp := hR.2.1
  have ha := hR.2.2.1
  have ht := hR.2.2.2
  have hc2 := hc.2.1
  have hc3 := hc.2.2
  have hp2 := hp.2
  refine lv_aload_n hx hb dX8_gains_0 rfl (lv_at hl 0 rfl) ?_
  refine lv_iload_n hx hb dX8_gains_1 rfl (lv_at hl 1 rfl) ?_
  refine xr_Vi C hA G (kx8_isPerson zl D ad sa cc tt X q) (show kW 0 by decide).2 (xW_c (show kW 0 by decide).1) rfl (cwV 1 C.2.2.2.2.1 gX8_gains_X8_isPerson rfl rfl rfl (by decide +kernel) ⟨Nat.le_of_ble_eq_true rfl, Nat.le_of_ble_eq_true rfl⟩) rfl hl.1 rfl (Nat.le_of_ble_eq_true rfl) dX8_gains_2 ⟨Nat.le_refl _, Nat.le_refl _⟩ (fun H locs G => ?_)
  refine lv_if_eq (tgt := 18) hx hb dX8_gains_5 (by decide) (fun c5 => ?_) (fun c5 => ?_)
  · rw [if_pos c5] at hF
    refine lv_aload_n hx hb dX8_gains_18 rfl (lv_at hl 0 rfl) ?_
    refine lv_iconst (v := 1) hx hb dX8_gains_19 (by decide) ?_
    obtain ⟨x20, X20, hx20⟩ : ∃ (Z : Int32) (Y : xS), (Z, Y) = x8_error X 1 := ⟨_, _, rfl⟩
    refine xr_Vi (r0 := x20) (X2 := X20) C hA G (by rw [hx20]; exact (kx8_error zl D ad sa cc tt X 1)) (show kW 0 by decide).2 (xW_c (show kW 0 by decide).1) rfl (cwV 1 C.2.2.2.2.1 gX8_gains_X8_error rfl rfl rfl (by decide +kernel) ⟨Nat.le_of_ble_eq_true rfl, Nat.le_of_ble_eq_true rfl⟩) rfl hl.1 rfl (Nat.le_of_ble_eq_true rfl) dX8_gains_20 ⟨Nat.le_refl _, Nat.le_refl _⟩ (fun H locs G => ?_)
    rw [lt2_e hx20] at hF
    exact hret _ _ _ _ _ _ hF G dX8_gains_23
  · rw [if_neg c5] at hF
    have q9 := pers_x hp c5
    have q92 := q9.2
    have q93 : vn q < 8 := by omega
    refine lv_iload_n hx hb dX8_gains_8 rfl (lv_at hl 2 rfl) ?_
    refine lv_iconst (v := 0) hx hb dX8_gains_9 (by decide) ?_
    refine lv_bipush (v := 50) hx hb dX8_gains_10 (by decide) ?_
    refine xr_ps C hA G (ks_X8_within zl n 0 50) (va_cwS 3 C.2.2.2.2.1 gX8_gains_X8_within rfl rfl rfl (by decide +kernel) ⟨Nat.le_of_ble_eq_true rfl, Nat.le_of_ble_eq_true rfl⟩) rfl hl.1 rfl (Nat.le_of_ble_eq_true rfl) dX8_gains_12 ⟨Nat.le_refl _, Nat.le_refl _⟩ (fun H locs G => ?_)
    refine lv_if_ne (tgt := 24) hx hb dX8_gains_15 (by decide) (fun c15 => ?_) (fun c15 => ?_)
    · rw [if_neg c15] at hF
      have n9 := in_natp (n := 50) c15 rfl (by decide)
      have n92 := n9.2
      refine lv_aload_n hx hb dX8_gains_24 rfl (lv_at hl 0 rfl) ?_
      refine xr_get C G (show kW 0 by decide).2 (xW_c (show kW 0 by decide).1) rfl (fun _ h => List.mem_cons_of_mem _ (List.mem_append_left _ (List.mem_append_left _ (List.mem_append_left _ (List.mem_append_right _ h))))) 1 (by decide) (show Cond.fieldLink RX8 16 "WheatCounts" "thought" "LWheatCounts$Estate;" ∈ _ by decide +kernel) rfl dX8_gains_25 ?_
      refine lv_aload_n hx hb dX8_gains_28 rfl (lv_at hl 0 rfl) ?_
      refine xr_get C G (show kW 0 by decide).2 (xW_c (show kW 0 by decide).1) rfl (fun _ h => List.mem_cons_of_mem _ (List.mem_append_left _ (List.mem_append_left _ (List.mem_append_left _ (List.mem_append_right _ h))))) 0 (by decide) (show Cond.fieldLink RX8 10 "WheatCounts" "estate" "LWheatCounts$Estate;" ∈ _ by decide +kernel) rfl dX8_gains_29 ?_
      refine xr_Vv C hA G (kx0_takeOver zl D ad sa cc tt X 13 1 (show kE 13 by decide) (show kE 1 by decide) hz.1 hz.2 (by decide)) (show kE 13 by decide).2 (xE_c (show kE 13 by decide).1) rfl (cwV 1 C.2.2.2.2.1 gX8_gains_X0_takeOver rfl rfl rfl (by decide +kernel) ⟨Nat.le_of_ble_eq_true rfl, Nat.le_of_ble_eq_true rfl⟩) rfl hl.1 rfl (Nat.le_of_ble_eq_true rfl) dX8_gains_32 ⟨Nat.le_refl _, Nat.le_refl _⟩ (fun H locs G => ?_)
      obtain ⟨X32, hX32⟩ : ∃ Z : xS, Z = x0_takeOver X 13 1 := ⟨_, rfl⟩
      have G : xG D ad sa cc tt zA zs.heap H locs X32 := by rw [hX32]; exact G
      rw [lt_e hX32] at hF
      have hR32 : eR tt X32 13 := by rw [hX32, tk_e hz (by decide) (by decide) (by decide)]; exact tk_R hR (by decide)
      refine lv_aload_n hx hb dX8_gains_35 rfl (lv_at hl 0 rfl) ?_
      refine lv_iload_n hx hb dX8_gains_36 rfl (lv_at hl 2 rfl) ?_
      obtain ⟨x37, X37, hx37⟩ : ∃ (Z : Int32) (Y : xS), (Z, Y) = x8_togetherBehind tt X32 (vn n) := ⟨_, _, rfl⟩
      refine xr_Vi (r0 := x37) (X2 := X37) C hA G (by rw [hx37]; exact (kx8_togetherBehind zl D ad sa cc tt X32 (vn n) hR32 (by omega))) (show kW 0 by decide).2 (xW_c (show kW 0 by decide).1) rfl (cwV 1 C.2.2.2.2.1 gX8_gains_X8_togetherBehind rfl rfl rfl (by decide +kernel) ⟨Nat.le_of_ble_eq_true rfl, Nat.le_of_ble_eq_true rfl⟩) rfl hl.1 (cons_int n9.1 rfl) (Nat.le_of_ble_eq_true rfl) dX8_gains_37 ⟨Nat.le_refl _, Nat.le_refl _⟩ (fun H locs G => ?_)
      rw [lt2_e hx37] at hF
      have hk37 : ∀ p, p < 13 → X37 p = X p := by intro p h; have e9 : X37 p = X32 p := by { have e8 := tb_out tt X32 (vn n) p (by omega); rw [← hx37] at e8; exact e8 }; rw [e9, hX32, tk_e hz (by decide) (by decide) (by decide), tk_out (Or.inl h)]
      have hz37 : zR X37 1 := by unfold zR; rw [hk37 (1 + 8) (by decide), hk37 (1 + 10) (by decide)]; exact hz
      have hR37 : eR tt X37 1 := eR_of (hk37 1 (by decide)) (hk37 7 (by decide)) hR
      refine lv_istore_n (lv' := [(3, .int x37), (0, .ref (ad 0)), (1, .int q), (2, .int n)]) hx hb dX8_gains_40 rfl hl (by decide) rfl (fun ls hl => ?_)
      refine lv_aload_n hx hb dX8_gains_41 rfl (lv_at hl 1 rfl) ?_
      refine xr_get C G (show kW 0 by decide).2 (xW_c (show kW 0 by decide).1) rfl (fun _ h => List.mem_cons_of_mem _ (List.mem_append_left _ (List.mem_append_left _ (List.mem_append_left _ (List.mem_append_right _ h))))) 1 (by decide) (show Cond.fieldLink RX8 16 "WheatCounts" "thought" "LWheatCounts$Estate;" ∈ _ by decide +kernel) rfl dX8_gains_42 ?_
      refine lv_aload_n hx hb dX8_gains_45 rfl (lv_at hl 1 rfl) ?_
      refine xr_get C G (show kW 0 by decide).2 (xW_c (show kW 0 by decide).1) rfl (fun _ h => List.mem_cons_of_mem _ (List.mem_append_left _ (List.mem_append_left _ (List.mem_append_left _ (List.mem_append_right _ h))))) 0 (by decide) (show Cond.fieldLink RX8 10 "WheatCounts" "estate" "LWheatCounts$Estate;" ∈ _ by decide +kernel) rfl dX8_gains_46 ?_
      refine xr_Vv C hA G (kx0_takeOver zl D ad sa cc tt X37 13 1 (show kE 13 by decide) (show kE 1 by decide) hz37.1 hz37.2 (by decide)) (show kE 13 by decide).2 (xE_c (show kE 13 by decide).1) rfl (cwV 1 C.2.2.2.2.1 gX8_gains_X0_takeOver rfl rfl rfl (by decide +kernel) ⟨Nat.le_of_ble_eq_true rfl, Nat.le_of_ble_eq_true rfl⟩) rfl hl.1 rfl (Nat.le_of_ble_eq_true rfl) dX8_gains_49 ⟨Nat.le_refl _, Nat.le_refl _⟩ (fun H locs G => ?_)
      obtain ⟨X49, hX49⟩ : ∃ Z : xS, Z = x0_takeOver X37 13 1 := ⟨_, rfl⟩
      have G : xG D ad sa cc tt zA zs.heap H locs X49 := by rw [hX49]; exact G
      rw [lt_e hX49] at hF
      have hR49 : eR tt X49 13 := by rw [hX49, tk_e hz37 (by decide) (by decide) (by decide)]; exact tk_R hR37 (by decide)
      have h499 : X49 13 9 = X 1 9 := by rw [hX49, tk_e hz37 (by decide) (by decide) (by decide), ← hk37 1 (by decide)]; rfl
      refine lv_aload_n hx hb dX8_gains_52 rfl (lv_at hl 1 rfl) ?_
      refine xr_get C G (show kW 0 by decide).2 (xW_c (show kW 0 by decide).1) rfl (fun _ h => List.mem_cons_of_mem _ (List.mem_append_left _ (List.mem_append_left _ (List.mem_append_left _ (List.mem_append_right _ h))))) 1 (by decide) (show Cond.fieldLink RX8 16 "WheatCounts" "thought" "LWheatCounts$Estate;" ∈ _ by decide +kernel) rfl dX8_gains_53 ?_
      refine lv_iload_n hx hb dX8_gains_56 rfl (lv_at hl 2 rfl) ?_
      refine xr_Vv C hA G (kx0_leaveOut zl D ad sa cc tt X49 13 (vn q) (show kE 13 by decide) hR49.2.1 (by rw [h499]; omega)) (show kE 13 by decide).2 (xE_c (show kE 13 by decide).1) rfl (cwV 1 C.2.2.2.2.1 gX8_gains_X0_leaveOut rfl rfl rfl (by decide +kernel) ⟨Nat.le_of_ble_eq_true rfl, Nat.le_of_ble_eq_true rfl⟩) rfl hl.1 (cons_int q9.1 rfl) (Nat.le_of_ble_eq_true rfl) dX8_gains_57 ⟨Nat.le_refl _, Nat.le_refl _⟩ (fun H locs G => ?_)
      obtain ⟨X57, hX57⟩ : ∃ Z : xS, Z = x0_leaveOut X49 13 (vn q) := ⟨_, rfl⟩
      have G : xG D ad sa cc tt zA zs.heap H locs X57 := by rw [hX57]; exact G
      rw [lt_e hX57] at hF
      have hR57 : eR tt X57 13 := by rw [hX57]; exact lvo_R hR49 (by rw [h499]; omega)
      refine lv_iload_n hx hb dX8_gains_60 rfl (lv_at hl 0 rfl) ?_
      refine lv_aload_n hx hb dX8_gains_61 rfl (lv_at hl 1 rfl) ?_
      refine lv_iload_n hx hb dX8_gains_62 rfl (lv_at hl 3 rfl) ?_
      obtain ⟨x63, X63, hx63⟩ : ∃ (Z : Int32) (Y : xS), (Z, Y) = x8_togetherBehind tt X57 (vn n) := ⟨_, _, rfl⟩
      refine xr_Vi (r0 := x63) (X2 := X63) C hA G (by rw [hx63]; exact (kx8_togetherBehind zl D ad sa cc tt X57 (vn n) hR57 (by omega))) (show kW 0 by decide).2 (xW_c (show kW 0 by decide).1) rfl (cwV 1 C.2.2.2.2.1 gX8_gains_X8_togetherBehind rfl rfl rfl (by decide +kernel) ⟨Nat.le_of_ble_eq_true rfl, Nat.le_of_ble_eq_true rfl⟩) rfl hl.1 (cons_int n9.1 rfl) (Nat.le_of_ble_eq_true rfl) dX8_gains_63 ⟨Nat.le_refl _, Nat.le_refl _⟩ (fun H locs G => ?_)
      rw [lt2_e hx63] at hF
      refine lv_isub hx hb dX8_gains_66 ?_
      exact hret _ _ _ _ _ _ hF G dX8_gains_67
    · rw [if_pos c15] at hF
      refine lv_aload_n hx hb dX8_gains_18 rfl (lv_at hl 0 rfl) ?_
      refine lv_iconst (v := 1) hx hb dX8_gains_19 (by decide) ?_
      obtain ⟨x20, X20, hx20⟩ : ∃ (Z : Int32) (Y : xS), (Z, Y) = x8_error X 1 := ⟨_, _, rfl⟩
      refine xr_Vi (r0 := x20) (X2 := X20) C hA G (by rw [hx20]; exact (kx8_error zl D ad sa cc tt X 1)) (show kW 0 by decide).2 (xW_c (show kW 0 by decide).1) rfl (cwV 1 C.2.2.2.2.1 gX8_gains_X8_error rfl rfl rfl (by decide +kernel) ⟨Nat.le_of_ble_eq_true rfl, Nat.le_of_ble_eq_true rfl⟩) rfl hl.1 rfl (Nat.le_of_ble_eq_true rfl) dX8_gains_20 ⟨Nat.le_refl _, Nat.le_refl _⟩ (fun H locs G => ?_)
      rw [lt2_e hx20] at hF
      exact hret _ _ _ _ _ _ hF G dX8_gains_23
set_option maxRecDepth 100000 in
set_option maxHeartbeats 4000000 in
theorem ks_X8_commonDivisor (zl : Launch) (a : Nat) (b : Int32) (ha : 0 < a) (ha2 : a < 100) : sM zl yX8_commonDivisor wsX8_commonDivisor ({ frames := 0, cells := 0, slots := 0, locals := 0 } : Room) [.int (nI a), .int b] (p8_commonDivisor a b) := by
  refine sM_of (own := RX8) (cc := cX8_commonDivisor) (nL := 3) (Or.inl rfl) (by decide) rfl rfl (Nat.le_of_ble_eq_true rfl) ?_
  intro zp ze zs zm zg zb zt zc zA H0 zQ C hA hret H locs ls hl G
  have hx := C.1
  have hb := C.2.1
  have hl : lv_has ls 3 [(0, .int (nI a)), (1, .int b)] := hl
  obtain ⟨rM, hF⟩ : ∃ X : Int32, X = p8_commonDivisor a b := ⟨_, rfl⟩
  rw [← hF] at hret
  unfold p8_commonDivisor at hF
  refine lv_iload_n hx hb dX8_commonDivisor_0 rfl (lv_at hl 0 rfl) ?_
  refine lv_istore_n (lv' := [(2, .int (nI a)), (0, .int (nI a)), (1, .int b)]) hx hb dX8_commonDivisor_1 rfl hl (by decide) rfl (fun ls hl => ?_)
  obtain ⟨K2, hK2⟩ : ∃ Zk : Nat → Int32, Zk = (fun (kdx : Nat) => 1) := ⟨_, rfl⟩
  rw [← hK2] at hF
  have hrest2 : ∀ (kdx : Nat), rM = K2 kdx → (True) → ∀ (H : Heap) (locs : List Loc) (ls : Array Slot), lv_has ls 3 [(0, .int (nI a)), (1, .int b), (2, .int (nI kdx))] → va_S zA H0 H locs → W zp zl ze ({ frames := 0, cells := 0, slots := 0, locals := 0 } : Room) zs zm zg zb zt zc H locs 0 0 zQ (F0 zm 27 ls []) := by
    intro kdx hF hR9 H locs ls hl G
    have hF : rM = 1 := by rw [hK2] at hF; exact hF
    refine lv_iconst (v := 1) hx hb dX8_commonDivisor_27 (by decide) ?_
    exact hret _ _ _ _ _ hF G dX8_commonDivisor_28
  have hloop2 : ∀ (f2 : Nat) (kd : Nat), (kd ≤ a ∧ kd < f2) → rM = p8_commonDivisor_L2 a b K2 f2 kd → ∀ (H : Heap) (locs : List Loc) (ls : Array Slot), lv_has ls 3 [(0, .int (nI a)), (1, .int b), (2, .int (nI kd))] → va_S zA H0 H locs → W zp zl ze ({ frames := 0, cells := 0, slots := 0, locals := 0 } : Room) zs zm zg zb zt zc H locs 0 0 zQ (F0 zm 2 ls []) := by
    intro f2
    induction f2 with
    | zero =>
      intro kd hI hL2 H locs ls hl G
      exact absurd hI.2 (by omega)
    | succ f2 ih2 =>
      intro kd hI hL2 H locs ls hl G
      rw [p8_commonDivisor_L2_s] at hL2
      refine lv_iload_n hx hb dX8_commonDivisor_2 rfl (lv_at hl 2 rfl) ?_
      refine lv_iconst (v := 1) hx hb dX8_commonDivisor_3 (by decide) ?_
      refine lv_icmp_le (tgt := 27) hx hb dX8_commonDivisor_4 (by decide) (fun c4 => ?_) (fun c4 => ?_)
      · rw [if_pos c4] at hL2
        exact hrest2 kd hL2 trivial _ _ _ (lv_sub hl [0, 1, 2] rfl) G
      · rw [if_neg c4] at hL2
        have hd := vf_1 c4
        refine lv_iload_n hx hb dX8_commonDivisor_7 rfl (lv_at hl 0 rfl) ?_
        refine lv_iload_n hx hb dX8_commonDivisor_8 rfl (lv_at hl 2 rfl) ?_
        refine lv_irem hx hb dX8_commonDivisor_9 (nI_ne0 (by omega) (by omega)) ?_
        refine lv_if_ne (tgt := 21) hx hb dX8_commonDivisor_10 (by decide) (fun c10 => ?_) (fun c10 => ?_)
        · rw [if_neg c10] at hL2
          refine lv_iinc (v := nI (kd - 1)) (lv' := [(2, .int (nI (kd - 1))), (0, .int (nI a)), (1, .int b)]) hx hb dX8_commonDivisor_21 hl (k := 2) rfl (nt_subi rfl (by omega)) (by decide) rfl (fun ls hl => ?_)
          refine lv_goto (tgt := 2) hx hb dX8_commonDivisor_24 (by decide) ?_
          exact ih2 (kd - 1) ⟨by omega, by omega⟩ hL2 _ _ _ (lv_sub hl [1, 2, 0] rfl) G
        · rw [if_pos c10] at hL2
          refine lv_iload_n hx hb dX8_commonDivisor_13 rfl (lv_at hl 1 rfl) ?_
          refine lv_iload_n hx hb dX8_commonDivisor_14 rfl (lv_at hl 2 rfl) ?_
          refine lv_irem hx hb dX8_commonDivisor_15 (nI_ne0 (by omega) (by omega)) ?_
          refine lv_if_ne (tgt := 21) hx hb dX8_commonDivisor_16 (by decide) (fun c16 => ?_) (fun c16 => ?_)
          · rw [if_neg c16] at hL2
            refine lv_iinc (v := nI (kd - 1)) (lv' := [(2, .int (nI (kd - 1))), (0, .int (nI a)), (1, .int b)]) hx hb dX8_commonDivisor_21 hl (k := 2) rfl (nt_subi rfl (by omega)) (by decide) rfl (fun ls hl => ?_)
            refine lv_goto (tgt := 2) hx hb dX8_commonDivisor_24 (by decide) ?_
            exact ih2 (kd - 1) ⟨by omega, by omega⟩ hL2 _ _ _ (lv_sub hl [1, 2, 0] rfl) G
          · rw [if_pos c16] at hL2
            refine lv_iload_n hx hb dX8_commonDivisor_19 rfl (lv_at hl 2 rfl) ?_
            exact hret _ _ _ _ _ hL2 G dX8_commonDivisor_20
  exact hloop2 (a + 1) a ⟨Nat.le_refl _, by omega⟩ hF _ _ _ (lv_sub hl [1, 2, 0] rfl) G
set_option maxRecDepth 100000 in
set_option maxHeartbeats 4000000 in
theorem kx8_odds (zl : Launch) (D : va_G) (ad sa : Nat → Nat) (cc : cT) (tt : tT) (X : xS) (c : Int32) (part : Int32) (hR : eR tt X 1) : xM zl D ad sa cc tt yX8_odds wsX8_odds ({ frames := 5, cells := 0, slots := 0, locals := 117 } : Room) [.ref (ad 0), .int c, .int part] X (x8_odds tt X c part) := by
  refine xM_of (code := cX8_odds) (nL := 6) (own := RX8) (by decide) rfl rfl (Nat.le_of_ble_eq_true rfl) ?_
  intro zp ze zs zm zg zb zt zc zA zQ C hA hret H locs ls hl G
  have hx := C.1
  have hb := C.2.1
  have hl : lv_has ls 6 [(0, .ref (ad 0)), (1, .int c), (2, .int part)] := hl
  obtain ⟨rM, hF⟩ : ∃ Z : Int32 × xS, Z = x8_odds tt X c part := ⟨_, rfl⟩
  rw [← hF] at hret
  unfold x8_odds at hF
  have hc := hR.1
  have hp := hR.2.1
  have ha := hR.2.2.1
  have ht := hR.2.2.2
  have hc2 := hc.2.1
  have hc3 := hc.2.2
  have hp2 := hp.2
  refine lv_aload_n hx hb dX8_odds_0 rfl (lv_at hl 0 rfl) ?_
  refine lv_iload_n hx hb dX8_odds_1 rfl (lv_at hl 1 rfl) ?_
  refine xr_Vi C hA G (kx8_isCell zl D ad sa cc tt X c) (show kW 0 by decide).2 (xW_c (show kW 0 by decide).1) rfl (cwV 1 C.2.2.2.2.1 gX8_odds_X8_isCell rfl rfl rfl (by decide +kernel) ⟨Nat.le_of_ble_eq_true rfl, Nat.le_of_ble_eq_true rfl⟩) rfl hl.1 rfl (Nat.le_of_ble_eq_true rfl) dX8_odds_2 ⟨Nat.le_refl _, Nat.le_refl _⟩ (fun H locs G => ?_)
  refine lv_if_eq (tgt := 17) hx hb dX8_odds_5 (by decide) (fun c5 => ?_) (fun c5 => ?_)
  · rw [if_pos c5] at hF
    refine lv_aload_n hx hb dX8_odds_17 rfl (lv_at hl 0 rfl) ?_
    refine lv_iconst (v := 1) hx hb dX8_odds_18 (by decide) ?_
    obtain ⟨x19, X19, hx19⟩ : ∃ (Z : Int32) (Y : xS), (Z, Y) = x8_error X 1 := ⟨_, _, rfl⟩
    refine xr_Vi (r0 := x19) (X2 := X19) C hA G (by rw [hx19]; exact (kx8_error zl D ad sa cc tt X 1)) (show kW 0 by decide).2 (xW_c (show kW 0 by decide).1) rfl (cwV 1 C.2.2.2.2.1 gX8_odds_X8_error rfl rfl rfl (by decide +kernel) ⟨Nat.le_of_ble_eq_true rfl, Nat.le_of_ble_eq_true rfl⟩) rfl hl.1 rfl (Nat.le_of_ble_eq_true rfl) dX8_odds_19 ⟨Nat.le_refl _, Nat.le_refl _⟩ (fun H locs G => ?_)
    rw [lt2_e hx19] at hF
    exact hret _ _ _ _ _ _ hF G dX8_odds_22
  · rw [if_neg c5] at hF
    refine lv_iload_n hx hb dX8_odds_8 rfl (lv_at hl 2 rfl) ?_
    refine lv_iconst (v := 0) hx hb dX8_odds_9 (by decide) ?_
    refine lv_iconst (v := 1) hx hb dX8_odds_10 (by decide) ?_
    refine xr_ps C hA G (ks_X8_within zl part 0 1) (va_cwS 3 C.2.2.2.2.1 gX8_odds_X8_within rfl rfl rfl (by decide +kernel) ⟨Nat.le_of_ble_eq_true rfl, Nat.le_of_ble_eq_true rfl⟩) rfl hl.1 rfl (Nat.le_of_ble_eq_true rfl) dX8_odds_11 ⟨Nat.le_refl _, Nat.le_refl _⟩ (fun H locs G => ?_)
    refine lv_if_ne (tgt := 23) hx hb dX8_odds_14 (by decide) (fun c14 => ?_) (fun c14 => ?_)
    · rw [if_neg c14] at hF
      refine lv_iconst (v := 0) hx hb dX8_odds_23 (by decide) ?_
      refine lv_istore_n (lv' := [(3, .int 0), (0, .ref (ad 0)), (1, .int c), (2, .int part)]) hx hb dX8_odds_24 rfl hl (by decide) rfl (fun ls hl => ?_)
      refine lv_iconst (v := 0) hx hb dX8_odds_25 (by decide) ?_
      refine lv_istore (lv' := [(4, .int 0), (3, .int 0), (0, .ref (ad 0)), (1, .int c), (2, .int part)]) hx hb dX8_odds_26 hl (by decide) rfl (fun ls hl => ?_)
      obtain ⟨v3_28x, X28x, hX28⟩ : ∃ (v3_28x : Int32) (X28x : xS), (v3_28x, X28x) = x8_odds_L28 tt X c 10 := ⟨_, _, rfl⟩
      rw [lt2_e hX28] at hF
      have hrest28 : ∀ (H : Heap) (locs : List Loc) (ls : Array Slot), lv_has ls 6 [(0, .ref (ad 0)), (1, .int c), (2, .int part), (3, .int v3_28x), (4, .int (nI 10))] → xG D ad sa cc tt zA zs.heap H locs X28x → W zp zl ze ({ frames := 5, cells := 0, slots := 0, locals := 117 } : Room) zs zm zg zb zt zc H locs 0 0 zQ (F0 zm 72 ls []) := by
        intro H locs ls hl G
        refine lv_bipush (v := 10) hx hb dX8_odds_72 (by decide) ?_
        refine lv_istore (lv' := [(4, .int 10), (0, .ref (ad 0)), (1, .int c), (2, .int part), (3, .int v3_28x)]) hx hb dX8_odds_74 hl (by decide) rfl (fun ls hl => ?_)
        refine lv_iload hx hb dX8_odds_76 (lv_at hl 0 rfl) ?_
        refine lv_iload_n hx hb dX8_odds_78 rfl (lv_at hl 4 rfl) ?_
        refine xr_ps C hA G (ks_X8_commonDivisor zl 10 v3_28x (by decide) (by decide)) (va_cwS 2 C.2.2.2.2.1 gX8_odds_X8_commonDivisor rfl rfl rfl (by decide +kernel) ⟨Nat.le_of_ble_eq_true rfl, Nat.le_of_ble_eq_true rfl⟩) rfl hl.1 rfl (Nat.le_of_ble_eq_true rfl) dX8_odds_79 ⟨Nat.le_refl _, Nat.le_refl _⟩ (fun H locs G => ?_)
        refine lv_topi (fun x82 hx82 => ?_)
        rw [lt_e hx82] at hF
        refine lv_istore (lv' := [(5, .int x82), (4, .int 10), (0, .ref (ad 0)), (1, .int c), (2, .int part), (3, .int v3_28x)]) hx hb dX8_odds_82 hl (by decide) rfl (fun ls hl => ?_)
        have hdv : ¬ x82 = 0 := by rw [hx82]; exact cdv_ne _ _
        refine lv_iload_n hx hb dX8_odds_84 rfl (lv_at hl 4 rfl) ?_
        obtain ⟨y94, hX94⟩ : ∃ (y94 : Int32), y94 = ((if part = 0 then v3_28x else 10) : Int32) := ⟨_, rfl⟩
        rw [lt_e hX94] at hF
        have hj94 : ∀ (H : Heap) (locs : List Loc) (ls : Array Slot), lv_has ls 6 [(0, .ref (ad 0)), (1, .int c), (2, .int part), (3, .int v3_28x), (4, .int 10), (5, .int x82)] → xG D ad sa cc tt zA zs.heap H locs X28x → W zp zl ze ({ frames := 5, cells := 0, slots := 0, locals := 117 } : Room) zs zm zg zb zt zc H locs 0 0 zQ (F0 zm 94 ls [.int y94]) := by
          intro H locs ls hl G
          refine lv_iload hx hb dX8_odds_94 (lv_at hl 5 rfl) ?_
          refine lv_idiv hx hb dX8_odds_96 hdv ?_
          exact hret _ _ _ _ _ _ hF G dX8_odds_97
        refine lv_if_ne (tgt := 92) hx hb dX8_odds_85 (by decide) (fun c85 => ?_) (fun c85 => ?_)
        · rw [if_neg c85] at hX94
          refine lv_iload hx hb dX8_odds_92 (lv_at hl 1 rfl) ?_
          subst hX94
          exact hj94 _ _ _ (lv_sub hl [2, 3, 4, 5, 1, 0] rfl) G
        · rw [if_pos c85] at hX94
          refine lv_iload_n hx hb dX8_odds_88 rfl (lv_at hl 5 rfl) ?_
          refine lv_goto (tgt := 94) hx hb dX8_odds_89 (by decide) ?_
          subst hX94
          exact hj94 _ _ _ (lv_sub hl [2, 3, 4, 5, 1, 0] rfl) G
      have hloop28 : ∀ (zj k28 : Nat), zj + k28 = 10 → ∀ (v3_28 : Int32) (X28 : xS), (v3_28, X28) = x8_odds_L28 tt X c k28 → ∀ (H : Heap) (locs : List Loc) (ls : Array Slot), lv_has ls 6 [(0, .ref (ad 0)), (1, .int c), (2, .int part), (3, .int v3_28), (4, .int (nI k28))] → xG D ad sa cc tt zA zs.heap H locs X28 → W zp zl ze ({ frames := 5, cells := 0, slots := 0, locals := 117 } : Room) zs zm zg zb zt zc H locs 0 0 zQ (F0 zm 28 ls []) := by
        intro zj
        induction zj with
        | zero =>
          intro k28 hk v3_28 X28 hL H locs ls hl G
          have hk : k28 = 10 := by omega
          rw [hk] at hL hl
          refine lv_iload hx hb dX8_odds_28 (lv_at hl 4 rfl) ?_
          refine lv_bipush (v := 9) hx hb dX8_odds_30 (by decide) ?_
          refine lv_icmp_gt (tgt := 72) hx hb dX8_odds_32 (by decide) (fun c32 => ?_) (fun c32 => absurd (by decide) c32)
          cases hL.trans hX28.symm
          exact hrest28 _ _ _ (lv_sub hl [0, 1, 2, 3, 4] rfl) G
        | succ zj ih =>
          intro k28 hk v3_28 X28 hL H locs ls hl G
          have hkn : k28 < 10 := by omega
          obtain ⟨v3_28s, X28s, hS0⟩ : ∃ (v3_28s : Int32) (X28s : xS), (v3_28s, X28s) = x8_odds_L28 tt X c (k28 + 1) := ⟨_, _, rfl⟩
          have hS := hS0
          rw [x8_odds_L28_s, lt2_e hL] at hS
          have hM28 : X28 = (x8_odds_L28 tt X c k28).2 := congrArg Prod.snd hL
          have hk28 : ∀ p, p ≠ 59 → X28 p = X p := by rw [hM28]; intro p h; exact od9_row _ _ _ _ _ h
          have hR28 : eR tt X28 1 := eR_of (hk28 1 (by decide)) (hk28 7 (by decide)) hR
          refine lv_iload hx hb dX8_odds_28 (lv_at hl 4 rfl) ?_
          refine lv_bipush (v := 9) hx hb dX8_odds_30 (by decide) ?_
          refine lv_icmp_gt (tgt := 72) hx hb dX8_odds_32 (by decide) (fun c32 => absurd c32 (fun e9 => absurd e9 (Int32.not_lt.mpr (show nI k28 ≤ nI 9 from nI_le (by omega) (by decide))))) (fun c32 => ?_)
          refine lv_aload_n hx hb dX8_odds_35 rfl (lv_at hl 0 rfl) ?_
          refine lv_iload hx hb dX8_odds_36 (lv_at hl 4 rfl) ?_
          refine xr_Vv C hA G (kx8_measureReaches zl D ad sa cc tt X28 (nI k28) hR28) (show kW 0 by decide).2 (xW_c (show kW 0 by decide).1) rfl (cwV 1 C.2.2.2.2.1 gX8_odds_X8_measureReaches rfl rfl rfl (by decide +kernel) ⟨Nat.le_of_ble_eq_true rfl, Nat.le_of_ble_eq_true rfl⟩) rfl hl.1 rfl (Nat.le_of_ble_eq_true rfl) dX8_odds_38 ⟨Nat.le_refl _, Nat.le_refl _⟩ (fun H locs G => ?_)
          obtain ⟨X38, hX38⟩ : ∃ Z : xS, Z = x8_measureReaches tt X28 (nI k28) := ⟨_, rfl⟩
          have G : xG D ad sa cc tt zA zs.heap H locs X38 := by rw [hX38]; exact G
          rw [lt_e hX38] at hS
          have hk38 : ∀ p, p ≠ 59 → X38 p = X28 p := by rw [hX38]; intro p h; exact mr_row tt X28 _ p h
          have hR38 : eR tt X38 1 := eR_of (hk38 1 (by decide)) (hk38 7 (by decide)) hR28
          refine lv_aload_n hx hb dX8_odds_41 rfl (lv_at hl 0 rfl) ?_
          refine xr_get C G (show kW 0 by decide).2 (xW_c (show kW 0 by decide).1) rfl (fun _ h => List.mem_cons_of_mem _ (List.mem_append_left _ (List.mem_append_left _ (List.mem_append_right _ h)))) 0 (by decide) (show Cond.fieldLink RX8 10 "WheatCounts" "estate" "LWheatCounts$Estate;" ∈ _ by decide +kernel) rfl dX8_odds_42 ?_
          refine lv_iload_n hx hb dX8_odds_45 rfl (lv_at hl 1 rfl) ?_
          refine lv_aload_n hx hb dX8_odds_46 rfl (lv_at hl 0 rfl) ?_
          refine xr_get C G (show kW 0 by decide).2 (xW_c (show kW 0 by decide).1) rfl (fun _ h => List.mem_cons_of_mem _ (List.mem_append_left _ (List.mem_append_left _ (List.mem_append_right _ h)))) 8 (by decide) (show Cond.fieldLink RX8 50 "WheatCounts" "reaches" "[I" ∈ _ by decide +kernel) rfl dX8_odds_47 ?_
          refine lv_aload_n hx hb dX8_odds_50 rfl (lv_at hl 0 rfl) ?_
          refine xr_get C G (show kW 0 by decide).2 (xW_c (show kW 0 by decide).1) rfl (fun _ h => List.mem_cons_of_mem _ (List.mem_append_left _ (List.mem_append_left _ (List.mem_append_right _ h)))) 0 (by decide) (show Cond.fieldLink RX8 10 "WheatCounts" "estate" "LWheatCounts$Estate;" ∈ _ by decide +kernel) rfl dX8_odds_51 ?_
          refine xr_get C G (show kE 1 by decide).2 (xE_c (show kE 1 by decide).1) rfl (fun _ h => List.mem_cons_of_mem _ (List.mem_append_left _ (List.mem_append_right _ h))) 4 (by decide) (show Cond.fieldLink RX8 99 "WheatCounts$Estate" "hedges" "I" ∈ _ by decide +kernel) rfl dX8_odds_54 ?_
          refine xr_Vi C hA G (kx0_isSeen zl D ad sa cc tt X38 1 59 8 c (X38 1 4) (show kE 1 by decide) (show kI 59 8 by decide) hR38.1 hR38.2.1 hR38.2.2.1 (Nat.le_refl _)) (show kE 1 by decide).2 (xE_c (show kE 1 by decide).1) rfl (cwV 3 C.2.2.2.2.1 gX8_odds_X0_isSeen rfl rfl rfl (by decide +kernel) ⟨Nat.le_of_ble_eq_true rfl, Nat.le_of_ble_eq_true rfl⟩) rfl hl.1 rfl (Nat.le_of_ble_eq_true rfl) dX8_odds_57 ⟨Nat.le_refl _, Nat.le_refl _⟩ (fun H locs G => ?_)
          obtain ⟨z3_66, hX66⟩ : ∃ (z3_66 : Int32), z3_66 = ((if (x0_isSeen X38 1 59 8 c (X38 1 4)) = 0 then v3_28 else (v3_28 + 1)) : Int32) := ⟨_, rfl⟩
          rw [lt_e hX66] at hS
          have hj66 : ∀ (H : Heap) (locs : List Loc) (ls : Array Slot), lv_has ls 6 [(0, .ref (ad 0)), (1, .int c), (2, .int part), (3, .int z3_66), (4, .int (nI k28))] → xG D ad sa cc tt zA zs.heap H locs X38 → W zp zl ze ({ frames := 5, cells := 0, slots := 0, locals := 117 } : Room) zs zm zg zb zt zc H locs 0 0 zQ (F0 zm 66 ls []) := by
            intro H locs ls hl G
            refine lv_iinc (v := nI (k28 + 1)) (lv' := [(4, .int (nI (k28 + 1))), (0, .ref (ad 0)), (1, .int c), (2, .int part), (3, .int z3_66)]) hx hb dX8_odds_66 hl (k := 4) rfl (nt_add rfl (show (1 : Int32) = nI 1 from rfl)) (by decide) rfl (fun ls hl => ?_)
            refine lv_goto (tgt := 28) hx hb dX8_odds_69 (by decide) ?_
            cases hS
            exact ih (k28 + 1) (by omega) _ _ hS0 _ _ _ (lv_sub hl [1, 2, 3, 4, 0] rfl) G
          refine lv_if_eq (tgt := 66) hx hb dX8_odds_60 (by decide) (fun c60 => ?_) (fun c60 => ?_)
          · rw [if_pos c60] at hX66
            subst hX66
            exact hj66 _ _ _ (lv_sub hl [0, 1, 2, 3, 4] rfl) G
          · rw [if_neg c60] at hX66
            refine lv_iinc (v := (v3_28 + 1)) (lv' := [(3, .int (v3_28 + 1)), (0, .ref (ad 0)), (1, .int c), (2, .int part), (4, .int (nI k28))]) hx hb dX8_odds_63 hl (k := 3) rfl rfl (by decide) rfl (fun ls hl => ?_)
            subst hX66
            exact hj66 _ _ _ (lv_sub hl [1, 2, 3, 0, 4] rfl) G
      exact hloop28 _ 0 (Nat.add_zero _) _ _ rfl _ _ _ (lv_sub hl [2, 3, 4, 1, 0] rfl) G
    · rw [if_pos c14] at hF
      refine lv_aload_n hx hb dX8_odds_17 rfl (lv_at hl 0 rfl) ?_
      refine lv_iconst (v := 1) hx hb dX8_odds_18 (by decide) ?_
      obtain ⟨x19, X19, hx19⟩ : ∃ (Z : Int32) (Y : xS), (Z, Y) = x8_error X 1 := ⟨_, _, rfl⟩
      refine xr_Vi (r0 := x19) (X2 := X19) C hA G (by rw [hx19]; exact (kx8_error zl D ad sa cc tt X 1)) (show kW 0 by decide).2 (xW_c (show kW 0 by decide).1) rfl (cwV 1 C.2.2.2.2.1 gX8_odds_X8_error rfl rfl rfl (by decide +kernel) ⟨Nat.le_of_ble_eq_true rfl, Nat.le_of_ble_eq_true rfl⟩) rfl hl.1 rfl (Nat.le_of_ble_eq_true rfl) dX8_odds_19 ⟨Nat.le_refl _, Nat.le_refl _⟩ (fun H locs G => ?_)
      rw [lt2_e hx19] at hF
      exact hret _ _ _ _ _ _ hF G dX8_odds_22

