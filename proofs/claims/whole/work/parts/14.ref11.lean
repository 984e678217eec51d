theorem room_le {l : Launch} {y : MethodName} {ws : List Cond} {rm rm2 : Room} {Pc : Array Value → State → Prop} {Qc : Array Value → State → Outcome → State → Prop} {mc ms : Nat} {free : Addr → Prop} (hf : rm.frames ≤ rm2.frames) (hl : rm.locals ≤ rm2.locals) (hc : rm.cells = rm2.cells) (hs : rm.slots = rm2.slots) (h : Met l y ws rm Pc Qc mc ms free) : Met l y ws rm2 Pc Qc mc ms free := by
  intro p e ha hc1 hk s m args below hfr happ hP hT
  refine h p e ha hc1 hk s m args below hfr ?_ hP hT
  rw [Spec.appliesLoose_iff hfr] at happ ⊢
  obtain ⟨h1, h2, h3, h4, h5, h6, h7, h8⟩ := happ
  refine ⟨h1, h2, h3, h4, h5, h6, ?_, h8⟩
  have h7 : s.hasRoom e.platform rm2 = true := h7
  show s.hasRoom e.platform rm = true
  unfold State.hasRoom at h7 ⊢
  simp only [Bool.and_eq_true, decide_eq_true_eq] at h7 ⊢
  rw [hc, hs]
  obtain ⟨⟨⟨⟨a, b1, b2, b3, b4, b5⟩, c⟩, d⟩, g⟩ := h7
  exact ⟨⟨⟨⟨by omega, by omega, by omega, by omega, by omega, b5⟩, c⟩, d⟩, g⟩
theorem mM_room {l : Launch} {D : va_G} {cI : ClassId} {a : Nat → Nat} {y : MethodName} {ws : List Cond} {rm rm2 : Room} {av : List Value} {M : mS} {rM : Int32 × mS} (hf : rm.frames ≤ rm2.frames) (hl : rm.locals ≤ rm2.locals) (hc : rm.cells = rm2.cells) (hs : rm.slots = rm2.slots) (h : mM l D cI a y ws rm av M rM) : mM l D cI a y ws rm2 av M rM := fun sz S => room_le hf hl hc hs (h sz S)
set_option maxRecDepth 100000 in
set_option maxHeartbeats 4000000 in
theorem k_looksIn_0 (zl : Launch) (D : va_G) (cI : ClassId) (ad : Nat → Nat) (M : mS) (x : Int32) (hV : vR M) : mM zl D cI ad yX9_looksIn wsX9_looksIn ({ frames := 6, cells := 0, slots := 0, locals := 160 } : Room) [.int 0, .int x] M (mF_looksIn_0 M x) := by
  have hin : ∀ w ∈ wsX90, w ∈ wsX9_looksIn := fun w h => List.mem_cons_of_mem _ (List.mem_append_right _ h)
  refine mM_of (cc := cX9_looksIn) (nL := 3) (by decide) rfl rfl (Nat.le_of_ble_eq_true rfl) ?_
  intro zp ze zs zm zg zb zt zc zA H0 zQ C hA hret H locs ls hl G
  have hx := C.1
  have hb := C.2.1
  have hl : lv_has ls 3 [(0, .ref (ad 0)), (1, .int 0), (2, .int x)] := hl
  obtain ⟨rM, hF⟩ : ∃ X : Int32 × mS, X = mF_looksIn_0 M x := ⟨_, rfl⟩
  rw [← hF] at hret
  unfold mF_looksIn_0 at hF
  refine lv_iload_n hx hb dX9_looksIn_0 rfl (lv_at hl 1 rfl) ?_
  refine lv_if_ne (tgt := 17) hx hb dX9_looksIn_1 (by decide) (fun c1 => absurd (by decide) c1) (fun c1 => ?_)
  refine lv_aload_n hx hb dX9_looksIn_4 rfl (lv_at hl 0 rfl) ?_
  refine lv_bipush (v := 10) hx hb dX9_looksIn_5 (by decide) ?_
  refine mr_callv C hA G (k_ran zl D cI ad M 10 hV.1) (cwV 1 C.2.2.2.2.1 gX9_looksIn_X9_ran rfl rfl rfl (by decide +kernel) ⟨Nat.le_of_ble_eq_true rfl, Nat.le_of_ble_eq_true rfl⟩) rfl hl.1 rfl (Nat.le_of_ble_eq_true rfl) dX9_looksIn_7 ⟨Nat.le_refl _, Nat.le_refl _⟩ (fun H locs G => ?_)
  obtain ⟨M7, hM7⟩ : ∃ X : mS, X = mF_ran M 10 := ⟨_, rfl⟩
  rw [← hM7] at G
  rw [lt_e hM7] at hF
  have hV : vR M7 := by rw [hM7]; exact ran_vR hV
  refine lv_iload_n hx hb dX9_looksIn_10 rfl (lv_at hl 2 rfl) ?_
  refine lv_aload_n hx hb dX9_looksIn_11 rfl (lv_at hl 0 rfl) ?_
  refine mr_get C G hin 26 (by decide) rfl (show Cond.fieldLink RX9 240 "WheatCountsModel" "voiceN" "I" ∈ _ by decide +kernel) (fun _ => rfl) dX9_looksIn_12 ?_
  refine lv_iadd hx hb dX9_looksIn_15 ?_
  exact hret _ _ _ _ _ _ hF G dX9_looksIn_16
set_option maxRecDepth 100000 in
set_option maxHeartbeats 4000000 in
theorem k_looksIn_1 (zl : Launch) (D : va_G) (cI : ClassId) (ad : Nat → Nat) (M : mS) (x : Int32) (hV : vR M) : mM zl D cI ad yX9_looksIn wsX9_looksIn ({ frames := 7, cells := 0, slots := 0, locals := 182 } : Room) [.int 1, .int x] M (mF_looksIn_1 M x) := by
  have hin : ∀ w ∈ wsX90, w ∈ wsX9_looksIn := fun w h => List.mem_cons_of_mem _ (List.mem_append_right _ h)
  refine mM_of (cc := cX9_looksIn) (nL := 3) (by decide) rfl rfl (Nat.le_of_ble_eq_true rfl) ?_
  intro zp ze zs zm zg zb zt zc zA H0 zQ C hA hret H locs ls hl G
  have hx := C.1
  have hb := C.2.1
  have hl : lv_has ls 3 [(0, .ref (ad 0)), (1, .int 1), (2, .int x)] := hl
  obtain ⟨rM, hF⟩ : ∃ X : Int32 × mS, X = mF_looksIn_1 M x := ⟨_, rfl⟩
  rw [← hF] at hret
  unfold mF_looksIn_1 at hF
  refine lv_iload_n hx hb dX9_looksIn_0 rfl (lv_at hl 1 rfl) ?_
  refine lv_if_ne (tgt := 17) hx hb dX9_looksIn_1 (by decide) (fun c1 => ?_) (fun c1 => absurd c1 (by decide))
  refine lv_iload_n hx hb dX9_looksIn_17 rfl (lv_at hl 1 rfl) ?_
  refine lv_iconst (v := 1) hx hb dX9_looksIn_18 (by decide) ?_
  refine lv_icmp_ne (tgt := 37) hx hb dX9_looksIn_19 (by decide) (fun c19 => absurd (by decide) c19) (fun c19 => ?_)
  refine lv_aload_n hx hb dX9_looksIn_22 rfl (lv_at hl 0 rfl) ?_
  refine lv_bipush (v := 20) hx hb dX9_looksIn_23 (by decide) ?_
  refine mr_callv C hA G (k_ran zl D cI ad M 20 hV.1) (cwV 1 C.2.2.2.2.1 gX9_looksIn_X9_ran rfl rfl rfl (by decide +kernel) ⟨Nat.le_of_ble_eq_true rfl, Nat.le_of_ble_eq_true rfl⟩) rfl hl.1 rfl (Nat.le_of_ble_eq_true rfl) dX9_looksIn_25 ⟨Nat.le_refl _, Nat.le_refl _⟩ (fun H locs G => ?_)
  obtain ⟨M25, hM25⟩ : ∃ X : mS, X = mF_ran M 20 := ⟨_, rfl⟩
  rw [← hM25] at G
  rw [lt_e hM25] at hF
  have hV : vR M25 := by rw [hM25]; exact ran_vR hV
  refine lv_aload_n hx hb dX9_looksIn_28 rfl (lv_at hl 0 rfl) ?_
  refine lv_iconst (v := 0) hx hb dX9_looksIn_29 (by decide) ?_
  refine lv_iload_n hx hb dX9_looksIn_30 rfl (lv_at hl 2 rfl) ?_
  obtain ⟨x31, M31, hx31⟩ : ∃ (X : Int32) (Y : mS), (X, Y) = mF_looksIn_0 M25 x := ⟨_, _, rfl⟩
  refine mr_calli (r0 := x31) (M2 := M31) C hA G (by rw [hx31]; exact (k_looksIn_0 zl D cI ad M25 x hV)) (cwV 2 C.2.2.2.2.1 gX9_looksIn_X9_looksIn rfl rfl rfl (by decide +kernel) ⟨Nat.le_of_ble_eq_true rfl, Nat.le_of_ble_eq_true rfl⟩) rfl hl.1 rfl (Nat.le_of_ble_eq_true rfl) dX9_looksIn_31 ⟨Nat.le_refl _, Nat.le_refl _⟩ (fun H locs G => ?_)
  rw [lt2_e hx31] at hF
  have hV : vR M31 := by have h9 := vR_looksIn_0 (x := x) hV; rw [← hx31] at h9; exact h9
  refine lv_iconst (v := 3) hx hb dX9_looksIn_34 (by decide) ?_
  refine lv_imul hx hb dX9_looksIn_35 ?_
  exact hret _ _ _ _ _ _ hF G dX9_looksIn_36
set_option maxRecDepth 100000 in
set_option maxHeartbeats 4000000 in
theorem k_looksIn_2 (zl : Launch) (D : va_G) (cI : ClassId) (ad : Nat → Nat) (M : mS) (x : Int32) (hV : vR M) : mM zl D cI ad yX9_looksIn wsX9_looksIn ({ frames := 7, cells := 0, slots := 0, locals := 182 } : Room) [.int 2, .int x] M (mF_looksIn_2 M x) := by
  have hin : ∀ w ∈ wsX90, w ∈ wsX9_looksIn := fun w h => List.mem_cons_of_mem _ (List.mem_append_right _ h)
  refine mM_of (cc := cX9_looksIn) (nL := 3) (by decide) rfl rfl (Nat.le_of_ble_eq_true rfl) ?_
  intro zp ze zs zm zg zb zt zc zA H0 zQ C hA hret H locs ls hl G
  have hx := C.1
  have hb := C.2.1
  have hl : lv_has ls 3 [(0, .ref (ad 0)), (1, .int 2), (2, .int x)] := hl
  obtain ⟨rM, hF⟩ : ∃ X : Int32 × mS, X = mF_looksIn_2 M x := ⟨_, rfl⟩
  rw [← hF] at hret
  unfold mF_looksIn_2 at hF
  refine lv_iload_n hx hb dX9_looksIn_0 rfl (lv_at hl 1 rfl) ?_
  refine lv_if_ne (tgt := 17) hx hb dX9_looksIn_1 (by decide) (fun c1 => ?_) (fun c1 => absurd c1 (by decide))
  refine lv_iload_n hx hb dX9_looksIn_17 rfl (lv_at hl 1 rfl) ?_
  refine lv_iconst (v := 1) hx hb dX9_looksIn_18 (by decide) ?_
  refine lv_icmp_ne (tgt := 37) hx hb dX9_looksIn_19 (by decide) (fun c19 => ?_) (fun c19 => absurd c19 (by decide))
  refine lv_aload_n hx hb dX9_looksIn_37 rfl (lv_at hl 0 rfl) ?_
  refine lv_iload_n hx hb dX9_looksIn_38 rfl (lv_at hl 1 rfl) ?_
  refine mr_calls C hA G (ks_above zl 2) (va_cwS 1 C.2.2.2.2.1 gX9_looksIn_X9_above rfl rfl rfl (by decide +kernel) ⟨Nat.le_of_ble_eq_true rfl, Nat.le_of_ble_eq_true rfl⟩) rfl hl.1 rfl (Nat.le_of_ble_eq_true rfl) dX9_looksIn_39 ⟨Nat.le_refl _, Nat.le_refl _⟩ (fun H locs G => ?_)
  refine lv_iload_n hx hb dX9_looksIn_42 rfl (lv_at hl 2 rfl) ?_
  obtain ⟨x43, M43, hx43⟩ : ∃ (X : Int32) (Y : mS), (X, Y) = mF_looksIn_0 M x := ⟨_, _, rfl⟩
  refine mr_calli (r0 := x43) (M2 := M43) C hA G (by rw [hx43]; exact (k_looksIn_0 zl D cI ad M x hV)) (cwV 2 C.2.2.2.2.1 gX9_looksIn_X9_looksIn rfl rfl rfl (by decide +kernel) ⟨Nat.le_of_ble_eq_true rfl, Nat.le_of_ble_eq_true rfl⟩) rfl hl.1 (cons_int rfl (cons_int (show (sF_above 2) = 0 by decide) rfl)) (Nat.le_of_ble_eq_true rfl) dX9_looksIn_43 ⟨Nat.le_refl _, Nat.le_refl _⟩ (fun H locs G => ?_)
  rw [lt2_e hx43] at hF
  have hV : vR M43 := by have h9 := vR_looksIn_0 (x := x) hV; rw [← hx43] at h9; exact h9
  exact hret _ _ _ _ _ _ hF G dX9_looksIn_46
set_option maxRecDepth 100000 in
set_option maxHeartbeats 4000000 in
theorem k_looksIn_3 (zl : Launch) (D : va_G) (cI : ClassId) (ad : Nat → Nat) (M : mS) (x : Int32) (hV : vR M) : mM zl D cI ad yX9_looksIn wsX9_looksIn ({ frames := 7, cells := 0, slots := 0, locals := 182 } : Room) [.int 3, .int x] M (mF_looksIn_3 M x) := by
  have hin : ∀ w ∈ wsX90, w ∈ wsX9_looksIn := fun w h => List.mem_cons_of_mem _ (List.mem_append_right _ h)
  refine mM_of (cc := cX9_looksIn) (nL := 3) (by decide) rfl rfl (Nat.le_of_ble_eq_true rfl) ?_
  intro zp ze zs zm zg zb zt zc zA H0 zQ C hA hret H locs ls hl G
  have hx := C.1
  have hb := C.2.1
  have hl : lv_has ls 3 [(0, .ref (ad 0)), (1, .int 3), (2, .int x)] := hl
  obtain ⟨rM, hF⟩ : ∃ X : Int32 × mS, X = mF_looksIn_3 M x := ⟨_, rfl⟩
  rw [← hF] at hret
  unfold mF_looksIn_3 at hF
  refine lv_iload_n hx hb dX9_looksIn_0 rfl (lv_at hl 1 rfl) ?_
  refine lv_if_ne (tgt := 17) hx hb dX9_looksIn_1 (by decide) (fun c1 => ?_) (fun c1 => absurd c1 (by decide))
  refine lv_iload_n hx hb dX9_looksIn_17 rfl (lv_at hl 1 rfl) ?_
  refine lv_iconst (v := 1) hx hb dX9_looksIn_18 (by decide) ?_
  refine lv_icmp_ne (tgt := 37) hx hb dX9_looksIn_19 (by decide) (fun c19 => ?_) (fun c19 => absurd c19 (by decide))
  refine lv_aload_n hx hb dX9_looksIn_37 rfl (lv_at hl 0 rfl) ?_
  refine lv_iload_n hx hb dX9_looksIn_38 rfl (lv_at hl 1 rfl) ?_
  refine mr_calls C hA G (ks_above zl 3) (va_cwS 1 C.2.2.2.2.1 gX9_looksIn_X9_above rfl rfl rfl (by decide +kernel) ⟨Nat.le_of_ble_eq_true rfl, Nat.le_of_ble_eq_true rfl⟩) rfl hl.1 rfl (Nat.le_of_ble_eq_true rfl) dX9_looksIn_39 ⟨Nat.le_refl _, Nat.le_refl _⟩ (fun H locs G => ?_)
  refine lv_iload_n hx hb dX9_looksIn_42 rfl (lv_at hl 2 rfl) ?_
  obtain ⟨x43, M43, hx43⟩ : ∃ (X : Int32) (Y : mS), (X, Y) = mF_looksIn_0 M x := ⟨_, _, rfl⟩
  refine mr_calli (r0 := x43) (M2 := M43) C hA G (by rw [hx43]; exact (k_looksIn_0 zl D cI ad M x hV)) (cwV 2 C.2.2.2.2.1 gX9_looksIn_X9_looksIn rfl rfl rfl (by decide +kernel) ⟨Nat.le_of_ble_eq_true rfl, Nat.le_of_ble_eq_true rfl⟩) rfl hl.1 (cons_int rfl (cons_int (show (sF_above 3) = 0 by decide) rfl)) (Nat.le_of_ble_eq_true rfl) dX9_looksIn_43 ⟨Nat.le_refl _, Nat.le_refl _⟩ (fun H locs G => ?_)
  rw [lt2_e hx43] at hF
  have hV : vR M43 := by have h9 := vR_looksIn_0 (x := x) hV; rw [← hx43] at h9; exact h9
  exact hret _ _ _ _ _ _ hF G dX9_looksIn_46
set_option maxRecDepth 100000 in
set_option maxHeartbeats 4000000 in
theorem k_looksIn_4 (zl : Launch) (D : va_G) (cI : ClassId) (ad : Nat → Nat) (M : mS) (x : Int32) (hV : vR M) : mM zl D cI ad yX9_looksIn wsX9_looksIn ({ frames := 8, cells := 0, slots := 0, locals := 204 } : Room) [.int 4, .int x] M (mF_looksIn_4 M x) := by
  have hin : ∀ w ∈ wsX90, w ∈ wsX9_looksIn := fun w h => List.mem_cons_of_mem _ (List.mem_append_right _ h)
  refine mM_of (cc := cX9_looksIn) (nL := 3) (by decide) rfl rfl (Nat.le_of_ble_eq_true rfl) ?_
  intro zp ze zs zm zg zb zt zc zA H0 zQ C hA hret H locs ls hl G
  have hx := C.1
  have hb := C.2.1
  have hl : lv_has ls 3 [(0, .ref (ad 0)), (1, .int 4), (2, .int x)] := hl
  obtain ⟨rM, hF⟩ : ∃ X : Int32 × mS, X = mF_looksIn_4 M x := ⟨_, rfl⟩
  rw [← hF] at hret
  unfold mF_looksIn_4 at hF
  refine lv_iload_n hx hb dX9_looksIn_0 rfl (lv_at hl 1 rfl) ?_
  refine lv_if_ne (tgt := 17) hx hb dX9_looksIn_1 (by decide) (fun c1 => ?_) (fun c1 => absurd c1 (by decide))
  refine lv_iload_n hx hb dX9_looksIn_17 rfl (lv_at hl 1 rfl) ?_
  refine lv_iconst (v := 1) hx hb dX9_looksIn_18 (by decide) ?_
  refine lv_icmp_ne (tgt := 37) hx hb dX9_looksIn_19 (by decide) (fun c19 => ?_) (fun c19 => absurd c19 (by decide))
  refine lv_aload_n hx hb dX9_looksIn_37 rfl (lv_at hl 0 rfl) ?_
  refine lv_iload_n hx hb dX9_looksIn_38 rfl (lv_at hl 1 rfl) ?_
  refine mr_calls C hA G (ks_above zl 4) (va_cwS 1 C.2.2.2.2.1 gX9_looksIn_X9_above rfl rfl rfl (by decide +kernel) ⟨Nat.le_of_ble_eq_true rfl, Nat.le_of_ble_eq_true rfl⟩) rfl hl.1 rfl (Nat.le_of_ble_eq_true rfl) dX9_looksIn_39 ⟨Nat.le_refl _, Nat.le_refl _⟩ (fun H locs G => ?_)
  refine lv_iload_n hx hb dX9_looksIn_42 rfl (lv_at hl 2 rfl) ?_
  obtain ⟨x43, M43, hx43⟩ : ∃ (X : Int32) (Y : mS), (X, Y) = mF_looksIn_1 M x := ⟨_, _, rfl⟩
  refine mr_calli (r0 := x43) (M2 := M43) C hA G (by rw [hx43]; exact (k_looksIn_1 zl D cI ad M x hV)) (cwV 2 C.2.2.2.2.1 gX9_looksIn_X9_looksIn rfl rfl rfl (by decide +kernel) ⟨Nat.le_of_ble_eq_true rfl, Nat.le_of_ble_eq_true rfl⟩) rfl hl.1 (cons_int rfl (cons_int (show (sF_above 4) = 1 by decide) rfl)) (Nat.le_of_ble_eq_true rfl) dX9_looksIn_43 ⟨Nat.le_refl _, Nat.le_refl _⟩ (fun H locs G => ?_)
  rw [lt2_e hx43] at hF
  have hV : vR M43 := by have h9 := vR_looksIn_1 (x := x) hV; rw [← hx43] at h9; exact h9
  exact hret _ _ _ _ _ _ hF G dX9_looksIn_46
set_option maxRecDepth 100000 in
set_option maxHeartbeats 4000000 in
theorem k_looksIn_5 (zl : Launch) (D : va_G) (cI : ClassId) (ad : Nat → Nat) (M : mS) (x : Int32) (hV : vR M) : mM zl D cI ad yX9_looksIn wsX9_looksIn ({ frames := 8, cells := 0, slots := 0, locals := 204 } : Room) [.int 5, .int x] M (mF_looksIn_5 M x) := by
  have hin : ∀ w ∈ wsX90, w ∈ wsX9_looksIn := fun w h => List.mem_cons_of_mem _ (List.mem_append_right _ h)
  refine mM_of (cc := cX9_looksIn) (nL := 3) (by decide) rfl rfl (Nat.le_of_ble_eq_true rfl) ?_
  intro zp ze zs zm zg zb zt zc zA H0 zQ C hA hret H locs ls hl G
  have hx := C.1
  have hb := C.2.1
  have hl : lv_has ls 3 [(0, .ref (ad 0)), (1, .int 5), (2, .int x)] := hl
  obtain ⟨rM, hF⟩ : ∃ X : Int32 × mS, X = mF_looksIn_5 M x := ⟨_, rfl⟩
  rw [← hF] at hret
  unfold mF_looksIn_5 at hF
  refine lv_iload_n hx hb dX9_looksIn_0 rfl (lv_at hl 1 rfl) ?_
  refine lv_if_ne (tgt := 17) hx hb dX9_looksIn_1 (by decide) (fun c1 => ?_) (fun c1 => absurd c1 (by decide))
  refine lv_iload_n hx hb dX9_looksIn_17 rfl (lv_at hl 1 rfl) ?_
  refine lv_iconst (v := 1) hx hb dX9_looksIn_18 (by decide) ?_
  refine lv_icmp_ne (tgt := 37) hx hb dX9_looksIn_19 (by decide) (fun c19 => ?_) (fun c19 => absurd c19 (by decide))
  refine lv_aload_n hx hb dX9_looksIn_37 rfl (lv_at hl 0 rfl) ?_
  refine lv_iload_n hx hb dX9_looksIn_38 rfl (lv_at hl 1 rfl) ?_
  refine mr_calls C hA G (ks_above zl 5) (va_cwS 1 C.2.2.2.2.1 gX9_looksIn_X9_above rfl rfl rfl (by decide +kernel) ⟨Nat.le_of_ble_eq_true rfl, Nat.le_of_ble_eq_true rfl⟩) rfl hl.1 rfl (Nat.le_of_ble_eq_true rfl) dX9_looksIn_39 ⟨Nat.le_refl _, Nat.le_refl _⟩ (fun H locs G => ?_)
  refine lv_iload_n hx hb dX9_looksIn_42 rfl (lv_at hl 2 rfl) ?_
  obtain ⟨x43, M43, hx43⟩ : ∃ (X : Int32) (Y : mS), (X, Y) = mF_looksIn_2 M x := ⟨_, _, rfl⟩
  refine mr_calli (r0 := x43) (M2 := M43) C hA G (by rw [hx43]; exact (k_looksIn_2 zl D cI ad M x hV)) (cwV 2 C.2.2.2.2.1 gX9_looksIn_X9_looksIn rfl rfl rfl (by decide +kernel) ⟨Nat.le_of_ble_eq_true rfl, Nat.le_of_ble_eq_true rfl⟩) rfl hl.1 (cons_int rfl (cons_int (show (sF_above 5) = 2 by decide) rfl)) (Nat.le_of_ble_eq_true rfl) dX9_looksIn_43 ⟨Nat.le_refl _, Nat.le_refl _⟩ (fun H locs G => ?_)
  rw [lt2_e hx43] at hF
  have hV : vR M43 := by have h9 := vR_looksIn_2 (x := x) hV; rw [← hx43] at h9; exact h9
  exact hret _ _ _ _ _ _ hF G dX9_looksIn_46
set_option maxRecDepth 100000 in
set_option maxHeartbeats 4000000 in
theorem k_looksIn_6 (zl : Launch) (D : va_G) (cI : ClassId) (ad : Nat → Nat) (M : mS) (x : Int32) (hV : vR M) : mM zl D cI ad yX9_looksIn wsX9_looksIn ({ frames := 8, cells := 0, slots := 0, locals := 204 } : Room) [.int 6, .int x] M (mF_looksIn_6 M x) := by
  have hin : ∀ w ∈ wsX90, w ∈ wsX9_looksIn := fun w h => List.mem_cons_of_mem _ (List.mem_append_right _ h)
  refine mM_of (cc := cX9_looksIn) (nL := 3) (by decide) rfl rfl (Nat.le_of_ble_eq_true rfl) ?_
  intro zp ze zs zm zg zb zt zc zA H0 zQ C hA hret H locs ls hl G
  have hx := C.1
  have hb := C.2.1
  have hl : lv_has ls 3 [(0, .ref (ad 0)), (1, .int 6), (2, .int x)] := hl
  obtain ⟨rM, hF⟩ : ∃ X : Int32 × mS, X = mF_looksIn_6 M x := ⟨_, rfl⟩
  rw [← hF] at hret
  unfold mF_looksIn_6 at hF
  refine lv_iload_n hx hb dX9_looksIn_0 rfl (lv_at hl 1 rfl) ?_
  refine lv_if_ne (tgt := 17) hx hb dX9_looksIn_1 (by decide) (fun c1 => ?_) (fun c1 => absurd c1 (by decide))
  refine lv_iload_n hx hb dX9_looksIn_17 rfl (lv_at hl 1 rfl) ?_
  refine lv_iconst (v := 1) hx hb dX9_looksIn_18 (by decide) ?_
  refine lv_icmp_ne (tgt := 37) hx hb dX9_looksIn_19 (by decide) (fun c19 => ?_) (fun c19 => absurd c19 (by decide))
  refine lv_aload_n hx hb dX9_looksIn_37 rfl (lv_at hl 0 rfl) ?_
  refine lv_iload_n hx hb dX9_looksIn_38 rfl (lv_at hl 1 rfl) ?_
  refine mr_calls C hA G (ks_above zl 6) (va_cwS 1 C.2.2.2.2.1 gX9_looksIn_X9_above rfl rfl rfl (by decide +kernel) ⟨Nat.le_of_ble_eq_true rfl, Nat.le_of_ble_eq_true rfl⟩) rfl hl.1 rfl (Nat.le_of_ble_eq_true rfl) dX9_looksIn_39 ⟨Nat.le_refl _, Nat.le_refl _⟩ (fun H locs G => ?_)
  refine lv_iload_n hx hb dX9_looksIn_42 rfl (lv_at hl 2 rfl) ?_
  obtain ⟨x43, M43, hx43⟩ : ∃ (X : Int32) (Y : mS), (X, Y) = mF_looksIn_3 M x := ⟨_, _, rfl⟩
  refine mr_calli (r0 := x43) (M2 := M43) C hA G (by rw [hx43]; exact (k_looksIn_3 zl D cI ad M x hV)) (cwV 2 C.2.2.2.2.1 gX9_looksIn_X9_looksIn rfl rfl rfl (by decide +kernel) ⟨Nat.le_of_ble_eq_true rfl, Nat.le_of_ble_eq_true rfl⟩) rfl hl.1 (cons_int rfl (cons_int (show (sF_above 6) = 3 by decide) rfl)) (Nat.le_of_ble_eq_true rfl) dX9_looksIn_43 ⟨Nat.le_refl _, Nat.le_refl _⟩ (fun H locs G => ?_)
  rw [lt2_e hx43] at hF
  have hV : vR M43 := by have h9 := vR_looksIn_3 (x := x) hV; rw [← hx43] at h9; exact h9
  exact hret _ _ _ _ _ _ hF G dX9_looksIn_46
theorem k_looksIn (zl : Launch) (D : va_G) (cI : ClassId) (ad : Nat → Nat) (M : mS) (kind x : Int32) (hk : ∃ j, j ≤ 6 ∧ kind = nI j) (hV : vR M) : mM zl D cI ad yX9_looksIn wsX9_looksIn ({ frames := 8, cells := 0, slots := 0, locals := 204 } : Room) [.int kind, .int x] M (mF_looksIn M kind x) := by
  obtain ⟨j, hj, rfl⟩ := hk
  rcases (show j = 0 ∨ j = 1 ∨ j = 2 ∨ j = 3 ∨ j = 4 ∨ j = 5 ∨ j = 6 by omega) with rfl | rfl | rfl | rfl | rfl | rfl | rfl
  · rw [mF_looksIn_at0, show nI 0 = 0 by decide]; exact mM_room (by decide) (by decide) (by rfl) (by rfl) (k_looksIn_0 zl D cI ad M x hV)
  · rw [mF_looksIn_at1, show nI 1 = 1 by decide]; exact mM_room (by decide) (by decide) (by rfl) (by rfl) (k_looksIn_1 zl D cI ad M x hV)
  · rw [mF_looksIn_at2, show nI 2 = 2 by decide]; exact mM_room (by decide) (by decide) (by rfl) (by rfl) (k_looksIn_2 zl D cI ad M x hV)
  · rw [mF_looksIn_at3, show nI 3 = 3 by decide]; exact mM_room (by decide) (by decide) (by rfl) (by rfl) (k_looksIn_3 zl D cI ad M x hV)
  · rw [mF_looksIn_at4, show nI 4 = 4 by decide]; exact mM_room (by decide) (by decide) (by rfl) (by rfl) (k_looksIn_4 zl D cI ad M x hV)
  · rw [mF_looksIn_at5, show nI 5 = 5 by decide]; exact mM_room (by decide) (by decide) (by rfl) (by rfl) (k_looksIn_5 zl D cI ad M x hV)
  · rw [mF_looksIn_at6, show nI 6 = 6 by decide]; exact mM_room (by decide) (by decide) (by rfl) (by rfl) (k_looksIn_6 zl D cI ad M x hV)
set_option maxRecDepth 100000 in
set_option maxHeartbeats 4000000 in
theorem k_glancesIn_0 (zl : Launch) (D : va_G) (cI : ClassId) (ad : Nat → Nat) (M : mS) (x : Int32) (hV : vR M) : mM zl D cI ad yX9_glancesIn wsX9_glancesIn ({ frames := 6, cells := 0, slots := 0, locals := 160 } : Room) [.int 0, .int x] M (mF_glancesIn_0 M x) := by
  have hin : ∀ w ∈ wsX90, w ∈ wsX9_glancesIn := fun w h => List.mem_cons_of_mem _ (List.mem_append_right _ h)
  refine mM_of (cc := cX9_glancesIn) (nL := 3) (by decide) rfl rfl (Nat.le_of_ble_eq_true rfl) ?_
  intro zp ze zs zm zg zb zt zc zA H0 zQ C hA hret H locs ls hl G
  have hx := C.1
  have hb := C.2.1
  have hl : lv_has ls 3 [(0, .ref (ad 0)), (1, .int 0), (2, .int x)] := hl
  obtain ⟨rM, hF⟩ : ∃ X : Int32 × mS, X = mF_glancesIn_0 M x := ⟨_, rfl⟩
  rw [← hF] at hret
  unfold mF_glancesIn_0 at hF
  refine lv_iload_n hx hb dX9_glancesIn_0 rfl (lv_at hl 1 rfl) ?_
  refine lv_if_ne (tgt := 17) hx hb dX9_glancesIn_1 (by decide) (fun c1 => absurd (by decide) c1) (fun c1 => ?_)
  refine lv_aload_n hx hb dX9_glancesIn_4 rfl (lv_at hl 0 rfl) ?_
  refine lv_bipush (v := 12) hx hb dX9_glancesIn_5 (by decide) ?_
  refine mr_callv C hA G (k_ran zl D cI ad M 12 hV.1) (cwV 1 C.2.2.2.2.1 gX9_glancesIn_X9_ran rfl rfl rfl (by decide +kernel) ⟨Nat.le_of_ble_eq_true rfl, Nat.le_of_ble_eq_true rfl⟩) rfl hl.1 rfl (Nat.le_of_ble_eq_true rfl) dX9_glancesIn_7 ⟨Nat.le_refl _, Nat.le_refl _⟩ (fun H locs G => ?_)
  obtain ⟨M7, hM7⟩ : ∃ X : mS, X = mF_ran M 12 := ⟨_, rfl⟩
  rw [← hM7] at G
  rw [lt_e hM7] at hF
  have hV : vR M7 := by rw [hM7]; exact ran_vR hV
  refine lv_iload_n hx hb dX9_glancesIn_10 rfl (lv_at hl 2 rfl) ?_
  refine lv_aload_n hx hb dX9_glancesIn_11 rfl (lv_at hl 0 rfl) ?_
  refine mr_get C G hin 27 (by decide) rfl (show Cond.fieldLink RX9 246 "WheatCountsModel" "voiceM" "I" ∈ _ by decide +kernel) (fun _ => rfl) dX9_glancesIn_12 ?_
  refine lv_isub hx hb dX9_glancesIn_15 ?_
  exact hret _ _ _ _ _ _ hF G dX9_glancesIn_16
set_option maxRecDepth 100000 in
set_option maxHeartbeats 4000000 in
theorem k_glancesIn_1 (zl : Launch) (D : va_G) (cI : ClassId) (ad : Nat → Nat) (M : mS) (x : Int32) (hV : vR M) : mM zl D cI ad yX9_glancesIn wsX9_glancesIn ({ frames := 7, cells := 0, slots := 0, locals := 182 } : Room) [.int 1, .int x] M (mF_glancesIn_1 M x) := by
  have hin : ∀ w ∈ wsX90, w ∈ wsX9_glancesIn := fun w h => List.mem_cons_of_mem _ (List.mem_append_right _ h)
  refine mM_of (cc := cX9_glancesIn) (nL := 3) (by decide) rfl rfl (Nat.le_of_ble_eq_true rfl) ?_
  intro zp ze zs zm zg zb zt zc zA H0 zQ C hA hret H locs ls hl G
  have hx := C.1
  have hb := C.2.1
  have hl : lv_has ls 3 [(0, .ref (ad 0)), (1, .int 1), (2, .int x)] := hl
  obtain ⟨rM, hF⟩ : ∃ X : Int32 × mS, X = mF_glancesIn_1 M x := ⟨_, rfl⟩
  rw [← hF] at hret
  unfold mF_glancesIn_1 at hF
  refine lv_iload_n hx hb dX9_glancesIn_0 rfl (lv_at hl 1 rfl) ?_
  refine lv_if_ne (tgt := 17) hx hb dX9_glancesIn_1 (by decide) (fun c1 => ?_) (fun c1 => absurd c1 (by decide))
  refine lv_iload_n hx hb dX9_glancesIn_17 rfl (lv_at hl 1 rfl) ?_
  refine lv_iconst (v := 3) hx hb dX9_glancesIn_18 (by decide) ?_
  refine lv_icmp_ne (tgt := 36) hx hb dX9_glancesIn_19 (by decide) (fun c19 => ?_) (fun c19 => absurd c19 (by decide))
  refine lv_iload_n hx hb dX9_glancesIn_36 rfl (lv_at hl 1 rfl) ?_
  refine lv_bipush (v := 6) hx hb dX9_glancesIn_37 (by decide) ?_
  refine lv_icmp_ne (tgt := 60) hx hb dX9_glancesIn_39 (by decide) (fun c39 => ?_) (fun c39 => absurd c39 (by decide))
  refine lv_aload_n hx hb dX9_glancesIn_60 rfl (lv_at hl 0 rfl) ?_
  refine lv_iload_n hx hb dX9_glancesIn_61 rfl (lv_at hl 1 rfl) ?_
  refine mr_calls C hA G (ks_above zl 1) (va_cwS 1 C.2.2.2.2.1 gX9_glancesIn_X9_above rfl rfl rfl (by decide +kernel) ⟨Nat.le_of_ble_eq_true rfl, Nat.le_of_ble_eq_true rfl⟩) rfl hl.1 rfl (Nat.le_of_ble_eq_true rfl) dX9_glancesIn_62 ⟨Nat.le_refl _, Nat.le_refl _⟩ (fun H locs G => ?_)
  refine lv_iload_n hx hb dX9_glancesIn_65 rfl (lv_at hl 2 rfl) ?_
  obtain ⟨x66, M66, hx66⟩ : ∃ (X : Int32) (Y : mS), (X, Y) = mF_glancesIn_0 M x := ⟨_, _, rfl⟩
  refine mr_calli (r0 := x66) (M2 := M66) C hA G (by rw [hx66]; exact (k_glancesIn_0 zl D cI ad M x hV)) (cwV 2 C.2.2.2.2.1 gX9_glancesIn_X9_glancesIn rfl rfl rfl (by decide +kernel) ⟨Nat.le_of_ble_eq_true rfl, Nat.le_of_ble_eq_true rfl⟩) rfl hl.1 (cons_int rfl (cons_int (show (sF_above 1) = 0 by decide) rfl)) (Nat.le_of_ble_eq_true rfl) dX9_glancesIn_66 ⟨Nat.le_refl _, Nat.le_refl _⟩ (fun H locs G => ?_)
  rw [lt2_e hx66] at hF
  have hV : vR M66 := by have h9 := vR_glancesIn_0 (x := x) hV; rw [← hx66] at h9; exact h9
  exact hret _ _ _ _ _ _ hF G dX9_glancesIn_69
set_option maxRecDepth 100000 in
set_option maxHeartbeats 4000000 in
theorem k_glancesIn_2 (zl : Launch) (D : va_G) (cI : ClassId) (ad : Nat → Nat) (M : mS) (x : Int32) (hV : vR M) : mM zl D cI ad yX9_glancesIn wsX9_glancesIn ({ frames := 7, cells := 0, slots := 0, locals := 182 } : Room) [.int 2, .int x] M (mF_glancesIn_2 M x) := by
  have hin : ∀ w ∈ wsX90, w ∈ wsX9_glancesIn := fun w h => List.mem_cons_of_mem _ (List.mem_append_right _ h)
  refine mM_of (cc := cX9_glancesIn) (nL := 3) (by decide) rfl rfl (Nat.le_of_ble_eq_true rfl) ?_
  intro zp ze zs zm zg zb zt zc zA H0 zQ C hA hret H locs ls hl G
  have hx := C.1
  have hb := C.2.1
  have hl : lv_has ls 3 [(0, .ref (ad 0)), (1, .int 2), (2, .int x)] := hl
  obtain ⟨rM, hF⟩ : ∃ X : Int32 × mS, X = mF_glancesIn_2 M x := ⟨_, rfl⟩
  rw [← hF] at hret
  unfold mF_glancesIn_2 at hF
  refine lv_iload_n hx hb dX9_glancesIn_0 rfl (lv_at hl 1 rfl) ?_
  refine lv_if_ne (tgt := 17) hx hb dX9_glancesIn_1 (by decide) (fun c1 => ?_) (fun c1 => absurd c1 (by decide))
  refine lv_iload_n hx hb dX9_glancesIn_17 rfl (lv_at hl 1 rfl) ?_
  refine lv_iconst (v := 3) hx hb dX9_glancesIn_18 (by decide) ?_
  refine lv_icmp_ne (tgt := 36) hx hb dX9_glancesIn_19 (by decide) (fun c19 => ?_) (fun c19 => absurd c19 (by decide))
  refine lv_iload_n hx hb dX9_glancesIn_36 rfl (lv_at hl 1 rfl) ?_
  refine lv_bipush (v := 6) hx hb dX9_glancesIn_37 (by decide) ?_
  refine lv_icmp_ne (tgt := 60) hx hb dX9_glancesIn_39 (by decide) (fun c39 => ?_) (fun c39 => absurd c39 (by decide))
  refine lv_aload_n hx hb dX9_glancesIn_60 rfl (lv_at hl 0 rfl) ?_
  refine lv_iload_n hx hb dX9_glancesIn_61 rfl (lv_at hl 1 rfl) ?_
  refine mr_calls C hA G (ks_above zl 2) (va_cwS 1 C.2.2.2.2.1 gX9_glancesIn_X9_above rfl rfl rfl (by decide +kernel) ⟨Nat.le_of_ble_eq_true rfl, Nat.le_of_ble_eq_true rfl⟩) rfl hl.1 rfl (Nat.le_of_ble_eq_true rfl) dX9_glancesIn_62 ⟨Nat.le_refl _, Nat.le_refl _⟩ (fun H locs G => ?_)
  refine lv_iload_n hx hb dX9_glancesIn_65 rfl (lv_at hl 2 rfl) ?_
  obtain ⟨x66, M66, hx66⟩ : ∃ (X : Int32) (Y : mS), (X, Y) = mF_glancesIn_0 M x := ⟨_, _, rfl⟩
  refine mr_calli (r0 := x66) (M2 := M66) C hA G (by rw [hx66]; exact (k_glancesIn_0 zl D cI ad M x hV)) (cwV 2 C.2.2.2.2.1 gX9_glancesIn_X9_glancesIn rfl rfl rfl (by decide +kernel) ⟨Nat.le_of_ble_eq_true rfl, Nat.le_of_ble_eq_true rfl⟩) rfl hl.1 (cons_int rfl (cons_int (show (sF_above 2) = 0 by decide) rfl)) (Nat.le_of_ble_eq_true rfl) dX9_glancesIn_66 ⟨Nat.le_refl _, Nat.le_refl _⟩ (fun H locs G => ?_)
  rw [lt2_e hx66] at hF
  have hV : vR M66 := by have h9 := vR_glancesIn_0 (x := x) hV; rw [← hx66] at h9; exact h9
  exact hret _ _ _ _ _ _ hF G dX9_glancesIn_69
set_option maxRecDepth 100000 in
set_option maxHeartbeats 4000000 in
theorem k_glancesIn_3 (zl : Launch) (D : va_G) (cI : ClassId) (ad : Nat → Nat) (M : mS) (x : Int32) (hV : vR M) : mM zl D cI ad yX9_glancesIn wsX9_glancesIn ({ frames := 7, cells := 0, slots := 0, locals := 182 } : Room) [.int 3, .int x] M (mF_glancesIn_3 M x) := by
  have hin : ∀ w ∈ wsX90, w ∈ wsX9_glancesIn := fun w h => List.mem_cons_of_mem _ (List.mem_append_right _ h)
  refine mM_of (cc := cX9_glancesIn) (nL := 3) (by decide) rfl rfl (Nat.le_of_ble_eq_true rfl) ?_
  intro zp ze zs zm zg zb zt zc zA H0 zQ C hA hret H locs ls hl G
  have hx := C.1
  have hb := C.2.1
  have hl : lv_has ls 3 [(0, .ref (ad 0)), (1, .int 3), (2, .int x)] := hl
  obtain ⟨rM, hF⟩ : ∃ X : Int32 × mS, X = mF_glancesIn_3 M x := ⟨_, rfl⟩
  rw [← hF] at hret
  unfold mF_glancesIn_3 at hF
  refine lv_iload_n hx hb dX9_glancesIn_0 rfl (lv_at hl 1 rfl) ?_
  refine lv_if_ne (tgt := 17) hx hb dX9_glancesIn_1 (by decide) (fun c1 => ?_) (fun c1 => absurd c1 (by decide))
  refine lv_iload_n hx hb dX9_glancesIn_17 rfl (lv_at hl 1 rfl) ?_
  refine lv_iconst (v := 3) hx hb dX9_glancesIn_18 (by decide) ?_
  refine lv_icmp_ne (tgt := 36) hx hb dX9_glancesIn_19 (by decide) (fun c19 => absurd (by decide) c19) (fun c19 => ?_)
  refine lv_aload_n hx hb dX9_glancesIn_22 rfl (lv_at hl 0 rfl) ?_
  refine lv_bipush (v := 40) hx hb dX9_glancesIn_23 (by decide) ?_
  refine mr_callv C hA G (k_ran zl D cI ad M 40 hV.1) (cwV 1 C.2.2.2.2.1 gX9_glancesIn_X9_ran rfl rfl rfl (by decide +kernel) ⟨Nat.le_of_ble_eq_true rfl, Nat.le_of_ble_eq_true rfl⟩) rfl hl.1 rfl (Nat.le_of_ble_eq_true rfl) dX9_glancesIn_25 ⟨Nat.le_refl _, Nat.le_refl _⟩ (fun H locs G => ?_)
  obtain ⟨M25, hM25⟩ : ∃ X : mS, X = mF_ran M 40 := ⟨_, rfl⟩
  rw [← hM25] at G
  rw [lt_e hM25] at hF
  have hV : vR M25 := by rw [hM25]; exact ran_vR hV
  refine lv_aload_n hx hb dX9_glancesIn_28 rfl (lv_at hl 0 rfl) ?_
  refine lv_iconst (v := 0) hx hb dX9_glancesIn_29 (by decide) ?_
  refine lv_iload_n hx hb dX9_glancesIn_30 rfl (lv_at hl 2 rfl) ?_
  obtain ⟨x31, M31, hx31⟩ : ∃ (X : Int32) (Y : mS), (X, Y) = mF_glancesIn_0 M25 x := ⟨_, _, rfl⟩
  refine mr_calli (r0 := x31) (M2 := M31) C hA G (by rw [hx31]; exact (k_glancesIn_0 zl D cI ad M25 x hV)) (cwV 2 C.2.2.2.2.1 gX9_glancesIn_X9_glancesIn rfl rfl rfl (by decide +kernel) ⟨Nat.le_of_ble_eq_true rfl, Nat.le_of_ble_eq_true rfl⟩) rfl hl.1 rfl (Nat.le_of_ble_eq_true rfl) dX9_glancesIn_31 ⟨Nat.le_refl _, Nat.le_refl _⟩ (fun H locs G => ?_)
  rw [lt2_e hx31] at hF
  have hV : vR M31 := by have h9 := vR_glancesIn_0 (x := x) hV; rw [← hx31] at h9; exact h9
  refine lv_ineg hx hb dX9_glancesIn_34 ?_
  exact hret _ _ _ _ _ _ hF G dX9_glancesIn_35
set_option maxRecDepth 100000 in
set_option maxHeartbeats 4000000 in
theorem k_glancesIn_4 (zl : Launch) (D : va_G) (cI : ClassId) (ad : Nat → Nat) (M : mS) (x : Int32) (hV : vR M) : mM zl D cI ad yX9_glancesIn wsX9_glancesIn ({ frames := 8, cells := 0, slots := 0, locals := 204 } : Room) [.int 4, .int x] M (mF_glancesIn_4 M x) := by
  have hin : ∀ w ∈ wsX90, w ∈ wsX9_glancesIn := fun w h => List.mem_cons_of_mem _ (List.mem_append_right _ h)
  refine mM_of (cc := cX9_glancesIn) (nL := 3) (by decide) rfl rfl (Nat.le_of_ble_eq_true rfl) ?_
  intro zp ze zs zm zg zb zt zc zA H0 zQ C hA hret H locs ls hl G
  have hx := C.1
  have hb := C.2.1
  have hl : lv_has ls 3 [(0, .ref (ad 0)), (1, .int 4), (2, .int x)] := hl
  obtain ⟨rM, hF⟩ : ∃ X : Int32 × mS, X = mF_glancesIn_4 M x := ⟨_, rfl⟩
  rw [← hF] at hret
  unfold mF_glancesIn_4 at hF
  refine lv_iload_n hx hb dX9_glancesIn_0 rfl (lv_at hl 1 rfl) ?_
  refine lv_if_ne (tgt := 17) hx hb dX9_glancesIn_1 (by decide) (fun c1 => ?_) (fun c1 => absurd c1 (by decide))
  refine lv_iload_n hx hb dX9_glancesIn_17 rfl (lv_at hl 1 rfl) ?_
  refine lv_iconst (v := 3) hx hb dX9_glancesIn_18 (by decide) ?_
  refine lv_icmp_ne (tgt := 36) hx hb dX9_glancesIn_19 (by decide) (fun c19 => ?_) (fun c19 => absurd c19 (by decide))
  refine lv_iload_n hx hb dX9_glancesIn_36 rfl (lv_at hl 1 rfl) ?_
  refine lv_bipush (v := 6) hx hb dX9_glancesIn_37 (by decide) ?_
  refine lv_icmp_ne (tgt := 60) hx hb dX9_glancesIn_39 (by decide) (fun c39 => ?_) (fun c39 => absurd c39 (by decide))
  refine lv_aload_n hx hb dX9_glancesIn_60 rfl (lv_at hl 0 rfl) ?_
  refine lv_iload_n hx hb dX9_glancesIn_61 rfl (lv_at hl 1 rfl) ?_
  refine mr_calls C hA G (ks_above zl 4) (va_cwS 1 C.2.2.2.2.1 gX9_glancesIn_X9_above rfl rfl rfl (by decide +kernel) ⟨Nat.le_of_ble_eq_true rfl, Nat.le_of_ble_eq_true rfl⟩) rfl hl.1 rfl (Nat.le_of_ble_eq_true rfl) dX9_glancesIn_62 ⟨Nat.le_refl _, Nat.le_refl _⟩ (fun H locs G => ?_)
  refine lv_iload_n hx hb dX9_glancesIn_65 rfl (lv_at hl 2 rfl) ?_
  obtain ⟨x66, M66, hx66⟩ : ∃ (X : Int32) (Y : mS), (X, Y) = mF_glancesIn_1 M x := ⟨_, _, rfl⟩
  refine mr_calli (r0 := x66) (M2 := M66) C hA G (by rw [hx66]; exact (k_glancesIn_1 zl D cI ad M x hV)) (cwV 2 C.2.2.2.2.1 gX9_glancesIn_X9_glancesIn rfl rfl rfl (by decide +kernel) ⟨Nat.le_of_ble_eq_true rfl, Nat.le_of_ble_eq_true rfl⟩) rfl hl.1 (cons_int rfl (cons_int (show (sF_above 4) = 1 by decide) rfl)) (Nat.le_of_ble_eq_true rfl) dX9_glancesIn_66 ⟨Nat.le_refl _, Nat.le_refl _⟩ (fun H locs G => ?_)
  rw [lt2_e hx66] at hF
  have hV : vR M66 := by have h9 := vR_glancesIn_1 (x := x) hV; rw [← hx66] at h9; exact h9
  exact hret _ _ _ _ _ _ hF G dX9_glancesIn_69
set_option maxRecDepth 100000 in
set_option maxHeartbeats 4000000 in
theorem k_glancesIn_5 (zl : Launch) (D : va_G) (cI : ClassId) (ad : Nat → Nat) (M : mS) (x : Int32) (hV : vR M) : mM zl D cI ad yX9_glancesIn wsX9_glancesIn ({ frames := 8, cells := 0, slots := 0, locals := 204 } : Room) [.int 5, .int x] M (mF_glancesIn_5 M x) := by
  have hin : ∀ w ∈ wsX90, w ∈ wsX9_glancesIn := fun w h => List.mem_cons_of_mem _ (List.mem_append_right _ h)
  refine mM_of (cc := cX9_glancesIn) (nL := 3) (by decide) rfl rfl (Nat.le_of_ble_eq_true rfl) ?_
  intro zp ze zs zm zg zb zt zc zA H0 zQ C hA hret H locs ls hl G
  have hx := C.1
  have hb := C.2.1
  have hl : lv_has ls 3 [(0, .ref (ad 0)), (1, .int 5), (2, .int x)] := hl
  obtain ⟨rM, hF⟩ : ∃ X : Int32 × mS, X = mF_glancesIn_5 M x := ⟨_, rfl⟩
  rw [← hF] at hret
  unfold mF_glancesIn_5 at hF
  refine lv_iload_n hx hb dX9_glancesIn_0 rfl (lv_at hl 1 rfl) ?_
  refine lv_if_ne (tgt := 17) hx hb dX9_glancesIn_1 (by decide) (fun c1 => ?_) (fun c1 => absurd c1 (by decide))
  refine lv_iload_n hx hb dX9_glancesIn_17 rfl (lv_at hl 1 rfl) ?_
  refine lv_iconst (v := 3) hx hb dX9_glancesIn_18 (by decide) ?_
  refine lv_icmp_ne (tgt := 36) hx hb dX9_glancesIn_19 (by decide) (fun c19 => ?_) (fun c19 => absurd c19 (by decide))
  refine lv_iload_n hx hb dX9_glancesIn_36 rfl (lv_at hl 1 rfl) ?_
  refine lv_bipush (v := 6) hx hb dX9_glancesIn_37 (by decide) ?_
  refine lv_icmp_ne (tgt := 60) hx hb dX9_glancesIn_39 (by decide) (fun c39 => ?_) (fun c39 => absurd c39 (by decide))
  refine lv_aload_n hx hb dX9_glancesIn_60 rfl (lv_at hl 0 rfl) ?_
  refine lv_iload_n hx hb dX9_glancesIn_61 rfl (lv_at hl 1 rfl) ?_
  refine mr_calls C hA G (ks_above zl 5) (va_cwS 1 C.2.2.2.2.1 gX9_glancesIn_X9_above rfl rfl rfl (by decide +kernel) ⟨Nat.le_of_ble_eq_true rfl, Nat.le_of_ble_eq_true rfl⟩) rfl hl.1 rfl (Nat.le_of_ble_eq_true rfl) dX9_glancesIn_62 ⟨Nat.le_refl _, Nat.le_refl _⟩ (fun H locs G => ?_)
  refine lv_iload_n hx hb dX9_glancesIn_65 rfl (lv_at hl 2 rfl) ?_
  obtain ⟨x66, M66, hx66⟩ : ∃ (X : Int32) (Y : mS), (X, Y) = mF_glancesIn_2 M x := ⟨_, _, rfl⟩
  refine mr_calli (r0 := x66) (M2 := M66) C hA G (by rw [hx66]; exact (k_glancesIn_2 zl D cI ad M x hV)) (cwV 2 C.2.2.2.2.1 gX9_glancesIn_X9_glancesIn rfl rfl rfl (by decide +kernel) ⟨Nat.le_of_ble_eq_true rfl, Nat.le_of_ble_eq_true rfl⟩) rfl hl.1 (cons_int rfl (cons_int (show (sF_above 5) = 2 by decide) rfl)) (Nat.le_of_ble_eq_true rfl) dX9_glancesIn_66 ⟨Nat.le_refl _, Nat.le_refl _⟩ (fun H locs G => ?_)
  rw [lt2_e hx66] at hF
  have hV : vR M66 := by have h9 := vR_glancesIn_2 (x := x) hV; rw [← hx66] at h9; exact h9
  exact hret _ _ _ _ _ _ hF G dX9_glancesIn_69
set_option maxRecDepth 100000 in
set_option maxHeartbeats 4000000 in
theorem k_glancesIn_6 (zl : Launch) (D : va_G) (cI : ClassId) (ad : Nat → Nat) (M : mS) (x : Int32) (hV : vR M) : mM zl D cI ad yX9_glancesIn wsX9_glancesIn ({ frames := 8, cells := 0, slots := 0, locals := 204 } : Room) [.int 6, .int x] M (mF_glancesIn_6 M x) := by
  have hin : ∀ w ∈ wsX90, w ∈ wsX9_glancesIn := fun w h => List.mem_cons_of_mem _ (List.mem_append_right _ h)
  refine mM_of (cc := cX9_glancesIn) (nL := 3) (by decide) rfl rfl (Nat.le_of_ble_eq_true rfl) ?_
  intro zp ze zs zm zg zb zt zc zA H0 zQ C hA hret H locs ls hl G
  have hx := C.1
  have hb := C.2.1
  have hl : lv_has ls 3 [(0, .ref (ad 0)), (1, .int 6), (2, .int x)] := hl
  obtain ⟨rM, hF⟩ : ∃ X : Int32 × mS, X = mF_glancesIn_6 M x := ⟨_, rfl⟩
  rw [← hF] at hret
  unfold mF_glancesIn_6 at hF
  refine lv_iload_n hx hb dX9_glancesIn_0 rfl (lv_at hl 1 rfl) ?_
  refine lv_if_ne (tgt := 17) hx hb dX9_glancesIn_1 (by decide) (fun c1 => ?_) (fun c1 => absurd c1 (by decide))
  refine lv_iload_n hx hb dX9_glancesIn_17 rfl (lv_at hl 1 rfl) ?_
  refine lv_iconst (v := 3) hx hb dX9_glancesIn_18 (by decide) ?_
  refine lv_icmp_ne (tgt := 36) hx hb dX9_glancesIn_19 (by decide) (fun c19 => ?_) (fun c19 => absurd c19 (by decide))
  refine lv_iload_n hx hb dX9_glancesIn_36 rfl (lv_at hl 1 rfl) ?_
  refine lv_bipush (v := 6) hx hb dX9_glancesIn_37 (by decide) ?_
  refine lv_icmp_ne (tgt := 60) hx hb dX9_glancesIn_39 (by decide) (fun c39 => absurd (by decide) c39) (fun c39 => ?_)
  refine lv_aload_n hx hb dX9_glancesIn_42 rfl (lv_at hl 0 rfl) ?_
  refine lv_bipush (v := 70) hx hb dX9_glancesIn_43 (by decide) ?_
  refine mr_callv C hA G (k_ran zl D cI ad M 70 hV.1) (cwV 1 C.2.2.2.2.1 gX9_glancesIn_X9_ran rfl rfl rfl (by decide +kernel) ⟨Nat.le_of_ble_eq_true rfl, Nat.le_of_ble_eq_true rfl⟩) rfl hl.1 rfl (Nat.le_of_ble_eq_true rfl) dX9_glancesIn_45 ⟨Nat.le_refl _, Nat.le_refl _⟩ (fun H locs G => ?_)
  obtain ⟨M45, hM45⟩ : ∃ X : mS, X = mF_ran M 70 := ⟨_, rfl⟩
  rw [← hM45] at G
  rw [lt_e hM45] at hF
  have hV : vR M45 := by rw [hM45]; exact ran_vR hV
  refine lv_aload_n hx hb dX9_glancesIn_48 rfl (lv_at hl 0 rfl) ?_
  refine lv_iconst (v := 3) hx hb dX9_glancesIn_49 (by decide) ?_
  refine lv_iload_n hx hb dX9_glancesIn_50 rfl (lv_at hl 2 rfl) ?_
  obtain ⟨x51, M51, hx51⟩ : ∃ (X : Int32) (Y : mS), (X, Y) = mF_glancesIn_3 M45 x := ⟨_, _, rfl⟩
  refine mr_calli (r0 := x51) (M2 := M51) C hA G (by rw [hx51]; exact (k_glancesIn_3 zl D cI ad M45 x hV)) (cwV 2 C.2.2.2.2.1 gX9_glancesIn_X9_glancesIn rfl rfl rfl (by decide +kernel) ⟨Nat.le_of_ble_eq_true rfl, Nat.le_of_ble_eq_true rfl⟩) rfl hl.1 rfl (Nat.le_of_ble_eq_true rfl) dX9_glancesIn_51 ⟨Nat.le_refl _, Nat.le_refl _⟩ (fun H locs G => ?_)
  rw [lt2_e hx51] at hF
  have hV : vR M51 := by have h9 := vR_glancesIn_3 (x := x) hV; rw [← hx51] at h9; exact h9
  refine lv_aload_n hx hb dX9_glancesIn_54 rfl (lv_at hl 0 rfl) ?_
  refine mr_get C G hin 26 (by decide) rfl (show Cond.fieldLink RX9 240 "WheatCountsModel" "voiceN" "I" ∈ _ by decide +kernel) (fun _ => rfl) dX9_glancesIn_55 ?_
  refine lv_ixor hx hb dX9_glancesIn_58 ?_
  exact hret _ _ _ _ _ _ hF G dX9_glancesIn_59
theorem k_glancesIn (zl : Launch) (D : va_G) (cI : ClassId) (ad : Nat → Nat) (M : mS) (kind x : Int32) (hk : ∃ j, j ≤ 6 ∧ kind = nI j) (hV : vR M) : mM zl D cI ad yX9_glancesIn wsX9_glancesIn ({ frames := 8, cells := 0, slots := 0, locals := 204 } : Room) [.int kind, .int x] M (mF_glancesIn M kind x) := by
  obtain ⟨j, hj, rfl⟩ := hk
  rcases (show j = 0 ∨ j = 1 ∨ j = 2 ∨ j = 3 ∨ j = 4 ∨ j = 5 ∨ j = 6 by omega) with rfl | rfl | rfl | rfl | rfl | rfl | rfl
  · rw [mF_glancesIn_at0, show nI 0 = 0 by decide]; exact mM_room (by decide) (by decide) (by rfl) (by rfl) (k_glancesIn_0 zl D cI ad M x hV)
  · rw [mF_glancesIn_at1, show nI 1 = 1 by decide]; exact mM_room (by decide) (by decide) (by rfl) (by rfl) (k_glancesIn_1 zl D cI ad M x hV)
  · rw [mF_glancesIn_at2, show nI 2 = 2 by decide]; exact mM_room (by decide) (by decide) (by rfl) (by rfl) (k_glancesIn_2 zl D cI ad M x hV)
  · rw [mF_glancesIn_at3, show nI 3 = 3 by decide]; exact mM_room (by decide) (by decide) (by rfl) (by rfl) (k_glancesIn_3 zl D cI ad M x hV)
  · rw [mF_glancesIn_at4, show nI 4 = 4 by decide]; exact mM_room (by decide) (by decide) (by rfl) (by rfl) (k_glancesIn_4 zl D cI ad M x hV)
  · rw [mF_glancesIn_at5, show nI 5 = 5 by decide]; exact mM_room (by decide) (by decide) (by rfl) (by rfl) (k_glancesIn_5 zl D cI ad M x hV)
  · rw [mF_glancesIn_at6, show nI 6 = 6 by decide]; exact mM_room (by decide) (by decide) (by rfl) (by rfl) (k_glancesIn_6 zl D cI ad M x hV)
set_option maxRecDepth 100000 in
set_option maxHeartbeats 4000000 in
theorem k_addsIn_0 (zl : Launch) (D : va_G) (cI : ClassId) (ad : Nat → Nat) (M : mS) (x : Int32) (hV : vR M) : mM zl D cI ad yX9_addsIn wsX9_addsIn ({ frames := 12, cells := 0, slots := 0, locals := 360 } : Room) [.int 0, .int x] M (mF_addsIn_0 M x) := by
  have hin : ∀ w ∈ wsX90, w ∈ wsX9_addsIn := fun w h => List.mem_cons_of_mem _ (List.mem_append_right _ h)
  refine mM_of (cc := cX9_addsIn) (nL := 4) (by decide) rfl rfl (Nat.le_of_ble_eq_true rfl) ?_
  intro zp ze zs zm zg zb zt zc zA H0 zQ C hA hret H locs ls hl G
  have hx := C.1
  have hb := C.2.1
  have hl : lv_has ls 4 [(0, .ref (ad 0)), (1, .int 0), (2, .int x)] := hl
  obtain ⟨rM, hF⟩ : ∃ X : Int32 × mS, X = mF_addsIn_0 M x := ⟨_, rfl⟩
  rw [← hF] at hret
  unfold mF_addsIn_0 at hF
  refine lv_iload_n hx hb dX9_addsIn_0 rfl (lv_at hl 1 rfl) ?_
  refine lv_if_ne (tgt := 22) hx hb dX9_addsIn_1 (by decide) (fun c1 => absurd (by decide) c1) (fun c1 => ?_)
  refine lv_aload_n hx hb dX9_addsIn_4 rfl (lv_at hl 0 rfl) ?_
  refine lv_bipush (v := 11) hx hb dX9_addsIn_5 (by decide) ?_
  refine mr_callv C hA G (k_ran zl D cI ad M 11 hV.1) (cwV 1 C.2.2.2.2.1 gX9_addsIn_X9_ran rfl rfl rfl (by decide +kernel) ⟨Nat.le_of_ble_eq_true rfl, Nat.le_of_ble_eq_true rfl⟩) rfl hl.1 rfl (Nat.le_of_ble_eq_true rfl) dX9_addsIn_7 ⟨Nat.le_refl _, Nat.le_refl _⟩ (fun H locs G => ?_)
  obtain ⟨M7, hM7⟩ : ∃ X : mS, X = mF_ran M 11 := ⟨_, rfl⟩
  rw [← hM7] at G
  rw [lt_e hM7] at hF
  have hV : vR M7 := by rw [hM7]; exact ran_vR hV
  refine lv_aload_n hx hb dX9_addsIn_10 rfl (lv_at hl 0 rfl) ?_
  refine lv_aload_n hx hb dX9_addsIn_11 rfl (lv_at hl 0 rfl) ?_
  refine mr_get C G hin 25 (by decide) rfl (show Cond.fieldLink RX9 252 "WheatCountsModel" "voiceKind" "I" ∈ _ by decide +kernel) (fun _ => rfl) dX9_addsIn_12 ?_
  refine lv_iload_n hx hb dX9_addsIn_15 rfl (lv_at hl 2 rfl) ?_
  obtain ⟨x16, M16, hx16⟩ : ∃ (X : Int32) (Y : mS), (X, Y) = mF_looksIn M7 (M7 0 25) x := ⟨_, _, rfl⟩
  refine mr_calli (r0 := x16) (M2 := M16) C hA G (by rw [hx16]; exact (k_looksIn zl D cI ad M7 (M7 0 25) x hV.2 hV)) (cwV 2 C.2.2.2.2.1 gX9_addsIn_X9_looksIn rfl rfl rfl (by decide +kernel) ⟨Nat.le_of_ble_eq_true rfl, Nat.le_of_ble_eq_true rfl⟩) rfl hl.1 rfl (Nat.le_of_ble_eq_true rfl) dX9_addsIn_16 ⟨Nat.le_refl _, Nat.le_refl _⟩ (fun H locs G => ?_)
  rw [lt2_e hx16] at hF
  have hV : vR M16 := by have h9 := vR_looksIn (kind := (M7 0 25)) (x := x) hV; rw [← hx16] at h9; exact h9
  refine lv_iconst (v := 2) hx hb dX9_addsIn_19 (by decide) ?_
  refine lv_imul hx hb dX9_addsIn_20 ?_
  exact hret _ _ _ _ _ _ hF G dX9_addsIn_21
set_option maxRecDepth 100000 in
set_option maxHeartbeats 4000000 in
theorem k_addsIn_1 (zl : Launch) (D : va_G) (cI : ClassId) (ad : Nat → Nat) (M : mS) (x : Int32) (hV : vR M) : mM zl D cI ad yX9_addsIn wsX9_addsIn ({ frames := 13, cells := 0, slots := 0, locals := 383 } : Room) [.int 1, .int x] M (mF_addsIn_1 M x) := by
  have hin : ∀ w ∈ wsX90, w ∈ wsX9_addsIn := fun w h => List.mem_cons_of_mem _ (List.mem_append_right _ h)
  refine mM_of (cc := cX9_addsIn) (nL := 4) (by decide) rfl rfl (Nat.le_of_ble_eq_true rfl) ?_
  intro zp ze zs zm zg zb zt zc zA H0 zQ C hA hret H locs ls hl G
  have hx := C.1
  have hb := C.2.1
  have hl : lv_has ls 4 [(0, .ref (ad 0)), (1, .int 1), (2, .int x)] := hl
  obtain ⟨rM, hF⟩ : ∃ X : Int32 × mS, X = mF_addsIn_1 M x := ⟨_, rfl⟩
  rw [← hF] at hret
  unfold mF_addsIn_1 at hF
  refine lv_iload_n hx hb dX9_addsIn_0 rfl (lv_at hl 1 rfl) ?_
  refine lv_if_ne (tgt := 22) hx hb dX9_addsIn_1 (by decide) (fun c1 => ?_) (fun c1 => absurd c1 (by decide))
  refine lv_iload_n hx hb dX9_addsIn_22 rfl (lv_at hl 1 rfl) ?_
  refine lv_iconst (v := 2) hx hb dX9_addsIn_23 (by decide) ?_
  refine lv_icmp_ne (tgt := 52) hx hb dX9_addsIn_24 (by decide) (fun c24 => ?_) (fun c24 => absurd c24 (by decide))
  refine lv_iload_n hx hb dX9_addsIn_52 rfl (lv_at hl 1 rfl) ?_
  refine lv_iconst (v := 5) hx hb dX9_addsIn_53 (by decide) ?_
  refine lv_icmp_ne (tgt := 72) hx hb dX9_addsIn_54 (by decide) (fun c54 => ?_) (fun c54 => absurd c54 (by decide))
  refine lv_aload_n hx hb dX9_addsIn_72 rfl (lv_at hl 0 rfl) ?_
  refine lv_iload_n hx hb dX9_addsIn_73 rfl (lv_at hl 1 rfl) ?_
  refine mr_calls C hA G (ks_above zl 1) (va_cwS 1 C.2.2.2.2.1 gX9_addsIn_X9_above rfl rfl rfl (by decide +kernel) ⟨Nat.le_of_ble_eq_true rfl, Nat.le_of_ble_eq_true rfl⟩) rfl hl.1 rfl (Nat.le_of_ble_eq_true rfl) dX9_addsIn_74 ⟨Nat.le_refl _, Nat.le_refl _⟩ (fun H locs G => ?_)
  refine lv_iload_n hx hb dX9_addsIn_77 rfl (lv_at hl 2 rfl) ?_
  obtain ⟨x78, M78, hx78⟩ : ∃ (X : Int32) (Y : mS), (X, Y) = mF_addsIn_0 M x := ⟨_, _, rfl⟩
  refine mr_calli (r0 := x78) (M2 := M78) C hA G (by rw [hx78]; exact (k_addsIn_0 zl D cI ad M x hV)) (cwV 2 C.2.2.2.2.1 gX9_addsIn_X9_addsIn rfl rfl rfl (by decide +kernel) ⟨Nat.le_of_ble_eq_true rfl, Nat.le_of_ble_eq_true rfl⟩) rfl hl.1 (cons_int rfl (cons_int (show (sF_above 1) = 0 by decide) rfl)) (Nat.le_of_ble_eq_true rfl) dX9_addsIn_78 ⟨Nat.le_refl _, Nat.le_refl _⟩ (fun H locs G => ?_)
  rw [lt2_e hx78] at hF
  have hV : vR M78 := by have h9 := vR_addsIn_0 (x := x) hV; rw [← hx78] at h9; exact h9
  exact hret _ _ _ _ _ _ hF G dX9_addsIn_81
set_option maxRecDepth 100000 in
set_option maxHeartbeats 4000000 in
theorem k_addsIn_2 (zl : Launch) (D : va_G) (cI : ClassId) (ad : Nat → Nat) (M : mS) (x : Int32) (hV : vR M) : mM zl D cI ad yX9_addsIn wsX9_addsIn ({ frames := 13, cells := 0, slots := 0, locals := 383 } : Room) [.int 2, .int x] M (mF_addsIn_2 M x) := by
  have hin : ∀ w ∈ wsX90, w ∈ wsX9_addsIn := fun w h => List.mem_cons_of_mem _ (List.mem_append_right _ h)
  refine mM_of (cc := cX9_addsIn) (nL := 4) (by decide) rfl rfl (Nat.le_of_ble_eq_true rfl) ?_
  intro zp ze zs zm zg zb zt zc zA H0 zQ C hA hret H locs ls hl G
  have hx := C.1
  have hb := C.2.1
  have hl : lv_has ls 4 [(0, .ref (ad 0)), (1, .int 2), (2, .int x)] := hl
  obtain ⟨rM, hF⟩ : ∃ X : Int32 × mS, X = mF_addsIn_2 M x := ⟨_, rfl⟩
  rw [← hF] at hret
  unfold mF_addsIn_2 at hF
  refine lv_iload_n hx hb dX9_addsIn_0 rfl (lv_at hl 1 rfl) ?_
  refine lv_if_ne (tgt := 22) hx hb dX9_addsIn_1 (by decide) (fun c1 => ?_) (fun c1 => absurd c1 (by decide))
  refine lv_iload_n hx hb dX9_addsIn_22 rfl (lv_at hl 1 rfl) ?_
  refine lv_iconst (v := 2) hx hb dX9_addsIn_23 (by decide) ?_
  refine lv_icmp_ne (tgt := 52) hx hb dX9_addsIn_24 (by decide) (fun c24 => absurd (by decide) c24) (fun c24 => ?_)
  refine lv_aload_n hx hb dX9_addsIn_27 rfl (lv_at hl 0 rfl) ?_
  refine lv_bipush (v := 30) hx hb dX9_addsIn_28 (by decide) ?_
  refine mr_callv C hA G (k_ran zl D cI ad M 30 hV.1) (cwV 1 C.2.2.2.2.1 gX9_addsIn_X9_ran rfl rfl rfl (by decide +kernel) ⟨Nat.le_of_ble_eq_true rfl, Nat.le_of_ble_eq_true rfl⟩) rfl hl.1 rfl (Nat.le_of_ble_eq_true rfl) dX9_addsIn_30 ⟨Nat.le_refl _, Nat.le_refl _⟩ (fun H locs G => ?_)
  obtain ⟨M30, hM30⟩ : ∃ X : mS, X = mF_ran M 30 := ⟨_, rfl⟩
  rw [← hM30] at G
  rw [lt_e hM30] at hF
  have hV : vR M30 := by rw [hM30]; exact ran_vR hV
  refine lv_aload_n hx hb dX9_addsIn_33 rfl (lv_at hl 0 rfl) ?_
  refine lv_iconst (v := 0) hx hb dX9_addsIn_34 (by decide) ?_
  refine lv_iload_n hx hb dX9_addsIn_35 rfl (lv_at hl 2 rfl) ?_
  obtain ⟨x36, M36, hx36⟩ : ∃ (X : Int32) (Y : mS), (X, Y) = mF_addsIn_0 M30 x := ⟨_, _, rfl⟩
  refine mr_calli (r0 := x36) (M2 := M36) C hA G (by rw [hx36]; exact (k_addsIn_0 zl D cI ad M30 x hV)) (cwV 2 C.2.2.2.2.1 gX9_addsIn_X9_addsIn rfl rfl rfl (by decide +kernel) ⟨Nat.le_of_ble_eq_true rfl, Nat.le_of_ble_eq_true rfl⟩) rfl hl.1 rfl (Nat.le_of_ble_eq_true rfl) dX9_addsIn_36 ⟨Nat.le_refl _, Nat.le_refl _⟩ (fun H locs G => ?_)
  rw [lt2_e hx36] at hF
  have hV : vR M36 := by have h9 := vR_addsIn_0 (x := x) hV; rw [← hx36] at h9; exact h9
  refine lv_istore_n (lv' := [(3, .int x36), (0, .ref (ad 0)), (1, .int 2), (2, .int x)]) hx hb dX9_addsIn_39 rfl hl (by decide) rfl (fun ls hl => ?_)
  refine lv_iload_n hx hb dX9_addsIn_40 rfl (lv_at hl 0 rfl) ?_
  refine lv_aload_n hx hb dX9_addsIn_41 rfl (lv_at hl 1 rfl) ?_
  refine lv_aload_n hx hb dX9_addsIn_42 rfl (lv_at hl 1 rfl) ?_
  refine mr_get C G hin 25 (by decide) rfl (show Cond.fieldLink RX9 252 "WheatCountsModel" "voiceKind" "I" ∈ _ by decide +kernel) (fun _ => rfl) dX9_addsIn_43 ?_
  refine lv_iconst (v := 1) hx hb dX9_addsIn_46 (by decide) ?_
  obtain ⟨x47, M47, hx47⟩ : ∃ (X : Int32) (Y : mS), (X, Y) = mF_glancesIn M36 (M36 0 25) 1 := ⟨_, _, rfl⟩
  refine mr_calli (r0 := x47) (M2 := M47) C hA G (by rw [hx47]; exact (k_glancesIn zl D cI ad M36 (M36 0 25) 1 hV.2 hV)) (cwV 2 C.2.2.2.2.1 gX9_addsIn_X9_glancesIn rfl rfl rfl (by decide +kernel) ⟨Nat.le_of_ble_eq_true rfl, Nat.le_of_ble_eq_true rfl⟩) rfl hl.1 rfl (Nat.le_of_ble_eq_true rfl) dX9_addsIn_47 ⟨Nat.le_refl _, Nat.le_refl _⟩ (fun H locs G => ?_)
  rw [lt2_e hx47] at hF
  have hV : vR M47 := by have h9 := vR_glancesIn (kind := (M36 0 25)) (x := 1) hV; rw [← hx47] at h9; exact h9
  refine lv_isub hx hb dX9_addsIn_50 ?_
  exact hret _ _ _ _ _ _ hF G dX9_addsIn_51
set_option maxRecDepth 100000 in
set_option maxHeartbeats 4000000 in
theorem k_addsIn_3 (zl : Launch) (D : va_G) (cI : ClassId) (ad : Nat → Nat) (M : mS) (x : Int32) (hV : vR M) : mM zl D cI ad yX9_addsIn wsX9_addsIn ({ frames := 13, cells := 0, slots := 0, locals := 383 } : Room) [.int 3, .int x] M (mF_addsIn_3 M x) := by
  have hin : ∀ w ∈ wsX90, w ∈ wsX9_addsIn := fun w h => List.mem_cons_of_mem _ (List.mem_append_right _ h)
  refine mM_of (cc := cX9_addsIn) (nL := 4) (by decide) rfl rfl (Nat.le_of_ble_eq_true rfl) ?_
  intro zp ze zs zm zg zb zt zc zA H0 zQ C hA hret H locs ls hl G
  have hx := C.1
  have hb := C.2.1
  have hl : lv_has ls 4 [(0, .ref (ad 0)), (1, .int 3), (2, .int x)] := hl
  obtain ⟨rM, hF⟩ : ∃ X : Int32 × mS, X = mF_addsIn_3 M x := ⟨_, rfl⟩
  rw [← hF] at hret
  unfold mF_addsIn_3 at hF
  refine lv_iload_n hx hb dX9_addsIn_0 rfl (lv_at hl 1 rfl) ?_
  refine lv_if_ne (tgt := 22) hx hb dX9_addsIn_1 (by decide) (fun c1 => ?_) (fun c1 => absurd c1 (by decide))
  refine lv_iload_n hx hb dX9_addsIn_22 rfl (lv_at hl 1 rfl) ?_
  refine lv_iconst (v := 2) hx hb dX9_addsIn_23 (by decide) ?_
  refine lv_icmp_ne (tgt := 52) hx hb dX9_addsIn_24 (by decide) (fun c24 => ?_) (fun c24 => absurd c24 (by decide))
  refine lv_iload_n hx hb dX9_addsIn_52 rfl (lv_at hl 1 rfl) ?_
  refine lv_iconst (v := 5) hx hb dX9_addsIn_53 (by decide) ?_
  refine lv_icmp_ne (tgt := 72) hx hb dX9_addsIn_54 (by decide) (fun c54 => ?_) (fun c54 => absurd c54 (by decide))
  refine lv_aload_n hx hb dX9_addsIn_72 rfl (lv_at hl 0 rfl) ?_
  refine lv_iload_n hx hb dX9_addsIn_73 rfl (lv_at hl 1 rfl) ?_
  refine mr_calls C hA G (ks_above zl 3) (va_cwS 1 C.2.2.2.2.1 gX9_addsIn_X9_above rfl rfl rfl (by decide +kernel) ⟨Nat.le_of_ble_eq_true rfl, Nat.le_of_ble_eq_true rfl⟩) rfl hl.1 rfl (Nat.le_of_ble_eq_true rfl) dX9_addsIn_74 ⟨Nat.le_refl _, Nat.le_refl _⟩ (fun H locs G => ?_)
  refine lv_iload_n hx hb dX9_addsIn_77 rfl (lv_at hl 2 rfl) ?_
  obtain ⟨x78, M78, hx78⟩ : ∃ (X : Int32) (Y : mS), (X, Y) = mF_addsIn_0 M x := ⟨_, _, rfl⟩
  refine mr_calli (r0 := x78) (M2 := M78) C hA G (by rw [hx78]; exact (k_addsIn_0 zl D cI ad M x hV)) (cwV 2 C.2.2.2.2.1 gX9_addsIn_X9_addsIn rfl rfl rfl (by decide +kernel) ⟨Nat.le_of_ble_eq_true rfl, Nat.le_of_ble_eq_true rfl⟩) rfl hl.1 (cons_int rfl (cons_int (show (sF_above 3) = 0 by decide) rfl)) (Nat.le_of_ble_eq_true rfl) dX9_addsIn_78 ⟨Nat.le_refl _, Nat.le_refl _⟩ (fun H locs G => ?_)
  rw [lt2_e hx78] at hF
  have hV : vR M78 := by have h9 := vR_addsIn_0 (x := x) hV; rw [← hx78] at h9; exact h9
  exact hret _ _ _ _ _ _ hF G dX9_addsIn_81
set_option maxRecDepth 100000 in
set_option maxHeartbeats 4000000 in
theorem k_addsIn_4 (zl : Launch) (D : va_G) (cI : ClassId) (ad : Nat → Nat) (M : mS) (x : Int32) (hV : vR M) : mM zl D cI ad yX9_addsIn wsX9_addsIn ({ frames := 14, cells := 0, slots := 0, locals := 406 } : Room) [.int 4, .int x] M (mF_addsIn_4 M x) := by
  have hin : ∀ w ∈ wsX90, w ∈ wsX9_addsIn := fun w h => List.mem_cons_of_mem _ (List.mem_append_right _ h)
  refine mM_of (cc := cX9_addsIn) (nL := 4) (by decide) rfl rfl (Nat.le_of_ble_eq_true rfl) ?_
  intro zp ze zs zm zg zb zt zc zA H0 zQ C hA hret H locs ls hl G
  have hx := C.1
  have hb := C.2.1
  have hl : lv_has ls 4 [(0, .ref (ad 0)), (1, .int 4), (2, .int x)] := hl
  obtain ⟨rM, hF⟩ : ∃ X : Int32 × mS, X = mF_addsIn_4 M x := ⟨_, rfl⟩
  rw [← hF] at hret
  unfold mF_addsIn_4 at hF
  refine lv_iload_n hx hb dX9_addsIn_0 rfl (lv_at hl 1 rfl) ?_
  refine lv_if_ne (tgt := 22) hx hb dX9_addsIn_1 (by decide) (fun c1 => ?_) (fun c1 => absurd c1 (by decide))
  refine lv_iload_n hx hb dX9_addsIn_22 rfl (lv_at hl 1 rfl) ?_
  refine lv_iconst (v := 2) hx hb dX9_addsIn_23 (by decide) ?_
  refine lv_icmp_ne (tgt := 52) hx hb dX9_addsIn_24 (by decide) (fun c24 => ?_) (fun c24 => absurd c24 (by decide))
  refine lv_iload_n hx hb dX9_addsIn_52 rfl (lv_at hl 1 rfl) ?_
  refine lv_iconst (v := 5) hx hb dX9_addsIn_53 (by decide) ?_
  refine lv_icmp_ne (tgt := 72) hx hb dX9_addsIn_54 (by decide) (fun c54 => ?_) (fun c54 => absurd c54 (by decide))
  refine lv_aload_n hx hb dX9_addsIn_72 rfl (lv_at hl 0 rfl) ?_
  refine lv_iload_n hx hb dX9_addsIn_73 rfl (lv_at hl 1 rfl) ?_
  refine mr_calls C hA G (ks_above zl 4) (va_cwS 1 C.2.2.2.2.1 gX9_addsIn_X9_above rfl rfl rfl (by decide +kernel) ⟨Nat.le_of_ble_eq_true rfl, Nat.le_of_ble_eq_true rfl⟩) rfl hl.1 rfl (Nat.le_of_ble_eq_true rfl) dX9_addsIn_74 ⟨Nat.le_refl _, Nat.le_refl _⟩ (fun H locs G => ?_)
  refine lv_iload_n hx hb dX9_addsIn_77 rfl (lv_at hl 2 rfl) ?_
  obtain ⟨x78, M78, hx78⟩ : ∃ (X : Int32) (Y : mS), (X, Y) = mF_addsIn_1 M x := ⟨_, _, rfl⟩
  refine mr_calli (r0 := x78) (M2 := M78) C hA G (by rw [hx78]; exact (k_addsIn_1 zl D cI ad M x hV)) (cwV 2 C.2.2.2.2.1 gX9_addsIn_X9_addsIn rfl rfl rfl (by decide +kernel) ⟨Nat.le_of_ble_eq_true rfl, Nat.le_of_ble_eq_true rfl⟩) rfl hl.1 (cons_int rfl (cons_int (show (sF_above 4) = 1 by decide) rfl)) (Nat.le_of_ble_eq_true rfl) dX9_addsIn_78 ⟨Nat.le_refl _, Nat.le_refl _⟩ (fun H locs G => ?_)
  rw [lt2_e hx78] at hF
  have hV : vR M78 := by have h9 := vR_addsIn_1 (x := x) hV; rw [← hx78] at h9; exact h9
  exact hret _ _ _ _ _ _ hF G dX9_addsIn_81
set_option maxRecDepth 100000 in
set_option maxHeartbeats 4000000 in
theorem k_addsIn_5 (zl : Launch) (D : va_G) (cI : ClassId) (ad : Nat → Nat) (M : mS) (x : Int32) (hV : vR M) : mM zl D cI ad yX9_addsIn wsX9_addsIn ({ frames := 14, cells := 0, slots := 0, locals := 406 } : Room) [.int 5, .int x] M (mF_addsIn_5 M x) := by
  have hin : ∀ w ∈ wsX90, w ∈ wsX9_addsIn := fun w h => List.mem_cons_of_mem _ (List.mem_append_right _ h)
  refine mM_of (cc := cX9_addsIn) (nL := 4) (by decide) rfl rfl (Nat.le_of_ble_eq_true rfl) ?_
  intro zp ze zs zm zg zb zt zc zA H0 zQ C hA hret H locs ls hl G
  have hx := C.1
  have hb := C.2.1
  have hl : lv_has ls 4 [(0, .ref (ad 0)), (1, .int 5), (2, .int x)] := hl
  obtain ⟨rM, hF⟩ : ∃ X : Int32 × mS, X = mF_addsIn_5 M x := ⟨_, rfl⟩
  rw [← hF] at hret
  unfold mF_addsIn_5 at hF
  refine lv_iload_n hx hb dX9_addsIn_0 rfl (lv_at hl 1 rfl) ?_
  refine lv_if_ne (tgt := 22) hx hb dX9_addsIn_1 (by decide) (fun c1 => ?_) (fun c1 => absurd c1 (by decide))
  refine lv_iload_n hx hb dX9_addsIn_22 rfl (lv_at hl 1 rfl) ?_
  refine lv_iconst (v := 2) hx hb dX9_addsIn_23 (by decide) ?_
  refine lv_icmp_ne (tgt := 52) hx hb dX9_addsIn_24 (by decide) (fun c24 => ?_) (fun c24 => absurd c24 (by decide))
  refine lv_iload_n hx hb dX9_addsIn_52 rfl (lv_at hl 1 rfl) ?_
  refine lv_iconst (v := 5) hx hb dX9_addsIn_53 (by decide) ?_
  refine lv_icmp_ne (tgt := 72) hx hb dX9_addsIn_54 (by decide) (fun c54 => absurd (by decide) c54) (fun c54 => ?_)
  refine lv_aload_n hx hb dX9_addsIn_57 rfl (lv_at hl 0 rfl) ?_
  refine lv_bipush (v := 60) hx hb dX9_addsIn_58 (by decide) ?_
  refine mr_callv C hA G (k_ran zl D cI ad M 60 hV.1) (cwV 1 C.2.2.2.2.1 gX9_addsIn_X9_ran rfl rfl rfl (by decide +kernel) ⟨Nat.le_of_ble_eq_true rfl, Nat.le_of_ble_eq_true rfl⟩) rfl hl.1 rfl (Nat.le_of_ble_eq_true rfl) dX9_addsIn_60 ⟨Nat.le_refl _, Nat.le_refl _⟩ (fun H locs G => ?_)
  obtain ⟨M60, hM60⟩ : ∃ X : mS, X = mF_ran M 60 := ⟨_, rfl⟩
  rw [← hM60] at G
  rw [lt_e hM60] at hF
  have hV : vR M60 := by rw [hM60]; exact ran_vR hV
  refine lv_aload_n hx hb dX9_addsIn_63 rfl (lv_at hl 0 rfl) ?_
  refine lv_iconst (v := 2) hx hb dX9_addsIn_64 (by decide) ?_
  refine lv_iload_n hx hb dX9_addsIn_65 rfl (lv_at hl 2 rfl) ?_
  refine lv_iconst (v := 1) hx hb dX9_addsIn_66 (by decide) ?_
  refine lv_iadd hx hb dX9_addsIn_67 ?_
  obtain ⟨x68, M68, hx68⟩ : ∃ (X : Int32) (Y : mS), (X, Y) = mF_addsIn_2 M60 (x + 1) := ⟨_, _, rfl⟩
  refine mr_calli (r0 := x68) (M2 := M68) C hA G (by rw [hx68]; exact (k_addsIn_2 zl D cI ad M60 (x + 1) hV)) (cwV 2 C.2.2.2.2.1 gX9_addsIn_X9_addsIn rfl rfl rfl (by decide +kernel) ⟨Nat.le_of_ble_eq_true rfl, Nat.le_of_ble_eq_true rfl⟩) rfl hl.1 rfl (Nat.le_of_ble_eq_true rfl) dX9_addsIn_68 ⟨Nat.le_refl _, Nat.le_refl _⟩ (fun H locs G => ?_)
  rw [lt2_e hx68] at hF
  have hV : vR M68 := by have h9 := vR_addsIn_2 (x := (x + 1)) hV; rw [← hx68] at h9; exact h9
  exact hret _ _ _ _ _ _ hF G dX9_addsIn_71
set_option maxRecDepth 100000 in
set_option maxHeartbeats 4000000 in
theorem k_addsIn_6 (zl : Launch) (D : va_G) (cI : ClassId) (ad : Nat → Nat) (M : mS) (x : Int32) (hV : vR M) : mM zl D cI ad yX9_addsIn wsX9_addsIn ({ frames := 14, cells := 0, slots := 0, locals := 406 } : Room) [.int 6, .int x] M (mF_addsIn_6 M x) := by
  have hin : ∀ w ∈ wsX90, w ∈ wsX9_addsIn := fun w h => List.mem_cons_of_mem _ (List.mem_append_right _ h)
  refine mM_of (cc := cX9_addsIn) (nL := 4) (by decide) rfl rfl (Nat.le_of_ble_eq_true rfl) ?_
  intro zp ze zs zm zg zb zt zc zA H0 zQ C hA hret H locs ls hl G
  have hx := C.1
  have hb := C.2.1
  have hl : lv_has ls 4 [(0, .ref (ad 0)), (1, .int 6), (2, .int x)] := hl
  obtain ⟨rM, hF⟩ : ∃ X : Int32 × mS, X = mF_addsIn_6 M x := ⟨_, rfl⟩
  rw [← hF] at hret
  unfold mF_addsIn_6 at hF
  refine lv_iload_n hx hb dX9_addsIn_0 rfl (lv_at hl 1 rfl) ?_
  refine lv_if_ne (tgt := 22) hx hb dX9_addsIn_1 (by decide) (fun c1 => ?_) (fun c1 => absurd c1 (by decide))
  refine lv_iload_n hx hb dX9_addsIn_22 rfl (lv_at hl 1 rfl) ?_
  refine lv_iconst (v := 2) hx hb dX9_addsIn_23 (by decide) ?_
  refine lv_icmp_ne (tgt := 52) hx hb dX9_addsIn_24 (by decide) (fun c24 => ?_) (fun c24 => absurd c24 (by decide))
  refine lv_iload_n hx hb dX9_addsIn_52 rfl (lv_at hl 1 rfl) ?_
  refine lv_iconst (v := 5) hx hb dX9_addsIn_53 (by decide) ?_
  refine lv_icmp_ne (tgt := 72) hx hb dX9_addsIn_54 (by decide) (fun c54 => ?_) (fun c54 => absurd c54 (by decide))
  refine lv_aload_n hx hb dX9_addsIn_72 rfl (lv_at hl 0 rfl) ?_
  refine lv_iload_n hx hb dX9_addsIn_73 rfl (lv_at hl 1 rfl) ?_
  refine mr_calls C hA G (ks_above zl 6) (va_cwS 1 C.2.2.2.2.1 gX9_addsIn_X9_above rfl rfl rfl (by decide +kernel) ⟨Nat.le_of_ble_eq_true rfl, Nat.le_of_ble_eq_true rfl⟩) rfl hl.1 rfl (Nat.le_of_ble_eq_true rfl) dX9_addsIn_74 ⟨Nat.le_refl _, Nat.le_refl _⟩ (fun H locs G => ?_)
  refine lv_iload_n hx hb dX9_addsIn_77 rfl (lv_at hl 2 rfl) ?_
  obtain ⟨x78, M78, hx78⟩ : ∃ (X : Int32) (Y : mS), (X, Y) = mF_addsIn_3 M x := ⟨_, _, rfl⟩
  refine mr_calli (r0 := x78) (M2 := M78) C hA G (by rw [hx78]; exact (k_addsIn_3 zl D cI ad M x hV)) (cwV 2 C.2.2.2.2.1 gX9_addsIn_X9_addsIn rfl rfl rfl (by decide +kernel) ⟨Nat.le_of_ble_eq_true rfl, Nat.le_of_ble_eq_true rfl⟩) rfl hl.1 (cons_int rfl (cons_int (show (sF_above 6) = 3 by decide) rfl)) (Nat.le_of_ble_eq_true rfl) dX9_addsIn_78 ⟨Nat.le_refl _, Nat.le_refl _⟩ (fun H locs G => ?_)
  rw [lt2_e hx78] at hF
  have hV : vR M78 := by have h9 := vR_addsIn_3 (x := x) hV; rw [← hx78] at h9; exact h9
  exact hret _ _ _ _ _ _ hF G dX9_addsIn_81
theorem k_addsIn (zl : Launch) (D : va_G) (cI : ClassId) (ad : Nat → Nat) (M : mS) (kind x : Int32) (hk : ∃ j, j ≤ 6 ∧ kind = nI j) (hV : vR M) : mM zl D cI ad yX9_addsIn wsX9_addsIn ({ frames := 14, cells := 0, slots := 0, locals := 406 } : Room) [.int kind, .int x] M (mF_addsIn M kind x) := by
  obtain ⟨j, hj, rfl⟩ := hk
  rcases (show j = 0 ∨ j = 1 ∨ j = 2 ∨ j = 3 ∨ j = 4 ∨ j = 5 ∨ j = 6 by omega) with rfl | rfl | rfl | rfl | rfl | rfl | rfl
  · rw [mF_addsIn_at0, show nI 0 = 0 by decide]; exact mM_room (by decide) (by decide) (by rfl) (by rfl) (k_addsIn_0 zl D cI ad M x hV)
  · rw [mF_addsIn_at1, show nI 1 = 1 by decide]; exact mM_room (by decide) (by decide) (by rfl) (by rfl) (k_addsIn_1 zl D cI ad M x hV)
  · rw [mF_addsIn_at2, show nI 2 = 2 by decide]; exact mM_room (by decide) (by decide) (by rfl) (by rfl) (k_addsIn_2 zl D cI ad M x hV)
  · rw [mF_addsIn_at3, show nI 3 = 3 by decide]; exact mM_room (by decide) (by decide) (by rfl) (by rfl) (k_addsIn_3 zl D cI ad M x hV)
  · rw [mF_addsIn_at4, show nI 4 = 4 by decide]; exact mM_room (by decide) (by decide) (by rfl) (by rfl) (k_addsIn_4 zl D cI ad M x hV)
  · rw [mF_addsIn_at5, show nI 5 = 5 by decide]; exact mM_room (by decide) (by decide) (by rfl) (by rfl) (k_addsIn_5 zl D cI ad M x hV)
  · rw [mF_addsIn_at6, show nI 6 = 6 by decide]; exact mM_room (by decide) (by decide) (by rfl) (by rfl) (k_addsIn_6 zl D cI ad M x hV)
set_option maxRecDepth 100000 in
set_option maxHeartbeats 4000000 in
theorem k_provesIn_0 (zl : Launch) (D : va_G) (cI : ClassId) (ad : Nat → Nat) (M : mS) (x : Int32) (hV : vR M) : mM zl D cI ad yX9_provesIn wsX9_provesIn ({ frames := 20, cells := 0, slots := 0, locals := 700 } : Room) [.int 0, .int x] M (mF_provesIn_0 M x) := by
  have hin : ∀ w ∈ wsX90, w ∈ wsX9_provesIn := fun w h => List.mem_cons_of_mem _ (List.mem_append_right _ h)
  refine mM_of (cc := cX9_provesIn) (nL := 4) (by decide) rfl rfl (Nat.le_of_ble_eq_true rfl) ?_
  intro zp ze zs zm zg zb zt zc zA H0 zQ C hA hret H locs ls hl G
  have hx := C.1
  have hb := C.2.1
  have hl : lv_has ls 4 [(0, .ref (ad 0)), (1, .int 0), (2, .int x)] := hl
  obtain ⟨rM, hF⟩ : ∃ X : Int32 × mS, X = mF_provesIn_0 M x := ⟨_, rfl⟩
  rw [← hF] at hret
  unfold mF_provesIn_0 at hF
  refine lv_iload_n hx hb dX9_provesIn_0 rfl (lv_at hl 1 rfl) ?_
  refine lv_if_ne (tgt := 32) hx hb dX9_provesIn_1 (by decide) (fun c1 => absurd (by decide) c1) (fun c1 => ?_)
  refine lv_aload_n hx hb dX9_provesIn_4 rfl (lv_at hl 0 rfl) ?_
  refine lv_bipush (v := 13) hx hb dX9_provesIn_5 (by decide) ?_
  refine mr_callv C hA G (k_ran zl D cI ad M 13 hV.1) (cwV 1 C.2.2.2.2.1 gX9_provesIn_X9_ran rfl rfl rfl (by decide +kernel) ⟨Nat.le_of_ble_eq_true rfl, Nat.le_of_ble_eq_true rfl⟩) rfl hl.1 rfl (Nat.le_of_ble_eq_true rfl) dX9_provesIn_7 ⟨Nat.le_refl _, Nat.le_refl _⟩ (fun H locs G => ?_)
  obtain ⟨M7, hM7⟩ : ∃ X : mS, X = mF_ran M 13 := ⟨_, rfl⟩
  rw [← hM7] at G
  rw [lt_e hM7] at hF
  have hV : vR M7 := by rw [hM7]; exact ran_vR hV
  refine lv_aload_n hx hb dX9_provesIn_10 rfl (lv_at hl 0 rfl) ?_
  refine lv_aload_n hx hb dX9_provesIn_11 rfl (lv_at hl 0 rfl) ?_
  refine mr_get C G hin 25 (by decide) rfl (show Cond.fieldLink RX9 252 "WheatCountsModel" "voiceKind" "I" ∈ _ by decide +kernel) (fun _ => rfl) dX9_provesIn_12 ?_
  refine lv_iload_n hx hb dX9_provesIn_15 rfl (lv_at hl 2 rfl) ?_
  obtain ⟨x16, M16, hx16⟩ : ∃ (X : Int32) (Y : mS), (X, Y) = mF_addsIn M7 (M7 0 25) x := ⟨_, _, rfl⟩
  refine mr_calli (r0 := x16) (M2 := M16) C hA G (by rw [hx16]; exact (k_addsIn zl D cI ad M7 (M7 0 25) x hV.2 hV)) (cwV 2 C.2.2.2.2.1 gX9_provesIn_X9_addsIn rfl rfl rfl (by decide +kernel) ⟨Nat.le_of_ble_eq_true rfl, Nat.le_of_ble_eq_true rfl⟩) rfl hl.1 rfl (Nat.le_of_ble_eq_true rfl) dX9_provesIn_16 ⟨Nat.le_refl _, Nat.le_refl _⟩ (fun H locs G => ?_)
  rw [lt2_e hx16] at hF
  have hV : vR M16 := by have h9 := vR_addsIn (kind := (M7 0 25)) (x := x) hV; rw [← hx16] at h9; exact h9
  refine lv_istore_n (lv' := [(3, .int x16), (0, .ref (ad 0)), (1, .int 0), (2, .int x)]) hx hb dX9_provesIn_19 rfl hl (by decide) rfl (fun ls hl => ?_)
  refine lv_iload_n hx hb dX9_provesIn_20 rfl (lv_at hl 0 rfl) ?_
  refine lv_aload_n hx hb dX9_provesIn_21 rfl (lv_at hl 1 rfl) ?_
  refine lv_aload_n hx hb dX9_provesIn_22 rfl (lv_at hl 1 rfl) ?_
  refine mr_get C G hin 25 (by decide) rfl (show Cond.fieldLink RX9 252 "WheatCountsModel" "voiceKind" "I" ∈ _ by decide +kernel) (fun _ => rfl) dX9_provesIn_23 ?_
  refine lv_iload_n hx hb dX9_provesIn_26 rfl (lv_at hl 3 rfl) ?_
  obtain ⟨x27, M27, hx27⟩ : ∃ (X : Int32) (Y : mS), (X, Y) = mF_glancesIn M16 (M16 0 25) x := ⟨_, _, rfl⟩
  refine mr_calli (r0 := x27) (M2 := M27) C hA G (by rw [hx27]; exact (k_glancesIn zl D cI ad M16 (M16 0 25) x hV.2 hV)) (cwV 2 C.2.2.2.2.1 gX9_provesIn_X9_glancesIn rfl rfl rfl (by decide +kernel) ⟨Nat.le_of_ble_eq_true rfl, Nat.le_of_ble_eq_true rfl⟩) rfl hl.1 rfl (Nat.le_of_ble_eq_true rfl) dX9_provesIn_27 ⟨Nat.le_refl _, Nat.le_refl _⟩ (fun H locs G => ?_)
  rw [lt2_e hx27] at hF
  have hV : vR M27 := by have h9 := vR_glancesIn (kind := (M16 0 25)) (x := x) hV; rw [← hx27] at h9; exact h9
  refine lv_ixor hx hb dX9_provesIn_30 ?_
  exact hret _ _ _ _ _ _ hF G dX9_provesIn_31
set_option maxRecDepth 100000 in
set_option maxHeartbeats 4000000 in
theorem k_provesIn_1 (zl : Launch) (D : va_G) (cI : ClassId) (ad : Nat → Nat) (M : mS) (x : Int32) (hV : vR M) : mM zl D cI ad yX9_provesIn wsX9_provesIn ({ frames := 21, cells := 0, slots := 0, locals := 723 } : Room) [.int 1, .int x] M (mF_provesIn_1 M x) := by
  have hin : ∀ w ∈ wsX90, w ∈ wsX9_provesIn := fun w h => List.mem_cons_of_mem _ (List.mem_append_right _ h)
  refine mM_of (cc := cX9_provesIn) (nL := 4) (by decide) rfl rfl (Nat.le_of_ble_eq_true rfl) ?_
  intro zp ze zs zm zg zb zt zc zA H0 zQ C hA hret H locs ls hl G
  have hx := C.1
  have hb := C.2.1
  have hl : lv_has ls 4 [(0, .ref (ad 0)), (1, .int 1), (2, .int x)] := hl
  obtain ⟨rM, hF⟩ : ∃ X : Int32 × mS, X = mF_provesIn_1 M x := ⟨_, rfl⟩
  rw [← hF] at hret
  unfold mF_provesIn_1 at hF
  refine lv_iload_n hx hb dX9_provesIn_0 rfl (lv_at hl 1 rfl) ?_
  refine lv_if_ne (tgt := 32) hx hb dX9_provesIn_1 (by decide) (fun c1 => ?_) (fun c1 => absurd c1 (by decide))
  refine lv_iload_n hx hb dX9_provesIn_32 rfl (lv_at hl 1 rfl) ?_
  refine lv_iconst (v := 4) hx hb dX9_provesIn_33 (by decide) ?_
  refine lv_icmp_ne (tgt := 62) hx hb dX9_provesIn_34 (by decide) (fun c34 => ?_) (fun c34 => absurd c34 (by decide))
  refine lv_iload_n hx hb dX9_provesIn_62 rfl (lv_at hl 1 rfl) ?_
  refine lv_bipush (v := 6) hx hb dX9_provesIn_63 (by decide) ?_
  refine lv_icmp_ne (tgt := 93) hx hb dX9_provesIn_65 (by decide) (fun c65 => ?_) (fun c65 => absurd c65 (by decide))
  refine lv_aload_n hx hb dX9_provesIn_93 rfl (lv_at hl 0 rfl) ?_
  refine lv_iload_n hx hb dX9_provesIn_94 rfl (lv_at hl 1 rfl) ?_
  refine mr_calls C hA G (ks_above zl 1) (va_cwS 1 C.2.2.2.2.1 gX9_provesIn_X9_above rfl rfl rfl (by decide +kernel) ⟨Nat.le_of_ble_eq_true rfl, Nat.le_of_ble_eq_true rfl⟩) rfl hl.1 rfl (Nat.le_of_ble_eq_true rfl) dX9_provesIn_95 ⟨Nat.le_refl _, Nat.le_refl _⟩ (fun H locs G => ?_)
  refine lv_iload_n hx hb dX9_provesIn_98 rfl (lv_at hl 2 rfl) ?_
  obtain ⟨x99, M99, hx99⟩ : ∃ (X : Int32) (Y : mS), (X, Y) = mF_provesIn_0 M x := ⟨_, _, rfl⟩
  refine mr_calli (r0 := x99) (M2 := M99) C hA G (by rw [hx99]; exact (k_provesIn_0 zl D cI ad M x hV)) (cwV 2 C.2.2.2.2.1 gX9_provesIn_X9_provesIn rfl rfl rfl (by decide +kernel) ⟨Nat.le_of_ble_eq_true rfl, Nat.le_of_ble_eq_true rfl⟩) rfl hl.1 (cons_int rfl (cons_int (show (sF_above 1) = 0 by decide) rfl)) (Nat.le_of_ble_eq_true rfl) dX9_provesIn_99 ⟨Nat.le_refl _, Nat.le_refl _⟩ (fun H locs G => ?_)
  rw [lt2_e hx99] at hF
  have hV : vR M99 := by have h9 := vR_provesIn_0 (x := x) hV; rw [← hx99] at h9; exact h9
  exact hret _ _ _ _ _ _ hF G dX9_provesIn_102
set_option maxRecDepth 100000 in
set_option maxHeartbeats 4000000 in
theorem k_provesIn_2 (zl : Launch) (D : va_G) (cI : ClassId) (ad : Nat → Nat) (M : mS) (x : Int32) (hV : vR M) : mM zl D cI ad yX9_provesIn wsX9_provesIn ({ frames := 21, cells := 0, slots := 0, locals := 723 } : Room) [.int 2, .int x] M (mF_provesIn_2 M x) := by
  have hin : ∀ w ∈ wsX90, w ∈ wsX9_provesIn := fun w h => List.mem_cons_of_mem _ (List.mem_append_right _ h)
  refine mM_of (cc := cX9_provesIn) (nL := 4) (by decide) rfl rfl (Nat.le_of_ble_eq_true rfl) ?_
  intro zp ze zs zm zg zb zt zc zA H0 zQ C hA hret H locs ls hl G
  have hx := C.1
  have hb := C.2.1
  have hl : lv_has ls 4 [(0, .ref (ad 0)), (1, .int 2), (2, .int x)] := hl
  obtain ⟨rM, hF⟩ : ∃ X : Int32 × mS, X = mF_provesIn_2 M x := ⟨_, rfl⟩
  rw [← hF] at hret
  unfold mF_provesIn_2 at hF
  refine lv_iload_n hx hb dX9_provesIn_0 rfl (lv_at hl 1 rfl) ?_
  refine lv_if_ne (tgt := 32) hx hb dX9_provesIn_1 (by decide) (fun c1 => ?_) (fun c1 => absurd c1 (by decide))
  refine lv_iload_n hx hb dX9_provesIn_32 rfl (lv_at hl 1 rfl) ?_
  refine lv_iconst (v := 4) hx hb dX9_provesIn_33 (by decide) ?_
  refine lv_icmp_ne (tgt := 62) hx hb dX9_provesIn_34 (by decide) (fun c34 => ?_) (fun c34 => absurd c34 (by decide))
  refine lv_iload_n hx hb dX9_provesIn_62 rfl (lv_at hl 1 rfl) ?_
  refine lv_bipush (v := 6) hx hb dX9_provesIn_63 (by decide) ?_
  refine lv_icmp_ne (tgt := 93) hx hb dX9_provesIn_65 (by decide) (fun c65 => ?_) (fun c65 => absurd c65 (by decide))
  refine lv_aload_n hx hb dX9_provesIn_93 rfl (lv_at hl 0 rfl) ?_
  refine lv_iload_n hx hb dX9_provesIn_94 rfl (lv_at hl 1 rfl) ?_
  refine mr_calls C hA G (ks_above zl 2) (va_cwS 1 C.2.2.2.2.1 gX9_provesIn_X9_above rfl rfl rfl (by decide +kernel) ⟨Nat.le_of_ble_eq_true rfl, Nat.le_of_ble_eq_true rfl⟩) rfl hl.1 rfl (Nat.le_of_ble_eq_true rfl) dX9_provesIn_95 ⟨Nat.le_refl _, Nat.le_refl _⟩ (fun H locs G => ?_)
  refine lv_iload_n hx hb dX9_provesIn_98 rfl (lv_at hl 2 rfl) ?_
  obtain ⟨x99, M99, hx99⟩ : ∃ (X : Int32) (Y : mS), (X, Y) = mF_provesIn_0 M x := ⟨_, _, rfl⟩
  refine mr_calli (r0 := x99) (M2 := M99) C hA G (by rw [hx99]; exact (k_provesIn_0 zl D cI ad M x hV)) (cwV 2 C.2.2.2.2.1 gX9_provesIn_X9_provesIn rfl rfl rfl (by decide +kernel) ⟨Nat.le_of_ble_eq_true rfl, Nat.le_of_ble_eq_true rfl⟩) rfl hl.1 (cons_int rfl (cons_int (show (sF_above 2) = 0 by decide) rfl)) (Nat.le_of_ble_eq_true rfl) dX9_provesIn_99 ⟨Nat.le_refl _, Nat.le_refl _⟩ (fun H locs G => ?_)
  rw [lt2_e hx99] at hF
  have hV : vR M99 := by have h9 := vR_provesIn_0 (x := x) hV; rw [← hx99] at h9; exact h9
  exact hret _ _ _ _ _ _ hF G dX9_provesIn_102
set_option maxRecDepth 100000 in
set_option maxHeartbeats 4000000 in
theorem k_provesIn_3 (zl : Launch) (D : va_G) (cI : ClassId) (ad : Nat → Nat) (M : mS) (x : Int32) (hV : vR M) : mM zl D cI ad yX9_provesIn wsX9_provesIn ({ frames := 21, cells := 0, slots := 0, locals := 723 } : Room) [.int 3, .int x] M (mF_provesIn_3 M x) := by
  have hin : ∀ w ∈ wsX90, w ∈ wsX9_provesIn := fun w h => List.mem_cons_of_mem _ (List.mem_append_right _ h)
  refine mM_of (cc := cX9_provesIn) (nL := 4) (by decide) rfl rfl (Nat.le_of_ble_eq_true rfl) ?_
  intro zp ze zs zm zg zb zt zc zA H0 zQ C hA hret H locs ls hl G
  have hx := C.1
  have hb := C.2.1
  have hl : lv_has ls 4 [(0, .ref (ad 0)), (1, .int 3), (2, .int x)] := hl
  obtain ⟨rM, hF⟩ : ∃ X : Int32 × mS, X = mF_provesIn_3 M x := ⟨_, rfl⟩
  rw [← hF] at hret
  unfold mF_provesIn_3 at hF
  refine lv_iload_n hx hb dX9_provesIn_0 rfl (lv_at hl 1 rfl) ?_
  refine lv_if_ne (tgt := 32) hx hb dX9_provesIn_1 (by decide) (fun c1 => ?_) (fun c1 => absurd c1 (by decide))
  refine lv_iload_n hx hb dX9_provesIn_32 rfl (lv_at hl 1 rfl) ?_
  refine lv_iconst (v := 4) hx hb dX9_provesIn_33 (by decide) ?_
  refine lv_icmp_ne (tgt := 62) hx hb dX9_provesIn_34 (by decide) (fun c34 => ?_) (fun c34 => absurd c34 (by decide))
  refine lv_iload_n hx hb dX9_provesIn_62 rfl (lv_at hl 1 rfl) ?_
  refine lv_bipush (v := 6) hx hb dX9_provesIn_63 (by decide) ?_
  refine lv_icmp_ne (tgt := 93) hx hb dX9_provesIn_65 (by decide) (fun c65 => ?_) (fun c65 => absurd c65 (by decide))
  refine lv_aload_n hx hb dX9_provesIn_93 rfl (lv_at hl 0 rfl) ?_
  refine lv_iload_n hx hb dX9_provesIn_94 rfl (lv_at hl 1 rfl) ?_
  refine mr_calls C hA G (ks_above zl 3) (va_cwS 1 C.2.2.2.2.1 gX9_provesIn_X9_above rfl rfl rfl (by decide +kernel) ⟨Nat.le_of_ble_eq_true rfl, Nat.le_of_ble_eq_true rfl⟩) rfl hl.1 rfl (Nat.le_of_ble_eq_true rfl) dX9_provesIn_95 ⟨Nat.le_refl _, Nat.le_refl _⟩ (fun H locs G => ?_)
  refine lv_iload_n hx hb dX9_provesIn_98 rfl (lv_at hl 2 rfl) ?_
  obtain ⟨x99, M99, hx99⟩ : ∃ (X : Int32) (Y : mS), (X, Y) = mF_provesIn_0 M x := ⟨_, _, rfl⟩
  refine mr_calli (r0 := x99) (M2 := M99) C hA G (by rw [hx99]; exact (k_provesIn_0 zl D cI ad M x hV)) (cwV 2 C.2.2.2.2.1 gX9_provesIn_X9_provesIn rfl rfl rfl (by decide +kernel) ⟨Nat.le_of_ble_eq_true rfl, Nat.le_of_ble_eq_true rfl⟩) rfl hl.1 (cons_int rfl (cons_int (show (sF_above 3) = 0 by decide) rfl)) (Nat.le_of_ble_eq_true rfl) dX9_provesIn_99 ⟨Nat.le_refl _, Nat.le_refl _⟩ (fun H locs G => ?_)
  rw [lt2_e hx99] at hF
  have hV : vR M99 := by have h9 := vR_provesIn_0 (x := x) hV; rw [← hx99] at h9; exact h9
  exact hret _ _ _ _ _ _ hF G dX9_provesIn_102
set_option maxRecDepth 100000 in
set_option maxHeartbeats 4000000 in
theorem k_provesIn_4 (zl : Launch) (D : va_G) (cI : ClassId) (ad : Nat → Nat) (M : mS) (x : Int32) (hV : vR M) : mM zl D cI ad yX9_provesIn wsX9_provesIn ({ frames := 22, cells := 0, slots := 0, locals := 746 } : Room) [.int 4, .int x] M (mF_provesIn_4 M x) := by
  have hin : ∀ w ∈ wsX90, w ∈ wsX9_provesIn := fun w h => List.mem_cons_of_mem _ (List.mem_append_right _ h)
  refine mM_of (cc := cX9_provesIn) (nL := 4) (by decide) rfl rfl (Nat.le_of_ble_eq_true rfl) ?_
  intro zp ze zs zm zg zb zt zc zA H0 zQ C hA hret H locs ls hl G
  have hx := C.1
  have hb := C.2.1
  have hl : lv_has ls 4 [(0, .ref (ad 0)), (1, .int 4), (2, .int x)] := hl
  obtain ⟨rM, hF⟩ : ∃ X : Int32 × mS, X = mF_provesIn_4 M x := ⟨_, rfl⟩
  rw [← hF] at hret
  unfold mF_provesIn_4 at hF
  refine lv_iload_n hx hb dX9_provesIn_0 rfl (lv_at hl 1 rfl) ?_
  refine lv_if_ne (tgt := 32) hx hb dX9_provesIn_1 (by decide) (fun c1 => ?_) (fun c1 => absurd c1 (by decide))
  refine lv_iload_n hx hb dX9_provesIn_32 rfl (lv_at hl 1 rfl) ?_
  refine lv_iconst (v := 4) hx hb dX9_provesIn_33 (by decide) ?_
  refine lv_icmp_ne (tgt := 62) hx hb dX9_provesIn_34 (by decide) (fun c34 => absurd (by decide) c34) (fun c34 => ?_)
  refine lv_aload_n hx hb dX9_provesIn_37 rfl (lv_at hl 0 rfl) ?_
  refine lv_bipush (v := 50) hx hb dX9_provesIn_38 (by decide) ?_
  refine mr_callv C hA G (k_ran zl D cI ad M 50 hV.1) (cwV 1 C.2.2.2.2.1 gX9_provesIn_X9_ran rfl rfl rfl (by decide +kernel) ⟨Nat.le_of_ble_eq_true rfl, Nat.le_of_ble_eq_true rfl⟩) rfl hl.1 rfl (Nat.le_of_ble_eq_true rfl) dX9_provesIn_40 ⟨Nat.le_refl _, Nat.le_refl _⟩ (fun H locs G => ?_)
  obtain ⟨M40, hM40⟩ : ∃ X : mS, X = mF_ran M 50 := ⟨_, rfl⟩
  rw [← hM40] at G
  rw [lt_e hM40] at hF
  have hV : vR M40 := by rw [hM40]; exact ran_vR hV
  refine lv_aload_n hx hb dX9_provesIn_43 rfl (lv_at hl 0 rfl) ?_
  refine lv_iconst (v := 1) hx hb dX9_provesIn_44 (by decide) ?_
  refine lv_iload_n hx hb dX9_provesIn_45 rfl (lv_at hl 2 rfl) ?_
  obtain ⟨x46, M46, hx46⟩ : ∃ (X : Int32) (Y : mS), (X, Y) = mF_provesIn_1 M40 x := ⟨_, _, rfl⟩
  refine mr_calli (r0 := x46) (M2 := M46) C hA G (by rw [hx46]; exact (k_provesIn_1 zl D cI ad M40 x hV)) (cwV 2 C.2.2.2.2.1 gX9_provesIn_X9_provesIn rfl rfl rfl (by decide +kernel) ⟨Nat.le_of_ble_eq_true rfl, Nat.le_of_ble_eq_true rfl⟩) rfl hl.1 rfl (Nat.le_of_ble_eq_true rfl) dX9_provesIn_46 ⟨Nat.le_refl _, Nat.le_refl _⟩ (fun H locs G => ?_)
  rw [lt2_e hx46] at hF
  have hV : vR M46 := by have h9 := vR_provesIn_1 (x := x) hV; rw [← hx46] at h9; exact h9
  refine lv_istore_n (lv' := [(3, .int x46), (0, .ref (ad 0)), (1, .int 4), (2, .int x)]) hx hb dX9_provesIn_49 rfl hl (by decide) rfl (fun ls hl => ?_)
  refine lv_iload_n hx hb dX9_provesIn_50 rfl (lv_at hl 0 rfl) ?_
  refine lv_aload_n hx hb dX9_provesIn_51 rfl (lv_at hl 1 rfl) ?_
  refine lv_aload_n hx hb dX9_provesIn_52 rfl (lv_at hl 1 rfl) ?_
  refine mr_get C G hin 25 (by decide) rfl (show Cond.fieldLink RX9 252 "WheatCountsModel" "voiceKind" "I" ∈ _ by decide +kernel) (fun _ => rfl) dX9_provesIn_53 ?_
  refine lv_iconst (v := 2) hx hb dX9_provesIn_56 (by decide) ?_
  obtain ⟨x57, M57, hx57⟩ : ∃ (X : Int32) (Y : mS), (X, Y) = mF_looksIn M46 (M46 0 25) 2 := ⟨_, _, rfl⟩
  refine mr_calli (r0 := x57) (M2 := M57) C hA G (by rw [hx57]; exact (k_looksIn zl D cI ad M46 (M46 0 25) 2 hV.2 hV)) (cwV 2 C.2.2.2.2.1 gX9_provesIn_X9_looksIn rfl rfl rfl (by decide +kernel) ⟨Nat.le_of_ble_eq_true rfl, Nat.le_of_ble_eq_true rfl⟩) rfl hl.1 rfl (Nat.le_of_ble_eq_true rfl) dX9_provesIn_57 ⟨Nat.le_refl _, Nat.le_refl _⟩ (fun H locs G => ?_)
  rw [lt2_e hx57] at hF
  have hV : vR M57 := by have h9 := vR_looksIn (kind := (M46 0 25)) (x := 2) hV; rw [← hx57] at h9; exact h9
  refine lv_isub hx hb dX9_provesIn_60 ?_
  exact hret _ _ _ _ _ _ hF G dX9_provesIn_61
set_option maxRecDepth 100000 in
set_option maxHeartbeats 4000000 in
theorem k_provesIn_5 (zl : Launch) (D : va_G) (cI : ClassId) (ad : Nat → Nat) (M : mS) (x : Int32) (hV : vR M) : mM zl D cI ad yX9_provesIn wsX9_provesIn ({ frames := 22, cells := 0, slots := 0, locals := 746 } : Room) [.int 5, .int x] M (mF_provesIn_5 M x) := by
  have hin : ∀ w ∈ wsX90, w ∈ wsX9_provesIn := fun w h => List.mem_cons_of_mem _ (List.mem_append_right _ h)
  refine mM_of (cc := cX9_provesIn) (nL := 4) (by decide) rfl rfl (Nat.le_of_ble_eq_true rfl) ?_
  intro zp ze zs zm zg zb zt zc zA H0 zQ C hA hret H locs ls hl G
  have hx := C.1
  have hb := C.2.1
  have hl : lv_has ls 4 [(0, .ref (ad 0)), (1, .int 5), (2, .int x)] := hl
  obtain ⟨rM, hF⟩ : ∃ X : Int32 × mS, X = mF_provesIn_5 M x := ⟨_, rfl⟩
  rw [← hF] at hret
  unfold mF_provesIn_5 at hF
  refine lv_iload_n hx hb dX9_provesIn_0 rfl (lv_at hl 1 rfl) ?_
  refine lv_if_ne (tgt := 32) hx hb dX9_provesIn_1 (by decide) (fun c1 => ?_) (fun c1 => absurd c1 (by decide))
  refine lv_iload_n hx hb dX9_provesIn_32 rfl (lv_at hl 1 rfl) ?_
  refine lv_iconst (v := 4) hx hb dX9_provesIn_33 (by decide) ?_
  refine lv_icmp_ne (tgt := 62) hx hb dX9_provesIn_34 (by decide) (fun c34 => ?_) (fun c34 => absurd c34 (by decide))
  refine lv_iload_n hx hb dX9_provesIn_62 rfl (lv_at hl 1 rfl) ?_
  refine lv_bipush (v := 6) hx hb dX9_provesIn_63 (by decide) ?_
  refine lv_icmp_ne (tgt := 93) hx hb dX9_provesIn_65 (by decide) (fun c65 => ?_) (fun c65 => absurd c65 (by decide))
  refine lv_aload_n hx hb dX9_provesIn_93 rfl (lv_at hl 0 rfl) ?_
  refine lv_iload_n hx hb dX9_provesIn_94 rfl (lv_at hl 1 rfl) ?_
  refine mr_calls C hA G (ks_above zl 5) (va_cwS 1 C.2.2.2.2.1 gX9_provesIn_X9_above rfl rfl rfl (by decide +kernel) ⟨Nat.le_of_ble_eq_true rfl, Nat.le_of_ble_eq_true rfl⟩) rfl hl.1 rfl (Nat.le_of_ble_eq_true rfl) dX9_provesIn_95 ⟨Nat.le_refl _, Nat.le_refl _⟩ (fun H locs G => ?_)
  refine lv_iload_n hx hb dX9_provesIn_98 rfl (lv_at hl 2 rfl) ?_
  obtain ⟨x99, M99, hx99⟩ : ∃ (X : Int32) (Y : mS), (X, Y) = mF_provesIn_2 M x := ⟨_, _, rfl⟩
  refine mr_calli (r0 := x99) (M2 := M99) C hA G (by rw [hx99]; exact (k_provesIn_2 zl D cI ad M x hV)) (cwV 2 C.2.2.2.2.1 gX9_provesIn_X9_provesIn rfl rfl rfl (by decide +kernel) ⟨Nat.le_of_ble_eq_true rfl, Nat.le_of_ble_eq_true rfl⟩) rfl hl.1 (cons_int rfl (cons_int (show (sF_above 5) = 2 by decide) rfl)) (Nat.le_of_ble_eq_true rfl) dX9_provesIn_99 ⟨Nat.le_refl _, Nat.le_refl _⟩ (fun H locs G => ?_)
  rw [lt2_e hx99] at hF
  have hV : vR M99 := by have h9 := vR_provesIn_2 (x := x) hV; rw [← hx99] at h9; exact h9
  exact hret _ _ _ _ _ _ hF G dX9_provesIn_102
set_option maxRecDepth 100000 in
set_option maxHeartbeats 4000000 in
theorem k_provesIn_6 (zl : Launch) (D : va_G) (cI : ClassId) (ad : Nat → Nat) (M : mS) (x : Int32) (hV : vR M) : mM zl D cI ad yX9_provesIn wsX9_provesIn ({ frames := 22, cells := 0, slots := 0, locals := 746 } : Room) [.int 6, .int x] M (mF_provesIn_6 M x) := by
  have hin : ∀ w ∈ wsX90, w ∈ wsX9_provesIn := fun w h => List.mem_cons_of_mem _ (List.mem_append_right _ h)
  refine mM_of (cc := cX9_provesIn) (nL := 4) (by decide) rfl rfl (Nat.le_of_ble_eq_true rfl) ?_
  intro zp ze zs zm zg zb zt zc zA H0 zQ C hA hret H locs ls hl G
  have hx := C.1
  have hb := C.2.1
  have hl : lv_has ls 4 [(0, .ref (ad 0)), (1, .int 6), (2, .int x)] := hl
  obtain ⟨rM, hF⟩ : ∃ X : Int32 × mS, X = mF_provesIn_6 M x := ⟨_, rfl⟩
  rw [← hF] at hret
  unfold mF_provesIn_6 at hF
  refine lv_iload_n hx hb dX9_provesIn_0 rfl (lv_at hl 1 rfl) ?_
  refine lv_if_ne (tgt := 32) hx hb dX9_provesIn_1 (by decide) (fun c1 => ?_) (fun c1 => absurd c1 (by decide))
  refine lv_iload_n hx hb dX9_provesIn_32 rfl (lv_at hl 1 rfl) ?_
  refine lv_iconst (v := 4) hx hb dX9_provesIn_33 (by decide) ?_
  refine lv_icmp_ne (tgt := 62) hx hb dX9_provesIn_34 (by decide) (fun c34 => ?_) (fun c34 => absurd c34 (by decide))
  refine lv_iload_n hx hb dX9_provesIn_62 rfl (lv_at hl 1 rfl) ?_
  refine lv_bipush (v := 6) hx hb dX9_provesIn_63 (by decide) ?_
  refine lv_icmp_ne (tgt := 93) hx hb dX9_provesIn_65 (by decide) (fun c65 => absurd (by decide) c65) (fun c65 => ?_)
  refine lv_aload_n hx hb dX9_provesIn_68 rfl (lv_at hl 0 rfl) ?_
  refine lv_bipush (v := 71) hx hb dX9_provesIn_69 (by decide) ?_
  refine mr_callv C hA G (k_ran zl D cI ad M 71 hV.1) (cwV 1 C.2.2.2.2.1 gX9_provesIn_X9_ran rfl rfl rfl (by decide +kernel) ⟨Nat.le_of_ble_eq_true rfl, Nat.le_of_ble_eq_true rfl⟩) rfl hl.1 rfl (Nat.le_of_ble_eq_true rfl) dX9_provesIn_71 ⟨Nat.le_refl _, Nat.le_refl _⟩ (fun H locs G => ?_)
  obtain ⟨M71, hM71⟩ : ∃ X : mS, X = mF_ran M 71 := ⟨_, rfl⟩
  rw [← hM71] at G
  rw [lt_e hM71] at hF
  have hV : vR M71 := by rw [hM71]; exact ran_vR hV
  refine lv_aload_n hx hb dX9_provesIn_74 rfl (lv_at hl 0 rfl) ?_
  refine lv_aload_n hx hb dX9_provesIn_75 rfl (lv_at hl 0 rfl) ?_
  refine mr_get C G hin 25 (by decide) rfl (show Cond.fieldLink RX9 252 "WheatCountsModel" "voiceKind" "I" ∈ _ by decide +kernel) (fun _ => rfl) dX9_provesIn_76 ?_
  refine lv_iload_n hx hb dX9_provesIn_79 rfl (lv_at hl 2 rfl) ?_
  obtain ⟨x80, M80, hx80⟩ : ∃ (X : Int32) (Y : mS), (X, Y) = mF_addsIn M71 (M71 0 25) x := ⟨_, _, rfl⟩
  refine mr_calli (r0 := x80) (M2 := M80) C hA G (by rw [hx80]; exact (k_addsIn zl D cI ad M71 (M71 0 25) x hV.2 hV)) (cwV 2 C.2.2.2.2.1 gX9_provesIn_X9_addsIn rfl rfl rfl (by decide +kernel) ⟨Nat.le_of_ble_eq_true rfl, Nat.le_of_ble_eq_true rfl⟩) rfl hl.1 rfl (Nat.le_of_ble_eq_true rfl) dX9_provesIn_80 ⟨Nat.le_refl _, Nat.le_refl _⟩ (fun H locs G => ?_)
  rw [lt2_e hx80] at hF
  have hV : vR M80 := by have h9 := vR_addsIn (kind := (M71 0 25)) (x := x) hV; rw [← hx80] at h9; exact h9
  refine lv_istore_n (lv' := [(3, .int x80), (0, .ref (ad 0)), (1, .int 6), (2, .int x)]) hx hb dX9_provesIn_83 rfl hl (by decide) rfl (fun ls hl => ?_)
  refine lv_iload_n hx hb dX9_provesIn_84 rfl (lv_at hl 0 rfl) ?_
  refine lv_aload_n hx hb dX9_provesIn_85 rfl (lv_at hl 1 rfl) ?_
  refine lv_iconst (v := 3) hx hb dX9_provesIn_86 (by decide) ?_
  refine lv_iload_n hx hb dX9_provesIn_87 rfl (lv_at hl 3 rfl) ?_
  obtain ⟨x88, M88, hx88⟩ : ∃ (X : Int32) (Y : mS), (X, Y) = mF_provesIn_3 M80 x := ⟨_, _, rfl⟩
  refine mr_calli (r0 := x88) (M2 := M88) C hA G (by rw [hx88]; exact (k_provesIn_3 zl D cI ad M80 x hV)) (cwV 2 C.2.2.2.2.1 gX9_provesIn_X9_provesIn rfl rfl rfl (by decide +kernel) ⟨Nat.le_of_ble_eq_true rfl, Nat.le_of_ble_eq_true rfl⟩) rfl hl.1 rfl (Nat.le_of_ble_eq_true rfl) dX9_provesIn_88 ⟨Nat.le_refl _, Nat.le_refl _⟩ (fun H locs G => ?_)
  rw [lt2_e hx88] at hF
  have hV : vR M88 := by have h9 := vR_provesIn_3 (x := x) hV; rw [← hx88] at h9; exact h9
  refine lv_isub hx hb dX9_provesIn_91 ?_
  exact hret _ _ _ _ _ _ hF G dX9_provesIn_92
theorem k_provesIn (zl : Launch) (D : va_G) (cI : ClassId) (ad : Nat → Nat) (M : mS) (kind x : Int32) (hk : ∃ j, j ≤ 6 ∧ kind = nI j) (hV : vR M) : mM zl D cI ad yX9_provesIn wsX9_provesIn ({ frames := 22, cells := 0, slots := 0, locals := 746 } : Room) [.int kind, .int x] M (mF_provesIn M kind x) := by
  obtain ⟨j, hj, rfl⟩ := hk
  rcases (show j = 0 ∨ j = 1 ∨ j = 2 ∨ j = 3 ∨ j = 4 ∨ j = 5 ∨ j = 6 by omega) with rfl | rfl | rfl | rfl | rfl | rfl | rfl
  · rw [mF_provesIn_at0, show nI 0 = 0 by decide]; exact mM_room (by decide) (by decide) (by rfl) (by rfl) (k_provesIn_0 zl D cI ad M x hV)
  · rw [mF_provesIn_at1, show nI 1 = 1 by decide]; exact mM_room (by decide) (by decide) (by rfl) (by rfl) (k_provesIn_1 zl D cI ad M x hV)
  · rw [mF_provesIn_at2, show nI 2 = 2 by decide]; exact mM_room (by decide) (by decide) (by rfl) (by rfl) (k_provesIn_2 zl D cI ad M x hV)
  · rw [mF_provesIn_at3, show nI 3 = 3 by decide]; exact mM_room (by decide) (by decide) (by rfl) (by rfl) (k_provesIn_3 zl D cI ad M x hV)
  · rw [mF_provesIn_at4, show nI 4 = 4 by decide]; exact mM_room (by decide) (by decide) (by rfl) (by rfl) (k_provesIn_4 zl D cI ad M x hV)
  · rw [mF_provesIn_at5, show nI 5 = 5 by decide]; exact mM_room (by decide) (by decide) (by rfl) (by rfl) (k_provesIn_5 zl D cI ad M x hV)
  · rw [mF_provesIn_at6, show nI 6 = 6 by decide]; exact mM_room (by decide) (by decide) (by rfl) (by rfl) (k_provesIn_6 zl D cI ad M x hV)

set_option maxRecDepth 100000 in
set_option maxHeartbeats 4000000 in
theorem k_voice (zl : Launch) (D : va_G) (cI : ClassId) (ad : Nat → Nat) (M : mS) (q : Int32) (act : Int32) (x : Int32) (hP : pOK M) (hK : kOK M) : mM zl D cI ad yX9_voice wsX9_voice ({ frames := 23, cells := 0, slots := 0, locals := 769 } : Room) [.int q, .int act, .int x] M (mF_voice M q act x) := by
  have hin : ∀ w ∈ wsX90, w ∈ wsX9_voice := fun w h => List.mem_cons_of_mem _ (List.mem_append_right _ h)
  refine mM_of (cc := cX9_voice) (nL := 4) (by decide) rfl rfl (Nat.le_of_ble_eq_true rfl) ?_
  intro zp ze zs zm zg zb zt zc zA H0 zQ C hA hret H locs ls hl G
  have hx := C.1
  have hb := C.2.1
  have hl : lv_has ls 4 [(0, .ref (ad 0)), (1, .int q), (2, .int act), (3, .int x)] := hl
  obtain ⟨rM, hF⟩ : ∃ X : Int32 × mS, X = mF_voice M q act x := ⟨_, rfl⟩
  rw [← hF] at hret
  unfold mF_voice at hF
  have hP1 := hP.1
  have hP2 := hP.2
  refine lv_aload_n hx hb dX9_voice_0 rfl (lv_at hl 0 rfl) ?_
  refine lv_iload_n hx hb dX9_voice_1 rfl (lv_at hl 1 rfl) ?_
  refine mr_calli C hA G (k_isPerson zl D cI ad M q) (cwV 1 C.2.2.2.2.1 gX9_voice_X9_isPerson rfl rfl rfl (by decide +kernel) ⟨Nat.le_of_ble_eq_true rfl, Nat.le_of_ble_eq_true rfl⟩) rfl hl.1 rfl (Nat.le_of_ble_eq_true rfl) dX9_voice_2 ⟨Nat.le_refl _, Nat.le_refl _⟩ (fun H locs G => ?_)
  refine lv_if_eq (tgt := 17) hx hb dX9_voice_5 (by decide) (fun c5 => ?_) (fun c5 => ?_)
  · rw [if_pos c5] at hF
    refine lv_aload_n hx hb dX9_voice_17 rfl (lv_at hl 0 rfl) ?_
    refine lv_ldc (v := -1000000001) hx hb C.2.2.2.1 (C.2.2.2.2.1 (.constant RX9 58 (-1000000001)) (by decide +kernel)) dX9_voice_18 ?_
    obtain ⟨x20, M20, hx20⟩ : ∃ (X : Int32) (Y : mS), (X, Y) = mF_errs M (-1000000001) := ⟨_, _, rfl⟩
    refine mr_calli (r0 := x20) (M2 := M20) C hA G (by rw [hx20]; exact (k_errs zl D cI ad M (-1000000001) (by unfold vp_in; decide))) (cwV 1 C.2.2.2.2.1 gX9_voice_X9_errs rfl rfl rfl (by decide +kernel) ⟨Nat.le_of_ble_eq_true rfl, Nat.le_of_ble_eq_true rfl⟩) rfl hl.1 rfl (Nat.le_of_ble_eq_true rfl) dX9_voice_20 ⟨Nat.le_refl _, Nat.le_refl _⟩ (fun H locs G => ?_)
    rw [lt2_e hx20] at hF
    exact hret _ _ _ _ _ _ hF G dX9_voice_23
  · rw [if_neg c5] at hF
    have hp := person_of hP c5
    have hp2 := hp.2
    refine lv_iload_n hx hb dX9_voice_8 rfl (lv_at hl 2 rfl) ?_
    refine lv_iconst (v := 0) hx hb dX9_voice_9 (by decide) ?_
    refine lv_iconst (v := 3) hx hb dX9_voice_10 (by decide) ?_
    refine mr_calls C hA G (ks_in zl act 0 3) (va_cwS 3 C.2.2.2.2.1 gX9_voice_X9_in rfl rfl rfl (by decide +kernel) ⟨Nat.le_of_ble_eq_true rfl, Nat.le_of_ble_eq_true rfl⟩) rfl hl.1 rfl (Nat.le_of_ble_eq_true rfl) dX9_voice_11 ⟨Nat.le_refl _, Nat.le_refl _⟩ (fun H locs G => ?_)
    refine lv_if_ne (tgt := 24) hx hb dX9_voice_14 (by decide) (fun c14 => ?_) (fun c14 => ?_)
    · rw [if_neg c14] at hF
      refine lv_aload_n hx hb dX9_voice_24 rfl (lv_at hl 0 rfl) ?_
      refine lv_iconst (v := 0) hx hb dX9_voice_25 (by decide) ?_
      refine mr_put C G hin 24 (by decide) rfl rfl (show Cond.fieldLink RX9 234 "WheatCountsModel" "tracedMany" "I" ∈ _ by decide +kernel) (ty := .int) (by decide +kernel) rfl rfl (fun _ => rfl) dX9_voice_26 (fun H locs G => ?_)
      obtain ⟨M26, hM26⟩ : ∃ X : mS, X = mU M 0 24 0 := ⟨_, rfl⟩
      rw [← hM26] at G
      rw [lt_e hM26] at hF
      refine lv_aload_n hx hb dX9_voice_29 rfl (lv_at hl 0 rfl) ?_
      refine lv_aload_n hx hb dX9_voice_30 rfl (lv_at hl 0 rfl) ?_
      refine lv_iload_n hx hb dX9_voice_31 rfl (lv_at hl 1 rfl) ?_
      refine lv_iconst (v := 0) hx hb dX9_voice_32 (by decide) ?_
      refine mr_calli C hA G (k_its zl D cI ad M26 (vn q) 0 (by first | assumption | omega)) (cwV 2 C.2.2.2.2.1 gX9_voice_X9_its rfl rfl rfl (by decide +kernel) ⟨Nat.le_of_ble_eq_true rfl, Nat.le_of_ble_eq_true rfl⟩) rfl hl.1 (cons_int rfl (cons_int hp.1 rfl)) (Nat.le_of_ble_eq_true rfl) dX9_voice_33 ⟨Nat.le_refl _, Nat.le_refl _⟩ (fun H locs G => ?_)
      refine mr_put C G hin 25 (by decide) rfl rfl (show Cond.fieldLink RX9 252 "WheatCountsModel" "voiceKind" "I" ∈ _ by decide +kernel) (ty := .int) (by decide +kernel) rfl rfl (fun _ => rfl) dX9_voice_36 (fun H locs G => ?_)
      obtain ⟨M36, hM36⟩ : ∃ X : mS, X = mU M26 0 25 (mF_its M26 (vn q) 0) := ⟨_, rfl⟩
      rw [← hM36] at G
      rw [lt_e hM36] at hF
      refine lv_aload_n hx hb dX9_voice_39 rfl (lv_at hl 0 rfl) ?_
      refine lv_iload_n hx hb dX9_voice_40 rfl (lv_at hl 1 rfl) ?_
      refine mr_put C G hin 26 (by decide) rfl rfl (show Cond.fieldLink RX9 240 "WheatCountsModel" "voiceN" "I" ∈ _ by decide +kernel) (ty := .int) (by decide +kernel) rfl rfl (fun _ => rfl) dX9_voice_41 (fun H locs G => ?_)
      obtain ⟨M41, hM41⟩ : ∃ X : mS, X = mU M36 0 26 q := ⟨_, rfl⟩
      rw [← hM41] at G
      rw [lt_e hM41] at hF
      refine lv_aload_n hx hb dX9_voice_44 rfl (lv_at hl 0 rfl) ?_
      refine lv_aload_n hx hb dX9_voice_45 rfl (lv_at hl 0 rfl) ?_
      refine lv_iload_n hx hb dX9_voice_46 rfl (lv_at hl 1 rfl) ?_
      refine lv_iconst (v := 1) hx hb dX9_voice_47 (by decide) ?_
      refine mr_calli C hA G (k_its zl D cI ad M41 (vn q) 1 (by first | assumption | omega)) (cwV 2 C.2.2.2.2.1 gX9_voice_X9_its rfl rfl rfl (by decide +kernel) ⟨Nat.le_of_ble_eq_true rfl, Nat.le_of_ble_eq_true rfl⟩) rfl hl.1 (cons_int rfl (cons_int hp.1 rfl)) (Nat.le_of_ble_eq_true rfl) dX9_voice_48 ⟨Nat.le_refl _, Nat.le_refl _⟩ (fun H locs G => ?_)
      refine mr_put C G hin 27 (by decide) rfl rfl (show Cond.fieldLink RX9 246 "WheatCountsModel" "voiceM" "I" ∈ _ by decide +kernel) (ty := .int) (by decide +kernel) rfl rfl (fun _ => rfl) dX9_voice_51 (fun H locs G => ?_)
      obtain ⟨M51, hM51⟩ : ∃ X : mS, X = mU M41 0 27 (mF_its M41 (vn q) 1) := ⟨_, rfl⟩
      rw [← hM51] at G
      rw [lt_e hM51] at hF
      have hV : vR M51 := vc_V (hK _ (show vn q < 8 by omega)) hM26 hM36 hM41 hM51
      refine lv_iload_n hx hb dX9_voice_54 rfl (lv_at hl 2 rfl) ?_
      by_cases c55_0 : act = 0
      · rw [if_pos c55_0] at hF
        refine lv_tableIn (off := 25) (tgt := 80) hx hb dX9_voice_55 (by rw [c55_0]; decide) (by rw [c55_0]; decide) (by rw [c55_0]; rfl) (by decide) ?_
        refine lv_aload_n hx hb dX9_voice_80 rfl (lv_at hl 0 rfl) ?_
        refine lv_aload_n hx hb dX9_voice_81 rfl (lv_at hl 0 rfl) ?_
        refine mr_get C G hin 25 (by decide) rfl (show Cond.fieldLink RX9 252 "WheatCountsModel" "voiceKind" "I" ∈ _ by decide +kernel) (fun _ => rfl) dX9_voice_82 ?_
        refine lv_iload_n hx hb dX9_voice_85 rfl (lv_at hl 3 rfl) ?_
        obtain ⟨x86, M86, hx86⟩ : ∃ (X : Int32) (Y : mS), (X, Y) = mF_looksIn M51 (M51 0 25) x := ⟨_, _, rfl⟩
        refine mr_calli (r0 := x86) (M2 := M86) C hA G (by rw [hx86]; exact (k_looksIn zl D cI ad M51 (M51 0 25) x hV.2 hV)) (cwV 2 C.2.2.2.2.1 gX9_voice_X9_looksIn rfl rfl rfl (by decide +kernel) ⟨Nat.le_of_ble_eq_true rfl, Nat.le_of_ble_eq_true rfl⟩) rfl hl.1 rfl (Nat.le_of_ble_eq_true rfl) dX9_voice_86 ⟨Nat.le_refl _, Nat.le_refl _⟩ (fun H locs G => ?_)
        rw [lt2_e hx86] at hF
        have hV : vR M86 := by have h9 := vR_looksIn (kind := (M51 0 25)) (x := x) hV; rw [← hx86] at h9; exact h9
        exact hret _ _ _ _ _ _ hF G dX9_voice_89
      · rw [if_neg c55_0] at hF
        by_cases c55_1 : act = 1
        · rw [if_pos c55_1] at hF
          refine lv_tableIn (off := 35) (tgt := 90) hx hb dX9_voice_55 (by rw [c55_1]; decide) (by rw [c55_1]; decide) (by rw [c55_1]; rfl) (by decide) ?_
          refine lv_aload_n hx hb dX9_voice_90 rfl (lv_at hl 0 rfl) ?_
          refine lv_aload_n hx hb dX9_voice_91 rfl (lv_at hl 0 rfl) ?_
          refine mr_get C G hin 25 (by decide) rfl (show Cond.fieldLink RX9 252 "WheatCountsModel" "voiceKind" "I" ∈ _ by decide +kernel) (fun _ => rfl) dX9_voice_92 ?_
          refine lv_iload_n hx hb dX9_voice_95 rfl (lv_at hl 3 rfl) ?_
          obtain ⟨x96, M96, hx96⟩ : ∃ (X : Int32) (Y : mS), (X, Y) = mF_addsIn M51 (M51 0 25) x := ⟨_, _, rfl⟩
          refine mr_calli (r0 := x96) (M2 := M96) C hA G (by rw [hx96]; exact (k_addsIn zl D cI ad M51 (M51 0 25) x hV.2 hV)) (cwV 2 C.2.2.2.2.1 gX9_voice_X9_addsIn rfl rfl rfl (by decide +kernel) ⟨Nat.le_of_ble_eq_true rfl, Nat.le_of_ble_eq_true rfl⟩) rfl hl.1 rfl (Nat.le_of_ble_eq_true rfl) dX9_voice_96 ⟨Nat.le_refl _, Nat.le_refl _⟩ (fun H locs G => ?_)
          rw [lt2_e hx96] at hF
          have hV : vR M96 := by have h9 := vR_addsIn (kind := (M51 0 25)) (x := x) hV; rw [← hx96] at h9; exact h9
          exact hret _ _ _ _ _ _ hF G dX9_voice_99
        · rw [if_neg c55_1] at hF
          by_cases c55_2 : act = 2
          · rw [if_pos c55_2] at hF
            refine lv_tableIn (off := 45) (tgt := 100) hx hb dX9_voice_55 (by rw [c55_2]; decide) (by rw [c55_2]; decide) (by rw [c55_2]; rfl) (by decide) ?_
            refine lv_aload_n hx hb dX9_voice_100 rfl (lv_at hl 0 rfl) ?_
            refine lv_aload_n hx hb dX9_voice_101 rfl (lv_at hl 0 rfl) ?_
            refine mr_get C G hin 25 (by decide) rfl (show Cond.fieldLink RX9 252 "WheatCountsModel" "voiceKind" "I" ∈ _ by decide +kernel) (fun _ => rfl) dX9_voice_102 ?_
            refine lv_iload_n hx hb dX9_voice_105 rfl (lv_at hl 3 rfl) ?_
            obtain ⟨x106, M106, hx106⟩ : ∃ (X : Int32) (Y : mS), (X, Y) = mF_glancesIn M51 (M51 0 25) x := ⟨_, _, rfl⟩
            refine mr_calli (r0 := x106) (M2 := M106) C hA G (by rw [hx106]; exact (k_glancesIn zl D cI ad M51 (M51 0 25) x hV.2 hV)) (cwV 2 C.2.2.2.2.1 gX9_voice_X9_glancesIn rfl rfl rfl (by decide +kernel) ⟨Nat.le_of_ble_eq_true rfl, Nat.le_of_ble_eq_true rfl⟩) rfl hl.1 rfl (Nat.le_of_ble_eq_true rfl) dX9_voice_106 ⟨Nat.le_refl _, Nat.le_refl _⟩ (fun H locs G => ?_)
            rw [lt2_e hx106] at hF
            have hV : vR M106 := by have h9 := vR_glancesIn (kind := (M51 0 25)) (x := x) hV; rw [← hx106] at h9; exact h9
            exact hret _ _ _ _ _ _ hF G dX9_voice_109
          · rw [if_neg c55_2] at hF
            refine lv_tableOut (tgt := 110) hx hb dX9_voice_55 (sw_out (fun i h1 h2 => by rcases (show i = 0 ∨ i = 1 ∨ i = 2 by omega) with rfl | rfl | rfl <;> first | exact fun e9 => c55_0 (Int32.toInt_inj.mp e9) | exact fun e9 => c55_1 (Int32.toInt_inj.mp e9) | exact fun e9 => c55_2 (Int32.toInt_inj.mp e9))) (by decide) ?_
            refine lv_aload_n hx hb dX9_voice_110 rfl (lv_at hl 0 rfl) ?_
            refine lv_aload_n hx hb dX9_voice_111 rfl (lv_at hl 0 rfl) ?_
            refine mr_get C G hin 25 (by decide) rfl (show Cond.fieldLink RX9 252 "WheatCountsModel" "voiceKind" "I" ∈ _ by decide +kernel) (fun _ => rfl) dX9_voice_112 ?_
            refine lv_iload_n hx hb dX9_voice_115 rfl (lv_at hl 3 rfl) ?_
            obtain ⟨x116, M116, hx116⟩ : ∃ (X : Int32) (Y : mS), (X, Y) = mF_provesIn M51 (M51 0 25) x := ⟨_, _, rfl⟩
            refine mr_calli (r0 := x116) (M2 := M116) C hA G (by rw [hx116]; exact (k_provesIn zl D cI ad M51 (M51 0 25) x hV.2 hV)) (cwV 2 C.2.2.2.2.1 gX9_voice_X9_provesIn rfl rfl rfl (by decide +kernel) ⟨Nat.le_of_ble_eq_true rfl, Nat.le_of_ble_eq_true rfl⟩) rfl hl.1 rfl (Nat.le_of_ble_eq_true rfl) dX9_voice_116 ⟨Nat.le_refl _, Nat.le_refl _⟩ (fun H locs G => ?_)
            rw [lt2_e hx116] at hF
            have hV : vR M116 := by have h9 := vR_provesIn (kind := (M51 0 25)) (x := x) hV; rw [← hx116] at h9; exact h9
            exact hret _ _ _ _ _ _ hF G dX9_voice_119
    · rw [if_pos c14] at hF
      refine lv_aload_n hx hb dX9_voice_17 rfl (lv_at hl 0 rfl) ?_
      refine lv_ldc (v := -1000000001) hx hb C.2.2.2.1 (C.2.2.2.2.1 (.constant RX9 58 (-1000000001)) (by decide +kernel)) dX9_voice_18 ?_
      obtain ⟨x20, M20, hx20⟩ : ∃ (X : Int32) (Y : mS), (X, Y) = mF_errs M (-1000000001) := ⟨_, _, rfl⟩
      refine mr_calli (r0 := x20) (M2 := M20) C hA G (by rw [hx20]; exact (k_errs zl D cI ad M (-1000000001) (by unfold vp_in; decide))) (cwV 1 C.2.2.2.2.1 gX9_voice_X9_errs rfl rfl rfl (by decide +kernel) ⟨Nat.le_of_ble_eq_true rfl, Nat.le_of_ble_eq_true rfl⟩) rfl hl.1 rfl (Nat.le_of_ble_eq_true rfl) dX9_voice_20 ⟨Nat.le_refl _, Nat.le_refl _⟩ (fun H locs G => ?_)
      rw [lt2_e hx20] at hF
      exact hret _ _ _ _ _ _ hF G dX9_voice_23

