set_option maxRecDepth 100000 in
set_option maxHeartbeats 4000000 in
theorem k_loose (zl : Launch) (D : va_G) (cI : ClassId) (ad : Nat → Nat) (M : mS) (n : Int32) (hR : rOK M) : mM zl D cI ad yX9_loose wsX9_loose ({ frames := 54, cells := 0, slots := 0, locals := 1211 } : Room) [.int n] M (mF_loose M n) := by
  have hin : ∀ w ∈ wsX90, w ∈ wsX9_loose := fun w h => List.mem_cons_of_mem _ (List.mem_append_right _ h)
  refine mM_of (cc := cX9_loose) (nL := 4) (by decide) rfl rfl (Nat.le_of_ble_eq_true rfl) ?_
  intro zp ze zs zm zg zb zt zc zA H0 zQ C hA hret H locs ls hl G
  have hx := C.1
  have hb := C.2.1
  have hl : lv_has ls 4 [(0, .ref (ad 0)), (1, .int n)] := hl
  obtain ⟨rM, hF⟩ : ∃ X : Int32 × mS, X = mF_loose M n := ⟨_, rfl⟩
  rw [← hF] at hret
  unfold mF_loose at hF
  have hC := hR.1
  have hP := hR.2.1
  have hK := hR.2.2.1
  have hA9 := hR.2.2.2.1
  have hS := hR.2.2.2.2
  have hC2 := hC.2.1
  have hC3 := hC.2.2
  have hP2 := hP.2
  refine lv_iload_n hx hb dX9_loose_0 rfl (lv_at hl 1 rfl) ?_
  refine lv_iconst (v := 1) hx hb dX9_loose_1 (by decide) ?_
  refine lv_bipush (v := 40) hx hb dX9_loose_2 (by decide) ?_
  refine mr_calls C hA G (ks_in zl n 1 40) (va_cwS 3 C.2.2.2.2.1 gX9_loose_X9_in rfl rfl rfl (by decide +kernel) ⟨Nat.le_of_ble_eq_true rfl, Nat.le_of_ble_eq_true rfl⟩) rfl hl.1 rfl (Nat.le_of_ble_eq_true rfl) dX9_loose_4 ⟨Nat.le_refl _, Nat.le_refl _⟩ (fun H locs G => ?_)
  refine lv_if_ne (tgt := 17) hx hb dX9_loose_7 (by decide) (fun c7 => ?_) (fun c7 => ?_)
  · rw [if_neg c7] at hF
    have hn := in_pos (m := 40) c7 (by decide) ⟨rfl, by decide⟩
    have hn2 := hn.2
    refine lv_aload_n hx hb dX9_loose_17 rfl (lv_at hl 0 rfl) ?_
    refine mr_get C G hin 0 (by decide) rfl (show Cond.fieldLink RX9 7 "WheatCountsModel" "row" "[I" ∈ _ by decide +kernel) (fun _ => rfl) dX9_loose_18 ?_
    refine lv_iconst (v := 0) hx hb dX9_loose_21 (by decide) ?_
    refine mr_ald C G 1 (fun _ => rfl) 0 rfl (by omega) (Nat.le_of_ble_eq_true rfl) dX9_loose_22 ?_
    refine lv_iload_n hx hb dX9_loose_23 rfl (lv_at hl 1 rfl) ?_
    refine lv_iadd hx hb dX9_loose_24 ?_
    refine lv_sipush (v := 9999) hx hb dX9_loose_25 (by decide) ?_
    refine lv_icmp_le (tgt := 38) hx hb dX9_loose_28 (by decide) (fun c28 => ?_) (fun c28 => ?_)
    · rw [if_pos c28] at hF
      refine lv_iconst (v := 0) hx hb dX9_loose_38 (by decide) ?_
      refine lv_istore_n (lv' := [(2, .int 0), (0, .ref (ad 0)), (1, .int n)]) hx hb dX9_loose_39 rfl hl (by decide) rfl (fun ls hl => ?_)
      obtain ⟨M40x, hX40⟩ : ∃ (M40x : mS), M40x = mF_loose_L40 M (vn n) := ⟨_, rfl⟩
      rw [lt_e hX40] at hF
      have hR40x : rOK M40x := by rw [hX40]; exact lo_R hR _
      have hrest40 : ∀ (H : Heap) (locs : List Loc) (ls : Array Slot), lv_has ls 4 [(0, .ref (ad 0)), (1, .int n), (2, .int (nI (vn n)))] → mG D cI ad zA H0 H locs M40x → W zp zl ze ({ frames := 54, cells := 0, slots := 0, locals := 1211 } : Room) zs zm zg zb zt zc H locs 0 0 zQ (F0 zm 90 ls []) := by
        intro H locs ls hl G
        refine lv_aload_n hx hb dX9_loose_90 rfl (lv_at hl 0 rfl) ?_
        refine mr_calli C hA G (k_grains zl D cI ad M40x  hR40x.1) (cwV 0 C.2.2.2.2.1 gX9_loose_X9_grains rfl rfl rfl (by decide +kernel) ⟨Nat.le_of_ble_eq_true rfl, Nat.le_of_ble_eq_true rfl⟩) rfl hl.1 rfl (Nat.le_of_ble_eq_true rfl) dX9_loose_91 ⟨Nat.le_refl _, Nat.le_refl _⟩ (fun H locs G => ?_)
        exact hret _ _ _ _ _ _ hF G dX9_loose_94
      have hloop40 : ∀ (j k40 : Nat), j + k40 = vn n → ∀ (M40 : mS), M40 = mF_loose_L40 M k40 → ∀ (H : Heap) (locs : List Loc) (ls : Array Slot), lv_has ls 4 [(0, .ref (ad 0)), (1, .int n), (2, .int (nI k40))] → mG D cI ad zA H0 H locs M40 → W zp zl ze ({ frames := 54, cells := 0, slots := 0, locals := 1211 } : Room) zs zm zg zb zt zc H locs 0 0 zQ (F0 zm 40 ls []) := by
        intro j
        induction j with
        | zero =>
          intro k40 hk M40 hL H locs ls hl G
          have hk : k40 = vn n := by omega
          rw [hk] at hL hl
          refine lv_iload_n hx hb dX9_loose_40 rfl (lv_at hl 2 rfl) ?_
          refine lv_iload_n hx hb dX9_loose_41 rfl (lv_at hl 1 rfl) ?_
          refine lv_icmp_ge (tgt := 90) hx hb dX9_loose_42 (by decide) (fun c42 => ?_) (fun c42 => absurd (lp_out (n := vn n) hn.1) c42)
          obtain rfl := hL.trans hX40.symm
          exact hrest40 _ _ _ (lv_sub hl [0, 1, 2] rfl) G
        | succ j ih =>
          intro k40 hk M40 hL H locs ls hl G
          have hkn : k40 < vn n := by omega
          obtain ⟨M40s, hS0⟩ : ∃ (M40s : mS), M40s = mF_loose_L40 M (k40 + 1) := ⟨_, rfl⟩
          have hS := hS0
          rw [mF_loose_L40_s, lt_e hL] at hS
          have hR40 : rOK M40 := by rw [hL]; exact lo_R hR _
          have hP40 : M40 1 8 = nI (vn (M 1 8)) := by rw [hL, lo_k _ _ 8 (by decide) (by decide) (by decide)]; exact hP.1
          refine lv_iload_n hx hb dX9_loose_40 rfl (lv_at hl 2 rfl) ?_
          refine lv_iload_n hx hb dX9_loose_41 rfl (lv_at hl 1 rfl) ?_
          refine lv_icmp_ge (tgt := 90) hx hb dX9_loose_42 (by decide) (fun c42 => absurd c42 (lp_in (n := vn n) hn.1 hkn (by omega))) (fun c42 => ?_)
          refine lv_aload_n hx hb dX9_loose_45 rfl (lv_at hl 0 rfl) ?_
          refine mr_get C G hin 0 (by decide) rfl (show Cond.fieldLink RX9 7 "WheatCountsModel" "row" "[I" ∈ _ by decide +kernel) (fun _ => rfl) dX9_loose_46 ?_
          refine lv_bipush (v := 8) hx hb dX9_loose_49 (by decide) ?_
          refine mr_ald C G 1 (fun _ => rfl) 8 rfl (by omega) (Nat.le_of_ble_eq_true rfl) dX9_loose_51 ?_
          obtain ⟨M80, hX80⟩ : ∃ (M80 : mS), M80 = ((if (M40 1 8) ≤ 0 then M40 else (lt2 (mF_drawn M40 (M40 1 8)) fun (x63 : Int32) (M63 : mS) => lt2 (mF_drawn M63 3) fun (x72 : Int32) (M72 : mS) => lt (mF_gets M72 (vn x63) 3 (x72 - 1)) fun (M77 : mS) => M77)) : mS) := ⟨_, rfl⟩
          rw [lt_e hX80] at hS
          have hj80 : ∀ (H : Heap) (locs : List Loc) (ls : Array Slot), lv_has ls 4 [(0, .ref (ad 0)), (1, .int n), (2, .int (nI k40))] → mG D cI ad zA H0 H locs M80 → W zp zl ze ({ frames := 54, cells := 0, slots := 0, locals := 1211 } : Room) zs zm zg zb zt zc H locs 0 0 zQ (F0 zm 80 ls []) := by
            intro H locs ls hl G
            have hR80 : rOK M80 := by rw [hX80]; exact lo_step hR40
            refine lv_aload_n hx hb dX9_loose_80 rfl (lv_at hl 0 rfl) ?_
            refine mr_callv C hA G (k_oneHour zl D cI ad M80  hR80) (cwV 0 C.2.2.2.2.1 gX9_loose_X9_oneHour rfl rfl rfl (by decide +kernel) ⟨Nat.le_of_ble_eq_true rfl, Nat.le_of_ble_eq_true rfl⟩) rfl hl.1 rfl (Nat.le_of_ble_eq_true rfl) dX9_loose_81 ⟨Nat.le_refl _, Nat.le_refl _⟩ (fun H locs G => ?_)
            obtain ⟨M81, hM81⟩ : ∃ X : mS, X = mF_oneHour M80 := ⟨_, rfl⟩
            rw [← hM81] at G
            rw [lt_e hM81] at hS
            refine lv_iinc (v := nI (k40 + 1)) (lv' := [(2, .int (nI (k40 + 1))), (0, .ref (ad 0)), (1, .int n)]) hx hb dX9_loose_84 hl (k := 2) rfl (nt_add rfl (show (1 : Int32) = nI 1 from rfl)) (by decide) rfl (fun ls hl => ?_)
            refine lv_goto (tgt := 40) hx hb dX9_loose_87 (by decide) ?_
            subst hS
            exact ih (k40 + 1) (by omega) _ hS0 _ _ _ (lv_sub hl [1, 2, 0] rfl) G
          refine lv_if_le (tgt := 80) hx hb dX9_loose_52 (by decide) (fun c52 => ?_) (fun c52 => ?_)
          · rw [if_pos c52] at hX80
            subst hX80
            exact hj80 _ _ _ (lv_sub hl [0, 1, 2] rfl) G
          · rw [if_neg c52] at hX80
            have hm0 : 0 < vn (M 1 8) := Nat.pos_of_ne_zero (fun e9 => c52 (by rw [hP40, e9]; decide))
            refine lv_aload_n hx hb dX9_loose_55 rfl (lv_at hl 0 rfl) ?_
            refine lv_aload_n hx hb dX9_loose_56 rfl (lv_at hl 0 rfl) ?_
            refine mr_get C G hin 0 (by decide) rfl (show Cond.fieldLink RX9 7 "WheatCountsModel" "row" "[I" ∈ _ by decide +kernel) (fun _ => rfl) dX9_loose_57 ?_
            refine lv_bipush (v := 8) hx hb dX9_loose_60 (by decide) ?_
            refine mr_ald C G 1 (fun _ => rfl) 8 rfl (by omega) (Nat.le_of_ble_eq_true rfl) dX9_loose_62 ?_
            obtain ⟨x63, M63, hx63⟩ : ∃ (X : Int32) (Y : mS), (X, Y) = mF_drawn M40 (M40 1 8) := ⟨_, _, rfl⟩
            refine mr_calli (r0 := x63) (M2 := M63) C hA G (by rw [hx63]; exact (k_drawn zl D cI ad M40 (M40 1 8) (fun e9 => c52 (by rw [e9]; decide)))) (cwV 1 C.2.2.2.2.1 gX9_loose_X9_drawn rfl rfl rfl (by decide +kernel) ⟨Nat.le_of_ble_eq_true rfl, Nat.le_of_ble_eq_true rfl⟩) rfl hl.1 rfl (Nat.le_of_ble_eq_true rfl) dX9_loose_63 ⟨Nat.le_refl _, Nat.le_refl _⟩ (fun H locs G => ?_)
            rw [lt2_e hx63] at hX80
            have hd := drawn_lt hx63 ⟨hP40, hm0, by omega⟩
            have hd2 := hd.2
            refine lv_istore_n (lv' := [(3, .int x63), (0, .ref (ad 0)), (1, .int n), (2, .int (nI k40))]) hx hb dX9_loose_66 rfl hl (by decide) rfl (fun ls hl => ?_)
            refine lv_aload_n hx hb dX9_loose_67 rfl (lv_at hl 1 rfl) ?_
            refine lv_iload_n hx hb dX9_loose_68 rfl (lv_at hl 0 rfl) ?_
            refine lv_iconst (v := 3) hx hb dX9_loose_69 (by decide) ?_
            refine lv_aload_n hx hb dX9_loose_70 rfl (lv_at hl 1 rfl) ?_
            refine lv_iconst (v := 3) hx hb dX9_loose_71 (by decide) ?_
            obtain ⟨x72, M72, hx72⟩ : ∃ (X : Int32) (Y : mS), (X, Y) = mF_drawn M63 3 := ⟨_, _, rfl⟩
            refine mr_calli (r0 := x72) (M2 := M72) C hA G (by rw [hx72]; exact (k_drawn zl D cI ad M63 3 (by decide))) (cwV 1 C.2.2.2.2.1 gX9_loose_X9_drawn rfl rfl rfl (by decide +kernel) ⟨Nat.le_of_ble_eq_true rfl, Nat.le_of_ble_eq_true rfl⟩) rfl hl.1 rfl (Nat.le_of_ble_eq_true rfl) dX9_loose_72 ⟨Nat.le_refl _, Nat.le_refl _⟩ (fun H locs G => ?_)
            rw [lt2_e hx72] at hX80
            refine lv_iconst (v := 1) hx hb dX9_loose_75 (by decide) ?_
            refine lv_isub hx hb dX9_loose_76 ?_
            refine mr_callv C hA G (k_gets zl D cI ad M72 (vn x63) 3 (x72 - 1) (by omega)) (cwV 3 C.2.2.2.2.1 gX9_loose_X9_gets rfl rfl rfl (by decide +kernel) ⟨Nat.le_of_ble_eq_true rfl, Nat.le_of_ble_eq_true rfl⟩) rfl hl.1 (cons_int rfl (cons_int rfl (cons_int hd.1 rfl))) (Nat.le_of_ble_eq_true rfl) dX9_loose_77 ⟨Nat.le_refl _, Nat.le_refl _⟩ (fun H locs G => ?_)
            obtain ⟨M77, hM77⟩ : ∃ X : mS, X = mF_gets M72 (vn x63) 3 (x72 - 1) := ⟨_, rfl⟩
            rw [← hM77] at G
            rw [lt_e hM77] at hX80
            subst hX80
            exact hj80 _ _ _ (lv_sub hl [1, 2, 3] rfl) G
      exact hloop40 _ 0 (Nat.add_zero _) _ rfl _ _ _ (lv_sub hl [1, 2, 0] rfl) G
    · rw [if_neg c28] at hF
      refine lv_aload_n hx hb dX9_loose_31 rfl (lv_at hl 0 rfl) ?_
      refine lv_ldc (v := -1000000003) hx hb C.2.2.2.1 (C.2.2.2.2.1 (.constant RX9 63 (-1000000003)) (by decide +kernel)) dX9_loose_32 ?_
      obtain ⟨x34, M34, hx34⟩ : ∃ (X : Int32) (Y : mS), (X, Y) = mF_errs M (-1000000003) := ⟨_, _, rfl⟩
      refine mr_calli (r0 := x34) (M2 := M34) C hA G (by rw [hx34]; exact (k_errs zl D cI ad M (-1000000003) (by unfold vp_in; decide))) (cwV 1 C.2.2.2.2.1 gX9_loose_X9_errs rfl rfl rfl (by decide +kernel) ⟨Nat.le_of_ble_eq_true rfl, Nat.le_of_ble_eq_true rfl⟩) rfl hl.1 rfl (Nat.le_of_ble_eq_true rfl) dX9_loose_34 ⟨Nat.le_refl _, Nat.le_refl _⟩ (fun H locs G => ?_)
      rw [lt2_e hx34] at hF
      exact hret _ _ _ _ _ _ hF G dX9_loose_37
  · rw [if_pos c7] at hF
    refine lv_aload_n hx hb dX9_loose_10 rfl (lv_at hl 0 rfl) ?_
    refine lv_ldc (v := -1000000001) hx hb C.2.2.2.1 (C.2.2.2.2.1 (.constant RX9 58 (-1000000001)) (by decide +kernel)) dX9_loose_11 ?_
    obtain ⟨x13, M13, hx13⟩ : ∃ (X : Int32) (Y : mS), (X, Y) = mF_errs M (-1000000001) := ⟨_, _, rfl⟩
    refine mr_calli (r0 := x13) (M2 := M13) C hA G (by rw [hx13]; exact (k_errs zl D cI ad M (-1000000001) (by unfold vp_in; decide))) (cwV 1 C.2.2.2.2.1 gX9_loose_X9_errs rfl rfl rfl (by decide +kernel) ⟨Nat.le_of_ble_eq_true rfl, Nat.le_of_ble_eq_true rfl⟩) rfl hl.1 rfl (Nat.le_of_ble_eq_true rfl) dX9_loose_13 ⟨Nat.le_refl _, Nat.le_refl _⟩ (fun H locs G => ?_)
    rw [lt2_e hx13] at hF
    exact hret _ _ _ _ _ _ hF G dX9_loose_16
set_option maxRecDepth 100000 in
set_option maxHeartbeats 4000000 in
theorem k_whoSees (zl : Launch) (D : va_G) (cI : ClassId) (ad : Nat → Nat) (M : mS) (c : Int32) (hR : rOK M) : mM zl D cI ad yX9_whoSees wsX9_whoSees ({ frames := 53, cells := 0, slots := 0, locals := 1188 } : Room) [.int c] M ((mF_whoSees M c, M)) := by
  have hin : ∀ w ∈ wsX90, w ∈ wsX9_whoSees := fun w h => List.mem_cons_of_mem _ (List.mem_append_right _ h)
  refine mM_of (cc := cX9_whoSees) (nL := 4) (by decide) rfl rfl (Nat.le_of_ble_eq_true rfl) ?_
  intro zp ze zs zm zg zb zt zc zA H0 zQ C hA hret H locs ls hl G
  have hx := C.1
  have hb := C.2.1
  have hl : lv_has ls 4 [(0, .ref (ad 0)), (1, .int c)] := hl
  obtain ⟨rM, hF⟩ : ∃ X : Int32, X = mF_whoSees M c := ⟨_, rfl⟩
  rw [← hF] at hret
  unfold mF_whoSees at hF
  have hC := hR.1
  have hP := hR.2.1
  have hK := hR.2.2.1
  have hA9 := hR.2.2.2.1
  have hS := hR.2.2.2.2
  have hC2 := hC.2.1
  have hC3 := hC.2.2
  have hP2 := hP.2
  refine lv_iconst (v := 0) hx hb dX9_whoSees_0 (by decide) ?_
  refine lv_istore_n (lv' := [(2, .int 0), (0, .ref (ad 0)), (1, .int c)]) hx hb dX9_whoSees_1 rfl hl (by decide) rfl (fun ls hl => ?_)
  refine lv_iconst (v := 0) hx hb dX9_whoSees_2 (by decide) ?_
  refine lv_istore_n (lv' := [(3, .int 0), (2, .int 0), (0, .ref (ad 0)), (1, .int c)]) hx hb dX9_whoSees_3 rfl hl (by decide) rfl (fun ls hl => ?_)
  obtain ⟨v2_4x, hX4⟩ : ∃ (v2_4x : Int32), v2_4x = mF_whoSees_L4 M c (vn (M 1 8)) := ⟨_, rfl⟩
  rw [lt_e hX4] at hF
  have hrest4 : ∀ (H : Heap) (locs : List Loc) (ls : Array Slot), lv_has ls 4 [(0, .ref (ad 0)), (1, .int c), (2, .int v2_4x), (3, .int (nI (vn (M 1 8))))] → mG D cI ad zA H0 H locs M → W zp zl ze ({ frames := 53, cells := 0, slots := 0, locals := 1188 } : Room) zs zm zg zb zt zc H locs 0 0 zQ (F0 zm 43 ls []) := by
    intro H locs ls hl G
    refine lv_iload_n hx hb dX9_whoSees_43 rfl (lv_at hl 2 rfl) ?_
    exact hret _ _ _ _ _ _ (by rw [hF]) G dX9_whoSees_44
  have hloop4 : ∀ (j k4 : Nat), j + k4 = vn (M 1 8) → ∀ (v2_4 : Int32), v2_4 = mF_whoSees_L4 M c k4 → ∀ (H : Heap) (locs : List Loc) (ls : Array Slot), lv_has ls 4 [(0, .ref (ad 0)), (1, .int c), (2, .int v2_4), (3, .int (nI k4))] → mG D cI ad zA H0 H locs M → W zp zl ze ({ frames := 53, cells := 0, slots := 0, locals := 1188 } : Room) zs zm zg zb zt zc H locs 0 0 zQ (F0 zm 4 ls []) := by
    intro j
    induction j with
    | zero =>
      intro k4 hk v2_4 hL H locs ls hl G
      have hk : k4 = vn (M 1 8) := by omega
      rw [hk] at hL hl
      refine lv_iload_n hx hb dX9_whoSees_4 rfl (lv_at hl 3 rfl) ?_
      refine lv_aload_n hx hb dX9_whoSees_5 rfl (lv_at hl 0 rfl) ?_
      refine mr_get C G hin 0 (by decide) rfl (show Cond.fieldLink RX9 7 "WheatCountsModel" "row" "[I" ∈ _ by decide +kernel) (fun _ => rfl) dX9_whoSees_6 ?_
      refine lv_bipush (v := 8) hx hb dX9_whoSees_9 (by decide) ?_
      refine mr_ald C G 1 (fun _ => rfl) 8 rfl (by omega) (Nat.le_of_ble_eq_true rfl) dX9_whoSees_11 ?_
      refine lv_icmp_ge (tgt := 43) hx hb dX9_whoSees_12 (by decide) (fun c12 => ?_) (fun c12 => absurd (lp_out (n := vn (M 1 8)) hP.1) c12)
      obtain rfl := hL.trans hX4.symm
      exact hrest4 _ _ _ (lv_sub hl [0, 1, 2, 3] rfl) G
    | succ j ih =>
      intro k4 hk v2_4 hL H locs ls hl G
      have hkn : k4 < vn (M 1 8) := by omega
      obtain ⟨v2_4s, hS0⟩ : ∃ (v2_4s : Int32), v2_4s = mF_whoSees_L4 M c (k4 + 1) := ⟨_, rfl⟩
      have hS := hS0
      rw [mF_whoSees_L4_s, lt_e hL] at hS
      refine lv_iload_n hx hb dX9_whoSees_4 rfl (lv_at hl 3 rfl) ?_
      refine lv_aload_n hx hb dX9_whoSees_5 rfl (lv_at hl 0 rfl) ?_
      refine mr_get C G hin 0 (by decide) rfl (show Cond.fieldLink RX9 7 "WheatCountsModel" "row" "[I" ∈ _ by decide +kernel) (fun _ => rfl) dX9_whoSees_6 ?_
      refine lv_bipush (v := 8) hx hb dX9_whoSees_9 (by decide) ?_
      refine mr_ald C G 1 (fun _ => rfl) 8 rfl (by omega) (Nat.le_of_ble_eq_true rfl) dX9_whoSees_11 ?_
      refine lv_icmp_ge (tgt := 43) hx hb dX9_whoSees_12 (by decide) (fun c12 => absurd c12 (lp_in (n := vn (M 1 8)) hP.1 hkn (by omega))) (fun c12 => ?_)
      refine lv_iload_n hx hb dX9_whoSees_15 rfl (lv_at hl 2 rfl) ?_
      refine lv_aload_n hx hb dX9_whoSees_16 rfl (lv_at hl 0 rfl) ?_
      refine lv_iload_n hx hb dX9_whoSees_17 rfl (lv_at hl 3 rfl) ?_
      refine mr_calli C hA G (k_seesOf zl D cI ad M k4 hR (by omega)) (cwV 1 C.2.2.2.2.1 gX9_whoSees_X9_seesOf rfl rfl rfl (by decide +kernel) ⟨Nat.le_of_ble_eq_true rfl, Nat.le_of_ble_eq_true rfl⟩) rfl hl.1 rfl (Nat.le_of_ble_eq_true rfl) dX9_whoSees_18 ⟨Nat.le_refl _, Nat.le_refl _⟩ (fun H locs G => ?_)
      refine lv_iload_n hx hb dX9_whoSees_21 rfl (lv_at hl 1 rfl) ?_
      refine mr_calls C hA G (ks_has zl (mF_seesOf M k4) c) (va_cwS 2 C.2.2.2.2.1 gX9_whoSees_X9_has rfl rfl rfl (by decide +kernel) ⟨Nat.le_of_ble_eq_true rfl, Nat.le_of_ble_eq_true rfl⟩) rfl hl.1 rfl (Nat.le_of_ble_eq_true rfl) dX9_whoSees_22 ⟨Nat.le_refl _, Nat.le_refl _⟩ (fun H locs G => ?_)
      obtain ⟨y35, hX35⟩ : ∃ (y35 : Int32), y35 = ((if (sF_has (mF_seesOf M k4) c) = 0 then 0 else (1 <<< ((nI k4) &&& 31))) : Int32) := ⟨_, rfl⟩
      rw [lt_e hX35] at hS
      have hj35 : ∀ (H : Heap) (locs : List Loc) (ls : Array Slot), lv_has ls 4 [(0, .ref (ad 0)), (1, .int c), (2, .int v2_4), (3, .int (nI k4))] → mG D cI ad zA H0 H locs M → W zp zl ze ({ frames := 53, cells := 0, slots := 0, locals := 1188 } : Room) zs zm zg zb zt zc H locs 0 0 zQ (F0 zm 35 ls [.int y35, .int v2_4]) := by
        intro H locs ls hl G
        refine lv_ior hx hb dX9_whoSees_35 ?_
        refine lv_topi (fun x36 hx36 => ?_)
        rw [lt_e hx36] at hS
        refine lv_istore_n (lv' := [(2, .int x36), (0, .ref (ad 0)), (1, .int c), (3, .int (nI k4))]) hx hb dX9_whoSees_36 rfl hl (by decide) rfl (fun ls hl => ?_)
        refine lv_iinc (v := nI (k4 + 1)) (lv' := [(3, .int (nI (k4 + 1))), (2, .int x36), (0, .ref (ad 0)), (1, .int c)]) hx hb dX9_whoSees_37 hl (k := 3) rfl (nt_add rfl (show (1 : Int32) = nI 1 from rfl)) (by decide) rfl (fun ls hl => ?_)
        refine lv_goto (tgt := 4) hx hb dX9_whoSees_40 (by decide) ?_
        subst hS
        exact ih (k4 + 1) (by omega) _ hS0 _ _ _ (lv_sub hl [2, 3, 1, 0] rfl) G
      refine lv_if_eq (tgt := 34) hx hb dX9_whoSees_25 (by decide) (fun c25 => ?_) (fun c25 => ?_)
      · rw [if_pos c25] at hX35
        refine lv_iconst (v := 0) hx hb dX9_whoSees_34 (by decide) ?_
        subst hX35
        exact hj35 _ _ _ (lv_sub hl [0, 1, 2, 3] rfl) G
      · rw [if_neg c25] at hX35
        refine lv_iconst (v := 1) hx hb dX9_whoSees_28 (by decide) ?_
        refine lv_iload_n hx hb dX9_whoSees_29 rfl (lv_at hl 3 rfl) ?_
        refine lv_ishl hx hb dX9_whoSees_30 ?_
        refine lv_goto (tgt := 35) hx hb dX9_whoSees_31 (by decide) ?_
        subst hX35
        exact hj35 _ _ _ (lv_sub hl [0, 1, 2, 3] rfl) G
  exact hloop4 _ 0 (Nat.add_zero _) _ rfl _ _ _ (lv_sub hl [2, 3, 1, 0] rfl) G
set_option maxRecDepth 100000 in
set_option maxHeartbeats 4000000 in
theorem k_ofCell (zl : Launch) (D : va_G) (cI : ClassId) (ad : Nat → Nat) (M : mS) (c : Int32) (what : Int32) (hR : rOK M) : mM zl D cI ad yX9_ofCell wsX9_ofCell ({ frames := 54, cells := 0, slots := 0, locals := 1211 } : Room) [.int c, .int what] M (mF_ofCell M c what) := by
  have hin : ∀ w ∈ wsX90, w ∈ wsX9_ofCell := fun w h => List.mem_cons_of_mem _ (List.mem_append_right _ h)
  refine mM_of (cc := cX9_ofCell) (nL := 3) (by decide) rfl rfl (Nat.le_of_ble_eq_true rfl) ?_
  intro zp ze zs zm zg zb zt zc zA H0 zQ C hA hret H locs ls hl G
  have hx := C.1
  have hb := C.2.1
  have hl : lv_has ls 3 [(0, .ref (ad 0)), (1, .int c), (2, .int what)] := hl
  obtain ⟨rM, hF⟩ : ∃ X : Int32 × mS, X = mF_ofCell M c what := ⟨_, rfl⟩
  rw [← hF] at hret
  unfold mF_ofCell at hF
  have hC := hR.1
  have hP := hR.2.1
  have hK := hR.2.2.1
  have hA9 := hR.2.2.2.1
  have hS := hR.2.2.2.2
  have hC2 := hC.2.1
  have hC3 := hC.2.2
  have hP2 := hP.2
  refine lv_aload_n hx hb dX9_ofCell_0 rfl (lv_at hl 0 rfl) ?_
  refine lv_iload_n hx hb dX9_ofCell_1 rfl (lv_at hl 1 rfl) ?_
  refine mr_calli C hA G (k_isCell zl D cI ad M c) (cwV 1 C.2.2.2.2.1 gX9_ofCell_X9_isCell rfl rfl rfl (by decide +kernel) ⟨Nat.le_of_ble_eq_true rfl, Nat.le_of_ble_eq_true rfl⟩) rfl hl.1 rfl (Nat.le_of_ble_eq_true rfl) dX9_ofCell_2 ⟨Nat.le_refl _, Nat.le_refl _⟩ (fun H locs G => ?_)
  refine lv_if_eq (tgt := 17) hx hb dX9_ofCell_5 (by decide) (fun c5 => ?_) (fun c5 => ?_)
  · rw [if_pos c5] at hF
    refine lv_aload_n hx hb dX9_ofCell_17 rfl (lv_at hl 0 rfl) ?_
    refine lv_ldc (v := -1000000001) hx hb C.2.2.2.1 (C.2.2.2.2.1 (.constant RX9 58 (-1000000001)) (by decide +kernel)) dX9_ofCell_18 ?_
    obtain ⟨x20, M20, hx20⟩ : ∃ (X : Int32) (Y : mS), (X, Y) = mF_errs M (-1000000001) := ⟨_, _, rfl⟩
    refine mr_calli (r0 := x20) (M2 := M20) C hA G (by rw [hx20]; exact (k_errs zl D cI ad M (-1000000001) (by unfold vp_in; decide))) (cwV 1 C.2.2.2.2.1 gX9_ofCell_X9_errs rfl rfl rfl (by decide +kernel) ⟨Nat.le_of_ble_eq_true rfl, Nat.le_of_ble_eq_true rfl⟩) rfl hl.1 rfl (Nat.le_of_ble_eq_true rfl) dX9_ofCell_20 ⟨Nat.le_refl _, Nat.le_refl _⟩ (fun H locs G => ?_)
    rw [lt2_e hx20] at hF
    exact hret _ _ _ _ _ _ hF G dX9_ofCell_23
  · rw [if_neg c5] at hF
    have hc := cell_of hC c5
    have hc2 := hc.2
    refine lv_iload_n hx hb dX9_ofCell_8 rfl (lv_at hl 2 rfl) ?_
    refine lv_iconst (v := 0) hx hb dX9_ofCell_9 (by decide) ?_
    refine lv_iconst (v := 3) hx hb dX9_ofCell_10 (by decide) ?_
    refine mr_calls C hA G (ks_in zl what 0 3) (va_cwS 3 C.2.2.2.2.1 gX9_ofCell_X9_in rfl rfl rfl (by decide +kernel) ⟨Nat.le_of_ble_eq_true rfl, Nat.le_of_ble_eq_true rfl⟩) rfl hl.1 rfl (Nat.le_of_ble_eq_true rfl) dX9_ofCell_11 ⟨Nat.le_refl _, Nat.le_refl _⟩ (fun H locs G => ?_)
    refine lv_if_ne (tgt := 24) hx hb dX9_ofCell_14 (by decide) (fun c14 => ?_) (fun c14 => ?_)
    · rw [if_neg c14] at hF
      refine lv_iload_n hx hb dX9_ofCell_24 rfl (lv_at hl 2 rfl) ?_
      refine lv_if_ne (tgt := 40) hx hb dX9_ofCell_25 (by decide) (fun c25 => ?_) (fun c25 => ?_)
      · rw [if_neg c25] at hF
        refine lv_iload_n hx hb dX9_ofCell_40 rfl (lv_at hl 2 rfl) ?_
        refine lv_iconst (v := 1) hx hb dX9_ofCell_41 (by decide) ?_
        refine lv_icmp_ne (tgt := 57) hx hb dX9_ofCell_42 (by decide) (fun c42 => ?_) (fun c42 => ?_)
        · rw [if_neg c42] at hF
          refine lv_iload_n hx hb dX9_ofCell_57 rfl (lv_at hl 2 rfl) ?_
          refine lv_iconst (v := 2) hx hb dX9_ofCell_58 (by decide) ?_
          refine lv_icmp_ne (tgt := 70) hx hb dX9_ofCell_59 (by decide) (fun c59 => ?_) (fun c59 => ?_)
          · rw [if_neg c59] at hF
            refine lv_aload_n hx hb dX9_ofCell_70 rfl (lv_at hl 0 rfl) ?_
            refine lv_iload_n hx hb dX9_ofCell_71 rfl (lv_at hl 1 rfl) ?_
            refine mr_calli C hA G (k_whoIsAt zl D cI ad M c hP) (cwV 1 C.2.2.2.2.1 gX9_ofCell_X9_whoIsAt rfl rfl rfl (by decide +kernel) ⟨Nat.le_of_ble_eq_true rfl, Nat.le_of_ble_eq_true rfl⟩) rfl hl.1 rfl (Nat.le_of_ble_eq_true rfl) dX9_ofCell_72 ⟨Nat.le_refl _, Nat.le_refl _⟩ (fun H locs G => ?_)
            exact hret _ _ _ _ _ _ hF G dX9_ofCell_75
          · rw [if_pos c59] at hF
            refine lv_aload_n hx hb dX9_ofCell_62 rfl (lv_at hl 0 rfl) ?_
            refine lv_iload_n hx hb dX9_ofCell_63 rfl (lv_at hl 1 rfl) ?_
            refine mr_calli C hA G (k_whoSees zl D cI ad M c hR) (cwV 1 C.2.2.2.2.1 gX9_ofCell_X9_whoSees rfl rfl rfl (by decide +kernel) ⟨Nat.le_of_ble_eq_true rfl, Nat.le_of_ble_eq_true rfl⟩) rfl hl.1 rfl (Nat.le_of_ble_eq_true rfl) dX9_ofCell_64 ⟨Nat.le_refl _, Nat.le_refl _⟩ (fun H locs G => ?_)
            refine lv_goto (tgt := 75) hx hb dX9_ofCell_67 (by decide) ?_
            exact hret _ _ _ _ _ _ hF G dX9_ofCell_75
        · rw [if_pos c42] at hF
          refine lv_aload_n hx hb dX9_ofCell_45 rfl (lv_at hl 0 rfl) ?_
          refine mr_get C G hin 0 (by decide) rfl (show Cond.fieldLink RX9 7 "WheatCountsModel" "row" "[I" ∈ _ by decide +kernel) (fun _ => rfl) dX9_ofCell_46 ?_
          refine lv_bipush (v := 22) hx hb dX9_ofCell_49 (by decide) ?_
          refine lv_iload_n hx hb dX9_ofCell_51 rfl (lv_at hl 1 rfl) ?_
          refine lv_iadd hx hb dX9_ofCell_52 ?_
          refine mr_ald C G 1 (fun _ => rfl) (22 + (vn c)) (nt_add rfl hc.1) (by omega) (Nat.le_of_ble_eq_true rfl) dX9_ofCell_53 ?_
          refine lv_goto (tgt := 75) hx hb dX9_ofCell_54 (by decide) ?_
          exact hret _ _ _ _ _ _ hF G dX9_ofCell_75
      · rw [if_pos c25] at hF
        refine lv_aload_n hx hb dX9_ofCell_28 rfl (lv_at hl 0 rfl) ?_
        refine mr_get C G hin 0 (by decide) rfl (show Cond.fieldLink RX9 7 "WheatCountsModel" "row" "[I" ∈ _ by decide +kernel) (fun _ => rfl) dX9_ofCell_29 ?_
        refine lv_bipush (v := 12) hx hb dX9_ofCell_32 (by decide) ?_
        refine lv_iload_n hx hb dX9_ofCell_34 rfl (lv_at hl 1 rfl) ?_
        refine lv_iadd hx hb dX9_ofCell_35 ?_
        refine mr_ald C G 1 (fun _ => rfl) (12 + (vn c)) (nt_add rfl hc.1) (by omega) (Nat.le_of_ble_eq_true rfl) dX9_ofCell_36 ?_
        refine lv_goto (tgt := 75) hx hb dX9_ofCell_37 (by decide) ?_
        exact hret _ _ _ _ _ _ hF G dX9_ofCell_75
    · rw [if_pos c14] at hF
      refine lv_aload_n hx hb dX9_ofCell_17 rfl (lv_at hl 0 rfl) ?_
      refine lv_ldc (v := -1000000001) hx hb C.2.2.2.1 (C.2.2.2.2.1 (.constant RX9 58 (-1000000001)) (by decide +kernel)) dX9_ofCell_18 ?_
      obtain ⟨x20, M20, hx20⟩ : ∃ (X : Int32) (Y : mS), (X, Y) = mF_errs M (-1000000001) := ⟨_, _, rfl⟩
      refine mr_calli (r0 := x20) (M2 := M20) C hA G (by rw [hx20]; exact (k_errs zl D cI ad M (-1000000001) (by unfold vp_in; decide))) (cwV 1 C.2.2.2.2.1 gX9_ofCell_X9_errs rfl rfl rfl (by decide +kernel) ⟨Nat.le_of_ble_eq_true rfl, Nat.le_of_ble_eq_true rfl⟩) rfl hl.1 rfl (Nat.le_of_ble_eq_true rfl) dX9_ofCell_20 ⟨Nat.le_refl _, Nat.le_refl _⟩ (fun H locs G => ?_)
      rw [lt2_e hx20] at hF
      exact hret _ _ _ _ _ _ hF G dX9_ofCell_23
set_option maxRecDepth 100000 in
set_option maxHeartbeats 4000000 in
theorem k_ofPerson (zl : Launch) (D : va_G) (cI : ClassId) (ad : Nat → Nat) (M : mS) (q : Int32) (what : Int32) (hR : rOK M) : mM zl D cI ad yX9_ofPerson wsX9_ofPerson ({ frames := 53, cells := 0, slots := 0, locals := 1188 } : Room) [.int q, .int what] M (mF_ofPerson M q what) := by
  have hin : ∀ w ∈ wsX90, w ∈ wsX9_ofPerson := fun w h => List.mem_cons_of_mem _ (List.mem_append_right _ h)
  refine mM_of (cc := cX9_ofPerson) (nL := 3) (by decide) rfl rfl (Nat.le_of_ble_eq_true rfl) ?_
  intro zp ze zs zm zg zb zt zc zA H0 zQ C hA hret H locs ls hl G
  have hx := C.1
  have hb := C.2.1
  have hl : lv_has ls 3 [(0, .ref (ad 0)), (1, .int q), (2, .int what)] := hl
  obtain ⟨rM, hF⟩ : ∃ X : Int32 × mS, X = mF_ofPerson M q what := ⟨_, rfl⟩
  rw [← hF] at hret
  unfold mF_ofPerson at hF
  have hC := hR.1
  have hP := hR.2.1
  have hK := hR.2.2.1
  have hA9 := hR.2.2.2.1
  have hS := hR.2.2.2.2
  have hC2 := hC.2.1
  have hC3 := hC.2.2
  have hP2 := hP.2
  refine lv_aload_n hx hb dX9_ofPerson_0 rfl (lv_at hl 0 rfl) ?_
  refine lv_iload_n hx hb dX9_ofPerson_1 rfl (lv_at hl 1 rfl) ?_
  refine mr_calli C hA G (k_isPerson zl D cI ad M q) (cwV 1 C.2.2.2.2.1 gX9_ofPerson_X9_isPerson rfl rfl rfl (by decide +kernel) ⟨Nat.le_of_ble_eq_true rfl, Nat.le_of_ble_eq_true rfl⟩) rfl hl.1 rfl (Nat.le_of_ble_eq_true rfl) dX9_ofPerson_2 ⟨Nat.le_refl _, Nat.le_refl _⟩ (fun H locs G => ?_)
  refine lv_if_eq (tgt := 18) hx hb dX9_ofPerson_5 (by decide) (fun c5 => ?_) (fun c5 => ?_)
  · rw [if_pos c5] at hF
    refine lv_aload_n hx hb dX9_ofPerson_18 rfl (lv_at hl 0 rfl) ?_
    refine lv_ldc (v := -1000000001) hx hb C.2.2.2.1 (C.2.2.2.2.1 (.constant RX9 58 (-1000000001)) (by decide +kernel)) dX9_ofPerson_19 ?_
    obtain ⟨x21, M21, hx21⟩ : ∃ (X : Int32) (Y : mS), (X, Y) = mF_errs M (-1000000001) := ⟨_, _, rfl⟩
    refine mr_calli (r0 := x21) (M2 := M21) C hA G (by rw [hx21]; exact (k_errs zl D cI ad M (-1000000001) (by unfold vp_in; decide))) (cwV 1 C.2.2.2.2.1 gX9_ofPerson_X9_errs rfl rfl rfl (by decide +kernel) ⟨Nat.le_of_ble_eq_true rfl, Nat.le_of_ble_eq_true rfl⟩) rfl hl.1 rfl (Nat.le_of_ble_eq_true rfl) dX9_ofPerson_21 ⟨Nat.le_refl _, Nat.le_refl _⟩ (fun H locs G => ?_)
    rw [lt2_e hx21] at hF
    exact hret _ _ _ _ _ _ hF G dX9_ofPerson_24
  · rw [if_neg c5] at hF
    have hp := person_of hP c5
    have hp2 := hp.2
    refine lv_iload_n hx hb dX9_ofPerson_8 rfl (lv_at hl 2 rfl) ?_
    refine lv_iconst (v := 0) hx hb dX9_ofPerson_9 (by decide) ?_
    refine lv_bipush (v := 7) hx hb dX9_ofPerson_10 (by decide) ?_
    refine mr_calls C hA G (ks_in zl what 0 7) (va_cwS 3 C.2.2.2.2.1 gX9_ofPerson_X9_in rfl rfl rfl (by decide +kernel) ⟨Nat.le_of_ble_eq_true rfl, Nat.le_of_ble_eq_true rfl⟩) rfl hl.1 rfl (Nat.le_of_ble_eq_true rfl) dX9_ofPerson_12 ⟨Nat.le_refl _, Nat.le_refl _⟩ (fun H locs G => ?_)
    refine lv_if_ne (tgt := 25) hx hb dX9_ofPerson_15 (by decide) (fun c15 => ?_) (fun c15 => ?_)
    · rw [if_neg c15] at hF
      have hw := in_nat (n := 7) c15 ⟨rfl, by decide⟩
      have hw2 := hw.2
      refine lv_iload_n hx hb dX9_ofPerson_25 rfl (lv_at hl 2 rfl) ?_
      by_cases c26_4 : what = 4
      · rw [if_pos c26_4] at hF
        refine lv_tableIn (off := 30) (tgt := 56) hx hb dX9_ofPerson_26 (by rw [c26_4]; decide) (by rw [c26_4]; decide) (by rw [c26_4]; rfl) (by decide) ?_
        refine lv_aload_n hx hb dX9_ofPerson_56 rfl (lv_at hl 0 rfl) ?_
        refine lv_iload_n hx hb dX9_ofPerson_57 rfl (lv_at hl 1 rfl) ?_
        refine mr_calli C hA G (k_sight zl D cI ad M (vn q) hR (by omega)) (cwV 1 C.2.2.2.2.1 gX9_ofPerson_X9_sight rfl rfl rfl (by decide +kernel) ⟨Nat.le_of_ble_eq_true rfl, Nat.le_of_ble_eq_true rfl⟩) rfl hl.1 (cons_int hp.1 rfl) (Nat.le_of_ble_eq_true rfl) dX9_ofPerson_58 ⟨Nat.le_refl _, Nat.le_refl _⟩ (fun H locs G => ?_)
        exact hret _ _ _ _ _ _ hF G dX9_ofPerson_61
      · rw [if_neg c26_4] at hF
        by_cases c26_5 : what = 5
        · rw [if_pos c26_5] at hF
          refine lv_tableIn (off := 36) (tgt := 62) hx hb dX9_ofPerson_26 (by rw [c26_5]; decide) (by rw [c26_5]; decide) (by rw [c26_5]; rfl) (by decide) ?_
          refine lv_aload_n hx hb dX9_ofPerson_62 rfl (lv_at hl 0 rfl) ?_
          refine lv_iload_n hx hb dX9_ofPerson_63 rfl (lv_at hl 1 rfl) ?_
          refine mr_calli C hA G (k_counts zl D cI ad M (vn q) (by omega)) (cwV 1 C.2.2.2.2.1 gX9_ofPerson_X9_counts rfl rfl rfl (by decide +kernel) ⟨Nat.le_of_ble_eq_true rfl, Nat.le_of_ble_eq_true rfl⟩) rfl hl.1 (cons_int hp.1 rfl) (Nat.le_of_ble_eq_true rfl) dX9_ofPerson_64 ⟨Nat.le_refl _, Nat.le_refl _⟩ (fun H locs G => ?_)
          exact hret _ _ _ _ _ _ hF G dX9_ofPerson_67
        · rw [if_neg c26_5] at hF
          by_cases c26_6 : what = 6
          · rw [if_pos c26_6] at hF
            refine lv_tableIn (off := 42) (tgt := 68) hx hb dX9_ofPerson_26 (by rw [c26_6]; decide) (by rw [c26_6]; decide) (by rw [c26_6]; rfl) (by decide) ?_
            refine lv_aload_n hx hb dX9_ofPerson_68 rfl (lv_at hl 0 rfl) ?_
            refine lv_iload_n hx hb dX9_ofPerson_69 rfl (lv_at hl 1 rfl) ?_
            refine mr_calli C hA G (k_takes zl D cI ad M (vn q) hR (by omega)) (cwV 1 C.2.2.2.2.1 gX9_ofPerson_X9_takes rfl rfl rfl (by decide +kernel) ⟨Nat.le_of_ble_eq_true rfl, Nat.le_of_ble_eq_true rfl⟩) rfl hl.1 (cons_int hp.1 rfl) (Nat.le_of_ble_eq_true rfl) dX9_ofPerson_70 ⟨Nat.le_refl _, Nat.le_refl _⟩ (fun H locs G => ?_)
            exact hret _ _ _ _ _ _ hF G dX9_ofPerson_73
          · rw [if_neg c26_6] at hF
            by_cases c26_7 : what = 7
            · rw [if_pos c26_7] at hF
              refine lv_tableIn (off := 48) (tgt := 74) hx hb dX9_ofPerson_26 (by rw [c26_7]; decide) (by rw [c26_7]; decide) (by rw [c26_7]; rfl) (by decide) ?_
              refine lv_aload_n hx hb dX9_ofPerson_74 rfl (lv_at hl 0 rfl) ?_
              refine lv_iload_n hx hb dX9_ofPerson_75 rfl (lv_at hl 1 rfl) ?_
              refine mr_calli C hA G (k_seesOf zl D cI ad M (vn q) hR (by omega)) (cwV 1 C.2.2.2.2.1 gX9_ofPerson_X9_seesOf rfl rfl rfl (by decide +kernel) ⟨Nat.le_of_ble_eq_true rfl, Nat.le_of_ble_eq_true rfl⟩) rfl hl.1 (cons_int hp.1 rfl) (Nat.le_of_ble_eq_true rfl) dX9_ofPerson_76 ⟨Nat.le_refl _, Nat.le_refl _⟩ (fun H locs G => ?_)
              exact hret _ _ _ _ _ _ hF G dX9_ofPerson_79
            · rw [if_neg c26_7] at hF
              refine lv_tableOut (tgt := 80) hx hb dX9_ofPerson_26 (sw_out (fun i h1 h2 => by rcases (show i = 4 ∨ i = 5 ∨ i = 6 ∨ i = 7 by omega) with rfl | rfl | rfl | rfl <;> first | exact fun e9 => c26_4 (Int32.toInt_inj.mp e9) | exact fun e9 => c26_5 (Int32.toInt_inj.mp e9) | exact fun e9 => c26_6 (Int32.toInt_inj.mp e9) | exact fun e9 => c26_7 (Int32.toInt_inj.mp e9))) (by decide) ?_
              refine lv_aload_n hx hb dX9_ofPerson_80 rfl (lv_at hl 0 rfl) ?_
              refine lv_iload_n hx hb dX9_ofPerson_81 rfl (lv_at hl 1 rfl) ?_
              refine lv_iload_n hx hb dX9_ofPerson_82 rfl (lv_at hl 2 rfl) ?_
              refine mr_calli C hA G (k_its zl D cI ad M (vn q) (vn what) (by first | assumption | omega)) (cwV 2 C.2.2.2.2.1 gX9_ofPerson_X9_its rfl rfl rfl (by decide +kernel) ⟨Nat.le_of_ble_eq_true rfl, Nat.le_of_ble_eq_true rfl⟩) rfl hl.1 (cons_int hw.1 (cons_int hp.1 rfl)) (Nat.le_of_ble_eq_true rfl) dX9_ofPerson_83 ⟨Nat.le_refl _, Nat.le_refl _⟩ (fun H locs G => ?_)
              exact hret _ _ _ _ _ _ hF G dX9_ofPerson_86
    · rw [if_pos c15] at hF
      refine lv_aload_n hx hb dX9_ofPerson_18 rfl (lv_at hl 0 rfl) ?_
      refine lv_ldc (v := -1000000001) hx hb C.2.2.2.1 (C.2.2.2.2.1 (.constant RX9 58 (-1000000001)) (by decide +kernel)) dX9_ofPerson_19 ?_
      obtain ⟨x21, M21, hx21⟩ : ∃ (X : Int32) (Y : mS), (X, Y) = mF_errs M (-1000000001) := ⟨_, _, rfl⟩
      refine mr_calli (r0 := x21) (M2 := M21) C hA G (by rw [hx21]; exact (k_errs zl D cI ad M (-1000000001) (by unfold vp_in; decide))) (cwV 1 C.2.2.2.2.1 gX9_ofPerson_X9_errs rfl rfl rfl (by decide +kernel) ⟨Nat.le_of_ble_eq_true rfl, Nat.le_of_ble_eq_true rfl⟩) rfl hl.1 rfl (Nat.le_of_ble_eq_true rfl) dX9_ofPerson_21 ⟨Nat.le_refl _, Nat.le_refl _⟩ (fun H locs G => ?_)
      rw [lt2_e hx21] at hF
      exact hret _ _ _ _ _ _ hF G dX9_ofPerson_24
set_option maxRecDepth 100000 in
set_option maxHeartbeats 4000000 in
theorem k_looks (zl : Launch) (D : va_G) (cI : ClassId) (ad : Nat → Nat) (M : mS) (hR : rOK M) : mMv zl D cI ad yX9_looks wsX9_looks ({ frames := 53, cells := 0, slots := 0, locals := 1188 } : Room) [] M (mF_looks M) := by
  have hin : ∀ w ∈ wsX90, w ∈ wsX9_looks := fun w h => List.mem_cons_of_mem _ (List.mem_append_right _ h)
  refine mMv_of (cc := cX9_looks) (nL := 2) (by decide) rfl rfl (Nat.le_of_ble_eq_true rfl) ?_
  intro zp ze zs zm zg zb zt zc zA H0 zQ C hA hret H locs ls hl G
  have hx := C.1
  have hb := C.2.1
  have hl : lv_has ls 2 [(0, .ref (ad 0))] := hl
  obtain ⟨rM, hF⟩ : ∃ X : mS, X = mF_looks M := ⟨_, rfl⟩
  rw [← hF] at hret
  unfold mF_looks at hF
  have hC := hR.1
  have hP := hR.2.1
  have hK := hR.2.2.1
  have hA9 := hR.2.2.2.1
  have hS := hR.2.2.2.2
  have hC2 := hC.2.1
  have hC3 := hC.2.2
  have hP2 := hP.2
  refine lv_iconst (v := 0) hx hb dX9_looks_0 (by decide) ?_
  refine lv_istore_n (lv' := [(1, .int 0), (0, .ref (ad 0))]) hx hb dX9_looks_1 rfl hl (by decide) rfl (fun ls hl => ?_)
  obtain ⟨M2x, hX2⟩ : ∃ (M2x : mS), M2x = mF_looks_L2 M (vn (M 1 8)) := ⟨_, rfl⟩
  rw [lt_e hX2] at hF
  have hrest2 : ∀ (H : Heap) (locs : List Loc) (ls : Array Slot), lv_has ls 2 [(0, .ref (ad 0)), (1, .int (nI (vn (M 1 8))))] → mG D cI ad zA H0 H locs M2x → W zp zl ze ({ frames := 53, cells := 0, slots := 0, locals := 1188 } : Room) zs zm zg zb zt zc H locs 0 0 zQ (F0 zm 30 ls []) := by
    intro H locs ls hl G
    exact hret _ _ _ _ _ hF G dX9_looks_30
  have hloop2 : ∀ (j k2 : Nat), j + k2 = vn (M 1 8) → ∀ (M2 : mS), M2 = mF_looks_L2 M k2 → ∀ (H : Heap) (locs : List Loc) (ls : Array Slot), lv_has ls 2 [(0, .ref (ad 0)), (1, .int (nI k2))] → mG D cI ad zA H0 H locs M2 → W zp zl ze ({ frames := 53, cells := 0, slots := 0, locals := 1188 } : Room) zs zm zg zb zt zc H locs 0 0 zQ (F0 zm 2 ls []) := by
    intro j
    induction j with
    | zero =>
      intro k2 hk M2 hL H locs ls hl G
      have hk : k2 = vn (M 1 8) := by omega
      rw [hk] at hL hl
      have hr2 : M2 1 = M 1 := by rw [hL]; exact lk_row _ _ 1 (by decide)
      refine lv_iload_n hx hb dX9_looks_2 rfl (lv_at hl 1 rfl) ?_
      refine lv_aload_n hx hb dX9_looks_3 rfl (lv_at hl 0 rfl) ?_
      refine mr_get C G hin 0 (by decide) rfl (show Cond.fieldLink RX9 7 "WheatCountsModel" "row" "[I" ∈ _ by decide +kernel) (fun _ => rfl) dX9_looks_4 ?_
      refine lv_bipush (v := 8) hx hb dX9_looks_7 (by decide) ?_
      refine mr_ald C G 1 (fun _ => rfl) 8 rfl (by omega) (Nat.le_of_ble_eq_true rfl) dX9_looks_9 ?_
      refine lv_icmp_ge (tgt := 30) hx hb dX9_looks_10 (by decide) (fun c10 => ?_) (fun c10 => absurd (lp_out (n := vn (M 1 8)) (by rw [hr2]; exact hP.1)) c10)
      obtain rfl := hL.trans hX2.symm
      exact hrest2 _ _ _ (lv_sub hl [0, 1] rfl) G
    | succ j ih =>
      intro k2 hk M2 hL H locs ls hl G
      have hkn : k2 < vn (M 1 8) := by omega
      obtain ⟨M2s, hS0⟩ : ∃ (M2s : mS), M2s = mF_looks_L2 M (k2 + 1) := ⟨_, rfl⟩
      have hS := hS0
      rw [mF_looks_L2_s, lt_e hL] at hS
      have hr2 : M2 1 = M 1 := by rw [hL]; exact lk_row _ _ 1 (by decide)
      have hR2 : rOK M2 := rOK_row hr2 hR
      refine lv_iload_n hx hb dX9_looks_2 rfl (lv_at hl 1 rfl) ?_
      refine lv_aload_n hx hb dX9_looks_3 rfl (lv_at hl 0 rfl) ?_
      refine mr_get C G hin 0 (by decide) rfl (show Cond.fieldLink RX9 7 "WheatCountsModel" "row" "[I" ∈ _ by decide +kernel) (fun _ => rfl) dX9_looks_4 ?_
      refine lv_bipush (v := 8) hx hb dX9_looks_7 (by decide) ?_
      refine mr_ald C G 1 (fun _ => rfl) 8 rfl (by omega) (Nat.le_of_ble_eq_true rfl) dX9_looks_9 ?_
      refine lv_icmp_ge (tgt := 30) hx hb dX9_looks_10 (by decide) (fun c10 => absurd c10 (lp_in (n := vn (M 1 8)) (by rw [hr2]; exact hP.1) hkn (by omega))) (fun c10 => ?_)
      refine lv_aload_n hx hb dX9_looks_13 rfl (lv_at hl 0 rfl) ?_
      refine mr_get C G hin 22 (by decide) rfl (show Cond.fieldLink RX9 47 "WheatCountsModel" "seen" "[I" ∈ _ by decide +kernel) (fun _ => rfl) dX9_looks_14 ?_
      refine lv_iload_n hx hb dX9_looks_17 rfl (lv_at hl 1 rfl) ?_
      refine lv_aload_n hx hb dX9_looks_18 rfl (lv_at hl 0 rfl) ?_
      refine lv_iload_n hx hb dX9_looks_19 rfl (lv_at hl 1 rfl) ?_
      refine mr_calli C hA G (k_seesOf zl D cI ad M2 k2 hR2 (by omega)) (cwV 1 C.2.2.2.2.1 gX9_looks_X9_seesOf rfl rfl rfl (by decide +kernel) ⟨Nat.le_of_ble_eq_true rfl, Nat.le_of_ble_eq_true rfl⟩) rfl hl.1 rfl (Nat.le_of_ble_eq_true rfl) dX9_looks_20 ⟨Nat.le_refl _, Nat.le_refl _⟩ (fun H locs G => ?_)
      refine mr_ast C G 12 (fun _ => rfl) k2 rfl (by omega) (Nat.le_of_ble_eq_true rfl) (fun _ => rfl) dX9_looks_23 (fun H locs G => ?_)
      obtain ⟨M23, hM23⟩ : ∃ X : mS, X = mU M2 12 k2 (mF_seesOf M2 k2) := ⟨_, rfl⟩
      rw [← hM23] at G
      rw [lt_e hM23] at hS
      refine lv_iinc (v := nI (k2 + 1)) (lv' := [(1, .int (nI (k2 + 1))), (0, .ref (ad 0))]) hx hb dX9_looks_24 hl (k := 1) rfl (nt_add rfl (show (1 : Int32) = nI 1 from rfl)) (by decide) rfl (fun ls hl => ?_)
      refine lv_goto (tgt := 2) hx hb dX9_looks_27 (by decide) ?_
      subst hS
      exact ih (k2 + 1) (by omega) _ hS0 _ _ _ (lv_sub hl [1, 0] rfl) G
  exact hloop2 _ 0 (Nat.add_zero _) _ rfl _ _ _ (lv_sub hl [1, 0] rfl) G
set_option maxRecDepth 100000 in
set_option maxHeartbeats 4000000 in
theorem k_grows (zl : Launch) (D : va_G) (cI : ClassId) (ad : Nat → Nat) (M : mS) (s : Nat) (set : Int32) (hR : rOK M) (hs : s < 4) : mM zl D cI ad yX9_grows wsX9_grows ({ frames := 2, cells := 0, slots := 0, locals := 43 } : Room) [.int (nI s), .int set] M ((mF_grows M s set, M)) := by
  have hin : ∀ w ∈ wsX90, w ∈ wsX9_grows := fun w h => List.mem_cons_of_mem _ (List.mem_append_right _ h)
  refine mM_ofZ (cc := cX9_grows) (nL := 7) (by decide) rfl rfl (Nat.le_of_ble_eq_true rfl) ?_
  intro zp ze zs zm zg zb zt zc zA H0 zQ C hA hret H locs ls hl G
  have hx := C.1
  have hb := C.2.1
  have hl : lv_has ls 7 [(0, .ref (ad 0)), (1, .int (nI s)), (2, .int set)] := hl
  obtain ⟨rM, hF⟩ : ∃ X : Int32, X = mF_grows M s set := ⟨_, rfl⟩
  rw [← hF] at hret
  unfold mF_grows at hF
  have hC := hR.1
  have hP := hR.2.1
  have hK := hR.2.2.1
  have hA9 := hR.2.2.2.1
  have hS := hR.2.2.2.2
  have hC2 := hC.2.1
  have hC3 := hC.2.2
  have hP2 := hP.2
  refine lv_iconst (v := 1) hx hb dX9_grows_0 (by decide) ?_
  refine lv_istore_n (lv' := [(3, .int 1), (0, .ref (ad 0)), (1, .int (nI s)), (2, .int set)]) hx hb dX9_grows_1 rfl hl (by decide) rfl (fun ls hl => ?_)
  refine lv_iconst (v := 0) hx hb dX9_grows_2 (by decide) ?_
  refine lv_istore (lv' := [(4, .int 0), (3, .int 1), (0, .ref (ad 0)), (1, .int (nI s)), (2, .int set)]) hx hb dX9_grows_3 hl (by decide) rfl (fun ls hl => ?_)
  obtain ⟨kax, v3_5x, hX5⟩ : ∃ (kax : Nat) (v3_5x : Int32), (kax, v3_5x) = mF_grows_L5 M s set fu11 0 1 := ⟨_, _, rfl⟩
  rw [lt2_e hX5] at hF
  have hR5 : v3_5x = 0 ∨ v3_5x = 1 := gr_01 hX5
  have hrest5 : ∀ (H : Heap) (locs : List Loc) (ls : Array Slot), lv_has ls 7 [(0, .ref (ad 0)), (1, .int (nI s)), (2, .int set), (3, .int v3_5x), (4, .int (nI kax))] → mG D cI ad zA H0 H locs M → W zp zl ze ({ frames := 2, cells := 0, slots := 0, locals := 43 } : Room) zs zm zg zb zt zc H locs 0 0 zQ (F0 zm 114 ls []) := by
    intro H locs ls hl G
    have hz : v3_5x = 0 ∨ v3_5x = 1 := hR5
    refine lv_iload_n hx hb dX9_grows_114 rfl (lv_at hl 3 rfl) ?_
    exact hret _ _ _ _ _ _ (by rw [hF]) G (by first | exact Or.inl rfl | exact Or.inr rfl | assumption) dX9_grows_115
  have hloop5 : ∀ (f : Nat) (ka : Nat) (v3_5 : Int32), (ka ≤ 10 ∧ 10 < ka + f) → (kax, v3_5x) = mF_grows_L5 M s set f ka v3_5 → ∀ (H : Heap) (locs : List Loc) (ls : Array Slot), lv_has ls 7 [(0, .ref (ad 0)), (1, .int (nI s)), (2, .int set), (3, .int v3_5), (4, .int (nI ka))] → mG D cI ad zA H0 H locs M → W zp zl ze ({ frames := 2, cells := 0, slots := 0, locals := 43 } : Room) zs zm zg zb zt zc H locs 0 0 zQ (F0 zm 5 ls []) := by
    intro f
    induction f with
    | zero =>
      intro ka v3_5 hI hL5 H locs ls hl G
      exact absurd hI (by omega)
    | succ f ih =>
      intro ka v3_5 hI hL5 H locs ls hl G
      rw [mF_grows_L5_s] at hL5
      refine lv_iload hx hb dX9_grows_5 (lv_at hl 4 rfl) ?_
      refine lv_aload_n hx hb dX9_grows_7 rfl (lv_at hl 0 rfl) ?_
      refine mr_get C G hin 0 (by decide) rfl (show Cond.fieldLink RX9 7 "WheatCountsModel" "row" "[I" ∈ _ by decide +kernel) (fun _ => rfl) dX9_grows_8 ?_
      refine lv_iconst (v := 3) hx hb dX9_grows_11 (by decide) ?_
      refine mr_ald C G 1 (fun _ => rfl) 3 rfl (by omega) (Nat.le_of_ble_eq_true rfl) dX9_grows_12 ?_
      refine lv_icmp_ge (tgt := 114) hx hb dX9_grows_13 (by decide) (fun c13 => ?_) (fun c13 => ?_)
      · rw [if_pos c13] at hL5
        cases hL5
        exact hrest5 _ _ _ (lv_sub hl [0, 1, 2, 3, 4] rfl) G
      · rw [if_neg c13] at hL5
        have hk1 := lp_lt hC.1 c13 (by omega)
        refine lv_iload_n hx hb dX9_grows_16 rfl (lv_at hl 3 rfl) ?_
        refine lv_if_eq (tgt := 114) hx hb dX9_grows_17 (by decide) (fun c17 => ?_) (fun c17 => ?_)
        · rw [if_pos c17] at hL5
          cases hL5
          exact hrest5 _ _ _ (lv_sub hl [0, 1, 2, 3, 4] rfl) G
        · rw [if_neg c17] at hL5
          refine lv_iconst (v := 0) hx hb dX9_grows_20 (by decide) ?_
          refine lv_istore (lv' := [(5, .int 0), (0, .ref (ad 0)), (1, .int (nI s)), (2, .int set), (3, .int v3_5), (4, .int (nI ka))]) hx hb dX9_grows_21 hl (by decide) rfl (fun ls hl => ?_)
          refine lv_iconst (v := 0) hx hb dX9_grows_23 (by decide) ?_
          refine lv_istore (lv' := [(6, .int 0), (5, .int 0), (0, .ref (ad 0)), (1, .int (nI s)), (2, .int set), (3, .int v3_5), (4, .int (nI ka))]) hx hb dX9_grows_24 hl (by decide) rfl (fun ls hl => ?_)
          obtain ⟨v5_26x, hX26⟩ : ∃ (v5_26x : Int32), v5_26x = mF_grows_L26 M set ka (vn (M 1 8)) := ⟨_, rfl⟩
          rw [lt_e hX26] at hL5
          have hrest26 : ∀ (H : Heap) (locs : List Loc) (ls : Array Slot), lv_has ls 7 [(0, .ref (ad 0)), (1, .int (nI s)), (2, .int set), (3, .int v3_5), (4, .int (nI ka)), (5, .int v5_26x), (6, .int (nI (vn (M 1 8))))] → mG D cI ad zA H0 H locs M → W zp zl ze ({ frames := 2, cells := 0, slots := 0, locals := 43 } : Room) zs zm zg zb zt zc H locs 0 0 zQ (F0 zm 83 ls []) := by
            intro H locs ls hl G
            refine lv_iload hx hb dX9_grows_83 (lv_at hl 5 rfl) ?_
            refine lv_iconst (v := 2) hx hb dX9_grows_85 (by decide) ?_
            refine lv_idiv hx hb dX9_grows_86 (by decide) ?_
            refine lv_aload_n hx hb dX9_grows_87 rfl (lv_at hl 0 rfl) ?_
            refine mr_get C G hin 20 (by decide) rfl (show Cond.fieldLink RX9 41 "WheatCountsModel" "sheets" "[I" ∈ _ by decide +kernel) (fun _ => rfl) dX9_grows_88 ?_
            refine lv_bipush (v := 40) hx hb dX9_grows_91 (by decide) ?_
            refine lv_iload_n hx hb dX9_grows_93 rfl (lv_at hl 1 rfl) ?_
            refine lv_imul hx hb dX9_grows_94 ?_
            refine lv_iload hx hb dX9_grows_95 (lv_at hl 4 rfl) ?_
            refine lv_iadd hx hb dX9_grows_97 ?_
            refine mr_ald C G 10 (fun _ => rfl) ((40 * s) + ka) (nt_add (nt_mul rfl rfl) rfl) (by omega) (Nat.le_of_ble_eq_true rfl) dX9_grows_98 ?_
            obtain ⟨y107, hX107⟩ : ∃ (y107 : Int32), y107 = ((if (v5_26x / 2) = (M 10 ((40 * s) + ka)) then 1 else 0) : Int32) := ⟨_, rfl⟩
            rw [lt_e hX107] at hL5
            have hj107 : ∀ (H : Heap) (locs : List Loc) (ls : Array Slot), lv_has ls 7 [(0, .ref (ad 0)), (1, .int (nI s)), (2, .int set), (3, .int v3_5), (4, .int (nI ka)), (5, .int v5_26x), (6, .int (nI (vn (M 1 8))))] → mG D cI ad zA H0 H locs M → W zp zl ze ({ frames := 2, cells := 0, slots := 0, locals := 43 } : Room) zs zm zg zb zt zc H locs 0 0 zQ (F0 zm 107 ls [.int y107]) := by
              intro H locs ls hl G
              refine lv_istore_n (lv' := [(3, .int y107), (0, .ref (ad 0)), (1, .int (nI s)), (2, .int set), (4, .int (nI ka)), (5, .int v5_26x), (6, .int (nI (vn (M 1 8))))]) hx hb dX9_grows_107 rfl hl (by decide) rfl (fun ls hl => ?_)
              refine lv_iinc (v := nI (ka + 1)) (lv' := [(4, .int (nI (ka + 1))), (3, .int y107), (0, .ref (ad 0)), (1, .int (nI s)), (2, .int set), (5, .int v5_26x), (6, .int (nI (vn (M 1 8))))]) hx hb dX9_grows_108 hl (k := 4) rfl (nt_add rfl (show (1 : Int32) = nI 1 from rfl)) (by decide) rfl (fun ls hl => ?_)
              refine lv_goto (tgt := 5) hx hb dX9_grows_111 (by decide) ?_
              exact ih (ka + 1) y107 ⟨by omega, by omega⟩ hL5 _ _ _ (lv_sub hl [2, 3, 4, 1, 0] rfl) G
            refine lv_icmp_ne (tgt := 106) hx hb dX9_grows_99 (by decide) (fun c99 => ?_) (fun c99 => ?_)
            · rw [if_neg c99] at hX107
              refine lv_iconst (v := 0) hx hb dX9_grows_106 (by decide) ?_
              subst hX107
              exact hj107 _ _ _ (lv_sub hl [0, 1, 2, 3, 4, 5, 6] rfl) G
            · rw [if_pos c99] at hX107
              refine lv_iconst (v := 1) hx hb dX9_grows_102 (by decide) ?_
              refine lv_goto (tgt := 107) hx hb dX9_grows_103 (by decide) ?_
              subst hX107
              exact hj107 _ _ _ (lv_sub hl [0, 1, 2, 3, 4, 5, 6] rfl) G
          have hloop26 : ∀ (j k26 : Nat), j + k26 = vn (M 1 8) → ∀ (v5_26 : Int32), v5_26 = mF_grows_L26 M set ka k26 → ∀ (H : Heap) (locs : List Loc) (ls : Array Slot), lv_has ls 7 [(0, .ref (ad 0)), (1, .int (nI s)), (2, .int set), (3, .int v3_5), (4, .int (nI ka)), (5, .int v5_26), (6, .int (nI k26))] → mG D cI ad zA H0 H locs M → W zp zl ze ({ frames := 2, cells := 0, slots := 0, locals := 43 } : Room) zs zm zg zb zt zc H locs 0 0 zQ (F0 zm 26 ls []) := by
            intro j
            induction j with
            | zero =>
              intro k26 hk v5_26 hL H locs ls hl G
              have hk : k26 = vn (M 1 8) := by omega
              rw [hk] at hL hl
              refine lv_iload hx hb dX9_grows_26 (lv_at hl 6 rfl) ?_
              refine lv_aload_n hx hb dX9_grows_28 rfl (lv_at hl 0 rfl) ?_
              refine mr_get C G hin 0 (by decide) rfl (show Cond.fieldLink RX9 7 "WheatCountsModel" "row" "[I" ∈ _ by decide +kernel) (fun _ => rfl) dX9_grows_29 ?_
              refine lv_bipush (v := 8) hx hb dX9_grows_32 (by decide) ?_
              refine mr_ald C G 1 (fun _ => rfl) 8 rfl (by omega) (Nat.le_of_ble_eq_true rfl) dX9_grows_34 ?_
              refine lv_icmp_ge (tgt := 83) hx hb dX9_grows_35 (by decide) (fun c35 => ?_) (fun c35 => absurd (lp_out (n := vn (M 1 8)) hP.1) c35)
              obtain rfl := hL.trans hX26.symm
              exact hrest26 _ _ _ (lv_sub hl [0, 1, 2, 3, 4, 5, 6] rfl) G
            | succ j ih =>
              intro k26 hk v5_26 hL H locs ls hl G
              have hkn : k26 < vn (M 1 8) := by omega
              obtain ⟨v5_26s, hS0⟩ : ∃ (v5_26s : Int32), v5_26s = mF_grows_L26 M set ka (k26 + 1) := ⟨_, rfl⟩
              have hS := hS0
              rw [mF_grows_L26_s, lt_e hL] at hS
              refine lv_iload hx hb dX9_grows_26 (lv_at hl 6 rfl) ?_
              refine lv_aload_n hx hb dX9_grows_28 rfl (lv_at hl 0 rfl) ?_
              refine mr_get C G hin 0 (by decide) rfl (show Cond.fieldLink RX9 7 "WheatCountsModel" "row" "[I" ∈ _ by decide +kernel) (fun _ => rfl) dX9_grows_29 ?_
              refine lv_bipush (v := 8) hx hb dX9_grows_32 (by decide) ?_
              refine mr_ald C G 1 (fun _ => rfl) 8 rfl (by omega) (Nat.le_of_ble_eq_true rfl) dX9_grows_34 ?_
              refine lv_icmp_ge (tgt := 83) hx hb dX9_grows_35 (by decide) (fun c35 => absurd c35 (lp_in (n := vn (M 1 8)) hP.1 hkn (by omega))) (fun c35 => ?_)
              refine lv_iload hx hb dX9_grows_38 (lv_at hl 5 rfl) ?_
              refine lv_iload_n hx hb dX9_grows_40 rfl (lv_at hl 2 rfl) ?_
              refine lv_iload hx hb dX9_grows_41 (lv_at hl 6 rfl) ?_
              refine mr_calls C hA G (ks_has zl set (nI k26)) (va_cwS 2 C.2.2.2.2.1 gX9_grows_X9_has rfl rfl rfl (by decide +kernel) ⟨Nat.le_of_ble_eq_true rfl, Nat.le_of_ble_eq_true rfl⟩) rfl hl.1 rfl (Nat.le_of_ble_eq_true rfl) dX9_grows_43 ⟨Nat.le_refl _, Nat.le_refl _⟩ (fun H locs G => ?_)
              obtain ⟨y74, hX74⟩ : ∃ (y74 : Int32), y74 = ((if (sF_has set (nI k26)) = 0 then 0 else (if (sF_has (M 12 k26) (nI ka)) = 0 then 0 else (mF_counts M k26))) : Int32) := ⟨_, rfl⟩
              rw [lt_e hX74] at hS
              have hj74 : ∀ (H : Heap) (locs : List Loc) (ls : Array Slot), lv_has ls 7 [(0, .ref (ad 0)), (1, .int (nI s)), (2, .int set), (3, .int v3_5), (4, .int (nI ka)), (5, .int v5_26), (6, .int (nI k26))] → mG D cI ad zA H0 H locs M → W zp zl ze ({ frames := 2, cells := 0, slots := 0, locals := 43 } : Room) zs zm zg zb zt zc H locs 0 0 zQ (F0 zm 74 ls [.int y74, .int v5_26]) := by
                intro H locs ls hl G
                refine lv_iadd hx hb dX9_grows_74 ?_
                refine lv_topi (fun x75 hx75 => ?_)
                rw [lt_e hx75] at hS
                refine lv_istore (lv' := [(5, .int x75), (0, .ref (ad 0)), (1, .int (nI s)), (2, .int set), (3, .int v3_5), (4, .int (nI ka)), (6, .int (nI k26))]) hx hb dX9_grows_75 hl (by decide) rfl (fun ls hl => ?_)
                refine lv_iinc (v := nI (k26 + 1)) (lv' := [(6, .int (nI (k26 + 1))), (5, .int x75), (0, .ref (ad 0)), (1, .int (nI s)), (2, .int set), (3, .int v3_5), (4, .int (nI ka))]) hx hb dX9_grows_77 hl (k := 6) rfl (nt_add rfl (show (1 : Int32) = nI 1 from rfl)) (by decide) rfl (fun ls hl => ?_)
                refine lv_goto (tgt := 26) hx hb dX9_grows_80 (by decide) ?_
                subst hS
                exact ih (k26 + 1) (by omega) _ hS0 _ _ _ (lv_sub hl [2, 3, 4, 5, 6, 1, 0] rfl) G
              refine lv_if_eq (tgt := 73) hx hb dX9_grows_46 (by decide) (fun c46 => ?_) (fun c46 => ?_)
              · rw [if_pos c46] at hX74
                refine lv_iconst (v := 0) hx hb dX9_grows_73 (by decide) ?_
                subst hX74
                exact hj74 _ _ _ (lv_sub hl [0, 1, 2, 3, 4, 5, 6] rfl) G
              · rw [if_neg c46] at hX74
                refine lv_aload_n hx hb dX9_grows_49 rfl (lv_at hl 0 rfl) ?_
                refine mr_get C G hin 22 (by decide) rfl (show Cond.fieldLink RX9 47 "WheatCountsModel" "seen" "[I" ∈ _ by decide +kernel) (fun _ => rfl) dX9_grows_50 ?_
                refine lv_iload hx hb dX9_grows_53 (lv_at hl 6 rfl) ?_
                refine mr_ald C G 12 (fun _ => rfl) k26 rfl (by omega) (Nat.le_of_ble_eq_true rfl) dX9_grows_55 ?_
                refine lv_iload hx hb dX9_grows_56 (lv_at hl 4 rfl) ?_
                refine mr_calls C hA G (ks_has zl (M 12 k26) (nI ka)) (va_cwS 2 C.2.2.2.2.1 gX9_grows_X9_has rfl rfl rfl (by decide +kernel) ⟨Nat.le_of_ble_eq_true rfl, Nat.le_of_ble_eq_true rfl⟩) rfl hl.1 rfl (Nat.le_of_ble_eq_true rfl) dX9_grows_58 ⟨Nat.le_refl _, Nat.le_refl _⟩ (fun H locs G => ?_)
                refine lv_if_eq (tgt := 73) hx hb dX9_grows_61 (by decide) (fun c61 => ?_) (fun c61 => ?_)
                · rw [if_pos c61] at hX74
                  refine lv_iconst (v := 0) hx hb dX9_grows_73 (by decide) ?_
                  subst hX74
                  exact hj74 _ _ _ (lv_sub hl [0, 1, 2, 3, 4, 5, 6] rfl) G
                · rw [if_neg c61] at hX74
                  refine lv_aload_n hx hb dX9_grows_64 rfl (lv_at hl 0 rfl) ?_
                  refine lv_iload hx hb dX9_grows_65 (lv_at hl 6 rfl) ?_
                  refine mr_calli C hA G (k_counts zl D cI ad M k26 (by omega)) (cwV 1 C.2.2.2.2.1 gX9_grows_X9_counts rfl rfl rfl (by decide +kernel) ⟨Nat.le_of_ble_eq_true rfl, Nat.le_of_ble_eq_true rfl⟩) rfl hl.1 rfl (Nat.le_of_ble_eq_true rfl) dX9_grows_67 ⟨Nat.le_refl _, Nat.le_refl _⟩ (fun H locs G => ?_)
                  refine lv_goto (tgt := 74) hx hb dX9_grows_70 (by decide) ?_
                  subst hX74
                  exact hj74 _ _ _ (lv_sub hl [0, 1, 2, 3, 4, 5, 6] rfl) G
          exact hloop26 _ 0 (Nat.add_zero _) _ rfl _ _ _ (lv_sub hl [2, 3, 4, 5, 6, 1, 0] rfl) G
  exact hloop5 _ _ _ ⟨by omega, by decide⟩ hX5 _ _ _ (lv_sub hl [2, 3, 4, 1, 0] rfl) G

