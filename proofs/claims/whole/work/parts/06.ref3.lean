/-! the reference's reader -/
set_option maxRecDepth 100000 in
set_option maxHeartbeats 4000000 in
theorem k_byteAt (zl : Launch) (D : va_G) (cI : ClassId) (ad : Nat → Nat) (M : mS) {E : Nat} {u : Nat} {d : Nat} (S : sS) (k : Nat) (hI : pI E u d S) (hk : k < 2 ^ 31) : mPc zl D cI ad yX9_byteAt wsX9_byteAt ({ frames := 0, cells := 0, slots := 0, locals := 0 } : Room) [.int (nI k)] M S ((mF_byteAt M S k, S)) := by
  have hin : ∀ w ∈ wsX90, w ∈ wsX9_byteAt := fun w h => List.mem_cons_of_mem _ (List.mem_append_right _ h)
  refine mPc_of (cc := cX9_byteAt) (nL := 2) (by decide) rfl rfl (Nat.le_of_ble_eq_true rfl) ?_
  intro zp ze zs zm zg zb zt zc zA H0 zQ C hA hret H locs ls hl G
  have hx := C.1
  have hb := C.2.1
  have hl : lv_has ls 2 [(0, .ref (ad 0)), (1, .int (nI k))] := hl
  obtain ⟨rM, hF⟩ : ∃ X : Int32, X = mF_byteAt M S k := ⟨_, rfl⟩
  rw [← hF] at hret
  unfold mF_byteAt at hF
  refine lv_iload_n hx hb dX9_byteAt_0 rfl (lv_at hl 1 rfl) ?_
  refine lv_aload_n hx hb dX9_byteAt_1 rfl (lv_at hl 0 rfl) ?_
  refine ps_get C G hin 9 (by decide) rfl (show Cond.fieldLink RX9 110 "WheatCountsModel" "end" "I" ∈ _ by decide +kernel) rfl dX9_byteAt_2 ?_
  refine lv_icmp_ge (tgt := 29) hx hb dX9_byteAt_5 (by decide) (fun c5 => ?_) (fun c5 => ?_)
  · rw [if_pos c5] at hF
    refine lv_iconst (v := -1) hx hb dX9_byteAt_29 (by decide) ?_
    exact hret _ _ _ _ _ _ (by rw [hF]) G dX9_byteAt_30
  · rw [if_neg c5] at hF
    have h7 := pI_7 hI
    have hlt := byteAt_in hI hk c5
    refine lv_aload_n hx hb dX9_byteAt_8 rfl (lv_at hl 0 rfl) ?_
    refine ps_get C G hin 0 (by decide) rfl (show Cond.fieldLink RX9 7 "WheatCountsModel" "row" "[I" ∈ _ by decide +kernel) rfl dX9_byteAt_9 ?_
    refine lv_sipush (v := 134) hx hb dX9_byteAt_12 (by decide) ?_
    refine lv_bipush (v := 50) hx hb dX9_byteAt_15 (by decide) ?_
    refine lv_aload_n hx hb dX9_byteAt_17 rfl (lv_at hl 0 rfl) ?_
    refine ps_get C G hin 7 (by decide) rfl (show Cond.fieldLink RX9 113 "WheatCountsModel" "use" "I" ∈ _ by decide +kernel) rfl dX9_byteAt_18 ?_
    refine lv_imul hx hb dX9_byteAt_21 ?_
    refine lv_iadd hx hb dX9_byteAt_22 ?_
    refine lv_iload_n hx hb dX9_byteAt_23 rfl (lv_at hl 1 rfl) ?_
    refine lv_iadd hx hb dX9_byteAt_24 ?_
    refine ps_ald C G 1 rfl ((134 + (50 * (vn (S 7)))) + k) (nt_add (nt_add rfl (nt_mul rfl (pI_7 hI).1)) rfl) (by omega) (Nat.le_of_ble_eq_true rfl) dX9_byteAt_25 ?_
    refine lv_goto (tgt := 30) hx hb dX9_byteAt_26 (by decide) ?_
    exact hret _ _ _ _ _ _ (by rw [hF]) G dX9_byteAt_30
set_option maxRecDepth 100000 in
set_option maxHeartbeats 4000000 in
theorem k_fails (zl : Launch) (D : va_G) (cI : ClassId) (ad : Nat → Nat) (M : mS) {E : Nat} {u : Nat} {d : Nat} (S : sS) (hI : pI E u d S) : mPc zl D cI ad yX9_fails wsX9_fails ({ frames := 0, cells := 0, slots := 0, locals := 0 } : Room) [] M S (mF_fails M S) := by
  have hin : ∀ w ∈ wsX90, w ∈ wsX9_fails := fun w h => List.mem_cons_of_mem _ (List.mem_append_right _ h)
  refine mPc_of (cc := cX9_fails) (nL := 1) (by decide) rfl rfl (Nat.le_of_ble_eq_true rfl) ?_
  intro zp ze zs zm zg zb zt zc zA H0 zQ C hA hret H locs ls hl G
  have hx := C.1
  have hb := C.2.1
  have hl : lv_has ls 1 [(0, .ref (ad 0))] := hl
  obtain ⟨rM, hF⟩ : ∃ X : Int32 × sS, X = mF_fails M S := ⟨_, rfl⟩
  rw [← hF] at hret
  unfold mF_fails at hF
  refine lv_aload_n hx hb dX9_fails_0 rfl (lv_at hl 0 rfl) ?_
  refine lv_iconst (v := 0) hx hb dX9_fails_1 (by decide) ?_
  refine ps_put C G hin 14 (by decide) rfl rfl (show Cond.fieldLink RX9 116 "WheatCountsModel" "good" "Z" ∈ _ by decide +kernel) (ty := .boolean) (by decide +kernel) rfl rfl rfl dX9_fails_2 (fun H locs G => ?_)
  obtain ⟨S2, hS2⟩ : ∃ X : sS, X = upd S 14 0 := ⟨_, rfl⟩
  rw [← hS2] at G
  rw [lt_e hS2] at hF
  have hI := pI_good hI hS2 (Or.inl rfl)
  refine lv_iconst (v := 0) hx hb dX9_fails_5 (by decide) ?_
  exact hret _ _ _ _ _ _ hF G dX9_fails_6
set_option maxRecDepth 100000 in
set_option maxHeartbeats 4000000 in
theorem k_number (zl : Launch) (D : va_G) (cI : ClassId) (ad : Nat → Nat) (M : mS) {E : Nat} {u : Nat} {d : Nat} (S : sS) (hI : pI E u d S) : mPc zl D cI ad yX9_number wsX9_number ({ frames := 2, cells := 0, slots := 0, locals := 42 } : Room) [] M S (mF_number M S) := by
  have hin : ∀ w ∈ wsX90, w ∈ wsX9_number := fun w h => List.mem_cons_of_mem _ (List.mem_append_right _ h)
  refine mPc_of (cc := cX9_number) (nL := 3) (by decide) rfl rfl (Nat.le_of_ble_eq_true rfl) ?_
  intro zp ze zs zm zg zb zt zc zA H0 zQ C hA hret H locs ls hl G
  have hx := C.1
  have hb := C.2.1
  have hl : lv_has ls 3 [(0, .ref (ad 0))] := hl
  obtain ⟨rM, hF⟩ : ∃ X : Int32 × sS, X = mF_number M S := ⟨_, rfl⟩
  rw [← hF] at hret
  unfold mF_number at hF
  refine lv_iconst (v := 0) hx hb dX9_number_0 (by decide) ?_
  refine lv_istore_n (lv' := [(1, .int 0), (0, .ref (ad 0))]) hx hb dX9_number_1 rfl hl (by decide) rfl (fun ls hl => ?_)
  refine lv_iconst (v := 0) hx hb dX9_number_2 (by decide) ?_
  refine lv_istore_n (lv' := [(2, .int 0), (1, .int 0), (0, .ref (ad 0))]) hx hb dX9_number_3 rfl hl (by decide) rfl (fun ls hl => ?_)
  obtain ⟨jx, v1_4x, S4x, hX4⟩ : ∃ (jx : Nat) (v1_4x : Int32) (S4x : sS), (jx, v1_4x, S4x) = mF_number_L4 M fu5 0 0 S := ⟨_, _, _, rfl⟩
  rw [lt3_e hX4] at hF
  have hrest4 : ∀ (H : Heap) (locs : List Loc) (ls : Array Slot), lv_has ls 3 [(0, .ref (ad 0)), (1, .int v1_4x), (2, .int (nI jx))] → mGs D cI ad zA H0 H locs M S4x → W zp zl ze ({ frames := 2, cells := 0, slots := 0, locals := 42 } : Room) zs zm zg zb zt zc H locs 0 0 zQ (F0 zm 56 ls []) := by
    intro H locs ls hl G
    refine lv_iload_n hx hb dX9_number_56 rfl (lv_at hl 1 rfl) ?_
    exact hret _ _ _ _ _ _ hF G dX9_number_57
  have hloop4 : ∀ (f : Nat) (j : Nat) (v1_4 : Int32) (S4 : sS), (pI E u d S4 ∧ j < 5 ∧ 4 < j + f) → (jx, v1_4x, S4x) = mF_number_L4 M f j v1_4 S4 → ∀ (H : Heap) (locs : List Loc) (ls : Array Slot), lv_has ls 3 [(0, .ref (ad 0)), (1, .int v1_4), (2, .int (nI j))] → mGs D cI ad zA H0 H locs M S4 → W zp zl ze ({ frames := 2, cells := 0, slots := 0, locals := 42 } : Room) zs zm zg zb zt zc H locs 0 0 zQ (F0 zm 4 ls []) := by
    intro f
    induction f with
    | zero =>
      intro j v1_4 S4 hI hL4 H locs ls hl G
      exact absurd hI.2.2 (by omega)
    | succ f ih =>
      intro j v1_4 S4 hI hL4 H locs ls hl G
      rw [mF_number_L4_s] at hL4
      have hJ := hI.2
      have hI := hI.1
      refine lv_iload_n hx hb dX9_number_4 rfl (lv_at hl 2 rfl) ?_
      refine lv_iconst (v := 4) hx hb dX9_number_5 (by decide) ?_
      refine lv_icmp_ge (tgt := 56) hx hb dX9_number_6 (by decide) (fun c6 => ?_) (fun c6 => ?_)
      · rw [if_pos c6] at hL4
        cases hL4
        exact hrest4 _ _ _ (lv_sub hl [0, 1, 2] rfl) G
      · rw [if_neg c6] at hL4
        have hj := lp_lt (n := 4) rfl c6 (by decide)
        refine lv_aload_n hx hb dX9_number_9 rfl (lv_at hl 0 rfl) ?_
        refine lv_aload_n hx hb dX9_number_10 rfl (lv_at hl 0 rfl) ?_
        refine ps_get C G hin 8 (by decide) rfl (show Cond.fieldLink RX9 120 "WheatCountsModel" "at" "I" ∈ _ by decide +kernel) rfl dX9_number_11 ?_
        refine ps_calli C hA G (k_byteAt zl D cI ad M S4 (vn (S4 8)) hI (vn8_lt hI)) (cwV 1 C.2.2.2.2.1 gX9_number_X9_byteAt rfl rfl rfl (by decide +kernel) ⟨Nat.le_of_ble_eq_true rfl, Nat.le_of_ble_eq_true rfl⟩) rfl hl.1 (cons_int (pI_8 hI).1 rfl) (Nat.le_of_ble_eq_true rfl) dX9_number_14 ⟨Nat.le_refl _, Nat.le_refl _⟩ (fun H locs G => ?_)
        refine ps_calls C hA G (ks_isDigit zl (mF_byteAt M S4 (vn (S4 8)))) (va_cwS 1 C.2.2.2.2.1 gX9_number_X9_isDigit rfl rfl rfl (by decide +kernel) ⟨Nat.le_of_ble_eq_true rfl, Nat.le_of_ble_eq_true rfl⟩) rfl hl.1 rfl (Nat.le_of_ble_eq_true rfl) dX9_number_17 ⟨Nat.le_refl _, Nat.le_refl _⟩ (fun H locs G => ?_)
        refine lv_if_eq (tgt := 56) hx hb dX9_number_20 (by decide) (fun c20 => ?_) (fun c20 => ?_)
        · rw [if_pos c20] at hL4
          cases hL4
          exact hrest4 _ _ _ (lv_sub hl [0, 1, 2] rfl) G
        · rw [if_neg c20] at hL4
          have hlt := byteAt_lt hI (dig_ne c20)
          refine lv_bipush (v := 10) hx hb dX9_number_23 (by decide) ?_
          refine lv_iload_n hx hb dX9_number_25 rfl (lv_at hl 1 rfl) ?_
          refine lv_imul hx hb dX9_number_26 ?_
          refine lv_aload_n hx hb dX9_number_27 rfl (lv_at hl 0 rfl) ?_
          refine lv_aload_n hx hb dX9_number_28 rfl (lv_at hl 0 rfl) ?_
          refine ps_get C G hin 8 (by decide) rfl (show Cond.fieldLink RX9 120 "WheatCountsModel" "at" "I" ∈ _ by decide +kernel) rfl dX9_number_29 ?_
          refine ps_calli C hA G (k_byteAt zl D cI ad M S4 (vn (S4 8)) hI (vn8_lt hI)) (cwV 1 C.2.2.2.2.1 gX9_number_X9_byteAt rfl rfl rfl (by decide +kernel) ⟨Nat.le_of_ble_eq_true rfl, Nat.le_of_ble_eq_true rfl⟩) rfl hl.1 (cons_int (pI_8 hI).1 rfl) (Nat.le_of_ble_eq_true rfl) dX9_number_32 ⟨Nat.le_refl _, Nat.le_refl _⟩ (fun H locs G => ?_)
          refine lv_iadd hx hb dX9_number_35 ?_
          refine lv_bipush (v := 48) hx hb dX9_number_36 (by decide) ?_
          refine lv_isub hx hb dX9_number_38 ?_
          refine lv_topi (fun x39 hx39 => ?_)
          rw [lt_e hx39] at hL4
          refine lv_istore_n (lv' := [(1, .int x39), (0, .ref (ad 0)), (2, .int (nI j))]) hx hb dX9_number_39 rfl hl (by decide) rfl (fun ls hl => ?_)
          refine lv_aload_n hx hb dX9_number_40 rfl (lv_at hl 1 rfl) ?_
          refine lv_dup hx hb dX9_number_41 rfl ?_
          refine ps_get C G hin 8 (by decide) rfl (show Cond.fieldLink RX9 120 "WheatCountsModel" "at" "I" ∈ _ by decide +kernel) rfl dX9_number_42 ?_
          refine lv_iconst (v := 1) hx hb dX9_number_45 (by decide) ?_
          refine lv_iadd hx hb dX9_number_46 ?_
          refine ps_put C G hin 8 (by decide) rfl rfl (show Cond.fieldLink RX9 120 "WheatCountsModel" "at" "I" ∈ _ by decide +kernel) (ty := .int) (by decide +kernel) rfl rfl rfl dX9_number_47 (fun H locs G => ?_)
          obtain ⟨S47, hS47⟩ : ∃ X : sS, X = upd S4 8 ((S4 8) + 1) := ⟨_, rfl⟩
          rw [← hS47] at G
          rw [lt_e hS47] at hL4
          have hat47 := at_succ hI hS47 hlt
          have hI := pI_at hI hS47 hlt
          refine lv_iinc (v := nI (j + 1)) (lv' := [(2, .int (nI (j + 1))), (1, .int x39), (0, .ref (ad 0))]) hx hb dX9_number_50 hl (k := 2) rfl (nt_add rfl (show (1 : Int32) = nI 1 from rfl)) (by decide) rfl (fun ls hl => ?_)
          refine lv_goto (tgt := 4) hx hb dX9_number_53 (by decide) ?_
          exact ih (j + 1) x39 S47 ⟨hI, by omega, by omega⟩ hL4 _ _ _ (lv_sub hl [2, 1, 0] rfl) G
  exact hloop4 _ _ _ _ ⟨hI, by decide, by decide⟩ hX4 _ _ _ (lv_sub hl [2, 1, 0] rfl) G
set_option maxRecDepth 100000 in
set_option maxHeartbeats 4000000 in
theorem k_named (zl : Launch) (D : va_G) (cI : ClassId) (ad : Nat → Nat) (M : mS) {E : Nat} {u : Nat} {d : Nat} (S : sS) (c : Int32) (hI : pI E u d S) (hc : c = mF_byteAt M S (vn (S 8))) : mPc zl D cI ad yX9_named wsX9_named ({ frames := 1, cells := 0, slots := 0, locals := 20 } : Room) [.int c] M S (mF_named M S c) := by
  have hin : ∀ w ∈ wsX90, w ∈ wsX9_named := fun w h => List.mem_cons_of_mem _ (List.mem_append_right _ h)
  refine mPc_of (cc := cX9_named) (nL := 5) (by decide) rfl rfl (Nat.le_of_ble_eq_true rfl) ?_
  intro zp ze zs zm zg zb zt zc zA H0 zQ C hA hret H locs ls hl G
  have hx := C.1
  have hb := C.2.1
  have hl : lv_has ls 5 [(0, .ref (ad 0)), (1, .int c)] := hl
  obtain ⟨rM, hF⟩ : ∃ X : Int32 × sS, X = mF_named M S c := ⟨_, rfl⟩
  rw [← hF] at hret
  unfold mF_named at hF
  refine lv_iload_n hx hb dX9_named_0 rfl (lv_at hl 1 rfl) ?_
  refine lv_bipush (v := 109) hx hb dX9_named_1 (by decide) ?_
  obtain ⟨y11, hX11⟩ : ∃ (y11 : Int32), y11 = ((if c = 109 then 1 else 0) : Int32) := ⟨_, rfl⟩
  rw [lt_e hX11] at hF
  have hj11 : ∀ (H : Heap) (locs : List Loc) (ls : Array Slot), lv_has ls 5 [(0, .ref (ad 0)), (1, .int c)] → mGs D cI ad zA H0 H locs M S → W zp zl ze ({ frames := 1, cells := 0, slots := 0, locals := 20 } : Room) zs zm zg zb zt zc H locs 0 0 zQ (F0 zm 11 ls [.int y11]) := by
    intro H locs ls hl G
    refine lv_istore_n (lv' := [(2, .int y11), (0, .ref (ad 0)), (1, .int c)]) hx hb dX9_named_11 rfl hl (by decide) rfl (fun ls hl => ?_)
    refine lv_iload_n hx hb dX9_named_12 rfl (lv_at hl 2 rfl) ?_
    refine lv_aload_n hx hb dX9_named_13 rfl (lv_at hl 1 rfl) ?_
    refine ps_get C G hin 7 (by decide) rfl (show Cond.fieldLink RX9 113 "WheatCountsModel" "use" "I" ∈ _ by decide +kernel) rfl dX9_named_14 ?_
    obtain ⟨y27, hX27⟩ : ∃ (y27 : Int32), y27 = ((if (S 7) = 0 then 102 else 103) : Int32) := ⟨_, rfl⟩
    rw [lt_e hX27] at hF
    have hj27 : ∀ (H : Heap) (locs : List Loc) (ls : Array Slot), lv_has ls 5 [(0, .ref (ad 0)), (1, .int c), (2, .int y11)] → mGs D cI ad zA H0 H locs M S → W zp zl ze ({ frames := 1, cells := 0, slots := 0, locals := 20 } : Room) zs zm zg zb zt zc H locs 0 0 zQ (F0 zm 27 ls [.int y27, .int c]) := by
      intro H locs ls hl G
      obtain ⟨y35, hX35⟩ : ∃ (y35 : Int32), y35 = ((if c = y27 then 1 else 0) : Int32) := ⟨_, rfl⟩
      rw [lt_e hX35] at hF
      have hj35 : ∀ (H : Heap) (locs : List Loc) (ls : Array Slot), lv_has ls 5 [(0, .ref (ad 0)), (1, .int c), (2, .int y11)] → mGs D cI ad zA H0 H locs M S → W zp zl ze ({ frames := 1, cells := 0, slots := 0, locals := 20 } : Room) zs zm zg zb zt zc H locs 0 0 zQ (F0 zm 35 ls [.int y35]) := by
        intro H locs ls hl G
        refine lv_istore_n (lv' := [(3, .int y35), (0, .ref (ad 0)), (1, .int c), (2, .int y11)]) hx hb dX9_named_35 rfl hl (by decide) rfl (fun ls hl => ?_)
        refine lv_iload_n hx hb dX9_named_36 rfl (lv_at hl 2 rfl) ?_
        refine lv_bipush (v := 104) hx hb dX9_named_37 (by decide) ?_
        obtain ⟨y47, hX47⟩ : ∃ (y47 : Int32), y47 = ((if c = 104 then 1 else 0) : Int32) := ⟨_, rfl⟩
        rw [lt_e hX47] at hF
        have hj47 : ∀ (H : Heap) (locs : List Loc) (ls : Array Slot), lv_has ls 5 [(0, .ref (ad 0)), (1, .int c), (2, .int y11), (3, .int y35)] → mGs D cI ad zA H0 H locs M S → W zp zl ze ({ frames := 1, cells := 0, slots := 0, locals := 20 } : Room) zs zm zg zb zt zc H locs 0 0 zQ (F0 zm 47 ls [.int y47]) := by
          intro H locs ls hl G
          refine lv_istore (lv' := [(4, .int y47), (0, .ref (ad 0)), (1, .int c), (2, .int y11), (3, .int y35)]) hx hb dX9_named_47 hl (by decide) rfl (fun ls hl => ?_)
          refine lv_iload_n hx hb dX9_named_49 rfl (lv_at hl 3 rfl) ?_
          refine lv_if_ne (tgt := 67) hx hb dX9_named_50 (by decide) (fun c50 => ?_) (fun c50 => ?_)
          · rw [if_neg c50] at hF
            have hlt := byteAt_lt hI (by rw [← hc, ite_1 hX11 c50]; decide)
            refine lv_aload_n hx hb dX9_named_67 rfl (lv_at hl 1 rfl) ?_
            refine lv_dup hx hb dX9_named_68 rfl ?_
            refine ps_get C G hin 8 (by decide) rfl (show Cond.fieldLink RX9 120 "WheatCountsModel" "at" "I" ∈ _ by decide +kernel) rfl dX9_named_69 ?_
            refine lv_iconst (v := 1) hx hb dX9_named_72 (by decide) ?_
            refine lv_iadd hx hb dX9_named_73 ?_
            refine ps_put C G hin 8 (by decide) rfl rfl (show Cond.fieldLink RX9 120 "WheatCountsModel" "at" "I" ∈ _ by decide +kernel) (ty := .int) (by decide +kernel) rfl rfl rfl dX9_named_74 (fun H locs G => ?_)
            obtain ⟨S74, hS74⟩ : ∃ X : sS, X = upd S 8 ((S 8) + 1) := ⟨_, rfl⟩
            rw [← hS74] at G
            rw [lt_e hS74] at hF
            have hat74 := at_succ hI hS74 hlt
            have hI := pI_at hI hS74 hlt
            refine lv_iload_n hx hb dX9_named_77 rfl (lv_at hl 3 rfl) ?_
            refine lv_if_eq (tgt := 88) hx hb dX9_named_78 (by decide) (fun c78 => ?_) (fun c78 => ?_)
            · rw [if_pos c78] at hF
              refine lv_iload_n hx hb dX9_named_88 rfl (lv_at hl 4 rfl) ?_
              refine lv_if_eq (tgt := 99) hx hb dX9_named_89 (by decide) (fun c89 => ?_) (fun c89 => ?_)
              · rw [if_pos c89] at hF
                refine lv_aload_n hx hb dX9_named_99 rfl (lv_at hl 1 rfl) ?_
                refine ps_get C G hin 13 (by decide) rfl (show Cond.fieldLink RX9 139 "WheatCountsModel" "namedC" "I" ∈ _ by decide +kernel) rfl dX9_named_100 ?_
                exact hret _ _ _ _ _ _ hF G dX9_named_103
              · rw [if_neg c89] at hF
                refine lv_aload_n hx hb dX9_named_92 rfl (lv_at hl 1 rfl) ?_
                refine ps_get C G hin 12 (by decide) rfl (show Cond.fieldLink RX9 136 "WheatCountsModel" "namedB" "I" ∈ _ by decide +kernel) rfl dX9_named_93 ?_
                refine lv_goto (tgt := 103) hx hb dX9_named_96 (by decide) ?_
                exact hret _ _ _ _ _ _ hF G dX9_named_103
            · rw [if_neg c78] at hF
              refine lv_aload_n hx hb dX9_named_81 rfl (lv_at hl 1 rfl) ?_
              refine ps_get C G hin 11 (by decide) rfl (show Cond.fieldLink RX9 133 "WheatCountsModel" "namedA" "I" ∈ _ by decide +kernel) rfl dX9_named_82 ?_
              refine lv_goto (tgt := 103) hx hb dX9_named_85 (by decide) ?_
              exact hret _ _ _ _ _ _ hF G dX9_named_103
          · rw [if_pos c50] at hF
            refine lv_iload_n hx hb dX9_named_53 rfl (lv_at hl 4 rfl) ?_
            refine lv_if_ne (tgt := 67) hx hb dX9_named_54 (by decide) (fun c54 => ?_) (fun c54 => ?_)
            · rw [if_neg c54] at hF
              have hlt := byteAt_lt hI (by rw [← hc, ite_1 hX35 c54, hX27]; split <;> decide)
              refine lv_aload_n hx hb dX9_named_67 rfl (lv_at hl 1 rfl) ?_
              refine lv_dup hx hb dX9_named_68 rfl ?_
              refine ps_get C G hin 8 (by decide) rfl (show Cond.fieldLink RX9 120 "WheatCountsModel" "at" "I" ∈ _ by decide +kernel) rfl dX9_named_69 ?_
              refine lv_iconst (v := 1) hx hb dX9_named_72 (by decide) ?_
              refine lv_iadd hx hb dX9_named_73 ?_
              refine ps_put C G hin 8 (by decide) rfl rfl (show Cond.fieldLink RX9 120 "WheatCountsModel" "at" "I" ∈ _ by decide +kernel) (ty := .int) (by decide +kernel) rfl rfl rfl dX9_named_74 (fun H locs G => ?_)
              obtain ⟨S74, hS74⟩ : ∃ X : sS, X = upd S 8 ((S 8) + 1) := ⟨_, rfl⟩
              rw [← hS74] at G
              rw [lt_e hS74] at hF
              have hat74 := at_succ hI hS74 hlt
              have hI := pI_at hI hS74 hlt
              refine lv_iload_n hx hb dX9_named_77 rfl (lv_at hl 3 rfl) ?_
              refine lv_if_eq (tgt := 88) hx hb dX9_named_78 (by decide) (fun c78 => ?_) (fun c78 => ?_)
              · rw [if_pos c78] at hF
                refine lv_iload_n hx hb dX9_named_88 rfl (lv_at hl 4 rfl) ?_
                refine lv_if_eq (tgt := 99) hx hb dX9_named_89 (by decide) (fun c89 => ?_) (fun c89 => ?_)
                · rw [if_pos c89] at hF
                  refine lv_aload_n hx hb dX9_named_99 rfl (lv_at hl 1 rfl) ?_
                  refine ps_get C G hin 13 (by decide) rfl (show Cond.fieldLink RX9 139 "WheatCountsModel" "namedC" "I" ∈ _ by decide +kernel) rfl dX9_named_100 ?_
                  exact hret _ _ _ _ _ _ hF G dX9_named_103
                · rw [if_neg c89] at hF
                  refine lv_aload_n hx hb dX9_named_92 rfl (lv_at hl 1 rfl) ?_
                  refine ps_get C G hin 12 (by decide) rfl (show Cond.fieldLink RX9 136 "WheatCountsModel" "namedB" "I" ∈ _ by decide +kernel) rfl dX9_named_93 ?_
                  refine lv_goto (tgt := 103) hx hb dX9_named_96 (by decide) ?_
                  exact hret _ _ _ _ _ _ hF G dX9_named_103
              · rw [if_neg c78] at hF
                refine lv_aload_n hx hb dX9_named_81 rfl (lv_at hl 1 rfl) ?_
                refine ps_get C G hin 11 (by decide) rfl (show Cond.fieldLink RX9 133 "WheatCountsModel" "namedA" "I" ∈ _ by decide +kernel) rfl dX9_named_82 ?_
                refine lv_goto (tgt := 103) hx hb dX9_named_85 (by decide) ?_
                exact hret _ _ _ _ _ _ hF G dX9_named_103
            · rw [if_pos c54] at hF
              refine lv_iload hx hb dX9_named_57 (lv_at hl 0 rfl) ?_
              refine lv_if_ne (tgt := 67) hx hb dX9_named_59 (by decide) (fun c59 => ?_) (fun c59 => ?_)
              · rw [if_neg c59] at hF
                have hlt := byteAt_lt hI (by rw [← hc, ite_1 hX47 c59]; decide)
                refine lv_aload_n hx hb dX9_named_67 rfl (lv_at hl 1 rfl) ?_
                refine lv_dup hx hb dX9_named_68 rfl ?_
                refine ps_get C G hin 8 (by decide) rfl (show Cond.fieldLink RX9 120 "WheatCountsModel" "at" "I" ∈ _ by decide +kernel) rfl dX9_named_69 ?_
                refine lv_iconst (v := 1) hx hb dX9_named_72 (by decide) ?_
                refine lv_iadd hx hb dX9_named_73 ?_
                refine ps_put C G hin 8 (by decide) rfl rfl (show Cond.fieldLink RX9 120 "WheatCountsModel" "at" "I" ∈ _ by decide +kernel) (ty := .int) (by decide +kernel) rfl rfl rfl dX9_named_74 (fun H locs G => ?_)
                obtain ⟨S74, hS74⟩ : ∃ X : sS, X = upd S 8 ((S 8) + 1) := ⟨_, rfl⟩
                rw [← hS74] at G
                rw [lt_e hS74] at hF
                have hat74 := at_succ hI hS74 hlt
                have hI := pI_at hI hS74 hlt
                refine lv_iload_n hx hb dX9_named_77 rfl (lv_at hl 3 rfl) ?_
                refine lv_if_eq (tgt := 88) hx hb dX9_named_78 (by decide) (fun c78 => ?_) (fun c78 => ?_)
                · rw [if_pos c78] at hF
                  refine lv_iload_n hx hb dX9_named_88 rfl (lv_at hl 4 rfl) ?_
                  refine lv_if_eq (tgt := 99) hx hb dX9_named_89 (by decide) (fun c89 => ?_) (fun c89 => ?_)
                  · rw [if_pos c89] at hF
                    refine lv_aload_n hx hb dX9_named_99 rfl (lv_at hl 1 rfl) ?_
                    refine ps_get C G hin 13 (by decide) rfl (show Cond.fieldLink RX9 139 "WheatCountsModel" "namedC" "I" ∈ _ by decide +kernel) rfl dX9_named_100 ?_
                    exact hret _ _ _ _ _ _ hF G dX9_named_103
                  · rw [if_neg c89] at hF
                    refine lv_aload_n hx hb dX9_named_92 rfl (lv_at hl 1 rfl) ?_
                    refine ps_get C G hin 12 (by decide) rfl (show Cond.fieldLink RX9 136 "WheatCountsModel" "namedB" "I" ∈ _ by decide +kernel) rfl dX9_named_93 ?_
                    refine lv_goto (tgt := 103) hx hb dX9_named_96 (by decide) ?_
                    exact hret _ _ _ _ _ _ hF G dX9_named_103
                · rw [if_neg c78] at hF
                  refine lv_aload_n hx hb dX9_named_81 rfl (lv_at hl 1 rfl) ?_
                  refine ps_get C G hin 11 (by decide) rfl (show Cond.fieldLink RX9 133 "WheatCountsModel" "namedA" "I" ∈ _ by decide +kernel) rfl dX9_named_82 ?_
                  refine lv_goto (tgt := 103) hx hb dX9_named_85 (by decide) ?_
                  exact hret _ _ _ _ _ _ hF G dX9_named_103
              · rw [if_pos c59] at hF
                refine lv_aload_n hx hb dX9_named_62 rfl (lv_at hl 1 rfl) ?_
                obtain ⟨x63, S63, hx63⟩ : ∃ (X : Int32) (Y : sS), (X, Y) = mF_fails M S := ⟨_, _, rfl⟩
                refine ps_calli (r0 := x63) (S2 := S63) C hA G (by rw [hx63]; exact (k_fails zl D cI ad M S  hI)) (cwV 0 C.2.2.2.2.1 gX9_named_X9_fails rfl rfl rfl (by decide +kernel) ⟨Nat.le_of_ble_eq_true rfl, Nat.le_of_ble_eq_true rfl⟩) rfl hl.1 rfl (Nat.le_of_ble_eq_true rfl) dX9_named_63 ⟨Nat.le_refl _, Nat.le_refl _⟩ (fun H locs G => ?_)
                rw [lt2_e hx63] at hF
                have hIc := pI_fails (M := M) hI
                rw [← hx63] at hIc
                dsimp only at hIc
                have hle63 := hIc.2
                have hI := hIc.1
                exact hret _ _ _ _ _ _ hF G dX9_named_66
        refine lv_icmp_ne (tgt := 46) hx hb dX9_named_39 (by decide) (fun c39 => ?_) (fun c39 => ?_)
        · rw [if_neg c39] at hX47
          refine lv_iconst (v := 0) hx hb dX9_named_46 (by decide) ?_
          subst hX47
          exact hj47 _ _ _ (lv_sub hl [1, 2, 3, 0] rfl) G
        · rw [if_pos c39] at hX47
          refine lv_iconst (v := 1) hx hb dX9_named_42 (by decide) ?_
          refine lv_goto (tgt := 47) hx hb dX9_named_43 (by decide) ?_
          subst hX47
          exact hj47 _ _ _ (lv_sub hl [1, 2, 3, 0] rfl) G
      refine lv_icmp_ne (tgt := 34) hx hb dX9_named_27 (by decide) (fun c27 => ?_) (fun c27 => ?_)
      · rw [if_neg c27] at hX35
        refine lv_iconst (v := 0) hx hb dX9_named_34 (by decide) ?_
        subst hX35
        exact hj35 _ _ _ (lv_sub hl [0, 1, 2] rfl) G
      · rw [if_pos c27] at hX35
        refine lv_iconst (v := 1) hx hb dX9_named_30 (by decide) ?_
        refine lv_goto (tgt := 35) hx hb dX9_named_31 (by decide) ?_
        subst hX35
        exact hj35 _ _ _ (lv_sub hl [0, 1, 2] rfl) G
    refine lv_if_ne (tgt := 25) hx hb dX9_named_17 (by decide) (fun c17 => ?_) (fun c17 => ?_)
    · rw [if_neg c17] at hX27
      refine lv_bipush (v := 103) hx hb dX9_named_25 (by decide) ?_
      subst hX27
      exact hj27 _ _ _ (lv_sub hl [1, 2, 0] rfl) G
    · rw [if_pos c17] at hX27
      refine lv_bipush (v := 102) hx hb dX9_named_20 (by decide) ?_
      refine lv_goto (tgt := 27) hx hb dX9_named_22 (by decide) ?_
      subst hX27
      exact hj27 _ _ _ (lv_sub hl [1, 2, 0] rfl) G
  refine lv_icmp_ne (tgt := 10) hx hb dX9_named_3 (by decide) (fun c3 => ?_) (fun c3 => ?_)
  · rw [if_neg c3] at hX11
    refine lv_iconst (v := 0) hx hb dX9_named_10 (by decide) ?_
    subst hX11
    exact hj11 _ _ _ (lv_sub hl [0, 1] rfl) G
  · rw [if_pos c3] at hX11
    refine lv_iconst (v := 1) hx hb dX9_named_6 (by decide) ?_
    refine lv_goto (tgt := 11) hx hb dX9_named_7 (by decide) ?_
    subst hX11
    exact hj11 _ _ _ (lv_sub hl [0, 1] rfl) G
set_option maxRecDepth 100000 in
set_option maxHeartbeats 4000000 in
theorem k_factor0 (zl : Launch) (D : va_G) (cI : ClassId) (ad : Nat → Nat) (M : mS) {E : Nat} {u : Nat} (S : sS) (hI : pI E u 0 S) : mPc zl D cI ad yX9_factor wsX9_factor ({ frames := 3, cells := 0, slots := 0, locals := 64 } : Room) [] M S (mF_factor0 M S) := by
  have hin : ∀ w ∈ wsX90, w ∈ wsX9_factor := fun w h => List.mem_cons_of_mem _ (List.mem_append_right _ h)
  refine mPc_of (cc := cX9_factor) (nL := 3) (by decide) rfl rfl (Nat.le_of_ble_eq_true rfl) ?_
  intro zp ze zs zm zg zb zt zc zA H0 zQ C hA hret H locs ls hl G
  have hx := C.1
  have hb := C.2.1
  have hl : lv_has ls 3 [(0, .ref (ad 0))] := hl
  obtain ⟨rM, hF⟩ : ∃ X : Int32 × sS, X = mF_factor0 M S := ⟨_, rfl⟩
  rw [← hF] at hret
  unfold mF_factor0 at hF
  refine lv_aload_n hx hb dX9_factor_0 rfl (lv_at hl 0 rfl) ?_
  refine lv_aload_n hx hb dX9_factor_1 rfl (lv_at hl 0 rfl) ?_
  refine ps_get C G hin 8 (by decide) rfl (show Cond.fieldLink RX9 120 "WheatCountsModel" "at" "I" ∈ _ by decide +kernel) rfl dX9_factor_2 ?_
  refine ps_calli C hA G (k_byteAt zl D cI ad M S (vn (S 8)) hI (vn8_lt hI)) (cwV 1 C.2.2.2.2.1 gX9_factor_X9_byteAt rfl rfl rfl (by decide +kernel) ⟨Nat.le_of_ble_eq_true rfl, Nat.le_of_ble_eq_true rfl⟩) rfl hl.1 (cons_int (pI_8 hI).1 rfl) (Nat.le_of_ble_eq_true rfl) dX9_factor_5 ⟨Nat.le_refl _, Nat.le_refl _⟩ (fun H locs G => ?_)
  refine lv_topi (fun x8 hx8 => ?_)
  rw [lt_e hx8] at hF
  refine lv_istore_n (lv' := [(1, .int x8), (0, .ref (ad 0))]) hx hb dX9_factor_8 rfl hl (by decide) rfl (fun ls hl => ?_)
  refine lv_iload_n hx hb dX9_factor_9 rfl (lv_at hl 0 rfl) ?_
  refine ps_calls C hA G (ks_isDigit zl x8) (va_cwS 1 C.2.2.2.2.1 gX9_factor_X9_isDigit rfl rfl rfl (by decide +kernel) ⟨Nat.le_of_ble_eq_true rfl, Nat.le_of_ble_eq_true rfl⟩) rfl hl.1 rfl (Nat.le_of_ble_eq_true rfl) dX9_factor_10 ⟨Nat.le_refl _, Nat.le_refl _⟩ (fun H locs G => ?_)
  refine lv_if_eq (tgt := 21) hx hb dX9_factor_13 (by decide) (fun c13 => ?_) (fun c13 => ?_)
  · rw [if_pos c13] at hF
    refine lv_iload_n hx hb dX9_factor_21 rfl (lv_at hl 0 rfl) ?_
    refine lv_bipush (v := 33) hx hb dX9_factor_22 (by decide) ?_
    refine lv_icmp_eq (tgt := 39) hx hb dX9_factor_24 (by decide) (fun c24 => ?_) (fun c24 => ?_)
    · rw [if_pos c24] at hF
      refine lv_aload_n hx hb dX9_factor_39 rfl (lv_at hl 1 rfl) ?_
      refine ps_get C G hin 10 (by decide) rfl (show Cond.fieldLink RX9 148 "WheatCountsModel" "open" "I" ∈ _ by decide +kernel) rfl dX9_factor_40 ?_
      refine lv_iconst (v := 5) hx hb dX9_factor_43 (by decide) ?_
      refine lv_icmp_ne (tgt := 52) hx hb dX9_factor_44 (by decide) (fun c44 => absurd (pI_10 hI) c44) (fun c44 => ?_)
      refine lv_aload_n hx hb dX9_factor_47 rfl (lv_at hl 1 rfl) ?_
      obtain ⟨x48, S48, hx48⟩ : ∃ (X : Int32) (Y : sS), (X, Y) = mF_fails M S := ⟨_, _, rfl⟩
      refine ps_calli (r0 := x48) (S2 := S48) C hA G (by rw [hx48]; exact (k_fails zl D cI ad M S  hI)) (cwV 0 C.2.2.2.2.1 gX9_factor_X9_fails rfl rfl rfl (by decide +kernel) ⟨Nat.le_of_ble_eq_true rfl, Nat.le_of_ble_eq_true rfl⟩) rfl hl.1 rfl (Nat.le_of_ble_eq_true rfl) dX9_factor_48 ⟨Nat.le_refl _, Nat.le_refl _⟩ (fun H locs G => ?_)
      rw [lt2_e hx48] at hF
      have hIc := pI_fails (M := M) hI
      rw [← hx48] at hIc
      dsimp only at hIc
      have hle48 := hIc.2
      have hI := hIc.1
      exact hret _ _ _ _ _ _ hF G dX9_factor_51
    · rw [if_neg c24] at hF
      refine lv_iload_n hx hb dX9_factor_27 rfl (lv_at hl 0 rfl) ?_
      refine lv_bipush (v := 40) hx hb dX9_factor_28 (by decide) ?_
      refine lv_icmp_eq (tgt := 39) hx hb dX9_factor_30 (by decide) (fun c30 => ?_) (fun c30 => ?_)
      · rw [if_pos c30] at hF
        refine lv_aload_n hx hb dX9_factor_39 rfl (lv_at hl 1 rfl) ?_
        refine ps_get C G hin 10 (by decide) rfl (show Cond.fieldLink RX9 148 "WheatCountsModel" "open" "I" ∈ _ by decide +kernel) rfl dX9_factor_40 ?_
        refine lv_iconst (v := 5) hx hb dX9_factor_43 (by decide) ?_
        refine lv_icmp_ne (tgt := 52) hx hb dX9_factor_44 (by decide) (fun c44 => absurd (pI_10 hI) c44) (fun c44 => ?_)
        refine lv_aload_n hx hb dX9_factor_47 rfl (lv_at hl 1 rfl) ?_
        obtain ⟨x48, S48, hx48⟩ : ∃ (X : Int32) (Y : sS), (X, Y) = mF_fails M S := ⟨_, _, rfl⟩
        refine ps_calli (r0 := x48) (S2 := S48) C hA G (by rw [hx48]; exact (k_fails zl D cI ad M S  hI)) (cwV 0 C.2.2.2.2.1 gX9_factor_X9_fails rfl rfl rfl (by decide +kernel) ⟨Nat.le_of_ble_eq_true rfl, Nat.le_of_ble_eq_true rfl⟩) rfl hl.1 rfl (Nat.le_of_ble_eq_true rfl) dX9_factor_48 ⟨Nat.le_refl _, Nat.le_refl _⟩ (fun H locs G => ?_)
        rw [lt2_e hx48] at hF
        have hIc := pI_fails (M := M) hI
        rw [← hx48] at hIc
        dsimp only at hIc
        have hle48 := hIc.2
        have hI := hIc.1
        exact hret _ _ _ _ _ _ hF G dX9_factor_51
      · rw [if_neg c30] at hF
        refine lv_aload_n hx hb dX9_factor_33 rfl (lv_at hl 1 rfl) ?_
        refine lv_iload_n hx hb dX9_factor_34 rfl (lv_at hl 0 rfl) ?_
        obtain ⟨x35, S35, hx35⟩ : ∃ (X : Int32) (Y : sS), (X, Y) = mF_named M S x8 := ⟨_, _, rfl⟩
        refine ps_calli (r0 := x35) (S2 := S35) C hA G (by rw [hx35]; exact (k_named zl D cI ad M S x8 hI hx8)) (cwV 1 C.2.2.2.2.1 gX9_factor_X9_named rfl rfl rfl (by decide +kernel) ⟨Nat.le_of_ble_eq_true rfl, Nat.le_of_ble_eq_true rfl⟩) rfl hl.1 rfl (Nat.le_of_ble_eq_true rfl) dX9_factor_35 ⟨Nat.le_refl _, Nat.le_refl _⟩ (fun H locs G => ?_)
        rw [lt2_e hx35] at hF
        have hIc := pI_named (M := M) hI hx8
        rw [← hx35] at hIc
        dsimp only at hIc
        have hle35 := hIc.2
        have hI := hIc.1
        exact hret _ _ _ _ _ _ hF G dX9_factor_38
  · rw [if_neg c13] at hF
    refine lv_aload_n hx hb dX9_factor_16 rfl (lv_at hl 1 rfl) ?_
    obtain ⟨x17, S17, hx17⟩ : ∃ (X : Int32) (Y : sS), (X, Y) = mF_number M S := ⟨_, _, rfl⟩
    refine ps_calli (r0 := x17) (S2 := S17) C hA G (by rw [hx17]; exact (k_number zl D cI ad M S  hI)) (cwV 0 C.2.2.2.2.1 gX9_factor_X9_number rfl rfl rfl (by decide +kernel) ⟨Nat.le_of_ble_eq_true rfl, Nat.le_of_ble_eq_true rfl⟩) rfl hl.1 rfl (Nat.le_of_ble_eq_true rfl) dX9_factor_17 ⟨Nat.le_refl _, Nat.le_refl _⟩ (fun H locs G => ?_)
    rw [lt2_e hx17] at hF
    have hIc := pI_number (M := M) hI
    rw [← hx17] at hIc
    dsimp only at hIc
    have hle17 := hIc.2
    have hI := hIc.1
    exact hret _ _ _ _ _ _ hF G dX9_factor_20
set_option maxRecDepth 100000 in
set_option maxHeartbeats 4000000 in
theorem k_factorS (zl : Launch) (D : va_G) (cI : ClassId) (ad : Nat → Nat) (M : mS) {E : Nat} {u : Nat} {d : Nat} {lF lW nF nW : Nat} (fF : sS → Int32 × sS) (fW : sS → Int32 × sS) (hkF : ∀ S, pI E u d S → mPc zl D cI ad yX9_factor wsX9_factor ({ frames := nF, cells := 0, slots := 0, locals := lF } : Room) [] M S (fF S)) (hpF : ∀ S, pI E u d S → pI E u d (fF S).2 ∧ vn (S 8) ≤ vn ((fF S).2 8)) (hkW : ∀ S, pI E u d S → mPc zl D cI ad yX9_whole wsX9_whole ({ frames := nW, cells := 0, slots := 0, locals := lW } : Room) [] M S (fW S)) (hpW : ∀ S, pI E u d S → pI E u d (fW S).2 ∧ vn (S 8) ≤ vn ((fW S).2 8)) (hFW : nF ≤ nW ∧ lF ≤ lW) (S : sS) (hI : pI E u (d + 1) S) : mPc zl D cI ad yX9_factor wsX9_factor ({ frames := nW + 3, cells := 0, slots := 0, locals := lW + 64 } : Room) [] M S (mF_factorS M fF fW S) := by
  have hin : ∀ w ∈ wsX90, w ∈ wsX9_factor := fun w h => List.mem_cons_of_mem _ (List.mem_append_right _ h)
  refine mPc_of (cc := cX9_factor) (nL := 3) (by decide) rfl rfl (Nat.le_of_ble_eq_true rfl) ?_
  intro zp ze zs zm zg zb zt zc zA H0 zQ C hA hret H locs ls hl G
  have hx := C.1
  have hb := C.2.1
  have hl : lv_has ls 3 [(0, .ref (ad 0))] := hl
  obtain ⟨rM, hF⟩ : ∃ X : Int32 × sS, X = mF_factorS M fF fW S := ⟨_, rfl⟩
  rw [← hF] at hret
  unfold mF_factorS at hF
  have hd := hI.2.2.2.1.2
  refine lv_aload_n hx hb dX9_factor_0 rfl (lv_at hl 0 rfl) ?_
  refine lv_aload_n hx hb dX9_factor_1 rfl (lv_at hl 0 rfl) ?_
  refine ps_get C G hin 8 (by decide) rfl (show Cond.fieldLink RX9 120 "WheatCountsModel" "at" "I" ∈ _ by decide +kernel) rfl dX9_factor_2 ?_
  refine ps_calli C hA G (k_byteAt zl D cI ad M S (vn (S 8)) hI (vn8_lt hI)) (cwV 1 C.2.2.2.2.1 gX9_factor_X9_byteAt rfl rfl rfl (by decide +kernel) (by refine ⟨?_, ?_⟩ <;> dsimp only <;> omega)) rfl hl.1 (cons_int (pI_8 hI).1 rfl) (Nat.le_of_ble_eq_true rfl) dX9_factor_5 ⟨Nat.le_refl _, Nat.le_refl _⟩ (fun H locs G => ?_)
  refine lv_topi (fun x8 hx8 => ?_)
  rw [lt_e hx8] at hF
  refine lv_istore_n (lv' := [(1, .int x8), (0, .ref (ad 0))]) hx hb dX9_factor_8 rfl hl (by decide) rfl (fun ls hl => ?_)
  refine lv_iload_n hx hb dX9_factor_9 rfl (lv_at hl 0 rfl) ?_
  refine ps_calls C hA G (ks_isDigit zl x8) (va_cwS 1 C.2.2.2.2.1 gX9_factor_X9_isDigit rfl rfl rfl (by decide +kernel) (by refine ⟨?_, ?_⟩ <;> dsimp only <;> omega)) rfl hl.1 rfl (Nat.le_of_ble_eq_true rfl) dX9_factor_10 ⟨Nat.le_refl _, Nat.le_refl _⟩ (fun H locs G => ?_)
  refine lv_if_eq (tgt := 21) hx hb dX9_factor_13 (by decide) (fun c13 => ?_) (fun c13 => ?_)
  · rw [if_pos c13] at hF
    refine lv_iload_n hx hb dX9_factor_21 rfl (lv_at hl 0 rfl) ?_
    refine lv_bipush (v := 33) hx hb dX9_factor_22 (by decide) ?_
    refine lv_icmp_eq (tgt := 39) hx hb dX9_factor_24 (by decide) (fun c24 => ?_) (fun c24 => ?_)
    · rw [if_pos c24] at hF
      have hlt := byteAt_lt hI (by rw [← hx8, c24]; decide)
      refine lv_aload_n hx hb dX9_factor_39 rfl (lv_at hl 1 rfl) ?_
      refine ps_get C G hin 10 (by decide) rfl (show Cond.fieldLink RX9 148 "WheatCountsModel" "open" "I" ∈ _ by decide +kernel) rfl dX9_factor_40 ?_
      refine lv_iconst (v := 5) hx hb dX9_factor_43 (by decide) ?_
      refine lv_icmp_ne (tgt := 52) hx hb dX9_factor_44 (by decide) (fun c44 => ?_) (fun c44 => absurd c44 (pI_10S hI))
      refine lv_aload_n hx hb dX9_factor_52 rfl (lv_at hl 1 rfl) ?_
      refine lv_dup hx hb dX9_factor_53 rfl ?_
      refine ps_get C G hin 10 (by decide) rfl (show Cond.fieldLink RX9 148 "WheatCountsModel" "open" "I" ∈ _ by decide +kernel) rfl dX9_factor_54 ?_
      refine lv_iconst (v := 1) hx hb dX9_factor_57 (by decide) ?_
      refine lv_iadd hx hb dX9_factor_58 ?_
      refine ps_put C G hin 10 (by decide) rfl rfl (show Cond.fieldLink RX9 148 "WheatCountsModel" "open" "I" ∈ _ by decide +kernel) (ty := .int) (by decide +kernel) rfl rfl rfl dX9_factor_59 (fun H locs G => ?_)
      obtain ⟨S59, hS59⟩ : ∃ X : sS, X = upd S 10 ((S 10) + 1) := ⟨_, rfl⟩
      rw [← hS59] at G
      rw [lt_e hS59] at hF
      have hI := pI_open hI hS59 
      have hlt : vn (S59 8) < E := by rw [hS59]; exact hlt
      refine lv_aload_n hx hb dX9_factor_62 rfl (lv_at hl 1 rfl) ?_
      refine lv_dup hx hb dX9_factor_63 rfl ?_
      refine ps_get C G hin 8 (by decide) rfl (show Cond.fieldLink RX9 120 "WheatCountsModel" "at" "I" ∈ _ by decide +kernel) rfl dX9_factor_64 ?_
      refine lv_iconst (v := 1) hx hb dX9_factor_67 (by decide) ?_
      refine lv_iadd hx hb dX9_factor_68 ?_
      refine ps_put C G hin 8 (by decide) rfl rfl (show Cond.fieldLink RX9 120 "WheatCountsModel" "at" "I" ∈ _ by decide +kernel) (ty := .int) (by decide +kernel) rfl rfl rfl dX9_factor_69 (fun H locs G => ?_)
      obtain ⟨S69, hS69⟩ : ∃ X : sS, X = upd S59 8 ((S59 8) + 1) := ⟨_, rfl⟩
      rw [← hS69] at G
      rw [lt_e hS69] at hF
      have hat69 := at_succ hI hS69 hlt
      have hI := pI_at hI hS69 hlt
      refine lv_iload_n hx hb dX9_factor_72 rfl (lv_at hl 0 rfl) ?_
      refine lv_bipush (v := 33) hx hb dX9_factor_73 (by decide) ?_
      refine lv_icmp_ne (tgt := 85) hx hb dX9_factor_75 (by decide) (fun c75 => ?_) (fun c75 => ?_)
      · rw [if_neg c75] at hF
        refine lv_aload_n hx hb dX9_factor_85 rfl (lv_at hl 1 rfl) ?_
        obtain ⟨x86, S86, hx86⟩ : ∃ (X : Int32) (Y : sS), (X, Y) = fW S69 := ⟨_, _, rfl⟩
        refine ps_calli (r0 := x86) (S2 := S86) C hA G (by rw [hx86]; exact (hkW S69 hI)) (cwV 0 C.2.2.2.2.1 gX9_factor_X9_whole rfl rfl rfl (by decide +kernel) (by refine ⟨?_, ?_⟩ <;> dsimp only <;> omega)) rfl hl.1 rfl (Nat.le_of_ble_eq_true rfl) dX9_factor_86 ⟨Nat.le_refl _, Nat.le_refl _⟩ (fun H locs G => ?_)
        rw [lt2_e hx86] at hF
        have hIc := hpW _ hI
        rw [← hx86] at hIc
        dsimp only at hIc
        have hle86 := hIc.2
        have hI := hIc.1
        refine lv_istore_n (lv' := [(2, .int x86), (1, .int x8), (0, .ref (ad 0))]) hx hb dX9_factor_89 rfl hl (by decide) rfl (fun ls hl => ?_)
        refine lv_aload_n hx hb dX9_factor_90 rfl (lv_at hl 2 rfl) ?_
        refine lv_dup hx hb dX9_factor_91 rfl ?_
        refine ps_get C G hin 10 (by decide) rfl (show Cond.fieldLink RX9 148 "WheatCountsModel" "open" "I" ∈ _ by decide +kernel) rfl dX9_factor_92 ?_
        refine lv_iconst (v := 1) hx hb dX9_factor_95 (by decide) ?_
        refine lv_isub hx hb dX9_factor_96 ?_
        refine ps_put C G hin 10 (by decide) rfl rfl (show Cond.fieldLink RX9 148 "WheatCountsModel" "open" "I" ∈ _ by decide +kernel) (ty := .int) (by decide +kernel) rfl rfl rfl dX9_factor_97 (fun H locs G => ?_)
        obtain ⟨S97, hS97⟩ : ∃ X : sS, X = upd S86 10 ((S86 10) - 1) := ⟨_, rfl⟩
        rw [← hS97] at G
        rw [lt_e hS97] at hF
        have hI := pI_shut hI hS97 (by have := hd; omega)
        refine lv_iload_n hx hb dX9_factor_100 rfl (lv_at hl 1 rfl) ?_
        refine lv_bipush (v := 33) hx hb dX9_factor_101 (by decide) ?_
        refine lv_icmp_ne (tgt := 116) hx hb dX9_factor_103 (by decide) (fun c103 => ?_) (fun c103 => ?_)
        · rw [if_neg c103] at hF
          refine lv_aload_n hx hb dX9_factor_116 rfl (lv_at hl 2 rfl) ?_
          refine ps_get C G hin 14 (by decide) rfl (show Cond.fieldLink RX9 116 "WheatCountsModel" "good" "Z" ∈ _ by decide +kernel) rfl dX9_factor_117 ?_
          refine lv_if_eq (tgt := 148) hx hb dX9_factor_120 (by decide) (fun c120 => ?_) (fun c120 => ?_)
          · rw [if_pos c120] at hF
            refine lv_aload_n hx hb dX9_factor_148 rfl (lv_at hl 2 rfl) ?_
            obtain ⟨x149, S149, hx149⟩ : ∃ (X : Int32) (Y : sS), (X, Y) = mF_fails M S97 := ⟨_, _, rfl⟩
            refine ps_calli (r0 := x149) (S2 := S149) C hA G (by rw [hx149]; exact (k_fails zl D cI ad M S97  hI)) (cwV 0 C.2.2.2.2.1 gX9_factor_X9_fails rfl rfl rfl (by decide +kernel) (by refine ⟨?_, ?_⟩ <;> dsimp only <;> omega)) rfl hl.1 rfl (Nat.le_of_ble_eq_true rfl) dX9_factor_149 ⟨Nat.le_refl _, Nat.le_refl _⟩ (fun H locs G => ?_)
            rw [lt2_e hx149] at hF
            have hIc := pI_fails (M := M) hI
            rw [← hx149] at hIc
            dsimp only at hIc
            have hle149 := hIc.2
            have hI := hIc.1
            exact hret _ _ _ _ _ _ hF G dX9_factor_152
          · rw [if_neg c120] at hF
            refine lv_aload_n hx hb dX9_factor_123 rfl (lv_at hl 2 rfl) ?_
            refine lv_aload_n hx hb dX9_factor_124 rfl (lv_at hl 2 rfl) ?_
            refine ps_get C G hin 8 (by decide) rfl (show Cond.fieldLink RX9 120 "WheatCountsModel" "at" "I" ∈ _ by decide +kernel) rfl dX9_factor_125 ?_
            refine ps_calli C hA G (k_byteAt zl D cI ad M S97 (vn (S97 8)) hI (vn8_lt hI)) (cwV 1 C.2.2.2.2.1 gX9_factor_X9_byteAt rfl rfl rfl (by decide +kernel) (by refine ⟨?_, ?_⟩ <;> dsimp only <;> omega)) rfl hl.1 (cons_int (pI_8 hI).1 rfl) (Nat.le_of_ble_eq_true rfl) dX9_factor_128 ⟨Nat.le_refl _, Nat.le_refl _⟩ (fun H locs G => ?_)
            refine lv_bipush (v := 41) hx hb dX9_factor_131 (by decide) ?_
            refine lv_icmp_ne (tgt := 148) hx hb dX9_factor_133 (by decide) (fun c133 => ?_) (fun c133 => ?_)
            · rw [if_neg c133] at hF
              refine lv_aload_n hx hb dX9_factor_148 rfl (lv_at hl 2 rfl) ?_
              obtain ⟨x149, S149, hx149⟩ : ∃ (X : Int32) (Y : sS), (X, Y) = mF_fails M S97 := ⟨_, _, rfl⟩
              refine ps_calli (r0 := x149) (S2 := S149) C hA G (by rw [hx149]; exact (k_fails zl D cI ad M S97  hI)) (cwV 0 C.2.2.2.2.1 gX9_factor_X9_fails rfl rfl rfl (by decide +kernel) (by refine ⟨?_, ?_⟩ <;> dsimp only <;> omega)) rfl hl.1 rfl (Nat.le_of_ble_eq_true rfl) dX9_factor_149 ⟨Nat.le_refl _, Nat.le_refl _⟩ (fun H locs G => ?_)
              rw [lt2_e hx149] at hF
              have hIc := pI_fails (M := M) hI
              rw [← hx149] at hIc
              dsimp only at hIc
              have hle149 := hIc.2
              have hI := hIc.1
              exact hret _ _ _ _ _ _ hF G dX9_factor_152
            · rw [if_pos c133] at hF
              have hlt := byteAt_lt hI (by rw [c133]; decide)
              refine lv_aload_n hx hb dX9_factor_136 rfl (lv_at hl 2 rfl) ?_
              refine lv_dup hx hb dX9_factor_137 rfl ?_
              refine ps_get C G hin 8 (by decide) rfl (show Cond.fieldLink RX9 120 "WheatCountsModel" "at" "I" ∈ _ by decide +kernel) rfl dX9_factor_138 ?_
              refine lv_iconst (v := 1) hx hb dX9_factor_141 (by decide) ?_
              refine lv_iadd hx hb dX9_factor_142 ?_
              refine ps_put C G hin 8 (by decide) rfl rfl (show Cond.fieldLink RX9 120 "WheatCountsModel" "at" "I" ∈ _ by decide +kernel) (ty := .int) (by decide +kernel) rfl rfl rfl dX9_factor_143 (fun H locs G => ?_)
              obtain ⟨S143, hS143⟩ : ∃ X : sS, X = upd S97 8 ((S97 8) + 1) := ⟨_, rfl⟩
              rw [← hS143] at G
              rw [lt_e hS143] at hF
              have hat143 := at_succ hI hS143 hlt
              have hI := pI_at hI hS143 hlt
              refine lv_iload_n hx hb dX9_factor_146 rfl (lv_at hl 0 rfl) ?_
              exact hret _ _ _ _ _ _ hF G dX9_factor_147
        · rw [if_pos c103] at hF
          refine lv_iload_n hx hb dX9_factor_106 rfl (lv_at hl 0 rfl) ?_
          refine lv_if_ne (tgt := 114) hx hb dX9_factor_107 (by decide) (fun c107 => ?_) (fun c107 => ?_)
          · rw [if_neg c107] at hF
            refine lv_iconst (v := 0) hx hb dX9_factor_114 (by decide) ?_
            exact hret _ _ _ _ _ _ hF G dX9_factor_115
          · rw [if_pos c107] at hF
            refine lv_iconst (v := 1) hx hb dX9_factor_110 (by decide) ?_
            refine lv_goto (tgt := 115) hx hb dX9_factor_111 (by decide) ?_
            exact hret _ _ _ _ _ _ hF G dX9_factor_115
      · rw [if_pos c75] at hF
        refine lv_aload_n hx hb dX9_factor_78 rfl (lv_at hl 1 rfl) ?_
        obtain ⟨x79, S79, hx79⟩ : ∃ (X : Int32) (Y : sS), (X, Y) = fF S69 := ⟨_, _, rfl⟩
        refine ps_calli (r0 := x79) (S2 := S79) C hA G (by rw [hx79]; exact (hkF S69 hI)) (cwV 0 C.2.2.2.2.1 gX9_factor_X9_factor rfl rfl rfl (by decide +kernel) (by refine ⟨?_, ?_⟩ <;> dsimp only <;> omega)) rfl hl.1 rfl (Nat.le_of_ble_eq_true rfl) dX9_factor_79 ⟨Nat.le_refl _, Nat.le_refl _⟩ (fun H locs G => ?_)
        rw [lt2_e hx79] at hF
        have hIc := hpF _ hI
        rw [← hx79] at hIc
        dsimp only at hIc
        have hle79 := hIc.2
        have hI := hIc.1
        refine lv_goto (tgt := 89) hx hb dX9_factor_82 (by decide) ?_
        refine lv_istore_n (lv' := [(2, .int x79), (1, .int x8), (0, .ref (ad 0))]) hx hb dX9_factor_89 rfl hl (by decide) rfl (fun ls hl => ?_)
        refine lv_aload_n hx hb dX9_factor_90 rfl (lv_at hl 2 rfl) ?_
        refine lv_dup hx hb dX9_factor_91 rfl ?_
        refine ps_get C G hin 10 (by decide) rfl (show Cond.fieldLink RX9 148 "WheatCountsModel" "open" "I" ∈ _ by decide +kernel) rfl dX9_factor_92 ?_
        refine lv_iconst (v := 1) hx hb dX9_factor_95 (by decide) ?_
        refine lv_isub hx hb dX9_factor_96 ?_
        refine ps_put C G hin 10 (by decide) rfl rfl (show Cond.fieldLink RX9 148 "WheatCountsModel" "open" "I" ∈ _ by decide +kernel) (ty := .int) (by decide +kernel) rfl rfl rfl dX9_factor_97 (fun H locs G => ?_)
        obtain ⟨S97, hS97⟩ : ∃ X : sS, X = upd S79 10 ((S79 10) - 1) := ⟨_, rfl⟩
        rw [← hS97] at G
        rw [lt_e hS97] at hF
        have hI := pI_shut hI hS97 (by have := hd; omega)
        refine lv_iload_n hx hb dX9_factor_100 rfl (lv_at hl 1 rfl) ?_
        refine lv_bipush (v := 33) hx hb dX9_factor_101 (by decide) ?_
        refine lv_icmp_ne (tgt := 116) hx hb dX9_factor_103 (by decide) (fun c103 => ?_) (fun c103 => ?_)
        · rw [if_neg c103] at hF
          refine lv_aload_n hx hb dX9_factor_116 rfl (lv_at hl 2 rfl) ?_
          refine ps_get C G hin 14 (by decide) rfl (show Cond.fieldLink RX9 116 "WheatCountsModel" "good" "Z" ∈ _ by decide +kernel) rfl dX9_factor_117 ?_
          refine lv_if_eq (tgt := 148) hx hb dX9_factor_120 (by decide) (fun c120 => ?_) (fun c120 => ?_)
          · rw [if_pos c120] at hF
            refine lv_aload_n hx hb dX9_factor_148 rfl (lv_at hl 2 rfl) ?_
            obtain ⟨x149, S149, hx149⟩ : ∃ (X : Int32) (Y : sS), (X, Y) = mF_fails M S97 := ⟨_, _, rfl⟩
            refine ps_calli (r0 := x149) (S2 := S149) C hA G (by rw [hx149]; exact (k_fails zl D cI ad M S97  hI)) (cwV 0 C.2.2.2.2.1 gX9_factor_X9_fails rfl rfl rfl (by decide +kernel) (by refine ⟨?_, ?_⟩ <;> dsimp only <;> omega)) rfl hl.1 rfl (Nat.le_of_ble_eq_true rfl) dX9_factor_149 ⟨Nat.le_refl _, Nat.le_refl _⟩ (fun H locs G => ?_)
            rw [lt2_e hx149] at hF
            have hIc := pI_fails (M := M) hI
            rw [← hx149] at hIc
            dsimp only at hIc
            have hle149 := hIc.2
            have hI := hIc.1
            exact hret _ _ _ _ _ _ hF G dX9_factor_152
          · rw [if_neg c120] at hF
            refine lv_aload_n hx hb dX9_factor_123 rfl (lv_at hl 2 rfl) ?_
            refine lv_aload_n hx hb dX9_factor_124 rfl (lv_at hl 2 rfl) ?_
            refine ps_get C G hin 8 (by decide) rfl (show Cond.fieldLink RX9 120 "WheatCountsModel" "at" "I" ∈ _ by decide +kernel) rfl dX9_factor_125 ?_
            refine ps_calli C hA G (k_byteAt zl D cI ad M S97 (vn (S97 8)) hI (vn8_lt hI)) (cwV 1 C.2.2.2.2.1 gX9_factor_X9_byteAt rfl rfl rfl (by decide +kernel) (by refine ⟨?_, ?_⟩ <;> dsimp only <;> omega)) rfl hl.1 (cons_int (pI_8 hI).1 rfl) (Nat.le_of_ble_eq_true rfl) dX9_factor_128 ⟨Nat.le_refl _, Nat.le_refl _⟩ (fun H locs G => ?_)
            refine lv_bipush (v := 41) hx hb dX9_factor_131 (by decide) ?_
            refine lv_icmp_ne (tgt := 148) hx hb dX9_factor_133 (by decide) (fun c133 => ?_) (fun c133 => ?_)
            · rw [if_neg c133] at hF
              refine lv_aload_n hx hb dX9_factor_148 rfl (lv_at hl 2 rfl) ?_
              obtain ⟨x149, S149, hx149⟩ : ∃ (X : Int32) (Y : sS), (X, Y) = mF_fails M S97 := ⟨_, _, rfl⟩
              refine ps_calli (r0 := x149) (S2 := S149) C hA G (by rw [hx149]; exact (k_fails zl D cI ad M S97  hI)) (cwV 0 C.2.2.2.2.1 gX9_factor_X9_fails rfl rfl rfl (by decide +kernel) (by refine ⟨?_, ?_⟩ <;> dsimp only <;> omega)) rfl hl.1 rfl (Nat.le_of_ble_eq_true rfl) dX9_factor_149 ⟨Nat.le_refl _, Nat.le_refl _⟩ (fun H locs G => ?_)
              rw [lt2_e hx149] at hF
              have hIc := pI_fails (M := M) hI
              rw [← hx149] at hIc
              dsimp only at hIc
              have hle149 := hIc.2
              have hI := hIc.1
              exact hret _ _ _ _ _ _ hF G dX9_factor_152
            · rw [if_pos c133] at hF
              have hlt := byteAt_lt hI (by rw [c133]; decide)
              refine lv_aload_n hx hb dX9_factor_136 rfl (lv_at hl 2 rfl) ?_
              refine lv_dup hx hb dX9_factor_137 rfl ?_
              refine ps_get C G hin 8 (by decide) rfl (show Cond.fieldLink RX9 120 "WheatCountsModel" "at" "I" ∈ _ by decide +kernel) rfl dX9_factor_138 ?_
              refine lv_iconst (v := 1) hx hb dX9_factor_141 (by decide) ?_
              refine lv_iadd hx hb dX9_factor_142 ?_
              refine ps_put C G hin 8 (by decide) rfl rfl (show Cond.fieldLink RX9 120 "WheatCountsModel" "at" "I" ∈ _ by decide +kernel) (ty := .int) (by decide +kernel) rfl rfl rfl dX9_factor_143 (fun H locs G => ?_)
              obtain ⟨S143, hS143⟩ : ∃ X : sS, X = upd S97 8 ((S97 8) + 1) := ⟨_, rfl⟩
              rw [← hS143] at G
              rw [lt_e hS143] at hF
              have hat143 := at_succ hI hS143 hlt
              have hI := pI_at hI hS143 hlt
              refine lv_iload_n hx hb dX9_factor_146 rfl (lv_at hl 0 rfl) ?_
              exact hret _ _ _ _ _ _ hF G dX9_factor_147
        · rw [if_pos c103] at hF
          refine lv_iload_n hx hb dX9_factor_106 rfl (lv_at hl 0 rfl) ?_
          refine lv_if_ne (tgt := 114) hx hb dX9_factor_107 (by decide) (fun c107 => ?_) (fun c107 => ?_)
          · rw [if_neg c107] at hF
            refine lv_iconst (v := 0) hx hb dX9_factor_114 (by decide) ?_
            exact hret _ _ _ _ _ _ hF G dX9_factor_115
          · rw [if_pos c107] at hF
            refine lv_iconst (v := 1) hx hb dX9_factor_110 (by decide) ?_
            refine lv_goto (tgt := 115) hx hb dX9_factor_111 (by decide) ?_
            exact hret _ _ _ _ _ _ hF G dX9_factor_115
    · rw [if_neg c24] at hF
      refine lv_iload_n hx hb dX9_factor_27 rfl (lv_at hl 0 rfl) ?_
      refine lv_bipush (v := 40) hx hb dX9_factor_28 (by decide) ?_
      refine lv_icmp_eq (tgt := 39) hx hb dX9_factor_30 (by decide) (fun c30 => ?_) (fun c30 => ?_)
      · rw [if_pos c30] at hF
        have hlt := byteAt_lt hI (by rw [← hx8, c30]; decide)
        refine lv_aload_n hx hb dX9_factor_39 rfl (lv_at hl 1 rfl) ?_
        refine ps_get C G hin 10 (by decide) rfl (show Cond.fieldLink RX9 148 "WheatCountsModel" "open" "I" ∈ _ by decide +kernel) rfl dX9_factor_40 ?_
        refine lv_iconst (v := 5) hx hb dX9_factor_43 (by decide) ?_
        refine lv_icmp_ne (tgt := 52) hx hb dX9_factor_44 (by decide) (fun c44 => ?_) (fun c44 => absurd c44 (pI_10S hI))
        refine lv_aload_n hx hb dX9_factor_52 rfl (lv_at hl 1 rfl) ?_
        refine lv_dup hx hb dX9_factor_53 rfl ?_
        refine ps_get C G hin 10 (by decide) rfl (show Cond.fieldLink RX9 148 "WheatCountsModel" "open" "I" ∈ _ by decide +kernel) rfl dX9_factor_54 ?_
        refine lv_iconst (v := 1) hx hb dX9_factor_57 (by decide) ?_
        refine lv_iadd hx hb dX9_factor_58 ?_
        refine ps_put C G hin 10 (by decide) rfl rfl (show Cond.fieldLink RX9 148 "WheatCountsModel" "open" "I" ∈ _ by decide +kernel) (ty := .int) (by decide +kernel) rfl rfl rfl dX9_factor_59 (fun H locs G => ?_)
        obtain ⟨S59, hS59⟩ : ∃ X : sS, X = upd S 10 ((S 10) + 1) := ⟨_, rfl⟩
        rw [← hS59] at G
        rw [lt_e hS59] at hF
        have hI := pI_open hI hS59 
        have hlt : vn (S59 8) < E := by rw [hS59]; exact hlt
        refine lv_aload_n hx hb dX9_factor_62 rfl (lv_at hl 1 rfl) ?_
        refine lv_dup hx hb dX9_factor_63 rfl ?_
        refine ps_get C G hin 8 (by decide) rfl (show Cond.fieldLink RX9 120 "WheatCountsModel" "at" "I" ∈ _ by decide +kernel) rfl dX9_factor_64 ?_
        refine lv_iconst (v := 1) hx hb dX9_factor_67 (by decide) ?_
        refine lv_iadd hx hb dX9_factor_68 ?_
        refine ps_put C G hin 8 (by decide) rfl rfl (show Cond.fieldLink RX9 120 "WheatCountsModel" "at" "I" ∈ _ by decide +kernel) (ty := .int) (by decide +kernel) rfl rfl rfl dX9_factor_69 (fun H locs G => ?_)
        obtain ⟨S69, hS69⟩ : ∃ X : sS, X = upd S59 8 ((S59 8) + 1) := ⟨_, rfl⟩
        rw [← hS69] at G
        rw [lt_e hS69] at hF
        have hat69 := at_succ hI hS69 hlt
        have hI := pI_at hI hS69 hlt
        refine lv_iload_n hx hb dX9_factor_72 rfl (lv_at hl 0 rfl) ?_
        refine lv_bipush (v := 33) hx hb dX9_factor_73 (by decide) ?_
        refine lv_icmp_ne (tgt := 85) hx hb dX9_factor_75 (by decide) (fun c75 => ?_) (fun c75 => ?_)
        · rw [if_neg c75] at hF
          refine lv_aload_n hx hb dX9_factor_85 rfl (lv_at hl 1 rfl) ?_
          obtain ⟨x86, S86, hx86⟩ : ∃ (X : Int32) (Y : sS), (X, Y) = fW S69 := ⟨_, _, rfl⟩
          refine ps_calli (r0 := x86) (S2 := S86) C hA G (by rw [hx86]; exact (hkW S69 hI)) (cwV 0 C.2.2.2.2.1 gX9_factor_X9_whole rfl rfl rfl (by decide +kernel) (by refine ⟨?_, ?_⟩ <;> dsimp only <;> omega)) rfl hl.1 rfl (Nat.le_of_ble_eq_true rfl) dX9_factor_86 ⟨Nat.le_refl _, Nat.le_refl _⟩ (fun H locs G => ?_)
          rw [lt2_e hx86] at hF
          have hIc := hpW _ hI
          rw [← hx86] at hIc
          dsimp only at hIc
          have hle86 := hIc.2
          have hI := hIc.1
          refine lv_istore_n (lv' := [(2, .int x86), (1, .int x8), (0, .ref (ad 0))]) hx hb dX9_factor_89 rfl hl (by decide) rfl (fun ls hl => ?_)
          refine lv_aload_n hx hb dX9_factor_90 rfl (lv_at hl 2 rfl) ?_
          refine lv_dup hx hb dX9_factor_91 rfl ?_
          refine ps_get C G hin 10 (by decide) rfl (show Cond.fieldLink RX9 148 "WheatCountsModel" "open" "I" ∈ _ by decide +kernel) rfl dX9_factor_92 ?_
          refine lv_iconst (v := 1) hx hb dX9_factor_95 (by decide) ?_
          refine lv_isub hx hb dX9_factor_96 ?_
          refine ps_put C G hin 10 (by decide) rfl rfl (show Cond.fieldLink RX9 148 "WheatCountsModel" "open" "I" ∈ _ by decide +kernel) (ty := .int) (by decide +kernel) rfl rfl rfl dX9_factor_97 (fun H locs G => ?_)
          obtain ⟨S97, hS97⟩ : ∃ X : sS, X = upd S86 10 ((S86 10) - 1) := ⟨_, rfl⟩
          rw [← hS97] at G
          rw [lt_e hS97] at hF
          have hI := pI_shut hI hS97 (by have := hd; omega)
          refine lv_iload_n hx hb dX9_factor_100 rfl (lv_at hl 1 rfl) ?_
          refine lv_bipush (v := 33) hx hb dX9_factor_101 (by decide) ?_
          refine lv_icmp_ne (tgt := 116) hx hb dX9_factor_103 (by decide) (fun c103 => ?_) (fun c103 => ?_)
          · rw [if_neg c103] at hF
            refine lv_aload_n hx hb dX9_factor_116 rfl (lv_at hl 2 rfl) ?_
            refine ps_get C G hin 14 (by decide) rfl (show Cond.fieldLink RX9 116 "WheatCountsModel" "good" "Z" ∈ _ by decide +kernel) rfl dX9_factor_117 ?_
            refine lv_if_eq (tgt := 148) hx hb dX9_factor_120 (by decide) (fun c120 => ?_) (fun c120 => ?_)
            · rw [if_pos c120] at hF
              refine lv_aload_n hx hb dX9_factor_148 rfl (lv_at hl 2 rfl) ?_
              obtain ⟨x149, S149, hx149⟩ : ∃ (X : Int32) (Y : sS), (X, Y) = mF_fails M S97 := ⟨_, _, rfl⟩
              refine ps_calli (r0 := x149) (S2 := S149) C hA G (by rw [hx149]; exact (k_fails zl D cI ad M S97  hI)) (cwV 0 C.2.2.2.2.1 gX9_factor_X9_fails rfl rfl rfl (by decide +kernel) (by refine ⟨?_, ?_⟩ <;> dsimp only <;> omega)) rfl hl.1 rfl (Nat.le_of_ble_eq_true rfl) dX9_factor_149 ⟨Nat.le_refl _, Nat.le_refl _⟩ (fun H locs G => ?_)
              rw [lt2_e hx149] at hF
              have hIc := pI_fails (M := M) hI
              rw [← hx149] at hIc
              dsimp only at hIc
              have hle149 := hIc.2
              have hI := hIc.1
              exact hret _ _ _ _ _ _ hF G dX9_factor_152
            · rw [if_neg c120] at hF
              refine lv_aload_n hx hb dX9_factor_123 rfl (lv_at hl 2 rfl) ?_
              refine lv_aload_n hx hb dX9_factor_124 rfl (lv_at hl 2 rfl) ?_
              refine ps_get C G hin 8 (by decide) rfl (show Cond.fieldLink RX9 120 "WheatCountsModel" "at" "I" ∈ _ by decide +kernel) rfl dX9_factor_125 ?_
              refine ps_calli C hA G (k_byteAt zl D cI ad M S97 (vn (S97 8)) hI (vn8_lt hI)) (cwV 1 C.2.2.2.2.1 gX9_factor_X9_byteAt rfl rfl rfl (by decide +kernel) (by refine ⟨?_, ?_⟩ <;> dsimp only <;> omega)) rfl hl.1 (cons_int (pI_8 hI).1 rfl) (Nat.le_of_ble_eq_true rfl) dX9_factor_128 ⟨Nat.le_refl _, Nat.le_refl _⟩ (fun H locs G => ?_)
              refine lv_bipush (v := 41) hx hb dX9_factor_131 (by decide) ?_
              refine lv_icmp_ne (tgt := 148) hx hb dX9_factor_133 (by decide) (fun c133 => ?_) (fun c133 => ?_)
              · rw [if_neg c133] at hF
                refine lv_aload_n hx hb dX9_factor_148 rfl (lv_at hl 2 rfl) ?_
                obtain ⟨x149, S149, hx149⟩ : ∃ (X : Int32) (Y : sS), (X, Y) = mF_fails M S97 := ⟨_, _, rfl⟩
                refine ps_calli (r0 := x149) (S2 := S149) C hA G (by rw [hx149]; exact (k_fails zl D cI ad M S97  hI)) (cwV 0 C.2.2.2.2.1 gX9_factor_X9_fails rfl rfl rfl (by decide +kernel) (by refine ⟨?_, ?_⟩ <;> dsimp only <;> omega)) rfl hl.1 rfl (Nat.le_of_ble_eq_true rfl) dX9_factor_149 ⟨Nat.le_refl _, Nat.le_refl _⟩ (fun H locs G => ?_)
                rw [lt2_e hx149] at hF
                have hIc := pI_fails (M := M) hI
                rw [← hx149] at hIc
                dsimp only at hIc
                have hle149 := hIc.2
                have hI := hIc.1
                exact hret _ _ _ _ _ _ hF G dX9_factor_152
              · rw [if_pos c133] at hF
                have hlt := byteAt_lt hI (by rw [c133]; decide)
                refine lv_aload_n hx hb dX9_factor_136 rfl (lv_at hl 2 rfl) ?_
                refine lv_dup hx hb dX9_factor_137 rfl ?_
                refine ps_get C G hin 8 (by decide) rfl (show Cond.fieldLink RX9 120 "WheatCountsModel" "at" "I" ∈ _ by decide +kernel) rfl dX9_factor_138 ?_
                refine lv_iconst (v := 1) hx hb dX9_factor_141 (by decide) ?_
                refine lv_iadd hx hb dX9_factor_142 ?_
                refine ps_put C G hin 8 (by decide) rfl rfl (show Cond.fieldLink RX9 120 "WheatCountsModel" "at" "I" ∈ _ by decide +kernel) (ty := .int) (by decide +kernel) rfl rfl rfl dX9_factor_143 (fun H locs G => ?_)
                obtain ⟨S143, hS143⟩ : ∃ X : sS, X = upd S97 8 ((S97 8) + 1) := ⟨_, rfl⟩
                rw [← hS143] at G
                rw [lt_e hS143] at hF
                have hat143 := at_succ hI hS143 hlt
                have hI := pI_at hI hS143 hlt
                refine lv_iload_n hx hb dX9_factor_146 rfl (lv_at hl 0 rfl) ?_
                exact hret _ _ _ _ _ _ hF G dX9_factor_147
          · rw [if_pos c103] at hF
            refine lv_iload_n hx hb dX9_factor_106 rfl (lv_at hl 0 rfl) ?_
            refine lv_if_ne (tgt := 114) hx hb dX9_factor_107 (by decide) (fun c107 => ?_) (fun c107 => ?_)
            · rw [if_neg c107] at hF
              refine lv_iconst (v := 0) hx hb dX9_factor_114 (by decide) ?_
              exact hret _ _ _ _ _ _ hF G dX9_factor_115
            · rw [if_pos c107] at hF
              refine lv_iconst (v := 1) hx hb dX9_factor_110 (by decide) ?_
              refine lv_goto (tgt := 115) hx hb dX9_factor_111 (by decide) ?_
              exact hret _ _ _ _ _ _ hF G dX9_factor_115
        · rw [if_pos c75] at hF
          refine lv_aload_n hx hb dX9_factor_78 rfl (lv_at hl 1 rfl) ?_
          obtain ⟨x79, S79, hx79⟩ : ∃ (X : Int32) (Y : sS), (X, Y) = fF S69 := ⟨_, _, rfl⟩
          refine ps_calli (r0 := x79) (S2 := S79) C hA G (by rw [hx79]; exact (hkF S69 hI)) (cwV 0 C.2.2.2.2.1 gX9_factor_X9_factor rfl rfl rfl (by decide +kernel) (by refine ⟨?_, ?_⟩ <;> dsimp only <;> omega)) rfl hl.1 rfl (Nat.le_of_ble_eq_true rfl) dX9_factor_79 ⟨Nat.le_refl _, Nat.le_refl _⟩ (fun H locs G => ?_)
          rw [lt2_e hx79] at hF
          have hIc := hpF _ hI
          rw [← hx79] at hIc
          dsimp only at hIc
          have hle79 := hIc.2
          have hI := hIc.1
          refine lv_goto (tgt := 89) hx hb dX9_factor_82 (by decide) ?_
          refine lv_istore_n (lv' := [(2, .int x79), (1, .int x8), (0, .ref (ad 0))]) hx hb dX9_factor_89 rfl hl (by decide) rfl (fun ls hl => ?_)
          refine lv_aload_n hx hb dX9_factor_90 rfl (lv_at hl 2 rfl) ?_
          refine lv_dup hx hb dX9_factor_91 rfl ?_
          refine ps_get C G hin 10 (by decide) rfl (show Cond.fieldLink RX9 148 "WheatCountsModel" "open" "I" ∈ _ by decide +kernel) rfl dX9_factor_92 ?_
          refine lv_iconst (v := 1) hx hb dX9_factor_95 (by decide) ?_
          refine lv_isub hx hb dX9_factor_96 ?_
          refine ps_put C G hin 10 (by decide) rfl rfl (show Cond.fieldLink RX9 148 "WheatCountsModel" "open" "I" ∈ _ by decide +kernel) (ty := .int) (by decide +kernel) rfl rfl rfl dX9_factor_97 (fun H locs G => ?_)
          obtain ⟨S97, hS97⟩ : ∃ X : sS, X = upd S79 10 ((S79 10) - 1) := ⟨_, rfl⟩
          rw [← hS97] at G
          rw [lt_e hS97] at hF
          have hI := pI_shut hI hS97 (by have := hd; omega)
          refine lv_iload_n hx hb dX9_factor_100 rfl (lv_at hl 1 rfl) ?_
          refine lv_bipush (v := 33) hx hb dX9_factor_101 (by decide) ?_
          refine lv_icmp_ne (tgt := 116) hx hb dX9_factor_103 (by decide) (fun c103 => ?_) (fun c103 => ?_)
          · rw [if_neg c103] at hF
            refine lv_aload_n hx hb dX9_factor_116 rfl (lv_at hl 2 rfl) ?_
            refine ps_get C G hin 14 (by decide) rfl (show Cond.fieldLink RX9 116 "WheatCountsModel" "good" "Z" ∈ _ by decide +kernel) rfl dX9_factor_117 ?_
            refine lv_if_eq (tgt := 148) hx hb dX9_factor_120 (by decide) (fun c120 => ?_) (fun c120 => ?_)
            · rw [if_pos c120] at hF
              refine lv_aload_n hx hb dX9_factor_148 rfl (lv_at hl 2 rfl) ?_
              obtain ⟨x149, S149, hx149⟩ : ∃ (X : Int32) (Y : sS), (X, Y) = mF_fails M S97 := ⟨_, _, rfl⟩
              refine ps_calli (r0 := x149) (S2 := S149) C hA G (by rw [hx149]; exact (k_fails zl D cI ad M S97  hI)) (cwV 0 C.2.2.2.2.1 gX9_factor_X9_fails rfl rfl rfl (by decide +kernel) (by refine ⟨?_, ?_⟩ <;> dsimp only <;> omega)) rfl hl.1 rfl (Nat.le_of_ble_eq_true rfl) dX9_factor_149 ⟨Nat.le_refl _, Nat.le_refl _⟩ (fun H locs G => ?_)
              rw [lt2_e hx149] at hF
              have hIc := pI_fails (M := M) hI
              rw [← hx149] at hIc
              dsimp only at hIc
              have hle149 := hIc.2
              have hI := hIc.1
              exact hret _ _ _ _ _ _ hF G dX9_factor_152
            · rw [if_neg c120] at hF
              refine lv_aload_n hx hb dX9_factor_123 rfl (lv_at hl 2 rfl) ?_
              refine lv_aload_n hx hb dX9_factor_124 rfl (lv_at hl 2 rfl) ?_
              refine ps_get C G hin 8 (by decide) rfl (show Cond.fieldLink RX9 120 "WheatCountsModel" "at" "I" ∈ _ by decide +kernel) rfl dX9_factor_125 ?_
              refine ps_calli C hA G (k_byteAt zl D cI ad M S97 (vn (S97 8)) hI (vn8_lt hI)) (cwV 1 C.2.2.2.2.1 gX9_factor_X9_byteAt rfl rfl rfl (by decide +kernel) (by refine ⟨?_, ?_⟩ <;> dsimp only <;> omega)) rfl hl.1 (cons_int (pI_8 hI).1 rfl) (Nat.le_of_ble_eq_true rfl) dX9_factor_128 ⟨Nat.le_refl _, Nat.le_refl _⟩ (fun H locs G => ?_)
              refine lv_bipush (v := 41) hx hb dX9_factor_131 (by decide) ?_
              refine lv_icmp_ne (tgt := 148) hx hb dX9_factor_133 (by decide) (fun c133 => ?_) (fun c133 => ?_)
              · rw [if_neg c133] at hF
                refine lv_aload_n hx hb dX9_factor_148 rfl (lv_at hl 2 rfl) ?_
                obtain ⟨x149, S149, hx149⟩ : ∃ (X : Int32) (Y : sS), (X, Y) = mF_fails M S97 := ⟨_, _, rfl⟩
                refine ps_calli (r0 := x149) (S2 := S149) C hA G (by rw [hx149]; exact (k_fails zl D cI ad M S97  hI)) (cwV 0 C.2.2.2.2.1 gX9_factor_X9_fails rfl rfl rfl (by decide +kernel) (by refine ⟨?_, ?_⟩ <;> dsimp only <;> omega)) rfl hl.1 rfl (Nat.le_of_ble_eq_true rfl) dX9_factor_149 ⟨Nat.le_refl _, Nat.le_refl _⟩ (fun H locs G => ?_)
                rw [lt2_e hx149] at hF
                have hIc := pI_fails (M := M) hI
                rw [← hx149] at hIc
                dsimp only at hIc
                have hle149 := hIc.2
                have hI := hIc.1
                exact hret _ _ _ _ _ _ hF G dX9_factor_152
              · rw [if_pos c133] at hF
                have hlt := byteAt_lt hI (by rw [c133]; decide)
                refine lv_aload_n hx hb dX9_factor_136 rfl (lv_at hl 2 rfl) ?_
                refine lv_dup hx hb dX9_factor_137 rfl ?_
                refine ps_get C G hin 8 (by decide) rfl (show Cond.fieldLink RX9 120 "WheatCountsModel" "at" "I" ∈ _ by decide +kernel) rfl dX9_factor_138 ?_
                refine lv_iconst (v := 1) hx hb dX9_factor_141 (by decide) ?_
                refine lv_iadd hx hb dX9_factor_142 ?_
                refine ps_put C G hin 8 (by decide) rfl rfl (show Cond.fieldLink RX9 120 "WheatCountsModel" "at" "I" ∈ _ by decide +kernel) (ty := .int) (by decide +kernel) rfl rfl rfl dX9_factor_143 (fun H locs G => ?_)
                obtain ⟨S143, hS143⟩ : ∃ X : sS, X = upd S97 8 ((S97 8) + 1) := ⟨_, rfl⟩
                rw [← hS143] at G
                rw [lt_e hS143] at hF
                have hat143 := at_succ hI hS143 hlt
                have hI := pI_at hI hS143 hlt
                refine lv_iload_n hx hb dX9_factor_146 rfl (lv_at hl 0 rfl) ?_
                exact hret _ _ _ _ _ _ hF G dX9_factor_147
          · rw [if_pos c103] at hF
            refine lv_iload_n hx hb dX9_factor_106 rfl (lv_at hl 0 rfl) ?_
            refine lv_if_ne (tgt := 114) hx hb dX9_factor_107 (by decide) (fun c107 => ?_) (fun c107 => ?_)
            · rw [if_neg c107] at hF
              refine lv_iconst (v := 0) hx hb dX9_factor_114 (by decide) ?_
              exact hret _ _ _ _ _ _ hF G dX9_factor_115
            · rw [if_pos c107] at hF
              refine lv_iconst (v := 1) hx hb dX9_factor_110 (by decide) ?_
              refine lv_goto (tgt := 115) hx hb dX9_factor_111 (by decide) ?_
              exact hret _ _ _ _ _ _ hF G dX9_factor_115
      · rw [if_neg c30] at hF
        refine lv_aload_n hx hb dX9_factor_33 rfl (lv_at hl 1 rfl) ?_
        refine lv_iload_n hx hb dX9_factor_34 rfl (lv_at hl 0 rfl) ?_
        obtain ⟨x35, S35, hx35⟩ : ∃ (X : Int32) (Y : sS), (X, Y) = mF_named M S x8 := ⟨_, _, rfl⟩
        refine ps_calli (r0 := x35) (S2 := S35) C hA G (by rw [hx35]; exact (k_named zl D cI ad M S x8 hI hx8)) (cwV 1 C.2.2.2.2.1 gX9_factor_X9_named rfl rfl rfl (by decide +kernel) (by refine ⟨?_, ?_⟩ <;> dsimp only <;> omega)) rfl hl.1 rfl (Nat.le_of_ble_eq_true rfl) dX9_factor_35 ⟨Nat.le_refl _, Nat.le_refl _⟩ (fun H locs G => ?_)
        rw [lt2_e hx35] at hF
        have hIc := pI_named (M := M) hI hx8
        rw [← hx35] at hIc
        dsimp only at hIc
        have hle35 := hIc.2
        have hI := hIc.1
        exact hret _ _ _ _ _ _ hF G dX9_factor_38
  · rw [if_neg c13] at hF
    refine lv_aload_n hx hb dX9_factor_16 rfl (lv_at hl 1 rfl) ?_
    obtain ⟨x17, S17, hx17⟩ : ∃ (X : Int32) (Y : sS), (X, Y) = mF_number M S := ⟨_, _, rfl⟩
    refine ps_calli (r0 := x17) (S2 := S17) C hA G (by rw [hx17]; exact (k_number zl D cI ad M S  hI)) (cwV 0 C.2.2.2.2.1 gX9_factor_X9_number rfl rfl rfl (by decide +kernel) (by refine ⟨?_, ?_⟩ <;> dsimp only <;> omega)) rfl hl.1 rfl (Nat.le_of_ble_eq_true rfl) dX9_factor_17 ⟨Nat.le_refl _, Nat.le_refl _⟩ (fun H locs G => ?_)
    rw [lt2_e hx17] at hF
    have hIc := pI_number (M := M) hI
    rw [← hx17] at hIc
    dsimp only at hIc
    have hle17 := hIc.2
    have hI := hIc.1
    exact hret _ _ _ _ _ _ hF G dX9_factor_20
set_option maxRecDepth 100000 in
set_option maxHeartbeats 4000000 in
theorem k_product (zl : Launch) (D : va_G) (cI : ClassId) (ad : Nat → Nat) (M : mS) {E : Nat} {u : Nat} {d : Nat} {lF nF : Nat} (fF : sS → Int32 × sS) (hkF : ∀ S, pI E u d S → mPc zl D cI ad yX9_factor wsX9_factor ({ frames := nF, cells := 0, slots := 0, locals := lF } : Room) [] M S (fF S)) (hpF : ∀ S, pI E u d S → pI E u d (fF S).2 ∧ vn (S 8) ≤ vn ((fF S).2 8)) (S : sS) (hI : pI E u d S) : mPc zl D cI ad yX9_product wsX9_product ({ frames := nF + 1, cells := 0, slots := 0, locals := lF + 22 } : Room) [] M S (mF_product M fF S) := by
  have hin : ∀ w ∈ wsX90, w ∈ wsX9_product := fun w h => List.mem_cons_of_mem _ (List.mem_append_right _ h)
  refine mPc_of (cc := cX9_product) (nL := 4) (by decide) rfl rfl (Nat.le_of_ble_eq_true rfl) ?_
  intro zp ze zs zm zg zb zt zc zA H0 zQ C hA hret H locs ls hl G
  have hx := C.1
  have hb := C.2.1
  have hl : lv_has ls 4 [(0, .ref (ad 0))] := hl
  obtain ⟨rM, hF⟩ : ∃ X : Int32 × sS, X = mF_product M fF S := ⟨_, rfl⟩
  rw [← hF] at hret
  unfold mF_product at hF
  have hE := hI.2.1.2
  refine lv_aload_n hx hb dX9_product_0 rfl (lv_at hl 0 rfl) ?_
  obtain ⟨x1, S1, hx1⟩ : ∃ (X : Int32) (Y : sS), (X, Y) = fF S := ⟨_, _, rfl⟩
  refine ps_calli (r0 := x1) (S2 := S1) C hA G (by rw [hx1]; exact (hkF S hI)) (cwV 0 C.2.2.2.2.1 gX9_product_X9_factor rfl rfl rfl (by decide +kernel) (by refine ⟨?_, ?_⟩ <;> dsimp only <;> omega)) rfl hl.1 rfl (Nat.le_of_ble_eq_true rfl) dX9_product_1 ⟨Nat.le_refl _, Nat.le_refl _⟩ (fun H locs G => ?_)
  rw [lt2_e hx1] at hF
  have hIc := hpF _ hI
  rw [← hx1] at hIc
  dsimp only at hIc
  have hle1 := hIc.2
  have hI := hIc.1
  refine lv_istore_n (lv' := [(1, .int x1), (0, .ref (ad 0))]) hx hb dX9_product_4 rfl hl (by decide) rfl (fun ls hl => ?_)
  obtain ⟨v1_5x, S5x, hX5⟩ : ∃ (v1_5x : Int32) (S5x : sS), (v1_5x, S5x) = mF_product_L5 M fF fu51 x1 S1 := ⟨_, _, rfl⟩
  rw [lt2_e hX5] at hF
  have hrest5 : ∀ (H : Heap) (locs : List Loc) (ls : Array Slot), lv_has ls 4 [(0, .ref (ad 0)), (1, .int v1_5x)] → mGs D cI ad zA H0 H locs M S5x → W zp zl ze ({ frames := nF + 1, cells := 0, slots := 0, locals := lF + 22 } : Room) zs zm zg zb zt zc H locs 0 0 zQ (F0 zm 114 ls []) := by
    intro H locs ls hl G
    refine lv_iload_n hx hb dX9_product_114 rfl (lv_at hl 1 rfl) ?_
    exact hret _ _ _ _ _ _ hF G dX9_product_115
  have hloop5 : ∀ (f : Nat) (v1_5 : Int32) (S5 : sS), (pI E u d S5 ∧ 50 - vn (S5 8) < f) → (v1_5x, S5x) = mF_product_L5 M fF f v1_5 S5 → ∀ (H : Heap) (locs : List Loc) (ls : Array Slot), lv_has ls 4 [(0, .ref (ad 0)), (1, .int v1_5)] → mGs D cI ad zA H0 H locs M S5 → W zp zl ze ({ frames := nF + 1, cells := 0, slots := 0, locals := lF + 22 } : Room) zs zm zg zb zt zc H locs 0 0 zQ (F0 zm 5 ls []) := by
    intro f
    induction f with
    | zero =>
      intro v1_5 S5 hI hL5 H locs ls hl G
      exact absurd hI.2 (Nat.not_lt_zero _)
    | succ f ih =>
      intro v1_5 S5 hI hL5 H locs ls hl G
      rw [mF_product_L5_s] at hL5
      have hJ := hI.2
      have hI := hI.1
      refine lv_aload_n hx hb dX9_product_5 rfl (lv_at hl 0 rfl) ?_
      refine ps_get C G hin 14 (by decide) rfl (show Cond.fieldLink RX9 116 "WheatCountsModel" "good" "Z" ∈ _ by decide +kernel) rfl dX9_product_6 ?_
      refine lv_if_eq (tgt := 114) hx hb dX9_product_9 (by decide) (fun c9 => ?_) (fun c9 => ?_)
      · rw [if_pos c9] at hL5
        cases hL5
        exact hrest5 _ _ _ (lv_sub hl [0, 1] rfl) G
      · rw [if_neg c9] at hL5
        refine lv_aload_n hx hb dX9_product_12 rfl (lv_at hl 0 rfl) ?_
        refine lv_aload_n hx hb dX9_product_13 rfl (lv_at hl 0 rfl) ?_
        refine ps_get C G hin 8 (by decide) rfl (show Cond.fieldLink RX9 120 "WheatCountsModel" "at" "I" ∈ _ by decide +kernel) rfl dX9_product_14 ?_
        refine ps_calli C hA G (k_byteAt zl D cI ad M S5 (vn (S5 8)) hI (vn8_lt hI)) (cwV 1 C.2.2.2.2.1 gX9_product_X9_byteAt rfl rfl rfl (by decide +kernel) (by refine ⟨?_, ?_⟩ <;> dsimp only <;> omega)) rfl hl.1 (cons_int (pI_8 hI).1 rfl) (Nat.le_of_ble_eq_true rfl) dX9_product_17 ⟨Nat.le_refl _, Nat.le_refl _⟩ (fun H locs G => ?_)
        refine lv_bipush (v := 42) hx hb dX9_product_20 (by decide) ?_
        refine lv_icmp_eq (tgt := 51) hx hb dX9_product_22 (by decide) (fun c22 => ?_) (fun c22 => ?_)
        · rw [if_pos c22] at hL5
          have hlt := byteAt_lt hI (by rw [c22]; decide)
          refine lv_aload_n hx hb dX9_product_51 rfl (lv_at hl 0 rfl) ?_
          refine lv_aload_n hx hb dX9_product_52 rfl (lv_at hl 0 rfl) ?_
          refine ps_get C G hin 8 (by decide) rfl (show Cond.fieldLink RX9 120 "WheatCountsModel" "at" "I" ∈ _ by decide +kernel) rfl dX9_product_53 ?_
          refine ps_calli C hA G (k_byteAt zl D cI ad M S5 (vn (S5 8)) hI (vn8_lt hI)) (cwV 1 C.2.2.2.2.1 gX9_product_X9_byteAt rfl rfl rfl (by decide +kernel) (by refine ⟨?_, ?_⟩ <;> dsimp only <;> omega)) rfl hl.1 (cons_int (pI_8 hI).1 rfl) (Nat.le_of_ble_eq_true rfl) dX9_product_56 ⟨Nat.le_refl _, Nat.le_refl _⟩ (fun H locs G => ?_)
          refine lv_topi (fun x59 hx59 => ?_)
          rw [lt_e hx59] at hL5
          refine lv_istore_n (lv' := [(2, .int x59), (0, .ref (ad 0)), (1, .int v1_5)]) hx hb dX9_product_59 rfl hl (by decide) rfl (fun ls hl => ?_)
          refine lv_aload_n hx hb dX9_product_60 rfl (lv_at hl 1 rfl) ?_
          refine lv_dup hx hb dX9_product_61 rfl ?_
          refine ps_get C G hin 8 (by decide) rfl (show Cond.fieldLink RX9 120 "WheatCountsModel" "at" "I" ∈ _ by decide +kernel) rfl dX9_product_62 ?_
          refine lv_iconst (v := 1) hx hb dX9_product_65 (by decide) ?_
          refine lv_iadd hx hb dX9_product_66 ?_
          refine ps_put C G hin 8 (by decide) rfl rfl (show Cond.fieldLink RX9 120 "WheatCountsModel" "at" "I" ∈ _ by decide +kernel) (ty := .int) (by decide +kernel) rfl rfl rfl dX9_product_67 (fun H locs G => ?_)
          obtain ⟨S67, hS67⟩ : ∃ X : sS, X = upd S5 8 ((S5 8) + 1) := ⟨_, rfl⟩
          rw [← hS67] at G
          rw [lt_e hS67] at hL5
          have hat67 := at_succ hI hS67 hlt
          have hI := pI_at hI hS67 hlt
          refine lv_aload_n hx hb dX9_product_70 rfl (lv_at hl 1 rfl) ?_
          obtain ⟨x71, S71, hx71⟩ : ∃ (X : Int32) (Y : sS), (X, Y) = fF S67 := ⟨_, _, rfl⟩
          refine ps_calli (r0 := x71) (S2 := S71) C hA G (by rw [hx71]; exact (hkF S67 hI)) (cwV 0 C.2.2.2.2.1 gX9_product_X9_factor rfl rfl rfl (by decide +kernel) (by refine ⟨?_, ?_⟩ <;> dsimp only <;> omega)) rfl hl.1 rfl (Nat.le_of_ble_eq_true rfl) dX9_product_71 ⟨Nat.le_refl _, Nat.le_refl _⟩ (fun H locs G => ?_)
          rw [lt2_e hx71] at hL5
          have hIc := hpF _ hI
          rw [← hx71] at hIc
          dsimp only at hIc
          have hle71 := hIc.2
          have hI := hIc.1
          refine lv_istore_n (lv' := [(3, .int x71), (2, .int x59), (0, .ref (ad 0)), (1, .int v1_5)]) hx hb dX9_product_74 rfl hl (by decide) rfl (fun ls hl => ?_)
          refine lv_iload_n hx hb dX9_product_75 rfl (lv_at hl 1 rfl) ?_
          refine lv_bipush (v := 42) hx hb dX9_product_76 (by decide) ?_
          obtain ⟨y110, hX110⟩ : ∃ (y110 : Int32), y110 = ((if x59 = 42 then (v1_5 * x71) else (if x71 = 0 then 0 else (if x59 = 47 then (v1_5 / x71) else (v1_5 - v1_5 / x71 * x71)))) : Int32) := ⟨_, rfl⟩
          rw [lt_e hX110] at hL5
          have hj110 : ∀ (H : Heap) (locs : List Loc) (ls : Array Slot), lv_has ls 4 [(0, .ref (ad 0)), (1, .int v1_5), (2, .int x59), (3, .int x71)] → mGs D cI ad zA H0 H locs M S71 → W zp zl ze ({ frames := nF + 1, cells := 0, slots := 0, locals := lF + 22 } : Room) zs zm zg zb zt zc H locs 0 0 zQ (F0 zm 110 ls [.int y110]) := by
            intro H locs ls hl G
            refine lv_istore_n (lv' := [(1, .int y110), (0, .ref (ad 0)), (2, .int x59), (3, .int x71)]) hx hb dX9_product_110 rfl hl (by decide) rfl (fun ls hl => ?_)
            refine lv_goto (tgt := 5) hx hb dX9_product_111 (by decide) ?_
            exact ih y110 S71 ⟨hI, by omega⟩ hL5 _ _ _ (lv_sub hl [1, 0] rfl) G
          refine lv_icmp_ne (tgt := 87) hx hb dX9_product_78 (by decide) (fun c78 => ?_) (fun c78 => ?_)
          · rw [if_neg c78] at hX110
            refine lv_iload_n hx hb dX9_product_87 rfl (lv_at hl 0 rfl) ?_
            refine lv_if_ne (tgt := 95) hx hb dX9_product_88 (by decide) (fun c88 => ?_) (fun c88 => ?_)
            · rw [if_neg c88] at hX110
              refine lv_iload_n hx hb dX9_product_95 rfl (lv_at hl 1 rfl) ?_
              refine lv_bipush (v := 47) hx hb dX9_product_96 (by decide) ?_
              refine lv_icmp_ne (tgt := 107) hx hb dX9_product_98 (by decide) (fun c98 => ?_) (fun c98 => ?_)
              · rw [if_neg c98] at hX110
                refine lv_iload_n hx hb dX9_product_107 rfl (lv_at hl 3 rfl) ?_
                refine lv_iload_n hx hb dX9_product_108 rfl (lv_at hl 0 rfl) ?_
                refine lv_irem hx hb dX9_product_109 c88 ?_
                subst hX110
                exact hj110 _ _ _ (lv_sub hl [2, 3, 1, 0] rfl) G
              · rw [if_pos c98] at hX110
                refine lv_iload_n hx hb dX9_product_101 rfl (lv_at hl 3 rfl) ?_
                refine lv_iload_n hx hb dX9_product_102 rfl (lv_at hl 0 rfl) ?_
                refine lv_idiv hx hb dX9_product_103 c88 ?_
                refine lv_goto (tgt := 110) hx hb dX9_product_104 (by decide) ?_
                subst hX110
                exact hj110 _ _ _ (lv_sub hl [2, 3, 1, 0] rfl) G
            · rw [if_pos c88] at hX110
              refine lv_iconst (v := 0) hx hb dX9_product_91 (by decide) ?_
              refine lv_goto (tgt := 110) hx hb dX9_product_92 (by decide) ?_
              subst hX110
              exact hj110 _ _ _ (lv_sub hl [2, 3, 1, 0] rfl) G
          · rw [if_pos c78] at hX110
            refine lv_iload_n hx hb dX9_product_81 rfl (lv_at hl 3 rfl) ?_
            refine lv_iload_n hx hb dX9_product_82 rfl (lv_at hl 0 rfl) ?_
            refine lv_imul hx hb dX9_product_83 ?_
            refine lv_goto (tgt := 110) hx hb dX9_product_84 (by decide) ?_
            subst hX110
            exact hj110 _ _ _ (lv_sub hl [2, 3, 1, 0] rfl) G
        · rw [if_neg c22] at hL5
          refine lv_aload_n hx hb dX9_product_25 rfl (lv_at hl 0 rfl) ?_
          refine lv_aload_n hx hb dX9_product_26 rfl (lv_at hl 0 rfl) ?_
          refine ps_get C G hin 8 (by decide) rfl (show Cond.fieldLink RX9 120 "WheatCountsModel" "at" "I" ∈ _ by decide +kernel) rfl dX9_product_27 ?_
          refine ps_calli C hA G (k_byteAt zl D cI ad M S5 (vn (S5 8)) hI (vn8_lt hI)) (cwV 1 C.2.2.2.2.1 gX9_product_X9_byteAt rfl rfl rfl (by decide +kernel) (by refine ⟨?_, ?_⟩ <;> dsimp only <;> omega)) rfl hl.1 (cons_int (pI_8 hI).1 rfl) (Nat.le_of_ble_eq_true rfl) dX9_product_30 ⟨Nat.le_refl _, Nat.le_refl _⟩ (fun H locs G => ?_)
          refine lv_bipush (v := 47) hx hb dX9_product_33 (by decide) ?_
          refine lv_icmp_eq (tgt := 51) hx hb dX9_product_35 (by decide) (fun c35 => ?_) (fun c35 => ?_)
          · rw [if_pos c35] at hL5
            have hlt := byteAt_lt hI (by rw [c35]; decide)
            refine lv_aload_n hx hb dX9_product_51 rfl (lv_at hl 0 rfl) ?_
            refine lv_aload_n hx hb dX9_product_52 rfl (lv_at hl 0 rfl) ?_
            refine ps_get C G hin 8 (by decide) rfl (show Cond.fieldLink RX9 120 "WheatCountsModel" "at" "I" ∈ _ by decide +kernel) rfl dX9_product_53 ?_
            refine ps_calli C hA G (k_byteAt zl D cI ad M S5 (vn (S5 8)) hI (vn8_lt hI)) (cwV 1 C.2.2.2.2.1 gX9_product_X9_byteAt rfl rfl rfl (by decide +kernel) (by refine ⟨?_, ?_⟩ <;> dsimp only <;> omega)) rfl hl.1 (cons_int (pI_8 hI).1 rfl) (Nat.le_of_ble_eq_true rfl) dX9_product_56 ⟨Nat.le_refl _, Nat.le_refl _⟩ (fun H locs G => ?_)
            refine lv_topi (fun x59 hx59 => ?_)
            rw [lt_e hx59] at hL5
            refine lv_istore_n (lv' := [(2, .int x59), (0, .ref (ad 0)), (1, .int v1_5)]) hx hb dX9_product_59 rfl hl (by decide) rfl (fun ls hl => ?_)
            refine lv_aload_n hx hb dX9_product_60 rfl (lv_at hl 1 rfl) ?_
            refine lv_dup hx hb dX9_product_61 rfl ?_
            refine ps_get C G hin 8 (by decide) rfl (show Cond.fieldLink RX9 120 "WheatCountsModel" "at" "I" ∈ _ by decide +kernel) rfl dX9_product_62 ?_
            refine lv_iconst (v := 1) hx hb dX9_product_65 (by decide) ?_
            refine lv_iadd hx hb dX9_product_66 ?_
            refine ps_put C G hin 8 (by decide) rfl rfl (show Cond.fieldLink RX9 120 "WheatCountsModel" "at" "I" ∈ _ by decide +kernel) (ty := .int) (by decide +kernel) rfl rfl rfl dX9_product_67 (fun H locs G => ?_)
            obtain ⟨S67, hS67⟩ : ∃ X : sS, X = upd S5 8 ((S5 8) + 1) := ⟨_, rfl⟩
            rw [← hS67] at G
            rw [lt_e hS67] at hL5
            have hat67 := at_succ hI hS67 hlt
            have hI := pI_at hI hS67 hlt
            refine lv_aload_n hx hb dX9_product_70 rfl (lv_at hl 1 rfl) ?_
            obtain ⟨x71, S71, hx71⟩ : ∃ (X : Int32) (Y : sS), (X, Y) = fF S67 := ⟨_, _, rfl⟩
            refine ps_calli (r0 := x71) (S2 := S71) C hA G (by rw [hx71]; exact (hkF S67 hI)) (cwV 0 C.2.2.2.2.1 gX9_product_X9_factor rfl rfl rfl (by decide +kernel) (by refine ⟨?_, ?_⟩ <;> dsimp only <;> omega)) rfl hl.1 rfl (Nat.le_of_ble_eq_true rfl) dX9_product_71 ⟨Nat.le_refl _, Nat.le_refl _⟩ (fun H locs G => ?_)
            rw [lt2_e hx71] at hL5
            have hIc := hpF _ hI
            rw [← hx71] at hIc
            dsimp only at hIc
            have hle71 := hIc.2
            have hI := hIc.1
            refine lv_istore_n (lv' := [(3, .int x71), (2, .int x59), (0, .ref (ad 0)), (1, .int v1_5)]) hx hb dX9_product_74 rfl hl (by decide) rfl (fun ls hl => ?_)
            refine lv_iload_n hx hb dX9_product_75 rfl (lv_at hl 1 rfl) ?_
            refine lv_bipush (v := 42) hx hb dX9_product_76 (by decide) ?_
            obtain ⟨y110, hX110⟩ : ∃ (y110 : Int32), y110 = ((if x59 = 42 then (v1_5 * x71) else (if x71 = 0 then 0 else (if x59 = 47 then (v1_5 / x71) else (v1_5 - v1_5 / x71 * x71)))) : Int32) := ⟨_, rfl⟩
            rw [lt_e hX110] at hL5
            have hj110 : ∀ (H : Heap) (locs : List Loc) (ls : Array Slot), lv_has ls 4 [(0, .ref (ad 0)), (1, .int v1_5), (2, .int x59), (3, .int x71)] → mGs D cI ad zA H0 H locs M S71 → W zp zl ze ({ frames := nF + 1, cells := 0, slots := 0, locals := lF + 22 } : Room) zs zm zg zb zt zc H locs 0 0 zQ (F0 zm 110 ls [.int y110]) := by
              intro H locs ls hl G
              refine lv_istore_n (lv' := [(1, .int y110), (0, .ref (ad 0)), (2, .int x59), (3, .int x71)]) hx hb dX9_product_110 rfl hl (by decide) rfl (fun ls hl => ?_)
              refine lv_goto (tgt := 5) hx hb dX9_product_111 (by decide) ?_
              exact ih y110 S71 ⟨hI, by omega⟩ hL5 _ _ _ (lv_sub hl [1, 0] rfl) G
            refine lv_icmp_ne (tgt := 87) hx hb dX9_product_78 (by decide) (fun c78 => ?_) (fun c78 => ?_)
            · rw [if_neg c78] at hX110
              refine lv_iload_n hx hb dX9_product_87 rfl (lv_at hl 0 rfl) ?_
              refine lv_if_ne (tgt := 95) hx hb dX9_product_88 (by decide) (fun c88 => ?_) (fun c88 => ?_)
              · rw [if_neg c88] at hX110
                refine lv_iload_n hx hb dX9_product_95 rfl (lv_at hl 1 rfl) ?_
                refine lv_bipush (v := 47) hx hb dX9_product_96 (by decide) ?_
                refine lv_icmp_ne (tgt := 107) hx hb dX9_product_98 (by decide) (fun c98 => ?_) (fun c98 => ?_)
                · rw [if_neg c98] at hX110
                  refine lv_iload_n hx hb dX9_product_107 rfl (lv_at hl 3 rfl) ?_
                  refine lv_iload_n hx hb dX9_product_108 rfl (lv_at hl 0 rfl) ?_
                  refine lv_irem hx hb dX9_product_109 c88 ?_
                  subst hX110
                  exact hj110 _ _ _ (lv_sub hl [2, 3, 1, 0] rfl) G
                · rw [if_pos c98] at hX110
                  refine lv_iload_n hx hb dX9_product_101 rfl (lv_at hl 3 rfl) ?_
                  refine lv_iload_n hx hb dX9_product_102 rfl (lv_at hl 0 rfl) ?_
                  refine lv_idiv hx hb dX9_product_103 c88 ?_
                  refine lv_goto (tgt := 110) hx hb dX9_product_104 (by decide) ?_
                  subst hX110
                  exact hj110 _ _ _ (lv_sub hl [2, 3, 1, 0] rfl) G
              · rw [if_pos c88] at hX110
                refine lv_iconst (v := 0) hx hb dX9_product_91 (by decide) ?_
                refine lv_goto (tgt := 110) hx hb dX9_product_92 (by decide) ?_
                subst hX110
                exact hj110 _ _ _ (lv_sub hl [2, 3, 1, 0] rfl) G
            · rw [if_pos c78] at hX110
              refine lv_iload_n hx hb dX9_product_81 rfl (lv_at hl 3 rfl) ?_
              refine lv_iload_n hx hb dX9_product_82 rfl (lv_at hl 0 rfl) ?_
              refine lv_imul hx hb dX9_product_83 ?_
              refine lv_goto (tgt := 110) hx hb dX9_product_84 (by decide) ?_
              subst hX110
              exact hj110 _ _ _ (lv_sub hl [2, 3, 1, 0] rfl) G
          · rw [if_neg c35] at hL5
            refine lv_aload_n hx hb dX9_product_38 rfl (lv_at hl 0 rfl) ?_
            refine lv_aload_n hx hb dX9_product_39 rfl (lv_at hl 0 rfl) ?_
            refine ps_get C G hin 8 (by decide) rfl (show Cond.fieldLink RX9 120 "WheatCountsModel" "at" "I" ∈ _ by decide +kernel) rfl dX9_product_40 ?_
            refine ps_calli C hA G (k_byteAt zl D cI ad M S5 (vn (S5 8)) hI (vn8_lt hI)) (cwV 1 C.2.2.2.2.1 gX9_product_X9_byteAt rfl rfl rfl (by decide +kernel) (by refine ⟨?_, ?_⟩ <;> dsimp only <;> omega)) rfl hl.1 (cons_int (pI_8 hI).1 rfl) (Nat.le_of_ble_eq_true rfl) dX9_product_43 ⟨Nat.le_refl _, Nat.le_refl _⟩ (fun H locs G => ?_)
            refine lv_bipush (v := 37) hx hb dX9_product_46 (by decide) ?_
            refine lv_icmp_ne (tgt := 114) hx hb dX9_product_48 (by decide) (fun c48 => ?_) (fun c48 => ?_)
            · rw [if_neg c48] at hL5
              cases hL5
              exact hrest5 _ _ _ (lv_sub hl [0, 1] rfl) G
            · rw [if_pos c48] at hL5
              have hlt := byteAt_lt hI (by rw [c48]; decide)
              refine lv_aload_n hx hb dX9_product_51 rfl (lv_at hl 0 rfl) ?_
              refine lv_aload_n hx hb dX9_product_52 rfl (lv_at hl 0 rfl) ?_
              refine ps_get C G hin 8 (by decide) rfl (show Cond.fieldLink RX9 120 "WheatCountsModel" "at" "I" ∈ _ by decide +kernel) rfl dX9_product_53 ?_
              refine ps_calli C hA G (k_byteAt zl D cI ad M S5 (vn (S5 8)) hI (vn8_lt hI)) (cwV 1 C.2.2.2.2.1 gX9_product_X9_byteAt rfl rfl rfl (by decide +kernel) (by refine ⟨?_, ?_⟩ <;> dsimp only <;> omega)) rfl hl.1 (cons_int (pI_8 hI).1 rfl) (Nat.le_of_ble_eq_true rfl) dX9_product_56 ⟨Nat.le_refl _, Nat.le_refl _⟩ (fun H locs G => ?_)
              refine lv_topi (fun x59 hx59 => ?_)
              rw [lt_e hx59] at hL5
              refine lv_istore_n (lv' := [(2, .int x59), (0, .ref (ad 0)), (1, .int v1_5)]) hx hb dX9_product_59 rfl hl (by decide) rfl (fun ls hl => ?_)
              refine lv_aload_n hx hb dX9_product_60 rfl (lv_at hl 1 rfl) ?_
              refine lv_dup hx hb dX9_product_61 rfl ?_
              refine ps_get C G hin 8 (by decide) rfl (show Cond.fieldLink RX9 120 "WheatCountsModel" "at" "I" ∈ _ by decide +kernel) rfl dX9_product_62 ?_
              refine lv_iconst (v := 1) hx hb dX9_product_65 (by decide) ?_
              refine lv_iadd hx hb dX9_product_66 ?_
              refine ps_put C G hin 8 (by decide) rfl rfl (show Cond.fieldLink RX9 120 "WheatCountsModel" "at" "I" ∈ _ by decide +kernel) (ty := .int) (by decide +kernel) rfl rfl rfl dX9_product_67 (fun H locs G => ?_)
              obtain ⟨S67, hS67⟩ : ∃ X : sS, X = upd S5 8 ((S5 8) + 1) := ⟨_, rfl⟩
              rw [← hS67] at G
              rw [lt_e hS67] at hL5
              have hat67 := at_succ hI hS67 hlt
              have hI := pI_at hI hS67 hlt
              refine lv_aload_n hx hb dX9_product_70 rfl (lv_at hl 1 rfl) ?_
              obtain ⟨x71, S71, hx71⟩ : ∃ (X : Int32) (Y : sS), (X, Y) = fF S67 := ⟨_, _, rfl⟩
              refine ps_calli (r0 := x71) (S2 := S71) C hA G (by rw [hx71]; exact (hkF S67 hI)) (cwV 0 C.2.2.2.2.1 gX9_product_X9_factor rfl rfl rfl (by decide +kernel) (by refine ⟨?_, ?_⟩ <;> dsimp only <;> omega)) rfl hl.1 rfl (Nat.le_of_ble_eq_true rfl) dX9_product_71 ⟨Nat.le_refl _, Nat.le_refl _⟩ (fun H locs G => ?_)
              rw [lt2_e hx71] at hL5
              have hIc := hpF _ hI
              rw [← hx71] at hIc
              dsimp only at hIc
              have hle71 := hIc.2
              have hI := hIc.1
              refine lv_istore_n (lv' := [(3, .int x71), (2, .int x59), (0, .ref (ad 0)), (1, .int v1_5)]) hx hb dX9_product_74 rfl hl (by decide) rfl (fun ls hl => ?_)
              refine lv_iload_n hx hb dX9_product_75 rfl (lv_at hl 1 rfl) ?_
              refine lv_bipush (v := 42) hx hb dX9_product_76 (by decide) ?_
              obtain ⟨y110, hX110⟩ : ∃ (y110 : Int32), y110 = ((if x59 = 42 then (v1_5 * x71) else (if x71 = 0 then 0 else (if x59 = 47 then (v1_5 / x71) else (v1_5 - v1_5 / x71 * x71)))) : Int32) := ⟨_, rfl⟩
              rw [lt_e hX110] at hL5
              have hj110 : ∀ (H : Heap) (locs : List Loc) (ls : Array Slot), lv_has ls 4 [(0, .ref (ad 0)), (1, .int v1_5), (2, .int x59), (3, .int x71)] → mGs D cI ad zA H0 H locs M S71 → W zp zl ze ({ frames := nF + 1, cells := 0, slots := 0, locals := lF + 22 } : Room) zs zm zg zb zt zc H locs 0 0 zQ (F0 zm 110 ls [.int y110]) := by
                intro H locs ls hl G
                refine lv_istore_n (lv' := [(1, .int y110), (0, .ref (ad 0)), (2, .int x59), (3, .int x71)]) hx hb dX9_product_110 rfl hl (by decide) rfl (fun ls hl => ?_)
                refine lv_goto (tgt := 5) hx hb dX9_product_111 (by decide) ?_
                exact ih y110 S71 ⟨hI, by omega⟩ hL5 _ _ _ (lv_sub hl [1, 0] rfl) G
              refine lv_icmp_ne (tgt := 87) hx hb dX9_product_78 (by decide) (fun c78 => ?_) (fun c78 => ?_)
              · rw [if_neg c78] at hX110
                refine lv_iload_n hx hb dX9_product_87 rfl (lv_at hl 0 rfl) ?_
                refine lv_if_ne (tgt := 95) hx hb dX9_product_88 (by decide) (fun c88 => ?_) (fun c88 => ?_)
                · rw [if_neg c88] at hX110
                  refine lv_iload_n hx hb dX9_product_95 rfl (lv_at hl 1 rfl) ?_
                  refine lv_bipush (v := 47) hx hb dX9_product_96 (by decide) ?_
                  refine lv_icmp_ne (tgt := 107) hx hb dX9_product_98 (by decide) (fun c98 => ?_) (fun c98 => ?_)
                  · rw [if_neg c98] at hX110
                    refine lv_iload_n hx hb dX9_product_107 rfl (lv_at hl 3 rfl) ?_
                    refine lv_iload_n hx hb dX9_product_108 rfl (lv_at hl 0 rfl) ?_
                    refine lv_irem hx hb dX9_product_109 c88 ?_
                    subst hX110
                    exact hj110 _ _ _ (lv_sub hl [2, 3, 1, 0] rfl) G
                  · rw [if_pos c98] at hX110
                    refine lv_iload_n hx hb dX9_product_101 rfl (lv_at hl 3 rfl) ?_
                    refine lv_iload_n hx hb dX9_product_102 rfl (lv_at hl 0 rfl) ?_
                    refine lv_idiv hx hb dX9_product_103 c88 ?_
                    refine lv_goto (tgt := 110) hx hb dX9_product_104 (by decide) ?_
                    subst hX110
                    exact hj110 _ _ _ (lv_sub hl [2, 3, 1, 0] rfl) G
                · rw [if_pos c88] at hX110
                  refine lv_iconst (v := 0) hx hb dX9_product_91 (by decide) ?_
                  refine lv_goto (tgt := 110) hx hb dX9_product_92 (by decide) ?_
                  subst hX110
                  exact hj110 _ _ _ (lv_sub hl [2, 3, 1, 0] rfl) G
              · rw [if_pos c78] at hX110
                refine lv_iload_n hx hb dX9_product_81 rfl (lv_at hl 3 rfl) ?_
                refine lv_iload_n hx hb dX9_product_82 rfl (lv_at hl 0 rfl) ?_
                refine lv_imul hx hb dX9_product_83 ?_
                refine lv_goto (tgt := 110) hx hb dX9_product_84 (by decide) ?_
                subst hX110
                exact hj110 _ _ _ (lv_sub hl [2, 3, 1, 0] rfl) G
  exact hloop5 _ _ _ ⟨hI, by show _ < 51; omega⟩ hX5 _ _ _ (lv_sub hl [1, 0] rfl) G
set_option maxRecDepth 100000 in
set_option maxHeartbeats 4000000 in
theorem k_sum (zl : Launch) (D : va_G) (cI : ClassId) (ad : Nat → Nat) (M : mS) {E : Nat} {u : Nat} {d : Nat} {lF nF : Nat} (fF : sS → Int32 × sS) (hkF : ∀ S, pI E u d S → mPc zl D cI ad yX9_factor wsX9_factor ({ frames := nF, cells := 0, slots := 0, locals := lF } : Room) [] M S (fF S)) (hpF : ∀ S, pI E u d S → pI E u d (fF S).2 ∧ vn (S 8) ≤ vn ((fF S).2 8)) (S : sS) (hI : pI E u d S) : mPc zl D cI ad yX9_sum wsX9_sum ({ frames := nF + 2, cells := 0, slots := 0, locals := lF + 45 } : Room) [] M S (mF_sum M fF S) := by
  have hin : ∀ w ∈ wsX90, w ∈ wsX9_sum := fun w h => List.mem_cons_of_mem _ (List.mem_append_right _ h)
  refine mPc_of (cc := cX9_sum) (nL := 4) (by decide) rfl rfl (Nat.le_of_ble_eq_true rfl) ?_
  intro zp ze zs zm zg zb zt zc zA H0 zQ C hA hret H locs ls hl G
  have hx := C.1
  have hb := C.2.1
  have hl : lv_has ls 4 [(0, .ref (ad 0))] := hl
  obtain ⟨rM, hF⟩ : ∃ X : Int32 × sS, X = mF_sum M fF S := ⟨_, rfl⟩
  rw [← hF] at hret
  unfold mF_sum at hF
  have hE := hI.2.1.2
  refine lv_aload_n hx hb dX9_sum_0 rfl (lv_at hl 0 rfl) ?_
  obtain ⟨x1, S1, hx1⟩ : ∃ (X : Int32) (Y : sS), (X, Y) = mF_product M fF S := ⟨_, _, rfl⟩
  refine ps_calli (r0 := x1) (S2 := S1) C hA G (by rw [hx1]; exact (k_product zl D cI ad M fF hkF hpF S  hI)) (cwV 0 C.2.2.2.2.1 gX9_sum_X9_product rfl rfl rfl (by decide +kernel) (by refine ⟨?_, ?_⟩ <;> dsimp only <;> omega)) rfl hl.1 rfl (Nat.le_of_ble_eq_true rfl) dX9_sum_1 ⟨Nat.le_refl _, Nat.le_refl _⟩ (fun H locs G => ?_)
  rw [lt2_e hx1] at hF
  have hIc := pI_product (M := M) hpF hI
  rw [← hx1] at hIc
  dsimp only at hIc
  have hle1 := hIc.2
  have hI := hIc.1
  refine lv_istore_n (lv' := [(1, .int x1), (0, .ref (ad 0))]) hx hb dX9_sum_4 rfl hl (by decide) rfl (fun ls hl => ?_)
  obtain ⟨v1_5x, S5x, hX5⟩ : ∃ (v1_5x : Int32) (S5x : sS), (v1_5x, S5x) = mF_sum_L5 M fF fu51 x1 S1 := ⟨_, _, rfl⟩
  rw [lt2_e hX5] at hF
  have hrest5 : ∀ (H : Heap) (locs : List Loc) (ls : Array Slot), lv_has ls 4 [(0, .ref (ad 0)), (1, .int v1_5x)] → mGs D cI ad zA H0 H locs M S5x → W zp zl ze ({ frames := nF + 2, cells := 0, slots := 0, locals := lF + 45 } : Room) zs zm zg zb zt zc H locs 0 0 zQ (F0 zm 81 ls []) := by
    intro H locs ls hl G
    refine lv_iload_n hx hb dX9_sum_81 rfl (lv_at hl 1 rfl) ?_
    exact hret _ _ _ _ _ _ hF G dX9_sum_82
  have hloop5 : ∀ (f : Nat) (v1_5 : Int32) (S5 : sS), (pI E u d S5 ∧ 50 - vn (S5 8) < f) → (v1_5x, S5x) = mF_sum_L5 M fF f v1_5 S5 → ∀ (H : Heap) (locs : List Loc) (ls : Array Slot), lv_has ls 4 [(0, .ref (ad 0)), (1, .int v1_5)] → mGs D cI ad zA H0 H locs M S5 → W zp zl ze ({ frames := nF + 2, cells := 0, slots := 0, locals := lF + 45 } : Room) zs zm zg zb zt zc H locs 0 0 zQ (F0 zm 5 ls []) := by
    intro f
    induction f with
    | zero =>
      intro v1_5 S5 hI hL5 H locs ls hl G
      exact absurd hI.2 (Nat.not_lt_zero _)
    | succ f ih =>
      intro v1_5 S5 hI hL5 H locs ls hl G
      rw [mF_sum_L5_s] at hL5
      have hJ := hI.2
      have hI := hI.1
      refine lv_aload_n hx hb dX9_sum_5 rfl (lv_at hl 0 rfl) ?_
      refine ps_get C G hin 14 (by decide) rfl (show Cond.fieldLink RX9 116 "WheatCountsModel" "good" "Z" ∈ _ by decide +kernel) rfl dX9_sum_6 ?_
      refine lv_if_eq (tgt := 81) hx hb dX9_sum_9 (by decide) (fun c9 => ?_) (fun c9 => ?_)
      · rw [if_pos c9] at hL5
        cases hL5
        exact hrest5 _ _ _ (lv_sub hl [0, 1] rfl) G
      · rw [if_neg c9] at hL5
        refine lv_aload_n hx hb dX9_sum_12 rfl (lv_at hl 0 rfl) ?_
        refine lv_aload_n hx hb dX9_sum_13 rfl (lv_at hl 0 rfl) ?_
        refine ps_get C G hin 8 (by decide) rfl (show Cond.fieldLink RX9 120 "WheatCountsModel" "at" "I" ∈ _ by decide +kernel) rfl dX9_sum_14 ?_
        refine ps_calli C hA G (k_byteAt zl D cI ad M S5 (vn (S5 8)) hI (vn8_lt hI)) (cwV 1 C.2.2.2.2.1 gX9_sum_X9_byteAt rfl rfl rfl (by decide +kernel) (by refine ⟨?_, ?_⟩ <;> dsimp only <;> omega)) rfl hl.1 (cons_int (pI_8 hI).1 rfl) (Nat.le_of_ble_eq_true rfl) dX9_sum_17 ⟨Nat.le_refl _, Nat.le_refl _⟩ (fun H locs G => ?_)
        refine lv_bipush (v := 43) hx hb dX9_sum_20 (by decide) ?_
        refine lv_icmp_eq (tgt := 38) hx hb dX9_sum_22 (by decide) (fun c22 => ?_) (fun c22 => ?_)
        · rw [if_pos c22] at hL5
          have hlt := byteAt_lt hI (by rw [c22]; decide)
          refine lv_aload_n hx hb dX9_sum_38 rfl (lv_at hl 0 rfl) ?_
          refine lv_aload_n hx hb dX9_sum_39 rfl (lv_at hl 0 rfl) ?_
          refine ps_get C G hin 8 (by decide) rfl (show Cond.fieldLink RX9 120 "WheatCountsModel" "at" "I" ∈ _ by decide +kernel) rfl dX9_sum_40 ?_
          refine ps_calli C hA G (k_byteAt zl D cI ad M S5 (vn (S5 8)) hI (vn8_lt hI)) (cwV 1 C.2.2.2.2.1 gX9_sum_X9_byteAt rfl rfl rfl (by decide +kernel) (by refine ⟨?_, ?_⟩ <;> dsimp only <;> omega)) rfl hl.1 (cons_int (pI_8 hI).1 rfl) (Nat.le_of_ble_eq_true rfl) dX9_sum_43 ⟨Nat.le_refl _, Nat.le_refl _⟩ (fun H locs G => ?_)
          refine lv_topi (fun x46 hx46 => ?_)
          rw [lt_e hx46] at hL5
          refine lv_istore_n (lv' := [(2, .int x46), (0, .ref (ad 0)), (1, .int v1_5)]) hx hb dX9_sum_46 rfl hl (by decide) rfl (fun ls hl => ?_)
          refine lv_aload_n hx hb dX9_sum_47 rfl (lv_at hl 1 rfl) ?_
          refine lv_dup hx hb dX9_sum_48 rfl ?_
          refine ps_get C G hin 8 (by decide) rfl (show Cond.fieldLink RX9 120 "WheatCountsModel" "at" "I" ∈ _ by decide +kernel) rfl dX9_sum_49 ?_
          refine lv_iconst (v := 1) hx hb dX9_sum_52 (by decide) ?_
          refine lv_iadd hx hb dX9_sum_53 ?_
          refine ps_put C G hin 8 (by decide) rfl rfl (show Cond.fieldLink RX9 120 "WheatCountsModel" "at" "I" ∈ _ by decide +kernel) (ty := .int) (by decide +kernel) rfl rfl rfl dX9_sum_54 (fun H locs G => ?_)
          obtain ⟨S54, hS54⟩ : ∃ X : sS, X = upd S5 8 ((S5 8) + 1) := ⟨_, rfl⟩
          rw [← hS54] at G
          rw [lt_e hS54] at hL5
          have hat54 := at_succ hI hS54 hlt
          have hI := pI_at hI hS54 hlt
          refine lv_aload_n hx hb dX9_sum_57 rfl (lv_at hl 1 rfl) ?_
          obtain ⟨x58, S58, hx58⟩ : ∃ (X : Int32) (Y : sS), (X, Y) = mF_product M fF S54 := ⟨_, _, rfl⟩
          refine ps_calli (r0 := x58) (S2 := S58) C hA G (by rw [hx58]; exact (k_product zl D cI ad M fF hkF hpF S54  hI)) (cwV 0 C.2.2.2.2.1 gX9_sum_X9_product rfl rfl rfl (by decide +kernel) (by refine ⟨?_, ?_⟩ <;> dsimp only <;> omega)) rfl hl.1 rfl (Nat.le_of_ble_eq_true rfl) dX9_sum_58 ⟨Nat.le_refl _, Nat.le_refl _⟩ (fun H locs G => ?_)
          rw [lt2_e hx58] at hL5
          have hIc := pI_product (M := M) hpF hI
          rw [← hx58] at hIc
          dsimp only at hIc
          have hle58 := hIc.2
          have hI := hIc.1
          refine lv_istore_n (lv' := [(3, .int x58), (2, .int x46), (0, .ref (ad 0)), (1, .int v1_5)]) hx hb dX9_sum_61 rfl hl (by decide) rfl (fun ls hl => ?_)
          refine lv_iload_n hx hb dX9_sum_62 rfl (lv_at hl 1 rfl) ?_
          refine lv_bipush (v := 43) hx hb dX9_sum_63 (by decide) ?_
          obtain ⟨y77, hX77⟩ : ∃ (y77 : Int32), y77 = ((if x46 = 43 then (v1_5 + x58) else (v1_5 - x58)) : Int32) := ⟨_, rfl⟩
          rw [lt_e hX77] at hL5
          have hj77 : ∀ (H : Heap) (locs : List Loc) (ls : Array Slot), lv_has ls 4 [(0, .ref (ad 0)), (1, .int v1_5), (2, .int x46), (3, .int x58)] → mGs D cI ad zA H0 H locs M S58 → W zp zl ze ({ frames := nF + 2, cells := 0, slots := 0, locals := lF + 45 } : Room) zs zm zg zb zt zc H locs 0 0 zQ (F0 zm 77 ls [.int y77]) := by
            intro H locs ls hl G
            refine lv_istore_n (lv' := [(1, .int y77), (0, .ref (ad 0)), (2, .int x46), (3, .int x58)]) hx hb dX9_sum_77 rfl hl (by decide) rfl (fun ls hl => ?_)
            refine lv_goto (tgt := 5) hx hb dX9_sum_78 (by decide) ?_
            exact ih y77 S58 ⟨hI, by omega⟩ hL5 _ _ _ (lv_sub hl [1, 0] rfl) G
          refine lv_icmp_ne (tgt := 74) hx hb dX9_sum_65 (by decide) (fun c65 => ?_) (fun c65 => ?_)
          · rw [if_neg c65] at hX77
            refine lv_iload_n hx hb dX9_sum_74 rfl (lv_at hl 3 rfl) ?_
            refine lv_iload_n hx hb dX9_sum_75 rfl (lv_at hl 0 rfl) ?_
            refine lv_isub hx hb dX9_sum_76 ?_
            subst hX77
            exact hj77 _ _ _ (lv_sub hl [2, 3, 1, 0] rfl) G
          · rw [if_pos c65] at hX77
            refine lv_iload_n hx hb dX9_sum_68 rfl (lv_at hl 3 rfl) ?_
            refine lv_iload_n hx hb dX9_sum_69 rfl (lv_at hl 0 rfl) ?_
            refine lv_iadd hx hb dX9_sum_70 ?_
            refine lv_goto (tgt := 77) hx hb dX9_sum_71 (by decide) ?_
            subst hX77
            exact hj77 _ _ _ (lv_sub hl [2, 3, 1, 0] rfl) G
        · rw [if_neg c22] at hL5
          refine lv_aload_n hx hb dX9_sum_25 rfl (lv_at hl 0 rfl) ?_
          refine lv_aload_n hx hb dX9_sum_26 rfl (lv_at hl 0 rfl) ?_
          refine ps_get C G hin 8 (by decide) rfl (show Cond.fieldLink RX9 120 "WheatCountsModel" "at" "I" ∈ _ by decide +kernel) rfl dX9_sum_27 ?_
          refine ps_calli C hA G (k_byteAt zl D cI ad M S5 (vn (S5 8)) hI (vn8_lt hI)) (cwV 1 C.2.2.2.2.1 gX9_sum_X9_byteAt rfl rfl rfl (by decide +kernel) (by refine ⟨?_, ?_⟩ <;> dsimp only <;> omega)) rfl hl.1 (cons_int (pI_8 hI).1 rfl) (Nat.le_of_ble_eq_true rfl) dX9_sum_30 ⟨Nat.le_refl _, Nat.le_refl _⟩ (fun H locs G => ?_)
          refine lv_bipush (v := 45) hx hb dX9_sum_33 (by decide) ?_
          refine lv_icmp_ne (tgt := 81) hx hb dX9_sum_35 (by decide) (fun c35 => ?_) (fun c35 => ?_)
          · rw [if_neg c35] at hL5
            cases hL5
            exact hrest5 _ _ _ (lv_sub hl [0, 1] rfl) G
          · rw [if_pos c35] at hL5
            have hlt := byteAt_lt hI (by rw [c35]; decide)
            refine lv_aload_n hx hb dX9_sum_38 rfl (lv_at hl 0 rfl) ?_
            refine lv_aload_n hx hb dX9_sum_39 rfl (lv_at hl 0 rfl) ?_
            refine ps_get C G hin 8 (by decide) rfl (show Cond.fieldLink RX9 120 "WheatCountsModel" "at" "I" ∈ _ by decide +kernel) rfl dX9_sum_40 ?_
            refine ps_calli C hA G (k_byteAt zl D cI ad M S5 (vn (S5 8)) hI (vn8_lt hI)) (cwV 1 C.2.2.2.2.1 gX9_sum_X9_byteAt rfl rfl rfl (by decide +kernel) (by refine ⟨?_, ?_⟩ <;> dsimp only <;> omega)) rfl hl.1 (cons_int (pI_8 hI).1 rfl) (Nat.le_of_ble_eq_true rfl) dX9_sum_43 ⟨Nat.le_refl _, Nat.le_refl _⟩ (fun H locs G => ?_)
            refine lv_topi (fun x46 hx46 => ?_)
            rw [lt_e hx46] at hL5
            refine lv_istore_n (lv' := [(2, .int x46), (0, .ref (ad 0)), (1, .int v1_5)]) hx hb dX9_sum_46 rfl hl (by decide) rfl (fun ls hl => ?_)
            refine lv_aload_n hx hb dX9_sum_47 rfl (lv_at hl 1 rfl) ?_
            refine lv_dup hx hb dX9_sum_48 rfl ?_
            refine ps_get C G hin 8 (by decide) rfl (show Cond.fieldLink RX9 120 "WheatCountsModel" "at" "I" ∈ _ by decide +kernel) rfl dX9_sum_49 ?_
            refine lv_iconst (v := 1) hx hb dX9_sum_52 (by decide) ?_
            refine lv_iadd hx hb dX9_sum_53 ?_
            refine ps_put C G hin 8 (by decide) rfl rfl (show Cond.fieldLink RX9 120 "WheatCountsModel" "at" "I" ∈ _ by decide +kernel) (ty := .int) (by decide +kernel) rfl rfl rfl dX9_sum_54 (fun H locs G => ?_)
            obtain ⟨S54, hS54⟩ : ∃ X : sS, X = upd S5 8 ((S5 8) + 1) := ⟨_, rfl⟩
            rw [← hS54] at G
            rw [lt_e hS54] at hL5
            have hat54 := at_succ hI hS54 hlt
            have hI := pI_at hI hS54 hlt
            refine lv_aload_n hx hb dX9_sum_57 rfl (lv_at hl 1 rfl) ?_
            obtain ⟨x58, S58, hx58⟩ : ∃ (X : Int32) (Y : sS), (X, Y) = mF_product M fF S54 := ⟨_, _, rfl⟩
            refine ps_calli (r0 := x58) (S2 := S58) C hA G (by rw [hx58]; exact (k_product zl D cI ad M fF hkF hpF S54  hI)) (cwV 0 C.2.2.2.2.1 gX9_sum_X9_product rfl rfl rfl (by decide +kernel) (by refine ⟨?_, ?_⟩ <;> dsimp only <;> omega)) rfl hl.1 rfl (Nat.le_of_ble_eq_true rfl) dX9_sum_58 ⟨Nat.le_refl _, Nat.le_refl _⟩ (fun H locs G => ?_)
            rw [lt2_e hx58] at hL5
            have hIc := pI_product (M := M) hpF hI
            rw [← hx58] at hIc
            dsimp only at hIc
            have hle58 := hIc.2
            have hI := hIc.1
            refine lv_istore_n (lv' := [(3, .int x58), (2, .int x46), (0, .ref (ad 0)), (1, .int v1_5)]) hx hb dX9_sum_61 rfl hl (by decide) rfl (fun ls hl => ?_)
            refine lv_iload_n hx hb dX9_sum_62 rfl (lv_at hl 1 rfl) ?_
            refine lv_bipush (v := 43) hx hb dX9_sum_63 (by decide) ?_
            obtain ⟨y77, hX77⟩ : ∃ (y77 : Int32), y77 = ((if x46 = 43 then (v1_5 + x58) else (v1_5 - x58)) : Int32) := ⟨_, rfl⟩
            rw [lt_e hX77] at hL5
            have hj77 : ∀ (H : Heap) (locs : List Loc) (ls : Array Slot), lv_has ls 4 [(0, .ref (ad 0)), (1, .int v1_5), (2, .int x46), (3, .int x58)] → mGs D cI ad zA H0 H locs M S58 → W zp zl ze ({ frames := nF + 2, cells := 0, slots := 0, locals := lF + 45 } : Room) zs zm zg zb zt zc H locs 0 0 zQ (F0 zm 77 ls [.int y77]) := by
              intro H locs ls hl G
              refine lv_istore_n (lv' := [(1, .int y77), (0, .ref (ad 0)), (2, .int x46), (3, .int x58)]) hx hb dX9_sum_77 rfl hl (by decide) rfl (fun ls hl => ?_)
              refine lv_goto (tgt := 5) hx hb dX9_sum_78 (by decide) ?_
              exact ih y77 S58 ⟨hI, by omega⟩ hL5 _ _ _ (lv_sub hl [1, 0] rfl) G
            refine lv_icmp_ne (tgt := 74) hx hb dX9_sum_65 (by decide) (fun c65 => ?_) (fun c65 => ?_)
            · rw [if_neg c65] at hX77
              refine lv_iload_n hx hb dX9_sum_74 rfl (lv_at hl 3 rfl) ?_
              refine lv_iload_n hx hb dX9_sum_75 rfl (lv_at hl 0 rfl) ?_
              refine lv_isub hx hb dX9_sum_76 ?_
              subst hX77
              exact hj77 _ _ _ (lv_sub hl [2, 3, 1, 0] rfl) G
            · rw [if_pos c65] at hX77
              refine lv_iload_n hx hb dX9_sum_68 rfl (lv_at hl 3 rfl) ?_
              refine lv_iload_n hx hb dX9_sum_69 rfl (lv_at hl 0 rfl) ?_
              refine lv_iadd hx hb dX9_sum_70 ?_
              refine lv_goto (tgt := 77) hx hb dX9_sum_71 (by decide) ?_
              subst hX77
              exact hj77 _ _ _ (lv_sub hl [2, 3, 1, 0] rfl) G
  exact hloop5 _ _ _ ⟨hI, by show _ < 51; omega⟩ hX5 _ _ _ (lv_sub hl [1, 0] rfl) G
set_option maxRecDepth 100000 in
set_option maxHeartbeats 4000000 in
theorem k_compared (zl : Launch) (D : va_G) (cI : ClassId) (ad : Nat → Nat) (M : mS) {E : Nat} {u : Nat} {d : Nat} {lF nF : Nat} (fF : sS → Int32 × sS) (hkF : ∀ S, pI E u d S → mPc zl D cI ad yX9_factor wsX9_factor ({ frames := nF, cells := 0, slots := 0, locals := lF } : Room) [] M S (fF S)) (hpF : ∀ S, pI E u d S → pI E u d (fF S).2 ∧ vn (S 8) ≤ vn ((fF S).2 8)) (S : sS) (hI : pI E u d S) : mPc zl D cI ad yX9_compared wsX9_compared ({ frames := nF + 3, cells := 0, slots := 0, locals := lF + 68 } : Room) [] M S (mF_compared M fF S) := by
  have hin : ∀ w ∈ wsX90, w ∈ wsX9_compared := fun w h => List.mem_cons_of_mem _ (List.mem_append_right _ h)
  refine mPc_of (cc := cX9_compared) (nL := 5) (by decide) rfl rfl (Nat.le_of_ble_eq_true rfl) ?_
  intro zp ze zs zm zg zb zt zc zA H0 zQ C hA hret H locs ls hl G
  have hx := C.1
  have hb := C.2.1
  have hl : lv_has ls 5 [(0, .ref (ad 0))] := hl
  obtain ⟨rM, hF⟩ : ∃ X : Int32 × sS, X = mF_compared M fF S := ⟨_, rfl⟩
  rw [← hF] at hret
  unfold mF_compared at hF
  have hE := hI.2.1.2
  refine lv_aload_n hx hb dX9_compared_0 rfl (lv_at hl 0 rfl) ?_
  obtain ⟨x1, S1, hx1⟩ : ∃ (X : Int32) (Y : sS), (X, Y) = mF_sum M fF S := ⟨_, _, rfl⟩
  refine ps_calli (r0 := x1) (S2 := S1) C hA G (by rw [hx1]; exact (k_sum zl D cI ad M fF hkF hpF S  hI)) (cwV 0 C.2.2.2.2.1 gX9_compared_X9_sum rfl rfl rfl (by decide +kernel) (by refine ⟨?_, ?_⟩ <;> dsimp only <;> omega)) rfl hl.1 rfl (Nat.le_of_ble_eq_true rfl) dX9_compared_1 ⟨Nat.le_refl _, Nat.le_refl _⟩ (fun H locs G => ?_)
  rw [lt2_e hx1] at hF
  have hIc := pI_sum (M := M) hpF hI
  rw [← hx1] at hIc
  dsimp only at hIc
  have hle1 := hIc.2
  have hI := hIc.1
  refine lv_istore_n (lv' := [(1, .int x1), (0, .ref (ad 0))]) hx hb dX9_compared_4 rfl hl (by decide) rfl (fun ls hl => ?_)
  refine lv_aload_n hx hb dX9_compared_5 rfl (lv_at hl 1 rfl) ?_
  refine ps_get C G hin 14 (by decide) rfl (show Cond.fieldLink RX9 116 "WheatCountsModel" "good" "Z" ∈ _ by decide +kernel) rfl dX9_compared_6 ?_
  obtain ⟨y24, hX24⟩ : ∃ (y24 : Int32), y24 = ((if (S1 14) = 0 then (-1) else (mF_byteAt M S1 (vn (S1 8)))) : Int32) := ⟨_, rfl⟩
  rw [lt_e hX24] at hF
  have hj24 : ∀ (H : Heap) (locs : List Loc) (ls : Array Slot), lv_has ls 5 [(0, .ref (ad 0)), (1, .int x1)] → mGs D cI ad zA H0 H locs M S1 → W zp zl ze ({ frames := nF + 3, cells := 0, slots := 0, locals := lF + 68 } : Room) zs zm zg zb zt zc H locs 0 0 zQ (F0 zm 24 ls [.int y24]) := by
    intro H locs ls hl G
    refine lv_istore_n (lv' := [(2, .int y24), (0, .ref (ad 0)), (1, .int x1)]) hx hb dX9_compared_24 rfl hl (by decide) rfl (fun ls hl => ?_)
    refine lv_iload_n hx hb dX9_compared_25 rfl (lv_at hl 0 rfl) ?_
    refine lv_bipush (v := 60) hx hb dX9_compared_26 (by decide) ?_
    refine lv_icmp_eq (tgt := 45) hx hb dX9_compared_28 (by decide) (fun c28 => ?_) (fun c28 => ?_)
    · rw [if_pos c28] at hF
      have hlt := byteAt_lt hI (cmp_ne hX24 c28 (by decide))
      refine lv_aload_n hx hb dX9_compared_45 rfl (lv_at hl 1 rfl) ?_
      refine lv_dup hx hb dX9_compared_46 rfl ?_
      refine ps_get C G hin 8 (by decide) rfl (show Cond.fieldLink RX9 120 "WheatCountsModel" "at" "I" ∈ _ by decide +kernel) rfl dX9_compared_47 ?_
      refine lv_iconst (v := 1) hx hb dX9_compared_50 (by decide) ?_
      refine lv_iadd hx hb dX9_compared_51 ?_
      refine ps_put C G hin 8 (by decide) rfl rfl (show Cond.fieldLink RX9 120 "WheatCountsModel" "at" "I" ∈ _ by decide +kernel) (ty := .int) (by decide +kernel) rfl rfl rfl dX9_compared_52 (fun H locs G => ?_)
      obtain ⟨S52, hS52⟩ : ∃ X : sS, X = upd S1 8 ((S1 8) + 1) := ⟨_, rfl⟩
      rw [← hS52] at G
      rw [lt_e hS52] at hF
      have hat52 := at_succ hI hS52 hlt
      have hI := pI_at hI hS52 hlt
      refine lv_aload_n hx hb dX9_compared_55 rfl (lv_at hl 1 rfl) ?_
      obtain ⟨x56, S56, hx56⟩ : ∃ (X : Int32) (Y : sS), (X, Y) = mF_sum M fF S52 := ⟨_, _, rfl⟩
      refine ps_calli (r0 := x56) (S2 := S56) C hA G (by rw [hx56]; exact (k_sum zl D cI ad M fF hkF hpF S52  hI)) (cwV 0 C.2.2.2.2.1 gX9_compared_X9_sum rfl rfl rfl (by decide +kernel) (by refine ⟨?_, ?_⟩ <;> dsimp only <;> omega)) rfl hl.1 rfl (Nat.le_of_ble_eq_true rfl) dX9_compared_56 ⟨Nat.le_refl _, Nat.le_refl _⟩ (fun H locs G => ?_)
      rw [lt2_e hx56] at hF
      have hIc := pI_sum (M := M) hpF hI
      rw [← hx56] at hIc
      dsimp only at hIc
      have hle56 := hIc.2
      have hI := hIc.1
      refine lv_istore_n (lv' := [(3, .int x56), (2, .int y24), (0, .ref (ad 0)), (1, .int x1)]) hx hb dX9_compared_59 rfl hl (by decide) rfl (fun ls hl => ?_)
      refine lv_iload_n hx hb dX9_compared_60 rfl (lv_at hl 1 rfl) ?_
      refine lv_bipush (v := 60) hx hb dX9_compared_61 (by decide) ?_
      obtain ⟨y108, hX108⟩ : ∃ (y108 : Int32), y108 = ((if y24 = 60 then (if x56 ≤ x1 then 0 else 1) else (if y24 = 61 then (if x1 = x56 then 1 else 0) else (if x1 ≤ x56 then 0 else 1))) : Int32) := ⟨_, rfl⟩
      rw [lt_e hX108] at hF
      have hj108 : ∀ (H : Heap) (locs : List Loc) (ls : Array Slot), lv_has ls 5 [(0, .ref (ad 0)), (1, .int x1), (2, .int y24), (3, .int x56)] → mGs D cI ad zA H0 H locs M S56 → W zp zl ze ({ frames := nF + 3, cells := 0, slots := 0, locals := lF + 68 } : Room) zs zm zg zb zt zc H locs 0 0 zQ (F0 zm 108 ls [.int y108]) := by
        intro H locs ls hl G
        refine lv_istore (lv' := [(4, .int y108), (0, .ref (ad 0)), (1, .int x1), (2, .int y24), (3, .int x56)]) hx hb dX9_compared_108 hl (by decide) rfl (fun ls hl => ?_)
        refine lv_iload hx hb dX9_compared_110 (lv_at hl 0 rfl) ?_
        refine lv_if_eq (tgt := 119) hx hb dX9_compared_112 (by decide) (fun c112 => ?_) (fun c112 => ?_)
        · rw [if_pos c112] at hF
          refine lv_iconst (v := 0) hx hb dX9_compared_119 (by decide) ?_
          exact hret _ _ _ _ _ _ hF G dX9_compared_120
        · rw [if_neg c112] at hF
          refine lv_iconst (v := 1) hx hb dX9_compared_115 (by decide) ?_
          refine lv_goto (tgt := 120) hx hb dX9_compared_116 (by decide) ?_
          exact hret _ _ _ _ _ _ hF G dX9_compared_120
      refine lv_icmp_ne (tgt := 79) hx hb dX9_compared_63 (by decide) (fun c63 => ?_) (fun c63 => ?_)
      · rw [if_neg c63] at hX108
        refine lv_iload_n hx hb dX9_compared_79 rfl (lv_at hl 1 rfl) ?_
        refine lv_bipush (v := 61) hx hb dX9_compared_80 (by decide) ?_
        refine lv_icmp_ne (tgt := 98) hx hb dX9_compared_82 (by decide) (fun c82 => ?_) (fun c82 => ?_)
        · rw [if_neg c82] at hX108
          refine lv_iload_n hx hb dX9_compared_98 rfl (lv_at hl 3 rfl) ?_
          refine lv_iload_n hx hb dX9_compared_99 rfl (lv_at hl 0 rfl) ?_
          refine lv_icmp_le (tgt := 107) hx hb dX9_compared_100 (by decide) (fun c100 => ?_) (fun c100 => ?_)
          · rw [if_pos c100] at hX108
            refine lv_iconst (v := 0) hx hb dX9_compared_107 (by decide) ?_
            subst hX108
            exact hj108 _ _ _ (lv_sub hl [2, 3, 1, 0] rfl) G
          · rw [if_neg c100] at hX108
            refine lv_iconst (v := 1) hx hb dX9_compared_103 (by decide) ?_
            refine lv_goto (tgt := 108) hx hb dX9_compared_104 (by decide) ?_
            subst hX108
            exact hj108 _ _ _ (lv_sub hl [2, 3, 1, 0] rfl) G
        · rw [if_pos c82] at hX108
          refine lv_iload_n hx hb dX9_compared_85 rfl (lv_at hl 3 rfl) ?_
          refine lv_iload_n hx hb dX9_compared_86 rfl (lv_at hl 0 rfl) ?_
          refine lv_icmp_ne (tgt := 94) hx hb dX9_compared_87 (by decide) (fun c87 => ?_) (fun c87 => ?_)
          · rw [if_neg c87] at hX108
            refine lv_iconst (v := 0) hx hb dX9_compared_94 (by decide) ?_
            refine lv_goto (tgt := 108) hx hb dX9_compared_95 (by decide) ?_
            subst hX108
            exact hj108 _ _ _ (lv_sub hl [2, 3, 1, 0] rfl) G
          · rw [if_pos c87] at hX108
            refine lv_iconst (v := 1) hx hb dX9_compared_90 (by decide) ?_
            refine lv_goto (tgt := 108) hx hb dX9_compared_91 (by decide) ?_
            subst hX108
            exact hj108 _ _ _ (lv_sub hl [2, 3, 1, 0] rfl) G
      · rw [if_pos c63] at hX108
        refine lv_iload_n hx hb dX9_compared_66 rfl (lv_at hl 3 rfl) ?_
        refine lv_iload_n hx hb dX9_compared_67 rfl (lv_at hl 0 rfl) ?_
        refine lv_icmp_ge (tgt := 75) hx hb dX9_compared_68 (by decide) (fun c68 => ?_) (fun c68 => ?_)
        · rw [if_pos c68] at hX108
          refine lv_iconst (v := 0) hx hb dX9_compared_75 (by decide) ?_
          refine lv_goto (tgt := 108) hx hb dX9_compared_76 (by decide) ?_
          subst hX108
          exact hj108 _ _ _ (lv_sub hl [2, 3, 1, 0] rfl) G
        · rw [if_neg c68] at hX108
          refine lv_iconst (v := 1) hx hb dX9_compared_71 (by decide) ?_
          refine lv_goto (tgt := 108) hx hb dX9_compared_72 (by decide) ?_
          subst hX108
          exact hj108 _ _ _ (lv_sub hl [2, 3, 1, 0] rfl) G
    · rw [if_neg c28] at hF
      refine lv_iload_n hx hb dX9_compared_31 rfl (lv_at hl 0 rfl) ?_
      refine lv_bipush (v := 61) hx hb dX9_compared_32 (by decide) ?_
      refine lv_icmp_eq (tgt := 45) hx hb dX9_compared_34 (by decide) (fun c34 => ?_) (fun c34 => ?_)
      · rw [if_pos c34] at hF
        have hlt := byteAt_lt hI (cmp_ne hX24 c34 (by decide))
        refine lv_aload_n hx hb dX9_compared_45 rfl (lv_at hl 1 rfl) ?_
        refine lv_dup hx hb dX9_compared_46 rfl ?_
        refine ps_get C G hin 8 (by decide) rfl (show Cond.fieldLink RX9 120 "WheatCountsModel" "at" "I" ∈ _ by decide +kernel) rfl dX9_compared_47 ?_
        refine lv_iconst (v := 1) hx hb dX9_compared_50 (by decide) ?_
        refine lv_iadd hx hb dX9_compared_51 ?_
        refine ps_put C G hin 8 (by decide) rfl rfl (show Cond.fieldLink RX9 120 "WheatCountsModel" "at" "I" ∈ _ by decide +kernel) (ty := .int) (by decide +kernel) rfl rfl rfl dX9_compared_52 (fun H locs G => ?_)
        obtain ⟨S52, hS52⟩ : ∃ X : sS, X = upd S1 8 ((S1 8) + 1) := ⟨_, rfl⟩
        rw [← hS52] at G
        rw [lt_e hS52] at hF
        have hat52 := at_succ hI hS52 hlt
        have hI := pI_at hI hS52 hlt
        refine lv_aload_n hx hb dX9_compared_55 rfl (lv_at hl 1 rfl) ?_
        obtain ⟨x56, S56, hx56⟩ : ∃ (X : Int32) (Y : sS), (X, Y) = mF_sum M fF S52 := ⟨_, _, rfl⟩
        refine ps_calli (r0 := x56) (S2 := S56) C hA G (by rw [hx56]; exact (k_sum zl D cI ad M fF hkF hpF S52  hI)) (cwV 0 C.2.2.2.2.1 gX9_compared_X9_sum rfl rfl rfl (by decide +kernel) (by refine ⟨?_, ?_⟩ <;> dsimp only <;> omega)) rfl hl.1 rfl (Nat.le_of_ble_eq_true rfl) dX9_compared_56 ⟨Nat.le_refl _, Nat.le_refl _⟩ (fun H locs G => ?_)
        rw [lt2_e hx56] at hF
        have hIc := pI_sum (M := M) hpF hI
        rw [← hx56] at hIc
        dsimp only at hIc
        have hle56 := hIc.2
        have hI := hIc.1
        refine lv_istore_n (lv' := [(3, .int x56), (2, .int y24), (0, .ref (ad 0)), (1, .int x1)]) hx hb dX9_compared_59 rfl hl (by decide) rfl (fun ls hl => ?_)
        refine lv_iload_n hx hb dX9_compared_60 rfl (lv_at hl 1 rfl) ?_
        refine lv_bipush (v := 60) hx hb dX9_compared_61 (by decide) ?_
        obtain ⟨y108, hX108⟩ : ∃ (y108 : Int32), y108 = ((if y24 = 60 then (if x56 ≤ x1 then 0 else 1) else (if y24 = 61 then (if x1 = x56 then 1 else 0) else (if x1 ≤ x56 then 0 else 1))) : Int32) := ⟨_, rfl⟩
        rw [lt_e hX108] at hF
        have hj108 : ∀ (H : Heap) (locs : List Loc) (ls : Array Slot), lv_has ls 5 [(0, .ref (ad 0)), (1, .int x1), (2, .int y24), (3, .int x56)] → mGs D cI ad zA H0 H locs M S56 → W zp zl ze ({ frames := nF + 3, cells := 0, slots := 0, locals := lF + 68 } : Room) zs zm zg zb zt zc H locs 0 0 zQ (F0 zm 108 ls [.int y108]) := by
          intro H locs ls hl G
          refine lv_istore (lv' := [(4, .int y108), (0, .ref (ad 0)), (1, .int x1), (2, .int y24), (3, .int x56)]) hx hb dX9_compared_108 hl (by decide) rfl (fun ls hl => ?_)
          refine lv_iload hx hb dX9_compared_110 (lv_at hl 0 rfl) ?_
          refine lv_if_eq (tgt := 119) hx hb dX9_compared_112 (by decide) (fun c112 => ?_) (fun c112 => ?_)
          · rw [if_pos c112] at hF
            refine lv_iconst (v := 0) hx hb dX9_compared_119 (by decide) ?_
            exact hret _ _ _ _ _ _ hF G dX9_compared_120
          · rw [if_neg c112] at hF
            refine lv_iconst (v := 1) hx hb dX9_compared_115 (by decide) ?_
            refine lv_goto (tgt := 120) hx hb dX9_compared_116 (by decide) ?_
            exact hret _ _ _ _ _ _ hF G dX9_compared_120
        refine lv_icmp_ne (tgt := 79) hx hb dX9_compared_63 (by decide) (fun c63 => ?_) (fun c63 => ?_)
        · rw [if_neg c63] at hX108
          refine lv_iload_n hx hb dX9_compared_79 rfl (lv_at hl 1 rfl) ?_
          refine lv_bipush (v := 61) hx hb dX9_compared_80 (by decide) ?_
          refine lv_icmp_ne (tgt := 98) hx hb dX9_compared_82 (by decide) (fun c82 => ?_) (fun c82 => ?_)
          · rw [if_neg c82] at hX108
            refine lv_iload_n hx hb dX9_compared_98 rfl (lv_at hl 3 rfl) ?_
            refine lv_iload_n hx hb dX9_compared_99 rfl (lv_at hl 0 rfl) ?_
            refine lv_icmp_le (tgt := 107) hx hb dX9_compared_100 (by decide) (fun c100 => ?_) (fun c100 => ?_)
            · rw [if_pos c100] at hX108
              refine lv_iconst (v := 0) hx hb dX9_compared_107 (by decide) ?_
              subst hX108
              exact hj108 _ _ _ (lv_sub hl [2, 3, 1, 0] rfl) G
            · rw [if_neg c100] at hX108
              refine lv_iconst (v := 1) hx hb dX9_compared_103 (by decide) ?_
              refine lv_goto (tgt := 108) hx hb dX9_compared_104 (by decide) ?_
              subst hX108
              exact hj108 _ _ _ (lv_sub hl [2, 3, 1, 0] rfl) G
          · rw [if_pos c82] at hX108
            refine lv_iload_n hx hb dX9_compared_85 rfl (lv_at hl 3 rfl) ?_
            refine lv_iload_n hx hb dX9_compared_86 rfl (lv_at hl 0 rfl) ?_
            refine lv_icmp_ne (tgt := 94) hx hb dX9_compared_87 (by decide) (fun c87 => ?_) (fun c87 => ?_)
            · rw [if_neg c87] at hX108
              refine lv_iconst (v := 0) hx hb dX9_compared_94 (by decide) ?_
              refine lv_goto (tgt := 108) hx hb dX9_compared_95 (by decide) ?_
              subst hX108
              exact hj108 _ _ _ (lv_sub hl [2, 3, 1, 0] rfl) G
            · rw [if_pos c87] at hX108
              refine lv_iconst (v := 1) hx hb dX9_compared_90 (by decide) ?_
              refine lv_goto (tgt := 108) hx hb dX9_compared_91 (by decide) ?_
              subst hX108
              exact hj108 _ _ _ (lv_sub hl [2, 3, 1, 0] rfl) G
        · rw [if_pos c63] at hX108
          refine lv_iload_n hx hb dX9_compared_66 rfl (lv_at hl 3 rfl) ?_
          refine lv_iload_n hx hb dX9_compared_67 rfl (lv_at hl 0 rfl) ?_
          refine lv_icmp_ge (tgt := 75) hx hb dX9_compared_68 (by decide) (fun c68 => ?_) (fun c68 => ?_)
          · rw [if_pos c68] at hX108
            refine lv_iconst (v := 0) hx hb dX9_compared_75 (by decide) ?_
            refine lv_goto (tgt := 108) hx hb dX9_compared_76 (by decide) ?_
            subst hX108
            exact hj108 _ _ _ (lv_sub hl [2, 3, 1, 0] rfl) G
          · rw [if_neg c68] at hX108
            refine lv_iconst (v := 1) hx hb dX9_compared_71 (by decide) ?_
            refine lv_goto (tgt := 108) hx hb dX9_compared_72 (by decide) ?_
            subst hX108
            exact hj108 _ _ _ (lv_sub hl [2, 3, 1, 0] rfl) G
      · rw [if_neg c34] at hF
        refine lv_iload_n hx hb dX9_compared_37 rfl (lv_at hl 0 rfl) ?_
        refine lv_bipush (v := 62) hx hb dX9_compared_38 (by decide) ?_
        refine lv_icmp_eq (tgt := 45) hx hb dX9_compared_40 (by decide) (fun c40 => ?_) (fun c40 => ?_)
        · rw [if_pos c40] at hF
          have hlt := byteAt_lt hI (cmp_ne hX24 c40 (by decide))
          refine lv_aload_n hx hb dX9_compared_45 rfl (lv_at hl 1 rfl) ?_
          refine lv_dup hx hb dX9_compared_46 rfl ?_
          refine ps_get C G hin 8 (by decide) rfl (show Cond.fieldLink RX9 120 "WheatCountsModel" "at" "I" ∈ _ by decide +kernel) rfl dX9_compared_47 ?_
          refine lv_iconst (v := 1) hx hb dX9_compared_50 (by decide) ?_
          refine lv_iadd hx hb dX9_compared_51 ?_
          refine ps_put C G hin 8 (by decide) rfl rfl (show Cond.fieldLink RX9 120 "WheatCountsModel" "at" "I" ∈ _ by decide +kernel) (ty := .int) (by decide +kernel) rfl rfl rfl dX9_compared_52 (fun H locs G => ?_)
          obtain ⟨S52, hS52⟩ : ∃ X : sS, X = upd S1 8 ((S1 8) + 1) := ⟨_, rfl⟩
          rw [← hS52] at G
          rw [lt_e hS52] at hF
          have hat52 := at_succ hI hS52 hlt
          have hI := pI_at hI hS52 hlt
          refine lv_aload_n hx hb dX9_compared_55 rfl (lv_at hl 1 rfl) ?_
          obtain ⟨x56, S56, hx56⟩ : ∃ (X : Int32) (Y : sS), (X, Y) = mF_sum M fF S52 := ⟨_, _, rfl⟩
          refine ps_calli (r0 := x56) (S2 := S56) C hA G (by rw [hx56]; exact (k_sum zl D cI ad M fF hkF hpF S52  hI)) (cwV 0 C.2.2.2.2.1 gX9_compared_X9_sum rfl rfl rfl (by decide +kernel) (by refine ⟨?_, ?_⟩ <;> dsimp only <;> omega)) rfl hl.1 rfl (Nat.le_of_ble_eq_true rfl) dX9_compared_56 ⟨Nat.le_refl _, Nat.le_refl _⟩ (fun H locs G => ?_)
          rw [lt2_e hx56] at hF
          have hIc := pI_sum (M := M) hpF hI
          rw [← hx56] at hIc
          dsimp only at hIc
          have hle56 := hIc.2
          have hI := hIc.1
          refine lv_istore_n (lv' := [(3, .int x56), (2, .int y24), (0, .ref (ad 0)), (1, .int x1)]) hx hb dX9_compared_59 rfl hl (by decide) rfl (fun ls hl => ?_)
          refine lv_iload_n hx hb dX9_compared_60 rfl (lv_at hl 1 rfl) ?_
          refine lv_bipush (v := 60) hx hb dX9_compared_61 (by decide) ?_
          obtain ⟨y108, hX108⟩ : ∃ (y108 : Int32), y108 = ((if y24 = 60 then (if x56 ≤ x1 then 0 else 1) else (if y24 = 61 then (if x1 = x56 then 1 else 0) else (if x1 ≤ x56 then 0 else 1))) : Int32) := ⟨_, rfl⟩
          rw [lt_e hX108] at hF
          have hj108 : ∀ (H : Heap) (locs : List Loc) (ls : Array Slot), lv_has ls 5 [(0, .ref (ad 0)), (1, .int x1), (2, .int y24), (3, .int x56)] → mGs D cI ad zA H0 H locs M S56 → W zp zl ze ({ frames := nF + 3, cells := 0, slots := 0, locals := lF + 68 } : Room) zs zm zg zb zt zc H locs 0 0 zQ (F0 zm 108 ls [.int y108]) := by
            intro H locs ls hl G
            refine lv_istore (lv' := [(4, .int y108), (0, .ref (ad 0)), (1, .int x1), (2, .int y24), (3, .int x56)]) hx hb dX9_compared_108 hl (by decide) rfl (fun ls hl => ?_)
            refine lv_iload hx hb dX9_compared_110 (lv_at hl 0 rfl) ?_
            refine lv_if_eq (tgt := 119) hx hb dX9_compared_112 (by decide) (fun c112 => ?_) (fun c112 => ?_)
            · rw [if_pos c112] at hF
              refine lv_iconst (v := 0) hx hb dX9_compared_119 (by decide) ?_
              exact hret _ _ _ _ _ _ hF G dX9_compared_120
            · rw [if_neg c112] at hF
              refine lv_iconst (v := 1) hx hb dX9_compared_115 (by decide) ?_
              refine lv_goto (tgt := 120) hx hb dX9_compared_116 (by decide) ?_
              exact hret _ _ _ _ _ _ hF G dX9_compared_120
          refine lv_icmp_ne (tgt := 79) hx hb dX9_compared_63 (by decide) (fun c63 => ?_) (fun c63 => ?_)
          · rw [if_neg c63] at hX108
            refine lv_iload_n hx hb dX9_compared_79 rfl (lv_at hl 1 rfl) ?_
            refine lv_bipush (v := 61) hx hb dX9_compared_80 (by decide) ?_
            refine lv_icmp_ne (tgt := 98) hx hb dX9_compared_82 (by decide) (fun c82 => ?_) (fun c82 => ?_)
            · rw [if_neg c82] at hX108
              refine lv_iload_n hx hb dX9_compared_98 rfl (lv_at hl 3 rfl) ?_
              refine lv_iload_n hx hb dX9_compared_99 rfl (lv_at hl 0 rfl) ?_
              refine lv_icmp_le (tgt := 107) hx hb dX9_compared_100 (by decide) (fun c100 => ?_) (fun c100 => ?_)
              · rw [if_pos c100] at hX108
                refine lv_iconst (v := 0) hx hb dX9_compared_107 (by decide) ?_
                subst hX108
                exact hj108 _ _ _ (lv_sub hl [2, 3, 1, 0] rfl) G
              · rw [if_neg c100] at hX108
                refine lv_iconst (v := 1) hx hb dX9_compared_103 (by decide) ?_
                refine lv_goto (tgt := 108) hx hb dX9_compared_104 (by decide) ?_
                subst hX108
                exact hj108 _ _ _ (lv_sub hl [2, 3, 1, 0] rfl) G
            · rw [if_pos c82] at hX108
              refine lv_iload_n hx hb dX9_compared_85 rfl (lv_at hl 3 rfl) ?_
              refine lv_iload_n hx hb dX9_compared_86 rfl (lv_at hl 0 rfl) ?_
              refine lv_icmp_ne (tgt := 94) hx hb dX9_compared_87 (by decide) (fun c87 => ?_) (fun c87 => ?_)
              · rw [if_neg c87] at hX108
                refine lv_iconst (v := 0) hx hb dX9_compared_94 (by decide) ?_
                refine lv_goto (tgt := 108) hx hb dX9_compared_95 (by decide) ?_
                subst hX108
                exact hj108 _ _ _ (lv_sub hl [2, 3, 1, 0] rfl) G
              · rw [if_pos c87] at hX108
                refine lv_iconst (v := 1) hx hb dX9_compared_90 (by decide) ?_
                refine lv_goto (tgt := 108) hx hb dX9_compared_91 (by decide) ?_
                subst hX108
                exact hj108 _ _ _ (lv_sub hl [2, 3, 1, 0] rfl) G
          · rw [if_pos c63] at hX108
            refine lv_iload_n hx hb dX9_compared_66 rfl (lv_at hl 3 rfl) ?_
            refine lv_iload_n hx hb dX9_compared_67 rfl (lv_at hl 0 rfl) ?_
            refine lv_icmp_ge (tgt := 75) hx hb dX9_compared_68 (by decide) (fun c68 => ?_) (fun c68 => ?_)
            · rw [if_pos c68] at hX108
              refine lv_iconst (v := 0) hx hb dX9_compared_75 (by decide) ?_
              refine lv_goto (tgt := 108) hx hb dX9_compared_76 (by decide) ?_
              subst hX108
              exact hj108 _ _ _ (lv_sub hl [2, 3, 1, 0] rfl) G
            · rw [if_neg c68] at hX108
              refine lv_iconst (v := 1) hx hb dX9_compared_71 (by decide) ?_
              refine lv_goto (tgt := 108) hx hb dX9_compared_72 (by decide) ?_
              subst hX108
              exact hj108 _ _ _ (lv_sub hl [2, 3, 1, 0] rfl) G
        · rw [if_neg c40] at hF
          refine lv_iload_n hx hb dX9_compared_43 rfl (lv_at hl 2 rfl) ?_
          exact hret _ _ _ _ _ _ hF G dX9_compared_44
  refine lv_if_eq (tgt := 23) hx hb dX9_compared_9 (by decide) (fun c9 => ?_) (fun c9 => ?_)
  · rw [if_pos c9] at hX24
    refine lv_iconst (v := -1) hx hb dX9_compared_23 (by decide) ?_
    subst hX24
    exact hj24 _ _ _ (lv_sub hl [1, 0] rfl) G
  · rw [if_neg c9] at hX24
    refine lv_aload_n hx hb dX9_compared_12 rfl (lv_at hl 1 rfl) ?_
    refine lv_aload_n hx hb dX9_compared_13 rfl (lv_at hl 1 rfl) ?_
    refine ps_get C G hin 8 (by decide) rfl (show Cond.fieldLink RX9 120 "WheatCountsModel" "at" "I" ∈ _ by decide +kernel) rfl dX9_compared_14 ?_
    refine ps_calli C hA G (k_byteAt zl D cI ad M S1 (vn (S1 8)) hI (vn8_lt hI)) (cwV 1 C.2.2.2.2.1 gX9_compared_X9_byteAt rfl rfl rfl (by decide +kernel) (by refine ⟨?_, ?_⟩ <;> dsimp only <;> omega)) rfl hl.1 (cons_int (pI_8 hI).1 rfl) (Nat.le_of_ble_eq_true rfl) dX9_compared_17 ⟨Nat.le_refl _, Nat.le_refl _⟩ (fun H locs G => ?_)
    refine lv_goto (tgt := 24) hx hb dX9_compared_20 (by decide) ?_
    subst hX24
    exact hj24 _ _ _ (lv_sub hl [1, 0] rfl) G
set_option maxRecDepth 100000 in
set_option maxHeartbeats 4000000 in
theorem k_both (zl : Launch) (D : va_G) (cI : ClassId) (ad : Nat → Nat) (M : mS) {E : Nat} {u : Nat} {d : Nat} {lF nF : Nat} (fF : sS → Int32 × sS) (hkF : ∀ S, pI E u d S → mPc zl D cI ad yX9_factor wsX9_factor ({ frames := nF, cells := 0, slots := 0, locals := lF } : Room) [] M S (fF S)) (hpF : ∀ S, pI E u d S → pI E u d (fF S).2 ∧ vn (S 8) ≤ vn ((fF S).2 8)) (S : sS) (hI : pI E u d S) : mPc zl D cI ad yX9_both wsX9_both ({ frames := nF + 4, cells := 0, slots := 0, locals := lF + 92 } : Room) [] M S (mF_both M fF S) := by
  have hin : ∀ w ∈ wsX90, w ∈ wsX9_both := fun w h => List.mem_cons_of_mem _ (List.mem_append_right _ h)
  refine mPc_of (cc := cX9_both) (nL := 3) (by decide) rfl rfl (Nat.le_of_ble_eq_true rfl) ?_
  intro zp ze zs zm zg zb zt zc zA H0 zQ C hA hret H locs ls hl G
  have hx := C.1
  have hb := C.2.1
  have hl : lv_has ls 3 [(0, .ref (ad 0))] := hl
  obtain ⟨rM, hF⟩ : ∃ X : Int32 × sS, X = mF_both M fF S := ⟨_, rfl⟩
  rw [← hF] at hret
  unfold mF_both at hF
  have hE := hI.2.1.2
  refine lv_aload_n hx hb dX9_both_0 rfl (lv_at hl 0 rfl) ?_
  obtain ⟨x1, S1, hx1⟩ : ∃ (X : Int32) (Y : sS), (X, Y) = mF_compared M fF S := ⟨_, _, rfl⟩
  refine ps_calli (r0 := x1) (S2 := S1) C hA G (by rw [hx1]; exact (k_compared zl D cI ad M fF hkF hpF S  hI)) (cwV 0 C.2.2.2.2.1 gX9_both_X9_compared rfl rfl rfl (by decide +kernel) (by refine ⟨?_, ?_⟩ <;> dsimp only <;> omega)) rfl hl.1 rfl (Nat.le_of_ble_eq_true rfl) dX9_both_1 ⟨Nat.le_refl _, Nat.le_refl _⟩ (fun H locs G => ?_)
  rw [lt2_e hx1] at hF
  have hIc := pI_compared (M := M) hpF hI
  rw [← hx1] at hIc
  dsimp only at hIc
  have hle1 := hIc.2
  have hI := hIc.1
  refine lv_istore_n (lv' := [(1, .int x1), (0, .ref (ad 0))]) hx hb dX9_both_4 rfl hl (by decide) rfl (fun ls hl => ?_)
  obtain ⟨v1_5x, S5x, hX5⟩ : ∃ (v1_5x : Int32) (S5x : sS), (v1_5x, S5x) = mF_both_L5 M fF fu51 x1 S1 := ⟨_, _, rfl⟩
  rw [lt2_e hX5] at hF
  have hrest5 : ∀ (H : Heap) (locs : List Loc) (ls : Array Slot), lv_has ls 3 [(0, .ref (ad 0)), (1, .int v1_5x)] → mGs D cI ad zA H0 H locs M S5x → W zp zl ze ({ frames := nF + 4, cells := 0, slots := 0, locals := lF + 92 } : Room) zs zm zg zb zt zc H locs 0 0 zQ (F0 zm 57 ls []) := by
    intro H locs ls hl G
    refine lv_iload_n hx hb dX9_both_57 rfl (lv_at hl 1 rfl) ?_
    exact hret _ _ _ _ _ _ hF G dX9_both_58
  have hloop5 : ∀ (f : Nat) (v1_5 : Int32) (S5 : sS), (pI E u d S5 ∧ 50 - vn (S5 8) < f) → (v1_5x, S5x) = mF_both_L5 M fF f v1_5 S5 → ∀ (H : Heap) (locs : List Loc) (ls : Array Slot), lv_has ls 3 [(0, .ref (ad 0)), (1, .int v1_5)] → mGs D cI ad zA H0 H locs M S5 → W zp zl ze ({ frames := nF + 4, cells := 0, slots := 0, locals := lF + 92 } : Room) zs zm zg zb zt zc H locs 0 0 zQ (F0 zm 5 ls []) := by
    intro f
    induction f with
    | zero =>
      intro v1_5 S5 hI hL5 H locs ls hl G
      exact absurd hI.2 (Nat.not_lt_zero _)
    | succ f ih =>
      intro v1_5 S5 hI hL5 H locs ls hl G
      rw [mF_both_L5_s] at hL5
      have hJ := hI.2
      have hI := hI.1
      refine lv_aload_n hx hb dX9_both_5 rfl (lv_at hl 0 rfl) ?_
      refine ps_get C G hin 14 (by decide) rfl (show Cond.fieldLink RX9 116 "WheatCountsModel" "good" "Z" ∈ _ by decide +kernel) rfl dX9_both_6 ?_
      refine lv_if_eq (tgt := 57) hx hb dX9_both_9 (by decide) (fun c9 => ?_) (fun c9 => ?_)
      · rw [if_pos c9] at hL5
        cases hL5
        exact hrest5 _ _ _ (lv_sub hl [0, 1] rfl) G
      · rw [if_neg c9] at hL5
        refine lv_aload_n hx hb dX9_both_12 rfl (lv_at hl 0 rfl) ?_
        refine lv_aload_n hx hb dX9_both_13 rfl (lv_at hl 0 rfl) ?_
        refine ps_get C G hin 8 (by decide) rfl (show Cond.fieldLink RX9 120 "WheatCountsModel" "at" "I" ∈ _ by decide +kernel) rfl dX9_both_14 ?_
        refine ps_calli C hA G (k_byteAt zl D cI ad M S5 (vn (S5 8)) hI (vn8_lt hI)) (cwV 1 C.2.2.2.2.1 gX9_both_X9_byteAt rfl rfl rfl (by decide +kernel) (by refine ⟨?_, ?_⟩ <;> dsimp only <;> omega)) rfl hl.1 (cons_int (pI_8 hI).1 rfl) (Nat.le_of_ble_eq_true rfl) dX9_both_17 ⟨Nat.le_refl _, Nat.le_refl _⟩ (fun H locs G => ?_)
        refine lv_bipush (v := 38) hx hb dX9_both_20 (by decide) ?_
        refine lv_icmp_ne (tgt := 57) hx hb dX9_both_22 (by decide) (fun c22 => ?_) (fun c22 => ?_)
        · rw [if_neg c22] at hL5
          cases hL5
          exact hrest5 _ _ _ (lv_sub hl [0, 1] rfl) G
        · rw [if_pos c22] at hL5
          have hlt := byteAt_lt hI (by rw [c22]; decide)
          refine lv_aload_n hx hb dX9_both_25 rfl (lv_at hl 0 rfl) ?_
          refine lv_dup hx hb dX9_both_26 rfl ?_
          refine ps_get C G hin 8 (by decide) rfl (show Cond.fieldLink RX9 120 "WheatCountsModel" "at" "I" ∈ _ by decide +kernel) rfl dX9_both_27 ?_
          refine lv_iconst (v := 1) hx hb dX9_both_30 (by decide) ?_
          refine lv_iadd hx hb dX9_both_31 ?_
          refine ps_put C G hin 8 (by decide) rfl rfl (show Cond.fieldLink RX9 120 "WheatCountsModel" "at" "I" ∈ _ by decide +kernel) (ty := .int) (by decide +kernel) rfl rfl rfl dX9_both_32 (fun H locs G => ?_)
          obtain ⟨S32, hS32⟩ : ∃ X : sS, X = upd S5 8 ((S5 8) + 1) := ⟨_, rfl⟩
          rw [← hS32] at G
          rw [lt_e hS32] at hL5
          have hat32 := at_succ hI hS32 hlt
          have hI := pI_at hI hS32 hlt
          refine lv_aload_n hx hb dX9_both_35 rfl (lv_at hl 0 rfl) ?_
          obtain ⟨x36, S36, hx36⟩ : ∃ (X : Int32) (Y : sS), (X, Y) = mF_compared M fF S32 := ⟨_, _, rfl⟩
          refine ps_calli (r0 := x36) (S2 := S36) C hA G (by rw [hx36]; exact (k_compared zl D cI ad M fF hkF hpF S32  hI)) (cwV 0 C.2.2.2.2.1 gX9_both_X9_compared rfl rfl rfl (by decide +kernel) (by refine ⟨?_, ?_⟩ <;> dsimp only <;> omega)) rfl hl.1 rfl (Nat.le_of_ble_eq_true rfl) dX9_both_36 ⟨Nat.le_refl _, Nat.le_refl _⟩ (fun H locs G => ?_)
          rw [lt2_e hx36] at hL5
          have hIc := pI_compared (M := M) hpF hI
          rw [← hx36] at hIc
          dsimp only at hIc
          have hle36 := hIc.2
          have hI := hIc.1
          refine lv_istore_n (lv' := [(2, .int x36), (0, .ref (ad 0)), (1, .int v1_5)]) hx hb dX9_both_39 rfl hl (by decide) rfl (fun ls hl => ?_)
          refine lv_iload_n hx hb dX9_both_40 rfl (lv_at hl 2 rfl) ?_
          obtain ⟨y53, hX53⟩ : ∃ (y53 : Int32), y53 = ((if v1_5 = 0 then 0 else (if x36 = 0 then 0 else 1)) : Int32) := ⟨_, rfl⟩
          rw [lt_e hX53] at hL5
          have hj53 : ∀ (H : Heap) (locs : List Loc) (ls : Array Slot), lv_has ls 3 [(0, .ref (ad 0)), (1, .int v1_5), (2, .int x36)] → mGs D cI ad zA H0 H locs M S36 → W zp zl ze ({ frames := nF + 4, cells := 0, slots := 0, locals := lF + 92 } : Room) zs zm zg zb zt zc H locs 0 0 zQ (F0 zm 53 ls [.int y53]) := by
            intro H locs ls hl G
            refine lv_istore_n (lv' := [(1, .int y53), (0, .ref (ad 0)), (2, .int x36)]) hx hb dX9_both_53 rfl hl (by decide) rfl (fun ls hl => ?_)
            refine lv_goto (tgt := 5) hx hb dX9_both_54 (by decide) ?_
            exact ih y53 S36 ⟨hI, by omega⟩ hL5 _ _ _ (lv_sub hl [1, 0] rfl) G
          refine lv_if_eq (tgt := 52) hx hb dX9_both_41 (by decide) (fun c41 => ?_) (fun c41 => ?_)
          · rw [if_pos c41] at hX53
            refine lv_iconst (v := 0) hx hb dX9_both_52 (by decide) ?_
            subst hX53
            exact hj53 _ _ _ (lv_sub hl [1, 2, 0] rfl) G
          · rw [if_neg c41] at hX53
            refine lv_iload_n hx hb dX9_both_44 rfl (lv_at hl 0 rfl) ?_
            refine lv_if_eq (tgt := 52) hx hb dX9_both_45 (by decide) (fun c45 => ?_) (fun c45 => ?_)
            · rw [if_pos c45] at hX53
              refine lv_iconst (v := 0) hx hb dX9_both_52 (by decide) ?_
              subst hX53
              exact hj53 _ _ _ (lv_sub hl [1, 2, 0] rfl) G
            · rw [if_neg c45] at hX53
              refine lv_iconst (v := 1) hx hb dX9_both_48 (by decide) ?_
              refine lv_goto (tgt := 53) hx hb dX9_both_49 (by decide) ?_
              subst hX53
              exact hj53 _ _ _ (lv_sub hl [1, 2, 0] rfl) G
  exact hloop5 _ _ _ ⟨hI, by show _ < 51; omega⟩ hX5 _ _ _ (lv_sub hl [1, 0] rfl) G
set_option maxRecDepth 100000 in
set_option maxHeartbeats 4000000 in
theorem k_whole (zl : Launch) (D : va_G) (cI : ClassId) (ad : Nat → Nat) (M : mS) {E : Nat} {u : Nat} {d : Nat} {lF nF : Nat} (fF : sS → Int32 × sS) (hkF : ∀ S, pI E u d S → mPc zl D cI ad yX9_factor wsX9_factor ({ frames := nF, cells := 0, slots := 0, locals := lF } : Room) [] M S (fF S)) (hpF : ∀ S, pI E u d S → pI E u d (fF S).2 ∧ vn (S 8) ≤ vn ((fF S).2 8)) (S : sS) (hI : pI E u d S) : mPc zl D cI ad yX9_whole wsX9_whole ({ frames := nF + 5, cells := 0, slots := 0, locals := lF + 114 } : Room) [] M S (mF_whole M fF S) := by
  have hin : ∀ w ∈ wsX90, w ∈ wsX9_whole := fun w h => List.mem_cons_of_mem _ (List.mem_append_right _ h)
  refine mPc_of (cc := cX9_whole) (nL := 3) (by decide) rfl rfl (Nat.le_of_ble_eq_true rfl) ?_
  intro zp ze zs zm zg zb zt zc zA H0 zQ C hA hret H locs ls hl G
  have hx := C.1
  have hb := C.2.1
  have hl : lv_has ls 3 [(0, .ref (ad 0))] := hl
  obtain ⟨rM, hF⟩ : ∃ X : Int32 × sS, X = mF_whole M fF S := ⟨_, rfl⟩
  rw [← hF] at hret
  unfold mF_whole at hF
  have hE := hI.2.1.2
  refine lv_aload_n hx hb dX9_whole_0 rfl (lv_at hl 0 rfl) ?_
  obtain ⟨x1, S1, hx1⟩ : ∃ (X : Int32) (Y : sS), (X, Y) = mF_both M fF S := ⟨_, _, rfl⟩
  refine ps_calli (r0 := x1) (S2 := S1) C hA G (by rw [hx1]; exact (k_both zl D cI ad M fF hkF hpF S  hI)) (cwV 0 C.2.2.2.2.1 gX9_whole_X9_both rfl rfl rfl (by decide +kernel) (by refine ⟨?_, ?_⟩ <;> dsimp only <;> omega)) rfl hl.1 rfl (Nat.le_of_ble_eq_true rfl) dX9_whole_1 ⟨Nat.le_refl _, Nat.le_refl _⟩ (fun H locs G => ?_)
  rw [lt2_e hx1] at hF
  have hIc := pI_both (M := M) hpF hI
  rw [← hx1] at hIc
  dsimp only at hIc
  have hle1 := hIc.2
  have hI := hIc.1
  refine lv_istore_n (lv' := [(1, .int x1), (0, .ref (ad 0))]) hx hb dX9_whole_4 rfl hl (by decide) rfl (fun ls hl => ?_)
  obtain ⟨v1_5x, S5x, hX5⟩ : ∃ (v1_5x : Int32) (S5x : sS), (v1_5x, S5x) = mF_whole_L5 M fF fu51 x1 S1 := ⟨_, _, rfl⟩
  rw [lt2_e hX5] at hF
  have hrest5 : ∀ (H : Heap) (locs : List Loc) (ls : Array Slot), lv_has ls 3 [(0, .ref (ad 0)), (1, .int v1_5x)] → mGs D cI ad zA H0 H locs M S5x → W zp zl ze ({ frames := nF + 5, cells := 0, slots := 0, locals := lF + 114 } : Room) zs zm zg zb zt zc H locs 0 0 zQ (F0 zm 57 ls []) := by
    intro H locs ls hl G
    refine lv_iload_n hx hb dX9_whole_57 rfl (lv_at hl 1 rfl) ?_
    exact hret _ _ _ _ _ _ hF G dX9_whole_58
  have hloop5 : ∀ (f : Nat) (v1_5 : Int32) (S5 : sS), (pI E u d S5 ∧ 50 - vn (S5 8) < f) → (v1_5x, S5x) = mF_whole_L5 M fF f v1_5 S5 → ∀ (H : Heap) (locs : List Loc) (ls : Array Slot), lv_has ls 3 [(0, .ref (ad 0)), (1, .int v1_5)] → mGs D cI ad zA H0 H locs M S5 → W zp zl ze ({ frames := nF + 5, cells := 0, slots := 0, locals := lF + 114 } : Room) zs zm zg zb zt zc H locs 0 0 zQ (F0 zm 5 ls []) := by
    intro f
    induction f with
    | zero =>
      intro v1_5 S5 hI hL5 H locs ls hl G
      exact absurd hI.2 (Nat.not_lt_zero _)
    | succ f ih =>
      intro v1_5 S5 hI hL5 H locs ls hl G
      rw [mF_whole_L5_s] at hL5
      have hJ := hI.2
      have hI := hI.1
      refine lv_aload_n hx hb dX9_whole_5 rfl (lv_at hl 0 rfl) ?_
      refine ps_get C G hin 14 (by decide) rfl (show Cond.fieldLink RX9 116 "WheatCountsModel" "good" "Z" ∈ _ by decide +kernel) rfl dX9_whole_6 ?_
      refine lv_if_eq (tgt := 57) hx hb dX9_whole_9 (by decide) (fun c9 => ?_) (fun c9 => ?_)
      · rw [if_pos c9] at hL5
        cases hL5
        exact hrest5 _ _ _ (lv_sub hl [0, 1] rfl) G
      · rw [if_neg c9] at hL5
        refine lv_aload_n hx hb dX9_whole_12 rfl (lv_at hl 0 rfl) ?_
        refine lv_aload_n hx hb dX9_whole_13 rfl (lv_at hl 0 rfl) ?_
        refine ps_get C G hin 8 (by decide) rfl (show Cond.fieldLink RX9 120 "WheatCountsModel" "at" "I" ∈ _ by decide +kernel) rfl dX9_whole_14 ?_
        refine ps_calli C hA G (k_byteAt zl D cI ad M S5 (vn (S5 8)) hI (vn8_lt hI)) (cwV 1 C.2.2.2.2.1 gX9_whole_X9_byteAt rfl rfl rfl (by decide +kernel) (by refine ⟨?_, ?_⟩ <;> dsimp only <;> omega)) rfl hl.1 (cons_int (pI_8 hI).1 rfl) (Nat.le_of_ble_eq_true rfl) dX9_whole_17 ⟨Nat.le_refl _, Nat.le_refl _⟩ (fun H locs G => ?_)
        refine lv_bipush (v := 124) hx hb dX9_whole_20 (by decide) ?_
        refine lv_icmp_ne (tgt := 57) hx hb dX9_whole_22 (by decide) (fun c22 => ?_) (fun c22 => ?_)
        · rw [if_neg c22] at hL5
          cases hL5
          exact hrest5 _ _ _ (lv_sub hl [0, 1] rfl) G
        · rw [if_pos c22] at hL5
          have hlt := byteAt_lt hI (by rw [c22]; decide)
          refine lv_aload_n hx hb dX9_whole_25 rfl (lv_at hl 0 rfl) ?_
          refine lv_dup hx hb dX9_whole_26 rfl ?_
          refine ps_get C G hin 8 (by decide) rfl (show Cond.fieldLink RX9 120 "WheatCountsModel" "at" "I" ∈ _ by decide +kernel) rfl dX9_whole_27 ?_
          refine lv_iconst (v := 1) hx hb dX9_whole_30 (by decide) ?_
          refine lv_iadd hx hb dX9_whole_31 ?_
          refine ps_put C G hin 8 (by decide) rfl rfl (show Cond.fieldLink RX9 120 "WheatCountsModel" "at" "I" ∈ _ by decide +kernel) (ty := .int) (by decide +kernel) rfl rfl rfl dX9_whole_32 (fun H locs G => ?_)
          obtain ⟨S32, hS32⟩ : ∃ X : sS, X = upd S5 8 ((S5 8) + 1) := ⟨_, rfl⟩
          rw [← hS32] at G
          rw [lt_e hS32] at hL5
          have hat32 := at_succ hI hS32 hlt
          have hI := pI_at hI hS32 hlt
          refine lv_aload_n hx hb dX9_whole_35 rfl (lv_at hl 0 rfl) ?_
          obtain ⟨x36, S36, hx36⟩ : ∃ (X : Int32) (Y : sS), (X, Y) = mF_both M fF S32 := ⟨_, _, rfl⟩
          refine ps_calli (r0 := x36) (S2 := S36) C hA G (by rw [hx36]; exact (k_both zl D cI ad M fF hkF hpF S32  hI)) (cwV 0 C.2.2.2.2.1 gX9_whole_X9_both rfl rfl rfl (by decide +kernel) (by refine ⟨?_, ?_⟩ <;> dsimp only <;> omega)) rfl hl.1 rfl (Nat.le_of_ble_eq_true rfl) dX9_whole_36 ⟨Nat.le_refl _, Nat.le_refl _⟩ (fun H locs G => ?_)
          rw [lt2_e hx36] at hL5
          have hIc := pI_both (M := M) hpF hI
          rw [← hx36] at hIc
          dsimp only at hIc
          have hle36 := hIc.2
          have hI := hIc.1
          refine lv_istore_n (lv' := [(2, .int x36), (0, .ref (ad 0)), (1, .int v1_5)]) hx hb dX9_whole_39 rfl hl (by decide) rfl (fun ls hl => ?_)
          refine lv_iload_n hx hb dX9_whole_40 rfl (lv_at hl 2 rfl) ?_
          obtain ⟨y53, hX53⟩ : ∃ (y53 : Int32), y53 = ((if v1_5 = 0 then (if x36 = 0 then 0 else 1) else 1) : Int32) := ⟨_, rfl⟩
          rw [lt_e hX53] at hL5
          have hj53 : ∀ (H : Heap) (locs : List Loc) (ls : Array Slot), lv_has ls 3 [(0, .ref (ad 0)), (1, .int v1_5), (2, .int x36)] → mGs D cI ad zA H0 H locs M S36 → W zp zl ze ({ frames := nF + 5, cells := 0, slots := 0, locals := lF + 114 } : Room) zs zm zg zb zt zc H locs 0 0 zQ (F0 zm 53 ls [.int y53]) := by
            intro H locs ls hl G
            refine lv_istore_n (lv' := [(1, .int y53), (0, .ref (ad 0)), (2, .int x36)]) hx hb dX9_whole_53 rfl hl (by decide) rfl (fun ls hl => ?_)
            refine lv_goto (tgt := 5) hx hb dX9_whole_54 (by decide) ?_
            exact ih y53 S36 ⟨hI, by omega⟩ hL5 _ _ _ (lv_sub hl [1, 0] rfl) G
          refine lv_if_ne (tgt := 48) hx hb dX9_whole_41 (by decide) (fun c41 => ?_) (fun c41 => ?_)
          · rw [if_neg c41] at hX53
            refine lv_iconst (v := 1) hx hb dX9_whole_48 (by decide) ?_
            refine lv_goto (tgt := 53) hx hb dX9_whole_49 (by decide) ?_
            subst hX53
            exact hj53 _ _ _ (lv_sub hl [1, 2, 0] rfl) G
          · rw [if_pos c41] at hX53
            refine lv_iload_n hx hb dX9_whole_44 rfl (lv_at hl 0 rfl) ?_
            refine lv_if_eq (tgt := 52) hx hb dX9_whole_45 (by decide) (fun c45 => ?_) (fun c45 => ?_)
            · rw [if_pos c45] at hX53
              refine lv_iconst (v := 0) hx hb dX9_whole_52 (by decide) ?_
              subst hX53
              exact hj53 _ _ _ (lv_sub hl [1, 2, 0] rfl) G
            · rw [if_neg c45] at hX53
              refine lv_iconst (v := 1) hx hb dX9_whole_48 (by decide) ?_
              refine lv_goto (tgt := 53) hx hb dX9_whole_49 (by decide) ?_
              subst hX53
              exact hj53 _ _ _ (lv_sub hl [1, 2, 0] rfl) G
  exact hloop5 _ _ _ ⟨hI, by show _ < 51; omega⟩ hX5 _ _ _ (lv_sub hl [1, 0] rfl) G

