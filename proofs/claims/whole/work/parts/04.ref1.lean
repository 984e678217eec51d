set_option maxRecDepth 100000 in
set_option maxHeartbeats 4000000 in
theorem ks_in (zl : Launch) (v : Int32) (lo : Int32) (hi : Int32) : sM zl yX9_in wsX9_in ({ frames := 0, cells := 0, slots := 0, locals := 0 } : Room) [.int v, .int lo, .int hi] (sF_in v lo hi) := by
  refine sM_of (own := RX9) (cc := cX9_in) (nL := 3) (Or.inr ⟨rfl, sF_in_01 ..⟩) (by decide) rfl rfl (Nat.le_of_ble_eq_true rfl) ?_
  intro zp ze zs zm zg zb zt zc zA H0 zQ C hA hret H locs ls hl G
  have hx := C.1
  have hb := C.2.1
  have hl : lv_has ls 3 [(0, .int v), (1, .int lo), (2, .int hi)] := hl
  obtain ⟨rM, hF⟩ : ∃ X : Int32, X = sF_in v lo hi := ⟨_, rfl⟩
  rw [← hF] at hret
  unfold sF_in at hF
  refine lv_iload_n hx hb dX9_in_0 rfl (lv_at hl 0 rfl) ?_
  refine lv_iload_n hx hb dX9_in_1 rfl (lv_at hl 1 rfl) ?_
  refine lv_icmp_lt (tgt := 14) hx hb dX9_in_2 (by decide) (fun c2 => ?_) (fun c2 => ?_)
  · rw [if_pos c2] at hF
    refine lv_iconst (v := 0) hx hb dX9_in_14 (by decide) ?_
    exact hret _ _ _ _ _ hF G dX9_in_15
  · rw [if_neg c2] at hF
    refine lv_iload_n hx hb dX9_in_5 rfl (lv_at hl 0 rfl) ?_
    refine lv_iload_n hx hb dX9_in_6 rfl (lv_at hl 2 rfl) ?_
    refine lv_icmp_gt (tgt := 14) hx hb dX9_in_7 (by decide) (fun c7 => ?_) (fun c7 => ?_)
    · rw [if_pos c7] at hF
      refine lv_iconst (v := 0) hx hb dX9_in_14 (by decide) ?_
      exact hret _ _ _ _ _ hF G dX9_in_15
    · rw [if_neg c7] at hF
      refine lv_iconst (v := 1) hx hb dX9_in_10 (by decide) ?_
      refine lv_goto (tgt := 15) hx hb dX9_in_11 (by decide) ?_
      exact hret _ _ _ _ _ hF G dX9_in_15
set_option maxRecDepth 100000 in
set_option maxHeartbeats 4000000 in
theorem ks_held (zl : Launch) (v : Int32) (lo : Int32) (hi : Int32) : sM zl yX9_held wsX9_held ({ frames := 0, cells := 0, slots := 0, locals := 0 } : Room) [.int v, .int lo, .int hi] (sF_held v lo hi) := by
  refine sM_of (own := RX9) (cc := cX9_held) (nL := 3) (Or.inl rfl) (by decide) rfl rfl (Nat.le_of_ble_eq_true rfl) ?_
  intro zp ze zs zm zg zb zt zc zA H0 zQ C hA hret H locs ls hl G
  have hx := C.1
  have hb := C.2.1
  have hl : lv_has ls 3 [(0, .int v), (1, .int lo), (2, .int hi)] := hl
  obtain ⟨rM, hF⟩ : ∃ X : Int32, X = sF_held v lo hi := ⟨_, rfl⟩
  rw [← hF] at hret
  unfold sF_held at hF
  refine lv_iload_n hx hb dX9_held_0 rfl (lv_at hl 0 rfl) ?_
  refine lv_iload_n hx hb dX9_held_1 rfl (lv_at hl 1 rfl) ?_
  refine lv_icmp_ge (tgt := 9) hx hb dX9_held_2 (by decide) (fun c2 => ?_) (fun c2 => ?_)
  · rw [if_pos c2] at hF
    refine lv_iload_n hx hb dX9_held_9 rfl (lv_at hl 0 rfl) ?_
    refine lv_iload_n hx hb dX9_held_10 rfl (lv_at hl 2 rfl) ?_
    refine lv_icmp_le (tgt := 18) hx hb dX9_held_11 (by decide) (fun c11 => ?_) (fun c11 => ?_)
    · rw [if_pos c11] at hF
      refine lv_iload_n hx hb dX9_held_18 rfl (lv_at hl 0 rfl) ?_
      exact hret _ _ _ _ _ hF G dX9_held_19
    · rw [if_neg c11] at hF
      refine lv_iload_n hx hb dX9_held_14 rfl (lv_at hl 2 rfl) ?_
      refine lv_goto (tgt := 19) hx hb dX9_held_15 (by decide) ?_
      exact hret _ _ _ _ _ hF G dX9_held_19
  · rw [if_neg c2] at hF
    refine lv_iload_n hx hb dX9_held_5 rfl (lv_at hl 1 rfl) ?_
    refine lv_goto (tgt := 19) hx hb dX9_held_6 (by decide) ?_
    exact hret _ _ _ _ _ hF G dX9_held_19
set_option maxRecDepth 100000 in
set_option maxHeartbeats 4000000 in
theorem ks_has (zl : Launch) (set : Int32) (k : Int32) : sM zl yX9_has wsX9_has ({ frames := 0, cells := 0, slots := 0, locals := 0 } : Room) [.int set, .int k] (sF_has set k) := by
  refine sM_of (own := RX9) (cc := cX9_has) (nL := 2) (Or.inr ⟨rfl, sF_has_01 ..⟩) (by decide) rfl rfl (Nat.le_of_ble_eq_true rfl) ?_
  intro zp ze zs zm zg zb zt zc zA H0 zQ C hA hret H locs ls hl G
  have hx := C.1
  have hb := C.2.1
  have hl : lv_has ls 2 [(0, .int set), (1, .int k)] := hl
  obtain ⟨rM, hF⟩ : ∃ X : Int32, X = sF_has set k := ⟨_, rfl⟩
  rw [← hF] at hret
  unfold sF_has at hF
  refine lv_iload_n hx hb dX9_has_0 rfl (lv_at hl 0 rfl) ?_
  refine lv_iload_n hx hb dX9_has_1 rfl (lv_at hl 1 rfl) ?_
  refine lv_ishr hx hb dX9_has_2 ?_
  refine lv_iconst (v := 1) hx hb dX9_has_3 (by decide) ?_
  refine lv_iand hx hb dX9_has_4 ?_
  refine lv_iconst (v := 1) hx hb dX9_has_5 (by decide) ?_
  refine lv_icmp_ne (tgt := 13) hx hb dX9_has_6 (by decide) (fun c6 => ?_) (fun c6 => ?_)
  · rw [if_neg c6] at hF
    refine lv_iconst (v := 0) hx hb dX9_has_13 (by decide) ?_
    exact hret _ _ _ _ _ hF G dX9_has_14
  · rw [if_pos c6] at hF
    refine lv_iconst (v := 1) hx hb dX9_has_9 (by decide) ?_
    refine lv_goto (tgt := 14) hx hb dX9_has_10 (by decide) ?_
    exact hret _ _ _ _ _ hF G dX9_has_14
set_option maxRecDepth 100000 in
set_option maxHeartbeats 4000000 in
theorem ks_isDigit (zl : Launch) (c : Int32) : sM zl yX9_isDigit wsX9_isDigit ({ frames := 1, cells := 0, slots := 0, locals := 22 } : Room) [.int c] (sF_isDigit c) := by
  refine sM_of (own := RX9) (cc := cX9_isDigit) (nL := 1) (Or.inr ⟨rfl, sF_isDigit_01 ..⟩) (by decide) rfl rfl (Nat.le_of_ble_eq_true rfl) ?_
  intro zp ze zs zm zg zb zt zc zA H0 zQ C hA hret H locs ls hl G
  have hx := C.1
  have hb := C.2.1
  have hl : lv_has ls 1 [(0, .int c)] := hl
  obtain ⟨rM, hF⟩ : ∃ X : Int32, X = sF_isDigit c := ⟨_, rfl⟩
  rw [← hF] at hret
  unfold sF_isDigit at hF
  refine lv_iload_n hx hb dX9_isDigit_0 rfl (lv_at hl 0 rfl) ?_
  refine lv_bipush (v := 48) hx hb dX9_isDigit_1 (by decide) ?_
  refine lv_bipush (v := 57) hx hb dX9_isDigit_3 (by decide) ?_
  refine sr_calls C hA G (ks_in zl c 48 57) (va_cwS 3 C.2.2.2.2 gX9_isDigit_X9_in rfl rfl rfl (by decide +kernel) ⟨Nat.le_of_ble_eq_true rfl, Nat.le_of_ble_eq_true rfl⟩) rfl hl.1 rfl (Nat.le_of_ble_eq_true rfl) dX9_isDigit_5 ⟨Nat.le_refl _, Nat.le_refl _⟩ (fun H locs G => ?_)
  exact hret _ _ _ _ _ hF G dX9_isDigit_8
set_option maxRecDepth 100000 in
set_option maxHeartbeats 4000000 in
theorem ks_isSheet (zl : Launch) (c : Int32) : sM zl yX9_isSheet wsX9_isSheet ({ frames := 1, cells := 0, slots := 0, locals := 22 } : Room) [.int c] (sF_isSheet c) := by
  refine sM_of (own := RX9) (cc := cX9_isSheet) (nL := 1) (Or.inr ⟨rfl, sF_isSheet_01 ..⟩) (by decide) rfl rfl (Nat.le_of_ble_eq_true rfl) ?_
  intro zp ze zs zm zg zb zt zc zA H0 zQ C hA hret H locs ls hl G
  have hx := C.1
  have hb := C.2.1
  have hl : lv_has ls 1 [(0, .int c)] := hl
  obtain ⟨rM, hF⟩ : ∃ X : Int32, X = sF_isSheet c := ⟨_, rfl⟩
  rw [← hF] at hret
  unfold sF_isSheet at hF
  refine lv_iload_n hx hb dX9_isSheet_0 rfl (lv_at hl 0 rfl) ?_
  refine lv_iconst (v := 0) hx hb dX9_isSheet_1 (by decide) ?_
  refine lv_iconst (v := 3) hx hb dX9_isSheet_2 (by decide) ?_
  refine sr_calls C hA G (ks_in zl c 0 3) (va_cwS 3 C.2.2.2.2 gX9_isSheet_X9_in rfl rfl rfl (by decide +kernel) ⟨Nat.le_of_ble_eq_true rfl, Nat.le_of_ble_eq_true rfl⟩) rfl hl.1 rfl (Nat.le_of_ble_eq_true rfl) dX9_isSheet_3 ⟨Nat.le_refl _, Nat.le_refl _⟩ (fun H locs G => ?_)
  exact hret _ _ _ _ _ hF G dX9_isSheet_6
set_option maxRecDepth 100000 in
set_option maxHeartbeats 4000000 in
theorem ks_above (zl : Launch) (kind : Int32) : sM zl yX9_above wsX9_above ({ frames := 0, cells := 0, slots := 0, locals := 0 } : Room) [.int kind] (sF_above kind) := by
  refine sM_of (own := RX9) (cc := cX9_above) (nL := 1) (Or.inl rfl) (by decide) rfl rfl (Nat.le_of_ble_eq_true rfl) ?_
  intro zp ze zs zm zg zb zt zc zA H0 zQ C hA hret H locs ls hl G
  have hx := C.1
  have hb := C.2.1
  have hl : lv_has ls 1 [(0, .int kind)] := hl
  obtain ⟨rM, hF⟩ : ∃ X : Int32, X = sF_above kind := ⟨_, rfl⟩
  rw [← hF] at hret
  unfold sF_above at hF
  refine lv_iload_n hx hb dX9_above_0 rfl (lv_at hl 0 rfl) ?_
  refine lv_if_ne (tgt := 8) hx hb dX9_above_1 (by decide) (fun c1 => ?_) (fun c1 => ?_)
  · rw [if_neg c1] at hF
    refine lv_iload_n hx hb dX9_above_8 rfl (lv_at hl 0 rfl) ?_
    refine lv_iconst (v := 3) hx hb dX9_above_9 (by decide) ?_
    refine lv_icmp_le (tgt := 19) hx hb dX9_above_10 (by decide) (fun c10 => ?_) (fun c10 => ?_)
    · rw [if_pos c10] at hF
      refine lv_iconst (v := 0) hx hb dX9_above_19 (by decide) ?_
      exact hret _ _ _ _ _ hF G dX9_above_20
    · rw [if_neg c10] at hF
      refine lv_iload_n hx hb dX9_above_13 rfl (lv_at hl 0 rfl) ?_
      refine lv_iconst (v := 3) hx hb dX9_above_14 (by decide) ?_
      refine lv_isub hx hb dX9_above_15 ?_
      refine lv_goto (tgt := 20) hx hb dX9_above_16 (by decide) ?_
      exact hret _ _ _ _ _ hF G dX9_above_20
  · rw [if_pos c1] at hF
    refine lv_iconst (v := -1) hx hb dX9_above_4 (by decide) ?_
    refine lv_goto (tgt := 20) hx hb dX9_above_5 (by decide) ?_
    exact hret _ _ _ _ _ hF G dX9_above_20
set_option maxRecDepth 100000 in
set_option maxHeartbeats 4000000 in
theorem ks_narrow (zl : Launch) (b : Int32) (v : Int32) : sM zl yX9_narrow wsX9_narrow ({ frames := 0, cells := 0, slots := 0, locals := 0 } : Room) [.int b, .int v] (sF_narrow b v) := by
  refine sM_of (own := RX9) (cc := cX9_narrow) (nL := 2) (Or.inl rfl) (by decide) rfl rfl (Nat.le_of_ble_eq_true rfl) ?_
  intro zp ze zs zm zg zb zt zc zA H0 zQ C hA hret H locs ls hl G
  have hx := C.1
  have hb := C.2.1
  have hl : lv_has ls 2 [(0, .int b), (1, .int v)] := hl
  obtain ⟨rM, hF⟩ : ∃ X : Int32, X = sF_narrow b v := ⟨_, rfl⟩
  rw [← hF] at hret
  unfold sF_narrow at hF
  refine lv_iload_n hx hb dX9_narrow_0 rfl (lv_at hl 0 rfl) ?_
  refine lv_bipush (v := 8) hx hb dX9_narrow_1 (by decide) ?_
  refine lv_icmp_ne (tgt := 11) hx hb dX9_narrow_3 (by decide) (fun c3 => ?_) (fun c3 => ?_)
  · rw [if_neg c3] at hF
    refine lv_iload_n hx hb dX9_narrow_11 rfl (lv_at hl 0 rfl) ?_
    refine lv_bipush (v := 16) hx hb dX9_narrow_12 (by decide) ?_
    refine lv_icmp_ne (tgt := 22) hx hb dX9_narrow_14 (by decide) (fun c14 => ?_) (fun c14 => ?_)
    · rw [if_neg c14] at hF
      refine lv_iload_n hx hb dX9_narrow_22 rfl (lv_at hl 1 rfl) ?_
      exact hret _ _ _ _ _ hF G dX9_narrow_23
    · rw [if_pos c14] at hF
      refine lv_iload_n hx hb dX9_narrow_17 rfl (lv_at hl 1 rfl) ?_
      refine lv_i2s (v := v.toInt16.toInt32) hx hb dX9_narrow_18 rfl ?_
      refine lv_goto (tgt := 23) hx hb dX9_narrow_19 (by decide) ?_
      exact hret _ _ _ _ _ hF G dX9_narrow_23
  · rw [if_pos c3] at hF
    refine lv_iload_n hx hb dX9_narrow_6 rfl (lv_at hl 1 rfl) ?_
    refine lv_i2b (v := v.toInt8.toInt32) hx hb dX9_narrow_7 rfl ?_
    refine lv_goto (tgt := 23) hx hb dX9_narrow_8 (by decide) ?_
    exact hret _ _ _ _ _ hF G dX9_narrow_23
set_option maxRecDepth 100000 in
set_option maxHeartbeats 4000000 in
theorem ks_bits (zl : Launch) (set : Int32) : sM zl yX9_bits wsX9_bits ({ frames := 0, cells := 0, slots := 0, locals := 0 } : Room) [.int set] (sF_bits set) := by
  refine sM_of (own := RX9) (cc := cX9_bits) (nL := 3) (Or.inl rfl) (by decide) rfl rfl (Nat.le_of_ble_eq_true rfl) ?_
  intro zp ze zs zm zg zb zt zc zA H0 zQ C hA hret H locs ls hl G
  have hx := C.1
  have hb := C.2.1
  have hl : lv_has ls 3 [(0, .int set)] := hl
  obtain ⟨rM, hF⟩ : ∃ X : Int32, X = sF_bits set := ⟨_, rfl⟩
  rw [← hF] at hret
  unfold sF_bits at hF
  refine lv_iconst (v := 0) hx hb dX9_bits_0 (by decide) ?_
  refine lv_istore_n (lv' := [(1, .int 0), (0, .int set)]) hx hb dX9_bits_1 rfl hl (by decide) rfl (fun ls hl => ?_)
  refine lv_iload_n hx hb dX9_bits_2 rfl (lv_at hl 1 rfl) ?_
  refine lv_istore_n (lv' := [(2, .int set), (1, .int 0), (0, .int set)]) hx hb dX9_bits_3 rfl hl (by decide) rfl (fun ls hl => ?_)
  obtain ⟨v2_4x, v1_4x, hX4⟩ : ∃ (v2_4x : Int32) (v1_4x : Int32), (v2_4x, v1_4x) = sF_bits_L4 (set.toUInt32.toNat + 1) set 0 := ⟨_, _, rfl⟩
  rw [lt2_e hX4] at hF
  have hrest4 : ∀ (H : Heap) (locs : List Loc) (ls : Array Slot), lv_has ls 3 [(0, .int set), (1, .int v1_4x), (2, .int v2_4x)] → va_S zA H0 H locs → W zp zl ze ({ frames := 0, cells := 0, slots := 0, locals := 0 } : Room) zs zm zg zb zt zc H locs 0 0 zQ (F0 zm 20 ls []) := by
    intro H locs ls hl G
    refine lv_iload_n hx hb dX9_bits_20 rfl (lv_at hl 1 rfl) ?_
    exact hret _ _ _ _ _ hF G dX9_bits_21
  have hloop4 : ∀ (f : Nat) (v2_4 : Int32) (v1_4 : Int32), (v2_4.toUInt32.toNat < f) → (v2_4x, v1_4x) = sF_bits_L4 f v2_4 v1_4 → ∀ (H : Heap) (locs : List Loc) (ls : Array Slot), lv_has ls 3 [(0, .int set), (1, .int v1_4), (2, .int v2_4)] → va_S zA H0 H locs → W zp zl ze ({ frames := 0, cells := 0, slots := 0, locals := 0 } : Room) zs zm zg zb zt zc H locs 0 0 zQ (F0 zm 4 ls []) := by
    intro f
    induction f with
    | zero =>
      intro v2_4 v1_4 hI hL4 H locs ls hl G
      exact absurd hI (Nat.not_lt_zero _)
    | succ f ih =>
      intro v2_4 v1_4 hI hL4 H locs ls hl G
      rw [sF_bits_L4_s] at hL4
      refine lv_iload_n hx hb dX9_bits_4 rfl (lv_at hl 2 rfl) ?_
      refine lv_if_eq (tgt := 20) hx hb dX9_bits_5 (by decide) (fun c5 => ?_) (fun c5 => ?_)
      · rw [if_pos c5] at hL4
        cases hL4
        exact hrest4 _ _ _ (lv_sub hl [0, 1, 2] rfl) G
      · rw [if_neg c5] at hL4
        refine lv_iinc (v := (v1_4 + 1)) (lv' := [(1, .int (v1_4 + 1)), (0, .int set), (2, .int v2_4)]) hx hb dX9_bits_8 hl (k := 1) rfl rfl (by decide) rfl (fun ls hl => ?_)
        refine lv_iload_n hx hb dX9_bits_11 rfl (lv_at hl 2 rfl) ?_
        refine lv_iload_n hx hb dX9_bits_12 rfl (lv_at hl 2 rfl) ?_
        refine lv_iconst (v := 1) hx hb dX9_bits_13 (by decide) ?_
        refine lv_isub hx hb dX9_bits_14 ?_
        refine lv_iand hx hb dX9_bits_15 ?_
        refine lv_topi (fun x16 hx16 => ?_)
        rw [lt_e hx16] at hL4
        refine lv_istore_n (lv' := [(2, .int x16), (1, .int (v1_4 + 1)), (0, .int set)]) hx hb dX9_bits_16 rfl hl (by decide) rfl (fun ls hl => ?_)
        refine lv_goto (tgt := 4) hx hb dX9_bits_17 (by decide) ?_
        exact ih x16 (v1_4 + 1) (by rw [hx16]; exact Nat.lt_of_lt_of_le (bits_dec c5) (Nat.le_of_lt_succ hI)) hL4 _ _ _ (lv_sub hl [2, 1, 0] rfl) G
  exact hloop4 _ _ _ (Nat.lt_succ_self _) hX4 _ _ _ (lv_sub hl [2, 1, 0] rfl) G
set_option maxRecDepth 100000 in
set_option maxHeartbeats 4000000 in
theorem ks_divisor (zl : Launch) (u : Nat) (w : Nat) (hu : u < 2 ^ 31) (hw : w < 2 ^ 31) : sM zl yX9_divisor wsX9_divisor ({ frames := 0, cells := 0, slots := 0, locals := 0 } : Room) [.int (nI u), .int (nI w)] (sF_divisor u w) := by
  refine sM_of (own := RX9) (cc := cX9_divisor) (nL := 5) (Or.inl rfl) (by decide) rfl rfl (Nat.le_of_ble_eq_true rfl) ?_
  intro zp ze zs zm zg zb zt zc zA H0 zQ C hA hret H locs ls hl G
  have hx := C.1
  have hb := C.2.1
  have hl : lv_has ls 5 [(0, .int (nI u)), (1, .int (nI w))] := hl
  obtain ⟨rM, hF⟩ : ∃ X : Int32, X = sF_divisor u w := ⟨_, rfl⟩
  rw [← hF] at hret
  unfold sF_divisor at hF
  refine lv_iload_n hx hb dX9_divisor_0 rfl (lv_at hl 0 rfl) ?_
  refine lv_istore_n (lv' := [(2, .int (nI u)), (0, .int (nI u)), (1, .int (nI w))]) hx hb dX9_divisor_1 rfl hl (by decide) rfl (fun ls hl => ?_)
  refine lv_iload_n hx hb dX9_divisor_2 rfl (lv_at hl 2 rfl) ?_
  refine lv_istore_n (lv' := [(3, .int (nI w)), (2, .int (nI u)), (0, .int (nI u)), (1, .int (nI w))]) hx hb dX9_divisor_3 rfl hl (by decide) rfl (fun ls hl => ?_)
  obtain ⟨xx, yx, hX4⟩ : ∃ (xx : Nat) (yx : Nat), (xx, yx) = sF_divisor_L4 (w + 1) u w := ⟨_, _, rfl⟩
  rw [lt2_e hX4] at hF
  have hrest4 : ∀ (H : Heap) (locs : List Loc) (ls : Array Slot), lv_has ls 5 [(0, .int (nI u)), (1, .int (nI w)), (2, .int (nI xx)), (3, .int (nI yx))] → va_S zA H0 H locs → W zp zl ze ({ frames := 0, cells := 0, slots := 0, locals := 0 } : Room) zs zm zg zb zt zc H locs 0 0 zQ (F0 zm 21 ls []) := by
    intro H locs ls hl G
    refine lv_iload_n hx hb dX9_divisor_21 rfl (lv_at hl 2 rfl) ?_
    exact hret _ _ _ _ _ hF G dX9_divisor_22
  have hloop4 : ∀ (f : Nat) (x : Nat) (y : Nat), (y < f ∧ x < 2 ^ 31 ∧ y < 2 ^ 31) → (xx, yx) = sF_divisor_L4 f x y → ∀ (H : Heap) (locs : List Loc) (ls : Array Slot), lv_has ls 5 [(0, .int (nI u)), (1, .int (nI w)), (2, .int (nI x)), (3, .int (nI y))] → va_S zA H0 H locs → W zp zl ze ({ frames := 0, cells := 0, slots := 0, locals := 0 } : Room) zs zm zg zb zt zc H locs 0 0 zQ (F0 zm 4 ls []) := by
    intro f
    induction f with
    | zero =>
      intro x y hI hL4 H locs ls hl G
      exact absurd hI.1 (Nat.not_lt_zero _)
    | succ f ih =>
      intro x y hI hL4 H locs ls hl G
      rw [sF_divisor_L4_s] at hL4
      refine lv_iload_n hx hb dX9_divisor_4 rfl (lv_at hl 3 rfl) ?_
      refine lv_if_eq (tgt := 21) hx hb dX9_divisor_5 (by decide) (fun c5 => ?_) (fun c5 => ?_)
      · rw [if_pos c5] at hL4
        cases hL4
        exact hrest4 _ _ _ (lv_sub hl [0, 1, 2, 3] rfl) G
      · rw [if_neg c5] at hL4
        have hy : 0 < y := Nat.pos_of_ne_zero (fun e9 => c5 (by rw [e9]; rfl))
        refine lv_iload_n hx hb dX9_divisor_8 rfl (lv_at hl 2 rfl) ?_
        refine lv_iload_n hx hb dX9_divisor_9 rfl (lv_at hl 3 rfl) ?_
        refine lv_irem hx hb dX9_divisor_10 c5 ?_
        refine lv_topi (fun x11 hx11 => ?_)
        obtain rfl : x11 = nI (x % y) := hx11.trans (pk_rem hI.2.1 hy hI.2.2)
        refine lv_istore (lv' := [(4, .int (nI (x % y))), (0, .int (nI u)), (1, .int (nI w)), (2, .int (nI x)), (3, .int (nI y))]) hx hb dX9_divisor_11 hl (by decide) rfl (fun ls hl => ?_)
        refine lv_iload_n hx hb dX9_divisor_13 rfl (lv_at hl 4 rfl) ?_
        refine lv_istore_n (lv' := [(2, .int (nI y)), (4, .int (nI (x % y))), (0, .int (nI u)), (1, .int (nI w)), (3, .int (nI y))]) hx hb dX9_divisor_14 rfl hl (by decide) rfl (fun ls hl => ?_)
        refine lv_iload hx hb dX9_divisor_15 (lv_at hl 1 rfl) ?_
        refine lv_istore_n (lv' := [(3, .int (nI (x % y))), (2, .int (nI y)), (4, .int (nI (x % y))), (0, .int (nI u)), (1, .int (nI w))]) hx hb dX9_divisor_17 rfl hl (by decide) rfl (fun ls hl => ?_)
        refine lv_goto (tgt := 4) hx hb dX9_divisor_18 (by decide) ?_
        exact ih y (x % y) ⟨Nat.lt_of_lt_of_le (Nat.mod_lt _ hy) (Nat.le_of_lt_succ hI.1), hI.2.2, Nat.lt_trans (Nat.mod_lt _ hy) hI.2.2⟩ hL4 _ _ _ (lv_sub hl [3, 4, 1, 0] rfl) G
  exact hloop4 _ _ _ ⟨Nat.lt_succ_self _, hu, hw⟩ hX4 _ _ _ (lv_sub hl [2, 3, 1, 0] rfl) G
set_option maxRecDepth 100000 in
set_option maxHeartbeats 4000000 in
theorem k_its (zl : Launch) (D : va_G) (cI : ClassId) (ad : Nat → Nat) (M : mS) (p : Nat) (w : Nat) (h : 32 + 4 * p + w < 234) : mM zl D cI ad yX9_its wsX9_its ({ frames := 0, cells := 0, slots := 0, locals := 0 } : Room) [.int (nI p), .int (nI w)] M ((mF_its M p w, M)) := by
  have hin : ∀ w ∈ wsX90, w ∈ wsX9_its := fun w h => List.mem_cons_of_mem _ (List.mem_append_right _ h)
  refine mM_of (cc := cX9_its) (nL := 3) (by decide) rfl rfl (Nat.le_of_ble_eq_true rfl) ?_
  intro zp ze zs zm zg zb zt zc zA H0 zQ C hA hret H locs ls hl G
  have hx := C.1
  have hb := C.2.1
  have hl : lv_has ls 3 [(0, .ref (ad 0)), (1, .int (nI p)), (2, .int (nI w))] := hl
  obtain ⟨rM, hF⟩ : ∃ X : Int32, X = mF_its M p w := ⟨_, rfl⟩
  rw [← hF] at hret
  unfold mF_its at hF
  refine lv_aload_n hx hb dX9_its_0 rfl (lv_at hl 0 rfl) ?_
  refine mr_get C G hin 0 (by decide) rfl (show Cond.fieldLink RX9 7 "WheatCountsModel" "row" "[I" ∈ _ by decide +kernel) (fun _ => rfl) dX9_its_1 ?_
  refine lv_bipush (v := 32) hx hb dX9_its_4 (by decide) ?_
  refine lv_iconst (v := 4) hx hb dX9_its_6 (by decide) ?_
  refine lv_iload_n hx hb dX9_its_7 rfl (lv_at hl 1 rfl) ?_
  refine lv_imul hx hb dX9_its_8 ?_
  refine lv_iadd hx hb dX9_its_9 ?_
  refine lv_iload_n hx hb dX9_its_10 rfl (lv_at hl 2 rfl) ?_
  refine lv_iadd hx hb dX9_its_11 ?_
  refine mr_ald C G 1 (fun _ => rfl) ((32 + (4 * p)) + w) (nt_add (nt_add rfl (nt_mul rfl rfl)) rfl) (by omega) (Nat.le_of_ble_eq_true rfl) dX9_its_12 ?_
  exact hret _ _ _ _ _ _ (by rw [hF]) G dX9_its_13
set_option maxRecDepth 100000 in
set_option maxHeartbeats 4000000 in
theorem k_gets (zl : Launch) (D : va_G) (cI : ClassId) (ad : Nat → Nat) (M : mS) (p : Nat) (w : Nat) (v : Int32) (h : 32 + 4 * p + w < 234) : mMv zl D cI ad yX9_gets wsX9_gets ({ frames := 0, cells := 0, slots := 0, locals := 0 } : Room) [.int (nI p), .int (nI w), .int v] M (mF_gets M p w v) := by
  have hin : ∀ w ∈ wsX90, w ∈ wsX9_gets := fun w h => List.mem_cons_of_mem _ (List.mem_append_right _ h)
  refine mMv_of (cc := cX9_gets) (nL := 4) (by decide) rfl rfl (Nat.le_of_ble_eq_true rfl) ?_
  intro zp ze zs zm zg zb zt zc zA H0 zQ C hA hret H locs ls hl G
  have hx := C.1
  have hb := C.2.1
  have hl : lv_has ls 4 [(0, .ref (ad 0)), (1, .int (nI p)), (2, .int (nI w)), (3, .int v)] := hl
  obtain ⟨rM, hF⟩ : ∃ X : mS, X = mF_gets M p w v := ⟨_, rfl⟩
  rw [← hF] at hret
  unfold mF_gets at hF
  refine lv_aload_n hx hb dX9_gets_0 rfl (lv_at hl 0 rfl) ?_
  refine mr_get C G hin 0 (by decide) rfl (show Cond.fieldLink RX9 7 "WheatCountsModel" "row" "[I" ∈ _ by decide +kernel) (fun _ => rfl) dX9_gets_1 ?_
  refine lv_bipush (v := 32) hx hb dX9_gets_4 (by decide) ?_
  refine lv_iconst (v := 4) hx hb dX9_gets_6 (by decide) ?_
  refine lv_iload_n hx hb dX9_gets_7 rfl (lv_at hl 1 rfl) ?_
  refine lv_imul hx hb dX9_gets_8 ?_
  refine lv_iadd hx hb dX9_gets_9 ?_
  refine lv_iload_n hx hb dX9_gets_10 rfl (lv_at hl 2 rfl) ?_
  refine lv_iadd hx hb dX9_gets_11 ?_
  refine lv_iload_n hx hb dX9_gets_12 rfl (lv_at hl 3 rfl) ?_
  refine mr_ast C G 1 (fun _ => rfl) ((32 + (4 * p)) + w) (nt_add (nt_add rfl (nt_mul rfl rfl)) rfl) (by omega) (Nat.le_of_ble_eq_true rfl) (fun _ => rfl) dX9_gets_13 (fun H locs G => ?_)
  obtain ⟨M13, hM13⟩ : ∃ X : mS, X = mU M 1 ((32 + (4 * p)) + w) v := ⟨_, rfl⟩
  rw [← hM13] at G
  rw [lt_e hM13] at hF
  exact hret _ _ _ _ _ hF G dX9_gets_14
set_option maxRecDepth 100000 in
set_option maxHeartbeats 4000000 in
theorem k_becomes (zl : Launch) (D : va_G) (cI : ClassId) (ad : Nat → Nat) (M : mS) (at_ : Nat) (v : Int32) (h : at_ < 234) : mM zl D cI ad yX9_becomes wsX9_becomes ({ frames := 0, cells := 0, slots := 0, locals := 0 } : Room) [.int (nI at_), .int v] M (mF_becomes M at_ v) := by
  have hin : ∀ w ∈ wsX90, w ∈ wsX9_becomes := fun w h => List.mem_cons_of_mem _ (List.mem_append_right _ h)
  refine mM_of (cc := cX9_becomes) (nL := 4) (by decide) rfl rfl (Nat.le_of_ble_eq_true rfl) ?_
  intro zp ze zs zm zg zb zt zc zA H0 zQ C hA hret H locs ls hl G
  have hx := C.1
  have hb := C.2.1
  have hl : lv_has ls 4 [(0, .ref (ad 0)), (1, .int (nI at_)), (2, .int v)] := hl
  obtain ⟨rM, hF⟩ : ∃ X : Int32 × mS, X = mF_becomes M at_ v := ⟨_, rfl⟩
  rw [← hF] at hret
  unfold mF_becomes at hF
  refine lv_aload_n hx hb dX9_becomes_0 rfl (lv_at hl 0 rfl) ?_
  refine mr_get C G hin 0 (by decide) rfl (show Cond.fieldLink RX9 7 "WheatCountsModel" "row" "[I" ∈ _ by decide +kernel) (fun _ => rfl) dX9_becomes_1 ?_
  refine lv_iload_n hx hb dX9_becomes_4 rfl (lv_at hl 1 rfl) ?_
  refine mr_ald C G 1 (fun _ => rfl) at_ rfl (by omega) (Nat.le_of_ble_eq_true rfl) dX9_becomes_5 ?_
  refine lv_topi (fun x6 hx6 => ?_)
  rw [lt_e hx6] at hF
  refine lv_istore_n (lv' := [(3, .int x6), (0, .ref (ad 0)), (1, .int (nI at_)), (2, .int v)]) hx hb dX9_becomes_6 rfl hl (by decide) rfl (fun ls hl => ?_)
  refine lv_aload_n hx hb dX9_becomes_7 rfl (lv_at hl 1 rfl) ?_
  refine mr_get C G hin 0 (by decide) rfl (show Cond.fieldLink RX9 7 "WheatCountsModel" "row" "[I" ∈ _ by decide +kernel) (fun _ => rfl) dX9_becomes_8 ?_
  refine lv_iload_n hx hb dX9_becomes_11 rfl (lv_at hl 2 rfl) ?_
  refine lv_iload_n hx hb dX9_becomes_12 rfl (lv_at hl 3 rfl) ?_
  refine mr_ast C G 1 (fun _ => rfl) at_ rfl (by omega) (Nat.le_of_ble_eq_true rfl) (fun _ => rfl) dX9_becomes_13 (fun H locs G => ?_)
  obtain ⟨M13, hM13⟩ : ∃ X : mS, X = mU M 1 at_ v := ⟨_, rfl⟩
  rw [← hM13] at G
  rw [lt_e hM13] at hF
  refine lv_iload_n hx hb dX9_becomes_14 rfl (lv_at hl 0 rfl) ?_
  exact hret _ _ _ _ _ _ hF G dX9_becomes_15
set_option maxRecDepth 100000 in
set_option maxHeartbeats 4000000 in
theorem k_errs (zl : Launch) (D : va_G) (cI : ClassId) (ad : Nat → Nat) (M : mS) (e : Int32) (h : vp_in (-1000000000 - e) 6) : mM zl D cI ad yX9_errs wsX9_errs ({ frames := 0, cells := 0, slots := 0, locals := 0 } : Room) [.int e] M (mF_errs M e) := by
  have hin : ∀ w ∈ wsX90, w ∈ wsX9_errs := fun w h => List.mem_cons_of_mem _ (List.mem_append_right _ h)
  refine mM_of (cc := cX9_errs) (nL := 2) (by decide) rfl rfl (Nat.le_of_ble_eq_true rfl) ?_
  intro zp ze zs zm zg zb zt zc zA H0 zQ C hA hret H locs ls hl G
  have hx := C.1
  have hb := C.2.1
  have hl : lv_has ls 2 [(0, .ref (ad 0)), (1, .int e)] := hl
  obtain ⟨rM, hF⟩ : ∃ X : Int32 × mS, X = mF_errs M e := ⟨_, rfl⟩
  rw [← hF] at hret
  unfold mF_errs at hF
  refine lv_aload_n hx hb dX9_errs_0 rfl (lv_at hl 0 rfl) ?_
  refine mr_get C G hin 6 (by decide) rfl (show Cond.fieldLink RX9 22 "WheatCountsModel" "found" "[I" ∈ _ by decide +kernel) (fun _ => rfl) dX9_errs_1 ?_
  refine lv_ldc (v := -1000000000) hx hb C.2.2.2.1 (C.2.2.2.2.1 (.constant RX9 53 (-1000000000)) (by decide +kernel)) dX9_errs_4 ?_
  refine lv_iload_n hx hb dX9_errs_6 rfl (lv_at hl 1 rfl) ?_
  refine lv_isub hx hb dX9_errs_7 ?_
  refine lv_dup2_11 hx hb dX9_errs_8 rfl rfl ?_
  refine mr_ald C G 5 (fun _ => rfl) (vn (-1000000000 - e)) (vi_eq h (by decide)) (vi_lt h (by decide)) (Nat.le_of_ble_eq_true rfl) dX9_errs_9 ?_
  refine lv_iconst (v := 1) hx hb dX9_errs_10 (by decide) ?_
  refine lv_iadd hx hb dX9_errs_11 ?_
  refine mr_ast C G 5 (fun _ => rfl) (vn (-1000000000 - e)) (vi_eq h (by decide)) (vi_lt h (by decide)) (Nat.le_of_ble_eq_true rfl) (fun _ => rfl) dX9_errs_12 (fun H locs G => ?_)
  obtain ⟨M12, hM12⟩ : ∃ X : mS, X = mU M 5 (vn (-1000000000 - e)) ((M 5 (vn (-1000000000 - e))) + 1) := ⟨_, rfl⟩
  rw [← hM12] at G
  rw [lt_e hM12] at hF
  refine lv_iload_n hx hb dX9_errs_13 rfl (lv_at hl 1 rfl) ?_
  exact hret _ _ _ _ _ _ hF G dX9_errs_14
set_option maxRecDepth 100000 in
set_option maxHeartbeats 4000000 in
theorem k_isCell (zl : Launch) (D : va_G) (cI : ClassId) (ad : Nat → Nat) (M : mS) (c : Int32) : mM zl D cI ad yX9_isCell wsX9_isCell ({ frames := 1, cells := 0, slots := 0, locals := 22 } : Room) [.int c] M ((mF_isCell M c, M)) := by
  have hin : ∀ w ∈ wsX90, w ∈ wsX9_isCell := fun w h => List.mem_cons_of_mem _ (List.mem_append_right _ h)
  refine mM_ofZ (cc := cX9_isCell) (nL := 2) (by decide) rfl rfl (Nat.le_of_ble_eq_true rfl) ?_
  intro zp ze zs zm zg zb zt zc zA H0 zQ C hA hret H locs ls hl G
  have hx := C.1
  have hb := C.2.1
  have hl : lv_has ls 2 [(0, .ref (ad 0)), (1, .int c)] := hl
  obtain ⟨rM, hF⟩ : ∃ X : Int32, X = mF_isCell M c := ⟨_, rfl⟩
  rw [← hF] at hret
  unfold mF_isCell at hF
  refine lv_iload_n hx hb dX9_isCell_0 rfl (lv_at hl 1 rfl) ?_
  refine lv_iconst (v := 0) hx hb dX9_isCell_1 (by decide) ?_
  refine lv_aload_n hx hb dX9_isCell_2 rfl (lv_at hl 0 rfl) ?_
  refine mr_get C G hin 0 (by decide) rfl (show Cond.fieldLink RX9 7 "WheatCountsModel" "row" "[I" ∈ _ by decide +kernel) (fun _ => rfl) dX9_isCell_3 ?_
  refine lv_iconst (v := 3) hx hb dX9_isCell_6 (by decide) ?_
  refine mr_ald C G 1 (fun _ => rfl) 3 rfl (by omega) (Nat.le_of_ble_eq_true rfl) dX9_isCell_7 ?_
  refine lv_iconst (v := 1) hx hb dX9_isCell_8 (by decide) ?_
  refine lv_isub hx hb dX9_isCell_9 ?_
  refine mr_calls C hA G (ks_in zl c 0 ((M 1 3) - 1)) (va_cwS 3 C.2.2.2.2.1 gX9_isCell_X9_in rfl rfl rfl (by decide +kernel) ⟨Nat.le_of_ble_eq_true rfl, Nat.le_of_ble_eq_true rfl⟩) rfl hl.1 rfl (Nat.le_of_ble_eq_true rfl) dX9_isCell_10 ⟨Nat.le_refl _, Nat.le_refl _⟩ (fun H locs G => ?_)
  exact hret _ _ _ _ _ _ (by rw [hF]) G (sF_in_01 ..) dX9_isCell_13
set_option maxRecDepth 100000 in
set_option maxHeartbeats 4000000 in
theorem k_isPerson (zl : Launch) (D : va_G) (cI : ClassId) (ad : Nat → Nat) (M : mS) (c : Int32) : mM zl D cI ad yX9_isPerson wsX9_isPerson ({ frames := 1, cells := 0, slots := 0, locals := 22 } : Room) [.int c] M ((mF_isPerson M c, M)) := by
  have hin : ∀ w ∈ wsX90, w ∈ wsX9_isPerson := fun w h => List.mem_cons_of_mem _ (List.mem_append_right _ h)
  refine mM_ofZ (cc := cX9_isPerson) (nL := 2) (by decide) rfl rfl (Nat.le_of_ble_eq_true rfl) ?_
  intro zp ze zs zm zg zb zt zc zA H0 zQ C hA hret H locs ls hl G
  have hx := C.1
  have hb := C.2.1
  have hl : lv_has ls 2 [(0, .ref (ad 0)), (1, .int c)] := hl
  obtain ⟨rM, hF⟩ : ∃ X : Int32, X = mF_isPerson M c := ⟨_, rfl⟩
  rw [← hF] at hret
  unfold mF_isPerson at hF
  refine lv_iload_n hx hb dX9_isPerson_0 rfl (lv_at hl 1 rfl) ?_
  refine lv_iconst (v := 0) hx hb dX9_isPerson_1 (by decide) ?_
  refine lv_aload_n hx hb dX9_isPerson_2 rfl (lv_at hl 0 rfl) ?_
  refine mr_get C G hin 0 (by decide) rfl (show Cond.fieldLink RX9 7 "WheatCountsModel" "row" "[I" ∈ _ by decide +kernel) (fun _ => rfl) dX9_isPerson_3 ?_
  refine lv_bipush (v := 8) hx hb dX9_isPerson_6 (by decide) ?_
  refine mr_ald C G 1 (fun _ => rfl) 8 rfl (by omega) (Nat.le_of_ble_eq_true rfl) dX9_isPerson_8 ?_
  refine lv_iconst (v := 1) hx hb dX9_isPerson_9 (by decide) ?_
  refine lv_isub hx hb dX9_isPerson_10 ?_
  refine mr_calls C hA G (ks_in zl c 0 ((M 1 8) - 1)) (va_cwS 3 C.2.2.2.2.1 gX9_isPerson_X9_in rfl rfl rfl (by decide +kernel) ⟨Nat.le_of_ble_eq_true rfl, Nat.le_of_ble_eq_true rfl⟩) rfl hl.1 rfl (Nat.le_of_ble_eq_true rfl) dX9_isPerson_11 ⟨Nat.le_refl _, Nat.le_refl _⟩ (fun H locs G => ?_)
  exact hret _ _ _ _ _ _ (by rw [hF]) G (sF_in_01 ..) dX9_isPerson_14
set_option maxRecDepth 100000 in
set_option maxHeartbeats 4000000 in
theorem k_moveAll_1_2 (zl : Launch) (D : va_G) (cI : ClassId) (ad : Nat → Nat) (M : mS) : mMv zl D cI ad yX9_moveAll wsX9_moveAll ({ frames := 0, cells := 0, slots := 0, locals := 0 } : Room) [.ref (ad 1), .ref (ad 2)] M (mF_moveAll_1_2 M) := by
  refine mMv_of (cc := cX9_moveAll) (nL := 4) (by decide) rfl rfl (Nat.le_of_ble_eq_true rfl) ?_
  intro zp ze zs zm zg zb zt zc zA H0 zQ C hA hret H locs ls hl G
  have hx := C.1
  have hb := C.2.1
  have hl : lv_has ls 4 [(0, .ref (ad 0)), (1, .ref (ad 1)), (2, .ref (ad 2))] := hl
  obtain ⟨rM, hF⟩ : ∃ X : mS, X = mF_moveAll_1_2 M := ⟨_, rfl⟩
  rw [← hF] at hret
  unfold mF_moveAll_1_2 at hF
  refine lv_iconst (v := 0) hx hb dX9_moveAll_0 (by decide) ?_
  refine lv_istore_n (lv' := [(3, .int 0), (0, .ref (ad 0)), (1, .ref (ad 1)), (2, .ref (ad 2))]) hx hb dX9_moveAll_1 rfl hl (by decide) rfl (fun ls hl => ?_)
  obtain ⟨M2x, hX2⟩ : ∃ (M2x : mS), M2x = mF_moveAll_1_2_L2 M 234 := ⟨_, rfl⟩
  rw [lt_e hX2] at hF
  have hrest2 : ∀ (H : Heap) (locs : List Loc) (ls : Array Slot), lv_has ls 4 [(0, .ref (ad 0)), (1, .ref (ad 1)), (2, .ref (ad 2)), (3, .int (nI 234))] → mG D cI ad zA H0 H locs M2x → W zp zl ze ({ frames := 0, cells := 0, slots := 0, locals := 0 } : Room) zs zm zg zb zt zc H locs 0 0 zQ (F0 zm 21 ls []) := by
    intro H locs ls hl G
    exact hret _ _ _ _ _ hF G dX9_moveAll_21
  have hloop2 : ∀ (j k2 : Nat), j + k2 = 234 → ∀ (M2 : mS), M2 = mF_moveAll_1_2_L2 M k2 → ∀ (H : Heap) (locs : List Loc) (ls : Array Slot), lv_has ls 4 [(0, .ref (ad 0)), (1, .ref (ad 1)), (2, .ref (ad 2)), (3, .int (nI k2))] → mG D cI ad zA H0 H locs M2 → W zp zl ze ({ frames := 0, cells := 0, slots := 0, locals := 0 } : Room) zs zm zg zb zt zc H locs 0 0 zQ (F0 zm 2 ls []) := by
    intro j
    induction j with
    | zero =>
      intro k2 hk M2 hL H locs ls hl G
      have hk : k2 = 234 := by omega
      rw [hk] at hL hl
      refine lv_iload_n hx hb dX9_moveAll_2 rfl (lv_at hl 3 rfl) ?_
      refine lv_sipush (v := 234) hx hb dX9_moveAll_3 (by decide) ?_
      refine lv_icmp_ge (tgt := 21) hx hb dX9_moveAll_6 (by decide) (fun c6 => ?_) (fun c6 => absurd (lp_out (n := 234) rfl) c6)
      obtain rfl := hL.trans hX2.symm
      exact hrest2 _ _ _ (lv_sub hl [0, 1, 2, 3] rfl) G
    | succ j ih =>
      intro k2 hk M2 hL H locs ls hl G
      have hkn : k2 < 234 := by omega
      obtain ⟨M2s, hS0⟩ : ∃ (M2s : mS), M2s = mF_moveAll_1_2_L2 M (k2 + 1) := ⟨_, rfl⟩
      have hS := hS0
      rw [mF_moveAll_1_2_L2_s, lt_e hL] at hS
      refine lv_iload_n hx hb dX9_moveAll_2 rfl (lv_at hl 3 rfl) ?_
      refine lv_sipush (v := 234) hx hb dX9_moveAll_3 (by decide) ?_
      refine lv_icmp_ge (tgt := 21) hx hb dX9_moveAll_6 (by decide) (fun c6 => absurd c6 (lp_in (n := 234) rfl hkn (by omega))) (fun c6 => ?_)
      refine lv_aload_n hx hb dX9_moveAll_9 rfl (lv_at hl 2 rfl) ?_
      refine lv_iload_n hx hb dX9_moveAll_10 rfl (lv_at hl 3 rfl) ?_
      refine lv_aload_n hx hb dX9_moveAll_11 rfl (lv_at hl 1 rfl) ?_
      refine lv_iload_n hx hb dX9_moveAll_12 rfl (lv_at hl 3 rfl) ?_
      refine mr_ald C G 1 (fun _ => rfl) k2 rfl (by omega) (Nat.le_of_ble_eq_true rfl) dX9_moveAll_13 ?_
      refine mr_ast C G 2 (fun _ => rfl) k2 rfl (by omega) (Nat.le_of_ble_eq_true rfl) (fun _ => rfl) dX9_moveAll_14 (fun H locs G => ?_)
      obtain ⟨M14, hM14⟩ : ∃ X : mS, X = mU M2 2 k2 (M2 1 k2) := ⟨_, rfl⟩
      rw [← hM14] at G
      rw [lt_e hM14] at hS
      refine lv_iinc (v := nI (k2 + 1)) (lv' := [(3, .int (nI (k2 + 1))), (0, .ref (ad 0)), (1, .ref (ad 1)), (2, .ref (ad 2))]) hx hb dX9_moveAll_15 hl (k := 3) rfl (nt_add rfl (show (1 : Int32) = nI 1 from rfl)) (by decide) rfl (fun ls hl => ?_)
      refine lv_goto (tgt := 2) hx hb dX9_moveAll_18 (by decide) ?_
      subst hS
      exact ih (k2 + 1) (by omega) _ hS0 _ _ _ (lv_sub hl [1, 2, 3, 0] rfl) G
  exact hloop2 _ 0 (Nat.add_zero _) _ rfl _ _ _ (lv_sub hl [1, 2, 3, 0] rfl) G
set_option maxRecDepth 100000 in
set_option maxHeartbeats 4000000 in
theorem k_moveAll_2_1 (zl : Launch) (D : va_G) (cI : ClassId) (ad : Nat → Nat) (M : mS) : mMv zl D cI ad yX9_moveAll wsX9_moveAll ({ frames := 0, cells := 0, slots := 0, locals := 0 } : Room) [.ref (ad 2), .ref (ad 1)] M (mF_moveAll_2_1 M) := by
  refine mMv_of (cc := cX9_moveAll) (nL := 4) (by decide) rfl rfl (Nat.le_of_ble_eq_true rfl) ?_
  intro zp ze zs zm zg zb zt zc zA H0 zQ C hA hret H locs ls hl G
  have hx := C.1
  have hb := C.2.1
  have hl : lv_has ls 4 [(0, .ref (ad 0)), (1, .ref (ad 2)), (2, .ref (ad 1))] := hl
  obtain ⟨rM, hF⟩ : ∃ X : mS, X = mF_moveAll_2_1 M := ⟨_, rfl⟩
  rw [← hF] at hret
  unfold mF_moveAll_2_1 at hF
  refine lv_iconst (v := 0) hx hb dX9_moveAll_0 (by decide) ?_
  refine lv_istore_n (lv' := [(3, .int 0), (0, .ref (ad 0)), (1, .ref (ad 2)), (2, .ref (ad 1))]) hx hb dX9_moveAll_1 rfl hl (by decide) rfl (fun ls hl => ?_)
  obtain ⟨M2x, hX2⟩ : ∃ (M2x : mS), M2x = mF_moveAll_2_1_L2 M 234 := ⟨_, rfl⟩
  rw [lt_e hX2] at hF
  have hrest2 : ∀ (H : Heap) (locs : List Loc) (ls : Array Slot), lv_has ls 4 [(0, .ref (ad 0)), (1, .ref (ad 2)), (2, .ref (ad 1)), (3, .int (nI 234))] → mG D cI ad zA H0 H locs M2x → W zp zl ze ({ frames := 0, cells := 0, slots := 0, locals := 0 } : Room) zs zm zg zb zt zc H locs 0 0 zQ (F0 zm 21 ls []) := by
    intro H locs ls hl G
    exact hret _ _ _ _ _ hF G dX9_moveAll_21
  have hloop2 : ∀ (j k2 : Nat), j + k2 = 234 → ∀ (M2 : mS), M2 = mF_moveAll_2_1_L2 M k2 → ∀ (H : Heap) (locs : List Loc) (ls : Array Slot), lv_has ls 4 [(0, .ref (ad 0)), (1, .ref (ad 2)), (2, .ref (ad 1)), (3, .int (nI k2))] → mG D cI ad zA H0 H locs M2 → W zp zl ze ({ frames := 0, cells := 0, slots := 0, locals := 0 } : Room) zs zm zg zb zt zc H locs 0 0 zQ (F0 zm 2 ls []) := by
    intro j
    induction j with
    | zero =>
      intro k2 hk M2 hL H locs ls hl G
      have hk : k2 = 234 := by omega
      rw [hk] at hL hl
      refine lv_iload_n hx hb dX9_moveAll_2 rfl (lv_at hl 3 rfl) ?_
      refine lv_sipush (v := 234) hx hb dX9_moveAll_3 (by decide) ?_
      refine lv_icmp_ge (tgt := 21) hx hb dX9_moveAll_6 (by decide) (fun c6 => ?_) (fun c6 => absurd (lp_out (n := 234) rfl) c6)
      obtain rfl := hL.trans hX2.symm
      exact hrest2 _ _ _ (lv_sub hl [0, 1, 2, 3] rfl) G
    | succ j ih =>
      intro k2 hk M2 hL H locs ls hl G
      have hkn : k2 < 234 := by omega
      obtain ⟨M2s, hS0⟩ : ∃ (M2s : mS), M2s = mF_moveAll_2_1_L2 M (k2 + 1) := ⟨_, rfl⟩
      have hS := hS0
      rw [mF_moveAll_2_1_L2_s, lt_e hL] at hS
      refine lv_iload_n hx hb dX9_moveAll_2 rfl (lv_at hl 3 rfl) ?_
      refine lv_sipush (v := 234) hx hb dX9_moveAll_3 (by decide) ?_
      refine lv_icmp_ge (tgt := 21) hx hb dX9_moveAll_6 (by decide) (fun c6 => absurd c6 (lp_in (n := 234) rfl hkn (by omega))) (fun c6 => ?_)
      refine lv_aload_n hx hb dX9_moveAll_9 rfl (lv_at hl 2 rfl) ?_
      refine lv_iload_n hx hb dX9_moveAll_10 rfl (lv_at hl 3 rfl) ?_
      refine lv_aload_n hx hb dX9_moveAll_11 rfl (lv_at hl 1 rfl) ?_
      refine lv_iload_n hx hb dX9_moveAll_12 rfl (lv_at hl 3 rfl) ?_
      refine mr_ald C G 2 (fun _ => rfl) k2 rfl (by omega) (Nat.le_of_ble_eq_true rfl) dX9_moveAll_13 ?_
      refine mr_ast C G 1 (fun _ => rfl) k2 rfl (by omega) (Nat.le_of_ble_eq_true rfl) (fun _ => rfl) dX9_moveAll_14 (fun H locs G => ?_)
      obtain ⟨M14, hM14⟩ : ∃ X : mS, X = mU M2 1 k2 (M2 2 k2) := ⟨_, rfl⟩
      rw [← hM14] at G
      rw [lt_e hM14] at hS
      refine lv_iinc (v := nI (k2 + 1)) (lv' := [(3, .int (nI (k2 + 1))), (0, .ref (ad 0)), (1, .ref (ad 2)), (2, .ref (ad 1))]) hx hb dX9_moveAll_15 hl (k := 3) rfl (nt_add rfl (show (1 : Int32) = nI 1 from rfl)) (by decide) rfl (fun ls hl => ?_)
      refine lv_goto (tgt := 2) hx hb dX9_moveAll_18 (by decide) ?_
      subst hS
      exact ih (k2 + 1) (by omega) _ hS0 _ _ _ (lv_sub hl [1, 2, 3, 0] rfl) G
  exact hloop2 _ 0 (Nat.add_zero _) _ rfl _ _ _ (lv_sub hl [1, 2, 3, 0] rfl) G
set_option maxRecDepth 100000 in
set_option maxHeartbeats 4000000 in
theorem k_moveAll_1_3 (zl : Launch) (D : va_G) (cI : ClassId) (ad : Nat → Nat) (M : mS) : mMv zl D cI ad yX9_moveAll wsX9_moveAll ({ frames := 0, cells := 0, slots := 0, locals := 0 } : Room) [.ref (ad 1), .ref (ad 3)] M (mF_moveAll_1_3 M) := by
  refine mMv_of (cc := cX9_moveAll) (nL := 4) (by decide) rfl rfl (Nat.le_of_ble_eq_true rfl) ?_
  intro zp ze zs zm zg zb zt zc zA H0 zQ C hA hret H locs ls hl G
  have hx := C.1
  have hb := C.2.1
  have hl : lv_has ls 4 [(0, .ref (ad 0)), (1, .ref (ad 1)), (2, .ref (ad 3))] := hl
  obtain ⟨rM, hF⟩ : ∃ X : mS, X = mF_moveAll_1_3 M := ⟨_, rfl⟩
  rw [← hF] at hret
  unfold mF_moveAll_1_3 at hF
  refine lv_iconst (v := 0) hx hb dX9_moveAll_0 (by decide) ?_
  refine lv_istore_n (lv' := [(3, .int 0), (0, .ref (ad 0)), (1, .ref (ad 1)), (2, .ref (ad 3))]) hx hb dX9_moveAll_1 rfl hl (by decide) rfl (fun ls hl => ?_)
  obtain ⟨M2x, hX2⟩ : ∃ (M2x : mS), M2x = mF_moveAll_1_3_L2 M 234 := ⟨_, rfl⟩
  rw [lt_e hX2] at hF
  have hrest2 : ∀ (H : Heap) (locs : List Loc) (ls : Array Slot), lv_has ls 4 [(0, .ref (ad 0)), (1, .ref (ad 1)), (2, .ref (ad 3)), (3, .int (nI 234))] → mG D cI ad zA H0 H locs M2x → W zp zl ze ({ frames := 0, cells := 0, slots := 0, locals := 0 } : Room) zs zm zg zb zt zc H locs 0 0 zQ (F0 zm 21 ls []) := by
    intro H locs ls hl G
    exact hret _ _ _ _ _ hF G dX9_moveAll_21
  have hloop2 : ∀ (j k2 : Nat), j + k2 = 234 → ∀ (M2 : mS), M2 = mF_moveAll_1_3_L2 M k2 → ∀ (H : Heap) (locs : List Loc) (ls : Array Slot), lv_has ls 4 [(0, .ref (ad 0)), (1, .ref (ad 1)), (2, .ref (ad 3)), (3, .int (nI k2))] → mG D cI ad zA H0 H locs M2 → W zp zl ze ({ frames := 0, cells := 0, slots := 0, locals := 0 } : Room) zs zm zg zb zt zc H locs 0 0 zQ (F0 zm 2 ls []) := by
    intro j
    induction j with
    | zero =>
      intro k2 hk M2 hL H locs ls hl G
      have hk : k2 = 234 := by omega
      rw [hk] at hL hl
      refine lv_iload_n hx hb dX9_moveAll_2 rfl (lv_at hl 3 rfl) ?_
      refine lv_sipush (v := 234) hx hb dX9_moveAll_3 (by decide) ?_
      refine lv_icmp_ge (tgt := 21) hx hb dX9_moveAll_6 (by decide) (fun c6 => ?_) (fun c6 => absurd (lp_out (n := 234) rfl) c6)
      obtain rfl := hL.trans hX2.symm
      exact hrest2 _ _ _ (lv_sub hl [0, 1, 2, 3] rfl) G
    | succ j ih =>
      intro k2 hk M2 hL H locs ls hl G
      have hkn : k2 < 234 := by omega
      obtain ⟨M2s, hS0⟩ : ∃ (M2s : mS), M2s = mF_moveAll_1_3_L2 M (k2 + 1) := ⟨_, rfl⟩
      have hS := hS0
      rw [mF_moveAll_1_3_L2_s, lt_e hL] at hS
      refine lv_iload_n hx hb dX9_moveAll_2 rfl (lv_at hl 3 rfl) ?_
      refine lv_sipush (v := 234) hx hb dX9_moveAll_3 (by decide) ?_
      refine lv_icmp_ge (tgt := 21) hx hb dX9_moveAll_6 (by decide) (fun c6 => absurd c6 (lp_in (n := 234) rfl hkn (by omega))) (fun c6 => ?_)
      refine lv_aload_n hx hb dX9_moveAll_9 rfl (lv_at hl 2 rfl) ?_
      refine lv_iload_n hx hb dX9_moveAll_10 rfl (lv_at hl 3 rfl) ?_
      refine lv_aload_n hx hb dX9_moveAll_11 rfl (lv_at hl 1 rfl) ?_
      refine lv_iload_n hx hb dX9_moveAll_12 rfl (lv_at hl 3 rfl) ?_
      refine mr_ald C G 1 (fun _ => rfl) k2 rfl (by omega) (Nat.le_of_ble_eq_true rfl) dX9_moveAll_13 ?_
      refine mr_ast C G 3 (fun _ => rfl) k2 rfl (by omega) (Nat.le_of_ble_eq_true rfl) (fun _ => rfl) dX9_moveAll_14 (fun H locs G => ?_)
      obtain ⟨M14, hM14⟩ : ∃ X : mS, X = mU M2 3 k2 (M2 1 k2) := ⟨_, rfl⟩
      rw [← hM14] at G
      rw [lt_e hM14] at hS
      refine lv_iinc (v := nI (k2 + 1)) (lv' := [(3, .int (nI (k2 + 1))), (0, .ref (ad 0)), (1, .ref (ad 1)), (2, .ref (ad 3))]) hx hb dX9_moveAll_15 hl (k := 3) rfl (nt_add rfl (show (1 : Int32) = nI 1 from rfl)) (by decide) rfl (fun ls hl => ?_)
      refine lv_goto (tgt := 2) hx hb dX9_moveAll_18 (by decide) ?_
      subst hS
      exact ih (k2 + 1) (by omega) _ hS0 _ _ _ (lv_sub hl [1, 2, 3, 0] rfl) G
  exact hloop2 _ 0 (Nat.add_zero _) _ rfl _ _ _ (lv_sub hl [1, 2, 3, 0] rfl) G
set_option maxRecDepth 100000 in
set_option maxHeartbeats 4000000 in
theorem k_moveAll_3_1 (zl : Launch) (D : va_G) (cI : ClassId) (ad : Nat → Nat) (M : mS) : mMv zl D cI ad yX9_moveAll wsX9_moveAll ({ frames := 0, cells := 0, slots := 0, locals := 0 } : Room) [.ref (ad 3), .ref (ad 1)] M (mF_moveAll_3_1 M) := by
  refine mMv_of (cc := cX9_moveAll) (nL := 4) (by decide) rfl rfl (Nat.le_of_ble_eq_true rfl) ?_
  intro zp ze zs zm zg zb zt zc zA H0 zQ C hA hret H locs ls hl G
  have hx := C.1
  have hb := C.2.1
  have hl : lv_has ls 4 [(0, .ref (ad 0)), (1, .ref (ad 3)), (2, .ref (ad 1))] := hl
  obtain ⟨rM, hF⟩ : ∃ X : mS, X = mF_moveAll_3_1 M := ⟨_, rfl⟩
  rw [← hF] at hret
  unfold mF_moveAll_3_1 at hF
  refine lv_iconst (v := 0) hx hb dX9_moveAll_0 (by decide) ?_
  refine lv_istore_n (lv' := [(3, .int 0), (0, .ref (ad 0)), (1, .ref (ad 3)), (2, .ref (ad 1))]) hx hb dX9_moveAll_1 rfl hl (by decide) rfl (fun ls hl => ?_)
  obtain ⟨M2x, hX2⟩ : ∃ (M2x : mS), M2x = mF_moveAll_3_1_L2 M 234 := ⟨_, rfl⟩
  rw [lt_e hX2] at hF
  have hrest2 : ∀ (H : Heap) (locs : List Loc) (ls : Array Slot), lv_has ls 4 [(0, .ref (ad 0)), (1, .ref (ad 3)), (2, .ref (ad 1)), (3, .int (nI 234))] → mG D cI ad zA H0 H locs M2x → W zp zl ze ({ frames := 0, cells := 0, slots := 0, locals := 0 } : Room) zs zm zg zb zt zc H locs 0 0 zQ (F0 zm 21 ls []) := by
    intro H locs ls hl G
    exact hret _ _ _ _ _ hF G dX9_moveAll_21
  have hloop2 : ∀ (j k2 : Nat), j + k2 = 234 → ∀ (M2 : mS), M2 = mF_moveAll_3_1_L2 M k2 → ∀ (H : Heap) (locs : List Loc) (ls : Array Slot), lv_has ls 4 [(0, .ref (ad 0)), (1, .ref (ad 3)), (2, .ref (ad 1)), (3, .int (nI k2))] → mG D cI ad zA H0 H locs M2 → W zp zl ze ({ frames := 0, cells := 0, slots := 0, locals := 0 } : Room) zs zm zg zb zt zc H locs 0 0 zQ (F0 zm 2 ls []) := by
    intro j
    induction j with
    | zero =>
      intro k2 hk M2 hL H locs ls hl G
      have hk : k2 = 234 := by omega
      rw [hk] at hL hl
      refine lv_iload_n hx hb dX9_moveAll_2 rfl (lv_at hl 3 rfl) ?_
      refine lv_sipush (v := 234) hx hb dX9_moveAll_3 (by decide) ?_
      refine lv_icmp_ge (tgt := 21) hx hb dX9_moveAll_6 (by decide) (fun c6 => ?_) (fun c6 => absurd (lp_out (n := 234) rfl) c6)
      obtain rfl := hL.trans hX2.symm
      exact hrest2 _ _ _ (lv_sub hl [0, 1, 2, 3] rfl) G
    | succ j ih =>
      intro k2 hk M2 hL H locs ls hl G
      have hkn : k2 < 234 := by omega
      obtain ⟨M2s, hS0⟩ : ∃ (M2s : mS), M2s = mF_moveAll_3_1_L2 M (k2 + 1) := ⟨_, rfl⟩
      have hS := hS0
      rw [mF_moveAll_3_1_L2_s, lt_e hL] at hS
      refine lv_iload_n hx hb dX9_moveAll_2 rfl (lv_at hl 3 rfl) ?_
      refine lv_sipush (v := 234) hx hb dX9_moveAll_3 (by decide) ?_
      refine lv_icmp_ge (tgt := 21) hx hb dX9_moveAll_6 (by decide) (fun c6 => absurd c6 (lp_in (n := 234) rfl hkn (by omega))) (fun c6 => ?_)
      refine lv_aload_n hx hb dX9_moveAll_9 rfl (lv_at hl 2 rfl) ?_
      refine lv_iload_n hx hb dX9_moveAll_10 rfl (lv_at hl 3 rfl) ?_
      refine lv_aload_n hx hb dX9_moveAll_11 rfl (lv_at hl 1 rfl) ?_
      refine lv_iload_n hx hb dX9_moveAll_12 rfl (lv_at hl 3 rfl) ?_
      refine mr_ald C G 3 (fun _ => rfl) k2 rfl (by omega) (Nat.le_of_ble_eq_true rfl) dX9_moveAll_13 ?_
      refine mr_ast C G 1 (fun _ => rfl) k2 rfl (by omega) (Nat.le_of_ble_eq_true rfl) (fun _ => rfl) dX9_moveAll_14 (fun H locs G => ?_)
      obtain ⟨M14, hM14⟩ : ∃ X : mS, X = mU M2 1 k2 (M2 3 k2) := ⟨_, rfl⟩
      rw [← hM14] at G
      rw [lt_e hM14] at hS
      refine lv_iinc (v := nI (k2 + 1)) (lv' := [(3, .int (nI (k2 + 1))), (0, .ref (ad 0)), (1, .ref (ad 3)), (2, .ref (ad 1))]) hx hb dX9_moveAll_15 hl (k := 3) rfl (nt_add rfl (show (1 : Int32) = nI 1 from rfl)) (by decide) rfl (fun ls hl => ?_)
      refine lv_goto (tgt := 2) hx hb dX9_moveAll_18 (by decide) ?_
      subst hS
      exact ih (k2 + 1) (by omega) _ hS0 _ _ _ (lv_sub hl [1, 2, 3, 0] rfl) G
  exact hloop2 _ 0 (Nat.add_zero _) _ rfl _ _ _ (lv_sub hl [1, 2, 3, 0] rfl) G
set_option maxRecDepth 100000 in
set_option maxHeartbeats 4000000 in
theorem k_moveAll_1_4 (zl : Launch) (D : va_G) (cI : ClassId) (ad : Nat → Nat) (M : mS) : mMv zl D cI ad yX9_moveAll wsX9_moveAll ({ frames := 0, cells := 0, slots := 0, locals := 0 } : Room) [.ref (ad 1), .ref (ad 4)] M (mF_moveAll_1_4 M) := by
  refine mMv_of (cc := cX9_moveAll) (nL := 4) (by decide) rfl rfl (Nat.le_of_ble_eq_true rfl) ?_
  intro zp ze zs zm zg zb zt zc zA H0 zQ C hA hret H locs ls hl G
  have hx := C.1
  have hb := C.2.1
  have hl : lv_has ls 4 [(0, .ref (ad 0)), (1, .ref (ad 1)), (2, .ref (ad 4))] := hl
  obtain ⟨rM, hF⟩ : ∃ X : mS, X = mF_moveAll_1_4 M := ⟨_, rfl⟩
  rw [← hF] at hret
  unfold mF_moveAll_1_4 at hF
  refine lv_iconst (v := 0) hx hb dX9_moveAll_0 (by decide) ?_
  refine lv_istore_n (lv' := [(3, .int 0), (0, .ref (ad 0)), (1, .ref (ad 1)), (2, .ref (ad 4))]) hx hb dX9_moveAll_1 rfl hl (by decide) rfl (fun ls hl => ?_)
  obtain ⟨M2x, hX2⟩ : ∃ (M2x : mS), M2x = mF_moveAll_1_4_L2 M 234 := ⟨_, rfl⟩
  rw [lt_e hX2] at hF
  have hrest2 : ∀ (H : Heap) (locs : List Loc) (ls : Array Slot), lv_has ls 4 [(0, .ref (ad 0)), (1, .ref (ad 1)), (2, .ref (ad 4)), (3, .int (nI 234))] → mG D cI ad zA H0 H locs M2x → W zp zl ze ({ frames := 0, cells := 0, slots := 0, locals := 0 } : Room) zs zm zg zb zt zc H locs 0 0 zQ (F0 zm 21 ls []) := by
    intro H locs ls hl G
    exact hret _ _ _ _ _ hF G dX9_moveAll_21
  have hloop2 : ∀ (j k2 : Nat), j + k2 = 234 → ∀ (M2 : mS), M2 = mF_moveAll_1_4_L2 M k2 → ∀ (H : Heap) (locs : List Loc) (ls : Array Slot), lv_has ls 4 [(0, .ref (ad 0)), (1, .ref (ad 1)), (2, .ref (ad 4)), (3, .int (nI k2))] → mG D cI ad zA H0 H locs M2 → W zp zl ze ({ frames := 0, cells := 0, slots := 0, locals := 0 } : Room) zs zm zg zb zt zc H locs 0 0 zQ (F0 zm 2 ls []) := by
    intro j
    induction j with
    | zero =>
      intro k2 hk M2 hL H locs ls hl G
      have hk : k2 = 234 := by omega
      rw [hk] at hL hl
      refine lv_iload_n hx hb dX9_moveAll_2 rfl (lv_at hl 3 rfl) ?_
      refine lv_sipush (v := 234) hx hb dX9_moveAll_3 (by decide) ?_
      refine lv_icmp_ge (tgt := 21) hx hb dX9_moveAll_6 (by decide) (fun c6 => ?_) (fun c6 => absurd (lp_out (n := 234) rfl) c6)
      obtain rfl := hL.trans hX2.symm
      exact hrest2 _ _ _ (lv_sub hl [0, 1, 2, 3] rfl) G
    | succ j ih =>
      intro k2 hk M2 hL H locs ls hl G
      have hkn : k2 < 234 := by omega
      obtain ⟨M2s, hS0⟩ : ∃ (M2s : mS), M2s = mF_moveAll_1_4_L2 M (k2 + 1) := ⟨_, rfl⟩
      have hS := hS0
      rw [mF_moveAll_1_4_L2_s, lt_e hL] at hS
      refine lv_iload_n hx hb dX9_moveAll_2 rfl (lv_at hl 3 rfl) ?_
      refine lv_sipush (v := 234) hx hb dX9_moveAll_3 (by decide) ?_
      refine lv_icmp_ge (tgt := 21) hx hb dX9_moveAll_6 (by decide) (fun c6 => absurd c6 (lp_in (n := 234) rfl hkn (by omega))) (fun c6 => ?_)
      refine lv_aload_n hx hb dX9_moveAll_9 rfl (lv_at hl 2 rfl) ?_
      refine lv_iload_n hx hb dX9_moveAll_10 rfl (lv_at hl 3 rfl) ?_
      refine lv_aload_n hx hb dX9_moveAll_11 rfl (lv_at hl 1 rfl) ?_
      refine lv_iload_n hx hb dX9_moveAll_12 rfl (lv_at hl 3 rfl) ?_
      refine mr_ald C G 1 (fun _ => rfl) k2 rfl (by omega) (Nat.le_of_ble_eq_true rfl) dX9_moveAll_13 ?_
      refine mr_ast C G 4 (fun _ => rfl) k2 rfl (by omega) (Nat.le_of_ble_eq_true rfl) (fun _ => rfl) dX9_moveAll_14 (fun H locs G => ?_)
      obtain ⟨M14, hM14⟩ : ∃ X : mS, X = mU M2 4 k2 (M2 1 k2) := ⟨_, rfl⟩
      rw [← hM14] at G
      rw [lt_e hM14] at hS
      refine lv_iinc (v := nI (k2 + 1)) (lv' := [(3, .int (nI (k2 + 1))), (0, .ref (ad 0)), (1, .ref (ad 1)), (2, .ref (ad 4))]) hx hb dX9_moveAll_15 hl (k := 3) rfl (nt_add rfl (show (1 : Int32) = nI 1 from rfl)) (by decide) rfl (fun ls hl => ?_)
      refine lv_goto (tgt := 2) hx hb dX9_moveAll_18 (by decide) ?_
      subst hS
      exact ih (k2 + 1) (by omega) _ hS0 _ _ _ (lv_sub hl [1, 2, 3, 0] rfl) G
  exact hloop2 _ 0 (Nat.add_zero _) _ rfl _ _ _ (lv_sub hl [1, 2, 3, 0] rfl) G
set_option maxRecDepth 100000 in
set_option maxHeartbeats 4000000 in
theorem k_moveAll_4_1 (zl : Launch) (D : va_G) (cI : ClassId) (ad : Nat → Nat) (M : mS) : mMv zl D cI ad yX9_moveAll wsX9_moveAll ({ frames := 0, cells := 0, slots := 0, locals := 0 } : Room) [.ref (ad 4), .ref (ad 1)] M (mF_moveAll_4_1 M) := by
  refine mMv_of (cc := cX9_moveAll) (nL := 4) (by decide) rfl rfl (Nat.le_of_ble_eq_true rfl) ?_
  intro zp ze zs zm zg zb zt zc zA H0 zQ C hA hret H locs ls hl G
  have hx := C.1
  have hb := C.2.1
  have hl : lv_has ls 4 [(0, .ref (ad 0)), (1, .ref (ad 4)), (2, .ref (ad 1))] := hl
  obtain ⟨rM, hF⟩ : ∃ X : mS, X = mF_moveAll_4_1 M := ⟨_, rfl⟩
  rw [← hF] at hret
  unfold mF_moveAll_4_1 at hF
  refine lv_iconst (v := 0) hx hb dX9_moveAll_0 (by decide) ?_
  refine lv_istore_n (lv' := [(3, .int 0), (0, .ref (ad 0)), (1, .ref (ad 4)), (2, .ref (ad 1))]) hx hb dX9_moveAll_1 rfl hl (by decide) rfl (fun ls hl => ?_)
  obtain ⟨M2x, hX2⟩ : ∃ (M2x : mS), M2x = mF_moveAll_4_1_L2 M 234 := ⟨_, rfl⟩
  rw [lt_e hX2] at hF
  have hrest2 : ∀ (H : Heap) (locs : List Loc) (ls : Array Slot), lv_has ls 4 [(0, .ref (ad 0)), (1, .ref (ad 4)), (2, .ref (ad 1)), (3, .int (nI 234))] → mG D cI ad zA H0 H locs M2x → W zp zl ze ({ frames := 0, cells := 0, slots := 0, locals := 0 } : Room) zs zm zg zb zt zc H locs 0 0 zQ (F0 zm 21 ls []) := by
    intro H locs ls hl G
    exact hret _ _ _ _ _ hF G dX9_moveAll_21
  have hloop2 : ∀ (j k2 : Nat), j + k2 = 234 → ∀ (M2 : mS), M2 = mF_moveAll_4_1_L2 M k2 → ∀ (H : Heap) (locs : List Loc) (ls : Array Slot), lv_has ls 4 [(0, .ref (ad 0)), (1, .ref (ad 4)), (2, .ref (ad 1)), (3, .int (nI k2))] → mG D cI ad zA H0 H locs M2 → W zp zl ze ({ frames := 0, cells := 0, slots := 0, locals := 0 } : Room) zs zm zg zb zt zc H locs 0 0 zQ (F0 zm 2 ls []) := by
    intro j
    induction j with
    | zero =>
      intro k2 hk M2 hL H locs ls hl G
      have hk : k2 = 234 := by omega
      rw [hk] at hL hl
      refine lv_iload_n hx hb dX9_moveAll_2 rfl (lv_at hl 3 rfl) ?_
      refine lv_sipush (v := 234) hx hb dX9_moveAll_3 (by decide) ?_
      refine lv_icmp_ge (tgt := 21) hx hb dX9_moveAll_6 (by decide) (fun c6 => ?_) (fun c6 => absurd (lp_out (n := 234) rfl) c6)
      obtain rfl := hL.trans hX2.symm
      exact hrest2 _ _ _ (lv_sub hl [0, 1, 2, 3] rfl) G
    | succ j ih =>
      intro k2 hk M2 hL H locs ls hl G
      have hkn : k2 < 234 := by omega
      obtain ⟨M2s, hS0⟩ : ∃ (M2s : mS), M2s = mF_moveAll_4_1_L2 M (k2 + 1) := ⟨_, rfl⟩
      have hS := hS0
      rw [mF_moveAll_4_1_L2_s, lt_e hL] at hS
      refine lv_iload_n hx hb dX9_moveAll_2 rfl (lv_at hl 3 rfl) ?_
      refine lv_sipush (v := 234) hx hb dX9_moveAll_3 (by decide) ?_
      refine lv_icmp_ge (tgt := 21) hx hb dX9_moveAll_6 (by decide) (fun c6 => absurd c6 (lp_in (n := 234) rfl hkn (by omega))) (fun c6 => ?_)
      refine lv_aload_n hx hb dX9_moveAll_9 rfl (lv_at hl 2 rfl) ?_
      refine lv_iload_n hx hb dX9_moveAll_10 rfl (lv_at hl 3 rfl) ?_
      refine lv_aload_n hx hb dX9_moveAll_11 rfl (lv_at hl 1 rfl) ?_
      refine lv_iload_n hx hb dX9_moveAll_12 rfl (lv_at hl 3 rfl) ?_
      refine mr_ald C G 4 (fun _ => rfl) k2 rfl (by omega) (Nat.le_of_ble_eq_true rfl) dX9_moveAll_13 ?_
      refine mr_ast C G 1 (fun _ => rfl) k2 rfl (by omega) (Nat.le_of_ble_eq_true rfl) (fun _ => rfl) dX9_moveAll_14 (fun H locs G => ?_)
      obtain ⟨M14, hM14⟩ : ∃ X : mS, X = mU M2 1 k2 (M2 4 k2) := ⟨_, rfl⟩
      rw [← hM14] at G
      rw [lt_e hM14] at hS
      refine lv_iinc (v := nI (k2 + 1)) (lv' := [(3, .int (nI (k2 + 1))), (0, .ref (ad 0)), (1, .ref (ad 4)), (2, .ref (ad 1))]) hx hb dX9_moveAll_15 hl (k := 3) rfl (nt_add rfl (show (1 : Int32) = nI 1 from rfl)) (by decide) rfl (fun ls hl => ?_)
      refine lv_goto (tgt := 2) hx hb dX9_moveAll_18 (by decide) ?_
      subst hS
      exact ih (k2 + 1) (by omega) _ hS0 _ _ _ (lv_sub hl [1, 2, 3, 0] rfl) G
  exact hloop2 _ 0 (Nat.add_zero _) _ rfl _ _ _ (lv_sub hl [1, 2, 3, 0] rfl) G
set_option maxRecDepth 100000 in
set_option maxHeartbeats 4000000 in
theorem k_tells (zl : Launch) (D : va_G) (cI : ClassId) (ad : Nat → Nat) (M : mS) (b1 : Int32) (b2 : Int32) (b3 : Int32) (b4 : Int32) : mMv zl D cI ad yX9_tells wsX9_tells ({ frames := 0, cells := 0, slots := 0, locals := 0 } : Room) [.int b1, .int b2, .int b3, .int b4] M (mF_tells M b1 b2 b3 b4) := by
  have hin : ∀ w ∈ wsX90, w ∈ wsX9_tells := fun w h => List.mem_cons_of_mem _ (List.mem_append_right _ h)
  refine mMv_of (cc := cX9_tells) (nL := 5) (by decide) rfl rfl (Nat.le_of_ble_eq_true rfl) ?_
  intro zp ze zs zm zg zb zt zc zA H0 zQ C hA hret H locs ls hl G
  have hx := C.1
  have hb := C.2.1
  have hl : lv_has ls 5 [(0, .ref (ad 0)), (1, .int b1), (2, .int b2), (3, .int b3), (4, .int b4)] := hl
  obtain ⟨rM, hF⟩ : ∃ X : mS, X = mF_tells M b1 b2 b3 b4 := ⟨_, rfl⟩
  rw [← hF] at hret
  unfold mF_tells at hF
  refine lv_aload_n hx hb dX9_tells_0 rfl (lv_at hl 0 rfl) ?_
  refine mr_get C G hin 17 (by decide) rfl (show Cond.fieldLink RX9 32 "WheatCountsModel" "led" "[I" ∈ _ by decide +kernel) (fun _ => rfl) dX9_tells_1 ?_
  refine lv_iconst (v := 0) hx hb dX9_tells_4 (by decide) ?_
  refine lv_iload_n hx hb dX9_tells_5 rfl (lv_at hl 1 rfl) ?_
  refine mr_ast C G 7 (fun _ => rfl) 0 rfl (by omega) (Nat.le_of_ble_eq_true rfl) (fun _ => rfl) dX9_tells_6 (fun H locs G => ?_)
  obtain ⟨M6, hM6⟩ : ∃ X : mS, X = mU M 7 0 b1 := ⟨_, rfl⟩
  rw [← hM6] at G
  rw [lt_e hM6] at hF
  refine lv_aload_n hx hb dX9_tells_7 rfl (lv_at hl 0 rfl) ?_
  refine mr_get C G hin 17 (by decide) rfl (show Cond.fieldLink RX9 32 "WheatCountsModel" "led" "[I" ∈ _ by decide +kernel) (fun _ => rfl) dX9_tells_8 ?_
  refine lv_iconst (v := 1) hx hb dX9_tells_11 (by decide) ?_
  refine lv_iload_n hx hb dX9_tells_12 rfl (lv_at hl 2 rfl) ?_
  refine mr_ast C G 7 (fun _ => rfl) 1 rfl (by omega) (Nat.le_of_ble_eq_true rfl) (fun _ => rfl) dX9_tells_13 (fun H locs G => ?_)
  obtain ⟨M13, hM13⟩ : ∃ X : mS, X = mU M6 7 1 b2 := ⟨_, rfl⟩
  rw [← hM13] at G
  rw [lt_e hM13] at hF
  refine lv_aload_n hx hb dX9_tells_14 rfl (lv_at hl 0 rfl) ?_
  refine mr_get C G hin 17 (by decide) rfl (show Cond.fieldLink RX9 32 "WheatCountsModel" "led" "[I" ∈ _ by decide +kernel) (fun _ => rfl) dX9_tells_15 ?_
  refine lv_iconst (v := 2) hx hb dX9_tells_18 (by decide) ?_
  refine lv_iload_n hx hb dX9_tells_19 rfl (lv_at hl 3 rfl) ?_
  refine mr_ast C G 7 (fun _ => rfl) 2 rfl (by omega) (Nat.le_of_ble_eq_true rfl) (fun _ => rfl) dX9_tells_20 (fun H locs G => ?_)
  obtain ⟨M20, hM20⟩ : ∃ X : mS, X = mU M13 7 2 b3 := ⟨_, rfl⟩
  rw [← hM20] at G
  rw [lt_e hM20] at hF
  refine lv_aload_n hx hb dX9_tells_21 rfl (lv_at hl 0 rfl) ?_
  refine mr_get C G hin 17 (by decide) rfl (show Cond.fieldLink RX9 32 "WheatCountsModel" "led" "[I" ∈ _ by decide +kernel) (fun _ => rfl) dX9_tells_22 ?_
  refine lv_iconst (v := 3) hx hb dX9_tells_25 (by decide) ?_
  refine lv_iload hx hb dX9_tells_26 (lv_at hl 4 rfl) ?_
  refine mr_ast C G 7 (fun _ => rfl) 3 rfl (by omega) (Nat.le_of_ble_eq_true rfl) (fun _ => rfl) dX9_tells_28 (fun H locs G => ?_)
  obtain ⟨M28, hM28⟩ : ∃ X : mS, X = mU M20 7 3 b4 := ⟨_, rfl⟩
  rw [← hM28] at G
  rw [lt_e hM28] at hF
  exact hret _ _ _ _ _ hF G dX9_tells_29

