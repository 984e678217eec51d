/-! the estate with its texts -/
set_option maxRecDepth 100000 in
set_option maxHeartbeats 4000000 in
theorem kx1_isOneOf (zl : Launch) (D : va_G) (ad sa : Nat → Nat) (cc : cT) (tt : tT) (X : xS) (kind : Int32) (other : Int32) : xM zl D ad sa cc tt yX1_isOneOf wsX1_isOneOf ({ frames := 2, cells := 0, slots := 0, locals := 42 } : Room) [.int kind, .int other] X ((x1_isOneOf X kind other, X)) := by
  refine xM_ofZ (code := cX1_isOneOf) (nL := 4) (own := RX1) (by decide) rfl rfl (Nat.le_of_ble_eq_true rfl) ?_
  intro zp ze zs zm zg zb zt zc zA zQ C hA hret H locs ls hl G
  have hx := C.1
  have hb := C.2.1
  have hl : lv_has ls 4 [(0, .int kind), (1, .int other)] := hl
  obtain ⟨rM, hF⟩ : ∃ Z : Int32, Z = x1_isOneOf X kind other := ⟨_, rfl⟩
  rw [← hF] at hret
  unfold x1_isOneOf at hF
  refine lv_iload_n hx hb dX1_isOneOf_0 rfl (lv_at hl 0 rfl) ?_
  refine lv_istore_n (lv' := [(2, .int kind), (0, .int kind), (1, .int other)]) hx hb dX1_isOneOf_1 rfl hl (by decide) rfl (fun ls hl => ?_)
  refine lv_iconst (v := 0) hx hb dX1_isOneOf_2 (by decide) ?_
  refine lv_istore_n (lv' := [(3, .int 0), (2, .int kind), (0, .int kind), (1, .int other)]) hx hb dX1_isOneOf_3 rfl hl (by decide) rfl (fun ls hl => ?_)
  obtain ⟨K4, hK4⟩ : ∃ Zk : Int32 → Nat → Int32, Zk = (fun (v2_4x : Int32) (ksx : Nat) => 0) := ⟨_, rfl⟩
  rw [← hK4] at hF
  have hrest4 : ∀ (v2_4x : Int32) (ksx : Nat), rM = K4 v2_4x ksx → (True) → ∀ (H : Heap) (locs : List Loc) (ls : Array Slot), lv_has ls 4 [(0, .int kind), (1, .int other), (2, .int v2_4x), (3, .int (nI ksx))] → xG D ad sa cc tt zA zs.heap H locs X → W zp zl ze ({ frames := 2, cells := 0, slots := 0, locals := 42 } : Room) zs zm zg zb zt zc H locs 0 0 zQ (F0 zm 32 ls []) := by
    intro v2_4x ksx hF hR9 H locs ls hl G
    have hF : rM = 0 := by rw [hK4] at hF; exact hF
    refine lv_iconst (v := 0) hx hb dX1_isOneOf_32 (by decide) ?_
    exact hret _ _ _ _ _ _ (by rw [hF]) G (Or.inl rfl) dX1_isOneOf_33
  have hloop4 : ∀ (f4 : Nat) (v2_4 : Int32) (ks : Nat), (ks ≤ 7 ∧ 7 < ks + f4) → rM = x1_isOneOf_L4 X other K4 f4 v2_4 ks → ∀ (H : Heap) (locs : List Loc) (ls : Array Slot), lv_has ls 4 [(0, .int kind), (1, .int other), (2, .int v2_4), (3, .int (nI ks))] → xG D ad sa cc tt zA zs.heap H locs X → W zp zl ze ({ frames := 2, cells := 0, slots := 0, locals := 42 } : Room) zs zm zg zb zt zc H locs 0 0 zQ (F0 zm 4 ls []) := by
    intro f4
    induction f4 with
    | zero =>
      intro v2_4 ks hI hL4 H locs ls hl G
      exact absurd hI.2 (by omega)
    | succ f4 ih4 =>
      intro v2_4 ks hI hL4 H locs ls hl G
      rw [x1_isOneOf_L4_s] at hL4
      refine lv_iload_n hx hb dX1_isOneOf_4 rfl (lv_at hl 3 rfl) ?_
      refine lv_bipush (v := 6) hx hb dX1_isOneOf_5 (by decide) ?_
      refine lv_icmp_gt (tgt := 32) hx hb dX1_isOneOf_7 (by decide) (fun c7 => ?_) (fun c7 => ?_)
      · rw [if_pos c7] at hL4
        exact hrest4 v2_4 ks hL4 trivial _ _ _ (lv_sub hl [0, 1, 2, 3] rfl) G
      · rw [if_neg c7] at hL4
        have hs6 := gt6 c7 (by omega)
        refine lv_iload_n hx hb dX1_isOneOf_10 rfl (lv_at hl 2 rfl) ?_
        refine lv_if_lt (tgt := 32) hx hb dX1_isOneOf_11 (by decide) (fun c11 => ?_) (fun c11 => ?_)
        · rw [if_pos c11] at hL4
          exact hrest4 v2_4 ks hL4 trivial _ _ _ (lv_sub hl [0, 1, 2, 3] rfl) G
        · rw [if_neg c11] at hL4
          refine lv_iload_n hx hb dX1_isOneOf_14 rfl (lv_at hl 2 rfl) ?_
          refine lv_iload_n hx hb dX1_isOneOf_15 rfl (lv_at hl 1 rfl) ?_
          refine lv_icmp_ne (tgt := 21) hx hb dX1_isOneOf_16 (by decide) (fun c16 => ?_) (fun c16 => ?_)
          · rw [if_neg c16] at hL4
            refine lv_iload_n hx hb dX1_isOneOf_21 rfl (lv_at hl 2 rfl) ?_
            refine xr_Si C hA G (kx1_above zl D ad sa cc tt X v2_4) (va_cwS 1 C.2.2.2.2.1 gX1_isOneOf_X1_above rfl rfl rfl (by decide +kernel) ⟨Nat.le_of_ble_eq_true rfl, Nat.le_of_ble_eq_true rfl⟩) rfl hl.1 rfl (Nat.le_of_ble_eq_true rfl) dX1_isOneOf_22 ⟨Nat.le_refl _, Nat.le_refl _⟩ (fun H locs G => ?_)
            refine lv_topi (fun x25 hx25 => ?_)
            rw [lt_e hx25] at hL4
            refine lv_istore_n (lv' := [(2, .int x25), (0, .int kind), (1, .int other), (3, .int (nI ks))]) hx hb dX1_isOneOf_25 rfl hl (by decide) rfl (fun ls hl => ?_)
            refine lv_iinc (v := nI (ks + 1)) (lv' := [(3, .int (nI (ks + 1))), (2, .int x25), (0, .int kind), (1, .int other)]) hx hb dX1_isOneOf_26 hl (k := 3) rfl (nt_add rfl (show (1 : Int32) = nI 1 from rfl)) (by decide) rfl (fun ls hl => ?_)
            refine lv_goto (tgt := 4) hx hb dX1_isOneOf_29 (by decide) ?_
            exact ih4 x25 (ks + 1) ⟨by omega, by omega⟩ hL4 _ _ _ (lv_sub hl [2, 3, 1, 0] rfl) G
          · rw [if_pos c16] at hL4
            refine lv_iconst (v := 1) hx hb dX1_isOneOf_19 (by decide) ?_
            exact hret _ _ _ _ _ _ (by rw [hL4]) G (Or.inr rfl) dX1_isOneOf_20
  exact hloop4 8 kind 0 ⟨by omega, by omega⟩ hF _ _ _ (lv_sub hl [2, 3, 1, 0] rfl) G
set_option maxRecDepth 100000 in
set_option maxHeartbeats 4000000 in
theorem kx7_bodyOf (zl : Launch) (D : va_G) (ad sa : Nat → Nat) (cc : cT) (tt : tT) (X : xS) (act : Int32) (owner : Int32) : xM zl D ad sa cc tt yX7_bodyOf wsX7_bodyOf ({ frames := 0, cells := 0, slots := 0, locals := 0 } : Room) [.int act, .int owner] X ((x7_bodyOf X act owner, X)) := by
  refine xM_of (code := cX7_bodyOf) (nL := 3) (own := RX7) (by decide) rfl rfl (Nat.le_of_ble_eq_true rfl) ?_
  intro zp ze zs zm zg zb zt zc zA zQ C hA hret H locs ls hl G
  have hx := C.1
  have hb := C.2.1
  have hl : lv_has ls 3 [(0, .int act), (1, .int owner)] := hl
  obtain ⟨rM, hF⟩ : ∃ Z : Int32, Z = x7_bodyOf X act owner := ⟨_, rfl⟩
  rw [← hF] at hret
  unfold x7_bodyOf at hF
  refine lv_iload_n hx hb dX7_bodyOf_0 rfl (lv_at hl 1 rfl) ?_
  refine lv_iconst (v := 4) hx hb dX7_bodyOf_1 (by decide) ?_
  refine lv_imul hx hb dX7_bodyOf_2 ?_
  refine lv_iload_n hx hb dX7_bodyOf_3 rfl (lv_at hl 0 rfl) ?_
  refine lv_iadd hx hb dX7_bodyOf_4 ?_
  refine lv_topi (fun x5 hx5 => ?_)
  rw [lt_e hx5] at hF
  refine lv_istore_n (lv' := [(2, .int x5), (0, .int act), (1, .int owner)]) hx hb dX7_bodyOf_5 rfl hl (by decide) rfl (fun ls hl => ?_)
  refine lv_iload_n hx hb dX7_bodyOf_6 rfl (lv_at hl 0 rfl) ?_
  refine lv_if_lt (tgt := 26) hx hb dX7_bodyOf_7 (by decide) (fun c7 => ?_) (fun c7 => ?_)
  · rw [if_pos c7] at hF
    refine lv_iconst (v := 0) hx hb dX7_bodyOf_26 (by decide) ?_
    exact hret _ _ _ _ _ _ (by rw [hF]) G dX7_bodyOf_27
  · rw [if_neg c7] at hF
    refine lv_iload_n hx hb dX7_bodyOf_10 rfl (lv_at hl 0 rfl) ?_
    obtain ⟨t11, hz11, hv11⟩ := C.2.2.2.2.2.2.2.2.1
    refine va_gets hx hb hz11 (xG_S G) C.2.2.2.1 (C.2.2.2.2.1 (.fieldLink RX7 47 "WheatCounts$Voices" "BODIES" "[I") (by decide +kernel)) (fun _ h => h) dX7_bodyOf_11 ?_
    refine va_tlen (v := 28) hx hb hv11 (xG_S G) rfl dX7_bodyOf_14 ?_
    refine lv_icmp_ge (tgt := 26) hx hb dX7_bodyOf_15 (by decide) (fun c15 => ?_) (fun c15 => ?_)
    · rw [if_pos c15] at hF
      refine lv_iconst (v := 0) hx hb dX7_bodyOf_26 (by decide) ?_
      exact hret _ _ _ _ _ _ (by rw [hF]) G dX7_bodyOf_27
    · rw [if_neg c15] at hF
      have hi := ix0 c7 c15
      have hi2 := hi.2
      obtain ⟨t18, hz18, hv18⟩ := C.2.2.2.2.2.2.2.2.1
      refine va_gets hx hb hz18 (xG_S G) C.2.2.2.1 (C.2.2.2.2.1 (.fieldLink RX7 47 "WheatCounts$Voices" "BODIES" "[I") (by decide +kernel)) (fun _ h => h) dX7_bodyOf_18 ?_
      refine lv_iload_n hx hb dX7_bodyOf_21 rfl (lv_at hl 0 rfl) ?_
      refine va_ti (v := .int (bodiesT.getD (vn x5) 0)) hx hb hv18 (xG_S G) (by rw [show x5 = nI (vn x5) from hi.1]; exact vp_in_nI (by omega) (by decide)) rfl dX7_bodyOf_22 ?_
      refine lv_goto (tgt := 27) hx hb dX7_bodyOf_23 (by decide) ?_
      exact hret _ _ _ _ _ _ (by rw [hF]) G dX7_bodyOf_27
set_option maxRecDepth 100000 in
set_option maxHeartbeats 4000000 in
theorem kx7_ownerOf (zl : Launch) (D : va_G) (ad sa : Nat → Nat) (cc : cT) (tt : tT) (X : xS) (act : Int32) (of : Int32) : xM zl D ad sa cc tt yX7_ownerOf wsX7_ownerOf ({ frames := 2, cells := 0, slots := 0, locals := 42 } : Room) [.int act, .int of] X ((x7_ownerOf X act of, X)) := by
  refine xM_of (code := cX7_ownerOf) (nL := 4) (own := RX7) (by decide) rfl rfl (Nat.le_of_ble_eq_true rfl) ?_
  intro zp ze zs zm zg zb zt zc zA zQ C hA hret H locs ls hl G
  have hx := C.1
  have hb := C.2.1
  have hl : lv_has ls 4 [(0, .int act), (1, .int of)] := hl
  obtain ⟨rM, hF⟩ : ∃ Z : Int32, Z = x7_ownerOf X act of := ⟨_, rfl⟩
  rw [← hF] at hret
  unfold x7_ownerOf at hF
  refine lv_iload_n hx hb dX7_ownerOf_0 rfl (lv_at hl 1 rfl) ?_
  refine lv_istore_n (lv' := [(2, .int of), (0, .int act), (1, .int of)]) hx hb dX7_ownerOf_1 rfl hl (by decide) rfl (fun ls hl => ?_)
  refine lv_iconst (v := 0) hx hb dX7_ownerOf_2 (by decide) ?_
  refine lv_istore_n (lv' := [(3, .int 0), (2, .int of), (0, .int act), (1, .int of)]) hx hb dX7_ownerOf_3 rfl hl (by decide) rfl (fun ls hl => ?_)
  obtain ⟨K4, hK4⟩ : ∃ Zk : Int32 → Nat → Int32, Zk = (fun (v2_4x : Int32) (ksx : Nat) => (-1)) := ⟨_, rfl⟩
  rw [← hK4] at hF
  have hrest4 : ∀ (v2_4x : Int32) (ksx : Nat), rM = K4 v2_4x ksx → (True) → ∀ (H : Heap) (locs : List Loc) (ls : Array Slot), lv_has ls 4 [(0, .int act), (1, .int of), (2, .int v2_4x), (3, .int (nI ksx))] → xG D ad sa cc tt zA zs.heap H locs X → W zp zl ze ({ frames := 2, cells := 0, slots := 0, locals := 42 } : Room) zs zm zg zb zt zc H locs 0 0 zQ (F0 zm 35 ls []) := by
    intro v2_4x ksx hF hR9 H locs ls hl G
    have hF : rM = (-1) := by rw [hK4] at hF; exact hF
    refine lv_iconst (v := -1) hx hb dX7_ownerOf_35 (by decide) ?_
    exact hret _ _ _ _ _ _ (by rw [hF]) G dX7_ownerOf_36
  have hloop4 : ∀ (f4 : Nat) (v2_4 : Int32) (ks : Nat), (ks ≤ 7 ∧ 7 < ks + f4) → rM = x7_ownerOf_L4 X act K4 f4 v2_4 ks → ∀ (H : Heap) (locs : List Loc) (ls : Array Slot), lv_has ls 4 [(0, .int act), (1, .int of), (2, .int v2_4), (3, .int (nI ks))] → xG D ad sa cc tt zA zs.heap H locs X → W zp zl ze ({ frames := 2, cells := 0, slots := 0, locals := 42 } : Room) zs zm zg zb zt zc H locs 0 0 zQ (F0 zm 4 ls []) := by
    intro f4
    induction f4 with
    | zero =>
      intro v2_4 ks hI hL4 H locs ls hl G
      exact absurd hI.2 (by omega)
    | succ f4 ih4 =>
      intro v2_4 ks hI hL4 H locs ls hl G
      rw [x7_ownerOf_L4_s] at hL4
      refine lv_iload_n hx hb dX7_ownerOf_4 rfl (lv_at hl 3 rfl) ?_
      refine lv_bipush (v := 6) hx hb dX7_ownerOf_5 (by decide) ?_
      refine lv_icmp_gt (tgt := 35) hx hb dX7_ownerOf_7 (by decide) (fun c7 => ?_) (fun c7 => ?_)
      · rw [if_pos c7] at hL4
        exact hrest4 v2_4 ks hL4 trivial _ _ _ (lv_sub hl [0, 1, 2, 3] rfl) G
      · rw [if_neg c7] at hL4
        have hs6 := gt6 c7 (by omega)
        refine lv_iload_n hx hb dX7_ownerOf_10 rfl (lv_at hl 2 rfl) ?_
        refine lv_if_lt (tgt := 35) hx hb dX7_ownerOf_11 (by decide) (fun c11 => ?_) (fun c11 => ?_)
        · rw [if_pos c11] at hL4
          exact hrest4 v2_4 ks hL4 trivial _ _ _ (lv_sub hl [0, 1, 2, 3] rfl) G
        · rw [if_neg c11] at hL4
          refine lv_iload_n hx hb dX7_ownerOf_14 rfl (lv_at hl 0 rfl) ?_
          refine lv_iload_n hx hb dX7_ownerOf_15 rfl (lv_at hl 2 rfl) ?_
          refine xr_Si C hA G (kx7_bodyOf zl D ad sa cc tt X act v2_4) (va_cwS 2 C.2.2.2.2.1 gX7_ownerOf_X7_bodyOf rfl rfl rfl (by decide +kernel) ⟨Nat.le_of_ble_eq_true rfl, Nat.le_of_ble_eq_true rfl⟩) rfl hl.1 rfl (Nat.le_of_ble_eq_true rfl) dX7_ownerOf_16 ⟨Nat.le_refl _, Nat.le_refl _⟩ (fun H locs G => ?_)
          refine lv_if_eq (tgt := 24) hx hb dX7_ownerOf_19 (by decide) (fun c19 => ?_) (fun c19 => ?_)
          · rw [if_pos c19] at hL4
            refine lv_iload_n hx hb dX7_ownerOf_24 rfl (lv_at hl 2 rfl) ?_
            refine xr_Si C hA G (kx1_above zl D ad sa cc tt X v2_4) (va_cwS 1 C.2.2.2.2.1 gX7_ownerOf_X1_above rfl rfl rfl (by decide +kernel) ⟨Nat.le_of_ble_eq_true rfl, Nat.le_of_ble_eq_true rfl⟩) rfl hl.1 rfl (Nat.le_of_ble_eq_true rfl) dX7_ownerOf_25 ⟨Nat.le_refl _, Nat.le_refl _⟩ (fun H locs G => ?_)
            refine lv_topi (fun x28 hx28 => ?_)
            rw [lt_e hx28] at hL4
            refine lv_istore_n (lv' := [(2, .int x28), (0, .int act), (1, .int of), (3, .int (nI ks))]) hx hb dX7_ownerOf_28 rfl hl (by decide) rfl (fun ls hl => ?_)
            refine lv_iinc (v := nI (ks + 1)) (lv' := [(3, .int (nI (ks + 1))), (2, .int x28), (0, .int act), (1, .int of)]) hx hb dX7_ownerOf_29 hl (k := 3) rfl (nt_add rfl (show (1 : Int32) = nI 1 from rfl)) (by decide) rfl (fun ls hl => ?_)
            refine lv_goto (tgt := 4) hx hb dX7_ownerOf_32 (by decide) ?_
            exact ih4 x28 (ks + 1) ⟨by omega, by omega⟩ hL4 _ _ _ (lv_sub hl [2, 3, 1, 0] rfl) G
          · rw [if_neg c19] at hL4
            refine lv_iload_n hx hb dX7_ownerOf_22 rfl (lv_at hl 2 rfl) ?_
            exact hret _ _ _ _ _ _ (by rw [hL4]) G dX7_ownerOf_23
  exact hloop4 8 of 0 ⟨by omega, by omega⟩ hF _ _ _ (lv_sub hl [2, 3, 1, 0] rfl) G
set_option maxRecDepth 100000 in
set_option maxHeartbeats 4000000 in
theorem kx0_sightGiven (zl : Launch) (D : va_G) (ad sa : Nat → Nat) (cc : cT) (tt : tT) (X : xS) (pT : Nat) (a : Int32) (b : Int32) (c : Int32) (hT : kE pT) (ht : eT tt X pT) : xM zl D ad sa cc tt yX0_sightGiven wsX0_sightGiven ({ frames := 2, cells := 0, slots := 0, locals := 48 } : Room) [.ref (ad pT), .int a, .int b, .int c] X ((x0_sightGiven tt X pT a b c, X)) := by
  refine xM_of (code := cX0_sightGiven) (nL := 5) (own := RX0) (by decide) rfl rfl (Nat.le_of_ble_eq_true rfl) ?_
  intro zp ze zs zm zg zb zt zc zA zQ C hA hret H locs ls hl G
  have hx := C.1
  have hb := C.2.1
  have hl : lv_has ls 5 [(0, .ref (ad pT)), (1, .int a), (2, .int b), (3, .int c)] := hl
  obtain ⟨rM, hF⟩ : ∃ Z : Int32, Z = x0_sightGiven tt X pT a b c := ⟨_, rfl⟩
  rw [← hF] at hret
  unfold x0_sightGiven at hF
  refine lv_aload_n hx hb dX0_sightGiven_0 rfl (lv_at hl 0 rfl) ?_
  refine xr_get C G hT.2 (xE_c hT.1) rfl (fun _ h => List.mem_cons_of_mem _ (List.mem_append_left _ (List.mem_append_right _ h))) 14 (by decide) (show Cond.fieldLink RX0 76 "WheatCounts$Estate" "sightText" "LWheatCounts$Text;" ∈ _ by decide +kernel) rfl dX0_sightGiven_1 ?_
  obtain ⟨y25, hX25⟩ : ∃ (y25 : Int32), y25 = ((if (X pT 14) = -1 then (3 - (b / 3)) else (tE tt (vn (X pT 14)) a b c)) : Int32) := ⟨_, rfl⟩
  rw [lt_e hX25] at hF
  have hj25 : ∀ (H : Heap) (locs : List Loc) (ls : Array Slot), lv_has ls 5 [(0, .ref (ad pT)), (1, .int a), (2, .int b), (3, .int c)] → xG D ad sa cc tt zA zs.heap H locs X → W zp zl ze ({ frames := 2, cells := 0, slots := 0, locals := 48 } : Room) zs zm zg zb zt zc H locs 0 0 zQ (F0 zm 25 ls [.int y25]) := by
    intro H locs ls hl G
    refine lv_istore (lv' := [(4, .int y25), (0, .ref (ad pT)), (1, .int a), (2, .int b), (3, .int c)]) hx hb dX0_sightGiven_25 hl (by decide) rfl (fun ls hl => ?_)
    refine lv_iload hx hb dX0_sightGiven_27 (lv_at hl 0 rfl) ?_
    refine lv_bipush (v := 9) hx hb dX0_sightGiven_29 (by decide) ?_
    refine xr_psn C hA G (ks_X8_held zl y25 9) ⟨va_cnB 2 C.2.2.2.2.1 gX0_sightGiven_X8_held_n113 rfl rfl rfl (C.2.2.2.2.2.2.1 _ (List.mem_of_getElem? (i := 1) rfl)) (C.2.2.2.2.1 (.initialized RX8) (by decide +kernel)) (by decide +kernel) ⟨Nat.le_of_ble_eq_true rfl, Nat.le_of_ble_eq_true rfl⟩, C.2.2.2.2.1 (.static yX8_held) (by decide +kernel), trivial⟩ rfl hl.1 rfl (Nat.le_of_ble_eq_true rfl) dX0_sightGiven_31 ⟨Nat.le_refl _, Nat.le_refl _⟩ (fun H locs G => ?_)
    exact hret _ _ _ _ _ _ (by rw [hF]) G dX0_sightGiven_34
  by_cases c4 : (X pT 14) = -1
  · rw [if_pos c4] at hX25
    rw [rT_null c4]
    refine lv_ifnonnullN hx hb dX0_sightGiven_4 ?_
    refine lv_iconst (v := 3) hx hb dX0_sightGiven_7 (by decide) ?_
    refine lv_iload_n hx hb dX0_sightGiven_8 rfl (lv_at hl 2 rfl) ?_
    refine lv_iconst (v := 3) hx hb dX0_sightGiven_9 (by decide) ?_
    refine lv_idiv hx hb dX0_sightGiven_10 (by decide) ?_
    refine lv_isub hx hb dX0_sightGiven_11 ?_
    refine lv_goto (tgt := 25) hx hb dX0_sightGiven_12 (by decide) ?_
    subst hX25
    exact hj25 _ _ _ (lv_sub hl [0, 1, 2, 3] rfl) G
  · rw [if_neg c4] at hX25
    rw [rT_ref c4]
    refine lv_ifnonnull (tgt := 15) hx hb dX0_sightGiven_4 (by decide) ?_
    have ht14 := (ht 14 (by decide)).resolve_left c4
    refine lv_aload_n hx hb dX0_sightGiven_15 rfl (lv_at hl 0 rfl) ?_
    refine xr_get C G hT.2 (xE_c hT.1) rfl (fun _ h => List.mem_cons_of_mem _ (List.mem_append_left _ (List.mem_append_right _ h))) 14 (by decide) (show Cond.fieldLink RX0 76 "WheatCounts$Estate" "sightText" "LWheatCounts$Text;" ∈ _ by decide +kernel) rfl dX0_sightGiven_16 ?_
    rw [rT_ref c4]
    refine lv_iload_n hx hb dX0_sightGiven_19 rfl (lv_at hl 1 rfl) ?_
    refine lv_iload_n hx hb dX0_sightGiven_20 rfl (lv_at hl 2 rfl) ?_
    refine lv_iload_n hx hb dX0_sightGiven_21 rfl (lv_at hl 3 rfl) ?_
    refine xr_Vt C hA G ht14.2.1 (kx6_valueFor zl D ad sa cc tt X (vn (X pT 14)) a b c ht14.2.1 ht14.2.2) (cwV 3 C.2.2.2.2.1 gX0_sightGiven_X6_valueFor rfl rfl rfl (by decide +kernel) ⟨Nat.le_of_ble_eq_true rfl, Nat.le_of_ble_eq_true rfl⟩) rfl hl.1 rfl (Nat.le_of_ble_eq_true rfl) dX0_sightGiven_22 ⟨Nat.le_refl _, Nat.le_refl _⟩ (fun H locs G => ?_)
    subst hX25
    exact hj25 _ _ _ (lv_sub hl [0, 1, 2, 3] rfl) G
set_option maxRecDepth 100000 in
set_option maxHeartbeats 4000000 in
theorem kx0_theftGiven (zl : Launch) (D : va_G) (ad sa : Nat → Nat) (cc : cT) (tt : tT) (X : xS) (pT : Nat) (a : Int32) (b : Int32) (c : Int32) (hT : kE pT) (ht : eT tt X pT) : xM zl D ad sa cc tt yX0_theftGiven wsX0_theftGiven ({ frames := 2, cells := 0, slots := 0, locals := 48 } : Room) [.ref (ad pT), .int a, .int b, .int c] X ((x0_theftGiven tt X pT a b c, X)) := by
  refine xM_of (code := cX0_theftGiven) (nL := 5) (own := RX0) (by decide) rfl rfl (Nat.le_of_ble_eq_true rfl) ?_
  intro zp ze zs zm zg zb zt zc zA zQ C hA hret H locs ls hl G
  have hx := C.1
  have hb := C.2.1
  have hl : lv_has ls 5 [(0, .ref (ad pT)), (1, .int a), (2, .int b), (3, .int c)] := hl
  obtain ⟨rM, hF⟩ : ∃ Z : Int32, Z = x0_theftGiven tt X pT a b c := ⟨_, rfl⟩
  rw [← hF] at hret
  unfold x0_theftGiven at hF
  refine lv_aload_n hx hb dX0_theftGiven_0 rfl (lv_at hl 0 rfl) ?_
  refine xr_get C G hT.2 (xE_c hT.1) rfl (fun _ h => List.mem_cons_of_mem _ (List.mem_append_left _ (List.mem_append_right _ h))) 15 (by decide) (show Cond.fieldLink RX0 80 "WheatCounts$Estate" "theftText" "LWheatCounts$Text;" ∈ _ by decide +kernel) rfl dX0_theftGiven_1 ?_
  obtain ⟨y21, hX21⟩ : ∃ (y21 : Int32), y21 = ((if (X pT 15) = -1 then a else (tE tt (vn (X pT 15)) a b c)) : Int32) := ⟨_, rfl⟩
  rw [lt_e hX21] at hF
  have hj21 : ∀ (H : Heap) (locs : List Loc) (ls : Array Slot), lv_has ls 5 [(0, .ref (ad pT)), (1, .int a), (2, .int b), (3, .int c)] → xG D ad sa cc tt zA zs.heap H locs X → W zp zl ze ({ frames := 2, cells := 0, slots := 0, locals := 48 } : Room) zs zm zg zb zt zc H locs 0 0 zQ (F0 zm 21 ls [.int y21]) := by
    intro H locs ls hl G
    refine lv_istore (lv' := [(4, .int y21), (0, .ref (ad pT)), (1, .int a), (2, .int b), (3, .int c)]) hx hb dX0_theftGiven_21 hl (by decide) rfl (fun ls hl => ?_)
    refine lv_iload hx hb dX0_theftGiven_23 (lv_at hl 0 rfl) ?_
    refine lv_bipush (v := 99) hx hb dX0_theftGiven_25 (by decide) ?_
    refine xr_psn C hA G (ks_X8_held zl y21 99) ⟨va_cnB 2 C.2.2.2.2.1 gX0_theftGiven_X8_held_n113 rfl rfl rfl (C.2.2.2.2.2.2.1 _ (List.mem_of_getElem? (i := 1) rfl)) (C.2.2.2.2.1 (.initialized RX8) (by decide +kernel)) (by decide +kernel) ⟨Nat.le_of_ble_eq_true rfl, Nat.le_of_ble_eq_true rfl⟩, C.2.2.2.2.1 (.static yX8_held) (by decide +kernel), trivial⟩ rfl hl.1 rfl (Nat.le_of_ble_eq_true rfl) dX0_theftGiven_27 ⟨Nat.le_refl _, Nat.le_refl _⟩ (fun H locs G => ?_)
    exact hret _ _ _ _ _ _ (by rw [hF]) G dX0_theftGiven_30
  by_cases c4 : (X pT 15) = -1
  · rw [if_pos c4] at hX21
    rw [rT_null c4]
    refine lv_ifnonnullN hx hb dX0_theftGiven_4 ?_
    refine lv_iload_n hx hb dX0_theftGiven_7 rfl (lv_at hl 1 rfl) ?_
    refine lv_goto (tgt := 21) hx hb dX0_theftGiven_8 (by decide) ?_
    subst hX21
    exact hj21 _ _ _ (lv_sub hl [0, 1, 2, 3] rfl) G
  · rw [if_neg c4] at hX21
    rw [rT_ref c4]
    refine lv_ifnonnull (tgt := 11) hx hb dX0_theftGiven_4 (by decide) ?_
    have ht15 := (ht 15 (by decide)).resolve_left c4
    refine lv_aload_n hx hb dX0_theftGiven_11 rfl (lv_at hl 0 rfl) ?_
    refine xr_get C G hT.2 (xE_c hT.1) rfl (fun _ h => List.mem_cons_of_mem _ (List.mem_append_left _ (List.mem_append_right _ h))) 15 (by decide) (show Cond.fieldLink RX0 80 "WheatCounts$Estate" "theftText" "LWheatCounts$Text;" ∈ _ by decide +kernel) rfl dX0_theftGiven_12 ?_
    rw [rT_ref c4]
    refine lv_iload_n hx hb dX0_theftGiven_15 rfl (lv_at hl 1 rfl) ?_
    refine lv_iload_n hx hb dX0_theftGiven_16 rfl (lv_at hl 2 rfl) ?_
    refine lv_iload_n hx hb dX0_theftGiven_17 rfl (lv_at hl 3 rfl) ?_
    refine xr_Vt C hA G ht15.2.1 (kx6_valueFor zl D ad sa cc tt X (vn (X pT 15)) a b c ht15.2.1 ht15.2.2) (cwV 3 C.2.2.2.2.1 gX0_theftGiven_X6_valueFor rfl rfl rfl (by decide +kernel) ⟨Nat.le_of_ble_eq_true rfl, Nat.le_of_ble_eq_true rfl⟩) rfl hl.1 rfl (Nat.le_of_ble_eq_true rfl) dX0_theftGiven_18 ⟨Nat.le_refl _, Nat.le_refl _⟩ (fun H locs G => ?_)
    subst hX21
    exact hj21 _ _ _ (lv_sub hl [0, 1, 2, 3] rfl) G
set_option maxRecDepth 100000 in
set_option maxHeartbeats 4000000 in
theorem kx0_sightIn (zl : Launch) (D : va_G) (ad sa : Nat → Nat) (cc : cT) (tt : tT) (X : xS) (pT : Nat) (q : Nat) (fog : Int32) (hour : Int32) (hT : kE pT) (ht : eT tt X pT) (hq : q < 8) : xM zl D ad sa cc tt yX0_sightIn wsX0_sightIn ({ frames := 3, cells := 0, slots := 0, locals := 72 } : Room) [.ref (ad pT), .int (nI q), .int fog, .int hour] X ((x0_sightIn tt X pT q fog hour, X)) := by
  refine xM_of (code := cX0_sightIn) (nL := 4) (own := RX0) (by decide) rfl rfl (Nat.le_of_ble_eq_true rfl) ?_
  intro zp ze zs zm zg zb zt zc zA zQ C hA hret H locs ls hl G
  have hx := C.1
  have hb := C.2.1
  have hl : lv_has ls 4 [(0, .ref (ad pT)), (1, .int (nI q)), (2, .int fog), (3, .int hour)] := hl
  obtain ⟨rM, hF⟩ : ∃ Z : Int32, Z = x0_sightIn tt X pT q fog hour := ⟨_, rfl⟩
  rw [← hF] at hret
  unfold x0_sightIn at hF
  refine lv_aload_n hx hb dX0_sightIn_0 rfl (lv_at hl 0 rfl) ?_
  refine xr_get C G hT.2 (xE_c hT.1) rfl (fun _ h => List.mem_cons_of_mem _ (List.mem_append_left _ (List.mem_append_right _ h))) 10 (by decide) (show Cond.fieldLink RX0 25 "WheatCounts$Estate" "kind" "[I" ∈ _ by decide +kernel) rfl dX0_sightIn_1 ?_
  refine lv_iload_n hx hb dX0_sightIn_4 rfl (lv_at hl 1 rfl) ?_
  refine xr_ald C G (xE_4 hT).2 (xI_c (xE_4 hT).1 _) q rfl (by omega) (xI_lt (xE_4 hT)) dX0_sightIn_5 ?_
  refine lv_aload_n hx hb dX0_sightIn_6 rfl (lv_at hl 0 rfl) ?_
  refine xr_get C G hT.2 (xE_c hT.1) rfl (fun _ h => List.mem_cons_of_mem _ (List.mem_append_left _ (List.mem_append_right _ h))) 11 (by decide) (show Cond.fieldLink RX0 28 "WheatCounts$Estate" "m" "[I" ∈ _ by decide +kernel) rfl dX0_sightIn_7 ?_
  refine lv_iload_n hx hb dX0_sightIn_10 rfl (lv_at hl 1 rfl) ?_
  refine xr_ald C G (xE_5 hT).2 (xI_c (xE_5 hT).1 _) q rfl (by omega) (xI_lt (xE_5 hT)) dX0_sightIn_11 ?_
  refine lv_aload_n hx hb dX0_sightIn_12 rfl (lv_at hl 0 rfl) ?_
  refine lv_aload_n hx hb dX0_sightIn_13 rfl (lv_at hl 0 rfl) ?_
  refine xr_get C G hT.2 (xE_c hT.1) rfl (fun _ h => List.mem_cons_of_mem _ (List.mem_append_left _ (List.mem_append_right _ h))) 11 (by decide) (show Cond.fieldLink RX0 28 "WheatCounts$Estate" "m" "[I" ∈ _ by decide +kernel) rfl dX0_sightIn_14 ?_
  refine lv_iload_n hx hb dX0_sightIn_17 rfl (lv_at hl 1 rfl) ?_
  refine xr_ald C G (xE_5 hT).2 (xI_c (xE_5 hT).1 _) q rfl (by omega) (xI_lt (xE_5 hT)) dX0_sightIn_18 ?_
  refine lv_iload_n hx hb dX0_sightIn_19 rfl (lv_at hl 2 rfl) ?_
  refine lv_iload_n hx hb dX0_sightIn_20 rfl (lv_at hl 3 rfl) ?_
  refine xr_Vi C hA G (kx0_sightGiven zl D ad sa cc tt X pT (X (pT + 5) q) fog hour hT (by first | assumption | omega)) hT.2 (xE_c hT.1) rfl (cwV 3 C.2.2.2.2.1 gX0_sightIn_X0_sightGiven rfl rfl rfl (by decide +kernel) ⟨Nat.le_of_ble_eq_true rfl, Nat.le_of_ble_eq_true rfl⟩) rfl hl.1 rfl (Nat.le_of_ble_eq_true rfl) dX0_sightIn_21 ⟨Nat.le_refl _, Nat.le_refl _⟩ (fun H locs G => ?_)
  refine xr_ps C hA G (ks_X1_sightOf zl (X (pT + 4) q) (X (pT + 5) q) (x0_sightGiven tt X pT (X (pT + 5) q) fog hour)) (va_cwS 3 C.2.2.2.2.1 gX0_sightIn_X1_sightOf rfl rfl rfl (by decide +kernel) ⟨Nat.le_of_ble_eq_true rfl, Nat.le_of_ble_eq_true rfl⟩) rfl hl.1 rfl (Nat.le_of_ble_eq_true rfl) dX0_sightIn_24 ⟨Nat.le_refl _, Nat.le_refl _⟩ (fun H locs G => ?_)
  exact hret _ _ _ _ _ _ (by rw [hF]) G dX0_sightIn_27
set_option maxRecDepth 100000 in
set_option maxHeartbeats 4000000 in
theorem kx0_takesFrom (zl : Launch) (D : va_G) (ad sa : Nat → Nat) (cc : cT) (tt : tT) (X : xS) (pT : Nat) (q : Nat) (gr : Int32) (hour : Int32) (hT : kE pT) (ht : eT tt X pT) (hq : q < 8) : xM zl D ad sa cc tt yX0_takesFrom wsX0_takesFrom ({ frames := 3, cells := 0, slots := 0, locals := 72 } : Room) [.ref (ad pT), .int (nI q), .int gr, .int hour] X ((x0_takesFrom tt X pT q gr hour, X)) := by
  refine xM_of (code := cX0_takesFrom) (nL := 4) (own := RX0) (by decide) rfl rfl (Nat.le_of_ble_eq_true rfl) ?_
  intro zp ze zs zm zg zb zt zc zA zQ C hA hret H locs ls hl G
  have hx := C.1
  have hb := C.2.1
  have hl : lv_has ls 4 [(0, .ref (ad pT)), (1, .int (nI q)), (2, .int gr), (3, .int hour)] := hl
  obtain ⟨rM, hF⟩ : ∃ Z : Int32, Z = x0_takesFrom tt X pT q gr hour := ⟨_, rfl⟩
  rw [← hF] at hret
  unfold x0_takesFrom at hF
  refine lv_aload_n hx hb dX0_takesFrom_0 rfl (lv_at hl 0 rfl) ?_
  refine xr_get C G hT.2 (xE_c hT.1) rfl (fun _ h => List.mem_cons_of_mem _ (List.mem_append_left _ (List.mem_append_right _ h))) 10 (by decide) (show Cond.fieldLink RX0 25 "WheatCounts$Estate" "kind" "[I" ∈ _ by decide +kernel) rfl dX0_takesFrom_1 ?_
  refine lv_iload_n hx hb dX0_takesFrom_4 rfl (lv_at hl 1 rfl) ?_
  refine xr_ald C G (xE_4 hT).2 (xI_c (xE_4 hT).1 _) q rfl (by omega) (xI_lt (xE_4 hT)) dX0_takesFrom_5 ?_
  refine lv_iconst (v := 3) hx hb dX0_takesFrom_6 (by decide) ?_
  refine xr_Si C hA G (kx1_isOneOf zl D ad sa cc tt X (X (pT + 4) q) 3) (va_cwS 2 C.2.2.2.2.1 gX0_takesFrom_X1_isOneOf rfl rfl rfl (by decide +kernel) ⟨Nat.le_of_ble_eq_true rfl, Nat.le_of_ble_eq_true rfl⟩) rfl hl.1 rfl (Nat.le_of_ble_eq_true rfl) dX0_takesFrom_7 ⟨Nat.le_refl _, Nat.le_refl _⟩ (fun H locs G => ?_)
  refine lv_if_ne (tgt := 15) hx hb dX0_takesFrom_10 (by decide) (fun c10 => ?_) (fun c10 => ?_)
  · rw [if_neg c10] at hF
    refine lv_aload_n hx hb dX0_takesFrom_15 rfl (lv_at hl 0 rfl) ?_
    refine xr_get C G hT.2 (xE_c hT.1) rfl (fun _ h => List.mem_cons_of_mem _ (List.mem_append_left _ (List.mem_append_right _ h))) 10 (by decide) (show Cond.fieldLink RX0 25 "WheatCounts$Estate" "kind" "[I" ∈ _ by decide +kernel) rfl dX0_takesFrom_16 ?_
    refine lv_iload_n hx hb dX0_takesFrom_19 rfl (lv_at hl 1 rfl) ?_
    refine xr_ald C G (xE_4 hT).2 (xI_c (xE_4 hT).1 _) q rfl (by omega) (xI_lt (xE_4 hT)) dX0_takesFrom_20 ?_
    refine lv_aload_n hx hb dX0_takesFrom_21 rfl (lv_at hl 0 rfl) ?_
    refine lv_aload_n hx hb dX0_takesFrom_22 rfl (lv_at hl 0 rfl) ?_
    refine xr_get C G hT.2 (xE_c hT.1) rfl (fun _ h => List.mem_cons_of_mem _ (List.mem_append_left _ (List.mem_append_right _ h))) 11 (by decide) (show Cond.fieldLink RX0 28 "WheatCounts$Estate" "m" "[I" ∈ _ by decide +kernel) rfl dX0_takesFrom_23 ?_
    refine lv_iload_n hx hb dX0_takesFrom_26 rfl (lv_at hl 1 rfl) ?_
    refine xr_ald C G (xE_5 hT).2 (xI_c (xE_5 hT).1 _) q rfl (by omega) (xI_lt (xE_5 hT)) dX0_takesFrom_27 ?_
    refine lv_iload_n hx hb dX0_takesFrom_28 rfl (lv_at hl 2 rfl) ?_
    refine lv_iload_n hx hb dX0_takesFrom_29 rfl (lv_at hl 3 rfl) ?_
    refine xr_Vi C hA G (kx0_theftGiven zl D ad sa cc tt X pT (X (pT + 5) q) gr hour hT (by first | assumption | omega)) hT.2 (xE_c hT.1) rfl (cwV 3 C.2.2.2.2.1 gX0_takesFrom_X0_theftGiven rfl rfl rfl (by decide +kernel) ⟨Nat.le_of_ble_eq_true rfl, Nat.le_of_ble_eq_true rfl⟩) rfl hl.1 rfl (Nat.le_of_ble_eq_true rfl) dX0_takesFrom_30 ⟨Nat.le_refl _, Nat.le_refl _⟩ (fun H locs G => ?_)
    refine xr_ps C hA G (ks_X1_takesOf zl (X (pT + 4) q) (x0_theftGiven tt X pT (X (pT + 5) q) gr hour)) (va_cwS 2 C.2.2.2.2.1 gX0_takesFrom_X1_takesOf rfl rfl rfl (by decide +kernel) ⟨Nat.le_of_ble_eq_true rfl, Nat.le_of_ble_eq_true rfl⟩) rfl hl.1 rfl (Nat.le_of_ble_eq_true rfl) dX0_takesFrom_33 ⟨Nat.le_refl _, Nat.le_refl _⟩ (fun H locs G => ?_)
    exact hret _ _ _ _ _ _ (by rw [hF]) G dX0_takesFrom_36
  · rw [if_pos c10] at hF
    refine lv_iconst (v := 0) hx hb dX0_takesFrom_13 (by decide) ?_
    exact hret _ _ _ _ _ _ (by rw [hF]) G dX0_takesFrom_14
set_option maxRecDepth 100000 in
set_option maxHeartbeats 4000000 in
theorem kx0_seenBy (zl : Launch) (D : va_G) (ad sa : Nat → Nat) (cc : cT) (tt : tT) (X : xS) (pT : Nat) (q : Nat) (hT : kE pT) (hR : eR tt X pT) (hq : q < 8) : xM zl D ad sa cc tt yX0_seenBy wsX0_seenBy ({ frames := 4, cells := 0, slots := 0, locals := 95 } : Room) [.ref (ad pT), .int (nI q)] X ((x0_seenBy tt X pT q, X)) := by
  refine xM_of (code := cX0_seenBy) (nL := 2) (own := RX0) (by decide) rfl rfl (Nat.le_of_ble_eq_true rfl) ?_
  intro zp ze zs zm zg zb zt zc zA zQ C hA hret H locs ls hl G
  have hx := C.1
  have hb := C.2.1
  have hl : lv_has ls 2 [(0, .ref (ad pT)), (1, .int (nI q))] := hl
  obtain ⟨rM, hF⟩ : ∃ Z : Int32, Z = x0_seenBy tt X pT q := ⟨_, rfl⟩
  rw [← hF] at hret
  unfold x0_seenBy at hF
  have hc := hR.1
  have hp := hR.2.1
  have ha := hR.2.2.1
  have ht := hR.2.2.2
  have hc2 := hc.2.1
  have hc3 := hc.2.2
  have hp2 := hp.2
  refine lv_aload_n hx hb dX0_seenBy_0 rfl (lv_at hl 0 rfl) ?_
  refine lv_iload_n hx hb dX0_seenBy_1 rfl (lv_at hl 1 rfl) ?_
  refine lv_aload_n hx hb dX0_seenBy_2 rfl (lv_at hl 0 rfl) ?_
  refine xr_get C G hT.2 (xE_c hT.1) rfl (fun _ h => List.mem_cons_of_mem _ (List.mem_append_left _ (List.mem_append_right _ h))) 12 (by decide) (show Cond.fieldLink RX0 31 "WheatCounts$Estate" "at" "[I" ∈ _ by decide +kernel) rfl dX0_seenBy_3 ?_
  refine lv_iload_n hx hb dX0_seenBy_6 rfl (lv_at hl 1 rfl) ?_
  refine xr_ald C G (xE_6 hT).2 (xI_c (xE_6 hT).1 _) q rfl (by omega) (xI_lt (xE_6 hT)) dX0_seenBy_7 ?_
  refine lv_aload_n hx hb dX0_seenBy_8 rfl (lv_at hl 0 rfl) ?_
  refine lv_iload_n hx hb dX0_seenBy_9 rfl (lv_at hl 1 rfl) ?_
  refine lv_aload_n hx hb dX0_seenBy_10 rfl (lv_at hl 0 rfl) ?_
  refine xr_get C G hT.2 (xE_c hT.1) rfl (fun _ h => List.mem_cons_of_mem _ (List.mem_append_left _ (List.mem_append_right _ h))) 6 (by decide) (show Cond.fieldLink RX0 64 "WheatCounts$Estate" "fog" "I" ∈ _ by decide +kernel) rfl dX0_seenBy_11 ?_
  refine lv_aload_n hx hb dX0_seenBy_14 rfl (lv_at hl 0 rfl) ?_
  refine xr_get C G hT.2 (xE_c hT.1) rfl (fun _ h => List.mem_cons_of_mem _ (List.mem_append_left _ (List.mem_append_right _ h))) 7 (by decide) (show Cond.fieldLink RX0 67 "WheatCounts$Estate" "hour" "I" ∈ _ by decide +kernel) rfl dX0_seenBy_15 ?_
  refine xr_Vi C hA G (kx0_sightIn zl D ad sa cc tt X pT q (X pT 6) (X pT 7) hT (by first | assumption | omega) (by first | assumption | omega)) hT.2 (xE_c hT.1) rfl (cwV 3 C.2.2.2.2.1 gX0_seenBy_X0_sightIn rfl rfl rfl (by decide +kernel) ⟨Nat.le_of_ble_eq_true rfl, Nat.le_of_ble_eq_true rfl⟩) rfl hl.1 rfl (Nat.le_of_ble_eq_true rfl) dX0_seenBy_18 ⟨Nat.le_refl _, Nat.le_refl _⟩ (fun H locs G => ?_)
  refine lv_aload_n hx hb dX0_seenBy_21 rfl (lv_at hl 0 rfl) ?_
  refine xr_get C G hT.2 (xE_c hT.1) rfl (fun _ h => List.mem_cons_of_mem _ (List.mem_append_left _ (List.mem_append_right _ h))) 4 (by decide) (show Cond.fieldLink RX0 58 "WheatCounts$Estate" "hedges" "I" ∈ _ by decide +kernel) rfl dX0_seenBy_22 ?_
  refine xr_Vi C hA G (kx0_viewFrom zl D ad sa cc tt X pT q (vn (X (pT + 6) q)) (x0_sightIn tt X pT q (X pT 6) (X pT 7)) (X pT 4) hT hc hq (ha q hq).2) hT.2 (xE_c hT.1) rfl (cwV 4 C.2.2.2.2.1 gX0_seenBy_X0_viewFrom rfl rfl rfl (by decide +kernel) ⟨Nat.le_of_ble_eq_true rfl, Nat.le_of_ble_eq_true rfl⟩) rfl hl.1 (cons_int rfl (cons_int rfl (cons_int (ha q (by omega)).1 (cons_int rfl rfl)))) (Nat.le_of_ble_eq_true rfl) dX0_seenBy_25 ⟨Nat.le_refl _, Nat.le_refl _⟩ (fun H locs G => ?_)
  exact hret _ _ _ _ _ _ (by rw [hF]) G dX0_seenBy_28
set_option maxRecDepth 100000 in
set_option maxHeartbeats 4000000 in
theorem kx0_whoSee (zl : Launch) (D : va_G) (ad sa : Nat → Nat) (cc : cT) (tt : tT) (X : xS) (pT : Nat) (c : Int32) (hT : kE pT) (hR : eR tt X pT) : xM zl D ad sa cc tt yX0_whoSee wsX0_whoSee ({ frames := 5, cells := 0, slots := 0, locals := 116 } : Room) [.ref (ad pT), .int c] X ((x0_whoSee tt X pT c, X)) := by
  refine xM_of (code := cX0_whoSee) (nL := 4) (own := RX0) (by decide) rfl rfl (Nat.le_of_ble_eq_true rfl) ?_
  intro zp ze zs zm zg zb zt zc zA zQ C hA hret H locs ls hl G
  have hx := C.1
  have hb := C.2.1
  have hl : lv_has ls 4 [(0, .ref (ad pT)), (1, .int c)] := hl
  obtain ⟨rM, hF⟩ : ∃ Z : Int32, Z = x0_whoSee tt X pT c := ⟨_, rfl⟩
  rw [← hF] at hret
  unfold x0_whoSee at hF
  have hc := hR.1
  have hp := hR.2.1
  have ha := hR.2.2.1
  have ht := hR.2.2.2
  have hc2 := hc.2.1
  have hc3 := hc.2.2
  have hp2 := hp.2
  refine lv_iconst (v := 0) hx hb dX0_whoSee_0 (by decide) ?_
  refine lv_istore_n (lv' := [(2, .int 0), (0, .ref (ad pT)), (1, .int c)]) hx hb dX0_whoSee_1 rfl hl (by decide) rfl (fun ls hl => ?_)
  refine lv_iconst (v := 0) hx hb dX0_whoSee_2 (by decide) ?_
  refine lv_istore_n (lv' := [(3, .int 0), (2, .int 0), (0, .ref (ad pT)), (1, .int c)]) hx hb dX0_whoSee_3 rfl hl (by decide) rfl (fun ls hl => ?_)
  obtain ⟨v2_4x, hX4⟩ : ∃ (v2_4x : Int32), v2_4x = x0_whoSee_L4 tt X pT c (vn (X pT 9)) := ⟨_, rfl⟩
  rw [lt_e hX4] at hF
  have hrest4 : ∀ (H : Heap) (locs : List Loc) (ls : Array Slot), lv_has ls 4 [(0, .ref (ad pT)), (1, .int c), (2, .int v2_4x), (3, .int (nI (vn (X pT 9))))] → xG D ad sa cc tt zA zs.heap H locs X → W zp zl ze ({ frames := 5, cells := 0, slots := 0, locals := 116 } : Room) zs zm zg zb zt zc H locs 0 0 zQ (F0 zm 36 ls []) := by
    intro H locs ls hl G
    refine lv_iload_n hx hb dX0_whoSee_36 rfl (lv_at hl 2 rfl) ?_
    exact hret _ _ _ _ _ _ (by rw [hF]) G dX0_whoSee_37
  have hloop4 : ∀ (zj k4 : Nat), zj + k4 = vn (X pT 9) → ∀ (v2_4 : Int32), v2_4 = x0_whoSee_L4 tt X pT c k4 → ∀ (H : Heap) (locs : List Loc) (ls : Array Slot), lv_has ls 4 [(0, .ref (ad pT)), (1, .int c), (2, .int v2_4), (3, .int (nI k4))] → xG D ad sa cc tt zA zs.heap H locs X → W zp zl ze ({ frames := 5, cells := 0, slots := 0, locals := 116 } : Room) zs zm zg zb zt zc H locs 0 0 zQ (F0 zm 4 ls []) := by
    intro zj
    induction zj with
    | zero =>
      intro k4 hk v2_4 hL H locs ls hl G
      have hk : k4 = vn (X pT 9) := by omega
      rw [hk] at hL hl
      refine lv_iload_n hx hb dX0_whoSee_4 rfl (lv_at hl 3 rfl) ?_
      refine lv_aload_n hx hb dX0_whoSee_5 rfl (lv_at hl 0 rfl) ?_
      refine xr_get C G hT.2 (xE_c hT.1) rfl (fun _ h => List.mem_cons_of_mem _ (List.mem_append_left _ (List.mem_append_right _ h))) 9 (by decide) (show Cond.fieldLink RX0 73 "WheatCounts$Estate" "people" "I" ∈ _ by decide +kernel) rfl dX0_whoSee_6 ?_
      refine lv_icmp_ge (tgt := 36) hx hb dX0_whoSee_9 (by decide) (fun c9 => ?_) (fun c9 => absurd (lp_out (n := vn (X pT 9)) hp.1) c9)
      obtain rfl := hL.trans hX4.symm
      exact hrest4 _ _ _ (lv_sub hl [0, 1, 2, 3] rfl) G
    | succ zj ih =>
      intro k4 hk v2_4 hL H locs ls hl G
      have hkn : k4 < vn (X pT 9) := by omega
      obtain ⟨v2_4s, hS0⟩ : ∃ (v2_4s : Int32), v2_4s = x0_whoSee_L4 tt X pT c (k4 + 1) := ⟨_, rfl⟩
      have hS := hS0
      rw [x0_whoSee_L4_s, lt_e hL] at hS
      refine lv_iload_n hx hb dX0_whoSee_4 rfl (lv_at hl 3 rfl) ?_
      refine lv_aload_n hx hb dX0_whoSee_5 rfl (lv_at hl 0 rfl) ?_
      refine xr_get C G hT.2 (xE_c hT.1) rfl (fun _ h => List.mem_cons_of_mem _ (List.mem_append_left _ (List.mem_append_right _ h))) 9 (by decide) (show Cond.fieldLink RX0 73 "WheatCounts$Estate" "people" "I" ∈ _ by decide +kernel) rfl dX0_whoSee_6 ?_
      refine lv_icmp_ge (tgt := 36) hx hb dX0_whoSee_9 (by decide) (fun c9 => absurd c9 (lp_in (n := vn (X pT 9)) hp.1 hkn (by omega))) (fun c9 => ?_)
      refine lv_aload_n hx hb dX0_whoSee_12 rfl (lv_at hl 0 rfl) ?_
      refine lv_iload_n hx hb dX0_whoSee_13 rfl (lv_at hl 3 rfl) ?_
      refine xr_Vi C hA G (kx0_seenBy zl D ad sa cc tt X pT k4 hT hR (by omega)) hT.2 (xE_c hT.1) rfl (cwV 1 C.2.2.2.2.1 gX0_whoSee_X0_seenBy rfl rfl rfl (by decide +kernel) ⟨Nat.le_of_ble_eq_true rfl, Nat.le_of_ble_eq_true rfl⟩) rfl hl.1 rfl (Nat.le_of_ble_eq_true rfl) dX0_whoSee_14 ⟨Nat.le_refl _, Nat.le_refl _⟩ (fun H locs G => ?_)
      refine lv_iload_n hx hb dX0_whoSee_17 rfl (lv_at hl 1 rfl) ?_
      refine xr_psn C hA G (ks_X8_has zl (x0_seenBy tt X pT k4) c) ⟨va_cnB 2 C.2.2.2.2.1 gX0_whoSee_X8_has_n103 rfl rfl rfl (C.2.2.2.2.2.2.1 _ (List.mem_of_getElem? (i := 0) rfl)) (C.2.2.2.2.1 (.initialized RX8) (by decide +kernel)) (by decide +kernel) ⟨Nat.le_of_ble_eq_true rfl, Nat.le_of_ble_eq_true rfl⟩, C.2.2.2.2.1 (.static yX8_has) (by decide +kernel), trivial⟩ rfl hl.1 rfl (Nat.le_of_ble_eq_true rfl) dX0_whoSee_18 ⟨Nat.le_refl _, Nat.le_refl _⟩ (fun H locs G => ?_)
      obtain ⟨z2_30, hX30⟩ : ∃ (z2_30 : Int32), z2_30 = ((if (p8_has (x0_seenBy tt X pT k4) c) = 0 then v2_4 else (lt (v2_4 ||| (1 <<< ((nI k4) &&& 31))) fun (x29 : Int32) => x29)) : Int32) := ⟨_, rfl⟩
      rw [lt_e hX30] at hS
      have hj30 : ∀ (H : Heap) (locs : List Loc) (ls : Array Slot), lv_has ls 4 [(0, .ref (ad pT)), (1, .int c), (2, .int z2_30), (3, .int (nI k4))] → xG D ad sa cc tt zA zs.heap H locs X → W zp zl ze ({ frames := 5, cells := 0, slots := 0, locals := 116 } : Room) zs zm zg zb zt zc H locs 0 0 zQ (F0 zm 30 ls []) := by
        intro H locs ls hl G
        refine lv_iinc (v := nI (k4 + 1)) (lv' := [(3, .int (nI (k4 + 1))), (0, .ref (ad pT)), (1, .int c), (2, .int z2_30)]) hx hb dX0_whoSee_30 hl (k := 3) rfl (nt_add rfl (show (1 : Int32) = nI 1 from rfl)) (by decide) rfl (fun ls hl => ?_)
        refine lv_goto (tgt := 4) hx hb dX0_whoSee_33 (by decide) ?_
        subst hS
        exact ih (k4 + 1) (by omega) _ hS0 _ _ _ (lv_sub hl [1, 2, 3, 0] rfl) G
      refine lv_if_eq (tgt := 30) hx hb dX0_whoSee_21 (by decide) (fun c21 => ?_) (fun c21 => ?_)
      · rw [if_pos c21] at hX30
        subst hX30
        exact hj30 _ _ _ (lv_sub hl [0, 1, 2, 3] rfl) G
      · rw [if_neg c21] at hX30
        refine lv_iload_n hx hb dX0_whoSee_24 rfl (lv_at hl 2 rfl) ?_
        refine lv_iconst (v := 1) hx hb dX0_whoSee_25 (by decide) ?_
        refine lv_iload_n hx hb dX0_whoSee_26 rfl (lv_at hl 3 rfl) ?_
        refine lv_ishl hx hb dX0_whoSee_27 ?_
        refine lv_ior hx hb dX0_whoSee_28 ?_
        refine lv_topi (fun x29 hx29 => ?_)
        rw [lt_e hx29] at hX30
        refine lv_istore_n (lv' := [(2, .int x29), (0, .ref (ad pT)), (1, .int c), (3, .int (nI k4))]) hx hb dX0_whoSee_29 rfl hl (by decide) rfl (fun ls hl => ?_)
        subst hX30
        exact hj30 _ _ _ (lv_sub hl [1, 2, 0, 3] rfl) G
  exact hloop4 _ 0 (Nat.add_zero _) _ rfl _ _ _ (lv_sub hl [2, 3, 1, 0] rfl) G
set_option maxRecDepth 100000 in
set_option maxHeartbeats 4000000 in
theorem kx0_isSeen (zl : Launch) (D : va_G) (ad sa : Nat → Nat) (cc : cT) (tt : tT) (X : xS) (pT : Nat) (r : Nat) (n : Nat) (c : Int32) (between : Int32) (hT : kE pT) (hr : kI r n) (hc : eC X pT) (hp : eP X pT) (ha : eA X pT) (hn : 8 ≤ n) : xM zl D ad sa cc tt yX0_isSeen wsX0_isSeen ({ frames := 3, cells := 0, slots := 0, locals := 70 } : Room) [.ref (ad pT), .int c, .ref (ad r), .int between] X ((x0_isSeen X pT r n c between, X)) := by
  refine xM_ofZ (code := cX0_isSeen) (nL := 5) (own := RX0) (by decide) rfl rfl (Nat.le_of_ble_eq_true rfl) ?_
  intro zp ze zs zm zg zb zt zc zA zQ C hA hret H locs ls hl G
  have hx := C.1
  have hb := C.2.1
  have hl : lv_has ls 5 [(0, .ref (ad pT)), (1, .int c), (2, .ref (ad r)), (3, .int between)] := hl
  obtain ⟨rM, hF⟩ : ∃ Z : Int32, Z = x0_isSeen X pT r n c between := ⟨_, rfl⟩
  rw [← hF] at hret
  unfold x0_isSeen at hF
  have hp2 := hp.2
  refine lv_iconst (v := 0) hx hb dX0_isSeen_0 (by decide) ?_
  refine lv_istore (lv' := [(4, .int 0), (0, .ref (ad pT)), (1, .int c), (2, .ref (ad r)), (3, .int between)]) hx hb dX0_isSeen_1 hl (by decide) rfl (fun ls hl => ?_)
  obtain ⟨K3, hK3⟩ : ∃ Zk : Nat → Int32, Zk = (fun (ksx : Nat) => 0) := ⟨_, rfl⟩
  rw [← hK3] at hF
  have hrest3 : ∀ (ksx : Nat), rM = K3 ksx → (True) → ∀ (H : Heap) (locs : List Loc) (ls : Array Slot), lv_has ls 5 [(0, .ref (ad pT)), (1, .int c), (2, .ref (ad r)), (3, .int between), (4, .int (nI ksx))] → xG D ad sa cc tt zA zs.heap H locs X → W zp zl ze ({ frames := 3, cells := 0, slots := 0, locals := 70 } : Room) zs zm zg zb zt zc H locs 0 0 zQ (F0 zm 52 ls []) := by
    intro ksx hF hR9 H locs ls hl G
    have hF : rM = 0 := by rw [hK3] at hF; exact hF
    refine lv_iconst (v := 0) hx hb dX0_isSeen_52 (by decide) ?_
    exact hret _ _ _ _ _ _ (by rw [hF]) G (Or.inl rfl) dX0_isSeen_53
  have hloop3 : ∀ (f3 : Nat) (ks : Nat), (ks ≤ 8 ∧ 8 < ks + f3) → rM = x0_isSeen_L3 X pT r n c between K3 f3 ks → ∀ (H : Heap) (locs : List Loc) (ls : Array Slot), lv_has ls 5 [(0, .ref (ad pT)), (1, .int c), (2, .ref (ad r)), (3, .int between), (4, .int (nI ks))] → xG D ad sa cc tt zA zs.heap H locs X → W zp zl ze ({ frames := 3, cells := 0, slots := 0, locals := 70 } : Room) zs zm zg zb zt zc H locs 0 0 zQ (F0 zm 3 ls []) := by
    intro f3
    induction f3 with
    | zero =>
      intro ks hI hL3 H locs ls hl G
      exact absurd hI.2 (by omega)
    | succ f3 ih3 =>
      intro ks hI hL3 H locs ls hl G
      rw [x0_isSeen_L3_s] at hL3
      refine lv_iload hx hb dX0_isSeen_3 (lv_at hl 4 rfl) ?_
      refine lv_aload_n hx hb dX0_isSeen_5 rfl (lv_at hl 0 rfl) ?_
      refine xr_get C G hT.2 (xE_c hT.1) rfl (fun _ h => List.mem_cons_of_mem _ (List.mem_append_right _ h)) 9 (by decide) (show Cond.fieldLink RX0 73 "WheatCounts$Estate" "people" "I" ∈ _ by decide +kernel) rfl dX0_isSeen_6 ?_
      refine lv_icmp_ge (tgt := 52) hx hb dX0_isSeen_9 (by decide) (fun c9 => ?_) (fun c9 => ?_)
      · rw [if_pos c9] at hL3
        exact hrest3 ks hL3 trivial _ _ _ (lv_sub hl [0, 1, 2, 3, 4] rfl) G
      · rw [if_neg c9] at hL3
        have hs8 := lp_lt hp.1 c9 (by omega)
        refine lv_iload hx hb dX0_isSeen_12 (lv_at hl 4 rfl) ?_
        refine lv_aload_n hx hb dX0_isSeen_14 rfl (lv_at hl 2 rfl) ?_
        refine xr_len C G hr.2 (xI_c hr.1 _) dX0_isSeen_15 ?_
        refine lv_icmp_ge (tgt := 52) hx hb dX0_isSeen_16 (by decide) (fun c16 => ?_) (fun c16 => ?_)
        · rw [if_pos c16] at hL3
          exact hrest3 ks hL3 trivial _ _ _ (lv_sub hl [0, 1, 2, 3, 4] rfl) G
        · rw [if_neg c16] at hL3
          refine lv_aload_n hx hb dX0_isSeen_19 rfl (lv_at hl 0 rfl) ?_
          refine lv_iload hx hb dX0_isSeen_20 (lv_at hl 4 rfl) ?_
          refine lv_aload_n hx hb dX0_isSeen_22 rfl (lv_at hl 0 rfl) ?_
          refine xr_get C G hT.2 (xE_c hT.1) rfl (fun _ h => List.mem_cons_of_mem _ (List.mem_append_right _ h)) 12 (by decide) (show Cond.fieldLink RX0 31 "WheatCounts$Estate" "at" "[I" ∈ _ by decide +kernel) rfl dX0_isSeen_23 ?_
          refine lv_iload hx hb dX0_isSeen_26 (lv_at hl 4 rfl) ?_
          refine xr_ald C G (xE_6 hT).2 (xI_c (xE_6 hT).1 _) ks rfl (by omega) (xI_lt (xE_6 hT)) dX0_isSeen_28 ?_
          refine lv_aload_n hx hb dX0_isSeen_29 rfl (lv_at hl 2 rfl) ?_
          refine lv_iload hx hb dX0_isSeen_30 (lv_at hl 4 rfl) ?_
          refine xr_ald C G hr.2 (xI_c hr.1 _) ks rfl (by omega) (xI_lt hr) dX0_isSeen_32 ?_
          refine lv_iload_n hx hb dX0_isSeen_33 rfl (lv_at hl 3 rfl) ?_
          refine xr_Vi C hA G (kx0_viewFrom zl D ad sa cc tt X pT ks (vn (X (pT + 6) ks)) (X r ks) between hT hc (by omega) (ha ks (by omega)).2) hT.2 (xE_c hT.1) rfl (cwV 4 C.2.2.2.2.1 gX0_isSeen_X0_viewFrom rfl rfl rfl (by decide +kernel) ⟨Nat.le_of_ble_eq_true rfl, Nat.le_of_ble_eq_true rfl⟩) rfl hl.1 (cons_int rfl (cons_int rfl (cons_int (ha ks (by omega)).1 (cons_int rfl rfl)))) (Nat.le_of_ble_eq_true rfl) dX0_isSeen_34 ⟨Nat.le_refl _, Nat.le_refl _⟩ (fun H locs G => ?_)
          refine lv_iload_n hx hb dX0_isSeen_37 rfl (lv_at hl 1 rfl) ?_
          refine xr_psn C hA G (ks_X8_has zl (x0_viewFrom X pT ks (vn (X (pT + 6) ks)) (X r ks) between) c) ⟨va_cnB 2 C.2.2.2.2.1 gX0_isSeen_X8_has_n103 rfl rfl rfl (C.2.2.2.2.2.2.1 _ (List.mem_of_getElem? (i := 0) rfl)) (C.2.2.2.2.1 (.initialized RX8) (by decide +kernel)) (by decide +kernel) ⟨Nat.le_of_ble_eq_true rfl, Nat.le_of_ble_eq_true rfl⟩, C.2.2.2.2.1 (.static yX8_has) (by decide +kernel), trivial⟩ rfl hl.1 rfl (Nat.le_of_ble_eq_true rfl) dX0_isSeen_38 ⟨Nat.le_refl _, Nat.le_refl _⟩ (fun H locs G => ?_)
          refine lv_if_eq (tgt := 46) hx hb dX0_isSeen_41 (by decide) (fun c41 => ?_) (fun c41 => ?_)
          · rw [if_pos c41] at hL3
            refine lv_iinc (v := nI (ks + 1)) (lv' := [(4, .int (nI (ks + 1))), (0, .ref (ad pT)), (1, .int c), (2, .ref (ad r)), (3, .int between)]) hx hb dX0_isSeen_46 hl (k := 4) rfl (nt_add rfl (show (1 : Int32) = nI 1 from rfl)) (by decide) rfl (fun ls hl => ?_)
            refine lv_goto (tgt := 3) hx hb dX0_isSeen_49 (by decide) ?_
            exact ih3 (ks + 1) ⟨by omega, by omega⟩ hL3 _ _ _ (lv_sub hl [1, 2, 3, 4, 0] rfl) G
          · rw [if_neg c41] at hL3
            refine lv_iconst (v := 1) hx hb dX0_isSeen_44 (by decide) ?_
            exact hret _ _ _ _ _ _ (by rw [hL3]) G (Or.inr rfl) dX0_isSeen_45
  exact hloop3 9 0 ⟨by omega, by omega⟩ hF _ _ _ (lv_sub hl [1, 2, 3, 4, 0] rfl) G
set_option maxRecDepth 100000 in
set_option maxHeartbeats 4000000 in
theorem kx4_takeOver (zl : Launch) (D : va_G) (ad sa : Nat → Nat) (cc : cT) (tt : tT) (X : xS) (pT : Nat) (pA : Nat) (hT : kR pT) (hpA : kR pA) (hz : X pA 1 = nI (vn (X pA 1)) ∧ vn (X pA 1) ≤ rcap pA) (hy : rcap pA ≤ rcap pT) (hne : pA ≠ pT ∧ pA ≠ pT + 1 ∧ pA + 1 ≠ pT) : xMv zl D ad sa cc tt yX4_takeOver wsX4_takeOver ({ frames := 1, cells := 0, slots := 0, locals := 21 } : Room) [.ref (ad pT), .ref (ad pA)] X (x4_takeOver X pT pA) := by
  refine xMv_of (code := cX4_takeOver) (nL := 3) (own := RX4) (by decide) rfl rfl (Nat.le_of_ble_eq_true rfl) ?_
  intro zp ze zs zm zg zb zt zc zA zQ C hA hret H locs ls hl G
  have hx := C.1
  have hb := C.2.1
  have hl : lv_has ls 3 [(0, .ref (ad pT)), (1, .ref (ad pA))] := hl
  obtain ⟨rM, hF⟩ : ∃ Z : xS, Z = x4_takeOver X pT pA := ⟨_, rfl⟩
  rw [← hF] at hret
  unfold x4_takeOver at hF
  have hcap := rcap_le hT
  refine lv_aload_n hx hb dX4_takeOver_0 rfl (lv_at hl 0 rfl) ?_
  refine xr_Vv C hA G (kx4_clear zl D ad sa cc tt X pT hT) hT.2 (xR_c hT.1) rfl (cwV 0 C.2.2.2.2.1 gX4_takeOver_X4_clear rfl rfl rfl (by decide +kernel) ⟨Nat.le_of_ble_eq_true rfl, Nat.le_of_ble_eq_true rfl⟩) rfl hl.1 rfl (Nat.le_of_ble_eq_true rfl) dX4_takeOver_1 ⟨Nat.le_refl _, Nat.le_refl _⟩ (fun H locs G => ?_)
  obtain ⟨X1, hX1⟩ : ∃ Z : xS, Z = x4_clear X pT := ⟨_, rfl⟩
  have G : xG D ad sa cc tt zA zs.heap H locs X1 := by rw [hX1]; exact G
  rw [lt_e hX1] at hF
  refine lv_iconst (v := 0) hx hb dX4_takeOver_4 (by decide) ?_
  refine lv_istore_n (lv' := [(2, .int 0), (0, .ref (ad pT)), (1, .ref (ad pA))]) hx hb dX4_takeOver_5 rfl hl (by decide) rfl (fun ls hl => ?_)
  obtain ⟨X6x, hX6⟩ : ∃ (X6x : xS), X6x = x4_takeOver_L6 pT pA X1 (vn (X pA 1)) := ⟨_, rfl⟩
  rw [lt_e hX6] at hF
  have hrest6 : ∀ (H : Heap) (locs : List Loc) (ls : Array Slot), lv_has ls 3 [(0, .ref (ad pT)), (1, .ref (ad pA)), (2, .int (nI (vn (X pA 1))))] → xG D ad sa cc tt zA zs.heap H locs X6x → W zp zl ze ({ frames := 1, cells := 0, slots := 0, locals := 21 } : Room) zs zm zg zb zt zc H locs 0 0 zQ (F0 zm 29 ls []) := by
    intro H locs ls hl G
    exact hret _ _ _ _ _ hF G dX4_takeOver_29
  have hloop6 : ∀ (zj k6 : Nat), zj + k6 = (vn (X pA 1)) → ∀ (X6 : xS), X6 = x4_takeOver_L6 pT pA X1 k6 → ∀ (H : Heap) (locs : List Loc) (ls : Array Slot), lv_has ls 3 [(0, .ref (ad pT)), (1, .ref (ad pA)), (2, .int (nI k6))] → xG D ad sa cc tt zA zs.heap H locs X6 → W zp zl ze ({ frames := 1, cells := 0, slots := 0, locals := 21 } : Room) zs zm zg zb zt zc H locs 0 0 zQ (F0 zm 6 ls []) := by
    intro zj
    induction zj with
    | zero =>
      intro k6 hk X6 hL H locs ls hl G
      have hk : k6 = (vn (X pA 1)) := by omega
      rw [hk] at hL hl
      have hr6 : ∀ p j, X6 p j = if p = pT ∧ j = 1 then nI (vn (X pA 1)) else if p = pT + 1 ∧ j < (vn (X pA 1)) then X (pA + 1) j else X p j := by rw [hL, hX1]; intro p j; exact rt_at X pT pA hz hy (by omega) hne (vn (X pA 1)) (by omega) p j
      have hra : X6 pA = X pA := funext fun j => by rw [hr6 pA j, if_neg (fun h => hne.1 h.1), if_neg (fun h => hne.2.1 h.1)]
      refine lv_iload_n hx hb dX4_takeOver_6 rfl (lv_at hl 2 rfl) ?_
      refine lv_aload_n hx hb dX4_takeOver_7 rfl (lv_at hl 1 rfl) ?_
      refine xr_get C G hpA.2 (xR_c hpA.1) rfl (fun _ h => List.mem_cons_of_mem _ (List.mem_append_right _ h)) 1 (by decide) (show Cond.fieldLink RX4 19 "WheatCounts$Row" "size" "I" ∈ _ by decide +kernel) rfl dX4_takeOver_8 ?_
      refine lv_icmp_ge (tgt := 29) hx hb dX4_takeOver_11 (by decide) (fun c11 => ?_) (fun c11 => absurd (lp_out (n := (vn (X pA 1))) (by rw [hra]; exact hz.1)) c11)
      obtain rfl := hL.trans hX6.symm
      exact hrest6 _ _ _ (lv_sub hl [0, 1, 2] rfl) G
    | succ zj ih =>
      intro k6 hk X6 hL H locs ls hl G
      have hkn : k6 < (vn (X pA 1)) := by omega
      obtain ⟨X6s, hS0⟩ : ∃ (X6s : xS), X6s = x4_takeOver_L6 pT pA X1 (k6 + 1) := ⟨_, rfl⟩
      have hS := hS0
      rw [x4_takeOver_L6_s, lt_e hL] at hS
      have hr6 : ∀ p j, X6 p j = if p = pT ∧ j = 1 then nI k6 else if p = pT + 1 ∧ j < k6 then X (pA + 1) j else X p j := by rw [hL, hX1]; intro p j; exact rt_at X pT pA hz hy (by omega) hne k6 (by omega) p j
      have hra : X6 pA = X pA := funext fun j => by rw [hr6 pA j, if_neg (fun h => hne.1 h.1), if_neg (fun h => hne.2.1 h.1)]
      have hrt : X6 pT 1 = nI k6 := by rw [hr6 pT 1, if_pos ⟨rfl, rfl⟩]
      refine lv_iload_n hx hb dX4_takeOver_6 rfl (lv_at hl 2 rfl) ?_
      refine lv_aload_n hx hb dX4_takeOver_7 rfl (lv_at hl 1 rfl) ?_
      refine xr_get C G hpA.2 (xR_c hpA.1) rfl (fun _ h => List.mem_cons_of_mem _ (List.mem_append_right _ h)) 1 (by decide) (show Cond.fieldLink RX4 19 "WheatCounts$Row" "size" "I" ∈ _ by decide +kernel) rfl dX4_takeOver_8 ?_
      refine lv_icmp_ge (tgt := 29) hx hb dX4_takeOver_11 (by decide) (fun c11 => absurd c11 (lp_in (n := (vn (X pA 1))) (by rw [hra]; exact hz.1) hkn (by omega))) (fun c11 => ?_)
      refine lv_aload_n hx hb dX4_takeOver_14 rfl (lv_at hl 0 rfl) ?_
      refine lv_aload_n hx hb dX4_takeOver_15 rfl (lv_at hl 1 rfl) ?_
      refine lv_iload_n hx hb dX4_takeOver_16 rfl (lv_at hl 2 rfl) ?_
      refine xr_Vi C hA G (kx4_get zl D ad sa cc tt X6 pA (nI k6) hpA (by rw [hra]; exact hz)) hpA.2 (xR_c hpA.1) rfl (cwV 1 C.2.2.2.2.1 gX4_takeOver_X4_get rfl rfl rfl (by decide +kernel) ⟨Nat.le_of_ble_eq_true rfl, Nat.le_of_ble_eq_true rfl⟩) rfl hl.1 rfl (Nat.le_of_ble_eq_true rfl) dX4_takeOver_17 ⟨Nat.le_refl _, Nat.le_refl _⟩ (fun H locs G => ?_)
      refine xr_Vv C hA G (kx4_add zl D ad sa cc tt X6 pT (x4_get X6 pA (nI k6)) hT (by rw [hrt, vn_nI (by omega)]; exact ⟨rfl, by omega⟩)) hT.2 (xR_c hT.1) rfl (cwV 1 C.2.2.2.2.1 gX4_takeOver_X4_add rfl rfl rfl (by decide +kernel) ⟨Nat.le_of_ble_eq_true rfl, Nat.le_of_ble_eq_true rfl⟩) rfl hl.1 rfl (Nat.le_of_ble_eq_true rfl) dX4_takeOver_20 ⟨Nat.le_refl _, Nat.le_refl _⟩ (fun H locs G => ?_)
      obtain ⟨X20, hX20⟩ : ∃ Z : xS, Z = x4_add X6 pT (x4_get X6 pA (nI k6)) := ⟨_, rfl⟩
      have G : xG D ad sa cc tt zA zs.heap H locs X20 := by rw [hX20]; exact G
      rw [lt_e hX20] at hS
      refine lv_iinc (v := nI (k6 + 1)) (lv' := [(2, .int (nI (k6 + 1))), (0, .ref (ad pT)), (1, .ref (ad pA))]) hx hb dX4_takeOver_23 hl (k := 2) rfl (nt_add rfl (show (1 : Int32) = nI 1 from rfl)) (by decide) rfl (fun ls hl => ?_)
      refine lv_goto (tgt := 6) hx hb dX4_takeOver_26 (by decide) ?_
      subst hS
      exact ih (k6 + 1) (by omega) _ hS0 _ _ _ (lv_sub hl [1, 2, 0] rfl) G
  exact hloop6 _ 0 (Nat.add_zero _) _ rfl _ _ _ (lv_sub hl [1, 2, 0] rfl) G
set_option maxRecDepth 100000 in
set_option maxHeartbeats 4000000 in
theorem kx0_leaveOut (zl : Launch) (D : va_G) (ad sa : Nat → Nat) (cc : cT) (tt : tT) (X : xS) (pT : Nat) (q : Nat) (hT : kE pT) (hp : eP X pT) (hq : q < vn (X pT 9)) : xMv zl D ad sa cc tt yX0_leaveOut wsX0_leaveOut ({ frames := 1, cells := 0, slots := 0, locals := 24 } : Room) [.ref (ad pT), .int (nI q)] X (x0_leaveOut X pT q) := by
  refine xMv_of (code := cX0_leaveOut) (nL := 3) (own := RX0) (by decide) rfl rfl (Nat.le_of_ble_eq_true rfl) ?_
  intro zp ze zs zm zg zb zt zc zA zQ C hA hret H locs ls hl G
  have hx := C.1
  have hb := C.2.1
  have hl : lv_has ls 3 [(0, .ref (ad pT)), (1, .int (nI q))] := hl
  obtain ⟨rM, hF⟩ : ∃ Z : xS, Z = x0_leaveOut X pT q := ⟨_, rfl⟩
  rw [← hF] at hret
  unfold x0_leaveOut at hF
  have hp2 := hp.2
  refine lv_iconst (v := 0) hx hb dX0_leaveOut_0 (by decide) ?_
  refine lv_iload_n hx hb dX0_leaveOut_1 rfl (lv_at hl 1 rfl) ?_
  refine va_mmax hx hb (C.2.2.1.trans hl.1.symm) C.2.2.2.1 (C.2.2.2.2.1 (.methodLink RX0 93 Lib.Math.max.name) (by decide +kernel)) (C.2.2.2.2.1 (.static Lib.Math.max.name) (by decide +kernel)) (C.2.2.2.2.1 (.initialized "java/lang/Math") (by decide +kernel)) (C.2.2.2.2.1 (.code Lib.Math.max.name Lib.Math.max.code 2 (some .int)) (by decide +kernel)) (Nat.le_of_ble_eq_true rfl) (Nat.le_of_ble_eq_true rfl) (Nat.le_refl _) (Nat.le_refl _) dX0_leaveOut_2 ?_
  refine lv_topi (fun x5 hx5 => ?_)
  obtain rfl : x5 = nI q := hx5.trans (mx_0 (by omega))
  refine lv_istore_n (lv' := [(2, .int (nI q)), (0, .ref (ad pT)), (1, .int (nI q))]) hx hb dX0_leaveOut_5 rfl hl (by decide) rfl (fun ls hl => ?_)
  obtain ⟨kax, X6x, hX6⟩ : ∃ (kax : Nat) (X6x : xS), (kax, X6x) = x0_leaveOut_L6 pT fu11 q X := ⟨_, _, rfl⟩
  rw [lt2_e hX6] at hF
  have hrest6 : ∀ (H : Heap) (locs : List Loc) (ls : Array Slot), lv_has ls 3 [(0, .ref (ad pT)), (1, .int (nI q)), (2, .int (nI kax))] → xG D ad sa cc tt zA zs.heap H locs X6x → W zp zl ze ({ frames := 1, cells := 0, slots := 0, locals := 24 } : Room) zs zm zg zb zt zc H locs 0 0 zQ (F0 zm 78 ls []) := by
    intro H locs ls hl G
    refine lv_aload_n hx hb dX0_leaveOut_78 rfl (lv_at hl 0 rfl) ?_
    refine lv_iconst (v := 0) hx hb dX0_leaveOut_79 (by decide) ?_
    refine lv_aload_n hx hb dX0_leaveOut_80 rfl (lv_at hl 0 rfl) ?_
    refine xr_get C G hT.2 (xE_c hT.1) rfl (fun _ h => List.mem_cons_of_mem _ (List.mem_append_right _ h)) 9 (by decide) (show Cond.fieldLink RX0 73 "WheatCounts$Estate" "people" "I" ∈ _ by decide +kernel) rfl dX0_leaveOut_81 ?_
    refine lv_iconst (v := 1) hx hb dX0_leaveOut_84 (by decide) ?_
    refine lv_isub hx hb dX0_leaveOut_85 ?_
    refine va_mmax hx hb (C.2.2.1.trans hl.1.symm) C.2.2.2.1 (C.2.2.2.2.1 (.methodLink RX0 93 Lib.Math.max.name) (by decide +kernel)) (C.2.2.2.2.1 (.static Lib.Math.max.name) (by decide +kernel)) (C.2.2.2.2.1 (.initialized "java/lang/Math") (by decide +kernel)) (C.2.2.2.2.1 (.code Lib.Math.max.name Lib.Math.max.code 2 (some .int)) (by decide +kernel)) (Nat.le_of_ble_eq_true rfl) (Nat.le_of_ble_eq_true rfl) (Nat.le_refl _) (Nat.le_refl _) dX0_leaveOut_86 ?_
    refine xr_put C G hT.2 (xE_c hT.1) rfl (fun _ h => List.mem_cons_of_mem _ (List.mem_append_right _ h)) tyX0 tyX0_ok nmX0 9 (by decide) rfl (show Cond.fieldLink RX0 73 "WheatCounts$Estate" "people" "I" ∈ _ by decide +kernel) (ty := .int) (by decide +kernel) rfl rfl (Nat.le_of_ble_eq_true rfl) (upd (X6x pT) 9 (if 0 < ((X6x pT 9) - 1) then ((X6x pT 9) - 1) else 0)) (xE_c hT.1) dX0_leaveOut_89 (fun H locs G => ?_)
    obtain ⟨X89, hX89⟩ : ∃ Z : xS, Z = mU X6x pT 9 (if 0 < ((X6x pT 9) - 1) then ((X6x pT 9) - 1) else 0) := ⟨_, rfl⟩
    have G : xG D ad sa cc tt zA zs.heap H locs X89 := by rw [hX89]; exact G
    rw [lt_e hX89] at hF
    exact hret _ _ _ _ _ hF G dX0_leaveOut_92
  have hloop6 : ∀ (f : Nat) (ka : Nat) (X6 : xS), (ka ≤ 8 ∧ 10 < ka + f ∧ X6 pT = X pT) → (kax, X6x) = x0_leaveOut_L6 pT f ka X6 → ∀ (H : Heap) (locs : List Loc) (ls : Array Slot), lv_has ls 3 [(0, .ref (ad pT)), (1, .int (nI q)), (2, .int (nI ka))] → xG D ad sa cc tt zA zs.heap H locs X6 → W zp zl ze ({ frames := 1, cells := 0, slots := 0, locals := 24 } : Room) zs zm zg zb zt zc H locs 0 0 zQ (F0 zm 6 ls []) := by
    intro f
    induction f with
    | zero =>
      intro ka X6 hI hL6 H locs ls hl G
      exact absurd hI.2.1 (by omega)
    | succ f ih =>
      intro ka X6 hI hL6 H locs ls hl G
      rw [x0_leaveOut_L6_s] at hL6
      refine lv_iload_n hx hb dX0_leaveOut_6 rfl (lv_at hl 2 rfl) ?_
      refine lv_aload_n hx hb dX0_leaveOut_7 rfl (lv_at hl 0 rfl) ?_
      refine xr_get C G hT.2 (xE_c hT.1) rfl (fun _ h => List.mem_cons_of_mem _ (List.mem_append_right _ h)) 9 (by decide) (show Cond.fieldLink RX0 73 "WheatCounts$Estate" "people" "I" ∈ _ by decide +kernel) rfl dX0_leaveOut_8 ?_
      refine lv_iconst (v := 1) hx hb dX0_leaveOut_11 (by decide) ?_
      refine lv_isub hx hb dX0_leaveOut_12 ?_
      refine lv_icmp_ge (tgt := 78) hx hb dX0_leaveOut_13 (by decide) (fun c13 => ?_) (fun c13 => ?_)
      · rw [if_pos c13] at hL6
        cases hL6
        exact hrest6 _ _ _ (lv_sub hl [0, 1, 2] rfl) G
      · rw [if_neg c13] at hL6
        have hlt := lp_lt (by rw [hI.2.2]; exact nt_sub hp.1 (show (1 : Int32) = nI 1 from rfl) (by omega)) c13 (by omega) (by omega)
        refine lv_aload_n hx hb dX0_leaveOut_16 rfl (lv_at hl 0 rfl) ?_
        refine xr_get C G hT.2 (xE_c hT.1) rfl (fun _ h => List.mem_cons_of_mem _ (List.mem_append_right _ h)) 10 (by decide) (show Cond.fieldLink RX0 25 "WheatCounts$Estate" "kind" "[I" ∈ _ by decide +kernel) rfl dX0_leaveOut_17 ?_
        refine lv_iload_n hx hb dX0_leaveOut_20 rfl (lv_at hl 2 rfl) ?_
        refine lv_aload_n hx hb dX0_leaveOut_21 rfl (lv_at hl 0 rfl) ?_
        refine xr_get C G hT.2 (xE_c hT.1) rfl (fun _ h => List.mem_cons_of_mem _ (List.mem_append_right _ h)) 10 (by decide) (show Cond.fieldLink RX0 25 "WheatCounts$Estate" "kind" "[I" ∈ _ by decide +kernel) rfl dX0_leaveOut_22 ?_
        refine lv_iload_n hx hb dX0_leaveOut_25 rfl (lv_at hl 2 rfl) ?_
        refine lv_iconst (v := 1) hx hb dX0_leaveOut_26 (by decide) ?_
        refine lv_iadd hx hb dX0_leaveOut_27 ?_
        refine xr_ald C G (xE_4 hT).2 (xI_c (xE_4 hT).1 _) (ka + 1) (nt_add rfl rfl) (by omega) (xI_lt (xE_4 hT)) dX0_leaveOut_28 ?_
        refine xr_ast C G (xE_4 hT).2 (xI_c (xE_4 hT).1) ka rfl (by omega) (xI_lt (xE_4 hT)) dX0_leaveOut_29 (fun H locs G => ?_)
        obtain ⟨X29, hX29⟩ : ∃ Z : xS, Z = mU X6 (pT + 4) ka (X6 (pT + 4) (ka + 1)) := ⟨_, rfl⟩
        have G : xG D ad sa cc tt zA zs.heap H locs X29 := by rw [hX29]; exact G
        rw [lt_e hX29] at hL6
        refine lv_aload_n hx hb dX0_leaveOut_30 rfl (lv_at hl 0 rfl) ?_
        refine xr_get C G hT.2 (xE_c hT.1) rfl (fun _ h => List.mem_cons_of_mem _ (List.mem_append_right _ h)) 11 (by decide) (show Cond.fieldLink RX0 28 "WheatCounts$Estate" "m" "[I" ∈ _ by decide +kernel) rfl dX0_leaveOut_31 ?_
        refine lv_iload_n hx hb dX0_leaveOut_34 rfl (lv_at hl 2 rfl) ?_
        refine lv_aload_n hx hb dX0_leaveOut_35 rfl (lv_at hl 0 rfl) ?_
        refine xr_get C G hT.2 (xE_c hT.1) rfl (fun _ h => List.mem_cons_of_mem _ (List.mem_append_right _ h)) 11 (by decide) (show Cond.fieldLink RX0 28 "WheatCounts$Estate" "m" "[I" ∈ _ by decide +kernel) rfl dX0_leaveOut_36 ?_
        refine lv_iload_n hx hb dX0_leaveOut_39 rfl (lv_at hl 2 rfl) ?_
        refine lv_iconst (v := 1) hx hb dX0_leaveOut_40 (by decide) ?_
        refine lv_iadd hx hb dX0_leaveOut_41 ?_
        refine xr_ald C G (xE_5 hT).2 (xI_c (xE_5 hT).1 _) (ka + 1) (nt_add rfl rfl) (by omega) (xI_lt (xE_5 hT)) dX0_leaveOut_42 ?_
        refine xr_ast C G (xE_5 hT).2 (xI_c (xE_5 hT).1) ka rfl (by omega) (xI_lt (xE_5 hT)) dX0_leaveOut_43 (fun H locs G => ?_)
        obtain ⟨X43, hX43⟩ : ∃ Z : xS, Z = mU X29 (pT + 5) ka (X29 (pT + 5) (ka + 1)) := ⟨_, rfl⟩
        have G : xG D ad sa cc tt zA zs.heap H locs X43 := by rw [hX43]; exact G
        rw [lt_e hX43] at hL6
        refine lv_aload_n hx hb dX0_leaveOut_44 rfl (lv_at hl 0 rfl) ?_
        refine xr_get C G hT.2 (xE_c hT.1) rfl (fun _ h => List.mem_cons_of_mem _ (List.mem_append_right _ h)) 12 (by decide) (show Cond.fieldLink RX0 31 "WheatCounts$Estate" "at" "[I" ∈ _ by decide +kernel) rfl dX0_leaveOut_45 ?_
        refine lv_iload_n hx hb dX0_leaveOut_48 rfl (lv_at hl 2 rfl) ?_
        refine lv_aload_n hx hb dX0_leaveOut_49 rfl (lv_at hl 0 rfl) ?_
        refine xr_get C G hT.2 (xE_c hT.1) rfl (fun _ h => List.mem_cons_of_mem _ (List.mem_append_right _ h)) 12 (by decide) (show Cond.fieldLink RX0 31 "WheatCounts$Estate" "at" "[I" ∈ _ by decide +kernel) rfl dX0_leaveOut_50 ?_
        refine lv_iload_n hx hb dX0_leaveOut_53 rfl (lv_at hl 2 rfl) ?_
        refine lv_iconst (v := 1) hx hb dX0_leaveOut_54 (by decide) ?_
        refine lv_iadd hx hb dX0_leaveOut_55 ?_
        refine xr_ald C G (xE_6 hT).2 (xI_c (xE_6 hT).1 _) (ka + 1) (nt_add rfl rfl) (by omega) (xI_lt (xE_6 hT)) dX0_leaveOut_56 ?_
        refine xr_ast C G (xE_6 hT).2 (xI_c (xE_6 hT).1) ka rfl (by omega) (xI_lt (xE_6 hT)) dX0_leaveOut_57 (fun H locs G => ?_)
        obtain ⟨X57, hX57⟩ : ∃ Z : xS, Z = mU X43 (pT + 6) ka (X43 (pT + 6) (ka + 1)) := ⟨_, rfl⟩
        have G : xG D ad sa cc tt zA zs.heap H locs X57 := by rw [hX57]; exact G
        rw [lt_e hX57] at hL6
        refine lv_aload_n hx hb dX0_leaveOut_58 rfl (lv_at hl 0 rfl) ?_
        refine xr_get C G hT.2 (xE_c hT.1) rfl (fun _ h => List.mem_cons_of_mem _ (List.mem_append_right _ h)) 13 (by decide) (show Cond.fieldLink RX0 34 "WheatCounts$Estate" "way" "[I" ∈ _ by decide +kernel) rfl dX0_leaveOut_59 ?_
        refine lv_iload_n hx hb dX0_leaveOut_62 rfl (lv_at hl 2 rfl) ?_
        refine lv_aload_n hx hb dX0_leaveOut_63 rfl (lv_at hl 0 rfl) ?_
        refine xr_get C G hT.2 (xE_c hT.1) rfl (fun _ h => List.mem_cons_of_mem _ (List.mem_append_right _ h)) 13 (by decide) (show Cond.fieldLink RX0 34 "WheatCounts$Estate" "way" "[I" ∈ _ by decide +kernel) rfl dX0_leaveOut_64 ?_
        refine lv_iload_n hx hb dX0_leaveOut_67 rfl (lv_at hl 2 rfl) ?_
        refine lv_iconst (v := 1) hx hb dX0_leaveOut_68 (by decide) ?_
        refine lv_iadd hx hb dX0_leaveOut_69 ?_
        refine xr_ald C G (xE_7 hT).2 (xI_c (xE_7 hT).1 _) (ka + 1) (nt_add rfl rfl) (by omega) (xI_lt (xE_7 hT)) dX0_leaveOut_70 ?_
        refine xr_ast C G (xE_7 hT).2 (xI_c (xE_7 hT).1) ka rfl (by omega) (xI_lt (xE_7 hT)) dX0_leaveOut_71 (fun H locs G => ?_)
        obtain ⟨X71, hX71⟩ : ∃ Z : xS, Z = mU X57 (pT + 7) ka (X57 (pT + 7) (ka + 1)) := ⟨_, rfl⟩
        have G : xG D ad sa cc tt zA zs.heap H locs X71 := by rw [hX71]; exact G
        rw [lt_e hX71] at hL6
        refine lv_iinc (v := nI (ka + 1)) (lv' := [(2, .int (nI (ka + 1))), (0, .ref (ad pT)), (1, .int (nI q))]) hx hb dX0_leaveOut_72 hl (k := 2) rfl (nt_add rfl (show (1 : Int32) = nI 1 from rfl)) (by decide) rfl (fun ls hl => ?_)
        refine lv_goto (tgt := 6) hx hb dX0_leaveOut_75 (by decide) ?_
        exact ih (ka + 1) X71 ⟨by omega, by omega, by rw [hX71, mU_row (by omega), hX57, mU_row (by omega), hX43, mU_row (by omega), hX29, mU_row (by omega)]; exact hI.2.2⟩ hL6 _ _ _ (lv_sub hl [1, 2, 0] rfl) G
  exact hloop6 _ _ _ ⟨by omega, by show 10 < _ + 11; omega, rfl⟩ hX6 _ _ _ (lv_sub hl [1, 2, 0] rfl) G
set_option maxRecDepth 100000 in
set_option maxHeartbeats 4000000 in
theorem kx0_takeOver (zl : Launch) (D : va_G) (ad sa : Nat → Nat) (cc : cT) (tt : tT) (X : xS) (pT : Nat) (pA : Nat) (hT : kE pT) (hpA : kE pA) (hz : X (pA + 8) 1 = nI (vn (X (pA + 8) 1)) ∧ vn (X (pA + 8) 1) ≤ 50) (hw : X (pA + 10) 1 = nI (vn (X (pA + 10) 1)) ∧ vn (X (pA + 10) 1) ≤ 20) (hne : pA + 12 ≤ pT ∨ pT + 12 ≤ pA) : xMv zl D ad sa cc tt yX0_takeOver wsX0_takeOver ({ frames := 2, cells := 0, slots := 0, locals := 60 } : Room) [.ref (ad pT), .ref (ad pA)] X (x0_takeOver X pT pA) := by
  refine xMv_of (code := cX0_takeOver) (nL := 2) (own := RX0) (by decide) rfl rfl (Nat.le_of_ble_eq_true rfl) ?_
  intro zp ze zs zm zg zb zt zc zA zQ C hA hret H locs ls hl G
  have hx := C.1
  have hb := C.2.1
  have hl : lv_has ls 2 [(0, .ref (ad pT)), (1, .ref (ad pA))] := hl
  obtain ⟨rM, hF⟩ : ∃ Z : xS, Z = x0_takeOver X pT pA := ⟨_, rfl⟩
  rw [← hF] at hret
  unfold x0_takeOver at hF
  have hcA := xE_cap hpA
  have hcT := xE_cap hT
  refine lv_aload_n hx hb dX0_takeOver_0 rfl (lv_at hl 0 rfl) ?_
  refine lv_aload_n hx hb dX0_takeOver_1 rfl (lv_at hl 1 rfl) ?_
  refine xr_get C G hpA.2 (xE_c hpA.1) rfl (fun _ h => List.mem_cons_of_mem _ (List.mem_append_left _ (List.mem_append_right _ h))) 0 (by decide) (show Cond.fieldLink RX0 9 "WheatCounts$Estate" "cells" "I" ∈ _ by decide +kernel) rfl dX0_takeOver_2 ?_
  refine xr_put C G hT.2 (xE_c hT.1) rfl (fun _ h => List.mem_cons_of_mem _ (List.mem_append_left _ (List.mem_append_right _ h))) tyX0 tyX0_ok nmX0 0 (by decide) rfl (show Cond.fieldLink RX0 9 "WheatCounts$Estate" "cells" "I" ∈ _ by decide +kernel) (ty := .int) (by decide +kernel) rfl rfl (Nat.le_of_ble_eq_true rfl) (upd (X pT) 0 (X pA 0)) (xE_c hT.1) dX0_takeOver_5 (fun H locs G => ?_)
  obtain ⟨X5, hX5⟩ : ∃ Z : xS, Z = mU X pT 0 (X pA 0) := ⟨_, rfl⟩
  have G : xG D ad sa cc tt zA zs.heap H locs X5 := by rw [hX5]; exact G
  rw [lt_e hX5] at hF
  refine lv_aload_n hx hb dX0_takeOver_8 rfl (lv_at hl 1 rfl) ?_
  refine xr_get C G hpA.2 (xE_c hpA.1) rfl (fun _ h => List.mem_cons_of_mem _ (List.mem_append_left _ (List.mem_append_right _ h))) 1 (by decide) (show Cond.fieldLink RX0 15 "WheatCounts$Estate" "grains" "[I" ∈ _ by decide +kernel) rfl dX0_takeOver_9 ?_
  refine lv_iconst (v := 0) hx hb dX0_takeOver_12 (by decide) ?_
  refine lv_aload_n hx hb dX0_takeOver_13 rfl (lv_at hl 0 rfl) ?_
  refine xr_get C G hT.2 (xE_c hT.1) rfl (fun _ h => List.mem_cons_of_mem _ (List.mem_append_left _ (List.mem_append_right _ h))) 1 (by decide) (show Cond.fieldLink RX0 15 "WheatCounts$Estate" "grains" "[I" ∈ _ by decide +kernel) rfl dX0_takeOver_14 ?_
  refine lv_iconst (v := 0) hx hb dX0_takeOver_17 (by decide) ?_
  refine lv_bipush (v := 10) hx hb dX0_takeOver_18 (by decide) ?_
  refine xr_cpy C G (index := 52) (by decide +kernel) (by decide +kernel) (by decide +kernel) (by decide +kernel) (n := 10) (xE_1 hpA) (xE_1 hT) (by decide) (by decide) rfl (by decide) hl.1 (Nat.le_of_ble_eq_true rfl) (Nat.le_of_ble_eq_true rfl) dX0_takeOver_20 (fun H locs G => ?_)
  obtain ⟨X20, hX20⟩ : ∃ Z : xS, Z = xcp X5 (pA + 1) (pT + 1) 10 := ⟨_, rfl⟩
  have G : xG D ad sa cc tt zA zs.heap H locs X20 := by rw [hX20]; exact G
  rw [lt_e hX20] at hF
  refine lv_aload_n hx hb dX0_takeOver_23 rfl (lv_at hl 1 rfl) ?_
  refine xr_get C G hpA.2 (xE_c hpA.1) rfl (fun _ h => List.mem_cons_of_mem _ (List.mem_append_left _ (List.mem_append_right _ h))) 2 (by decide) (show Cond.fieldLink RX0 19 "WheatCounts$Estate" "weeds" "[I" ∈ _ by decide +kernel) rfl dX0_takeOver_24 ?_
  refine lv_iconst (v := 0) hx hb dX0_takeOver_27 (by decide) ?_
  refine lv_aload_n hx hb dX0_takeOver_28 rfl (lv_at hl 0 rfl) ?_
  refine xr_get C G hT.2 (xE_c hT.1) rfl (fun _ h => List.mem_cons_of_mem _ (List.mem_append_left _ (List.mem_append_right _ h))) 2 (by decide) (show Cond.fieldLink RX0 19 "WheatCounts$Estate" "weeds" "[I" ∈ _ by decide +kernel) rfl dX0_takeOver_29 ?_
  refine lv_iconst (v := 0) hx hb dX0_takeOver_32 (by decide) ?_
  refine lv_bipush (v := 10) hx hb dX0_takeOver_33 (by decide) ?_
  refine xr_cpy C G (index := 52) (by decide +kernel) (by decide +kernel) (by decide +kernel) (by decide +kernel) (n := 10) (xE_2 hpA) (xE_2 hT) (by decide) (by decide) rfl (by decide) hl.1 (Nat.le_of_ble_eq_true rfl) (Nat.le_of_ble_eq_true rfl) dX0_takeOver_35 (fun H locs G => ?_)
  obtain ⟨X35, hX35⟩ : ∃ Z : xS, Z = xcp X20 (pA + 2) (pT + 2) 10 := ⟨_, rfl⟩
  have G : xG D ad sa cc tt zA zs.heap H locs X35 := by rw [hX35]; exact G
  rw [lt_e hX35] at hF
  refine lv_aload_n hx hb dX0_takeOver_38 rfl (lv_at hl 0 rfl) ?_
  refine lv_aload_n hx hb dX0_takeOver_39 rfl (lv_at hl 1 rfl) ?_
  refine xr_get C G hpA.2 (xE_c hpA.1) rfl (fun _ h => List.mem_cons_of_mem _ (List.mem_append_left _ (List.mem_append_right _ h))) 4 (by decide) (show Cond.fieldLink RX0 58 "WheatCounts$Estate" "hedges" "I" ∈ _ by decide +kernel) rfl dX0_takeOver_40 ?_
  refine xr_put C G hT.2 (xE_c hT.1) rfl (fun _ h => List.mem_cons_of_mem _ (List.mem_append_left _ (List.mem_append_right _ h))) tyX0 tyX0_ok nmX0 4 (by decide) rfl (show Cond.fieldLink RX0 58 "WheatCounts$Estate" "hedges" "I" ∈ _ by decide +kernel) (ty := .int) (by decide +kernel) rfl rfl (Nat.le_of_ble_eq_true rfl) (upd (X35 pT) 4 (X35 pA 4)) (xE_c hT.1) dX0_takeOver_43 (fun H locs G => ?_)
  obtain ⟨X43, hX43⟩ : ∃ Z : xS, Z = mU X35 pT 4 (X35 pA 4) := ⟨_, rfl⟩
  have G : xG D ad sa cc tt zA zs.heap H locs X43 := by rw [hX43]; exact G
  rw [lt_e hX43] at hF
  refine lv_aload_n hx hb dX0_takeOver_46 rfl (lv_at hl 0 rfl) ?_
  refine lv_aload_n hx hb dX0_takeOver_47 rfl (lv_at hl 1 rfl) ?_
  refine xr_get C G hpA.2 (xE_c hpA.1) rfl (fun _ h => List.mem_cons_of_mem _ (List.mem_append_left _ (List.mem_append_right _ h))) 5 (by decide) (show Cond.fieldLink RX0 61 "WheatCounts$Estate" "lean" "I" ∈ _ by decide +kernel) rfl dX0_takeOver_48 ?_
  refine xr_put C G hT.2 (xE_c hT.1) rfl (fun _ h => List.mem_cons_of_mem _ (List.mem_append_left _ (List.mem_append_right _ h))) tyX0 tyX0_ok nmX0 5 (by decide) rfl (show Cond.fieldLink RX0 61 "WheatCounts$Estate" "lean" "I" ∈ _ by decide +kernel) (ty := .int) (by decide +kernel) rfl rfl (Nat.le_of_ble_eq_true rfl) (upd (X43 pT) 5 (X43 pA 5)) (xE_c hT.1) dX0_takeOver_51 (fun H locs G => ?_)
  obtain ⟨X51, hX51⟩ : ∃ Z : xS, Z = mU X43 pT 5 (X43 pA 5) := ⟨_, rfl⟩
  have G : xG D ad sa cc tt zA zs.heap H locs X51 := by rw [hX51]; exact G
  rw [lt_e hX51] at hF
  refine lv_aload_n hx hb dX0_takeOver_54 rfl (lv_at hl 0 rfl) ?_
  refine lv_aload_n hx hb dX0_takeOver_55 rfl (lv_at hl 1 rfl) ?_
  refine xr_get C G hpA.2 (xE_c hpA.1) rfl (fun _ h => List.mem_cons_of_mem _ (List.mem_append_left _ (List.mem_append_right _ h))) 6 (by decide) (show Cond.fieldLink RX0 64 "WheatCounts$Estate" "fog" "I" ∈ _ by decide +kernel) rfl dX0_takeOver_56 ?_
  refine xr_put C G hT.2 (xE_c hT.1) rfl (fun _ h => List.mem_cons_of_mem _ (List.mem_append_left _ (List.mem_append_right _ h))) tyX0 tyX0_ok nmX0 6 (by decide) rfl (show Cond.fieldLink RX0 64 "WheatCounts$Estate" "fog" "I" ∈ _ by decide +kernel) (ty := .int) (by decide +kernel) rfl rfl (Nat.le_of_ble_eq_true rfl) (upd (X51 pT) 6 (X51 pA 6)) (xE_c hT.1) dX0_takeOver_59 (fun H locs G => ?_)
  obtain ⟨X59, hX59⟩ : ∃ Z : xS, Z = mU X51 pT 6 (X51 pA 6) := ⟨_, rfl⟩
  have G : xG D ad sa cc tt zA zs.heap H locs X59 := by rw [hX59]; exact G
  rw [lt_e hX59] at hF
  refine lv_aload_n hx hb dX0_takeOver_62 rfl (lv_at hl 0 rfl) ?_
  refine lv_aload_n hx hb dX0_takeOver_63 rfl (lv_at hl 1 rfl) ?_
  refine xr_get C G hpA.2 (xE_c hpA.1) rfl (fun _ h => List.mem_cons_of_mem _ (List.mem_append_left _ (List.mem_append_right _ h))) 7 (by decide) (show Cond.fieldLink RX0 67 "WheatCounts$Estate" "hour" "I" ∈ _ by decide +kernel) rfl dX0_takeOver_64 ?_
  refine xr_put C G hT.2 (xE_c hT.1) rfl (fun _ h => List.mem_cons_of_mem _ (List.mem_append_left _ (List.mem_append_right _ h))) tyX0 tyX0_ok nmX0 7 (by decide) rfl (show Cond.fieldLink RX0 67 "WheatCounts$Estate" "hour" "I" ∈ _ by decide +kernel) (ty := .int) (by decide +kernel) rfl rfl (Nat.le_of_ble_eq_true rfl) (upd (X59 pT) 7 (X59 pA 7)) (xE_c hT.1) dX0_takeOver_67 (fun H locs G => ?_)
  obtain ⟨X67, hX67⟩ : ∃ Z : xS, Z = mU X59 pT 7 (X59 pA 7) := ⟨_, rfl⟩
  have G : xG D ad sa cc tt zA zs.heap H locs X67 := by rw [hX67]; exact G
  rw [lt_e hX67] at hF
  refine lv_aload_n hx hb dX0_takeOver_70 rfl (lv_at hl 0 rfl) ?_
  refine lv_aload_n hx hb dX0_takeOver_71 rfl (lv_at hl 1 rfl) ?_
  refine xr_get C G hpA.2 (xE_c hpA.1) rfl (fun _ h => List.mem_cons_of_mem _ (List.mem_append_left _ (List.mem_append_right _ h))) 8 (by decide) (show Cond.fieldLink RX0 70 "WheatCounts$Estate" "stolen" "I" ∈ _ by decide +kernel) rfl dX0_takeOver_72 ?_
  refine xr_put C G hT.2 (xE_c hT.1) rfl (fun _ h => List.mem_cons_of_mem _ (List.mem_append_left _ (List.mem_append_right _ h))) tyX0 tyX0_ok nmX0 8 (by decide) rfl (show Cond.fieldLink RX0 70 "WheatCounts$Estate" "stolen" "I" ∈ _ by decide +kernel) (ty := .int) (by decide +kernel) rfl rfl (Nat.le_of_ble_eq_true rfl) (upd (X67 pT) 8 (X67 pA 8)) (xE_c hT.1) dX0_takeOver_75 (fun H locs G => ?_)
  obtain ⟨X75, hX75⟩ : ∃ Z : xS, Z = mU X67 pT 8 (X67 pA 8) := ⟨_, rfl⟩
  have G : xG D ad sa cc tt zA zs.heap H locs X75 := by rw [hX75]; exact G
  rw [lt_e hX75] at hF
  refine lv_aload_n hx hb dX0_takeOver_78 rfl (lv_at hl 0 rfl) ?_
  refine lv_aload_n hx hb dX0_takeOver_79 rfl (lv_at hl 1 rfl) ?_
  refine xr_get C G hpA.2 (xE_c hpA.1) rfl (fun _ h => List.mem_cons_of_mem _ (List.mem_append_left _ (List.mem_append_right _ h))) 9 (by decide) (show Cond.fieldLink RX0 73 "WheatCounts$Estate" "people" "I" ∈ _ by decide +kernel) rfl dX0_takeOver_80 ?_
  refine xr_put C G hT.2 (xE_c hT.1) rfl (fun _ h => List.mem_cons_of_mem _ (List.mem_append_left _ (List.mem_append_right _ h))) tyX0 tyX0_ok nmX0 9 (by decide) rfl (show Cond.fieldLink RX0 73 "WheatCounts$Estate" "people" "I" ∈ _ by decide +kernel) (ty := .int) (by decide +kernel) rfl rfl (Nat.le_of_ble_eq_true rfl) (upd (X75 pT) 9 (X75 pA 9)) (xE_c hT.1) dX0_takeOver_83 (fun H locs G => ?_)
  obtain ⟨X83, hX83⟩ : ∃ Z : xS, Z = mU X75 pT 9 (X75 pA 9) := ⟨_, rfl⟩
  have G : xG D ad sa cc tt zA zs.heap H locs X83 := by rw [hX83]; exact G
  rw [lt_e hX83] at hF
  refine lv_aload_n hx hb dX0_takeOver_86 rfl (lv_at hl 1 rfl) ?_
  refine xr_get C G hpA.2 (xE_c hpA.1) rfl (fun _ h => List.mem_cons_of_mem _ (List.mem_append_left _ (List.mem_append_right _ h))) 10 (by decide) (show Cond.fieldLink RX0 25 "WheatCounts$Estate" "kind" "[I" ∈ _ by decide +kernel) rfl dX0_takeOver_87 ?_
  refine lv_iconst (v := 0) hx hb dX0_takeOver_90 (by decide) ?_
  refine lv_aload_n hx hb dX0_takeOver_91 rfl (lv_at hl 0 rfl) ?_
  refine xr_get C G hT.2 (xE_c hT.1) rfl (fun _ h => List.mem_cons_of_mem _ (List.mem_append_left _ (List.mem_append_right _ h))) 10 (by decide) (show Cond.fieldLink RX0 25 "WheatCounts$Estate" "kind" "[I" ∈ _ by decide +kernel) rfl dX0_takeOver_92 ?_
  refine lv_iconst (v := 0) hx hb dX0_takeOver_95 (by decide) ?_
  refine lv_bipush (v := 8) hx hb dX0_takeOver_96 (by decide) ?_
  refine xr_cpy C G (index := 52) (by decide +kernel) (by decide +kernel) (by decide +kernel) (by decide +kernel) (n := 8) (xE_4 hpA) (xE_4 hT) (by decide) (by decide) rfl (by decide) hl.1 (Nat.le_of_ble_eq_true rfl) (Nat.le_of_ble_eq_true rfl) dX0_takeOver_98 (fun H locs G => ?_)
  obtain ⟨X98, hX98⟩ : ∃ Z : xS, Z = xcp X83 (pA + 4) (pT + 4) 8 := ⟨_, rfl⟩
  have G : xG D ad sa cc tt zA zs.heap H locs X98 := by rw [hX98]; exact G
  rw [lt_e hX98] at hF
  refine lv_aload_n hx hb dX0_takeOver_101 rfl (lv_at hl 1 rfl) ?_
  refine xr_get C G hpA.2 (xE_c hpA.1) rfl (fun _ h => List.mem_cons_of_mem _ (List.mem_append_left _ (List.mem_append_right _ h))) 11 (by decide) (show Cond.fieldLink RX0 28 "WheatCounts$Estate" "m" "[I" ∈ _ by decide +kernel) rfl dX0_takeOver_102 ?_
  refine lv_iconst (v := 0) hx hb dX0_takeOver_105 (by decide) ?_
  refine lv_aload_n hx hb dX0_takeOver_106 rfl (lv_at hl 0 rfl) ?_
  refine xr_get C G hT.2 (xE_c hT.1) rfl (fun _ h => List.mem_cons_of_mem _ (List.mem_append_left _ (List.mem_append_right _ h))) 11 (by decide) (show Cond.fieldLink RX0 28 "WheatCounts$Estate" "m" "[I" ∈ _ by decide +kernel) rfl dX0_takeOver_107 ?_
  refine lv_iconst (v := 0) hx hb dX0_takeOver_110 (by decide) ?_
  refine lv_bipush (v := 8) hx hb dX0_takeOver_111 (by decide) ?_
  refine xr_cpy C G (index := 52) (by decide +kernel) (by decide +kernel) (by decide +kernel) (by decide +kernel) (n := 8) (xE_5 hpA) (xE_5 hT) (by decide) (by decide) rfl (by decide) hl.1 (Nat.le_of_ble_eq_true rfl) (Nat.le_of_ble_eq_true rfl) dX0_takeOver_113 (fun H locs G => ?_)
  obtain ⟨X113, hX113⟩ : ∃ Z : xS, Z = xcp X98 (pA + 5) (pT + 5) 8 := ⟨_, rfl⟩
  have G : xG D ad sa cc tt zA zs.heap H locs X113 := by rw [hX113]; exact G
  rw [lt_e hX113] at hF
  refine lv_aload_n hx hb dX0_takeOver_116 rfl (lv_at hl 1 rfl) ?_
  refine xr_get C G hpA.2 (xE_c hpA.1) rfl (fun _ h => List.mem_cons_of_mem _ (List.mem_append_left _ (List.mem_append_right _ h))) 12 (by decide) (show Cond.fieldLink RX0 31 "WheatCounts$Estate" "at" "[I" ∈ _ by decide +kernel) rfl dX0_takeOver_117 ?_
  refine lv_iconst (v := 0) hx hb dX0_takeOver_120 (by decide) ?_
  refine lv_aload_n hx hb dX0_takeOver_121 rfl (lv_at hl 0 rfl) ?_
  refine xr_get C G hT.2 (xE_c hT.1) rfl (fun _ h => List.mem_cons_of_mem _ (List.mem_append_left _ (List.mem_append_right _ h))) 12 (by decide) (show Cond.fieldLink RX0 31 "WheatCounts$Estate" "at" "[I" ∈ _ by decide +kernel) rfl dX0_takeOver_122 ?_
  refine lv_iconst (v := 0) hx hb dX0_takeOver_125 (by decide) ?_
  refine lv_bipush (v := 8) hx hb dX0_takeOver_126 (by decide) ?_
  refine xr_cpy C G (index := 52) (by decide +kernel) (by decide +kernel) (by decide +kernel) (by decide +kernel) (n := 8) (xE_6 hpA) (xE_6 hT) (by decide) (by decide) rfl (by decide) hl.1 (Nat.le_of_ble_eq_true rfl) (Nat.le_of_ble_eq_true rfl) dX0_takeOver_128 (fun H locs G => ?_)
  obtain ⟨X128, hX128⟩ : ∃ Z : xS, Z = xcp X113 (pA + 6) (pT + 6) 8 := ⟨_, rfl⟩
  have G : xG D ad sa cc tt zA zs.heap H locs X128 := by rw [hX128]; exact G
  rw [lt_e hX128] at hF
  refine lv_aload_n hx hb dX0_takeOver_131 rfl (lv_at hl 1 rfl) ?_
  refine xr_get C G hpA.2 (xE_c hpA.1) rfl (fun _ h => List.mem_cons_of_mem _ (List.mem_append_left _ (List.mem_append_right _ h))) 13 (by decide) (show Cond.fieldLink RX0 34 "WheatCounts$Estate" "way" "[I" ∈ _ by decide +kernel) rfl dX0_takeOver_132 ?_
  refine lv_iconst (v := 0) hx hb dX0_takeOver_135 (by decide) ?_
  refine lv_aload_n hx hb dX0_takeOver_136 rfl (lv_at hl 0 rfl) ?_
  refine xr_get C G hT.2 (xE_c hT.1) rfl (fun _ h => List.mem_cons_of_mem _ (List.mem_append_left _ (List.mem_append_right _ h))) 13 (by decide) (show Cond.fieldLink RX0 34 "WheatCounts$Estate" "way" "[I" ∈ _ by decide +kernel) rfl dX0_takeOver_137 ?_
  refine lv_iconst (v := 0) hx hb dX0_takeOver_140 (by decide) ?_
  refine lv_bipush (v := 8) hx hb dX0_takeOver_141 (by decide) ?_
  refine xr_cpy C G (index := 52) (by decide +kernel) (by decide +kernel) (by decide +kernel) (by decide +kernel) (n := 8) (xE_7 hpA) (xE_7 hT) (by decide) (by decide) rfl (by decide) hl.1 (Nat.le_of_ble_eq_true rfl) (Nat.le_of_ble_eq_true rfl) dX0_takeOver_143 (fun H locs G => ?_)
  obtain ⟨X143, hX143⟩ : ∃ Z : xS, Z = xcp X128 (pA + 7) (pT + 7) 8 := ⟨_, rfl⟩
  have G : xG D ad sa cc tt zA zs.heap H locs X143 := by rw [hX143]; exact G
  rw [lt_e hX143] at hF
  refine lv_aload_n hx hb dX0_takeOver_146 rfl (lv_at hl 0 rfl) ?_
  refine lv_aload_n hx hb dX0_takeOver_147 rfl (lv_at hl 1 rfl) ?_
  refine xr_get C G hpA.2 (xE_c hpA.1) rfl (fun _ h => List.mem_cons_of_mem _ (List.mem_append_left _ (List.mem_append_right _ h))) 14 (by decide) (show Cond.fieldLink RX0 76 "WheatCounts$Estate" "sightText" "LWheatCounts$Text;" ∈ _ by decide +kernel) rfl dX0_takeOver_148 ?_
  refine xr_put C G hT.2 (xE_c hT.1) rfl (fun _ h => List.mem_cons_of_mem _ (List.mem_append_left _ (List.mem_append_right _ h))) tyX0 tyX0_ok nmX0 14 (by decide) rfl (show Cond.fieldLink RX0 76 "WheatCounts$Estate" "sightText" "LWheatCounts$Text;" ∈ _ by decide +kernel) (ty := .object RX6) (by decide +kernel) rT_nar rT_fit (Nat.le_of_ble_eq_true rfl) (upd (X143 pT) 14 (X143 pA 14)) (xE_c hT.1) dX0_takeOver_151 (fun H locs G => ?_)
  obtain ⟨X151, hX151⟩ : ∃ Z : xS, Z = mU X143 pT 14 (X143 pA 14) := ⟨_, rfl⟩
  have G : xG D ad sa cc tt zA zs.heap H locs X151 := by rw [hX151]; exact G
  rw [lt_e hX151] at hF
  refine lv_aload_n hx hb dX0_takeOver_154 rfl (lv_at hl 0 rfl) ?_
  refine lv_aload_n hx hb dX0_takeOver_155 rfl (lv_at hl 1 rfl) ?_
  refine xr_get C G hpA.2 (xE_c hpA.1) rfl (fun _ h => List.mem_cons_of_mem _ (List.mem_append_left _ (List.mem_append_right _ h))) 15 (by decide) (show Cond.fieldLink RX0 80 "WheatCounts$Estate" "theftText" "LWheatCounts$Text;" ∈ _ by decide +kernel) rfl dX0_takeOver_156 ?_
  refine xr_put C G hT.2 (xE_c hT.1) rfl (fun _ h => List.mem_cons_of_mem _ (List.mem_append_left _ (List.mem_append_right _ h))) tyX0 tyX0_ok nmX0 15 (by decide) rfl (show Cond.fieldLink RX0 80 "WheatCounts$Estate" "theftText" "LWheatCounts$Text;" ∈ _ by decide +kernel) (ty := .object RX6) (by decide +kernel) rT_nar rT_fit (Nat.le_of_ble_eq_true rfl) (upd (X151 pT) 15 (X151 pA 15)) (xE_c hT.1) dX0_takeOver_159 (fun H locs G => ?_)
  obtain ⟨X159, hX159⟩ : ∃ Z : xS, Z = mU X151 pT 15 (X151 pA 15) := ⟨_, rfl⟩
  have G : xG D ad sa cc tt zA zs.heap H locs X159 := by rw [hX159]; exact G
  rw [lt_e hX159] at hF
  have h159 : ∀ p, p ≠ pT → p ≠ pT + 1 → p ≠ pT + 2 → p ≠ pT + 4 → p ≠ pT + 5 → p ≠ pT + 6 → p ≠ pT + 7 → X159 p = X p := by intro p h0 h1 h2 h4 h5 h6 h7; rw [hX159, mU_row h0, hX151, mU_row h0, hX143, xcp_row h7, hX128, xcp_row h6, hX113, xcp_row h5, hX98, xcp_row h4, hX83, mU_row h0, hX75, mU_row h0, hX67, mU_row h0, hX59, mU_row h0, hX51, mU_row h0, hX43, mU_row h0, hX35, xcp_row h2, hX20, xcp_row h1, hX5, mU_row h0]
  refine lv_aload_n hx hb dX0_takeOver_162 rfl (lv_at hl 0 rfl) ?_
  refine xr_get C G hT.2 (xE_c hT.1) rfl (fun _ h => List.mem_cons_of_mem _ (List.mem_append_left _ (List.mem_append_right _ h))) 16 (by decide) (show Cond.fieldLink RX0 42 "WheatCounts$Estate" "tape" "LWheatCounts$Row;" ∈ _ by decide +kernel) rfl dX0_takeOver_163 ?_
  refine lv_aload_n hx hb dX0_takeOver_166 rfl (lv_at hl 1 rfl) ?_
  refine xr_get C G hpA.2 (xE_c hpA.1) rfl (fun _ h => List.mem_cons_of_mem _ (List.mem_append_left _ (List.mem_append_right _ h))) 16 (by decide) (show Cond.fieldLink RX0 42 "WheatCounts$Estate" "tape" "LWheatCounts$Row;" ∈ _ by decide +kernel) rfl dX0_takeOver_167 ?_
  refine xr_Vv C hA G (kx4_takeOver zl D ad sa cc tt X159 (pT + 8) (pA + 8) (xE_8 hT) (xE_8 hpA) (by rw [h159 (pA + 8) (by omega) (by omega) (by omega) (by omega) (by omega) (by omega) (by omega), hcA.1]; exact hz) (by rw [hcA.1, hcT.1]; exact Nat.le_refl _) ⟨by omega, by omega, by omega⟩) (xE_8 hT).2 (xR_c (xE_8 hT).1) rfl (cwV 1 C.2.2.2.2.1 gX0_takeOver_X4_takeOver rfl rfl rfl (by decide +kernel) ⟨Nat.le_of_ble_eq_true rfl, Nat.le_of_ble_eq_true rfl⟩) rfl hl.1 rfl (Nat.le_of_ble_eq_true rfl) dX0_takeOver_170 ⟨Nat.le_refl _, Nat.le_refl _⟩ (fun H locs G => ?_)
  obtain ⟨X170, hX170⟩ : ∃ Z : xS, Z = x4_takeOver X159 (pT + 8) (pA + 8) := ⟨_, rfl⟩
  have G : xG D ad sa cc tt zA zs.heap H locs X170 := by rw [hX170]; exact G
  rw [lt_e hX170] at hF
  have h170 : X170 (pA + 10) = X (pA + 10) := by rw [hX170, rt_row (by rw [h159 (pA + 8) (by omega) (by omega) (by omega) (by omega) (by omega) (by omega) (by omega), hcA.1]; exact hz) (by rw [hcA.1, hcT.1]; exact Nat.le_refl _) (by omega) ⟨by omega, by omega, by omega⟩ (pA + 10) (by omega) (by omega)]; exact h159 (pA + 10) (by omega) (by omega) (by omega) (by omega) (by omega) (by omega) (by omega)
  refine lv_aload_n hx hb dX0_takeOver_173 rfl (lv_at hl 0 rfl) ?_
  refine xr_get C G hT.2 (xE_c hT.1) rfl (fun _ h => List.mem_cons_of_mem _ (List.mem_append_left _ (List.mem_append_right _ h))) 17 (by decide) (show Cond.fieldLink RX0 46 "WheatCounts$Estate" "waiting" "LWheatCounts$Row;" ∈ _ by decide +kernel) rfl dX0_takeOver_174 ?_
  refine lv_aload_n hx hb dX0_takeOver_177 rfl (lv_at hl 1 rfl) ?_
  refine xr_get C G hpA.2 (xE_c hpA.1) rfl (fun _ h => List.mem_cons_of_mem _ (List.mem_append_left _ (List.mem_append_right _ h))) 17 (by decide) (show Cond.fieldLink RX0 46 "WheatCounts$Estate" "waiting" "LWheatCounts$Row;" ∈ _ by decide +kernel) rfl dX0_takeOver_178 ?_
  refine xr_Vv C hA G (kx4_takeOver zl D ad sa cc tt X170 (pT + 10) (pA + 10) (xE_10 hT) (xE_10 hpA) (by rw [h170, hcA.2]; exact hw) (by rw [hcA.2, hcT.2]; exact Nat.le_refl _) ⟨by omega, by omega, by omega⟩) (xE_10 hT).2 (xR_c (xE_10 hT).1) rfl (cwV 1 C.2.2.2.2.1 gX0_takeOver_X4_takeOver rfl rfl rfl (by decide +kernel) ⟨Nat.le_of_ble_eq_true rfl, Nat.le_of_ble_eq_true rfl⟩) rfl hl.1 rfl (Nat.le_of_ble_eq_true rfl) dX0_takeOver_181 ⟨Nat.le_refl _, Nat.le_refl _⟩ (fun H locs G => ?_)
  obtain ⟨X181, hX181⟩ : ∃ Z : xS, Z = x4_takeOver X170 (pT + 10) (pA + 10) := ⟨_, rfl⟩
  have G : xG D ad sa cc tt zA zs.heap H locs X181 := by rw [hX181]; exact G
  rw [lt_e hX181] at hF
  refine lv_aload_n hx hb dX0_takeOver_184 rfl (lv_at hl 0 rfl) ?_
  refine lv_aload_n hx hb dX0_takeOver_185 rfl (lv_at hl 1 rfl) ?_
  refine xr_get C G hpA.2 (xE_c hpA.1) rfl (fun _ h => List.mem_cons_of_mem _ (List.mem_append_left _ (List.mem_append_right _ h))) 18 (by decide) (show Cond.fieldLink RX0 49 "WheatCounts$Estate" "z" "I" ∈ _ by decide +kernel) rfl dX0_takeOver_186 ?_
  refine xr_put C G hT.2 (xE_c hT.1) rfl (fun _ h => List.mem_cons_of_mem _ (List.mem_append_left _ (List.mem_append_right _ h))) tyX0 tyX0_ok nmX0 18 (by decide) rfl (show Cond.fieldLink RX0 49 "WheatCounts$Estate" "z" "I" ∈ _ by decide +kernel) (ty := .int) (by decide +kernel) rfl rfl (Nat.le_of_ble_eq_true rfl) (upd (X181 pT) 18 (X181 pA 18)) (xE_c hT.1) dX0_takeOver_189 (fun H locs G => ?_)
  obtain ⟨X189, hX189⟩ : ∃ Z : xS, Z = mU X181 pT 18 (X181 pA 18) := ⟨_, rfl⟩
  have G : xG D ad sa cc tt zA zs.heap H locs X189 := by rw [hX189]; exact G
  rw [lt_e hX189] at hF
  exact hret _ _ _ _ _ hF G dX0_takeOver_192
set_option maxRecDepth 100000 in
set_option maxHeartbeats 4000000 in
theorem kx0_grow (zl : Launch) (D : va_G) (ad sa : Nat → Nat) (cc : cT) (tt : tT) (X : xS) (pT : Nat) (hT : kE pT) (hR : eR tt X pT) : xMv zl D ad sa cc tt yX0_grow wsX0_grow ({ frames := 4, cells := 0, slots := 0, locals := 95 } : Room) [.ref (ad pT)] X (x0_grow tt X pT) := by
  refine xMv_of (code := cX0_grow) (nL := 5) (own := RX0) (by decide) rfl rfl (Nat.le_of_ble_eq_true rfl) ?_
  intro zp ze zs zm zg zb zt zc zA zQ C hA hret H locs ls hl G
  have hx := C.1
  have hb := C.2.1
  have hl : lv_has ls 5 [(0, .ref (ad pT))] := hl
  obtain ⟨rM, hF⟩ : ∃ Z : xS, Z = x0_grow tt X pT := ⟨_, rfl⟩
  rw [← hF] at hret
  unfold x0_grow at hF
  have hc := hR.1
  have hp := hR.2.1
  have ha := hR.2.2.1
  have ht := hR.2.2.2
  have hc2 := hc.2.1
  have hc3 := hc.2.2
  have hp2 := hp.2
  refine lv_aload_n hx hb dX0_grow_0 rfl (lv_at hl 0 rfl) ?_
  refine xr_get C G hT.2 (xE_c hT.1) rfl (fun _ h => List.mem_cons_of_mem _ (List.mem_append_left _ (List.mem_append_right _ h))) 3 (by decide) (show Cond.fieldLink RX0 22 "WheatCounts$Estate" "counted" "[I" ∈ _ by decide +kernel) rfl dX0_grow_1 ?_
  refine lv_iconst (v := 0) hx hb dX0_grow_4 (by decide) ?_
  refine xr_Sv C hA G (kx7_fill_53178 zl D ad sa cc tt X (pT + 3) 10 0 (xE_3 hT)) (va_cwS 2 C.2.2.2.2.1 gX0_grow_J7_fill_53178 rfl rfl rfl (by decide +kernel) ⟨Nat.le_of_ble_eq_true rfl, Nat.le_of_ble_eq_true rfl⟩) rfl hl.1 rfl (Nat.le_of_ble_eq_true rfl) dX0_grow_5 ⟨Nat.le_refl _, Nat.le_refl _⟩ (fun H locs G => ?_)
  obtain ⟨X5, hX5⟩ : ∃ Z : xS, Z = x7_fill_53178 X (pT + 3) 10 0 := ⟨_, rfl⟩
  have G : xG D ad sa cc tt zA zs.heap H locs X5 := by rw [hX5]; exact G
  rw [lt_e hX5] at hF
  refine lv_iconst (v := 0) hx hb dX0_grow_8 (by decide) ?_
  refine lv_istore_n (lv' := [(1, .int 0), (0, .ref (ad pT))]) hx hb dX0_grow_9 rfl hl (by decide) rfl (fun ls hl => ?_)
  obtain ⟨X10x, hX10⟩ : ∃ (X10x : xS), X10x = x0_grow_L10 tt X pT X5 (vn (X pT 9)) := ⟨_, rfl⟩
  rw [lt_e hX10] at hF
  have hg10x : ∀ p, p ≠ pT + 3 → X10x p = X p := by rw [hX10]; intro p h; rw [gw_L10 _ _ _ _ p h, hX5]; exact gw_fill _ _ _ _ p h
  have hrest10 : ∀ (H : Heap) (locs : List Loc) (ls : Array Slot), lv_has ls 5 [(0, .ref (ad pT)), (1, .int (nI (vn (X pT 9))))] → xG D ad sa cc tt zA zs.heap H locs X10x → W zp zl ze ({ frames := 4, cells := 0, slots := 0, locals := 95 } : Room) zs zm zg zb zt zc H locs 0 0 zQ (F0 zm 115 ls []) := by
    intro H locs ls hl G
    refine lv_iconst (v := 0) hx hb dX0_grow_115 (by decide) ?_
    refine lv_istore_n (lv' := [(1, .int 0), (0, .ref (ad pT))]) hx hb dX0_grow_116 rfl hl (by decide) rfl (fun ls hl => ?_)
    obtain ⟨X117x, hX117⟩ : ∃ (X117x : xS), X117x = x0_grow_L117 pT X10x (vn (X pT 0)) := ⟨_, rfl⟩
    rw [lt_e hX117] at hF
    have hrest117 : ∀ (H : Heap) (locs : List Loc) (ls : Array Slot), lv_has ls 5 [(0, .ref (ad pT)), (1, .int (nI (vn (X pT 0))))] → xG D ad sa cc tt zA zs.heap H locs X117x → W zp zl ze ({ frames := 4, cells := 0, slots := 0, locals := 95 } : Room) zs zm zg zb zt zc H locs 0 0 zQ (F0 zm 164 ls []) := by
      intro H locs ls hl G
      exact hret _ _ _ _ _ hF G dX0_grow_164
    have hloop117 : ∀ (zj k117 : Nat), zj + k117 = (vn (X pT 0)) → ∀ (X117 : xS), X117 = x0_grow_L117 pT X10x k117 → ∀ (H : Heap) (locs : List Loc) (ls : Array Slot), lv_has ls 5 [(0, .ref (ad pT)), (1, .int (nI k117))] → xG D ad sa cc tt zA zs.heap H locs X117 → W zp zl ze ({ frames := 4, cells := 0, slots := 0, locals := 95 } : Room) zs zm zg zb zt zc H locs 0 0 zQ (F0 zm 117 ls []) := by
      intro zj
      induction zj with
      | zero =>
        intro k117 hk X117 hL H locs ls hl G
        have hk : k117 = (vn (X pT 0)) := by omega
        rw [hk] at hL hl
        have hg117 : ∀ p, p ≠ pT + 1 → X117 p = X10x p := by rw [hL]; intro p h; exact gw_L117 _ _ _ p h
        refine lv_iload_n hx hb dX0_grow_117 rfl (lv_at hl 1 rfl) ?_
        refine lv_aload_n hx hb dX0_grow_118 rfl (lv_at hl 0 rfl) ?_
        refine xr_get C G hT.2 (xE_c hT.1) rfl (fun _ h => List.mem_cons_of_mem _ (List.mem_append_left _ (List.mem_append_right _ h))) 0 (by decide) (show Cond.fieldLink RX0 9 "WheatCounts$Estate" "cells" "I" ∈ _ by decide +kernel) rfl dX0_grow_119 ?_
        refine lv_icmp_ge (tgt := 164) hx hb dX0_grow_122 (by decide) (fun c122 => ?_) (fun c122 => absurd (lp_out (n := (vn (X pT 0))) (by rw [hg117 pT (by omega), hg10x pT (by omega)]; exact hc.1)) c122)
        obtain rfl := hL.trans hX117.symm
        exact hrest117 _ _ _ (lv_sub hl [0, 1] rfl) G
      | succ zj ih =>
        intro k117 hk X117 hL H locs ls hl G
        have hkn : k117 < (vn (X pT 0)) := by omega
        obtain ⟨X117s, hS0⟩ : ∃ (X117s : xS), X117s = x0_grow_L117 pT X10x (k117 + 1) := ⟨_, rfl⟩
        have hS := hS0
        rw [x0_grow_L117_s, lt_e hL] at hS
        have hg117 : ∀ p, p ≠ pT + 1 → X117 p = X10x p := by rw [hL]; intro p h; exact gw_L117 _ _ _ p h
        refine lv_iload_n hx hb dX0_grow_117 rfl (lv_at hl 1 rfl) ?_
        refine lv_aload_n hx hb dX0_grow_118 rfl (lv_at hl 0 rfl) ?_
        refine xr_get C G hT.2 (xE_c hT.1) rfl (fun _ h => List.mem_cons_of_mem _ (List.mem_append_left _ (List.mem_append_right _ h))) 0 (by decide) (show Cond.fieldLink RX0 9 "WheatCounts$Estate" "cells" "I" ∈ _ by decide +kernel) rfl dX0_grow_119 ?_
        refine lv_icmp_ge (tgt := 164) hx hb dX0_grow_122 (by decide) (fun c122 => absurd c122 (lp_in (n := (vn (X pT 0))) (by rw [hg117 pT (by omega), hg10x pT (by omega)]; exact hc.1) hkn (by omega))) (fun c122 => ?_)
        refine lv_aload_n hx hb dX0_grow_125 rfl (lv_at hl 0 rfl) ?_
        refine xr_get C G hT.2 (xE_c hT.1) rfl (fun _ h => List.mem_cons_of_mem _ (List.mem_append_left _ (List.mem_append_right _ h))) 1 (by decide) (show Cond.fieldLink RX0 15 "WheatCounts$Estate" "grains" "[I" ∈ _ by decide +kernel) rfl dX0_grow_126 ?_
        refine lv_iload_n hx hb dX0_grow_129 rfl (lv_at hl 1 rfl) ?_
        refine lv_aload_n hx hb dX0_grow_130 rfl (lv_at hl 0 rfl) ?_
        refine xr_get C G hT.2 (xE_c hT.1) rfl (fun _ h => List.mem_cons_of_mem _ (List.mem_append_left _ (List.mem_append_right _ h))) 1 (by decide) (show Cond.fieldLink RX0 15 "WheatCounts$Estate" "grains" "[I" ∈ _ by decide +kernel) rfl dX0_grow_131 ?_
        refine lv_iload_n hx hb dX0_grow_134 rfl (lv_at hl 1 rfl) ?_
        refine xr_ald C G (xE_1 hT).2 (xI_c (xE_1 hT).1 _) k117 rfl (by omega) (xI_lt (xE_1 hT)) dX0_grow_135 ?_
        refine lv_aload_n hx hb dX0_grow_136 rfl (lv_at hl 0 rfl) ?_
        refine xr_get C G hT.2 (xE_c hT.1) rfl (fun _ h => List.mem_cons_of_mem _ (List.mem_append_left _ (List.mem_append_right _ h))) 3 (by decide) (show Cond.fieldLink RX0 22 "WheatCounts$Estate" "counted" "[I" ∈ _ by decide +kernel) rfl dX0_grow_137 ?_
        refine lv_iload_n hx hb dX0_grow_140 rfl (lv_at hl 1 rfl) ?_
        refine xr_ald C G (xE_3 hT).2 (xI_c (xE_3 hT).1 _) k117 rfl (by omega) (xI_lt (xE_3 hT)) dX0_grow_141 ?_
        refine lv_iconst (v := 2) hx hb dX0_grow_142 (by decide) ?_
        refine lv_idiv hx hb dX0_grow_143 (by decide) ?_
        refine lv_iadd hx hb dX0_grow_144 ?_
        refine lv_aload_n hx hb dX0_grow_145 rfl (lv_at hl 0 rfl) ?_
        refine xr_get C G hT.2 (xE_c hT.1) rfl (fun _ h => List.mem_cons_of_mem _ (List.mem_append_left _ (List.mem_append_right _ h))) 2 (by decide) (show Cond.fieldLink RX0 19 "WheatCounts$Estate" "weeds" "[I" ∈ _ by decide +kernel) rfl dX0_grow_146 ?_
        refine lv_iload_n hx hb dX0_grow_149 rfl (lv_at hl 1 rfl) ?_
        refine xr_ald C G (xE_2 hT).2 (xI_c (xE_2 hT).1 _) k117 rfl (by omega) (xI_lt (xE_2 hT)) dX0_grow_150 ?_
        refine lv_isub hx hb dX0_grow_151 ?_
        refine lv_ldc (v := 99999) hx hb C.2.2.2.1 (C.2.2.2.2.1 (.constant RX0 155 (99999)) (by decide +kernel)) dX0_grow_152 ?_
        refine xr_psn C hA G (ks_X8_held zl (((X117 (pT + 1) k117) + ((X117 (pT + 3) k117) / 2)) - (X117 (pT + 2) k117)) 99999) ⟨va_cnB 2 C.2.2.2.2.1 gX0_grow_X8_held_n113 rfl rfl rfl (C.2.2.2.2.2.2.1 _ (List.mem_of_getElem? (i := 1) rfl)) (C.2.2.2.2.1 (.initialized RX8) (by decide +kernel)) (by decide +kernel) ⟨Nat.le_of_ble_eq_true rfl, Nat.le_of_ble_eq_true rfl⟩, C.2.2.2.2.1 (.static yX8_held) (by decide +kernel), trivial⟩ rfl hl.1 rfl (Nat.le_of_ble_eq_true rfl) dX0_grow_154 ⟨Nat.le_refl _, Nat.le_refl _⟩ (fun H locs G => ?_)
        refine xr_ast C G (xE_1 hT).2 (xI_c (xE_1 hT).1) k117 rfl (by omega) (xI_lt (xE_1 hT)) dX0_grow_157 (fun H locs G => ?_)
        obtain ⟨X157, hX157⟩ : ∃ Z : xS, Z = mU X117 (pT + 1) k117 (p8_held (((X117 (pT + 1) k117) + ((X117 (pT + 3) k117) / 2)) - (X117 (pT + 2) k117)) 99999) := ⟨_, rfl⟩
        have G : xG D ad sa cc tt zA zs.heap H locs X157 := by rw [hX157]; exact G
        rw [lt_e hX157] at hS
        refine lv_iinc (v := nI (k117 + 1)) (lv' := [(1, .int (nI (k117 + 1))), (0, .ref (ad pT))]) hx hb dX0_grow_158 hl (k := 1) rfl (nt_add rfl (show (1 : Int32) = nI 1 from rfl)) (by decide) rfl (fun ls hl => ?_)
        refine lv_goto (tgt := 117) hx hb dX0_grow_161 (by decide) ?_
        subst hS
        exact ih (k117 + 1) (by omega) _ hS0 _ _ _ (lv_sub hl [1, 0] rfl) G
    exact hloop117 _ 0 (Nat.add_zero _) _ rfl _ _ _ (lv_sub hl [1, 0] rfl) G
  have hloop10 : ∀ (zj k10 : Nat), zj + k10 = (vn (X pT 9)) → ∀ (X10 : xS), X10 = x0_grow_L10 tt X pT X5 k10 → ∀ (H : Heap) (locs : List Loc) (ls : Array Slot), lv_has ls 5 [(0, .ref (ad pT)), (1, .int (nI k10))] → xG D ad sa cc tt zA zs.heap H locs X10 → W zp zl ze ({ frames := 4, cells := 0, slots := 0, locals := 95 } : Room) zs zm zg zb zt zc H locs 0 0 zQ (F0 zm 10 ls []) := by
    intro zj
    induction zj with
    | zero =>
      intro k10 hk X10 hL H locs ls hl G
      have hk : k10 = (vn (X pT 9)) := by omega
      rw [hk] at hL hl
      have hg10 : ∀ p, p ≠ pT + 3 → X10 p = X p := by rw [hL]; intro p h; rw [gw_L10 _ _ _ _ p h, hX5]; exact gw_fill _ _ _ _ p h
      refine lv_iload_n hx hb dX0_grow_10 rfl (lv_at hl 1 rfl) ?_
      refine lv_aload_n hx hb dX0_grow_11 rfl (lv_at hl 0 rfl) ?_
      refine xr_get C G hT.2 (xE_c hT.1) rfl (fun _ h => List.mem_cons_of_mem _ (List.mem_append_left _ (List.mem_append_right _ h))) 9 (by decide) (show Cond.fieldLink RX0 73 "WheatCounts$Estate" "people" "I" ∈ _ by decide +kernel) rfl dX0_grow_12 ?_
      refine lv_icmp_ge (tgt := 115) hx hb dX0_grow_15 (by decide) (fun c15 => ?_) (fun c15 => absurd (lp_out (n := (vn (X pT 9))) (by rw [hg10 pT (by omega)]; exact hp.1)) c15)
      obtain rfl := hL.trans hX10.symm
      exact hrest10 _ _ _ (lv_sub hl [0, 1] rfl) G
    | succ zj ih =>
      intro k10 hk X10 hL H locs ls hl G
      have hkn : k10 < (vn (X pT 9)) := by omega
      obtain ⟨X10s, hS0⟩ : ∃ (X10s : xS), X10s = x0_grow_L10 tt X pT X5 (k10 + 1) := ⟨_, rfl⟩
      have hS := hS0
      rw [x0_grow_L10_s, lt_e hL] at hS
      have hg10 : ∀ p, p ≠ pT + 3 → X10 p = X p := by rw [hL]; intro p h; rw [gw_L10 _ _ _ _ p h, hX5]; exact gw_fill _ _ _ _ p h
      have hR10 : eR tt X10 pT := eR_row hg10 hR
      refine lv_iload_n hx hb dX0_grow_10 rfl (lv_at hl 1 rfl) ?_
      refine lv_aload_n hx hb dX0_grow_11 rfl (lv_at hl 0 rfl) ?_
      refine xr_get C G hT.2 (xE_c hT.1) rfl (fun _ h => List.mem_cons_of_mem _ (List.mem_append_left _ (List.mem_append_right _ h))) 9 (by decide) (show Cond.fieldLink RX0 73 "WheatCounts$Estate" "people" "I" ∈ _ by decide +kernel) rfl dX0_grow_12 ?_
      refine lv_icmp_ge (tgt := 115) hx hb dX0_grow_15 (by decide) (fun c15 => absurd c15 (lp_in (n := (vn (X pT 9))) (by rw [hg10 pT (by omega)]; exact hp.1) hkn (by omega))) (fun c15 => ?_)
      refine lv_aload_n hx hb dX0_grow_18 rfl (lv_at hl 0 rfl) ?_
      refine xr_get C G hT.2 (xE_c hT.1) rfl (fun _ h => List.mem_cons_of_mem _ (List.mem_append_left _ (List.mem_append_right _ h))) 10 (by decide) (show Cond.fieldLink RX0 25 "WheatCounts$Estate" "kind" "[I" ∈ _ by decide +kernel) rfl dX0_grow_19 ?_
      refine lv_iload_n hx hb dX0_grow_22 rfl (lv_at hl 1 rfl) ?_
      refine xr_ald C G (xE_4 hT).2 (xI_c (xE_4 hT).1 _) k10 rfl (by omega) (xI_lt (xE_4 hT)) dX0_grow_23 ?_
      refine lv_aload_n hx hb dX0_grow_24 rfl (lv_at hl 0 rfl) ?_
      refine xr_get C G hT.2 (xE_c hT.1) rfl (fun _ h => List.mem_cons_of_mem _ (List.mem_append_left _ (List.mem_append_right _ h))) 11 (by decide) (show Cond.fieldLink RX0 28 "WheatCounts$Estate" "m" "[I" ∈ _ by decide +kernel) rfl dX0_grow_25 ?_
      refine lv_iload_n hx hb dX0_grow_28 rfl (lv_at hl 1 rfl) ?_
      refine xr_ald C G (xE_5 hT).2 (xI_c (xE_5 hT).1 _) k10 rfl (by omega) (xI_lt (xE_5 hT)) dX0_grow_29 ?_
      refine xr_ps C hA G (ks_X1_countsOf zl (X10 (pT + 4) k10) (X10 (pT + 5) k10)) (va_cwS 2 C.2.2.2.2.1 gX0_grow_X1_countsOf rfl rfl rfl (by decide +kernel) ⟨Nat.le_of_ble_eq_true rfl, Nat.le_of_ble_eq_true rfl⟩) rfl hl.1 rfl (Nat.le_of_ble_eq_true rfl) dX0_grow_30 ⟨Nat.le_refl _, Nat.le_refl _⟩ (fun H locs G => ?_)
      refine lv_topi (fun x33 hx33 => ?_)
      rw [lt_e hx33] at hS
      refine lv_istore_n (lv' := [(2, .int x33), (0, .ref (ad pT)), (1, .int (nI k10))]) hx hb dX0_grow_33 rfl hl (by decide) rfl (fun ls hl => ?_)
      refine lv_iload_n hx hb dX0_grow_34 rfl (lv_at hl 0 rfl) ?_
      obtain ⟨y70, hX70⟩ : ∃ (y70 : Int32), y70 = ((if x33 = 0 then 0 else (x0_viewFrom X10 pT k10 (vn (X10 (pT + 6) k10)) (x0_sightIn tt X10 pT k10 (X10 pT 6) (X10 pT 7)) (X10 pT 4))) : Int32) := ⟨_, rfl⟩
      rw [lt_e hX70] at hS
      have hj70 : ∀ (H : Heap) (locs : List Loc) (ls : Array Slot), lv_has ls 5 [(0, .ref (ad pT)), (1, .int (nI k10)), (2, .int x33)] → xG D ad sa cc tt zA zs.heap H locs X10 → W zp zl ze ({ frames := 4, cells := 0, slots := 0, locals := 95 } : Room) zs zm zg zb zt zc H locs 0 0 zQ (F0 zm 70 ls [.int y70]) := by
        intro H locs ls hl G
        refine lv_istore_n (lv' := [(3, .int y70), (0, .ref (ad pT)), (1, .int (nI k10)), (2, .int x33)]) hx hb dX0_grow_70 rfl hl (by decide) rfl (fun ls hl => ?_)
        refine lv_iconst (v := 0) hx hb dX0_grow_71 (by decide) ?_
        refine lv_istore (lv' := [(4, .int 0), (3, .int y70), (0, .ref (ad pT)), (1, .int (nI k10)), (2, .int x33)]) hx hb dX0_grow_72 hl (by decide) rfl (fun ls hl => ?_)
        obtain ⟨X74x, hX74⟩ : ∃ (X74x : xS), X74x = x0_grow_L74 pT X10 x33 y70 (vn (X pT 0)) := ⟨_, rfl⟩
        rw [lt_e hX74] at hS
        have hrest74 : ∀ (H : Heap) (locs : List Loc) (ls : Array Slot), lv_has ls 5 [(0, .ref (ad pT)), (1, .int (nI k10)), (2, .int x33), (3, .int y70), (4, .int (nI (vn (X pT 0))))] → xG D ad sa cc tt zA zs.heap H locs X74x → W zp zl ze ({ frames := 4, cells := 0, slots := 0, locals := 95 } : Room) zs zm zg zb zt zc H locs 0 0 zQ (F0 zm 109 ls []) := by
          intro H locs ls hl G
          refine lv_iinc (v := nI (k10 + 1)) (lv' := [(1, .int (nI (k10 + 1))), (0, .ref (ad pT)), (2, .int x33), (3, .int y70), (4, .int (nI (vn (X pT 0))))]) hx hb dX0_grow_109 hl (k := 1) rfl (nt_add rfl (show (1 : Int32) = nI 1 from rfl)) (by decide) rfl (fun ls hl => ?_)
          refine lv_goto (tgt := 10) hx hb dX0_grow_112 (by decide) ?_
          subst hS
          exact ih (k10 + 1) (by omega) _ hS0 _ _ _ (lv_sub hl [1, 0] rfl) G
        have hloop74 : ∀ (zj k74 : Nat), zj + k74 = (vn (X pT 0)) → ∀ (X74 : xS), X74 = x0_grow_L74 pT X10 x33 y70 k74 → ∀ (H : Heap) (locs : List Loc) (ls : Array Slot), lv_has ls 5 [(0, .ref (ad pT)), (1, .int (nI k10)), (2, .int x33), (3, .int y70), (4, .int (nI k74))] → xG D ad sa cc tt zA zs.heap H locs X74 → W zp zl ze ({ frames := 4, cells := 0, slots := 0, locals := 95 } : Room) zs zm zg zb zt zc H locs 0 0 zQ (F0 zm 74 ls []) := by
          intro zj
          induction zj with
          | zero =>
            intro k74 hk X74 hL H locs ls hl G
            have hk : k74 = (vn (X pT 0)) := by omega
            rw [hk] at hL hl
            have hg74 : ∀ p, p ≠ pT + 3 → X74 p = X p := by rw [hL]; intro p h; rw [gw_L74 _ _ _ _ _ p h]; exact hg10 p h
            refine lv_iload hx hb dX0_grow_74 (lv_at hl 4 rfl) ?_
            refine lv_aload_n hx hb dX0_grow_76 rfl (lv_at hl 0 rfl) ?_
            refine xr_get C G hT.2 (xE_c hT.1) rfl (fun _ h => List.mem_cons_of_mem _ (List.mem_append_left _ (List.mem_append_right _ h))) 0 (by decide) (show Cond.fieldLink RX0 9 "WheatCounts$Estate" "cells" "I" ∈ _ by decide +kernel) rfl dX0_grow_77 ?_
            refine lv_icmp_ge (tgt := 109) hx hb dX0_grow_80 (by decide) (fun c80 => ?_) (fun c80 => absurd (lp_out (n := (vn (X pT 0))) (by rw [hg74 pT (by omega)]; exact hc.1)) c80)
            obtain rfl := hL.trans hX74.symm
            exact hrest74 _ _ _ (lv_sub hl [0, 1, 2, 3, 4] rfl) G
          | succ zj ih =>
            intro k74 hk X74 hL H locs ls hl G
            have hkn : k74 < (vn (X pT 0)) := by omega
            obtain ⟨X74s, hS0⟩ : ∃ (X74s : xS), X74s = x0_grow_L74 pT X10 x33 y70 (k74 + 1) := ⟨_, rfl⟩
            have hS := hS0
            rw [x0_grow_L74_s, lt_e hL] at hS
            have hg74 : ∀ p, p ≠ pT + 3 → X74 p = X p := by rw [hL]; intro p h; rw [gw_L74 _ _ _ _ _ p h]; exact hg10 p h
            refine lv_iload hx hb dX0_grow_74 (lv_at hl 4 rfl) ?_
            refine lv_aload_n hx hb dX0_grow_76 rfl (lv_at hl 0 rfl) ?_
            refine xr_get C G hT.2 (xE_c hT.1) rfl (fun _ h => List.mem_cons_of_mem _ (List.mem_append_left _ (List.mem_append_right _ h))) 0 (by decide) (show Cond.fieldLink RX0 9 "WheatCounts$Estate" "cells" "I" ∈ _ by decide +kernel) rfl dX0_grow_77 ?_
            refine lv_icmp_ge (tgt := 109) hx hb dX0_grow_80 (by decide) (fun c80 => absurd c80 (lp_in (n := (vn (X pT 0))) (by rw [hg74 pT (by omega)]; exact hc.1) hkn (by omega))) (fun c80 => ?_)
            refine lv_iload_n hx hb dX0_grow_83 rfl (lv_at hl 3 rfl) ?_
            refine lv_iload hx hb dX0_grow_84 (lv_at hl 4 rfl) ?_
            refine xr_psn C hA G (ks_X8_has zl y70 (nI k74)) ⟨va_cnB 2 C.2.2.2.2.1 gX0_grow_X8_has_n103 rfl rfl rfl (C.2.2.2.2.2.2.1 _ (List.mem_of_getElem? (i := 0) rfl)) (C.2.2.2.2.1 (.initialized RX8) (by decide +kernel)) (by decide +kernel) ⟨Nat.le_of_ble_eq_true rfl, Nat.le_of_ble_eq_true rfl⟩, C.2.2.2.2.1 (.static yX8_has) (by decide +kernel), trivial⟩ rfl hl.1 rfl (Nat.le_of_ble_eq_true rfl) dX0_grow_86 ⟨Nat.le_refl _, Nat.le_refl _⟩ (fun H locs G => ?_)
            obtain ⟨X103, hX103⟩ : ∃ (X103 : xS), X103 = ((if (p8_has y70 (nI k74)) = 0 then X74 else (lt (mU X74 (pT + 3) k74 ((X74 (pT + 3) k74) + x33)) fun (X102 : xS) => X102)) : xS) := ⟨_, rfl⟩
            rw [lt_e hX103] at hS
            have hj103 : ∀ (H : Heap) (locs : List Loc) (ls : Array Slot), lv_has ls 5 [(0, .ref (ad pT)), (1, .int (nI k10)), (2, .int x33), (3, .int y70), (4, .int (nI k74))] → xG D ad sa cc tt zA zs.heap H locs X103 → W zp zl ze ({ frames := 4, cells := 0, slots := 0, locals := 95 } : Room) zs zm zg zb zt zc H locs 0 0 zQ (F0 zm 103 ls []) := by
              intro H locs ls hl G
              refine lv_iinc (v := nI (k74 + 1)) (lv' := [(4, .int (nI (k74 + 1))), (0, .ref (ad pT)), (1, .int (nI k10)), (2, .int x33), (3, .int y70)]) hx hb dX0_grow_103 hl (k := 4) rfl (nt_add rfl (show (1 : Int32) = nI 1 from rfl)) (by decide) rfl (fun ls hl => ?_)
              refine lv_goto (tgt := 74) hx hb dX0_grow_106 (by decide) ?_
              subst hS
              exact ih (k74 + 1) (by omega) _ hS0 _ _ _ (lv_sub hl [1, 2, 3, 4, 0] rfl) G
            refine lv_if_eq (tgt := 103) hx hb dX0_grow_89 (by decide) (fun c89 => ?_) (fun c89 => ?_)
            · rw [if_pos c89] at hX103
              subst hX103
              exact hj103 _ _ _ (lv_sub hl [0, 1, 2, 3, 4] rfl) G
            · rw [if_neg c89] at hX103
              refine lv_aload_n hx hb dX0_grow_92 rfl (lv_at hl 0 rfl) ?_
              refine xr_get C G hT.2 (xE_c hT.1) rfl (fun _ h => List.mem_cons_of_mem _ (List.mem_append_left _ (List.mem_append_right _ h))) 3 (by decide) (show Cond.fieldLink RX0 22 "WheatCounts$Estate" "counted" "[I" ∈ _ by decide +kernel) rfl dX0_grow_93 ?_
              refine lv_iload hx hb dX0_grow_96 (lv_at hl 4 rfl) ?_
              refine lv_dup2_11 hx hb dX0_grow_98 rfl rfl ?_
              refine xr_ald C G (xE_3 hT).2 (xI_c (xE_3 hT).1 _) k74 rfl (by omega) (xI_lt (xE_3 hT)) dX0_grow_99 ?_
              refine lv_iload_n hx hb dX0_grow_100 rfl (lv_at hl 2 rfl) ?_
              refine lv_iadd hx hb dX0_grow_101 ?_
              refine xr_ast C G (xE_3 hT).2 (xI_c (xE_3 hT).1) k74 rfl (by omega) (xI_lt (xE_3 hT)) dX0_grow_102 (fun H locs G => ?_)
              obtain ⟨X102, hX102⟩ : ∃ Z : xS, Z = mU X74 (pT + 3) k74 ((X74 (pT + 3) k74) + x33) := ⟨_, rfl⟩
              have G : xG D ad sa cc tt zA zs.heap H locs X102 := by rw [hX102]; exact G
              rw [lt_e hX102] at hX103
              subst hX103
              exact hj103 _ _ _ (lv_sub hl [0, 1, 2, 3, 4] rfl) G
        exact hloop74 _ 0 (Nat.add_zero _) _ rfl _ _ _ (lv_sub hl [2, 3, 4, 1, 0] rfl) G
      refine lv_if_ne (tgt := 42) hx hb dX0_grow_35 (by decide) (fun c35 => ?_) (fun c35 => ?_)
      · rw [if_neg c35] at hX70
        refine lv_aload_n hx hb dX0_grow_42 rfl (lv_at hl 1 rfl) ?_
        refine lv_iload_n hx hb dX0_grow_43 rfl (lv_at hl 2 rfl) ?_
        refine lv_aload_n hx hb dX0_grow_44 rfl (lv_at hl 1 rfl) ?_
        refine xr_get C G hT.2 (xE_c hT.1) rfl (fun _ h => List.mem_cons_of_mem _ (List.mem_append_left _ (List.mem_append_right _ h))) 12 (by decide) (show Cond.fieldLink RX0 31 "WheatCounts$Estate" "at" "[I" ∈ _ by decide +kernel) rfl dX0_grow_45 ?_
        refine lv_iload_n hx hb dX0_grow_48 rfl (lv_at hl 2 rfl) ?_
        refine xr_ald C G (xE_6 hT).2 (xI_c (xE_6 hT).1 _) k10 rfl (by omega) (xI_lt (xE_6 hT)) dX0_grow_49 ?_
        refine lv_aload_n hx hb dX0_grow_50 rfl (lv_at hl 1 rfl) ?_
        refine lv_iload_n hx hb dX0_grow_51 rfl (lv_at hl 2 rfl) ?_
        refine lv_aload_n hx hb dX0_grow_52 rfl (lv_at hl 1 rfl) ?_
        refine xr_get C G hT.2 (xE_c hT.1) rfl (fun _ h => List.mem_cons_of_mem _ (List.mem_append_left _ (List.mem_append_right _ h))) 6 (by decide) (show Cond.fieldLink RX0 64 "WheatCounts$Estate" "fog" "I" ∈ _ by decide +kernel) rfl dX0_grow_53 ?_
        refine lv_aload_n hx hb dX0_grow_56 rfl (lv_at hl 1 rfl) ?_
        refine xr_get C G hT.2 (xE_c hT.1) rfl (fun _ h => List.mem_cons_of_mem _ (List.mem_append_left _ (List.mem_append_right _ h))) 7 (by decide) (show Cond.fieldLink RX0 67 "WheatCounts$Estate" "hour" "I" ∈ _ by decide +kernel) rfl dX0_grow_57 ?_
        refine xr_Vi C hA G (kx0_sightIn zl D ad sa cc tt X10 pT k10 (X10 pT 6) (X10 pT 7) hT hR10.2.2.2 (by omega)) hT.2 (xE_c hT.1) rfl (cwV 3 C.2.2.2.2.1 gX0_grow_X0_sightIn rfl rfl rfl (by decide +kernel) ⟨Nat.le_of_ble_eq_true rfl, Nat.le_of_ble_eq_true rfl⟩) rfl hl.1 rfl (Nat.le_of_ble_eq_true rfl) dX0_grow_60 ⟨Nat.le_refl _, Nat.le_refl _⟩ (fun H locs G => ?_)
        refine lv_aload_n hx hb dX0_grow_63 rfl (lv_at hl 1 rfl) ?_
        refine xr_get C G hT.2 (xE_c hT.1) rfl (fun _ h => List.mem_cons_of_mem _ (List.mem_append_left _ (List.mem_append_right _ h))) 4 (by decide) (show Cond.fieldLink RX0 58 "WheatCounts$Estate" "hedges" "I" ∈ _ by decide +kernel) rfl dX0_grow_64 ?_
        refine xr_Vi C hA G (kx0_viewFrom zl D ad sa cc tt X10 pT k10 (vn (X10 (pT + 6) k10)) (x0_sightIn tt X10 pT k10 (X10 pT 6) (X10 pT 7)) (X10 pT 4) hT hR10.1 (by omega) (hR10.2.2.1 k10 (by omega)).2) hT.2 (xE_c hT.1) rfl (cwV 4 C.2.2.2.2.1 gX0_grow_X0_viewFrom rfl rfl rfl (by decide +kernel) ⟨Nat.le_of_ble_eq_true rfl, Nat.le_of_ble_eq_true rfl⟩) rfl hl.1 (cons_int rfl (cons_int rfl (cons_int (hR10.2.2.1 k10 (by omega)).1 (cons_int rfl rfl)))) (Nat.le_of_ble_eq_true rfl) dX0_grow_67 ⟨Nat.le_refl _, Nat.le_refl _⟩ (fun H locs G => ?_)
        subst hX70
        exact hj70 _ _ _ (lv_sub hl [1, 2, 0] rfl) G
      · rw [if_pos c35] at hX70
        refine lv_iconst (v := 0) hx hb dX0_grow_38 (by decide) ?_
        refine lv_goto (tgt := 70) hx hb dX0_grow_39 (by decide) ?_
        subst hX70
        exact hj70 _ _ _ (lv_sub hl [1, 2, 0] rfl) G
  exact hloop10 _ 0 (Nat.add_zero _) _ rfl _ _ _ (lv_sub hl [1, 0] rfl) G
set_option maxRecDepth 100000 in
set_option maxHeartbeats 4000000 in
theorem kx0_passHour (zl : Launch) (D : va_G) (ad sa : Nat → Nat) (cc : cT) (tt : tT) (X : xS) (pT : Nat) (hT : kE pT) (hR : eR tt X pT) : xMv zl D ad sa cc tt yX0_passHour wsX0_passHour ({ frames := 5, cells := 0, slots := 0, locals := 119 } : Room) [.ref (ad pT)] X (x0_passHour tt X pT) := by
  refine xMv_of (code := cX0_passHour) (nL := 4) (own := RX0) (by decide) rfl rfl (Nat.le_of_ble_eq_true rfl) ?_
  intro zp ze zs zm zg zb zt zc zA zQ C hA hret H locs ls hl G
  have hx := C.1
  have hb := C.2.1
  have hl : lv_has ls 4 [(0, .ref (ad pT))] := hl
  obtain ⟨rM, hF⟩ : ∃ Z : xS, Z = x0_passHour tt X pT := ⟨_, rfl⟩
  rw [← hF] at hret
  unfold x0_passHour at hF
  have hc := hR.1
  have hp := hR.2.1
  have ha := hR.2.2.1
  have ht := hR.2.2.2
  have hc2 := hc.2.1
  have hc3 := hc.2.2
  have hp2 := hp.2
  refine lv_aload_n hx hb dX0_passHour_0 rfl (lv_at hl 0 rfl) ?_
  refine xr_Vv C hA G (kx0_grow zl D ad sa cc tt X pT hT (by first | assumption | omega)) hT.2 (xE_c hT.1) rfl (cwV 0 C.2.2.2.2.1 gX0_passHour_X0_grow rfl rfl rfl (by decide +kernel) ⟨Nat.le_of_ble_eq_true rfl, Nat.le_of_ble_eq_true rfl⟩) rfl hl.1 rfl (Nat.le_of_ble_eq_true rfl) dX0_passHour_1 ⟨Nat.le_refl _, Nat.le_refl _⟩ (fun H locs G => ?_)
  obtain ⟨X1, hX1⟩ : ∃ Z : xS, Z = x0_grow tt X pT := ⟨_, rfl⟩
  have G : xG D ad sa cc tt zA zs.heap H locs X1 := by rw [hX1]; exact G
  rw [lt_e hX1] at hF
  have hr1 : eR tt X1 pT ∧ X1 pT 9 = X pT 9 := by rw [hX1]; exact gw_R hR
  refine lv_iconst (v := 0) hx hb dX0_passHour_4 (by decide) ?_
  refine lv_istore_n (lv' := [(1, .int 0), (0, .ref (ad pT))]) hx hb dX0_passHour_5 rfl hl (by decide) rfl (fun ls hl => ?_)
  obtain ⟨X6x, hX6⟩ : ∃ (X6x : xS), X6x = x0_passHour_L6 tt pT X1 (vn (X pT 9)) := ⟨_, rfl⟩
  rw [lt_e hX6] at hF
  have hrest6 : ∀ (H : Heap) (locs : List Loc) (ls : Array Slot), lv_has ls 4 [(0, .ref (ad pT)), (1, .int (nI (vn (X pT 9))))] → xG D ad sa cc tt zA zs.heap H locs X6x → W zp zl ze ({ frames := 5, cells := 0, slots := 0, locals := 119 } : Room) zs zm zg zb zt zc H locs 0 0 zQ (F0 zm 82 ls []) := by
    intro H locs ls hl G
    refine lv_aload_n hx hb dX0_passHour_82 rfl (lv_at hl 0 rfl) ?_
    refine lv_dup hx hb dX0_passHour_83 rfl ?_
    refine xr_get C G hT.2 (xE_c hT.1) rfl (fun _ h => List.mem_cons_of_mem _ (List.mem_append_left _ (List.mem_append_right _ h))) 7 (by decide) (show Cond.fieldLink RX0 67 "WheatCounts$Estate" "hour" "I" ∈ _ by decide +kernel) rfl dX0_passHour_84 ?_
    refine lv_iconst (v := 1) hx hb dX0_passHour_87 (by decide) ?_
    refine lv_iadd hx hb dX0_passHour_88 ?_
    refine xr_put C G hT.2 (xE_c hT.1) rfl (fun _ h => List.mem_cons_of_mem _ (List.mem_append_left _ (List.mem_append_right _ h))) tyX0 tyX0_ok nmX0 7 (by decide) rfl (show Cond.fieldLink RX0 67 "WheatCounts$Estate" "hour" "I" ∈ _ by decide +kernel) (ty := .int) (by decide +kernel) rfl rfl (Nat.le_of_ble_eq_true rfl) (upd (X6x pT) 7 ((X6x pT 7) + 1)) (xE_c hT.1) dX0_passHour_89 (fun H locs G => ?_)
    obtain ⟨X89, hX89⟩ : ∃ Z : xS, Z = mU X6x pT 7 ((X6x pT 7) + 1) := ⟨_, rfl⟩
    have G : xG D ad sa cc tt zA zs.heap H locs X89 := by rw [hX89]; exact G
    rw [lt_e hX89] at hF
    exact hret _ _ _ _ _ hF G dX0_passHour_92
  have hloop6 : ∀ (zj k6 : Nat), zj + k6 = (vn (X pT 9)) → ∀ (X6 : xS), X6 = x0_passHour_L6 tt pT X1 k6 → ∀ (H : Heap) (locs : List Loc) (ls : Array Slot), lv_has ls 4 [(0, .ref (ad pT)), (1, .int (nI k6))] → xG D ad sa cc tt zA zs.heap H locs X6 → W zp zl ze ({ frames := 5, cells := 0, slots := 0, locals := 119 } : Room) zs zm zg zb zt zc H locs 0 0 zQ (F0 zm 6 ls []) := by
    intro zj
    induction zj with
    | zero =>
      intro k6 hk X6 hL H locs ls hl G
      have hk : k6 = (vn (X pT 9)) := by omega
      rw [hk] at hL hl
      have hr6 : eR tt X6 pT ∧ X6 pT 9 = X pT 9 := by rw [hL]; exact ph_L6 hr1.1 hr1.2 _ (by omega)
      refine lv_iload_n hx hb dX0_passHour_6 rfl (lv_at hl 1 rfl) ?_
      refine lv_aload_n hx hb dX0_passHour_7 rfl (lv_at hl 0 rfl) ?_
      refine xr_get C G hT.2 (xE_c hT.1) rfl (fun _ h => List.mem_cons_of_mem _ (List.mem_append_left _ (List.mem_append_right _ h))) 9 (by decide) (show Cond.fieldLink RX0 73 "WheatCounts$Estate" "people" "I" ∈ _ by decide +kernel) rfl dX0_passHour_8 ?_
      refine lv_icmp_ge (tgt := 82) hx hb dX0_passHour_11 (by decide) (fun c11 => ?_) (fun c11 => absurd (lp_out (n := (vn (X pT 9))) (by rw [hr6.2]; exact hp.1)) c11)
      obtain rfl := hL.trans hX6.symm
      exact hrest6 _ _ _ (lv_sub hl [0, 1] rfl) G
    | succ zj ih =>
      intro k6 hk X6 hL H locs ls hl G
      have hkn : k6 < (vn (X pT 9)) := by omega
      obtain ⟨X6s, hS0⟩ : ∃ (X6s : xS), X6s = x0_passHour_L6 tt pT X1 (k6 + 1) := ⟨_, rfl⟩
      have hS := hS0
      rw [x0_passHour_L6_s, lt_e hL] at hS
      have hr6 : eR tt X6 pT ∧ X6 pT 9 = X pT 9 := by rw [hL]; exact ph_L6 hr1.1 hr1.2 _ (by omega)
      refine lv_iload_n hx hb dX0_passHour_6 rfl (lv_at hl 1 rfl) ?_
      refine lv_aload_n hx hb dX0_passHour_7 rfl (lv_at hl 0 rfl) ?_
      refine xr_get C G hT.2 (xE_c hT.1) rfl (fun _ h => List.mem_cons_of_mem _ (List.mem_append_left _ (List.mem_append_right _ h))) 9 (by decide) (show Cond.fieldLink RX0 73 "WheatCounts$Estate" "people" "I" ∈ _ by decide +kernel) rfl dX0_passHour_8 ?_
      refine lv_icmp_ge (tgt := 82) hx hb dX0_passHour_11 (by decide) (fun c11 => absurd c11 (lp_in (n := (vn (X pT 9))) (by rw [hr6.2]; exact hp.1) hkn (by omega))) (fun c11 => ?_)
      have hi6 := (hr6.1.2.2.1 k6 (by omega)).2
      refine lv_aload_n hx hb dX0_passHour_14 rfl (lv_at hl 0 rfl) ?_
      refine xr_get C G hT.2 (xE_c hT.1) rfl (fun _ h => List.mem_cons_of_mem _ (List.mem_append_left _ (List.mem_append_right _ h))) 12 (by decide) (show Cond.fieldLink RX0 31 "WheatCounts$Estate" "at" "[I" ∈ _ by decide +kernel) rfl dX0_passHour_15 ?_
      refine lv_iload_n hx hb dX0_passHour_18 rfl (lv_at hl 1 rfl) ?_
      refine xr_ald C G (xE_6 hT).2 (xI_c (xE_6 hT).1 _) k6 rfl (by omega) (xI_lt (xE_6 hT)) dX0_passHour_19 ?_
      refine lv_topi (fun x20 hx20 => ?_)
      obtain rfl : x20 = nI (vn (X6 (pT + 6) k6)) := hx20.trans (hr6.1.2.2.1 k6 (by omega)).1
      refine lv_istore_n (lv' := [(2, .int (nI (vn (X6 (pT + 6) k6)))), (0, .ref (ad pT)), (1, .int (nI k6))]) hx hb dX0_passHour_20 rfl hl (by decide) rfl (fun ls hl => ?_)
      refine lv_aload_n hx hb dX0_passHour_21 rfl (lv_at hl 1 rfl) ?_
      refine xr_get C G hT.2 (xE_c hT.1) rfl (fun _ h => List.mem_cons_of_mem _ (List.mem_append_left _ (List.mem_append_right _ h))) 1 (by decide) (show Cond.fieldLink RX0 15 "WheatCounts$Estate" "grains" "[I" ∈ _ by decide +kernel) rfl dX0_passHour_22 ?_
      refine lv_iload_n hx hb dX0_passHour_25 rfl (lv_at hl 0 rfl) ?_
      refine xr_ald C G (xE_1 hT).2 (xI_c (xE_1 hT).1 _) (vn (X6 (pT + 6) k6)) rfl (by omega) (xI_lt (xE_1 hT)) dX0_passHour_26 ?_
      refine lv_aload_n hx hb dX0_passHour_27 rfl (lv_at hl 1 rfl) ?_
      refine lv_iload_n hx hb dX0_passHour_28 rfl (lv_at hl 2 rfl) ?_
      refine lv_aload_n hx hb dX0_passHour_29 rfl (lv_at hl 1 rfl) ?_
      refine xr_get C G hT.2 (xE_c hT.1) rfl (fun _ h => List.mem_cons_of_mem _ (List.mem_append_left _ (List.mem_append_right _ h))) 1 (by decide) (show Cond.fieldLink RX0 15 "WheatCounts$Estate" "grains" "[I" ∈ _ by decide +kernel) rfl dX0_passHour_30 ?_
      refine lv_iload_n hx hb dX0_passHour_33 rfl (lv_at hl 0 rfl) ?_
      refine xr_ald C G (xE_1 hT).2 (xI_c (xE_1 hT).1 _) (vn (X6 (pT + 6) k6)) rfl (by omega) (xI_lt (xE_1 hT)) dX0_passHour_34 ?_
      refine lv_aload_n hx hb dX0_passHour_35 rfl (lv_at hl 1 rfl) ?_
      refine xr_get C G hT.2 (xE_c hT.1) rfl (fun _ h => List.mem_cons_of_mem _ (List.mem_append_left _ (List.mem_append_right _ h))) 7 (by decide) (show Cond.fieldLink RX0 67 "WheatCounts$Estate" "hour" "I" ∈ _ by decide +kernel) rfl dX0_passHour_36 ?_
      refine xr_Vi C hA G (kx0_takesFrom zl D ad sa cc tt X6 pT k6 (X6 (pT + 1) (vn (X6 (pT + 6) k6))) (X6 pT 7) hT hr6.1.2.2.2 (by omega)) hT.2 (xE_c hT.1) rfl (cwV 3 C.2.2.2.2.1 gX0_passHour_X0_takesFrom rfl rfl rfl (by decide +kernel) ⟨Nat.le_of_ble_eq_true rfl, Nat.le_of_ble_eq_true rfl⟩) rfl hl.1 rfl (Nat.le_of_ble_eq_true rfl) dX0_passHour_39 ⟨Nat.le_refl _, Nat.le_refl _⟩ (fun H locs G => ?_)
      refine va_mmin hx hb (C.2.2.1.trans hl.1.symm) C.2.2.2.1 (C.2.2.2.2.1 (.methodLink RX0 152 Lib.Math.min.name) (by decide +kernel)) (C.2.2.2.2.1 (.static Lib.Math.min.name) (by decide +kernel)) (C.2.2.2.2.1 (.initialized "java/lang/Math") (by decide +kernel)) (C.2.2.2.2.1 (.code Lib.Math.min.name Lib.Math.min.code 2 (some .int)) (by decide +kernel)) (Nat.le_of_ble_eq_true rfl) (Nat.le_of_ble_eq_true rfl) (Nat.le_refl _) (Nat.le_refl _) dX0_passHour_42 ?_
      refine lv_topi (fun x45 hx45 => ?_)
      rw [lt_e hx45] at hS
      refine lv_istore_n (lv' := [(3, .int x45), (2, .int (nI (vn (X6 (pT + 6) k6)))), (0, .ref (ad pT)), (1, .int (nI k6))]) hx hb dX0_passHour_45 rfl hl (by decide) rfl (fun ls hl => ?_)
      refine lv_aload_n hx hb dX0_passHour_46 rfl (lv_at hl 2 rfl) ?_
      refine xr_get C G hT.2 (xE_c hT.1) rfl (fun _ h => List.mem_cons_of_mem _ (List.mem_append_left _ (List.mem_append_right _ h))) 1 (by decide) (show Cond.fieldLink RX0 15 "WheatCounts$Estate" "grains" "[I" ∈ _ by decide +kernel) rfl dX0_passHour_47 ?_
      refine lv_iload_n hx hb dX0_passHour_50 rfl (lv_at hl 1 rfl) ?_
      refine lv_dup2_11 hx hb dX0_passHour_51 rfl rfl ?_
      refine xr_ald C G (xE_1 hT).2 (xI_c (xE_1 hT).1 _) (vn (X6 (pT + 6) k6)) rfl (by omega) (xI_lt (xE_1 hT)) dX0_passHour_52 ?_
      refine lv_iload_n hx hb dX0_passHour_53 rfl (lv_at hl 0 rfl) ?_
      refine lv_isub hx hb dX0_passHour_54 ?_
      refine xr_ast C G (xE_1 hT).2 (xI_c (xE_1 hT).1) (vn (X6 (pT + 6) k6)) rfl (by omega) (xI_lt (xE_1 hT)) dX0_passHour_55 (fun H locs G => ?_)
      obtain ⟨X55, hX55⟩ : ∃ Z : xS, Z = mU X6 (pT + 1) (vn (X6 (pT + 6) k6)) ((X6 (pT + 1) (vn (X6 (pT + 6) k6))) - x45) := ⟨_, rfl⟩
      have G : xG D ad sa cc tt zA zs.heap H locs X55 := by rw [hX55]; exact G
      rw [lt_e hX55] at hS
      refine lv_aload_n hx hb dX0_passHour_56 rfl (lv_at hl 2 rfl) ?_
      refine lv_aload_n hx hb dX0_passHour_57 rfl (lv_at hl 2 rfl) ?_
      refine xr_get C G hT.2 (xE_c hT.1) rfl (fun _ h => List.mem_cons_of_mem _ (List.mem_append_left _ (List.mem_append_right _ h))) 8 (by decide) (show Cond.fieldLink RX0 70 "WheatCounts$Estate" "stolen" "I" ∈ _ by decide +kernel) rfl dX0_passHour_58 ?_
      refine lv_iload_n hx hb dX0_passHour_61 rfl (lv_at hl 0 rfl) ?_
      refine lv_iadd hx hb dX0_passHour_62 ?_
      refine lv_ldc (v := 99999) hx hb C.2.2.2.1 (C.2.2.2.2.1 (.constant RX0 155 (99999)) (by decide +kernel)) dX0_passHour_63 ?_
      refine xr_psn C hA G (ks_X8_held zl ((X55 pT 8) + x45) 99999) ⟨va_cnB 2 C.2.2.2.2.1 gX0_passHour_X8_held_n113 rfl rfl rfl (C.2.2.2.2.2.2.1 _ (List.mem_of_getElem? (i := 1) rfl)) (C.2.2.2.2.1 (.initialized RX8) (by decide +kernel)) (by decide +kernel) ⟨Nat.le_of_ble_eq_true rfl, Nat.le_of_ble_eq_true rfl⟩, C.2.2.2.2.1 (.static yX8_held) (by decide +kernel), trivial⟩ rfl hl.1 rfl (Nat.le_of_ble_eq_true rfl) dX0_passHour_65 ⟨Nat.le_refl _, Nat.le_refl _⟩ (fun H locs G => ?_)
      refine xr_put C G hT.2 (xE_c hT.1) rfl (fun _ h => List.mem_cons_of_mem _ (List.mem_append_left _ (List.mem_append_right _ h))) tyX0 tyX0_ok nmX0 8 (by decide) rfl (show Cond.fieldLink RX0 70 "WheatCounts$Estate" "stolen" "I" ∈ _ by decide +kernel) (ty := .int) (by decide +kernel) rfl rfl (Nat.le_of_ble_eq_true rfl) (upd (X55 pT) 8 (p8_held ((X55 pT 8) + x45) 99999)) (xE_c hT.1) dX0_passHour_68 (fun H locs G => ?_)
      obtain ⟨X68, hX68⟩ : ∃ Z : xS, Z = mU X55 pT 8 (p8_held ((X55 pT 8) + x45) 99999) := ⟨_, rfl⟩
      have G : xG D ad sa cc tt zA zs.heap H locs X68 := by rw [hX68]; exact G
      rw [lt_e hX68] at hS
      refine lv_aload_n hx hb dX0_passHour_71 rfl (lv_at hl 2 rfl) ?_
      refine lv_iload_n hx hb dX0_passHour_72 rfl (lv_at hl 3 rfl) ?_
      refine xr_Vv C hA G (kx0_goOn zl D ad sa cc tt X68 pT k6 hT (by omega)) hT.2 (xE_c hT.1) rfl (cwV 1 C.2.2.2.2.1 gX0_passHour_X0_goOn rfl rfl rfl (by decide +kernel) ⟨Nat.le_of_ble_eq_true rfl, Nat.le_of_ble_eq_true rfl⟩) rfl hl.1 rfl (Nat.le_of_ble_eq_true rfl) dX0_passHour_73 ⟨Nat.le_refl _, Nat.le_refl _⟩ (fun H locs G => ?_)
      obtain ⟨X73, hX73⟩ : ∃ Z : xS, Z = x0_goOn X68 pT k6 := ⟨_, rfl⟩
      have G : xG D ad sa cc tt zA zs.heap H locs X73 := by rw [hX73]; exact G
      rw [lt_e hX73] at hS
      refine lv_iinc (v := nI (k6 + 1)) (lv' := [(1, .int (nI (k6 + 1))), (3, .int x45), (2, .int (nI (vn (X6 (pT + 6) k6)))), (0, .ref (ad pT))]) hx hb dX0_passHour_76 hl (k := 3) rfl (nt_add rfl (show (1 : Int32) = nI 1 from rfl)) (by decide) rfl (fun ls hl => ?_)
      refine lv_goto (tgt := 6) hx hb dX0_passHour_79 (by decide) ?_
      subst hS
      exact ih (k6 + 1) (by omega) _ hS0 _ _ _ (lv_sub hl [3, 0] rfl) G
  exact hloop6 _ 0 (Nat.add_zero _) _ rfl _ _ _ (lv_sub hl [1, 0] rfl) G

