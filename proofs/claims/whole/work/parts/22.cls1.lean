set_option maxRecDepth 100000 in
set_option maxHeartbeats 4000000 in
theorem ks_X8_within (zl : Launch) (v : Int32) (lo : Int32) (hi : Int32) : sM zl yX8_within wsX8_within ({ frames := 0, cells := 0, slots := 0, locals := 0 } : Room) [.int v, .int lo, .int hi] (p8_within v lo hi) := by
  refine sM_of (own := RX8) (cc := cX8_within) (nL := 3) (Or.inr ⟨rfl, p8_within_01 ..⟩) (by decide) rfl rfl (Nat.le_of_ble_eq_true rfl) ?_
  intro zp ze zs zm zg zb zt zc zA H0 zQ C hA hret H locs ls hl G
  have hx := C.1
  have hb := C.2.1
  have hl : lv_has ls 3 [(0, .int v), (1, .int lo), (2, .int hi)] := hl
  obtain ⟨rM, hF⟩ : ∃ X : Int32, X = p8_within v lo hi := ⟨_, rfl⟩
  rw [← hF] at hret
  unfold p8_within at hF
  refine lv_iload_n hx hb dX8_within_0 rfl (lv_at hl 0 rfl) ?_
  refine lv_iload_n hx hb dX8_within_1 rfl (lv_at hl 1 rfl) ?_
  refine lv_icmp_lt (tgt := 14) hx hb dX8_within_2 (by decide) (fun c2 => ?_) (fun c2 => ?_)
  · rw [if_pos c2] at hF
    refine lv_iconst (v := 0) hx hb dX8_within_14 (by decide) ?_
    exact hret _ _ _ _ _ hF G dX8_within_15
  · rw [if_neg c2] at hF
    refine lv_iload_n hx hb dX8_within_5 rfl (lv_at hl 0 rfl) ?_
    refine lv_iload_n hx hb dX8_within_6 rfl (lv_at hl 2 rfl) ?_
    refine lv_icmp_gt (tgt := 14) hx hb dX8_within_7 (by decide) (fun c7 => ?_) (fun c7 => ?_)
    · rw [if_pos c7] at hF
      refine lv_iconst (v := 0) hx hb dX8_within_14 (by decide) ?_
      exact hret _ _ _ _ _ hF G dX8_within_15
    · rw [if_neg c7] at hF
      refine lv_iconst (v := 1) hx hb dX8_within_10 (by decide) ?_
      refine lv_goto (tgt := 15) hx hb dX8_within_11 (by decide) ?_
      exact hret _ _ _ _ _ hF G dX8_within_15
set_option maxRecDepth 100000 in
set_option maxHeartbeats 4000000 in
theorem ks_X8_held (zl : Launch) (v : Int32) (hi : Int32) : sM zl yX8_held wsX8_held ({ frames := 0, cells := 0, slots := 0, locals := 0 } : Room) [.int v, .int hi] (p8_held v hi) := by
  refine sM_of (own := RX8) (cc := cX8_held) (nL := 2) (Or.inl rfl) (by decide) rfl rfl (Nat.le_of_ble_eq_true rfl) ?_
  intro zp ze zs zm zg zb zt zc zA H0 zQ C hA hret H locs ls hl G
  have hx := C.1
  have hb := C.2.1
  have hl : lv_has ls 2 [(0, .int v), (1, .int hi)] := hl
  obtain ⟨rM, hF⟩ : ∃ X : Int32, X = p8_held v hi := ⟨_, rfl⟩
  rw [← hF] at hret
  unfold p8_held at hF
  refine lv_iload_n hx hb dX8_held_0 rfl (lv_at hl 0 rfl) ?_
  refine lv_if_ge (tgt := 6) hx hb dX8_held_1 (by decide) (fun c1 => ?_) (fun c1 => ?_)
  · rw [if_pos c1] at hF
    refine lv_iload_n hx hb dX8_held_6 rfl (lv_at hl 0 rfl) ?_
    refine lv_iload_n hx hb dX8_held_7 rfl (lv_at hl 1 rfl) ?_
    refine lv_icmp_le (tgt := 15) hx hb dX8_held_8 (by decide) (fun c8 => ?_) (fun c8 => ?_)
    · rw [if_pos c8] at hF
      refine lv_iload_n hx hb dX8_held_15 rfl (lv_at hl 0 rfl) ?_
      exact hret _ _ _ _ _ hF G dX8_held_16
    · rw [if_neg c8] at hF
      refine lv_iload_n hx hb dX8_held_11 rfl (lv_at hl 1 rfl) ?_
      refine lv_goto (tgt := 16) hx hb dX8_held_12 (by decide) ?_
      exact hret _ _ _ _ _ hF G dX8_held_16
  · rw [if_neg c1] at hF
    refine lv_iconst (v := 0) hx hb dX8_held_4 (by decide) ?_
    exact hret _ _ _ _ _ hF G dX8_held_5
set_option maxRecDepth 100000 in
set_option maxHeartbeats 4000000 in
theorem ks_X8_has (zl : Launch) (set : Int32) (k : Int32) : sM zl yX8_has wsX8_has ({ frames := 0, cells := 0, slots := 0, locals := 0 } : Room) [.int set, .int k] (p8_has set k) := by
  refine sM_of (own := RX8) (cc := cX8_has) (nL := 2) (Or.inr ⟨rfl, p8_has_01 ..⟩) (by decide) rfl rfl (Nat.le_of_ble_eq_true rfl) ?_
  intro zp ze zs zm zg zb zt zc zA H0 zQ C hA hret H locs ls hl G
  have hx := C.1
  have hb := C.2.1
  have hl : lv_has ls 2 [(0, .int set), (1, .int k)] := hl
  obtain ⟨rM, hF⟩ : ∃ X : Int32, X = p8_has set k := ⟨_, rfl⟩
  rw [← hF] at hret
  unfold p8_has at hF
  refine lv_iload_n hx hb dX8_has_0 rfl (lv_at hl 0 rfl) ?_
  refine lv_iload_n hx hb dX8_has_1 rfl (lv_at hl 1 rfl) ?_
  refine lv_ishr hx hb dX8_has_2 ?_
  refine lv_iconst (v := 1) hx hb dX8_has_3 (by decide) ?_
  refine lv_iand hx hb dX8_has_4 ?_
  refine lv_if_eq (tgt := 12) hx hb dX8_has_5 (by decide) (fun c5 => ?_) (fun c5 => ?_)
  · rw [if_pos c5] at hF
    refine lv_iconst (v := 0) hx hb dX8_has_12 (by decide) ?_
    exact hret _ _ _ _ _ hF G dX8_has_13
  · rw [if_neg c5] at hF
    refine lv_iconst (v := 1) hx hb dX8_has_8 (by decide) ?_
    refine lv_goto (tgt := 13) hx hb dX8_has_9 (by decide) ?_
    exact hret _ _ _ _ _ hF G dX8_has_13
set_option maxRecDepth 100000 in
set_option maxHeartbeats 4000000 in
theorem ks_X1_sightOf (zl : Launch) (kind : Int32) (m : Int32) (given : Int32) : sM zl yX1_sightOf wsX1_sightOf ({ frames := 0, cells := 0, slots := 0, locals := 0 } : Room) [.int kind, .int m, .int given] (p1_sightOf kind m given) := by
  refine sM_of (own := RX1) (cc := cX1_sightOf) (nL := 3) (Or.inl rfl) (by decide) rfl rfl (Nat.le_of_ble_eq_true rfl) ?_
  intro zp ze zs zm zg zb zt zc zA H0 zQ C hA hret H locs ls hl G
  have hx := C.1
  have hb := C.2.1
  have hl : lv_has ls 3 [(0, .int kind), (1, .int m), (2, .int given)] := hl
  obtain ⟨rM, hF⟩ : ∃ X : Int32, X = p1_sightOf kind m given := ⟨_, rfl⟩
  rw [← hF] at hret
  unfold p1_sightOf at hF
  refine lv_iload_n hx hb dX1_sightOf_0 rfl (lv_at hl 0 rfl) ?_
  by_cases c1_2 : kind = 2
  · rw [if_pos c1_2] at hF
    refine lv_tableIn (off := 35) (tgt := 36) hx hb dX1_sightOf_1 (by rw [c1_2]; decide) (by rw [c1_2]; decide) (by rw [c1_2]; rfl) (by decide) ?_
    refine lv_iload_n hx hb dX1_sightOf_36 rfl (lv_at hl 2 rfl) ?_
    refine lv_iconst (v := 2) hx hb dX1_sightOf_37 (by decide) ?_
    refine lv_idiv hx hb dX1_sightOf_38 (by decide) ?_
    exact hret _ _ _ _ _ hF G dX1_sightOf_39
  · rw [if_neg c1_2] at hF
    by_cases c1_3 : kind = 3
    · rw [if_pos c1_3] at hF
      refine lv_tableIn (off := 49) (tgt := 50) hx hb dX1_sightOf_1 (by rw [c1_3]; decide) (by rw [c1_3]; decide) (by rw [c1_3]; rfl) (by decide) ?_
      refine lv_iload_n hx hb dX1_sightOf_50 rfl (lv_at hl 2 rfl) ?_
      exact hret _ _ _ _ _ hF G dX1_sightOf_51
    · rw [if_neg c1_3] at hF
      by_cases c1_4 : kind = 4
      · rw [if_pos c1_4] at hF
        refine lv_tableIn (off := 39) (tgt := 40) hx hb dX1_sightOf_1 (by rw [c1_4]; decide) (by rw [c1_4]; decide) (by rw [c1_4]; rfl) (by decide) ?_
        refine lv_iload_n hx hb dX1_sightOf_40 rfl (lv_at hl 2 rfl) ?_
        refine lv_iconst (v := 1) hx hb dX1_sightOf_41 (by decide) ?_
        refine lv_iadd hx hb dX1_sightOf_42 ?_
        exact hret _ _ _ _ _ hF G dX1_sightOf_43
      · rw [if_neg c1_4] at hF
        by_cases c1_5 : kind = 5
        · rw [if_pos c1_5] at hF
          refine lv_tableIn (off := 35) (tgt := 36) hx hb dX1_sightOf_1 (by rw [c1_5]; decide) (by rw [c1_5]; decide) (by rw [c1_5]; rfl) (by decide) ?_
          refine lv_iload_n hx hb dX1_sightOf_36 rfl (lv_at hl 2 rfl) ?_
          refine lv_iconst (v := 2) hx hb dX1_sightOf_37 (by decide) ?_
          refine lv_idiv hx hb dX1_sightOf_38 (by decide) ?_
          exact hret _ _ _ _ _ hF G dX1_sightOf_39
        · rw [if_neg c1_5] at hF
          by_cases c1_6 : kind = 6
          · rw [if_pos c1_6] at hF
            refine lv_tableIn (off := 43) (tgt := 44) hx hb dX1_sightOf_1 (by rw [c1_6]; decide) (by rw [c1_6]; decide) (by rw [c1_6]; rfl) (by decide) ?_
            refine lv_iload_n hx hb dX1_sightOf_44 rfl (lv_at hl 2 rfl) ?_
            refine lv_iload_n hx hb dX1_sightOf_45 rfl (lv_at hl 1 rfl) ?_
            refine lv_iconst (v := 3) hx hb dX1_sightOf_46 (by decide) ?_
            refine lv_irem hx hb dX1_sightOf_47 (by decide) ?_
            refine lv_iadd hx hb dX1_sightOf_48 ?_
            exact hret _ _ _ _ _ hF G dX1_sightOf_49
          · rw [if_neg c1_6] at hF
            refine lv_tableOut (tgt := 50) hx hb dX1_sightOf_1 (sw_out (fun i h1 h2 => by rcases (show i = 2 ∨ i = 3 ∨ i = 4 ∨ i = 5 ∨ i = 6 by omega) with rfl | rfl | rfl | rfl | rfl <;> first | exact fun e9 => c1_2 (Int32.toInt_inj.mp e9) | exact fun e9 => c1_3 (Int32.toInt_inj.mp e9) | exact fun e9 => c1_4 (Int32.toInt_inj.mp e9) | exact fun e9 => c1_5 (Int32.toInt_inj.mp e9) | exact fun e9 => c1_6 (Int32.toInt_inj.mp e9))) (by decide) ?_
            refine lv_iload_n hx hb dX1_sightOf_50 rfl (lv_at hl 2 rfl) ?_
            exact hret _ _ _ _ _ hF G dX1_sightOf_51
set_option maxRecDepth 100000 in
set_option maxHeartbeats 4000000 in
theorem ks_X1_countsOf (zl : Launch) (kind : Int32) (m : Int32) : sM zl yX1_countsOf wsX1_countsOf ({ frames := 0, cells := 0, slots := 0, locals := 0 } : Room) [.int kind, .int m] (p1_countsOf kind m) := by
  refine sM_of (own := RX1) (cc := cX1_countsOf) (nL := 2) (Or.inl rfl) (by decide) rfl rfl (Nat.le_of_ble_eq_true rfl) ?_
  intro zp ze zs zm zg zb zt zc zA H0 zQ C hA hret H locs ls hl G
  have hx := C.1
  have hb := C.2.1
  have hl : lv_has ls 2 [(0, .int kind), (1, .int m)] := hl
  obtain ⟨rM, hF⟩ : ∃ X : Int32, X = p1_countsOf kind m := ⟨_, rfl⟩
  rw [← hF] at hret
  unfold p1_countsOf at hF
  refine lv_iload_n hx hb dX1_countsOf_0 rfl (lv_at hl 0 rfl) ?_
  by_cases c1_1 : kind = 1
  · rw [if_pos c1_1] at hF
    refine lv_tableIn (off := 35) (tgt := 36) hx hb dX1_countsOf_1 (by rw [c1_1]; decide) (by rw [c1_1]; decide) (by rw [c1_1]; rfl) (by decide) ?_
    refine lv_iconst (v := 4) hx hb dX1_countsOf_36 (by decide) ?_
    exact hret _ _ _ _ _ hF G dX1_countsOf_37
  · rw [if_neg c1_1] at hF
    by_cases c1_2 : kind = 2
    · rw [if_pos c1_2] at hF
      refine lv_tableIn (off := 37) (tgt := 38) hx hb dX1_countsOf_1 (by rw [c1_2]; decide) (by rw [c1_2]; decide) (by rw [c1_2]; rfl) (by decide) ?_
      refine lv_iconst (v := 1) hx hb dX1_countsOf_38 (by decide) ?_
      exact hret _ _ _ _ _ hF G dX1_countsOf_39
    · rw [if_neg c1_2] at hF
      by_cases c1_3 : kind = 3
      · rw [if_pos c1_3] at hF
        refine lv_tableIn (off := 39) (tgt := 40) hx hb dX1_countsOf_1 (by rw [c1_3]; decide) (by rw [c1_3]; decide) (by rw [c1_3]; rfl) (by decide) ?_
        refine lv_iconst (v := 0) hx hb dX1_countsOf_40 (by decide) ?_
        exact hret _ _ _ _ _ hF G dX1_countsOf_41
      · rw [if_neg c1_3] at hF
        by_cases c1_4 : kind = 4
        · rw [if_pos c1_4] at hF
          refine lv_tableIn (off := 35) (tgt := 36) hx hb dX1_countsOf_1 (by rw [c1_4]; decide) (by rw [c1_4]; decide) (by rw [c1_4]; rfl) (by decide) ?_
          refine lv_iconst (v := 4) hx hb dX1_countsOf_36 (by decide) ?_
          exact hret _ _ _ _ _ hF G dX1_countsOf_37
        · rw [if_neg c1_4] at hF
          by_cases c1_5 : kind = 5
          · rw [if_pos c1_5] at hF
            refine lv_tableIn (off := 41) (tgt := 42) hx hb dX1_countsOf_1 (by rw [c1_5]; decide) (by rw [c1_5]; decide) (by rw [c1_5]; rfl) (by decide) ?_
            refine lv_iconst (v := 1) hx hb dX1_countsOf_42 (by decide) ?_
            refine lv_iload_n hx hb dX1_countsOf_43 rfl (lv_at hl 1 rfl) ?_
            refine lv_iconst (v := 2) hx hb dX1_countsOf_44 (by decide) ?_
            refine lv_irem hx hb dX1_countsOf_45 (by decide) ?_
            refine lv_iadd hx hb dX1_countsOf_46 ?_
            exact hret _ _ _ _ _ hF G dX1_countsOf_47
          · rw [if_neg c1_5] at hF
            refine lv_tableOut (tgt := 48) hx hb dX1_countsOf_1 (sw_out (fun i h1 h2 => by rcases (show i = 1 ∨ i = 2 ∨ i = 3 ∨ i = 4 ∨ i = 5 by omega) with rfl | rfl | rfl | rfl | rfl <;> first | exact fun e9 => c1_1 (Int32.toInt_inj.mp e9) | exact fun e9 => c1_2 (Int32.toInt_inj.mp e9) | exact fun e9 => c1_3 (Int32.toInt_inj.mp e9) | exact fun e9 => c1_4 (Int32.toInt_inj.mp e9) | exact fun e9 => c1_5 (Int32.toInt_inj.mp e9))) (by decide) ?_
            refine lv_iconst (v := 2) hx hb dX1_countsOf_48 (by decide) ?_
            exact hret _ _ _ _ _ hF G dX1_countsOf_49
set_option maxRecDepth 100000 in
set_option maxHeartbeats 4000000 in
theorem ks_X1_takesOf (zl : Launch) (kind : Int32) (given : Int32) : sM zl yX1_takesOf wsX1_takesOf ({ frames := 0, cells := 0, slots := 0, locals := 0 } : Room) [.int kind, .int given] (p1_takesOf kind given) := by
  refine sM_of (own := RX1) (cc := cX1_takesOf) (nL := 2) (Or.inl rfl) (by decide) rfl rfl (Nat.le_of_ble_eq_true rfl) ?_
  intro zp ze zs zm zg zb zt zc zA H0 zQ C hA hret H locs ls hl G
  have hx := C.1
  have hb := C.2.1
  have hl : lv_has ls 2 [(0, .int kind), (1, .int given)] := hl
  obtain ⟨rM, hF⟩ : ∃ X : Int32, X = p1_takesOf kind given := ⟨_, rfl⟩
  rw [← hF] at hret
  unfold p1_takesOf at hF
  refine lv_iload_n hx hb dX1_takesOf_0 rfl (lv_at hl 0 rfl) ?_
  by_cases c1_3 : kind = 3
  · rw [if_pos c1_3] at hF
    refine lv_lookup (off := 27) (tgt := 28) hx hb dX1_takesOf_1 (by decide) (by rw [c1_3]; rfl) (by decide) ?_
    refine lv_iload_n hx hb dX1_takesOf_28 rfl (lv_at hl 1 rfl) ?_
    exact hret _ _ _ _ _ hF G dX1_takesOf_29
  · rw [if_neg c1_3] at hF
    by_cases c1_6 : kind = 6
    · rw [if_pos c1_6] at hF
      refine lv_lookup (off := 29) (tgt := 30) hx hb dX1_takesOf_1 (by decide) (by rw [c1_6]; rfl) (by decide) ?_
      refine lv_iload_n hx hb dX1_takesOf_30 rfl (lv_at hl 1 rfl) ?_
      refine lv_iconst (v := 2) hx hb dX1_takesOf_31 (by decide) ?_
      refine lv_idiv hx hb dX1_takesOf_32 (by decide) ?_
      exact hret _ _ _ _ _ hF G dX1_takesOf_33
    · rw [if_neg c1_6] at hF
      refine lv_lookup (tgt := 34) (off := 33) hx hb dX1_takesOf_1 (by decide) (by simp [Op.lookupswitch.offset, List.find?, show ¬ (3 : Int) = kind.toInt from fun e9 => c1_3 (Int32.toInt_inj.mp e9.symm), show ¬ (6 : Int) = kind.toInt from fun e9 => c1_6 (Int32.toInt_inj.mp e9.symm)]) (by decide) ?_
      refine lv_iconst (v := 0) hx hb dX1_takesOf_34 (by decide) ?_
      exact hret _ _ _ _ _ hF G dX1_takesOf_35
set_option maxRecDepth 100000 in
set_option maxHeartbeats 4000000 in
theorem kx4_clear (zl : Launch) (D : va_G) (ad sa : Nat → Nat) (cc : cT) (tt : tT) (X : xS) (pT : Nat) (hT : kR pT) : xMv zl D ad sa cc tt yX4_clear wsX4_clear ({ frames := 0, cells := 0, slots := 0, locals := 0 } : Room) [.ref (ad pT)] X (x4_clear X pT) := by
  refine xMv_of (code := cX4_clear) (nL := 1) (own := RX4) (by decide) rfl rfl (Nat.le_of_ble_eq_true rfl) ?_
  intro zp ze zs zm zg zb zt zc zA zQ C hA hret H locs ls hl G
  have hx := C.1
  have hb := C.2.1
  have hl : lv_has ls 1 [(0, .ref (ad pT))] := hl
  obtain ⟨rM, hF⟩ : ∃ Z : xS, Z = x4_clear X pT := ⟨_, rfl⟩
  rw [← hF] at hret
  unfold x4_clear at hF
  refine lv_aload_n hx hb dX4_clear_0 rfl (lv_at hl 0 rfl) ?_
  refine lv_iconst (v := 0) hx hb dX4_clear_1 (by decide) ?_
  refine xr_put C G hT.2 (xR_c hT.1) rfl (fun _ h => List.mem_cons_of_mem _ (List.mem_append_right _ h)) tyX4 tyX4_ok nmX4 1 (by decide) rfl (show Cond.fieldLink RX4 19 "WheatCounts$Row" "size" "I" ∈ _ by decide +kernel) (ty := .int) (by decide +kernel) rfl rfl (Nat.le_of_ble_eq_true rfl) (upd (X pT) 1 0) (xR_c hT.1) dX4_clear_2 (fun H locs G => ?_)
  obtain ⟨X2, hX2⟩ : ∃ Z : xS, Z = mU X pT 1 0 := ⟨_, rfl⟩
  have G : xG D ad sa cc tt zA zs.heap H locs X2 := by rw [hX2]; exact G
  rw [lt_e hX2] at hF
  exact hret _ _ _ _ _ hF G dX4_clear_5
set_option maxRecDepth 100000 in
set_option maxHeartbeats 4000000 in
theorem kx4_add (zl : Launch) (D : va_G) (ad sa : Nat → Nat) (cc : cT) (tt : tT) (X : xS) (pT : Nat) (v : Int32) (hT : kR pT) (hz : X pT 1 = nI (vn (X pT 1)) ∧ vn (X pT 1) ≤ rcap pT) : xMv zl D ad sa cc tt yX4_add wsX4_add ({ frames := 0, cells := 0, slots := 0, locals := 0 } : Room) [.ref (ad pT), .int v] X (x4_add X pT v) := by
  refine xMv_of (code := cX4_add) (nL := 2) (own := RX4) (by decide) rfl rfl (Nat.le_of_ble_eq_true rfl) ?_
  intro zp ze zs zm zg zb zt zc zA zQ C hA hret H locs ls hl G
  have hx := C.1
  have hb := C.2.1
  have hl : lv_has ls 2 [(0, .ref (ad pT)), (1, .int v)] := hl
  obtain ⟨rM, hF⟩ : ∃ Z : xS, Z = x4_add X pT v := ⟨_, rfl⟩
  rw [← hF] at hret
  unfold x4_add at hF
  have hcap := rcap_le hT
  have hz2 := hz.2
  refine lv_aload_n hx hb dX4_add_0 rfl (lv_at hl 0 rfl) ?_
  refine xr_get C G hT.2 (xR_c hT.1) rfl (fun _ h => List.mem_cons_of_mem _ (List.mem_append_right _ h)) 1 (by decide) (show Cond.fieldLink RX4 19 "WheatCounts$Row" "size" "I" ∈ _ by decide +kernel) rfl dX4_add_1 ?_
  refine lv_aload_n hx hb dX4_add_4 rfl (lv_at hl 0 rfl) ?_
  refine xr_get C G hT.2 (xR_c hT.1) rfl (fun _ h => List.mem_cons_of_mem _ (List.mem_append_right _ h)) 0 (by decide) (show Cond.fieldLink RX4 13 "WheatCounts$Row" "numbers" "[I" ∈ _ by decide +kernel) rfl dX4_add_5 ?_
  refine xr_len C G (xR_1 hT).2 (xI_c (xR_1 hT).1 _) dX4_add_8 ?_
  obtain ⟨X32, hX32⟩ : ∃ (X32 : xS), X32 = ((if (nI (rcap pT)) ≤ (X pT 1) then X else (lt (mU X (pT + 1) (vn (X pT 1)) v) fun (X21 : xS) => lt (mU X21 pT 1 ((X21 pT 1) + 1)) fun (X29 : xS) => X29)) : xS) := ⟨_, rfl⟩
  rw [lt_e hX32] at hF
  have hj32 : ∀ (H : Heap) (locs : List Loc) (ls : Array Slot), lv_has ls 2 [(0, .ref (ad pT)), (1, .int v)] → xG D ad sa cc tt zA zs.heap H locs X32 → W zp zl ze ({ frames := 0, cells := 0, slots := 0, locals := 0 } : Room) zs zm zg zb zt zc H locs 0 0 zQ (F0 zm 32 ls []) := by
    intro H locs ls hl G
    exact hret _ _ _ _ _ hF G dX4_add_32
  refine lv_icmp_ge (tgt := 32) hx hb dX4_add_9 (by decide) (fun c9 => ?_) (fun c9 => ?_)
  · rw [if_pos c9] at hX32
    subst hX32
    exact hj32 _ _ _ (lv_sub hl [0, 1] rfl) G
  · rw [if_neg c9] at hX32
    have c9b := c9
    rw [hz.1] at c9b
    have hlt := lp_lt (n := rcap pT) rfl c9b (by omega) (by omega)
    refine lv_aload_n hx hb dX4_add_12 rfl (lv_at hl 0 rfl) ?_
    refine xr_get C G hT.2 (xR_c hT.1) rfl (fun _ h => List.mem_cons_of_mem _ (List.mem_append_right _ h)) 0 (by decide) (show Cond.fieldLink RX4 13 "WheatCounts$Row" "numbers" "[I" ∈ _ by decide +kernel) rfl dX4_add_13 ?_
    refine lv_aload_n hx hb dX4_add_16 rfl (lv_at hl 0 rfl) ?_
    refine xr_get C G hT.2 (xR_c hT.1) rfl (fun _ h => List.mem_cons_of_mem _ (List.mem_append_right _ h)) 1 (by decide) (show Cond.fieldLink RX4 19 "WheatCounts$Row" "size" "I" ∈ _ by decide +kernel) rfl dX4_add_17 ?_
    refine lv_iload_n hx hb dX4_add_20 rfl (lv_at hl 1 rfl) ?_
    refine xr_ast C G (xR_1 hT).2 (xI_c (xR_1 hT).1) (vn (X pT 1)) hz.1 (by omega) (xI_lt (xR_1 hT)) dX4_add_21 (fun H locs G => ?_)
    obtain ⟨X21, hX21⟩ : ∃ Z : xS, Z = mU X (pT + 1) (vn (X pT 1)) v := ⟨_, rfl⟩
    have G : xG D ad sa cc tt zA zs.heap H locs X21 := by rw [hX21]; exact G
    rw [lt_e hX21] at hX32
    refine lv_aload_n hx hb dX4_add_22 rfl (lv_at hl 0 rfl) ?_
    refine lv_dup hx hb dX4_add_23 rfl ?_
    refine xr_get C G hT.2 (xR_c hT.1) rfl (fun _ h => List.mem_cons_of_mem _ (List.mem_append_right _ h)) 1 (by decide) (show Cond.fieldLink RX4 19 "WheatCounts$Row" "size" "I" ∈ _ by decide +kernel) rfl dX4_add_24 ?_
    refine lv_iconst (v := 1) hx hb dX4_add_27 (by decide) ?_
    refine lv_iadd hx hb dX4_add_28 ?_
    refine xr_put C G hT.2 (xR_c hT.1) rfl (fun _ h => List.mem_cons_of_mem _ (List.mem_append_right _ h)) tyX4 tyX4_ok nmX4 1 (by decide) rfl (show Cond.fieldLink RX4 19 "WheatCounts$Row" "size" "I" ∈ _ by decide +kernel) (ty := .int) (by decide +kernel) rfl rfl (Nat.le_of_ble_eq_true rfl) (upd (X21 pT) 1 ((X21 pT 1) + 1)) (xR_c hT.1) dX4_add_29 (fun H locs G => ?_)
    obtain ⟨X29, hX29⟩ : ∃ Z : xS, Z = mU X21 pT 1 ((X21 pT 1) + 1) := ⟨_, rfl⟩
    have G : xG D ad sa cc tt zA zs.heap H locs X29 := by rw [hX29]; exact G
    rw [lt_e hX29] at hX32
    subst hX32
    exact hj32 _ _ _ (lv_sub hl [0, 1] rfl) G
set_option maxRecDepth 100000 in
set_option maxHeartbeats 4000000 in
theorem kx4_get (zl : Launch) (D : va_G) (ad sa : Nat → Nat) (cc : cT) (tt : tT) (X : xS) (pT : Nat) (i : Int32) (hT : kR pT) (hz : X pT 1 = nI (vn (X pT 1)) ∧ vn (X pT 1) ≤ rcap pT) : xM zl D ad sa cc tt yX4_get wsX4_get ({ frames := 0, cells := 0, slots := 0, locals := 0 } : Room) [.ref (ad pT), .int i] X ((x4_get X pT i, X)) := by
  refine xM_of (code := cX4_get) (nL := 2) (own := RX4) (by decide) rfl rfl (Nat.le_of_ble_eq_true rfl) ?_
  intro zp ze zs zm zg zb zt zc zA zQ C hA hret H locs ls hl G
  have hx := C.1
  have hb := C.2.1
  have hl : lv_has ls 2 [(0, .ref (ad pT)), (1, .int i)] := hl
  obtain ⟨rM, hF⟩ : ∃ Z : Int32, Z = x4_get X pT i := ⟨_, rfl⟩
  rw [← hF] at hret
  unfold x4_get at hF
  have hcap := rcap_le hT
  have hz2 := hz.2
  refine lv_iload_n hx hb dX4_get_0 rfl (lv_at hl 1 rfl) ?_
  refine lv_if_lt (tgt := 21) hx hb dX4_get_1 (by decide) (fun c1 => ?_) (fun c1 => ?_)
  · rw [if_pos c1] at hF
    refine lv_iconst (v := 0) hx hb dX4_get_21 (by decide) ?_
    exact hret _ _ _ _ _ _ (by rw [hF]) G dX4_get_22
  · rw [if_neg c1] at hF
    refine lv_iload_n hx hb dX4_get_4 rfl (lv_at hl 1 rfl) ?_
    refine lv_aload_n hx hb dX4_get_5 rfl (lv_at hl 0 rfl) ?_
    refine xr_get C G hT.2 (xR_c hT.1) rfl (fun _ h => List.mem_cons_of_mem _ (List.mem_append_right _ h)) 1 (by decide) (show Cond.fieldLink RX4 19 "WheatCounts$Row" "size" "I" ∈ _ by decide +kernel) rfl dX4_get_6 ?_
    refine lv_icmp_ge (tgt := 21) hx hb dX4_get_9 (by decide) (fun c9 => ?_) (fun c9 => ?_)
    · rw [if_pos c9] at hF
      refine lv_iconst (v := 0) hx hb dX4_get_21 (by decide) ?_
      exact hret _ _ _ _ _ _ (by rw [hF]) G dX4_get_22
    · rw [if_neg c9] at hF
      have hi := ix_lt hz.1 (by omega) c1 c9
      have hi2 := hi.2
      refine lv_aload_n hx hb dX4_get_12 rfl (lv_at hl 0 rfl) ?_
      refine xr_get C G hT.2 (xR_c hT.1) rfl (fun _ h => List.mem_cons_of_mem _ (List.mem_append_right _ h)) 0 (by decide) (show Cond.fieldLink RX4 13 "WheatCounts$Row" "numbers" "[I" ∈ _ by decide +kernel) rfl dX4_get_13 ?_
      refine lv_iload_n hx hb dX4_get_16 rfl (lv_at hl 1 rfl) ?_
      refine xr_ald C G (xR_1 hT).2 (xI_c (xR_1 hT).1 _) (vn i) hi.1 (by omega) (xI_lt (xR_1 hT)) dX4_get_17 ?_
      refine lv_goto (tgt := 22) hx hb dX4_get_18 (by decide) ?_
      exact hret _ _ _ _ _ _ (by rw [hF]) G dX4_get_22
set_option maxRecDepth 100000 in
set_option maxHeartbeats 4000000 in
theorem kx4_last (zl : Launch) (D : va_G) (ad sa : Nat → Nat) (cc : cT) (tt : tT) (X : xS) (pT : Nat) (hT : kR pT) (hz : X pT 1 = nI (vn (X pT 1)) ∧ vn (X pT 1) ≤ rcap pT) : xM zl D ad sa cc tt yX4_last wsX4_last ({ frames := 0, cells := 0, slots := 0, locals := 0 } : Room) [.ref (ad pT)] X ((x4_last X pT, X)) := by
  refine xM_of (code := cX4_last) (nL := 1) (own := RX4) (by decide) rfl rfl (Nat.le_of_ble_eq_true rfl) ?_
  intro zp ze zs zm zg zb zt zc zA zQ C hA hret H locs ls hl G
  have hx := C.1
  have hb := C.2.1
  have hl : lv_has ls 1 [(0, .ref (ad pT))] := hl
  obtain ⟨rM, hF⟩ : ∃ Z : Int32, Z = x4_last X pT := ⟨_, rfl⟩
  rw [← hF] at hret
  unfold x4_last at hF
  have hcap := rcap_le hT
  have hz2 := hz.2
  refine lv_aload_n hx hb dX4_last_0 rfl (lv_at hl 0 rfl) ?_
  refine xr_get C G hT.2 (xR_c hT.1) rfl (fun _ h => List.mem_cons_of_mem _ (List.mem_append_right _ h)) 1 (by decide) (show Cond.fieldLink RX4 19 "WheatCounts$Row" "size" "I" ∈ _ by decide +kernel) rfl dX4_last_1 ?_
  refine lv_if_le (tgt := 33) hx hb dX4_last_4 (by decide) (fun c4 => ?_) (fun c4 => ?_)
  · rw [if_pos c4] at hF
    refine lv_iconst (v := 0) hx hb dX4_last_33 (by decide) ?_
    exact hret _ _ _ _ _ _ (by rw [hF]) G dX4_last_34
  · rw [if_neg c4] at hF
    have hp9 : 0 < vn (X pT 1) := Nat.pos_of_ne_zero (fun e9 => c4 (by rw [hz.1, e9]; decide))
    refine lv_aload_n hx hb dX4_last_7 rfl (lv_at hl 0 rfl) ?_
    refine xr_get C G hT.2 (xR_c hT.1) rfl (fun _ h => List.mem_cons_of_mem _ (List.mem_append_right _ h)) 1 (by decide) (show Cond.fieldLink RX4 19 "WheatCounts$Row" "size" "I" ∈ _ by decide +kernel) rfl dX4_last_8 ?_
    refine lv_aload_n hx hb dX4_last_11 rfl (lv_at hl 0 rfl) ?_
    refine xr_get C G hT.2 (xR_c hT.1) rfl (fun _ h => List.mem_cons_of_mem _ (List.mem_append_right _ h)) 0 (by decide) (show Cond.fieldLink RX4 13 "WheatCounts$Row" "numbers" "[I" ∈ _ by decide +kernel) rfl dX4_last_12 ?_
    refine xr_len C G (xR_1 hT).2 (xI_c (xR_1 hT).1 _) dX4_last_15 ?_
    refine lv_icmp_gt (tgt := 33) hx hb dX4_last_16 (by decide) (fun c16 => ?_) (fun c16 => ?_)
    · rw [if_pos c16] at hF
      refine lv_iconst (v := 0) hx hb dX4_last_33 (by decide) ?_
      exact hret _ _ _ _ _ _ (by rw [hF]) G dX4_last_34
    · rw [if_neg c16] at hF
      refine lv_aload_n hx hb dX4_last_19 rfl (lv_at hl 0 rfl) ?_
      refine xr_get C G hT.2 (xR_c hT.1) rfl (fun _ h => List.mem_cons_of_mem _ (List.mem_append_right _ h)) 0 (by decide) (show Cond.fieldLink RX4 13 "WheatCounts$Row" "numbers" "[I" ∈ _ by decide +kernel) rfl dX4_last_20 ?_
      refine lv_aload_n hx hb dX4_last_23 rfl (lv_at hl 0 rfl) ?_
      refine xr_get C G hT.2 (xR_c hT.1) rfl (fun _ h => List.mem_cons_of_mem _ (List.mem_append_right _ h)) 1 (by decide) (show Cond.fieldLink RX4 19 "WheatCounts$Row" "size" "I" ∈ _ by decide +kernel) rfl dX4_last_24 ?_
      refine lv_iconst (v := 1) hx hb dX4_last_27 (by decide) ?_
      refine lv_isub hx hb dX4_last_28 ?_
      refine xr_ald C G (xR_1 hT).2 (xI_c (xR_1 hT).1 _) ((vn (X pT 1)) - 1) (nt_sub hz.1 rfl (by omega)) (by omega) (xI_lt (xR_1 hT)) dX4_last_29 ?_
      refine lv_goto (tgt := 34) hx hb dX4_last_30 (by decide) ?_
      exact hret _ _ _ _ _ _ (by rw [hF]) G dX4_last_34
set_option maxRecDepth 100000 in
set_option maxHeartbeats 4000000 in
theorem kx4_removeLast (zl : Launch) (D : va_G) (ad sa : Nat → Nat) (cc : cT) (tt : tT) (X : xS) (pT : Nat) (hT : kR pT) (hz : X pT 1 = nI (vn (X pT 1)) ∧ vn (X pT 1) ≤ rcap pT) : xM zl D ad sa cc tt yX4_removeLast wsX4_removeLast ({ frames := 1, cells := 0, slots := 0, locals := 20 } : Room) [.ref (ad pT)] X (x4_removeLast X pT) := by
  refine xM_of (code := cX4_removeLast) (nL := 2) (own := RX4) (by decide) rfl rfl (Nat.le_of_ble_eq_true rfl) ?_
  intro zp ze zs zm zg zb zt zc zA zQ C hA hret H locs ls hl G
  have hx := C.1
  have hb := C.2.1
  have hl : lv_has ls 2 [(0, .ref (ad pT))] := hl
  obtain ⟨rM, hF⟩ : ∃ Z : Int32 × xS, Z = x4_removeLast X pT := ⟨_, rfl⟩
  rw [← hF] at hret
  unfold x4_removeLast at hF
  have hcap := rcap_le hT
  have hz2 := hz.2
  refine lv_aload_n hx hb dX4_removeLast_0 rfl (lv_at hl 0 rfl) ?_
  refine xr_Vi C hA G (kx4_last zl D ad sa cc tt X pT hT (by first | assumption | omega)) hT.2 (xR_c hT.1) rfl (cwV 0 C.2.2.2.2.1 gX4_removeLast_X4_last rfl rfl rfl (by decide +kernel) ⟨Nat.le_of_ble_eq_true rfl, Nat.le_of_ble_eq_true rfl⟩) rfl hl.1 rfl (Nat.le_of_ble_eq_true rfl) dX4_removeLast_1 ⟨Nat.le_refl _, Nat.le_refl _⟩ (fun H locs G => ?_)
  refine lv_topi (fun x4 hx4 => ?_)
  rw [lt_e hx4] at hF
  refine lv_istore_n (lv' := [(1, .int x4), (0, .ref (ad pT))]) hx hb dX4_removeLast_4 rfl hl (by decide) rfl (fun ls hl => ?_)
  refine lv_aload_n hx hb dX4_removeLast_5 rfl (lv_at hl 1 rfl) ?_
  refine xr_get C G hT.2 (xR_c hT.1) rfl (fun _ h => List.mem_cons_of_mem _ (List.mem_append_right _ h)) 1 (by decide) (show Cond.fieldLink RX4 19 "WheatCounts$Row" "size" "I" ∈ _ by decide +kernel) rfl dX4_removeLast_6 ?_
  obtain ⟨X22, hX22⟩ : ∃ (X22 : xS), X22 = ((if (X pT 1) ≤ 0 then X else (lt (mU X pT 1 ((X pT 1) - 1)) fun (X19 : xS) => X19)) : xS) := ⟨_, rfl⟩
  rw [lt_e hX22] at hF
  have hj22 : ∀ (H : Heap) (locs : List Loc) (ls : Array Slot), lv_has ls 2 [(0, .ref (ad pT)), (1, .int x4)] → xG D ad sa cc tt zA zs.heap H locs X22 → W zp zl ze ({ frames := 1, cells := 0, slots := 0, locals := 20 } : Room) zs zm zg zb zt zc H locs 0 0 zQ (F0 zm 22 ls []) := by
    intro H locs ls hl G
    refine lv_iload_n hx hb dX4_removeLast_22 rfl (lv_at hl 1 rfl) ?_
    exact hret _ _ _ _ _ _ hF G dX4_removeLast_23
  refine lv_if_le (tgt := 22) hx hb dX4_removeLast_9 (by decide) (fun c9 => ?_) (fun c9 => ?_)
  · rw [if_pos c9] at hX22
    subst hX22
    exact hj22 _ _ _ (lv_sub hl [1, 0] rfl) G
  · rw [if_neg c9] at hX22
    refine lv_aload_n hx hb dX4_removeLast_12 rfl (lv_at hl 1 rfl) ?_
    refine lv_dup hx hb dX4_removeLast_13 rfl ?_
    refine xr_get C G hT.2 (xR_c hT.1) rfl (fun _ h => List.mem_cons_of_mem _ (List.mem_append_right _ h)) 1 (by decide) (show Cond.fieldLink RX4 19 "WheatCounts$Row" "size" "I" ∈ _ by decide +kernel) rfl dX4_removeLast_14 ?_
    refine lv_iconst (v := 1) hx hb dX4_removeLast_17 (by decide) ?_
    refine lv_isub hx hb dX4_removeLast_18 ?_
    refine xr_put C G hT.2 (xR_c hT.1) rfl (fun _ h => List.mem_cons_of_mem _ (List.mem_append_right _ h)) tyX4 tyX4_ok nmX4 1 (by decide) rfl (show Cond.fieldLink RX4 19 "WheatCounts$Row" "size" "I" ∈ _ by decide +kernel) (ty := .int) (by decide +kernel) rfl rfl (Nat.le_of_ble_eq_true rfl) (upd (X pT) 1 ((X pT 1) - 1)) (xR_c hT.1) dX4_removeLast_19 (fun H locs G => ?_)
    obtain ⟨X19, hX19⟩ : ∃ Z : xS, Z = mU X pT 1 ((X pT 1) - 1) := ⟨_, rfl⟩
    have G : xG D ad sa cc tt zA zs.heap H locs X19 := by rw [hX19]; exact G
    rw [lt_e hX19] at hX22
    subst hX22
    exact hj22 _ _ _ (lv_sub hl [1, 0] rfl) G
set_option maxRecDepth 100000 in
set_option maxHeartbeats 4000000 in
theorem kx1_above (zl : Launch) (D : va_G) (ad sa : Nat → Nat) (cc : cT) (tt : tT) (X : xS) (kind : Int32) : xM zl D ad sa cc tt yX1_above wsX1_above ({ frames := 1, cells := 0, slots := 0, locals := 22 } : Room) [.int kind] X ((x1_above X kind, X)) := by
  refine xM_of (code := cX1_above) (nL := 1) (own := RX1) (by decide) rfl rfl (Nat.le_of_ble_eq_true rfl) ?_
  intro zp ze zs zm zg zb zt zc zA zQ C hA hret H locs ls hl G
  have hx := C.1
  have hb := C.2.1
  have hl : lv_has ls 1 [(0, .int kind)] := hl
  obtain ⟨rM, hF⟩ : ∃ Z : Int32, Z = x1_above X kind := ⟨_, rfl⟩
  rw [← hF] at hret
  unfold x1_above at hF
  refine lv_iload_n hx hb dX1_above_0 rfl (lv_at hl 0 rfl) ?_
  refine lv_iconst (v := 0) hx hb dX1_above_1 (by decide) ?_
  refine lv_bipush (v := 6) hx hb dX1_above_2 (by decide) ?_
  refine xr_psn C hA G (ks_X8_within zl kind 0 6) ⟨va_cnB 3 C.2.2.2.2.1 gX1_above_X8_within_n9 rfl rfl rfl (C.2.2.2.2.2.2.1 _ (List.mem_of_getElem? (i := 3) rfl)) (C.2.2.2.2.1 (.initialized RX8) (by decide +kernel)) (by decide +kernel) ⟨Nat.le_of_ble_eq_true rfl, Nat.le_of_ble_eq_true rfl⟩, C.2.2.2.2.1 (.static yX8_within) (by decide +kernel), trivial⟩ rfl hl.1 rfl (Nat.le_of_ble_eq_true rfl) dX1_above_4 ⟨Nat.le_refl _, Nat.le_refl _⟩ (fun H locs G => ?_)
  refine lv_if_eq (tgt := 18) hx hb dX1_above_7 (by decide) (fun c7 => ?_) (fun c7 => ?_)
  · rw [if_pos c7] at hF
    refine lv_iconst (v := -1) hx hb dX1_above_18 (by decide) ?_
    exact hret _ _ _ _ _ _ (by rw [hF]) G dX1_above_19
  · rw [if_neg c7] at hF
    have hk := in_natp (n := 6) c7 rfl (by decide)
    have hk2 := hk.2
    obtain ⟨t10, hz10, hv10⟩ := C.2.2.2.2.2.2.2.1
    refine va_gets hx hb hz10 (xG_S G) C.2.2.2.1 (C.2.2.2.2.1 (.fieldLink RX1 15 "WheatCounts$Kinds" "ABOVE" "[I") (by decide +kernel)) (fun _ h => h) dX1_above_10 ?_
    refine lv_iload_n hx hb dX1_above_13 rfl (lv_at hl 0 rfl) ?_
    refine va_ti (v := .int (aboveT.getD (vn kind) 0)) hx hb hv10 (xG_S G) (by rw [show kind = nI (vn kind) from hk.1]; exact vp_in_nI (by omega) (by decide)) rfl dX1_above_14 ?_
    refine lv_goto (tgt := 19) hx hb dX1_above_15 (by decide) ?_
    exact hret _ _ _ _ _ _ (by rw [hF]) G dX1_above_19
set_option maxRecDepth 100000 in
set_option maxHeartbeats 4000000 in
theorem kx5_isMissing (zl : Launch) (D : va_G) (ad sa : Nat → Nat) (cc : cT) (tt : tT) (X : xS) (pT : Nat) (hT : kS pT) : xM zl D ad sa cc tt yX5_isMissing wsX5_isMissing ({ frames := 0, cells := 0, slots := 0, locals := 0 } : Room) [.ref (ad pT)] X ((x5_isMissing X pT, X)) := by
  refine xM_ofZ (code := cX5_isMissing) (nL := 1) (own := RX5) (by decide) rfl rfl (Nat.le_of_ble_eq_true rfl) ?_
  intro zp ze zs zm zg zb zt zc zA zQ C hA hret H locs ls hl G
  have hx := C.1
  have hb := C.2.1
  have hl : lv_has ls 1 [(0, .ref (ad pT))] := hl
  obtain ⟨rM, hF⟩ : ∃ Z : Int32, Z = x5_isMissing X pT := ⟨_, rfl⟩
  rw [← hF] at hret
  unfold x5_isMissing at hF
  refine lv_aload_n hx hb dX5_isMissing_0 rfl (lv_at hl 0 rfl) ?_
  refine xr_get C G hT.2 (xS_c hT.1) rfl (fun _ h => List.mem_cons_of_mem _ (List.mem_append_right _ h)) 1 (by decide) (show Cond.fieldLink RX5 15 "WheatCounts$Sheet" "bits" "I" ∈ _ by decide +kernel) rfl dX5_isMissing_1 ?_
  refine lv_if_ne (tgt := 11) hx hb dX5_isMissing_4 (by decide) (fun c4 => ?_) (fun c4 => ?_)
  · rw [if_neg c4] at hF
    refine lv_iconst (v := 0) hx hb dX5_isMissing_11 (by decide) ?_
    exact hret _ _ _ _ _ _ (by rw [hF]) G (Or.inl rfl) dX5_isMissing_12
  · rw [if_pos c4] at hF
    refine lv_iconst (v := 1) hx hb dX5_isMissing_7 (by decide) ?_
    refine lv_goto (tgt := 12) hx hb dX5_isMissing_8 (by decide) ?_
    exact hret _ _ _ _ _ _ (by rw [hF]) G (Or.inr rfl) dX5_isMissing_12
set_option maxRecDepth 100000 in
set_option maxHeartbeats 4000000 in
theorem kx8_isCell (zl : Launch) (D : va_G) (ad sa : Nat → Nat) (cc : cT) (tt : tT) (X : xS) (c : Int32) : xM zl D ad sa cc tt yX8_isCell wsX8_isCell ({ frames := 1, cells := 0, slots := 0, locals := 22 } : Room) [.ref (ad 0), .int c] X ((x8_isCell X c, X)) := by
  refine xM_ofZ (code := cX8_isCell) (nL := 2) (own := RX8) (by decide) rfl rfl (Nat.le_of_ble_eq_true rfl) ?_
  intro zp ze zs zm zg zb zt zc zA zQ C hA hret H locs ls hl G
  have hx := C.1
  have hb := C.2.1
  have hl : lv_has ls 2 [(0, .ref (ad 0)), (1, .int c)] := hl
  obtain ⟨rM, hF⟩ : ∃ Z : Int32, Z = x8_isCell X c := ⟨_, rfl⟩
  rw [← hF] at hret
  unfold x8_isCell at hF
  refine lv_iload_n hx hb dX8_isCell_0 rfl (lv_at hl 1 rfl) ?_
  refine lv_iconst (v := 0) hx hb dX8_isCell_1 (by decide) ?_
  refine lv_aload_n hx hb dX8_isCell_2 rfl (lv_at hl 0 rfl) ?_
  refine xr_get C G (show kW 0 by decide).2 (xW_c (show kW 0 by decide).1) rfl (fun _ h => List.mem_cons_of_mem _ (List.mem_append_left _ (List.mem_append_right _ h))) 0 (by decide) (show Cond.fieldLink RX8 10 "WheatCounts" "estate" "LWheatCounts$Estate;" ∈ _ by decide +kernel) rfl dX8_isCell_3 ?_
  refine xr_get C G (show kE 1 by decide).2 (xE_c (show kE 1 by decide).1) rfl (fun _ h => List.mem_cons_of_mem _ (List.mem_append_right _ h)) 0 (by decide) (show Cond.fieldLink RX8 72 "WheatCounts$Estate" "cells" "I" ∈ _ by decide +kernel) rfl dX8_isCell_6 ?_
  refine lv_iconst (v := 1) hx hb dX8_isCell_9 (by decide) ?_
  refine lv_isub hx hb dX8_isCell_10 ?_
  refine xr_ps C hA G (ks_X8_within zl c 0 ((X 1 0) - 1)) (va_cwS 3 C.2.2.2.2.1 gX8_isCell_X8_within rfl rfl rfl (by decide +kernel) ⟨Nat.le_of_ble_eq_true rfl, Nat.le_of_ble_eq_true rfl⟩) rfl hl.1 rfl (Nat.le_of_ble_eq_true rfl) dX8_isCell_11 ⟨Nat.le_refl _, Nat.le_refl _⟩ (fun H locs G => ?_)
  exact hret _ _ _ _ _ _ (by rw [hF]) G (p8_within_01 ..) dX8_isCell_14
set_option maxRecDepth 100000 in
set_option maxHeartbeats 4000000 in
theorem kx8_isPerson (zl : Launch) (D : va_G) (ad sa : Nat → Nat) (cc : cT) (tt : tT) (X : xS) (c : Int32) : xM zl D ad sa cc tt yX8_isPerson wsX8_isPerson ({ frames := 1, cells := 0, slots := 0, locals := 22 } : Room) [.ref (ad 0), .int c] X ((x8_isPerson X c, X)) := by
  refine xM_ofZ (code := cX8_isPerson) (nL := 2) (own := RX8) (by decide) rfl rfl (Nat.le_of_ble_eq_true rfl) ?_
  intro zp ze zs zm zg zb zt zc zA zQ C hA hret H locs ls hl G
  have hx := C.1
  have hb := C.2.1
  have hl : lv_has ls 2 [(0, .ref (ad 0)), (1, .int c)] := hl
  obtain ⟨rM, hF⟩ : ∃ Z : Int32, Z = x8_isPerson X c := ⟨_, rfl⟩
  rw [← hF] at hret
  unfold x8_isPerson at hF
  refine lv_iload_n hx hb dX8_isPerson_0 rfl (lv_at hl 1 rfl) ?_
  refine lv_iconst (v := 0) hx hb dX8_isPerson_1 (by decide) ?_
  refine lv_aload_n hx hb dX8_isPerson_2 rfl (lv_at hl 0 rfl) ?_
  refine xr_get C G (show kW 0 by decide).2 (xW_c (show kW 0 by decide).1) rfl (fun _ h => List.mem_cons_of_mem _ (List.mem_append_left _ (List.mem_append_right _ h))) 0 (by decide) (show Cond.fieldLink RX8 10 "WheatCounts" "estate" "LWheatCounts$Estate;" ∈ _ by decide +kernel) rfl dX8_isPerson_3 ?_
  refine xr_get C G (show kE 1 by decide).2 (xE_c (show kE 1 by decide).1) rfl (fun _ h => List.mem_cons_of_mem _ (List.mem_append_right _ h)) 9 (by decide) (show Cond.fieldLink RX8 68 "WheatCounts$Estate" "people" "I" ∈ _ by decide +kernel) rfl dX8_isPerson_6 ?_
  refine lv_iconst (v := 1) hx hb dX8_isPerson_9 (by decide) ?_
  refine lv_isub hx hb dX8_isPerson_10 ?_
  refine xr_ps C hA G (ks_X8_within zl c 0 ((X 1 9) - 1)) (va_cwS 3 C.2.2.2.2.1 gX8_isPerson_X8_within rfl rfl rfl (by decide +kernel) ⟨Nat.le_of_ble_eq_true rfl, Nat.le_of_ble_eq_true rfl⟩) rfl hl.1 rfl (Nat.le_of_ble_eq_true rfl) dX8_isPerson_11 ⟨Nat.le_refl _, Nat.le_refl _⟩ (fun H locs G => ?_)
  exact hret _ _ _ _ _ _ (by rw [hF]) G (p8_within_01 ..) dX8_isPerson_14
set_option maxRecDepth 100000 in
set_option maxHeartbeats 4000000 in
theorem ks_X8_isKindAndNumber (zl : Launch) (km : Int32) : sM zl yX8_isKindAndNumber wsX8_isKindAndNumber ({ frames := 1, cells := 0, slots := 0, locals := 22 } : Room) [.int km] (p8_isKindAndNumber km) := by
  refine sM_of (own := RX8) (cc := cX8_isKindAndNumber) (nL := 1) (Or.inr ⟨rfl, p8_isKindAndNumber_01 ..⟩) (by decide) rfl rfl (Nat.le_of_ble_eq_true rfl) ?_
  intro zp ze zs zm zg zb zt zc zA H0 zQ C hA hret H locs ls hl G
  have hx := C.1
  have hb := C.2.1
  have hl : lv_has ls 1 [(0, .int km)] := hl
  obtain ⟨rM, hF⟩ : ∃ X : Int32, X = p8_isKindAndNumber km := ⟨_, rfl⟩
  rw [← hF] at hret
  unfold p8_isKindAndNumber at hF
  refine lv_iload_n hx hb dX8_isKindAndNumber_0 rfl (lv_at hl 0 rfl) ?_
  refine lv_iconst (v := 0) hx hb dX8_isKindAndNumber_1 (by decide) ?_
  refine lv_bipush (v := 69) hx hb dX8_isKindAndNumber_2 (by decide) ?_
  refine sr_calls C hA G (ks_X8_within zl km 0 69) (va_cwS 3 C.2.2.2.2 gX8_isKindAndNumber_X8_within rfl rfl rfl (by decide +kernel) ⟨Nat.le_of_ble_eq_true rfl, Nat.le_of_ble_eq_true rfl⟩) rfl hl.1 rfl (Nat.le_of_ble_eq_true rfl) dX8_isKindAndNumber_4 ⟨Nat.le_refl _, Nat.le_refl _⟩ (fun H locs G => ?_)
  exact hret _ _ _ _ _ hF G dX8_isKindAndNumber_7
set_option maxRecDepth 100000 in
set_option maxHeartbeats 4000000 in
theorem ks_X8_isSheet (zl : Launch) (s : Int32) : sM zl yX8_isSheet wsX8_isSheet ({ frames := 1, cells := 0, slots := 0, locals := 22 } : Room) [.int s] (p8_isSheet s) := by
  refine sM_of (own := RX8) (cc := cX8_isSheet) (nL := 1) (Or.inr ⟨rfl, p8_isSheet_01 ..⟩) (by decide) rfl rfl (Nat.le_of_ble_eq_true rfl) ?_
  intro zp ze zs zm zg zb zt zc zA H0 zQ C hA hret H locs ls hl G
  have hx := C.1
  have hb := C.2.1
  have hl : lv_has ls 1 [(0, .int s)] := hl
  obtain ⟨rM, hF⟩ : ∃ X : Int32, X = p8_isSheet s := ⟨_, rfl⟩
  rw [← hF] at hret
  unfold p8_isSheet at hF
  refine lv_iload_n hx hb dX8_isSheet_0 rfl (lv_at hl 0 rfl) ?_
  refine lv_iconst (v := 0) hx hb dX8_isSheet_1 (by decide) ?_
  refine lv_iconst (v := 3) hx hb dX8_isSheet_2 (by decide) ?_
  refine sr_calls C hA G (ks_X8_within zl s 0 3) (va_cwS 3 C.2.2.2.2 gX8_isSheet_X8_within rfl rfl rfl (by decide +kernel) ⟨Nat.le_of_ble_eq_true rfl, Nat.le_of_ble_eq_true rfl⟩) rfl hl.1 rfl (Nat.le_of_ble_eq_true rfl) dX8_isSheet_3 ⟨Nat.le_refl _, Nat.le_refl _⟩ (fun H locs G => ?_)
  exact hret _ _ _ _ _ hF G dX8_isSheet_6
set_option maxRecDepth 100000 in
set_option maxHeartbeats 4000000 in
theorem kx8_error (zl : Launch) (D : va_G) (ad sa : Nat → Nat) (cc : cT) (tt : tT) (X : xS) (k : Int32) : xM zl D ad sa cc tt yX8_error wsX8_error ({ frames := 1, cells := 0, slots := 0, locals := 22 } : Room) [.ref (ad 0), .int k] X (x8_error X k) := by
  refine xM_of (code := cX8_error) (nL := 2) (own := RX8) (by decide) rfl rfl (Nat.le_of_ble_eq_true rfl) ?_
  intro zp ze zs zm zg zb zt zc zA zQ C hA hret H locs ls hl G
  have hx := C.1
  have hb := C.2.1
  have hl : lv_has ls 2 [(0, .ref (ad 0)), (1, .int k)] := hl
  obtain ⟨rM, hF⟩ : ∃ Z : Int32 × xS, Z = x8_error X k := ⟨_, rfl⟩
  rw [← hF] at hret
  unfold x8_error at hF
  refine lv_iload_n hx hb dX8_error_0 rfl (lv_at hl 1 rfl) ?_
  refine lv_iconst (v := 1) hx hb dX8_error_1 (by decide) ?_
  refine lv_iconst (v := 5) hx hb dX8_error_2 (by decide) ?_
  refine xr_ps C hA G (ks_X8_within zl k 1 5) (va_cwS 3 C.2.2.2.2.1 gX8_error_X8_within rfl rfl rfl (by decide +kernel) ⟨Nat.le_of_ble_eq_true rfl, Nat.le_of_ble_eq_true rfl⟩) rfl hl.1 rfl (Nat.le_of_ble_eq_true rfl) dX8_error_3 ⟨Nat.le_refl _, Nat.le_refl _⟩ (fun H locs G => ?_)
  obtain ⟨X19, hX19⟩ : ∃ (X19 : xS), X19 = ((if (p8_within k 1 5) = 0 then X else (lt (mU X 61 (vn k) ((X 61 (vn k)) + 1)) fun (X18 : xS) => X18)) : xS) := ⟨_, rfl⟩
  rw [lt_e hX19] at hF
  have hj19 : ∀ (H : Heap) (locs : List Loc) (ls : Array Slot), lv_has ls 2 [(0, .ref (ad 0)), (1, .int k)] → xG D ad sa cc tt zA zs.heap H locs X19 → W zp zl ze ({ frames := 1, cells := 0, slots := 0, locals := 22 } : Room) zs zm zg zb zt zc H locs 0 0 zQ (F0 zm 19 ls []) := by
    intro H locs ls hl G
    refine lv_ldcw (v := -1000000000) hx hb C.2.2.2.1 (C.2.2.2.2.1 (.constant RX8 324 (-1000000000)) (by decide +kernel)) dX8_error_19 ?_
    refine lv_iload_n hx hb dX8_error_22 rfl (lv_at hl 1 rfl) ?_
    refine lv_isub hx hb dX8_error_23 ?_
    exact hret _ _ _ _ _ _ hF G dX8_error_24
  refine lv_if_eq (tgt := 19) hx hb dX8_error_6 (by decide) (fun c6 => ?_) (fun c6 => ?_)
  · rw [if_pos c6] at hX19
    subst hX19
    exact hj19 _ _ _ (lv_sub hl [0, 1] rfl) G
  · rw [if_neg c6] at hX19
    have hk := in_natq (n := 5) c6 rfl (by decide) (by decide)
    have hk2 := hk.2
    refine lv_aload_n hx hb dX8_error_9 rfl (lv_at hl 0 rfl) ?_
    refine xr_get C G (show kW 0 by decide).2 (xW_c (show kW 0 by decide).1) rfl (fun _ h => List.mem_cons_of_mem _ (List.mem_append_right _ h)) 10 (by decide) (show Cond.fieldLink RX8 57 "WheatCounts" "errors" "[I" ∈ _ by decide +kernel) rfl dX8_error_10 ?_
    refine lv_iload_n hx hb dX8_error_13 rfl (lv_at hl 1 rfl) ?_
    refine lv_dup2_11 hx hb dX8_error_14 rfl rfl ?_
    refine xr_ald C G (show kI 61 6 by decide).2 (xI_c (show kI 61 6 by decide).1 _) (vn k) hk.1 (by omega) (xI_lt (show kI 61 6 by decide)) dX8_error_15 ?_
    refine lv_iconst (v := 1) hx hb dX8_error_16 (by decide) ?_
    refine lv_iadd hx hb dX8_error_17 ?_
    refine xr_ast C G (show kI 61 6 by decide).2 (xI_c (show kI 61 6 by decide).1) (vn k) hk.1 (by omega) (xI_lt (show kI 61 6 by decide)) dX8_error_18 (fun H locs G => ?_)
    obtain ⟨X18, hX18⟩ : ∃ Z : xS, Z = mU X 61 (vn k) ((X 61 (vn k)) + 1) := ⟨_, rfl⟩
    have G : xG D ad sa cc tt zA zs.heap H locs X18 := by rw [hX18]; exact G
    rw [lt_e hX18] at hX19
    subst hX19
    exact hj19 _ _ _ (lv_sub hl [0, 1] rfl) G

