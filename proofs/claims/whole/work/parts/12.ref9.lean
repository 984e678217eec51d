set_option maxRecDepth 100000 in
set_option maxHeartbeats 4000000 in
theorem k_sums (zl : Launch) (D : va_G) (cI : ClassId) (ad : Nat → Nat) (M : mS) (v : Int32) (what : Int32) (hC : cOK M) : mM zl D cI ad yX9_sums wsX9_sums ({ frames := 1, cells := 0, slots := 0, locals := 22 } : Room) [.int v, .int what] M (mF_sums M v what) := by
  have hin : ∀ w ∈ wsX90, w ∈ wsX9_sums := fun w h => List.mem_cons_of_mem _ (List.mem_append_right _ h)
  refine mM_of (cc := cX9_sums) (nL := 8) (by decide) rfl rfl (Nat.le_of_ble_eq_true rfl) ?_
  intro zp ze zs zm zg zb zt zc zA H0 zQ C hA hret H locs ls hl G
  have hx := C.1
  have hb := C.2.1
  have hl : lv_has ls 8 [(0, .ref (ad 0)), (1, .int v), (2, .int what)] := hl
  obtain ⟨rM, hF⟩ : ∃ X : Int32 × mS, X = mF_sums M v what := ⟨_, rfl⟩
  rw [← hF] at hret
  unfold mF_sums at hF
  have hC1 := hC.1
  have hC2 := hC.2.1
  have hC3 := hC.2.2
  refine lv_iload_n hx hb dX9_sums_0 rfl (lv_at hl 1 rfl) ?_
  refine lv_iconst (v := 0) hx hb dX9_sums_1 (by decide) ?_
  refine lv_ldc (v := 999999) hx hb C.2.2.2.1 (C.2.2.2.2.1 (.constant RX9 203 (999999)) (by decide +kernel)) dX9_sums_2 ?_
  refine mr_calls C hA G (ks_in zl v 0 999999) (va_cwS 3 C.2.2.2.2.1 gX9_sums_X9_in rfl rfl rfl (by decide +kernel) ⟨Nat.le_of_ble_eq_true rfl, Nat.le_of_ble_eq_true rfl⟩) rfl hl.1 rfl (Nat.le_of_ble_eq_true rfl) dX9_sums_4 ⟨Nat.le_refl _, Nat.le_refl _⟩ (fun H locs G => ?_)
  refine lv_if_eq (tgt := 19) hx hb dX9_sums_7 (by decide) (fun c7 => ?_) (fun c7 => ?_)
  · rw [if_pos c7] at hF
    refine lv_aload_n hx hb dX9_sums_19 rfl (lv_at hl 0 rfl) ?_
    refine lv_ldc (v := -1000000001) hx hb C.2.2.2.1 (C.2.2.2.2.1 (.constant RX9 58 (-1000000001)) (by decide +kernel)) dX9_sums_20 ?_
    obtain ⟨x22, M22, hx22⟩ : ∃ (X : Int32) (Y : mS), (X, Y) = mF_errs M (-1000000001) := ⟨_, _, rfl⟩
    refine mr_calli (r0 := x22) (M2 := M22) C hA G (by rw [hx22]; exact (k_errs zl D cI ad M (-1000000001) (by unfold vp_in; decide))) (cwV 1 C.2.2.2.2.1 gX9_sums_X9_errs rfl rfl rfl (by decide +kernel) ⟨Nat.le_of_ble_eq_true rfl, Nat.le_of_ble_eq_true rfl⟩) rfl hl.1 rfl (Nat.le_of_ble_eq_true rfl) dX9_sums_22 ⟨Nat.le_refl _, Nat.le_refl _⟩ (fun H locs G => ?_)
    rw [lt2_e hx22] at hF
    exact hret _ _ _ _ _ _ hF G dX9_sums_25
  · rw [if_neg c7] at hF
    refine lv_iload_n hx hb dX9_sums_10 rfl (lv_at hl 2 rfl) ?_
    refine lv_iconst (v := 0) hx hb dX9_sums_11 (by decide) ?_
    refine lv_iconst (v := 1) hx hb dX9_sums_12 (by decide) ?_
    refine mr_calls C hA G (ks_in zl what 0 1) (va_cwS 3 C.2.2.2.2.1 gX9_sums_X9_in rfl rfl rfl (by decide +kernel) ⟨Nat.le_of_ble_eq_true rfl, Nat.le_of_ble_eq_true rfl⟩) rfl hl.1 rfl (Nat.le_of_ble_eq_true rfl) dX9_sums_13 ⟨Nat.le_refl _, Nat.le_refl _⟩ (fun H locs G => ?_)
    refine lv_if_ne (tgt := 26) hx hb dX9_sums_16 (by decide) (fun c16 => ?_) (fun c16 => ?_)
    · rw [if_neg c16] at hF
      refine lv_iconst (v := 0) hx hb dX9_sums_26 (by decide) ?_
      refine lv_istore_n (lv' := [(3, .int 0), (0, .ref (ad 0)), (1, .int v), (2, .int what)]) hx hb dX9_sums_27 rfl hl (by decide) rfl (fun ls hl => ?_)
      refine lv_iconst (v := 0) hx hb dX9_sums_28 (by decide) ?_
      refine lv_istore (lv' := [(4, .int 0), (3, .int 0), (0, .ref (ad 0)), (1, .int v), (2, .int what)]) hx hb dX9_sums_29 hl (by decide) rfl (fun ls hl => ?_)
      refine lv_iconst (v := 1) hx hb dX9_sums_31 (by decide) ?_
      refine lv_aload_n hx hb dX9_sums_32 rfl (lv_at hl 2 rfl) ?_
      refine mr_get C G hin 0 (by decide) rfl (show Cond.fieldLink RX9 7 "WheatCountsModel" "row" "[I" ∈ _ by decide +kernel) (fun _ => rfl) dX9_sums_33 ?_
      refine lv_iconst (v := 3) hx hb dX9_sums_36 (by decide) ?_
      refine mr_ald C G 1 (fun _ => rfl) 3 rfl (by omega) (Nat.le_of_ble_eq_true rfl) dX9_sums_37 ?_
      refine lv_ishl hx hb dX9_sums_38 ?_
      refine lv_iconst (v := 1) hx hb dX9_sums_39 (by decide) ?_
      refine lv_isub hx hb dX9_sums_40 ?_
      refine lv_topi (fun x41 hx41 => ?_)
      rw [lt_e hx41] at hF
      refine lv_istore (lv' := [(5, .int x41), (4, .int 0), (3, .int 0), (0, .ref (ad 0)), (1, .int v), (2, .int what)]) hx hb dX9_sums_41 hl (by decide) rfl (fun ls hl => ?_)
      obtain ⟨v5_43x, v4_43x, v3_43x, hX43⟩ : ∃ (v5_43x : Int32) (v4_43x : Int32) (v3_43x : Int32), (v5_43x, v4_43x, v3_43x) = mF_sums_L43 M v (2 ^ vn (M 1 3) + 1) x41 0 0 := ⟨_, _, _, rfl⟩
      rw [lt3_e hX43] at hF
      have hrest43 : ∀ (H : Heap) (locs : List Loc) (ls : Array Slot), lv_has ls 8 [(0, .ref (ad 0)), (1, .int v), (2, .int what), (3, .int v3_43x), (4, .int v4_43x), (5, .int v5_43x)] → mG D cI ad zA H0 H locs M → W zp zl ze ({ frames := 1, cells := 0, slots := 0, locals := 22 } : Room) zs zm zg zb zt zc H locs 0 0 zQ (F0 zm 135 ls []) := by
        intro H locs ls hl G
        refine lv_iload_n hx hb dX9_sums_135 rfl (lv_at hl 2 rfl) ?_
        refine lv_iconst (v := 1) hx hb dX9_sums_136 (by decide) ?_
        refine lv_icmp_ne (tgt := 151) hx hb dX9_sums_137 (by decide) (fun c137 => ?_) (fun c137 => ?_)
        · rw [if_neg c137] at hF
          refine lv_iload_n hx hb dX9_sums_151 rfl (lv_at hl 2 rfl) ?_
          refine lv_if_ne (tgt := 159) hx hb dX9_sums_152 (by decide) (fun c152 => ?_) (fun c152 => ?_)
          · rw [if_neg c152] at hF
            refine lv_iload hx hb dX9_sums_159 (lv_at hl 4 rfl) ?_
            exact hret _ _ _ _ _ _ hF G dX9_sums_161
          · rw [if_pos c152] at hF
            refine lv_iload_n hx hb dX9_sums_155 rfl (lv_at hl 3 rfl) ?_
            refine lv_goto (tgt := 161) hx hb dX9_sums_156 (by decide) ?_
            exact hret _ _ _ _ _ _ hF G dX9_sums_161
        · rw [if_pos c137] at hF
          refine lv_iload_n hx hb dX9_sums_140 rfl (lv_at hl 3 rfl) ?_
          refine lv_if_ne (tgt := 151) hx hb dX9_sums_141 (by decide) (fun c141 => ?_) (fun c141 => ?_)
          · rw [if_neg c141] at hF
            refine lv_iload_n hx hb dX9_sums_151 rfl (lv_at hl 2 rfl) ?_
            refine lv_if_ne (tgt := 159) hx hb dX9_sums_152 (by decide) (fun c152 => ?_) (fun c152 => ?_)
            · rw [if_neg c152] at hF
              refine lv_iload hx hb dX9_sums_159 (lv_at hl 4 rfl) ?_
              exact hret _ _ _ _ _ _ hF G dX9_sums_161
            · rw [if_pos c152] at hF
              refine lv_iload_n hx hb dX9_sums_155 rfl (lv_at hl 3 rfl) ?_
              refine lv_goto (tgt := 161) hx hb dX9_sums_156 (by decide) ?_
              exact hret _ _ _ _ _ _ hF G dX9_sums_161
          · rw [if_pos c141] at hF
            refine lv_aload_n hx hb dX9_sums_144 rfl (lv_at hl 0 rfl) ?_
            refine lv_ldc (v := -1000000002) hx hb C.2.2.2.1 (C.2.2.2.2.1 (.constant RX9 204 (-1000000002)) (by decide +kernel)) dX9_sums_145 ?_
            obtain ⟨x147, M147, hx147⟩ : ∃ (X : Int32) (Y : mS), (X, Y) = mF_errs M (-1000000002) := ⟨_, _, rfl⟩
            refine mr_calli (r0 := x147) (M2 := M147) C hA G (by rw [hx147]; exact (k_errs zl D cI ad M (-1000000002) (by unfold vp_in; decide))) (cwV 1 C.2.2.2.2.1 gX9_sums_X9_errs rfl rfl rfl (by decide +kernel) ⟨Nat.le_of_ble_eq_true rfl, Nat.le_of_ble_eq_true rfl⟩) rfl hl.1 rfl (Nat.le_of_ble_eq_true rfl) dX9_sums_147 ⟨Nat.le_refl _, Nat.le_refl _⟩ (fun H locs G => ?_)
            rw [lt2_e hx147] at hF
            exact hret _ _ _ _ _ _ hF G dX9_sums_150
      have hloop43 : ∀ (f : Nat) (v5_43 : Int32) (v4_43 : Int32) (v3_43 : Int32), (v5_43 = nI f + (-2) ∧ 0 < f) → (v5_43x, v4_43x, v3_43x) = mF_sums_L43 M v f v5_43 v4_43 v3_43 → ∀ (H : Heap) (locs : List Loc) (ls : Array Slot), lv_has ls 8 [(0, .ref (ad 0)), (1, .int v), (2, .int what), (3, .int v3_43), (4, .int v4_43), (5, .int v5_43)] → mG D cI ad zA H0 H locs M → W zp zl ze ({ frames := 1, cells := 0, slots := 0, locals := 22 } : Room) zs zm zg zb zt zc H locs 0 0 zQ (F0 zm 43 ls []) := by
        intro f
        induction f with
        | zero =>
          intro v5_43 v4_43 v3_43 hI hL43 H locs ls hl G
          exact absurd hI.2 (Nat.lt_irrefl _)
        | succ f ih =>
          intro v5_43 v4_43 v3_43 hI hL43 H locs ls hl G
          rw [mF_sums_L43_s] at hL43
          refine lv_iload hx hb dX9_sums_43 (lv_at hl 5 rfl) ?_
          refine lv_if_lt (tgt := 135) hx hb dX9_sums_45 (by decide) (fun c45 => ?_) (fun c45 => ?_)
          · rw [if_pos c45] at hL43
            cases hL43
            exact hrest43 _ _ _ (lv_sub hl [0, 1, 2, 3, 4, 5] rfl) G
          · rw [if_neg c45] at hL43
            refine lv_iconst (v := 0) hx hb dX9_sums_48 (by decide) ?_
            refine lv_istore (lv' := [(6, .int 0), (0, .ref (ad 0)), (1, .int v), (2, .int what), (3, .int v3_43), (4, .int v4_43), (5, .int v5_43)]) hx hb dX9_sums_49 hl (by decide) rfl (fun ls hl => ?_)
            refine lv_iconst (v := 0) hx hb dX9_sums_51 (by decide) ?_
            refine lv_istore (lv' := [(7, .int 0), (6, .int 0), (0, .ref (ad 0)), (1, .int v), (2, .int what), (3, .int v3_43), (4, .int v4_43), (5, .int v5_43)]) hx hb dX9_sums_52 hl (by decide) rfl (fun ls hl => ?_)
            obtain ⟨v6_54x, hX54⟩ : ∃ (v6_54x : Int32), v6_54x = mF_sums_L54 M v5_43 (vn (M 1 3)) := ⟨_, rfl⟩
            rw [lt_e hX54] at hL43
            have hrest54 : ∀ (H : Heap) (locs : List Loc) (ls : Array Slot), lv_has ls 8 [(0, .ref (ad 0)), (1, .int v), (2, .int what), (3, .int v3_43), (4, .int v4_43), (5, .int v5_43), (6, .int v6_54x), (7, .int (nI (vn (M 1 3))))] → mG D cI ad zA H0 H locs M → W zp zl ze ({ frames := 1, cells := 0, slots := 0, locals := 22 } : Room) zs zm zg zb zt zc H locs 0 0 zQ (F0 zm 100 ls []) := by
              intro H locs ls hl G
              refine lv_iload hx hb dX9_sums_100 (lv_at hl 6 rfl) ?_
              refine lv_iload_n hx hb dX9_sums_102 rfl (lv_at hl 1 rfl) ?_
              obtain ⟨y113, hX113⟩ : ∃ (y113 : Int32), y113 = ((if v6_54x = v then v5_43 else v4_43) : Int32) := ⟨_, rfl⟩
              rw [lt_e hX113] at hL43
              have hj113 : ∀ (H : Heap) (locs : List Loc) (ls : Array Slot), lv_has ls 8 [(0, .ref (ad 0)), (1, .int v), (2, .int what), (3, .int v3_43), (4, .int v4_43), (5, .int v5_43), (6, .int v6_54x), (7, .int (nI (vn (M 1 3))))] → mG D cI ad zA H0 H locs M → W zp zl ze ({ frames := 1, cells := 0, slots := 0, locals := 22 } : Room) zs zm zg zb zt zc H locs 0 0 zQ (F0 zm 113 ls [.int y113]) := by
                intro H locs ls hl G
                refine lv_istore (lv' := [(4, .int y113), (0, .ref (ad 0)), (1, .int v), (2, .int what), (3, .int v3_43), (5, .int v5_43), (6, .int v6_54x), (7, .int (nI (vn (M 1 3))))]) hx hb dX9_sums_113 hl (by decide) rfl (fun ls hl => ?_)
                refine lv_iload_n hx hb dX9_sums_115 rfl (lv_at hl 4 rfl) ?_
                refine lv_iload hx hb dX9_sums_116 (lv_at hl 6 rfl) ?_
                refine lv_iload_n hx hb dX9_sums_118 rfl (lv_at hl 2 rfl) ?_
                obtain ⟨y127, hX127⟩ : ∃ (y127 : Int32), y127 = ((if v6_54x = v then 1 else 0) : Int32) := ⟨_, rfl⟩
                rw [lt_e hX127] at hL43
                have hj127 : ∀ (H : Heap) (locs : List Loc) (ls : Array Slot), lv_has ls 8 [(0, .ref (ad 0)), (1, .int v), (2, .int what), (3, .int v3_43), (4, .int y113), (5, .int v5_43), (6, .int v6_54x), (7, .int (nI (vn (M 1 3))))] → mG D cI ad zA H0 H locs M → W zp zl ze ({ frames := 1, cells := 0, slots := 0, locals := 22 } : Room) zs zm zg zb zt zc H locs 0 0 zQ (F0 zm 127 ls [.int y127, .int v3_43]) := by
                  intro H locs ls hl G
                  refine lv_iadd hx hb dX9_sums_127 ?_
                  refine lv_topi (fun x128 hx128 => ?_)
                  rw [lt_e hx128] at hL43
                  refine lv_istore_n (lv' := [(3, .int x128), (0, .ref (ad 0)), (1, .int v), (2, .int what), (4, .int y113), (5, .int v5_43), (6, .int v6_54x), (7, .int (nI (vn (M 1 3))))]) hx hb dX9_sums_128 rfl hl (by decide) rfl (fun ls hl => ?_)
                  refine lv_iinc (v := (v5_43 + (-1))) (lv' := [(5, .int (v5_43 + (-1))), (3, .int x128), (0, .ref (ad 0)), (1, .int v), (2, .int what), (4, .int y113), (6, .int v6_54x), (7, .int (nI (vn (M 1 3))))]) hx hb dX9_sums_129 hl (k := 5) rfl rfl (by decide) rfl (fun ls hl => ?_)
                  refine lv_goto (tgt := 43) hx hb dX9_sums_132 (by decide) ?_
                  exact ih (v5_43 + (-1)) y113 x128 (sums_step hI c45) hL43 _ _ _ (lv_sub hl [2, 3, 4, 1, 5, 0] rfl) G
                refine lv_icmp_ne (tgt := 126) hx hb dX9_sums_119 (by decide) (fun c119 => ?_) (fun c119 => ?_)
                · rw [if_neg c119] at hX127
                  refine lv_iconst (v := 0) hx hb dX9_sums_126 (by decide) ?_
                  subst hX127
                  exact hj127 _ _ _ (lv_sub hl [1, 2, 3, 4, 0, 5, 6, 7] rfl) G
                · rw [if_pos c119] at hX127
                  refine lv_iconst (v := 1) hx hb dX9_sums_122 (by decide) ?_
                  refine lv_goto (tgt := 127) hx hb dX9_sums_123 (by decide) ?_
                  subst hX127
                  exact hj127 _ _ _ (lv_sub hl [1, 2, 3, 4, 0, 5, 6, 7] rfl) G
              refine lv_icmp_ne (tgt := 111) hx hb dX9_sums_103 (by decide) (fun c103 => ?_) (fun c103 => ?_)
              · rw [if_neg c103] at hX113
                refine lv_iload hx hb dX9_sums_111 (lv_at hl 4 rfl) ?_
                subst hX113
                exact hj113 _ _ _ (lv_sub hl [0, 1, 2, 3, 4, 5, 6, 7] rfl) G
              · rw [if_pos c103] at hX113
                refine lv_iload hx hb dX9_sums_106 (lv_at hl 5 rfl) ?_
                refine lv_goto (tgt := 113) hx hb dX9_sums_108 (by decide) ?_
                subst hX113
                exact hj113 _ _ _ (lv_sub hl [0, 1, 2, 3, 4, 5, 6, 7] rfl) G
            have hloop54 : ∀ (j k54 : Nat), j + k54 = vn (M 1 3) → ∀ (v6_54 : Int32), v6_54 = mF_sums_L54 M v5_43 k54 → ∀ (H : Heap) (locs : List Loc) (ls : Array Slot), lv_has ls 8 [(0, .ref (ad 0)), (1, .int v), (2, .int what), (3, .int v3_43), (4, .int v4_43), (5, .int v5_43), (6, .int v6_54), (7, .int (nI k54))] → mG D cI ad zA H0 H locs M → W zp zl ze ({ frames := 1, cells := 0, slots := 0, locals := 22 } : Room) zs zm zg zb zt zc H locs 0 0 zQ (F0 zm 54 ls []) := by
              intro j
              induction j with
              | zero =>
                intro k54 hk v6_54 hL H locs ls hl G
                have hk : k54 = vn (M 1 3) := by omega
                rw [hk] at hL hl
                refine lv_iload hx hb dX9_sums_54 (lv_at hl 7 rfl) ?_
                refine lv_aload_n hx hb dX9_sums_56 rfl (lv_at hl 0 rfl) ?_
                refine mr_get C G hin 0 (by decide) rfl (show Cond.fieldLink RX9 7 "WheatCountsModel" "row" "[I" ∈ _ by decide +kernel) (fun _ => rfl) dX9_sums_57 ?_
                refine lv_iconst (v := 3) hx hb dX9_sums_60 (by decide) ?_
                refine mr_ald C G 1 (fun _ => rfl) 3 rfl (by omega) (Nat.le_of_ble_eq_true rfl) dX9_sums_61 ?_
                refine lv_icmp_ge (tgt := 100) hx hb dX9_sums_62 (by decide) (fun c62 => ?_) (fun c62 => absurd (lp_out (n := vn (M 1 3)) hC.1) c62)
                obtain rfl := hL.trans hX54.symm
                exact hrest54 _ _ _ (lv_sub hl [0, 1, 2, 3, 4, 5, 6, 7] rfl) G
              | succ j ih =>
                intro k54 hk v6_54 hL H locs ls hl G
                have hkn : k54 < vn (M 1 3) := by omega
                obtain ⟨v6_54s, hS0⟩ : ∃ (v6_54s : Int32), v6_54s = mF_sums_L54 M v5_43 (k54 + 1) := ⟨_, rfl⟩
                have hS := hS0
                rw [mF_sums_L54_s, lt_e hL] at hS
                refine lv_iload hx hb dX9_sums_54 (lv_at hl 7 rfl) ?_
                refine lv_aload_n hx hb dX9_sums_56 rfl (lv_at hl 0 rfl) ?_
                refine mr_get C G hin 0 (by decide) rfl (show Cond.fieldLink RX9 7 "WheatCountsModel" "row" "[I" ∈ _ by decide +kernel) (fun _ => rfl) dX9_sums_57 ?_
                refine lv_iconst (v := 3) hx hb dX9_sums_60 (by decide) ?_
                refine mr_ald C G 1 (fun _ => rfl) 3 rfl (by omega) (Nat.le_of_ble_eq_true rfl) dX9_sums_61 ?_
                refine lv_icmp_ge (tgt := 100) hx hb dX9_sums_62 (by decide) (fun c62 => absurd c62 (lp_in (n := vn (M 1 3)) hC.1 hkn (by omega))) (fun c62 => ?_)
                refine lv_iload hx hb dX9_sums_65 (lv_at hl 6 rfl) ?_
                refine lv_iload hx hb dX9_sums_67 (lv_at hl 5 rfl) ?_
                refine lv_iload hx hb dX9_sums_69 (lv_at hl 7 rfl) ?_
                refine mr_calls C hA G (ks_has zl v5_43 (nI k54)) (va_cwS 2 C.2.2.2.2.1 gX9_sums_X9_has rfl rfl rfl (by decide +kernel) ⟨Nat.le_of_ble_eq_true rfl, Nat.le_of_ble_eq_true rfl⟩) rfl hl.1 rfl (Nat.le_of_ble_eq_true rfl) dX9_sums_71 ⟨Nat.le_refl _, Nat.le_refl _⟩ (fun H locs G => ?_)
                obtain ⟨y91, hX91⟩ : ∃ (y91 : Int32), y91 = ((if (sF_has v5_43 (nI k54)) = 0 then 0 else (M 1 (12 + k54))) : Int32) := ⟨_, rfl⟩
                rw [lt_e hX91] at hS
                have hj91 : ∀ (H : Heap) (locs : List Loc) (ls : Array Slot), lv_has ls 8 [(0, .ref (ad 0)), (1, .int v), (2, .int what), (3, .int v3_43), (4, .int v4_43), (5, .int v5_43), (6, .int v6_54), (7, .int (nI k54))] → mG D cI ad zA H0 H locs M → W zp zl ze ({ frames := 1, cells := 0, slots := 0, locals := 22 } : Room) zs zm zg zb zt zc H locs 0 0 zQ (F0 zm 91 ls [.int y91, .int v6_54]) := by
                  intro H locs ls hl G
                  refine lv_iadd hx hb dX9_sums_91 ?_
                  refine lv_topi (fun x92 hx92 => ?_)
                  rw [lt_e hx92] at hS
                  refine lv_istore (lv' := [(6, .int x92), (0, .ref (ad 0)), (1, .int v), (2, .int what), (3, .int v3_43), (4, .int v4_43), (5, .int v5_43), (7, .int (nI k54))]) hx hb dX9_sums_92 hl (by decide) rfl (fun ls hl => ?_)
                  refine lv_iinc (v := nI (k54 + 1)) (lv' := [(7, .int (nI (k54 + 1))), (6, .int x92), (0, .ref (ad 0)), (1, .int v), (2, .int what), (3, .int v3_43), (4, .int v4_43), (5, .int v5_43)]) hx hb dX9_sums_94 hl (k := 7) rfl (nt_add rfl (show (1 : Int32) = nI 1 from rfl)) (by decide) rfl (fun ls hl => ?_)
                  refine lv_goto (tgt := 54) hx hb dX9_sums_97 (by decide) ?_
                  subst hS
                  exact ih (k54 + 1) (by omega) _ hS0 _ _ _ (lv_sub hl [2, 3, 4, 5, 6, 7, 1, 0] rfl) G
                refine lv_if_eq (tgt := 90) hx hb dX9_sums_74 (by decide) (fun c74 => ?_) (fun c74 => ?_)
                · rw [if_pos c74] at hX91
                  refine lv_iconst (v := 0) hx hb dX9_sums_90 (by decide) ?_
                  subst hX91
                  exact hj91 _ _ _ (lv_sub hl [0, 1, 2, 3, 4, 5, 6, 7] rfl) G
                · rw [if_neg c74] at hX91
                  refine lv_aload_n hx hb dX9_sums_77 rfl (lv_at hl 0 rfl) ?_
                  refine mr_get C G hin 0 (by decide) rfl (show Cond.fieldLink RX9 7 "WheatCountsModel" "row" "[I" ∈ _ by decide +kernel) (fun _ => rfl) dX9_sums_78 ?_
                  refine lv_bipush (v := 12) hx hb dX9_sums_81 (by decide) ?_
                  refine lv_iload hx hb dX9_sums_83 (lv_at hl 7 rfl) ?_
                  refine lv_iadd hx hb dX9_sums_85 ?_
                  refine mr_ald C G 1 (fun _ => rfl) (12 + k54) (nt_add rfl rfl) (by omega) (Nat.le_of_ble_eq_true rfl) dX9_sums_86 ?_
                  refine lv_goto (tgt := 91) hx hb dX9_sums_87 (by decide) ?_
                  subst hX91
                  exact hj91 _ _ _ (lv_sub hl [0, 1, 2, 3, 4, 5, 6, 7] rfl) G
            exact hloop54 _ 0 (Nat.add_zero _) _ rfl _ _ _ (lv_sub hl [2, 3, 4, 5, 6, 7, 1, 0] rfl) G
      exact hloop43 _ _ _ _ ⟨by rw [hx41]; exact sums_init hC.1 hC3, Nat.succ_pos _⟩ hX43 _ _ _ (lv_sub hl [3, 4, 5, 2, 1, 0] rfl) G
    · rw [if_pos c16] at hF
      refine lv_aload_n hx hb dX9_sums_19 rfl (lv_at hl 0 rfl) ?_
      refine lv_ldc (v := -1000000001) hx hb C.2.2.2.1 (C.2.2.2.2.1 (.constant RX9 58 (-1000000001)) (by decide +kernel)) dX9_sums_20 ?_
      obtain ⟨x22, M22, hx22⟩ : ∃ (X : Int32) (Y : mS), (X, Y) = mF_errs M (-1000000001) := ⟨_, _, rfl⟩
      refine mr_calli (r0 := x22) (M2 := M22) C hA G (by rw [hx22]; exact (k_errs zl D cI ad M (-1000000001) (by unfold vp_in; decide))) (cwV 1 C.2.2.2.2.1 gX9_sums_X9_errs rfl rfl rfl (by decide +kernel) ⟨Nat.le_of_ble_eq_true rfl, Nat.le_of_ble_eq_true rfl⟩) rfl hl.1 rfl (Nat.le_of_ble_eq_true rfl) dX9_sums_22 ⟨Nat.le_refl _, Nat.le_refl _⟩ (fun H locs G => ?_)
      rw [lt2_e hx22] at hF
      exact hret _ _ _ _ _ _ hF G dX9_sums_25
set_option maxRecDepth 100000 in
set_option maxHeartbeats 4000000 in
theorem k_looked (zl : Launch) (D : va_G) (cI : ClassId) (ad : Nat → Nat) (M : mS) (s : Int32) (what : Int32) (hR : rOK M) (hZ : zOK M) : mM zl D cI ad yX9_looked wsX9_looked ({ frames := 54, cells := 0, slots := 0, locals := 1209 } : Room) [.int s, .int what] M (mF_looked M s what) := by
  have hin : ∀ w ∈ wsX90, w ∈ wsX9_looked := fun w h => List.mem_cons_of_mem _ (List.mem_append_right _ h)
  refine mM_of (cc := cX9_looked) (nL := 6) (by decide) rfl rfl (Nat.le_of_ble_eq_true rfl) ?_
  intro zp ze zs zm zg zb zt zc zA H0 zQ C hA hret H locs ls hl G
  have hx := C.1
  have hb := C.2.1
  have hl : lv_has ls 6 [(0, .ref (ad 0)), (1, .int s), (2, .int what)] := hl
  obtain ⟨rM, hF⟩ : ∃ X : Int32 × mS, X = mF_looked M s what := ⟨_, rfl⟩
  rw [← hF] at hret
  unfold mF_looked at hF
  have hC := hR.1
  have hP := hR.2.1
  have hK := hR.2.2.1
  have hA9 := hR.2.2.2.1
  have hS := hR.2.2.2.2
  have hC2 := hC.2.1
  have hC3 := hC.2.2
  have hP2 := hP.2
  refine lv_iload_n hx hb dX9_looked_0 rfl (lv_at hl 1 rfl) ?_
  refine mr_calls C hA G (ks_isSheet zl s) (va_cwS 1 C.2.2.2.2.1 gX9_looked_X9_isSheet rfl rfl rfl (by decide +kernel) ⟨Nat.le_of_ble_eq_true rfl, Nat.le_of_ble_eq_true rfl⟩) rfl hl.1 rfl (Nat.le_of_ble_eq_true rfl) dX9_looked_1 ⟨Nat.le_refl _, Nat.le_refl _⟩ (fun H locs G => ?_)
  refine lv_if_eq (tgt := 16) hx hb dX9_looked_4 (by decide) (fun c4 => ?_) (fun c4 => ?_)
  · rw [if_pos c4] at hF
    refine lv_aload_n hx hb dX9_looked_16 rfl (lv_at hl 0 rfl) ?_
    refine lv_ldc (v := -1000000001) hx hb C.2.2.2.1 (C.2.2.2.2.1 (.constant RX9 58 (-1000000001)) (by decide +kernel)) dX9_looked_17 ?_
    obtain ⟨x19, M19, hx19⟩ : ∃ (X : Int32) (Y : mS), (X, Y) = mF_errs M (-1000000001) := ⟨_, _, rfl⟩
    refine mr_calli (r0 := x19) (M2 := M19) C hA G (by rw [hx19]; exact (k_errs zl D cI ad M (-1000000001) (by unfold vp_in; decide))) (cwV 1 C.2.2.2.2.1 gX9_looked_X9_errs rfl rfl rfl (by decide +kernel) ⟨Nat.le_of_ble_eq_true rfl, Nat.le_of_ble_eq_true rfl⟩) rfl hl.1 rfl (Nat.le_of_ble_eq_true rfl) dX9_looked_19 ⟨Nat.le_refl _, Nat.le_refl _⟩ (fun H locs G => ?_)
    rw [lt2_e hx19] at hF
    exact hret _ _ _ _ _ _ hF G dX9_looked_22
  · rw [if_neg c4] at hF
    have hs := sheet_of c4
    have hs2 := hs.2
    refine lv_iload_n hx hb dX9_looked_7 rfl (lv_at hl 2 rfl) ?_
    refine lv_iconst (v := 0) hx hb dX9_looked_8 (by decide) ?_
    refine lv_iconst (v := 1) hx hb dX9_looked_9 (by decide) ?_
    refine mr_calls C hA G (ks_in zl what 0 1) (va_cwS 3 C.2.2.2.2.1 gX9_looked_X9_in rfl rfl rfl (by decide +kernel) ⟨Nat.le_of_ble_eq_true rfl, Nat.le_of_ble_eq_true rfl⟩) rfl hl.1 rfl (Nat.le_of_ble_eq_true rfl) dX9_looked_10 ⟨Nat.le_refl _, Nat.le_refl _⟩ (fun H locs G => ?_)
    refine lv_if_ne (tgt := 23) hx hb dX9_looked_13 (by decide) (fun c13 => ?_) (fun c13 => ?_)
    · rw [if_neg c13] at hF
      refine lv_aload_n hx hb dX9_looked_23 rfl (lv_at hl 0 rfl) ?_
      refine mr_get C G hin 18 (by decide) rfl (show Cond.fieldLink RX9 35 "WheatCountsModel" "bitsOf" "[I" ∈ _ by decide +kernel) (fun _ => rfl) dX9_looked_24 ?_
      refine lv_iload_n hx hb dX9_looked_27 rfl (lv_at hl 1 rfl) ?_
      refine mr_ald C G 8 (fun _ => rfl) (vn s) hs.1 (by omega) (Nat.le_of_ble_eq_true rfl) dX9_looked_28 ?_
      refine lv_if_eq (tgt := 47) hx hb dX9_looked_29 (by decide) (fun c29 => ?_) (fun c29 => ?_)
      · rw [if_pos c29] at hF
        refine lv_aload_n hx hb dX9_looked_47 rfl (lv_at hl 0 rfl) ?_
        refine lv_ldc (v := -1000000002) hx hb C.2.2.2.1 (C.2.2.2.2.1 (.constant RX9 204 (-1000000002)) (by decide +kernel)) dX9_looked_48 ?_
        obtain ⟨x50, M50, hx50⟩ : ∃ (X : Int32) (Y : mS), (X, Y) = mF_errs M (-1000000002) := ⟨_, _, rfl⟩
        refine mr_calli (r0 := x50) (M2 := M50) C hA G (by rw [hx50]; exact (k_errs zl D cI ad M (-1000000002) (by unfold vp_in; decide))) (cwV 1 C.2.2.2.2.1 gX9_looked_X9_errs rfl rfl rfl (by decide +kernel) ⟨Nat.le_of_ble_eq_true rfl, Nat.le_of_ble_eq_true rfl⟩) rfl hl.1 rfl (Nat.le_of_ble_eq_true rfl) dX9_looked_50 ⟨Nat.le_refl _, Nat.le_refl _⟩ (fun H locs G => ?_)
        rw [lt2_e hx50] at hF
        exact hret _ _ _ _ _ _ hF G dX9_looked_53
      · rw [if_neg c29] at hF
        refine lv_aload_n hx hb dX9_looked_32 rfl (lv_at hl 0 rfl) ?_
        refine mr_get C G hin 19 (by decide) rfl (show Cond.fieldLink RX9 38 "WheatCountsModel" "sizeOf" "[I" ∈ _ by decide +kernel) (fun _ => rfl) dX9_looked_33 ?_
        refine lv_iload_n hx hb dX9_looked_36 rfl (lv_at hl 1 rfl) ?_
        refine mr_ald C G 9 (fun _ => rfl) (vn s) hs.1 (by omega) (Nat.le_of_ble_eq_true rfl) dX9_looked_37 ?_
        refine lv_aload_n hx hb dX9_looked_38 rfl (lv_at hl 0 rfl) ?_
        refine mr_get C G hin 0 (by decide) rfl (show Cond.fieldLink RX9 7 "WheatCountsModel" "row" "[I" ∈ _ by decide +kernel) (fun _ => rfl) dX9_looked_39 ?_
        refine lv_iconst (v := 3) hx hb dX9_looked_42 (by decide) ?_
        refine mr_ald C G 1 (fun _ => rfl) 3 rfl (by omega) (Nat.le_of_ble_eq_true rfl) dX9_looked_43 ?_
        refine lv_icmp_eq (tgt := 54) hx hb dX9_looked_44 (by decide) (fun c44 => ?_) (fun c44 => ?_)
        · rw [if_pos c44] at hF
          refine lv_aload_n hx hb dX9_looked_54 rfl (lv_at hl 0 rfl) ?_
          refine mr_callv C hA G (k_looks zl D cI ad M  hR) (cwV 0 C.2.2.2.2.1 gX9_looked_X9_looks rfl rfl rfl (by decide +kernel) ⟨Nat.le_of_ble_eq_true rfl, Nat.le_of_ble_eq_true rfl⟩) rfl hl.1 rfl (Nat.le_of_ble_eq_true rfl) dX9_looked_55 ⟨Nat.le_refl _, Nat.le_refl _⟩ (fun H locs G => ?_)
          obtain ⟨M55, hM55⟩ : ∃ X : mS, X = mF_looks M := ⟨_, rfl⟩
          rw [← hM55] at G
          rw [lt_e hM55] at hF
          have hr55 : M55 1 = M 1 := by rw [hM55, lk_e]; exact lk_row _ _ 1 (by decide)
          have hR55 : rOK M55 := rOK_row hr55 hR
          have hP55 : M55 1 8 = nI (vn (M 1 8)) := by rw [hr55]; exact hP.1
          refine lv_iconst (v := 0) hx hb dX9_looked_58 (by decide) ?_
          refine lv_istore_n (lv' := [(3, .int 0), (0, .ref (ad 0)), (1, .int s), (2, .int what)]) hx hb dX9_looked_59 rfl hl (by decide) rfl (fun ls hl => ?_)
          refine lv_iconst (v := 0) hx hb dX9_looked_60 (by decide) ?_
          refine lv_istore (lv' := [(4, .int 0), (3, .int 0), (0, .ref (ad 0)), (1, .int s), (2, .int what)]) hx hb dX9_looked_61 hl (by decide) rfl (fun ls hl => ?_)
          refine lv_iconst (v := 1) hx hb dX9_looked_63 (by decide) ?_
          refine lv_aload_n hx hb dX9_looked_64 rfl (lv_at hl 2 rfl) ?_
          refine mr_get C G hin 0 (by decide) rfl (show Cond.fieldLink RX9 7 "WheatCountsModel" "row" "[I" ∈ _ by decide +kernel) (fun _ => rfl) dX9_looked_65 ?_
          refine lv_bipush (v := 8) hx hb dX9_looked_68 (by decide) ?_
          refine mr_ald C G 1 (fun _ => rfl) 8 rfl (by omega) (Nat.le_of_ble_eq_true rfl) dX9_looked_70 ?_
          refine lv_ishl hx hb dX9_looked_71 ?_
          refine lv_iconst (v := 1) hx hb dX9_looked_72 (by decide) ?_
          refine lv_isub hx hb dX9_looked_73 ?_
          refine lv_topi (fun x74 hx74 => ?_)
          rw [lt_e hx74] at hF
          refine lv_istore (lv' := [(5, .int x74), (4, .int 0), (3, .int 0), (0, .ref (ad 0)), (1, .int s), (2, .int what)]) hx hb dX9_looked_74 hl (by decide) rfl (fun ls hl => ?_)
          obtain ⟨v5_76x, v4_76x, v3_76x, hX76⟩ : ∃ (v5_76x : Int32) (v4_76x : Int32) (v3_76x : Int32), (v5_76x, v4_76x, v3_76x) = mF_looked_L76 s M55 (2 ^ vn (M 1 8) + 1) x74 0 0 := ⟨_, _, _, rfl⟩
          rw [lt3_e hX76] at hF
          have hrest76 : ∀ (H : Heap) (locs : List Loc) (ls : Array Slot), lv_has ls 6 [(0, .ref (ad 0)), (1, .int s), (2, .int what), (3, .int v3_76x), (4, .int v4_76x), (5, .int v5_76x)] → mG D cI ad zA H0 H locs M55 → W zp zl ze ({ frames := 54, cells := 0, slots := 0, locals := 1209 } : Room) zs zm zg zb zt zc H locs 0 0 zQ (F0 zm 104 ls []) := by
            intro H locs ls hl G
            refine lv_iload_n hx hb dX9_looked_104 rfl (lv_at hl 2 rfl) ?_
            refine lv_iconst (v := 1) hx hb dX9_looked_105 (by decide) ?_
            refine lv_icmp_ne (tgt := 120) hx hb dX9_looked_106 (by decide) (fun c106 => ?_) (fun c106 => ?_)
            · rw [if_neg c106] at hF
              refine lv_iload_n hx hb dX9_looked_120 rfl (lv_at hl 2 rfl) ?_
              refine lv_if_ne (tgt := 128) hx hb dX9_looked_121 (by decide) (fun c121 => ?_) (fun c121 => ?_)
              · rw [if_neg c121] at hF
                refine lv_iload hx hb dX9_looked_128 (lv_at hl 4 rfl) ?_
                exact hret _ _ _ _ _ _ hF G dX9_looked_130
              · rw [if_pos c121] at hF
                refine lv_iload_n hx hb dX9_looked_124 rfl (lv_at hl 3 rfl) ?_
                refine lv_goto (tgt := 130) hx hb dX9_looked_125 (by decide) ?_
                exact hret _ _ _ _ _ _ hF G dX9_looked_130
            · rw [if_pos c106] at hF
              refine lv_iload_n hx hb dX9_looked_109 rfl (lv_at hl 3 rfl) ?_
              refine lv_if_ne (tgt := 120) hx hb dX9_looked_110 (by decide) (fun c110 => ?_) (fun c110 => ?_)
              · rw [if_neg c110] at hF
                refine lv_iload_n hx hb dX9_looked_120 rfl (lv_at hl 2 rfl) ?_
                refine lv_if_ne (tgt := 128) hx hb dX9_looked_121 (by decide) (fun c121 => ?_) (fun c121 => ?_)
                · rw [if_neg c121] at hF
                  refine lv_iload hx hb dX9_looked_128 (lv_at hl 4 rfl) ?_
                  exact hret _ _ _ _ _ _ hF G dX9_looked_130
                · rw [if_pos c121] at hF
                  refine lv_iload_n hx hb dX9_looked_124 rfl (lv_at hl 3 rfl) ?_
                  refine lv_goto (tgt := 130) hx hb dX9_looked_125 (by decide) ?_
                  exact hret _ _ _ _ _ _ hF G dX9_looked_130
              · rw [if_pos c110] at hF
                refine lv_aload_n hx hb dX9_looked_113 rfl (lv_at hl 0 rfl) ?_
                refine lv_ldc (v := -1000000002) hx hb C.2.2.2.1 (C.2.2.2.2.1 (.constant RX9 204 (-1000000002)) (by decide +kernel)) dX9_looked_114 ?_
                obtain ⟨x116, M116, hx116⟩ : ∃ (X : Int32) (Y : mS), (X, Y) = mF_errs M55 (-1000000002) := ⟨_, _, rfl⟩
                refine mr_calli (r0 := x116) (M2 := M116) C hA G (by rw [hx116]; exact (k_errs zl D cI ad M55 (-1000000002) (by unfold vp_in; decide))) (cwV 1 C.2.2.2.2.1 gX9_looked_X9_errs rfl rfl rfl (by decide +kernel) ⟨Nat.le_of_ble_eq_true rfl, Nat.le_of_ble_eq_true rfl⟩) rfl hl.1 rfl (Nat.le_of_ble_eq_true rfl) dX9_looked_116 ⟨Nat.le_refl _, Nat.le_refl _⟩ (fun H locs G => ?_)
                rw [lt2_e hx116] at hF
                exact hret _ _ _ _ _ _ hF G dX9_looked_119
          have hloop76 : ∀ (f : Nat) (v5_76 : Int32) (v4_76 : Int32) (v3_76 : Int32), (v5_76 = nI f + (-2) ∧ 0 < f) → (v5_76x, v4_76x, v3_76x) = mF_looked_L76 s M55 f v5_76 v4_76 v3_76 → ∀ (H : Heap) (locs : List Loc) (ls : Array Slot), lv_has ls 6 [(0, .ref (ad 0)), (1, .int s), (2, .int what), (3, .int v3_76), (4, .int v4_76), (5, .int v5_76)] → mG D cI ad zA H0 H locs M55 → W zp zl ze ({ frames := 54, cells := 0, slots := 0, locals := 1209 } : Room) zs zm zg zb zt zc H locs 0 0 zQ (F0 zm 76 ls []) := by
            intro f
            induction f with
            | zero =>
              intro v5_76 v4_76 v3_76 hI hL76 H locs ls hl G
              exact absurd hI.2 (Nat.lt_irrefl _)
            | succ f ih =>
              intro v5_76 v4_76 v3_76 hI hL76 H locs ls hl G
              rw [mF_looked_L76_s] at hL76
              refine lv_iload hx hb dX9_looked_76 (lv_at hl 5 rfl) ?_
              refine lv_if_lt (tgt := 104) hx hb dX9_looked_78 (by decide) (fun c78 => ?_) (fun c78 => ?_)
              · rw [if_pos c78] at hL76
                cases hL76
                exact hrest76 _ _ _ (lv_sub hl [0, 1, 2, 3, 4, 5] rfl) G
              · rw [if_neg c78] at hL76
                refine lv_aload_n hx hb dX9_looked_81 rfl (lv_at hl 0 rfl) ?_
                refine lv_iload_n hx hb dX9_looked_82 rfl (lv_at hl 1 rfl) ?_
                refine lv_iload hx hb dX9_looked_83 (lv_at hl 5 rfl) ?_
                refine mr_calli C hA G (k_grows zl D cI ad M55 (vn s) v5_76 hR55 hs2) (cwV 2 C.2.2.2.2.1 gX9_looked_X9_grows rfl rfl rfl (by decide +kernel) ⟨Nat.le_of_ble_eq_true rfl, Nat.le_of_ble_eq_true rfl⟩) rfl hl.1 (cons_int rfl (cons_int hs.1 rfl)) (Nat.le_of_ble_eq_true rfl) dX9_looked_85 ⟨Nat.le_refl _, Nat.le_refl _⟩ (fun H locs G => ?_)
                obtain ⟨z3_98, z4_98, hX98⟩ : ∃ (z3_98 : Int32) (z4_98 : Int32), (z3_98, z4_98) = ((if (mF_grows M55 (vn s) v5_76) = 0 then (v3_76, v4_76) else ((v3_76 + 1), v5_76)) : Int32 × Int32) := ⟨_, _, rfl⟩
                rw [lt2_e hX98] at hL76
                have hj98 : ∀ (H : Heap) (locs : List Loc) (ls : Array Slot), lv_has ls 6 [(0, .ref (ad 0)), (1, .int s), (2, .int what), (3, .int z3_98), (4, .int z4_98), (5, .int v5_76)] → mG D cI ad zA H0 H locs M55 → W zp zl ze ({ frames := 54, cells := 0, slots := 0, locals := 1209 } : Room) zs zm zg zb zt zc H locs 0 0 zQ (F0 zm 98 ls []) := by
                  intro H locs ls hl G
                  refine lv_iinc (v := (v5_76 + (-1))) (lv' := [(5, .int (v5_76 + (-1))), (0, .ref (ad 0)), (1, .int s), (2, .int what), (3, .int z3_98), (4, .int z4_98)]) hx hb dX9_looked_98 hl (k := 5) rfl rfl (by decide) rfl (fun ls hl => ?_)
                  refine lv_goto (tgt := 76) hx hb dX9_looked_101 (by decide) ?_
                  exact ih (v5_76 + (-1)) z4_98 z3_98 (sums_step hI c78) hL76 _ _ _ (lv_sub hl [1, 2, 3, 4, 5, 0] rfl) G
                refine lv_if_eq (tgt := 98) hx hb dX9_looked_88 (by decide) (fun c88 => ?_) (fun c88 => ?_)
                · rw [if_pos c88] at hX98
                  cases hX98
                  exact hj98 _ _ _ (lv_sub hl [0, 1, 2, 3, 4, 5] rfl) G
                · rw [if_neg c88] at hX98
                  refine lv_iinc (v := (v3_76 + 1)) (lv' := [(3, .int (v3_76 + 1)), (0, .ref (ad 0)), (1, .int s), (2, .int what), (4, .int v4_76), (5, .int v5_76)]) hx hb dX9_looked_91 hl (k := 3) rfl rfl (by decide) rfl (fun ls hl => ?_)
                  refine lv_iload hx hb dX9_looked_94 (lv_at hl 5 rfl) ?_
                  refine lv_istore (lv' := [(4, .int v5_76), (3, .int (v3_76 + 1)), (0, .ref (ad 0)), (1, .int s), (2, .int what), (5, .int v5_76)]) hx hb dX9_looked_96 hl (by decide) rfl (fun ls hl => ?_)
                  cases hX98
                  exact hj98 _ _ _ (lv_sub hl [2, 3, 4, 1, 0, 5] rfl) G
          exact hloop76 _ _ _ _ ⟨by rw [hx74]; exact sums_init hP55 (by omega), Nat.succ_pos _⟩ hX76 _ _ _ (lv_sub hl [3, 4, 5, 2, 1, 0] rfl) G
        · rw [if_neg c44] at hF
          refine lv_aload_n hx hb dX9_looked_47 rfl (lv_at hl 0 rfl) ?_
          refine lv_ldc (v := -1000000002) hx hb C.2.2.2.1 (C.2.2.2.2.1 (.constant RX9 204 (-1000000002)) (by decide +kernel)) dX9_looked_48 ?_
          obtain ⟨x50, M50, hx50⟩ : ∃ (X : Int32) (Y : mS), (X, Y) = mF_errs M (-1000000002) := ⟨_, _, rfl⟩
          refine mr_calli (r0 := x50) (M2 := M50) C hA G (by rw [hx50]; exact (k_errs zl D cI ad M (-1000000002) (by unfold vp_in; decide))) (cwV 1 C.2.2.2.2.1 gX9_looked_X9_errs rfl rfl rfl (by decide +kernel) ⟨Nat.le_of_ble_eq_true rfl, Nat.le_of_ble_eq_true rfl⟩) rfl hl.1 rfl (Nat.le_of_ble_eq_true rfl) dX9_looked_50 ⟨Nat.le_refl _, Nat.le_refl _⟩ (fun H locs G => ?_)
          rw [lt2_e hx50] at hF
          exact hret _ _ _ _ _ _ hF G dX9_looked_53
    · rw [if_pos c13] at hF
      refine lv_aload_n hx hb dX9_looked_16 rfl (lv_at hl 0 rfl) ?_
      refine lv_ldc (v := -1000000001) hx hb C.2.2.2.1 (C.2.2.2.2.1 (.constant RX9 58 (-1000000001)) (by decide +kernel)) dX9_looked_17 ?_
      obtain ⟨x19, M19, hx19⟩ : ∃ (X : Int32) (Y : mS), (X, Y) = mF_errs M (-1000000001) := ⟨_, _, rfl⟩
      refine mr_calli (r0 := x19) (M2 := M19) C hA G (by rw [hx19]; exact (k_errs zl D cI ad M (-1000000001) (by unfold vp_in; decide))) (cwV 1 C.2.2.2.2.1 gX9_looked_X9_errs rfl rfl rfl (by decide +kernel) ⟨Nat.le_of_ble_eq_true rfl, Nat.le_of_ble_eq_true rfl⟩) rfl hl.1 rfl (Nat.le_of_ble_eq_true rfl) dX9_looked_19 ⟨Nat.le_refl _, Nat.le_refl _⟩ (fun H locs G => ?_)
      rw [lt2_e hx19] at hF
      exact hret _ _ _ _ _ _ hF G dX9_looked_22
set_option maxRecDepth 100000 in
set_option maxHeartbeats 4000000 in
theorem k_watch (zl : Launch) (D : va_G) (cI : ClassId) (ad : Nat → Nat) (M : mS) (hR : rOK M) : mM zl D cI ad yX9_watch wsX9_watch ({ frames := 54, cells := 0, slots := 0, locals := 1209 } : Room) [] M (mF_watch M) := by
  have hin : ∀ w ∈ wsX90, w ∈ wsX9_watch := fun w h => List.mem_cons_of_mem _ (List.mem_append_right _ h)
  refine mM_of (cc := cX9_watch) (nL := 5) (by decide) rfl rfl (Nat.le_of_ble_eq_true rfl) ?_
  intro zp ze zs zm zg zb zt zc zA H0 zQ C hA hret H locs ls hl G
  have hx := C.1
  have hb := C.2.1
  have hl : lv_has ls 5 [(0, .ref (ad 0))] := hl
  obtain ⟨rM, hF⟩ : ∃ X : Int32 × mS, X = mF_watch M := ⟨_, rfl⟩
  rw [← hF] at hret
  unfold mF_watch at hF
  have hC := hR.1
  have hP := hR.2.1
  have hK := hR.2.2.1
  have hA9 := hR.2.2.2.1
  have hS := hR.2.2.2.2
  have hC2 := hC.2.1
  have hC3 := hC.2.2
  have hP2 := hP.2
  refine lv_aload_n hx hb dX9_watch_0 rfl (lv_at hl 0 rfl) ?_
  refine mr_callv C hA G (k_looks zl D cI ad M  hR) (cwV 0 C.2.2.2.2.1 gX9_watch_X9_looks rfl rfl rfl (by decide +kernel) ⟨Nat.le_of_ble_eq_true rfl, Nat.le_of_ble_eq_true rfl⟩) rfl hl.1 rfl (Nat.le_of_ble_eq_true rfl) dX9_watch_1 ⟨Nat.le_refl _, Nat.le_refl _⟩ (fun H locs G => ?_)
  obtain ⟨M1, hM1⟩ : ∃ X : mS, X = mF_looks M := ⟨_, rfl⟩
  rw [← hM1] at G
  rw [lt_e hM1] at hF
  have hr1 : M1 1 = M 1 := by rw [hM1, lk_e]; exact lk_row _ _ 1 (by decide)
  have hP1 : M1 1 8 = nI (vn (M 1 8)) := by rw [hr1]; exact hP.1
  have hb8 := shl1 hP1 (by omega)
  refine lv_iconst (v := -1) hx hb dX9_watch_4 (by decide) ?_
  refine lv_istore_n (lv' := [(1, .int (-1)), (0, .ref (ad 0))]) hx hb dX9_watch_5 rfl hl (by decide) rfl (fun ls hl => ?_)
  refine lv_iconst (v := 0) hx hb dX9_watch_6 (by decide) ?_
  refine lv_istore_n (lv' := [(2, .int 0), (1, .int (-1)), (0, .ref (ad 0))]) hx hb dX9_watch_7 rfl hl (by decide) rfl (fun ls hl => ?_)
  obtain ⟨v1_8x, hX8⟩ : ∃ (v1_8x : Int32), v1_8x = mF_watch_L8 M M1 (2 ^ vn (M 1 8)) := ⟨_, rfl⟩
  rw [lt_e hX8] at hF
  have hrest8 : ∀ (H : Heap) (locs : List Loc) (ls : Array Slot), lv_has ls 5 [(0, .ref (ad 0)), (1, .int v1_8x), (2, .int (nI (2 ^ vn (M 1 8))))] → mG D cI ad zA H0 H locs M1 → W zp zl ze ({ frames := 54, cells := 0, slots := 0, locals := 1209 } : Room) zs zm zg zb zt zc H locs 0 0 zQ (F0 zm 104 ls []) := by
    intro H locs ls hl G
    refine lv_iload_n hx hb dX9_watch_104 rfl (lv_at hl 1 rfl) ?_
    refine lv_if_ge (tgt := 117) hx hb dX9_watch_105 (by decide) (fun c105 => ?_) (fun c105 => ?_)
    · rw [if_pos c105] at hF
      refine lv_iload_n hx hb dX9_watch_117 rfl (lv_at hl 1 rfl) ?_
      exact hret _ _ _ _ _ _ hF G dX9_watch_118
    · rw [if_neg c105] at hF
      refine lv_aload_n hx hb dX9_watch_108 rfl (lv_at hl 0 rfl) ?_
      refine lv_ldc (v := -1000000002) hx hb C.2.2.2.1 (C.2.2.2.2.1 (.constant RX9 204 (-1000000002)) (by decide +kernel)) dX9_watch_109 ?_
      obtain ⟨x111, M111, hx111⟩ : ∃ (X : Int32) (Y : mS), (X, Y) = mF_errs M1 (-1000000002) := ⟨_, _, rfl⟩
      refine mr_calli (r0 := x111) (M2 := M111) C hA G (by rw [hx111]; exact (k_errs zl D cI ad M1 (-1000000002) (by unfold vp_in; decide))) (cwV 1 C.2.2.2.2.1 gX9_watch_X9_errs rfl rfl rfl (by decide +kernel) ⟨Nat.le_of_ble_eq_true rfl, Nat.le_of_ble_eq_true rfl⟩) rfl hl.1 rfl (Nat.le_of_ble_eq_true rfl) dX9_watch_111 ⟨Nat.le_refl _, Nat.le_refl _⟩ (fun H locs G => ?_)
      rw [lt2_e hx111] at hF
      refine lv_goto (tgt := 118) hx hb dX9_watch_114 (by decide) ?_
      exact hret _ _ _ _ _ _ hF G dX9_watch_118
  have hloop8 : ∀ (j k8 : Nat), j + k8 = 2 ^ vn (M 1 8) → ∀ (v1_8 : Int32), v1_8 = mF_watch_L8 M M1 k8 → ∀ (H : Heap) (locs : List Loc) (ls : Array Slot), lv_has ls 5 [(0, .ref (ad 0)), (1, .int v1_8), (2, .int (nI k8))] → mG D cI ad zA H0 H locs M1 → W zp zl ze ({ frames := 54, cells := 0, slots := 0, locals := 1209 } : Room) zs zm zg zb zt zc H locs 0 0 zQ (F0 zm 8 ls []) := by
    intro j
    induction j with
    | zero =>
      intro k8 hk v1_8 hL H locs ls hl G
      have hk : k8 = 2 ^ vn (M 1 8) := by omega
      rw [hk] at hL hl
      refine lv_iload_n hx hb dX9_watch_8 rfl (lv_at hl 2 rfl) ?_
      refine lv_iconst (v := 1) hx hb dX9_watch_9 (by decide) ?_
      refine lv_aload_n hx hb dX9_watch_10 rfl (lv_at hl 0 rfl) ?_
      refine mr_get C G hin 0 (by decide) rfl (show Cond.fieldLink RX9 7 "WheatCountsModel" "row" "[I" ∈ _ by decide +kernel) (fun _ => rfl) dX9_watch_11 ?_
      refine lv_bipush (v := 8) hx hb dX9_watch_14 (by decide) ?_
      refine mr_ald C G 1 (fun _ => rfl) 8 rfl (by omega) (Nat.le_of_ble_eq_true rfl) dX9_watch_16 ?_
      refine lv_ishl hx hb dX9_watch_17 ?_
      refine lv_icmp_ge (tgt := 104) hx hb dX9_watch_18 (by decide) (fun c18 => ?_) (fun c18 => absurd (lp_out (n := 2 ^ vn (M 1 8)) hb8.1) c18)
      obtain rfl := hL.trans hX8.symm
      exact hrest8 _ _ _ (lv_sub hl [0, 1, 2] rfl) G
    | succ j ih =>
      intro k8 hk v1_8 hL H locs ls hl G
      have hkn : k8 < 2 ^ vn (M 1 8) := by omega
      obtain ⟨v1_8s, hS0⟩ : ∃ (v1_8s : Int32), v1_8s = mF_watch_L8 M M1 (k8 + 1) := ⟨_, rfl⟩
      have hS := hS0
      rw [mF_watch_L8_s, lt_e hL] at hS
      refine lv_iload_n hx hb dX9_watch_8 rfl (lv_at hl 2 rfl) ?_
      refine lv_iconst (v := 1) hx hb dX9_watch_9 (by decide) ?_
      refine lv_aload_n hx hb dX9_watch_10 rfl (lv_at hl 0 rfl) ?_
      refine mr_get C G hin 0 (by decide) rfl (show Cond.fieldLink RX9 7 "WheatCountsModel" "row" "[I" ∈ _ by decide +kernel) (fun _ => rfl) dX9_watch_11 ?_
      refine lv_bipush (v := 8) hx hb dX9_watch_14 (by decide) ?_
      refine mr_ald C G 1 (fun _ => rfl) 8 rfl (by omega) (Nat.le_of_ble_eq_true rfl) dX9_watch_16 ?_
      refine lv_ishl hx hb dX9_watch_17 ?_
      refine lv_icmp_ge (tgt := 104) hx hb dX9_watch_18 (by decide) (fun c18 => absurd c18 (lp_in (n := 2 ^ vn (M 1 8)) hb8.1 hkn hb8.2)) (fun c18 => ?_)
      refine lv_iconst (v := 0) hx hb dX9_watch_21 (by decide) ?_
      refine lv_istore_n (lv' := [(3, .int 0), (0, .ref (ad 0)), (1, .int v1_8), (2, .int (nI k8))]) hx hb dX9_watch_22 rfl hl (by decide) rfl (fun ls hl => ?_)
      refine lv_iconst (v := 0) hx hb dX9_watch_23 (by decide) ?_
      refine lv_istore (lv' := [(4, .int 0), (3, .int 0), (0, .ref (ad 0)), (1, .int v1_8), (2, .int (nI k8))]) hx hb dX9_watch_24 hl (by decide) rfl (fun ls hl => ?_)
      obtain ⟨v3_26x, hX26⟩ : ∃ (v3_26x : Int32), v3_26x = mF_watch_L26 M1 k8 (vn (M 1 8)) := ⟨_, rfl⟩
      rw [lt_e hX26] at hS
      have hrest26 : ∀ (H : Heap) (locs : List Loc) (ls : Array Slot), lv_has ls 5 [(0, .ref (ad 0)), (1, .int v1_8), (2, .int (nI k8)), (3, .int v3_26x), (4, .int (nI (vn (M 1 8))))] → mG D cI ad zA H0 H locs M1 → W zp zl ze ({ frames := 54, cells := 0, slots := 0, locals := 1209 } : Room) zs zm zg zb zt zc H locs 0 0 zQ (F0 zm 67 ls []) := by
        intro H locs ls hl G
        refine lv_iload_n hx hb dX9_watch_67 rfl (lv_at hl 3 rfl) ?_
        refine lv_iconst (v := 1) hx hb dX9_watch_68 (by decide) ?_
        refine lv_aload_n hx hb dX9_watch_69 rfl (lv_at hl 0 rfl) ?_
        refine mr_get C G hin 0 (by decide) rfl (show Cond.fieldLink RX9 7 "WheatCountsModel" "row" "[I" ∈ _ by decide +kernel) (fun _ => rfl) dX9_watch_70 ?_
        refine lv_iconst (v := 3) hx hb dX9_watch_73 (by decide) ?_
        refine mr_ald C G 1 (fun _ => rfl) 3 rfl (by omega) (Nat.le_of_ble_eq_true rfl) dX9_watch_74 ?_
        refine lv_ishl hx hb dX9_watch_75 ?_
        refine lv_iconst (v := 1) hx hb dX9_watch_76 (by decide) ?_
        refine lv_isub hx hb dX9_watch_77 ?_
        obtain ⟨z1_98, hX98⟩ : ∃ (z1_98 : Int32), z1_98 = ((if v3_26x = ((1 <<< ((M1 1 3) &&& 31)) - 1) then (if v1_8 < 0 then nI k8 else (if (sF_bits v1_8) ≤ (sF_bits (nI k8)) then v1_8 else nI k8)) else v1_8) : Int32) := ⟨_, rfl⟩
        rw [lt_e hX98] at hS
        have hj98 : ∀ (H : Heap) (locs : List Loc) (ls : Array Slot), lv_has ls 5 [(0, .ref (ad 0)), (1, .int z1_98), (2, .int (nI k8)), (3, .int v3_26x), (4, .int (nI (vn (M 1 8))))] → mG D cI ad zA H0 H locs M1 → W zp zl ze ({ frames := 54, cells := 0, slots := 0, locals := 1209 } : Room) zs zm zg zb zt zc H locs 0 0 zQ (F0 zm 98 ls []) := by
          intro H locs ls hl G
          refine lv_iinc (v := nI (k8 + 1)) (lv' := [(2, .int (nI (k8 + 1))), (0, .ref (ad 0)), (1, .int z1_98), (3, .int v3_26x), (4, .int (nI (vn (M 1 8))))]) hx hb dX9_watch_98 hl (k := 2) rfl (nt_add rfl (show (1 : Int32) = nI 1 from rfl)) (by decide) rfl (fun ls hl => ?_)
          refine lv_goto (tgt := 8) hx hb dX9_watch_101 (by decide) ?_
          subst hS
          exact ih (k8 + 1) (by omega) _ hS0 _ _ _ (lv_sub hl [1, 2, 0] rfl) G
        refine lv_icmp_ne (tgt := 98) hx hb dX9_watch_78 (by decide) (fun c78 => ?_) (fun c78 => ?_)
        · rw [if_neg c78] at hX98
          subst hX98
          exact hj98 _ _ _ (lv_sub hl [0, 1, 2, 3, 4] rfl) G
        · rw [if_pos c78] at hX98
          refine lv_iload_n hx hb dX9_watch_81 rfl (lv_at hl 1 rfl) ?_
          refine lv_if_lt (tgt := 96) hx hb dX9_watch_82 (by decide) (fun c82 => ?_) (fun c82 => ?_)
          · rw [if_pos c82] at hX98
            refine lv_iload_n hx hb dX9_watch_96 rfl (lv_at hl 2 rfl) ?_
            refine lv_istore_n (lv' := [(1, .int (nI k8)), (0, .ref (ad 0)), (2, .int (nI k8)), (3, .int v3_26x), (4, .int (nI (vn (M 1 8))))]) hx hb dX9_watch_97 rfl hl (by decide) rfl (fun ls hl => ?_)
            subst hX98
            exact hj98 _ _ _ (lv_sub hl [1, 0, 2, 3, 4] rfl) G
          · rw [if_neg c82] at hX98
            refine lv_iload_n hx hb dX9_watch_85 rfl (lv_at hl 2 rfl) ?_
            refine mr_calls C hA G (ks_bits zl (nI k8)) (va_cwS 1 C.2.2.2.2.1 gX9_watch_X9_bits rfl rfl rfl (by decide +kernel) ⟨Nat.le_of_ble_eq_true rfl, Nat.le_of_ble_eq_true rfl⟩) rfl hl.1 rfl (Nat.le_of_ble_eq_true rfl) dX9_watch_86 ⟨Nat.le_refl _, Nat.le_refl _⟩ (fun H locs G => ?_)
            refine lv_iload_n hx hb dX9_watch_89 rfl (lv_at hl 1 rfl) ?_
            refine mr_calls C hA G (ks_bits zl v1_8) (va_cwS 1 C.2.2.2.2.1 gX9_watch_X9_bits rfl rfl rfl (by decide +kernel) ⟨Nat.le_of_ble_eq_true rfl, Nat.le_of_ble_eq_true rfl⟩) rfl hl.1 rfl (Nat.le_of_ble_eq_true rfl) dX9_watch_90 ⟨Nat.le_refl _, Nat.le_refl _⟩ (fun H locs G => ?_)
            refine lv_icmp_ge (tgt := 98) hx hb dX9_watch_93 (by decide) (fun c93 => ?_) (fun c93 => ?_)
            · rw [if_pos c93] at hX98
              subst hX98
              exact hj98 _ _ _ (lv_sub hl [0, 1, 2, 3, 4] rfl) G
            · rw [if_neg c93] at hX98
              refine lv_iload_n hx hb dX9_watch_96 rfl (lv_at hl 2 rfl) ?_
              refine lv_istore_n (lv' := [(1, .int (nI k8)), (0, .ref (ad 0)), (2, .int (nI k8)), (3, .int v3_26x), (4, .int (nI (vn (M 1 8))))]) hx hb dX9_watch_97 rfl hl (by decide) rfl (fun ls hl => ?_)
              subst hX98
              exact hj98 _ _ _ (lv_sub hl [1, 0, 2, 3, 4] rfl) G
      have hloop26 : ∀ (j k26 : Nat), j + k26 = vn (M 1 8) → ∀ (v3_26 : Int32), v3_26 = mF_watch_L26 M1 k8 k26 → ∀ (H : Heap) (locs : List Loc) (ls : Array Slot), lv_has ls 5 [(0, .ref (ad 0)), (1, .int v1_8), (2, .int (nI k8)), (3, .int v3_26), (4, .int (nI k26))] → mG D cI ad zA H0 H locs M1 → W zp zl ze ({ frames := 54, cells := 0, slots := 0, locals := 1209 } : Room) zs zm zg zb zt zc H locs 0 0 zQ (F0 zm 26 ls []) := by
        intro j
        induction j with
        | zero =>
          intro k26 hk v3_26 hL H locs ls hl G
          have hk : k26 = vn (M 1 8) := by omega
          rw [hk] at hL hl
          refine lv_iload hx hb dX9_watch_26 (lv_at hl 4 rfl) ?_
          refine lv_aload_n hx hb dX9_watch_28 rfl (lv_at hl 0 rfl) ?_
          refine mr_get C G hin 0 (by decide) rfl (show Cond.fieldLink RX9 7 "WheatCountsModel" "row" "[I" ∈ _ by decide +kernel) (fun _ => rfl) dX9_watch_29 ?_
          refine lv_bipush (v := 8) hx hb dX9_watch_32 (by decide) ?_
          refine mr_ald C G 1 (fun _ => rfl) 8 rfl (by omega) (Nat.le_of_ble_eq_true rfl) dX9_watch_34 ?_
          refine lv_icmp_ge (tgt := 67) hx hb dX9_watch_35 (by decide) (fun c35 => ?_) (fun c35 => absurd (lp_out (n := vn (M 1 8)) hP1) c35)
          obtain rfl := hL.trans hX26.symm
          exact hrest26 _ _ _ (lv_sub hl [0, 1, 2, 3, 4] rfl) G
        | succ j ih =>
          intro k26 hk v3_26 hL H locs ls hl G
          have hkn : k26 < vn (M 1 8) := by omega
          obtain ⟨v3_26s, hS0⟩ : ∃ (v3_26s : Int32), v3_26s = mF_watch_L26 M1 k8 (k26 + 1) := ⟨_, rfl⟩
          have hS := hS0
          rw [mF_watch_L26_s, lt_e hL] at hS
          refine lv_iload hx hb dX9_watch_26 (lv_at hl 4 rfl) ?_
          refine lv_aload_n hx hb dX9_watch_28 rfl (lv_at hl 0 rfl) ?_
          refine mr_get C G hin 0 (by decide) rfl (show Cond.fieldLink RX9 7 "WheatCountsModel" "row" "[I" ∈ _ by decide +kernel) (fun _ => rfl) dX9_watch_29 ?_
          refine lv_bipush (v := 8) hx hb dX9_watch_32 (by decide) ?_
          refine mr_ald C G 1 (fun _ => rfl) 8 rfl (by omega) (Nat.le_of_ble_eq_true rfl) dX9_watch_34 ?_
          refine lv_icmp_ge (tgt := 67) hx hb dX9_watch_35 (by decide) (fun c35 => absurd c35 (lp_in (n := vn (M 1 8)) hP1 hkn (by omega))) (fun c35 => ?_)
          refine lv_iload_n hx hb dX9_watch_38 rfl (lv_at hl 3 rfl) ?_
          refine lv_iload_n hx hb dX9_watch_39 rfl (lv_at hl 2 rfl) ?_
          refine lv_iload hx hb dX9_watch_40 (lv_at hl 4 rfl) ?_
          refine mr_calls C hA G (ks_has zl (nI k8) (nI k26)) (va_cwS 2 C.2.2.2.2.1 gX9_watch_X9_has rfl rfl rfl (by decide +kernel) ⟨Nat.le_of_ble_eq_true rfl, Nat.le_of_ble_eq_true rfl⟩) rfl hl.1 rfl (Nat.le_of_ble_eq_true rfl) dX9_watch_42 ⟨Nat.le_refl _, Nat.le_refl _⟩ (fun H locs G => ?_)
          obtain ⟨y59, hX59⟩ : ∃ (y59 : Int32), y59 = ((if (sF_has (nI k8) (nI k26)) = 0 then 0 else (M1 12 k26)) : Int32) := ⟨_, rfl⟩
          rw [lt_e hX59] at hS
          have hj59 : ∀ (H : Heap) (locs : List Loc) (ls : Array Slot), lv_has ls 5 [(0, .ref (ad 0)), (1, .int v1_8), (2, .int (nI k8)), (3, .int v3_26), (4, .int (nI k26))] → mG D cI ad zA H0 H locs M1 → W zp zl ze ({ frames := 54, cells := 0, slots := 0, locals := 1209 } : Room) zs zm zg zb zt zc H locs 0 0 zQ (F0 zm 59 ls [.int y59, .int v3_26]) := by
            intro H locs ls hl G
            refine lv_ior hx hb dX9_watch_59 ?_
            refine lv_topi (fun x60 hx60 => ?_)
            rw [lt_e hx60] at hS
            refine lv_istore_n (lv' := [(3, .int x60), (0, .ref (ad 0)), (1, .int v1_8), (2, .int (nI k8)), (4, .int (nI k26))]) hx hb dX9_watch_60 rfl hl (by decide) rfl (fun ls hl => ?_)
            refine lv_iinc (v := nI (k26 + 1)) (lv' := [(4, .int (nI (k26 + 1))), (3, .int x60), (0, .ref (ad 0)), (1, .int v1_8), (2, .int (nI k8))]) hx hb dX9_watch_61 hl (k := 4) rfl (nt_add rfl (show (1 : Int32) = nI 1 from rfl)) (by decide) rfl (fun ls hl => ?_)
            refine lv_goto (tgt := 26) hx hb dX9_watch_64 (by decide) ?_
            subst hS
            exact ih (k26 + 1) (by omega) _ hS0 _ _ _ (lv_sub hl [2, 3, 4, 1, 0] rfl) G
          refine lv_if_eq (tgt := 58) hx hb dX9_watch_45 (by decide) (fun c45 => ?_) (fun c45 => ?_)
          · rw [if_pos c45] at hX59
            refine lv_iconst (v := 0) hx hb dX9_watch_58 (by decide) ?_
            subst hX59
            exact hj59 _ _ _ (lv_sub hl [0, 1, 2, 3, 4] rfl) G
          · rw [if_neg c45] at hX59
            refine lv_aload_n hx hb dX9_watch_48 rfl (lv_at hl 0 rfl) ?_
            refine mr_get C G hin 22 (by decide) rfl (show Cond.fieldLink RX9 47 "WheatCountsModel" "seen" "[I" ∈ _ by decide +kernel) (fun _ => rfl) dX9_watch_49 ?_
            refine lv_iload hx hb dX9_watch_52 (lv_at hl 4 rfl) ?_
            refine mr_ald C G 12 (fun _ => rfl) k26 rfl (by omega) (Nat.le_of_ble_eq_true rfl) dX9_watch_54 ?_
            refine lv_goto (tgt := 59) hx hb dX9_watch_55 (by decide) ?_
            subst hX59
            exact hj59 _ _ _ (lv_sub hl [0, 1, 2, 3, 4] rfl) G
      exact hloop26 _ 0 (Nat.add_zero _) _ rfl _ _ _ (lv_sub hl [2, 3, 4, 1, 0] rfl) G
  exact hloop8 _ 0 (Nat.add_zero _) _ rfl _ _ _ (lv_sub hl [2, 1, 0] rfl) G
set_option maxRecDepth 100000 in
set_option maxHeartbeats 4000000 in
theorem k_hide (zl : Launch) (D : va_G) (cI : ClassId) (ad : Nat → Nat) (M : mS) (c : Int32) (hR : rOK M) : mM zl D cI ad yX9_hide wsX9_hide ({ frames := 54, cells := 0, slots := 0, locals := 1211 } : Room) [.int c] M (mF_hide M c) := by
  have hin : ∀ w ∈ wsX90, w ∈ wsX9_hide := fun w h => List.mem_cons_of_mem _ (List.mem_append_right _ h)
  refine mM_of (cc := cX9_hide) (nL := 5) (by decide) rfl rfl (Nat.le_of_ble_eq_true rfl) ?_
  intro zp ze zs zm zg zb zt zc zA H0 zQ C hA hret H locs ls hl G
  have hx := C.1
  have hb := C.2.1
  have hl : lv_has ls 5 [(0, .ref (ad 0)), (1, .int c)] := hl
  obtain ⟨rM, hF⟩ : ∃ X : Int32 × mS, X = mF_hide M c := ⟨_, rfl⟩
  rw [← hF] at hret
  unfold mF_hide at hF
  have hC := hR.1
  have hP := hR.2.1
  have hK := hR.2.2.1
  have hA9 := hR.2.2.2.1
  have hS := hR.2.2.2.2
  have hC2 := hC.2.1
  have hC3 := hC.2.2
  have hP2 := hP.2
  refine lv_aload_n hx hb dX9_hide_0 rfl (lv_at hl 0 rfl) ?_
  refine lv_iload_n hx hb dX9_hide_1 rfl (lv_at hl 1 rfl) ?_
  refine mr_calli C hA G (k_isCell zl D cI ad M c) (cwV 1 C.2.2.2.2.1 gX9_hide_X9_isCell rfl rfl rfl (by decide +kernel) ⟨Nat.le_of_ble_eq_true rfl, Nat.le_of_ble_eq_true rfl⟩) rfl hl.1 rfl (Nat.le_of_ble_eq_true rfl) dX9_hide_2 ⟨Nat.le_refl _, Nat.le_refl _⟩ (fun H locs G => ?_)
  refine lv_if_ne (tgt := 15) hx hb dX9_hide_5 (by decide) (fun c5 => ?_) (fun c5 => ?_)
  · rw [if_neg c5] at hF
    refine lv_aload_n hx hb dX9_hide_15 rfl (lv_at hl 0 rfl) ?_
    refine mr_get C G hin 0 (by decide) rfl (show Cond.fieldLink RX9 7 "WheatCountsModel" "row" "[I" ∈ _ by decide +kernel) (fun _ => rfl) dX9_hide_16 ?_
    refine lv_bipush (v := 9) hx hb dX9_hide_19 (by decide) ?_
    refine mr_ald C G 1 (fun _ => rfl) 9 rfl (by omega) (Nat.le_of_ble_eq_true rfl) dX9_hide_21 ?_
    refine lv_topi (fun x22 hx22 => ?_)
    rw [lt_e hx22] at hF
    refine lv_istore_n (lv' := [(2, .int x22), (0, .ref (ad 0)), (1, .int c)]) hx hb dX9_hide_22 rfl hl (by decide) rfl (fun ls hl => ?_)
    refine lv_iconst (v := -1) hx hb dX9_hide_23 (by decide) ?_
    refine lv_istore_n (lv' := [(3, .int (-1)), (2, .int x22), (0, .ref (ad 0)), (1, .int c)]) hx hb dX9_hide_24 rfl hl (by decide) rfl (fun ls hl => ?_)
    refine lv_iconst (v := 0) hx hb dX9_hide_25 (by decide) ?_
    refine lv_istore (lv' := [(4, .int 0), (3, .int (-1)), (2, .int x22), (0, .ref (ad 0)), (1, .int c)]) hx hb dX9_hide_26 hl (by decide) rfl (fun ls hl => ?_)
    obtain ⟨v3_28x, M28x, hX28⟩ : ∃ (v3_28x : Int32) (M28x : mS), (v3_28x, M28x) = mF_hide_L28 M c x22 (2 ^ (vn (M 1 3) - 1)) := ⟨_, _, rfl⟩
    rw [lt2_e hX28] at hF
    have hrest28 : ∀ (H : Heap) (locs : List Loc) (ls : Array Slot), lv_has ls 5 [(0, .ref (ad 0)), (1, .int c), (2, .int x22), (3, .int v3_28x), (4, .int (nI (2 ^ (vn (M 1 3) - 1))))] → mG D cI ad zA H0 H locs M28x → W zp zl ze ({ frames := 54, cells := 0, slots := 0, locals := 1211 } : Room) zs zm zg zb zt zc H locs 0 0 zQ (F0 zm 98 ls []) := by
      intro H locs ls hl G
      refine lv_aload_n hx hb dX9_hide_98 rfl (lv_at hl 0 rfl) ?_
      refine mr_get C G hin 0 (by decide) rfl (show Cond.fieldLink RX9 7 "WheatCountsModel" "row" "[I" ∈ _ by decide +kernel) (fun _ => rfl) dX9_hide_99 ?_
      refine lv_bipush (v := 9) hx hb dX9_hide_102 (by decide) ?_
      refine lv_iload_n hx hb dX9_hide_104 rfl (lv_at hl 2 rfl) ?_
      refine mr_ast C G 1 (fun _ => rfl) 9 rfl (by omega) (Nat.le_of_ble_eq_true rfl) (fun _ => rfl) dX9_hide_105 (fun H locs G => ?_)
      obtain ⟨M105, hM105⟩ : ∃ X : mS, X = mU M28x 1 9 x22 := ⟨_, rfl⟩
      rw [← hM105] at G
      rw [lt_e hM105] at hF
      refine lv_iload_n hx hb dX9_hide_106 rfl (lv_at hl 3 rfl) ?_
      refine lv_if_ge (tgt := 119) hx hb dX9_hide_107 (by decide) (fun c107 => ?_) (fun c107 => ?_)
      · rw [if_pos c107] at hF
        refine lv_iload_n hx hb dX9_hide_119 rfl (lv_at hl 3 rfl) ?_
        exact hret _ _ _ _ _ _ hF G dX9_hide_120
      · rw [if_neg c107] at hF
        refine lv_aload_n hx hb dX9_hide_110 rfl (lv_at hl 0 rfl) ?_
        refine lv_ldc (v := -1000000002) hx hb C.2.2.2.1 (C.2.2.2.2.1 (.constant RX9 204 (-1000000002)) (by decide +kernel)) dX9_hide_111 ?_
        obtain ⟨x113, M113, hx113⟩ : ∃ (X : Int32) (Y : mS), (X, Y) = mF_errs M105 (-1000000002) := ⟨_, _, rfl⟩
        refine mr_calli (r0 := x113) (M2 := M113) C hA G (by rw [hx113]; exact (k_errs zl D cI ad M105 (-1000000002) (by unfold vp_in; decide))) (cwV 1 C.2.2.2.2.1 gX9_hide_X9_errs rfl rfl rfl (by decide +kernel) ⟨Nat.le_of_ble_eq_true rfl, Nat.le_of_ble_eq_true rfl⟩) rfl hl.1 rfl (Nat.le_of_ble_eq_true rfl) dX9_hide_113 ⟨Nat.le_refl _, Nat.le_refl _⟩ (fun H locs G => ?_)
        rw [lt2_e hx113] at hF
        refine lv_goto (tgt := 120) hx hb dX9_hide_116 (by decide) ?_
        exact hret _ _ _ _ _ _ hF G dX9_hide_120
    have hloop28 : ∀ (j k28 : Nat), j + k28 = 2 ^ (vn (M 1 3) - 1) → ∀ (v3_28 : Int32) (M28 : mS), (v3_28, M28) = mF_hide_L28 M c x22 k28 → ∀ (H : Heap) (locs : List Loc) (ls : Array Slot), lv_has ls 5 [(0, .ref (ad 0)), (1, .int c), (2, .int x22), (3, .int v3_28), (4, .int (nI k28))] → mG D cI ad zA H0 H locs M28 → W zp zl ze ({ frames := 54, cells := 0, slots := 0, locals := 1211 } : Room) zs zm zg zb zt zc H locs 0 0 zQ (F0 zm 28 ls []) := by
      intro j
      induction j with
      | zero =>
        intro k28 hk v3_28 M28 hL H locs ls hl G
        have hk : k28 = 2 ^ (vn (M 1 3) - 1) := by omega
        rw [hk] at hL hl
        have hM28 : M28 = (mF_hide_L28 M c x22 (2 ^ (vn (M 1 3) - 1))).2 := congrArg Prod.snd hL
        have hr28 : M28 1 3 = M 1 3 := by rw [hM28]; exact hd_k _ _ _ _ 3 (by decide)
        have hb28 : 1 <<< ((M28 1 3 - 1) &&& 31) = nI (2 ^ (vn (M 1 3) - 1)) ∧ 2 ^ (vn (M 1 3) - 1) < 2 ^ 31 := shl1 (by rw [hr28]; exact nt_sub hC.1 (show (1 : Int32) = nI 1 from rfl) (by omega)) (by omega)
        refine lv_iload hx hb dX9_hide_28 (lv_at hl 4 rfl) ?_
        refine lv_iconst (v := 1) hx hb dX9_hide_30 (by decide) ?_
        refine lv_aload_n hx hb dX9_hide_31 rfl (lv_at hl 0 rfl) ?_
        refine mr_get C G hin 0 (by decide) rfl (show Cond.fieldLink RX9 7 "WheatCountsModel" "row" "[I" ∈ _ by decide +kernel) (fun _ => rfl) dX9_hide_32 ?_
        refine lv_iconst (v := 3) hx hb dX9_hide_35 (by decide) ?_
        refine mr_ald C G 1 (fun _ => rfl) 3 rfl (by omega) (Nat.le_of_ble_eq_true rfl) dX9_hide_36 ?_
        refine lv_iconst (v := 1) hx hb dX9_hide_37 (by decide) ?_
        refine lv_isub hx hb dX9_hide_38 ?_
        refine lv_ishl hx hb dX9_hide_39 ?_
        refine lv_icmp_ge (tgt := 98) hx hb dX9_hide_40 (by decide) (fun c40 => ?_) (fun c40 => absurd (lp_out (n := 2 ^ (vn (M 1 3) - 1)) hb28.1) c40)
        cases hL.trans hX28.symm
        exact hrest28 _ _ _ (lv_sub hl [0, 1, 2, 3, 4] rfl) G
      | succ j ih =>
        intro k28 hk v3_28 M28 hL H locs ls hl G
        have hkn : k28 < 2 ^ (vn (M 1 3) - 1) := by omega
        obtain ⟨v3_28s, M28s, hS0⟩ : ∃ (v3_28s : Int32) (M28s : mS), (v3_28s, M28s) = mF_hide_L28 M c x22 (k28 + 1) := ⟨_, _, rfl⟩
        have hS := hS0
        rw [mF_hide_L28_s, lt2_e hL] at hS
        have hM28 : M28 = (mF_hide_L28 M c x22 k28).2 := congrArg Prod.snd hL
        have hr28 : M28 1 3 = M 1 3 := by rw [hM28]; exact hd_k _ _ _ _ 3 (by decide)
        have hb28 : 1 <<< ((M28 1 3 - 1) &&& 31) = nI (2 ^ (vn (M 1 3) - 1)) ∧ 2 ^ (vn (M 1 3) - 1) < 2 ^ 31 := shl1 (by rw [hr28]; exact nt_sub hC.1 (show (1 : Int32) = nI 1 from rfl) (by omega)) (by omega)
        have hR28 : rOK M28 := by rw [hM28]; exact hd_R hR _ _ _
        refine lv_iload hx hb dX9_hide_28 (lv_at hl 4 rfl) ?_
        refine lv_iconst (v := 1) hx hb dX9_hide_30 (by decide) ?_
        refine lv_aload_n hx hb dX9_hide_31 rfl (lv_at hl 0 rfl) ?_
        refine mr_get C G hin 0 (by decide) rfl (show Cond.fieldLink RX9 7 "WheatCountsModel" "row" "[I" ∈ _ by decide +kernel) (fun _ => rfl) dX9_hide_32 ?_
        refine lv_iconst (v := 3) hx hb dX9_hide_35 (by decide) ?_
        refine mr_ald C G 1 (fun _ => rfl) 3 rfl (by omega) (Nat.le_of_ble_eq_true rfl) dX9_hide_36 ?_
        refine lv_iconst (v := 1) hx hb dX9_hide_37 (by decide) ?_
        refine lv_isub hx hb dX9_hide_38 ?_
        refine lv_ishl hx hb dX9_hide_39 ?_
        refine lv_icmp_ge (tgt := 98) hx hb dX9_hide_40 (by decide) (fun c40 => absurd c40 (lp_in (n := 2 ^ (vn (M 1 3) - 1)) hb28.1 hkn hb28.2)) (fun c40 => ?_)
        refine lv_iload hx hb dX9_hide_43 (lv_at hl 4 rfl) ?_
        refine lv_iload_n hx hb dX9_hide_45 rfl (lv_at hl 2 rfl) ?_
        refine lv_iand hx hb dX9_hide_46 ?_
        obtain ⟨z3_92, M92, hX92⟩ : ∃ (z3_92 : Int32) (M92 : mS), (z3_92, M92) = ((if ((nI k28) &&& x22) = 0 then (if v3_28 < 0 then (lt (mU M28 1 9 (x22 ||| (nI k28))) fun (M76 : mS) => (lt ((if (mF_whoSees M76 c) = 0 then nI k28 else v3_28) : Int32) fun (y91 : Int32) => (y91, M76))) else (if (sF_bits v3_28) ≤ (sF_bits (nI k28)) then (v3_28, M28) else (lt (mU M28 1 9 (x22 ||| (nI k28))) fun (M76 : mS) => (lt ((if (mF_whoSees M76 c) = 0 then nI k28 else v3_28) : Int32) fun (y91 : Int32) => (y91, M76))))) else (v3_28, M28)) : Int32 × mS) := ⟨_, _, rfl⟩
        rw [lt2_e hX92] at hS
        have hj92 : ∀ (H : Heap) (locs : List Loc) (ls : Array Slot), lv_has ls 5 [(0, .ref (ad 0)), (1, .int c), (2, .int x22), (3, .int z3_92), (4, .int (nI k28))] → mG D cI ad zA H0 H locs M92 → W zp zl ze ({ frames := 54, cells := 0, slots := 0, locals := 1211 } : Room) zs zm zg zb zt zc H locs 0 0 zQ (F0 zm 92 ls []) := by
          intro H locs ls hl G
          refine lv_iinc (v := nI (k28 + 1)) (lv' := [(4, .int (nI (k28 + 1))), (0, .ref (ad 0)), (1, .int c), (2, .int x22), (3, .int z3_92)]) hx hb dX9_hide_92 hl (k := 4) rfl (nt_add rfl (show (1 : Int32) = nI 1 from rfl)) (by decide) rfl (fun ls hl => ?_)
          refine lv_goto (tgt := 28) hx hb dX9_hide_95 (by decide) ?_
          cases hS
          exact ih (k28 + 1) (by omega) _ _ hS0 _ _ _ (lv_sub hl [1, 2, 3, 4, 0] rfl) G
        refine lv_if_ne (tgt := 92) hx hb dX9_hide_47 (by decide) (fun c47 => ?_) (fun c47 => ?_)
        · rw [if_neg c47] at hX92
          cases hX92
          exact hj92 _ _ _ (lv_sub hl [0, 1, 2, 3, 4] rfl) G
        · rw [if_pos c47] at hX92
          refine lv_iload_n hx hb dX9_hide_50 rfl (lv_at hl 3 rfl) ?_
          refine lv_if_lt (tgt := 66) hx hb dX9_hide_51 (by decide) (fun c51 => ?_) (fun c51 => ?_)
          · rw [if_pos c51] at hX92
            refine lv_aload_n hx hb dX9_hide_66 rfl (lv_at hl 0 rfl) ?_
            refine mr_get C G hin 0 (by decide) rfl (show Cond.fieldLink RX9 7 "WheatCountsModel" "row" "[I" ∈ _ by decide +kernel) (fun _ => rfl) dX9_hide_67 ?_
            refine lv_bipush (v := 9) hx hb dX9_hide_70 (by decide) ?_
            refine lv_iload_n hx hb dX9_hide_72 rfl (lv_at hl 2 rfl) ?_
            refine lv_iload hx hb dX9_hide_73 (lv_at hl 4 rfl) ?_
            refine lv_ior hx hb dX9_hide_75 ?_
            refine mr_ast C G 1 (fun _ => rfl) 9 rfl (by omega) (Nat.le_of_ble_eq_true rfl) (fun _ => rfl) dX9_hide_76 (fun H locs G => ?_)
            obtain ⟨M76, hM76⟩ : ∃ X : mS, X = mU M28 1 9 (x22 ||| (nI k28)) := ⟨_, rfl⟩
            rw [← hM76] at G
            rw [lt_e hM76] at hX92
            have hR76 : rOK M76 := by rw [hM76]; exact rOK_up hR28 (by decide) (by decide) (by decide) (by decide) (fun _ _ => by omega) (fun _ _ => by omega)
            refine lv_aload_n hx hb dX9_hide_77 rfl (lv_at hl 0 rfl) ?_
            refine lv_iload_n hx hb dX9_hide_78 rfl (lv_at hl 1 rfl) ?_
            refine mr_calli C hA G (k_whoSees zl D cI ad M76 c hR76) (cwV 1 C.2.2.2.2.1 gX9_hide_X9_whoSees rfl rfl rfl (by decide +kernel) ⟨Nat.le_of_ble_eq_true rfl, Nat.le_of_ble_eq_true rfl⟩) rfl hl.1 rfl (Nat.le_of_ble_eq_true rfl) dX9_hide_79 ⟨Nat.le_refl _, Nat.le_refl _⟩ (fun H locs G => ?_)
            obtain ⟨y91, hX91⟩ : ∃ (y91 : Int32), y91 = ((if (mF_whoSees M76 c) = 0 then nI k28 else v3_28) : Int32) := ⟨_, rfl⟩
            rw [lt_e hX91] at hX92
            have hj91 : ∀ (H : Heap) (locs : List Loc) (ls : Array Slot), lv_has ls 5 [(0, .ref (ad 0)), (1, .int c), (2, .int x22), (3, .int v3_28), (4, .int (nI k28))] → mG D cI ad zA H0 H locs M76 → W zp zl ze ({ frames := 54, cells := 0, slots := 0, locals := 1211 } : Room) zs zm zg zb zt zc H locs 0 0 zQ (F0 zm 91 ls [.int y91]) := by
              intro H locs ls hl G
              refine lv_istore_n (lv' := [(3, .int y91), (0, .ref (ad 0)), (1, .int c), (2, .int x22), (4, .int (nI k28))]) hx hb dX9_hide_91 rfl hl (by decide) rfl (fun ls hl => ?_)
              cases hX92
              exact hj92 _ _ _ (lv_sub hl [1, 2, 3, 0, 4] rfl) G
            refine lv_if_ne (tgt := 90) hx hb dX9_hide_82 (by decide) (fun c82 => ?_) (fun c82 => ?_)
            · rw [if_neg c82] at hX91
              refine lv_iload_n hx hb dX9_hide_90 rfl (lv_at hl 3 rfl) ?_
              subst hX91
              exact hj91 _ _ _ (lv_sub hl [0, 1, 2, 3, 4] rfl) G
            · rw [if_pos c82] at hX91
              refine lv_iload hx hb dX9_hide_85 (lv_at hl 4 rfl) ?_
              refine lv_goto (tgt := 91) hx hb dX9_hide_87 (by decide) ?_
              subst hX91
              exact hj91 _ _ _ (lv_sub hl [0, 1, 2, 3, 4] rfl) G
          · rw [if_neg c51] at hX92
            refine lv_iload hx hb dX9_hide_54 (lv_at hl 4 rfl) ?_
            refine mr_calls C hA G (ks_bits zl (nI k28)) (va_cwS 1 C.2.2.2.2.1 gX9_hide_X9_bits rfl rfl rfl (by decide +kernel) ⟨Nat.le_of_ble_eq_true rfl, Nat.le_of_ble_eq_true rfl⟩) rfl hl.1 rfl (Nat.le_of_ble_eq_true rfl) dX9_hide_56 ⟨Nat.le_refl _, Nat.le_refl _⟩ (fun H locs G => ?_)
            refine lv_iload_n hx hb dX9_hide_59 rfl (lv_at hl 3 rfl) ?_
            refine mr_calls C hA G (ks_bits zl v3_28) (va_cwS 1 C.2.2.2.2.1 gX9_hide_X9_bits rfl rfl rfl (by decide +kernel) ⟨Nat.le_of_ble_eq_true rfl, Nat.le_of_ble_eq_true rfl⟩) rfl hl.1 rfl (Nat.le_of_ble_eq_true rfl) dX9_hide_60 ⟨Nat.le_refl _, Nat.le_refl _⟩ (fun H locs G => ?_)
            refine lv_icmp_ge (tgt := 92) hx hb dX9_hide_63 (by decide) (fun c63 => ?_) (fun c63 => ?_)
            · rw [if_pos c63] at hX92
              cases hX92
              exact hj92 _ _ _ (lv_sub hl [0, 1, 2, 3, 4] rfl) G
            · rw [if_neg c63] at hX92
              refine lv_aload_n hx hb dX9_hide_66 rfl (lv_at hl 0 rfl) ?_
              refine mr_get C G hin 0 (by decide) rfl (show Cond.fieldLink RX9 7 "WheatCountsModel" "row" "[I" ∈ _ by decide +kernel) (fun _ => rfl) dX9_hide_67 ?_
              refine lv_bipush (v := 9) hx hb dX9_hide_70 (by decide) ?_
              refine lv_iload_n hx hb dX9_hide_72 rfl (lv_at hl 2 rfl) ?_
              refine lv_iload hx hb dX9_hide_73 (lv_at hl 4 rfl) ?_
              refine lv_ior hx hb dX9_hide_75 ?_
              refine mr_ast C G 1 (fun _ => rfl) 9 rfl (by omega) (Nat.le_of_ble_eq_true rfl) (fun _ => rfl) dX9_hide_76 (fun H locs G => ?_)
              obtain ⟨M76, hM76⟩ : ∃ X : mS, X = mU M28 1 9 (x22 ||| (nI k28)) := ⟨_, rfl⟩
              rw [← hM76] at G
              rw [lt_e hM76] at hX92
              have hR76 : rOK M76 := by rw [hM76]; exact rOK_up hR28 (by decide) (by decide) (by decide) (by decide) (fun _ _ => by omega) (fun _ _ => by omega)
              refine lv_aload_n hx hb dX9_hide_77 rfl (lv_at hl 0 rfl) ?_
              refine lv_iload_n hx hb dX9_hide_78 rfl (lv_at hl 1 rfl) ?_
              refine mr_calli C hA G (k_whoSees zl D cI ad M76 c hR76) (cwV 1 C.2.2.2.2.1 gX9_hide_X9_whoSees rfl rfl rfl (by decide +kernel) ⟨Nat.le_of_ble_eq_true rfl, Nat.le_of_ble_eq_true rfl⟩) rfl hl.1 rfl (Nat.le_of_ble_eq_true rfl) dX9_hide_79 ⟨Nat.le_refl _, Nat.le_refl _⟩ (fun H locs G => ?_)
              obtain ⟨y91, hX91⟩ : ∃ (y91 : Int32), y91 = ((if (mF_whoSees M76 c) = 0 then nI k28 else v3_28) : Int32) := ⟨_, rfl⟩
              rw [lt_e hX91] at hX92
              have hj91 : ∀ (H : Heap) (locs : List Loc) (ls : Array Slot), lv_has ls 5 [(0, .ref (ad 0)), (1, .int c), (2, .int x22), (3, .int v3_28), (4, .int (nI k28))] → mG D cI ad zA H0 H locs M76 → W zp zl ze ({ frames := 54, cells := 0, slots := 0, locals := 1211 } : Room) zs zm zg zb zt zc H locs 0 0 zQ (F0 zm 91 ls [.int y91]) := by
                intro H locs ls hl G
                refine lv_istore_n (lv' := [(3, .int y91), (0, .ref (ad 0)), (1, .int c), (2, .int x22), (4, .int (nI k28))]) hx hb dX9_hide_91 rfl hl (by decide) rfl (fun ls hl => ?_)
                cases hX92
                exact hj92 _ _ _ (lv_sub hl [1, 2, 3, 0, 4] rfl) G
              refine lv_if_ne (tgt := 90) hx hb dX9_hide_82 (by decide) (fun c82 => ?_) (fun c82 => ?_)
              · rw [if_neg c82] at hX91
                refine lv_iload_n hx hb dX9_hide_90 rfl (lv_at hl 3 rfl) ?_
                subst hX91
                exact hj91 _ _ _ (lv_sub hl [0, 1, 2, 3, 4] rfl) G
              · rw [if_pos c82] at hX91
                refine lv_iload hx hb dX9_hide_85 (lv_at hl 4 rfl) ?_
                refine lv_goto (tgt := 91) hx hb dX9_hide_87 (by decide) ?_
                subst hX91
                exact hj91 _ _ _ (lv_sub hl [0, 1, 2, 3, 4] rfl) G
    exact hloop28 _ 0 (Nat.add_zero _) _ _ rfl _ _ _ (lv_sub hl [3, 4, 2, 1, 0] rfl) G
  · rw [if_pos c5] at hF
    refine lv_aload_n hx hb dX9_hide_8 rfl (lv_at hl 0 rfl) ?_
    refine lv_ldc (v := -1000000001) hx hb C.2.2.2.1 (C.2.2.2.2.1 (.constant RX9 58 (-1000000001)) (by decide +kernel)) dX9_hide_9 ?_
    obtain ⟨x11, M11, hx11⟩ : ∃ (X : Int32) (Y : mS), (X, Y) = mF_errs M (-1000000001) := ⟨_, _, rfl⟩
    refine mr_calli (r0 := x11) (M2 := M11) C hA G (by rw [hx11]; exact (k_errs zl D cI ad M (-1000000001) (by unfold vp_in; decide))) (cwV 1 C.2.2.2.2.1 gX9_hide_X9_errs rfl rfl rfl (by decide +kernel) ⟨Nat.le_of_ble_eq_true rfl, Nat.le_of_ble_eq_true rfl⟩) rfl hl.1 rfl (Nat.le_of_ble_eq_true rfl) dX9_hide_11 ⟨Nat.le_refl _, Nat.le_refl _⟩ (fun H locs G => ?_)
    rw [lt2_e hx11] at hF
    exact hret _ _ _ _ _ _ hF G dX9_hide_14
set_option maxRecDepth 100000 in
set_option maxHeartbeats 4000000 in
theorem k_gains (zl : Launch) (D : va_G) (cI : ClassId) (ad : Nat → Nat) (M : mS) (q : Int32) (n : Int32) (hR : rOK M) : mM zl D cI ad yX9_gains wsX9_gains ({ frames := 55, cells := 0, slots := 0, locals := 1233 } : Room) [.int q, .int n] M (mF_gains M q n) := by
  have hin : ∀ w ∈ wsX90, w ∈ wsX9_gains := fun w h => List.mem_cons_of_mem _ (List.mem_append_right _ h)
  refine mM_of (cc := cX9_gains) (nL := 5) (by decide) rfl rfl (Nat.le_of_ble_eq_true rfl) ?_
  intro zp ze zs zm zg zb zt zc zA H0 zQ C hA hret H locs ls hl G
  have hx := C.1
  have hb := C.2.1
  have hl : lv_has ls 5 [(0, .ref (ad 0)), (1, .int q), (2, .int n)] := hl
  obtain ⟨rM, hF⟩ : ∃ X : Int32 × mS, X = mF_gains M q n := ⟨_, rfl⟩
  rw [← hF] at hret
  unfold mF_gains at hF
  have hC := hR.1
  have hP := hR.2.1
  have hK := hR.2.2.1
  have hA9 := hR.2.2.2.1
  have hS := hR.2.2.2.2
  have hC2 := hC.2.1
  have hC3 := hC.2.2
  have hP2 := hP.2
  refine lv_aload_n hx hb dX9_gains_0 rfl (lv_at hl 0 rfl) ?_
  refine lv_iload_n hx hb dX9_gains_1 rfl (lv_at hl 1 rfl) ?_
  refine mr_calli C hA G (k_isPerson zl D cI ad M q) (cwV 1 C.2.2.2.2.1 gX9_gains_X9_isPerson rfl rfl rfl (by decide +kernel) ⟨Nat.le_of_ble_eq_true rfl, Nat.le_of_ble_eq_true rfl⟩) rfl hl.1 rfl (Nat.le_of_ble_eq_true rfl) dX9_gains_2 ⟨Nat.le_refl _, Nat.le_refl _⟩ (fun H locs G => ?_)
  refine lv_if_eq (tgt := 18) hx hb dX9_gains_5 (by decide) (fun c5 => ?_) (fun c5 => ?_)
  · rw [if_pos c5] at hF
    refine lv_aload_n hx hb dX9_gains_18 rfl (lv_at hl 0 rfl) ?_
    refine lv_ldc (v := -1000000001) hx hb C.2.2.2.1 (C.2.2.2.2.1 (.constant RX9 58 (-1000000001)) (by decide +kernel)) dX9_gains_19 ?_
    obtain ⟨x21, M21, hx21⟩ : ∃ (X : Int32) (Y : mS), (X, Y) = mF_errs M (-1000000001) := ⟨_, _, rfl⟩
    refine mr_calli (r0 := x21) (M2 := M21) C hA G (by rw [hx21]; exact (k_errs zl D cI ad M (-1000000001) (by unfold vp_in; decide))) (cwV 1 C.2.2.2.2.1 gX9_gains_X9_errs rfl rfl rfl (by decide +kernel) ⟨Nat.le_of_ble_eq_true rfl, Nat.le_of_ble_eq_true rfl⟩) rfl hl.1 rfl (Nat.le_of_ble_eq_true rfl) dX9_gains_21 ⟨Nat.le_refl _, Nat.le_refl _⟩ (fun H locs G => ?_)
    rw [lt2_e hx21] at hF
    exact hret _ _ _ _ _ _ hF G dX9_gains_24
  · rw [if_neg c5] at hF
    have hp := person_of hP c5
    have hp2 := hp.2
    refine lv_iload_n hx hb dX9_gains_8 rfl (lv_at hl 2 rfl) ?_
    refine lv_iconst (v := 0) hx hb dX9_gains_9 (by decide) ?_
    refine lv_bipush (v := 50) hx hb dX9_gains_10 (by decide) ?_
    refine mr_calls C hA G (ks_in zl n 0 50) (va_cwS 3 C.2.2.2.2.1 gX9_gains_X9_in rfl rfl rfl (by decide +kernel) ⟨Nat.le_of_ble_eq_true rfl, Nat.le_of_ble_eq_true rfl⟩) rfl hl.1 rfl (Nat.le_of_ble_eq_true rfl) dX9_gains_12 ⟨Nat.le_refl _, Nat.le_refl _⟩ (fun H locs G => ?_)
    refine lv_if_ne (tgt := 25) hx hb dX9_gains_15 (by decide) (fun c15 => ?_) (fun c15 => ?_)
    · rw [if_neg c15] at hF
      have hn := in_pos (m := 50) c15 (by decide) ⟨rfl, by decide⟩
      have hn2 := hn.2
      refine lv_aload_n hx hb dX9_gains_25 rfl (lv_at hl 0 rfl) ?_
      refine lv_aload_n hx hb dX9_gains_26 rfl (lv_at hl 0 rfl) ?_
      refine mr_get C G hin 0 (by decide) rfl (show Cond.fieldLink RX9 7 "WheatCountsModel" "row" "[I" ∈ _ by decide +kernel) (fun _ => rfl) dX9_gains_27 ?_
      refine lv_aload_n hx hb dX9_gains_30 rfl (lv_at hl 0 rfl) ?_
      refine mr_get C G hin 2 (by decide) rfl (show Cond.fieldLink RX9 16 "WheatCountsModel" "tried" "[I" ∈ _ by decide +kernel) (fun _ => rfl) dX9_gains_31 ?_
      refine mr_callv C hA G (k_moveAll_1_3 zl D cI ad M ) (cwV 2 C.2.2.2.2.1 gX9_gains_X9_moveAll rfl rfl rfl (by decide +kernel) ⟨Nat.le_of_ble_eq_true rfl, Nat.le_of_ble_eq_true rfl⟩) rfl hl.1 rfl (Nat.le_of_ble_eq_true rfl) dX9_gains_34 ⟨Nat.le_refl _, Nat.le_refl _⟩ (fun H locs G => ?_)
      obtain ⟨M34, hM34⟩ : ∃ X : mS, X = mF_moveAll_1_3 M := ⟨_, rfl⟩
      rw [← hM34] at G
      rw [lt_e hM34] at hF
      have hR34 : rOK M34 := by rw [hM34]; exact rOK_row (mv13_row _ 1 (by decide)) hR
      refine lv_aload_n hx hb dX9_gains_37 rfl (lv_at hl 0 rfl) ?_
      refine lv_iload_n hx hb dX9_gains_38 rfl (lv_at hl 2 rfl) ?_
      refine mr_callv C hA G (k_passes zl D cI ad M34 (vn n) hR34 (by omega)) (cwV 1 C.2.2.2.2.1 gX9_gains_X9_passes rfl rfl rfl (by decide +kernel) ⟨Nat.le_of_ble_eq_true rfl, Nat.le_of_ble_eq_true rfl⟩) rfl hl.1 (cons_int hn.1 rfl) (Nat.le_of_ble_eq_true rfl) dX9_gains_39 ⟨Nat.le_refl _, Nat.le_refl _⟩ (fun H locs G => ?_)
      obtain ⟨M39, hM39⟩ : ∃ X : mS, X = mF_passes M34 (vn n) := ⟨_, rfl⟩
      rw [← hM39] at G
      rw [lt_e hM39] at hF
      have hR39 : rOK M39 := by rw [hM39, ps_e]; exact pS_R hR34 _
      refine lv_aload_n hx hb dX9_gains_42 rfl (lv_at hl 0 rfl) ?_
      refine mr_calli C hA G (k_grains zl D cI ad M39  hR39.1) (cwV 0 C.2.2.2.2.1 gX9_gains_X9_grains rfl rfl rfl (by decide +kernel) ⟨Nat.le_of_ble_eq_true rfl, Nat.le_of_ble_eq_true rfl⟩) rfl hl.1 rfl (Nat.le_of_ble_eq_true rfl) dX9_gains_43 ⟨Nat.le_refl _, Nat.le_refl _⟩ (fun H locs G => ?_)
      refine lv_topi (fun x46 hx46 => ?_)
      rw [lt_e hx46] at hF
      refine lv_istore_n (lv' := [(3, .int x46), (0, .ref (ad 0)), (1, .int q), (2, .int n)]) hx hb dX9_gains_46 rfl hl (by decide) rfl (fun ls hl => ?_)
      refine lv_aload_n hx hb dX9_gains_47 rfl (lv_at hl 1 rfl) ?_
      refine lv_aload_n hx hb dX9_gains_48 rfl (lv_at hl 1 rfl) ?_
      refine mr_get C G hin 2 (by decide) rfl (show Cond.fieldLink RX9 16 "WheatCountsModel" "tried" "[I" ∈ _ by decide +kernel) (fun _ => rfl) dX9_gains_49 ?_
      refine lv_aload_n hx hb dX9_gains_52 rfl (lv_at hl 1 rfl) ?_
      refine mr_get C G hin 0 (by decide) rfl (show Cond.fieldLink RX9 7 "WheatCountsModel" "row" "[I" ∈ _ by decide +kernel) (fun _ => rfl) dX9_gains_53 ?_
      refine mr_callv C hA G (k_moveAll_3_1 zl D cI ad M39 ) (cwV 2 C.2.2.2.2.1 gX9_gains_X9_moveAll rfl rfl rfl (by decide +kernel) ⟨Nat.le_of_ble_eq_true rfl, Nat.le_of_ble_eq_true rfl⟩) rfl hl.1 rfl (Nat.le_of_ble_eq_true rfl) dX9_gains_56 ⟨Nat.le_refl _, Nat.le_refl _⟩ (fun H locs G => ?_)
      obtain ⟨M56, hM56⟩ : ∃ X : mS, X = mF_moveAll_3_1 M39 := ⟨_, rfl⟩
      rw [← hM56] at G
      rw [lt_e hM56] at hF
      have hR56 : rOK M56 := by rw [hM56]; exact rOK_pt (fun x hx => by rw [mv31_at, if_pos (by omega), hM39, ps_e, pS_row _ _ 3 (by decide) (by decide), hM34, mv13_at, if_pos (by omega)]) hR
      refine lv_aload_n hx hb dX9_gains_59 rfl (lv_at hl 1 rfl) ?_
      refine lv_iload_n hx hb dX9_gains_60 rfl (lv_at hl 2 rfl) ?_
      refine mr_put C G hin 15 (by decide) rfl rfl (show Cond.fieldLink RX9 25 "WheatCountsModel" "absent" "I" ∈ _ by decide +kernel) (ty := .int) (by decide +kernel) rfl rfl (fun _ => rfl) dX9_gains_61 (fun H locs G => ?_)
      obtain ⟨M61, hM61⟩ : ∃ X : mS, X = mU M56 0 15 q := ⟨_, rfl⟩
      rw [← hM61] at G
      rw [lt_e hM61] at hF
      have hR61 : rOK M61 := by rw [hM61]; exact rOK_row (mU_row (by decide)) hR56
      refine lv_aload_n hx hb dX9_gains_64 rfl (lv_at hl 1 rfl) ?_
      refine lv_iload_n hx hb dX9_gains_65 rfl (lv_at hl 3 rfl) ?_
      refine mr_callv C hA G (k_passes zl D cI ad M61 (vn n) hR61 (by omega)) (cwV 1 C.2.2.2.2.1 gX9_gains_X9_passes rfl rfl rfl (by decide +kernel) ⟨Nat.le_of_ble_eq_true rfl, Nat.le_of_ble_eq_true rfl⟩) rfl hl.1 (cons_int hn.1 rfl) (Nat.le_of_ble_eq_true rfl) dX9_gains_66 ⟨Nat.le_refl _, Nat.le_refl _⟩ (fun H locs G => ?_)
      obtain ⟨M66, hM66⟩ : ∃ X : mS, X = mF_passes M61 (vn n) := ⟨_, rfl⟩
      rw [← hM66] at G
      rw [lt_e hM66] at hF
      have hR66 : rOK M66 := by rw [hM66, ps_e]; exact pS_R hR61 _
      refine lv_aload_n hx hb dX9_gains_69 rfl (lv_at hl 1 rfl) ?_
      refine lv_iconst (v := -1) hx hb dX9_gains_70 (by decide) ?_
      refine mr_put C G hin 15 (by decide) rfl rfl (show Cond.fieldLink RX9 25 "WheatCountsModel" "absent" "I" ∈ _ by decide +kernel) (ty := .int) (by decide +kernel) rfl rfl (fun _ => rfl) dX9_gains_71 (fun H locs G => ?_)
      obtain ⟨M71, hM71⟩ : ∃ X : mS, X = mU M66 0 15 (-1) := ⟨_, rfl⟩
      rw [← hM71] at G
      rw [lt_e hM71] at hF
      have hR71 : rOK M71 := by rw [hM71]; exact rOK_row (mU_row (by decide)) hR66
      refine lv_aload_n hx hb dX9_gains_74 rfl (lv_at hl 1 rfl) ?_
      refine mr_calli C hA G (k_grains zl D cI ad M71  hR71.1) (cwV 0 C.2.2.2.2.1 gX9_gains_X9_grains rfl rfl rfl (by decide +kernel) ⟨Nat.le_of_ble_eq_true rfl, Nat.le_of_ble_eq_true rfl⟩) rfl hl.1 rfl (Nat.le_of_ble_eq_true rfl) dX9_gains_75 ⟨Nat.le_refl _, Nat.le_refl _⟩ (fun H locs G => ?_)
      refine lv_topi (fun x78 hx78 => ?_)
      rw [lt_e hx78] at hF
      refine lv_istore (lv' := [(4, .int x78), (3, .int x46), (0, .ref (ad 0)), (1, .int q), (2, .int n)]) hx hb dX9_gains_78 hl (by decide) rfl (fun ls hl => ?_)
      refine lv_aload_n hx hb dX9_gains_80 rfl (lv_at hl 2 rfl) ?_
      refine lv_aload_n hx hb dX9_gains_81 rfl (lv_at hl 2 rfl) ?_
      refine mr_get C G hin 2 (by decide) rfl (show Cond.fieldLink RX9 16 "WheatCountsModel" "tried" "[I" ∈ _ by decide +kernel) (fun _ => rfl) dX9_gains_82 ?_
      refine lv_aload_n hx hb dX9_gains_85 rfl (lv_at hl 2 rfl) ?_
      refine mr_get C G hin 0 (by decide) rfl (show Cond.fieldLink RX9 7 "WheatCountsModel" "row" "[I" ∈ _ by decide +kernel) (fun _ => rfl) dX9_gains_86 ?_
      refine mr_callv C hA G (k_moveAll_3_1 zl D cI ad M71 ) (cwV 2 C.2.2.2.2.1 gX9_gains_X9_moveAll rfl rfl rfl (by decide +kernel) ⟨Nat.le_of_ble_eq_true rfl, Nat.le_of_ble_eq_true rfl⟩) rfl hl.1 rfl (Nat.le_of_ble_eq_true rfl) dX9_gains_89 ⟨Nat.le_refl _, Nat.le_refl _⟩ (fun H locs G => ?_)
      obtain ⟨M89, hM89⟩ : ∃ X : mS, X = mF_moveAll_3_1 M71 := ⟨_, rfl⟩
      rw [← hM89] at G
      rw [lt_e hM89] at hF
      refine lv_iload_n hx hb dX9_gains_92 rfl (lv_at hl 1 rfl) ?_
      refine lv_iload hx hb dX9_gains_93 (lv_at hl 0 rfl) ?_
      refine lv_isub hx hb dX9_gains_95 ?_
      exact hret _ _ _ _ _ _ hF G dX9_gains_96
    · rw [if_pos c15] at hF
      refine lv_aload_n hx hb dX9_gains_18 rfl (lv_at hl 0 rfl) ?_
      refine lv_ldc (v := -1000000001) hx hb C.2.2.2.1 (C.2.2.2.2.1 (.constant RX9 58 (-1000000001)) (by decide +kernel)) dX9_gains_19 ?_
      obtain ⟨x21, M21, hx21⟩ : ∃ (X : Int32) (Y : mS), (X, Y) = mF_errs M (-1000000001) := ⟨_, _, rfl⟩
      refine mr_calli (r0 := x21) (M2 := M21) C hA G (by rw [hx21]; exact (k_errs zl D cI ad M (-1000000001) (by unfold vp_in; decide))) (cwV 1 C.2.2.2.2.1 gX9_gains_X9_errs rfl rfl rfl (by decide +kernel) ⟨Nat.le_of_ble_eq_true rfl, Nat.le_of_ble_eq_true rfl⟩) rfl hl.1 rfl (Nat.le_of_ble_eq_true rfl) dX9_gains_21 ⟨Nat.le_refl _, Nat.le_refl _⟩ (fun H locs G => ?_)
      rw [lt2_e hx21] at hF
      exact hret _ _ _ _ _ _ hF G dX9_gains_24
set_option maxRecDepth 100000 in
set_option maxHeartbeats 4000000 in
theorem k_odds (zl : Launch) (D : va_G) (cI : ClassId) (ad : Nat → Nat) (M : mS) (c : Int32) (part : Int32) (hR : rOK M) : mM zl D cI ad yX9_odds wsX9_odds ({ frames := 54, cells := 0, slots := 0, locals := 1211 } : Room) [.int c, .int part] M (mF_odds M c part) := by
  have hin : ∀ w ∈ wsX90, w ∈ wsX9_odds := fun w h => List.mem_cons_of_mem _ (List.mem_append_right _ h)
  refine mM_of (cc := cX9_odds) (nL := 6) (by decide) rfl rfl (Nat.le_of_ble_eq_true rfl) ?_
  intro zp ze zs zm zg zb zt zc zA H0 zQ C hA hret H locs ls hl G
  have hx := C.1
  have hb := C.2.1
  have hl : lv_has ls 6 [(0, .ref (ad 0)), (1, .int c), (2, .int part)] := hl
  obtain ⟨rM, hF⟩ : ∃ X : Int32 × mS, X = mF_odds M c part := ⟨_, rfl⟩
  rw [← hF] at hret
  unfold mF_odds at hF
  have hC := hR.1
  have hP := hR.2.1
  have hK := hR.2.2.1
  have hA9 := hR.2.2.2.1
  have hS := hR.2.2.2.2
  have hC2 := hC.2.1
  have hC3 := hC.2.2
  have hP2 := hP.2
  refine lv_aload_n hx hb dX9_odds_0 rfl (lv_at hl 0 rfl) ?_
  refine lv_iload_n hx hb dX9_odds_1 rfl (lv_at hl 1 rfl) ?_
  refine mr_calli C hA G (k_isCell zl D cI ad M c) (cwV 1 C.2.2.2.2.1 gX9_odds_X9_isCell rfl rfl rfl (by decide +kernel) ⟨Nat.le_of_ble_eq_true rfl, Nat.le_of_ble_eq_true rfl⟩) rfl hl.1 rfl (Nat.le_of_ble_eq_true rfl) dX9_odds_2 ⟨Nat.le_refl _, Nat.le_refl _⟩ (fun H locs G => ?_)
  refine lv_if_eq (tgt := 17) hx hb dX9_odds_5 (by decide) (fun c5 => ?_) (fun c5 => ?_)
  · rw [if_pos c5] at hF
    refine lv_aload_n hx hb dX9_odds_17 rfl (lv_at hl 0 rfl) ?_
    refine lv_ldc (v := -1000000001) hx hb C.2.2.2.1 (C.2.2.2.2.1 (.constant RX9 58 (-1000000001)) (by decide +kernel)) dX9_odds_18 ?_
    obtain ⟨x20, M20, hx20⟩ : ∃ (X : Int32) (Y : mS), (X, Y) = mF_errs M (-1000000001) := ⟨_, _, rfl⟩
    refine mr_calli (r0 := x20) (M2 := M20) C hA G (by rw [hx20]; exact (k_errs zl D cI ad M (-1000000001) (by unfold vp_in; decide))) (cwV 1 C.2.2.2.2.1 gX9_odds_X9_errs rfl rfl rfl (by decide +kernel) ⟨Nat.le_of_ble_eq_true rfl, Nat.le_of_ble_eq_true rfl⟩) rfl hl.1 rfl (Nat.le_of_ble_eq_true rfl) dX9_odds_20 ⟨Nat.le_refl _, Nat.le_refl _⟩ (fun H locs G => ?_)
    rw [lt2_e hx20] at hF
    exact hret _ _ _ _ _ _ hF G dX9_odds_23
  · rw [if_neg c5] at hF
    refine lv_iload_n hx hb dX9_odds_8 rfl (lv_at hl 2 rfl) ?_
    refine lv_iconst (v := 0) hx hb dX9_odds_9 (by decide) ?_
    refine lv_iconst (v := 1) hx hb dX9_odds_10 (by decide) ?_
    refine mr_calls C hA G (ks_in zl part 0 1) (va_cwS 3 C.2.2.2.2.1 gX9_odds_X9_in rfl rfl rfl (by decide +kernel) ⟨Nat.le_of_ble_eq_true rfl, Nat.le_of_ble_eq_true rfl⟩) rfl hl.1 rfl (Nat.le_of_ble_eq_true rfl) dX9_odds_11 ⟨Nat.le_refl _, Nat.le_refl _⟩ (fun H locs G => ?_)
    refine lv_if_ne (tgt := 24) hx hb dX9_odds_14 (by decide) (fun c14 => ?_) (fun c14 => ?_)
    · rw [if_neg c14] at hF
      refine lv_aload_n hx hb dX9_odds_24 rfl (lv_at hl 0 rfl) ?_
      refine mr_get C G hin 0 (by decide) rfl (show Cond.fieldLink RX9 7 "WheatCountsModel" "row" "[I" ∈ _ by decide +kernel) (fun _ => rfl) dX9_odds_25 ?_
      refine lv_iconst (v := 1) hx hb dX9_odds_28 (by decide) ?_
      refine mr_ald C G 1 (fun _ => rfl) 1 rfl (by omega) (Nat.le_of_ble_eq_true rfl) dX9_odds_29 ?_
      refine lv_topi (fun x30 hx30 => ?_)
      rw [lt_e hx30] at hF
      refine lv_istore_n (lv' := [(3, .int x30), (0, .ref (ad 0)), (1, .int c), (2, .int part)]) hx hb dX9_odds_30 rfl hl (by decide) rfl (fun ls hl => ?_)
      refine lv_iconst (v := 0) hx hb dX9_odds_31 (by decide) ?_
      refine lv_istore (lv' := [(4, .int 0), (3, .int x30), (0, .ref (ad 0)), (1, .int c), (2, .int part)]) hx hb dX9_odds_32 hl (by decide) rfl (fun ls hl => ?_)
      refine lv_iconst (v := 0) hx hb dX9_odds_34 (by decide) ?_
      refine lv_istore (lv' := [(5, .int 0), (4, .int 0), (3, .int x30), (0, .ref (ad 0)), (1, .int c), (2, .int part)]) hx hb dX9_odds_35 hl (by decide) rfl (fun ls hl => ?_)
      obtain ⟨v4_37x, M37x, hX37⟩ : ∃ (v4_37x : Int32) (M37x : mS), (v4_37x, M37x) = mF_odds_L37 M c 10 := ⟨_, _, rfl⟩
      rw [lt2_e hX37] at hF
      have hrest37 : ∀ (H : Heap) (locs : List Loc) (ls : Array Slot), lv_has ls 6 [(0, .ref (ad 0)), (1, .int c), (2, .int part), (3, .int x30), (4, .int v4_37x), (5, .int (nI 10))] → mG D cI ad zA H0 H locs M37x → W zp zl ze ({ frames := 54, cells := 0, slots := 0, locals := 1211 } : Room) zs zm zg zb zt zc H locs 0 0 zQ (F0 zm 76 ls []) := by
        intro H locs ls hl G
        refine lv_aload_n hx hb dX9_odds_76 rfl (lv_at hl 0 rfl) ?_
        refine mr_get C G hin 0 (by decide) rfl (show Cond.fieldLink RX9 7 "WheatCountsModel" "row" "[I" ∈ _ by decide +kernel) (fun _ => rfl) dX9_odds_77 ?_
        refine lv_iconst (v := 1) hx hb dX9_odds_80 (by decide) ?_
        refine lv_iload_n hx hb dX9_odds_81 rfl (lv_at hl 3 rfl) ?_
        refine mr_ast C G 1 (fun _ => rfl) 1 rfl (by omega) (Nat.le_of_ble_eq_true rfl) (fun _ => rfl) dX9_odds_82 (fun H locs G => ?_)
        obtain ⟨M82, hM82⟩ : ∃ X : mS, X = mU M37x 1 1 x30 := ⟨_, rfl⟩
        rw [← hM82] at G
        rw [lt_e hM82] at hF
        have hso := od_so hX37
        refine lv_iload hx hb dX9_odds_83 (lv_at hl 4 rfl) ?_
        refine lv_bipush (v := 10) hx hb dX9_odds_85 (by decide) ?_
        refine mr_calls C hA G (ks_divisor zl (vn v4_37x) 10 (by omega) (by decide)) (va_cwS 2 C.2.2.2.2.1 gX9_odds_X9_divisor rfl rfl rfl (by decide +kernel) ⟨Nat.le_of_ble_eq_true rfl, Nat.le_of_ble_eq_true rfl⟩) rfl hl.1 (cons_int rfl (cons_int hso.1 rfl)) (Nat.le_of_ble_eq_true rfl) dX9_odds_87 ⟨Nat.le_refl _, Nat.le_refl _⟩ (fun H locs G => ?_)
        refine lv_topi (fun x90 hx90 => ?_)
        rw [lt_e hx90] at hF
        refine lv_istore (lv' := [(5, .int x90), (0, .ref (ad 0)), (1, .int c), (2, .int part), (3, .int x30), (4, .int v4_37x)]) hx hb dX9_odds_90 hl (by decide) rfl (fun ls hl => ?_)
        have hdv2 : ¬ x90 = 0 := by rw [hx90]; exact od_div hso.2
        refine lv_iload_n hx hb dX9_odds_92 rfl (lv_at hl 3 rfl) ?_
        refine lv_if_ne (tgt := 104) hx hb dX9_odds_93 (by decide) (fun c93 => ?_) (fun c93 => ?_)
        · rw [if_neg c93] at hF
          refine lv_bipush (v := 10) hx hb dX9_odds_104 (by decide) ?_
          refine lv_iload hx hb dX9_odds_106 (lv_at hl 0 rfl) ?_
          refine lv_idiv hx hb dX9_odds_108 hdv2 ?_
          exact hret _ _ _ _ _ _ hF G dX9_odds_109
        · rw [if_pos c93] at hF
          refine lv_iload hx hb dX9_odds_96 (lv_at hl 5 rfl) ?_
          refine lv_iload hx hb dX9_odds_98 (lv_at hl 0 rfl) ?_
          refine lv_idiv hx hb dX9_odds_100 hdv2 ?_
          refine lv_goto (tgt := 109) hx hb dX9_odds_101 (by decide) ?_
          exact hret _ _ _ _ _ _ hF G dX9_odds_109
      have hloop37 : ∀ (j k37 : Nat), j + k37 = 10 → ∀ (v4_37 : Int32) (M37 : mS), (v4_37, M37) = mF_odds_L37 M c k37 → ∀ (H : Heap) (locs : List Loc) (ls : Array Slot), lv_has ls 6 [(0, .ref (ad 0)), (1, .int c), (2, .int part), (3, .int x30), (4, .int v4_37), (5, .int (nI k37))] → mG D cI ad zA H0 H locs M37 → W zp zl ze ({ frames := 54, cells := 0, slots := 0, locals := 1211 } : Room) zs zm zg zb zt zc H locs 0 0 zQ (F0 zm 37 ls []) := by
        intro j
        induction j with
        | zero =>
          intro k37 hk v4_37 M37 hL H locs ls hl G
          have hk : k37 = 10 := by omega
          rw [hk] at hL hl
          refine lv_iload hx hb dX9_odds_37 (lv_at hl 5 rfl) ?_
          refine lv_bipush (v := 9) hx hb dX9_odds_39 (by decide) ?_
          refine lv_icmp_gt (tgt := 76) hx hb dX9_odds_41 (by decide) (fun c41 => ?_) (fun c41 => absurd (by decide) c41)
          cases hL.trans hX37.symm
          exact hrest37 _ _ _ (lv_sub hl [0, 1, 2, 3, 4, 5] rfl) G
        | succ j ih =>
          intro k37 hk v4_37 M37 hL H locs ls hl G
          have hkn : k37 < 10 := by omega
          obtain ⟨v4_37s, M37s, hS0⟩ : ∃ (v4_37s : Int32) (M37s : mS), (v4_37s, M37s) = mF_odds_L37 M c (k37 + 1) := ⟨_, _, rfl⟩
          have hS := hS0
          rw [mF_odds_L37_s, lt2_e hL] at hS
          have hM37 : M37 = (mF_odds_L37 M c k37).2 := congrArg Prod.snd hL
          have hR37 : rOK M37 := by rw [hM37]; exact od_R hR _ _
          refine lv_iload hx hb dX9_odds_37 (lv_at hl 5 rfl) ?_
          refine lv_bipush (v := 9) hx hb dX9_odds_39 (by decide) ?_
          refine lv_icmp_gt (tgt := 76) hx hb dX9_odds_41 (by decide) (fun c41 => absurd c41 (fun e9 => absurd e9 (Int32.not_lt.mpr (show nI k37 ≤ nI 9 from nI_le (by omega) (by decide))))) (fun c41 => ?_)
          refine lv_aload_n hx hb dX9_odds_44 rfl (lv_at hl 0 rfl) ?_
          refine mr_get C G hin 0 (by decide) rfl (show Cond.fieldLink RX9 7 "WheatCountsModel" "row" "[I" ∈ _ by decide +kernel) (fun _ => rfl) dX9_odds_45 ?_
          refine lv_iconst (v := 1) hx hb dX9_odds_48 (by decide) ?_
          refine lv_iload hx hb dX9_odds_49 (lv_at hl 5 rfl) ?_
          refine mr_ast C G 1 (fun _ => rfl) 1 rfl (by omega) (Nat.le_of_ble_eq_true rfl) (fun _ => rfl) dX9_odds_51 (fun H locs G => ?_)
          obtain ⟨M51, hM51⟩ : ∃ X : mS, X = mU M37 1 1 (nI k37) := ⟨_, rfl⟩
          rw [← hM51] at G
          rw [lt_e hM51] at hS
          have hR51 : rOK M51 := by rw [hM51]; exact rOK_up hR37 (by decide) (by decide) (by decide) (by decide) (fun _ _ => by omega) (fun _ _ => by omega)
          refine lv_iload hx hb dX9_odds_52 (lv_at hl 4 rfl) ?_
          refine lv_aload_n hx hb dX9_odds_54 rfl (lv_at hl 0 rfl) ?_
          refine lv_iload_n hx hb dX9_odds_55 rfl (lv_at hl 1 rfl) ?_
          refine mr_calli C hA G (k_whoSees zl D cI ad M51 c hR51) (cwV 1 C.2.2.2.2.1 gX9_odds_X9_whoSees rfl rfl rfl (by decide +kernel) ⟨Nat.le_of_ble_eq_true rfl, Nat.le_of_ble_eq_true rfl⟩) rfl hl.1 rfl (Nat.le_of_ble_eq_true rfl) dX9_odds_56 ⟨Nat.le_refl _, Nat.le_refl _⟩ (fun H locs G => ?_)
          obtain ⟨y67, hX67⟩ : ∃ (y67 : Int32), y67 = ((if (mF_whoSees M51 c) = 0 then 0 else 1) : Int32) := ⟨_, rfl⟩
          rw [lt_e hX67] at hS
          have hj67 : ∀ (H : Heap) (locs : List Loc) (ls : Array Slot), lv_has ls 6 [(0, .ref (ad 0)), (1, .int c), (2, .int part), (3, .int x30), (4, .int v4_37), (5, .int (nI k37))] → mG D cI ad zA H0 H locs M51 → W zp zl ze ({ frames := 54, cells := 0, slots := 0, locals := 1211 } : Room) zs zm zg zb zt zc H locs 0 0 zQ (F0 zm 67 ls [.int y67, .int v4_37]) := by
            intro H locs ls hl G
            refine lv_iadd hx hb dX9_odds_67 ?_
            refine lv_topi (fun x68 hx68 => ?_)
            rw [lt_e hx68] at hS
            refine lv_istore (lv' := [(4, .int x68), (0, .ref (ad 0)), (1, .int c), (2, .int part), (3, .int x30), (5, .int (nI k37))]) hx hb dX9_odds_68 hl (by decide) rfl (fun ls hl => ?_)
            refine lv_iinc (v := nI (k37 + 1)) (lv' := [(5, .int (nI (k37 + 1))), (4, .int x68), (0, .ref (ad 0)), (1, .int c), (2, .int part), (3, .int x30)]) hx hb dX9_odds_70 hl (k := 5) rfl (nt_add rfl (show (1 : Int32) = nI 1 from rfl)) (by decide) rfl (fun ls hl => ?_)
            refine lv_goto (tgt := 37) hx hb dX9_odds_73 (by decide) ?_
            cases hS
            exact ih (k37 + 1) (by omega) _ _ hS0 _ _ _ (lv_sub hl [2, 3, 4, 5, 1, 0] rfl) G
          refine lv_if_eq (tgt := 66) hx hb dX9_odds_59 (by decide) (fun c59 => ?_) (fun c59 => ?_)
          · rw [if_pos c59] at hX67
            refine lv_iconst (v := 0) hx hb dX9_odds_66 (by decide) ?_
            subst hX67
            exact hj67 _ _ _ (lv_sub hl [0, 1, 2, 3, 4, 5] rfl) G
          · rw [if_neg c59] at hX67
            refine lv_iconst (v := 1) hx hb dX9_odds_62 (by decide) ?_
            refine lv_goto (tgt := 67) hx hb dX9_odds_63 (by decide) ?_
            subst hX67
            exact hj67 _ _ _ (lv_sub hl [0, 1, 2, 3, 4, 5] rfl) G
      exact hloop37 _ 0 (Nat.add_zero _) _ _ rfl _ _ _ (lv_sub hl [3, 4, 5, 2, 1, 0] rfl) G
    · rw [if_pos c14] at hF
      refine lv_aload_n hx hb dX9_odds_17 rfl (lv_at hl 0 rfl) ?_
      refine lv_ldc (v := -1000000001) hx hb C.2.2.2.1 (C.2.2.2.2.1 (.constant RX9 58 (-1000000001)) (by decide +kernel)) dX9_odds_18 ?_
      obtain ⟨x20, M20, hx20⟩ : ∃ (X : Int32) (Y : mS), (X, Y) = mF_errs M (-1000000001) := ⟨_, _, rfl⟩
      refine mr_calli (r0 := x20) (M2 := M20) C hA G (by rw [hx20]; exact (k_errs zl D cI ad M (-1000000001) (by unfold vp_in; decide))) (cwV 1 C.2.2.2.2.1 gX9_odds_X9_errs rfl rfl rfl (by decide +kernel) ⟨Nat.le_of_ble_eq_true rfl, Nat.le_of_ble_eq_true rfl⟩) rfl hl.1 rfl (Nat.le_of_ble_eq_true rfl) dX9_odds_20 ⟨Nat.le_refl _, Nat.le_refl _⟩ (fun H locs G => ?_)
      rw [lt2_e hx20] at hF
      exact hret _ _ _ _ _ _ hF G dX9_odds_23

