/-! the reference's hours -/
set_option maxRecDepth 100000 in
set_option maxHeartbeats 4000000 in
theorem k_sight (zl : Launch) (D : va_G) (cI : ClassId) (ad : Nat → Nat) (M : mS) (q : Nat) (hR : rOK M) (hq : q < 8) : mM zl D cI ad yX9_sight wsX9_sight ({ frames := 51, cells := 0, slots := 0, locals := 1140 } : Room) [.int (nI q)] M ((mF_sight M q, M)) := by
  have hin : ∀ w ∈ wsX90, w ∈ wsX9_sight := fun w h => List.mem_cons_of_mem _ (List.mem_append_right _ h)
  refine mM_of (cc := cX9_sight) (nL := 3) (by decide) rfl rfl (Nat.le_of_ble_eq_true rfl) ?_
  intro zp ze zs zm zg zb zt zc zA H0 zQ C hA hret H locs ls hl G
  have hx := C.1
  have hb := C.2.1
  have hl : lv_has ls 3 [(0, .ref (ad 0)), (1, .int (nI q))] := hl
  obtain ⟨rM, hF⟩ : ∃ X : Int32, X = mF_sight M q := ⟨_, rfl⟩
  rw [← hF] at hret
  unfold mF_sight at hF
  have hC := hR.1
  have hP := hR.2.1
  have hK := hR.2.2.1
  have hA9 := hR.2.2.2.1
  have hS := hR.2.2.2.2
  have hC2 := hC.2.1
  have hC3 := hC.2.2
  have hP2 := hP.2
  refine lv_aload_n hx hb dX9_sight_0 rfl (lv_at hl 0 rfl) ?_
  refine lv_iconst (v := 0) hx hb dX9_sight_1 (by decide) ?_
  refine lv_aload_n hx hb dX9_sight_2 rfl (lv_at hl 0 rfl) ?_
  refine lv_iload_n hx hb dX9_sight_3 rfl (lv_at hl 1 rfl) ?_
  refine lv_iconst (v := 1) hx hb dX9_sight_4 (by decide) ?_
  refine mr_calli C hA G (k_its zl D cI ad M q 1 (by first | assumption | omega)) (cwV 2 C.2.2.2.2.1 gX9_sight_X9_its rfl rfl rfl (by decide +kernel) ⟨Nat.le_of_ble_eq_true rfl, Nat.le_of_ble_eq_true rfl⟩) rfl hl.1 rfl (Nat.le_of_ble_eq_true rfl) dX9_sight_5 ⟨Nat.le_refl _, Nat.le_refl _⟩ (fun H locs G => ?_)
  refine lv_aload_n hx hb dX9_sight_8 rfl (lv_at hl 0 rfl) ?_
  refine mr_get C G hin 0 (by decide) rfl (show Cond.fieldLink RX9 7 "WheatCountsModel" "row" "[I" ∈ _ by decide +kernel) (fun _ => rfl) dX9_sight_9 ?_
  refine lv_iconst (v := 1) hx hb dX9_sight_12 (by decide) ?_
  refine mr_ald C G 1 (fun _ => rfl) 1 rfl (by omega) (Nat.le_of_ble_eq_true rfl) dX9_sight_13 ?_
  refine lv_aload_n hx hb dX9_sight_14 rfl (lv_at hl 0 rfl) ?_
  refine mr_get C G hin 0 (by decide) rfl (show Cond.fieldLink RX9 7 "WheatCountsModel" "row" "[I" ∈ _ by decide +kernel) (fun _ => rfl) dX9_sight_15 ?_
  refine lv_iconst (v := 0) hx hb dX9_sight_18 (by decide) ?_
  refine mr_ald C G 1 (fun _ => rfl) 0 rfl (by omega) (Nat.le_of_ble_eq_true rfl) dX9_sight_19 ?_
  refine mr_calli C hA G (k_lawOf zl D cI ad M 0 (mF_its M q 1) (M 1 1) (M 1 0) (by decide) hS) (cwV 4 C.2.2.2.2.1 gX9_sight_X9_lawOf rfl rfl rfl (by decide +kernel) ⟨Nat.le_of_ble_eq_true rfl, Nat.le_of_ble_eq_true rfl⟩) rfl hl.1 rfl (Nat.le_of_ble_eq_true rfl) dX9_sight_20 ⟨Nat.le_refl _, Nat.le_refl _⟩ (fun H locs G => ?_)
  refine lv_topi (fun x23 hx23 => ?_)
  rw [lt_e hx23] at hF
  refine lv_istore_n (lv' := [(2, .int x23), (0, .ref (ad 0)), (1, .int (nI q))]) hx hb dX9_sight_23 rfl hl (by decide) rfl (fun ls hl => ?_)
  refine lv_aload_n hx hb dX9_sight_24 rfl (lv_at hl 1 rfl) ?_
  refine lv_iload_n hx hb dX9_sight_25 rfl (lv_at hl 2 rfl) ?_
  refine lv_iconst (v := 0) hx hb dX9_sight_26 (by decide) ?_
  refine mr_calli C hA G (k_its zl D cI ad M q 0 (by first | assumption | omega)) (cwV 2 C.2.2.2.2.1 gX9_sight_X9_its rfl rfl rfl (by decide +kernel) ⟨Nat.le_of_ble_eq_true rfl, Nat.le_of_ble_eq_true rfl⟩) rfl hl.1 rfl (Nat.le_of_ble_eq_true rfl) dX9_sight_27 ⟨Nat.le_refl _, Nat.le_refl _⟩ (fun H locs G => ?_)
  by_cases c30_2 : (mF_its M q 0) = 2
  · rw [if_pos c30_2] at hF
    refine lv_tableIn (off := 34) (tgt := 64) hx hb dX9_sight_30 (by rw [c30_2]; decide) (by rw [c30_2]; decide) (by rw [c30_2]; rfl) (by decide) ?_
    refine lv_iload_n hx hb dX9_sight_64 rfl (lv_at hl 0 rfl) ?_
    refine lv_iconst (v := 2) hx hb dX9_sight_65 (by decide) ?_
    refine lv_idiv hx hb dX9_sight_66 (by decide) ?_
    exact hret _ _ _ _ _ _ (by rw [hF]) G dX9_sight_67
  · rw [if_neg c30_2] at hF
    by_cases c30_3 : (mF_its M q 0) = 3
    · rw [if_pos c30_3] at hF
      refine lv_tableIn (off := 53) (tgt := 83) hx hb dX9_sight_30 (by rw [c30_3]; decide) (by rw [c30_3]; decide) (by rw [c30_3]; rfl) (by decide) ?_
      refine lv_iload_n hx hb dX9_sight_83 rfl (lv_at hl 0 rfl) ?_
      exact hret _ _ _ _ _ _ (by rw [hF]) G dX9_sight_84
    · rw [if_neg c30_3] at hF
      by_cases c30_4 : (mF_its M q 0) = 4
      · rw [if_pos c30_4] at hF
        refine lv_tableIn (off := 38) (tgt := 68) hx hb dX9_sight_30 (by rw [c30_4]; decide) (by rw [c30_4]; decide) (by rw [c30_4]; rfl) (by decide) ?_
        refine lv_iload_n hx hb dX9_sight_68 rfl (lv_at hl 0 rfl) ?_
        refine lv_iconst (v := 1) hx hb dX9_sight_69 (by decide) ?_
        refine lv_iadd hx hb dX9_sight_70 ?_
        exact hret _ _ _ _ _ _ (by rw [hF]) G dX9_sight_71
      · rw [if_neg c30_4] at hF
        by_cases c30_5 : (mF_its M q 0) = 5
        · rw [if_pos c30_5] at hF
          refine lv_tableIn (off := 34) (tgt := 64) hx hb dX9_sight_30 (by rw [c30_5]; decide) (by rw [c30_5]; decide) (by rw [c30_5]; rfl) (by decide) ?_
          refine lv_iload_n hx hb dX9_sight_64 rfl (lv_at hl 0 rfl) ?_
          refine lv_iconst (v := 2) hx hb dX9_sight_65 (by decide) ?_
          refine lv_idiv hx hb dX9_sight_66 (by decide) ?_
          exact hret _ _ _ _ _ _ (by rw [hF]) G dX9_sight_67
        · rw [if_neg c30_5] at hF
          by_cases c30_6 : (mF_its M q 0) = 6
          · rw [if_pos c30_6] at hF
            refine lv_tableIn (off := 42) (tgt := 72) hx hb dX9_sight_30 (by rw [c30_6]; decide) (by rw [c30_6]; decide) (by rw [c30_6]; rfl) (by decide) ?_
            refine lv_iload_n hx hb dX9_sight_72 rfl (lv_at hl 0 rfl) ?_
            refine lv_aload_n hx hb dX9_sight_73 rfl (lv_at hl 1 rfl) ?_
            refine lv_iload_n hx hb dX9_sight_74 rfl (lv_at hl 2 rfl) ?_
            refine lv_iconst (v := 1) hx hb dX9_sight_75 (by decide) ?_
            refine mr_calli C hA G (k_its zl D cI ad M q 1 (by first | assumption | omega)) (cwV 2 C.2.2.2.2.1 gX9_sight_X9_its rfl rfl rfl (by decide +kernel) ⟨Nat.le_of_ble_eq_true rfl, Nat.le_of_ble_eq_true rfl⟩) rfl hl.1 rfl (Nat.le_of_ble_eq_true rfl) dX9_sight_76 ⟨Nat.le_refl _, Nat.le_refl _⟩ (fun H locs G => ?_)
            refine lv_iconst (v := 3) hx hb dX9_sight_79 (by decide) ?_
            refine lv_irem hx hb dX9_sight_80 (by decide) ?_
            refine lv_iadd hx hb dX9_sight_81 ?_
            exact hret _ _ _ _ _ _ (by rw [hF]) G dX9_sight_82
          · rw [if_neg c30_6] at hF
            refine lv_tableOut (tgt := 83) hx hb dX9_sight_30 (sw_out (fun i h1 h2 => by rcases (show i = 2 ∨ i = 3 ∨ i = 4 ∨ i = 5 ∨ i = 6 by omega) with rfl | rfl | rfl | rfl | rfl <;> first | exact fun e9 => c30_2 (Int32.toInt_inj.mp e9) | exact fun e9 => c30_3 (Int32.toInt_inj.mp e9) | exact fun e9 => c30_4 (Int32.toInt_inj.mp e9) | exact fun e9 => c30_5 (Int32.toInt_inj.mp e9) | exact fun e9 => c30_6 (Int32.toInt_inj.mp e9))) (by decide) ?_
            refine lv_iload_n hx hb dX9_sight_83 rfl (lv_at hl 0 rfl) ?_
            exact hret _ _ _ _ _ _ (by rw [hF]) G dX9_sight_84
set_option maxRecDepth 100000 in
set_option maxHeartbeats 4000000 in
theorem k_seesOf (zl : Launch) (D : va_G) (cI : ClassId) (ad : Nat → Nat) (M : mS) (q : Nat) (hR : rOK M) (hq : q < 8) : mM zl D cI ad yX9_seesOf wsX9_seesOf ({ frames := 52, cells := 0, slots := 0, locals := 1162 } : Room) [.int (nI q)] M ((mF_seesOf M q, M)) := by
  have hin : ∀ w ∈ wsX90, w ∈ wsX9_seesOf := fun w h => List.mem_cons_of_mem _ (List.mem_append_right _ h)
  refine mM_of (cc := cX9_seesOf) (nL := 7) (by decide) rfl rfl (Nat.le_of_ble_eq_true rfl) ?_
  intro zp ze zs zm zg zb zt zc zA H0 zQ C hA hret H locs ls hl G
  have hx := C.1
  have hb := C.2.1
  have hl : lv_has ls 7 [(0, .ref (ad 0)), (1, .int (nI q))] := hl
  obtain ⟨rM, hF⟩ : ∃ X : Int32, X = mF_seesOf M q := ⟨_, rfl⟩
  rw [← hF] at hret
  unfold mF_seesOf at hF
  have hC := hR.1
  have hP := hR.2.1
  have hK := hR.2.2.1
  have hA9 := hR.2.2.2.1
  have hS := hR.2.2.2.2
  have hC2 := hC.2.1
  have hC3 := hC.2.2
  have hP2 := hP.2
  have hA2 : aN M q < 10 := (hA9 q hq).2
  refine lv_aload_n hx hb dX9_seesOf_0 rfl (lv_at hl 0 rfl) ?_
  refine lv_iload_n hx hb dX9_seesOf_1 rfl (lv_at hl 1 rfl) ?_
  refine lv_iconst (v := 2) hx hb dX9_seesOf_2 (by decide) ?_
  refine mr_calli C hA G (k_its zl D cI ad M q 2 (by first | assumption | omega)) (cwV 2 C.2.2.2.2.1 gX9_seesOf_X9_its rfl rfl rfl (by decide +kernel) ⟨Nat.le_of_ble_eq_true rfl, Nat.le_of_ble_eq_true rfl⟩) rfl hl.1 rfl (Nat.le_of_ble_eq_true rfl) dX9_seesOf_3 ⟨Nat.le_refl _, Nat.le_refl _⟩ (fun H locs G => ?_)
  refine lv_topi (fun x6 hx6 => ?_)
  obtain rfl : x6 = nI (aN M q) := hx6.trans (hA9 q hq).1
  refine lv_istore_n (lv' := [(2, .int (nI (aN M q))), (0, .ref (ad 0)), (1, .int (nI q))]) hx hb dX9_seesOf_6 rfl hl (by decide) rfl (fun ls hl => ?_)
  refine lv_aload_n hx hb dX9_seesOf_7 rfl (lv_at hl 1 rfl) ?_
  refine lv_iload_n hx hb dX9_seesOf_8 rfl (lv_at hl 2 rfl) ?_
  refine mr_calli C hA G (k_sight zl D cI ad M q (by first | assumption | omega) (by first | assumption | omega)) (cwV 1 C.2.2.2.2.1 gX9_seesOf_X9_sight rfl rfl rfl (by decide +kernel) ⟨Nat.le_of_ble_eq_true rfl, Nat.le_of_ble_eq_true rfl⟩) rfl hl.1 rfl (Nat.le_of_ble_eq_true rfl) dX9_seesOf_9 ⟨Nat.le_refl _, Nat.le_refl _⟩ (fun H locs G => ?_)
  refine lv_topi (fun x12 hx12 => ?_)
  rw [lt_e hx12] at hF
  refine lv_istore_n (lv' := [(3, .int x12), (2, .int (nI (aN M q))), (0, .ref (ad 0)), (1, .int (nI q))]) hx hb dX9_seesOf_12 rfl hl (by decide) rfl (fun ls hl => ?_)
  refine lv_iconst (v := 1) hx hb dX9_seesOf_13 (by decide) ?_
  refine lv_iload_n hx hb dX9_seesOf_14 rfl (lv_at hl 1 rfl) ?_
  refine lv_ishl hx hb dX9_seesOf_15 ?_
  refine lv_topi (fun x16 hx16 => ?_)
  rw [lt_e hx16] at hF
  refine lv_istore (lv' := [(4, .int x16), (3, .int x12), (2, .int (nI (aN M q))), (0, .ref (ad 0)), (1, .int (nI q))]) hx hb dX9_seesOf_16 hl (by decide) rfl (fun ls hl => ?_)
  refine lv_iload_n hx hb dX9_seesOf_18 rfl (lv_at hl 2 rfl) ?_
  refine lv_istore (lv' := [(5, .int (nI (aN M q))), (4, .int x16), (3, .int x12), (2, .int (nI (aN M q))), (0, .ref (ad 0)), (1, .int (nI q))]) hx hb dX9_seesOf_19 hl (by decide) rfl (fun ls hl => ?_)
  obtain ⟨kax, v4_21x, hX21⟩ : ∃ (kax : Nat) (v4_21x : Int32), (kax, v4_21x) = mF_seesOf_L21 M q x12 fu11 (aN M q) x16 := ⟨_, _, rfl⟩
  rw [lt2_e hX21] at hF
  have hrest21 : ∀ (H : Heap) (locs : List Loc) (ls : Array Slot), lv_has ls 7 [(0, .ref (ad 0)), (1, .int (nI q)), (2, .int (nI (aN M q))), (3, .int x12), (4, .int v4_21x), (5, .int (nI kax))] → mG D cI ad zA H0 H locs M → W zp zl ze ({ frames := 52, cells := 0, slots := 0, locals := 1162 } : Room) zs zm zg zb zt zc H locs 0 0 zQ (F0 zm 74 ls []) := by
    intro H locs ls hl G
    refine lv_iload_n hx hb dX9_seesOf_74 rfl (lv_at hl 2 rfl) ?_
    refine lv_istore (lv' := [(5, .int (nI (aN M q))), (0, .ref (ad 0)), (1, .int (nI q)), (2, .int (nI (aN M q))), (3, .int x12), (4, .int v4_21x)]) hx hb dX9_seesOf_75 hl (by decide) rfl (fun ls hl => ?_)
    obtain ⟨kbx, v4_77x, hX77⟩ : ∃ (kbx : Nat) (v4_77x : Int32), (kbx, v4_77x) = mF_seesOf_L77 M q x12 fu11 (aN M q) v4_21x := ⟨_, _, rfl⟩
    rw [lt2_e hX77] at hF
    have hrest77 : ∀ (H : Heap) (locs : List Loc) (ls : Array Slot), lv_has ls 7 [(0, .ref (ad 0)), (1, .int (nI q)), (2, .int (nI (aN M q))), (3, .int x12), (4, .int v4_77x), (5, .int (nI kbx))] → mG D cI ad zA H0 H locs M → W zp zl ze ({ frames := 52, cells := 0, slots := 0, locals := 1162 } : Room) zs zm zg zb zt zc H locs 0 0 zQ (F0 zm 124 ls []) := by
      intro H locs ls hl G
      refine lv_iload hx hb dX9_seesOf_124 (lv_at hl 4 rfl) ?_
      refine lv_istore (lv' := [(5, .int v4_77x), (0, .ref (ad 0)), (1, .int (nI q)), (2, .int (nI (aN M q))), (3, .int x12), (4, .int v4_77x)]) hx hb dX9_seesOf_126 hl (by decide) rfl (fun ls hl => ?_)
      refine lv_iconst (v := 0) hx hb dX9_seesOf_128 (by decide) ?_
      refine lv_istore (lv' := [(6, .int 0), (5, .int v4_77x), (0, .ref (ad 0)), (1, .int (nI q)), (2, .int (nI (aN M q))), (3, .int x12), (4, .int v4_77x)]) hx hb dX9_seesOf_129 hl (by decide) rfl (fun ls hl => ?_)
      obtain ⟨kcx, v5_131x, hX131⟩ : ∃ (kcx : Nat) (v5_131x : Int32), (kcx, v5_131x) = mF_seesOf_L131 M q v4_77x fu11 0 v4_77x := ⟨_, _, rfl⟩
      rw [lt2_e hX131] at hF
      have hrest131 : ∀ (H : Heap) (locs : List Loc) (ls : Array Slot), lv_has ls 7 [(0, .ref (ad 0)), (1, .int (nI q)), (2, .int (nI (aN M q))), (3, .int x12), (4, .int v4_77x), (5, .int v5_131x), (6, .int (nI kcx))] → mG D cI ad zA H0 H locs M → W zp zl ze ({ frames := 52, cells := 0, slots := 0, locals := 1162 } : Room) zs zm zg zb zt zc H locs 0 0 zQ (F0 zm 190 ls []) := by
        intro H locs ls hl G
        refine lv_iload hx hb dX9_seesOf_190 (lv_at hl 5 rfl) ?_
        exact hret _ _ _ _ _ _ (by rw [hF]) G dX9_seesOf_192
      have hloop131 : ∀ (f : Nat) (kc : Nat) (v5_131 : Int32), (kc ≤ 10 ∧ 10 < kc + f) → (kcx, v5_131x) = mF_seesOf_L131 M q v4_77x f kc v5_131 → ∀ (H : Heap) (locs : List Loc) (ls : Array Slot), lv_has ls 7 [(0, .ref (ad 0)), (1, .int (nI q)), (2, .int (nI (aN M q))), (3, .int x12), (4, .int v4_77x), (5, .int v5_131), (6, .int (nI kc))] → mG D cI ad zA H0 H locs M → W zp zl ze ({ frames := 52, cells := 0, slots := 0, locals := 1162 } : Room) zs zm zg zb zt zc H locs 0 0 zQ (F0 zm 131 ls []) := by
        intro f
        induction f with
        | zero =>
          intro kc v5_131 hI hL131 H locs ls hl G
          exact absurd hI (by omega)
        | succ f ih =>
          intro kc v5_131 hI hL131 H locs ls hl G
          rw [mF_seesOf_L131_s] at hL131
          refine lv_iload hx hb dX9_seesOf_131 (lv_at hl 6 rfl) ?_
          refine lv_aload_n hx hb dX9_seesOf_133 rfl (lv_at hl 0 rfl) ?_
          refine mr_get C G hin 0 (by decide) rfl (show Cond.fieldLink RX9 7 "WheatCountsModel" "row" "[I" ∈ _ by decide +kernel) (fun _ => rfl) dX9_seesOf_134 ?_
          refine lv_iconst (v := 3) hx hb dX9_seesOf_137 (by decide) ?_
          refine mr_ald C G 1 (fun _ => rfl) 3 rfl (by omega) (Nat.le_of_ble_eq_true rfl) dX9_seesOf_138 ?_
          refine lv_icmp_ge (tgt := 190) hx hb dX9_seesOf_139 (by decide) (fun c139 => ?_) (fun c139 => ?_)
          · rw [if_pos c139] at hL131
            cases hL131
            exact hrest131 _ _ _ (lv_sub hl [0, 1, 2, 3, 4, 5, 6] rfl) G
          · rw [if_neg c139] at hL131
            have hk3 := lp_lt hC.1 c139 (by omega)
            refine lv_aload_n hx hb dX9_seesOf_142 rfl (lv_at hl 0 rfl) ?_
            refine lv_iload_n hx hb dX9_seesOf_143 rfl (lv_at hl 1 rfl) ?_
            refine lv_iconst (v := 0) hx hb dX9_seesOf_144 (by decide) ?_
            refine mr_calli C hA G (k_its zl D cI ad M q 0 (by first | assumption | omega)) (cwV 2 C.2.2.2.2.1 gX9_seesOf_X9_its rfl rfl rfl (by decide +kernel) ⟨Nat.le_of_ble_eq_true rfl, Nat.le_of_ble_eq_true rfl⟩) rfl hl.1 rfl (Nat.le_of_ble_eq_true rfl) dX9_seesOf_145 ⟨Nat.le_refl _, Nat.le_refl _⟩ (fun H locs G => ?_)
            refine lv_iconst (v := 5) hx hb dX9_seesOf_148 (by decide) ?_
            refine lv_icmp_ne (tgt := 190) hx hb dX9_seesOf_149 (by decide) (fun c149 => ?_) (fun c149 => ?_)
            · rw [if_neg c149] at hL131
              cases hL131
              exact hrest131 _ _ _ (lv_sub hl [0, 1, 2, 3, 4, 5, 6] rfl) G
            · rw [if_pos c149] at hL131
              refine lv_iload hx hb dX9_seesOf_152 (lv_at hl 5 rfl) ?_
              refine lv_iload hx hb dX9_seesOf_154 (lv_at hl 4 rfl) ?_
              refine lv_iload hx hb dX9_seesOf_156 (lv_at hl 6 rfl) ?_
              refine mr_calls C hA G (ks_has zl v4_77x (nI kc)) (va_cwS 2 C.2.2.2.2.1 gX9_seesOf_X9_has rfl rfl rfl (by decide +kernel) ⟨Nat.le_of_ble_eq_true rfl, Nat.le_of_ble_eq_true rfl⟩) rfl hl.1 rfl (Nat.le_of_ble_eq_true rfl) dX9_seesOf_158 ⟨Nat.le_refl _, Nat.le_refl _⟩ (fun H locs G => ?_)
              obtain ⟨y181, hX181⟩ : ∃ (y181 : Int32), y181 = ((if (sF_has v4_77x (nI kc)) = 0 then 0 else (1 <<< ((((M 1 3) - 1) - (nI kc)) &&& 31))) : Int32) := ⟨_, rfl⟩
              rw [lt_e hX181] at hL131
              have hj181 : ∀ (H : Heap) (locs : List Loc) (ls : Array Slot), lv_has ls 7 [(0, .ref (ad 0)), (1, .int (nI q)), (2, .int (nI (aN M q))), (3, .int x12), (4, .int v4_77x), (5, .int v5_131), (6, .int (nI kc))] → mG D cI ad zA H0 H locs M → W zp zl ze ({ frames := 52, cells := 0, slots := 0, locals := 1162 } : Room) zs zm zg zb zt zc H locs 0 0 zQ (F0 zm 181 ls [.int y181, .int v5_131]) := by
                intro H locs ls hl G
                refine lv_ior hx hb dX9_seesOf_181 ?_
                refine lv_topi (fun x182 hx182 => ?_)
                rw [lt_e hx182] at hL131
                refine lv_istore (lv' := [(5, .int x182), (0, .ref (ad 0)), (1, .int (nI q)), (2, .int (nI (aN M q))), (3, .int x12), (4, .int v4_77x), (6, .int (nI kc))]) hx hb dX9_seesOf_182 hl (by decide) rfl (fun ls hl => ?_)
                refine lv_iinc (v := nI (kc + 1)) (lv' := [(6, .int (nI (kc + 1))), (5, .int x182), (0, .ref (ad 0)), (1, .int (nI q)), (2, .int (nI (aN M q))), (3, .int x12), (4, .int v4_77x)]) hx hb dX9_seesOf_184 hl (k := 6) rfl (nt_add rfl (show (1 : Int32) = nI 1 from rfl)) (by decide) rfl (fun ls hl => ?_)
                refine lv_goto (tgt := 131) hx hb dX9_seesOf_187 (by decide) ?_
                exact ih (kc + 1) x182 ⟨by omega, by omega⟩ hL131 _ _ _ (lv_sub hl [2, 3, 4, 5, 6, 1, 0] rfl) G
              refine lv_if_eq (tgt := 180) hx hb dX9_seesOf_161 (by decide) (fun c161 => ?_) (fun c161 => ?_)
              · rw [if_pos c161] at hX181
                refine lv_iconst (v := 0) hx hb dX9_seesOf_180 (by decide) ?_
                subst hX181
                exact hj181 _ _ _ (lv_sub hl [0, 1, 2, 3, 4, 5, 6] rfl) G
              · rw [if_neg c161] at hX181
                refine lv_iconst (v := 1) hx hb dX9_seesOf_164 (by decide) ?_
                refine lv_aload_n hx hb dX9_seesOf_165 rfl (lv_at hl 0 rfl) ?_
                refine mr_get C G hin 0 (by decide) rfl (show Cond.fieldLink RX9 7 "WheatCountsModel" "row" "[I" ∈ _ by decide +kernel) (fun _ => rfl) dX9_seesOf_166 ?_
                refine lv_iconst (v := 3) hx hb dX9_seesOf_169 (by decide) ?_
                refine mr_ald C G 1 (fun _ => rfl) 3 rfl (by omega) (Nat.le_of_ble_eq_true rfl) dX9_seesOf_170 ?_
                refine lv_iconst (v := 1) hx hb dX9_seesOf_171 (by decide) ?_
                refine lv_isub hx hb dX9_seesOf_172 ?_
                refine lv_iload hx hb dX9_seesOf_173 (lv_at hl 6 rfl) ?_
                refine lv_isub hx hb dX9_seesOf_175 ?_
                refine lv_ishl hx hb dX9_seesOf_176 ?_
                refine lv_goto (tgt := 181) hx hb dX9_seesOf_177 (by decide) ?_
                subst hX181
                exact hj181 _ _ _ (lv_sub hl [0, 1, 2, 3, 4, 5, 6] rfl) G
      exact hloop131 _ _ _ ⟨by omega, by show 10 < _ + 11; omega⟩ hX131 _ _ _ (lv_sub hl [2, 3, 4, 5, 6, 1, 0] rfl) G
    have hloop77 : ∀ (f : Nat) (kb : Nat) (v4_77 : Int32), (kb < f) → (kbx, v4_77x) = mF_seesOf_L77 M q x12 f kb v4_77 → ∀ (H : Heap) (locs : List Loc) (ls : Array Slot), lv_has ls 7 [(0, .ref (ad 0)), (1, .int (nI q)), (2, .int (nI (aN M q))), (3, .int x12), (4, .int v4_77), (5, .int (nI kb))] → mG D cI ad zA H0 H locs M → W zp zl ze ({ frames := 52, cells := 0, slots := 0, locals := 1162 } : Room) zs zm zg zb zt zc H locs 0 0 zQ (F0 zm 77 ls []) := by
      intro f
      induction f with
      | zero =>
        intro kb v4_77 hI hL77 H locs ls hl G
        exact absurd hI (by omega)
      | succ f ih =>
        intro kb v4_77 hI hL77 H locs ls hl G
        rw [mF_seesOf_L77_s] at hL77
        refine lv_iload hx hb dX9_seesOf_77 (lv_at hl 5 rfl) ?_
        refine lv_if_le (tgt := 124) hx hb dX9_seesOf_79 (by decide) (fun c79 => ?_) (fun c79 => ?_)
        · rw [if_pos c79] at hL77
          cases hL77
          exact hrest77 _ _ _ (lv_sub hl [0, 1, 2, 3, 4, 5] rfl) G
        · rw [if_neg c79] at hL77
          have hk2 : 0 < kb := Nat.pos_of_ne_zero (fun e9 => c79 (by rw [e9]; decide))
          refine lv_iload hx hb dX9_seesOf_82 (lv_at hl 5 rfl) ?_
          refine lv_iload_n hx hb dX9_seesOf_84 rfl (lv_at hl 2 rfl) ?_
          refine lv_iload_n hx hb dX9_seesOf_85 rfl (lv_at hl 3 rfl) ?_
          refine lv_isub hx hb dX9_seesOf_86 ?_
          refine lv_icmp_le (tgt := 124) hx hb dX9_seesOf_87 (by decide) (fun c87 => ?_) (fun c87 => ?_)
          · rw [if_pos c87] at hL77
            cases hL77
            exact hrest77 _ _ _ (lv_sub hl [0, 1, 2, 3, 4, 5] rfl) G
          · rw [if_neg c87] at hL77
            refine lv_aload_n hx hb dX9_seesOf_90 rfl (lv_at hl 0 rfl) ?_
            refine mr_get C G hin 0 (by decide) rfl (show Cond.fieldLink RX9 7 "WheatCountsModel" "row" "[I" ∈ _ by decide +kernel) (fun _ => rfl) dX9_seesOf_91 ?_
            refine lv_bipush (v := 9) hx hb dX9_seesOf_94 (by decide) ?_
            refine mr_ald C G 1 (fun _ => rfl) 9 rfl (by omega) (Nat.le_of_ble_eq_true rfl) dX9_seesOf_96 ?_
            refine lv_iload hx hb dX9_seesOf_97 (lv_at hl 5 rfl) ?_
            refine lv_iconst (v := 1) hx hb dX9_seesOf_99 (by decide) ?_
            refine lv_isub hx hb dX9_seesOf_100 ?_
            refine mr_calls C hA G (ks_has zl (M 1 9) ((nI kb) - 1)) (va_cwS 2 C.2.2.2.2.1 gX9_seesOf_X9_has rfl rfl rfl (by decide +kernel) ⟨Nat.le_of_ble_eq_true rfl, Nat.le_of_ble_eq_true rfl⟩) rfl hl.1 rfl (Nat.le_of_ble_eq_true rfl) dX9_seesOf_101 ⟨Nat.le_refl _, Nat.le_refl _⟩ (fun H locs G => ?_)
            refine lv_if_ne (tgt := 124) hx hb dX9_seesOf_104 (by decide) (fun c104 => ?_) (fun c104 => ?_)
            · rw [if_neg c104] at hL77
              cases hL77
              exact hrest77 _ _ _ (lv_sub hl [0, 1, 2, 3, 4, 5] rfl) G
            · rw [if_pos c104] at hL77
              refine lv_iload hx hb dX9_seesOf_107 (lv_at hl 4 rfl) ?_
              refine lv_iconst (v := 1) hx hb dX9_seesOf_109 (by decide) ?_
              refine lv_iload hx hb dX9_seesOf_110 (lv_at hl 5 rfl) ?_
              refine lv_iconst (v := 1) hx hb dX9_seesOf_112 (by decide) ?_
              refine lv_isub hx hb dX9_seesOf_113 ?_
              refine lv_ishl hx hb dX9_seesOf_114 ?_
              refine lv_ior hx hb dX9_seesOf_115 ?_
              refine lv_topi (fun x116 hx116 => ?_)
              rw [lt_e hx116] at hL77
              refine lv_istore (lv' := [(4, .int x116), (0, .ref (ad 0)), (1, .int (nI q)), (2, .int (nI (aN M q))), (3, .int x12), (5, .int (nI kb))]) hx hb dX9_seesOf_116 hl (by decide) rfl (fun ls hl => ?_)
              refine lv_iinc (v := nI (kb - 1)) (lv' := [(5, .int (nI (kb - 1))), (4, .int x116), (0, .ref (ad 0)), (1, .int (nI q)), (2, .int (nI (aN M q))), (3, .int x12)]) hx hb dX9_seesOf_118 hl (k := 5) rfl (nt_subi rfl (by omega)) (by decide) rfl (fun ls hl => ?_)
              refine lv_goto (tgt := 77) hx hb dX9_seesOf_121 (by decide) ?_
              exact ih (kb - 1) x116 (by omega) hL77 _ _ _ (lv_sub hl [2, 3, 4, 5, 1, 0] rfl) G
    exact hloop77 _ _ _ (by show _ < 11; omega) hX77 _ _ _ (lv_sub hl [1, 2, 3, 4, 5, 0] rfl) G
  have hloop21 : ∀ (f : Nat) (ka : Nat) (v4_21 : Int32), (ka ≤ 10 ∧ 10 < ka + f) → (kax, v4_21x) = mF_seesOf_L21 M q x12 f ka v4_21 → ∀ (H : Heap) (locs : List Loc) (ls : Array Slot), lv_has ls 7 [(0, .ref (ad 0)), (1, .int (nI q)), (2, .int (nI (aN M q))), (3, .int x12), (4, .int v4_21), (5, .int (nI ka))] → mG D cI ad zA H0 H locs M → W zp zl ze ({ frames := 52, cells := 0, slots := 0, locals := 1162 } : Room) zs zm zg zb zt zc H locs 0 0 zQ (F0 zm 21 ls []) := by
    intro f
    induction f with
    | zero =>
      intro ka v4_21 hI hL21 H locs ls hl G
      exact absurd hI (by omega)
    | succ f ih =>
      intro ka v4_21 hI hL21 H locs ls hl G
      rw [mF_seesOf_L21_s] at hL21
      refine lv_iload hx hb dX9_seesOf_21 (lv_at hl 5 rfl) ?_
      refine lv_aload_n hx hb dX9_seesOf_23 rfl (lv_at hl 0 rfl) ?_
      refine mr_get C G hin 0 (by decide) rfl (show Cond.fieldLink RX9 7 "WheatCountsModel" "row" "[I" ∈ _ by decide +kernel) (fun _ => rfl) dX9_seesOf_24 ?_
      refine lv_iconst (v := 3) hx hb dX9_seesOf_27 (by decide) ?_
      refine mr_ald C G 1 (fun _ => rfl) 3 rfl (by omega) (Nat.le_of_ble_eq_true rfl) dX9_seesOf_28 ?_
      refine lv_iconst (v := 1) hx hb dX9_seesOf_29 (by decide) ?_
      refine lv_isub hx hb dX9_seesOf_30 ?_
      refine lv_icmp_ge (tgt := 74) hx hb dX9_seesOf_31 (by decide) (fun c31 => ?_) (fun c31 => ?_)
      · rw [if_pos c31] at hL21
        cases hL21
        exact hrest21 _ _ _ (lv_sub hl [0, 1, 2, 3, 4, 5] rfl) G
      · rw [if_neg c31] at hL21
        have hk1 := lp_lt (nt_sub hC.1 (show (1 : Int32) = nI 1 from rfl) (by omega)) c31 (by omega)
        refine lv_iload hx hb dX9_seesOf_34 (lv_at hl 5 rfl) ?_
        refine lv_iload_n hx hb dX9_seesOf_36 rfl (lv_at hl 2 rfl) ?_
        refine lv_iload_n hx hb dX9_seesOf_37 rfl (lv_at hl 3 rfl) ?_
        refine lv_iadd hx hb dX9_seesOf_38 ?_
        refine lv_icmp_ge (tgt := 74) hx hb dX9_seesOf_39 (by decide) (fun c39 => ?_) (fun c39 => ?_)
        · rw [if_pos c39] at hL21
          cases hL21
          exact hrest21 _ _ _ (lv_sub hl [0, 1, 2, 3, 4, 5] rfl) G
        · rw [if_neg c39] at hL21
          refine lv_aload_n hx hb dX9_seesOf_42 rfl (lv_at hl 0 rfl) ?_
          refine mr_get C G hin 0 (by decide) rfl (show Cond.fieldLink RX9 7 "WheatCountsModel" "row" "[I" ∈ _ by decide +kernel) (fun _ => rfl) dX9_seesOf_43 ?_
          refine lv_bipush (v := 9) hx hb dX9_seesOf_46 (by decide) ?_
          refine mr_ald C G 1 (fun _ => rfl) 9 rfl (by omega) (Nat.le_of_ble_eq_true rfl) dX9_seesOf_48 ?_
          refine lv_iload hx hb dX9_seesOf_49 (lv_at hl 5 rfl) ?_
          refine mr_calls C hA G (ks_has zl (M 1 9) (nI ka)) (va_cwS 2 C.2.2.2.2.1 gX9_seesOf_X9_has rfl rfl rfl (by decide +kernel) ⟨Nat.le_of_ble_eq_true rfl, Nat.le_of_ble_eq_true rfl⟩) rfl hl.1 rfl (Nat.le_of_ble_eq_true rfl) dX9_seesOf_51 ⟨Nat.le_refl _, Nat.le_refl _⟩ (fun H locs G => ?_)
          refine lv_if_ne (tgt := 74) hx hb dX9_seesOf_54 (by decide) (fun c54 => ?_) (fun c54 => ?_)
          · rw [if_neg c54] at hL21
            cases hL21
            exact hrest21 _ _ _ (lv_sub hl [0, 1, 2, 3, 4, 5] rfl) G
          · rw [if_pos c54] at hL21
            refine lv_iload hx hb dX9_seesOf_57 (lv_at hl 4 rfl) ?_
            refine lv_iconst (v := 1) hx hb dX9_seesOf_59 (by decide) ?_
            refine lv_iload hx hb dX9_seesOf_60 (lv_at hl 5 rfl) ?_
            refine lv_iconst (v := 1) hx hb dX9_seesOf_62 (by decide) ?_
            refine lv_iadd hx hb dX9_seesOf_63 ?_
            refine lv_ishl hx hb dX9_seesOf_64 ?_
            refine lv_ior hx hb dX9_seesOf_65 ?_
            refine lv_topi (fun x66 hx66 => ?_)
            rw [lt_e hx66] at hL21
            refine lv_istore (lv' := [(4, .int x66), (0, .ref (ad 0)), (1, .int (nI q)), (2, .int (nI (aN M q))), (3, .int x12), (5, .int (nI ka))]) hx hb dX9_seesOf_66 hl (by decide) rfl (fun ls hl => ?_)
            refine lv_iinc (v := nI (ka + 1)) (lv' := [(5, .int (nI (ka + 1))), (4, .int x66), (0, .ref (ad 0)), (1, .int (nI q)), (2, .int (nI (aN M q))), (3, .int x12)]) hx hb dX9_seesOf_68 hl (k := 5) rfl (nt_add rfl (show (1 : Int32) = nI 1 from rfl)) (by decide) rfl (fun ls hl => ?_)
            refine lv_goto (tgt := 21) hx hb dX9_seesOf_71 (by decide) ?_
            exact ih (ka + 1) x66 ⟨by omega, by omega⟩ hL21 _ _ _ (lv_sub hl [2, 3, 4, 5, 1, 0] rfl) G
  exact hloop21 _ _ _ ⟨by omega, by show 10 < _ + 11; omega⟩ hX21 _ _ _ (lv_sub hl [4, 5, 3, 2, 1, 0] rfl) G
set_option maxRecDepth 100000 in
set_option maxHeartbeats 4000000 in
theorem k_takes (zl : Launch) (D : va_G) (cI : ClassId) (ad : Nat → Nat) (M : mS) (q : Nat) (hR : rOK M) (hq : q < 8) : mM zl D cI ad yX9_takes wsX9_takes ({ frames := 51, cells := 0, slots := 0, locals := 1140 } : Room) [.int (nI q)] M ((mF_takes M q, M)) := by
  have hin : ∀ w ∈ wsX90, w ∈ wsX9_takes := fun w h => List.mem_cons_of_mem _ (List.mem_append_right _ h)
  refine mM_of (cc := cX9_takes) (nL := 4) (by decide) rfl rfl (Nat.le_of_ble_eq_true rfl) ?_
  intro zp ze zs zm zg zb zt zc zA H0 zQ C hA hret H locs ls hl G
  have hx := C.1
  have hb := C.2.1
  have hl : lv_has ls 4 [(0, .ref (ad 0)), (1, .int (nI q))] := hl
  obtain ⟨rM, hF⟩ : ∃ X : Int32, X = mF_takes M q := ⟨_, rfl⟩
  rw [← hF] at hret
  unfold mF_takes at hF
  have hC := hR.1
  have hP := hR.2.1
  have hK := hR.2.2.1
  have hA9 := hR.2.2.2.1
  have hS := hR.2.2.2.2
  have hC2 := hC.2.1
  have hC3 := hC.2.2
  have hP2 := hP.2
  have hA2 : aN M q < 10 := (hA9 q hq).2
  refine lv_aload_n hx hb dX9_takes_0 rfl (lv_at hl 0 rfl) ?_
  refine lv_iload_n hx hb dX9_takes_1 rfl (lv_at hl 1 rfl) ?_
  refine lv_iconst (v := 0) hx hb dX9_takes_2 (by decide) ?_
  refine mr_calli C hA G (k_its zl D cI ad M q 0 (by first | assumption | omega)) (cwV 2 C.2.2.2.2.1 gX9_takes_X9_its rfl rfl rfl (by decide +kernel) ⟨Nat.le_of_ble_eq_true rfl, Nat.le_of_ble_eq_true rfl⟩) rfl hl.1 rfl (Nat.le_of_ble_eq_true rfl) dX9_takes_3 ⟨Nat.le_refl _, Nat.le_refl _⟩ (fun H locs G => ?_)
  refine lv_topi (fun x6 hx6 => ?_)
  rw [lt_e hx6] at hF
  refine lv_istore_n (lv' := [(2, .int x6), (0, .ref (ad 0)), (1, .int (nI q))]) hx hb dX9_takes_6 rfl hl (by decide) rfl (fun ls hl => ?_)
  refine lv_iload_n hx hb dX9_takes_7 rfl (lv_at hl 0 rfl) ?_
  refine lv_iconst (v := 3) hx hb dX9_takes_8 (by decide) ?_
  refine lv_icmp_eq (tgt := 20) hx hb dX9_takes_9 (by decide) (fun c9 => ?_) (fun c9 => ?_)
  · rw [if_pos c9] at hF
    refine lv_aload_n hx hb dX9_takes_20 rfl (lv_at hl 1 rfl) ?_
    refine lv_iconst (v := 1) hx hb dX9_takes_21 (by decide) ?_
    refine lv_aload_n hx hb dX9_takes_22 rfl (lv_at hl 1 rfl) ?_
    refine lv_iload_n hx hb dX9_takes_23 rfl (lv_at hl 2 rfl) ?_
    refine lv_iconst (v := 1) hx hb dX9_takes_24 (by decide) ?_
    refine mr_calli C hA G (k_its zl D cI ad M q 1 (by first | assumption | omega)) (cwV 2 C.2.2.2.2.1 gX9_takes_X9_its rfl rfl rfl (by decide +kernel) ⟨Nat.le_of_ble_eq_true rfl, Nat.le_of_ble_eq_true rfl⟩) rfl hl.1 rfl (Nat.le_of_ble_eq_true rfl) dX9_takes_25 ⟨Nat.le_refl _, Nat.le_refl _⟩ (fun H locs G => ?_)
    refine lv_aload_n hx hb dX9_takes_28 rfl (lv_at hl 1 rfl) ?_
    refine mr_get C G hin 0 (by decide) rfl (show Cond.fieldLink RX9 7 "WheatCountsModel" "row" "[I" ∈ _ by decide +kernel) (fun _ => rfl) dX9_takes_29 ?_
    refine lv_bipush (v := 12) hx hb dX9_takes_32 (by decide) ?_
    refine lv_aload_n hx hb dX9_takes_34 rfl (lv_at hl 1 rfl) ?_
    refine lv_iload_n hx hb dX9_takes_35 rfl (lv_at hl 2 rfl) ?_
    refine lv_iconst (v := 2) hx hb dX9_takes_36 (by decide) ?_
    refine mr_calli C hA G (k_its zl D cI ad M q 2 (by first | assumption | omega)) (cwV 2 C.2.2.2.2.1 gX9_takes_X9_its rfl rfl rfl (by decide +kernel) ⟨Nat.le_of_ble_eq_true rfl, Nat.le_of_ble_eq_true rfl⟩) rfl hl.1 rfl (Nat.le_of_ble_eq_true rfl) dX9_takes_37 ⟨Nat.le_refl _, Nat.le_refl _⟩ (fun H locs G => ?_)
    refine lv_iadd hx hb dX9_takes_40 ?_
    refine mr_ald C G 1 (fun _ => rfl) (12 + (aN M q)) (nt_add rfl (hA9 q hq).1) (by omega) (Nat.le_of_ble_eq_true rfl) dX9_takes_41 ?_
    refine lv_aload_n hx hb dX9_takes_42 rfl (lv_at hl 1 rfl) ?_
    refine mr_get C G hin 0 (by decide) rfl (show Cond.fieldLink RX9 7 "WheatCountsModel" "row" "[I" ∈ _ by decide +kernel) (fun _ => rfl) dX9_takes_43 ?_
    refine lv_iconst (v := 0) hx hb dX9_takes_46 (by decide) ?_
    refine mr_ald C G 1 (fun _ => rfl) 0 rfl (by omega) (Nat.le_of_ble_eq_true rfl) dX9_takes_47 ?_
    refine mr_calli C hA G (k_lawOf zl D cI ad M 1 (mF_its M q 1) (M 1 (12 + (aN M q))) (M 1 0) (by decide) hS) (cwV 4 C.2.2.2.2.1 gX9_takes_X9_lawOf rfl rfl rfl (by decide +kernel) ⟨Nat.le_of_ble_eq_true rfl, Nat.le_of_ble_eq_true rfl⟩) rfl hl.1 rfl (Nat.le_of_ble_eq_true rfl) dX9_takes_48 ⟨Nat.le_refl _, Nat.le_refl _⟩ (fun H locs G => ?_)
    refine lv_topi (fun x51 hx51 => ?_)
    rw [lt_e hx51] at hF
    refine lv_istore_n (lv' := [(3, .int x51), (2, .int x6), (0, .ref (ad 0)), (1, .int (nI q))]) hx hb dX9_takes_51 rfl hl (by decide) rfl (fun ls hl => ?_)
    refine lv_iload_n hx hb dX9_takes_52 rfl (lv_at hl 1 rfl) ?_
    refine lv_iconst (v := 3) hx hb dX9_takes_53 (by decide) ?_
    refine lv_icmp_ne (tgt := 61) hx hb dX9_takes_54 (by decide) (fun c54 => ?_) (fun c54 => ?_)
    · rw [if_neg c54] at hF
      refine lv_iload_n hx hb dX9_takes_61 rfl (lv_at hl 0 rfl) ?_
      refine lv_iconst (v := 2) hx hb dX9_takes_62 (by decide) ?_
      refine lv_idiv hx hb dX9_takes_63 (by decide) ?_
      exact hret _ _ _ _ _ _ (by rw [hF]) G dX9_takes_64
    · rw [if_pos c54] at hF
      refine lv_iload_n hx hb dX9_takes_57 rfl (lv_at hl 0 rfl) ?_
      refine lv_goto (tgt := 64) hx hb dX9_takes_58 (by decide) ?_
      exact hret _ _ _ _ _ _ (by rw [hF]) G dX9_takes_64
  · rw [if_neg c9] at hF
    refine lv_iload_n hx hb dX9_takes_12 rfl (lv_at hl 0 rfl) ?_
    refine lv_bipush (v := 6) hx hb dX9_takes_13 (by decide) ?_
    refine lv_icmp_eq (tgt := 20) hx hb dX9_takes_15 (by decide) (fun c15 => ?_) (fun c15 => ?_)
    · rw [if_pos c15] at hF
      refine lv_aload_n hx hb dX9_takes_20 rfl (lv_at hl 1 rfl) ?_
      refine lv_iconst (v := 1) hx hb dX9_takes_21 (by decide) ?_
      refine lv_aload_n hx hb dX9_takes_22 rfl (lv_at hl 1 rfl) ?_
      refine lv_iload_n hx hb dX9_takes_23 rfl (lv_at hl 2 rfl) ?_
      refine lv_iconst (v := 1) hx hb dX9_takes_24 (by decide) ?_
      refine mr_calli C hA G (k_its zl D cI ad M q 1 (by first | assumption | omega)) (cwV 2 C.2.2.2.2.1 gX9_takes_X9_its rfl rfl rfl (by decide +kernel) ⟨Nat.le_of_ble_eq_true rfl, Nat.le_of_ble_eq_true rfl⟩) rfl hl.1 rfl (Nat.le_of_ble_eq_true rfl) dX9_takes_25 ⟨Nat.le_refl _, Nat.le_refl _⟩ (fun H locs G => ?_)
      refine lv_aload_n hx hb dX9_takes_28 rfl (lv_at hl 1 rfl) ?_
      refine mr_get C G hin 0 (by decide) rfl (show Cond.fieldLink RX9 7 "WheatCountsModel" "row" "[I" ∈ _ by decide +kernel) (fun _ => rfl) dX9_takes_29 ?_
      refine lv_bipush (v := 12) hx hb dX9_takes_32 (by decide) ?_
      refine lv_aload_n hx hb dX9_takes_34 rfl (lv_at hl 1 rfl) ?_
      refine lv_iload_n hx hb dX9_takes_35 rfl (lv_at hl 2 rfl) ?_
      refine lv_iconst (v := 2) hx hb dX9_takes_36 (by decide) ?_
      refine mr_calli C hA G (k_its zl D cI ad M q 2 (by first | assumption | omega)) (cwV 2 C.2.2.2.2.1 gX9_takes_X9_its rfl rfl rfl (by decide +kernel) ⟨Nat.le_of_ble_eq_true rfl, Nat.le_of_ble_eq_true rfl⟩) rfl hl.1 rfl (Nat.le_of_ble_eq_true rfl) dX9_takes_37 ⟨Nat.le_refl _, Nat.le_refl _⟩ (fun H locs G => ?_)
      refine lv_iadd hx hb dX9_takes_40 ?_
      refine mr_ald C G 1 (fun _ => rfl) (12 + (aN M q)) (nt_add rfl (hA9 q hq).1) (by omega) (Nat.le_of_ble_eq_true rfl) dX9_takes_41 ?_
      refine lv_aload_n hx hb dX9_takes_42 rfl (lv_at hl 1 rfl) ?_
      refine mr_get C G hin 0 (by decide) rfl (show Cond.fieldLink RX9 7 "WheatCountsModel" "row" "[I" ∈ _ by decide +kernel) (fun _ => rfl) dX9_takes_43 ?_
      refine lv_iconst (v := 0) hx hb dX9_takes_46 (by decide) ?_
      refine mr_ald C G 1 (fun _ => rfl) 0 rfl (by omega) (Nat.le_of_ble_eq_true rfl) dX9_takes_47 ?_
      refine mr_calli C hA G (k_lawOf zl D cI ad M 1 (mF_its M q 1) (M 1 (12 + (aN M q))) (M 1 0) (by decide) hS) (cwV 4 C.2.2.2.2.1 gX9_takes_X9_lawOf rfl rfl rfl (by decide +kernel) ⟨Nat.le_of_ble_eq_true rfl, Nat.le_of_ble_eq_true rfl⟩) rfl hl.1 rfl (Nat.le_of_ble_eq_true rfl) dX9_takes_48 ⟨Nat.le_refl _, Nat.le_refl _⟩ (fun H locs G => ?_)
      refine lv_topi (fun x51 hx51 => ?_)
      rw [lt_e hx51] at hF
      refine lv_istore_n (lv' := [(3, .int x51), (2, .int x6), (0, .ref (ad 0)), (1, .int (nI q))]) hx hb dX9_takes_51 rfl hl (by decide) rfl (fun ls hl => ?_)
      refine lv_iload_n hx hb dX9_takes_52 rfl (lv_at hl 1 rfl) ?_
      refine lv_iconst (v := 3) hx hb dX9_takes_53 (by decide) ?_
      refine lv_icmp_ne (tgt := 61) hx hb dX9_takes_54 (by decide) (fun c54 => ?_) (fun c54 => ?_)
      · rw [if_neg c54] at hF
        refine lv_iload_n hx hb dX9_takes_61 rfl (lv_at hl 0 rfl) ?_
        refine lv_iconst (v := 2) hx hb dX9_takes_62 (by decide) ?_
        refine lv_idiv hx hb dX9_takes_63 (by decide) ?_
        exact hret _ _ _ _ _ _ (by rw [hF]) G dX9_takes_64
      · rw [if_pos c54] at hF
        refine lv_iload_n hx hb dX9_takes_57 rfl (lv_at hl 0 rfl) ?_
        refine lv_goto (tgt := 64) hx hb dX9_takes_58 (by decide) ?_
        exact hret _ _ _ _ _ _ (by rw [hF]) G dX9_takes_64
    · rw [if_neg c15] at hF
      refine lv_iconst (v := 0) hx hb dX9_takes_18 (by decide) ?_
      exact hret _ _ _ _ _ _ (by rw [hF]) G dX9_takes_19
set_option maxRecDepth 100000 in
set_option maxHeartbeats 4000000 in
theorem k_takesAndGoes (zl : Launch) (D : va_G) (cI : ClassId) (ad : Nat → Nat) (M : mS) (q : Nat) (hR : rOK M) (hq : q < 8) : mMv zl D cI ad yX9_takesAndGoes wsX9_takesAndGoes ({ frames := 52, cells := 0, slots := 0, locals := 1163 } : Room) [.int (nI q)] M (mF_takesAndGoes M q) := by
  have hin : ∀ w ∈ wsX90, w ∈ wsX9_takesAndGoes := fun w h => List.mem_cons_of_mem _ (List.mem_append_right _ h)
  refine mMv_of (cc := cX9_takesAndGoes) (nL := 5) (by decide) rfl rfl (Nat.le_of_ble_eq_true rfl) ?_
  intro zp ze zs zm zg zb zt zc zA H0 zQ C hA hret H locs ls hl G
  have hx := C.1
  have hb := C.2.1
  have hl : lv_has ls 5 [(0, .ref (ad 0)), (1, .int (nI q))] := hl
  obtain ⟨rM, hF⟩ : ∃ X : mS, X = mF_takesAndGoes M q := ⟨_, rfl⟩
  rw [← hF] at hret
  unfold mF_takesAndGoes at hF
  have hC := hR.1
  have hP := hR.2.1
  have hK := hR.2.2.1
  have hA9 := hR.2.2.2.1
  have hS := hR.2.2.2.2
  have hC2 := hC.2.1
  have hC3 := hC.2.2
  have hP2 := hP.2
  have hA2 : aN M q < 10 := (hA9 q hq).2
  refine lv_bipush (v := 12) hx hb dX9_takesAndGoes_0 (by decide) ?_
  refine lv_aload_n hx hb dX9_takesAndGoes_2 rfl (lv_at hl 0 rfl) ?_
  refine lv_iload_n hx hb dX9_takesAndGoes_3 rfl (lv_at hl 1 rfl) ?_
  refine lv_iconst (v := 2) hx hb dX9_takesAndGoes_4 (by decide) ?_
  refine mr_calli C hA G (k_its zl D cI ad M q 2 (by first | assumption | omega)) (cwV 2 C.2.2.2.2.1 gX9_takesAndGoes_X9_its rfl rfl rfl (by decide +kernel) ⟨Nat.le_of_ble_eq_true rfl, Nat.le_of_ble_eq_true rfl⟩) rfl hl.1 rfl (Nat.le_of_ble_eq_true rfl) dX9_takesAndGoes_5 ⟨Nat.le_refl _, Nat.le_refl _⟩ (fun H locs G => ?_)
  refine lv_iadd hx hb dX9_takesAndGoes_8 ?_
  refine lv_topi (fun x9 hx9 => ?_)
  obtain rfl : x9 = nI (12 + (aN M q)) := hx9.trans (nt_add rfl (hA9 q hq).1)
  refine lv_istore_n (lv' := [(2, .int (nI (12 + (aN M q)))), (0, .ref (ad 0)), (1, .int (nI q))]) hx hb dX9_takesAndGoes_9 rfl hl (by decide) rfl (fun ls hl => ?_)
  refine lv_aload_n hx hb dX9_takesAndGoes_10 rfl (lv_at hl 1 rfl) ?_
  refine lv_iload_n hx hb dX9_takesAndGoes_11 rfl (lv_at hl 2 rfl) ?_
  refine mr_calli C hA G (k_takes zl D cI ad M q (by first | assumption | omega) (by first | assumption | omega)) (cwV 1 C.2.2.2.2.1 gX9_takesAndGoes_X9_takes rfl rfl rfl (by decide +kernel) ⟨Nat.le_of_ble_eq_true rfl, Nat.le_of_ble_eq_true rfl⟩) rfl hl.1 rfl (Nat.le_of_ble_eq_true rfl) dX9_takesAndGoes_12 ⟨Nat.le_refl _, Nat.le_refl _⟩ (fun H locs G => ?_)
  refine lv_topi (fun x15 hx15 => ?_)
  rw [lt_e hx15] at hF
  refine lv_istore_n (lv' := [(3, .int x15), (2, .int (nI (12 + (aN M q)))), (0, .ref (ad 0)), (1, .int (nI q))]) hx hb dX9_takesAndGoes_15 rfl hl (by decide) rfl (fun ls hl => ?_)
  refine lv_iload_n hx hb dX9_takesAndGoes_16 rfl (lv_at hl 0 rfl) ?_
  refine lv_aload_n hx hb dX9_takesAndGoes_17 rfl (lv_at hl 2 rfl) ?_
  refine mr_get C G hin 0 (by decide) rfl (show Cond.fieldLink RX9 7 "WheatCountsModel" "row" "[I" ∈ _ by decide +kernel) (fun _ => rfl) dX9_takesAndGoes_18 ?_
  refine lv_iload_n hx hb dX9_takesAndGoes_21 rfl (lv_at hl 1 rfl) ?_
  refine mr_ald C G 1 (fun _ => rfl) (12 + (aN M q)) rfl (by omega) (Nat.le_of_ble_eq_true rfl) dX9_takesAndGoes_22 ?_
  obtain ⟨y36, hX36⟩ : ∃ (y36 : Int32), y36 = ((if x15 ≤ (M 1 (12 + (aN M q))) then x15 else (M 1 (12 + (aN M q)))) : Int32) := ⟨_, rfl⟩
  rw [lt_e hX36] at hF
  have hj36 : ∀ (H : Heap) (locs : List Loc) (ls : Array Slot), lv_has ls 5 [(0, .ref (ad 0)), (1, .int (nI q)), (2, .int (nI (12 + (aN M q)))), (3, .int x15)] → mG D cI ad zA H0 H locs M → W zp zl ze ({ frames := 52, cells := 0, slots := 0, locals := 1163 } : Room) zs zm zg zb zt zc H locs 0 0 zQ (F0 zm 36 ls [.int y36]) := by
    intro H locs ls hl G
    refine lv_istore_n (lv' := [(3, .int y36), (0, .ref (ad 0)), (1, .int (nI q)), (2, .int (nI (12 + (aN M q))))]) hx hb dX9_takesAndGoes_36 rfl hl (by decide) rfl (fun ls hl => ?_)
    refine lv_aload_n hx hb dX9_takesAndGoes_37 rfl (lv_at hl 1 rfl) ?_
    refine mr_get C G hin 0 (by decide) rfl (show Cond.fieldLink RX9 7 "WheatCountsModel" "row" "[I" ∈ _ by decide +kernel) (fun _ => rfl) dX9_takesAndGoes_38 ?_
    refine lv_iload_n hx hb dX9_takesAndGoes_41 rfl (lv_at hl 3 rfl) ?_
    refine lv_dup2_11 hx hb dX9_takesAndGoes_42 rfl rfl ?_
    refine mr_ald C G 1 (fun _ => rfl) (12 + (aN M q)) rfl (by omega) (Nat.le_of_ble_eq_true rfl) dX9_takesAndGoes_43 ?_
    refine lv_iload_n hx hb dX9_takesAndGoes_44 rfl (lv_at hl 0 rfl) ?_
    refine lv_isub hx hb dX9_takesAndGoes_45 ?_
    refine mr_ast C G 1 (fun _ => rfl) (12 + (aN M q)) rfl (by omega) (Nat.le_of_ble_eq_true rfl) (fun _ => rfl) dX9_takesAndGoes_46 (fun H locs G => ?_)
    obtain ⟨M46, hM46⟩ : ∃ X : mS, X = mU M 1 (12 + (aN M q)) ((M 1 (12 + (aN M q))) - y36) := ⟨_, rfl⟩
    rw [← hM46] at G
    rw [lt_e hM46] at hF
    refine lv_aload_n hx hb dX9_takesAndGoes_47 rfl (lv_at hl 1 rfl) ?_
    refine mr_get C G hin 0 (by decide) rfl (show Cond.fieldLink RX9 7 "WheatCountsModel" "row" "[I" ∈ _ by decide +kernel) (fun _ => rfl) dX9_takesAndGoes_48 ?_
    refine lv_bipush (v := 11) hx hb dX9_takesAndGoes_51 (by decide) ?_
    refine lv_aload_n hx hb dX9_takesAndGoes_53 rfl (lv_at hl 1 rfl) ?_
    refine mr_get C G hin 0 (by decide) rfl (show Cond.fieldLink RX9 7 "WheatCountsModel" "row" "[I" ∈ _ by decide +kernel) (fun _ => rfl) dX9_takesAndGoes_54 ?_
    refine lv_bipush (v := 11) hx hb dX9_takesAndGoes_57 (by decide) ?_
    refine mr_ald C G 1 (fun _ => rfl) 11 rfl (by omega) (Nat.le_of_ble_eq_true rfl) dX9_takesAndGoes_59 ?_
    refine lv_iload_n hx hb dX9_takesAndGoes_60 rfl (lv_at hl 0 rfl) ?_
    refine lv_iadd hx hb dX9_takesAndGoes_61 ?_
    refine lv_iconst (v := 0) hx hb dX9_takesAndGoes_62 (by decide) ?_
    refine lv_ldc (v := 99999) hx hb C.2.2.2.1 (C.2.2.2.2.1 (.constant RX9 72 (99999)) (by decide +kernel)) dX9_takesAndGoes_63 ?_
    refine mr_calls C hA G (ks_held zl ((M46 1 11) + y36) 0 99999) (va_cwS 3 C.2.2.2.2.1 gX9_takesAndGoes_X9_held rfl rfl rfl (by decide +kernel) ⟨Nat.le_of_ble_eq_true rfl, Nat.le_of_ble_eq_true rfl⟩) rfl hl.1 rfl (Nat.le_of_ble_eq_true rfl) dX9_takesAndGoes_65 ⟨Nat.le_refl _, Nat.le_refl _⟩ (fun H locs G => ?_)
    refine mr_ast C G 1 (fun _ => rfl) 11 rfl (by omega) (Nat.le_of_ble_eq_true rfl) (fun _ => rfl) dX9_takesAndGoes_68 (fun H locs G => ?_)
    obtain ⟨M68, hM68⟩ : ∃ X : mS, X = mU M46 1 11 (sF_held ((M46 1 11) + y36) 0 99999) := ⟨_, rfl⟩
    rw [← hM68] at G
    rw [lt_e hM68] at hF
    refine lv_aload_n hx hb dX9_takesAndGoes_69 rfl (lv_at hl 1 rfl) ?_
    refine lv_iload_n hx hb dX9_takesAndGoes_70 rfl (lv_at hl 2 rfl) ?_
    refine lv_iconst (v := 2) hx hb dX9_takesAndGoes_71 (by decide) ?_
    refine mr_calli C hA G (k_its zl D cI ad M68 q 2 (by first | assumption | omega)) (cwV 2 C.2.2.2.2.1 gX9_takesAndGoes_X9_its rfl rfl rfl (by decide +kernel) ⟨Nat.le_of_ble_eq_true rfl, Nat.le_of_ble_eq_true rfl⟩) rfl hl.1 rfl (Nat.le_of_ble_eq_true rfl) dX9_takesAndGoes_72 ⟨Nat.le_refl _, Nat.le_refl _⟩ (fun H locs G => ?_)
    refine lv_aload_n hx hb dX9_takesAndGoes_75 rfl (lv_at hl 1 rfl) ?_
    refine lv_iload_n hx hb dX9_takesAndGoes_76 rfl (lv_at hl 2 rfl) ?_
    refine lv_iconst (v := 3) hx hb dX9_takesAndGoes_77 (by decide) ?_
    refine mr_calli C hA G (k_its zl D cI ad M68 q 3 (by first | assumption | omega)) (cwV 2 C.2.2.2.2.1 gX9_takesAndGoes_X9_its rfl rfl rfl (by decide +kernel) ⟨Nat.le_of_ble_eq_true rfl, Nat.le_of_ble_eq_true rfl⟩) rfl hl.1 rfl (Nat.le_of_ble_eq_true rfl) dX9_takesAndGoes_78 ⟨Nat.le_refl _, Nat.le_refl _⟩ (fun H locs G => ?_)
    refine lv_iadd hx hb dX9_takesAndGoes_81 ?_
    refine lv_topi (fun x82 hx82 => ?_)
    rw [lt_e hx82] at hF
    refine lv_istore (lv' := [(4, .int x82), (3, .int y36), (0, .ref (ad 0)), (1, .int (nI q)), (2, .int (nI (12 + (aN M q))))]) hx hb dX9_takesAndGoes_82 hl (by decide) rfl (fun ls hl => ?_)
    refine lv_aload_n hx hb dX9_takesAndGoes_84 rfl (lv_at hl 2 rfl) ?_
    refine lv_iload hx hb dX9_takesAndGoes_85 (lv_at hl 0 rfl) ?_
    refine mr_calli C hA G (k_isCell zl D cI ad M68 x82) (cwV 1 C.2.2.2.2.1 gX9_takesAndGoes_X9_isCell rfl rfl rfl (by decide +kernel) ⟨Nat.le_of_ble_eq_true rfl, Nat.le_of_ble_eq_true rfl⟩) rfl hl.1 rfl (Nat.le_of_ble_eq_true rfl) dX9_takesAndGoes_87 ⟨Nat.le_refl _, Nat.le_refl _⟩ (fun H locs G => ?_)
    obtain ⟨M117, hX117⟩ : ∃ (M117 : mS), M117 = ((if (mF_isCell M68 x82) = 0 then (lt (mF_gets M68 q 3 (-(mF_its M68 q 3))) fun (M114 : mS) => M114) else (lt (mF_gets M68 q 2 x82) fun (M98 : mS) => M98)) : mS) := ⟨_, rfl⟩
    rw [lt_e hX117] at hF
    have hj117 : ∀ (H : Heap) (locs : List Loc) (ls : Array Slot), lv_has ls 5 [(0, .ref (ad 0)), (1, .int (nI q)), (2, .int (nI (12 + (aN M q)))), (3, .int y36), (4, .int x82)] → mG D cI ad zA H0 H locs M117 → W zp zl ze ({ frames := 52, cells := 0, slots := 0, locals := 1163 } : Room) zs zm zg zb zt zc H locs 0 0 zQ (F0 zm 117 ls []) := by
      intro H locs ls hl G
      exact hret _ _ _ _ _ hF G dX9_takesAndGoes_117
    refine lv_if_eq (tgt := 104) hx hb dX9_takesAndGoes_90 (by decide) (fun c90 => ?_) (fun c90 => ?_)
    · rw [if_pos c90] at hX117
      refine lv_aload_n hx hb dX9_takesAndGoes_104 rfl (lv_at hl 2 rfl) ?_
      refine lv_iload_n hx hb dX9_takesAndGoes_105 rfl (lv_at hl 3 rfl) ?_
      refine lv_iconst (v := 3) hx hb dX9_takesAndGoes_106 (by decide) ?_
      refine lv_aload_n hx hb dX9_takesAndGoes_107 rfl (lv_at hl 2 rfl) ?_
      refine lv_iload_n hx hb dX9_takesAndGoes_108 rfl (lv_at hl 3 rfl) ?_
      refine lv_iconst (v := 3) hx hb dX9_takesAndGoes_109 (by decide) ?_
      refine mr_calli C hA G (k_its zl D cI ad M68 q 3 (by first | assumption | omega)) (cwV 2 C.2.2.2.2.1 gX9_takesAndGoes_X9_its rfl rfl rfl (by decide +kernel) ⟨Nat.le_of_ble_eq_true rfl, Nat.le_of_ble_eq_true rfl⟩) rfl hl.1 rfl (Nat.le_of_ble_eq_true rfl) dX9_takesAndGoes_110 ⟨Nat.le_refl _, Nat.le_refl _⟩ (fun H locs G => ?_)
      refine lv_ineg hx hb dX9_takesAndGoes_113 ?_
      refine mr_callv C hA G (k_gets zl D cI ad M68 q 3 (-(mF_its M68 q 3)) (by first | assumption | omega)) (cwV 3 C.2.2.2.2.1 gX9_takesAndGoes_X9_gets rfl rfl rfl (by decide +kernel) ⟨Nat.le_of_ble_eq_true rfl, Nat.le_of_ble_eq_true rfl⟩) rfl hl.1 rfl (Nat.le_of_ble_eq_true rfl) dX9_takesAndGoes_114 ⟨Nat.le_refl _, Nat.le_refl _⟩ (fun H locs G => ?_)
      obtain ⟨M114, hM114⟩ : ∃ X : mS, X = mF_gets M68 q 3 (-(mF_its M68 q 3)) := ⟨_, rfl⟩
      rw [← hM114] at G
      rw [lt_e hM114] at hX117
      subst hX117
      exact hj117 _ _ _ (lv_sub hl [2, 3, 4, 1, 0] rfl) G
    · rw [if_neg c90] at hX117
      refine lv_aload_n hx hb dX9_takesAndGoes_93 rfl (lv_at hl 2 rfl) ?_
      refine lv_iload_n hx hb dX9_takesAndGoes_94 rfl (lv_at hl 3 rfl) ?_
      refine lv_iconst (v := 2) hx hb dX9_takesAndGoes_95 (by decide) ?_
      refine lv_iload hx hb dX9_takesAndGoes_96 (lv_at hl 0 rfl) ?_
      refine mr_callv C hA G (k_gets zl D cI ad M68 q 2 x82 (by first | assumption | omega)) (cwV 3 C.2.2.2.2.1 gX9_takesAndGoes_X9_gets rfl rfl rfl (by decide +kernel) ⟨Nat.le_of_ble_eq_true rfl, Nat.le_of_ble_eq_true rfl⟩) rfl hl.1 rfl (Nat.le_of_ble_eq_true rfl) dX9_takesAndGoes_98 ⟨Nat.le_refl _, Nat.le_refl _⟩ (fun H locs G => ?_)
      obtain ⟨M98, hM98⟩ : ∃ X : mS, X = mF_gets M68 q 2 x82 := ⟨_, rfl⟩
      rw [← hM98] at G
      rw [lt_e hM98] at hX117
      refine lv_goto (tgt := 117) hx hb dX9_takesAndGoes_101 (by decide) ?_
      subst hX117
      exact hj117 _ _ _ (lv_sub hl [2, 3, 4, 1, 0] rfl) G
  refine lv_icmp_le (tgt := 35) hx hb dX9_takesAndGoes_23 (by decide) (fun c23 => ?_) (fun c23 => ?_)
  · rw [if_pos c23] at hX36
    refine lv_iload_n hx hb dX9_takesAndGoes_35 rfl (lv_at hl 0 rfl) ?_
    subst hX36
    exact hj36 _ _ _ (lv_sub hl [2, 3, 1, 0] rfl) G
  · rw [if_neg c23] at hX36
    refine lv_aload_n hx hb dX9_takesAndGoes_26 rfl (lv_at hl 2 rfl) ?_
    refine mr_get C G hin 0 (by decide) rfl (show Cond.fieldLink RX9 7 "WheatCountsModel" "row" "[I" ∈ _ by decide +kernel) (fun _ => rfl) dX9_takesAndGoes_27 ?_
    refine lv_iload_n hx hb dX9_takesAndGoes_30 rfl (lv_at hl 1 rfl) ?_
    refine mr_ald C G 1 (fun _ => rfl) (12 + (aN M q)) rfl (by omega) (Nat.le_of_ble_eq_true rfl) dX9_takesAndGoes_31 ?_
    refine lv_goto (tgt := 36) hx hb dX9_takesAndGoes_32 (by decide) ?_
    subst hX36
    exact hj36 _ _ _ (lv_sub hl [2, 3, 1, 0] rfl) G

