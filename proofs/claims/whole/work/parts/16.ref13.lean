set_option maxRecDepth 100000 in
set_option maxHeartbeats 4000000 in
theorem k_text (zl : Launch) (D : va_G) (cI : ClassId) (ad : Nat → Nat) (M : mS) (u : Int32) (hT : tOK M) : mM zl D cI ad yX9_text wsX9_text ({ frames := 50, cells := 0, slots := 0, locals := 1115 } : Room) [.int u] M (mF_text M u) := by
  have hin : ∀ w ∈ wsX90, w ∈ wsX9_text := fun w h => List.mem_cons_of_mem _ (List.mem_append_right _ h)
  refine mM_of (cc := cX9_text) (nL := 5) (by decide) rfl rfl (Nat.le_of_ble_eq_true rfl) ?_
  intro zp ze zs zm zg zb zt zc zA H0 zQ C hA hret H locs ls hl G
  have hx := C.1
  have hb := C.2.1
  have hl : lv_has ls 5 [(0, .ref (ad 0)), (1, .int u)] := hl
  obtain ⟨rM, hF⟩ : ∃ X : Int32 × mS, X = mF_text M u := ⟨_, rfl⟩
  rw [← hF] at hret
  unfold mF_text at hF
  have hT2 := hT.2
  refine lv_iload_n hx hb dX9_text_0 rfl (lv_at hl 1 rfl) ?_
  refine lv_iconst (v := 0) hx hb dX9_text_1 (by decide) ?_
  refine lv_iconst (v := 1) hx hb dX9_text_2 (by decide) ?_
  refine mr_calls C hA G (ks_in zl u 0 1) (va_cwS 3 C.2.2.2.2.1 gX9_text_X9_in rfl rfl rfl (by decide +kernel) ⟨Nat.le_of_ble_eq_true rfl, Nat.le_of_ble_eq_true rfl⟩) rfl hl.1 rfl (Nat.le_of_ble_eq_true rfl) dX9_text_3 ⟨Nat.le_refl _, Nat.le_refl _⟩ (fun H locs G => ?_)
  refine lv_if_ne (tgt := 16) hx hb dX9_text_6 (by decide) (fun c6 => ?_) (fun c6 => ?_)
  · rw [if_neg c6] at hF
    have hu := in_nat (n := 1) c6 ⟨rfl, by decide⟩
    have hu2 := hu.2
    refine lv_aload_n hx hb dX9_text_16 rfl (lv_at hl 0 rfl) ?_
    refine lv_aload_n hx hb dX9_text_17 rfl (lv_at hl 0 rfl) ?_
    refine mr_get C G hin 0 (by decide) rfl (show Cond.fieldLink RX9 7 "WheatCountsModel" "row" "[I" ∈ _ by decide +kernel) (fun _ => rfl) dX9_text_18 ?_
    refine lv_aload_n hx hb dX9_text_21 rfl (lv_at hl 0 rfl) ?_
    refine mr_get C G hin 3 (by decide) rfl (show Cond.fieldLink RX9 19 "WheatCountsModel" "before" "[I" ∈ _ by decide +kernel) (fun _ => rfl) dX9_text_22 ?_
    refine mr_callv C hA G (k_moveAll_1_4 zl D cI ad M ) (cwV 2 C.2.2.2.2.1 gX9_text_X9_moveAll rfl rfl rfl (by decide +kernel) ⟨Nat.le_of_ble_eq_true rfl, Nat.le_of_ble_eq_true rfl⟩) rfl hl.1 rfl (Nat.le_of_ble_eq_true rfl) dX9_text_25 ⟨Nat.le_refl _, Nat.le_refl _⟩ (fun H locs G => ?_)
    obtain ⟨M25, hM25⟩ : ∃ X : mS, X = mF_moveAll_1_4 M := ⟨_, rfl⟩
    rw [← hM25] at G
    rw [lt_e hM25] at hF
    refine lv_iconst (v := 0) hx hb dX9_text_28 (by decide) ?_
    refine lv_istore_n (lv' := [(2, .int 0), (0, .ref (ad 0)), (1, .int u)]) hx hb dX9_text_29 rfl hl (by decide) rfl (fun ls hl => ?_)
    obtain ⟨M30x, hX30⟩ : ∃ (M30x : mS), M30x = mF_text_L30 u M25 50 := ⟨_, rfl⟩
    rw [lt_e hX30] at hF
    have hrest30 : ∀ (H : Heap) (locs : List Loc) (ls : Array Slot), lv_has ls 5 [(0, .ref (ad 0)), (1, .int u), (2, .int (nI 50))] → mG D cI ad zA H0 H locs M30x → W zp zl ze ({ frames := 50, cells := 0, slots := 0, locals := 1115 } : Room) zs zm zg zb zt zc H locs 0 0 zQ (F0 zm 66 ls []) := by
      intro H locs ls hl G
      have h4 : M30x 1 4 = M 1 4 := by rw [hX30, tx_k _ _ _ 4 (by decide), hM25, mv14_row _ 1 (by decide)]
      refine lv_aload_n hx hb dX9_text_66 rfl (lv_at hl 0 rfl) ?_
      refine mr_get C G hin 0 (by decide) rfl (show Cond.fieldLink RX9 7 "WheatCountsModel" "row" "[I" ∈ _ by decide +kernel) (fun _ => rfl) dX9_text_67 ?_
      refine lv_bipush (v := 6) hx hb dX9_text_70 (by decide) ?_
      refine lv_iload_n hx hb dX9_text_72 rfl (lv_at hl 1 rfl) ?_
      refine lv_iadd hx hb dX9_text_73 ?_
      refine lv_aload_n hx hb dX9_text_74 rfl (lv_at hl 0 rfl) ?_
      refine mr_get C G hin 0 (by decide) rfl (show Cond.fieldLink RX9 7 "WheatCountsModel" "row" "[I" ∈ _ by decide +kernel) (fun _ => rfl) dX9_text_75 ?_
      refine lv_iconst (v := 4) hx hb dX9_text_78 (by decide) ?_
      refine mr_ald C G 1 (fun _ => rfl) 4 rfl (by omega) (Nat.le_of_ble_eq_true rfl) dX9_text_79 ?_
      refine mr_ast C G 1 (fun _ => rfl) (6 + (vn u)) (nt_add rfl hu.1) (by omega) (Nat.le_of_ble_eq_true rfl) (fun _ => rfl) dX9_text_80 (fun H locs G => ?_)
      obtain ⟨M80, hM80⟩ : ∃ X : mS, X = mU M30x 1 (6 + (vn u)) (M30x 1 4) := ⟨_, rfl⟩
      rw [← hM80] at G
      rw [lt_e hM80] at hF
      have hE : M80 1 (6 + vn u) = nI (vn (M 1 4)) ∧ vn (M 1 4) ≤ 50 := ⟨by rw [hM80, mU_eq, h4]; exact hT.1, hT2⟩
      refine lv_aload_n hx hb dX9_text_81 rfl (lv_at hl 0 rfl) ?_
      refine lv_iload_n hx hb dX9_text_82 rfl (lv_at hl 1 rfl) ?_
      refine lv_iconst (v := 1) hx hb dX9_text_83 (by decide) ?_
      refine lv_iconst (v := 1) hx hb dX9_text_84 (by decide) ?_
      refine lv_iconst (v := 1) hx hb dX9_text_85 (by decide) ?_
      obtain ⟨S0, G⟩ := G
      refine ps_calli (r0 := mV_walks M80 (vn u) 1 1 1) (S2 := (mF_walks M80 S0 (vn u) 1 1 1).2) C hA G (k_walks zl D cI ad M80 S0 (vn u) 1 1 1 (by omega) hE) (cwV 4 C.2.2.2.2.1 gX9_text_X9_walks rfl rfl rfl (by decide +kernel) ⟨Nat.le_of_ble_eq_true rfl, Nat.le_of_ble_eq_true rfl⟩) rfl hl.1 (cons_int rfl (cons_int rfl (cons_int rfl (cons_int hu.1 rfl)))) (Nat.le_of_ble_eq_true rfl) dX9_text_86 ⟨Nat.le_refl _, Nat.le_refl _⟩ (fun H locs G => ?_)
      refine lv_topi (fun x89 hx89 => ?_)
      rw [lt_e hx89] at hF
      refine lv_istore_n (lv' := [(2, .int x89), (0, .ref (ad 0)), (1, .int u)]) hx hb dX9_text_89 rfl hl (by decide) rfl (fun ls hl => ?_)
      refine lv_aload_n hx hb dX9_text_90 rfl (lv_at hl 1 rfl) ?_
      refine ps_get C G hin 14 (by decide) rfl (show Cond.fieldLink RX9 116 "WheatCountsModel" "good" "Z" ∈ _ by decide +kernel) rfl dX9_text_91 ?_
      refine lv_topi (fun x91 hx91 => ?_)
      rw [wk14_e] at hx91
      rw [lt_e hx91] at hF
      obtain ⟨y107, hX107⟩ : ∃ (y107 : Int32), y107 = ((if x91 = 0 then 0 else (if x89 = x89 then 1 else 0)) : Int32) := ⟨_, rfl⟩
      rw [lt_e hX107] at hF
      have hj107 : ∀ (H : Heap) (locs : List Loc) (ls : Array Slot), lv_has ls 5 [(0, .ref (ad 0)), (1, .int u), (2, .int x89)] → mGs D cI ad zA H0 H locs M80 (mF_walks M80 S0 (vn u) 1 1 1).2 → W zp zl ze ({ frames := 50, cells := 0, slots := 0, locals := 1115 } : Room) zs zm zg zb zt zc H locs 0 0 zQ (F0 zm 107 ls [.int y107]) := by
        intro H locs ls hl G
        refine lv_istore_n (lv' := [(3, .int y107), (0, .ref (ad 0)), (1, .int u), (2, .int x89)]) hx hb dX9_text_107 rfl hl (by decide) rfl (fun ls hl => ?_)
        refine lv_aload_n hx hb dX9_text_108 rfl (lv_at hl 1 rfl) ?_
        refine ps_get C G hin 8 (by decide) rfl (show Cond.fieldLink RX9 120 "WheatCountsModel" "at" "I" ∈ _ by decide +kernel) rfl dX9_text_109 ?_
        refine lv_topi (fun x109 hx109 => ?_)
        rw [wk8_e] at hx109
        rw [lt_e hx109] at hF
        have G : mG D cI ad zA H0 H locs M80 := ⟨_, G⟩
        refine lv_istore (lv' := [(4, .int x109), (3, .int y107), (0, .ref (ad 0)), (1, .int u), (2, .int x89)]) hx hb dX9_text_112 hl (by decide) rfl (fun ls hl => ?_)
        refine lv_iload_n hx hb dX9_text_114 rfl (lv_at hl 1 rfl) ?_
        obtain ⟨M130, hX130⟩ : ∃ (M130 : mS), M130 = ((if y107 = 0 then (lt (mF_moveAll_4_1 M80) fun (M127 : mS) => M127) else M80) : mS) := ⟨_, rfl⟩
        rw [lt_e hX130] at hF
        have hj130 : ∀ (H : Heap) (locs : List Loc) (ls : Array Slot), lv_has ls 5 [(0, .ref (ad 0)), (1, .int u), (2, .int x89), (3, .int y107), (4, .int x109)] → mG D cI ad zA H0 H locs M130 → W zp zl ze ({ frames := 50, cells := 0, slots := 0, locals := 1115 } : Room) zs zm zg zb zt zc H locs 0 0 zQ (F0 zm 130 ls []) := by
          intro H locs ls hl G
          refine lv_aload_n hx hb dX9_text_130 rfl (lv_at hl 0 rfl) ?_
          refine mr_get C G hin 0 (by decide) rfl (show Cond.fieldLink RX9 7 "WheatCountsModel" "row" "[I" ∈ _ by decide +kernel) (fun _ => rfl) dX9_text_131 ?_
          refine lv_iconst (v := 4) hx hb dX9_text_134 (by decide) ?_
          refine lv_iconst (v := 0) hx hb dX9_text_135 (by decide) ?_
          refine mr_ast C G 1 (fun _ => rfl) 4 rfl (by omega) (Nat.le_of_ble_eq_true rfl) (fun _ => rfl) dX9_text_136 (fun H locs G => ?_)
          obtain ⟨M136, hM136⟩ : ∃ X : mS, X = mU M130 1 4 0 := ⟨_, rfl⟩
          rw [← hM136] at G
          rw [lt_e hM136] at hF
          refine lv_iload_n hx hb dX9_text_137 rfl (lv_at hl 3 rfl) ?_
          refine lv_if_eq (tgt := 145) hx hb dX9_text_138 (by decide) (fun c138 => ?_) (fun c138 => ?_)
          · rw [if_pos c138] at hF
            refine lv_bipush (v := -10) hx hb dX9_text_145 (by decide) ?_
            refine lv_iload hx hb dX9_text_147 (lv_at hl 4 rfl) ?_
            refine lv_isub hx hb dX9_text_149 ?_
            exact hret _ _ _ _ _ _ hF G dX9_text_150
          · rw [if_neg c138] at hF
            refine lv_iconst (v := 1) hx hb dX9_text_141 (by decide) ?_
            refine lv_goto (tgt := 150) hx hb dX9_text_142 (by decide) ?_
            exact hret _ _ _ _ _ _ hF G dX9_text_150
        refine lv_if_ne (tgt := 130) hx hb dX9_text_115 (by decide) (fun c115 => ?_) (fun c115 => ?_)
        · rw [if_neg c115] at hX130
          subst hX130
          exact hj130 _ _ _ (lv_sub hl [2, 3, 4, 1, 0] rfl) G
        · rw [if_pos c115] at hX130
          refine lv_aload_n hx hb dX9_text_118 rfl (lv_at hl 2 rfl) ?_
          refine lv_aload_n hx hb dX9_text_119 rfl (lv_at hl 2 rfl) ?_
          refine mr_get C G hin 3 (by decide) rfl (show Cond.fieldLink RX9 19 "WheatCountsModel" "before" "[I" ∈ _ by decide +kernel) (fun _ => rfl) dX9_text_120 ?_
          refine lv_aload_n hx hb dX9_text_123 rfl (lv_at hl 2 rfl) ?_
          refine mr_get C G hin 0 (by decide) rfl (show Cond.fieldLink RX9 7 "WheatCountsModel" "row" "[I" ∈ _ by decide +kernel) (fun _ => rfl) dX9_text_124 ?_
          refine mr_callv C hA G (k_moveAll_4_1 zl D cI ad M80 ) (cwV 2 C.2.2.2.2.1 gX9_text_X9_moveAll rfl rfl rfl (by decide +kernel) ⟨Nat.le_of_ble_eq_true rfl, Nat.le_of_ble_eq_true rfl⟩) rfl hl.1 rfl (Nat.le_of_ble_eq_true rfl) dX9_text_127 ⟨Nat.le_refl _, Nat.le_refl _⟩ (fun H locs G => ?_)
          obtain ⟨M127, hM127⟩ : ∃ X : mS, X = mF_moveAll_4_1 M80 := ⟨_, rfl⟩
          rw [← hM127] at G
          rw [lt_e hM127] at hX130
          subst hX130
          exact hj130 _ _ _ (lv_sub hl [2, 3, 4, 1, 0] rfl) G
      refine lv_if_eq (tgt := 106) hx hb dX9_text_94 (by decide) (fun c94 => ?_) (fun c94 => ?_)
      · rw [if_pos c94] at hX107
        refine lv_iconst (v := 0) hx hb dX9_text_106 (by decide) ?_
        subst hX107
        exact hj107 _ _ _ (lv_sub hl [1, 2, 0] rfl) G
      · rw [if_neg c94] at hX107
        refine lv_iload_n hx hb dX9_text_97 rfl (lv_at hl 0 rfl) ?_
        refine lv_iload_n hx hb dX9_text_98 rfl (lv_at hl 0 rfl) ?_
        refine lv_icmp_ne (tgt := 106) hx hb dX9_text_99 (by decide) (fun c99 => ?_) (fun c99 => ?_)
        · rw [if_neg c99] at hX107
          refine lv_iconst (v := 0) hx hb dX9_text_106 (by decide) ?_
          subst hX107
          exact hj107 _ _ _ (lv_sub hl [1, 2, 0] rfl) G
        · rw [if_pos c99] at hX107
          refine lv_iconst (v := 1) hx hb dX9_text_102 (by decide) ?_
          refine lv_goto (tgt := 107) hx hb dX9_text_103 (by decide) ?_
          subst hX107
          exact hj107 _ _ _ (lv_sub hl [1, 2, 0] rfl) G
    have hloop30 : ∀ (zj k30 : Nat), zj + k30 = 50 → ∀ (M30 : mS), M30 = mF_text_L30 u M25 k30 → ∀ (H : Heap) (locs : List Loc) (ls : Array Slot), lv_has ls 5 [(0, .ref (ad 0)), (1, .int u), (2, .int (nI k30))] → mG D cI ad zA H0 H locs M30 → W zp zl ze ({ frames := 50, cells := 0, slots := 0, locals := 1115 } : Room) zs zm zg zb zt zc H locs 0 0 zQ (F0 zm 30 ls []) := by
      intro zj
      induction zj with
      | zero =>
        intro k30 hk M30 hL H locs ls hl G
        have hk : k30 = 50 := by omega
        rw [hk] at hL hl
        refine lv_iload_n hx hb dX9_text_30 rfl (lv_at hl 2 rfl) ?_
        refine lv_bipush (v := 50) hx hb dX9_text_31 (by decide) ?_
        refine lv_icmp_ge (tgt := 66) hx hb dX9_text_33 (by decide) (fun c33 => ?_) (fun c33 => absurd (lp_out (n := 50) rfl) c33)
        obtain rfl := hL.trans hX30.symm
        exact hrest30 _ _ _ (lv_sub hl [0, 1, 2] rfl) G
      | succ zj ih =>
        intro k30 hk M30 hL H locs ls hl G
        have hkn : k30 < 50 := by omega
        obtain ⟨M30s, hS0⟩ : ∃ (M30s : mS), M30s = mF_text_L30 u M25 (k30 + 1) := ⟨_, rfl⟩
        have hS := hS0
        rw [mF_text_L30_s, lt_e hL] at hS
        refine lv_iload_n hx hb dX9_text_30 rfl (lv_at hl 2 rfl) ?_
        refine lv_bipush (v := 50) hx hb dX9_text_31 (by decide) ?_
        refine lv_icmp_ge (tgt := 66) hx hb dX9_text_33 (by decide) (fun c33 => absurd c33 (lp_in (n := 50) rfl hkn (by omega))) (fun c33 => ?_)
        refine lv_aload_n hx hb dX9_text_36 rfl (lv_at hl 0 rfl) ?_
        refine mr_get C G hin 0 (by decide) rfl (show Cond.fieldLink RX9 7 "WheatCountsModel" "row" "[I" ∈ _ by decide +kernel) (fun _ => rfl) dX9_text_37 ?_
        refine lv_sipush (v := 134) hx hb dX9_text_40 (by decide) ?_
        refine lv_bipush (v := 50) hx hb dX9_text_43 (by decide) ?_
        refine lv_iload_n hx hb dX9_text_45 rfl (lv_at hl 1 rfl) ?_
        refine lv_imul hx hb dX9_text_46 ?_
        refine lv_iadd hx hb dX9_text_47 ?_
        refine lv_iload_n hx hb dX9_text_48 rfl (lv_at hl 2 rfl) ?_
        refine lv_iadd hx hb dX9_text_49 ?_
        refine lv_aload_n hx hb dX9_text_50 rfl (lv_at hl 0 rfl) ?_
        refine mr_get C G hin 0 (by decide) rfl (show Cond.fieldLink RX9 7 "WheatCountsModel" "row" "[I" ∈ _ by decide +kernel) (fun _ => rfl) dX9_text_51 ?_
        refine lv_bipush (v := 64) hx hb dX9_text_54 (by decide) ?_
        refine lv_iload_n hx hb dX9_text_56 rfl (lv_at hl 2 rfl) ?_
        refine lv_iadd hx hb dX9_text_57 ?_
        refine mr_ald C G 1 (fun _ => rfl) (64 + k30) (nt_add rfl rfl) (by omega) (Nat.le_of_ble_eq_true rfl) dX9_text_58 ?_
        refine mr_ast C G 1 (fun _ => rfl) ((134 + (50 * (vn u))) + k30) (nt_add (nt_add rfl (nt_mul rfl hu.1)) rfl) (by omega) (Nat.le_of_ble_eq_true rfl) (fun _ => rfl) dX9_text_59 (fun H locs G => ?_)
        obtain ⟨M59, hM59⟩ : ∃ X : mS, X = mU M30 1 ((134 + (50 * (vn u))) + k30) (M30 1 (64 + k30)) := ⟨_, rfl⟩
        rw [← hM59] at G
        rw [lt_e hM59] at hS
        refine lv_iinc (v := nI (k30 + 1)) (lv' := [(2, .int (nI (k30 + 1))), (0, .ref (ad 0)), (1, .int u)]) hx hb dX9_text_60 hl (k := 2) rfl (nt_add rfl (show (1 : Int32) = nI 1 from rfl)) (by decide) rfl (fun ls hl => ?_)
        refine lv_goto (tgt := 30) hx hb dX9_text_63 (by decide) ?_
        subst hS
        exact ih (k30 + 1) (by omega) _ hS0 _ _ _ (lv_sub hl [1, 2, 0] rfl) G
    exact hloop30 _ 0 (Nat.add_zero _) _ rfl _ _ _ (lv_sub hl [1, 2, 0] rfl) G
  · rw [if_pos c6] at hF
    refine lv_aload_n hx hb dX9_text_9 rfl (lv_at hl 0 rfl) ?_
    refine lv_ldc (v := -1000000001) hx hb C.2.2.2.1 (C.2.2.2.2.1 (.constant RX9 58 (-1000000001)) (by decide +kernel)) dX9_text_10 ?_
    obtain ⟨x12, M12, hx12⟩ : ∃ (X : Int32) (Y : mS), (X, Y) = mF_errs M (-1000000001) := ⟨_, _, rfl⟩
    refine mr_calli (r0 := x12) (M2 := M12) C hA G (by rw [hx12]; exact (k_errs zl D cI ad M (-1000000001) (by unfold vp_in; decide))) (cwV 1 C.2.2.2.2.1 gX9_text_X9_errs rfl rfl rfl (by decide +kernel) ⟨Nat.le_of_ble_eq_true rfl, Nat.le_of_ble_eq_true rfl⟩) rfl hl.1 rfl (Nat.le_of_ble_eq_true rfl) dX9_text_12 ⟨Nat.le_refl _, Nat.le_refl _⟩ (fun H locs G => ?_)
    rw [lt2_e hx12] at hF
    exact hret _ _ _ _ _ _ hF G dX9_text_15

