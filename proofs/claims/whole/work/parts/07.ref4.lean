/-! the levels of what is open -/
set_option maxHeartbeats 4000000 in
theorem k_factorL (zl : Launch) (D : va_G) (cI : ClassId) (ad : Nat → Nat) (M : mS) {E u : Nat} : ∀ (d : Nat) (S : sS), pI E u d S → mPc zl D cI ad yX9_factor wsX9_factor ({ frames := 3 + 8 * d, cells := 0, slots := 0, locals := 64 + 178 * d } : Room) [] M S (pF M d S) := by
  intro d
  induction d with
  | zero => intro S hI; exact k_factor0 zl D cI ad M S hI
  | succ d ih =>
    intro S hI
    have h := k_factorS zl D cI ad M (pF M d) (mF_whole M (pF M d)) ih (fun S h => pI_F d S h) (fun S h => k_whole zl D cI ad M (pF M d) ih (fun S h => pI_F d S h) S h) (fun S h => pI_whole (fun S h => pI_F d S h) h) (by omega) S hI
    have e1 : 3 + 8 * (d + 1) = 3 + 8 * d + 5 + 3 := by omega
    have e2 : 64 + 178 * (d + 1) = 64 + 178 * d + 114 + 64 := by omega
    rw [e1, e2]
    exact h
theorem k_wholeL (zl : Launch) (D : va_G) (cI : ClassId) (ad : Nat → Nat) (M : mS) {E u : Nat} (S : sS) (hI : pI E u 5 S) : mPc zl D cI ad yX9_whole wsX9_whole ({ frames := 48, cells := 0, slots := 0, locals := 1068 } : Room) [] M S (mF_whole M (pF M 5) S) :=
  k_whole zl D cI ad M (pF M 5) (k_factorL zl D cI ad M 5) (fun S h => pI_F 5 S h) S hI
set_option maxRecDepth 100000 in
set_option maxHeartbeats 4000000 in
theorem k_walks (zl : Launch) (D : va_G) (cI : ClassId) (ad : Nat → Nat) (M : mS) {E : Nat} (S : sS) (w : Nat) (b1 : Int32) (b2 : Int32) (b3 : Int32) (hw : w < 2) (hE : M 1 (6 + w) = nI E ∧ E ≤ 50) : mPc zl D cI ad yX9_walks wsX9_walks ({ frames := 49, cells := 0, slots := 0, locals := 1090 } : Room) [.int (nI w), .int b1, .int b2, .int b3] M S (mF_walks M S w b1 b2 b3) := by
  have hin : ∀ w ∈ wsX90, w ∈ wsX9_walks := fun w h => List.mem_cons_of_mem _ (List.mem_append_right _ h)
  refine mPc_of (cc := cX9_walks) (nL := 6) (by decide) rfl rfl (Nat.le_of_ble_eq_true rfl) ?_
  intro zp ze zs zm zg zb zt zc zA H0 zQ C hA hret H locs ls hl G
  have hx := C.1
  have hb := C.2.1
  have hl : lv_has ls 6 [(0, .ref (ad 0)), (1, .int (nI w)), (2, .int b1), (3, .int b2), (4, .int b3)] := hl
  obtain ⟨rM, hF⟩ : ∃ X : Int32 × sS, X = mF_walks M S w b1 b2 b3 := ⟨_, rfl⟩
  rw [← hF] at hret
  unfold mF_walks at hF
  refine lv_aload_n hx hb dX9_walks_0 rfl (lv_at hl 0 rfl) ?_
  refine lv_iload_n hx hb dX9_walks_1 rfl (lv_at hl 1 rfl) ?_
  refine ps_put C G hin 7 (by decide) rfl rfl (show Cond.fieldLink RX9 113 "WheatCountsModel" "use" "I" ∈ _ by decide +kernel) (ty := .int) (by decide +kernel) rfl rfl rfl dX9_walks_2 (fun H locs G => ?_)
  obtain ⟨S2, hS2⟩ : ∃ X : sS, X = upd S 7 (nI w) := ⟨_, rfl⟩
  rw [← hS2] at G
  rw [lt_e hS2] at hF
  refine lv_aload_n hx hb dX9_walks_5 rfl (lv_at hl 0 rfl) ?_
  refine lv_iconst (v := 0) hx hb dX9_walks_6 (by decide) ?_
  refine ps_put C G hin 8 (by decide) rfl rfl (show Cond.fieldLink RX9 120 "WheatCountsModel" "at" "I" ∈ _ by decide +kernel) (ty := .int) (by decide +kernel) rfl rfl rfl dX9_walks_7 (fun H locs G => ?_)
  obtain ⟨S7, hS7⟩ : ∃ X : sS, X = upd S2 8 0 := ⟨_, rfl⟩
  rw [← hS7] at G
  rw [lt_e hS7] at hF
  refine lv_aload_n hx hb dX9_walks_10 rfl (lv_at hl 0 rfl) ?_
  refine lv_aload_n hx hb dX9_walks_11 rfl (lv_at hl 0 rfl) ?_
  refine ps_get C G hin 0 (by decide) rfl (show Cond.fieldLink RX9 7 "WheatCountsModel" "row" "[I" ∈ _ by decide +kernel) rfl dX9_walks_12 ?_
  refine lv_bipush (v := 6) hx hb dX9_walks_15 (by decide) ?_
  refine lv_iload_n hx hb dX9_walks_17 rfl (lv_at hl 1 rfl) ?_
  refine lv_iadd hx hb dX9_walks_18 ?_
  refine ps_ald C G 1 rfl (6 + w) (nt_add rfl rfl) (by omega) (Nat.le_of_ble_eq_true rfl) dX9_walks_19 ?_
  refine ps_put C G hin 9 (by decide) rfl rfl (show Cond.fieldLink RX9 110 "WheatCountsModel" "end" "I" ∈ _ by decide +kernel) (ty := .int) (by decide +kernel) rfl rfl rfl dX9_walks_20 (fun H locs G => ?_)
  obtain ⟨S20, hS20⟩ : ∃ X : sS, X = upd S7 9 (M 1 (6 + w)) := ⟨_, rfl⟩
  rw [← hS20] at G
  rw [lt_e hS20] at hF
  refine lv_aload_n hx hb dX9_walks_23 rfl (lv_at hl 0 rfl) ?_
  refine lv_iconst (v := 0) hx hb dX9_walks_24 (by decide) ?_
  refine ps_put C G hin 10 (by decide) rfl rfl (show Cond.fieldLink RX9 148 "WheatCountsModel" "open" "I" ∈ _ by decide +kernel) (ty := .int) (by decide +kernel) rfl rfl rfl dX9_walks_25 (fun H locs G => ?_)
  obtain ⟨S25, hS25⟩ : ∃ X : sS, X = upd S20 10 0 := ⟨_, rfl⟩
  rw [← hS25] at G
  rw [lt_e hS25] at hF
  refine lv_aload_n hx hb dX9_walks_28 rfl (lv_at hl 0 rfl) ?_
  refine lv_iconst (v := 1) hx hb dX9_walks_29 (by decide) ?_
  refine ps_put C G hin 14 (by decide) rfl rfl (show Cond.fieldLink RX9 116 "WheatCountsModel" "good" "Z" ∈ _ by decide +kernel) (ty := .boolean) (by decide +kernel) rfl rfl rfl dX9_walks_30 (fun H locs G => ?_)
  obtain ⟨S30, hS30⟩ : ∃ X : sS, X = upd S25 14 1 := ⟨_, rfl⟩
  rw [← hS30] at G
  rw [lt_e hS30] at hF
  refine lv_aload_n hx hb dX9_walks_33 rfl (lv_at hl 0 rfl) ?_
  refine lv_iload_n hx hb dX9_walks_34 rfl (lv_at hl 2 rfl) ?_
  refine ps_put C G hin 11 (by decide) rfl rfl (show Cond.fieldLink RX9 133 "WheatCountsModel" "namedA" "I" ∈ _ by decide +kernel) (ty := .int) (by decide +kernel) rfl rfl rfl dX9_walks_35 (fun H locs G => ?_)
  obtain ⟨S35, hS35⟩ : ∃ X : sS, X = upd S30 11 b1 := ⟨_, rfl⟩
  rw [← hS35] at G
  rw [lt_e hS35] at hF
  refine lv_aload_n hx hb dX9_walks_38 rfl (lv_at hl 0 rfl) ?_
  refine lv_iload_n hx hb dX9_walks_39 rfl (lv_at hl 3 rfl) ?_
  refine ps_put C G hin 12 (by decide) rfl rfl (show Cond.fieldLink RX9 136 "WheatCountsModel" "namedB" "I" ∈ _ by decide +kernel) (ty := .int) (by decide +kernel) rfl rfl rfl dX9_walks_40 (fun H locs G => ?_)
  obtain ⟨S40, hS40⟩ : ∃ X : sS, X = upd S35 12 b2 := ⟨_, rfl⟩
  rw [← hS40] at G
  rw [lt_e hS40] at hF
  refine lv_aload_n hx hb dX9_walks_43 rfl (lv_at hl 0 rfl) ?_
  refine lv_iload hx hb dX9_walks_44 (lv_at hl 4 rfl) ?_
  refine ps_put C G hin 13 (by decide) rfl rfl (show Cond.fieldLink RX9 139 "WheatCountsModel" "namedC" "I" ∈ _ by decide +kernel) (ty := .int) (by decide +kernel) rfl rfl rfl dX9_walks_46 (fun H locs G => ?_)
  obtain ⟨S46, hS46⟩ : ∃ X : sS, X = upd S40 13 b3 := ⟨_, rfl⟩
  rw [← hS46] at G
  rw [lt_e hS46] at hF
  have hS0 : mW cI ad M S46 = mW cI ad M (pS0 w (M 1 (6 + w)) b1 b2 b3) := by rw [hS46, hS40, hS35, hS30, hS25, hS20, hS7, hS2]; rfl
  have G : mGs D cI ad zA H0 H locs M (pS0 w (M 1 (6 + w)) b1 b2 b3) := by unfold mGs at G ⊢; rw [hS0] at G; exact G
  have hI : pI E w 5 (pS0 w (M 1 (6 + w)) b1 b2 b3) := ⟨⟨rfl, hw⟩, ⟨hE.1, hE.2⟩, ⟨rfl, Nat.zero_le _⟩, ⟨rfl, Nat.le_refl _⟩, Or.inr rfl⟩
  refine lv_aload_n hx hb dX9_walks_49 rfl (lv_at hl 0 rfl) ?_
  obtain ⟨x50, S50, hx50⟩ : ∃ (X : Int32) (Y : sS), (X, Y) = mF_whole M (pF M 5) (pS0 w (M 1 (6 + w)) b1 b2 b3) := ⟨_, _, rfl⟩
  refine ps_calli (r0 := x50) (S2 := S50) C hA G (by rw [hx50]; exact (k_wholeL zl D cI ad M (pS0 w (M 1 (6 + w)) b1 b2 b3) hI)) (cwV 0 C.2.2.2.2.1 gX9_walks_X9_whole rfl rfl rfl (by decide +kernel) ⟨Nat.le_of_ble_eq_true rfl, Nat.le_of_ble_eq_true rfl⟩) rfl hl.1 rfl (Nat.le_of_ble_eq_true rfl) dX9_walks_50 ⟨Nat.le_refl _, Nat.le_refl _⟩ (fun H locs G => ?_)
  rw [lt2_e hx50] at hF
  have hIc := pI_whole (M := M) (fF := pF M 5) (fun S h => pI_F (M := M) 5 S h) hI
  rw [← hx50] at hIc
  dsimp only at hIc
  have hle50 := hIc.2
  have hI := hIc.1
  refine lv_istore (lv' := [(5, .int x50), (0, .ref (ad 0)), (1, .int (nI w)), (2, .int b1), (3, .int b2), (4, .int b3)]) hx hb dX9_walks_53 hl (by decide) rfl (fun ls hl => ?_)
  refine lv_aload_n hx hb dX9_walks_55 rfl (lv_at hl 1 rfl) ?_
  refine lv_aload_n hx hb dX9_walks_56 rfl (lv_at hl 1 rfl) ?_
  refine ps_get C G hin 14 (by decide) rfl (show Cond.fieldLink RX9 116 "WheatCountsModel" "good" "Z" ∈ _ by decide +kernel) rfl dX9_walks_57 ?_
  obtain ⟨y79, hX79⟩ : ∃ (y79 : Int32), y79 = ((if (S50 14) = 0 then 0 else (if (S50 8) = (S50 9) then 1 else 0)) : Int32) := ⟨_, rfl⟩
  rw [lt_e hX79] at hF
  have hj79 : ∀ (H : Heap) (locs : List Loc) (ls : Array Slot), lv_has ls 6 [(0, .ref (ad 0)), (1, .int (nI w)), (2, .int b1), (3, .int b2), (4, .int b3), (5, .int x50)] → mGs D cI ad zA H0 H locs M S50 → W zp zl ze ({ frames := 49, cells := 0, slots := 0, locals := 1090 } : Room) zs zm zg zb zt zc H locs 0 0 zQ (F0 zm 79 ls [.int y79, .ref (ad 0)]) := by
    intro H locs ls hl G
    have hz : y79 = 0 ∨ y79 = 1 := by rw [hX79]; (repeat' split) <;> first | exact Or.inl rfl | exact Or.inr rfl
    refine ps_put C G hin 14 (by decide) rfl rfl (show Cond.fieldLink RX9 116 "WheatCountsModel" "good" "Z" ∈ _ by decide +kernel) (ty := .boolean) (by decide +kernel) (zb_n hz) (zb_f hz) rfl dX9_walks_79 (fun H locs G => ?_)
    obtain ⟨S79, hS79⟩ : ∃ X : sS, X = upd S50 14 y79 := ⟨_, rfl⟩
    rw [← hS79] at G
    rw [lt_e hS79] at hF
    refine lv_iload hx hb dX9_walks_82 (lv_at hl 5 rfl) ?_
    exact hret _ _ _ _ _ _ hF G dX9_walks_84
  refine lv_if_eq (tgt := 78) hx hb dX9_walks_60 (by decide) (fun c60 => ?_) (fun c60 => ?_)
  · rw [if_pos c60] at hX79
    refine lv_iconst (v := 0) hx hb dX9_walks_78 (by decide) ?_
    subst hX79
    exact hj79 _ _ _ (lv_sub hl [1, 2, 3, 4, 5, 0] rfl) G
  · rw [if_neg c60] at hX79
    refine lv_aload_n hx hb dX9_walks_63 rfl (lv_at hl 1 rfl) ?_
    refine ps_get C G hin 8 (by decide) rfl (show Cond.fieldLink RX9 120 "WheatCountsModel" "at" "I" ∈ _ by decide +kernel) rfl dX9_walks_64 ?_
    refine lv_aload_n hx hb dX9_walks_67 rfl (lv_at hl 1 rfl) ?_
    refine ps_get C G hin 9 (by decide) rfl (show Cond.fieldLink RX9 110 "WheatCountsModel" "end" "I" ∈ _ by decide +kernel) rfl dX9_walks_68 ?_
    refine lv_icmp_ne (tgt := 78) hx hb dX9_walks_71 (by decide) (fun c71 => ?_) (fun c71 => ?_)
    · rw [if_neg c71] at hX79
      refine lv_iconst (v := 0) hx hb dX9_walks_78 (by decide) ?_
      subst hX79
      exact hj79 _ _ _ (lv_sub hl [1, 2, 3, 4, 5, 0] rfl) G
    · rw [if_pos c71] at hX79
      refine lv_iconst (v := 1) hx hb dX9_walks_74 (by decide) ?_
      refine lv_goto (tgt := 79) hx hb dX9_walks_75 (by decide) ?_
      subst hX79
      exact hj79 _ _ _ (lv_sub hl [1, 2, 3, 4, 5, 0] rfl) G

theorem k_walksM (zl : Launch) (D : va_G) (cI : ClassId) (ad : Nat → Nat) (M : mS) (w : Nat) (b1 b2 b3 : Int32) (hw : w < 2) (hE : M 1 (6 + w) = nI (vn (M 1 (6 + w))) ∧ vn (M 1 (6 + w)) ≤ 50) : mM zl D cI ad yX9_walks wsX9_walks ({ frames := 49, cells := 0, slots := 0, locals := 1090 } : Room) [.int (nI w), .int b1, .int b2, .int b3] M (mV_walks M w b1 b2 b3, M) :=
  mM_ofP (fun S => ⟨(mF_walks M S w b1 b2 b3).2, k_walks zl D cI ad M S w b1 b2 b3 hw hE⟩)
set_option maxRecDepth 100000 in
set_option maxHeartbeats 4000000 in
theorem k_lawOf (zl : Launch) (D : va_G) (cI : ClassId) (ad : Nat → Nat) (M : mS) (w : Nat) (b1 : Int32) (b2 : Int32) (b3 : Int32) (hw : w < 2) (hS : sOK M) : mM zl D cI ad yX9_lawOf wsX9_lawOf ({ frames := 50, cells := 0, slots := 0, locals := 1115 } : Room) [.int (nI w), .int b1, .int b2, .int b3] M ((mF_lawOf M w b1 b2 b3, M)) := by
  have hin : ∀ w ∈ wsX90, w ∈ wsX9_lawOf := fun w h => List.mem_cons_of_mem _ (List.mem_append_right _ h)
  refine mM_of (cc := cX9_lawOf) (nL := 6) (by decide) rfl rfl (Nat.le_of_ble_eq_true rfl) ?_
  intro zp ze zs zm zg zb zt zc zA H0 zQ C hA hret H locs ls hl G
  have hx := C.1
  have hb := C.2.1
  have hl : lv_has ls 6 [(0, .ref (ad 0)), (1, .int (nI w)), (2, .int b1), (3, .int b2), (4, .int b3)] := hl
  obtain ⟨rM, hF⟩ : ∃ X : Int32, X = mF_lawOf M w b1 b2 b3 := ⟨_, rfl⟩
  rw [← hF] at hret
  unfold mF_lawOf at hF
  refine lv_iload_n hx hb dX9_lawOf_0 rfl (lv_at hl 1 rfl) ?_
  obtain ⟨y11, hX11⟩ : ∃ (y11 : Int32), y11 = ((if (nI w) = 0 then 9 else 99) : Int32) := ⟨_, rfl⟩
  rw [lt_e hX11] at hF
  have hj11 : ∀ (H : Heap) (locs : List Loc) (ls : Array Slot), lv_has ls 6 [(0, .ref (ad 0)), (1, .int (nI w)), (2, .int b1), (3, .int b2), (4, .int b3)] → mG D cI ad zA H0 H locs M → W zp zl ze ({ frames := 50, cells := 0, slots := 0, locals := 1115 } : Room) zs zm zg zb zt zc H locs 0 0 zQ (F0 zm 11 ls [.int y11]) := by
    intro H locs ls hl G
    refine lv_istore (lv' := [(5, .int y11), (0, .ref (ad 0)), (1, .int (nI w)), (2, .int b1), (3, .int b2), (4, .int b3)]) hx hb dX9_lawOf_11 hl (by decide) rfl (fun ls hl => ?_)
    refine lv_aload_n hx hb dX9_lawOf_13 rfl (lv_at hl 1 rfl) ?_
    refine mr_get C G hin 0 (by decide) rfl (show Cond.fieldLink RX9 7 "WheatCountsModel" "row" "[I" ∈ _ by decide +kernel) (fun _ => rfl) dX9_lawOf_14 ?_
    refine lv_bipush (v := 6) hx hb dX9_lawOf_17 (by decide) ?_
    refine lv_iload_n hx hb dX9_lawOf_19 rfl (lv_at hl 2 rfl) ?_
    refine lv_iadd hx hb dX9_lawOf_20 ?_
    refine mr_ald C G 1 (fun _ => rfl) (6 + w) (nt_add rfl rfl) (by omega) (Nat.le_of_ble_eq_true rfl) dX9_lawOf_21 ?_
    refine lv_if_lt (tgt := 41) hx hb dX9_lawOf_22 (by decide) (fun c22 => ?_) (fun c22 => ?_)
    · rw [if_pos c22] at hF
      refine lv_iload_n hx hb dX9_lawOf_41 rfl (lv_at hl 2 rfl) ?_
      obtain ⟨y54, hX54⟩ : ∃ (y54 : Int32), y54 = ((if (nI w) = 0 then (3 - (b2 / 3)) else b1) : Int32) := ⟨_, rfl⟩
      rw [lt_e hX54] at hF
      have hj54 : ∀ (H : Heap) (locs : List Loc) (ls : Array Slot), lv_has ls 6 [(0, .ref (ad 0)), (1, .int (nI w)), (2, .int b1), (3, .int b2), (4, .int b3), (5, .int y11)] → mG D cI ad zA H0 H locs M → W zp zl ze ({ frames := 50, cells := 0, slots := 0, locals := 1115 } : Room) zs zm zg zb zt zc H locs 0 0 zQ (F0 zm 54 ls [.int y54]) := by
        intro H locs ls hl G
        refine lv_iconst (v := 0) hx hb dX9_lawOf_54 (by decide) ?_
        refine lv_iload hx hb dX9_lawOf_55 (lv_at hl 5 rfl) ?_
        refine mr_calls C hA G (ks_held zl y54 0 y11) (va_cwS 3 C.2.2.2.2.1 gX9_lawOf_X9_held rfl rfl rfl (by decide +kernel) ⟨Nat.le_of_ble_eq_true rfl, Nat.le_of_ble_eq_true rfl⟩) rfl hl.1 rfl (Nat.le_of_ble_eq_true rfl) dX9_lawOf_57 ⟨Nat.le_refl _, Nat.le_refl _⟩ (fun H locs G => ?_)
        exact hret _ _ _ _ _ _ (by rw [hF]) G dX9_lawOf_60
      refine lv_if_ne (tgt := 53) hx hb dX9_lawOf_42 (by decide) (fun c42 => ?_) (fun c42 => ?_)
      · rw [if_neg c42] at hX54
        refine lv_iload_n hx hb dX9_lawOf_53 rfl (lv_at hl 3 rfl) ?_
        subst hX54
        exact hj54 _ _ _ (lv_sub hl [1, 2, 3, 4, 5, 0] rfl) G
      · rw [if_pos c42] at hX54
        refine lv_iconst (v := 3) hx hb dX9_lawOf_45 (by decide) ?_
        refine lv_iload_n hx hb dX9_lawOf_46 rfl (lv_at hl 4 rfl) ?_
        refine lv_iconst (v := 3) hx hb dX9_lawOf_47 (by decide) ?_
        refine lv_idiv hx hb dX9_lawOf_48 (by decide) ?_
        refine lv_isub hx hb dX9_lawOf_49 ?_
        refine lv_goto (tgt := 54) hx hb dX9_lawOf_50 (by decide) ?_
        subst hX54
        exact hj54 _ _ _ (lv_sub hl [1, 2, 3, 4, 5, 0] rfl) G
    · rw [if_neg c22] at hF
      have hE := Or.resolve_left (hS w hw) (fun e9 => c22 (by rw [e9]; decide))
      refine lv_aload_n hx hb dX9_lawOf_25 rfl (lv_at hl 1 rfl) ?_
      refine lv_iload_n hx hb dX9_lawOf_26 rfl (lv_at hl 2 rfl) ?_
      refine lv_iload_n hx hb dX9_lawOf_27 rfl (lv_at hl 3 rfl) ?_
      refine lv_iload_n hx hb dX9_lawOf_28 rfl (lv_at hl 4 rfl) ?_
      refine lv_iload hx hb dX9_lawOf_29 (lv_at hl 5 rfl) ?_
      refine mr_calli C hA G (k_walksM zl D cI ad M w b1 b2 b3 hw hE) (cwV 4 C.2.2.2.2.1 gX9_lawOf_X9_walks rfl rfl rfl (by decide +kernel) ⟨Nat.le_of_ble_eq_true rfl, Nat.le_of_ble_eq_true rfl⟩) rfl hl.1 rfl (Nat.le_of_ble_eq_true rfl) dX9_lawOf_31 ⟨Nat.le_refl _, Nat.le_refl _⟩ (fun H locs G => ?_)
      refine lv_iconst (v := 0) hx hb dX9_lawOf_34 (by decide) ?_
      refine lv_iload hx hb dX9_lawOf_35 (lv_at hl 0 rfl) ?_
      refine mr_calls C hA G (ks_held zl (mV_walks M w b1 b2 b3) 0 y11) (va_cwS 3 C.2.2.2.2.1 gX9_lawOf_X9_held rfl rfl rfl (by decide +kernel) ⟨Nat.le_of_ble_eq_true rfl, Nat.le_of_ble_eq_true rfl⟩) rfl hl.1 rfl (Nat.le_of_ble_eq_true rfl) dX9_lawOf_37 ⟨Nat.le_refl _, Nat.le_refl _⟩ (fun H locs G => ?_)
      exact hret _ _ _ _ _ _ (by rw [hF]) G dX9_lawOf_40
  refine lv_if_ne (tgt := 9) hx hb dX9_lawOf_1 (by decide) (fun c1 => ?_) (fun c1 => ?_)
  · rw [if_neg c1] at hX11
    refine lv_bipush (v := 99) hx hb dX9_lawOf_9 (by decide) ?_
    subst hX11
    exact hj11 _ _ _ (lv_sub hl [0, 1, 2, 3, 4] rfl) G
  · rw [if_pos c1] at hX11
    refine lv_bipush (v := 9) hx hb dX9_lawOf_4 (by decide) ?_
    refine lv_goto (tgt := 11) hx hb dX9_lawOf_6 (by decide) ?_
    subst hX11
    exact hj11 _ _ _ (lv_sub hl [0, 1, 2, 3, 4] rfl) G
set_option maxRecDepth 100000 in
set_option maxHeartbeats 4000000 in
theorem k_law (zl : Launch) (D : va_G) (cI : ClassId) (ad : Nat → Nat) (M : mS) (u : Int32) (b1 : Int32) (b2 : Int32) (b3 : Int32) (hS : sOK M) : mM zl D cI ad yX9_law wsX9_law ({ frames := 51, cells := 0, slots := 0, locals := 1140 } : Room) [.int u, .int b1, .int b2, .int b3] M (mF_law M u b1 b2 b3) := by
  have hin : ∀ w ∈ wsX90, w ∈ wsX9_law := fun w h => List.mem_cons_of_mem _ (List.mem_append_right _ h)
  refine mM_of (cc := cX9_law) (nL := 5) (by decide) rfl rfl (Nat.le_of_ble_eq_true rfl) ?_
  intro zp ze zs zm zg zb zt zc zA H0 zQ C hA hret H locs ls hl G
  have hx := C.1
  have hb := C.2.1
  have hl : lv_has ls 5 [(0, .ref (ad 0)), (1, .int u), (2, .int b1), (3, .int b2), (4, .int b3)] := hl
  obtain ⟨rM, hF⟩ : ∃ X : Int32 × mS, X = mF_law M u b1 b2 b3 := ⟨_, rfl⟩
  rw [← hF] at hret
  unfold mF_law at hF
  refine lv_iload_n hx hb dX9_law_0 rfl (lv_at hl 1 rfl) ?_
  refine lv_iconst (v := 0) hx hb dX9_law_1 (by decide) ?_
  refine lv_iconst (v := 1) hx hb dX9_law_2 (by decide) ?_
  refine mr_calls C hA G (ks_in zl u 0 1) (va_cwS 3 C.2.2.2.2.1 gX9_law_X9_in rfl rfl rfl (by decide +kernel) ⟨Nat.le_of_ble_eq_true rfl, Nat.le_of_ble_eq_true rfl⟩) rfl hl.1 rfl (Nat.le_of_ble_eq_true rfl) dX9_law_3 ⟨Nat.le_refl _, Nat.le_refl _⟩ (fun H locs G => ?_)
  refine lv_if_eq (tgt := 21) hx hb dX9_law_6 (by decide) (fun c6 => ?_) (fun c6 => ?_)
  · rw [if_pos c6] at hF
    refine lv_aload_n hx hb dX9_law_21 rfl (lv_at hl 0 rfl) ?_
    refine lv_ldc (v := -1000000001) hx hb C.2.2.2.1 (C.2.2.2.2.1 (.constant RX9 58 (-1000000001)) (by decide +kernel)) dX9_law_22 ?_
    obtain ⟨x24, M24, hx24⟩ : ∃ (X : Int32) (Y : mS), (X, Y) = mF_errs M (-1000000001) := ⟨_, _, rfl⟩
    refine mr_calli (r0 := x24) (M2 := M24) C hA G (by rw [hx24]; exact (k_errs zl D cI ad M (-1000000001) (by unfold vp_in; decide))) (cwV 1 C.2.2.2.2.1 gX9_law_X9_errs rfl rfl rfl (by decide +kernel) ⟨Nat.le_of_ble_eq_true rfl, Nat.le_of_ble_eq_true rfl⟩) rfl hl.1 rfl (Nat.le_of_ble_eq_true rfl) dX9_law_24 ⟨Nat.le_refl _, Nat.le_refl _⟩ (fun H locs G => ?_)
    rw [lt2_e hx24] at hF
    exact hret _ _ _ _ _ _ hF G dX9_law_27
  · rw [if_neg c6] at hF
    have hu := in_nat (n := 1) c6 ⟨rfl, by decide⟩
    refine lv_aload_n hx hb dX9_law_9 rfl (lv_at hl 0 rfl) ?_
    refine lv_iload_n hx hb dX9_law_10 rfl (lv_at hl 1 rfl) ?_
    refine lv_iload_n hx hb dX9_law_11 rfl (lv_at hl 2 rfl) ?_
    refine lv_iload_n hx hb dX9_law_12 rfl (lv_at hl 3 rfl) ?_
    refine lv_iload hx hb dX9_law_13 (lv_at hl 4 rfl) ?_
    refine mr_calli C hA G (k_lawOf zl D cI ad M (vn u) b1 b2 b3 (by have := hu.2; omega) hS) (cwV 4 C.2.2.2.2.1 gX9_law_X9_lawOf rfl rfl rfl (by decide +kernel) ⟨Nat.le_of_ble_eq_true rfl, Nat.le_of_ble_eq_true rfl⟩) rfl hl.1 (cons_int rfl (cons_int rfl (cons_int rfl (cons_int hu.1 rfl)))) (Nat.le_of_ble_eq_true rfl) dX9_law_15 ⟨Nat.le_refl _, Nat.le_refl _⟩ (fun H locs G => ?_)
    refine lv_goto (tgt := 27) hx hb dX9_law_18 (by decide) ?_
    exact hret _ _ _ _ _ _ hF G dX9_law_27

