/-! acts: a new field, the tape, what waits, images -/
theorem AL_mk {n : Nat} {tt : tT} {x y : Int32} {X : xS} {M : mS} (h : x = y) (g : INV n tt X M) : AL n tt (x, X) (y, M) := ⟨h, g⟩
theorem fill_pt (X : xS) (q m : Nat) (v : Int32) (a b : Nat) : x7_fill_53178 X q m v a b = if a = q then (if b < m then v else X a b) else X a b := by
  unfold x7_fill_53178
  rw [lt_i]
  by_cases e : a = q
  · subst e; rw [if_pos rfl, fill_at]
  · rw [if_neg e, gw_fillL X q m v a e]
theorem fld_L (M : mS) : ∀ k, k ≤ 10 → (∀ x, mF_field_L36 M k 1 x = if (12 ≤ x ∧ x < 12 + k) ∨ (22 ≤ x ∧ x < 22 + k) then 0 else M 1 x) ∧ ∀ i, i ≠ 1 → mF_field_L36 M k i = M i := by
  intro k
  induction k with
  | zero => intro _; exact ⟨fun x => by rw [if_neg (by omega)]; rfl, fun _ _ => rfl⟩
  | succ k ih =>
    intro hk
    obtain ⟨i1, i2⟩ := ih (by omega)
    refine ⟨fun x => ?_, fun i hi => ?_⟩
    · rw [mF_field_L36_s]
      simp only [lt_i]
      rw [mU_sm, mU_sm, i1]
      by_cases e1 : x = 22 + k
      · rw [if_pos e1, if_pos (by omega)]
      · rw [if_neg e1]
        by_cases e2 : x = 12 + k
        · rw [if_pos e2, if_pos (by omega)]
        · rw [if_neg e2]
          by_cases e3 : (12 ≤ x ∧ x < 12 + k) ∨ (22 ≤ x ∧ x < 22 + k)
          · rw [if_pos e3, if_pos (by omega)]
          · rw [if_neg e3, if_neg (by omega)]
    · rw [mF_field_L36_s]
      simp only [lt_i]
      rw [mU_row hi, mU_row hi]
      exact i2 i hi
theorem lk_0 {a b x : Nat} (h : lk 8 0 1 a b x) : (a = 1 ∧ b = 0 ∧ x = 3) ∨ (a = 1 ∧ b = 4 ∧ x = 9) ∨ (a = 1 ∧ b = 5 ∧ x = 10) ∨ (a = 1 ∧ b ≠ 0 ∧ b ≠ 4 ∧ b ≠ 5 ∧ x < 12 ∧ x ≠ 3 ∧ x ≠ 9 ∧ x ≠ 10) ∨ (a = 2 ∧ b < 10 ∧ x = 12 + b) ∨ (a = 3 ∧ b < 10 ∧ x = 22 + b) := by
  unfold lk at h
  rcases h with ⟨h, h1⟩ | ⟨h, h1⟩ | ⟨h, h1⟩
  · omega
  · omega
  · omega
theorem field_e {n : Nat} {tt : tT} {X : xS} {M : mS} (h : INV n tt X M) (v : Int32) : AL n tt (x8_field X v) (mF_field M v) := by
  have hR := INV_R h
  have hn := n8 h
  have hP := hR.2.1
  unfold x8_field mF_field x0_startAnew
  simp only [lt_i, lt2_i, lt2_p, in_e, bec_e]
  by_cases c1 : sF_in v 3 10 = 0
  · rw [if_pos c1, if_pos c1]; exact er1 h
  rw [if_neg c1, if_neg c1, hn.2]
  rcases Decidable.em (¬ M 1 8 ≤ 0) with c2 | c2
  · rw [if_neg c2, if_neg c2]; exact er3 h
  have c2 := Decidable.not_not.mp c2
  rw [if_pos c2, if_pos c2]
  have h0 : vn (M 1 8) = 0 := by
    rw [hP.1, nz (by have := hP.2; omega)] at c2; exact c2
  obtain ⟨w1, w2⟩ := in_pos (m := 10) c1 (by decide) ⟨rfl, by decide⟩
  have w3 : 3 ≤ vn v := by
    have := (in_of c1).1
    rw [w1, show (3 : Int32) = nI 3 from rfl, nI_ltI (by omega) (by decide)] at this
    omega
  obtain ⟨l1, l2⟩ := fld_L M 10 (Nat.le_refl _)
  have hMr : ∀ x, mU (mU (mU (mF_field_L36 M 10) 1 9 0) 1 10 0) 1 3 v 1 x = if x = 3 then v else if x = 10 then 0 else if x = 9 then 0 else if 12 ≤ x ∧ x < 32 then 0 else M 1 x := fun x => by
    rw [mU_sm, mU_sm, mU_sm, l1]
    by_cases e : 12 ≤ x ∧ x < 32
    · rw [if_pos e, if_pos (show (12 ≤ x ∧ x < 12 + 10) ∨ (22 ≤ x ∧ x < 22 + 10) by omega)]
    · rw [if_neg e, if_neg (show ¬ ((12 ≤ x ∧ x < 12 + 10) ∨ (22 ≤ x ∧ x < 22 + 10)) by omega)]
  have hM2 : ∀ i, i ≠ 1 → mU (mU (mU (mF_field_L36 M 10) 1 9 0) 1 10 0) 1 3 v i = M i := fun i hi => by rw [mU_row hi, mU_row hi, mU_row hi]; exact l2 i hi
  have hXr : ∀ a b, mU (mU (x7_fill_53178 (x7_fill_53178 (mU X 1 0 v) (1 + 1) 10 0) (1 + 2) 10 0) 1 4 0) 1 5 0 a b = if a = 1 ∧ b = 5 then 0 else if a = 1 ∧ b = 4 then 0 else if a = 3 then (if b < 10 then 0 else X a b) else if a = 2 then (if b < 10 then 0 else X a b) else if a = 1 ∧ b = 0 then v else X a b := fun a b => by
    rw [mU_pt, mU_pt, fill_pt, fill_pt, mU_pt]
    by_cases e1 : a = 1 ∧ b = 5
    · rw [if_pos e1, if_pos e1]
    · rw [if_neg e1, if_neg e1]
      by_cases e2 : a = 1 ∧ b = 4
      · rw [if_pos e2, if_pos e2]
      · rw [if_neg e2, if_neg e2]
        by_cases e3 : a = 3
        · rw [if_pos e3, if_pos e3, if_neg (show ¬ a = 1 + 1 by omega), if_neg (show ¬ (a = 1 ∧ b = 0) by omega)]
        · rw [if_neg e3, if_neg e3]
          by_cases e4 : a = 2
          · rw [if_pos e4, if_pos e4, if_neg (show ¬ (a = 1 ∧ b = 0) by omega)]
          · rw [if_neg e4, if_neg e4]
  have hX2 : ∀ a, a = 0 ∨ 4 ≤ a → mU (mU (x7_fill_53178 (x7_fill_53178 (mU X 1 0 v) (1 + 1) 10 0) (1 + 2) 10 0) 1 4 0) 1 5 0 a = X a := fun a ha => by
    rw [mU_row (by omega), mU_row (by omega), gw_fill _ _ _ _ _ (by omega), gw_fill _ _ _ _ _ (by omega), mU_row (by omega)]
  refine AL_mk ?_ ?_
  · rw [mU_ne (by decide), mU_ne (by decide), l1, if_neg (by decide)]
    exact (eN_f (INV_eE h).1).1
  generalize mU (mU (x7_fill_53178 (x7_fill_53178 (mU X 1 0 v) (1 + 1) 10 0) (1 + 2) 10 0) 1 4 0) 1 5 0 = X2 at hXr hX2 ⊢
  generalize mU (mU (mU (mF_field_L36 M 10) 1 9 0) 1 10 0) 1 3 v = M2 at hMr hM2 ⊢
  have hM : ∀ x, x ≠ 3 → x ≠ 10 → x ≠ 9 → (x < 12 ∨ 32 ≤ x) → M2 1 x = M 1 x := fun x a1 a2 a3 a4 => by rw [hMr, if_neg a1, if_neg a2, if_neg a3, if_neg (by omega)]
  have hX1 : ∀ b, b ≠ 0 → b ≠ 4 → b ≠ 5 → X2 1 b = X 1 b := fun b b0 b4 b5 => by rw [hXr, if_neg (by omega), if_neg (by omega), if_neg (by omega), if_neg (by omega), if_neg (by omega)]
  obtain ⟨⟨h1, h2⟩, ⟨⟨T, t1, t2, t3, t4⟩, ⟨W, v1, v2, v3, v4⟩⟩, ⟨h3, h4⟩, h5⟩ := h.1
  have hx9 : X2 1 9 = X 1 9 := hX1 9 (by decide) (by decide) (by decide)
  refine INV_E h ⟨⟨⟨fun a b x hk => ?_, ?_, ?_⟩, eX_pt h2 (hX1 14 (by decide) (by decide) (by decide)) (hX1 15 (by decide) (by decide) (by decide)) (fun x hx => hM x (by omega) (by omega) (by omega) (by omega))⟩, ⟨⟨T, t1, ?_, ?_, fun j hj => ?_⟩, ⟨W, v1, ?_, ?_, fun j hj => ?_⟩⟩, ⟨?_, ?_⟩, ?_⟩ (fun a ha => hX2 a (by omega)) (fun i h1 _ => hM2 i h1)
  · rw [hx9, hn.1, h0] at hk
    have hk0 : lk 8 (vn (X 1 9)) 1 a b x := by rw [hn.1, h0]; exact hk
    rcases lk_0 hk with ⟨rfl, rfl, rfl⟩ | ⟨rfl, rfl, rfl⟩ | ⟨rfl, rfl, rfl⟩ | ⟨rfl, b0, b4, b5, x1, x2, x3, x4⟩ | ⟨rfl, hb, rfl⟩ | ⟨rfl, hb, rfl⟩
    · rw [hXr, if_neg (by decide), if_neg (by decide), if_neg (by decide), if_neg (by decide), if_pos ⟨rfl, rfl⟩, hMr, if_pos rfl]
    · rw [hXr, if_neg (by decide), if_pos ⟨rfl, rfl⟩, hMr, if_neg (by decide), if_neg (by decide), if_pos rfl]
    · rw [hXr, if_pos ⟨rfl, rfl⟩, hMr, if_neg (by decide), if_pos rfl]
    · rw [hX1 b b0 b4 b5, hM x x2 x4 x3 (by omega)]; exact h1.1 _ _ _ hk0
    · rw [hXr, if_neg (by omega), if_neg (by omega), if_neg (by decide), if_pos rfl, if_pos hb, hMr, if_neg (by omega), if_neg (by omega), if_neg (by omega), if_pos (by omega)]
    · rw [hXr, if_neg (by omega), if_neg (by omega), if_pos rfl, if_pos hb, hMr, if_neg (by omega), if_neg (by omega), if_neg (by omega), if_pos (by omega)]
  · rw [hx9]; exact h1.2.1
  · rw [hx9, hM 8 (by decide) (by decide) (by decide) (by decide)]; exact h1.2.2
  · rw [hX2 _ (by omega)]; exact t2
  · rw [hM 4 (by decide) (by decide) (by decide) (by decide)]; exact t3
  · rw [hX2 _ (by omega), hM _ (by omega) (by omega) (by omega) (by omega)]; exact t4 j hj
  · rw [hX2 _ (by omega)]; exact v2
  · rw [hM 5 (by decide) (by decide) (by decide) (by decide)]; exact v3
  · rw [hX2 _ (by omega), hM _ (by omega) (by omega) (by omega) (by omega)]; exact v4 j hj
  · show rOK M2
    refine ⟨?_, ?_, fun q hq => ?_, fun q hq => ?_, fun u hu => ?_⟩
    · unfold cOK; rw [hMr, if_pos rfl]; exact ⟨w1, w3, w2⟩
    · unfold pOK; rw [hM 8 (by decide) (by decide) (by decide) (by decide)]; exact hP
    · rw [hM _ (by omega) (by omega) (by omega) (by omega)]; exact hR.2.2.1 q hq
    · rw [hM _ (by omega) (by omega) (by omega) (by omega)]; exact hR.2.2.2.1 q hq
    · rw [hM _ (by omega) (by omega) (by omega) (by omega)]; exact hR.2.2.2.2 u hu
  · refine ⟨fun d hd => ?_, fun q hq => ?_, fun q hq hq2 => ?_⟩
    · have g1 : M2 1 (12 + d) = 0 := by rw [hMr, if_neg (by omega), if_neg (by omega), if_neg (by omega), if_pos (by omega)]
      have g2 : M2 1 (22 + d) = 0 := by rw [hMr, if_neg (by omega), if_neg (by omega), if_neg (by omega), if_pos (by omega)]
      rw [g1, g2]
      exact ⟨⟨rfl, by decide⟩, rfl, by decide⟩
    · rw [hM _ (by omega) (by omega) (by omega) (by omega)]; exact h4.2.1 q hq
    · rw [hM 8 (by decide) (by decide) (by decide) (by decide), h0] at hq2; exact absurd hq2 (Nat.not_lt_zero _)
  · unfold eA; rw [hX2 _ (by omega)]; exact h5
/-- the tape or what waits alone has changed -/
theorem INV_T {n : Nat} {tt : tT} {X X2 : xS} {M M2 : mS} (h : INV n tt X M) (hT : iT X2 1 (M2 1)) (hX : ∀ p, p < 9 ∨ 13 ≤ p → X2 p = X p) (h1 : ∀ x, x ≠ 4 → x ≠ 5 → (x < 64 ∨ 134 ≤ x) → M2 1 x = M 1 x) (hM : ∀ i, i ≠ 1 → M2 i = M i) : INV n tt X2 M2 := by
  obtain ⟨⟨e1, e2⟩, _, ⟨h3, h4⟩, h5⟩ := h.1
  have hn : vn (X 1 9) ≤ 8 := eE_n (tt := tt) (M := M) ⟨e1, e2⟩ h3.2.1
  have r1 := hX 1 (by omega)
  refine INV_E h ⟨⟨eN_pt e1 (by rw [r1]) (h1 8 (by decide) (by decide) (by decide)) (fun a b x hk e => ?_), eX_pt e2 (by rw [r1]) (by rw [r1]) (fun x hx => h1 x (by omega) (by omega) (by omega))⟩, hT, ⟨?_, gOK_row h4 (fun x _ => h1 x (by omega) (by omega) (by omega))⟩, ?_⟩ (fun p hp => hX p (by omega)) (fun i hi _ => hM i hi)
  · have hb := lk_bd hk hn
    have hk2 := lk_nb hn hk
    rw [hX a (by omega), h1 x hb.2.2.1 hb.2.2.2.1 (by omega)]
    exact e
  · obtain ⟨r1, r2, r3, r4, r5⟩ := h3
    refine ⟨?_, ?_, fun q hq => ?_, fun q hq => ?_, fun u hu => ?_⟩
    · show cOK M2
      unfold cOK; rw [h1 3 (by decide) (by decide) (by decide)]; exact r1
    · show pOK M2
      unfold pOK; rw [h1 8 (by decide) (by decide) (by decide)]; exact r2
    · show M2 1 _ = nI (vn (M2 1 _)) ∧ vn (M2 1 _) ≤ 6
      rw [h1 _ (by omega) (by omega) (by omega)]; exact r3 q hq
    · show M2 1 _ = nI (vn (M2 1 _)) ∧ vn (M2 1 _) < 10
      rw [h1 _ (by omega) (by omega) (by omega)]; exact r4 q hq
    · show M2 1 _ = -1 ∨ (M2 1 _ = nI (vn (M2 1 _)) ∧ vn (M2 1 _) ≤ 50)
      rw [h1 _ (by omega) (by omega) (by omega)]; exact r5 u hu
  · unfold eA; rw [hX _ (by omega)]; exact h5
theorem tell_e {n : Nat} {tt : tT} {X : xS} {M : mS} (h : INV n tt X M) (v : Int32) : AL n tt (x8_tell X v) (mF_tell M v) := by
  obtain ⟨⟨T, t1, t2, t3, t4⟩, ⟨W, w1, w2, w3, w4⟩⟩ := h.1.2.1
  have w2' : X 11 1 = nI W := w2
  unfold x8_tell mF_tell
  simp only [lt_i, lt2_p]
  rw [w2', w3]
  by_cases c : W = 20
  · rw [c, if_neg (by decide), if_pos (by decide)]; exact er4 h
  · rw [if_pos (by rw [show (20 : Int32) = nI 20 from rfl, nI_ltI (by omega) (by decide)]; omega), if_neg (by rw [show (20 : Int32) = nI 20 from rfl, nI_eq (by omega) (by decide)]; exact c), add_e (show rcap 11 = 20 from rfl) (by decide) w2' (by omega), vn_nI (by omega), mU_ne (show 5 ≠ 114 + W by omega), w3, nI_1]
    refine AL_mk ?_ (INV_T h ⟨⟨T, t1, ?_, ?_, fun j hj => ?_⟩, ⟨W + 1, by omega, ?_, ?_, fun j hj => ?_⟩⟩ (fun p hp => by rw [mU_row (by omega), mU_row (by omega)]) (fun x h4 h5 h6 => by rw [mU_ne (by omega), mU_ne (by omega)]) (fun i hi => by rw [mU_row hi, mU_row hi]))
    · rw [mU_eq, mU_eq]
    · rw [mU_row (by omega), mU_row (by omega)]; exact t2
    · rw [mU_ne (by omega), mU_ne (by omega)]; exact t3
    · rw [mU_row (by omega), mU_row (by omega), mU_ne (by omega), mU_ne (by omega)]; exact t4 j hj
    · exact mU_eq
    · exact mU_eq
    · show mU (mU X 12 W v) 11 1 (nI (W + 1)) 12 j = _
      rw [mU_row (by decide), mU_ne (show 114 + j ≠ 5 by omega), mU_sm, mU_sm]
      by_cases e : j = W
      · rw [if_pos e, if_pos (by omega)]
      · rw [if_neg e, if_neg (by omega)]; exact w4 j (by omega)
theorem b255 : ∀ i, i < 64 → (255#64).getLsbD i = decide (i < 8) := by decide
theorem bvs (x : BitVec 64) (s : Nat) (hs : s ≤ 56) : (x >>> s) &&& 255#64 = (x.sshiftRight s) &&& 255#64 := by
  apply BitVec.eq_of_getLsbD_eq
  intro i hi
  rw [BitVec.getLsbD_and, BitVec.getLsbD_and, BitVec.getLsbD_ushiftRight, BitVec.getLsbD_sshiftRight, b255 i hi]
  by_cases h : i < 8
  · rw [if_pos (show s + i < 64 by omega)]
    simp only [show ¬ 64 ≤ i by omega, decide_false, Bool.not_false, Bool.true_and]
  · rw [show decide (i < 8) = false from decide_eq_false h, Bool.and_false, Bool.and_false]
theorem w255 (word : Int64) : ∀ k, k < 8 → ((((word.toUInt64 >>> ((8 * (nI k)).toInt64.toUInt64 &&& Int64.toUInt64 63)).toInt64) &&& 255).toInt32) = (((word >>> ((8 * (nI k)).toInt64 &&& 63)) &&& 255).toInt32) ∧ ∃ w, w < 256 ∧ (((word >>> ((8 * (nI k)).toInt64 &&& 63)) &&& 255).toInt32) = nI w := by
  intro k hk
  have e : (8 * nI k).toInt64 &&& 63 = Int64.ofNat (8 * k) ∧ ((8 * nI k).toInt64.toUInt64 &&& Int64.toUInt64 63) = UInt64.ofNat (8 * k) := by
    rcases (show k = 0 ∨ k = 1 ∨ k = 2 ∨ k = 3 ∨ k = 4 ∨ k = 5 ∨ k = 6 ∨ k = 7 by omega) with rfl | rfl | rfl | rfl | rfl | rfl | rfl | rfl <;> decide
  rw [e.1, e.2]
  have hb : (((word.toUInt64 >>> UInt64.ofNat (8 * k)).toInt64) &&& 255).toBitVec = ((word >>> Int64.ofNat (8 * k)) &&& 255).toBitVec := by
    have h1 : (((word.toUInt64 >>> UInt64.ofNat (8 * k)).toInt64) &&& 255).toBitVec = (word.toBitVec >>> (8 * k)) &&& 255#64 := by
      rcases (show k = 0 ∨ k = 1 ∨ k = 2 ∨ k = 3 ∨ k = 4 ∨ k = 5 ∨ k = 6 ∨ k = 7 by omega) with rfl | rfl | rfl | rfl | rfl | rfl | rfl | rfl <;> rfl
    have h2 : ((word >>> Int64.ofNat (8 * k)) &&& 255).toBitVec = (word.toBitVec.sshiftRight (8 * k)) &&& 255#64 := by
      rcases (show k = 0 ∨ k = 1 ∨ k = 2 ∨ k = 3 ∨ k = 4 ∨ k = 5 ∨ k = 6 ∨ k = 7 by omega) with rfl | rfl | rfl | rfl | rfl | rfl | rfl | rfl <;> rfl
    rw [h1, h2]
    exact bvs _ _ (by omega)
  have h2 : ((word.toUInt64 >>> UInt64.ofNat (8 * k)).toInt64) &&& 255 = (word >>> Int64.ofNat (8 * k)) &&& 255 := Int64.toBitVec_inj.mp hb
  rw [h2]
  refine ⟨rfl, ?_⟩
  have hl : ((word >>> Int64.ofNat (8 * k)) &&& 255).toBitVec.toNat < 256 := by
    show ((word >>> Int64.ofNat (8 * k)).toBitVec &&& 255#64).toNat < 256
    rw [BitVec.toNat_and]
    exact Nat.lt_of_le_of_lt Nat.and_le_right (by decide)
  refine ⟨_, hl, nI_bv ?_⟩
  show (((word >>> Int64.ofNat (8 * k)) &&& 255).toBitVec.signExtend 32).toNat = _
  rw [BitVec.signExtend_eq_setWidth_of_le _ (by decide), BitVec.toNat_setWidth, Nat.mod_eq_of_lt (by omega)]
theorem feed_L {n : Nat} {tt : tT} {M : mS} (word : Int64) {T : Nat} (h4 : M 1 4 = nI T) : ∀ (k : Nat) (X : xS), T + k ≤ 50 → k ≤ 8 → INV n tt X M → X 9 1 = nI T → INV n tt (x8_feed_L42 X word k) (mF_feed_L40 M word k) ∧ x8_feed_L42 X word k 9 1 = nI (T + k) := by
  intro k
  induction k with
  | zero => intro X _ _ h h9; exact ⟨h, h9⟩
  | succ k ih =>
    intro X hk hk8 h h9
    obtain ⟨i1, i2⟩ := ih X (by omega) (by omega) h h9
    rw [x8_feed_L42_s, mF_feed_L40_s]
    simp only [lt_i]
    obtain ⟨e1, w, e2, e3⟩ := w255 word k (by omega)
    rw [e1, e3, add_e (show rcap 9 = 50 from rfl) (by decide) i2 (by omega), h4, vn_nI (by omega)]
    generalize x8_feed_L42 X word k = Y at i1 i2 ⊢
    generalize mF_feed_L40 M word k = N at i1 ⊢
    obtain ⟨⟨T2, t1, t2, t3, t4⟩, ⟨W, w1, w2, w3, w4⟩⟩ := i1.1.2.1
    have hT2 : T2 = T + k := by
      have := t2.symm.trans i2
      rw [nI_eq (by omega) (by omega)] at this
      exact this
    subst hT2
    rw [mU_ne (show 4 ≠ 64 + (T + k) by omega), t3, nI_1]
    refine ⟨INV_T i1 ⟨⟨T + k + 1, by omega, ?_, ?_, fun j hj => ?_⟩, ⟨W, w1, ?_, ?_, fun j hj => ?_⟩⟩ (fun p hp => by rw [mU_row (by omega), mU_row (by omega)]) (fun x h4 h5 h6 => by rw [mU_ne (by omega), mU_ne (by omega)]) (fun i hi => by rw [mU_row hi, mU_row hi]), mU_eq⟩
    · exact mU_eq
    · exact mU_eq
    · show mU (mU Y 10 (T + k) (nI w)) 9 1 (nI (T + k + 1)) 10 j = _ ∧ _
      rw [mU_row (by decide), mU_ne (show 64 + j ≠ 4 by omega), mU_sm, mU_sm]
      by_cases e : j = T + k
      · rw [if_pos e, if_pos (by omega)]; exact ⟨rfl, w, e2, rfl⟩
      · rw [if_neg e, if_neg (by omega)]; exact t4 j (by omega)
    · rw [mU_row (by omega), mU_row (by omega)]; exact w2
    · rw [mU_ne (by omega), mU_ne (by omega)]; exact w3
    · rw [mU_row (by omega), mU_row (by omega), mU_ne (by omega), mU_ne (by omega)]; exact w4 j hj
theorem feed_e {n : Nat} {tt : tT} {X : xS} {M : mS} (h : INV n tt X M) (word : Int64) (v : Int32) : AL n tt (x8_feed X word v) (mF_feed M word v) := by
  obtain ⟨⟨T, t1, t2, t3, t4⟩, ⟨W, w1, w2, w3, w4⟩⟩ := h.1.2.1
  have t2' : X 9 1 = nI T := t2
  unfold x8_feed mF_feed
  simp only [lt_i, lt2_p, in_e]
  by_cases c1 : sF_in v 1 8 = 0
  · rw [if_pos c1, if_pos c1]; exact er1 h
  rw [if_neg c1, if_neg c1, t2', t3]
  obtain ⟨v1, v2⟩ := in_pos (m := 8) c1 (by decide) ⟨rfl, by decide⟩
  by_cases c2 : nI T + v ≤ 50
  · rw [if_pos c2, if_pos c2]
    have hb : T + vn v ≤ 50 := by
      rw [v1, nI_add, show (50 : Int32) = nI 50 from rfl, nI_leI (by omega) (by decide)] at c2
      exact c2
    obtain ⟨k1, k2⟩ := feed_L (n := n) (tt := tt) word t3 (vn v) X hb v2 h t2'
    refine ⟨?_, k1⟩
    show x8_feed_L42 X word (vn v) 9 1 = mF_feed_L40 M word (vn v) 1 4
    obtain ⟨⟨T2, _, q2, q3, _⟩, _⟩ := k1.1.2.1
    exact q2.trans q3.symm
  · rw [if_neg c2, if_neg c2]; exact er4 h
