/-! an estate and a row: what is alike, and that updates keep it so -/
theorem eN_f {ab p : Nat} {X : xS} {R : Nat → Int32} (h : eN ab X p R) : X p 0 = R 3 ∧ X p 4 = R 9 ∧ X p 5 = R 10 ∧ X p 6 = R 1 ∧ X p 7 = R 0 ∧ X p 8 = R 11 ∧ X p 18 = R 2 :=
  ⟨h.1 _ _ _ (Or.inl ⟨rfl, by omega⟩), h.1 _ _ _ (Or.inl ⟨rfl, by omega⟩), h.1 _ _ _ (Or.inl ⟨rfl, by omega⟩), h.1 _ _ _ (Or.inl ⟨rfl, by omega⟩), h.1 _ _ _ (Or.inl ⟨rfl, by omega⟩), h.1 _ _ _ (Or.inl ⟨rfl, by omega⟩), h.1 _ _ _ (Or.inl ⟨rfl, by omega⟩)⟩
theorem eN_g {ab p c : Nat} {X : xS} {R : Nat → Int32} (h : eN ab X p R) (hc : c < 10) : X (p + 1) c = R (12 + c) ∧ X (p + 2) c = R (22 + c) :=
  ⟨h.1 _ _ _ (Or.inr (Or.inl ⟨hc, by omega⟩)), h.1 _ _ _ (Or.inr (Or.inl ⟨hc, by omega⟩))⟩
theorem eN_p {ab p i : Nat} {X : xS} {R : Nat → Int32} (h : eN ab X p R) (hi : i < vn (X p 9)) : X (p + 4) i = R (32 + 4 * sk ab i + 0) ∧ X (p + 5) i = R (32 + 4 * sk ab i + 1) ∧ X (p + 6) i = R (32 + 4 * sk ab i + 2) ∧ X (p + 7) i = R (32 + 4 * sk ab i + 3) :=
  ⟨h.1 _ _ _ (Or.inr (Or.inr ⟨hi, by omega⟩)), h.1 _ _ _ (Or.inr (Or.inr ⟨hi, by omega⟩)), h.1 _ _ _ (Or.inr (Or.inr ⟨hi, by omega⟩)), h.1 _ _ _ (Or.inr (Or.inr ⟨hi, by omega⟩))⟩
theorem sk_lt {ab i n m : Nat} (hi : i < n) (hm : m = n + (if ab < m then 1 else 0)) : sk ab i < m ∧ sk ab i ≠ ab := by
  have := sk_cs ab i
  split at hm <;> omega
theorem eN_sk {ab p i : Nat} {X : xS} {R : Nat → Int32} (h : eN ab X p R) (hi : i < vn (X p 9)) : sk ab i < vn (R 8) ∧ sk ab i ≠ ab := sk_lt hi h.2.2
theorem lk_bd {ab n p a b x : Nat} (h : lk ab n p a b x) (hn : n ≤ 8) : x < 80 ∧ x ≠ 8 ∧ x ≠ 4 ∧ x ≠ 5 ∧ x ≠ 6 ∧ x ≠ 7 ∧ p ≤ a ∧ a ≤ p + 7 ∧ a ≠ p + 3 ∧ (a = p → b ≠ 9 ∧ b ≠ 14 ∧ b ≠ 15) := by
  have s1 := sk_cs ab b
  unfold lk at h
  generalize sk ab b = s at s1 h
  rcases h with ⟨h, h1⟩ | ⟨h, h1⟩ | ⟨h, h1⟩ <;> omega
theorem eN_pt {ab p : Nat} {X X2 : xS} {R R2 : Nat → Int32} (h : eN ab X p R) (h9 : X2 p 9 = X p 9) (h8 : R2 8 = R 8) (hl : ∀ a b x, lk ab (vn (X p 9)) p a b x → X a b = R x → X2 a b = R2 x) : eN ab X2 p R2 := by
  refine ⟨fun a b x hk => ?_, ?_, ?_⟩
  · rw [h9] at hk
    exact hl a b x hk (h.1 a b x hk)
  · rw [h9]; exact h.2.1
  · rw [h9, h8]; exact h.2.2
theorem eX_pt {tt : tT} {p : Nat} {X X2 : xS} {R R2 : Nat → Int32} (h : eX tt X p R) (h14 : X2 p 14 = X p 14) (h15 : X2 p 15 = X p 15) (hR : ∀ x, x = 6 ∨ x = 7 ∨ 134 ≤ x → R2 x = R x) : eX tt X2 p R2 := by
  intro u hu
  have e1 : X2 p (14 + u) = X p (14 + u) := by
    rcases (show u = 0 ∨ u = 1 by omega) with rfl | rfl
    · exact h14
    · exact h15
  have e2 : R2 (6 + u) = R (6 + u) := hR _ (by omega)
  rcases h u hu with ⟨g1, g2⟩ | ⟨t, E, g1, g2, g3, g4, g5, g6, g7⟩
  · exact Or.inl ⟨e1.trans g1, e2.trans g2⟩
  · refine Or.inr ⟨t, E, e1.trans g1, g2, g3, g4, e2.trans g5, g6, fun a b c => ?_⟩
    rw [← g7 a b c]
    congr 1
    exact bl_eq E 0 (fun j _ _ => hR _ (by omega))
def eE (ab : Nat) (tt : tT) (X : xS) (p : Nat) (M : mS) : Prop := eN ab X p (M 1) ∧ eX tt X p (M 1)
theorem eE_n {ab p : Nat} {tt : tT} {X : xS} {M : mS} (h : eE ab tt X p M) (hP : pOK M) : vn (X p 9) ≤ 8 := by
  have := h.1.2.2
  have := hP.2
  split at * <;> omega
theorem eE_row {ab p : Nat} {tt : tT} {X X2 : xS} {M M2 : mS} (h : eE ab tt X p M) (hX : ∀ a, p ≤ a → a ≤ p + 7 → a ≠ p + 3 → X2 a = X a) (hM : M2 1 = M 1) (hP : pOK M) : eE ab tt X2 p M2 := by
  have h0 := hX p (by omega) (by omega) (by omega)
  unfold eE
  rw [hM]
  refine ⟨eN_pt h.1 (by rw [h0]) rfl (fun a b x hk e => ?_), eX_pt h.2 (by rw [h0]) (by rw [h0]) (fun _ _ => rfl)⟩
  have hb := lk_bd hk (eE_n h hP)
  rw [hX a (by omega) (by omega) (by omega)]
  exact e
theorem eE_up {ab p a b x : Nat} {tt : tT} {X : xS} {M : mS} (h : eE ab tt X p M) (hP : pOK M) (hl : lk ab (vn (X p 9)) p a b x) (v : Int32) : eE ab tt (mU X a b v) p (mU M 1 x v) := by
  have hb := lk_bd hl (eE_n h hP)
  have h1 : ∀ j, j = 9 ∨ j = 14 ∨ j = 15 → mU X a b v p j = X p j := fun j hj => by
    rw [mU_pt, if_neg (by intro e; have := hb.2.2.2.2.2.2.2.2.2 e.1.symm; omega)]
  refine ⟨eN_pt h.1 (h1 9 (by omega)) (mU_ne (by omega)) (fun a2 b2 x2 hk e => ?_), eX_pt h.2 (h1 14 (by omega)) (h1 15 (by omega)) (fun x2 hx => mU_ne (by omega))⟩
  rw [mU_pt, mU_pt]
  by_cases c : x2 = x
  · rw [if_pos ((lk_inj hl hk).mpr c), if_pos ⟨rfl, c⟩]
  · rw [if_neg (fun w => c ((lk_inj hl hk).mp w)), if_neg (fun w => c w.2)]
    exact e
/-- what holds of the reference's row -/
theorem aN_lt {M : mS} (hR : rOK M) {q : Nat} (hq : q < 8) : aN M q < 10 := (hR.2.2.2.1 q hq).2
theorem seen_e {ab p i : Nat} {tt : tT} {X : xS} {M : mS} (h : eE ab tt X p M) (hR : rOK M) (hi : i < vn (X p 9)) : x0_viewFrom X p i (vn (X (p + 6) i)) (x0_sightIn tt X p i (X p 6) (X p 7)) (X p 4) = mF_seesOf M (sk ab i) := by
  obtain ⟨f0, f4, f5, f6, f7, f8, f18⟩ := eN_f h.1
  obtain ⟨q4, q5, q6, q7⟩ := eN_p h.1 hi
  have hq := eN_sk h.1 hi
  rw [f4, f6, f7, si_e h.2 q4 q5, q6]
  exact vw_e f0 hR.1 q4 (aN_lt hR (by have := hR.2.1.2; omega))
theorem seenBy_e {ab p i : Nat} {tt : tT} {X : xS} {M : mS} (h : eE ab tt X p M) (hR : rOK M) (hi : i < vn (X p 9)) : x0_seenBy tt X p i = mF_seesOf M (sk ab i) := seen_e h hR hi
theorem counts_e {ab p i : Nat} {X : xS} {M : mS} (h : eN ab X p (M 1)) (hi : i < vn (X p 9)) : p1_countsOf (X (p + 4) i) (X (p + 5) i) = mF_counts M (sk ab i) := by
  obtain ⟨q4, q5, q6, q7⟩ := eN_p h hi
  rw [q4, q5]
  rfl
theorem counts_row {M M2 : mS} (h : M2 1 = M 1) (q : Nat) : mF_counts M2 q = mF_counts M q := by
  unfold mF_counts mF_its
  rw [h]
/-! an hour: who counts -/
theorem fill_at (X : xS) (q : Nat) (v : Int32) : ∀ n j, x7_fill_53178_L5 X q v n q j = if j < n then v else X q j := by
  intro n
  induction n with
  | zero => intro j; rw [if_neg (by omega)]; rfl
  | succ n ih =>
    intro j
    show (lt (x7_fill_53178_L5 X q v n) fun (X5 : xS) => (lt (mU X5 q n v) fun (Z : xS) => Z)) q j = _
    simp only [lt_i]
    rw [mU_sm, ih]
    by_cases e : j = n
    · rw [if_pos e, if_pos (by omega)]
    · rw [if_neg e]
      by_cases e2 : j < n
      · rw [if_pos e2, if_pos (by omega)]
      · rw [if_neg e2, if_neg (by omega)]
theorem L74_at (p : Nat) (X : xS) (x y : Int32) : ∀ n j, x0_grow_L74 p X x y n (p + 3) j = if j < n ∧ ¬ p8_has y (nI j) = 0 then X (p + 3) j + x else X (p + 3) j := by
  intro n
  induction n with
  | zero => intro j; rw [if_neg (by omega)]; rfl
  | succ n ih =>
    intro j
    rw [x0_grow_L74_s]
    simp only [lt_i]
    by_cases c : p8_has y (nI n) = 0
    · rw [if_pos c, ih]
      by_cases e : j = n
      · subst e
        rw [if_neg (by omega), if_neg (fun w => w.2 c)]
      · by_cases e2 : j < n ∧ ¬ p8_has y (nI j) = 0
        · rw [if_pos e2, if_pos ⟨by omega, e2.2⟩]
        · rw [if_neg e2, if_neg (fun w => e2 ⟨by omega, w.2⟩)]
    · rw [if_neg c, mU_sm, ih, ih]
      by_cases e : j = n
      · subst e
        rw [if_pos rfl, if_neg (by omega), if_pos ⟨by omega, c⟩]
      · rw [if_neg e]
        by_cases e2 : j < n ∧ ¬ p8_has y (nI j) = 0
        · rw [if_pos e2, if_pos ⟨by omega, e2.2⟩]
        · rw [if_neg e2, if_neg (fun w => e2 ⟨by omega, w.2⟩)]
theorem L58_at (k : Nat) (M : mS) (y : Int32) : ∀ n j, mF_oneHour_L58 k M y n 6 j = if j < n then M 6 j + (if sF_has y (nI j) = 0 then 0 else mF_counts M k) else M 6 j := by
  intro n
  induction n with
  | zero => intro j; rw [if_neg (by omega)]; rfl
  | succ n ih =>
    intro j
    rw [mF_oneHour_L58_s]
    simp only [lt_i]
    rw [counts_row (oH_L58 k M y n 1 (by decide)), mU_sm, ih, ih]
    by_cases e : j = n
    · subst e
      rw [if_pos rfl, if_neg (Nat.lt_irrefl j), if_pos (Nat.lt_succ_self j)]
    · rw [if_neg e]
      by_cases e2 : j < n
      · rw [if_pos e2, if_pos (show j < n + 1 by omega)]
      · rw [if_neg e2, if_neg (show ¬ j < n + 1 by omega)]
theorem L2_at (M : mS) : ∀ n j, mF_oneHour_L2 M n 6 j = if j < n then 0 else M 6 j := by
  intro n
  induction n with
  | zero => intro j; rw [if_neg (by omega)]; rfl
  | succ n ih =>
    intro j
    rw [mF_oneHour_L2_s]
    simp only [lt_i]
    rw [mU_sm, ih]
    by_cases e : j = n
    · rw [if_pos e, if_pos (by omega)]
    · rw [if_neg e]
      by_cases e2 : j < n
      · rw [if_pos e2, if_pos (by omega)]
      · rw [if_neg e2, if_neg (by omega)]
/-- of the first k of the reference's people, how many the class has -/
def jx (ab k : Nat) : Nat := if ab < k then k - 1 else k
theorem jx_s {ab k : Nat} : (k = ab ∧ jx ab (k + 1) = jx ab k) ∨ (k ≠ ab ∧ jx ab (k + 1) = jx ab k + 1 ∧ sk ab (jx ab k) = k) := by
  unfold jx sk
  rcases Nat.lt_trichotomy ab k with h | h | h
  · refine Or.inr ⟨by omega, ?_, ?_⟩
    · rw [if_pos (by omega), if_pos h]; omega
    · rw [if_pos h, if_neg (by omega)]; omega
  · refine Or.inl ⟨by omega, ?_⟩
    rw [if_pos (by omega), if_neg (by omega)]; omega
  · refine Or.inr ⟨by omega, ?_, ?_⟩
    · rw [if_neg (show ¬ ab < k + 1 by omega), if_neg (show ¬ ab < k by omega)]
    · rw [if_neg (show ¬ ab < k by omega), if_pos h]
theorem aB_e {ab k : Nat} {M : mS} (hA : aB ab M) (hk : k < 8) : (nI k = M 0 15) ↔ k = ab := by
  unfold aB at hA
  rw [hA]
  by_cases h : ab < 8
  · rw [if_pos h, nI_eq (by omega) (by omega)]
  · rw [if_neg h]
    constructor
    · intro e; exact absurd e (fun e => nIm (by omega) e)
    · intro e; omega
theorem ct_L {ab p : Nat} {tt : tT} {X X5 : xS} {M M2 : mS} (h : eE ab tt X p M) (hR : rOK M) (hA : aB ab M) (hX : ∀ a, a ≠ p + 3 → X5 a = X a) (hM : ∀ i, i ≠ 6 → M2 i = M i) (h0 : ∀ j, j < vn (M 1 3) → X5 (p + 3) j = M2 6 j) : ∀ k, k ≤ vn (M 1 8) → ∀ j, j < vn (M 1 3) → x0_grow_L10 tt X p X5 (jx ab k) (p + 3) j = mF_oneHour_L27 M M2 k 6 j := by
  intro k
  induction k with
  | zero =>
    intro _ j hj
    rw [show jx ab 0 = 0 by unfold jx; rw [if_neg (by omega)]]
    exact h0 j hj
  | succ k ih =>
    intro hk j hj
    have hm := hR.2.1.2
    have ih := ih (by omega)
    rw [mF_oneHour_L27_s]
    simp only [lt_i]
    have hM27 : ∀ i, i ≠ 6 → mF_oneHour_L27 M M2 k i = M i := fun i hi => (oH_L27 M M2 k i hi).trans (hM i hi)
    rw [L58_at, if_pos hj, hM27 0 (by decide)]
    rcases jx_s (ab := ab) (k := k) with ⟨e1, e2⟩ | ⟨e1, e2, e3⟩
    · rw [e2, if_pos ((aB_e hA (by omega)).mpr e1)]
      rw [show sF_has 0 (nI j) = 0 by
        unfold sF_has
        rw [show (0 : Int32) >>> (nI j &&& 31) &&& 1 = 0 by
          rcases and1 (0 >>> (nI j &&& 31)) with w | w
          · exact w
          · rw [Int32.zero_shiftRight] at w ⊢; exact absurd w (by decide)]
        decide, if_pos rfl, Int32.add_zero]
      exact ih j hj
    · rw [e2, if_neg (fun w => e1 ((aB_e hA (by omega)).mp w)), x0_grow_L10_s]
      simp only [lt_i]
      have hX10 : ∀ a, a ≠ p + 3 → x0_grow_L10 tt X p X5 (jx ab k) a = X a := fun a ha => (gw_L10 X p X5 (jx ab k) a ha).trans (hX a ha)
      have hE : eE ab tt (x0_grow_L10 tt X p X5 (jx ab k)) p (mF_oneHour_L27 M M2 k) := eE_row h (fun a _ _ h3 => hX10 a h3) (hM27 1 (by decide)) hR.2.1
      have hR2 : rOK (mF_oneHour_L27 M M2 k) := rOK_row (hM27 1 (by decide)) hR
      have hn : vn (M 1 8) = vn (X p 9) + (if ab < vn (M 1 8) then 1 else 0) := h.1.2.2
      have hi : jx ab k < vn (x0_grow_L10 tt X p X5 (jx ab k) p 9) := by
        rw [hX10 p (by omega)]
        unfold jx
        split at hn <;> split <;> omega
      rw [counts_e hE.1 hi, seen_e hE hR2 hi, e3]
      have hc0 : vn (X p 0) = vn (M 1 3) := by rw [(eN_f h.1).1]
      rw [hc0, L74_at, ih j hj, has_e]
      by_cases c : mF_counts (mF_oneHour_L27 M M2 k) k = 0
      · rw [c]
        by_cases c2 : j < vn (M 1 3) ∧ ¬ sF_has (if (0 : Int32) = 0 then 0 else mF_seesOf (mF_oneHour_L27 M M2 k) k) (nI j) = 0
        · rw [if_pos c2]
          by_cases c3 : sF_has (mF_seesOf (mF_oneHour_L27 M M2 k) k) (nI j) = 0
          · rw [if_pos c3]
          · rw [if_neg c3]
        · rw [if_neg c2]
          by_cases c3 : sF_has (mF_seesOf (mF_oneHour_L27 M M2 k) k) (nI j) = 0
          · rw [if_pos c3, Int32.add_zero]
          · rw [if_neg c3, Int32.add_zero]
      · rw [if_neg c]
        by_cases c3 : sF_has (mF_seesOf (mF_oneHour_L27 M M2 k) k) (nI j) = 0
        · rw [if_neg (fun w => w.2 c3), if_pos c3, Int32.add_zero]
        · rw [if_pos ⟨hj, c3⟩, if_neg c3]
