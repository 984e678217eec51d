theorem min_e (t g : Int32) : (if t < g then t else g) = if t ≤ g then t else g := by
  by_cases h : t < g
  · rw [if_pos h, if_pos (Int32.le_of_lt h)]
  · rw [if_neg h]
    by_cases h2 : t ≤ g
    · rw [if_pos h2]; exact Int32.le_antisymm (Int32.not_lt.mp h) h2
    · rw [if_neg h2]
theorem gr_L {ab p : Nat} {tt : tT} {X : xS} {M : mS} (h : eE ab tt X p M) (hR : rOK M) (hc : ∀ j, j < vn (M 1 3) → X (p + 3) j = M 6 j) : ∀ k, k ≤ vn (M 1 3) → eE ab tt (x0_grow_L117 p X k) p (mF_oneHour_L108 M k) := by
  intro k
  induction k with
  | zero => intro _; exact h
  | succ k ih =>
    intro hk
    have ih := ih (by omega)
    have h10 := hR.1.2.2
    rw [x0_grow_L117_s, mF_oneHour_L108_s]
    simp only [lt_i]
    have e1 := eN_g ih.1 (c := k) (by omega)
    have e3 : x0_grow_L117 p X k (p + 3) k = mF_oneHour_L108 M k 6 k := by
      rw [gw_L117 p X k (p + 3) (by omega), oH_L108_row M k 6 (by decide)]
      exact hc k (by omega)
    rw [e1.1, e1.2, e3, held_e]
    exact eE_up ih (oH_L108_R hR k (by omega)).2.1 (Or.inr (Or.inl ⟨by omega, by omega⟩)) _
theorem tg_e {ab p i : Nat} {tt : tT} {X : xS} {M : mS} (h : eE ab tt X p M) (hR : rOK M) (hi : i < vn (X p 9)) : eE ab tt (x0_goOn (mU (mU X (p + 1) (vn (X (p + 6) i)) (X (p + 1) (vn (X (p + 6) i)) - (if x0_takesFrom tt X p i (X (p + 1) (vn (X (p + 6) i))) (X p 7) < X (p + 1) (vn (X (p + 6) i)) then x0_takesFrom tt X p i (X (p + 1) (vn (X (p + 6) i))) (X p 7) else X (p + 1) (vn (X (p + 6) i))))) p 8 (p8_held (mU X (p + 1) (vn (X (p + 6) i)) (X (p + 1) (vn (X (p + 6) i)) - (if x0_takesFrom tt X p i (X (p + 1) (vn (X (p + 6) i))) (X p 7) < X (p + 1) (vn (X (p + 6) i)) then x0_takesFrom tt X p i (X (p + 1) (vn (X (p + 6) i))) (X p 7) else X (p + 1) (vn (X (p + 6) i)))) p 8 + (if x0_takesFrom tt X p i (X (p + 1) (vn (X (p + 6) i))) (X p 7) < X (p + 1) (vn (X (p + 6) i)) then x0_takesFrom tt X p i (X (p + 1) (vn (X (p + 6) i))) (X p 7) else X (p + 1) (vn (X (p + 6) i)))) 99999)) p i) p (mF_takesAndGoes M (sk ab i)) := by
  obtain ⟨q4, q5, q6, q7⟩ := eN_p h.1 hi
  have hsk := eN_sk h.1 hi
  have hq : sk ab i < 8 := by have := hR.2.1.2; omega
  have ha : aN M (sk ab i) < 10 := aN_lt hR hq
  have ea : vn (X (p + 6) i) = aN M (sk ab i) := by rw [q6]; rfl
  have eg := (eN_g h.1 ha).1
  have et : x0_takesFrom tt X p i (M 1 (12 + aN M (sk ab i))) (M 1 0) = mF_takes M (sk ab i) := tk_eq h.2 q4 q5 (hR.2.2.1 _ hq)
  rw [ea, eg, (eN_f h.1).2.2.2.2.1, et, min_e]
  unfold mF_takesAndGoes
  simp only [lt_i]
  generalize (if mF_takes M (sk ab i) ≤ M 1 (12 + aN M (sk ab i)) then mF_takes M (sk ab i) else M 1 (12 + aN M (sk ab i))) = y
  have h1 := eE_up h hR.2.1 (Or.inr (Or.inl ⟨ha, Or.inl ⟨rfl, rfl⟩⟩)) (M 1 (12 + aN M (sk ab i)) - y)
  have hP1 : pOK (mU M 1 (12 + aN M (sk ab i)) (M 1 (12 + aN M (sk ab i)) - y)) := by
    unfold pOK
    rw [mU_ne (by omega)]
    exact hR.2.1
  have n1 : mU X (p + 1) (aN M (sk ab i)) (M 1 (12 + aN M (sk ab i)) - y) p 9 = X p 9 := by rw [mU_row (by omega)]
  generalize mU X (p + 1) (aN M (sk ab i)) (M 1 (12 + aN M (sk ab i)) - y) = Y at h1 n1 ⊢
  generalize mU M 1 (12 + aN M (sk ab i)) (M 1 (12 + aN M (sk ab i)) - y) = N at h1 hP1 ⊢
  have e8 := (eN_f h1.1).2.2.2.2.2.1
  rw [e8, held_e]
  have h2 := eE_up h1 hP1 (a := p) (b := 8) (x := 11) (Or.inl ⟨rfl, by omega⟩) (sF_held (N 1 11 + y) 0 99999)
  have hP2 : pOK (mU N 1 11 (sF_held (N 1 11 + y) 0 99999)) := by
    unfold pOK
    rw [mU_ne (by omega)]
    exact hP1
  have n2 : mU Y p 8 (sF_held (N 1 11 + y) 0 99999) p 9 = X p 9 := by rw [mU_ne (by omega), n1]
  generalize mU Y p 8 (sF_held (N 1 11 + y) 0 99999) = Y2 at h2 n2 ⊢
  generalize mU N 1 11 (sF_held (N 1 11 + y) 0 99999) = N2 at h2 hP2 ⊢
  unfold x0_goOn mF_isCell mF_gets mF_its
  simp only [lt_i]
  have hi2 : i < vn (Y2 p 9) := by rw [n2]; exact hi
  obtain ⟨r4, r5, r6, r7⟩ := eN_p h2.1 hi2
  rw [r6, r7, (eN_f h2.1).1, in_e]
  by_cases c : sF_in (N2 1 (32 + 4 * sk ab i + 2) + N2 1 (32 + 4 * sk ab i + 3)) 0 (N2 1 3 - 1) = 0
  · rw [if_pos c, if_pos c]
    exact eE_up h2 hP2 (Or.inr (Or.inr ⟨hi2, Or.inr (Or.inr (Or.inr ⟨rfl, rfl⟩))⟩)) _
  · rw [if_neg c, if_neg c]
    exact eE_up h2 hP2 (Or.inr (Or.inr ⟨hi2, Or.inr (Or.inr (Or.inl ⟨rfl, rfl⟩))⟩)) _
theorem ph_n (tt : tT) (p : Nat) (X : xS) : ∀ k, x0_passHour_L6 tt p X k p 9 = X p 9 := by
  intro k
  induction k with
  | zero => rfl
  | succ k ih =>
    rw [x0_passHour_L6_s]
    simp only [lt_i]
    rw [gO_0 _ _ _ _ (by omega) (by omega), mU_ne (by decide), mU_row (by omega), ih]
theorem tg_L {ab p : Nat} {tt : tT} {X : xS} {M : mS} (h : eE ab tt X p M) (hR : rOK M) (hA : aB ab M) : ∀ k, k ≤ vn (M 1 8) → eE ab tt (x0_passHour_L6 tt p X (jx ab k)) p (mF_oneHour_L169 M k) := by
  intro k
  induction k with
  | zero =>
    intro _
    rw [show jx ab 0 = 0 by unfold jx; rw [if_neg (by omega)]]
    exact h
  | succ k ih =>
    intro hk
    have ih := ih (by omega)
    have hm := hR.2.1.2
    rw [mF_oneHour_L169_s]
    simp only [lt_i]
    rw [oH_L169_row M k 0 (by decide)]
    rcases jx_s (ab := ab) (k := k) with ⟨e1, e2⟩ | ⟨e1, e2, e3⟩
    · rw [e2, if_pos ((aB_e hA (by omega)).mpr e1)]
      exact ih
    · rw [e2, if_neg (fun w => e1 ((aB_e hA (by omega)).mp w)), x0_passHour_L6_s]
      simp only [lt_i]
      have hn : vn (M 1 8) = vn (X p 9) + (if ab < vn (M 1 8) then 1 else 0) := h.1.2.2
      have hi : jx ab k < vn (x0_passHour_L6 tt p X (jx ab k) p 9) := by
        rw [ph_n]
        unfold jx
        split at hn <;> split <;> omega
      have := tg_e ih (oH_L169_R hR k (by omega)) hi
      rw [e3] at this
      exact this
theorem jx_m {ab n m : Nat} (h : m = n + (if ab < m then 1 else 0)) : jx ab m = n := by
  unfold jx
  split at h <;> split <;> omega
/-- an hour -/
theorem hour_e {ab p : Nat} {tt : tT} {X : xS} {M : mS} (h : eE ab tt X p M) (hR : rOK M) (hA : aB ab M) : eE ab tt (x0_passHour tt X p) p (mF_oneHour M) ∧ rOK (mF_oneHour M) ∧ aB ab (mF_oneHour M) := by
  refine ⟨?_, oH_R hR, by unfold aB; rw [oH_row M 0 (by decide) (by decide)]; exact hA⟩
  have hc0 : vn (X p 0) = vn (M 1 3) := by rw [(eN_f h.1).1]
  have hn := h.1.2.2
  unfold x0_passHour mF_oneHour
  simp only [lt_i]
  have hM2 : ∀ i, i ≠ 6 → mF_oneHour_L2 M (vn (M 1 3)) i = M i := fun i hi => oH_L2 M _ i hi
  have hM27 : ∀ i, i ≠ 6 → mF_oneHour_L27 M (mF_oneHour_L2 M (vn (M 1 3))) (vn (M 1 8)) i = M i := fun i hi => (oH_L27 M _ _ i hi).trans (hM2 i hi)
  have hXf : ∀ a, a ≠ p + 3 → x7_fill_53178 X (p + 3) 10 0 a = X a := fun a ha => gw_fill X (p + 3) 10 0 a ha
  have hct := ct_L h hR hA hXf hM2 (fun j hj => by
    have h10 := hR.1.2.2
    rw [L2_at, if_pos hj]
    show x7_fill_53178 X (p + 3) 10 0 (p + 3) j = 0
    unfold x7_fill_53178
    rw [lt_i, fill_at, if_pos (by omega)]) (vn (M 1 8)) (Nat.le_refl _)
  have hj : jx ab (vn (M 1 8)) = vn (X p 9) := jx_m hn
  rw [hj] at hct
  have hX10 : ∀ a, a ≠ p + 3 → x0_grow_L10 tt X p (x7_fill_53178 X (p + 3) 10 0) (vn (X p 9)) a = X a := fun a ha => (gw_L10 X p _ _ a ha).trans (hXf a ha)
  have hR27 := rOK_row (hM27 1 (by decide)) hR
  have h27 : eE ab tt (x0_grow_L10 tt X p (x7_fill_53178 X (p + 3) 10 0) (vn (X p 9))) p (mF_oneHour_L27 M (mF_oneHour_L2 M (vn (M 1 3))) (vn (M 1 8))) := eE_row h (fun a _ _ h3 => hX10 a h3) (hM27 1 (by decide)) hR.2.1
  have e3 : vn (mF_oneHour_L27 M (mF_oneHour_L2 M (vn (M 1 3))) (vn (M 1 8)) 1 3) = vn (M 1 3) := by rw [hM27 1 (by decide)]
  have h108 := gr_L h27 hR27 (fun j hj => hct j (by rw [e3] at hj; exact hj)) (vn (M 1 3)) (by rw [e3]; exact Nat.le_refl _)
  have hg : x0_grow tt X p = x0_grow_L117 p (x0_grow_L10 tt X p (x7_fill_53178 X (p + 3) 10 0) (vn (X p 9))) (vn (M 1 3)) := by
    unfold x0_grow
    simp only [lt_i]
    rw [hc0]
  rw [hg]
  have hR108 := oH_L108_R hR27 (vn (M 1 3)) hR.1.2.2
  have hA108 : aB ab (mF_oneHour_L108 (mF_oneHour_L27 M (mF_oneHour_L2 M (vn (M 1 3))) (vn (M 1 8))) (vn (M 1 3))) := by
    unfold aB
    rw [oH_L108_row _ _ 0 (by decide), hM27 0 (by decide)]
    exact hA
  have e8 : mF_oneHour_L108 (mF_oneHour_L27 M (mF_oneHour_L2 M (vn (M 1 3))) (vn (M 1 8))) (vn (M 1 3)) 1 8 = M 1 8 := by
    rw [oH_L108 _ _ 8 (by decide), hM27 1 (by decide)]
  have h169 := tg_L h108 hR108 hA108 (vn (M 1 8)) (by rw [e8]; exact Nat.le_refl _)
  rw [hj] at h169
  have hR169 := oH_L169_R hR108 (vn (M 1 8)) hR.2.1.2
  have e7 := (eN_f h169.1).2.2.2.2.1
  rw [e7]
  exact eE_up h169 hR169.2.1 (Or.inl ⟨rfl, by omega⟩) _
/-- what there is together -/
theorem mask_b : ∀ n, n ≤ 10 → ∀ c, c < n → p8_has ((1 <<< (nI n &&& 31)) - 1) (nI c) = 1 := by decide
theorem tog_e {ab p : Nat} {X : xS} {M : mS} (h : eN ab X p (M 1)) (hC : cOK M) : x0_together X p = mF_grains M := by
  obtain ⟨c1, c2, c3⟩ := hC
  unfold x0_together x0_grainsIn mF_grains
  simp only [lt_i]
  rw [(eN_f h).1, c1]
  have hL : ∀ k, k ≤ vn (M 1 3) → x0_grainsIn_L4 X p ((1 <<< (nI (vn (M 1 3)) &&& 31)) - 1) k = mF_grains_L4 M k := by
    intro k
    induction k with
    | zero => intro _; rfl
    | succ k ih =>
      intro hk
      rw [x0_grainsIn_L4_s, mF_grains_L4_s]
      simp only [lt_i]
      rw [ih (by omega), mask_b _ c3 k (by omega), if_neg (by decide), (eN_g h (c := k) (by omega)).1]
  rw [vn_nI (by omega)]
  exact hL _ (Nat.le_refl _)
