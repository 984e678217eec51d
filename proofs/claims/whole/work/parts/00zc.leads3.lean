/-! LEAD: what hasThen says; the most there can be -/
/-- the people put at the places pl -/
def PL (M N : mS) (P : Nat) (pl : Nat → Nat) : Prop := (∀ x, (∀ p, p < P → x ≠ 32 + 4 * p + 2) → N 1 x = M 1 x) ∧ (∀ p, p < P → N 1 (32 + 4 * p + 2) = nI (pl p)) ∧ (∀ i, i ≠ 1 → i ≠ 3 → i ≠ 6 → N i = M i)
theorem PL_R {M N : mS} {P : Nat} {pl : Nat → Nat} (h : PL M N P pl) (hR : rOK M) (hl : ∀ p, p < P → pl p < 10) : rOK N := by
  obtain ⟨h1, h2, h3⟩ := h
  obtain ⟨hC, hP, hK, hA, hS⟩ := hR
  refine ⟨?_, ?_, ?_, ?_, ?_⟩
  · unfold cOK; rw [h1 3 (fun p _ => by omega)]; exact hC
  · unfold pOK; rw [h1 8 (fun p _ => by omega)]; exact hP
  · intro q hq; rw [h1 _ (fun p _ => by omega)]; exact hK q hq
  · intro q hq
    by_cases e : q < P
    · have := hl q e
      rw [h2 q e, vn_nI (by omega)]; exact ⟨rfl, this⟩
    · rw [h1 _ (fun p _ => by omega)]; exact hA q hq
  · intro u hu; rw [h1 _ (fun p _ => by omega)]; exact hS u hu
theorem RL_0 {tt : tT} {X Y : xS} {M N : mS} {c nn P : Nat} {pl : Nat → Nat} (h : LC tt X Y M c nn P pl) (hA : aB 8 M) (hN : PL M N P pl) : RLe tt X Y M c P pl 0 (mF_moveAll_1_3 N) := by
  obtain ⟨o0, o4, o6, o7, oC, oP, y1, y5, y6, y9⟩ := LC_o h
  have hc := LCc h
  have hR := PL_R hN (LCr h) (fun p hp => by have := (LCl h p hp).2; omega)
  obtain ⟨h1, h2, h3⟩ := hN
  have r1 : mF_moveAll_1_3 N 1 = N 1 := mv13_row N 1 (by decide)
  refine ⟨rOK_row r1 hR, ?_, ?_, fun x hx => ?_, fun p hp => ⟨?_, ?_⟩, ?_⟩
  · unfold aB; rw [mv13_row N 0 (by decide), h3 0 (by decide) (by decide) (by decide)]; exact hA
  · rw [r1, h1 0 (fun p _ => by omega), nI_0, Int32.add_zero]
  · rw [r1]; exact h1 x (fun p hp => by unfold stt at hx; omega)
  · rw [r1, h2 p hp, x2_placeAfter_L17_0]
  · rw [r1, x2_placeAfter_L17_0, h1 _ (fun p' _ => by omega)]
    exact (LC_q h hp).2.2.1.symm
  · rw [r1, h1 _ (fun p _ => by omega), x2_harvest_L15_0]
    exact (eN_g (LCe h).1 (c := c) (by omega)).1.symm
theorem RL_n {tt : tT} {X Y : xS} {M N : mS} {c nn P : Nat} {pl : Nat → Nat} (h : LC tt X Y M c nn P pl) (hA : aB 8 M) (hN : PL M N P pl) : ∀ t, t ≤ nn → RLe tt X Y M c P pl t (mF_passes_L2 (mF_moveAll_1_3 N) t) := by
  intro t
  induction t with
  | zero => intro _; exact RL_0 h hA hN
  | succ t ih =>
    intro ht
    rw [mF_passes_L2_s]
    simp only [lt_i]
    exact RL_s h (by omega) (ih (by omega))
theorem hT_e {tt : tT} {X Y : xS} {M N : mS} {c nn P : Nat} {pl : Nat → Nat} {v : Int32} (h : LC tt X Y M c nn P pl) (hn : nn ≤ 3) (hA : aB 8 M) (hN : PL M N P pl) : (mF_hasThen N c v nn).1 = (if x2_harvest tt Y < v then 0 else 1) ∧ (mF_hasThen N c v nn).2 1 = N 1 ∧ (∀ i, i ≠ 1 → i ≠ 3 → i ≠ 6 → (mF_hasThen N c v nn).2 i = N i) := by
  obtain ⟨o0, o4, o6, o7, oC, oP, y1, y5, y6, y9⟩ := LC_o h
  have hc := LCc h
  have g := RL_n h hA hN nn (Nat.le_refl _)
  have hq := hT_q (M := N) (c := c) (n := nn) (v := v) (x := (mF_hasThen N c v nn).1) (M2 := (mF_hasThen N c v nn).2) rfl
  refine ⟨?_, ?_, ?_⟩
  · unfold mF_hasThen
    simp only [lt_i, ps_e]
    have : x2_harvest tt Y = x2_harvest_L15 tt Y (X 2 c) nn := by
      unfold x2_harvest
      simp only [lt_i]
      rw [(LCk h).2.2.1, (LCk h).2.2.2.1, vn_nI (by omega), vn_nI (by omega), (LCk h).1 2 (by decide) (by decide)]
    rw [this, g.2.2.2.2.2]
  · funext x
    by_cases e : x < 234
    · exact hq x e
    · unfold mF_hasThen
      simp only [lt_i, ps_e]
      rw [mv31_at, if_neg e, g.2.2.2.1 x (by unfold stt; omega), hN.1 x (fun p hp => by omega)]
  · intro i i1 i3 i6
    unfold mF_hasThen
    simp only [lt_i, ps_e]
    rw [mv31_row _ i i1, pS_row _ _ i i1 i6, mv13_row _ i i3]
/-! the most there can be -/
theorem heldN {x w : Nat} (hx : x < 2 ^ 30) (hw : w < 2 ^ 30) : p8_held (nI x - nI w) 99999 = nI (if x ≤ w then 0 else if x - w ≤ 99999 then x - w else 99999) := by
  unfold p8_held
  by_cases c : x ≤ w
  · rw [if_pos c]
    have e : (nI x - nI w).toInt = (x : Int) - w := by
      rw [Int32.toInt_sub, nI_toInt (by omega), nI_toInt (by omega)]
      apply Int.bmod_eq_of_le <;> omega
    by_cases c2 : x = w
    · subst c2
      rw [Int32.sub_self, if_pos (by decide), if_pos (by decide)]; rfl
    · rw [if_neg (by
        rw [Int32.le_iff_toInt_le, e]
        have : (0 : Int32).toInt = 0 := by decide
        omega)]
      rfl
  · rw [if_neg c, pk_sub (by omega), if_pos (nI_ge0 (by omega))]
    have : (99999 : Int32) = nI 99999 := rfl
    by_cases c2 : x - w ≤ 99999
    · rw [if_pos c2, if_pos (by rw [this, nI_leI (by omega) (by omega)]; exact c2)]
    · rw [if_neg c2, if_neg (by rw [this, nI_leI (by omega) (by omega)]; exact c2)]
      rfl
theorem tk_r (tt : tT) (X : xS) (q : Nat) (g hr : Int32) : ∃ w, w ≤ 99 ∧ x0_takesFrom tt X 1 q g hr = nI w := by
  unfold x0_takesFrom
  by_cases c : x1_isOneOf X (X (1 + 4) q) 3 = 0
  · rw [if_pos c]; exact ⟨0, by omega, rfl⟩
  · rw [if_neg c]
    obtain ⟨w, w1, w2⟩ : ∃ w, w ≤ 99 ∧ x0_theftGiven tt X 1 (X (1 + 5) q) g hr = nI w := by
      unfold x0_theftGiven
      simp only [lt_i]
      exact held_rng _ (m := 99) (by decide)
    rw [w2]
    unfold p1_takesOf
    by_cases c1 : X (1 + 4) q = 3
    · rw [if_pos c1]; exact ⟨w, w1, rfl⟩
    · rw [if_neg c1]
      by_cases c2 : X (1 + 4) q = 6
      · rw [if_pos c2]
        exact ⟨w / 2, by omega, by rw [show (2 : Int32) = nI 2 from rfl, pk_div (by omega) (by decide) (by decide)]⟩
      · rw [if_neg c2]; exact ⟨0, by omega, rfl⟩
theorem L94_r (tt : tT) (Y : xS) (t : Nat) {x : Nat} (hx : x < 2 ^ 30) : ∀ k, ∃ w, w ≤ x ∧ x2_harvest_L94 tt Y t (nI x) k = nI w := by
  intro k
  induction k with
  | zero => exact ⟨x, Nat.le_refl _, rfl⟩
  | succ k ih =>
    obtain ⟨w, w1, w2⟩ := ih
    rw [x2_harvest_L94_s]
    simp only [lt_i]
    rw [w2]
    by_cases c : Y 45 ((t * 8 + k) * 10 + vn (Y 46 k)) = 0
    · rw [if_pos c]; exact ⟨w, w1, rfl⟩
    · rw [if_neg c]
      obtain ⟨z, z1, z2⟩ := tk_r tt Y k (nI w) (Y 1 7 + nI t)
      rw [min_e]
      obtain ⟨m, m1, m2, m3⟩ := min_rng z2 (rfl : nI w = nI w) (by omega) (by omega)
      rw [m3, pk_sub m1]
      exact ⟨w - m, by omega, rfl⟩
theorem cnt_r {k m : Int32} {a b : Nat} (hk : k = nI a) (ha : a ≤ 6) (hm : m = nI b) (hb : b ≤ 9) : ∃ w, w ≤ 4 ∧ p1_countsOf k m = nI w := by
  have key : ∀ a, a ≤ 6 → ∀ b, b ≤ 9 → p1_countsOf (nI a) (nI b) = nI (vn (p1_countsOf (nI a) (nI b))) ∧ vn (p1_countsOf (nI a) (nI b)) ≤ 4 := by decide +kernel
  rw [hk, hm]
  exact ⟨_, (key a ha b hb).2, (key a ha b hb).1⟩
theorem ent_r {tt : tT} {X : xS} {c t p s : Nat} (h : ∃ w, w ≤ 4 ∧ p1_countsOf (X 5 p) (X 6 p) = nI w) : ∃ w, w ≤ 4 ∧ ent tt X c t p s = nI w := by
  unfold ent
  split
  · exact ⟨0, by omega, rfl⟩
  · exact h
theorem L46_r {Y : xS} {t p : Nat} : ∀ k, (∀ s, s < k → ∃ w, w ≤ 4 ∧ Y 44 ((t * 8 + p) * 10 + s) = nI w) → ∃ m, m ≤ 4 ∧ x2_mostHarvest_L46 Y t p k = nI m ∧ ∀ s, s < k → ∃ w, w ≤ m ∧ Y 44 ((t * 8 + p) * 10 + s) = nI w := by
  intro k
  induction k with
  | zero => intro _; exact ⟨0, by omega, rfl, fun s hs => absurd hs (Nat.not_lt_zero _)⟩
  | succ k ih =>
    intro h
    obtain ⟨m, m1, m2, m3⟩ := ih (fun s hs => h s (by omega))
    obtain ⟨w, w1, w2⟩ := h k (Nat.lt_succ_self _)
    rw [x2_mostHarvest_L46_s]
    simp only [lt_i]
    rw [m2, w2]
    by_cases c : nI m < nI w
    · rw [if_pos c]
      rw [nI_ltI (by omega) (by omega)] at c
      refine ⟨w, w1, rfl, fun s hs => ?_⟩
      by_cases e : s = k
      · rw [e]; exact ⟨w, Nat.le_refl _, w2⟩
      · obtain ⟨z, z1, z2⟩ := m3 s (by omega)
        exact ⟨z, by omega, z2⟩
    · rw [if_neg c]
      rw [nI_ltI (by omega) (by omega)] at c
      refine ⟨m, m1, rfl, fun s hs => ?_⟩
      by_cases e : s = k
      · rw [e]; exact ⟨w, by omega, w2⟩
      · exact m3 s (by omega)
/-- what the table holds -/
def tb4 (Y : xS) (nn P C : Nat) : Prop := ∀ t p s, t < nn → p < P → s < C → ∃ w, w ≤ 4 ∧ Y 44 ((t * 8 + p) * 10 + s) = nI w
theorem L28_r {Y Z : xS} {nn P C t : Nat} (hY : tb4 Y nn P C) (hZ : ∀ p s, p < P → s < C → Z 44 ((t * 8 + p) * 10 + s) = Y 44 ((t * 8 + p) * 10 + s)) (hl : ∀ p, p < P → vn (Z 46 p) < C) (hC : vn (Y 1 0) = C) (ht : t < nn) : ∀ k, k ≤ P → ∃ a b, a ≤ b ∧ b ≤ 4 * k ∧ x2_harvest_L28 Z t k = nI a ∧ x2_mostHarvest_L28 Y t k = nI b := by
  intro k
  induction k with
  | zero => intro _; exact ⟨0, 0, by omega, by omega, rfl, rfl⟩
  | succ k ih =>
    intro hk
    obtain ⟨a, b, h1, h2, h3, h4⟩ := ih (by omega)
    rw [x2_harvest_L28_s, x2_mostHarvest_L28_s]
    simp only [lt_i]
    rw [h3, h4, hZ k _ (by omega) (hl k (by omega)), hC]
    obtain ⟨m, m1, m2, m3⟩ := L46_r (Y := Y) (t := t) (p := k) C (fun s hs => hY t k s ht (by omega) hs)
    obtain ⟨w, w1, w2⟩ := m3 (vn (Z 46 k)) (hl k (by omega))
    rw [m2, w2, nI_add, nI_add]
    exact ⟨a + w, b + m, by omega, by omega, rfl, rfl⟩
theorem most_le {tt : tT} {Y Z : xS} {nn P C c g w : Nat} (hY : tb4 Y nn P C) (hZ : ∀ t p s, t < nn → p < P → s < C → Z 44 ((t * 8 + p) * 10 + s) = Y 44 ((t * 8 + p) * 10 + s)) (hl : ∀ p, p < P → vn (Z 46 p) < C) (hC : vn (Y 1 0) = C) (hP : P ≤ 8) (y9 : vn (Y 1 9) = P) (z9 : vn (Z 1 9) = P) (y6 : vn (Y 42 6) = c) (z6 : vn (Z 42 6) = c) (y3 : Y 3 c = nI w) (z3 : Z 3 c = nI w) (hw : w ≤ 99) (hg : g ≤ 99999) : ∀ t, t ≤ nn → ∃ a b, a ≤ b ∧ b ≤ 99999 ∧ x2_harvest_L15 tt Z (nI g) t = nI a ∧ x2_mostHarvest_L15 Y (nI g) t = nI b := by
  intro t
  induction t with
  | zero => intro _; exact ⟨g, g, Nat.le_refl _, hg, rfl, rfl⟩
  | succ t ih =>
    intro ht
    obtain ⟨a, b, h1, h2, h3, h4⟩ := ih (by omega)
    obtain ⟨h, m, l1, l2, l3, l4⟩ := L28_r (Z := Z) hY (fun p s hp hs => hZ t p s (by omega) hp hs) hl hC (by omega : t < nn) P (Nat.le_refl _)
    rw [x2_harvest_L15_s, x2_mostHarvest_L15_s]
    simp only [lt_i]
    rw [y9, z9, y6, z6, y3, z3, h3, h4, l3, l4, show (2 : Int32) = nI 2 from rfl, pk_div (by omega) (by decide) (by decide), pk_div (by omega) (by decide) (by decide), nI_add, nI_add, heldN (by omega) (by omega), heldN (by omega) (by omega)]
    obtain ⟨u, u1, u2⟩ := L94_r tt Z t (x := if a + h / 2 ≤ w then 0 else if a + h / 2 - w ≤ 99999 then a + h / 2 - w else 99999) (by split <;> (try split) <;> omega) P
    refine ⟨u, _, ?_, ?_, u2, rfl⟩
    · split at u1 <;> split <;> (try split) <;> (try split at u1) <;> omega
    · split <;> (try split) <;> omega
