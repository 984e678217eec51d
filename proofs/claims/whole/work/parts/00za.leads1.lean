/-! LEAD: one cell gone through, against all gone through -/
theorem pa_c {X Y : xS} (h : Y 1 0 = X 1 0) (s : Nat) (w : Int32) : ∀ t, x2_placeAfter_L17 Y s w t = x2_placeAfter_L17 X s w t := by
  intro t
  induction t with
  | zero => rfl
  | succ t ih => rw [x2_placeAfter_L17_s, x2_placeAfter_L17_s, ih, h]
theorem si_c {tt : tT} {X Y : xS} (h1 : Y 1 = X 1) (h5 : Y 5 = X 5) (h6 : Y 6 = X 6) (q : Nat) (f g : Int32) : x0_sightIn tt Y 1 q f g = x0_sightIn tt X 1 q f g := by
  unfold x0_sightIn x0_sightGiven
  rw [show Y (1 + 4) = X (1 + 4) from h5, show Y (1 + 5) = X (1 + 5) from h6, h1]
theorem L53_c {X Y : xS} (h : Y 1 0 = X 1 0) (a : Nat) (s b : Int32) : ∀ (f k : Nat) (S : Int32), x0_viewFrom_L53 Y 1 a s b f k S = x0_viewFrom_L53 X 1 a s b f k S := by
  intro f
  induction f with
  | zero => intro k S; rfl
  | succ f ih =>
    intro k S
    rw [x0_viewFrom_L53_s, x0_viewFrom_L53_s, h]
    simp only [lt_i, ih]
theorem mir_c {X Y : xS} (h : Y 1 0 = X 1 0) (S : Int32) : x0_mirrored Y 1 S = x0_mirrored X 1 S := by
  unfold x0_mirrored
  rw [lt_i, lt_i, mir_e, mir_e, h]
theorem vw_c {X Y : xS} (h1 : Y 1 = X 1) (h5 : Y 5 = X 5) (q a : Nat) (s b : Int32) : x0_viewFrom Y 1 q a s b = x0_viewFrom X 1 q a s b := by
  have h0 : Y 1 0 = X 1 0 := by rw [h1]
  unfold x0_viewFrom
  simp only [lt_i, lt2_i, L53_c h0, mir_c h0]
  rw [show Y (1 + 4) = X (1 + 4) from h5]
/-- what is looked up: who counts for the cell, who stands there -/
def ent (tt : tT) (X : xS) (c t p s : Nat) : Int32 := if p8_has (x0_viewFrom X 1 p (vn (x2_placeAfter X p s t)) (x0_sightIn tt X 1 p (X 1 6) (X 1 7 + nI t)) (X 1 4)) (nI c) = 0 then 0 else p1_countsOf (X 5 p) (X 6 p)
def stn (X : xS) (c t p s : Nat) : Int32 := if nI (vn (x2_placeAfter X p s t)) = nI c then 1 else 0
theorem lq_L61 {tt : tT} {X Z : xS} {q c t : Nat} (hX : ∀ p, 1 ≤ p → p ≤ 8 → Z p = X p) (h6 : Z 42 6 = nI c) : ∀ k, k ≤ 10 → (∀ p, p ≠ 44 → p ≠ 45 → x2_lookUpWalks_L61 q (p1_countsOf (X 5 q) (X 6 q)) t Z (x0_sightIn tt X 1 q (X 1 6) (X 1 7 + nI t)) k p = Z p) ∧ (∀ s, s < k → x2_lookUpWalks_L61 q (p1_countsOf (X 5 q) (X 6 q)) t Z (x0_sightIn tt X 1 q (X 1 6) (X 1 7 + nI t)) k 44 ((t * 8 + q) * 10 + s) = ent tt X c t q s ∧ x2_lookUpWalks_L61 q (p1_countsOf (X 5 q) (X 6 q)) t Z (x0_sightIn tt X 1 q (X 1 6) (X 1 7 + nI t)) k 45 ((t * 8 + q) * 10 + s) = stn X c t q s) ∧ (∀ i, (∀ s, s < k → i ≠ (t * 8 + q) * 10 + s) → x2_lookUpWalks_L61 q (p1_countsOf (X 5 q) (X 6 q)) t Z (x0_sightIn tt X 1 q (X 1 6) (X 1 7 + nI t)) k 44 i = Z 44 i ∧ x2_lookUpWalks_L61 q (p1_countsOf (X 5 q) (X 6 q)) t Z (x0_sightIn tt X 1 q (X 1 6) (X 1 7 + nI t)) k 45 i = Z 45 i) := by
  intro k
  induction k with
  | zero => intro _; exact ⟨fun _ _ _ => rfl, fun s hs => absurd hs (Nat.not_lt_zero _), fun _ _ => ⟨rfl, rfl⟩⟩
  | succ k ih =>
    intro hk
    obtain ⟨i1, i2, i3⟩ := ih (by omega)
    rw [x2_lookUpWalks_L61_s]
    simp only [lt_i]
    generalize x2_lookUpWalks_L61 q (p1_countsOf (X 5 q) (X 6 q)) t Z (x0_sightIn tt X 1 q (X 1 6) (X 1 7 + nI t)) k = Y at i1 i2 i3 ⊢
    have r : ∀ p, 1 ≤ p → p ≤ 8 → Y p = X p := fun p a b => (i1 p (by omega) (by omega)).trans (hX p a b)
    have e1 : x2_placeAfter Y q k t = x2_placeAfter X q k t := by
      unfold x2_placeAfter
      simp only [lt_i, lt2_i]
      rw [pa_c (by rw [r 1 (by decide) (by decide)]), r 8 (by decide) (by decide)]
    have e2 : ∀ a s b, x0_viewFrom Y 1 q a s b = x0_viewFrom X 1 q a s b := fun a s b => vw_c (r 1 (by decide) (by decide)) (r 5 (by decide) (by decide)) q a s b
    have e3 : Y 42 6 = nI c := (by rw [i1 42 (by decide) (by decide)]; exact h6)
    rw [e1, e2, r 1 (by decide) (by decide), e3, mU_row (show 42 ≠ 44 by decide), e3]
    refine ⟨fun p h44 h45 => by rw [mU_row h45, mU_row h44]; exact i1 p h44 h45, fun s hs => ?_, fun i hi => ?_⟩
    · rw [mU_row (show 44 ≠ 45 by decide), mU_sm, mU_sm, mU_row (show 45 ≠ 44 by decide)]
      by_cases e : s = k
      · rw [e, if_pos rfl, if_pos rfl]; exact ⟨rfl, rfl⟩
      · rw [if_neg (by omega), if_neg (by omega)]; exact i2 s (by omega)
    · have := hi k (by omega)
      rw [mU_row (show 44 ≠ 45 by decide), mU_ne this, mU_ne this, mU_row (show 45 ≠ 44 by decide)]
      exact i3 i (fun s hs => hi s (by omega))
theorem lq_L24 {tt : tT} {X Z : xS} {q c C : Nat} (hX : ∀ p, 1 ≤ p → p ≤ 8 → Z p = X p) (h6 : Z 42 6 = nI c) (hC : vn (X 1 0) = C) (hC10 : C ≤ 10) (hq : q < 8) : ∀ k, (∀ p, p ≠ 44 → p ≠ 45 → x2_lookUpWalks_L24 tt Z q (p1_countsOf (X 5 q) (X 6 q)) k p = Z p) ∧ (∀ t s, t < k → s < C → x2_lookUpWalks_L24 tt Z q (p1_countsOf (X 5 q) (X 6 q)) k 44 ((t * 8 + q) * 10 + s) = ent tt X c t q s ∧ x2_lookUpWalks_L24 tt Z q (p1_countsOf (X 5 q) (X 6 q)) k 45 ((t * 8 + q) * 10 + s) = stn X c t q s) ∧ (∀ t p s, p < 8 → s < 10 → p ≠ q → x2_lookUpWalks_L24 tt Z q (p1_countsOf (X 5 q) (X 6 q)) k 44 ((t * 8 + p) * 10 + s) = Z 44 ((t * 8 + p) * 10 + s) ∧ x2_lookUpWalks_L24 tt Z q (p1_countsOf (X 5 q) (X 6 q)) k 45 ((t * 8 + p) * 10 + s) = Z 45 ((t * 8 + p) * 10 + s)) := by
  intro k
  induction k with
  | zero => exact ⟨fun _ _ _ => rfl, fun t s ht => absurd ht (Nat.not_lt_zero _), fun _ _ _ _ _ _ => ⟨rfl, rfl⟩⟩
  | succ k ih =>
    obtain ⟨i1, i2, i3⟩ := ih
    rw [x2_lookUpWalks_L24_s]
    simp only [lt_i]
    generalize x2_lookUpWalks_L24 tt Z q (p1_countsOf (X 5 q) (X 6 q)) k = Y at i1 i2 i3 ⊢
    have r : ∀ p, 1 ≤ p → p ≤ 8 → Y p = X p := fun p a b => (i1 p (by omega) (by omega)).trans (hX p a b)
    rw [si_c (r 1 (by decide) (by decide)) (r 5 (by decide) (by decide)) (r 6 (by decide) (by decide)), r 1 (by decide) (by decide), hX 1 (by decide) (by decide), hC]
    obtain ⟨j1, j2, j3⟩ := lq_L61 (tt := tt) (X := X) (Z := Y) (q := q) (c := c) (t := k) r (by rw [i1 42 (by decide) (by decide)]; exact h6) C hC10
    refine ⟨fun p h44 h45 => by rw [j1 p h44 h45]; exact i1 p h44 h45, fun t s ht hs => ?_, fun t p s hp hs hpq => ?_⟩
    · by_cases e : t = k
      · rw [e]; exact j2 s hs
      · have := j3 ((t * 8 + q) * 10 + s) (fun s' hs' => by omega)
        rw [this.1, this.2]; exact i2 t s (by omega) hs
    · have := j3 ((t * 8 + p) * 10 + s) (fun s' hs' => by omega)
      rw [this.1, this.2]; exact i3 t p s hp hs hpq
/-- Leading as it stands once all is looked up, places being any -/
def lkS (tt : tT) (X : xS) (c nn P : Nat) (Y : xS) : Prop := (∀ p, 1 ≤ p → p ≤ 8 → Y p = X p) ∧ Y 42 5 = 1 ∧ Y 42 6 = nI c ∧ Y 42 7 = nI nn ∧ (∀ t p s, t < nn → p < P → s < vn (X 1 0) → Y 44 ((t * 8 + p) * 10 + s) = ent tt X c t p s ∧ Y 45 ((t * 8 + p) * 10 + s) = stn X c t p s)
theorem lw_L36 {tt : tT} {X Z : xS} {c nn : Nat} (hX : ∀ p, 1 ≤ p → p ≤ 8 → Z p = X p) (h5 : Z 42 5 = 1) (h6 : Z 42 6 = nI c) (h7 : Z 42 7 = nI nn) (hnn : nn ≤ 3) (hC10 : vn (X 1 0) ≤ 10) : ∀ k, k ≤ 8 → lkS tt X c nn k (x2_isFound_L36 tt Z k) ∧ (∀ p, p < k → x2_isFound_L36 tt Z k 46 p = X 7 p) ∧ (∀ p, p ≠ 44 → p ≠ 45 → p ≠ 46 → x2_isFound_L36 tt Z k p = Z p) := by
  intro k
  induction k with
  | zero => intro _; exact ⟨⟨hX, h5, h6, h7, fun t p s _ hp => absurd hp (Nat.not_lt_zero _)⟩, fun p hp => absurd hp (Nat.not_lt_zero _), fun _ _ _ _ => rfl⟩
  | succ k ih =>
    intro hk
    obtain ⟨⟨i1, i2, i3, i4, i5⟩, i6, i7⟩ := ih (by omega)
    rw [x2_isFound_L36_s]
    simp only [lt_i]
    unfold x2_lookUpWalks
    simp only [lt_i]
    generalize x2_isFound_L36 tt Z k = Y at i1 i2 i3 i4 i5 i6 i7 ⊢
    have r : ∀ p, 1 ≤ p → p ≤ 8 → mU Y 46 k (Y 7 k) p = X p := fun p a b => by rw [mU_row (by omega)]; exact i1 p a b
    rw [r 5 (by decide) (by decide), r 6 (by decide) (by decide), mU_row (show 42 ≠ 46 by decide), i4, vn_nI (by omega)]
    obtain ⟨j1, j2, j3⟩ := lq_L24 (tt := tt) (X := X) (Z := mU Y 46 k (Y 7 k)) (q := k) (c := c) (C := vn (X 1 0)) r (by rw [mU_row (by decide)]; exact i3) rfl hC10 (by omega) nn
    refine ⟨⟨fun p a b => by rw [j1 p (by omega) (by omega)]; exact r p a b, ?_, ?_, ?_, fun t p s ht hp hs => ?_⟩, fun p hp => ?_, fun p a b c => by rw [j1 p a b, mU_row c]; exact i7 p a b c⟩
    · rw [j1 42 (by decide) (by decide), mU_row (by decide)]; exact i2
    · rw [j1 42 (by decide) (by decide), mU_row (by decide)]; exact i3
    · rw [j1 42 (by decide) (by decide), mU_row (by decide)]; exact i4
    · by_cases e : p = k
      · rw [e]; exact j2 t s ht hs
      · have := j3 t p s (by omega) (by omega) e
        rw [this.1, this.2, mU_row (by decide), mU_row (by decide)]
        exact i5 t p s ht (by omega) hs
    · rw [j1 46 (by decide) (by decide), mU_sm]
      by_cases e : p = k
      · rw [if_pos e, e, i1 7 (by decide) (by decide)]
      · rw [if_neg e]; exact i6 p (by omega)
/-! the reference, hour by hour -/
theorem L108_at (M : mS) (c : Nat) (hc : c < 10) : ∀ k, k ≤ 10 → mF_oneHour_L108 M k 1 (12 + c) = if c < k then sF_held (M 1 (12 + c) + M 6 c / 2 - M 1 (22 + c)) 0 99999 else M 1 (12 + c) := by
  intro k
  induction k with
  | zero => intro _; rw [if_neg (by omega)]; rfl
  | succ k ih =>
    intro hk
    have ih := ih (by omega)
    rw [mF_oneHour_L108_s]
    simp only [lt_i]
    rw [oH_L108_row M k 6 (by decide), oH_L108_hi M (x := 22 + k) (by omega) k (by omega)]
    by_cases e : k = c
    · subst e
      rw [mU_eq, if_pos (Nat.lt_succ_self _)]
      rw [if_neg (Nat.lt_irrefl _)] at ih
      rw [ih]
    · rw [mU_ne (by omega), ih]
      by_cases e2 : c < k
      · rw [if_pos e2, if_pos (by omega)]
      · rw [if_neg e2, if_neg (by omega)]
/-- what an hour leaves of a row -/
def stt (x : Nat) : Prop := x = 1 ∨ x = 3 ∨ x = 6 ∨ x = 7 ∨ x = 8 ∨ x = 9 ∨ (22 ≤ x ∧ x < 32) ∨ (32 ≤ x ∧ x < 64 ∧ x % 4 < 2) ∨ 134 ≤ x
theorem tg_at (M : mS) {q : Nat} (hq : q < 8) (ha : aN M q < 10) : (∀ x, stt x ∨ x = 0 → mF_takesAndGoes M q 1 x = M 1 x) ∧ (∀ c, c < 10 → mF_takesAndGoes M q 1 (12 + c) = if aN M q = c then M 1 (12 + c) - (if mF_takes M q ≤ M 1 (12 + c) then mF_takes M q else M 1 (12 + c)) else M 1 (12 + c)) ∧ (∀ p, p < 8 → p ≠ q → mF_takesAndGoes M q 1 (32 + 4 * p + 2) = M 1 (32 + 4 * p + 2) ∧ mF_takesAndGoes M q 1 (32 + 4 * p + 3) = M 1 (32 + 4 * p + 3)) ∧ (if sF_in (M 1 (32 + 4 * q + 2) + M 1 (32 + 4 * q + 3)) 0 (M 1 3 - 1) = 0 then mF_takesAndGoes M q 1 (32 + 4 * q + 2) = M 1 (32 + 4 * q + 2) ∧ mF_takesAndGoes M q 1 (32 + 4 * q + 3) = -(M 1 (32 + 4 * q + 3)) else mF_takesAndGoes M q 1 (32 + 4 * q + 2) = M 1 (32 + 4 * q + 2) + M 1 (32 + 4 * q + 3) ∧ mF_takesAndGoes M q 1 (32 + 4 * q + 3) = M 1 (32 + 4 * q + 3)) := by
  unfold mF_takesAndGoes mF_gets mF_isCell mF_its
  simp only [lt_i]
  generalize hy : (if mF_takes M q ≤ M 1 (12 + aN M q) then mF_takes M q else M 1 (12 + aN M q)) = y
  generalize hz : sF_held (mU M 1 (12 + aN M q) (M 1 (12 + aN M q) - y) 1 11 + y) 0 99999 = z
  have e : ∀ x, x ≠ 11 → x ≠ 12 + aN M q → mU (mU M 1 (12 + aN M q) (M 1 (12 + aN M q) - y)) 1 11 z 1 x = M 1 x := fun x a b => by rw [mU_ne a, mU_ne b]
  have eg : ∀ c, c < 10 → mU (mU M 1 (12 + aN M q) (M 1 (12 + aN M q) - y)) 1 11 z 1 (12 + c) = if aN M q = c then M 1 (12 + c) - (if mF_takes M q ≤ M 1 (12 + c) then mF_takes M q else M 1 (12 + c)) else M 1 (12 + c) := fun c hc => by
    rw [mU_ne (by omega), mU_sm]
    by_cases h : aN M q = c
    · rw [if_pos (by omega), if_pos h, ← hy, h]
    · rw [if_neg (by omega), if_neg h]
  rw [e _ (by omega) (by omega), e _ (by omega) (by omega), e 3 (by omega) (by omega)]
  generalize mU (mU M 1 (12 + aN M q) (M 1 (12 + aN M q) - y)) 1 11 z = N at e eg ⊢
  by_cases c1 : sF_in (M 1 (32 + 4 * q + 2) + M 1 (32 + 4 * q + 3)) 0 (M 1 3 - 1) = 0
  · simp only [if_pos c1]
    refine ⟨fun x hx => ?_, fun c hc => ?_, fun p hp hpq => ⟨?_, ?_⟩, ?_, ?_⟩
    · unfold stt at hx; rw [mU_ne (by omega)]; exact e x (by omega) (by omega)
    · rw [mU_ne (by omega)]; exact eg c hc
    · rw [mU_ne (by omega)]; exact e _ (by omega) (by omega)
    · rw [mU_ne (by omega)]; exact e _ (by omega) (by omega)
    · rw [mU_ne (by omega)]; exact e _ (by omega) (by omega)
    · rw [mU_eq]
  · simp only [if_neg c1]
    refine ⟨fun x hx => ?_, fun c hc => ?_, fun p hp hpq => ⟨?_, ?_⟩, ?_, ?_⟩
    · unfold stt at hx; rw [mU_ne (by omega)]; exact e x (by omega) (by omega)
    · rw [mU_ne (by omega)]; exact eg c hc
    · rw [mU_ne (by omega)]; exact e _ (by omega) (by omega)
    · rw [mU_ne (by omega)]; exact e _ (by omega) (by omega)
    · rw [mU_eq]
    · rw [mU_ne (by omega)]; exact e _ (by omega) (by omega)
