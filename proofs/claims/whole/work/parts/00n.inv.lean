/-! the whole states side by side -/
/-- the tape and what waits -/
def iT (X : xS) (p : Nat) (R : Nat → Int32) : Prop := (∃ T, T ≤ 50 ∧ X (p + 8) 1 = nI T ∧ R 4 = nI T ∧ ∀ j, j < T → X (p + 9) j = R (64 + j) ∧ ∃ w, w < 256 ∧ R (64 + j) = nI w) ∧ (∃ W, W ≤ 20 ∧ X (p + 10) 1 = nI W ∧ R 5 = nI W ∧ ∀ j, j < W → X (p + 11) j = R (114 + j))
/-- grains, weeds, numbers of people within their bounds -/
def gOK (R : Nat → Int32) : Prop := (∀ c, c < 10 → (R (12 + c) = nI (vn (R (12 + c))) ∧ vn (R (12 + c)) ≤ 99999) ∧ R (22 + c) = nI (vn (R (22 + c))) ∧ vn (R (22 + c)) ≤ 99) ∧ (∀ q, q < 8 → R (32 + 4 * q + 1) = nI (vn (R (32 + 4 * q + 1))) ∧ vn (R (32 + 4 * q + 1)) ≤ 9) ∧ ∀ q, q < 8 → q < vn (R 8) → vn (R (32 + 4 * q + 2)) < vn (R 3)
/-- an estate and a row: all that an image keeps -/
def iE (tt : tT) (X : xS) (p : Nat) (R : Nat → Int32) : Prop := (eN 8 X p R ∧ eX tt X p R) ∧ iT X p R ∧ (rOK (fun _ => R) ∧ gOK R) ∧ eA X p
def iK (n : Nat) (tt : tT) (X : xS) (M : mS) : Prop := ∃ k, k ≤ n ∧ X 0 3 = nI k ∧ M 0 5 = nI k ∧ M 0 4 = (if k = 0 then 0 else 1) ∧ zR X 25 ∧ (k ≠ 0 → iE tt X 25 (M 2))
def iF (X : xS) (M : mS) : Prop := ∀ k, 1 ≤ k → k ≤ 5 → X 61 k = M 5 k
def iV (X : xS) (M : mS) : Prop := ∃ n, n ≤ 40 ∧ X 48 1 = nI n ∧ M 0 24 = nI n ∧ ∀ j, j < n → X 49 j = M 13 j
def iS (X : xS) (M : mS) : Prop := ∀ s, s < 4 → X (51 + 2 * s) 1 = M 8 s ∧ X (51 + 2 * s) 2 = M 9 s ∧ (∃ z, z ≤ 40 ∧ M 9 s = nI z) ∧ ∀ j, j < 40 → X (52 + 2 * s) j = M 10 (40 * s + j)
def iL (X : xS) : Prop := ∀ q, q < 8 → X 46 q = nI (vn (X 46 q)) ∧ vn (X 46 q) < 10
def i2 (n : Nat) (tt : tT) (X : xS) (M : mS) : Prop := aB 8 M ∧ iK n tt X M ∧ iF X M ∧ iV X M ∧ iS X M ∧ iL X ∧ dN X
/-- the class in the state X, its texts tt, and the reference in the state M: alike, at most n images being taken -/
def INV (n : Nat) (tt : tT) (X : xS) (M : mS) : Prop := iE tt X 1 (M 1) ∧ i2 n tt X M
theorem rOK_p {R R2 : Nat → Int32} (h : ∀ x, x < 64 → R2 x = R x) (hR : rOK (fun _ => R)) : rOK (fun _ => R2) := rOK_pt (M := fun _ => R) (M2 := fun _ => R2) h hR
theorem iE_c {tt : tT} {X X2 : xS} {p : Nat} {R R2 : Nat → Int32} (h : iE tt X p R) (hX : ∀ a, p ≤ a → a ≤ p + 11 → a ≠ p + 3 → X2 a = X a) (hR : ∀ x, x < 234 → R2 x = R x) : iE tt X2 p R2 := by
  obtain ⟨⟨h1, h2⟩, ⟨⟨T, t1, t2, t3, t4⟩, ⟨W, w1, w2, w3, w4⟩⟩, ⟨h3, h4⟩, h5⟩ := h
  have h0 := hX p (by omega) (by omega) (by omega)
  have hn : vn (X p 9) ≤ 8 := eE_n (tt := tt) (M := fun _ => R) ⟨h1, h2⟩ h3.2.1
  refine ⟨⟨eN_pt h1 (by rw [h0]) (hR _ (by omega)) (fun a b x hk e => ?_), ?_⟩, ⟨⟨T, t1, ?_, ?_, fun j hj => ?_⟩, ⟨W, w1, ?_, ?_, fun j hj => ?_⟩⟩, ⟨rOK_p (fun x hx => hR x (by omega)) h3, ?_⟩, ?_⟩
  · have hb := lk_bd hk hn
    rw [hX a (by omega) (by omega) (by omega), hR x (by omega)]
    exact e
  · intro u hu
    rcases h2 u hu with ⟨g1, g2⟩ | ⟨t, E, g1, g2, g3, g4, g5, g6, g7⟩
    · exact Or.inl ⟨by rw [h0]; exact g1, by rw [hR _ (by omega)]; exact g2⟩
    · refine Or.inr ⟨t, E, by rw [h0]; exact g1, g2, g3, g4, by rw [hR _ (by omega)]; exact g5, g6, fun a b c => ?_⟩
      rw [← g7 a b c]
      congr 1
      exact bl_eq E 0 (fun j _ hj => hR _ (by omega))
  · rw [hX _ (by omega) (by omega) (by omega)]; exact t2
  · rw [hR _ (by omega)]; exact t3
  · rw [hX _ (by omega) (by omega) (by omega), hR _ (by omega)]; exact t4 j hj
  · rw [hX _ (by omega) (by omega) (by omega)]; exact w2
  · rw [hR _ (by omega)]; exact w3
  · rw [hX _ (by omega) (by omega) (by omega), hR _ (by omega)]; exact w4 j hj
  · refine ⟨fun c hc => ?_, fun q hq => ?_, fun q hq hq2 => ?_⟩
    · rw [hR _ (by omega), hR _ (by omega)]; exact h4.1 c hc
    · rw [hR _ (by omega)]; exact h4.2.1 q hq
    · rw [hR 8 (by omega)] at hq2
      rw [hR 3 (by omega), hR _ (by omega)]; exact h4.2.2 q hq hq2
  · unfold eA; rw [hX _ (by omega) (by omega) (by omega)]; exact h5
theorem i2_c {n n2 : Nat} {tt : tT} {X X2 : xS} {M M2 : mS} (h : i2 n tt X M) (hn : n ≤ n2) (hX : ∀ p, p = 0 ∨ (25 ≤ p ∧ p ≤ 40) ∨ (46 ≤ p ∧ p ≤ 58 ∧ p ≠ 47) ∨ p = 61 → X2 p = X p) (hM : ∀ i, i ≠ 1 → i ≠ 3 → i ≠ 4 → i ≠ 6 → i ≠ 7 → i ≠ 11 → i ≠ 12 → M2 i = M i) : i2 n2 tt X2 M2 := by
  obtain ⟨h1, ⟨k, k1, k2, k3, k4, k5, k6⟩, h3, h4, h5, h6, h7⟩ := h
  have e0 := hM 0 (by decide) (by decide) (by decide) (by decide) (by decide) (by decide) (by decide)
  have e2 := hM 2 (by decide) (by decide) (by decide) (by decide) (by decide) (by decide) (by decide)
  refine ⟨?_, ⟨k, by omega, ?_, ?_, ?_, ?_, fun hk => ?_⟩, ?_, ?_, ?_, ?_, ?_⟩
  · unfold aB; rw [e0]; exact h1
  · rw [hX 0 (by omega)]; exact k2
  · rw [e0]; exact k3
  · rw [e0]; exact k4
  · unfold zR; rw [hX _ (by omega), hX _ (by omega)]; exact k5
  · exact iE_c (k6 hk) (fun a _ _ _ => hX a (by omega)) (fun x _ => by rw [e2])
  · intro k hk1 hk2
    rw [hX 61 (by omega), hM 5 (by decide) (by decide) (by decide) (by decide) (by decide) (by decide) (by decide)]
    exact h3 k hk1 hk2
  · unfold iV
    rw [hX 48 (by omega), hX 49 (by omega), e0, hM 13 (by decide) (by decide) (by decide) (by decide) (by decide) (by decide) (by decide)]
    exact h4
  · intro s hs
    rw [hX _ (by omega), hX _ (by omega), hM 8 (by decide) (by decide) (by decide) (by decide) (by decide) (by decide) (by decide), hM 9 (by decide) (by decide) (by decide) (by decide) (by decide) (by decide) (by decide), hM 10 (by decide) (by decide) (by decide) (by decide) (by decide) (by decide) (by decide)]
    exact h5 s hs
  · unfold iL; rw [hX 46 (by omega)]; exact h6
  · unfold dN; rw [hX 37 (by omega), hX 38 (by omega), hX 40 (by omega)]; exact h7
/-- only what is thought has changed -/
theorem INV_c {n : Nat} {tt : tT} {X X2 : xS} {M M2 : mS} (h : INV n tt X M) (hX : ∀ p, p ≠ 4 → (p < 13 ∨ 25 ≤ p) → (p < 41 ∨ 46 ≤ p) → p ≠ 47 → p ≠ 59 → p ≠ 60 → X2 p = X p) (h1 : ∀ x, x < 234 → M2 1 x = M 1 x) (hM : ∀ i, i ≠ 1 → i ≠ 3 → i ≠ 4 → i ≠ 6 → i ≠ 7 → i ≠ 11 → i ≠ 12 → M2 i = M i) : INV n tt X2 M2 :=
  ⟨iE_c h.1 (fun a h1 h2 h3 => hX a (by omega) (by omega) (by omega) (by omega) (by omega) (by omega)) h1, i2_c h.2 (Nat.le_refl _) (fun p hp => hX p (by omega) (by omega) (by omega) (by omega) (by omega) (by omega)) hM⟩
theorem INV_n {n m : Nat} {tt : tT} {X : xS} {M : mS} (h : INV n tt X M) (hn : n ≤ m) : INV m tt X M := ⟨h.1, i2_c h.2 hn (fun _ _ => rfl) (fun _ _ _ _ _ _ _ _ => rfl)⟩
/-- the estate alone has changed -/
theorem INV_E {n : Nat} {tt : tT} {X X2 : xS} {M M2 : mS} (h : INV n tt X M) (hE : iE tt X2 1 (M2 1)) (hX : ∀ p, p = 0 ∨ 13 ≤ p → X2 p = X p) (hM : ∀ i, i ≠ 1 → i ≠ 6 → M2 i = M i) : INV n tt X2 M2 :=
  ⟨hE, i2_c h.2 (Nat.le_refl _) (fun p hp => hX p (by omega)) (fun i h1 _ _ h6 _ _ _ => hM i h1 h6)⟩
theorem INV_eE {n : Nat} {tt : tT} {X : xS} {M : mS} (h : INV n tt X M) : eE 8 tt X 1 M := h.1.1
theorem INV_R {n : Nat} {tt : tT} {X : xS} {M : mS} (h : INV n tt X M) : rOK M := h.1.2.2.1.1
theorem eR_i {tt : tT} {X : xS} {p : Nat} {R : Nat → Int32} (h : iE tt X p R) : eR tt X p ∧ zR X p := by
  obtain ⟨⟨h1, h2⟩, ⟨⟨T, t1, t2, t3, t4⟩, ⟨W, w1, w2, w3, w4⟩⟩, ⟨h3, h4⟩, h5⟩ := h
  have hn : vn (X p 9) ≤ 8 := eE_n (tt := tt) (M := fun _ => R) ⟨h1, h2⟩ h3.2.1
  refine ⟨⟨?_, ⟨h1.2.1, hn⟩, h5, ?_⟩, ⟨?_, ?_⟩⟩
  · unfold eC; rw [(eN_f h1).1]; exact h3.1
  · intro k hk
    have : ∃ u, u < 2 ∧ k = 14 + u := by
      rcases hk with rfl | rfl
      · exact ⟨0, by decide, rfl⟩
      · exact ⟨1, by decide, rfl⟩
    obtain ⟨u, hu, rfl⟩ := this
    rcases h2 u hu with ⟨g1, _⟩ | ⟨t, E, g1, g2, g3, g4, _⟩
    · exact Or.inl g1
    · rw [g1, vn_nI g2]; exact Or.inr ⟨rfl, g3, g4⟩
  · rw [t2, vn_nI (by omega)]; exact ⟨rfl, t1⟩
  · rw [w2, vn_nI (by omega)]; exact ⟨rfl, w1⟩
theorem INV_eR {n : Nat} {tt : tT} {X : xS} {M : mS} (h : INV n tt X M) : eR tt X 1 ∧ zR X 1 ∧ zR X 25 := ⟨(eR_i h.1).1, (eR_i h.1).2, by obtain ⟨k, _, _, _, _, h5, _⟩ := h.2.2.1; exact h5⟩
theorem INV_sh {n : Nat} {tt : tT} {X : xS} {M : mS} (h : INV n tt X M) : shR X ∧ zOK M := by
  have hS := h.2.2.2.2.2.1
  refine ⟨fun s hs => ?_, fun s hs => ?_⟩
  · obtain ⟨_, a, ⟨z, z1, z2⟩, _⟩ := hS s hs
    rw [a, z2, vn_nI (by omega)]; exact ⟨rfl, z1⟩
  · obtain ⟨_, a, ⟨z, z1, z2⟩, _⟩ := hS s hs
    rw [z2, vn_nI (by omega)]; exact ⟨rfl, z1⟩
theorem INV_v {n : Nat} {tt : tT} {X : xS} {M : mS} (h : INV n tt X M) : vS X ∧ vOK M := by
  obtain ⟨k, k1, k2, k3, _⟩ := h.2.2.2.2.1
  refine ⟨?_, ?_⟩
  · unfold vS; rw [k2, vn_nI (by omega)]; exact ⟨rfl, k1⟩
  · unfold vOK; rw [k3, vn_nI (by omega)]; exact ⟨rfl, k1⟩
theorem INV_tw {n : Nat} {tt : tT} {X : xS} {M : mS} (h : INV n tt X M) : tOK M ∧ wOK M := by
  obtain ⟨⟨T, t1, t2, t3, t4⟩, ⟨W, w1, w2, w3, w4⟩⟩ := h.1.2.1
  refine ⟨?_, ?_⟩
  · unfold tOK; rw [t3, vn_nI (by omega)]; exact ⟨rfl, t1⟩
  · unfold wOK; rw [w3, vn_nI (by omega)]; exact ⟨rfl, w1⟩
/-- an answer and what is left, alike -/
def AL (n : Nat) (tt : tT) (x : Int32 × xS) (m : Int32 × mS) : Prop := x.1 = m.1 ∧ INV n tt x.2 m.2
theorem err0 {n : Nat} {tt : tT} {X : xS} {M : mS} (h : INV n tt X M) (k : Nat) (v : Int32) : INV n tt (mU X 61 k v) (mU M 5 k v) := by
  refine ⟨iE_c h.1 (fun a _ _ _ => mU_row (by omega)) (fun x _ => by rw [mU_row (by decide)]), ?_⟩
  obtain ⟨g1, g2, g3, g4, g5, g6, g7⟩ := h.2
  refine ⟨?_, ?_, ?_, ?_, ?_, ?_, ?_⟩
  · unfold aB; rw [mU_row (by decide)]; exact g1
  · obtain ⟨j, k1, k2, k3, k4, k5, k6⟩ := g2
    refine ⟨j, k1, ?_, ?_, ?_, ?_, fun hk => ?_⟩
    · rw [mU_row (by decide)]; exact k2
    · rw [mU_row (by decide)]; exact k3
    · rw [mU_row (by decide)]; exact k4
    · unfold zR; rw [mU_row (by decide), mU_row (by decide)]; exact k5
    · exact iE_c (k6 hk) (fun a _ _ _ => mU_row (by omega)) (fun x _ => by rw [mU_row (by decide)])
  · intro j j1 j2
    rw [mU_sm, mU_sm]
    by_cases c : j = k
    · rw [if_pos c, if_pos c]
    · rw [if_neg c, if_neg c]; exact g3 j j1 j2
  · unfold iV
    rw [mU_row (by decide), mU_row (by decide), mU_row (by decide), mU_row (by decide)]
    exact g4
  · intro s hs
    rw [mU_row (by omega), mU_row (by omega), mU_row (by omega), mU_row (by omega), mU_row (by omega)]
    exact g5 s hs
  · unfold iL; rw [mU_row (by decide)]; exact g6
  · unfold dN; rw [mU_row (by decide), mU_row (by decide), mU_row (by decide)]; exact g7
theorem err_e {n : Nat} {tt : tT} {X : xS} {M : mS} (h : INV n tt X M) (k : Nat) (h1 : 1 ≤ k) (h5 : k ≤ 5) (e : Int32) (he : -1000000000 - e = nI k) (he2 : e = -1000000000 - nI k) : AL n tt (x8_error X (nI k)) (mF_errs M e) := by
  unfold x8_error mF_errs
  simp only [lt_i]
  have hw : ¬ p8_within (nI k) 1 5 = 0 := by
    rcases (show k = 1 ∨ k = 2 ∨ k = 3 ∨ k = 4 ∨ k = 5 by omega) with rfl | rfl | rfl | rfl | rfl <;> decide
  rw [if_neg hw, he, vn_nI (by omega), h.2.2.2.1 k h1 h5]
  exact ⟨he2.symm, err0 h k _⟩
theorem er1 {n : Nat} {tt : tT} {X : xS} {M : mS} (h : INV n tt X M) : AL n tt (x8_error X 1) (mF_errs M (-1000000001)) := err_e h 1 (by decide) (by decide) _ (by decide) (by decide)
theorem er2 {n : Nat} {tt : tT} {X : xS} {M : mS} (h : INV n tt X M) : AL n tt (x8_error X 2) (mF_errs M (-1000000002)) := err_e h 2 (by decide) (by decide) _ (by decide) (by decide)
theorem er3 {n : Nat} {tt : tT} {X : xS} {M : mS} (h : INV n tt X M) : AL n tt (x8_error X 3) (mF_errs M (-1000000003)) := err_e h 3 (by decide) (by decide) _ (by decide) (by decide)
theorem er4 {n : Nat} {tt : tT} {X : xS} {M : mS} (h : INV n tt X M) : AL n tt (x8_error X 4) (mF_errs M (-1000000004)) := err_e h 4 (by decide) (by decide) _ (by decide) (by decide)
theorem er5 {n : Nat} {tt : tT} {X : xS} {M : mS} (h : INV n tt X M) : AL n tt (x8_error X 5) (mF_errs M (-1000000005)) := err_e h 5 (by decide) (by decide) _ (by decide) (by decide)
/-- one linked number becomes another -/
theorem iE_up {tt : tT} {X : xS} {M : mS} {a b x : Nat} (h : iE tt X 1 (M 1)) (hl : lk 8 (vn (X 1 9)) 1 a b x) (v : Int32) (hR : rOK (mU M 1 x v)) (hg : gOK (mU M 1 x v 1)) (hA : eA (mU X a b v) 1) : iE tt (mU X a b v) 1 (mU M 1 x v 1) := by
  have hn : vn (X 1 9) ≤ 8 := eE_n (tt := tt) (M := M) h.1 h.2.2.1.1.2.1
  have hb := lk_bd hl hn
  have hE := eE_up (M := M) h.1 h.2.2.1.1.2.1 hl v
  obtain ⟨⟨T, t1, t2, t3, t4⟩, ⟨W, w1, w2, w3, w4⟩⟩ := h.2.1
  refine ⟨hE, ⟨⟨T, t1, ?_, ?_, fun j hj => ?_⟩, ⟨W, w1, ?_, ?_, fun j hj => ?_⟩⟩, ⟨hR, hg⟩, hA⟩
  · rw [mU_row (by omega)]; exact t2
  · rw [mU_ne (by omega)]; exact t3
  · rw [mU_row (by omega), mU_pt, if_neg (by have := hb.2.2.1; intro e; have s1 := sk_cs 8 b; unfold lk at hl; omega)]; exact t4 j hj
  · rw [mU_row (by omega)]; exact w2
  · rw [mU_ne (by omega)]; exact w3
  · rw [mU_row (by omega), mU_ne (by omega)]; exact w4 j hj
