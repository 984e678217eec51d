/-! LEAD: the act -/
theorem WC_m {tt : tT} {X X1 Y : xS} {B : mS} {c nn P : Nat} {pl : Nat → Nat} {v : Int32} (w : WC tt X X1 B c nn P) (hg : gOK (B 1)) (hY : SX X1 Y) (hl : ∀ p, p < P → Y 46 p = nI (pl p) ∧ pl p < vn (B 1 3)) (hv : ¬ x2_harvest tt Y < v) : ¬ x2_mostHarvest X1 < v := by
  obtain ⟨nP, nC3, nC, c3, c8, nY, n7, nb⟩ := WC_n w
  have L := WC_LC w hY hl
  have hc := LCc L
  have k1 := w.1.2.2.2.2.2
  have kY := LCk L
  have s1 : SX X1 X1 := fun _ _ => rfl
  have hk : ∀ p, p < P → ∃ z, z ≤ 4 ∧ p1_countsOf (X 5 p) (X 6 p) = nI z := fun p hp => by
    obtain ⟨q5, q6, q8, hq8⟩ := LC_q L hp
    have a := w.1.2.1.2.2.1 p hq8
    have b := hg.2.1 p hq8
    exact cnt_r (q5.trans a.1) a.2 (q6.trans b.1) b.2
  have x0 : vn (X 1 0) = vn (B 1 3) := by rw [(eN_f w.1.1.1).1]
  have hT : tb4 X1 nn P (vn (B 1 3)) := fun t p s ht hp hs => by
    rw [(k1.2.2.2.2 t p s ht hp (by rw [x0]; exact hs)).1]
    exact ent_r (hk p hp)
  have hZ : ∀ t p s, t < nn → p < P → s < vn (B 1 3) → Y 44 ((t * 8 + p) * 10 + s) = X1 44 ((t * 8 + p) * 10 + s) := fun t p s _ _ _ => by rw [hY 44 (by decide)]
  have gg := hg.1 c (by omega)
  have en := eN_g w.1.1.1 (c := c) (by omega)
  obtain ⟨a, b, h1, h2, h3, h4⟩ := most_le (tt := tt) (c := c) (g := vn (B 1 (12 + c))) (w := vn (B 1 (22 + c))) hT hZ (fun p hp => by rw [(hl p hp).1, vn_nI (by have := (hl p hp).2; omega)]; exact (hl p hp).2) (by rw [(nY X1 s1).1, vn_nI (by omega)]) nP (by rw [(nY X1 s1).2, vn_nI (by omega)]) (by rw [(nY Y hY).2, vn_nI (by omega)]) (by rw [k1.2.2.1, vn_nI (by omega)]) (by rw [kY.2.2.1, vn_nI (by omega)]) (by rw [k1.1 3 (by decide) (by decide), show X 3 c = _ from en.2]; exact gg.2.1) (by rw [kY.1 3 (by decide) (by decide), show X 3 c = _ from en.2]; exact gg.2.1) gg.2.2 gg.1.2 nn (Nat.le_refl _)
  have e2 : X 2 c = nI (vn (B 1 (12 + c))) := by rw [show X 2 c = _ from en.1]; exact gg.1.1
  have eh : x2_harvest tt Y = nI a := by
    unfold x2_harvest
    simp only [lt_i]
    rw [kY.2.2.1, kY.2.2.2.1, vn_nI (by omega), vn_nI (by have := w.2.2.1; omega), kY.1 2 (by decide) (by decide), e2, h3]
  have em : x2_mostHarvest X1 = nI b := by
    unfold x2_mostHarvest
    simp only [lt_i]
    rw [k1.2.2.1, k1.2.2.2.1, vn_nI (by omega), vn_nI (by have := w.2.2.1; omega), k1.1 2 (by decide) (by decide), e2, h4]
  rw [em]
  rw [eh] at hv
  intro hb
  exact hv (Int32.lt_of_le_of_lt (by rw [nI_leI (by omega) (by omega)]; exact h1) hb)
theorem lkw_46 (tt : tT) (Y : xS) (q : Nat) : x2_lookUpWalks tt Y q 46 = Y 46 := by
  have h61 : ∀ (z : Int32) (t : Nat) (Y : xS) (x : Int32) (k : Nat), x2_lookUpWalks_L61 q z t Y x k 46 = Y 46 := by
    intro z t Y x k
    induction k with
    | zero => rfl
    | succ k ih => rw [x2_lookUpWalks_L61_s]; simp only [lt_i]; rw [mU_row (by decide), mU_row (by decide), ih]
  have h24 : ∀ (z : Int32) (k : Nat), x2_lookUpWalks_L24 tt Y q z k 46 = Y 46 := by
    intro z k
    induction k with
    | zero => rfl
    | succ k ih => rw [x2_lookUpWalks_L24_s]; simp only [lt_i]; rw [h61, ih]
  unfold x2_lookUpWalks
  simp only [lt_i]
  exact h24 _ _
theorem lw_46 (tt : tT) (Z : xS) (h : ∀ q, q < 8 → Z 7 q = nI (vn (Z 7 q)) ∧ vn (Z 7 q) < 10) (hL : iL Z) : ∀ k, k ≤ 8 → iL (x2_isFound_L36 tt Z k) ∧ x2_isFound_L36 tt Z k 7 = Z 7 := by
  intro k
  induction k with
  | zero => intro _; exact ⟨hL, rfl⟩
  | succ k ih =>
    intro hk
    obtain ⟨i1, i2⟩ := ih (by omega)
    rw [x2_isFound_L36_s]
    simp only [lt_i]
    generalize x2_isFound_L36 tt Z k = Y at i1 i2 ⊢
    have e7 : x2_lookUpWalks tt (mU Y 46 k (Y 7 k)) k 7 = mU Y 46 k (Y 7 k) 7 := by
      have h61 : ∀ (z : Int32) (t : Nat) (Y : xS) (x : Int32) (j : Nat), x2_lookUpWalks_L61 k z t Y x j 7 = Y 7 := by
        intro z t Y x j
        induction j with
        | zero => rfl
        | succ j ih => rw [x2_lookUpWalks_L61_s]; simp only [lt_i]; rw [mU_row (by decide), mU_row (by decide), ih]
      have h24 : ∀ (W : xS) (z : Int32) (j : Nat), x2_lookUpWalks_L24 tt W k z j 7 = W 7 := by
        intro W z j
        induction j with
        | zero => rfl
        | succ j ih => rw [x2_lookUpWalks_L24_s]; simp only [lt_i]; rw [h61, ih]
      unfold x2_lookUpWalks
      simp only [lt_i]
      exact h24 _ _ _
    refine ⟨?_, by rw [e7, mU_row (by decide), i2]⟩
    unfold iL
    rw [lkw_46]
    intro q hq
    rw [mU_sm]
    by_cases e : q = k
    · rw [if_pos e, i2]; exact h k (by omega)
    · rw [if_neg e]; exact i1 q hq
/-- what looking leaves -/
def GX (X Y : xS) : Prop := (∀ p, p ≠ 42 → p ≠ 43 → p ≠ 44 → p ≠ 45 → p ≠ 46 → Y p = X p) ∧ iL Y
def GM (M N : mS) : Prop := ∀ i, i ≠ 3 → i ≠ 6 → i ≠ 7 → N i = M i
theorem INV_46 {n : Nat} {tt : tT} {X Y : xS} {M : mS} (h : INV n tt X M) (hL : iL Y) (hY : ∀ p, p ≠ 46 → Y p = X p) : INV n tt Y M := by
  refine ⟨iE_c h.1 (fun a _ _ _ => hY a (by omega)) (fun _ _ => rfl), ?_⟩
  obtain ⟨h1, ⟨k, k1, k2, k3, k4, k5, k6⟩, h3, h4, h5, h6, h7⟩ := h.2
  refine ⟨h1, ⟨k, k1, ?_, k3, k4, ?_, fun hk => ?_⟩, ?_, ?_, ?_, hL, ?_⟩
  · rw [hY 0 (by decide)]; exact k2
  · unfold zR; rw [hY _ (by decide), hY _ (by decide)]; exact k5
  · exact iE_c (k6 hk) (fun a _ _ _ => hY a (by omega)) (fun _ _ => rfl)
  · intro k hk1 hk2
    rw [hY 61 (by decide)]
    exact h3 k hk1 hk2
  · unfold iV
    rw [hY 48 (by decide), hY 49 (by decide)]
    exact h4
  · intro s hs
    rw [hY _ (by omega), hY _ (by omega)]
    exact h5 s hs
  · unfold dN; rw [hY 37 (by decide), hY 38 (by decide), hY 40 (by decide)]; exact h7
theorem INV_G {n : Nat} {tt : tT} {X Y : xS} {M N : mS} (h : INV n tt X M) (hX : GX X Y) (hM : GM M N) : INV n tt Y N := by
  have h2 : INV n tt (fun p => if p = 46 then Y 46 else X p) M := INV_46 h (by
    intro q hq
    show (if 46 = 46 then Y 46 else X 46) q = _ ∧ _
    rw [if_pos rfl]
    exact hX.2 q hq) (fun p hp => by show (if p = 46 then Y 46 else X p) = X p; rw [if_neg hp])
  refine INV_c h2 (fun p _ _ h4 _ _ _ => ?_) (fun x _ => by rw [hM 1 (by decide) (by decide) (by decide)]) (fun i _ h3 _ h6 h7 _ _ => hM i h3 h6 h7)
  show Y p = if p = 46 then Y 46 else X p
  by_cases e : p = 46
  · rw [if_pos e, e]
  · rw [if_neg e]; exact hX.1 p (by omega) (by omega) (by omega) (by omega) e
/-- the two answers -/
def FQ (X : xS) (M : mS) (p : Int32 × xS) (r : Int32 × mS) : Prop := GX X p.2 ∧ GM M r.2 ∧ ((p.1 = 0 ∧ r.1 = -1) ∨ (p.1 = 1 ∧ 0 ≤ r.1 ∧ r.1 = p.2 42 1 ∧ ∀ j, j < 4 → p.2 43 j = r.2 7 j))
theorem tl_at (N : mS) (a b c d : Int32) : mF_tells N a b c d 7 0 = a ∧ mF_tells N a b c d 7 1 = b ∧ mF_tells N a b c d 7 2 = c ∧ mF_tells N a b c d 7 3 = d := by
  unfold mF_tells
  simp only [lt_i]
  refine ⟨?_, ?_, ?_, mU_eq⟩
  · rw [mU_ne (by decide), mU_ne (by decide), mU_ne (by decide), mU_eq]
  · rw [mU_ne (by decide), mU_ne (by decide), mU_eq]
  · rw [mU_ne (by decide), mU_eq]
theorem pd_at (Y : xS) (f q j : Nat) : x2_putDown Y f q 43 j = if j = f + 1 then Y 46 q else if j = f then nI q else Y 43 j := by
  unfold x2_putDown
  simp only [lt_i]
  rw [mU_sm, mU_row (by decide), mU_sm]
theorem all4 {f : Nat → Prop} (h0 : f 0) (h1 : f 1) (h2 : f 2) (h3 : f 3) : ∀ j, j < 4 → f j := by
  intro j hj
  rcases (show j = 0 ∨ j = 1 ∨ j = 2 ∨ j = 3 by omega) with rfl | rfl | rfl | rfl
  · exact h0
  · exact h1
  · exact h2
  · exact h3
theorem FQ_1 {X X1 Y : xS} {M B N : mS} {a : Nat} {z : Int32} (hX1 : GX X X1) (h43 : ∀ j, j < 4 → X1 43 j = -1) (hB : ∀ i, i ≠ 7 → B i = M i) (hY : SX X1 Y) (hL : iL Y) (hz : Y 46 a = z) (hN : SM B N) : FQ X M (1, mU (x2_putDown Y 0 a) 42 1 1) (1, mF_tells N (nI a) z (-1) (-1)) := by
  refine ⟨⟨fun p a1 a2 a3 a4 a5 => ?_, ?_⟩, fun i i3 i6 i7 => ?_, Or.inr ⟨rfl, show (0 : Int32) ≤ 1 by decide, ?_, ?_⟩⟩
  · show mU (x2_putDown Y 0 a) 42 1 1 p = X p
    rw [mU_row a1, pd_row _ _ _ _ a2, hY p a5, hX1.1 p a1 a2 a3 a4 a5]
  · show iL (mU (x2_putDown Y 0 a) 42 1 1)
    unfold iL
    rw [mU_row (by decide), pd_row _ _ _ _ (by decide)]
    exact hL
  · show mF_tells N (nI a) z (-1) (-1) i = M i
    rw [tl_row _ _ _ _ _ _ i7, hN i i3 i6, hB i i7]
  · show (1 : Int32) = mU (x2_putDown Y 0 a) 42 1 1 42 1
    rw [mU_eq]
  · show ∀ j, j < 4 → mU (x2_putDown Y 0 a) 42 1 1 43 j = mF_tells N (nI a) z (-1) (-1) 7 j
    obtain ⟨t0, t1, t2, t3⟩ := tl_at N (nI a) z (-1) (-1)
    refine all4 ?_ ?_ ?_ ?_
    · rw [t0, mU_row (by decide), pd_at, if_neg (by decide), if_pos rfl]
    · rw [t1, mU_row (by decide), pd_at, if_pos rfl, hz]
    · rw [t2, mU_row (by decide), pd_at, if_neg (by decide), if_neg (by decide), hY 43 (by decide), h43 2 (by decide)]
    · rw [t3, mU_row (by decide), pd_at, if_neg (by decide), if_neg (by decide), hY 43 (by decide), h43 3 (by decide)]
theorem FQ_2 {X X1 Y : xS} {M B N : mS} {a k : Nat} {z y : Int32} (hX1 : GX X X1) (hB : ∀ i, i ≠ 7 → B i = M i) (hY : SX X1 Y) (hL : iL Y) (hz : Y 46 a = z) (hy : Y 46 k = y) (hN : SM B N) : FQ X M (1, mU (x2_putDown (x2_putDown Y 0 a) 2 k) 42 1 2) (2, mF_tells N (nI a) z (nI k) y) := by
  refine ⟨⟨fun p a1 a2 a3 a4 a5 => ?_, ?_⟩, fun i i3 i6 i7 => ?_, Or.inr ⟨rfl, show (0 : Int32) ≤ 2 by decide, ?_, ?_⟩⟩
  · show mU (x2_putDown (x2_putDown Y 0 a) 2 k) 42 1 2 p = X p
    rw [mU_row a1, pd_row _ _ _ _ a2, pd_row _ _ _ _ a2, hY p a5, hX1.1 p a1 a2 a3 a4 a5]
  · show iL (mU (x2_putDown (x2_putDown Y 0 a) 2 k) 42 1 2)
    unfold iL
    rw [mU_row (by decide), pd_row _ _ _ _ (by decide), pd_row _ _ _ _ (by decide)]
    exact hL
  · show mF_tells N (nI a) z (nI k) y i = M i
    rw [tl_row _ _ _ _ _ _ i7, hN i i3 i6, hB i i7]
  · show (2 : Int32) = mU (x2_putDown (x2_putDown Y 0 a) 2 k) 42 1 2 42 1
    rw [mU_eq]
  · show ∀ j, j < 4 → mU (x2_putDown (x2_putDown Y 0 a) 2 k) 42 1 2 43 j = mF_tells N (nI a) z (nI k) y 7 j
    obtain ⟨t0, t1, t2, t3⟩ := tl_at N (nI a) z (nI k) y
    refine all4 ?_ ?_ ?_ ?_
    · rw [t0, mU_row (by decide), pd_at, if_neg (by decide), if_neg (by decide), pd_at, if_neg (by decide), if_pos rfl]
    · rw [t1, mU_row (by decide), pd_at, if_neg (by decide), if_neg (by decide), pd_at, if_pos rfl, hz]
    · rw [t2, mU_row (by decide), pd_at, if_neg (by decide), if_pos rfl]
    · rw [t3, mU_row (by decide), pd_at, if_pos rfl, pd_row _ _ _ _ (by decide), hy]
