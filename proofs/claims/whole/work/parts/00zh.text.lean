/-! TEXT: a text is read -/
/-- one text more -/
def tNew (tt : tT) (a b c n : Nat) (r : Nat → Int32) : tT := (tt.1 + 1, (fun i => if i = tt.1 then a else tt.2.1 i), (fun i => if i = tt.1 then b else tt.2.2.1 i), (fun i => if i = tt.1 then c else tt.2.2.2.1 i), (fun i => if i = tt.1 then n else tt.2.2.2.2.1 i), (fun i => if i = tt.1 then r else tt.2.2.2.2.2 i))
theorem tN_len (tt : tT) (a b c n : Nat) (r : Nat → Int32) (i : Nat) : (tNew tt a b c n r).2.2.2.2.1 i = if i = tt.1 then n else tt.2.2.2.2.1 i := rfl
theorem tN_cd (tt : tT) (a b c n : Nat) (r : Nat → Int32) (i : Nat) : (tNew tt a b c n r).2.2.2.2.2 i = if i = tt.1 then r else tt.2.2.2.2.2 i := rfl
theorem tN_E (tt : tT) (a b c n : Nat) (r : Nat → Int32) {i : Nat} (hi : i < tt.1) (hl : tt.2.2.2.2.1 i < 2 ^ 31) (x y z : Int32) : tE (tNew tt a b c n r) i x y z = tE tt i x y z := by
  rw [tE_cd tt i x y z hl, tE_cd (tNew tt a b c n r) i x y z (by rw [tN_len, if_neg (by omega)]; exact hl), tN_len, tN_cd, if_neg (by omega), if_neg (by omega)]
theorem tN_s (tt : tT) (a b c n : Nat) (r : Nat → Int32) (hn : n < 2 ^ 31) (x y z : Int32) : tE (tNew tt a b c n r) tt.1 x y z = btm (cdE x y z r n) := by
  rw [tE_cd (tNew tt a b c n r) tt.1 x y z (by rw [tN_len, if_pos rfl]; exact hn), tN_len, tN_cd, if_pos rfl, if_pos rfl]
theorem eX_tN {tt : tT} {X : xS} {p : Nat} {R : Nat → Int32} (h : eX tt X p R) (a b c n : Nat) (r : Nat → Int32) : eX (tNew tt a b c n r) X p R := by
  intro u hu
  rcases h u hu with g | ⟨t, E, g1, g2, g3, g4, g5, g6, g7⟩
  · exact Or.inl g
  · refine Or.inr ⟨t, E, g1, g2, Nat.lt_succ_of_lt g3, ?_, g5, g6, fun x y z => ?_⟩
    · rw [tN_len, if_neg (by omega)]; exact g4
    · rw [tN_E tt a b c n r g3 g4]; exact g7 x y z
theorem iE_tN {tt : tT} {X : xS} {p : Nat} {R : Nat → Int32} (h : iE tt X p R) (a b c n : Nat) (r : Nat → Int32) : iE (tNew tt a b c n r) X p R := ⟨⟨h.1.1, eX_tN h.1.2 a b c n r⟩, h.2⟩
theorem i2_tN {m : Nat} {tt : tT} {X : xS} {M : mS} (h : i2 m tt X M) (a b c n : Nat) (r : Nat → Int32) : i2 m (tNew tt a b c n r) X M := by
  obtain ⟨h1, ⟨k, k1, k2, k3, k4, k5, k6⟩, h3⟩ := h
  exact ⟨h1, ⟨k, k1, k2, k3, k4, k5, fun hk => iE_tN (k6 hk) a b c n r⟩, h3⟩
theorem i2_d {n : Nat} {tt : tT} {X X2 : xS} {M M2 : mS} (h : i2 n tt X M) (hd : dN X2) (hX : ∀ p, p = 0 ∨ (25 ≤ p ∧ p < 37) ∨ 42 ≤ p → X2 p = X p) (hM : ∀ i, i ≠ 1 → i ≠ 4 → M2 i = M i) : i2 n tt X2 M2 := by
  obtain ⟨h1, ⟨k, k1, k2, k3, k4, k5, k6⟩, h3, h4, h5, h6, h7⟩ := h
  have e0 := hM 0 (by decide) (by decide)
  have e2 := hM 2 (by decide) (by decide)
  refine ⟨?_, ⟨k, k1, ?_, ?_, ?_, ?_, fun hk => ?_⟩, ?_, ?_, ?_, ?_, hd⟩
  · unfold aB; rw [e0]; exact h1
  · rw [hX 0 (by omega)]; exact k2
  · rw [e0]; exact k3
  · rw [e0]; exact k4
  · unfold zR; rw [hX _ (by omega), hX _ (by omega)]; exact k5
  · exact iE_c (k6 hk) (fun a _ _ _ => hX a (by omega)) (fun x _ => by rw [e2])
  · intro k hk1 hk2
    rw [hX 61 (by omega), hM 5 (by decide) (by decide)]
    exact h3 k hk1 hk2
  · unfold iV
    rw [hX 48 (by omega), hX 49 (by omega), e0, hM 13 (by decide) (by decide)]
    exact h4
  · intro s hs
    rw [hX _ (by omega), hX _ (by omega), hM 8 (by decide) (by decide), hM 9 (by decide) (by decide), hM 10 (by decide) (by decide)]
    exact h5 s hs
  · unfold iL; rw [hX 46 (by omega)]; exact h6
/-- the class's act; which number the new text has is told by the texts there are -/
def x8_text (tt : tT) (X : xS) (u : Int32) : Int32 × xS := (if (p8_within u 0 1) = 0 then (lt2 (x8_error X 1) fun (x11 : Int32) (X11 : xS) => (x11, X11)) else (lt2 (x3_faultOf X (vn u + 1)) fun (x : Int32) (X1 : xS) => (lt (x4_clear X1 9) fun (X2 : xS) => (if 0 ≤ x then ((-10) - x, X2) else (1, mU X2 1 (14 + vn u) (nI tt.1))))))
/-- the texts there are then -/
def x8_textT (tt : tT) (X : xS) (u : Int32) (a b c : Nat) : tT := if (x8_text tt X u).1 = 1 then tNew tt a b c (vn ((x3_faultOf X (vn u + 1)).2 38 1)) ((x3_faultOf X (vn u + 1)).2 39) else tt
theorem tx_at (u : Int32) (M : mS) : ∀ k, k ≤ 50 → ∀ x, mF_text_L30 u M k 1 x = if 134 + 50 * vn u ≤ x ∧ x < 134 + 50 * vn u + k then M 1 (64 + (x - (134 + 50 * vn u))) else M 1 x := by
  intro k
  induction k with
  | zero => intro _ x; rw [if_neg (by omega)]; rfl
  | succ k ih =>
    intro hk x
    rw [mF_text_L30_s]
    simp only [lt_i]
    rw [mU_sm, tx_k u M k _ (by omega)]
    by_cases e : x = 134 + 50 * vn u + k
    · rw [if_pos e, if_pos (by omega)]
      congr 1
      omega
    · rw [if_neg e, ih (by omega)]
      by_cases e2 : 134 + 50 * vn u ≤ x ∧ x < 134 + 50 * vn u + k
      · rw [if_pos e2, if_pos (by omega)]
      · rw [if_neg e2, if_neg (by omega)]
theorem tx_ro (u : Int32) (M : mS) (k i : Nat) (h : i ≠ 1) : mF_text_L30 u M k i = M i := by
  induction k with
  | zero => rfl
  | succ k ih => rw [mF_text_L30_s]; simp only [lt_i]; rw [mU_row h, ih]
/-- the estate once the tape is taken -/
theorem iE_t {tt tt2 : tT} {X X2 : xS} {R R2 : Nat → Int32} (h : iE tt X 1 R) (hX : ∀ p, 1 ≤ p → p ≤ 12 → p ≠ 1 → p ≠ 9 → X2 p = X p) (hX1 : ∀ j, j ≠ 14 → j ≠ 15 → X2 1 j = X 1 j) (h9 : X2 9 1 = 0) (hR : ∀ x, x < 134 → x ≠ 4 → x ≠ 6 → x ≠ 7 → R2 x = R x) (h4 : R2 4 = 0) (hx : eX tt2 X2 1 R2) : iE tt2 X2 1 R2 := by
  obtain ⟨⟨h1, h2⟩, ⟨⟨T, t1, t2, t3, t4⟩, ⟨W, w1, w2, w3, w4⟩⟩, ⟨h3, g⟩, h5⟩ := h
  have hn : vn (X 1 9) ≤ 8 := eE_n (tt := tt) (M := fun _ => R) ⟨h1, h2⟩ h3.2.1
  refine ⟨⟨eN_pt h1 (hX1 9 (by decide) (by decide)) (hR 8 (by decide) (by decide) (by decide) (by decide)) (fun a b x hk e => ?_), hx⟩, ⟨⟨0, by omega, h9, h4, fun j hj => absurd hj (Nat.not_lt_zero _)⟩, ⟨W, w1, ?_, ?_, fun j hj => ?_⟩⟩, ⟨?_, ?_⟩, ?_⟩
  · have hb := lk_bd hk hn
    rw [hR x (by omega) hb.2.2.1 hb.2.2.2.2.1 hb.2.2.2.2.2.1]
    by_cases e1 : a = 1
    · rw [e1, hX1 b (by have := hb.2.2.2.2.2.2.2.2.2 e1; omega) (by have := hb.2.2.2.2.2.2.2.2.2 e1; omega), ← e1]; exact e
    · rw [hX a (by omega) (by omega) e1 (by omega)]; exact e
  · rw [hX _ (by omega) (by omega) (by omega) (by omega)]; exact w2
  · rw [hR 5 (by decide) (by decide) (by decide) (by decide)]; exact w3
  · rw [hX _ (by omega) (by omega) (by omega) (by omega), hR _ (by omega) (by omega) (by omega) (by omega)]; exact w4 j hj
  · obtain ⟨r1, r2, r3, r4, r5⟩ := h3
    refine ⟨?_, ?_, fun q hq => ?_, fun q hq => ?_, fun u hu => ?_⟩
    · show R2 3 = nI (vn (R2 3)) ∧ 3 ≤ vn (R2 3) ∧ vn (R2 3) ≤ 10
      rw [hR 3 (by decide) (by decide) (by decide) (by decide)]; exact r1
    · show R2 8 = nI (vn (R2 8)) ∧ vn (R2 8) ≤ 8
      rw [hR 8 (by decide) (by decide) (by decide) (by decide)]; exact r2
    · show R2 _ = nI (vn (R2 _)) ∧ vn (R2 _) ≤ 6
      rw [hR _ (by omega) (by omega) (by omega) (by omega)]; exact r3 q hq
    · show R2 _ = nI (vn (R2 _)) ∧ vn (R2 _) < 10
      rw [hR _ (by omega) (by omega) (by omega) (by omega)]; exact r4 q hq
    · show R2 (6 + u) = -1 ∨ (R2 (6 + u) = nI (vn (R2 (6 + u))) ∧ vn (R2 (6 + u)) ≤ 50)
      rcases hx u hu with ⟨_, g⟩ | ⟨t, E, _, _, _, _, g5, g6, _⟩
      · exact Or.inl g
      · rw [g5, vn_nI (by omega)]; exact Or.inr ⟨rfl, g6⟩
  · exact gOK_row g (fun x hx => hR x (by omega) (by omega) (by omega) (by omega))
  · unfold eA; rw [hX _ (by omega) (by omega) (by omega) (by omega)]; exact h5
theorem text_e {n : Nat} {tt : tT} {X : xS} {M : mS} (h : INV n tt X M) (ht : tt.1 < 2 ^ 31) (u : Int32) (a b c : Nat) : AL n (x8_textT tt X u a b c) (x8_text tt X u) (mF_text M u) := by
  unfold x8_textT
  by_cases c1 : sF_in u 0 1 = 0
  · have e : x8_text tt X u = x8_error X 1 := by
      unfold x8_text
      rw [if_pos (show p8_within u 0 1 = 0 from c1)]
      rfl
    have em : mF_text M u = mF_errs M (-1000000001) := by
      unfold mF_text
      rw [if_pos c1]
      rfl
    have ha := er1 h
    rw [e, em, if_neg (by rw [ha.1]; show ¬ (mF_errs M (-1000000001)).1 = 1; unfold mF_errs; simp only [lt_i]; decide)]
    exact ha
  obtain ⟨u1, u2⟩ := in_nat (n := 1) c1 ⟨rfl, by decide⟩
  obtain ⟨⟨T, t1, t2, t3, t4⟩, ⟨W, w1, w2, w3, w4⟩⟩ := h.1.2.1
  have t2 : X 9 1 = nI T := t2
  have t4 : ∀ j, j < T → X 10 j = M 1 (64 + j) ∧ ∃ w, w < 256 ∧ M 1 (64 + j) = nI w := t4
  have hf := fun (x y z : Int32) => fault_A x y z (k := vn u + 1) (E := T) (X := X) (by omega) (by omega) t1 t2 (fun j hj => by rw [(t4 j hj).1]; exact (t4 j hj).2)
  simp only [Nat.add_sub_cancel] at hf
  have e : x8_text tt X u = (if 0 ≤ (x3_faultOf X (vn u + 1)).1 then ((-10) - (x3_faultOf X (vn u + 1)).1, mU (x3_faultOf X (vn u + 1)).2 9 1 0) else (1, mU (mU (x3_faultOf X (vn u + 1)).2 9 1 0) 1 (14 + vn u) (nI tt.1))) := by
    unfold x8_text x4_clear
    simp only [lt_i, lt2_i]
    rw [if_neg (show ¬ p8_within u 0 1 = 0 from c1)]
  rw [e]
  generalize x3_faultOf X (vn u + 1) = q at hf ⊢
  obtain ⟨x, X1⟩ := q
  simp only [] at hf ⊢
  have hd := (hf 1 1 1).2.1
  have hX := (hf 1 1 1).2.2
  -- the reference
  have m1 : ∀ x, mU (mF_text_L30 u (mF_moveAll_1_4 M) 50) 1 (6 + vn u) (mF_text_L30 u (mF_moveAll_1_4 M) 50 1 4) 1 x = if x = 6 + vn u then nI T else if 134 + 50 * vn u ≤ x ∧ x < 134 + 50 * vn u + 50 then M 1 (64 + (x - (134 + 50 * vn u))) else M 1 x := fun x => by
    rw [mU_sm, tx_at u _ 50 (by omega), tx_at u _ 50 (by omega), mv14_row M 1 (by decide), if_neg (show ¬ (134 + 50 * vn u ≤ 4 ∧ 4 < 134 + 50 * vn u + 50) by omega), show M 1 4 = nI T from t3]
  have m2 : ∀ i, i ≠ 1 → i ≠ 4 → mU (mF_text_L30 u (mF_moveAll_1_4 M) 50) 1 (6 + vn u) (mF_text_L30 u (mF_moveAll_1_4 M) 50 1 4) i = M i := fun i i1 i4 => by
    rw [mU_row i1, tx_ro _ _ _ _ i1, mv14_row M i i4]
  have m3 : ∀ x, x < 234 → mU (mF_text_L30 u (mF_moveAll_1_4 M) 50) 1 (6 + vn u) (mF_text_L30 u (mF_moveAll_1_4 M) 50 1 4) 4 x = M 1 x := fun x hx => by
    rw [mU_row (by decide), tx_ro _ _ _ _ (by decide), mv14_at, if_pos hx]
  have em : mF_text M u = (if (if wk14 (mU (mF_text_L30 u (mF_moveAll_1_4 M) 50) 1 (6 + vn u) (mF_text_L30 u (mF_moveAll_1_4 M) 50 1 4)) (vn u) = 0 then (0 : Int32) else 1) = 0 then ((-10) - wk8 (mU (mF_text_L30 u (mF_moveAll_1_4 M) 50) 1 (6 + vn u) (mF_text_L30 u (mF_moveAll_1_4 M) 50 1 4)) (vn u), mU (if (if wk14 (mU (mF_text_L30 u (mF_moveAll_1_4 M) 50) 1 (6 + vn u) (mF_text_L30 u (mF_moveAll_1_4 M) 50 1 4)) (vn u) = 0 then (0 : Int32) else 1) = 0 then mF_moveAll_4_1 (mU (mF_text_L30 u (mF_moveAll_1_4 M) 50) 1 (6 + vn u) (mF_text_L30 u (mF_moveAll_1_4 M) 50 1 4)) else (mU (mF_text_L30 u (mF_moveAll_1_4 M) 50) 1 (6 + vn u) (mF_text_L30 u (mF_moveAll_1_4 M) 50 1 4))) 1 4 0) else (1, mU (if (if wk14 (mU (mF_text_L30 u (mF_moveAll_1_4 M) 50) 1 (6 + vn u) (mF_text_L30 u (mF_moveAll_1_4 M) 50 1 4)) (vn u) = 0 then (0 : Int32) else 1) = 0 then mF_moveAll_4_1 (mU (mF_text_L30 u (mF_moveAll_1_4 M) 50) 1 (6 + vn u) (mF_text_L30 u (mF_moveAll_1_4 M) 50 1 4)) else (mU (mF_text_L30 u (mF_moveAll_1_4 M) 50) 1 (6 + vn u) (mF_text_L30 u (mF_moveAll_1_4 M) 50 1 4))) 1 4 0)) := by
    unfold mF_text
    simp only [lt_i]
    rw [if_neg c1]
    simp only [if_true]
  rw [em]
  generalize mU (mF_text_L30 u (mF_moveAll_1_4 M) 50) 1 (6 + vn u) (mF_text_L30 u (mF_moveAll_1_4 M) 50 1 4) = N at m1 m2 m3 ⊢
  have n6 : N 1 (6 + vn u) = nI T := by rw [m1, if_pos rfl]
  have nb : bl (fun k => N 1 (134 + 50 * vn u + k)) T 0 = bl (X 10) T 0 := bl_eq T 0 (fun j _ hj => by
    show N 1 (134 + 50 * vn u + j) = X 10 j
    rw [m1, if_neg (by omega), if_pos (by omega), (t4 j (by omega)).1]
    congr 1
    omega)
  obtain ⟨k, k1, k2, k3, k4⟩ := walk_A (M := N) (u := vn u) (E := T) (a := 1) (b := 1) (c := 1) (by omega) t1
  rw [nb] at k4
  have e14 : wk14 N (vn u) = if (mF_whole N (pF N 5) (pS0 (vn u) (nI T) 1 1 1)).2 14 = 0 then 0 else (if (mF_whole N (pF N 5) (pS0 (vn u) (nI T) 1 1 1)).2 8 = (mF_whole N (pF N 5) (pS0 (vn u) (nI T) 1 1 1)).2 9 then 1 else 0) := by
    unfold wk14 wkR
    rw [n6]
  have e8 : wk8 N (vn u) = nI k := by
    unfold wk8 wkR
    rw [n6]
    exact k2
  rw [k2, k3] at e14
  rcases k4 with ⟨g1, g2, g3⟩ | ⟨g1, g2⟩
  · -- it is a text
    rw [g1, g2, if_neg (by decide), if_pos rfl] at e14
    rw [e14]
    simp only [if_neg (show ¬ (1 : Int32) = 0 by decide)]
    rcases (hf 1 1 1).1 with ⟨f1, _⟩ | ⟨nc, f1, f2, f3, _⟩
    · rw [g3] at f1; exact absurd f1 (by simp)
    rw [if_neg (show ¬ 0 ≤ x by rw [f3]; decide), if_pos rfl, f2, vn_nI (by omega)]
    refine AL_mk rfl ?_
    have hXr : ∀ p, p < 37 ∨ 42 ≤ p → p ≠ 1 → p ≠ 9 → mU (mU X1 9 1 0) 1 (14 + vn u) (nI tt.1) p = X p := fun p hp h1 h9 => by rw [mU_row h1, mU_row h9]; exact hX p hp
    refine ⟨iE_t h.1 (fun p p1 p2 h1 h9 => hXr p (by omega) h1 h9) (fun j j4 j5 => ?_) ?_ (fun x x1 x2 x3 x4 => ?_) mU_eq ?_, ?_⟩
    · rw [mU_ne (by omega), mU_row (by decide), hX 1 (by decide)]
    · rw [mU_row (by decide), mU_eq]
    · rw [mU_ne x2, m1, if_neg (by omega), if_neg (by omega)]
    · intro v hv
      by_cases ev : v = vn u
      · refine Or.inr ⟨tt.1, T, ?_, ht, Nat.lt_succ_self _, ?_, ?_, t1, fun y z w => ?_⟩
        · rw [ev, mU_eq]
        · rw [tN_len, if_pos rfl]; omega
        · rw [ev, mU_ne (by omega)]; exact n6
        · rw [tN_s _ _ _ _ _ _ (by omega), ev]
          have eb : bl (fun k => mU N 1 4 0 1 (134 + 50 * vn u + k)) T 0 = bl (X 10) T 0 := by
            rw [← nb]
            exact bl_eq T 0 (fun j _ _ => mU_ne (by omega))
          rw [eb]
          rcases (hf y z w).1 with ⟨_, z1⟩ | ⟨nc2, z1, z2, z3, z4⟩
          · rw [f3] at z1
            exact absurd z1 (m1_nI (by omega))
          · have : nc2 = nc := by
              rw [f2, nI_eq (by omega) (by omega)] at z2
              exact z2.symm
            rw [this] at z4
            exact z4
      · have hX14 : mU (mU X1 9 1 0) 1 (14 + vn u) (nI tt.1) 1 (14 + v) = X 1 (14 + v) := by rw [mU_ne (by omega), mU_row (by decide), hX 1 (by decide)]
        have hN6 : mU N 1 4 0 1 (6 + v) = M 1 (6 + v) := by rw [mU_ne (by omega), m1, if_neg (by omega), if_neg (by omega)]
        rcases h.1.1.2 v hv with ⟨a1, a2⟩ | ⟨t, E, a1, a2, a3, a4, a5, a6, a7⟩
        · exact Or.inl ⟨hX14.trans a1, hN6.trans a2⟩
        · refine Or.inr ⟨t, E, hX14.trans a1, a2, Nat.lt_succ_of_lt a3, ?_, hN6.trans a5, a6, fun y z w => ?_⟩
          · rw [tN_len, if_neg (by omega)]; exact a4
          · have eb : bl (fun k => mU N 1 4 0 1 (134 + 50 * v + k)) E 0 = bl (fun k => M 1 (134 + 50 * v + k)) E 0 := bl_eq E 0 (fun j _ _ => by rw [mU_ne (by omega), m1, if_neg (by omega), if_neg (by omega)])
            rw [eb, tN_E _ _ _ _ _ _ a3 a4]
            exact a7 y z w
    · exact i2_tN (i2_d h.2 (by unfold dN; rw [mU_row (by decide), mU_row (by decide), mU_row (by decide), mU_row (by decide), mU_row (by decide), mU_row (by decide)]; exact hd) (fun p hp => hXr p (by omega) (by omega) (by omega)) (fun i i1 i4 => by rw [mU_row i1]; exact m2 i i1 i4)) a b c nc (X1 39)
  · -- it is none
    have e14' : wk14 N (vn u) = 0 := by
      rw [e14]
      rcases g1 with g1 | g1
      · rw [if_pos g1]
      · by_cases z : (mF_whole N (pF N 5) (pS0 (vn u) (nI T) 1 1 1)).2 14 = 0
        · rw [if_pos z]
        · rw [if_neg z, if_neg (by rw [nI_eq (by omega) (by omega)]; exact g1)]
    rw [e14', e8]
    simp only [if_true]
    rcases (hf 1 1 1).1 with ⟨_, f2⟩ | ⟨nc, _, _, _, f4⟩
    · rw [g2] at f2
      have f2 : x = nI (T - (T - k)) := f2
      have f3 : x = nI k := by rw [f2, show T - (T - k) = k by omega]
      rw [if_pos (show 0 ≤ x by rw [f3]; exact nI_ge0 (by omega)), f3]
      rw [if_neg (show ¬ ((-10 : Int32) - nI k, mU X1 9 1 0).1 = 1 by
        show ¬ (-10 : Int32) - nI k = 1
        intro w
        have w2 := congrArg Int32.toInt w
        have : ((-10 : Int32) - nI k).toInt = -10 - (k : Int) := by
          rw [Int32.toInt_sub, nI_toInt (by omega), show (-10 : Int32).toInt = -10 by decide]
          apply Int.bmod_eq_of_le <;> omega
        rw [this] at w2
        have w3 : (1 : Int32).toInt = 1 := by decide
        omega)]
      refine AL_mk rfl ?_
      have hm : ∀ x, x < 234 → x ≠ 4 → mU (mF_moveAll_4_1 N) 1 4 0 1 x = M 1 x := fun x hx h4 => by rw [mU_ne h4, mv41_at, if_pos hx, m3 x hx]
      have hXr : ∀ p, p < 37 ∨ 42 ≤ p → p ≠ 9 → mU X1 9 1 0 p = X p := fun p hp h9 => by rw [mU_row h9]; exact hX p hp
      refine ⟨iE_t h.1 (fun p p1 p2 h1 h9 => hXr p (by omega) h9) (fun j _ _ => by rw [hXr 1 (by decide) (by decide)]) mU_eq (fun x x1 x2 _ _ => hm x (by omega) x2) mU_eq ?_, ?_⟩
      · intro v hv
        have hX14 : mU X1 9 1 0 1 (14 + v) = X 1 (14 + v) := by rw [hXr 1 (by decide) (by decide)]
        have hN6 : mU (mF_moveAll_4_1 N) 1 4 0 1 (6 + v) = M 1 (6 + v) := hm _ (by omega) (by omega)
        rcases h.1.1.2 v hv with ⟨a1, a2⟩ | ⟨t, E, a1, a2, a3, a4, a5, a6, a7⟩
        · exact Or.inl ⟨hX14.trans a1, hN6.trans a2⟩
        · refine Or.inr ⟨t, E, hX14.trans a1, a2, a3, a4, hN6.trans a5, a6, fun y z w => ?_⟩
          have eb : bl (fun k => mU (mF_moveAll_4_1 N) 1 4 0 1 (134 + 50 * v + k)) E 0 = bl (fun k => M 1 (134 + 50 * v + k)) E 0 := bl_eq E 0 (fun j _ hj => hm _ (by omega) (by omega))
          rw [eb]
          exact a7 y z w
      · exact i2_d h.2 (by unfold dN; rw [mU_row (by decide), mU_row (by decide), mU_row (by decide)]; exact hd) (fun p hp => hXr p (by omega) (by omega)) (fun i i1 i4 => by rw [mU_row i1, mv41_row _ i i1]; exact m2 i i1 i4)
    · rw [g2] at f4; exact absurd (congrArg Prod.snd f4) (by simp)
