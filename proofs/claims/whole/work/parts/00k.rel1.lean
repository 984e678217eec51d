/-! THE TWO STATES SIDE BY SIDE: an estate of the class (at place p) and a row of the reference (R); ab: the one of the reference's people who is left out (8: nobody) -/
def sk (ab i : Nat) : Nat := if i < ab then i else i + 1
/-- number b of the class's row a is number x of the reference's row -/
def lk (ab n p a b x : Nat) : Prop :=
  (a = p ∧ (b = 0 ∧ x = 3 ∨ b = 4 ∧ x = 9 ∨ b = 5 ∧ x = 10 ∨ b = 6 ∧ x = 1 ∨ b = 7 ∧ x = 0 ∨ b = 8 ∧ x = 11 ∨ b = 18 ∧ x = 2)) ∨
  (b < 10 ∧ (a = p + 1 ∧ x = 12 + b ∨ a = p + 2 ∧ x = 22 + b)) ∨
  (b < n ∧ (a = p + 4 ∧ x = 32 + 4 * sk ab b + 0 ∨ a = p + 5 ∧ x = 32 + 4 * sk ab b + 1 ∨ a = p + 6 ∧ x = 32 + 4 * sk ab b + 2 ∨ a = p + 7 ∧ x = 32 + 4 * sk ab b + 3))
def eN (ab : Nat) (X : xS) (p : Nat) (R : Nat → Int32) : Prop := (∀ a b x, lk ab (vn (X p 9)) p a b x → X a b = R x) ∧ X p 9 = nI (vn (X p 9)) ∧ vn (R 8) = vn (X p 9) + (if ab < vn (R 8) then 1 else 0)
theorem sk_cs (ab i : Nat) : (i < ab ∧ sk ab i = i) ∨ (ab ≤ i ∧ sk ab i = i + 1) := by
  unfold sk
  by_cases h : i < ab
  · rw [if_pos h]; exact Or.inl ⟨h, rfl⟩
  · rw [if_neg h]; exact Or.inr ⟨by omega, rfl⟩
theorem lk_inj {ab n p a b x a2 b2 x2 : Nat} (h : lk ab n p a b x) (g : lk ab n p a2 b2 x2) : (a2 = a ∧ b2 = b) ↔ x2 = x := by
  have s1 := sk_cs ab b
  have s2 := sk_cs ab b2
  have e0 : b2 = b → sk ab b2 = sk ab b := fun e => by rw [e]
  unfold lk at h g
  generalize sk ab b = s at s1 h e0
  generalize sk ab b2 = s' at s2 g e0
  rcases h with ⟨h, h1⟩ | ⟨h, h1⟩ | ⟨h, h1⟩
  · rcases g with ⟨g, g1⟩ | ⟨g, g1⟩ | ⟨g, g1⟩
    · constructor <;> intro w <;> omega
    · constructor <;> intro w <;> omega
    · constructor <;> intro w <;> omega
  · rcases g with ⟨g, g1⟩ | ⟨g, g1⟩ | ⟨g, g1⟩
    · constructor <;> intro w <;> omega
    · constructor <;> intro w <;> omega
    · constructor <;> intro w <;> omega
  · rcases g with ⟨g, g1⟩ | ⟨g, g1⟩ | ⟨g, g1⟩
    · constructor <;> intro w <;> omega
    · constructor <;> intro w <;> omega
    · constructor <;> intro w
      · rcases h1 with h1 | h1 | h1 | h1 <;> rcases g1 with g1 | g1 | g1 | g1 <;> omega
      · rcases h1 with h1 | h1 | h1 | h1 <;> rcases g1 with g1 | g1 | g1 | g1 <;> omega
def eX (tt : tT) (X : xS) (p : Nat) (R : Nat → Int32) : Prop := ∀ u, u < 2 → (X p (14 + u) = -1 ∧ R (6 + u) = -1) ∨ ∃ t E, X p (14 + u) = nI t ∧ t < 2 ^ 31 ∧ t < tt.1 ∧ tt.2.2.2.2.1 t < 2 ^ 31 ∧ R (6 + u) = nI E ∧ E ≤ 50 ∧ ∀ a b c, rn a b c u (bl (fun k => R (134 + 50 * u + k)) E 0) (DU [] [] 0) = (0, some (tE tt t a b c))
def aB (ab : Nat) (M : mS) : Prop := M 0 15 = if ab < 8 then nI ab else -1
theorem nIm {k : Nat} (h : k < 2 ^ 31) : nI k = -1 → False := by
  intro e
  have := congrArg Int32.toInt e
  rw [nI_toInt h] at this
  have h2 : (-1 : Int32).toInt = -1 := by decide
  omega
theorem m1_nI {k : Nat} (h : k < 2 ^ 31) : (-1 : Int32) ≠ nI k := fun e => nIm h e.symm
theorem nI_nlt0 {k : Nat} (h : k < 2 ^ 31) : ¬ nI k < 0 := by
  rw [show (0 : Int32) = nI 0 from rfl, nI_ltI h (by decide)]; omega
theorem nI_ge0 {k : Nat} (h : k < 2 ^ 31) : 0 ≤ nI k := by
  rw [show (0 : Int32) = nI 0 from rfl, nI_leI (by decide) h]; omega
theorem nI_lt_s {t : Int32} {k : Nat} (h : k + 1 < 2 ^ 31) : t < nI (k + 1) ↔ t ≤ nI k := by
  rw [Int32.lt_iff_toInt_lt, Int32.le_iff_toInt_le, nI_toInt h, nI_toInt (by omega)]; omega
theorem nI_s_le {t : Int32} {k : Nat} (h : k + 1 < 2 ^ 31) : nI (k + 1) ≤ t ↔ nI k < t := by
  rw [Int32.lt_iff_toInt_lt, Int32.le_iff_toInt_le, nI_toInt h, nI_toInt (by omega)]; omega
theorem nI_p1 (k : Nat) : nI (k + 1) - 1 = nI k := by
  rw [show (1 : Int32) = nI 1 from rfl, pk_sub (by omega)]; rfl
theorem and1 (x : Int32) : x &&& 1 = 0 ∨ x &&& 1 = 1 := by
  have h : (x &&& 1).toBitVec.toNat < 2 := by
    show (x.toBitVec &&& 1#32).toNat < 2
    rw [BitVec.toNat_and]
    exact Nat.lt_of_le_of_lt Nat.and_le_right (by decide)
  rcases (show (x &&& 1).toBitVec.toNat = 0 ∨ (x &&& 1).toBitVec.toNat = 1 by omega) with e | e
  · exact Or.inl (nI_bv (m := 0) e)
  · exact Or.inr (nI_bv (m := 1) e)
theorem has_e (s k : Int32) : p8_has s k = sF_has s k := by
  unfold p8_has sF_has
  rcases and1 (s >>> (k &&& 31)) with e | e <;> rw [e] <;> rfl
theorem held_e (v hi : Int32) : p8_held v hi = sF_held v 0 hi := rfl
theorem in_e (v lo hi : Int32) : p8_within v lo hi = sF_in v lo hi := rfl
/-- what a use gives -/
theorem walk_v {M : mS} {u E : Nat} {a b c v : Int32} (hu : u < 2) (hE : E ≤ 50) (h6 : M 1 (6 + u) = nI E) (h : rn a b c u (bl (fun k => M 1 (134 + 50 * u + k)) E 0) (DU [] [] 0) = (0, some v)) : mV_walks M u a b c = v := by
  unfold mV_walks
  rw [h6]
  obtain ⟨k, _, _, _, h1⟩ := walk_A (M := M) (a := a) (b := b) (c := c) hu hE
  rcases h1 with ⟨_, _, h2⟩ | ⟨_, h2⟩
  · exact Option.some.inj (congrArg Prod.snd (h2.symm.trans h))
  · have e := congrArg Prod.snd (h2.symm.trans h)
    exact absurd e (by simp)
theorem sg_e {tt : tT} {X : xS} {p : Nat} {M : mS} (h : eX tt X p (M 1)) (a b c : Int32) : x0_sightGiven tt X p a b c = mF_lawOf M 0 a b c := by
  unfold x0_sightGiven mF_lawOf
  simp only [lt_i]
  rcases h 0 (by decide) with ⟨h1, h2⟩ | ⟨t, E, h1, h2, h3, h4, h5, h6, h7⟩
  · rw [if_pos (show X p 14 = -1 from h1), if_pos (show M 1 (6 + 0) < 0 by rw [show M 1 (6 + 0) = -1 from h2]; decide)]
    rfl
  · rw [show X p 14 = nI t from h1, if_neg (fun e => nIm h2 e), vn_nI h2, if_neg (by rw [h5]; exact nI_nlt0 (by omega)), walk_v (by decide) h6 h5 (h7 a b c)]
    rfl
theorem th_e {tt : tT} {X : xS} {p : Nat} {M : mS} (h : eX tt X p (M 1)) (a b c : Int32) : x0_theftGiven tt X p a b c = mF_lawOf M 1 a b c := by
  unfold x0_theftGiven mF_lawOf
  simp only [lt_i]
  rcases h 1 (by decide) with ⟨h1, h2⟩ | ⟨t, E, h1, h2, h3, h4, h5, h6, h7⟩
  · rw [if_pos (show X p 15 = -1 from h1), if_pos (show M 1 (6 + 1) < 0 by rw [show M 1 (6 + 1) = -1 from h2]; decide)]
    rfl
  · rw [show X p 15 = nI t from h1, if_neg (fun e => nIm h2 e), vn_nI h2, if_neg (by rw [h5]; exact nI_nlt0 (by omega)), walk_v (by decide) h6 h5 (h7 a b c)]
    rfl
/-- the sight of one, fog and hour being the reference's -/
theorem si_e {tt : tT} {X : xS} {p i q : Nat} {M : mS} (h : eX tt X p (M 1)) (h4 : X (p + 4) i = M 1 (32 + 4 * q + 0)) (h5 : X (p + 5) i = M 1 (32 + 4 * q + 1)) : x0_sightIn tt X p i (M 1 1) (M 1 0) = mF_sight M q := by
  unfold x0_sightIn mF_sight mF_its
  rw [sg_e h, h4, h5, lt_i]
  rfl
theorem iso_3 (X : xS) : ∀ j, j ≤ 6 → x1_isOneOf X (nI j) 3 = if j = 3 ∨ j = 6 then 1 else 0 := by
  intro j hj
  rcases (show j = 0 ∨ j = 1 ∨ j = 2 ∨ j = 3 ∨ j = 4 ∨ j = 5 ∨ j = 6 by omega) with rfl | rfl | rfl | rfl | rfl | rfl | rfl <;> rfl
theorem tk_eq {tt : tT} {X : xS} {p i q : Nat} {M : mS} (h : eX tt X p (M 1)) (h4 : X (p + 4) i = M 1 (32 + 4 * q + 0)) (h5 : X (p + 5) i = M 1 (32 + 4 * q + 1)) (hk : M 1 (32 + 4 * q + 0) = nI (vn (M 1 (32 + 4 * q + 0))) ∧ vn (M 1 (32 + 4 * q + 0)) ≤ 6) : x0_takesFrom tt X p i (M 1 (12 + aN M q)) (M 1 0) = mF_takes M q := by
  unfold x0_takesFrom mF_takes mF_its
  simp only [lt_i]
  rw [th_e h, h4, h5]
  obtain ⟨e, hl⟩ := hk
  generalize vn (M 1 (32 + 4 * q + 0)) = j at e hl
  rw [e, iso_3 X j hl]
  unfold p1_takesOf
  rcases (show j = 0 ∨ j = 1 ∨ j = 2 ∨ j = 3 ∨ j = 4 ∨ j = 5 ∨ j = 6 by omega) with rfl | rfl | rfl | rfl | rfl | rfl | rfl <;> rfl
/-! views -/
def orN (f : Nat → Int32) : Nat → Int32
  | 0 => 0
  | n + 1 => orN f n ||| f n
theorem orN_eq {f g : Nat → Int32} : ∀ n, (∀ k, k < n → f k = g k) → orN f n = orN g n := by
  intro n
  induction n with
  | zero => intro _; rfl
  | succ n ih =>
    intro h
    show orN f n ||| f n = orN g n ||| g n
    rw [ih (fun k hk => h k (by omega)), h n (by omega)]
theorem orN_sh (f : Nat → Int32) : ∀ n, f 0 ||| orN (fun k => f (k + 1)) n = orN f (n + 1) := by
  intro n
  induction n with
  | zero => show f 0 ||| 0 = 0 ||| f 0; rw [Int32.or_zero, Int32.zero_or]
  | succ n ih =>
    show f 0 ||| (orN (fun k => f (k + 1)) n ||| f (n + 1)) = orN f (n + 1) ||| f (n + 1)
    rw [← ih, Int32.or_assoc]
theorem orN_rev : ∀ (n : Nat) (f : Nat → Int32), orN (fun k => f (n - 1 - k)) n = orN f n := by
  intro n
  induction n with
  | zero => intro f; rfl
  | succ n ih =>
    intro f
    show orN (fun k => f (n + 1 - 1 - k)) n ||| f (n + 1 - 1 - n) = _
    rw [← orN_sh, ← ih (fun k => f (k + 1)), Int32.or_comm, show n + 1 - 1 - n = 0 by omega]
    congr 1
    apply orN_eq
    intro k hk
    rw [show n + 1 - 1 - k = n - 1 - k + 1 by omega]
def lbits (t h : Int32) : Nat → Int32
  | 0 => 0
  | k + 1 => if nI (k + 1) ≤ t then 0 else if sF_has h (nI k) = 0 then (1 <<< (nI k &&& 31)) ||| lbits t h k else 0
def rbits (m t h : Int32) : Nat → Nat → Int32
  | 0, _ => 0
  | f + 1, k => if m ≤ nI k then 0 else if t ≤ nI k then 0 else if sF_has h (nI k) = 0 then (1 <<< ((nI k + 1) &&& 31)) ||| rbits m t h f (k + 1) else 0
theorem L77_e (M : mS) (q : Nat) (x : Int32) : ∀ (f k : Nat) (S : Int32), k < f → k < 2 ^ 31 → (mF_seesOf_L77 M q x f k S).2 = S ||| lbits (nI (aN M q) - x) (M 1 9) k := by
  intro f
  induction f with
  | zero => intro k S h; exact absurd h (Nat.not_lt_zero _)
  | succ f ih =>
    intro k S h hk
    rw [mF_seesOf_L77_s]
    cases k with
    | zero => rw [if_pos (by decide)]; show S = S ||| 0; rw [Int32.or_zero]
    | succ k =>
      rw [if_neg (show ¬ nI (k + 1) ≤ 0 by rw [nz hk]; omega), nI_p1]
      show _ = S ||| (if nI (k + 1) ≤ nI (aN M q) - x then (0 : Int32) else if sF_has (M 1 9) (nI k) = 0 then (1 <<< (nI k &&& 31)) ||| lbits (nI (aN M q) - x) (M 1 9) k else 0)
      by_cases c1 : nI (k + 1) ≤ nI (aN M q) - x
      · rw [if_pos c1, if_pos c1, Int32.or_zero]
      · rw [if_neg c1, if_neg c1]
        by_cases c2 : sF_has (M 1 9) (nI k) = 0
        · rw [if_pos c2, if_pos c2, lt_i, show k + 1 - 1 = k by omega, ih k _ (by omega) (by omega), Int32.or_assoc]
        · rw [if_neg c2, if_neg c2, Int32.or_zero]
theorem L10_e (a : Nat) (x h : Int32) : ∀ (f k : Nat) (S : Int32), k < f → k < 2 ^ 31 → (x0_viewFrom_L10 a x h f (nI k - 1) S).2 = S ||| lbits (nI a - x) h k := by
  intro f
  induction f with
  | zero => intro k S h; exact absurd h (Nat.not_lt_zero _)
  | succ f ih =>
    intro k S hk hk2
    rw [x0_viewFrom_L10_s]
    cases k with
    | zero => rw [if_pos (by decide)]; show S = S ||| 0; rw [Int32.or_zero]
    | succ k =>
      rw [nI_p1, if_neg (nI_nlt0 (by omega)), has_e]
      show _ = S ||| (if nI (k + 1) ≤ nI a - x then (0 : Int32) else if sF_has h (nI k) = 0 then (1 <<< (nI k &&& 31)) ||| lbits (nI a - x) h k else 0)
      by_cases c1 : nI (k + 1) ≤ nI a - x
      · rw [if_pos c1, if_pos ((nI_s_le hk2).mp c1), Int32.or_zero]
      · rw [if_neg c1, if_neg (fun e => c1 ((nI_s_le hk2).mpr e))]
        by_cases c2 : sF_has h (nI k) = 0
        · rw [if_pos c2, if_pos c2, lt_i, show nI k + (-1) = nI k - 1 by rw [Int32.sub_eq_add_neg], ih k _ (by omega) (by omega), Int32.or_assoc]
        · rw [if_neg c2, if_neg c2, Int32.or_zero]
theorem L21_e (M : mS) (q : Nat) (x : Int32) : ∀ (f k : Nat) (S : Int32), (mF_seesOf_L21 M q x f k S).2 = S ||| rbits (M 1 3 - 1) (nI (aN M q) + x) (M 1 9) f k := by
  intro f
  induction f with
  | zero => intro k S; show S = S ||| 0; rw [Int32.or_zero]
  | succ f ih =>
    intro k S
    rw [mF_seesOf_L21_s]
    show _ = S ||| (if M 1 3 - 1 ≤ nI k then (0 : Int32) else if nI (aN M q) + x ≤ nI k then 0 else if sF_has (M 1 9) (nI k) = 0 then (1 <<< ((nI k + 1) &&& 31)) ||| rbits (M 1 3 - 1) (nI (aN M q) + x) (M 1 9) f (k + 1) else 0)
    by_cases c1 : M 1 3 - 1 ≤ nI k
    · rw [if_pos c1, if_pos c1, Int32.or_zero]
    · rw [if_neg c1, if_neg c1]
      by_cases c2 : nI (aN M q) + x ≤ nI k
      · rw [if_pos c2, if_pos c2, Int32.or_zero]
      · rw [if_neg c2, if_neg c2]
        by_cases c3 : sF_has (M 1 9) (nI k) = 0
        · rw [if_pos c3, if_pos c3, lt_i, ih, Int32.or_assoc]
        · rw [if_neg c3, if_neg c3, Int32.or_zero]
theorem L53_e (X : xS) (p a n : Nat) (x h : Int32) (h0 : X p 0 = nI n) (hn : 1 ≤ n) (hn2 : n < 2 ^ 31) : ∀ (f k : Nat) (S : Int32), k + f < 2 ^ 31 - 1 → (x0_viewFrom_L53 X p a x h f (k + 1) S).2 = S ||| rbits (nI n - 1) (nI a + x) h f k := by
  intro f
  induction f with
  | zero => intro k S _; show S = S ||| 0; rw [Int32.or_zero]
  | succ f ih =>
    intro k S hk
    rw [x0_viewFrom_L53_s, h0]
    show _ = S ||| (if nI n - 1 ≤ nI k then (0 : Int32) else if nI a + x ≤ nI k then 0 else if sF_has h (nI k) = 0 then (1 <<< ((nI k + 1) &&& 31)) ||| rbits (nI n - 1) (nI a + x) h f (k + 1) else 0)
    have e1 : nI n ≤ nI (k + 1) ↔ nI n - 1 ≤ nI k := by
      rw [show n = n - 1 + 1 by omega, nI_p1, nI_leI (by omega) (by omega), nI_leI (by omega) (by omega)]; omega
    by_cases c1 : nI n - 1 ≤ nI k
    · rw [if_pos c1, if_pos (e1.mpr c1), Int32.or_zero]
    · rw [if_neg c1, if_neg (fun e => c1 (e1.mp e))]
      by_cases c2 : nI a + x ≤ nI k
      · rw [if_pos c2, if_pos ((nI_lt_s (by omega)).mpr c2), Int32.or_zero]
      · rw [if_neg c2, if_neg (fun e => c2 ((nI_lt_s (by omega)).mp e)), nI_p1, has_e]
        by_cases c3 : sF_has h (nI k) = 0
        · rw [if_pos c3, if_pos c3, lt_i, ih (k + 1) _ (by omega), Int32.or_assoc, nI_1]
        · rw [if_neg c3, if_neg c3, Int32.or_zero]
theorem mir_e (X : xS) (p : Nat) (S : Int32) : ∀ n, x0_mirrored_L4 X p S n = orN (fun k => if sF_has S (X p 0 - 1 - nI k) = 0 then 0 else 1 <<< (nI k &&& 31)) n := by
  intro n
  induction n with
  | zero => rfl
  | succ n ih =>
    rw [x0_mirrored_L4_s]
    simp only [lt_i]
    rw [ih, has_e]
    show _ = orN _ n ||| (if sF_has S (X p 0 - 1 - nI n) = 0 then (0 : Int32) else 1 <<< (nI n &&& 31))
    by_cases c : sF_has S (X p 0 - 1 - nI n) = 0
    · rw [if_pos c, if_pos c, Int32.or_zero]
    · rw [if_neg c, if_neg c]
theorem L131_e (M : mS) (q : Nat) (V : Int32) (n : Nat) (h3 : M 1 3 = nI n) (hn : n < 2 ^ 31) (h5 : mF_its M q 0 = 5) : ∀ (f k : Nat) (S : Int32), k ≤ n → n - k < f → (mF_seesOf_L131 M q V f k S).2 = S ||| orN (fun j => if sF_has V (nI (k + j)) = 0 then 0 else 1 <<< ((nI n - 1 - nI (k + j)) &&& 31)) (n - k) := by
  intro f
  induction f with
  | zero => intro k S _ h; exact absurd h (Nat.not_lt_zero _)
  | succ f ih =>
    intro k S hk hf
    rw [mF_seesOf_L131_s, h3, if_pos h5]
    by_cases c : nI n ≤ nI k
    · rw [if_pos c]
      rw [nI_leI hn (by omega)] at c
      rw [show n - k = 0 by omega]
      show S = S ||| 0
      rw [Int32.or_zero]
    · rw [if_neg c]
      rw [nI_leI hn (by omega)] at c
      simp only [lt_i]
      rw [ih (k + 1) _ (by omega) (by omega), show n - k = n - (k + 1) + 1 by omega, ← orN_sh, Int32.or_assoc]
      congr 2
      apply orN_eq
      intro j _
      show (if sF_has V (nI (k + 1 + j)) = 0 then (0 : Int32) else _) = if sF_has V (nI (k + (j + 1))) = 0 then 0 else _
      rw [show k + 1 + j = k + (j + 1) by omega]
/-- what one sees: the two are alike -/
theorem vw_e {X : xS} {p i q : Nat} {M : mS} (h0 : X p 0 = M 1 3) (hC : cOK M) (h4 : X (p + 4) i = M 1 (32 + 4 * q + 0)) (ha : aN M q < 10) : x0_viewFrom X p i (aN M q) (mF_sight M q) (M 1 9) = mF_seesOf M q := by
  obtain ⟨c1, c2, c3⟩ := hC
  unfold x0_viewFrom mF_seesOf
  simp only [lt_i, lt2_i]
  have e1 := L10_e (aN M q) (mF_sight M q) (M 1 9) fu11 (aN M q) (1 <<< (nI (aN M q) &&& 31)) (by show _ < 11; omega) (by omega)
  have e2 := fun S => L53_e X p (aN M q) (vn (M 1 3)) (mF_sight M q) (M 1 9) (h0.trans c1) (by omega) (by omega) fu11 (aN M q) S (by show _ + 11 < _; omega)
  have e3 := fun S => L21_e M q (mF_sight M q) fu11 (aN M q) S
  have e4 := fun S => L77_e M q (mF_sight M q) fu11 (aN M q) S (by show _ < 11; omega) (by omega)
  rw [e1, e2, e3, e4, ← c1]
  have e5 : 1 <<< (nI (aN M q) &&& 31) ||| lbits (nI (aN M q) - mF_sight M q) (M 1 9) (aN M q) ||| rbits (M 1 3 - 1) (nI (aN M q) + mF_sight M q) (M 1 9) fu11 (aN M q) = 1 <<< (nI (aN M q) &&& 31) ||| rbits (M 1 3 - 1) (nI (aN M q) + mF_sight M q) (M 1 9) fu11 (aN M q) ||| lbits (nI (aN M q) - mF_sight M q) (M 1 9) (aN M q) := by
    rw [Int32.or_assoc, Int32.or_comm (lbits _ _ _), ← Int32.or_assoc]
  rw [e5]
  generalize 1 <<< (nI (aN M q) &&& 31) ||| rbits (M 1 3 - 1) (nI (aN M q) + mF_sight M q) (M 1 9) fu11 (aN M q) ||| lbits (nI (aN M q) - mF_sight M q) (M 1 9) (aN M q) = S
  rw [h4]
  by_cases h5 : M 1 (32 + 4 * q + 0) = 5
  · rw [if_pos h5, L131_e M q S (vn (M 1 3)) c1 (by omega) h5 fu11 0 S (Nat.zero_le _) (by show _ < 11; omega)]
    unfold x0_mirrored
    rw [lt_i, mir_e, h0, ← orN_rev]
    rw [Nat.sub_zero]
    congr 1
    apply orN_eq
    intro k hk
    show (if sF_has S (M 1 3 - 1 - nI (vn (M 1 3) - 1 - k)) = 0 then (0 : Int32) else 1 <<< (nI (vn (M 1 3) - 1 - k) &&& 31)) = if sF_has S (nI (0 + k)) = 0 then (0 : Int32) else 1 <<< ((nI (vn (M 1 3)) - 1 - nI (0 + k)) &&& 31)
    have g1 : M 1 3 - 1 - nI (vn (M 1 3) - 1 - k) = nI (0 + k) := by
      rw [c1, show (1 : Int32) = nI 1 from rfl, pk_sub (by omega), vn_nI (by omega), pk_sub (by omega)]
      congr 1
      omega
    have g2 : nI (vn (M 1 3)) - 1 - nI (0 + k) = nI (vn (M 1 3) - 1 - k) := by
      rw [show (1 : Int32) = nI 1 from rfl, pk_sub (by omega), pk_sub (by omega)]
      congr 1
      omega
    rw [g1, g2]
  · rw [if_neg h5]
    show S = (mF_seesOf_L131 M q S (10 + 1) 0 S).2
    rw [mF_seesOf_L131_s]
    by_cases c : M 1 3 ≤ nI 0
    · rw [if_pos c]
    · rw [if_neg c, if_neg (show ¬ mF_its M q 0 = 5 from h5)]
