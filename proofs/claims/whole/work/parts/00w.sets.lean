/-! acts: sets -/
def pc : Nat → Nat → Nat
  | 0, _ => 0
  | f + 1, n => n % 2 + pc f (n / 2)
theorem pc_b : ∀ w, w < 1024 → p6_bitCount_0f7a4 (nI w) = nI (pc 10 w) ∧ sF_bits (nI w) = nI (pc 10 w) := by decide +kernel
theorem pc_le : ∀ f n, pc f n ≤ f := by
  intro f
  induction f with
  | zero => intro n; exact Nat.le_refl _
  | succ f ih =>
    intro n
    have h1 := ih (n / 2)
    have h2 := Nat.mod_lt n (show 0 < 2 by decide)
    show n % 2 + pc f (n / 2) ≤ f + 1
    omega
theorem pc_and : ∀ f n m, pc f (n &&& m) ≤ pc f n := by
  intro f
  induction f with
  | zero => intro n m; exact Nat.le_refl _
  | succ f ih =>
    intro n m
    show (n &&& m) % 2 + pc f ((n &&& m) / 2) ≤ n % 2 + pc f (n / 2)
    have e1 : (n &&& m) / 2 = (n / 2) &&& (m / 2) := Nat.and_div_two
    have e2 : (n &&& m) % 2 ≤ n % 2 := by
      have h : (n &&& m) % 2 = (n % 2) &&& (m % 2) := by
        have := Nat.and_mod_two_pow (a := n) (b := m) (n := 1)
        exact this
      rw [h]
      exact Nat.and_le_left
    have h3 := ih (n / 2) (m / 2)
    rw [e1]
    omega
/-- fewer: both count alike -/
theorem few_e {s b : Nat} (hs : s < 1024) (hb : b < 1024) : p8_isFewer (nI s) (nI b) = if pc 10 b ≤ pc 10 s then 0 else 1 := by
  unfold p8_isFewer
  rw [if_neg (nI_nlt0 (by omega)), (pc_b s hs).1, (pc_b b hb).1]
  have h1 := pc_le 10 s
  have h2 := pc_le 10 b
  by_cases c : pc 10 b ≤ pc 10 s
  · rw [if_pos c, if_pos (nI_le c (by omega))]
  · rw [if_neg c, if_neg (by rw [nI_leI (by omega) (by omega)]; exact c)]
theorem few_m (s : Int32) : p8_isFewer s (-1) = 1 := by unfold p8_isFewer; rw [if_pos (by decide)]
theorem bits_le {s b : Nat} (hs : s < 1024) (hb : b < 1024) : (sF_bits (nI b) ≤ sF_bits (nI s)) ↔ pc 10 b ≤ pc 10 s := by
  rw [(pc_b s hs).2, (pc_b b hb).2]
  have h1 := pc_le 10 s
  have h2 := pc_le 10 b
  exact nI_leI (by omega) (by omega)
/-! sums -/
theorem sum_e {n : Nat} {tt : tT} {X : xS} {M : mS} (h : INV n tt X M) (s : Int32) : x0_grainsIn X 1 s = mF_sums_L54 M s (vn (M 1 3)) := by
  unfold x0_grainsIn
  rw [lt_i, (eN_f (INV_eE h).1).1]
  have h10 := (INV_R h).1.2.2
  have hL : ∀ k, k ≤ vn (M 1 3) → x0_grainsIn_L4 X 1 s k = mF_sums_L54 M s k := by
    intro k
    induction k with
    | zero => intro _; rfl
    | succ k ih =>
      intro hk
      rw [x0_grainsIn_L4_s, mF_sums_L54_s]
      simp only [lt_i]
      rw [ih (by omega), has_e, (eN_g (INV_eE h).1 (c := k) (by omega)).1]
      by_cases c : sF_has s (nI k) = 0
      · rw [if_pos c, if_pos c, Int32.add_zero]
      · rw [if_neg c, if_neg c]
  exact hL _ (Nat.le_refl _)
/-- many and least of the two, alike -/
def mlR (f : Nat) (l m l2 m2 : Int32) : Prop := ∃ k, k + f ≤ 2000 ∧ m = nI k ∧ m2 = nI k ∧ ((k = 0 ∧ l = -1) ∨ (0 < k ∧ ∃ w, w < 2 ^ 31 ∧ l = nI w ∧ l2 = nI w))
theorem sums_LR {n : Nat} {tt : tT} {X : xS} {M : mS} (h : INV n tt X M) (v : Int32) : ∀ (f : Nat) (s l m l2 m2 : Int32), (s < 0 ∨ ∃ w, w < 2 ^ 31 ∧ s = nI w) → mlR f l m l2 m2 → mlR 0 (x8_sums_L43 X v f s l m).2.1 (x8_sums_L43 X v f s l m).2.2 (mF_sums_L43 M v f s l2 m2).2.1 (mF_sums_L43 M v f s l2 m2).2.2 := by
  intro f
  induction f with
  | zero =>
    intro s l m l2 m2 _ hr
    exact hr
  | succ f ih =>
    intro s l m l2 m2 hs hr
    obtain ⟨k, k1, k2, k3, k4⟩ := hr
    rw [x8_sums_L43_s, mF_sums_L43_s]
    by_cases c : s < 0
    · simp only [if_pos c]
      exact ⟨k, by omega, k2, k3, k4⟩
    · simp only [if_neg c, lt_i, lt2_i]
      obtain ⟨w, w1, w2⟩ := hs.resolve_left c
      have hs2 : s + (-1) < 0 ∨ ∃ w, w < 2 ^ 31 ∧ s + (-1) = nI w := by
        rw [w2, ← Int32.sub_eq_add_neg]
        cases w with
        | zero => exact Or.inl (by decide)
        | succ w => exact Or.inr ⟨w, by omega, nI_p1 w⟩
      rw [sum_e h]
      by_cases c2 : mF_sums_L54 M s (vn (M 1 3)) = v
      · simp only [if_pos c2]
        refine ih _ _ _ _ _ hs2 ⟨k + 1, by omega, ?_, ?_, Or.inr ⟨by omega, w, w1, w2, w2⟩⟩
        · rw [k2, nI_1]
        · rw [k3, nI_1]
      · simp only [if_neg c2]
        exact ih _ _ _ _ _ hs2 ⟨k, by omega, k2, by rw [k3, Int32.add_zero], k4⟩
theorem ml_e {n : Nat} {tt : tT} {X : xS} {M : mS} (h : INV n tt X M) {l m l2 m2 w : Int32} (hr : mlR 0 l m l2 m2) (hw : ¬ sF_in w 0 1 = 0) : AL n tt (x8_manyOrLeast X w m l) (if w = 1 then (if m2 = 0 then mF_errs M (-1000000002) else (if w = 0 then (m2, M) else (l2, M))) else (if w = 0 then (m2, M) else (l2, M))) := by
  obtain ⟨k, k1, k2, k3, k4⟩ := hr
  unfold x8_manyOrLeast
  rw [lt2_p]
  obtain ⟨w1, w2⟩ := in_nat (n := 1) hw ⟨rfl, by decide⟩
  rcases (show vn w = 0 ∨ vn w = 1 by omega) with e | e <;> rw [e] at w1
  · have w0 : w = 0 := w1
    subst w0
    simp only [if_true, reduceIte, if_neg (show ¬ (0 : Int32) = 1 by decide)]
    exact AL_mk (k2.trans k3.symm) h
  · have w0 : w = 1 := w1
    subst w0
    simp only [if_true, reduceIte, if_neg (show ¬ (1 : Int32) = 0 by decide)]
    rcases k4 with ⟨a, b⟩ | ⟨a, z, z1, z2, z3⟩
    · rw [b, if_neg (by decide), k3, a, if_pos (show nI 0 = 0 from rfl)]; exact er2 h
    · rw [z2, if_pos (nI_ge0 z1), k3, if_neg (by rw [show (0 : Int32) = nI 0 from rfl, nI_eq (by omega) (by decide)]; omega)]
      exact AL_mk z3.symm h
theorem p2w : ∀ k, k ≤ 10 → (1 : Int32) <<< (nI k &&& 31) - 1 = nI (2 ^ k - 1) ∧ 2 ^ k ≤ 1024 := by decide
theorem sums_e {n : Nat} {tt : tT} {X : xS} {M : mS} (h : INV n tt X M) (v w : Int32) : AL n tt (x8_sums X v w) (mF_sums M v w) := by
  unfold x8_sums mF_sums
  simp only [lt_i, lt2_p, lt3_i]
  by_cases c1 : sF_in v 0 999999 = 0
  · rw [if_pos (show p8_within v 0 999999 = 0 from c1), if_pos c1]; exact er1 h
  rw [if_neg (show ¬ p8_within v 0 999999 = 0 from c1), if_neg c1]
  by_cases c2 : sF_in w 0 1 = 0
  · rw [if_pos (show p8_within w 0 1 = 0 from c2), if_pos c2]; exact er1 h
  rw [if_neg (show ¬ p8_within w 0 1 = 0 from c2), if_neg c2, (eN_f (INV_eE h).1).1]
  obtain ⟨d1, d2, d3⟩ := (INV_R h).1
  have hp := p2w (vn (M 1 3)) d3
  have hr := sums_LR h v (2 ^ vn (M 1 3) + 1) (nI (2 ^ vn (M 1 3) - 1)) (-1) 0 0 0 (Or.inr ⟨_, by omega, rfl⟩) ⟨0, by omega, rfl, rfl, Or.inl ⟨rfl, rfl⟩⟩
  have hx : (1 : Int32) <<< (M 1 3 &&& 31) - 1 = nI (2 ^ vn (M 1 3) - 1) := by
    have := hp.1
    rw [← d1] at this
    exact this
  rw [hx]
  exact ml_e h hr c2
/-! looked, watch -/
theorem la_at {n : Nat} {tt : tT} {X : xS} {M : mS} (h : INV n tt X M) : ∀ k, k ≤ vn (M 1 8) → (∀ j, j < k → x8_lookAround_L2 tt X k 60 j = mF_looks_L2 M k 12 j) := by
  intro k
  induction k with
  | zero => intro _ j hj; exact absurd hj (Nat.not_lt_zero _)
  | succ k ih =>
    intro hk j hj
    rw [x8_lookAround_L2_s, mF_looks_L2_s]
    simp only [lt_i]
    have hn := n8 h
    have hP := (INV_R h).2.1
    have r1 := lk_row M k 1 (by decide)
    have hE : eE 8 tt (x8_lookAround_L2 tt X k) 1 (mF_looks_L2 M k) := eE_row (INV_eE h) (fun a _ _ _ => la_L2 tt X k a (by omega)) r1 hP
    have hs := seenBy_e (i := k) hE (rOK_row r1 (INV_R h)) (by rw [la_L2 tt X k 1 (by decide), hn.1]; omega)
    rw [sk8 (by have := hP.2; omega)] at hs
    rw [hs, mU_sm, mU_sm]
    by_cases e : j = k
    · rw [if_pos e, if_pos e]
    · rw [if_neg e, if_neg e]; exact ih (by omega) j (by omega)
theorem lkd {n : Nat} {tt : tT} {X : xS} {M : mS} (h : INV n tt X M) : INV n tt (x8_lookAround tt X) (mF_looks M) ∧ ∀ j, j < vn (M 1 8) → x8_lookAround tt X 60 j = mF_looks M 12 j := by
  have hn := n8 h
  refine ⟨INV_c h (fun p _ _ _ _ _ h60 => la_row tt X p h60) (fun x _ => by rw [lk_e]; rw [lk_row M _ 1 (by decide)]) (fun i _ _ _ _ _ _ h12 => by rw [lk_e]; exact lk_row M _ i h12), fun j hj => ?_⟩
  unfold x8_lookAround
  rw [lt_i, lk_e, hn.1]
  exact la_at h _ (Nat.le_refl _) j hj
theorem grw_L {n : Nat} {tt : tT} {X : xS} {M : mS} (h : INV n tt X M) (hv : ∀ j, j < vn (M 1 8) → X 60 j = M 12 j) (s : Int32) (c : Nat) : ∀ k, k ≤ vn (M 1 8) → x8_growsAs_L27 X s c k = mF_grows_L26 M s c k := by
  intro k
  induction k with
  | zero => intro _; rfl
  | succ k ih =>
    intro hk
    have hn := n8 h
    have hP := (INV_R h).2.1
    rw [x8_growsAs_L27_s, mF_grows_L26_s]
    simp only [lt_i]
    have hc := counts_e (i := k) (INV_eE h).1 (by rw [hn.1]; omega)
    rw [sk8 (by have := hP.2; omega)] at hc
    rw [ih (by omega), has_e, has_e, hv k (by omega), show p1_countsOf (X 5 k) (X 6 k) = mF_counts M k from hc]
    by_cases c1 : sF_has s (nI k) = 0
    · rw [if_pos c1, if_pos c1, Int32.add_zero]
    · rw [if_neg c1, if_neg c1]
      by_cases c2 : sF_has (M 12 k) (nI c) = 0
      · rw [if_pos c2, if_pos c2, Int32.add_zero]
      · rw [if_neg c2, if_neg c2]
theorem grw_e {n : Nat} {tt : tT} {X : xS} {M : mS} (h : INV n tt X M) (hv : ∀ j, j < vn (M 1 8) → X 60 j = M 12 j) {s : Nat} (hs : s < 4) (h9 : M 9 s = M 1 3) (set : Int32) : ∀ (f g k : Nat), k ≤ vn (M 1 3) → vn (M 1 3) - k < f → vn (M 1 3) - k < g → x8_growsAs_L2 X (51 + 2 * s) set (fun _ => 1) f k = (mF_grows_L5 M s set g k 1).2 := by
  intro f
  induction f with
  | zero => intro g k _ h; exact absurd h (Nat.not_lt_zero _)
  | succ f ih =>
    intro g k hk hf hg
    cases g with
    | zero => exact absurd hg (Nat.not_lt_zero _)
    | succ g =>
      obtain ⟨d1, d2, d3⟩ := (INV_R h).1
      obtain ⟨a1, a2, a3, a5⟩ := h.2.2.2.2.2.1 s hs
      rw [x8_growsAs_L2_s, mF_grows_L5_s, (eN_f (INV_eE h).1).1, a2, h9]
      by_cases c : M 1 3 ≤ nI k
      · simp only [if_pos c]
      · simp only [if_neg c, if_neg (show ¬ (1 : Int32) = 0 by decide), lt_i]
        have c' := c
        rw [d1, nI_leI (by omega) (by omega)] at c'
        rw [(n8 h).1, grw_L h hv set k _ (Nat.le_refl _), show X (51 + 2 * s + 1) k = M 10 (40 * s + k) by rw [show 51 + 2 * s + 1 = 52 + 2 * s by omega]; exact a5 k (by omega)]
        by_cases c2 : mF_grows_L26 M set k (vn (M 1 8)) / 2 = M 10 (40 * s + k)
        · simp only [if_pos c2]
          exact ih g (k + 1) (by omega) (by omega) (by omega)
        · simp only [if_neg c2]
          cases g with
          | zero => exact absurd hg (by omega)
          | succ g =>
            rw [mF_grows_L5_s]
            by_cases c3 : M 1 3 ≤ nI (k + 1)
            · rw [if_pos c3]
            · rw [if_neg c3, if_pos rfl]
theorem lok_LR {n : Nat} {tt : tT} {X : xS} {M : mS} (h : INV n tt X M) (hv : ∀ j, j < vn (M 1 8) → X 60 j = M 12 j) {u : Int32} (hs : vn u < 4) (h9 : M 9 (vn u) = M 1 3) : ∀ (f : Nat) (s l m l2 m2 : Int32), (s < 0 ∨ ∃ w, w < 2 ^ 31 ∧ s = nI w) → mlR f l m l2 m2 → mlR 0 (x8_looked_L81 u X f s l m).2.1 (x8_looked_L81 u X f s l m).2.2 (mF_looked_L76 u M f s l2 m2).2.1 (mF_looked_L76 u M f s l2 m2).2.2 := by
  intro f
  induction f with
  | zero =>
    intro s l m l2 m2 _ hr
    exact hr
  | succ f ih =>
    intro s l m l2 m2 hs2 hr
    obtain ⟨k, k1, k2, k3, k4⟩ := hr
    rw [x8_looked_L81_s, mF_looked_L76_s]
    by_cases c : s < 0
    · simp only [if_pos c]
      exact ⟨k, by omega, k2, k3, k4⟩
    · simp only [if_neg c, lt_i, lt2_i]
      obtain ⟨w, w1, w2⟩ := hs2.resolve_left c
      have hs3 : s + (-1) < 0 ∨ ∃ w, w < 2 ^ 31 ∧ s + (-1) = nI w := by
        rw [w2, ← Int32.sub_eq_add_neg]
        cases w with
        | zero => exact Or.inl (by decide)
        | succ w => exact Or.inr ⟨w, by omega, nI_p1 w⟩
      have hg : x8_growsAs X (51 + 2 * vn u) s = mF_grows M (vn u) s := by
        unfold x8_growsAs mF_grows
        rw [lt2_i]
        have h10 := (INV_R h).1.2.2
        exact grw_e h hv hs h9 s 11 fu11 0 (Nat.zero_le _) (by omega) (by show _ < 11; omega)
      rw [hg]
      by_cases c2 : mF_grows M (vn u) s = 0
      · simp only [if_pos c2]
        exact ih _ _ _ _ _ hs3 ⟨k, by omega, k2, k3, k4⟩
      · simp only [if_neg c2]
        refine ih _ _ _ _ _ hs3 ⟨k + 1, by omega, ?_, ?_, Or.inr ⟨by omega, w, w1, w2, w2⟩⟩
        · rw [k2, nI_1]
        · rw [k3, nI_1]
theorem looked_e {n : Nat} {tt : tT} {X : xS} {M : mS} (h : INV n tt X M) (s w : Int32) : AL n tt (x8_looked tt X s w) (mF_looked M s w) := by
  unfold x8_looked mF_looked p8_isSheet
  simp only [lt_i, lt2_p, lt3_i]
  by_cases c0 : sF_isSheet s = 0
  · rw [if_pos (show p8_within s 0 3 = 0 from c0), if_pos c0]; exact er1 h
  rw [if_neg (show ¬ p8_within s 0 3 = 0 from c0), if_neg c0]
  by_cases c2 : sF_in w 0 1 = 0
  · rw [if_pos (show p8_within w 0 1 = 0 from c2), if_pos c2]; exact er1 h
  rw [if_neg (show ¬ p8_within w 0 1 = 0 from c2), if_neg c2]
  obtain ⟨w1, w2⟩ := shs c0
  obtain ⟨s1, s2, ⟨z, s3, s4⟩, s5⟩ := h.2.2.2.2.2.1 (vn s) w2
  by_cases c1 : M 8 (vn s) = 0
  · rw [if_neg (fun e => (mis_e _ _).mp e (s1.trans c1)), if_pos c1]; exact er2 h
  rw [if_pos ((mis_e _ _).mpr (fun e => c1 (s1.symm.trans e))), if_neg c1, s2, (eN_f (INV_eE h).1).1]
  rcases Decidable.em (¬ M 9 (vn s) = M 1 3) with c3 | c3
  · rw [if_neg c3, if_neg c3]; exact er2 h
  have c3 := Decidable.not_not.mp c3
  rw [if_pos c3, if_pos c3]
  obtain ⟨l1, l2⟩ := lkd h
  have hP := (INV_R h).2.1
  have e1 : mF_looks M 1 = M 1 := by rw [lk_e]; exact lk_row M _ 1 (by decide)
  have hn2 := n8 l1
  rw [e1] at hn2
  have hp := p2w (vn (M 1 8)) (by have := hP.2; omega)
  have hr := lok_LR l1 (fun j hj => l2 j (by rw [e1] at hj; exact hj)) (u := s) w2 (by rw [e1, lk_e, lk_row M _ 9 (by decide)]; exact c3) (2 ^ vn (M 1 8) + 1) (nI (2 ^ vn (M 1 8) - 1)) (-1) 0 0 0 (Or.inr ⟨_, by omega, rfl⟩) ⟨0, by omega, rfl, rfl, Or.inl ⟨rfl, rfl⟩⟩
  have hx : (1 : Int32) <<< (M 1 8 &&& 31) - 1 = nI (2 ^ vn (M 1 8) - 1) := by
    have := hp.1
    rw [← hP.1] at this
    exact this
  rw [hn2.2, hx, e1, hx]
  exact ml_e l1 hr c2
theorem sto_e {n : Nat} {tt : tT} {X : xS} {M : mS} (h : INV n tt X M) (hv : ∀ j, j < vn (M 1 8) → X 60 j = M 12 j) (s : Nat) : x8_seenTogether X (nI s) = mF_watch_L26 M s (vn (M 1 8)) := by
  unfold x8_seenTogether
  rw [lt_i, (n8 h).1]
  have hL : ∀ k, k ≤ vn (M 1 8) → x8_seenTogether_L4 X (nI s) k = mF_watch_L26 M s k := by
    intro k
    induction k with
    | zero => intro _; rfl
    | succ k ih =>
      intro hk
      rw [x8_seenTogether_L4_s, mF_watch_L26_s]
      simp only [lt_i]
      rw [ih (by omega), has_e, hv k (by omega)]
      by_cases c : sF_has (nI s) (nI k) = 0
      · rw [if_pos c, if_pos c, Int32.or_zero]
      · rw [if_neg c, if_neg c]
  exact hL _ (Nat.le_refl _)
theorem wat_L {n : Nat} {tt : tT} {X : xS} {M N : mS} (h : INV n tt X M) (hv : ∀ j, j < vn (M 1 8) → X 60 j = M 12 j) (hN : N 1 = M 1) : ∀ k, k ≤ 1024 → x8_watch_L20 X ((1 <<< (M 1 3 &&& 31)) - 1) k = mF_watch_L8 N M k ∧ (mF_watch_L8 N M k = -1 ∨ ∃ b, b < k ∧ mF_watch_L8 N M k = nI b) := by
  intro k
  induction k with
  | zero => intro _; exact ⟨rfl, Or.inl rfl⟩
  | succ k ih =>
    intro hk
    obtain ⟨i1, i2⟩ := ih (by omega)
    rw [x8_watch_L20_s, mF_watch_L8_s]
    simp only [lt_i]
    rw [i1, sto_e h hv, hN]
    by_cases c : mF_watch_L26 M k (vn (M 1 8)) = (1 <<< (M 1 3 &&& 31)) - 1
    · simp only [if_pos c]
      rcases i2 with e | ⟨b, b1, b2⟩
      · rw [e, few_m, if_neg (by decide), if_pos (by decide)]
        exact ⟨rfl, Or.inr ⟨k, by omega, rfl⟩⟩
      · rw [b2, few_e (by omega) (by omega), if_neg (nI_nlt0 (by omega))]
        by_cases c2 : pc 10 b ≤ pc 10 k
        · rw [if_pos c2, if_pos rfl, if_pos ((bits_le (by omega) (by omega)).mpr c2)]
          exact ⟨rfl, Or.inr ⟨b, by omega, rfl⟩⟩
        · rw [if_neg c2, if_neg (by decide), if_neg (fun w => c2 ((bits_le (by omega) (by omega)).mp w))]
          exact ⟨rfl, Or.inr ⟨k, by omega, rfl⟩⟩
    · simp only [if_neg c, ite_self]
      refine ⟨trivial, ?_⟩
      rcases i2 with e | ⟨b, b1, b2⟩
      · exact Or.inl e
      · exact Or.inr ⟨b, by omega, b2⟩
theorem watch_e {n : Nat} {tt : tT} {X : xS} {M : mS} (h : INV n tt X M) : AL n tt (x8_watch tt X) (mF_watch M) := by
  unfold x8_watch mF_watch
  simp only [lt_i, lt2_p]
  obtain ⟨l1, l2⟩ := lkd h
  have e1 : mF_looks M 1 = M 1 := by rw [lk_e]; exact lk_row M _ 1 (by decide)
  have hP := (INV_R h).2.1
  have hp := p2w (vn (M 1 8)) (by have := hP.2; omega)
  have hn2 := n8 l1
  rw [e1] at hn2
  have w := wat_L (N := M) l1 (fun j hj => l2 j (by rw [e1] at hj; exact hj)) e1.symm (2 ^ vn (M 1 8)) hp.2
  rw [hn2.1, (eN_f (INV_eE l1).1).1, w.1]
  by_cases c : 0 ≤ mF_watch_L8 M (mF_looks M) (2 ^ vn (M 1 8))
  · rw [if_pos c, if_pos c]; exact AL_mk rfl l1
  · rw [if_neg c, if_neg c]; exact er2 l1
