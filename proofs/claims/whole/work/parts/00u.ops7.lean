/-! acts: weeds, judge, what is told of cells and people -/
theorem mn_v {a b : Nat} (ha : a ≤ 40) (hb : b ≤ 40) : (if nI a < nI b then nI a else nI b) = nI (min a b) := by
  by_cases c : nI a < nI b
  · rw [if_pos c]; rw [nI_ltI (by omega) (by omega)] at c; rw [Nat.min_eq_left (by omega)]
  · rw [if_neg c]; rw [nI_ltI (by omega) (by omega)] at c; rw [Nat.min_eq_right (by omega)]
theorem wee_L {n : Nat} {tt : tT} {s : Int32} {z cn : Nat} (hs : vn s < 4) (hz : z ≤ 40) (hcn : cn ≤ 10) (h3 : 3 ≤ cn) : ∀ (f g k : Nat) (X : xS) (M : mS), INV n tt X M → M 9 (vn s) = nI z → M 1 3 = nI cn → k ≤ min cn z → min cn z - k < f → min cn z - k < g → AL n tt (x8_weeds_L51 s (nI (min cn z)) (fun (_ : Nat) (Y : xS) => (nI (min cn z), Y)) f k X) (nI (mF_weeds_L32 s g k M).1, (mF_weeds_L32 s g k M).2) := by
  intro f
  induction f with
  | zero => intro g k X M _ _ _ _ h; exact absurd h (Nat.not_lt_zero _)
  | succ f ih =>
    intro g k X M h hM9 hM3 hk hf hg
    cases g with
    | zero => exact absurd hg (Nat.not_lt_zero _)
    | succ g =>
      rw [x8_weeds_L51_s, mF_weeds_L32_s]
      have hmc : min cn z ≤ cn := Nat.min_le_left _ _
      have hmz : min cn z ≤ z := Nat.min_le_right _ _
      by_cases c : k = min cn z
      · rw [if_pos (show nI (min cn z) ≤ nI k by rw [c]; exact Int32.le_refl _)]
        by_cases c2 : M 9 (vn s) ≤ nI k
        · rw [if_pos c2]; exact AL_mk (by rw [c]) h
        · rw [if_neg c2]
          rw [hM9, nI_leI (by omega) (by omega)] at c2
          have hkc : k = cn := by
            rcases Nat.le_total cn z with w | w
            · rw [c, Nat.min_eq_left w]
            · rw [Nat.min_eq_right w] at c; omega
          have c3 : mF_isCell M (nI k) = 0 := by
            unfold mF_isCell sF_in
            rw [hM3, if_neg (nI_nlt0 (by omega)), if_pos]
            rw [show (1 : Int32) = nI 1 from rfl, pk_sub (by omega), nI_ltI (by omega) (by omega)]; omega
          rw [if_pos c3]; exact AL_mk (by rw [c]) h
      · have hlt : k < min cn z := by omega
        rw [if_neg (show ¬ nI (min cn z) ≤ nI k by rw [nI_leI (by omega) (by omega)]; omega), if_neg (show ¬ M 9 (vn s) ≤ nI k by rw [hM9, nI_leI (by omega) (by omega)]; omega)]
        have c3 : ¬ mF_isCell M (nI k) = 0 := by
          unfold mF_isCell sF_in
          rw [hM3, if_neg (nI_nlt0 (by omega)), if_neg]
          · decide
          · rw [show (1 : Int32) = nI 1 from rfl, pk_sub (by omega), nI_ltI (by omega) (by omega)]; omega
        rw [if_neg c3]
        obtain ⟨a1, a2, a3, a5⟩ := h.2.2.2.2.2.1 (vn s) hs
        have e : X (51 + 2 * vn s + 1) k = M 10 (40 * vn s + k) := by
          rw [show 51 + 2 * vn s + 1 = 52 + 2 * vn s by omega]; exact a5 k (by omega)
        rw [e, in_e]
        by_cases c4 : sF_in (M 10 (40 * vn s + k)) 0 99 = 0
        · rw [if_pos c4, if_pos c4]; exact AL_mk rfl h
        · rw [if_neg c4, if_neg c4]
          simp only [lt_i]
          obtain ⟨w1, w2⟩ := in_nat (n := 99) c4 ⟨rfl, by decide⟩
          have h2 : INV n tt (mU X 3 k (M 10 (40 * vn s + k))) (mU M 1 (22 + k) (M 10 (40 * vn s + k))) := up_e h (Or.inr (Or.inl ⟨by omega, Or.inr ⟨rfl, rfl⟩⟩)) _ (rOK_up (INV_R h) (by omega) (by omega) (by omega) (by omega) (fun q _ => by omega) (fun q _ => by omega)) (by rw [w1]; exact gOK_w (gX h) (by omega) w2) (eA_o (aX h) (by decide))
          exact ih g (k + 1) _ _ h2 (by rw [mU_row (by decide)]; exact hM9) (by rw [mU_ne (by omega)]; exact hM3) (by omega) (by omega) (by omega)
theorem weeds_e {n : Nat} {tt : tT} {X : xS} {M : mS} (h : INV n tt X M) (s : Int32) : AL n tt (x8_weeds X s) (mF_weeds M s) := by
  unfold x8_weeds mF_weeds p8_isSheet
  simp only [lt_i, lt2_i]
  by_cases c0 : sF_isSheet s = 0
  · rw [if_pos (show p8_within s 0 3 = 0 from c0), if_pos c0]; exact er1 h
  rw [if_neg (show ¬ p8_within s 0 3 = 0 from c0), if_neg c0]
  obtain ⟨w1, w2⟩ := shs c0
  obtain ⟨s1, s2, ⟨z, s3, s4⟩, s5⟩ := h.2.2.2.2.2.1 (vn s) w2
  by_cases c1 : M 8 (vn s) = 0
  · rw [if_neg (fun e => (mis_e _ _).mp e (s1.trans c1)), if_pos c1]; exact er2 h
  rw [if_pos ((mis_e _ _).mpr (fun e => c1 (s1.symm.trans e))), if_neg c1]
  obtain ⟨d1, d2, d3⟩ := (INV_R h).1
  have f0 := (eN_f (INV_eE h).1).1
  rw [f0, s2, s4, d1, mn_v (by omega) s3]
  have hle : min (vn (M 1 3)) z ≤ 10 := by have := Nat.min_le_left (vn (M 1 3)) z; omega
  rw [vn_nI (n := min (vn (M 1 3)) z) (by omega)]
  exact wee_L w2 s3 d3 d2 _ fu11 0 X M h s4 d1 (Nat.zero_le _) (by omega) (by show _ < 11; omega)
theorem jud_L {n : Nat} {tt : tT} {s : Int32} {z cn : Nat} {X : xS} {M : mS} (h : INV n tt X M) (hs : vn s < 4) (hz : z ≤ 40) (hcn : cn ≤ 10) (hM9 : M 9 (vn s) = nI z) (hM3 : M 1 3 = nI cn) {K : Nat → Int32 × xS} : ∀ (f g k : Nat), k ≤ min cn z → min cn z - k < f → min cn z - k < g → ((mF_judge_L32 M s g k = min cn z ∧ x8_judge_L51 X s (nI (min cn z)) K f k = K (min cn z)) ∨ (mF_judge_L32 M s g k < min cn z ∧ x8_judge_L51 X s (nI (min cn z)) K f k = (nI (mF_judge_L32 M s g k), X))) := by
  intro f
  induction f with
  | zero => intro g k _ h; exact absurd h (Nat.not_lt_zero _)
  | succ f ih =>
    intro g k hk hf hg
    cases g with
    | zero => exact absurd hg (Nat.not_lt_zero _)
    | succ g =>
      rw [x8_judge_L51_s, mF_judge_L32_s]
      have hmc : min cn z ≤ cn := Nat.min_le_left _ _
      have hmz : min cn z ≤ z := Nat.min_le_right _ _
      by_cases c : k = min cn z
      · rw [if_pos (show nI (min cn z) ≤ nI k by rw [c]; exact Int32.le_refl _)]
        refine Or.inl ⟨?_, by rw [c]⟩
        by_cases c2 : M 1 3 ≤ nI k
        · rw [if_pos c2, c]
        · rw [if_neg c2]
          rw [hM3, nI_leI (by omega) (by omega)] at c2
          rw [if_pos, c]
          rw [hM9, nI_leI (by omega) (by omega)]
          rcases Nat.le_total cn z with w | w
          · rw [Nat.min_eq_left w] at c; omega
          · rw [Nat.min_eq_right w] at c; omega
      · rw [if_neg (show ¬ nI (min cn z) ≤ nI k by rw [nI_leI (by omega) (by omega)]; omega), if_neg (show ¬ M 1 3 ≤ nI k by rw [hM3, nI_leI (by omega) (by omega)]; omega), if_neg (show ¬ M 9 (vn s) ≤ nI k by rw [hM9, nI_leI (by omega) (by omega)]; omega)]
        obtain ⟨a1, a2, a3, a5⟩ := h.2.2.2.2.2.1 (vn s) hs
        have e : X (51 + 2 * vn s + 1) k = M 10 (40 * vn s + k) := by
          rw [show 51 + 2 * vn s + 1 = 52 + 2 * vn s by omega]; exact a5 k (by omega)
        have e2 : X 2 k = M 1 (12 + k) := (eN_g (INV_eE h).1 (c := k) (by omega)).1
        rw [e, e2]
        by_cases c4 : M 10 (40 * vn s + k) = M 1 (12 + k)
        · rw [if_pos c4, if_pos c4]; exact ih g (k + 1) (by omega) (by omega) (by omega)
        · rw [if_neg c4, if_neg c4]; exact Or.inr ⟨by omega, rfl⟩
theorem judge_e {n : Nat} {tt : tT} {X : xS} {M : mS} (h : INV n tt X M) (s : Int32) : AL n tt (x8_judge X s) (mF_judge M s) := by
  unfold x8_judge mF_judge p8_isSheet
  simp only [lt_i, lt2_p]
  by_cases c0 : sF_isSheet s = 0
  · rw [if_pos (show p8_within s 0 3 = 0 from c0), if_pos c0]; exact er1 h
  rw [if_neg (show ¬ p8_within s 0 3 = 0 from c0), if_neg c0]
  obtain ⟨w1, w2⟩ := shs c0
  obtain ⟨s1, s2, ⟨z, s3, s4⟩, s5⟩ := h.2.2.2.2.2.1 (vn s) w2
  by_cases c1 : M 8 (vn s) = 0
  · rw [if_neg (fun e => (mis_e _ _).mp e (s1.trans c1)), if_pos c1]; exact er2 h
  rw [if_pos ((mis_e _ _).mpr (fun e => c1 (s1.symm.trans e))), if_neg c1]
  obtain ⟨d1, d2, d3⟩ := (INV_R h).1
  have f0 := (eN_f (INV_eE h).1).1
  rw [f0, s2, s4, d1, mn_v (by omega) s3]
  have hmc : min (vn (M 1 3)) z ≤ vn (M 1 3) := Nat.min_le_left _ _
  have hmz : min (vn (M 1 3)) z ≤ z := Nat.min_le_right _ _
  rw [vn_nI (n := min (vn (M 1 3)) z) (by omega)]
  rcases jud_L h w2 s3 d3 s4 d1 (K := fun (_ : Nat) => (if nI z = nI (vn (M 1 3)) then ((-1 : Int32), X) else (nI (min (vn (M 1 3)) z), X))) (min (vn (M 1 3)) z + 1) fu11 0 (Nat.zero_le _) (by omega) (by show _ < 11; omega) with ⟨j1, j2⟩ | ⟨j1, j2⟩
  · rw [j2, j1]
    by_cases c : z = vn (M 1 3)
    · rw [if_pos (by rw [c]), if_pos (by rw [← c, Nat.min_self]), if_pos (by rw [← c, Nat.min_self])]
      exact AL_mk rfl h
    · rw [if_neg (by rw [nI_eq (by omega) (by omega)]; exact c)]
      by_cases c3 : nI (min (vn (M 1 3)) z) = nI (vn (M 1 3))
      · rw [if_pos c3, if_neg]
        · exact AL_mk rfl h
        · rw [nI_eq (by omega) (by omega)] at c3 ⊢; omega
      · rw [if_neg c3]; exact AL_mk rfl h
  · rw [j2, if_neg]
    · exact AL_mk rfl h
    · rw [nI_eq (by omega) (by omega)]; omega
theorem count_e {n : Nat} {tt : tT} {X : xS} {M : mS} (h : INV n tt X M) (w : Int32) : AL n tt (x8_count X w) (mF_count M w) := by
  obtain ⟨f0, f4, f5, f6, f7, f8, f18⟩ := eN_f (INV_eE h).1
  obtain ⟨⟨T, t1, t2, t3, t4⟩, ⟨W, w1, w2, w3, w4⟩⟩ := h.1.2.1
  obtain ⟨v, v1, v2, v3, v4⟩ := h.2.2.2.2.1
  unfold x8_count mF_count
  simp only [lt2_p]
  rw [f0, (n8 h).2, f7, f4, f5, f6, f8, tog h, f18, show X 9 1 = M 1 4 from t2.trans t3.symm, show X 11 1 = M 1 5 from w2.trans w3.symm, v2.trans v3.symm]
  by_cases c0 : w = 0
  · rw [if_pos c0, if_pos c0]; exact AL_mk rfl h
  rw [if_neg c0, if_neg c0]
  by_cases c1 : w = 1
  · rw [if_pos c1, if_pos c1]; exact AL_mk rfl h
  rw [if_neg c1, if_neg c1]
  by_cases c2 : w = 2
  · rw [if_pos c2, if_pos c2]; exact AL_mk rfl h
  rw [if_neg c2, if_neg c2]
  by_cases c3 : w = 3
  · rw [if_pos c3, if_pos c3]; exact AL_mk rfl h
  rw [if_neg c3, if_neg c3]
  by_cases c4 : w = 4
  · rw [if_pos c4, if_pos c4]; exact AL_mk rfl h
  rw [if_neg c4, if_neg c4]
  by_cases c5 : w = 5
  · rw [if_pos c5, if_pos c5]; exact AL_mk rfl h
  rw [if_neg c5, if_neg c5]
  by_cases c6 : w = 6
  · rw [if_pos c6, if_pos c6]; exact AL_mk rfl h
  rw [if_neg c6, if_neg c6]
  by_cases c7 : w = 7
  · rw [if_pos c7, if_pos c7]; exact AL_mk rfl h
  rw [if_neg c7, if_neg c7]
  by_cases c8 : w = 8
  · rw [if_pos c8, if_pos c8]; exact AL_mk rfl h
  rw [if_neg c8, if_neg c8]
  by_cases c9 : w = 9
  · rw [if_pos c9, if_pos c9]; exact AL_mk rfl h
  rw [if_neg c9, if_neg c9]
  by_cases c10 : w = 10
  · rw [if_pos c10, if_pos c10]; exact AL_mk rfl h
  rw [if_neg c10, if_neg c10]
  by_cases c11 : w = 11
  · rw [if_pos c11, if_pos c11]; exact AL_mk rfl h
  rw [if_neg c11, if_neg c11]
  exact er1 h
theorem told_e {n : Nat} {tt : tT} {X : xS} {M : mS} (h : INV n tt X M) (k : Int32) : AL n tt (x8_told X k) (mF_told M k) := by
  unfold x8_told mF_told
  simp only [lt2_p]
  by_cases c : sF_in k 1 5 = 0
  · rw [if_pos (show p8_within k 1 5 = 0 from c), if_pos c]; exact er1 h
  · rw [if_neg (show ¬ p8_within k 1 5 = 0 from c), if_neg c]
    obtain ⟨w1, w2⟩ := in_1n c
    have w3 : 1 ≤ vn k := by
      have := (in_of c).1
      rw [w1, show (1 : Int32) = nI 1 from rfl, nI_ltI (by omega) (by decide)] at this
      omega
    exact AL_mk (h.2.2.2.1 _ w3 w2) h
theorem trace_e {n : Nat} {tt : tT} {X : xS} {M : mS} (h : INV n tt X M) (i : Int32) : AL n tt (x8_trace X i) (mF_trace M i) := by
  obtain ⟨v, v1, v2, v3, v4⟩ := h.2.2.2.2.1
  unfold x8_trace mF_trace
  simp only [lt2_p]
  rw [v2, v3]
  by_cases c : sF_in i 0 (nI v - 1) = 0
  · rw [if_pos (show p8_within i 0 (nI v - 1) = 0 from c), if_pos c]; exact er2 h
  · rw [if_neg (show ¬ p8_within i 0 (nI v - 1) = 0 from c), if_neg c]
    have hz0 : ¬ v = 0 := by
      intro e
      rw [e] at c
      exact c (in_m1 i)
    obtain ⟨i1, i2⟩ := in_nat (n := v - 1) c (nt_subI rfl hz0)
    refine AL_mk ?_ h
    unfold x4_get
    rw [if_neg (in_of c).1, v2, if_neg (show ¬ nI v ≤ i by rw [i1, nI_leI (by omega) (by omega)]; omega)]
    exact v4 _ (by omega)
theorem whs_e {n : Nat} {tt : tT} {X : xS} {M : mS} (h : INV n tt X M) (c : Int32) : x0_whoSee tt X 1 c = mF_whoSees M c := by
  have hn := n8 h
  have hP := (INV_R h).2.1
  unfold x0_whoSee mF_whoSees
  rw [lt_i, lt_i, hn.1]
  have hL : ∀ k, k ≤ vn (M 1 8) → x0_whoSee_L4 tt X 1 c k = mF_whoSees_L4 M c k := by
    intro k
    induction k with
    | zero => intro _; rfl
    | succ k ih =>
      intro hk
      rw [x0_whoSee_L4_s, mF_whoSees_L4_s]
      simp only [lt_i]
      rw [ih (by omega), seenBy_e (INV_eE h) (INV_R h) (by rw [hn.1]; omega), sk8 (by have := hP.2; omega), has_e]
      by_cases c1 : sF_has (mF_seesOf M k) c = 0
      · rw [if_pos c1, if_pos c1, Int32.or_zero]
      · rw [if_neg c1, if_neg c1]
  exact hL _ (Nat.le_refl _)
theorem wha_e {n : Nat} {tt : tT} {X : xS} {M : mS} (h : INV n tt X M) (c : Int32) : x0_whoAreAt X 1 c = mF_whoIsAt M c := by
  have hn := n8 h
  have hP := (INV_R h).2.1
  unfold x0_whoAreAt mF_whoIsAt
  rw [lt_i, lt_i, hn.1]
  have hL : ∀ k, k ≤ vn (M 1 8) → x0_whoAreAt_L4 X 1 c k = mF_whoIsAt_L4 M c k := by
    intro k
    induction k with
    | zero => intro _; rfl
    | succ k ih =>
      intro hk
      rw [x0_whoAreAt_L4_s, mF_whoIsAt_L4_s]
      simp only [lt_i]
      have h6 := (eN_p (INV_eE h).1 (i := k) (by rw [hn.1]; omega)).2.2.1
      rw [sk8 (by have := hP.2; omega)] at h6
      rw [ih (by omega), h6]
      show _ = _ ||| (if M 1 (32 + 4 * k + 2) = c then _ else (0 : Int32))
      by_cases c1 : M 1 (32 + 4 * k + 2) = c
      · rw [if_pos c1, if_pos c1]
      · rw [if_neg c1, if_neg c1, Int32.or_zero]
  exact hL _ (Nat.le_refl _)
theorem ofCell_e {n : Nat} {tt : tT} {X : xS} {M : mS} (h : INV n tt X M) (c w : Int32) : AL n tt (x8_ofCell tt X c w) (mF_ofCell M c w) := by
  unfold x8_ofCell mF_ofCell
  simp only [lt2_p, isC_e h]
  by_cases c1 : mF_isCell M c = 0
  · rw [if_pos c1, if_pos c1]; exact er1 h
  rw [if_neg c1, if_neg c1]
  obtain ⟨d1, d2⟩ := cell_of (INV_R h).1 c1
  have h10 : vn c < 10 := Nat.lt_of_lt_of_le d2 (INV_R h).1.2.2
  have hg : X 2 (vn c) = M 1 (12 + vn c) ∧ X 3 (vn c) = M 1 (22 + vn c) := eN_g (INV_eE h).1 h10
  rw [hg.1, hg.2, whs_e h, wha_e h]
  by_cases c2 : sF_in w 0 3 = 0
  · rw [if_pos c2]
    have ne : ∀ k, k ≤ 3 → ¬ w = nI k := fun k hk e => by
      rw [e] at c2
      rcases (show k = 0 ∨ k = 1 ∨ k = 2 ∨ k = 3 by omega) with rfl | rfl | rfl | rfl <;> exact absurd c2 (by decide)
    rw [if_neg (show ¬ w = 0 from ne 0 (by decide)), if_neg (show ¬ w = 1 from ne 1 (by decide)), if_neg (show ¬ w = 2 from ne 2 (by decide)), if_neg (show ¬ w = 3 from ne 3 (by decide))]
    exact er1 h
  · rw [if_neg c2]
    obtain ⟨w1, w2⟩ := in_nat (n := 3) c2 ⟨rfl, by decide⟩
    rw [w1]
    rcases (show vn w = 0 ∨ vn w = 1 ∨ vn w = 2 ∨ vn w = 3 by omega) with e | e | e | e <;> rw [e] <;> exact AL_mk rfl h
theorem ofPerson_e {n : Nat} {tt : tT} {X : xS} {M : mS} (h : INV n tt X M) (q w : Int32) : AL n tt (x8_ofPerson tt X q w) (mF_ofPerson M q w) := by
  unfold x8_ofPerson mF_ofPerson
  simp only [lt2_p, isP_e h]
  by_cases c1 : mF_isPerson M q = 0
  · rw [if_pos c1, if_pos c1]; exact er1 h
  rw [if_neg c1, if_neg c1]
  have hR := INV_R h
  obtain ⟨d1, d2⟩ := person_of hR.2.1 c1
  have hq8 : vn q < 8 := Nat.lt_of_lt_of_le d2 hR.2.1.2
  have hn := n8 h
  have hqx : vn q < vn (X 1 9) := by rw [hn.1]; exact d2
  obtain ⟨q4, q5, q6, q7⟩ := eN_p (INV_eE h).1 hqx
  have hsee := seenBy_e (INV_eE h) hR hqx
  have hcnt := counts_e (INV_eE h).1 hqx
  obtain ⟨f0, f4, f5, f6, f7, f8, f18⟩ := eN_f (INV_eE h).1
  rw [sk8 hq8] at q4 q5 q6 q7 hsee hcnt
  have hsi := si_e (i := vn q) (q := vn q) (INV_eE h).2 q4 q5
  have htk := tk_eq (i := vn q) (q := vn q) (INV_eE h).2 q4 q5 (hR.2.2.1 _ hq8)
  have ha : aN M (vn q) < 10 := aN_lt hR hq8
  have hg : X 2 (vn (X 7 (vn q))) = M 1 (12 + aN M (vn q)) := by
    rw [show X 7 (vn q) = M 1 (32 + 4 * vn q + 2) from q6]
    exact (eN_g (INV_eE h).1 ha).1
  rw [f6, f7, hsi, hg, htk, hsee, show p1_countsOf (X 5 (vn q)) (X 6 (vn q)) = mF_counts M (vn q) from hcnt]
  by_cases c2 : sF_in w 0 7 = 0
  · rw [if_pos c2]
    have ne : ∀ k, k ≤ 7 → ¬ w = nI k := fun k hk e => by
      rw [e] at c2
      rcases (show k = 0 ∨ k = 1 ∨ k = 2 ∨ k = 3 ∨ k = 4 ∨ k = 5 ∨ k = 6 ∨ k = 7 by omega) with rfl | rfl | rfl | rfl | rfl | rfl | rfl | rfl <;> exact absurd c2 (by decide)
    rw [if_neg (show ¬ w = 0 from ne 0 (by decide)), if_neg (show ¬ w = 1 from ne 1 (by decide)), if_neg (show ¬ w = 2 from ne 2 (by decide)), if_neg (show ¬ w = 3 from ne 3 (by decide)), if_neg (show ¬ w = 4 from ne 4 (by decide)), if_neg (show ¬ w = 5 from ne 5 (by decide)), if_neg (show ¬ w = 6 from ne 6 (by decide)), if_neg (show ¬ w = 7 from ne 7 (by decide))]
    exact er1 h
  · rw [if_neg c2]
    obtain ⟨w1, w2⟩ := in_nat (n := 7) c2 ⟨rfl, by decide⟩
    rw [w1]
    rcases (show vn w = 0 ∨ vn w = 1 ∨ vn w = 2 ∨ vn w = 3 ∨ vn w = 4 ∨ vn w = 5 ∨ vn w = 6 ∨ vn w = 7 by omega) with e | e | e | e | e | e | e | e <;> rw [e]
    · exact AL_mk q4 h
    · exact AL_mk q5 h
    · exact AL_mk q6 h
    · exact AL_mk q7 h
    · exact AL_mk rfl h
    · exact AL_mk rfl h
    · exact AL_mk rfl h
    · exact AL_mk rfl h
theorem iso_X (X : xS) (a b : Int32) : x1_isOneOf X a b = x1_isOneOf (fun _ _ => 0) a b := rfl
theorem iso_t : ∀ j, j < 7 → ∀ k, k < 7 → (x1_isOneOf (fun _ _ => 0) (nI j) (nI k) = 0 ↔ ¬ 0 ≤ mF_as_L32 (nI k) 8 (nI j)) := by decide +kernel
theorem as_e {n : Nat} {tt : tT} {X : xS} {M : mS} (h : INV n tt X M) (q k : Int32) : AL n tt (x8_as X q k) (mF_as M q k) := by
  unfold x8_as mF_as mF_its
  simp only [lt_i, lt2_p, isP_e h]
  by_cases c1 : mF_isPerson M q = 0
  · rw [if_pos c1, if_pos c1]; exact er1 h
  rw [if_neg c1, if_neg c1]
  by_cases c2 : sF_in k 0 6 = 0
  · rw [if_pos (show p8_within k 0 6 = 0 from c2), if_pos c2]; exact er1 h
  rw [if_neg (show ¬ p8_within k 0 6 = 0 from c2), if_neg c2]
  have hR := INV_R h
  obtain ⟨d1, d2⟩ := person_of hR.2.1 c1
  have hq8 : vn q < 8 := Nat.lt_of_lt_of_le d2 hR.2.1.2
  have hn := n8 h
  have hqx : vn q < vn (X 1 9) := by rw [hn.1]; exact d2
  obtain ⟨q4, q5, q6, q7⟩ := eN_p (INV_eE h).1 hqx
  rw [sk8 hq8] at q4 q5
  obtain ⟨k1, k2⟩ := hR.2.2.1 _ hq8
  obtain ⟨w1, w2⟩ := in_nat (n := 6) c2 ⟨rfl, by decide⟩
  have ht := iso_t (vn (M 1 (32 + 4 * vn q + 0))) (by omega) (vn k) (by omega)
  rw [← k1, ← w1] at ht
  rw [show X 5 (vn q) = M 1 (32 + 4 * vn q + 0) from q4, show X 6 (vn q) = M 1 (32 + 4 * vn q + 1) from q5, iso_X]
  by_cases c : x1_isOneOf (fun _ _ => 0) (M 1 (32 + 4 * vn q + 0)) k = 0
  · rw [if_pos c, if_neg (ht.mp c)]; exact er5 h
  · rw [if_neg c, if_pos (Decidable.not_not.mp (fun w => c (ht.mpr w)))]; exact AL_mk rfl h
theorem law_e {n : Nat} {tt : tT} {X : xS} {M : mS} (h : INV n tt X M) (u a b d : Int32) : AL n tt (x8_law tt X u a b d) (mF_law M u a b d) := by
  unfold x8_law mF_law
  simp only [lt2_p]
  by_cases c : sF_in u 0 1 = 0
  · rw [if_pos (show p8_within u 0 1 = 0 from c), if_pos c]; exact er1 h
  rw [if_neg (show ¬ p8_within u 0 1 = 0 from c), if_neg c]
  obtain ⟨w1, w2⟩ := in_nat (n := 1) c ⟨rfl, by decide⟩
  rw [sg_e (INV_eE h).2, th_e (INV_eE h).2]
  rcases (show vn u = 0 ∨ vn u = 1 by omega) with e | e
  · rw [w1, e, vn_nI (by decide), if_pos (show nI 0 = 0 from rfl)]; exact AL_mk rfl h
  · rw [w1, e, vn_nI (by decide), if_neg (by decide)]; exact AL_mk rfl h
