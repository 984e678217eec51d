/-! acts: hide, odds -/
theorem or0 {x y : Int32} : x ||| y = 0 ↔ x = 0 ∧ y = 0 := by
  constructor
  · intro h
    have h2 : (x ||| y).toBitVec = 0#32 := congrArg Int32.toBitVec h
    have h3 : x.toBitVec ||| y.toBitVec = 0#32 := h2
    have hx : x.toBitVec = 0#32 := by
      apply BitVec.eq_of_getLsbD_eq
      intro i hi
      have := congrArg (fun z => z.getLsbD i) h3
      simp only [BitVec.getLsbD_or, BitVec.getLsbD_zero, Bool.or_eq_false_iff] at this
      rw [this.1, BitVec.getLsbD_zero]
    have hy : y.toBitVec = 0#32 := by
      apply BitVec.eq_of_getLsbD_eq
      intro i hi
      have := congrArg (fun z => z.getLsbD i) h3
      simp only [BitVec.getLsbD_or, BitVec.getLsbD_zero, Bool.or_eq_false_iff] at this
      rw [this.2, BitVec.getLsbD_zero]
    exact ⟨Int32.toBitVec_inj.mp hx, Int32.toBitVec_inj.mp hy⟩
  · rintro ⟨rfl, rfl⟩; decide
theorem bitk : ∀ k, k < 8 → ¬ (1 : Int32) <<< (nI k &&& 31) = 0 := by decide
theorem who0 (M : mS) (c : Int32) : ∀ k, k ≤ 8 → (mF_whoSees_L4 M c k = 0 ↔ ∀ j, j < k → sF_has (mF_seesOf M j) c = 0) := by
  intro k
  induction k with
  | zero => intro _; exact ⟨fun _ j hj => absurd hj (Nat.not_lt_zero _), fun _ => rfl⟩
  | succ k ih =>
    intro hk
    have ih := ih (by omega)
    rw [mF_whoSees_L4_s]
    simp only [lt_i]
    rw [or0, ih]
    constructor
    · rintro ⟨h1, h2⟩ j hj
      by_cases e : j = k
      · subst e
        by_cases c1 : sF_has (mF_seesOf M j) c = 0
        · exact c1
        · rw [if_neg c1] at h2; exact absurd h2 (bitk j (by omega))
      · exact h1 j (by omega)
    · intro h
      exact ⟨fun j hj => h j (by omega), by rw [if_pos (h k (by omega))]⟩
/-- the reference with another fog, other hedges -/
def fh (M N : mS) : Prop := ∀ x, x ≠ 1 → x ≠ 9 → N 1 x = M 1 x
theorem fh_R {M N : mS} (h : fh M N) (hR : rOK M) : rOK N := by
  refine ⟨?_, ?_, fun q hq => ?_, fun q hq => ?_, fun u hu => ?_⟩
  · unfold cOK; rw [h 3 (by decide) (by decide)]; exact hR.1
  · unfold pOK; rw [h 8 (by decide) (by decide)]; exact hR.2.1
  · rw [h _ (by omega) (by omega)]; exact hR.2.2.1 q hq
  · rw [h _ (by omega) (by omega)]; exact hR.2.2.2.1 q hq
  · rw [h _ (by omega) (by omega)]; exact hR.2.2.2.2 u hu
theorem fh_si {n : Nat} {tt : tT} {X Y : xS} {M N : mS} (h : INV n tt X M) (hY : ∀ p, p ≠ 59 → Y p = X p) (hN : fh M N) {i : Nat} (hi : i < vn (M 1 8)) : x0_sightIn tt Y 1 i (N 1 1) (Y 1 7) = mF_sight N i := by
  have hn := n8 h
  have hP := (INV_R h).2.1
  obtain ⟨q4, q5, q6, q7⟩ := eN_p (INV_eE h).1 (i := i) (by rw [hn.1]; exact hi)
  rw [sk8 (by have := hP.2; omega)] at q4 q5
  have e7 : Y 1 7 = N 1 0 := by rw [hY 1 (by decide), hN 0 (by decide) (by decide)]; exact (eN_f (INV_eE h).1).2.2.2.2.1
  rw [e7]
  refine si_e (eX_pt (INV_eE h).2 (by rw [hY 1 (by decide)]) (by rw [hY 1 (by decide)]) (fun x hx => hN x (by omega) (by omega))) ?_ ?_
  · rw [hY _ (by decide), hN _ (by omega) (by omega)]; exact q4
  · rw [hY _ (by decide), hN _ (by omega) (by omega)]; exact q5
theorem mr_at {n : Nat} {tt : tT} {X Y : xS} {M N : mS} (h : INV n tt X M) (hY : ∀ p, p ≠ 59 → Y p = X p) (hN : fh M N) : ∀ k, k ≤ vn (M 1 8) → (∀ j, j < k → x8_measureReaches_L2 tt Y (N 1 1) k 59 j = mF_sight N j) ∧ ∀ p, p ≠ 59 → x8_measureReaches_L2 tt Y (N 1 1) k p = X p := by
  intro k
  induction k with
  | zero => intro _; exact ⟨fun j hj => absurd hj (Nat.not_lt_zero _), hY⟩
  | succ k ih =>
    intro hk
    obtain ⟨i1, i2⟩ := ih (by omega)
    rw [x8_measureReaches_L2_s]
    simp only [lt_i]
    refine ⟨fun j hj => ?_, fun p hp => by rw [mU_row hp]; exact i2 p hp⟩
    rw [mU_sm, fh_si h i2 hN (by omega)]
    by_cases e : j = k
    · rw [if_pos e, e]
    · rw [if_neg e]; exact i1 j (by omega)
theorem isn_L {n : Nat} {tt : tT} {X Y : xS} {M N : mS} (h : INV n tt X M) (hY : ∀ p, p ≠ 59 → Y p = X p) (hN : fh M N) (h59 : ∀ j, j < vn (M 1 8) → Y 59 j = mF_sight N j) (c : Int32) : ∀ (f k : Nat), k ≤ vn (M 1 8) → vn (M 1 8) - k < f → (x0_isSeen_L3 Y 1 59 8 c (N 1 9) (fun _ => 0) f k = 0 ↔ ∀ j, k ≤ j → j < vn (M 1 8) → sF_has (mF_seesOf N j) c = 0) := by
  intro f
  induction f with
  | zero => intro k _ h; exact absurd h (Nat.not_lt_zero _)
  | succ f ih =>
    intro k hk hf
    have hn := n8 h
    have hP := (INV_R h).2.1
    have hP2 := hP.2
    have hR := fh_R hN (INV_R h)
    rw [x0_isSeen_L3_s, hY 1 (by decide), hn.2, hP.1]
    by_cases c1 : k = vn (M 1 8)
    · rw [if_pos (by rw [c1]; exact Int32.le_refl _)]
      exact ⟨fun _ j h1 h2 => absurd h2 (by rw [vn_nI (by omega)]; omega), fun _ => rfl⟩
    · rw [if_neg (by rw [nI_leI (by omega) (by omega)]; omega), if_neg (by rw [nI_leI (by omega) (by omega)]; omega), h59 k (by omega), has_e]
      obtain ⟨q4, q5, q6, q7⟩ := eN_p (INV_eE h).1 (i := k) (by rw [hn.1]; omega)
      rw [sk8 (by omega)] at q4 q5 q6
      have e6 : vn (Y (1 + 6) k) = aN N k := by rw [hY _ (by decide), q6]; unfold aN; rw [hN _ (by omega) (by omega)]
      have hv := vw_e (X := Y) (p := 1) (i := k) (q := k) (M := N) (by rw [hY 1 (by decide), hN 3 (by decide) (by decide)]; exact (eN_f (INV_eE h).1).1) hR.1 (by rw [hY _ (by decide), hN _ (by omega) (by omega)]; exact q4) (aN_lt hR (by omega))
      rw [e6, hv]
      have ihk := ih (k + 1) (by omega) (by omega)
      rw [vn_nI (by omega)]
      by_cases c2 : sF_has (mF_seesOf N k) c = 0
      · rw [if_pos c2, ihk]
        constructor
        · intro g j h1 h2
          by_cases e : j = k
          · rw [e]; exact c2
          · exact g j (by omega) h2
        · intro g j h1 h2; exact g j (by omega) h2
      · rw [if_neg c2]
        constructor
        · intro g; exact absurd g (by decide)
        · intro g; exact absurd (g k (Nat.le_refl _) (by omega)) c2
theorem isn_e {n : Nat} {tt : tT} {X Y : xS} {M N : mS} (h : INV n tt X M) (hY : ∀ p, p ≠ 59 → Y p = X p) (hN : fh M N) (h59 : ∀ j, j < vn (M 1 8) → Y 59 j = mF_sight N j) (c : Int32) : x0_isSeen Y 1 59 8 c (N 1 9) = 0 ↔ mF_whoSees N c = 0 := by
  have hP := (INV_R h).2.1
  unfold x0_isSeen mF_whoSees
  rw [lt_i, isn_L h hY hN h59 c 9 0 (Nat.zero_le _) (by have := hP.2; omega), hN 8 (by decide) (by decide), who0 N c _ hP.2]
  exact ⟨fun g j hj => g j (Nat.zero_le _) hj, fun g j _ hj => g j hj⟩
theorem mrs_e {n : Nat} {tt : tT} {X Y : xS} {M N : mS} (h : INV n tt X M) (hY : ∀ p, p ≠ 59 → Y p = X p) (hN : fh M N) : (∀ j, j < vn (M 1 8) → x8_measureReaches tt Y (N 1 1) 59 j = mF_sight N j) ∧ ∀ p, p ≠ 59 → x8_measureReaches tt Y (N 1 1) p = X p := by
  unfold x8_measureReaches
  rw [lt_i, hY 1 (by decide), (n8 h).1]
  exact mr_at h hY hN _ (Nat.le_refl _)
theorem dvd : ∀ j, j ≤ 10 → p8_commonDivisor 10 (nI j) = sF_divisor j 10 := by decide +kernel
theorem odds_L {n : Nat} {tt : tT} {X : xS} {M : mS} (h : INV n tt X M) (c : Int32) : ∀ k, k ≤ 10 → (x8_odds_L28 tt X c k).1 = (mF_odds_L37 M c k).1 ∧ (∀ p, p ≠ 59 → (x8_odds_L28 tt X c k).2 p = X p) ∧ (∀ x, x ≠ 1 → (mF_odds_L37 M c k).2 1 x = M 1 x) ∧ (∀ i, i ≠ 1 → (mF_odds_L37 M c k).2 i = M i) ∧ ∃ j, j ≤ k ∧ (mF_odds_L37 M c k).1 = nI j := by
  intro k
  induction k with
  | zero => intro _; exact ⟨rfl, fun _ _ => rfl, fun _ _ => rfl, fun _ _ => rfl, 0, Nat.le_refl _, rfl⟩
  | succ k ih =>
    intro hk
    obtain ⟨i1, i2, i3, i4, j, j1, j2⟩ := ih (by omega)
    rw [x8_odds_L28_s, mF_odds_L37_s]
    simp only [lt_i, lt2_i]
    generalize x8_odds_L28 tt X c k = qx at i1 i2 ⊢
    generalize mF_odds_L37 M c k = qm at i1 i3 i4 j2 ⊢
    obtain ⟨vx, Y⟩ := qx
    obtain ⟨vm, N⟩ := qm
    have i2 : ∀ p, p ≠ 59 → Y p = X p := i2
    have i3 : ∀ x, x ≠ 1 → N 1 x = M 1 x := i3
    have i4 : ∀ i, i ≠ 1 → N i = M i := i4
    have hN : fh M (mU N 1 1 (nI k)) := fun x h1 _ => by rw [mU_ne h1]; exact i3 x h1
    obtain ⟨r1, r2⟩ := mrs_e h i2 hN
    rw [mU_eq] at r1 r2
    have hs := isn_e h r2 hN r1 c
    have e9 : x8_measureReaches tt Y (nI k) 1 4 = mU N 1 1 (nI k) 1 9 := by rw [r2 1 (by decide), mU_ne (by decide), i3 9 (by decide)]; exact (eN_f (INV_eE h).1).2.1
    show (if x0_isSeen (x8_measureReaches tt Y (nI k)) 1 59 8 c (x8_measureReaches tt Y (nI k) 1 4) = 0 then vx else vx + 1) = vm + (if mF_whoSees (mU N 1 1 (nI k)) c = 0 then 0 else 1) ∧ _
    have i1' : vx = vm := i1
    have j2' : vm = nI j := j2
    rw [e9, i1']
    refine ⟨?_, r2, fun x h1 => by show mU N 1 1 (nI k) 1 x = _; rw [mU_ne h1]; exact i3 x h1, fun i hi => by show mU N 1 1 (nI k) i = _; rw [mU_row hi]; exact i4 i hi, ?_⟩
    · by_cases c1 : mF_whoSees (mU N 1 1 (nI k)) c = 0
      · rw [if_pos (hs.mpr c1), if_pos c1, Int32.add_zero]
      · rw [if_neg (fun w => c1 (hs.mp w)), if_neg c1]
    · show ∃ j, j ≤ k + 1 ∧ vm + (if mF_whoSees (mU N 1 1 (nI k)) c = 0 then 0 else 1) = nI j
      by_cases c1 : mF_whoSees (mU N 1 1 (nI k)) c = 0
      · rw [if_pos c1, Int32.add_zero]; exact ⟨j, by omega, j2'⟩
      · rw [if_neg c1, j2', nI_1]; exact ⟨j + 1, by omega, rfl⟩
theorem odds_e {n : Nat} {tt : tT} {X : xS} {M : mS} (h : INV n tt X M) (c v : Int32) : AL n tt (x8_odds tt X c v) (mF_odds M c v) := by
  unfold x8_odds mF_odds
  simp only [lt_i, lt2_p, lt2_i, isC_e h]
  by_cases c1 : mF_isCell M c = 0
  · rw [if_pos c1, if_pos c1]; exact er1 h
  rw [if_neg c1, if_neg c1]
  by_cases c2 : sF_in v 0 1 = 0
  · rw [if_pos (show p8_within v 0 1 = 0 from c2), if_pos c2]; exact er1 h
  rw [if_neg (show ¬ p8_within v 0 1 = 0 from c2), if_neg c2]
  obtain ⟨i1, i2, i3, i4, j, j1, j2⟩ := odds_L h c 10 (Nat.le_refl _)
  generalize x8_odds_L28 tt X c 10 = qx at i1 i2 ⊢
  generalize mF_odds_L37 M c 10 = qm at i1 i3 i4 j2 ⊢
  rw [i1, j2, vn_nI (by omega), dvd j j1]
  have hb : INV n tt qx.2 (mU qm.2 1 1 (M 1 1)) := INV_c h (fun p _ _ _ _ h59 _ => i2 p h59) (fun x _ => by
    rw [mU_sm]
    by_cases e : x = 1
    · rw [if_pos e, e]
    · rw [if_neg e]; exact i3 x e) (fun i h1 _ _ _ _ _ _ => by rw [mU_row h1]; exact i4 i h1)
  by_cases c3 : v = 0
  · rw [if_pos c3, if_pos c3]; exact AL_mk rfl hb
  · rw [if_neg c3, if_neg c3]; exact AL_mk rfl hb
/-- of a set, what is not among the hedges already -/
theorem cut_h (h : Int32) {k : Nat} (hk : k < 512) (hc : ¬ nI k &&& h = 0) : ∃ k2, k2 < k ∧ pc 10 k2 ≤ pc 10 k ∧ h ||| nI k2 = h ||| nI k := by
  have ek : (nI k).toBitVec.toNat = k := by
    show k % 2 ^ 32 = k
    exact Nat.mod_eq_of_lt (by omega)
  refine ⟨k &&& (~~~ h.toBitVec).toNat, ?_, pc_and _ _ _, ?_⟩
  · have hle : k &&& (~~~ h.toBitVec).toNat ≤ k := Nat.and_le_left
    rcases Nat.lt_or_ge (k &&& (~~~ h.toBitVec).toNat) k with w | w
    · exact w
    · exfalso
      have he : k &&& (~~~ h.toBitVec).toNat = k := Nat.le_antisymm hle w
      apply hc
      have hb : (nI k).toBitVec &&& ~~~ h.toBitVec = (nI k).toBitVec := by
        apply BitVec.eq_of_toNat_eq
        rw [BitVec.toNat_and, ek]
        exact he
      apply Int32.toBitVec_inj.mp
      show (nI k).toBitVec &&& h.toBitVec = 0#32
      rw [← hb]
      apply BitVec.eq_of_getLsbD_eq
      intro i hi
      rw [BitVec.getLsbD_and, BitVec.getLsbD_and, BitVec.getLsbD_not, BitVec.getLsbD_zero]
      cases h.toBitVec.getLsbD i <;> simp
  · apply Int32.toBitVec_inj.mp
    have e2 : (nI (k &&& (~~~ h.toBitVec).toNat)).toBitVec = (nI k).toBitVec &&& ~~~ h.toBitVec := by
      apply BitVec.eq_of_toNat_eq
      rw [BitVec.toNat_and, ek]
      show (k &&& (~~~ h.toBitVec).toNat) % 2 ^ 32 = _
      exact Nat.mod_eq_of_lt (Nat.lt_of_le_of_lt Nat.and_le_left (by omega))
    show h.toBitVec ||| (nI (k &&& (~~~ h.toBitVec).toNat)).toBitVec = h.toBitVec ||| (nI k).toBitVec
    rw [e2]
    apply BitVec.eq_of_getLsbD_eq
    intro i hi
    rw [BitVec.getLsbD_or, BitVec.getLsbD_or, BitVec.getLsbD_and, BitVec.getLsbD_not]
    simp only [hi, decide_true, Bool.true_and]
    cases h.toBitVec.getLsbD i <;> simp
theorem hide_L {n : Nat} {tt : tT} {X Y : xS} {M : mS} (h : INV n tt X M) (hY : ∀ p, p ≠ 59 → Y p = X p) (h59 : ∀ j, j < vn (M 1 8) → Y 59 j = mF_sight M j) (c : Int32) : ∀ k, k ≤ 512 → x8_hide_L29 c Y k = (mF_hide_L28 M c (M 1 9) k).1 ∧ (∀ i, i ≠ 1 → (mF_hide_L28 M c (M 1 9) k).2 i = M i) ∧ ((mF_hide_L28 M c (M 1 9) k).1 = -1 ∨ ∃ b, b < k ∧ (mF_hide_L28 M c (M 1 9) k).1 = nI b) ∧ (∀ j, j < k → x0_isSeen Y 1 59 8 c (M 1 9 ||| nI j) = 0 → ∃ b, b < k ∧ (mF_hide_L28 M c (M 1 9) k).1 = nI b ∧ pc 10 b ≤ pc 10 j) := by
  intro k
  induction k with
  | zero => intro _; exact ⟨rfl, fun _ _ => rfl, Or.inl rfl, fun j hj => absurd hj (Nat.not_lt_zero _)⟩
  | succ k ih =>
    intro hk
    obtain ⟨i1, i2, i3, i4⟩ := ih (by omega)
    have i5 := hd_k M c (M 1 9) k
    rw [x8_hide_L29_s, mF_hide_L28_s]
    simp only [lt_i, lt2_i]
    have e4 : Y 1 4 = M 1 9 := by rw [hY 1 (by decide)]; exact (eN_f (INV_eE h).1).2.1
    rw [i1, e4]
    generalize mF_hide_L28 M c (M 1 9) k = qm at i2 i3 i4 i5 ⊢
    obtain ⟨b0, N⟩ := qm
    have i3 : b0 = -1 ∨ ∃ b, b < k ∧ b0 = nI b := i3
    have i5 : ∀ j, j ≠ 9 → N 1 j = M 1 j := i5
    have i2 : ∀ i, i ≠ 1 → N i = M i := i2
    have i4 : ∀ j, j < k → x0_isSeen Y 1 59 8 c (M 1 9 ||| nI j) = 0 → ∃ b, b < k ∧ b0 = nI b ∧ pc 10 b ≤ pc 10 j := i4
    have hN : fh M (mU N 1 9 (M 1 9 ||| nI k)) := fun x _ h9 => by rw [mU_ne h9]; exact i5 x h9
    have hsn : ∀ j, j < vn (M 1 8) → mF_sight M j = mF_sight (mU N 1 9 (M 1 9 ||| nI k)) j := fun j hj => by
      rw [← fh_si h hY hN hj, ← fh_si h hY (fun x _ _ => rfl : fh M M) hj, mU_ne (by decide), i5 1 (by decide)]
    have ht := isn_e h hY hN (fun j hj => (h59 j hj).trans (hsn j hj)) c
    rw [mU_eq] at ht
    by_cases ov : nI k &&& M 1 9 = 0
    · rw [if_pos ov]
      rcases i3 with e | ⟨b, b1, e⟩
      · subst e
        rw [few_m, if_neg (show ¬ (1 : Int32) = 0 by decide), if_pos (show ((-1 : Int32), N).1 < 0 from (by decide : (-1 : Int32) < 0))]
        by_cases c1 : mF_whoSees (mU N 1 9 (M 1 9 ||| nI k)) c = 0
        · rw [if_pos (ht.mpr c1), if_pos c1]
          refine ⟨rfl, fun i hi => by show mU N 1 9 _ i = _; rw [mU_row hi]; exact i2 i hi, Or.inr ⟨k, by omega, rfl⟩, fun j hj hh => ?_⟩
          by_cases ej : j = k
          · exact ⟨k, by omega, rfl, by rw [ej]; exact Nat.le_refl _⟩
          · obtain ⟨b, b1, b2, _⟩ := i4 j (by omega) hh
            exact absurd b2 (m1_nI (by omega))
        · rw [if_neg (fun w => c1 (ht.mp w)), if_neg c1]
          refine ⟨rfl, fun i hi => by show mU N 1 9 _ i = _; rw [mU_row hi]; exact i2 i hi, Or.inl rfl, fun j hj hh => ?_⟩
          by_cases ej : j = k
          · rw [ej] at hh; exact absurd (ht.mp hh) c1
          · obtain ⟨b, b1, b2, _⟩ := i4 j (by omega) hh
            exact absurd b2 (m1_nI (by omega))
      · subst e
        rw [few_e (by omega) (by omega), if_neg (nI_nlt0 (by omega))]
        by_cases cf : pc 10 b ≤ pc 10 k
        · rw [if_pos cf, if_pos rfl, if_pos ((bits_le (by omega) (by omega)).mpr cf)]
          refine ⟨rfl, i2, Or.inr ⟨b, by omega, rfl⟩, fun j hj hh => ?_⟩
          by_cases ej : j = k
          · exact ⟨b, by omega, rfl, by rw [ej]; exact cf⟩
          · obtain ⟨b', b1', b2', b3'⟩ := i4 j (by omega) hh
            exact ⟨b', by omega, b2', b3'⟩
        · rw [if_neg cf, if_neg (by decide), if_neg (fun w => cf ((bits_le (by omega) (by omega)).mp w))]
          by_cases c1 : mF_whoSees (mU N 1 9 (M 1 9 ||| nI k)) c = 0
          · rw [if_pos (ht.mpr c1), if_pos c1]
            refine ⟨rfl, fun i hi => by show mU N 1 9 _ i = _; rw [mU_row hi]; exact i2 i hi, Or.inr ⟨k, by omega, rfl⟩, fun j hj hh => ?_⟩
            by_cases ej : j = k
            · exact ⟨k, by omega, rfl, by rw [ej]; exact Nat.le_refl _⟩
            · obtain ⟨b', b1', b2', b3'⟩ := i4 j (by omega) hh
              have eb : b = b' := (nI_eq (by omega) (by omega)).mp b2'
              exact ⟨k, by omega, rfl, by rw [← eb] at b3'; omega⟩
          · rw [if_neg (fun w => c1 (ht.mp w)), if_neg c1]
            refine ⟨rfl, fun i hi => by show mU N 1 9 _ i = _; rw [mU_row hi]; exact i2 i hi, Or.inr ⟨b, by omega, rfl⟩, fun j hj hh => ?_⟩
            by_cases ej : j = k
            · rw [ej] at hh; exact absurd (ht.mp hh) c1
            · obtain ⟨b', b1', b2', b3'⟩ := i4 j (by omega) hh
              exact ⟨b', by omega, b2', b3'⟩
    · rw [if_neg ov]
      obtain ⟨k2, k3, k4, k5⟩ := cut_h (M 1 9) (k := k) (by omega) ov
      have hfew : x0_isSeen Y 1 59 8 c (M 1 9 ||| nI k) = 0 → ∃ b, b < k ∧ b0 = nI b ∧ pc 10 b ≤ pc 10 k := fun hh => by
        obtain ⟨b, b1, b2, b3⟩ := i4 k2 k3 (by rw [k5]; exact hh)
        exact ⟨b, b1, b2, by omega⟩
      refine ⟨?_, i2, ?_, fun j hj hh => ?_⟩
      · show (if p8_isFewer (nI k) b0 = 0 then b0 else if x0_isSeen Y 1 59 8 c (M 1 9 ||| nI k) = 0 then nI k else b0) = b0
        by_cases c1 : x0_isSeen Y 1 59 8 c (M 1 9 ||| nI k) = 0
        · obtain ⟨b, b1, b2, b3⟩ := hfew c1
          rw [b2, few_e (by omega) (by omega), if_pos b3, if_pos rfl]
        · rw [if_neg c1, ite_self]
      · rcases i3 with e | ⟨b, b1, b2⟩
        · exact Or.inl e
        · exact Or.inr ⟨b, by omega, b2⟩
      · by_cases ej : j = k
        · rw [ej] at hh ⊢
          obtain ⟨b, b1, b2, b3⟩ := hfew hh
          exact ⟨b, by omega, b2, b3⟩
        · obtain ⟨b', b1', b2', b3'⟩ := i4 j (by omega) hh
          exact ⟨b', by omega, b2', b3'⟩
theorem hide_e {n : Nat} {tt : tT} {X : xS} {M : mS} (h : INV n tt X M) (c : Int32) : AL n tt (x8_hide tt X c) (mF_hide M c) := by
  unfold x8_hide mF_hide
  simp only [lt_i, lt2_p, lt2_i, isC_e h]
  by_cases c1 : mF_isCell M c = 0
  · rw [if_pos c1, if_pos c1]; exact er1 h
  rw [if_neg c1, if_neg c1]
  have f6 : X 1 6 = M 1 1 := (eN_f (INV_eE h).1).2.2.2.1
  rw [f6]
  obtain ⟨r1, r2⟩ := mrs_e h (Y := X) (fun _ _ => rfl) (fun x _ _ => rfl : fh M M)
  obtain ⟨d1, d2, d3⟩ := (INV_R h).1
  have hp : 2 ^ (vn (M 1 3) - 1) ≤ 512 := Nat.pow_le_pow_right (n := 2) (by decide) (show vn (M 1 3) - 1 ≤ 9 by omega)
  obtain ⟨i1, i2, i3, i4⟩ := hide_L h r2 r1 c (2 ^ (vn (M 1 3) - 1)) hp
  have i5 := hd_k M c (M 1 9) (2 ^ (vn (M 1 3) - 1))
  rw [r2 1 (by decide), (eN_f (INV_eE h).1).1, i1]
  generalize mF_hide_L28 M c (M 1 9) (2 ^ (vn (M 1 3) - 1)) = qm at i2 i5 ⊢
  have hb : INV n tt (x8_measureReaches tt X (M 1 1)) (mU qm.2 1 9 (M 1 9)) := INV_c h (fun p _ _ _ _ h59 _ => r2 p h59) (fun x _ => by
    rw [mU_sm]
    by_cases e : x = 9
    · rw [if_pos e, e]
    · rw [if_neg e]; exact i5 x e) (fun i h1 _ _ _ _ _ _ => by rw [mU_row h1]; exact i2 i h1)
  by_cases c3 : 0 ≤ qm.1
  · rw [if_pos c3, if_pos c3]; exact AL_mk rfl hb
  · rw [if_neg c3, if_neg c3]; exact er2 hb
