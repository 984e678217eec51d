/-! acts: hours, draws, evenings, hail -/
theorem held_rng (v : Int32) {m : Nat} (hm : m < 2 ^ 31) : ∃ w, w ≤ m ∧ sF_held v 0 (nI m) = nI w := by
  unfold sF_held
  by_cases h : 0 ≤ v
  · rw [if_pos h]
    by_cases h2 : v ≤ nI m
    · rw [if_pos h2]
      obtain ⟨a, b⟩ := nn_of (x := v) (Int32.not_lt.mpr h) h2 hm
      exact ⟨vn v, b, a⟩
    · rw [if_neg h2]; exact ⟨m, Nat.le_refl _, rfl⟩
  · rw [if_neg h]; exact ⟨0, Nat.zero_le _, rfl⟩
theorem takes_rng (M : mS) (q : Nat) : ∃ w, w ≤ 99 ∧ mF_takes M q = nI w := by
  have hl : ∀ a b c, ∃ w, w ≤ 99 ∧ mF_lawOf M 1 a b c = nI w := by
    intro a b c
    unfold mF_lawOf
    simp only [lt_i]
    rw [show (if nI 1 = 0 then (9 : Int32) else 99) = nI 99 from rfl]
    split
    · exact held_rng _ (by decide)
    · exact held_rng _ (by decide)
  unfold mF_takes
  simp only [lt_i]
  obtain ⟨w, w1, w2⟩ := hl (mF_its M q 1) (M 1 (12 + aN M q)) (M 1 0)
  rw [w2]
  by_cases c1 : mF_its M q 0 = 3
  · simp only [if_pos c1]; exact ⟨w, w1, rfl⟩
  · simp only [if_neg c1]
    by_cases c2 : mF_its M q 0 = 6
    · simp only [if_pos c2]
      exact ⟨w / 2, by omega, by rw [show (2 : Int32) = nI 2 from rfl, pk_div (by omega) (by decide) (by decide)]⟩
    · simp only [if_neg c2]; exact ⟨0, by omega, rfl⟩
theorem min_rng {t g : Int32} {a b : Nat} (ha : t = nI a) (hb : g = nI b) (ha2 : a < 2 ^ 31) (hb2 : b < 2 ^ 31) : ∃ w, w ≤ b ∧ w ≤ a ∧ (if t ≤ g then t else g) = nI w := by
  rw [ha, hb]
  by_cases h : nI a ≤ nI b
  · rw [if_pos h]; rw [nI_leI ha2 hb2] at h; exact ⟨a, h, Nat.le_refl _, rfl⟩
  · rw [if_neg h]; rw [nI_leI ha2 hb2] at h; exact ⟨b, Nat.le_refl _, by omega, rfl⟩
/-- an hour leaves all else of the row -/
theorem tG_hi (M : mS) {q : Nat} (hq : q < 8) {x : Nat} (hx : 64 ≤ x) (ha : aN M q < 10) : mF_takesAndGoes M q 1 x = M 1 x := by
  obtain ⟨u, y, z, h | ⟨_, h⟩⟩ := tG_form M q <;> rw [h, mU_ne (by omega), mU_ne (by omega), mU_ne (by omega)]
theorem oH_L169_hi {M : mS} (hR : rOK M) {x : Nat} (hx : 64 ≤ x) : ∀ k, k ≤ 8 → mF_oneHour_L169 M k 1 x = M 1 x := by
  intro k
  induction k with
  | zero => intro _; rfl
  | succ k ih =>
    intro hk
    rw [mF_oneHour_L169_s]
    simp only [lt_i]
    have ih := ih (by omega)
    by_cases c : nI k = mF_oneHour_L169 M k 0 15
    · rw [if_pos c]; exact ih
    · rw [if_neg c, tG_hi _ (by omega) hx (aN_lt (oH_L169_R hR k (by omega)) (by omega))]; exact ih
theorem oH_L108_hi (M : mS) {x : Nat} (hx : x < 12 ∨ 22 ≤ x) : ∀ k, k ≤ 10 → mF_oneHour_L108 M k 1 x = M 1 x := by
  intro k
  induction k with
  | zero => intro _; rfl
  | succ k ih =>
    intro hk
    rw [mF_oneHour_L108_s]
    simp only [lt_i]
    rw [mU_ne (by omega)]
    exact ih (by omega)
theorem oH_hi {M : mS} (hR : rOK M) {x : Nat} (hx : 64 ≤ x) : mF_oneHour M 1 x = M 1 x := by
  unfold mF_oneHour
  simp only [lt_i]
  have e27 : mF_oneHour_L27 M (mF_oneHour_L2 M (vn (M 1 3))) (vn (M 1 8)) 1 = M 1 := (oH_L27 M _ _ 1 (by decide)).trans (oH_L2 M _ 1 (by decide))
  have hR27 := rOK_row e27 hR
  rw [mU_ne (by omega), oH_L169_hi (oH_L108_R hR27 _ hR.1.2.2) hx _ hR.2.1.2, oH_L108_hi _ (by omega) _ hR.1.2.2, e27]
theorem gOK_row {R R2 : Nat → Int32} (h : gOK R) (hx : ∀ x, x = 3 ∨ x = 8 ∨ (12 ≤ x ∧ x < 64) → R2 x = R x) : gOK R2 := by
  refine ⟨fun c hc => ?_, fun q hq => ?_, fun q hq hq2 => ?_⟩
  · rw [hx _ (by omega), hx _ (by omega)]; exact h.1 c hc
  · rw [hx _ (by omega)]; exact h.2.1 q hq
  · rw [hx 8 (by omega)] at hq2
    rw [hx 3 (by omega), hx _ (by omega)]; exact h.2.2 q hq hq2
theorem gOK_108 {M : mS} (h : gOK (M 1)) : ∀ k, k ≤ 10 → gOK (mF_oneHour_L108 M k 1) := by
  intro k
  induction k with
  | zero => intro _; exact h
  | succ k ih =>
    intro hk
    rw [mF_oneHour_L108_s]
    simp only [lt_i]
    obtain ⟨w, w1, w2⟩ := held_rng (mF_oneHour_L108 M k 1 (12 + k) + mF_oneHour_L108 M k 6 k / 2 - mF_oneHour_L108 M k 1 (22 + k)) (m := 99999) (by decide)
    rw [show (99999 : Int32) = nI 99999 from rfl, w2, mU_at]
    exact gOK_g (ih (by omega)) (by omega) w1
theorem gOK_tG {M : mS} {q : Nat} (hC : cOK M) (h : gOK (M 1)) (ha : aN M q < 10) : gOK (mF_takesAndGoes M q 1) := by
  unfold mF_takesAndGoes mF_gets
  simp only [lt_i]
  obtain ⟨t, t1, t2⟩ := takes_rng M q
  have hg := (h.1 _ ha).1
  obtain ⟨w, w1, w2, w3⟩ := min_rng t2 hg.1 (by omega) (by omega)
  have e : (if mF_takes M q ≤ M 1 (12 + aN M q) then mF_takes M q else M 1 (12 + aN M q)) = nI w := w3
  rw [e]
  have e2 : M 1 (12 + aN M q) - nI w = nI (vn (M 1 (12 + aN M q)) - w) := nt_sub hg.1 rfl w1
  rw [e2]
  have h1 : gOK (mU M 1 (12 + aN M q) (nI (vn (M 1 (12 + aN M q)) - w)) 1) := by rw [mU_at]; exact gOK_g h ha (by omega)
  have c1 : mU M 1 (12 + aN M q) (nI (vn (M 1 (12 + aN M q)) - w)) 1 3 = M 1 3 := mU_ne (by omega)
  generalize mU M 1 (12 + aN M q) (nI (vn (M 1 (12 + aN M q)) - w)) = N at h1 c1 ⊢
  have h2 : ∀ v, gOK (mU N 1 11 v 1) := fun v => by rw [mU_at]; exact gOK_o h1 (by omega)
  generalize sF_held (N 1 11 + nI w) 0 99999 = v
  have h2 := h2 v
  have c2 : mU N 1 11 v 1 3 = M 1 3 := (mU_ne (by omega)).trans c1
  generalize mU N 1 11 v = N2 at h2 c2 ⊢
  have hC2 : cOK N2 := by unfold cOK; rw [c2]; exact hC
  by_cases c : mF_isCell N2 (mF_its N2 q 2 + mF_its N2 q 3) = 0
  · rw [if_pos c, mU_at]; exact gOK_o h2 (by omega)
  · rw [if_neg c, mU_at]; exact gOK_at h2 (cell_of hC2 c).2
theorem gOK_169 {M : mS} (hR : rOK M) (h : gOK (M 1)) : ∀ k, k ≤ 8 → gOK (mF_oneHour_L169 M k 1) := by
  intro k
  induction k with
  | zero => intro _; exact h
  | succ k ih =>
    intro hk
    rw [mF_oneHour_L169_s]
    simp only [lt_i]
    by_cases c : nI k = mF_oneHour_L169 M k 0 15
    · rw [if_pos c]; exact ih (by omega)
    · rw [if_neg c]; exact gOK_tG (oH_L169_R hR k (by omega)).1 (ih (by omega)) (aN_lt (oH_L169_R hR k (by omega)) (by omega))
theorem gOK_h {M : mS} (hR : rOK M) (h : gOK (M 1)) : gOK (mF_oneHour M 1) := by
  unfold mF_oneHour
  simp only [lt_i]
  have e27 : mF_oneHour_L27 M (mF_oneHour_L2 M (vn (M 1 3))) (vn (M 1 8)) 1 = M 1 := (oH_L27 M _ _ 1 (by decide)).trans (oH_L2 M _ 1 (by decide))
  have hR27 := rOK_row e27 hR
  have hg27 : gOK (mF_oneHour_L27 M (mF_oneHour_L2 M (vn (M 1 3))) (vn (M 1 8)) 1) := by rw [e27]; exact h
  have hg := gOK_169 (oH_L108_R hR27 _ hR.1.2.2) (gOK_108 hg27 _ hR.1.2.2) _ hR.2.1.2
  rw [mU_at]
  exact gOK_o hg (by omega)
theorem hr_e {n : Nat} {tt : tT} {X : xS} {M : mS} (h : INV n tt X M) : INV n tt (x0_passHour tt X 1) (mF_oneHour M) := by
  have hR := INV_R h
  obtain ⟨e1, e2, e3⟩ := hour_e (INV_eE h) hR h.2.1
  obtain ⟨⟨T, t1, t2, t3, t4⟩, ⟨W, w1, w2, w3, w4⟩⟩ := h.1.2.1
  have hx : ∀ p, p = 0 ∨ 9 ≤ p → x0_passHour tt X 1 p = X p := fun p hp => ph_out tt (by omega)
  refine INV_E h ⟨e1, ⟨⟨T, t1, ?_, ?_, fun j hj => ?_⟩, ⟨W, w1, ?_, ?_, fun j hj => ?_⟩⟩, ⟨e2, gOK_h hR (gX h)⟩, (ph_R (INV_eR h).1).1.2.2.1⟩ (fun p hp => hx p (by omega)) (fun i h1 h6 => oH_row M i h1 h6)
  · rw [hx _ (by omega)]; exact t2
  · rw [oH_k M 4 (by decide) (by decide)]; exact t3
  · rw [hx _ (by omega), oH_hi hR (by omega)]; exact t4 j hj
  · rw [hx _ (by omega)]; exact w2
  · rw [oH_k M 5 (by decide) (by decide)]; exact w3
  · rw [hx _ (by omega), oH_hi hR (by omega)]; exact w4 j hj
theorem hrs_e {n : Nat} {tt : tT} {X : xS} {M : mS} (h : INV n tt X M) : ∀ k, INV n tt (x8_hours_L39 tt X k) (mF_passes_L2 M k) := by
  intro k
  induction k with
  | zero => exact h
  | succ k ih =>
    rw [x8_hours_L39_s, mF_passes_L2_s]
    simp only [lt_i]
    exact hr_e ih
theorem tog {n : Nat} {tt : tT} {X : xS} {M : mS} (h : INV n tt X M) : x0_together X 1 = mF_grains M := tog_e (INV_eE h).1 (INV_R h).1
theorem hours_e {n : Nat} {tt : tT} {X : xS} {M : mS} (h : INV n tt X M) (k : Int32) : AL n tt (x8_hours tt X k) (mF_hours M k) := by
  unfold x8_hours mF_hours mF_passes
  simp only [lt_i, lt2_p, in_e]
  rw [(eN_f (INV_eE h).1).2.2.2.2.1]
  by_cases c1 : sF_in k 1 50 = 0
  · rw [if_pos c1, if_pos c1]; exact er1 h
  rw [if_neg c1, if_neg c1]
  by_cases c2 : M 1 0 + k ≤ 9999
  · rw [if_pos c2, if_pos c2]
    have hk := hrs_e h (vn k)
    exact ⟨tog hk, hk⟩
  · rw [if_neg c2, if_neg c2]; exact er3 h
theorem turn_e {n : Nat} {tt : tT} {X : xS} {M : mS} (h : INV n tt X M) : INV n tt (x0_turnOneByDraws X 1) (if (M 1 8) ≤ 0 then M else (lt2 (mF_drawn M (M 1 8)) fun (x63 : Int32) (M63 : mS) => lt2 (mF_drawn M63 3) fun (x72 : Int32) (M72 : mS) => lt (mF_gets M72 (vn x63) 3 (x72 - 1)) fun (M77 : mS) => M77)) := by
  have hn := n8 h
  unfold x0_turnOneByDraws mF_drawn mF_gets x0_draw
  simp only [lt_i, lt2_i]
  rw [hn.2]
  by_cases c : M 1 8 ≤ 0
  · rw [if_pos c, if_pos c]; exact h
  rw [if_neg c, if_neg c]
  have hP := (INV_R h).2.1
  have hz : ∀ (Y : xS) (N : mS) (v : Int32), INV n tt Y N → INV n tt (mU Y 1 18 v) (mU N 1 2 v) := fun Y N v g => up_e g (Or.inl ⟨rfl, by omega⟩) v (rOK_up (INV_R g) (by omega) (by omega) (by omega) (by omega) (fun q _ => by omega) (fun q _ => by omega)) (gOK_o (gX g) (by omega)) (eA_o (aX g) (by decide))
  have e18 := fun (Y : xS) (N : mS) (g : INV n tt Y N) => (eN_f (INV_eE g).1).2.2.2.2.2.2
  rw [e18 X M h]
  have h1 := hz X M (M 1 2 * 1103515245 + 12345) h
  rw [show mU X 1 18 (M 1 2 * 1103515245 + 12345) 1 9 = M 1 8 by rw [mU_ne (by decide)]; exact hn.2]
  generalize mU X 1 18 (M 1 2 * 1103515245 + 12345) = Y at h1 ⊢
  generalize hN : mU M 1 2 (M 1 2 * 1103515245 + 12345) = N at h1 ⊢
  rw [e18 Y N h1]
  have hlt := drawn_lt (M := M) (M2 := N) (b := M 1 8) (x := (((N 1 2).toUInt32 >>> ((8 : Int32).toUInt32 &&& Int32.toUInt32 31)).toInt32 - ((N 1 2).toUInt32 >>> ((8 : Int32).toUInt32 &&& Int32.toUInt32 31)).toInt32 / M 1 8 * M 1 8)) (n := vn (M 1 8)) (by unfold mF_drawn; simp only [lt_i]; rw [hN]) ⟨hP.1, by
    rcases Nat.eq_zero_or_pos (vn (M 1 8)) with e | e
    · rw [hP.1, e] at c; exact absurd (by decide) c
    · exact e, hP.2⟩
  generalize ((N 1 2).toUInt32 >>> ((8 : Int32).toUInt32 &&& Int32.toUInt32 31)).toInt32 - ((N 1 2).toUInt32 >>> ((8 : Int32).toUInt32 &&& Int32.toUInt32 31)).toInt32 / M 1 8 * M 1 8 = x at hlt ⊢
  have h2 := hz Y N (N 1 2 * 1103515245 + 12345) h1
  have e9 : vn (mU Y 1 18 (N 1 2 * 1103515245 + 12345) 1 9) = vn (M 1 8) := by
    have := (n8 h2).1
    rw [this, mU_ne (by decide), ← hN, mU_ne (by decide)]
  rw [e18 _ _ h2]
  generalize mU Y 1 18 (N 1 2 * 1103515245 + 12345) = Y2 at h2 e9 ⊢
  generalize mU N 1 2 (N 1 2 * 1103515245 + 12345) = N2 at h2 ⊢
  have hq8 : vn x < 8 := Nat.lt_of_lt_of_le hlt.2 hP.2
  exact up_e h2 (Or.inr (Or.inr ⟨by rw [e9]; exact hlt.2, Or.inr (Or.inr (Or.inr ⟨rfl, by rw [sk8 hq8]⟩))⟩)) _ (rOK_up (INV_R h2) (by omega) (by omega) (by omega) (by omega) (fun q _ => by omega) (fun q _ => by omega)) (gOK_o (gX h2) (by omega)) (eA_o (aX h2) (by decide))
theorem loo_e {n : Nat} {tt : tT} {X : xS} {M : mS} (h : INV n tt X M) : ∀ k, INV n tt (x8_loose_L39 tt X k) (mF_loose_L40 M k) := by
  intro k
  induction k with
  | zero => exact h
  | succ k ih =>
    rw [x8_loose_L39_s, mF_loose_L40_s]
    have h1 := turn_e ih
    rw [lt_i, lt_i, lt_i, lt_i, lt_i, lt_i]
    exact hr_e h1
theorem loose_e {n : Nat} {tt : tT} {X : xS} {M : mS} (h : INV n tt X M) (k : Int32) : AL n tt (x8_loose tt X k) (mF_loose M k) := by
  unfold x8_loose mF_loose
  simp only [lt_i, lt2_p, in_e]
  rw [(eN_f (INV_eE h).1).2.2.2.2.1]
  by_cases c1 : sF_in k 1 40 = 0
  · rw [if_pos c1, if_pos c1]; exact er1 h
  rw [if_neg c1, if_neg c1]
  by_cases c2 : M 1 0 + k ≤ 9999
  · rw [if_pos c2, if_pos c2]
    have hk := loo_e h (vn k)
    exact ⟨tog hk, hk⟩
  · rw [if_neg c2, if_neg c2]; exact er3 h
theorem gr_up {n : Nat} {tt : tT} {X : xS} {M : mS} (h : INV n tt X M) {c w : Nat} (hc : c < 10) (hw : w ≤ 99999) : INV n tt (mU X 2 c (nI w)) (mU M 1 (12 + c) (nI w)) :=
  up_e h (Or.inr (Or.inl ⟨hc, Or.inl ⟨rfl, rfl⟩⟩)) _ (rOK_up (INV_R h) (by omega) (by omega) (by omega) (by omega) (fun q _ => by omega) (fun q _ => by omega)) (gOK_g (gX h) hc hw) (eA_o (aX h) (by decide))
theorem eve_L {n : Nat} {tt : tT} {X : xS} {M : mS} (h : INV n tt X M) : ∀ k, k ≤ vn (M 1 3) - 1 → INV n tt (x0_addUpLeaning_L2 X 1 k) (mF_evening_L2 M k) := by
  intro k
  induction k with
  | zero => intro _; exact h
  | succ k ih =>
    intro hk
    have ih := ih (by omega)
    have h10 := (INV_R h).1.2.2
    rw [x0_addUpLeaning_L2_s, mF_evening_L2_s]
    simp only [lt_i]
    generalize x0_addUpLeaning_L2 X 1 k = Y at ih ⊢
    generalize mF_evening_L2 M k = N at ih ⊢
    have f5 : Y 1 5 = N 1 10 := (eN_f (INV_eE ih).1).2.2.1
    have g1 : Y (1 + 1) k = N 1 (12 + k) := (eN_g (INV_eE ih).1 (c := k) (by omega)).1
    have g2 : Y (1 + 1) (k + 1) = N 1 (12 + k + 1) := (eN_g (INV_eE ih).1 (c := k + 1) (by omega)).1
    rw [f5, has_e, g1, g2, held_e]
    by_cases c : sF_has (N 1 10) (nI k) = 0
    · rw [if_pos c, if_pos c]; exact ih
    rw [if_neg c, if_neg c]
    have hg := ((gX ih).1 k (by omega)).1
    have er : N 1 (12 + k) - N 1 (12 + k) / 9 * 9 = nI (vn (N 1 (12 + k)) % 9) := by
      rw [show (9 : Int32) = nI 9 from rfl]
      have := pk_rem (a := vn (N 1 (12 + k))) (d := 9) (by omega) (by decide) (by decide)
      rw [← hg.1] at this
      exact this
    rw [er]
    obtain ⟨w, w1, w2⟩ := held_rng (N 1 (12 + k + 1) + N 1 (12 + k) - nI (vn (N 1 (12 + k)) % 9)) (m := 99999) (by decide)
    rw [show (99999 : Int32) = nI 99999 from rfl, w2]
    exact gr_up (gr_up ih (c := k + 1) (by omega) w1) (by omega) (by omega)
theorem evening_e {n : Nat} {tt : tT} {X : xS} {M : mS} (h : INV n tt X M) : AL n tt (x8_evening X) (mF_evening M) := by
  unfold x8_evening mF_evening x0_addUpLeaning
  simp only [lt_i]
  rw [(eN_f (INV_eE h).1).1]
  have hk := eve_L h (vn (M 1 3) - 1) (Nat.le_refl _)
  exact ⟨tog hk, hk⟩
theorem hail_L {n : Nat} {tt : tT} {v : Int32} {d : Nat} (hv : v = nI d) (hd : 2 ≤ d) (hd9 : d ≤ 9) {M : mS} (hC : cOK M) : ∀ (f k : Nat) (X : xS), vn (M 1 3) - k < f → k ≤ vn (M 1 3) → INV n tt X (mF_hail_L19 M v k) → INV n tt (x0_divideGrains_L2 1 v f k X).2 (mF_hail_L19 M v (vn (M 1 3))) := by
  intro f
  induction f with
  | zero => intro k X h; exact absurd h (Nat.not_lt_zero _)
  | succ f ih =>
    intro k X hf hk h
    rw [x0_divideGrains_L2_s]
    have f0 := (eN_f (INV_eE h).1).1
    rw [ha_L19 v M k 3 (by decide), hC.1] at f0
    have h10 := hC.2.2
    rw [f0]
    by_cases c : nI (vn (M 1 3)) ≤ nI k
    · rw [if_pos c]
      rw [nI_leI (by omega) (by omega)] at c
      rw [show vn (M 1 3) = k by omega]
      exact h
    · rw [if_neg c, if_neg (show ¬ v = 0 by rw [hv, show (0 : Int32) = nI 0 from rfl, nI_eq (by omega) (by decide)]; omega)]
      rw [nI_leI (by omega) (by omega)] at c
      simp only [lt_i]
      have g1 : X (1 + 1) k = mF_hail_L19 M v k 1 (12 + k) := (eN_g (INV_eE h).1 (c := k) (by omega)).1
      have hg := ((gX h).1 k (by omega)).1
      have e : X (1 + 1) k / v = nI (vn (mF_hail_L19 M v k 1 (12 + k)) / d) := by
        rw [g1, hv]
        have := pk_div (a := vn (mF_hail_L19 M v k 1 (12 + k))) (d := d) (by omega) (by omega) (by omega)
        rw [hv] at hg this
        rw [← hg.1] at this
        exact this
      have hle : vn (mF_hail_L19 M v k 1 (12 + k)) / d ≤ 99999 := Nat.le_trans (Nat.div_le_self _ _) hg.2
      apply ih (k + 1) _ (by omega) (by omega)
      rw [mF_hail_L19_s]
      simp only [lt_i]
      rw [← g1, e]
      exact gr_up h (by omega) hle
theorem hail_e {n : Nat} {tt : tT} {X : xS} {M : mS} (h : INV n tt X M) (v : Int32) : AL n tt (x8_hail X v) (mF_hail M v) := by
  unfold x8_hail mF_hail x0_divideGrains
  simp only [lt_i, lt2_i, in_e]
  by_cases c1 : sF_in v 2 9 = 0
  · rw [if_pos c1, if_pos c1]; exact er1 h
  rw [if_neg c1, if_neg c1]
  have hC := (INV_R h).1
  obtain ⟨w1, w2⟩ := in_pos (m := 9) c1 (by decide) ⟨rfl, by decide⟩
  have hd : 2 ≤ vn v := by
    have := (in_of c1).1
    rw [w1, show (2 : Int32) = nI 2 from rfl, nI_ltI (by omega) (by decide)] at this
    omega
  have hk := hail_L (n := n) (tt := tt) w1 hd w2 hC fu11 0 X (by have := hC.2.2; show _ < 11; omega) (Nat.zero_le _) h
  exact ⟨tog hk, hk⟩
