theorem kmd : ∀ w, w < 70 → nI w / 10 = nI (w / 10) ∧ nI w - nI w / 10 * 10 = nI (w % 10) := by decide
theorem rOK_kd {M : mS} {q w : Nat} (hR : rOK M) (hw : w ≤ 6) : rOK (mU M 1 (32 + 4 * q + 0) (nI w)) := by
  refine ⟨?_, ?_, fun p hp => ?_, fun p hp => ?_, fun u hu => ?_⟩
  · unfold cOK; rw [mU_ne (by omega)]; exact hR.1
  · unfold pOK; rw [mU_ne (by omega)]; exact hR.2.1
  · by_cases e : p = q
    · rw [e, mU_eq, vn_nI (by omega)]; exact ⟨rfl, hw⟩
    · rw [mU_ne (by omega)]; exact hR.2.2.1 p hp
  · rw [mU_ne (by omega)]; exact hR.2.2.2.1 p hp
  · rw [mU_ne (by omega)]; exact hR.2.2.2.2 u hu
theorem become_e {n : Nat} {tt : tT} {X : xS} {M : mS} (h : INV n tt X M) (q km : Int32) : AL n tt (x8_become X q km) (mF_become M q km) := by
  unfold x8_become mF_become mF_gets p8_isKindAndNumber
  simp only [lt_i, lt2_p, bec_e, in_e, isP_e h]
  by_cases c1 : mF_isPerson M q = 0
  · rw [if_pos c1, if_pos c1]; exact er1 h
  rw [if_neg c1, if_neg c1]
  by_cases c2 : sF_in km 0 69 = 0
  · rw [if_pos c2, if_pos c2]; exact er1 h
  rw [if_neg c2, if_neg c2]
  have hR := INV_R h
  obtain ⟨d1, d2⟩ := person_of hR.2.1 c1
  have hq8 : vn q < 8 := Nat.lt_of_lt_of_le d2 hR.2.1.2
  have hn := n8 h
  have hqx : vn q < vn (X 1 9) := by rw [hn.1]; exact d2
  obtain ⟨q4, q5, q6, q7⟩ := eN_p (INV_eE h).1 hqx
  rw [sk8 hq8] at q4 q5 q6 q7
  obtain ⟨w1, w2⟩ := in_nat (n := 69) c2 ⟨rfl, by decide⟩
  obtain ⟨k1, k2⟩ := kmd (vn km) (by omega)
  rw [w1, k2, k1]
  have hl1 : lk 8 (vn (X 1 9)) 1 6 (vn q) (32 + 4 * vn q + 1) := Or.inr (Or.inr ⟨hqx, Or.inr (Or.inl ⟨rfl, by rw [sk8 hq8]⟩)⟩)
  have h1 := up_e h hl1 (nI (vn km % 10)) (rOK_up hR (by omega) (by omega) (by omega) (by omega) (fun q _ => by omega) (fun q _ => by omega)) (gOK_m (gX h) hq8 (by omega)) (eA_o (aX h) (by decide))
  have hl2 : lk 8 (vn (mU X 6 (vn q) (nI (vn km % 10)) 1 9)) 1 5 (vn q) (32 + 4 * vn q + 0) := Or.inr (Or.inr ⟨by rw [mU_row (by decide)]; exact hqx, Or.inl ⟨rfl, by rw [sk8 hq8]⟩⟩)
  have h2 := up_e h1 hl2 (nI (vn km / 10)) (rOK_kd (INV_R h1) (by omega)) (gOK_o (gX h1) (by omega)) (eA_o (aX h1) (by decide))
  have e : mU (mU X 6 (vn q) (nI (vn km % 10))) 5 (vn q) (nI (vn km / 10)) = mU (mU X 5 (vn q) (nI (vn km / 10))) 6 (vn q) (nI (vn km % 10)) := by
    funext a b
    rw [mU_pt, mU_pt, mU_pt, mU_pt]
    by_cases e5 : a = 5 ∧ b = vn q
    · rw [if_pos e5, if_neg (by omega), if_pos e5]
    · rw [if_neg e5, if_neg e5]
  rw [e] at h2
  refine ⟨?_, h2⟩
  show X 5 (vn q) = mU M 1 (32 + 4 * vn q + 1) (nI (vn km % 10)) 1 (32 + 4 * vn q)
  rw [mU_ne (by omega), q4]
  rfl
theorem lk_nb {n a b x : Nat} (hn : n ≤ 8) (h : lk 8 n 1 a b x) : ((a = 1 ∧ b ≠ 9) ∨ a = 2 ∨ a = 3 ∨ (5 ≤ a ∧ a ≤ 8 ∧ b < n)) ∧ x ≠ 8 ∧ x < 32 + 4 * n := by
  have s1 := sk_cs 8 b
  unfold lk at h
  generalize sk 8 b = s at s1 h
  rcases h with ⟨h, h1⟩ | ⟨h, h1⟩ | ⟨h, h1⟩
  · omega
  · omega
  · omega
theorem pl_lk {p a b x : Nat} (hp : p < 8) (hk : lk 8 (p + 1) 1 a b x) : (b = p ∧ (a = 5 ∧ x = 32 + 4 * p + 0 ∨ a = 6 ∧ x = 32 + 4 * p + 1 ∨ a = 7 ∧ x = 32 + 4 * p + 2 ∨ a = 8 ∧ x = 32 + 4 * p + 3)) ∨ (lk 8 p 1 a b x ∧ ¬ (a = 1 ∧ b = 9) ∧ ¬ (a = 8 ∧ b = p) ∧ ¬ (a = 7 ∧ b = p) ∧ ¬ (a = 6 ∧ b = p) ∧ ¬ (a = 5 ∧ b = p) ∧ ¬ x = 8 ∧ ¬ x = 32 + 4 * p + 3 ∧ ¬ x = 32 + 4 * p + 2 ∧ ¬ x = 32 + 4 * p + 1 ∧ ¬ x = 32 + 4 * p + 0) := by
  by_cases hb : b = p ∧ 5 ≤ a
  · refine Or.inl ⟨hb.1, ?_⟩
    have s1 := sk_cs 8 b
    unfold lk at hk
    generalize sk 8 b = s at s1 hk
    rcases hk with ⟨h, h1⟩ | ⟨h, h1⟩ | ⟨h, h1⟩
    · omega
    · omega
    · omega
  · have h2 : lk 8 p 1 a b x := by
      unfold lk at hk ⊢
      rcases hk with h | h | ⟨h, h1⟩
      · exact Or.inl h
      · exact Or.inr (Or.inl h)
      · exact Or.inr (Or.inr ⟨by omega, h1⟩)
    have h3 := lk_nb (by omega) h2
    obtain ⟨g1, g2, g3⟩ := h3
    refine Or.inr ⟨h2, ?_, ?_, ?_, ?_, ?_, g2, ?_, ?_, ?_, ?_⟩ <;> omega
theorem person_e {n : Nat} {tt : tT} {X : xS} {M : mS} (h : INV n tt X M) (km c : Int32) : AL n tt (x8_person X km c) (mF_person M km c) := by
  have hR := INV_R h
  have hn := n8 h
  have hP := hR.2.1
  unfold x8_person mF_person p8_isKindAndNumber x0_addOne mF_gets
  simp only [lt_i, lt2_i, in_e, isC_e h]
  by_cases c2 : sF_in km 0 69 = 0
  · rw [if_pos c2, if_pos c2]; exact er1 h
  rw [if_neg c2, if_neg c2]
  by_cases c1 : mF_isCell M c = 0
  · rw [if_pos c1, if_pos c1]; exact er1 h
  rw [if_neg c1, if_neg c1]
  by_cases c3 : M 1 8 = 8
  · rw [if_pos c3, if_neg (show ¬ X 1 9 < 8 by rw [hn.2, c3]; decide)]; exact er4 h
  have hlt : vn (M 1 8) < 8 := by
    rcases Nat.lt_or_ge (vn (M 1 8)) 8 with w | w
    · exact w
    · exact absurd (by rw [hP.1, show vn (M 1 8) = 8 by have := hP.2; omega]; rfl) c3
  rw [if_neg c3, if_pos (show X 1 9 < 8 by rw [hn.2, hP.1, show (8 : Int32) = nI 8 from rfl, nI_ltI (by omega) (by decide)]; exact hlt)]
  rw [if_neg (show ¬ 8 ≤ nI (vn (X 1 9)) by rw [hn.1, show (8 : Int32) = nI 8 from rfl, nI_leI (by decide) (by omega)]; omega)]
  obtain ⟨w1, w2⟩ := in_nat (n := 69) c2 ⟨rfl, by decide⟩
  obtain ⟨k1, k2⟩ := kmd (vn km) (by omega)
  obtain ⟨d1, d2⟩ := cell_of hR.1 c1
  have hc10 : vn c < 10 := Nat.lt_of_lt_of_le d2 hR.1.2.2
  rw [w1, k2, k1, hn.1]
  generalize hp : vn (M 1 8) = p at hlt ⊢
  have e9 : ∀ Y : xS, Y 1 9 = X 1 9 → Y 1 9 + 1 = nI (p + 1) := fun Y hY => by rw [hY, hn.2, hP.1, hp, nI_1]
  have e9' : mU (mU (mU (mU X (1 + 4) p (nI (vn km / 10))) (1 + 5) p (nI (vn km % 10))) (1 + 6) p c) (1 + 7) p 0 1 9 = X 1 9 := by
    rw [mU_row (by decide), mU_row (by decide), mU_row (by decide), mU_row (by decide)]
  have e8' : mU (mU (mU (mU M 1 (32 + 4 * p + 0) (nI (vn km / 10))) 1 (32 + 4 * p + 1) (nI (vn km % 10))) 1 (32 + 4 * p + 2) c) 1 (32 + 4 * p + 3) 0 1 8 = M 1 8 := by
    rw [mU_ne (by omega), mU_ne (by omega), mU_ne (by omega), mU_ne (by omega)]
  rw [e9 _ e9', e8', hP.1, hp, nI_1]
  refine ⟨rfl, ?_⟩
  show INV n tt (mU (mU (mU (mU (mU X 5 p (nI (vn km / 10))) 6 p (nI (vn km % 10))) 7 p c) 8 p 0) 1 9 (nI (p + 1))) (mU (mU (mU (mU (mU M 1 (32 + 4 * p + 0) (nI (vn km / 10))) 1 (32 + 4 * p + 1) (nI (vn km % 10))) 1 (32 + 4 * p + 2) c) 1 (32 + 4 * p + 3) 0) 1 8 (nI (p + 1)))
  have hXr : ∀ a b, mU (mU (mU (mU (mU X 5 p (nI (vn km / 10))) 6 p (nI (vn km % 10))) 7 p c) 8 p 0) 1 9 (nI (p + 1)) a b = if a = 1 ∧ b = 9 then nI (p + 1) else if a = 8 ∧ b = p then 0 else if a = 7 ∧ b = p then c else if a = 6 ∧ b = p then nI (vn km % 10) else if a = 5 ∧ b = p then nI (vn km / 10) else X a b := fun a b => by rw [mU_pt, mU_pt, mU_pt, mU_pt, mU_pt]
  have hMr : ∀ x, mU (mU (mU (mU (mU M 1 (32 + 4 * p + 0) (nI (vn km / 10))) 1 (32 + 4 * p + 1) (nI (vn km % 10))) 1 (32 + 4 * p + 2) c) 1 (32 + 4 * p + 3) 0) 1 8 (nI (p + 1)) 1 x = if x = 8 then nI (p + 1) else if x = 32 + 4 * p + 3 then 0 else if x = 32 + 4 * p + 2 then c else if x = 32 + 4 * p + 1 then nI (vn km % 10) else if x = 32 + 4 * p + 0 then nI (vn km / 10) else M 1 x := fun x => by rw [mU_sm, mU_sm, mU_sm, mU_sm, mU_sm]
  have hX2 : ∀ a, a = 0 ∨ 9 ≤ a → mU (mU (mU (mU (mU X 5 p (nI (vn km / 10))) 6 p (nI (vn km % 10))) 7 p c) 8 p 0) 1 9 (nI (p + 1)) a = X a := fun a ha => by rw [mU_row (by omega), mU_row (by omega), mU_row (by omega), mU_row (by omega), mU_row (by omega)]
  have hM2 : ∀ i, i ≠ 1 → mU (mU (mU (mU (mU M 1 (32 + 4 * p + 0) (nI (vn km / 10))) 1 (32 + 4 * p + 1) (nI (vn km % 10))) 1 (32 + 4 * p + 2) c) 1 (32 + 4 * p + 3) 0) 1 8 (nI (p + 1)) i = M i := fun i hi => by rw [mU_row hi, mU_row hi, mU_row hi, mU_row hi, mU_row hi]
  generalize mU (mU (mU (mU (mU X 5 p (nI (vn km / 10))) 6 p (nI (vn km % 10))) 7 p c) 8 p 0) 1 9 (nI (p + 1)) = X2 at hXr hX2 ⊢
  generalize mU (mU (mU (mU (mU M 1 (32 + 4 * p + 0) (nI (vn km / 10))) 1 (32 + 4 * p + 1) (nI (vn km % 10))) 1 (32 + 4 * p + 2) c) 1 (32 + 4 * p + 3) 0) 1 8 (nI (p + 1)) = M2 at hMr hM2 ⊢
  have hx9 : vn (X2 1 9) = p + 1 := by rw [hXr, if_pos ⟨rfl, rfl⟩, vn_nI (by omega)]
  have hm8 : vn (M2 1 8) = p + 1 := by rw [hMr, if_pos rfl, vn_nI (by omega)]
  have hnx : vn (X 1 9) = p := by rw [hn.1, hp]
  have hE := h.1
  obtain ⟨⟨h1, h2⟩, ⟨⟨T, t1, t2, t3, t4⟩, ⟨W, v1, v2, v3, v4⟩⟩, ⟨h3, h4⟩, h5⟩ := hE
  refine INV_E h ⟨⟨⟨fun a b x hk => ?_, ?_, ?_⟩, eX_pt h2 ?_ ?_ (fun x hx => ?_)⟩, ⟨⟨T, t1, ?_, ?_, fun j hj => ?_⟩, ⟨W, v1, ?_, ?_, fun j hj => ?_⟩⟩, ⟨?_, ?_⟩, ?_⟩ (fun a ha => hX2 a (by omega)) (fun i h1 _ => hM2 i h1)
  · rw [hx9] at hk
    rw [hXr, hMr]
    rcases pl_lk hlt hk with ⟨rfl, ⟨rfl, rfl⟩ | ⟨rfl, rfl⟩ | ⟨rfl, rfl⟩ | ⟨rfl, rfl⟩⟩ | ⟨g0, g1, g2, g3, g4, g5, g6, g7, g8, g9, g10⟩
    · rw [if_neg (by omega), if_neg (by omega), if_neg (by omega), if_neg (by omega), if_pos ⟨rfl, rfl⟩, if_neg (by omega), if_neg (by omega), if_neg (by omega), if_neg (by omega), if_pos rfl]
    · rw [if_neg (by omega), if_neg (by omega), if_neg (by omega), if_pos ⟨rfl, rfl⟩, if_neg (by omega), if_neg (by omega), if_neg (by omega), if_pos rfl]
    · rw [if_neg (by omega), if_neg (by omega), if_pos ⟨rfl, rfl⟩, if_neg (by omega), if_neg (by omega), if_pos rfl]
    · rw [if_neg (by omega), if_pos ⟨rfl, rfl⟩, if_neg (by omega), if_pos rfl]
    · rw [if_neg g1, if_neg g2, if_neg g3, if_neg g4, if_neg g5, if_neg g6, if_neg g7, if_neg g8, if_neg g9, if_neg g10]
      exact h1.1 a b x (by rw [hnx]; exact g0)
  · rw [hx9, hXr, if_pos ⟨rfl, rfl⟩]
  · rw [hm8, hx9, if_neg (by omega)]
  · rw [hXr, if_neg (by omega), if_neg (by omega), if_neg (by omega), if_neg (by omega), if_neg (by omega)]
  · rw [hXr, if_neg (by omega), if_neg (by omega), if_neg (by omega), if_neg (by omega), if_neg (by omega)]
  · rw [hMr, if_neg (by omega), if_neg (by omega), if_neg (by omega), if_neg (by omega), if_neg (by omega)]
  · rw [hX2 _ (by omega)]; exact t2
  · rw [hMr, if_neg (by omega), if_neg (by omega), if_neg (by omega), if_neg (by omega), if_neg (by omega)]; exact t3
  · rw [hX2 _ (by omega), hMr, if_neg (by omega), if_neg (by omega), if_neg (by omega), if_neg (by omega), if_neg (by omega)]; exact t4 j hj
  · rw [hX2 _ (by omega)]; exact v2
  · rw [hMr, if_neg (by omega), if_neg (by omega), if_neg (by omega), if_neg (by omega), if_neg (by omega)]; exact v3
  · rw [hX2 _ (by omega), hMr, if_neg (by omega), if_neg (by omega), if_neg (by omega), if_neg (by omega), if_neg (by omega)]; exact v4 j hj
  · show rOK M2
    refine ⟨?_, ?_, fun q hq => ?_, fun q hq => ?_, fun u hu => ?_⟩
    · unfold cOK; rw [hMr, if_neg (by omega), if_neg (by omega), if_neg (by omega), if_neg (by omega), if_neg (by omega)]; exact hR.1
    · unfold pOK; rw [hm8, hMr, if_pos rfl]; exact ⟨rfl, by omega⟩
    · by_cases e : q = p
      · rw [e, hMr, if_neg (by omega), if_neg (by omega), if_neg (by omega), if_neg (by omega), if_pos rfl, vn_nI (by omega)]; exact ⟨rfl, by omega⟩
      · rw [hMr, if_neg (by omega), if_neg (by omega), if_neg (by omega), if_neg (by omega), if_neg (by omega)]; exact hR.2.2.1 q hq
    · by_cases e : q = p
      · rw [e, hMr, if_neg (by omega), if_neg (by omega), if_pos rfl]; exact ⟨d1, hc10⟩
      · rw [hMr, if_neg (by omega), if_neg (by omega), if_neg (by omega), if_neg (by omega), if_neg (by omega)]; exact hR.2.2.2.1 q hq
    · rw [hMr, if_neg (by omega), if_neg (by omega), if_neg (by omega), if_neg (by omega), if_neg (by omega)]; exact hR.2.2.2.2 u hu
  · refine ⟨fun d hd => ?_, fun q hq => ?_, fun q hq hq2 => ?_⟩
    · have g1 : M2 1 (12 + d) = M 1 (12 + d) := by rw [hMr, if_neg (by omega), if_neg (by omega), if_neg (by omega), if_neg (by omega), if_neg (by omega)]
      have g2 : M2 1 (22 + d) = M 1 (22 + d) := by rw [hMr, if_neg (by omega), if_neg (by omega), if_neg (by omega), if_neg (by omega), if_neg (by omega)]
      rw [g1, g2]; exact h4.1 d hd
    · by_cases e : q = p
      · have g1 : M2 1 (32 + 4 * q + 1) = nI (vn km % 10) := by rw [e, hMr, if_neg (by omega), if_neg (by omega), if_neg (by omega), if_pos rfl]
        rw [g1, vn_nI (by omega)]; exact ⟨rfl, by omega⟩
      · have g1 : M2 1 (32 + 4 * q + 1) = M 1 (32 + 4 * q + 1) := by rw [hMr, if_neg (by omega), if_neg (by omega), if_neg (by omega), if_neg (by omega), if_neg (by omega)]
        rw [g1]; exact h4.2.1 q hq
    · have g3 : M2 1 3 = M 1 3 := by rw [hMr, if_neg (by omega), if_neg (by omega), if_neg (by omega), if_neg (by omega), if_neg (by omega)]
      rw [g3]
      by_cases e : q = p
      · have g1 : M2 1 (32 + 4 * q + 2) = c := by rw [e, hMr, if_neg (by omega), if_neg (by omega), if_pos rfl]
        rw [g1]; exact d2
      · have g1 : M2 1 (32 + 4 * q + 2) = M 1 (32 + 4 * q + 2) := by rw [hMr, if_neg (by omega), if_neg (by omega), if_neg (by omega), if_neg (by omega), if_neg (by omega)]
        rw [hm8] at hq2
        rw [g1]; exact h4.2.2 q hq (by rw [hp]; omega)
  · intro q hq
    show X2 7 q = nI (vn (X2 7 q)) ∧ vn (X2 7 q) < 10
    by_cases e : q = p
    · have g1 : X2 7 q = c := by rw [hXr, if_neg (by omega), if_neg (by omega), if_pos ⟨rfl, e⟩]
      rw [g1]; exact ⟨d1, hc10⟩
    · have g1 : X2 7 q = X 7 q := by rw [hXr, if_neg (by omega), if_neg (by omega), if_neg (by omega), if_neg (by omega), if_neg (by omega)]
      rw [g1]; exact h5 q hq
