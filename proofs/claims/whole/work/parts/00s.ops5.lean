/-! acts: images -/
theorem tkX_at (X : xS) (pT pA : Nat) (p k : Nat) : tkX X pT pA p k = if p = pT then (if k = 0 ∨ (4 ≤ k ∧ k ≤ 9) ∨ k = 14 ∨ k = 15 ∨ k = 18 then X pA k else X pT k)
  else if p = pT + 1 then (if k < 10 then X (pA + 1) k else X p k)
  else if p = pT + 2 then (if k < 10 then X (pA + 2) k else X p k)
  else if p = pT + 4 then (if k < 8 then X (pA + 4) k else X p k)
  else if p = pT + 5 then (if k < 8 then X (pA + 5) k else X p k)
  else if p = pT + 6 then (if k < 8 then X (pA + 6) k else X p k)
  else if p = pT + 7 then (if k < 8 then X (pA + 7) k else X p k)
  else if p = pT + 8 then (if k = 1 then X (pA + 8) 1 else X p k)
  else if p = pT + 9 then (if k < vn (X (pA + 8) 1) then X (pA + 9) k else X p k)
  else if p = pT + 10 then (if k = 1 then X (pA + 10) 1 else X p k)
  else if p = pT + 11 then (if k < vn (X (pA + 10) 1) then X (pA + 11) k else X p k)
  else X p k := rfl
theorem tkX_0 (X : xS) (pT pA k : Nat) (h : k = 0 ∨ (4 ≤ k ∧ k ≤ 9) ∨ k = 14 ∨ k = 15 ∨ k = 18) : tkX X pT pA pT k = X pA k := by rw [tkX_at, if_pos rfl, if_pos h]
theorem tkX_1 (X : xS) (pT pA k : Nat) (h : k < 10) : tkX X pT pA (pT + 1) k = X (pA + 1) k := by rw [tkX_at, if_neg (by omega), if_pos rfl, if_pos h]
theorem tkX_2 (X : xS) (pT pA k : Nat) (h : k < 10) : tkX X pT pA (pT + 2) k = X (pA + 2) k := by rw [tkX_at, if_neg (by omega), if_neg (by omega), if_pos rfl, if_pos h]
theorem tkX_4 (X : xS) (pT pA k : Nat) (h : k < 8) : tkX X pT pA (pT + 4) k = X (pA + 4) k := by rw [tkX_at, if_neg (by omega), if_neg (by omega), if_neg (by omega), if_pos rfl, if_pos h]
theorem tkX_5 (X : xS) (pT pA k : Nat) (h : k < 8) : tkX X pT pA (pT + 5) k = X (pA + 5) k := by rw [tkX_at, if_neg (by omega), if_neg (by omega), if_neg (by omega), if_neg (by omega), if_pos rfl, if_pos h]
theorem tkX_6 (X : xS) (pT pA k : Nat) (h : k < 8) : tkX X pT pA (pT + 6) k = X (pA + 6) k := by rw [tkX_at, if_neg (by omega), if_neg (by omega), if_neg (by omega), if_neg (by omega), if_neg (by omega), if_pos rfl, if_pos h]
theorem tkX_7 (X : xS) (pT pA k : Nat) (h : k < 8) : tkX X pT pA (pT + 7) k = X (pA + 7) k := by rw [tkX_at, if_neg (by omega), if_neg (by omega), if_neg (by omega), if_neg (by omega), if_neg (by omega), if_neg (by omega), if_pos rfl, if_pos h]
theorem tkX_8 (X : xS) (pT pA : Nat) : tkX X pT pA (pT + 8) 1 = X (pA + 8) 1 := by rw [tkX_at, if_neg (by omega), if_neg (by omega), if_neg (by omega), if_neg (by omega), if_neg (by omega), if_neg (by omega), if_neg (by omega), if_pos rfl, if_pos rfl]
theorem tkX_9 (X : xS) (pT pA k : Nat) (h : k < vn (X (pA + 8) 1)) : tkX X pT pA (pT + 9) k = X (pA + 9) k := by rw [tkX_at, if_neg (by omega), if_neg (by omega), if_neg (by omega), if_neg (by omega), if_neg (by omega), if_neg (by omega), if_neg (by omega), if_neg (by omega), if_pos rfl, if_pos h]
theorem tkX_10 (X : xS) (pT pA : Nat) : tkX X pT pA (pT + 10) 1 = X (pA + 10) 1 := by rw [tkX_at, if_neg (by omega), if_neg (by omega), if_neg (by omega), if_neg (by omega), if_neg (by omega), if_neg (by omega), if_neg (by omega), if_neg (by omega), if_neg (by omega), if_pos rfl, if_pos rfl]
theorem tkX_11 (X : xS) (pT pA k : Nat) (h : k < vn (X (pA + 10) 1)) : tkX X pT pA (pT + 11) k = X (pA + 11) k := by rw [tkX_at, if_neg (by omega), if_neg (by omega), if_neg (by omega), if_neg (by omega), if_neg (by omega), if_neg (by omega), if_neg (by omega), if_neg (by omega), if_neg (by omega), if_neg (by omega), if_pos rfl, if_pos h]
theorem lk_sh {ab n p p2 a b x : Nat} (h : lk ab n p2 a b x) : ∃ d, a = p2 + d ∧ lk ab n p (p + d) b x ∧ (d = 0 ∧ (b = 0 ∨ (4 ≤ b ∧ b ≤ 9) ∨ b = 14 ∨ b = 15 ∨ b = 18) ∨ d = 1 ∧ b < 10 ∨ d = 2 ∧ b < 10 ∨ d = 4 ∧ b < n ∨ d = 5 ∧ b < n ∨ d = 6 ∧ b < n ∨ d = 7 ∧ b < n) := by
  unfold lk at h ⊢
  rcases h with ⟨h, h1⟩ | ⟨h, h1 | h1⟩ | ⟨h, h1 | h1 | h1 | h1⟩
  · exact ⟨0, by omega, Or.inl ⟨rfl, h1⟩, by omega⟩
  · exact ⟨1, by omega, Or.inr (Or.inl ⟨h, Or.inl ⟨rfl, h1.2⟩⟩), by omega⟩
  · exact ⟨2, by omega, Or.inr (Or.inl ⟨h, Or.inr ⟨rfl, h1.2⟩⟩), by omega⟩
  · exact ⟨4, by omega, Or.inr (Or.inr ⟨h, Or.inl ⟨rfl, h1.2⟩⟩), by omega⟩
  · exact ⟨5, by omega, Or.inr (Or.inr ⟨h, Or.inr (Or.inl ⟨rfl, h1.2⟩)⟩), by omega⟩
  · exact ⟨6, by omega, Or.inr (Or.inr ⟨h, Or.inr (Or.inr (Or.inl ⟨rfl, h1.2⟩))⟩), by omega⟩
  · exact ⟨7, by omega, Or.inr (Or.inr ⟨h, Or.inr (Or.inr (Or.inr ⟨rfl, h1.2⟩))⟩), by omega⟩
theorem eE_tk {ab pT pA : Nat} {tt : tT} {X : xS} {R : Nat → Int32} (h : eN ab X pA R ∧ eX tt X pA R) (hn : vn (X pA 9) ≤ 8) : eN ab (tkX X pT pA) pT R ∧ eX tt (tkX X pT pA) pT R := by
  have e9 : tkX X pT pA pT 9 = X pA 9 := tkX_0 _ _ _ _ (by omega)
  refine ⟨⟨fun a b x hk => ?_, by rw [e9]; exact h.1.2.1, by rw [e9]; exact h.1.2.2⟩, fun u hu => ?_⟩
  · rw [e9] at hk
    obtain ⟨d, rfl, hk2, hd⟩ := lk_sh (p := pA) hk
    rw [← h.1.1 _ _ _ hk2]
    rcases hd with ⟨rfl, hb⟩ | ⟨rfl, hb⟩ | ⟨rfl, hb⟩ | ⟨rfl, hb⟩ | ⟨rfl, hb⟩ | ⟨rfl, hb⟩ | ⟨rfl, hb⟩
    · exact tkX_0 _ _ _ _ hb
    · exact tkX_1 _ _ _ _ hb
    · exact tkX_2 _ _ _ _ hb
    · exact tkX_4 _ _ _ _ (by omega)
    · exact tkX_5 _ _ _ _ (by omega)
    · exact tkX_6 _ _ _ _ (by omega)
    · exact tkX_7 _ _ _ _ (by omega)
  · rw [tkX_0 X pT pA (14 + u) (by omega)]
    exact h.2 u hu
theorem iE_tk {pT pA : Nat} {tt : tT} {X : xS} {R : Nat → Int32} (h : iE tt X pA R) : iE tt (tkX X pT pA) pT R := by
  obtain ⟨h12, ⟨⟨T, t1, t2, t3, t4⟩, ⟨W, w1, w2, w3, w4⟩⟩, ⟨h3, h4⟩, h5⟩ := h
  have hn : vn (X pA 9) ≤ 8 := eE_n (tt := tt) (M := fun _ => R) h12 h3.2.1
  refine ⟨eE_tk h12 hn, ⟨⟨T, t1, by rw [tkX_8]; exact t2, t3, fun j hj => ?_⟩, ⟨W, w1, by rw [tkX_10]; exact w2, w3, fun j hj => ?_⟩⟩, ⟨h3, h4⟩, fun q hq => ?_⟩
  · rw [tkX_9 _ _ _ _ (by rw [t2, vn_nI (by omega)]; exact hj)]; exact t4 j hj
  · rw [tkX_11 _ _ _ _ (by rw [w2, vn_nI (by omega)]; exact hj)]; exact w4 j hj
  · rw [tkX_6 _ _ _ _ hq]; exact h5 q hq
theorem kE1 : kE 1 ∧ kE 13 ∧ kE 25 := by decide
theorem image_e {n : Nat} {tt : tT} {X : xS} {M : mS} (h : INV n tt X M) (hn : n < 2 ^ 30) : AL (n + 1) tt (x8_image X) (mF_image M) := by
  unfold x8_image mF_image
  simp only [lt_i]
  rw [tk_e (INV_eR h).2.1 (by decide) kE1.1 kE1.2.2]
  obtain ⟨g1, ⟨k, k1, k2, k3, k4, k5, k6⟩, g3, g4, g5, g6, g7⟩ := h.2
  have hto : ∀ p, p < 25 ∨ 37 ≤ p → tkX X 25 1 p = X p := fun p hp => tk_out (by omega)
  have e3 : tkX X 25 1 0 3 = nI k := by rw [hto 0 (by decide)]; exact k2
  have m5 : mU (mF_moveAll_1_2 M) 0 4 1 0 5 = nI k := by rw [mU_ne (by decide), mv12_row M 0 (by decide)]; exact k3
  rw [e3, m5, nI_1]
  refine AL_mk (by rw [mU_eq, mU_eq]) ⟨?_, ?_⟩
  · refine iE_c h.1 (fun a _ _ _ => ?_) (fun x _ => ?_)
    · rw [mU_row (by omega), hto a (by omega)]
    · rw [mU_row (by decide), mU_row (by decide), mv12_row M 1 (by decide)]
  · have hr : ∀ p, p ≠ 0 → p < 25 ∨ 37 ≤ p → mU (tkX X 25 1) 0 3 (nI (k + 1)) p = X p := fun p h0 hp => by rw [mU_row h0]; exact hto p hp
    have hm : ∀ i, i ≠ 0 → i ≠ 2 → mU (mU (mF_moveAll_1_2 M) 0 4 1) 0 5 (nI (k + 1)) i = M i := fun i h0 h2 => by rw [mU_row h0, mU_row h0]; exact mv12_row M i h2
    have hm0 : ∀ j, j ≠ 4 → j ≠ 5 → mU (mU (mF_moveAll_1_2 M) 0 4 1) 0 5 (nI (k + 1)) 0 j = M 0 j := fun j h4 h5 => by rw [mU_ne h5, mU_ne h4, mv12_row M 0 (by decide)]
    have hi := iE_tk (pT := 25) h.1
    have hi2 : iE tt (mU (tkX X 25 1) 0 3 (nI (k + 1))) 25 (mU (mU (mF_moveAll_1_2 M) 0 4 1) 0 5 (nI (k + 1)) 2) :=
      iE_c hi (fun a _ _ _ => mU_row (by omega)) (fun x hx => by rw [mU_row (by decide), mU_row (by decide), mv12_at, if_pos hx])
    refine ⟨?_, ⟨k + 1, by omega, mU_eq, mU_eq, ?_, (eR_i hi2).2, fun _ => hi2⟩, ?_, ?_, ?_, ?_, ?_⟩
    · unfold aB; rw [hm0 15 (by decide) (by decide)]; exact g1
    · rw [mU_ne (by decide), mU_eq, if_neg (by omega)]
    · intro j j1 j2
      rw [hr 61 (by decide) (by decide), hm 5 (by decide) (by decide)]; exact g3 j j1 j2
    · unfold iV
      rw [hr 48 (by decide) (by decide), hr 49 (by decide) (by decide), hm0 24 (by decide) (by decide), hm 13 (by decide) (by decide)]; exact g4
    · intro s hs
      rw [hr _ (by omega) (by omega), hr _ (by omega) (by omega), hm 8 (by decide) (by decide), hm 9 (by decide) (by decide), hm 10 (by decide) (by decide)]; exact g5 s hs
    · unfold iL; rw [hr 46 (by decide) (by decide)]; exact g6
    · unfold dN; rw [hr 37 (by decide) (by decide), hr 38 (by decide) (by decide), hr 40 (by decide) (by decide)]; exact g7
theorem restore_e {n : Nat} {tt : tT} {X : xS} {M : mS} (h : INV n tt X M) (hn : n < 2 ^ 30) : AL n tt (x8_restore X) (mF_restore M) := by
  unfold x8_restore mF_restore
  simp only [lt_i, lt2_p]
  obtain ⟨k, k1, k2, k3, k4, k5, k6⟩ := h.2.2.1
  rw [k2, k4]
  by_cases c : k = 0
  · rw [c, if_pos (by decide), if_pos (by decide)]; exact er2 h
  rw [if_neg (by rw [show (0 : Int32) = nI 0 from rfl, nI_eq (by omega) (by decide)]; exact c), if_neg c, if_neg (by decide), tk_e k5 (by decide) kE1.2.2 kE1.1]
  have hi := iE_tk (pT := 1) (k6 c)
  have hi2 : iE tt (tkX X 1 25) 1 (mF_moveAll_2_1 M 1) := iE_c hi (fun a _ _ _ => rfl) (fun x hx => by rw [mv21_at, if_pos hx])
  refine AL_mk ?_ (INV_E h hi2 (fun p hp => tk_out (by omega)) (fun i h1 _ => mv21_row M i h1))
  exact (eN_f hi2.1.1).2.2.2.2.1
