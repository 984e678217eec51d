/-! the acts of the object: what they lean on -/
theorem cell_x {X : xS} {c : Int32} (h : eC X 1) (hc : ¬ x8_isCell X c = 0) : c = nI (vn c) ∧ vn c < vn (X 1 0) := by
  have h2 := h.2.1
  have h3 := h.2.2
  have e := in_natp (n := vn (X 1 0) - 1) hc (nt_sub h.1 (show (1 : Int32) = nI 1 from rfl) (by omega)) (by omega)
  exact ⟨e.1, by omega⟩
theorem pers_x {X : xS} {q : Int32} (h : eP X 1) (hc : ¬ x8_isPerson X q = 0) : q = nI (vn q) ∧ vn q < vn (X 1 9) := by
  have h2 := h.2
  rcases Nat.eq_zero_or_pos (vn (X 1 9)) with e0 | e0
  · exfalso
    obtain ⟨a, b⟩ := p8_in hc
    rw [h.1, e0] at b
    have b2 : q ≤ -1 := Int32.not_lt.mp b
    exact a (Int32.lt_of_le_of_lt b2 (by decide))
  · have e := in_natp (n := vn (X 1 9) - 1) hc (nt_sub h.1 (show (1 : Int32) = nI 1 from rfl) (by omega)) (by omega)
    exact ⟨e.1, by omega⟩
theorem xin_pos {w lo hi : Int32} {n : Nat} (h : ¬ p8_within w lo hi = 0) (h0 : 0 ≤ w) (hh : hi = nI n) (hn : n < 2 ^ 31) : w = nI (vn w) ∧ vn w ≤ n := by
  obtain ⟨a, b⟩ := p8_in h
  rw [hh] at b
  exact nn_of (Int32.not_lt.mpr h0) (Int32.not_lt.mp b) hn
theorem kS_s {s : Nat} (h : s < 4) : kS (51 + 2 * s) := (by decide : ∀ s, s < 4 → kS (51 + 2 * s)) s h
theorem mn_x {x y z : Int32} (hx : x = nI (vn x)) (hy : y = nI (vn y)) (hz : z = if y < x then y else x) (h1 : vn x < 2 ^ 31) (h2 : vn y < 2 ^ 31) : z = nI (vn z) ∧ vn z ≤ vn x ∧ vn z ≤ vn y := by
  by_cases c : y < x
  · rw [if_pos c] at hz
    subst hz
    rw [hx, hy, nI_ltI h2 h1] at c
    exact ⟨hy, by omega, Nat.le_refl _⟩
  · rw [if_neg c] at hz
    subst hz
    rw [hx, hy, nI_ltI h2 h1] at c
    exact ⟨hx, Nat.le_refl _, by omega⟩
/-- sizes of the tape and of what waits -/
def zR (X : xS) (p : Nat) : Prop := (X (p + 8) 1 = nI (vn (X (p + 8) 1)) ∧ vn (X (p + 8) 1) ≤ 50) ∧ (X (p + 10) 1 = nI (vn (X (p + 10) 1)) ∧ vn (X (p + 10) 1) ≤ 20)
def shR (X : xS) : Prop := ∀ s, s < 4 → X (51 + 2 * s) 2 = nI (vn (X (51 + 2 * s) 2)) ∧ vn (X (51 + 2 * s) 2) ≤ 40
/-! an estate taken over -/
def tkX (X : xS) (pT pA : Nat) : xS := fun p k =>
  if p = pT then (if k = 0 ∨ (4 ≤ k ∧ k ≤ 9) ∨ k = 14 ∨ k = 15 ∨ k = 18 then X pA k else X pT k)
  else if p = pT + 1 then (if k < 10 then X (pA + 1) k else X p k)
  else if p = pT + 2 then (if k < 10 then X (pA + 2) k else X p k)
  else if p = pT + 4 then (if k < 8 then X (pA + 4) k else X p k)
  else if p = pT + 5 then (if k < 8 then X (pA + 5) k else X p k)
  else if p = pT + 6 then (if k < 8 then X (pA + 6) k else X p k)
  else if p = pT + 7 then (if k < 8 then X (pA + 7) k else X p k)
  else if p = pT + 8 then (if k = 1 then X (pA + 8) 1 else X p k)
  else if p = pT + 9 then (if k < vn (X (pA + 8) 1) then X (pA + 9) k else X p k)
  else if p = pT + 10 then (if k = 1 then X (pA + 10) 1 else X p k)
  else if p = pT + 11 then (if k < vn (X (pA + 10) 1) then X (pA + 11) k else X p k)
  else X p k
theorem xcp_pt (X : xS) (q0 q1 n p j : Nat) : xcp X q0 q1 n p j = if p = q1 then (if j < n then X q0 j else X p j) else X p j := by
  by_cases e : p = q1
  · subst e; rw [if_pos rfl, xcp_at]
  · rw [if_neg e, xcp_row e]
theorem mU_sm (X : xS) (q j : Nat) (x : Int32) (k : Nat) : mU X q j x q k = if k = j then x else X q k := by
  by_cases e : k = j
  · subst e; rw [if_pos rfl, mU_eq]
  · rw [if_neg e, mU_ne e]
set_option maxRecDepth 100000 in
theorem tk_st {X X5 X20 X35 X43 X51 X59 X67 X75 X83 X98 X113 X128 X143 X151 X159 X170 X181 X189 : xS} {pT pA : Nat} (hz : zR X pA) (hne : pA + 12 ≤ pT ∨ pT + 12 ≤ pA) (hcA : rcap (pA + 8) = 50 ∧ rcap (pA + 10) = 20) (hcT : rcap (pT + 8) = 50 ∧ rcap (pT + 10) = 20) (h5 : X5 = mU X pT 0 (X pA 0)) (h20 : X20 = xcp X5 (pA + 1) (pT + 1) 10) (h35 : X35 = xcp X20 (pA + 2) (pT + 2) 10) (h43 : X43 = mU X35 pT 4 (X35 pA 4)) (h51 : X51 = mU X43 pT 5 (X43 pA 5)) (h59 : X59 = mU X51 pT 6 (X51 pA 6)) (h67 : X67 = mU X59 pT 7 (X59 pA 7)) (h75 : X75 = mU X67 pT 8 (X67 pA 8)) (h83 : X83 = mU X75 pT 9 (X75 pA 9)) (h98 : X98 = xcp X83 (pA + 4) (pT + 4) 8) (h113 : X113 = xcp X98 (pA + 5) (pT + 5) 8) (h128 : X128 = xcp X113 (pA + 6) (pT + 6) 8) (h143 : X143 = xcp X128 (pA + 7) (pT + 7) 8) (h151 : X151 = mU X143 pT 14 (X143 pA 14)) (h159 : X159 = mU X151 pT 15 (X151 pA 15)) (h170 : X170 = x4_takeOver X159 (pT + 8) (pA + 8)) (h181 : X181 = x4_takeOver X170 (pT + 10) (pA + 10)) (h189 : X189 = mU X181 pT 18 (X181 pA 18)) (p k : Nat) : X189 p k = tkX X pT pA p k := by
  have o5 : ∀ q, (q < pT ∨ pT + 12 ≤ q) → X5 q = X q := fun q h => by rw [h5, mU_row (by omega)]
  have o20 : ∀ q, (q < pT ∨ pT + 12 ≤ q) → X20 q = X q := fun q h => by rw [h20, xcp_row (by omega)]; exact o5 q h
  have o35 : ∀ q, (q < pT ∨ pT + 12 ≤ q) → X35 q = X q := fun q h => by rw [h35, xcp_row (by omega)]; exact o20 q h
  have o43 : ∀ q, (q < pT ∨ pT + 12 ≤ q) → X43 q = X q := fun q h => by rw [h43, mU_row (by omega)]; exact o35 q h
  have o51 : ∀ q, (q < pT ∨ pT + 12 ≤ q) → X51 q = X q := fun q h => by rw [h51, mU_row (by omega)]; exact o43 q h
  have o59 : ∀ q, (q < pT ∨ pT + 12 ≤ q) → X59 q = X q := fun q h => by rw [h59, mU_row (by omega)]; exact o51 q h
  have o67 : ∀ q, (q < pT ∨ pT + 12 ≤ q) → X67 q = X q := fun q h => by rw [h67, mU_row (by omega)]; exact o59 q h
  have o75 : ∀ q, (q < pT ∨ pT + 12 ≤ q) → X75 q = X q := fun q h => by rw [h75, mU_row (by omega)]; exact o67 q h
  have o83 : ∀ q, (q < pT ∨ pT + 12 ≤ q) → X83 q = X q := fun q h => by rw [h83, mU_row (by omega)]; exact o75 q h
  have o98 : ∀ q, (q < pT ∨ pT + 12 ≤ q) → X98 q = X q := fun q h => by rw [h98, xcp_row (by omega)]; exact o83 q h
  have o113 : ∀ q, (q < pT ∨ pT + 12 ≤ q) → X113 q = X q := fun q h => by rw [h113, xcp_row (by omega)]; exact o98 q h
  have o128 : ∀ q, (q < pT ∨ pT + 12 ≤ q) → X128 q = X q := fun q h => by rw [h128, xcp_row (by omega)]; exact o113 q h
  have o143 : ∀ q, (q < pT ∨ pT + 12 ≤ q) → X143 q = X q := fun q h => by rw [h143, xcp_row (by omega)]; exact o128 q h
  have o151 : ∀ q, (q < pT ∨ pT + 12 ≤ q) → X151 q = X q := fun q h => by rw [h151, mU_row (by omega)]; exact o143 q h
  have o159 : ∀ q, (q < pT ∨ pT + 12 ≤ q) → X159 q = X q := fun q h => by rw [h159, mU_row (by omega)]; exact o151 q h
  have z170 : X159 (pA + 8) 1 = nI (vn (X159 (pA + 8) 1)) ∧ vn (X159 (pA + 8) 1) ≤ rcap (pA + 8) := by rw [o159 (pA + 8) (by omega), hcA.1]; exact hz.1
  have y170 : rcap (pA + 8) ≤ rcap (pT + 8) := by rw [hcA.1, hcT.1]; exact Nat.le_refl _
  have w170 : rcap (pT + 8) ≤ 50 := by omega
  have v170 : pA + 8 ≠ pT + 8 ∧ pA + 8 ≠ pT + 8 + 1 ∧ pA + 8 + 1 ≠ pT + 8 := ⟨by omega, by omega, by omega⟩
  have r170 : ∀ q, q ≠ pT + 8 → q ≠ pT + 9 → X170 q = X159 q := fun q h1 h2 => by rw [h170]; exact rt_row z170 y170 w170 v170 q h1 h2
  have o170 : ∀ q, (q < pT ∨ pT + 12 ≤ q) → X170 q = X q := fun q h => by rw [r170 q (by omega) (by omega)]; exact o159 q h
  have z181 : X170 (pA + 10) 1 = nI (vn (X170 (pA + 10) 1)) ∧ vn (X170 (pA + 10) 1) ≤ rcap (pA + 10) := by rw [o170 (pA + 10) (by omega), hcA.2]; exact hz.2
  have y181 : rcap (pA + 10) ≤ rcap (pT + 10) := by rw [hcA.2, hcT.2]; exact Nat.le_refl _
  have w181 : rcap (pT + 10) ≤ 50 := by omega
  have v181 : pA + 10 ≠ pT + 10 ∧ pA + 10 ≠ pT + 10 + 1 ∧ pA + 10 + 1 ≠ pT + 10 := ⟨by omega, by omega, by omega⟩
  have r181 : ∀ q, q ≠ pT + 10 → q ≠ pT + 11 → X181 q = X170 q := fun q h1 h2 => by rw [h181]; exact rt_row z181 y181 w181 v181 q h1 h2
  have o181 : ∀ q, (q < pT ∨ pT + 12 ≤ q) → X181 q = X q := fun q h => by rw [r181 q (by omega) (by omega)]; exact o170 q h
  have o189 : ∀ q, (q < pT ∨ pT + 12 ≤ q) → X189 q = X q := fun q h => by rw [h189, mU_row (by omega)]; exact o181 q h
  unfold tkX
  by_cases e0 : p = pT
  · subst e0
    rw [if_pos rfl]
    have f5 : X5 p k = if k = 0 then X pA 0 else X p k := by rw [h5, mU_sm]
    have f20 : X20 p k = X5 p k := by rw [h20, xcp_row (by omega)]
    have f35 : X35 p k = X20 p k := by rw [h35, xcp_row (by omega)]
    have f43 : X43 p k = if k = 4 then X pA 4 else X35 p k := by rw [h43, mU_sm, o35 pA (by omega)]
    have f51 : X51 p k = if k = 5 then X pA 5 else X43 p k := by rw [h51, mU_sm, o43 pA (by omega)]
    have f59 : X59 p k = if k = 6 then X pA 6 else X51 p k := by rw [h59, mU_sm, o51 pA (by omega)]
    have f67 : X67 p k = if k = 7 then X pA 7 else X59 p k := by rw [h67, mU_sm, o59 pA (by omega)]
    have f75 : X75 p k = if k = 8 then X pA 8 else X67 p k := by rw [h75, mU_sm, o67 pA (by omega)]
    have f83 : X83 p k = if k = 9 then X pA 9 else X75 p k := by rw [h83, mU_sm, o75 pA (by omega)]
    have f98 : X98 p k = X83 p k := by rw [h98, xcp_row (by omega)]
    have f113 : X113 p k = X98 p k := by rw [h113, xcp_row (by omega)]
    have f128 : X128 p k = X113 p k := by rw [h128, xcp_row (by omega)]
    have f143 : X143 p k = X128 p k := by rw [h143, xcp_row (by omega)]
    have f151 : X151 p k = if k = 14 then X pA 14 else X143 p k := by rw [h151, mU_sm, o143 pA (by omega)]
    have f159 : X159 p k = if k = 15 then X pA 15 else X151 p k := by rw [h159, mU_sm, o151 pA (by omega)]
    have f170 : X170 p k = X159 p k := by rw [r170 p (by omega) (by omega)]
    have f181 : X181 p k = X170 p k := by rw [r181 p (by omega) (by omega)]
    have f189 : X189 p k = if k = 18 then X pA 18 else X181 p k := by rw [h189, mU_sm, o181 pA (by omega)]
    rw [f189, f181, f170, f159, f151, f143, f128, f113, f98, f83, f75, f67, f59, f51, f43, f35, f20, f5]
    by_cases c18 : k = 18
    · rw [if_pos c18, if_pos (by omega), c18]
    rw [if_neg c18]
    by_cases c15 : k = 15
    · rw [if_pos c15, if_pos (by omega), c15]
    rw [if_neg c15]
    by_cases c14 : k = 14
    · rw [if_pos c14, if_pos (by omega), c14]
    rw [if_neg c14]
    by_cases c9 : k = 9
    · rw [if_pos c9, if_pos (by omega), c9]
    rw [if_neg c9]
    by_cases c8 : k = 8
    · rw [if_pos c8, if_pos (by omega), c8]
    rw [if_neg c8]
    by_cases c7 : k = 7
    · rw [if_pos c7, if_pos (by omega), c7]
    rw [if_neg c7]
    by_cases c6 : k = 6
    · rw [if_pos c6, if_pos (by omega), c6]
    rw [if_neg c6]
    by_cases c5 : k = 5
    · rw [if_pos c5, if_pos (by omega), c5]
    rw [if_neg c5]
    by_cases c4 : k = 4
    · rw [if_pos c4, if_pos (by omega), c4]
    rw [if_neg c4]
    by_cases c0 : k = 0
    · rw [if_pos c0, if_pos (by omega), c0]
    rw [if_neg c0]
    rw [if_neg (by omega)]
  by_cases e1 : p = pT + 1
  · subst e1
    rw [if_neg (show ¬ pT + 1 = pT by omega), if_pos rfl]
    rw [h189, mU_row (by omega), r181 _ (by omega) (by omega), r170 _ (by omega) (by omega), h159, mU_row (by omega), h151, mU_row (by omega), h143, xcp_row (by omega), h128, xcp_row (by omega), h113, xcp_row (by omega), h98, xcp_row (by omega), h83, mU_row (by omega), h75, mU_row (by omega), h67, mU_row (by omega), h59, mU_row (by omega), h51, mU_row (by omega), h43, mU_row (by omega), h35, xcp_row (by omega), h20, xcp_at, o5 _ (by omega)]
    have q9 : X5 (pT + 1) = X (pT + 1) := by rw [h5, mU_row (by omega)]
    rw [q9]
  by_cases e2 : p = pT + 2
  · subst e2
    rw [if_neg (show ¬ pT + 2 = pT by omega), if_neg (show ¬ pT + 2 = pT + 1 by omega), if_pos rfl]
    rw [h189, mU_row (by omega), r181 _ (by omega) (by omega), r170 _ (by omega) (by omega), h159, mU_row (by omega), h151, mU_row (by omega), h143, xcp_row (by omega), h128, xcp_row (by omega), h113, xcp_row (by omega), h98, xcp_row (by omega), h83, mU_row (by omega), h75, mU_row (by omega), h67, mU_row (by omega), h59, mU_row (by omega), h51, mU_row (by omega), h43, mU_row (by omega), h35, xcp_at, o20 _ (by omega)]
    have q9 : X20 (pT + 2) = X (pT + 2) := by rw [h20, xcp_row (by omega), h5, mU_row (by omega)]
    rw [q9]
  by_cases e4 : p = pT + 4
  · subst e4
    rw [if_neg (show ¬ pT + 4 = pT by omega), if_neg (show ¬ pT + 4 = pT + 1 by omega), if_neg (show ¬ pT + 4 = pT + 2 by omega), if_pos rfl]
    rw [h189, mU_row (by omega), r181 _ (by omega) (by omega), r170 _ (by omega) (by omega), h159, mU_row (by omega), h151, mU_row (by omega), h143, xcp_row (by omega), h128, xcp_row (by omega), h113, xcp_row (by omega), h98, xcp_at, o83 _ (by omega)]
    have q9 : X83 (pT + 4) = X (pT + 4) := by rw [h83, mU_row (by omega), h75, mU_row (by omega), h67, mU_row (by omega), h59, mU_row (by omega), h51, mU_row (by omega), h43, mU_row (by omega), h35, xcp_row (by omega), h20, xcp_row (by omega), h5, mU_row (by omega)]
    rw [q9]
  by_cases e5 : p = pT + 5
  · subst e5
    rw [if_neg (show ¬ pT + 5 = pT by omega), if_neg (show ¬ pT + 5 = pT + 1 by omega), if_neg (show ¬ pT + 5 = pT + 2 by omega), if_neg (show ¬ pT + 5 = pT + 4 by omega), if_pos rfl]
    rw [h189, mU_row (by omega), r181 _ (by omega) (by omega), r170 _ (by omega) (by omega), h159, mU_row (by omega), h151, mU_row (by omega), h143, xcp_row (by omega), h128, xcp_row (by omega), h113, xcp_at, o98 _ (by omega)]
    have q9 : X98 (pT + 5) = X (pT + 5) := by rw [h98, xcp_row (by omega), h83, mU_row (by omega), h75, mU_row (by omega), h67, mU_row (by omega), h59, mU_row (by omega), h51, mU_row (by omega), h43, mU_row (by omega), h35, xcp_row (by omega), h20, xcp_row (by omega), h5, mU_row (by omega)]
    rw [q9]
  by_cases e6 : p = pT + 6
  · subst e6
    rw [if_neg (show ¬ pT + 6 = pT by omega), if_neg (show ¬ pT + 6 = pT + 1 by omega), if_neg (show ¬ pT + 6 = pT + 2 by omega), if_neg (show ¬ pT + 6 = pT + 4 by omega), if_neg (show ¬ pT + 6 = pT + 5 by omega), if_pos rfl]
    rw [h189, mU_row (by omega), r181 _ (by omega) (by omega), r170 _ (by omega) (by omega), h159, mU_row (by omega), h151, mU_row (by omega), h143, xcp_row (by omega), h128, xcp_at, o113 _ (by omega)]
    have q9 : X113 (pT + 6) = X (pT + 6) := by rw [h113, xcp_row (by omega), h98, xcp_row (by omega), h83, mU_row (by omega), h75, mU_row (by omega), h67, mU_row (by omega), h59, mU_row (by omega), h51, mU_row (by omega), h43, mU_row (by omega), h35, xcp_row (by omega), h20, xcp_row (by omega), h5, mU_row (by omega)]
    rw [q9]
  by_cases e7 : p = pT + 7
  · subst e7
    rw [if_neg (show ¬ pT + 7 = pT by omega), if_neg (show ¬ pT + 7 = pT + 1 by omega), if_neg (show ¬ pT + 7 = pT + 2 by omega), if_neg (show ¬ pT + 7 = pT + 4 by omega), if_neg (show ¬ pT + 7 = pT + 5 by omega), if_neg (show ¬ pT + 7 = pT + 6 by omega), if_pos rfl]
    rw [h189, mU_row (by omega), r181 _ (by omega) (by omega), r170 _ (by omega) (by omega), h159, mU_row (by omega), h151, mU_row (by omega), h143, xcp_at, o128 _ (by omega)]
    have q9 : X128 (pT + 7) = X (pT + 7) := by rw [h128, xcp_row (by omega), h113, xcp_row (by omega), h98, xcp_row (by omega), h83, mU_row (by omega), h75, mU_row (by omega), h67, mU_row (by omega), h59, mU_row (by omega), h51, mU_row (by omega), h43, mU_row (by omega), h35, xcp_row (by omega), h20, xcp_row (by omega), h5, mU_row (by omega)]
    rw [q9]
  by_cases e8 : p = pT + 8
  · subst e8
    rw [if_neg (show ¬ pT + 8 = pT by omega), if_neg (show ¬ pT + 8 = pT + 1 by omega), if_neg (show ¬ pT + 8 = pT + 2 by omega), if_neg (show ¬ pT + 8 = pT + 4 by omega), if_neg (show ¬ pT + 8 = pT + 5 by omega), if_neg (show ¬ pT + 8 = pT + 6 by omega), if_neg (show ¬ pT + 8 = pT + 7 by omega), if_pos rfl]
    rw [h189, mU_row (by omega), r181 _ (by omega) (by omega)]
    have q9 : X159 (pT + 8) = X (pT + 8) := by rw [h159, mU_row (by omega), h151, mU_row (by omega), h143, xcp_row (by omega), h128, xcp_row (by omega), h113, xcp_row (by omega), h98, xcp_row (by omega), h83, mU_row (by omega), h75, mU_row (by omega), h67, mU_row (by omega), h59, mU_row (by omega), h51, mU_row (by omega), h43, mU_row (by omega), h35, xcp_row (by omega), h20, xcp_row (by omega), h5, mU_row (by omega)]
    rw [h170, rt_all z170 y170 w170 v170]
    by_cases c1 : k = 1
    · rw [if_pos c1, if_pos ⟨rfl, c1⟩, o159 _ (by omega)]
    · rw [if_neg c1, if_neg (show ¬ (pT + 8 = pT + 8 ∧ k = 1) from fun h => c1 h.2), if_neg (show ¬ (pT + 8 = pT + 8 + 1 ∧ k < vn (X159 (pA + 8) 1)) from fun h => absurd h.1 (by omega)), q9]
  by_cases e9 : p = pT + 9
  · subst e9
    rw [if_neg (show ¬ pT + 9 = pT by omega), if_neg (show ¬ pT + 9 = pT + 1 by omega), if_neg (show ¬ pT + 9 = pT + 2 by omega), if_neg (show ¬ pT + 9 = pT + 4 by omega), if_neg (show ¬ pT + 9 = pT + 5 by omega), if_neg (show ¬ pT + 9 = pT + 6 by omega), if_neg (show ¬ pT + 9 = pT + 7 by omega), if_neg (show ¬ pT + 9 = pT + 8 by omega), if_pos rfl]
    rw [h189, mU_row (by omega), r181 _ (by omega) (by omega)]
    have q9 : X159 (pT + 9) = X (pT + 9) := by rw [h159, mU_row (by omega), h151, mU_row (by omega), h143, xcp_row (by omega), h128, xcp_row (by omega), h113, xcp_row (by omega), h98, xcp_row (by omega), h83, mU_row (by omega), h75, mU_row (by omega), h67, mU_row (by omega), h59, mU_row (by omega), h51, mU_row (by omega), h43, mU_row (by omega), h35, xcp_row (by omega), h20, xcp_row (by omega), h5, mU_row (by omega)]
    rw [h170, rt_all z170 y170 w170 v170]
    rw [if_neg (show ¬ (pT + 9 = pT + 8 ∧ k = 1) from fun h => absurd h.1 (by omega)), o159 (pA + 8) (by omega)]
    by_cases c1 : k < vn (X (pA + 8) 1)
    · rw [if_pos c1, if_pos (show pT + 9 = pT + 8 + 1 ∧ k < vn (X (pA + 8) 1) from ⟨rfl, c1⟩), show pA + 8 + 1 = pA + 9 from rfl, o159 _ (by omega)]
    · rw [if_neg c1, if_neg (show ¬ (pT + 9 = pT + 8 + 1 ∧ k < vn (X (pA + 8) 1)) from fun h => c1 h.2), q9]
  by_cases e10 : p = pT + 10
  · subst e10
    rw [if_neg (show ¬ pT + 10 = pT by omega), if_neg (show ¬ pT + 10 = pT + 1 by omega), if_neg (show ¬ pT + 10 = pT + 2 by omega), if_neg (show ¬ pT + 10 = pT + 4 by omega), if_neg (show ¬ pT + 10 = pT + 5 by omega), if_neg (show ¬ pT + 10 = pT + 6 by omega), if_neg (show ¬ pT + 10 = pT + 7 by omega), if_neg (show ¬ pT + 10 = pT + 8 by omega), if_neg (show ¬ pT + 10 = pT + 9 by omega), if_pos rfl]
    rw [h189, mU_row (by omega)]
    have q9 : X170 (pT + 10) = X (pT + 10) := by rw [r170 _ (by omega) (by omega), h159, mU_row (by omega), h151, mU_row (by omega), h143, xcp_row (by omega), h128, xcp_row (by omega), h113, xcp_row (by omega), h98, xcp_row (by omega), h83, mU_row (by omega), h75, mU_row (by omega), h67, mU_row (by omega), h59, mU_row (by omega), h51, mU_row (by omega), h43, mU_row (by omega), h35, xcp_row (by omega), h20, xcp_row (by omega), h5, mU_row (by omega)]
    rw [h181, rt_all z181 y181 w181 v181]
    by_cases c1 : k = 1
    · rw [if_pos c1, if_pos ⟨rfl, c1⟩, o170 _ (by omega)]
    · rw [if_neg c1, if_neg (show ¬ (pT + 10 = pT + 10 ∧ k = 1) from fun h => c1 h.2), if_neg (show ¬ (pT + 10 = pT + 10 + 1 ∧ k < vn (X170 (pA + 10) 1)) from fun h => absurd h.1 (by omega)), q9]
  by_cases e11 : p = pT + 11
  · subst e11
    rw [if_neg (show ¬ pT + 11 = pT by omega), if_neg (show ¬ pT + 11 = pT + 1 by omega), if_neg (show ¬ pT + 11 = pT + 2 by omega), if_neg (show ¬ pT + 11 = pT + 4 by omega), if_neg (show ¬ pT + 11 = pT + 5 by omega), if_neg (show ¬ pT + 11 = pT + 6 by omega), if_neg (show ¬ pT + 11 = pT + 7 by omega), if_neg (show ¬ pT + 11 = pT + 8 by omega), if_neg (show ¬ pT + 11 = pT + 9 by omega), if_neg (show ¬ pT + 11 = pT + 10 by omega), if_pos rfl]
    rw [h189, mU_row (by omega)]
    have q9 : X170 (pT + 11) = X (pT + 11) := by rw [r170 _ (by omega) (by omega), h159, mU_row (by omega), h151, mU_row (by omega), h143, xcp_row (by omega), h128, xcp_row (by omega), h113, xcp_row (by omega), h98, xcp_row (by omega), h83, mU_row (by omega), h75, mU_row (by omega), h67, mU_row (by omega), h59, mU_row (by omega), h51, mU_row (by omega), h43, mU_row (by omega), h35, xcp_row (by omega), h20, xcp_row (by omega), h5, mU_row (by omega)]
    rw [h181, rt_all z181 y181 w181 v181]
    rw [if_neg (show ¬ (pT + 11 = pT + 10 ∧ k = 1) from fun h => absurd h.1 (by omega)), o170 (pA + 10) (by omega)]
    by_cases c1 : k < vn (X (pA + 10) 1)
    · rw [if_pos c1, if_pos (show pT + 11 = pT + 10 + 1 ∧ k < vn (X (pA + 10) 1) from ⟨rfl, c1⟩), show pA + 10 + 1 = pA + 11 from rfl, o170 _ (by omega)]
    · rw [if_neg c1, if_neg (show ¬ (pT + 11 = pT + 10 + 1 ∧ k < vn (X (pA + 10) 1)) from fun h => c1 h.2), q9]
  rw [if_neg e0, if_neg e1, if_neg e2, if_neg e4, if_neg e5, if_neg e6, if_neg e7, if_neg e8, if_neg e9, if_neg e10, if_neg e11]
  rw [h189, mU_row (by omega), r181 _ (by omega) (by omega), r170 _ (by omega) (by omega), h159, mU_row (by omega), h151, mU_row (by omega), h143, xcp_row (by omega), h128, xcp_row (by omega), h113, xcp_row (by omega), h98, xcp_row (by omega), h83, mU_row (by omega), h75, mU_row (by omega), h67, mU_row (by omega), h59, mU_row (by omega), h51, mU_row (by omega), h43, mU_row (by omega), h35, xcp_row (by omega), h20, xcp_row (by omega), h5, mU_row (by omega)]
theorem tk_e {X : xS} {pT pA : Nat} (hz : zR X pA) (hne : pA + 12 ≤ pT ∨ pT + 12 ≤ pA) (hA : kE pA) (hT : kE pT) : x0_takeOver X pT pA = tkX X pT pA := by
  funext p k
  unfold x0_takeOver
  simp only [lt_i]
  exact tk_st hz hne (xE_cap hA) (xE_cap hT) rfl rfl rfl rfl rfl rfl rfl rfl rfl rfl rfl rfl rfl rfl rfl rfl rfl rfl p k
theorem tk_R {tt : tT} {X : xS} {pT pA : Nat} (h : eR tt X pA) (hne : pA + 12 ≤ pT ∨ pT + 12 ≤ pA) : eR tt (tkX X pT pA) pT := by
  have f : ∀ k, (k = 0 ∨ (4 ≤ k ∧ k ≤ 9) ∨ k = 14 ∨ k = 15 ∨ k = 18) → tkX X pT pA pT k = X pA k := fun k hk => by
    unfold tkX
    rw [if_pos rfl, if_pos hk]
  have g : ∀ k, k < 8 → tkX X pT pA (pT + 6) k = X (pA + 6) k := fun k hk => by
    unfold tkX
    rw [if_neg (by omega), if_neg (by omega), if_neg (by omega), if_neg (by omega), if_neg (by omega), if_pos rfl, if_pos hk]
  obtain ⟨a, b, c, d⟩ := h
  refine ⟨?_, ?_, ?_, ?_⟩
  · unfold eC; rw [f 0 (by omega)]; exact a
  · unfold eP; rw [f 9 (by omega)]; exact b
  · intro q hq; rw [g q hq]; exact c q hq
  · intro k hk; rw [f k (by omega)]; exact d k hk
theorem tk_out {X : xS} {pT pA p : Nat} (h : p < pT ∨ pT + 12 ≤ p ∨ p = pT + 3) : tkX X pT pA p = X p := by
  funext k
  unfold tkX
  rw [if_neg (by omega), if_neg (by omega), if_neg (by omega), if_neg (by omega), if_neg (by omega), if_neg (by omega), if_neg (by omega), if_neg (by omega), if_neg (by omega), if_neg (by omega), if_neg (by omega)]
/-! an hour passes -/
theorem ph_outL {tt : tT} {X1 : xS} {pT p : Nat} (h : p ≠ pT ∧ p ≠ pT + 1 ∧ p ≠ pT + 6 ∧ p ≠ pT + 7) (k : Nat) : x0_passHour_L6 tt pT X1 k p = X1 p := by
  induction k with
  | zero => rfl
  | succ k ih =>
    rw [x0_passHour_L6_s]
    simp only [lt_i]
    rw [gO_0 _ _ _ _ h.2.2.1 h.2.2.2, mU_row h.1, mU_row h.2.1, ih]
theorem ph_out (tt : tT) {X : xS} {pT p : Nat} (h : p < pT ∨ pT + 8 ≤ p) : x0_passHour tt X pT p = X p := by
  unfold x0_passHour
  simp only [lt_i]
  rw [mU_row (by omega), ph_outL ⟨by omega, by omega, by omega, by omega⟩, gw_all _ _ _ _ (by omega) (by omega)]
theorem ph_R {tt : tT} {X : xS} {pT : Nat} (hR : eR tt X pT) : eR tt (x0_passHour tt X pT) pT ∧ x0_passHour tt X pT pT 9 = X pT 9 := by
  have h1 := gw_R hR
  have h := ph_L6 (X := X) h1.1 h1.2 (vn (X pT 9)) (Nat.le_refl _)
  unfold x0_passHour
  simp only [lt_i]
  refine ⟨eR_f (fun k h7 _ => mU_ne h7) (fun q hq => ?_) h.1, ?_⟩
  · rw [mU_row (by omega)]
    exact h.1.2.2.1 q hq
  · rw [mU_ne (by decide)]
    exact h.2
