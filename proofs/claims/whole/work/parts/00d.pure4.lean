/-! of 27.voices -/
def vS (X : xS) : Prop := X 48 1 = nI (vn (X 48 1)) ∧ vn (X 48 1) ≤ 40
theorem ad_v {X : xS} {v : Int32} (h : vS X) : vS (x4_add X 48 v) := by
  unfold x4_add
  simp only [lt_i]
  by_cases c : nI (rcap 48) ≤ X 48 1
  · rw [if_pos c]; exact h
  · rw [if_neg c]
    have hlt : vn (X 48 1) < 40 := by
      rw [h.1, show rcap 48 = 40 from rfl, nI_leI (by decide) (by have := h.2; omega)] at c
      omega
    unfold vS
    rw [mU_eq, mU_row (by decide)]
    have e : X 48 1 + 1 = nI (vn (X 48 1) + 1) := (congrArg (fun z => z + 1) h.1).trans (nI_1 _)
    rw [e, vn_nI (by omega)]
    exact ⟨rfl, by omega⟩
theorem sd_le {d : Nat} (h : d ≤ 12) : nI d ≤ 12 := nI_le (b := 12) h (by decide)
def x5_startAnew (X : xS) (pT : Nat) (bits : Int32) (n : Int32) : xS := (lt (mU X pT 1 bits) fun (X2 : xS) => lt (mU X2 pT 2 (p8_held n 40)) fun (X12 : xS) => lt (x7_fill_53178 X12 (pT + 1) 40 0) fun (X20 : xS) => X20)
def x5_set (X : xS) (pT : Nat) (i : Int32) (v : Int32) : xS := (lt ((if i < 0 then X else (if (X pT 2) ≤ i then X else (lt ((if (X pT 1) = 8 then (v.toInt8.toInt32) else (if (X pT 1) = 16 then (v.toInt16.toInt32) else v)) : Int32) fun (y46 : Int32) => (lt (mU X (pT + 1) (vn i) y46) fun (X46 : xS) => X46)))) : xS) fun (X47 : xS) => X47)
def x7_begin (X : xS) (kind : Int32) (n : Int32) (m : Int32) : xS := (lt (mU X 47 1 kind) fun (X2 : xS) => lt (mU X2 47 2 n) fun (X7 : xS) => lt (mU X7 47 3 m) fun (X12 : xS) => lt (x4_clear X12 48) fun (X19 : xS) => X19)
def x7_say : Nat → xS → Int32 → Int32 → Int32 → Int32 × xS
  | 0, X, act, of, x => (lt (x7_ownerOf X act of) fun (x5 : Int32) => (if x5 < 0 then (0, X) else (0, X)))
  | zf + 1, X, act, of, x => (lt (x7_ownerOf X act of) fun (x5 : Int32) => (if x5 < 0 then (0, X) else (lt (x1_above X x5) fun (x26 : Int32) => lt (x7_bodyOf X act x5) fun (x34 : Int32) => lt (X 47 1) fun (x40 : Int32) => lt (x4_add X 48 x34) fun (X54 : xS) => (if x34 = 10 then ((x + (X54 47 2)), X54) else (if x34 = 11 then (lt2 (x7_say zf X54 0 x40 x) fun (x170 : Int32) (X170 : xS) => ((x170 * 2), X170)) else (if x34 = 12 then ((x - (X54 47 3)), X54) else (if x34 = 13 then (lt2 (x7_say zf X54 1 x40 x) fun (x190 : Int32) (X190 : xS) => lt2 (x7_say zf X190 2 x40 x) fun (x200 : Int32) (X200 : xS) => ((x190 ^^^ x200), X200)) else (if x34 = 20 then (lt2 (x7_say zf X54 0 x26 x) fun (x212 : Int32) (X212 : xS) => ((x212 * 3), X212)) else (if x34 = 30 then (lt2 (x7_say zf X54 1 x26 x) fun (x225 : Int32) (X225 : xS) => lt2 (x7_say zf X225 2 x40 1) fun (x235 : Int32) (X235 : xS) => ((x225 - x235), X235)) else (if x34 = 40 then (lt2 (x7_say zf X54 2 x26 x) fun (x247 : Int32) (X247 : xS) => ((-x247), X247)) else (if x34 = 50 then (lt2 (x7_say zf X54 3 x26 x) fun (x259 : Int32) (X259 : xS) => lt2 (x7_say zf X259 0 x40 2) fun (x269 : Int32) (X269 : xS) => ((x259 - x269), X269)) else (if x34 = 60 then (lt2 (x7_say zf X54 1 x26 (x + 1)) fun (x283 : Int32) (X283 : xS) => (x283, X283)) else (if x34 = 70 then (lt2 (x7_say zf X54 2 x26 x) fun (x294 : Int32) (X294 : xS) => ((x294 ^^^ (X294 47 2)), X294)) else (if x34 = 71 then (lt2 (x7_say zf X54 1 x40 x) fun (x310 : Int32) (X310 : xS) => lt2 (x7_say zf X310 3 x26 x) fun (x320 : Int32) (X320 : xS) => ((x310 - x320), X320)) else (0, X54)))))))))))))))
theorem x7_say_z (X : xS) (act of x : Int32) : x7_say 0 X act of x = (lt (x7_ownerOf X act of) fun (x5 : Int32) => (if x5 < 0 then (0, X) else (0, X))) := rfl
theorem x7_say_s (zf : Nat) (X : xS) (act of x : Int32) : x7_say (zf + 1) X act of x = (lt (x7_ownerOf X act of) fun (x5 : Int32) => (if x5 < 0 then (0, X) else (lt (x1_above X x5) fun (x26 : Int32) => lt (x7_bodyOf X act x5) fun (x34 : Int32) => lt (X 47 1) fun (x40 : Int32) => lt (x4_add X 48 x34) fun (X54 : xS) => (if x34 = 10 then ((x + (X54 47 2)), X54) else (if x34 = 11 then (lt2 (x7_say zf X54 0 x40 x) fun (x170 : Int32) (X170 : xS) => ((x170 * 2), X170)) else (if x34 = 12 then ((x - (X54 47 3)), X54) else (if x34 = 13 then (lt2 (x7_say zf X54 1 x40 x) fun (x190 : Int32) (X190 : xS) => lt2 (x7_say zf X190 2 x40 x) fun (x200 : Int32) (X200 : xS) => ((x190 ^^^ x200), X200)) else (if x34 = 20 then (lt2 (x7_say zf X54 0 x26 x) fun (x212 : Int32) (X212 : xS) => ((x212 * 3), X212)) else (if x34 = 30 then (lt2 (x7_say zf X54 1 x26 x) fun (x225 : Int32) (X225 : xS) => lt2 (x7_say zf X225 2 x40 1) fun (x235 : Int32) (X235 : xS) => ((x225 - x235), X235)) else (if x34 = 40 then (lt2 (x7_say zf X54 2 x26 x) fun (x247 : Int32) (X247 : xS) => ((-x247), X247)) else (if x34 = 50 then (lt2 (x7_say zf X54 3 x26 x) fun (x259 : Int32) (X259 : xS) => lt2 (x7_say zf X259 0 x40 2) fun (x269 : Int32) (X269 : xS) => ((x259 - x269), X269)) else (if x34 = 60 then (lt2 (x7_say zf X54 1 x26 (x + 1)) fun (x283 : Int32) (X283 : xS) => (x283, X283)) else (if x34 = 70 then (lt2 (x7_say zf X54 2 x26 x) fun (x294 : Int32) (X294 : xS) => ((x294 ^^^ (X294 47 2)), X294)) else (if x34 = 71 then (lt2 (x7_say zf X54 1 x40 x) fun (x310 : Int32) (X310 : xS) => lt2 (x7_say zf X310 3 x26 x) fun (x320 : Int32) (X320 : xS) => ((x310 - x320), X320)) else (0, X54))))))))))))))) := rfl
theorem vS_ite {c : Prop} [Decidable c] {a b : Int32 × xS} (ha : vS a.2) (hb : vS b.2) : vS (if c then a else b).2 := by
  by_cases h : c
  · rw [if_pos h]; exact ha
  · rw [if_neg h]; exact hb
theorem sy_v : ∀ (f : Nat) (X : xS) (act of x : Int32), vS X → vS (x7_say f X act of x).2 := by
  intro f
  induction f with
  | zero =>
    intro X act of x h
    rw [x7_say_z]
    simp only [lt_i]
    split <;> exact h
  | succ f ih =>
    intro X act of x h
    rw [x7_say_s]
    simp only [lt_i, lt2_i]
    repeat (first | with_reducible exact h | with_reducible apply vS_ite | with_reducible apply ad_v | with_reducible apply ih)
def x7_answer (X : xS) (act : Int32) (x : Int32) : Int32 × xS := (lt2 (x7_say 13 X act (X 47 1) x) fun (x8 : Int32) (X8 : xS) => (x8, X8))
/-! of 28.tk -/
theorem cell_x {X : xS} {c : Int32} (h : eC X 1) (hc : ¬ x8_isCell X c = 0) : c = nI (vn c) ∧ vn c < vn (X 1 0) := by
  have h2 := h.2.1
  have h3 := h.2.2
  have e := in_natp (n := vn (X 1 0) - 1) hc (nt_sub h.1 (show (1 : Int32) = nI 1 from rfl) (by omega)) (by omega)
  exact ⟨e.1, by omega⟩
theorem pers_x {X : xS} {q : Int32} (h : eP X 1) (hc : ¬ x8_isPerson X q = 0) : q = nI (vn q) ∧ vn q < vn (X 1 9) := by
  have h2 := h.2
  rcases Nat.eq_zero_or_pos (vn (X 1 9)) with e0 | e0
  · exfalso
    obtain ⟨a, b⟩ := p8_in hc
    rw [h.1, e0] at b
    have b2 : q ≤ -1 := Int32.not_lt.mp b
    exact a (Int32.lt_of_le_of_lt b2 (by decide))
  · have e := in_natp (n := vn (X 1 9) - 1) hc (nt_sub h.1 (show (1 : Int32) = nI 1 from rfl) (by omega)) (by omega)
    exact ⟨e.1, by omega⟩
theorem xin_pos {w lo hi : Int32} {n : Nat} (h : ¬ p8_within w lo hi = 0) (h0 : 0 ≤ w) (hh : hi = nI n) (hn : n < 2 ^ 31) : w = nI (vn w) ∧ vn w ≤ n := by
  obtain ⟨a, b⟩ := p8_in h
  rw [hh] at b
  exact nn_of (Int32.not_lt.mpr h0) (Int32.not_lt.mp b) hn
theorem kS_s {s : Nat} (h : s < 4) : kS (51 + 2 * s) := (by decide : ∀ s, s < 4 → kS (51 + 2 * s)) s h
theorem mn_x {x y z : Int32} (hx : x = nI (vn x)) (hy : y = nI (vn y)) (hz : z = if y < x then y else x) (h1 : vn x < 2 ^ 31) (h2 : vn y < 2 ^ 31) : z = nI (vn z) ∧ vn z ≤ vn x ∧ vn z ≤ vn y := by
  by_cases c : y < x
  · rw [if_pos c] at hz
    subst hz
    rw [hx, hy, nI_ltI h2 h1] at c
    exact ⟨hy, by omega, Nat.le_refl _⟩
  · rw [if_neg c] at hz
    subst hz
    rw [hx, hy, nI_ltI h2 h1] at c
    exact ⟨hx, Nat.le_refl _, by omega⟩
/-- sizes of the tape and of what waits -/
def zR (X : xS) (p : Nat) : Prop := (X (p + 8) 1 = nI (vn (X (p + 8) 1)) ∧ vn (X (p + 8) 1) ≤ 50) ∧ (X (p + 10) 1 = nI (vn (X (p + 10) 1)) ∧ vn (X (p + 10) 1) ≤ 20)
def shR (X : xS) : Prop := ∀ s, s < 4 → X (51 + 2 * s) 2 = nI (vn (X (51 + 2 * s) 2)) ∧ vn (X (51 + 2 * s) 2) ≤ 40
def tkX (X : xS) (pT pA : Nat) : xS := fun p k =>
  if p = pT then (if k = 0 ∨ (4 ≤ k ∧ k ≤ 9) ∨ k = 14 ∨ k = 15 ∨ k = 18 then X pA k else X pT k)
  else if p = pT + 1 then (if k < 10 then X (pA + 1) k else X p k)
  else if p = pT + 2 then (if k < 10 then X (pA + 2) k else X p k)
  else if p = pT + 4 then (if k < 8 then X (pA + 4) k else X p k)
  else if p = pT + 5 then (if k < 8 then X (pA + 5) k else X p k)
  else if p = pT + 6 then (if k < 8 then X (pA + 6) k else X p k)
  else if p = pT + 7 then (if k < 8 then X (pA + 7) k else X p k)
  else if p = pT + 8 then (if k = 1 then X (pA + 8) 1 else X p k)
  else if p = pT + 9 then (if k < vn (X (pA + 8) 1) then X (pA + 9) k else X p k)
  else if p = pT + 10 then (if k = 1 then X (pA + 10) 1 else X p k)
  else if p = pT + 11 then (if k < vn (X (pA + 10) 1) then X (pA + 11) k else X p k)
  else X p k
theorem xcp_pt (X : xS) (q0 q1 n p j : Nat) : xcp X q0 q1 n p j = if p = q1 then (if j < n then X q0 j else X p j) else X p j := by
  by_cases e : p = q1
  · subst e; rw [if_pos rfl, xcp_at]
  · rw [if_neg e, xcp_row e]
theorem mU_sm (X : xS) (q j : Nat) (x : Int32) (k : Nat) : mU X q j x q k = if k = j then x else X q k := by
  by_cases e : k = j
  · subst e; rw [if_pos rfl, mU_eq]
  · rw [if_neg e, mU_ne e]
set_option maxRecDepth 100000 in
theorem tk_st {X X5 X20 X35 X43 X51 X59 X67 X75 X83 X98 X113 X128 X143 X151 X159 X170 X181 X189 : xS} {pT pA : Nat} (hz : zR X pA) (hne : pA + 12 ≤ pT ∨ pT + 12 ≤ pA) (hcA : rcap (pA + 8) = 50 ∧ rcap (pA + 10) = 20) (hcT : rcap (pT + 8) = 50 ∧ rcap (pT + 10) = 20) (h5 : X5 = mU X pT 0 (X pA 0)) (h20 : X20 = xcp X5 (pA + 1) (pT + 1) 10) (h35 : X35 = xcp X20 (pA + 2) (pT + 2) 10) (h43 : X43 = mU X35 pT 4 (X35 pA 4)) (h51 : X51 = mU X43 pT 5 (X43 pA 5)) (h59 : X59 = mU X51 pT 6 (X51 pA 6)) (h67 : X67 = mU X59 pT 7 (X59 pA 7)) (h75 : X75 = mU X67 pT 8 (X67 pA 8)) (h83 : X83 = mU X75 pT 9 (X75 pA 9)) (h98 : X98 = xcp X83 (pA + 4) (pT + 4) 8) (h113 : X113 = xcp X98 (pA + 5) (pT + 5) 8) (h128 : X128 = xcp X113 (pA + 6) (pT + 6) 8) (h143 : X143 = xcp X128 (pA + 7) (pT + 7) 8) (h151 : X151 = mU X143 pT 14 (X143 pA 14)) (h159 : X159 = mU X151 pT 15 (X151 pA 15)) (h170 : X170 = x4_takeOver X159 (pT + 8) (pA + 8)) (h181 : X181 = x4_takeOver X170 (pT + 10) (pA + 10)) (h189 : X189 = mU X181 pT 18 (X181 pA 18)) (p k : Nat) : X189 p k = tkX X pT pA p k := by
  have o5 : ∀ q, (q < pT ∨ pT + 12 ≤ q) → X5 q = X q := fun q h => by rw [h5, mU_row (by omega)]
  have o20 : ∀ q, (q < pT ∨ pT + 12 ≤ q) → X20 q = X q := fun q h => by rw [h20, xcp_row (by omega)]; exact o5 q h
  have o35 : ∀ q, (q < pT ∨ pT + 12 ≤ q) → X35 q = X q := fun q h => by rw [h35, xcp_row (by omega)]; exact o20 q h
  have o43 : ∀ q, (q < pT ∨ pT + 12 ≤ q) → X43 q = X q := fun q h => by rw [h43, mU_row (by omega)]; exact o35 q h
  have o51 : ∀ q, (q < pT ∨ pT + 12 ≤ q) → X51 q = X q := fun q h => by rw [h51, mU_row (by omega)]; exact o43 q h
  have o59 : ∀ q, (q < pT ∨ pT + 12 ≤ q) → X59 q = X q := fun q h => by rw [h59, mU_row (by omega)]; exact o51 q h
  have o67 : ∀ q, (q < pT ∨ pT + 12 ≤ q) → X67 q = X q := fun q h => by rw [h67, mU_row (by omega)]; exact o59 q h
  have o75 : ∀ q, (q < pT ∨ pT + 12 ≤ q) → X75 q = X q := fun q h => by rw [h75, mU_row (by omega)]; exact o67 q h
  have o83 : ∀ q, (q < pT ∨ pT + 12 ≤ q) → X83 q = X q := fun q h => by rw [h83, mU_row (by omega)]; exact o75 q h
  have o98 : ∀ q, (q < pT ∨ pT + 12 ≤ q) → X98 q = X q := fun q h => by rw [h98, xcp_row (by omega)]; exact o83 q h
  have o113 : ∀ q, (q < pT ∨ pT + 12 ≤ q) → X113 q = X q := fun q h => by rw [h113, xcp_row (by omega)]; exact o98 q h
  have o128 : ∀ q, (q < pT ∨ pT + 12 ≤ q) → X128 q = X q := fun q h => by rw [h128, xcp_row (by omega)]; exact o113 q h
  have o143 : ∀ q, (q < pT ∨ pT + 12 ≤ q) → X143 q = X q := fun q h => by rw [h143, xcp_row (by omega)]; exact o128 q h
  have o151 : ∀ q, (q < pT ∨ pT + 12 ≤ q) → X151 q = X q := fun q h => by rw [h151, mU_row (by omega)]; exact o143 q h
  have o159 : ∀ q, (q < pT ∨ pT + 12 ≤ q) → X159 q = X q := fun q h => by rw [h159, mU_row (by omega)]; exact o151 q h
  have z170 : X159 (pA + 8) 1 = nI (vn (X159 (pA + 8) 1)) ∧ vn (X159 (pA + 8) 1) ≤ rcap (pA + 8) := by rw [o159 (pA + 8) (by omega), hcA.1]; exact hz.1
  have y170 : rcap (pA + 8) ≤ rcap (pT + 8) := by rw [hcA.1, hcT.1]; exact Nat.le_refl _
  have w170 : rcap (pT + 8) ≤ 50 := by omega
  have v170 : pA + 8 ≠ pT + 8 ∧ pA + 8 ≠ pT + 8 + 1 ∧ pA + 8 + 1 ≠ pT + 8 := ⟨by omega, by omega, by omega⟩
  have r170 : ∀ q, q ≠ pT + 8 → q ≠ pT + 9 → X170 q = X159 q := fun q h1 h2 => by rw [h170]; exact rt_row z170 y170 w170 v170 q h1 h2
  have o170 : ∀ q, (q < pT ∨ pT + 12 ≤ q) → X170 q = X q := fun q h => by rw [r170 q (by omega) (by omega)]; exact o159 q h
  have z181 : X170 (pA + 10) 1 = nI (vn (X170 (pA + 10) 1)) ∧ vn (X170 (pA + 10) 1) ≤ rcap (pA + 10) := by rw [o170 (pA + 10) (by omega), hcA.2]; exact hz.2
  have y181 : rcap (pA + 10) ≤ rcap (pT + 10) := by rw [hcA.2, hcT.2]; exact Nat.le_refl _
  have w181 : rcap (pT + 10) ≤ 50 := by omega
  have v181 : pA + 10 ≠ pT + 10 ∧ pA + 10 ≠ pT + 10 + 1 ∧ pA + 10 + 1 ≠ pT + 10 := ⟨by omega, by omega, by omega⟩
  have r181 : ∀ q, q ≠ pT + 10 → q ≠ pT + 11 → X181 q = X170 q := fun q h1 h2 => by rw [h181]; exact rt_row z181 y181 w181 v181 q h1 h2
  have o181 : ∀ q, (q < pT ∨ pT + 12 ≤ q) → X181 q = X q := fun q h => by rw [r181 q (by omega) (by omega)]; exact o170 q h
  have o189 : ∀ q, (q < pT ∨ pT + 12 ≤ q) → X189 q = X q := fun q h => by rw [h189, mU_row (by omega)]; exact o181 q h
  unfold tkX
  by_cases e0 : p = pT
  · subst e0
    rw [if_pos rfl]
    have f5 : X5 p k = if k = 0 then X pA 0 else X p k := by rw [h5, mU_sm]
    have f20 : X20 p k = X5 p k := by rw [h20, xcp_row (by omega)]
    have f35 : X35 p k = X20 p k := by rw [h35, xcp_row (by omega)]
    have f43 : X43 p k = if k = 4 then X pA 4 else X35 p k := by rw [h43, mU_sm, o35 pA (by omega)]
    have f51 : X51 p k = if k = 5 then X pA 5 else X43 p k := by rw [h51, mU_sm, o43 pA (by omega)]
    have f59 : X59 p k = if k = 6 then X pA 6 else X51 p k := by rw [h59, mU_sm, o51 pA (by omega)]
    have f67 : X67 p k = if k = 7 then X pA 7 else X59 p k := by rw [h67, mU_sm, o59 pA (by omega)]
    have f75 : X75 p k = if k = 8 then X pA 8 else X67 p k := by rw [h75, mU_sm, o67 pA (by omega)]
    have f83 : X83 p k = if k = 9 then X pA 9 else X75 p k := by rw [h83, mU_sm, o75 pA (by omega)]
    have f98 : X98 p k = X83 p k := by rw [h98, xcp_row (by omega)]
    have f113 : X113 p k = X98 p k := by rw [h113, xcp_row (by omega)]
    have f128 : X128 p k = X113 p k := by rw [h128, xcp_row (by omega)]
    have f143 : X143 p k = X128 p k := by rw [h143, xcp_row (by omega)]
    have f151 : X151 p k = if k = 14 then X pA 14 else X143 p k := by rw [h151, mU_sm, o143 pA (by omega)]
    have f159 : X159 p k = if k = 15 then X pA 15 else X151 p k := by rw [h159, mU_sm, o151 pA (by omega)]
    have f170 : X170 p k = X159 p k := by rw [r170 p (by omega) (by omega)]
    have f181 : X181 p k = X170 p k := by rw [r181 p (by omega) (by omega)]
    have f189 : X189 p k = if k = 18 then X pA 18 else X181 p k := by rw [h189, mU_sm, o181 pA (by omega)]
    rw [f189, f181, f170, f159, f151, f143, f128, f113, f98, f83, f75, f67, f59, f51, f43, f35, f20, f5]
    by_cases c18 : k = 18
    · rw [if_pos c18, if_pos (by omega), c18]
    rw [if_neg c18]
    by_cases c15 : k = 15
    · rw [if_pos c15, if_pos (by omega), c15]
    rw [if_neg c15]
    by_cases c14 : k = 14
    · rw [if_pos c14, if_pos (by omega), c14]
    rw [if_neg c14]
    by_cases c9 : k = 9
    · rw [if_pos c9, if_pos (by omega), c9]
    rw [if_neg c9]
    by_cases c8 : k = 8
    · rw [if_pos c8, if_pos (by omega), c8]
    rw [if_neg c8]
    by_cases c7 : k = 7
    · rw [if_pos c7, if_pos (by omega), c7]
    rw [if_neg c7]
    by_cases c6 : k = 6
    · rw [if_pos c6, if_pos (by omega), c6]
    rw [if_neg c6]
    by_cases c5 : k = 5
    · rw [if_pos c5, if_pos (by omega), c5]
    rw [if_neg c5]
    by_cases c4 : k = 4
    · rw [if_pos c4, if_pos (by omega), c4]
    rw [if_neg c4]
    by_cases c0 : k = 0
    · rw [if_pos c0, if_pos (by omega), c0]
    rw [if_neg c0]
    rw [if_neg (by omega)]
  by_cases e1 : p = pT + 1
  · subst e1
    rw [if_neg (show ¬ pT + 1 = pT by omega), if_pos rfl]
    rw [h189, mU_row (by omega), r181 _ (by omega) (by omega), r170 _ (by omega) (by omega), h159, mU_row (by omega), h151, mU_row (by omega), h143, xcp_row (by omega), h128, xcp_row (by omega), h113, xcp_row (by omega), h98, xcp_row (by omega), h83, mU_row (by omega), h75, mU_row (by omega), h67, mU_row (by omega), h59, mU_row (by omega), h51, mU_row (by omega), h43, mU_row (by omega), h35, xcp_row (by omega), h20, xcp_at, o5 _ (by omega)]
    have q9 : X5 (pT + 1) = X (pT + 1) := by rw [h5, mU_row (by omega)]
    rw [q9]
  by_cases e2 : p = pT + 2
  · subst e2
    rw [if_neg (show ¬ pT + 2 = pT by omega), if_neg (show ¬ pT + 2 = pT + 1 by omega), if_pos rfl]
    rw [h189, mU_row (by omega), r181 _ (by omega) (by omega), r170 _ (by omega) (by omega), h159, mU_row (by omega), h151, mU_row (by omega), h143, xcp_row (by omega), h128, xcp_row (by omega), h113, xcp_row (by omega), h98, xcp_row (by omega), h83, mU_row (by omega), h75, mU_row (by omega), h67, mU_row (by omega), h59, mU_row (by omega), h51, mU_row (by omega), h43, mU_row (by omega), h35, xcp_at, o20 _ (by omega)]
    have q9 : X20 (pT + 2) = X (pT + 2) := by rw [h20, xcp_row (by omega), h5, mU_row (by omega)]
    rw [q9]
  by_cases e4 : p = pT + 4
  · subst e4
    rw [if_neg (show ¬ pT + 4 = pT by omega), if_neg (show ¬ pT + 4 = pT + 1 by omega), if_neg (show ¬ pT + 4 = pT + 2 by omega), if_pos rfl]
    rw [h189, mU_row (by omega), r181 _ (by omega) (by omega), r170 _ (by omega) (by omega), h159, mU_row (by omega), h151, mU_row (by omega), h143, xcp_row (by omega), h128, xcp_row (by omega), h113, xcp_row (by omega), h98, xcp_at, o83 _ (by omega)]
    have q9 : X83 (pT + 4) = X (pT + 4) := by rw [h83, mU_row (by omega), h75, mU_row (by omega), h67, mU_row (by omega), h59, mU_row (by omega), h51, mU_row (by omega), h43, mU_row (by omega), h35, xcp_row (by omega), h20, xcp_row (by omega), h5, mU_row (by omega)]
    rw [q9]
  by_cases e5 : p = pT + 5
  · subst e5
    rw [if_neg (show ¬ pT + 5 = pT by omega), if_neg (show ¬ pT + 5 = pT + 1 by omega), if_neg (show ¬ pT + 5 = pT + 2 by omega), if_neg (show ¬ pT + 5 = pT + 4 by omega), if_pos rfl]
    rw [h189, mU_row (by omega), r181 _ (by omega) (by omega), r170 _ (by omega) (by omega), h159, mU_row (by omega), h151, mU_row (by omega), h143, xcp_row (by omega), h128, xcp_row (by omega), h113, xcp_at, o98 _ (by omega)]
    have q9 : X98 (pT + 5) = X (pT + 5) := by rw [h98, xcp_row (by omega), h83, mU_row (by omega), h75, mU_row (by omega), h67, mU_row (by omega), h59, mU_row (by omega), h51, mU_row (by omega), h43, mU_row (by omega), h35, xcp_row (by omega), h20, xcp_row (by omega), h5, mU_row (by omega)]
    rw [q9]
  by_cases e6 : p = pT + 6
  · subst e6
    rw [if_neg (show ¬ pT + 6 = pT by omega), if_neg (show ¬ pT + 6 = pT + 1 by omega), if_neg (show ¬ pT + 6 = pT + 2 by omega), if_neg (show ¬ pT + 6 = pT + 4 by omega), if_neg (show ¬ pT + 6 = pT + 5 by omega), if_pos rfl]
    rw [h189, mU_row (by omega), r181 _ (by omega) (by omega), r170 _ (by omega) (by omega), h159, mU_row (by omega), h151, mU_row (by omega), h143, xcp_row (by omega), h128, xcp_at, o113 _ (by omega)]
    have q9 : X113 (pT + 6) = X (pT + 6) := by rw [h113, xcp_row (by omega), h98, xcp_row (by omega), h83, mU_row (by omega), h75, mU_row (by omega), h67, mU_row (by omega), h59, mU_row (by omega), h51, mU_row (by omega), h43, mU_row (by omega), h35, xcp_row (by omega), h20, xcp_row (by omega), h5, mU_row (by omega)]
    rw [q9]
  by_cases e7 : p = pT + 7
  · subst e7
    rw [if_neg (show ¬ pT + 7 = pT by omega), if_neg (show ¬ pT + 7 = pT + 1 by omega), if_neg (show ¬ pT + 7 = pT + 2 by omega), if_neg (show ¬ pT + 7 = pT + 4 by omega), if_neg (show ¬ pT + 7 = pT + 5 by omega), if_neg (show ¬ pT + 7 = pT + 6 by omega), if_pos rfl]
    rw [h189, mU_row (by omega), r181 _ (by omega) (by omega), r170 _ (by omega) (by omega), h159, mU_row (by omega), h151, mU_row (by omega), h143, xcp_at, o128 _ (by omega)]
    have q9 : X128 (pT + 7) = X (pT + 7) := by rw [h128, xcp_row (by omega), h113, xcp_row (by omega), h98, xcp_row (by omega), h83, mU_row (by omega), h75, mU_row (by omega), h67, mU_row (by omega), h59, mU_row (by omega), h51, mU_row (by omega), h43, mU_row (by omega), h35, xcp_row (by omega), h20, xcp_row (by omega), h5, mU_row (by omega)]
    rw [q9]
  by_cases e8 : p = pT + 8
  · subst e8
    rw [if_neg (show ¬ pT + 8 = pT by omega), if_neg (show ¬ pT + 8 = pT + 1 by omega), if_neg (show ¬ pT + 8 = pT + 2 by omega), if_neg (show ¬ pT + 8 = pT + 4 by omega), if_neg (show ¬ pT + 8 = pT + 5 by omega), if_neg (show ¬ pT + 8 = pT + 6 by omega), if_neg (show ¬ pT + 8 = pT + 7 by omega), if_pos rfl]
    rw [h189, mU_row (by omega), r181 _ (by omega) (by omega)]
    have q9 : X159 (pT + 8) = X (pT + 8) := by rw [h159, mU_row (by omega), h151, mU_row (by omega), h143, xcp_row (by omega), h128, xcp_row (by omega), h113, xcp_row (by omega), h98, xcp_row (by omega), h83, mU_row (by omega), h75, mU_row (by omega), h67, mU_row (by omega), h59, mU_row (by omega), h51, mU_row (by omega), h43, mU_row (by omega), h35, xcp_row (by omega), h20, xcp_row (by omega), h5, mU_row (by omega)]
    rw [h170, rt_all z170 y170 w170 v170]
    by_cases c1 : k = 1
    · rw [if_pos c1, if_pos ⟨rfl, c1⟩, o159 _ (by omega)]
    · rw [if_neg c1, if_neg (show ¬ (pT + 8 = pT + 8 ∧ k = 1) from fun h => c1 h.2), if_neg (show ¬ (pT + 8 = pT + 8 + 1 ∧ k < vn (X159 (pA + 8) 1)) from fun h => absurd h.1 (by omega)), q9]
  by_cases e9 : p = pT + 9
  · subst e9
    rw [if_neg (show ¬ pT + 9 = pT by omega), if_neg (show ¬ pT + 9 = pT + 1 by omega), if_neg (show ¬ pT + 9 = pT + 2 by omega), if_neg (show ¬ pT + 9 = pT + 4 by omega), if_neg (show ¬ pT + 9 = pT + 5 by omega), if_neg (show ¬ pT + 9 = pT + 6 by omega), if_neg (show ¬ pT + 9 = pT + 7 by omega), if_neg (show ¬ pT + 9 = pT + 8 by omega), if_pos rfl]
    rw [h189, mU_row (by omega), r181 _ (by omega) (by omega)]
    have q9 : X159 (pT + 9) = X (pT + 9) := by rw [h159, mU_row (by omega), h151, mU_row (by omega), h143, xcp_row (by omega), h128, xcp_row (by omega), h113, xcp_row (by omega), h98, xcp_row (by omega), h83, mU_row (by omega), h75, mU_row (by omega), h67, mU_row (by omega), h59, mU_row (by omega), h51, mU_row (by omega), h43, mU_row (by omega), h35, xcp_row (by omega), h20, xcp_row (by omega), h5, mU_row (by omega)]
    rw [h170, rt_all z170 y170 w170 v170]
    rw [if_neg (show ¬ (pT + 9 = pT + 8 ∧ k = 1) from fun h => absurd h.1 (by omega)), o159 (pA + 8) (by omega)]
    by_cases c1 : k < vn (X (pA + 8) 1)
    · rw [if_pos c1, if_pos (show pT + 9 = pT + 8 + 1 ∧ k < vn (X (pA + 8) 1) from ⟨rfl, c1⟩), show pA + 8 + 1 = pA + 9 from rfl, o159 _ (by omega)]
    · rw [if_neg c1, if_neg (show ¬ (pT + 9 = pT + 8 + 1 ∧ k < vn (X (pA + 8) 1)) from fun h => c1 h.2), q9]
  by_cases e10 : p = pT + 10
  · subst e10
    rw [if_neg (show ¬ pT + 10 = pT by omega), if_neg (show ¬ pT + 10 = pT + 1 by omega), if_neg (show ¬ pT + 10 = pT + 2 by omega), if_neg (show ¬ pT + 10 = pT + 4 by omega), if_neg (show ¬ pT + 10 = pT + 5 by omega), if_neg (show ¬ pT + 10 = pT + 6 by omega), if_neg (show ¬ pT + 10 = pT + 7 by omega), if_neg (show ¬ pT + 10 = pT + 8 by omega), if_neg (show ¬ pT + 10 = pT + 9 by omega), if_pos rfl]
    rw [h189, mU_row (by omega)]
    have q9 : X170 (pT + 10) = X (pT + 10) := by rw [r170 _ (by omega) (by omega), h159, mU_row (by omega), h151, mU_row (by omega), h143, xcp_row (by omega), h128, xcp_row (by omega), h113, xcp_row (by omega), h98, xcp_row (by omega), h83, mU_row (by omega), h75, mU_row (by omega), h67, mU_row (by omega), h59, mU_row (by omega), h51, mU_row (by omega), h43, mU_row (by omega), h35, xcp_row (by omega), h20, xcp_row (by omega), h5, mU_row (by omega)]
    rw [h181, rt_all z181 y181 w181 v181]
    by_cases c1 : k = 1
    · rw [if_pos c1, if_pos ⟨rfl, c1⟩, o170 _ (by omega)]
    · rw [if_neg c1, if_neg (show ¬ (pT + 10 = pT + 10 ∧ k = 1) from fun h => c1 h.2), if_neg (show ¬ (pT + 10 = pT + 10 + 1 ∧ k < vn (X170 (pA + 10) 1)) from fun h => absurd h.1 (by omega)), q9]
  by_cases e11 : p = pT + 11
  · subst e11
    rw [if_neg (show ¬ pT + 11 = pT by omega), if_neg (show ¬ pT + 11 = pT + 1 by omega), if_neg (show ¬ pT + 11 = pT + 2 by omega), if_neg (show ¬ pT + 11 = pT + 4 by omega), if_neg (show ¬ pT + 11 = pT + 5 by omega), if_neg (show ¬ pT + 11 = pT + 6 by omega), if_neg (show ¬ pT + 11 = pT + 7 by omega), if_neg (show ¬ pT + 11 = pT + 8 by omega), if_neg (show ¬ pT + 11 = pT + 9 by omega), if_neg (show ¬ pT + 11 = pT + 10 by omega), if_pos rfl]
    rw [h189, mU_row (by omega)]
    have q9 : X170 (pT + 11) = X (pT + 11) := by rw [r170 _ (by omega) (by omega), h159, mU_row (by omega), h151, mU_row (by omega), h143, xcp_row (by omega), h128, xcp_row (by omega), h113, xcp_row (by omega), h98, xcp_row (by omega), h83, mU_row (by omega), h75, mU_row (by omega), h67, mU_row (by omega), h59, mU_row (by omega), h51, mU_row (by omega), h43, mU_row (by omega), h35, xcp_row (by omega), h20, xcp_row (by omega), h5, mU_row (by omega)]
    rw [h181, rt_all z181 y181 w181 v181]
    rw [if_neg (show ¬ (pT + 11 = pT + 10 ∧ k = 1) from fun h => absurd h.1 (by omega)), o170 (pA + 10) (by omega)]
    by_cases c1 : k < vn (X (pA + 10) 1)
    · rw [if_pos c1, if_pos (show pT + 11 = pT + 10 + 1 ∧ k < vn (X (pA + 10) 1) from ⟨rfl, c1⟩), show pA + 10 + 1 = pA + 11 from rfl, o170 _ (by omega)]
    · rw [if_neg c1, if_neg (show ¬ (pT + 11 = pT + 10 + 1 ∧ k < vn (X (pA + 10) 1)) from fun h => c1 h.2), q9]
  rw [if_neg e0, if_neg e1, if_neg e2, if_neg e4, if_neg e5, if_neg e6, if_neg e7, if_neg e8, if_neg e9, if_neg e10, if_neg e11]
  rw [h189, mU_row (by omega), r181 _ (by omega) (by omega), r170 _ (by omega) (by omega), h159, mU_row (by omega), h151, mU_row (by omega), h143, xcp_row (by omega), h128, xcp_row (by omega), h113, xcp_row (by omega), h98, xcp_row (by omega), h83, mU_row (by omega), h75, mU_row (by omega), h67, mU_row (by omega), h59, mU_row (by omega), h51, mU_row (by omega), h43, mU_row (by omega), h35, xcp_row (by omega), h20, xcp_row (by omega), h5, mU_row (by omega)]
theorem tk_e {X : xS} {pT pA : Nat} (hz : zR X pA) (hne : pA + 12 ≤ pT ∨ pT + 12 ≤ pA) (hA : kE pA) (hT : kE pT) : x0_takeOver X pT pA = tkX X pT pA := by
  funext p k
  unfold x0_takeOver
  simp only [lt_i]
  exact tk_st hz hne (xE_cap hA) (xE_cap hT) rfl rfl rfl rfl rfl rfl rfl rfl rfl rfl rfl rfl rfl rfl rfl rfl rfl rfl p k
theorem tk_R {tt : tT} {X : xS} {pT pA : Nat} (h : eR tt X pA) (hne : pA + 12 ≤ pT ∨ pT + 12 ≤ pA) : eR tt (tkX X pT pA) pT := by
  have f : ∀ k, (k = 0 ∨ (4 ≤ k ∧ k ≤ 9) ∨ k = 14 ∨ k = 15 ∨ k = 18) → tkX X pT pA pT k = X pA k := fun k hk => by
    unfold tkX
    rw [if_pos rfl, if_pos hk]
  have g : ∀ k, k < 8 → tkX X pT pA (pT + 6) k = X (pA + 6) k := fun k hk => by
    unfold tkX
    rw [if_neg (by omega), if_neg (by omega), if_neg (by omega), if_neg (by omega), if_neg (by omega), if_pos rfl, if_pos hk]
  obtain ⟨a, b, c, d⟩ := h
  refine ⟨?_, ?_, ?_, ?_⟩
  · unfold eC; rw [f 0 (by omega)]; exact a
  · unfold eP; rw [f 9 (by omega)]; exact b
  · intro q hq; rw [g q hq]; exact c q hq
  · intro k hk; rw [f k (by omega)]; exact d k hk
theorem tk_out {X : xS} {pT pA p : Nat} (h : p < pT ∨ pT + 12 ≤ p ∨ p = pT + 3) : tkX X pT pA p = X p := by
  funext k
  unfold tkX
  rw [if_neg (by omega), if_neg (by omega), if_neg (by omega), if_neg (by omega), if_neg (by omega), if_neg (by omega), if_neg (by omega), if_neg (by omega), if_neg (by omega), if_neg (by omega), if_neg (by omega)]
theorem ph_outL {tt : tT} {X1 : xS} {pT p : Nat} (h : p ≠ pT ∧ p ≠ pT + 1 ∧ p ≠ pT + 6 ∧ p ≠ pT + 7) (k : Nat) : x0_passHour_L6 tt pT X1 k p = X1 p := by
  induction k with
  | zero => rfl
  | succ k ih =>
    rw [x0_passHour_L6_s]
    simp only [lt_i]
    rw [gO_0 _ _ _ _ h.2.2.1 h.2.2.2, mU_row h.1, mU_row h.2.1, ih]
theorem ph_out (tt : tT) {X : xS} {pT p : Nat} (h : p < pT ∨ pT + 8 ≤ p) : x0_passHour tt X pT p = X p := by
  unfold x0_passHour
  simp only [lt_i]
  rw [mU_row (by omega), ph_outL ⟨by omega, by omega, by omega, by omega⟩, gw_all _ _ _ _ (by omega) (by omega)]
theorem ph_R {tt : tT} {X : xS} {pT : Nat} (hR : eR tt X pT) : eR tt (x0_passHour tt X pT) pT ∧ x0_passHour tt X pT pT 9 = X pT 9 := by
  have h1 := gw_R hR
  have h := ph_L6 (X := X) h1.1 h1.2 (vn (X pT 9)) (Nat.le_refl _)
  unfold x0_passHour
  simp only [lt_i]
  refine ⟨eR_f (fun k h7 _ => mU_ne h7) (fun q hq => ?_) h.1, ?_⟩
  · rw [mU_row (by omega)]
    exact h.1.2.2.1 q hq
  · rw [mU_ne (by decide)]
    exact h.2

/-! of 29.acts -/
/-- a row copied from a place on -/
def xcg (X : xS) (q0 q1 sp dp n : Nat) : xS := va_up X q1 (va_cpy (X q0) (X q1) sp dp n)
def p6_bitCount_0f7a4 (i : Int32) : Int32 := (lt (i - (((i.toUInt32 >>> ((1 : Int32).toUInt32 &&& Int32.toUInt32 31)).toInt32) &&& 1431655765)) fun (x9 : Int32) => lt ((x9 &&& 858993459) + (((x9.toUInt32 >>> ((2 : Int32).toUInt32 &&& Int32.toUInt32 31)).toInt32) &&& 858993459)) fun (x23 : Int32) => lt ((x23 + ((x23.toUInt32 >>> ((4 : Int32).toUInt32 &&& Int32.toUInt32 31)).toInt32)) &&& 252645135) fun (x33 : Int32) => lt (x33 + ((x33.toUInt32 >>> ((8 : Int32).toUInt32 &&& Int32.toUInt32 31)).toInt32)) fun (x40 : Int32) => lt (x40 + ((x40.toUInt32 >>> ((16 : Int32).toUInt32 &&& Int32.toUInt32 31)).toInt32)) fun (x47 : Int32) => (x47 &&& 63))
def p8_isFewer (set : Int32) (best : Int32) : Int32 := (if best < 0 then 1 else (if (p6_bitCount_0f7a4 best) ≤ (p6_bitCount_0f7a4 set) then 0 else 1))
theorem p8_isFewer_01 (set : Int32) (best : Int32) : p8_isFewer set best = 0 ∨ p8_isFewer set best = 1 := by
  unfold p8_isFewer
  repeat' split
  all_goals first | exact Or.inl rfl | exact Or.inr rfl | exact sF_in_01 .. | skip
def x8_field (X : xS) (n : Int32) : Int32 × xS := (if (p8_within n 3 10) = 0 then (lt2 (x8_error X 1) fun (x12 : Int32) (X12 : xS) => (x12, X12)) else (if (X 1 9) ≤ 0 then (lt (X 1 0) fun (x39 : Int32) => lt (x0_startAnew X 1 n) fun (X45 : xS) => (x39, X45)) else (lt2 (x8_error X 3) fun (x28 : Int32) (X28 : xS) => (x28, X28))))
def x8_sow (X : xS) (c : Int32) (what : Int32) (v : Int32) : Int32 × xS := (if (x8_isCell X c) = 0 then (lt2 (x8_error X 1) fun (x38 : Int32) (X38 : xS) => (x38, X38)) else (if (p8_within what 0 1) = 0 then (lt2 (x8_error X 1) fun (x38 : Int32) (X38 : xS) => (x38, X38)) else (lt ((if what = 0 then 99999 else 99) : Int32) fun (y30 : Int32) => (if (p8_within v 0 y30) = 0 then (lt2 (x8_error X 1) fun (x38 : Int32) (X38 : xS) => (x38, X38)) else (if what = 0 then (lt (X 2 (vn c)) fun (x69 : Int32) => lt (mU X 2 (vn c) v) fun (X75 : xS) => (x69, X75)) else (lt (X 3 (vn c)) fun (x69 : Int32) => lt (mU X 3 (vn c) v) fun (X75 : xS) => (x69, X75)))))))
def x8_ofCell (tt : tT) (X : xS) (c : Int32) (what : Int32) : Int32 × xS := (if (x8_isCell X c) = 0 then (lt2 (x8_error X 1) fun (x10 : Int32) (X10 : xS) => (x10, X10)) else (if what = 0 then ((X 2 (vn c)), X) else (if what = 1 then ((X 3 (vn c)), X) else (if what = 2 then ((x0_whoSee tt X 1 c), X) else (if what = 3 then ((x0_whoAreAt X 1 c), X) else (lt2 (x8_error X 1) fun (x84 : Int32) (X84 : xS) => (x84, X84)))))))
def x8_mostLaid (X : xS) (what : Int32) : Int32 := (if what = 0 then ((1 <<< (((X 1 0) - 1) &&& 31)) - 1) else (if what = 1 then ((1 <<< ((X 1 0) &&& 31)) - 1) else 9))
def x8_lay (X : xS) (what : Int32) (v : Int32) : Int32 × xS := (if (p8_within what 0 2) = 0 then (lt2 (x8_error X 1) fun (x24 : Int32) (X24 : xS) => (x24, X24)) else (if (p8_within v 0 (x8_mostLaid X what)) = 0 then (lt2 (x8_error X 1) fun (x24 : Int32) (X24 : xS) => (x24, X24)) else (lt2 ((if what = 0 then (lt (X 1 4) fun (x39 : Int32) => lt (mU X 1 4 v) fun (X45 : xS) => (x39, X45)) else (if what = 1 then (lt (X 1 5) fun (x63 : Int32) => lt (mU X 1 5 v) fun (X69 : xS) => (x63, X69)) else (lt (X 1 6) fun (x82 : Int32) => lt (mU X 1 6 v) fun (X88 : xS) => (x82, X88)))) : Int32 × xS) fun (z3_91 : Int32) (X91 : xS) => (z3_91, X91))))
def x8_person (X : xS) (km : Int32) (c : Int32) : Int32 × xS := (if (p8_isKindAndNumber km) = 0 then (lt2 (x8_error X 1) fun (x17 : Int32) (X17 : xS) => (x17, X17)) else (if (x8_isCell X c) = 0 then (lt2 (x8_error X 1) fun (x17 : Int32) (X17 : xS) => (x17, X17)) else (if (X 1 9) < 8 then (lt2 (x0_addOne X 1 (km / 10) (km - km / 10 * 10) c) fun (x52 : Int32) (X52 : xS) => (x52, X52)) else (lt2 (x8_error X 4) fun (x35 : Int32) (X35 : xS) => (x35, X35)))))
def x8_ofPerson (tt : tT) (X : xS) (q : Int32) (what : Int32) : Int32 × xS := (if (x8_isPerson X q) = 0 then (lt2 (x8_error X 1) fun (x10 : Int32) (X10 : xS) => (x10, X10)) else (if what = 0 then ((X 5 (vn q)), X) else (if what = 1 then ((X 6 (vn q)), X) else (if what = 2 then ((X 7 (vn q)), X) else (if what = 3 then ((X 8 (vn q)), X) else (if what = 4 then ((x0_sightIn tt X 1 (vn q) (X 1 6) (X 1 7)), X) else (if what = 5 then ((p1_countsOf (X 5 (vn q)) (X 6 (vn q))), X) else (if what = 6 then ((x0_takesFrom tt X 1 (vn q) (X 2 (vn (X 7 (vn q)))) (X 1 7)), X) else (if what = 7 then ((x0_seenBy tt X 1 (vn q)), X) else (lt2 (x8_error X 1) fun (x189 : Int32) (X189 : xS) => (x189, X189)))))))))))
def x8_lead (X : xS) (q : Int32) (what : Int32) (v : Int32) : Int32 × xS := (if (x8_isPerson X q) = 0 then (lt2 (x8_error X 1) fun (x43 : Int32) (X43 : xS) => (x43, X43)) else (if (p8_within what 0 1) = 0 then (lt2 (x8_error X 1) fun (x43 : Int32) (X43 : xS) => (x43, X43)) else (if what = 0 then (if (x8_isCell X v) = 0 then (lt2 (x8_error X 1) fun (x43 : Int32) (X43 : xS) => (x43, X43)) else (if what = 0 then (lt (X 7 (vn q)) fun (x74 : Int32) => lt (mU X 7 (vn q) v) fun (X80 : xS) => (x74, X80)) else (lt (X 8 (vn q)) fun (x74 : Int32) => lt (mU X 8 (vn q) v) fun (X80 : xS) => (x74, X80)))) else (if (p8_within v (-1) 1) = 0 then (lt2 (x8_error X 1) fun (x43 : Int32) (X43 : xS) => (x43, X43)) else (if what = 0 then (lt (X 7 (vn q)) fun (x74 : Int32) => lt (mU X 7 (vn q) v) fun (X80 : xS) => (x74, X80)) else (lt (X 8 (vn q)) fun (x74 : Int32) => lt (mU X 8 (vn q) v) fun (X80 : xS) => (x74, X80)))))))
def x8_become (X : xS) (q : Int32) (km : Int32) : Int32 × xS := (if (x8_isPerson X q) = 0 then (lt2 (x8_error X 1) fun (x17 : Int32) (X17 : xS) => (x17, X17)) else (if (p8_isKindAndNumber km) = 0 then (lt2 (x8_error X 1) fun (x17 : Int32) (X17 : xS) => (x17, X17)) else (lt (X 5 (vn q)) fun (x30 : Int32) => lt (mU X 5 (vn q) (km / 10)) fun (X43 : xS) => lt (mU X43 6 (vn q) (km - km / 10 * 10)) fun (X56 : xS) => (x30, X56))))
def x8_as (X : xS) (q : Int32) (kind : Int32) : Int32 × xS := (if (x8_isPerson X q) = 0 then (lt2 (x8_error X 1) fun (x20 : Int32) (X20 : xS) => (x20, X20)) else (if (p8_within kind 0 6) = 0 then (lt2 (x8_error X 1) fun (x20 : Int32) (X20 : xS) => (x20, X20)) else (if (x1_isOneOf X (X 5 (vn q)) kind) = 0 then (lt2 (x8_error X 5) fun (x42 : Int32) (X42 : xS) => (x42, X42)) else ((X 6 (vn q)), X))))
def x8_law (tt : tT) (X : xS) (use : Int32) (a : Int32) (b : Int32) (d : Int32) : Int32 × xS := (if (p8_within use 0 1) = 0 then (lt2 (x8_error X 1) fun (x11 : Int32) (X11 : xS) => (x11, X11)) else (if use = 0 then ((x0_sightGiven tt X 1 a b d), X) else ((x0_theftGiven tt X 1 a b d), X)))
def x8_hours_L39 (tt : tT) (X : xS) : Nat → xS
  | 0 => X
  | k39 + 1 => lt (x8_hours_L39 tt X k39) fun (X39 : xS) => (lt (x0_passHour tt X39 1) fun (X48 : xS) => X48)
theorem x8_hours_L39_0 (tt : tT) (X : xS) : x8_hours_L39 tt X 0 = X := rfl
theorem x8_hours_L39_s (tt : tT) (X : xS) (k39 : Nat) : x8_hours_L39 tt X (k39 + 1) = lt (x8_hours_L39 tt X k39) fun (X39 : xS) => (lt (x0_passHour tt X39 1) fun (X48 : xS) => X48) := rfl
def x8_hours (tt : tT) (X : xS) (n : Int32) : Int32 × xS := (if (p8_within n 1 50) = 0 then (lt2 (x8_error X 1) fun (x12 : Int32) (X12 : xS) => (x12, X12)) else (if ((X 1 7) + n) ≤ 9999 then (lt (x8_hours_L39 tt X (vn n)) fun (X39x : xS) => ((x0_together X39x 1), X39x)) else (lt2 (x8_error X 3) fun (x33 : Int32) (X33 : xS) => (x33, X33))))
def x8_loose_L39 (tt : tT) (X : xS) : Nat → xS
  | 0 => X
  | k39 + 1 => lt (x8_loose_L39 tt X k39) fun (X39 : xS) => (lt (x0_turnOneByDraws X39 1) fun (X48 : xS) => lt (x0_passHour tt X48 1) fun (X55 : xS) => X55)
theorem x8_loose_L39_0 (tt : tT) (X : xS) : x8_loose_L39 tt X 0 = X := rfl
theorem x8_loose_L39_s (tt : tT) (X : xS) (k39 : Nat) : x8_loose_L39 tt X (k39 + 1) = lt (x8_loose_L39 tt X k39) fun (X39 : xS) => (lt (x0_turnOneByDraws X39 1) fun (X48 : xS) => lt (x0_passHour tt X48 1) fun (X55 : xS) => X55) := rfl
def x8_loose (tt : tT) (X : xS) (n : Int32) : Int32 × xS := (if (p8_within n 1 40) = 0 then (lt2 (x8_error X 1) fun (x12 : Int32) (X12 : xS) => (x12, X12)) else (if ((X 1 7) + n) ≤ 9999 then (lt (x8_loose_L39 tt X (vn n)) fun (X39x : xS) => ((x0_together X39x 1), X39x)) else (lt2 (x8_error X 3) fun (x33 : Int32) (X33 : xS) => (x33, X33))))
def x8_evening (X : xS) : Int32 × xS := (lt (x0_addUpLeaning X 1) fun (X4 : xS) => ((x0_together X4 1), X4))
def x8_hail (X : xS) (v : Int32) : Int32 × xS := (if (p8_within v 2 9) = 0 then (lt2 (x8_error X 1) fun (x12 : Int32) (X12 : xS) => (x12, X12)) else (lt (x0_divideGrains X 1 v) fun (X21 : xS) => ((x0_together X21 1), X21)))
def x8_then_L46 (tt : tT) (X41 : xS) : Nat → xS
  | 0 => X41
  | k46 + 1 => lt (x8_then_L46 tt X41 k46) fun (X46 : xS) => (lt (x0_passHour tt X46 13) fun (X55 : xS) => X55)
theorem x8_then_L46_0 (tt : tT) (X41 : xS) : x8_then_L46 tt X41 0 = X41 := rfl
theorem x8_then_L46_s (tt : tT) (X41 : xS) (k46 : Nat) : x8_then_L46 tt X41 (k46 + 1) = lt (x8_then_L46 tt X41 k46) fun (X46 : xS) => (lt (x0_passHour tt X46 13) fun (X55 : xS) => X55) := rfl
def x8_then (tt : tT) (X : xS) (n : Int32) (what : Int32) : Int32 × xS := (if (p8_within n 0 50) = 0 then (lt2 (x8_error X 1) fun (x29 : Int32) (X29 : xS) => (x29, X29)) else (if (p8_within what (-1) ((X 1 0) - 1)) = 0 then (lt2 (x8_error X 1) fun (x29 : Int32) (X29 : xS) => (x29, X29)) else (lt (x0_takeOver X 13 1) fun (X41 : xS) => (lt (x8_then_L46 tt X41 (vn n)) fun (X46x : xS) => (if 0 ≤ what then ((X46x 14 (vn what)), X46x) else ((X46x 13 8), X46x))))))
def x8_full_L29 (tt : tT) (v : Int32) (K29 : Nat → xS → Int32 × xS) : Nat → Nat → xS → Int32 × xS
  | 0, ki, X29 => K29 ki X29
  | f29 + 1, ki, X29 => (if 50 < (nI ki) then (K29 ki X29) else (if (x0_together X29 13) < v then (lt (x0_passHour tt X29 13) fun (X52 : xS) => (x8_full_L29 tt v K29 f29 (ki + 1) X52)) else (nI ki, X29)))
theorem x8_full_L29_s (tt : tT) (v : Int32) (K29 : Nat → xS → Int32 × xS) (f29 : Nat) (ki : Nat) (X29 : xS) : x8_full_L29 tt v K29 (f29 + 1) ki X29 = (if 50 < (nI ki) then (K29 ki X29) else (if (x0_together X29 13) < v then (lt (x0_passHour tt X29 13) fun (X52 : xS) => (x8_full_L29 tt v K29 f29 (ki + 1) X52)) else (nI ki, X29))) := rfl
def x8_full (tt : tT) (X : xS) (v : Int32) : Int32 × xS := (if (p8_within v 0 999999) = 0 then (lt2 (x8_error X 1) fun (x12 : Int32) (X12 : xS) => (x12, X12)) else (lt (x0_takeOver X 13 1) fun (X24 : xS) => (x8_full_L29 tt v (fun (kix : Nat) (X29x : xS) => (lt2 (x8_error X29x 2) fun (x63 : Int32) (X63 : xS) => (x63, X63))) 52 0 X24)))
def x8_leads (tt : tT) (X : xS) (c : Int32) (v : Int32) (n : Int32) (what : Int32) : Int32 × xS := (if (x8_isCell X c) = 0 then (lt2 (x8_error X 1) fun (x39 : Int32) (X39 : xS) => (x39, X39)) else (if (p8_within v 0 99999) = 0 then (lt2 (x8_error X 1) fun (x39 : Int32) (X39 : xS) => (x39, X39)) else (if (p8_within n 0 3) = 0 then (lt2 (x8_error X 1) fun (x39 : Int32) (X39 : xS) => (x39, X39)) else (if (p8_within what (-1) 3) = 0 then (lt2 (x8_error X 1) fun (x39 : Int32) (X39 : xS) => (x39, X39)) else (lt2 (x2_isFound tt X (vn c) v (vn n)) fun (x54 : Int32) (X54 : xS) => (if x54 = 0 then (lt2 (x8_error X54 2) fun (x62 : Int32) (X62 : xS) => (x62, X62)) else (if 0 ≤ what then ((X54 43 (vn what)), X54) else ((X54 42 1), X54))))))))
def x8_manyOrLeast (X : xS) (what : Int32) (many : Int32) (least : Int32) : Int32 × xS := (if what = 0 then (many, X) else (if 0 ≤ least then (least, X) else (lt2 (x8_error X 2) fun (x12 : Int32) (X12 : xS) => (x12, X12))))
def x8_sums_L43 (X : xS) (v : Int32) : Nat → Int32 → Int32 → Int32 → Int32 × Int32 × Int32
  | 0, v5_43, v4_43, v3_43 => (v5_43, v4_43, v3_43)
  | f + 1, v5_43, v4_43, v3_43 => (if v5_43 < 0 then (v5_43, v4_43, v3_43) else (lt2 ((if (x0_grainsIn X 1 v5_43) = v then ((v3_43 + 1), v5_43) else (v3_43, v4_43)) : Int32 × Int32) fun (z3_68 : Int32) (z4_68 : Int32) => (x8_sums_L43 X v f (v5_43 + (-1)) z4_68 z3_68)))
theorem x8_sums_L43_s (X : xS) (v : Int32) (f : Nat) (v5_43 : Int32) (v4_43 : Int32) (v3_43 : Int32) : x8_sums_L43 X v (f + 1) v5_43 v4_43 v3_43 = (if v5_43 < 0 then (v5_43, v4_43, v3_43) else (lt2 ((if (x0_grainsIn X 1 v5_43) = v then ((v3_43 + 1), v5_43) else (v3_43, v4_43)) : Int32 × Int32) fun (z3_68 : Int32) (z4_68 : Int32) => (x8_sums_L43 X v f (v5_43 + (-1)) z4_68 z3_68))) := rfl
def x8_sums (X : xS) (v : Int32) (what : Int32) : Int32 × xS := (if (p8_within v 0 999999) = 0 then (lt2 (x8_error X 1) fun (x21 : Int32) (X21 : xS) => (x21, X21)) else (if (p8_within what 0 1) = 0 then (lt2 (x8_error X 1) fun (x21 : Int32) (X21 : xS) => (x21, X21)) else (lt ((1 <<< ((X 1 0) &&& 31)) - 1) fun (x41 : Int32) => (lt3 (x8_sums_L43 X v (2 ^ vn (X 1 0) + 1) x41 (-1) 0) fun (v5_43x : Int32) (v4_43x : Int32) (v3_43x : Int32) => (lt2 (x8_manyOrLeast X what v3_43x v4_43x) fun (x79 : Int32) (X79 : xS) => (x79, X79))))))
def x8_lookAround_L2 (tt : tT) (X : xS) : Nat → xS
  | 0 => X
  | k2 + 1 => lt (x8_lookAround_L2 tt X k2) fun (X2 : xS) => (lt (mU X2 60 k2 (x0_seenBy tt X2 1 k2)) fun (X35 : xS) => X35)
theorem x8_lookAround_L2_0 (tt : tT) (X : xS) : x8_lookAround_L2 tt X 0 = X := rfl
theorem x8_lookAround_L2_s (tt : tT) (X : xS) (k2 : Nat) : x8_lookAround_L2 tt X (k2 + 1) = lt (x8_lookAround_L2 tt X k2) fun (X2 : xS) => (lt (mU X2 60 k2 (x0_seenBy tt X2 1 k2)) fun (X35 : xS) => X35) := rfl
def x8_lookAround (tt : tT) (X : xS) : xS := (lt (x8_lookAround_L2 tt X (vn (X 1 9))) fun (X2x : xS) => X2x)
def x8_growsAs_L27 (X : xS) (set : Int32) (ks : Nat) : Nat → Int32
  | 0 => 0
  | k27 + 1 => lt (x8_growsAs_L27 X set ks k27) fun (v4_27 : Int32) => (lt ((if (p8_has set (nI k27)) = 0 then v4_27 else (if (p8_has (X 60 k27) (nI ks)) = 0 then v4_27 else (lt (v4_27 + (p1_countsOf (X 5 k27) (X 6 k27))) fun (x98 : Int32) => x98))) : Int32) fun (z4_100 : Int32) => z4_100)
theorem x8_growsAs_L27_0 (X : xS) (set : Int32) (ks : Nat) : x8_growsAs_L27 X set ks 0 = 0 := rfl
theorem x8_growsAs_L27_s (X : xS) (set : Int32) (ks : Nat) (k27 : Nat) : x8_growsAs_L27 X set ks (k27 + 1) = lt (x8_growsAs_L27 X set ks k27) fun (v4_27 : Int32) => (lt ((if (p8_has set (nI k27)) = 0 then v4_27 else (if (p8_has (X 60 k27) (nI ks)) = 0 then v4_27 else (lt (v4_27 + (p1_countsOf (X 5 k27) (X 6 k27))) fun (x98 : Int32) => x98))) : Int32) fun (z4_100 : Int32) => z4_100) := rfl
def x8_growsAs_L2 (X : xS) (pS : Nat) (set : Int32) (K2 : Nat → Int32) : Nat → Nat → Int32
  | 0, ks => K2 ks
  | f2 + 1, ks => (if (X 1 0) ≤ (nI ks) then (K2 ks) else (if (X pS 2) ≤ (nI ks) then (K2 ks) else (lt (x8_growsAs_L27 X set ks (vn (X 1 9))) fun (v4_27x : Int32) => (if (v4_27x / 2) = (X (pS + 1) ks) then (x8_growsAs_L2 X pS set K2 f2 (ks + 1)) else 0))))
theorem x8_growsAs_L2_s (X : xS) (pS : Nat) (set : Int32) (K2 : Nat → Int32) (f2 : Nat) (ks : Nat) : x8_growsAs_L2 X pS set K2 (f2 + 1) ks = (if (X 1 0) ≤ (nI ks) then (K2 ks) else (if (X pS 2) ≤ (nI ks) then (K2 ks) else (lt (x8_growsAs_L27 X set ks (vn (X 1 9))) fun (v4_27x : Int32) => (if (v4_27x / 2) = (X (pS + 1) ks) then (x8_growsAs_L2 X pS set K2 f2 (ks + 1)) else 0)))) := rfl
def x8_growsAs (X : xS) (pS : Nat) (set : Int32) : Int32 := (x8_growsAs_L2 X pS set (fun (ksx : Nat) => 1) 11 0)
def x8_looked_L81 (s : Int32) (X60 : xS) : Nat → Int32 → Int32 → Int32 → Int32 × Int32 × Int32
  | 0, v5_81, v4_81, v3_81 => (v5_81, v4_81, v3_81)
  | f + 1, v5_81, v4_81, v3_81 => (if v5_81 < 0 then (v5_81, v4_81, v3_81) else (lt2 ((if (x8_growsAs X60 (51 + 2 * (vn s)) v5_81) = 0 then (v3_81, v4_81) else ((v3_81 + 1), v5_81)) : Int32 × Int32) fun (z3_108 : Int32) (z4_108 : Int32) => (x8_looked_L81 s X60 f (v5_81 + (-1)) z4_108 z3_108)))
theorem x8_looked_L81_s (s : Int32) (X60 : xS) (f : Nat) (v5_81 : Int32) (v4_81 : Int32) (v3_81 : Int32) : x8_looked_L81 s X60 (f + 1) v5_81 v4_81 v3_81 = (if v5_81 < 0 then (v5_81, v4_81, v3_81) else (lt2 ((if (x8_growsAs X60 (51 + 2 * (vn s)) v5_81) = 0 then (v3_81, v4_81) else ((v3_81 + 1), v5_81)) : Int32 × Int32) fun (z3_108 : Int32) (z4_108 : Int32) => (x8_looked_L81 s X60 f (v5_81 + (-1)) z4_108 z3_108))) := rfl
def x8_looked (tt : tT) (X : xS) (s : Int32) (what : Int32) : Int32 × xS := (if (p8_isSheet s) = 0 then (lt2 (x8_error X 1) fun (x18 : Int32) (X18 : xS) => (x18, X18)) else (if (p8_within what 0 1) = 0 then (lt2 (x8_error X 1) fun (x18 : Int32) (X18 : xS) => (x18, X18)) else (if (x5_isMissing X (51 + 2 * (vn s))) = 0 then (if (X (51 + 2 * (vn s)) 2) = (X 1 0) then (lt (x8_lookAround tt X) fun (X60 : xS) => lt ((1 <<< ((X60 1 9) &&& 31)) - 1) fun (x79 : Int32) => (lt3 (x8_looked_L81 s X60 (2 ^ vn (X60 1 9) + 1) x79 (-1) 0) fun (v5_81x : Int32) (v4_81x : Int32) (v3_81x : Int32) => (lt2 (x8_manyOrLeast X60 what v3_81x v4_81x) fun (x119 : Int32) (X119 : xS) => (x119, X119)))) else (lt2 (x8_error X 2) fun (x55 : Int32) (X55 : xS) => (x55, X55))) else (lt2 (x8_error X 2) fun (x55 : Int32) (X55 : xS) => (x55, X55)))))
def x8_seenTogether_L4 (X : xS) (set : Int32) : Nat → Int32
  | 0 => 0
  | k4 + 1 => lt (x8_seenTogether_L4 X set k4) fun (v2_4 : Int32) => (lt ((if (p8_has set (nI k4)) = 0 then v2_4 else (lt (v2_4 ||| (X 60 k4)) fun (x40 : Int32) => x40)) : Int32) fun (z2_41 : Int32) => z2_41)
theorem x8_seenTogether_L4_0 (X : xS) (set : Int32) : x8_seenTogether_L4 X set 0 = 0 := rfl
theorem x8_seenTogether_L4_s (X : xS) (set : Int32) (k4 : Nat) : x8_seenTogether_L4 X set (k4 + 1) = lt (x8_seenTogether_L4 X set k4) fun (v2_4 : Int32) => (lt ((if (p8_has set (nI k4)) = 0 then v2_4 else (lt (v2_4 ||| (X 60 k4)) fun (x40 : Int32) => x40)) : Int32) fun (z2_41 : Int32) => z2_41) := rfl
def x8_seenTogether (X : xS) (set : Int32) : Int32 := (lt (x8_seenTogether_L4 X set (vn (X 1 9))) fun (v2_4x : Int32) => v2_4x)
def x8_watch_L20 (X1 : xS) (x15 : Int32) : Nat → Int32
  | 0 => (-1)
  | k20 + 1 => lt (x8_watch_L20 X1 x15 k20) fun (v2_20 : Int32) => (lt ((if (p8_isFewer (nI k20) v2_20) = 0 then v2_20 else (if (x8_seenTogether X1 (nI k20)) = x15 then nI k20 else v2_20)) : Int32) fun (z2_52 : Int32) => z2_52)
theorem x8_watch_L20_0 (X1 : xS) (x15 : Int32) : x8_watch_L20 X1 x15 0 = (-1) := rfl
theorem x8_watch_L20_s (X1 : xS) (x15 : Int32) (k20 : Nat) : x8_watch_L20 X1 x15 (k20 + 1) = lt (x8_watch_L20 X1 x15 k20) fun (v2_20 : Int32) => (lt ((if (p8_isFewer (nI k20) v2_20) = 0 then v2_20 else (if (x8_seenTogether X1 (nI k20)) = x15 then nI k20 else v2_20)) : Int32) fun (z2_52 : Int32) => z2_52) := rfl
def x8_watch (tt : tT) (X : xS) : Int32 × xS := (lt (x8_lookAround tt X) fun (X1 : xS) => lt ((1 <<< ((X1 1 0) &&& 31)) - 1) fun (x15 : Int32) => (lt (x8_watch_L20 X1 x15 (2 ^ vn (X1 1 9))) fun (v2_20x : Int32) => (if 0 ≤ v2_20x then (v2_20x, X1) else (lt2 (x8_error X1 2) fun (x64 : Int32) (X64 : xS) => (x64, X64)))))
def x8_measureReaches_L2 (tt : tT) (X : xS) (fog : Int32) : Nat → xS
  | 0 => X
  | k2 + 1 => lt (x8_measureReaches_L2 tt X fog k2) fun (X2 : xS) => (lt (mU X2 59 k2 (x0_sightIn tt X2 1 k2 fog (X2 1 7))) fun (X43 : xS) => X43)
theorem x8_measureReaches_L2_0 (tt : tT) (X : xS) (fog : Int32) : x8_measureReaches_L2 tt X fog 0 = X := rfl
theorem x8_measureReaches_L2_s (tt : tT) (X : xS) (fog : Int32) (k2 : Nat) : x8_measureReaches_L2 tt X fog (k2 + 1) = lt (x8_measureReaches_L2 tt X fog k2) fun (X2 : xS) => (lt (mU X2 59 k2 (x0_sightIn tt X2 1 k2 fog (X2 1 7))) fun (X43 : xS) => X43) := rfl
def x8_measureReaches (tt : tT) (X : xS) (fog : Int32) : xS := (lt (x8_measureReaches_L2 tt X fog (vn (X 1 9))) fun (X2x : xS) => X2x)
def x8_hide_L29 (c : Int32) (X22 : xS) : Nat → Int32
  | 0 => (-1)
  | k29 + 1 => lt (x8_hide_L29 c X22 k29) fun (v2_29 : Int32) => (lt ((if (p8_isFewer (nI k29) v2_29) = 0 then v2_29 else (if (x0_isSeen X22 1 59 8 c ((X22 1 4) ||| (nI k29))) = 0 then nI k29 else v2_29)) : Int32) fun (z2_78 : Int32) => z2_78)
theorem x8_hide_L29_0 (c : Int32) (X22 : xS) : x8_hide_L29 c X22 0 = (-1) := rfl
theorem x8_hide_L29_s (c : Int32) (X22 : xS) (k29 : Nat) : x8_hide_L29 c X22 (k29 + 1) = lt (x8_hide_L29 c X22 k29) fun (v2_29 : Int32) => (lt ((if (p8_isFewer (nI k29) v2_29) = 0 then v2_29 else (if (x0_isSeen X22 1 59 8 c ((X22 1 4) ||| (nI k29))) = 0 then nI k29 else v2_29)) : Int32) fun (z2_78 : Int32) => z2_78) := rfl
def x8_hide (tt : tT) (X : xS) (c : Int32) : Int32 × xS := (if (x8_isCell X c) = 0 then (lt2 (x8_error X 1) fun (x10 : Int32) (X10 : xS) => (x10, X10)) else (lt (x8_measureReaches tt X (X 1 6)) fun (X22 : xS) => (lt (x8_hide_L29 c X22 (2 ^ (vn (X22 1 0) - 1))) fun (v2_29x : Int32) => (if 0 ≤ v2_29x then (v2_29x, X22) else (lt2 (x8_error X22 2) fun (x90 : Int32) (X90 : xS) => (x90, X90))))))
def x8_togetherBehind_L2 (tt : tT) (X : xS) : Nat → xS
  | 0 => X
  | k2 + 1 => lt (x8_togetherBehind_L2 tt X k2) fun (X2 : xS) => (lt (x0_passHour tt X2 13) fun (X11 : xS) => X11)
theorem x8_togetherBehind_L2_0 (tt : tT) (X : xS) : x8_togetherBehind_L2 tt X 0 = X := rfl
theorem x8_togetherBehind_L2_s (tt : tT) (X : xS) (k2 : Nat) : x8_togetherBehind_L2 tt X (k2 + 1) = lt (x8_togetherBehind_L2 tt X k2) fun (X2 : xS) => (lt (x0_passHour tt X2 13) fun (X11 : xS) => X11) := rfl
def x8_togetherBehind (tt : tT) (X : xS) (n : Nat) : Int32 × xS := (lt (x8_togetherBehind_L2 tt X n) fun (X2x : xS) => ((x0_together X2x 13), X2x))
def x8_gains (tt : tT) (X : xS) (q : Int32) (n : Int32) : Int32 × xS := (if (x8_isPerson X q) = 0 then (lt2 (x8_error X 1) fun (x20 : Int32) (X20 : xS) => (x20, X20)) else (if (p8_within n 0 50) = 0 then (lt2 (x8_error X 1) fun (x20 : Int32) (X20 : xS) => (x20, X20)) else (lt (x0_takeOver X 13 1) fun (X32 : xS) => lt2 (x8_togetherBehind tt X32 (vn n)) fun (x37 : Int32) (X37 : xS) => lt (x0_takeOver X37 13 1) fun (X49 : xS) => lt (x0_leaveOut X49 13 (vn q)) fun (X57 : xS) => lt2 (x8_togetherBehind tt X57 (vn n)) fun (x63 : Int32) (X63 : xS) => ((x37 - x63), X63))))
def p8_commonDivisor_L2 (a : Nat) (b : Int32) (K2 : Nat → Int32) : Nat → Nat → Int32
  | 0, kd => K2 kd
  | f2 + 1, kd => (if (nI kd) ≤ 1 then (K2 kd) else (if ((nI a) - (nI a) / (nI kd) * (nI kd)) = 0 then (if (b - b / (nI kd) * (nI kd)) = 0 then nI kd else (p8_commonDivisor_L2 a b K2 f2 (kd - 1))) else (p8_commonDivisor_L2 a b K2 f2 (kd - 1))))
theorem p8_commonDivisor_L2_s (a : Nat) (b : Int32) (K2 : Nat → Int32) (f2 : Nat) (kd : Nat) : p8_commonDivisor_L2 a b K2 (f2 + 1) kd = (if (nI kd) ≤ 1 then (K2 kd) else (if ((nI a) - (nI a) / (nI kd) * (nI kd)) = 0 then (if (b - b / (nI kd) * (nI kd)) = 0 then nI kd else (p8_commonDivisor_L2 a b K2 f2 (kd - 1))) else (p8_commonDivisor_L2 a b K2 f2 (kd - 1)))) := rfl
def p8_commonDivisor (a : Nat) (b : Int32) : Int32 := (p8_commonDivisor_L2 a b (fun (kdx : Nat) => 1) (a + 1) a)
def x8_odds_L28 (tt : tT) (X : xS) (c : Int32) : Nat → Int32 × xS
  | 0 => (0, X)
  | k28 + 1 => lt2 (x8_odds_L28 tt X c k28) fun (v3_28 : Int32) (X28 : xS) => (lt (x8_measureReaches tt X28 (nI k28)) fun (X38 : xS) => (lt ((if (x0_isSeen X38 1 59 8 c (X38 1 4)) = 0 then v3_28 else (v3_28 + 1)) : Int32) fun (z3_66 : Int32) => (z3_66, X38)))
theorem x8_odds_L28_0 (tt : tT) (X : xS) (c : Int32) : x8_odds_L28 tt X c 0 = (0, X) := rfl
theorem x8_odds_L28_s (tt : tT) (X : xS) (c : Int32) (k28 : Nat) : x8_odds_L28 tt X c (k28 + 1) = lt2 (x8_odds_L28 tt X c k28) fun (v3_28 : Int32) (X28 : xS) => (lt (x8_measureReaches tt X28 (nI k28)) fun (X38 : xS) => (lt ((if (x0_isSeen X38 1 59 8 c (X38 1 4)) = 0 then v3_28 else (v3_28 + 1)) : Int32) fun (z3_66 : Int32) => (z3_66, X38))) := rfl
def x8_odds (tt : tT) (X : xS) (c : Int32) (part : Int32) : Int32 × xS := (if (x8_isCell X c) = 0 then (lt2 (x8_error X 1) fun (x19 : Int32) (X19 : xS) => (x19, X19)) else (if (p8_within part 0 1) = 0 then (lt2 (x8_error X 1) fun (x19 : Int32) (X19 : xS) => (x19, X19)) else (lt2 (x8_odds_L28 tt X c 10) fun (v3_28x : Int32) (X28x : xS) => (lt (p8_commonDivisor 10 v3_28x) fun (x82 : Int32) => (lt ((if part = 0 then v3_28x else 10) : Int32) fun (y94 : Int32) => ((y94 / x82), X28x))))))
theorem eR_4 {tt : tT} {X X2 : xS} {p : Nat} (h0 : X2 p 0 = X p 0) (h9 : X2 p 9 = X p 9) (h14 : X2 p 14 = X p 14) (h15 : X2 p 15 = X p 15) (hA : eA X2 p) (h : eR tt X p) : eR tt X2 p := by
  obtain ⟨a, b, c, d⟩ := h
  refine ⟨?_, ?_, hA, ?_⟩
  · unfold eC; rw [h0]; exact a
  · unfold eP; rw [h9]; exact b
  · intro k hk
    rcases hk with rfl | rfl
    · rw [h14]; exact d 14 (by decide)
    · rw [h15]; exact d 15 (by decide)
theorem dr_2 (X : xS) (pT : Nat) : (x0_draw X pT).2 = mU X pT 18 (X pT 18 * 1103515245 + 12345) := by
  unfold x0_draw
  rw [lt_i]
theorem td_R {tt : tT} {X : xS} {pT : Nat} (hR : eR tt X pT) : eR tt (x0_turnOneByDraws X pT) pT := by
  unfold x0_turnOneByDraws
  simp only [lt_i, lt2_i]
  by_cases c : X pT 9 ≤ 0
  · rw [if_pos c]; exact hR
  · rw [if_neg c, dr_2, dr_2]
    refine eR_4 (X := X) ?_ ?_ ?_ ?_ (fun q hq => ?_) hR
    · rw [mU_row (by omega), mU_ne (by decide), mU_ne (by decide)]
    · rw [mU_row (by omega), mU_ne (by decide), mU_ne (by decide)]
    · rw [mU_row (by omega), mU_ne (by decide), mU_ne (by decide)]
    · rw [mU_row (by omega), mU_ne (by decide), mU_ne (by decide)]
    · rw [mU_row (by omega), mU_row (by omega), mU_row (by omega)]
      exact hR.2.2.1 q hq
theorem hr_L39 {tt : tT} {X : xS} (hR : eR tt X 1) (k : Nat) : eR tt (x8_hours_L39 tt X k) 1 := by
  induction k with
  | zero => exact hR
  | succ k ih =>
    rw [x8_hours_L39_s]
    simp only [lt_i]
    exact (ph_R ih).1
theorem lo_L39 {tt : tT} {X : xS} (hR : eR tt X 1) (k : Nat) : eR tt (x8_loose_L39 tt X k) 1 := by
  induction k with
  | zero => exact hR
  | succ k ih =>
    rw [x8_loose_L39_s]
    simp only [lt_i]
    exact (ph_R (td_R ih)).1
theorem al_C {X : xS} (h : eC X 1) : eC (x0_addUpLeaning X 1) 1 := by
  unfold x0_addUpLeaning
  rw [lt_i]
  unfold eC
  rw [xaL]
  exact h
theorem dg_L2 (pT : Nat) (v : Int32) : ∀ (f ka : Nat) (Y : xS) (p : Nat), p ≠ pT + 1 → (x0_divideGrains_L2 pT v f ka Y).2 p = Y p := by
  intro f
  induction f with
  | zero => intro ka Y p _; rfl
  | succ f ih =>
    intro ka Y p hp
    rw [x0_divideGrains_L2_s]
    simp only [lt_i]
    split
    · rfl
    · split
      · rfl
      · rw [ih _ _ _ hp, mU_row hp]
theorem dg_C {X : xS} {v : Int32} (h : eC X 1) : eC (x0_divideGrains X 1 v) 1 := by
  unfold x0_divideGrains
  rw [lt2_i]
  unfold eC
  rw [dg_L2 _ _ _ _ _ _ (by decide)]
  exact h
theorem th_L46 {tt : tT} {X : xS} (hR : eR tt X 13) (k : Nat) : eR tt (x8_then_L46 tt X k) 13 := by
  induction k with
  | zero => exact hR
  | succ k ih =>
    rw [x8_then_L46_s]
    simp only [lt_i]
    exact (ph_R ih).1
theorem tb_L2 {tt : tT} {X : xS} (hR : eR tt X 13) (k : Nat) : eR tt (x8_togetherBehind_L2 tt X k) 13 := by
  induction k with
  | zero => exact hR
  | succ k ih =>
    rw [x8_togetherBehind_L2_s]
    simp only [lt_i]
    exact (ph_R ih).1
theorem tb_outL (tt : tT) (X : xS) (k p : Nat) (h : p < 13 ∨ 21 ≤ p) : x8_togetherBehind_L2 tt X k p = X p := by
  induction k with
  | zero => rfl
  | succ k ih =>
    rw [x8_togetherBehind_L2_s]
    simp only [lt_i]
    rw [ph_out tt (by omega), ih]
theorem tb_out (tt : tT) (X : xS) (k p : Nat) (h : p < 13 ∨ 21 ≤ p) : (x8_togetherBehind tt X k).2 p = X p := by
  unfold x8_togetherBehind
  simp only [lt_i]
  exact tb_outL tt X k p h
theorem gt50 {k : Nat} (h : ¬ (50 : Int32) < nI k) (hk : k < 2 ^ 31) : k ≤ 50 := by
  rw [show (50 : Int32) = nI 50 from rfl, nI_ltI (by decide) hk] at h
  omega
theorem la_L2 (tt : tT) (X : xS) (k p : Nat) (h : p ≠ 60) : x8_lookAround_L2 tt X k p = X p := by
  induction k with
  | zero => rfl
  | succ k ih =>
    rw [x8_lookAround_L2_s]
    simp only [lt_i]
    rw [mU_row h, ih]
theorem la_row (tt : tT) (X : xS) (p : Nat) (h : p ≠ 60) : x8_lookAround tt X p = X p := by
  unfold x8_lookAround
  rw [lt_i]
  exact la_L2 tt X _ p h
theorem mr_L2 (tt : tT) (X : xS) (fog : Int32) (k p : Nat) (h : p ≠ 59) : x8_measureReaches_L2 tt X fog k p = X p := by
  induction k with
  | zero => rfl
  | succ k ih =>
    rw [x8_measureReaches_L2_s]
    simp only [lt_i]
    rw [mU_row h, ih]
theorem mr_row (tt : tT) (X : xS) (fog : Int32) (p : Nat) (h : p ≠ 59) : x8_measureReaches tt X fog p = X p := by
  unfold x8_measureReaches
  rw [lt_i]
  exact mr_L2 tt X fog _ p h
theorem od9_row (tt : tT) (X : xS) (c : Int32) (k p : Nat) (h : p ≠ 59) : (x8_odds_L28 tt X c k).2 p = X p := by
  induction k with
  | zero => rfl
  | succ k ih =>
    rw [x8_odds_L28_s]
    simp only [lt_i, lt2_i]
    rw [mr_row _ _ _ _ h, ih]
theorem lo_L6 {pT : Nat} : ∀ (f ka : Nat) (Y : xS), eP Y pT → 0 < vn (Y pT 9) → ka ≤ 8 → eA Y pT → eA (x0_leaveOut_L6 pT f ka Y).2 pT ∧ (x0_leaveOut_L6 pT f ka Y).2 pT = Y pT := by
  intro f
  induction f with
  | zero => intro ka Y _ _ _ h; exact ⟨h, rfl⟩
  | succ f ih =>
    intro ka Y hp h0 hk h
    have hp2 := hp.2
    rw [x0_leaveOut_L6_s]
    simp only [lt_i]
    by_cases c : Y pT 9 - 1 ≤ nI ka
    · rw [if_pos c]; exact ⟨h, rfl⟩
    · rw [if_neg c]
      have hlt := lp_lt (nt_sub hp.1 (show (1 : Int32) = nI 1 from rfl) (by omega)) c (by omega) (by omega)
      have e : ∀ x y z w : Int32, mU (mU (mU (mU Y (pT + 4) ka x) (pT + 5) ka y) (pT + 6) ka z) (pT + 7) ka w pT = Y pT := by
        intro x y z w
        rw [mU_row (by omega), mU_row (by omega), mU_row (by omega), mU_row (by omega)]
      refine (fun h9 => ⟨h9.1, h9.2.trans (e _ _ _ _)⟩) (ih (ka + 1) _ ?_ ?_ (by omega) ?_)
      · unfold eP; rw [e]; exact hp
      · rw [e]; exact h0
      · intro q hq
        rw [mU_row (show pT + 6 ≠ pT + 7 by omega)]
        by_cases e2 : q = ka
        · subst e2
          rw [mU_eq, mU_row (show pT + 6 ≠ pT + 5 by omega), mU_row (show pT + 6 ≠ pT + 4 by omega)]
          exact h (q + 1) (by omega)
        · rw [mU_ne e2, mU_row (show pT + 6 ≠ pT + 5 by omega), mU_row (show pT + 6 ≠ pT + 4 by omega)]
          exact h q hq
theorem lvo_R {tt : tT} {X : xS} {q : Nat} (hR : eR tt X 13) (hq : q < vn (X 13 9)) : eR tt (x0_leaveOut X 13 q) 13 := by
  have hp := hR.2.1
  have hp2 := hp.2
  have h := lo_L6 fu11 q X hp (by omega) (by omega) hR.2.2.1
  have e1 : X 13 9 - 1 = nI (vn (X 13 9) - 1) := nt_sub hp.1 (show (1 : Int32) = nI 1 from rfl) (by omega)
  unfold x0_leaveOut
  simp only [lt_i, lt2_i]
  refine ⟨?_, ?_, ?_, ?_⟩
  · unfold eC
    rw [mU_ne (by decide), h.2]
    exact hR.1
  · unfold eP
    rw [mU_eq, h.2, e1, mx_0 (by omega), vn_nI (by omega)]
    exact ⟨rfl, by omega⟩
  · intro j hj
    rw [mU_row (by decide)]
    exact h.1 j hj
  · intro k hk
    rw [mU_ne (show k ≠ 9 by omega), h.2]
    exact hR.2.2.2 k hk
theorem cdv_L2 (a : Nat) (b : Int32) {K : Nat → Int32} (hK : ∀ k, ¬ K k = 0) : ∀ f kd, ¬ p8_commonDivisor_L2 a b K f kd = 0 := by
  intro f
  induction f with
  | zero => intro kd; exact hK kd
  | succ f ih =>
    intro kd
    rw [p8_commonDivisor_L2_s]
    by_cases c : nI kd ≤ 1
    · rw [if_pos c]; exact hK kd
    · rw [if_neg c]
      split
      · split
        · intro e
          exact c (by rw [e]; decide)
        · exact ih _
      · exact ih _
theorem cdv_ne (a : Nat) (b : Int32) : ¬ p8_commonDivisor a b = 0 := cdv_L2 a b (fun _ => by decide) _ _
/-! of 30.acts2 -/
def x8_seed (X : xS) (v : Int32) : Int32 × xS := (lt (X 1 18) fun (x7 : Int32) => lt (mU X 1 18 v) fun (X13 : xS) => (x7, X13))
def x8_voice (X : xS) (q : Int32) (act : Int32) (x : Int32) : Int32 × xS := (if (x8_isPerson X q) = 0 then (lt2 (x8_error X 1) fun (x19 : Int32) (X19 : xS) => (x19, X19)) else (if (p8_within act 0 3) = 0 then (lt2 (x8_error X 1) fun (x19 : Int32) (X19 : xS) => (x19, X19)) else (lt (x7_begin X (X 5 (vn q)) q (X 6 (vn q))) fun (X46 : xS) => lt2 (x7_answer X46 act x) fun (x55 : Int32) (X55 : xS) => (x55, X55))))
def x8_trace (X : xS) (i : Int32) : Int32 × xS := (if (p8_within i 0 ((X 48 1) - 1)) = 0 then (lt2 (x8_error X 2) fun (x22 : Int32) (X22 : xS) => (x22, X22)) else ((x4_get X 48 i), X))
def x8_sheet (X : xS) (s : Int32) (bits : Int32) (n : Int32) : Int32 × xS := (if (p8_isSheet s) = 0 then (lt2 (x8_error X 1) fun (x31 : Int32) (X31 : xS) => (x31, X31)) else (if bits = 0 then (if bits = 0 then (if bits = 0 then (lt ((if bits = 0 then 0 else n) : Int32) fun (y81 : Int32) => (lt (x5_startAnew X (51 + 2 * (vn s)) bits y81) fun (X81 : xS) => (1, X81))) else (if n ≤ 40 then (lt ((if bits = 0 then 0 else n) : Int32) fun (y81 : Int32) => (lt (x5_startAnew X (51 + 2 * (vn s)) bits y81) fun (X81 : xS) => (1, X81))) else (lt2 (x8_error X 1) fun (x61 : Int32) (X61 : xS) => (x61, X61)))) else (if 0 ≤ n then (if bits = 0 then (lt ((if bits = 0 then 0 else n) : Int32) fun (y81 : Int32) => (lt (x5_startAnew X (51 + 2 * (vn s)) bits y81) fun (X81 : xS) => (1, X81))) else (if n ≤ 40 then (lt ((if bits = 0 then 0 else n) : Int32) fun (y81 : Int32) => (lt (x5_startAnew X (51 + 2 * (vn s)) bits y81) fun (X81 : xS) => (1, X81))) else (lt2 (x8_error X 1) fun (x61 : Int32) (X61 : xS) => (x61, X61)))) else (lt2 (x8_error X 3) fun (x45 : Int32) (X45 : xS) => (x45, X45)))) else (if bits = 8 then (if bits = 0 then (if bits = 0 then (lt ((if bits = 0 then 0 else n) : Int32) fun (y81 : Int32) => (lt (x5_startAnew X (51 + 2 * (vn s)) bits y81) fun (X81 : xS) => (1, X81))) else (if n ≤ 40 then (lt ((if bits = 0 then 0 else n) : Int32) fun (y81 : Int32) => (lt (x5_startAnew X (51 + 2 * (vn s)) bits y81) fun (X81 : xS) => (1, X81))) else (lt2 (x8_error X 1) fun (x61 : Int32) (X61 : xS) => (x61, X61)))) else (if 0 ≤ n then (if bits = 0 then (lt ((if bits = 0 then 0 else n) : Int32) fun (y81 : Int32) => (lt (x5_startAnew X (51 + 2 * (vn s)) bits y81) fun (X81 : xS) => (1, X81))) else (if n ≤ 40 then (lt ((if bits = 0 then 0 else n) : Int32) fun (y81 : Int32) => (lt (x5_startAnew X (51 + 2 * (vn s)) bits y81) fun (X81 : xS) => (1, X81))) else (lt2 (x8_error X 1) fun (x61 : Int32) (X61 : xS) => (x61, X61)))) else (lt2 (x8_error X 3) fun (x45 : Int32) (X45 : xS) => (x45, X45)))) else (if bits = 16 then (if bits = 0 then (if bits = 0 then (lt ((if bits = 0 then 0 else n) : Int32) fun (y81 : Int32) => (lt (x5_startAnew X (51 + 2 * (vn s)) bits y81) fun (X81 : xS) => (1, X81))) else (if n ≤ 40 then (lt ((if bits = 0 then 0 else n) : Int32) fun (y81 : Int32) => (lt (x5_startAnew X (51 + 2 * (vn s)) bits y81) fun (X81 : xS) => (1, X81))) else (lt2 (x8_error X 1) fun (x61 : Int32) (X61 : xS) => (x61, X61)))) else (if 0 ≤ n then (if bits = 0 then (lt ((if bits = 0 then 0 else n) : Int32) fun (y81 : Int32) => (lt (x5_startAnew X (51 + 2 * (vn s)) bits y81) fun (X81 : xS) => (1, X81))) else (if n ≤ 40 then (lt ((if bits = 0 then 0 else n) : Int32) fun (y81 : Int32) => (lt (x5_startAnew X (51 + 2 * (vn s)) bits y81) fun (X81 : xS) => (1, X81))) else (lt2 (x8_error X 1) fun (x61 : Int32) (X61 : xS) => (x61, X61)))) else (lt2 (x8_error X 3) fun (x45 : Int32) (X45 : xS) => (x45, X45)))) else (if bits = 32 then (if bits = 0 then (if bits = 0 then (lt ((if bits = 0 then 0 else n) : Int32) fun (y81 : Int32) => (lt (x5_startAnew X (51 + 2 * (vn s)) bits y81) fun (X81 : xS) => (1, X81))) else (if n ≤ 40 then (lt ((if bits = 0 then 0 else n) : Int32) fun (y81 : Int32) => (lt (x5_startAnew X (51 + 2 * (vn s)) bits y81) fun (X81 : xS) => (1, X81))) else (lt2 (x8_error X 1) fun (x61 : Int32) (X61 : xS) => (x61, X61)))) else (if 0 ≤ n then (if bits = 0 then (lt ((if bits = 0 then 0 else n) : Int32) fun (y81 : Int32) => (lt (x5_startAnew X (51 + 2 * (vn s)) bits y81) fun (X81 : xS) => (1, X81))) else (if n ≤ 40 then (lt ((if bits = 0 then 0 else n) : Int32) fun (y81 : Int32) => (lt (x5_startAnew X (51 + 2 * (vn s)) bits y81) fun (X81 : xS) => (1, X81))) else (lt2 (x8_error X 1) fun (x61 : Int32) (X61 : xS) => (x61, X61)))) else (lt2 (x8_error X 3) fun (x45 : Int32) (X45 : xS) => (x45, X45)))) else (lt2 (x8_error X 1) fun (x31 : Int32) (X31 : xS) => (x31, X31)))))))
def x8_put (X : xS) (s : Int32) (i : Int32) (v : Int32) : Int32 × xS := (if (p8_isSheet s) = 0 then (lt2 (x8_error X 1) fun (x9 : Int32) (X9 : xS) => (x9, X9)) else (if (x5_isMissing X (51 + 2 * (vn s))) = 0 then (if (p8_within i 0 ((X (51 + 2 * (vn s)) 2) - 1)) = 0 then (lt2 (x8_error X 1) fun (x52 : Int32) (X52 : xS) => (x52, X52)) else (lt (x5_set X (51 + 2 * (vn s)) i v) fun (X64 : xS) => (1, X64))) else (lt2 (x8_error X 2) fun (x27 : Int32) (X27 : xS) => (x27, X27))))
def x8_move (X : xS) (s : Int32) (i : Int32) (s2 : Int32) (j : Int32) (n : Int32) : Int32 × xS := (if (p8_isSheet s) = 0 then (lt2 (x8_error X 1) fun (x16 : Int32) (X16 : xS) => (x16, X16)) else (if (p8_isSheet s2) = 0 then (lt2 (x8_error X 1) fun (x16 : Int32) (X16 : xS) => (x16, X16)) else (if (x5_isMissing X (51 + 2 * (vn s))) = 0 then (if (x5_isMissing X (51 + 2 * (vn s2))) = 0 then (if (X (51 + 2 * (vn s)) 1) = (X (51 + 2 * (vn s2)) 1) then (if n < 0 then (lt2 (x8_error X 1) fun (x117 : Int32) (X117 : xS) => (x117, X117)) else (if (p8_within i 0 ((X (51 + 2 * (vn s)) 2) - n)) = 0 then (lt2 (x8_error X 1) fun (x117 : Int32) (X117 : xS) => (x117, X117)) else (if (p8_within j 0 ((X (51 + 2 * (vn s2)) 2) - n)) = 0 then (lt2 (x8_error X 1) fun (x117 : Int32) (X117 : xS) => (x117, X117)) else (lt (xcg X ((51 + 2 * (vn s)) + 1) ((51 + 2 * (vn s2)) + 1) (vn i) (vn j) (vn n)) fun (X136 : xS) => (n, X136))))) else (lt2 (x8_error X 5) fun (x73 : Int32) (X73 : xS) => (x73, X73))) else (lt2 (x8_error X 2) fun (x54 : Int32) (X54 : xS) => (x54, X54))) else (lt2 (x8_error X 2) fun (x54 : Int32) (X54 : xS) => (x54, X54)))))
def x8_weeds_L51 (s : Int32) (x47 : Int32) (K51 : Nat → xS → Int32 × xS) : Nat → Nat → xS → Int32 × xS
  | 0, ks, X51 => K51 ks X51
  | f51 + 1, ks, X51 => (if x47 ≤ (nI ks) then (K51 ks X51) else (if (p8_within (X51 ((51 + 2 * (vn s)) + 1) ks) 0 99) = 0 then (nI ks, X51) else (lt (mU X51 3 ks (X51 ((51 + 2 * (vn s)) + 1) ks)) fun (X92 : xS) => (x8_weeds_L51 s x47 K51 f51 (ks + 1) X92))))
theorem x8_weeds_L51_s (s : Int32) (x47 : Int32) (K51 : Nat → xS → Int32 × xS) (f51 : Nat) (ks : Nat) (X51 : xS) : x8_weeds_L51 s x47 K51 (f51 + 1) ks X51 = (if x47 ≤ (nI ks) then (K51 ks X51) else (if (p8_within (X51 ((51 + 2 * (vn s)) + 1) ks) 0 99) = 0 then (nI ks, X51) else (lt (mU X51 3 ks (X51 ((51 + 2 * (vn s)) + 1) ks)) fun (X92 : xS) => (x8_weeds_L51 s x47 K51 f51 (ks + 1) X92)))) := rfl
def x8_weeds (X : xS) (s : Int32) : Int32 × xS := (if (p8_isSheet s) = 0 then (lt2 (x8_error X 1) fun (x9 : Int32) (X9 : xS) => (x9, X9)) else (if (x5_isMissing X (51 + 2 * (vn s))) = 0 then (lt (if (X 1 0) < (X (51 + 2 * (vn s)) 2) then (X 1 0) else (X (51 + 2 * (vn s)) 2)) fun (x47 : Int32) => (x8_weeds_L51 s x47 (fun (ksx : Nat) (X51x : xS) => (x47, X51x)) (vn x47 + 1) 0 X)) else (lt2 (x8_error X 2) fun (x29 : Int32) (X29 : xS) => (x29, X29))))
def x8_judge_L51 (X : xS) (s : Int32) (x47 : Int32) (K51 : Nat → Int32 × xS) : Nat → Nat → Int32 × xS
  | 0, ks => K51 ks
  | f51 + 1, ks => (if x47 ≤ (nI ks) then (K51 ks) else (if (X ((51 + 2 * (vn s)) + 1) ks) = (X 2 ks) then (x8_judge_L51 X s x47 K51 f51 (ks + 1)) else (nI ks, X)))
theorem x8_judge_L51_s (X : xS) (s : Int32) (x47 : Int32) (K51 : Nat → Int32 × xS) (f51 : Nat) (ks : Nat) : x8_judge_L51 X s x47 K51 (f51 + 1) ks = (if x47 ≤ (nI ks) then (K51 ks) else (if (X ((51 + 2 * (vn s)) + 1) ks) = (X 2 ks) then (x8_judge_L51 X s x47 K51 f51 (ks + 1)) else (nI ks, X))) := rfl
def x8_judge (X : xS) (s : Int32) : Int32 × xS := (if (p8_isSheet s) = 0 then (lt2 (x8_error X 1) fun (x9 : Int32) (X9 : xS) => (x9, X9)) else (if (x5_isMissing X (51 + 2 * (vn s))) = 0 then (lt (if (X 1 0) < (X (51 + 2 * (vn s)) 2) then (X 1 0) else (X (51 + 2 * (vn s)) 2)) fun (x47 : Int32) => (x8_judge_L51 X s x47 (fun (ksx : Nat) => (if (X (51 + 2 * (vn s)) 2) = (X 1 0) then ((-1), X) else (x47, X))) (vn x47 + 1) 0)) else (lt2 (x8_error X 2) fun (x29 : Int32) (X29 : xS) => (x29, X29))))
def x8_image (X : xS) : Int32 × xS := (lt (x0_takeOver X 25 1) fun (X8 : xS) => lt (mU X8 0 3 ((X8 0 3) + 1)) fun (X18 : xS) => ((X18 0 3), X18))
def x8_restore (X : xS) : Int32 × xS := (if (X 0 3) = 0 then (lt2 (x8_error X 2) fun (x9 : Int32) (X9 : xS) => (x9, X9)) else (lt (x0_takeOver X 1 25) fun (X21 : xS) => ((X21 1 7), X21)))
def x8_tell (X : xS) (v : Int32) : Int32 × xS := (if (X 11 1) < 20 then (lt (x4_add X 11 v) fun (X29 : xS) => ((X29 11 1), X29)) else (lt2 (x8_error X 4) fun (x17 : Int32) (X17 : xS) => (x17, X17)))
def x8_check_L15 (tt : tT) : Nat → Nat → Int32 → xS → Nat × Int32 × xS
  | 0, ka, v1_15, X15 => (ka, v1_15, X15)
  | f + 1, ka, v1_15, X15 => (if (X15 11 1) ≤ (nI ka) then (ka, v1_15, X15) else (if v1_15 = 0 then (lt (x0_passHour tt X15 13) fun (X37 : xS) => (lt ((if (x0_together X37 13) = (x4_get X37 11 (nI ka)) then v1_15 else nI (1 + ka)) : Int32) fun (z1_65 : Int32) => (x8_check_L15 tt f (ka + 1) z1_65 X37))) else (ka, v1_15, X15)))
theorem x8_check_L15_s (tt : tT) (f : Nat) (ka : Nat) (v1_15 : Int32) (X15 : xS) : x8_check_L15 tt (f + 1) ka v1_15 X15 = (if (X15 11 1) ≤ (nI ka) then (ka, v1_15, X15) else (if v1_15 = 0 then (lt (x0_passHour tt X15 13) fun (X37 : xS) => (lt ((if (x0_together X37 13) = (x4_get X37 11 (nI ka)) then v1_15 else nI (1 + ka)) : Int32) fun (z1_65 : Int32) => (x8_check_L15 tt f (ka + 1) z1_65 X37))) else (ka, v1_15, X15))) := rfl
def x8_check (tt : tT) (X : xS) : Int32 × xS := (lt (x0_takeOver X 13 1) fun (X10 : xS) => (lt3 (x8_check_L15 tt (vn (X 11 1) + 1) 0 0 X10) fun (kax : Nat) (v1_15x : Int32) (X15x : xS) => (lt (x4_clear X15x 11) fun (X78 : xS) => (v1_15x, X78))))
def x8_count (X : xS) (what : Int32) : Int32 × xS := (if what = 0 then ((X 1 0), X) else (if what = 1 then ((X 1 9), X) else (if what = 2 then ((X 1 7), X) else (if what = 3 then ((X 1 4), X) else (if what = 4 then ((X 1 5), X) else (if what = 5 then ((X 1 6), X) else (if what = 6 then ((X 1 8), X) else (if what = 7 then ((x0_together X 1), X) else (if what = 8 then ((X 9 1), X) else (if what = 9 then ((X 11 1), X) else (if what = 10 then ((X 48 1), X) else (if what = 11 then ((X 1 18), X) else (lt2 (x8_error X 1) fun (x171 : Int32) (X171 : xS) => (x171, X171))))))))))))))
def x8_told (X : xS) (k : Int32) : Int32 × xS := (if (p8_within k 1 5) = 0 then (lt2 (x8_error X 1) fun (x11 : Int32) (X11 : xS) => (x11, X11)) else ((X 61 (vn k)), X))
def x8_feed_L42 (X : xS) (word : Int64) : Nat → xS
  | 0 => X
  | k42 + 1 => lt (x8_feed_L42 X word k42) fun (X42 : xS) => (lt (x4_add X42 9 ((((word.toUInt64 >>> ((8 * (nI k42)).toInt64.toUInt64 &&& Int64.toUInt64 63)).toInt64) &&& 255).toInt32)) fun (X67 : xS) => X67)
theorem x8_feed_L42_0 (X : xS) (word : Int64) : x8_feed_L42 X word 0 = X := rfl
theorem x8_feed_L42_s (X : xS) (word : Int64) (k42 : Nat) : x8_feed_L42 X word (k42 + 1) = lt (x8_feed_L42 X word k42) fun (X42 : xS) => (lt (x4_add X42 9 ((((word.toUInt64 >>> ((8 * (nI k42)).toInt64.toUInt64 &&& Int64.toUInt64 63)).toInt64) &&& 255).toInt32)) fun (X67 : xS) => X67) := rfl
def x8_feed (X : xS) (word : Int64) (n : Int32) : Int32 × xS := (if (p8_within n 1 8) = 0 then (lt2 (x8_error X 1) fun (x12 : Int32) (X12 : xS) => (x12, X12)) else (if ((X 9 1) + n) ≤ 50 then (lt (x8_feed_L42 X word (vn n)) fun (X42x : xS) => ((X42x 9 1), X42x)) else (lt2 (x8_error X 4) fun (x35 : Int32) (X35 : xS) => (x35, X35))))
theorem bg_v (X : xS) (k n m : Int32) : vS (x7_begin X k n m) := by
  unfold x7_begin x4_clear
  simp only [lt_i]
  unfold vS
  rw [mU_eq]
  exact ⟨rfl, by decide⟩
theorem fdx_t {X : xS} (hT : X 9 1 = nI (vn (X 9 1))) (word : Int64) (k : Nat) : vn (X 9 1) + k ≤ 50 → x8_feed_L42 X word k 9 1 = nI (vn (X 9 1) + k) := by
  induction k with
  | zero => intro _; exact hT
  | succ k ih =>
    intro h
    have ih := ih (by omega)
    rw [x8_feed_L42_s]
    simp only [lt_i]
    unfold x4_add
    simp only [lt_i]
    rw [ih, if_neg (show ¬ nI (rcap 9) ≤ nI (vn (X 9 1) + k) from lp_in (n := 50) rfl (by omega) (by decide)), mU_eq, mU_row (by decide), ih, nI_1]
    rfl
/-! of 31.reader -/
def dN (X : xS) : Prop := (X 38 1 = nI (vn (X 38 1)) ∧ vn (X 38 1) ≤ 50) ∧ (X 40 1 = nI (vn (X 40 1)) ∧ vn (X 40 1) ≤ 50) ∧ vn (X 37 2) < 3
theorem ad_z {X : xS} {p : Nat} {v : Int32} {n : Nat} (hn : rcap p = n) (hn2 : n ≤ 50) (h : X p 1 = nI (vn (X p 1)) ∧ vn (X p 1) ≤ n) : x4_add X p v p 1 = nI (vn (x4_add X p v p 1)) ∧ vn (x4_add X p v p 1) ≤ n := by
  unfold x4_add
  simp only [lt_i]
  rw [hn]
  by_cases c : nI n ≤ X p 1
  · rw [if_pos c]; exact h
  · rw [if_neg c]
    have hlt : vn (X p 1) < n := by
      have h2 := h.2
      rw [h.1, nI_leI (by omega) (by omega)] at c
      omega
    rw [mU_eq, mU_row (by omega)]
    have e : X p 1 + 1 = nI (vn (X p 1) + 1) := (congrArg (fun z => z + 1) h.1).trans (nI_1 _)
    rw [e, vn_nI (by omega)]
    exact ⟨rfl, by omega⟩
theorem ad_row (X : xS) (p q : Nat) (v : Int32) (h : q ≠ p) (h1 : q ≠ p + 1) : x4_add X p v q = X q := by
  unfold x4_add
  simp only [lt_i]
  split
  · rfl
  · rw [mU_row h, mU_row h1]
theorem rl_row (X : xS) (p q : Nat) (h : q ≠ p) : (x4_removeLast X p).2 q = X q := by
  unfold x4_removeLast
  simp only [lt_i]
  split
  · rfl
  · rw [mU_row h]
theorem rl_z {X : xS} {p n : Nat} (hn : n ≤ 50) (h : X p 1 = nI (vn (X p 1)) ∧ vn (X p 1) ≤ n) : (x4_removeLast X p).2 p 1 = nI (vn ((x4_removeLast X p).2 p 1)) ∧ vn ((x4_removeLast X p).2 p 1) ≤ n := by
  have h2 := h.2
  unfold x4_removeLast
  simp only [lt_i]
  by_cases c : X p 1 ≤ 0
  · rw [if_pos c]; exact h
  · rw [if_neg c, mU_eq]
    have h0 : 0 < vn (X p 1) := Nat.pos_of_ne_zero (fun e => c (by rw [h.1, e]; decide))
    rw [nt_sub h.1 (show (1 : Int32) = nI 1 from rfl) (by omega), vn_nI (by omega)]
    exact ⟨rfl, by omega⟩
theorem ad38_d {X : xS} {v : Int32} (h : dN X) : dN (x4_add X 38 v) := ⟨ad_z rfl (by decide) h.1, by rw [ad_row _ _ _ _ (by decide) (by decide)]; exact h.2.1, by rw [ad_row _ _ _ _ (by decide) (by decide)]; exact h.2.2⟩
theorem ad40_d {X : xS} {v : Int32} (h : dN X) : dN (x4_add X 40 v) := ⟨by rw [ad_row _ _ _ _ (by decide) (by decide)]; exact h.1, ad_z rfl (by decide) h.2.1, by rw [ad_row _ _ _ _ (by decide) (by decide)]; exact h.2.2⟩
theorem rl_d {X : xS} (h : dN X) : dN (x4_removeLast X 40).2 := ⟨by rw [rl_row _ _ _ (by decide)]; exact h.1, rl_z (by decide) h.2.1, by rw [rl_row _ _ _ (by decide)]; exact h.2.2⟩
theorem fd3_d {X : xS} {x : Int32} (h : dN X) : dN (mU X 37 3 x) := ⟨by rw [mU_row (by decide)]; exact h.1, by rw [mU_row (by decide)]; exact h.2.1, by rw [mU_ne (by decide)]; exact h.2.2⟩
theorem fd4_d {X : xS} {x : Int32} (h : dN X) : dN (mU X 37 4 x) := ⟨by rw [mU_row (by decide)]; exact h.1, by rw [mU_row (by decide)]; exact h.2.1, by rw [mU_ne (by decide)]; exact h.2.2⟩
theorem fd5_d {X : xS} {x : Int32} (h : dN X) : dN (mU X 37 5 x) := ⟨by rw [mU_row (by decide)]; exact h.1, by rw [mU_row (by decide)]; exact h.2.1, by rw [mU_ne (by decide)]; exact h.2.2⟩
theorem fd6_d {X : xS} {x : Int32} (h : dN X) : dN (mU X 37 6 x) := ⟨by rw [mU_row (by decide)]; exact h.1, by rw [mU_row (by decide)]; exact h.2.1, by rw [mU_ne (by decide)]; exact h.2.2⟩
theorem dN_ite {c : Prop} [Decidable c] {a b : Int32 × xS} (ha : dN a.2) (hb : dN b.2) : dN (if c then a else b).2 := by
  by_cases h : c
  · rw [if_pos h]; exact ha
  · rw [if_neg h]; exact hb
theorem dN_iteX {c : Prop} [Decidable c] {a b : xS} (ha : dN a) (hb : dN b) : dN (if c then a else b) := by
  by_cases h : c
  · rw [if_pos h]; exact ha
  · rw [if_neg h]; exact hb
def p3_rankOf (c : Int32) : Int32 := (if c = 37 then 5 else (if c = 38 then 2 else (if c = 42 then 5 else (if c = 43 then 4 else (if c = 45 then 4 else (if c = 47 then 5 else (if c = 60 then 3 else (if c = 61 then 3 else (if c = 62 then 3 else (if c = 124 then 1 else 0))))))))))
def x3_closeNots_L8 : Nat → Nat → xS → Nat × xS
  | 0, ki, X8 => (ki, X8)
  | f + 1, ki, X8 => (if (nI ki) ≤ 0 then (ki, X8) else (if (x4_last X8 40) = 33 then (lt2 (x4_removeLast X8 40) fun (x32 : Int32) (X32 : xS) => lt (x4_add X32 38 (-x32)) fun (X36 : xS) => lt (mU X36 37 3 ((X36 37 3) - 1)) fun (X46 : xS) => (x3_closeNots_L8 f (ki - 1) X46)) else (ki, X8)))
theorem x3_closeNots_L8_s (f : Nat) (ki : Nat) (X8 : xS) : x3_closeNots_L8 (f + 1) ki X8 = (if (nI ki) ≤ 0 then (ki, X8) else (if (x4_last X8 40) = 33 then (lt2 (x4_removeLast X8 40) fun (x32 : Int32) (X32 : xS) => lt (x4_add X32 38 (-x32)) fun (X36 : xS) => lt (mU X36 37 3 ((X36 37 3) - 1)) fun (X46 : xS) => (x3_closeNots_L8 f (ki - 1) X46)) else (ki, X8))) := rfl
def x3_closeNots (X : xS) : xS := (lt2 (x3_closeNots_L8 (vn (X 40 1) + 1) (vn (X 40 1)) X) fun (kix : Nat) (X8x : xS) => X8x)
def x3_putDownFrom_L8 (rank : Int32) : Nat → Nat → xS → Nat × xS
  | 0, ki, X8 => (ki, X8)
  | f + 1, ki, X8 => (if (nI ki) ≤ 0 then (ki, X8) else (if (p3_rankOf (x4_last X8 40)) < rank then (ki, X8) else (lt2 (x4_removeLast X8 40) fun (x34 : Int32) (X34 : xS) => lt (x4_add X34 38 (-x34)) fun (X38 : xS) => (x3_putDownFrom_L8 rank f (ki - 1) X38))))
theorem x3_putDownFrom_L8_s (rank : Int32) (f : Nat) (ki : Nat) (X8 : xS) : x3_putDownFrom_L8 rank (f + 1) ki X8 = (if (nI ki) ≤ 0 then (ki, X8) else (if (p3_rankOf (x4_last X8 40)) < rank then (ki, X8) else (lt2 (x4_removeLast X8 40) fun (x34 : Int32) (X34 : xS) => lt (x4_add X34 38 (-x34)) fun (X38 : xS) => (x3_putDownFrom_L8 rank f (ki - 1) X38)))) := rfl
def x3_putDownFrom (X : xS) (rank : Int32) : xS := (lt2 (x3_putDownFrom_L8 rank (vn (X 40 1) + 1) (vn (X 40 1)) X) fun (kix : Nat) (X8x : xS) => X8x)
def x3_endTerm (X : xS) (sign : Int32) : xS := (lt (x4_add X 38 sign) fun (X5 : xS) => lt (mU X5 37 6 0) fun (X10 : xS) => lt (x3_closeNots X10) fun (X14 : xS) => X14)
def x3_endNumber (X : xS) : xS := (lt ((if (X 37 5) ≤ 0 then X else (lt (mU X 37 5 0) fun (X9 : xS) => lt (x3_endTerm X9 (X9 37 4)) fun (X17 : xS) => X17)) : xS) fun (X20 : xS) => X20)
def x3_closeBracket (X : xS) : Int32 × xS := (lt (x3_putDownFrom X 1) fun (X2 : xS) => (if (x4_last X2 40) = 40 then (lt2 (x4_removeLast X2 40) fun (x23 : Int32) (X23 : xS) => lt (mU X23 37 3 ((X23 37 3) - 1)) fun (X34 : xS) => lt (x3_closeNots X34) fun (X38 : xS) => (1, X38)) else (0, X2)))
def x3_takeSign (X : xS) (c : Int32) : Int32 × xS := (if c = 41 then (lt2 (x3_closeBracket X) fun (x7 : Int32) (X7 : xS) => (x7, X7)) else (lt (p3_rankOf c) fun (x15 : Int32) => (if x15 = 0 then (0, X) else (lt ((if x15 = 3 then (x15 + 1) else x15) : Int32) fun (y35 : Int32) => (lt (x3_putDownFrom X y35) fun (X35 : xS) => (if x15 = 3 then (if (p3_rankOf (x4_last X35 40)) = x15 then (0, X35) else (lt (x4_add X35 40 c) fun (X64 : xS) => lt (mU X64 37 6 1) fun (X69 : xS) => (1, X69))) else (lt (x4_add X35 40 c) fun (X64 : xS) => lt (mU X64 37 6 1) fun (X69 : xS) => (1, X69))))))))
def x3_takeTerm (X : xS) (c : Int32) : Int32 × xS := (if c = 33 then (if (X 37 3) < 5 then (lt (mU X 37 3 ((X 37 3) + 1)) fun (X29 : xS) => lt (x4_add X29 40 c) fun (X37 : xS) => (1, X37)) else (0, X)) else (if c = 40 then (if (X 37 3) < 5 then (lt (mU X 37 3 ((X 37 3) + 1)) fun (X29 : xS) => lt (x4_add X29 40 c) fun (X37 : xS) => (1, X37)) else (0, X)) else (lt (pJ_indexOf_0f7a4 (vn (X 37 2)) ((c.toUInt32 % 65536).toInt32)) fun (x51 : Int32) => (if 0 ≤ x51 then (lt (x3_endTerm X ((-1) - x51)) fun (X62 : xS) => (1, X62)) else (0, X)))))
def x3_takeDigit (X : xS) (digit : Int32) : Int32 × xS := (if (X 37 5) ≤ 0 then (if (X 37 6) = 0 then (0, X) else (lt (mU X 37 4 digit) fun (X51 : xS) => lt (mU X51 37 5 1) fun (X56 : xS) => lt (mU X56 37 6 0) fun (X61 : xS) => (1, X61))) else (if 4 ≤ (X 37 5) then (if (X 37 6) = 0 then (0, X) else (lt (mU X 37 4 digit) fun (X51 : xS) => lt (mU X51 37 5 1) fun (X56 : xS) => lt (mU X56 37 6 0) fun (X61 : xS) => (1, X61))) else (lt (mU X 37 4 (((X 37 4) * 10) + digit)) fun (X25 : xS) => lt (mU X25 37 5 ((X25 37 5) + 1)) fun (X35 : xS) => (1, X35))))
def x3_goesOn (X : xS) (c : Int32) : Int32 × xS := (if c < 48 then (lt (x3_endNumber X) fun (X22 : xS) => (if (X22 37 6) = 0 then (lt2 (x3_takeSign X22 c) fun (x42 : Int32) (X42 : xS) => (x42, X42)) else (lt2 (x3_takeTerm X22 c) fun (x34 : Int32) (X34 : xS) => (x34, X34)))) else (if 57 < c then (lt (x3_endNumber X) fun (X22 : xS) => (if (X22 37 6) = 0 then (lt2 (x3_takeSign X22 c) fun (x42 : Int32) (X42 : xS) => (x42, X42)) else (lt2 (x3_takeTerm X22 c) fun (x34 : Int32) (X34 : xS) => (x34, X34)))) else (lt2 (x3_takeDigit X (c - 48)) fun (x17 : Int32) (X17 : xS) => (x17, X17))))
def x3_faultOf_L36 (K36 : Nat → xS → Int32 × xS) : Nat → Nat → xS → Int32 × xS
  | 0, ks, X36 => K36 ks X36
  | f36 + 1, ks, X36 => (if (X36 9 1) ≤ (nI ks) then (K36 ks X36) else (lt2 (x3_goesOn X36 (x4_get X36 9 (nI ks))) fun (x50 : Int32) (X50 : xS) => (if x50 = 0 then (nI ks, X50) else (x3_faultOf_L36 K36 f36 (ks + 1) X50))))
theorem x3_faultOf_L36_s (K36 : Nat → xS → Int32 × xS) (f36 : Nat) (ks : Nat) (X36 : xS) : x3_faultOf_L36 K36 (f36 + 1) ks X36 = (if (X36 9 1) ≤ (nI ks) then (K36 ks X36) else (lt2 (x3_goesOn X36 (x4_get X36 9 (nI ks))) fun (x50 : Int32) (X50 : xS) => (if x50 = 0 then (nI ks, X50) else (x3_faultOf_L36 K36 f36 (ks + 1) X50)))) := rfl
def x3_faultOf (X : xS) (k : Nat) : Int32 × xS := (lt (mU X 37 2 (nI k)) fun (X2 : xS) => lt (x4_clear X2 38) fun (X9 : xS) => lt (x4_clear X9 40) fun (X16 : xS) => lt (mU X16 37 3 0) fun (X21 : xS) => lt (mU X21 37 5 0) fun (X26 : xS) => lt (mU X26 37 6 1) fun (X31 : xS) => (x3_faultOf_L36 (fun (ksx : Nat) (X36x : xS) => (lt (x3_endNumber X36x) fun (X65 : xS) => (if (X65 37 6) = 0 then (if (X65 37 3) ≤ 0 then (lt (x3_putDownFrom X65 1) fun (X89 : xS) => ((-1), X89)) else ((X65 9 1), X65)) else ((X65 9 1), X65)))) (vn (X 9 1) + 1) 0 X31))
def dP (X Y : xS) : Prop := dN Y ∧ ∀ p, (p < 37 ∨ 42 ≤ p) → Y p = X p
theorem p38 {X Y : xS} {v : Int32} (h : dP X Y) : dP X (x4_add Y 38 v) := ⟨ad38_d h.1, fun p hp => (ad_row _ _ _ _ (by omega) (by omega)).trans (h.2 p hp)⟩
theorem p40 {X Y : xS} {v : Int32} (h : dP X Y) : dP X (x4_add Y 40 v) := ⟨ad40_d h.1, fun p hp => (ad_row _ _ _ _ (by omega) (by omega)).trans (h.2 p hp)⟩
theorem prl {X Y : xS} (h : dP X Y) : dP X (x4_removeLast Y 40).2 := ⟨rl_d h.1, fun p hp => (rl_row _ _ _ (by omega)).trans (h.2 p hp)⟩
theorem pf3 {X Y : xS} {x : Int32} (h : dP X Y) : dP X (mU Y 37 3 x) := ⟨fd3_d h.1, fun p hp => (mU_row (by omega)).trans (h.2 p hp)⟩
theorem pf4 {X Y : xS} {x : Int32} (h : dP X Y) : dP X (mU Y 37 4 x) := ⟨fd4_d h.1, fun p hp => (mU_row (by omega)).trans (h.2 p hp)⟩
theorem pf5 {X Y : xS} {x : Int32} (h : dP X Y) : dP X (mU Y 37 5 x) := ⟨fd5_d h.1, fun p hp => (mU_row (by omega)).trans (h.2 p hp)⟩
theorem pf6 {X Y : xS} {x : Int32} (h : dP X Y) : dP X (mU Y 37 6 x) := ⟨fd6_d h.1, fun p hp => (mU_row (by omega)).trans (h.2 p hp)⟩
theorem dP_ite {α : Type} {X : xS} {c : Prop} [Decidable c] {a b : α × xS} (ha : dP X a.2) (hb : dP X b.2) : dP X (if c then a else b).2 := by
  by_cases h : c
  · rw [if_pos h]; exact ha
  · rw [if_neg h]; exact hb
theorem dP_iteX {X : xS} {c : Prop} [Decidable c] {a b : xS} (ha : dP X a) (hb : dP X b) : dP X (if c then a else b) := by
  by_cases h : c
  · rw [if_pos h]; exact ha
  · rw [if_neg h]; exact hb
theorem z_ite {α : Type} {c : Prop} [Decidable c] {a b : Int32 × α} (ha : a.1 = 0 ∨ a.1 = 1) (hb : b.1 = 0 ∨ b.1 = 1) : (if c then a else b).1 = 0 ∨ (if c then a else b).1 = 1 := by
  by_cases h : c
  · rw [if_pos h]; exact ha
  · rw [if_neg h]; exact hb
theorem cn_L8 {X : xS} : ∀ (f ki : Nat) (Y : xS), dP X Y → dP X (x3_closeNots_L8 f ki Y).2 := by
  intro f
  induction f with
  | zero => intro ki Y h; exact h
  | succ f ih =>
    intro ki Y h
    rw [x3_closeNots_L8_s]
    simp only [lt_i, lt2_i]
    repeat (first | with_reducible exact h | with_reducible apply dP_ite | with_reducible apply ih | with_reducible apply pf3 | with_reducible apply p38 | with_reducible apply prl)
theorem cn_p {X Y : xS} (h : dP X Y) : dP X (x3_closeNots Y) := by
  unfold x3_closeNots
  rw [lt2_i]
  exact cn_L8 _ _ _ h
theorem pd_L8 {X : xS} {r : Int32} : ∀ (f ki : Nat) (Y : xS), dP X Y → dP X (x3_putDownFrom_L8 r f ki Y).2 := by
  intro f
  induction f with
  | zero => intro ki Y h; exact h
  | succ f ih =>
    intro ki Y h
    rw [x3_putDownFrom_L8_s]
    simp only [lt_i, lt2_i]
    repeat (first | with_reducible exact h | with_reducible apply dP_ite | with_reducible apply ih | with_reducible apply p38 | with_reducible apply prl)
theorem pd_p {X Y : xS} {r : Int32} (h : dP X Y) : dP X (x3_putDownFrom Y r) := by
  unfold x3_putDownFrom
  rw [lt2_i]
  exact pd_L8 _ _ _ h
theorem et_p {X Y : xS} {v : Int32} (h : dP X Y) : dP X (x3_endTerm Y v) := by
  unfold x3_endTerm
  simp only [lt_i]
  exact cn_p (pf6 (p38 h))
theorem en_p {X Y : xS} (h : dP X Y) : dP X (x3_endNumber Y) := by
  unfold x3_endNumber
  simp only [lt_i]
  exact dP_iteX h (et_p (pf5 h))
theorem cb_p {X Y : xS} (h : dP X Y) : dP X (x3_closeBracket Y).2 := by
  unfold x3_closeBracket
  simp only [lt_i, lt2_i]
  repeat (first | with_reducible exact h | with_reducible apply dP_ite | with_reducible apply cn_p | with_reducible apply pf3 | with_reducible apply prl | with_reducible apply pd_p)
theorem ts_p {X Y : xS} {c : Int32} (h : dP X Y) : dP X (x3_takeSign Y c).2 := by
  unfold x3_takeSign
  simp only [lt_i, lt2_i]
  repeat (first | with_reducible exact h | with_reducible apply dP_ite | with_reducible apply cb_p | with_reducible apply pf6 | with_reducible apply p40 | with_reducible apply pd_p)
theorem tm_p {X Y : xS} {c : Int32} (h : dP X Y) : dP X (x3_takeTerm Y c).2 := by
  unfold x3_takeTerm
  simp only [lt_i, lt2_i]
  repeat (first | with_reducible exact h | with_reducible apply dP_ite | with_reducible apply pf3 | with_reducible apply p40 | with_reducible apply et_p)
theorem tg_p {X Y : xS} {c : Int32} (h : dP X Y) : dP X (x3_takeDigit Y c).2 := by
  unfold x3_takeDigit
  simp only [lt_i, lt2_i]
  repeat (first | with_reducible exact h | with_reducible apply dP_ite | with_reducible apply pf4 | with_reducible apply pf5 | with_reducible apply pf6)
theorem go_p {X Y : xS} {c : Int32} (h : dP X Y) : dP X (x3_goesOn Y c).2 := by
  unfold x3_goesOn
  simp only [lt_i, lt2_i]
  repeat (first | with_reducible exact h | with_reducible apply dP_ite | with_reducible apply ts_p | with_reducible apply tm_p | with_reducible apply tg_p | with_reducible apply en_p)
theorem dP_0 {X : xS} (h : dN X) : dP X X := ⟨h, fun _ _ => rfl⟩
theorem pd_d {X : xS} {r : Int32} (h : dN X) : dN (x3_putDownFrom X r) := (pd_p (dP_0 h)).1
theorem en_d {X : xS} (h : dN X) : dN (x3_endNumber X) := (en_p (dP_0 h)).1
theorem go_d {X : xS} {c : Int32} (h : dN X) : dN (x3_goesOn X c).2 := (go_p (dP_0 h)).1
theorem go_9 {X : xS} {c : Int32} (h : dN X) : (x3_goesOn X c).2 9 1 = X 9 1 := by rw [(go_p (dP_0 h)).2 9 (by decide)]
theorem cb_1 (X : xS) : (x3_closeBracket X).1 = 0 ∨ (x3_closeBracket X).1 = 1 := by
  unfold x3_closeBracket
  simp only [lt_i, lt2_i]
  repeat (first | with_reducible apply z_ite | exact Or.inl rfl | exact Or.inr rfl)
theorem cb_01 {X X2 : xS} {x : Int32} (h : (x, X2) = x3_closeBracket X) : x = 0 ∨ x = 1 := by
  have e := cb_1 X
  rw [← h] at e
  exact e
theorem ts_1 (X : xS) (c : Int32) : (x3_takeSign X c).1 = 0 ∨ (x3_takeSign X c).1 = 1 := by
  unfold x3_takeSign
  simp only [lt_i, lt2_i]
  repeat (first | with_reducible apply z_ite | with_reducible exact cb_1 X | exact Or.inl rfl | exact Or.inr rfl)
theorem ts_01 {X X2 : xS} {c x : Int32} (h : (x, X2) = x3_takeSign X c) : x = 0 ∨ x = 1 := by
  have e := ts_1 X c
  rw [← h] at e
  exact e
theorem tm_1 (X : xS) (c : Int32) : (x3_takeTerm X c).1 = 0 ∨ (x3_takeTerm X c).1 = 1 := by
  unfold x3_takeTerm
  simp only [lt_i, lt2_i]
  repeat (first | with_reducible apply z_ite | exact Or.inl rfl | exact Or.inr rfl)
theorem tm_01 {X X2 : xS} {c x : Int32} (h : (x, X2) = x3_takeTerm X c) : x = 0 ∨ x = 1 := by
  have e := tm_1 X c
  rw [← h] at e
  exact e
theorem tg_1 (X : xS) (c : Int32) : (x3_takeDigit X c).1 = 0 ∨ (x3_takeDigit X c).1 = 1 := by
  unfold x3_takeDigit
  simp only [lt_i, lt2_i]
  repeat (first | with_reducible apply z_ite | exact Or.inl rfl | exact Or.inr rfl)
theorem tdg_01 {X X2 : xS} {c x : Int32} (h : (x, X2) = x3_takeDigit X c) : x = 0 ∨ x = 1 := by
  have e := tg_1 X c
  rw [← h] at e
  exact e
/-- the reader as it begins -/
def fo_0 (X : xS) (k : Nat) : xS := mU (mU (mU (x4_clear (x4_clear (mU X 37 2 (nI k)) 38) 40) 37 3 0) 37 5 0) 37 6 1
theorem fo_d {X : xS} {k : Nat} (hk : k < 3) : dN (fo_0 X k) := by
  unfold fo_0 x4_clear
  simp only [lt_i]
  refine ⟨?_, ?_, ?_⟩
  · rw [mU_row (by decide), mU_row (by decide), mU_row (by decide), mU_row (by decide), mU_eq]
    exact ⟨rfl, by decide⟩
  · rw [mU_row (by decide), mU_row (by decide), mU_row (by decide), mU_eq]
    exact ⟨rfl, by decide⟩
  · rw [mU_ne (by decide), mU_ne (by decide), mU_ne (by decide), mU_row (by decide), mU_row (by decide), mU_eq, vn_nI (by omega)]
    exact hk
theorem fo_9 (X : xS) (k p : Nat) (h : p < 37 ∨ 42 ≤ p) : fo_0 X k p = X p := by
  unfold fo_0 x4_clear
  simp only [lt_i]
  rw [mU_row (by omega), mU_row (by omega), mU_row (by omega), mU_row (by omega), mU_row (by omega), mU_row (by omega)]
