/-! of 18.strings -/
def lenS : List Nat := [0, 3, 3]
def bytS : List (List Int32) := [[], [109, 102, 104], [109, 103, 104]]
theorem lenS_le {i : Nat} (hi : i < 3) : lenS.getD i 0 ≤ 3 := (by decide : ∀ i, i < 3 → lenS.getD i 0 ≤ 3) i hi
def p1_canEncode_9a6ad (c : Int32) : Int32 := (if c < 0 then 0 else (if 255 < c then 0 else 1))
theorem p1_canEncode_9a6ad_01 (c : Int32) : p1_canEncode_9a6ad c = 0 ∨ p1_canEncode_9a6ad c = 1 := by
  unfold p1_canEncode_9a6ad
  repeat' split
  all_goals first | exact Or.inl rfl | exact Or.inr rfl
def pJ_isLatin1_aae02 (i : Nat) : Int32 := 1
def pJ_coder_7d493 (i : Nat) : Int32 := 0
def pJ_length_8abf5 (i : Nat) : Int32 := ((nI (lenS.getD i 0)) >>> ((pJ_coder_7d493 i) &&& 31))
theorem jlen {i : Nat} (hi : i < 3) : pJ_length_8abf5 i = nI (lenS.getD i 0) := by
  rcases (show i = 0 ∨ i = 1 ∨ i = 2 by omega) with rfl | rfl | rfl <;> decide
def pJ_indexOfChar_4cfef_L7 (i : Nat) (t : Nat) (x2 : Int32) (K7 : Nat → Int32) : Nat → Nat → Int32
  | 0, ks => K7 ks
  | f7 + 1, ks => (if (nI t) ≤ (nI ks) then (K7 ks) else (if ((bytS.getD i []).getD ks 0) = x2 then nI ks else (pJ_indexOfChar_4cfef_L7 i t x2 K7 f7 (ks + 1))))
theorem pJ_indexOfChar_4cfef_L7_s (i : Nat) (t : Nat) (x2 : Int32) (K7 : Nat → Int32) (f7 : Nat) (ks : Nat) : pJ_indexOfChar_4cfef_L7 i t x2 K7 (f7 + 1) ks = (if (nI t) ≤ (nI ks) then (K7 ks) else (if ((bytS.getD i []).getD ks 0) = x2 then nI ks else (pJ_indexOfChar_4cfef_L7 i t x2 K7 f7 (ks + 1)))) := rfl
def pJ_indexOfChar_4cfef (i : Nat) (c : Int32) (fr : Nat) (t : Nat) : Int32 := (lt (c.toInt8.toInt32) fun (x2 : Int32) => (pJ_indexOfChar_4cfef_L7 i t x2 (fun (ksx : Nat) => (-1)) (t + 1) fr))
def pJ_indexOf_4cfef (i : Nat) (c : Int32) (t : Nat) : Int32 := (if (p1_canEncode_9a6ad c) = 0 then (-1) else (if (nI 0) < (nI (lenS.getD i 0)) then (pJ_indexOfChar_4cfef i c 0 (lenS.getD i 0)) else (-1)))
def pJ_indexOf_7cf53 (i : Nat) (c : Int32) : Int32 := (pJ_indexOf_4cfef i c (lenS.getD i 0))
def pJ_indexOf_0f7a4 (i : Nat) (c : Int32) : Int32 := (pJ_indexOf_7cf53 i c)
/-! of 20.xbase -/
abbrev xS : Type := Nat → Nat → Int32
def kdL : List Nat := [7, 0, 110, 110, 110, 108, 108, 108, 108, 3, 150, 3, 120, 0, 110, 110, 110, 108, 108, 108, 108, 3, 150, 3, 120, 0, 110, 110, 110, 108, 108, 108, 108, 3, 150, 3, 120, 2, 3, 150, 3, 150, 1, 104, 340, 90, 108, 6, 3, 140, 91, 4, 140, 4, 140, 4, 140, 4, 140, 108, 108, 106]
/-- what stands at a place: 0 estate, 1 Leading, 2 reader, 3 Row, 4 Sheet, 6 Voices, 7 the object, 90 the row of booleans, 91 the row of Sheets, 100 + n: a row of n ints -/
def kd (p : Nat) : Nat := kdL.getD p 99
/-- the texts: how many; their objects, codes, waiting rows (addresses); lengths; codes -/
abbrev tT : Type := Nat × (Nat → Nat) × (Nat → Nat) × (Nat → Nat) × (Nat → Nat) × (Nat → Nat → Int32)
/-- the classes of the rows, and what is fixed: ints, booleans, Sheets -/
abbrev cT : Type := ClassId × ClassId × ClassId
def aboveT : List Int32 := [-1, 0, 0, 0, 1, 2, 3]
def bodiesT : List Int32 := [10, 11, 12, 13, 20, 0, 0, 0, 0, 30, 0, 0, 0, 0, 40, 0, 0, 0, 0, 50, 0, 60, 0, 0, 0, 0, 70, 71]
/-! of 21.xkinds -/
abbrev kE (p : Nat) : Prop := kd p = 0 ∧ p < 62
abbrev kL (p : Nat) : Prop := kd p = 1 ∧ p < 62
abbrev kD (p : Nat) : Prop := kd p = 2 ∧ p < 62
abbrev kR (p : Nat) : Prop := kd p = 3 ∧ p < 62
abbrev kS (p : Nat) : Prop := kd p = 4 ∧ p < 62
abbrev kV (p : Nat) : Prop := kd p = 6 ∧ p < 62
abbrev kW (p : Nat) : Prop := kd p = 7 ∧ p < 62
abbrev kI (q n : Nat) : Prop := kd q = 100 + n ∧ q < 62
def rcap (p : Nat) : Nat := kd (p + 1) - 100
theorem kd_le : ∀ p, p < 62 → kd p ≤ 340 := by decide
theorem xI_lt {q n : Nat} (h : kI q n) : n < 2 ^ 31 := by have := kd_le q h.2; have := h.1; omega
theorem xE_1 {p : Nat} (h : kE p) : kd (p + 1) = 100 + 10 ∧ p + 1 < 62 := (by decide : ∀ p, p < 62 → kd p = 0 → kd (p + 1) = 100 + 10 ∧ p + 1 < 62) p h.2 h.1
theorem xE_2 {p : Nat} (h : kE p) : kd (p + 2) = 100 + 10 ∧ p + 2 < 62 := (by decide : ∀ p, p < 62 → kd p = 0 → kd (p + 2) = 100 + 10 ∧ p + 2 < 62) p h.2 h.1
theorem xE_3 {p : Nat} (h : kE p) : kd (p + 3) = 100 + 10 ∧ p + 3 < 62 := (by decide : ∀ p, p < 62 → kd p = 0 → kd (p + 3) = 100 + 10 ∧ p + 3 < 62) p h.2 h.1
theorem xE_4 {p : Nat} (h : kE p) : kd (p + 4) = 100 + 8 ∧ p + 4 < 62 := (by decide : ∀ p, p < 62 → kd p = 0 → kd (p + 4) = 100 + 8 ∧ p + 4 < 62) p h.2 h.1
theorem xE_5 {p : Nat} (h : kE p) : kd (p + 5) = 100 + 8 ∧ p + 5 < 62 := (by decide : ∀ p, p < 62 → kd p = 0 → kd (p + 5) = 100 + 8 ∧ p + 5 < 62) p h.2 h.1
theorem xE_6 {p : Nat} (h : kE p) : kd (p + 6) = 100 + 8 ∧ p + 6 < 62 := (by decide : ∀ p, p < 62 → kd p = 0 → kd (p + 6) = 100 + 8 ∧ p + 6 < 62) p h.2 h.1
theorem xE_7 {p : Nat} (h : kE p) : kd (p + 7) = 100 + 8 ∧ p + 7 < 62 := (by decide : ∀ p, p < 62 → kd p = 0 → kd (p + 7) = 100 + 8 ∧ p + 7 < 62) p h.2 h.1
theorem xE_8 {p : Nat} (h : kE p) : kd (p + 8) = 3 ∧ p + 8 < 62 := (by decide : ∀ p, p < 62 → kd p = 0 → kd (p + 8) = 3 ∧ p + 8 < 62) p h.2 h.1
theorem xE_10 {p : Nat} (h : kE p) : kd (p + 10) = 3 ∧ p + 10 < 62 := (by decide : ∀ p, p < 62 → kd p = 0 → kd (p + 10) = 3 ∧ p + 10 < 62) p h.2 h.1
theorem xR_1 {p : Nat} (h : kR p) : kd (p + 1) = 100 + rcap p ∧ p + 1 < 62 := (by decide : ∀ p, p < 62 → kd p = 3 → kd (p + 1) = 100 + rcap p ∧ p + 1 < 62) p h.2 h.1
theorem xS_1 {p : Nat} (h : kS p) : kd (p + 1) = 100 + 40 ∧ p + 1 < 62 := (by decide : ∀ p, p < 62 → kd p = 4 → kd (p + 1) = 100 + 40 ∧ p + 1 < 62) p h.2 h.1
theorem xV_1 {p : Nat} (h : kV p) : kd (p + 1) = 3 ∧ p + 1 < 62 := (by decide : ∀ p, p < 62 → kd p = 6 → kd (p + 1) = 3 ∧ p + 1 < 62) p h.2 h.1
theorem xD_1 {p : Nat} (h : kD p) : kd (p + 1) = 3 ∧ p + 1 < 62 := (by decide : ∀ p, p < 62 → kd p = 2 → kd (p + 1) = 3 ∧ p + 1 < 62) p h.2 h.1
theorem xD_3 {p : Nat} (h : kD p) : kd (p + 3) = 3 ∧ p + 3 < 62 := (by decide : ∀ p, p < 62 → kd p = 2 → kd (p + 3) = 3 ∧ p + 3 < 62) p h.2 h.1
theorem xL_1 {p : Nat} (h : kL p) : kd (p + 1) = 100 + 4 ∧ p + 1 < 62 := (by decide : ∀ p, p < 62 → kd p = 1 → kd (p + 1) = 100 + 4 ∧ p + 1 < 62) p h.2 h.1
theorem xL_2 {p : Nat} (h : kL p) : kd (p + 2) = 100 + 240 ∧ p + 2 < 62 := (by decide : ∀ p, p < 62 → kd p = 1 → kd (p + 2) = 100 + 240 ∧ p + 2 < 62) p h.2 h.1
theorem xL_4 {p : Nat} (h : kL p) : kd (p + 4) = 100 + 8 ∧ p + 4 < 62 := (by decide : ∀ p, p < 62 → kd p = 1 → kd (p + 4) = 100 + 8 ∧ p + 4 < 62) p h.2 h.1
theorem xW_59 {p : Nat} (h : kW p) : kI 59 8 := by decide
theorem xW_60 {p : Nat} (h : kW p) : kI 60 8 := by decide
theorem xW_61 {p : Nat} (h : kW p) : kI 61 6 := by decide
theorem rcap_le {p : Nat} (h : kR p) : 1 ≤ rcap p ∧ rcap p ≤ 50 := (by decide : ∀ p, p < 62 → kd p = 3 → 1 ≤ rcap p ∧ rcap p ≤ 50) p h.2 h.1
/-! of 22.cls1 -/
theorem ix_lt {x i : Int32} {n : Nat} (hx : x = nI n) (hn : n < 2 ^ 31) (h0 : ¬ i < 0) (h : ¬ x ≤ i) : i = nI (vn i) ∧ vn i < n := by
  obtain ⟨j, hj, rfl⟩ := nI_of h0
  rw [hx, nI_leI hn hj] at h
  rw [vn_nI hj]
  exact ⟨rfl, by omega⟩
def p8_within (v : Int32) (lo : Int32) (hi : Int32) : Int32 := (if v < lo then 0 else (if hi < v then 0 else 1))
theorem p8_within_01 (v : Int32) (lo : Int32) (hi : Int32) : p8_within v lo hi = 0 ∨ p8_within v lo hi = 1 := by
  unfold p8_within
  repeat' split
  all_goals first | exact Or.inl rfl | exact Or.inr rfl | exact sF_in_01 .. | skip
theorem p8_in {v lo hi : Int32} (h : ¬ p8_within v lo hi = 0) : ¬ v < lo ∧ ¬ hi < v := by
  unfold p8_within at h
  by_cases h1 : v < lo
  · rw [if_pos h1] at h; exact absurd rfl h
  · rw [if_neg h1] at h
    by_cases h2 : hi < v
    · rw [if_pos h2] at h; exact absurd rfl h
    · exact ⟨h1, h2⟩
theorem in_natp {v hi : Int32} {n : Nat} (h : ¬ p8_within v 0 hi = 0) (hh : hi = nI n) (hn : n < 2 ^ 31) : v = nI (vn v) ∧ vn v ≤ n := by
  obtain ⟨h1, h2⟩ := p8_in h
  rw [hh] at h2
  exact nn_of h1 (Int32.not_lt.mp h2) hn
theorem in_natq {v lo hi : Int32} {n : Nat} (h : ¬ p8_within v lo hi = 0) (hh : hi = nI n) (hn : n < 2 ^ 31) (hl : 0 ≤ lo) : v = nI (vn v) ∧ vn v ≤ n := by
  obtain ⟨h1, h2⟩ := p8_in h
  rw [hh] at h2
  exact nn_of (fun e9 => h1 (Int32.lt_of_lt_of_le e9 hl)) (Int32.not_lt.mp h2) hn
def p8_held (v : Int32) (hi : Int32) : Int32 := (if 0 ≤ v then (if v ≤ hi then v else hi) else 0)
def p8_has (set : Int32) (k : Int32) : Int32 := (if ((set >>> (k &&& 31)) &&& 1) = 0 then 0 else 1)
theorem p8_has_01 (set : Int32) (k : Int32) : p8_has set k = 0 ∨ p8_has set k = 1 := by
  unfold p8_has
  repeat' split
  all_goals first | exact Or.inl rfl | exact Or.inr rfl | exact sF_in_01 .. | skip
def p1_sightOf (kind : Int32) (m : Int32) (given : Int32) : Int32 := (if kind = 2 then (given / 2) else (if kind = 3 then given else (if kind = 4 then (given + 1) else (if kind = 5 then (given / 2) else (if kind = 6 then (given + (m - m / 3 * 3)) else given)))))
def p1_countsOf (kind : Int32) (m : Int32) : Int32 := (if kind = 1 then 4 else (if kind = 2 then 1 else (if kind = 3 then 0 else (if kind = 4 then 4 else (if kind = 5 then (1 + (m - m / 2 * 2)) else 2)))))
def p1_takesOf (kind : Int32) (given : Int32) : Int32 := (if kind = 3 then given else (if kind = 6 then (given / 2) else 0))
def x4_clear (X : xS) (pT : Nat) : xS := (lt (mU X pT 1 0) fun (X2 : xS) => X2)
def x4_add (X : xS) (pT : Nat) (v : Int32) : xS := (lt ((if (nI (rcap pT)) ≤ (X pT 1) then X else (lt (mU X (pT + 1) (vn (X pT 1)) v) fun (X21 : xS) => lt (mU X21 pT 1 ((X21 pT 1) + 1)) fun (X29 : xS) => X29)) : xS) fun (X32 : xS) => X32)
def x4_get (X : xS) (pT : Nat) (i : Int32) : Int32 := (if i < 0 then 0 else (if (X pT 1) ≤ i then 0 else (X (pT + 1) (vn i))))
def x4_last (X : xS) (pT : Nat) : Int32 := (if (X pT 1) ≤ 0 then 0 else (if (nI (rcap pT)) < (X pT 1) then 0 else (X (pT + 1) ((vn (X pT 1)) - 1))))
def x4_removeLast (X : xS) (pT : Nat) : Int32 × xS := (lt (x4_last X pT) fun (x4 : Int32) => (lt ((if (X pT 1) ≤ 0 then X else (lt (mU X pT 1 ((X pT 1) - 1)) fun (X19 : xS) => X19)) : xS) fun (X22 : xS) => (x4, X22)))
def x1_above (X : xS) (kind : Int32) : Int32 := (if (p8_within kind 0 6) = 0 then (-1) else (aboveT.getD (vn kind) 0))
def x5_isMissing (X : xS) (pT : Nat) : Int32 := (if (X pT 1) = 0 then 1 else 0)
theorem x5_isMissing_01 (X : xS) (pT : Nat) : x5_isMissing X pT = 0 ∨ x5_isMissing X pT = 1 := by
  unfold x5_isMissing
  repeat' split
  all_goals first | exact Or.inl rfl | exact Or.inr rfl | exact p8_within_01 .. | skip
def x8_isCell (X : xS) (c : Int32) : Int32 := (p8_within c 0 ((X 1 0) - 1))
theorem x8_isCell_01 (X : xS) (c : Int32) : x8_isCell X c = 0 ∨ x8_isCell X c = 1 := by
  unfold x8_isCell
  repeat' split
  all_goals first | exact Or.inl rfl | exact Or.inr rfl | exact p8_within_01 .. | skip
def x8_isPerson (X : xS) (c : Int32) : Int32 := (p8_within c 0 ((X 1 9) - 1))
theorem x8_isPerson_01 (X : xS) (c : Int32) : x8_isPerson X c = 0 ∨ x8_isPerson X c = 1 := by
  unfold x8_isPerson
  repeat' split
  all_goals first | exact Or.inl rfl | exact Or.inr rfl | exact p8_within_01 .. | skip
def p8_isKindAndNumber (km : Int32) : Int32 := (p8_within km 0 69)
theorem p8_isKindAndNumber_01 (km : Int32) : p8_isKindAndNumber km = 0 ∨ p8_isKindAndNumber km = 1 := by
  unfold p8_isKindAndNumber
  repeat' split
  all_goals first | exact Or.inl rfl | exact Or.inr rfl | exact sF_in_01 .. | skip
def p8_isSheet (s : Int32) : Int32 := (p8_within s 0 3)
theorem p8_isSheet_01 (s : Int32) : p8_isSheet s = 0 ∨ p8_isSheet s = 1 := by
  unfold p8_isSheet
  repeat' split
  all_goals first | exact Or.inl rfl | exact Or.inr rfl | exact sF_in_01 .. | skip
def x8_error (X : xS) (k : Int32) : Int32 × xS := (lt ((if (p8_within k 1 5) = 0 then X else (lt (mU X 61 (vn k) ((X 61 (vn k)) + 1)) fun (X18 : xS) => X18)) : xS) fun (X19 : xS) => (((-1000000000) - k), X19))
/-! of 23.cls2 -/
def eC (X : xS) (p : Nat) : Prop := X p 0 = nI (vn (X p 0)) ∧ 3 ≤ vn (X p 0) ∧ vn (X p 0) ≤ 10
def eP (X : xS) (p : Nat) : Prop := X p 9 = nI (vn (X p 9)) ∧ vn (X p 9) ≤ 8
def eA (X : xS) (p : Nat) : Prop := ∀ q, q < 8 → X (p + 6) q = nI (vn (X (p + 6) q)) ∧ vn (X (p + 6) q) < 10
def vfi (v : Int32) (f : Nat) : Prop := ∃ g, g ≤ 10 ∧ g < f ∧ v = nI g - 1
theorem vfi_0 {v : Int32} : ¬ vfi v 0 := fun ⟨g, _, h, _⟩ => absurd h (Nat.not_lt_zero _)
theorem vfi_step {v : Int32} {f : Nat} (h : vfi v (f + 1)) (c : ¬ v < 0) : vfi (v + (-1)) f := by
  obtain ⟨g, h1, h2, rfl⟩ := h
  rcases Nat.eq_zero_or_pos g with e | e
  · subst e; exact absurd (by decide) c
  · refine ⟨g - 1, by omega, by omega, ?_⟩
    obtain ⟨j, rfl⟩ : ∃ j, g = j + 1 := ⟨g - 1, by omega⟩
    rw [nI_pred, Nat.add_sub_cancel]
    cases j with
    | zero => decide
    | succ j => rw [pk_m1, nI_pred]
def x7_fill_53178_L5 (X : xS) (q : Nat) (v : Int32) : Nat → xS
  | 0 => X
  | k5 + 1 => lt (x7_fill_53178_L5 X q v k5) fun (X5 : xS) => (lt (mU X5 q k5 v) fun (X13 : xS) => X13)
theorem x7_fill_53178_L5_0 (X : xS) (q : Nat) (v : Int32) : x7_fill_53178_L5 X q v 0 = X := rfl
theorem x7_fill_53178_L5_s (X : xS) (q : Nat) (v : Int32) (k5 : Nat) : x7_fill_53178_L5 X q v (k5 + 1) = lt (x7_fill_53178_L5 X q v k5) fun (X5 : xS) => (lt (mU X5 q k5 v) fun (X13 : xS) => X13) := rfl
def x7_fill_53178 (X : xS) (q : Nat) (n : Nat) (v : Int32) : xS := (lt (x7_fill_53178_L5 X q v n) fun (X5x : xS) => X5x)
def x0_startAnew (X : xS) (pT : Nat) (n : Int32) : xS := (lt (mU X pT 0 n) fun (X2 : xS) => lt (x7_fill_53178 X2 (pT + 1) 10 0) fun (X10 : xS) => lt (x7_fill_53178 X10 (pT + 2) 10 0) fun (X18 : xS) => lt (mU X18 pT 4 0) fun (X23 : xS) => lt (mU X23 pT 5 0) fun (X28 : xS) => X28)
def x0_addOne (X : xS) (pT : Nat) (k : Int32) (m : Int32) (c : Int32) : Int32 × xS := (lt ((if 8 ≤ (nI (vn (X pT 9))) then X else (lt (mU X (pT + 4) (vn (X pT 9)) k) fun (X20 : xS) => lt (mU X20 (pT + 5) (vn (X pT 9)) m) fun (X28 : xS) => lt (mU X28 (pT + 6) (vn (X pT 9)) c) fun (X36 : xS) => lt (mU X36 (pT + 7) (vn (X pT 9)) 0) fun (X44 : xS) => lt (mU X44 pT 9 ((X44 pT 9) + 1)) fun (X52 : xS) => X52)) : xS) fun (X55 : xS) => (nI (vn (X pT 9)), X55))
def x0_grainsIn_L4 (X : xS) (pT : Nat) (set : Int32) : Nat → Int32
  | 0 => 0
  | k4 + 1 => lt (x0_grainsIn_L4 X pT set k4) fun (v2_4 : Int32) => (lt ((if (p8_has set (nI k4)) = 0 then v2_4 else (lt (v2_4 + (X (pT + 1) k4)) fun (x28 : Int32) => x28)) : Int32) fun (z2_29 : Int32) => z2_29)
theorem x0_grainsIn_L4_0 (X : xS) (pT : Nat) (set : Int32) : x0_grainsIn_L4 X pT set 0 = 0 := rfl
theorem x0_grainsIn_L4_s (X : xS) (pT : Nat) (set : Int32) (k4 : Nat) : x0_grainsIn_L4 X pT set (k4 + 1) = lt (x0_grainsIn_L4 X pT set k4) fun (v2_4 : Int32) => (lt ((if (p8_has set (nI k4)) = 0 then v2_4 else (lt (v2_4 + (X (pT + 1) k4)) fun (x28 : Int32) => x28)) : Int32) fun (z2_29 : Int32) => z2_29) := rfl
def x0_grainsIn (X : xS) (pT : Nat) (set : Int32) : Int32 := (lt (x0_grainsIn_L4 X pT set (vn (X pT 0))) fun (v2_4x : Int32) => v2_4x)
def x0_together (X : xS) (pT : Nat) : Int32 := (x0_grainsIn X pT ((1 <<< ((X pT 0) &&& 31)) - 1))
def x0_mirrored_L4 (X : xS) (pT : Nat) (set : Int32) : Nat → Int32
  | 0 => 0
  | k4 + 1 => lt (x0_mirrored_L4 X pT set k4) fun (v2_4 : Int32) => (lt ((if (p8_has set (((X pT 0) - 1) - (nI k4))) = 0 then v2_4 else (lt (v2_4 ||| (1 <<< ((nI k4) &&& 31))) fun (x32 : Int32) => x32)) : Int32) fun (z2_33 : Int32) => z2_33)
theorem x0_mirrored_L4_0 (X : xS) (pT : Nat) (set : Int32) : x0_mirrored_L4 X pT set 0 = 0 := rfl
theorem x0_mirrored_L4_s (X : xS) (pT : Nat) (set : Int32) (k4 : Nat) : x0_mirrored_L4 X pT set (k4 + 1) = lt (x0_mirrored_L4 X pT set k4) fun (v2_4 : Int32) => (lt ((if (p8_has set (((X pT 0) - 1) - (nI k4))) = 0 then v2_4 else (lt (v2_4 ||| (1 <<< ((nI k4) &&& 31))) fun (x32 : Int32) => x32)) : Int32) fun (z2_33 : Int32) => z2_33) := rfl
def x0_mirrored (X : xS) (pT : Nat) (set : Int32) : Int32 := (lt (x0_mirrored_L4 X pT set (vn (X pT 0))) fun (v2_4x : Int32) => v2_4x)
def x0_whoAreAt_L4 (X : xS) (pT : Nat) (c : Int32) : Nat → Int32
  | 0 => 0
  | k4 + 1 => lt (x0_whoAreAt_L4 X pT c k4) fun (v2_4 : Int32) => (lt ((if (X (pT + 6) k4) = c then (lt (v2_4 ||| (1 <<< ((nI k4) &&& 31))) fun (x27 : Int32) => x27) else v2_4) : Int32) fun (z2_28 : Int32) => z2_28)
theorem x0_whoAreAt_L4_0 (X : xS) (pT : Nat) (c : Int32) : x0_whoAreAt_L4 X pT c 0 = 0 := rfl
theorem x0_whoAreAt_L4_s (X : xS) (pT : Nat) (c : Int32) (k4 : Nat) : x0_whoAreAt_L4 X pT c (k4 + 1) = lt (x0_whoAreAt_L4 X pT c k4) fun (v2_4 : Int32) => (lt ((if (X (pT + 6) k4) = c then (lt (v2_4 ||| (1 <<< ((nI k4) &&& 31))) fun (x27 : Int32) => x27) else v2_4) : Int32) fun (z2_28 : Int32) => z2_28) := rfl
def x0_whoAreAt (X : xS) (pT : Nat) (c : Int32) : Int32 := (lt (x0_whoAreAt_L4 X pT c (vn (X pT 9))) fun (v2_4x : Int32) => v2_4x)
def x0_viewFrom_L53 (X : xS) (pT : Nat) (a : Nat) (sight : Int32) (between : Int32) : Nat → Nat → Int32 → Nat × Int32
  | 0, kb, v5_53 => (kb, v5_53)
  | f + 1, kb, v5_53 => (if (X pT 0) ≤ (nI kb) then (kb, v5_53) else (if ((nI a) + sight) < (nI kb) then (kb, v5_53) else (if (p8_has between ((nI kb) - 1)) = 0 then (lt (v5_53 ||| (1 <<< ((nI kb) &&& 31))) fun (x89 : Int32) => (x0_viewFrom_L53 X pT a sight between f (kb + 1) x89)) else (kb, v5_53))))
theorem x0_viewFrom_L53_s (X : xS) (pT : Nat) (a : Nat) (sight : Int32) (between : Int32) (f : Nat) (kb : Nat) (v5_53 : Int32) : x0_viewFrom_L53 X pT a sight between (f + 1) kb v5_53 = (if (X pT 0) ≤ (nI kb) then (kb, v5_53) else (if ((nI a) + sight) < (nI kb) then (kb, v5_53) else (if (p8_has between ((nI kb) - 1)) = 0 then (lt (v5_53 ||| (1 <<< ((nI kb) &&& 31))) fun (x89 : Int32) => (x0_viewFrom_L53 X pT a sight between f (kb + 1) x89)) else (kb, v5_53)))) := rfl
def x0_viewFrom_L10 (a : Nat) (sight : Int32) (between : Int32) : Nat → Int32 → Int32 → Int32 × Int32
  | 0, v6_10, v5_10 => (v6_10, v5_10)
  | f + 1, v6_10, v5_10 => (if v6_10 < 0 then (v6_10, v5_10) else (if v6_10 < ((nI a) - sight) then (v6_10, v5_10) else (if (p8_has between v6_10) = 0 then (lt (v5_10 ||| (1 <<< (v6_10 &&& 31))) fun (x40 : Int32) => (x0_viewFrom_L10 a sight between f (v6_10 + (-1)) x40)) else (v6_10, v5_10))))
theorem x0_viewFrom_L10_s (a : Nat) (sight : Int32) (between : Int32) (f : Nat) (v6_10 : Int32) (v5_10 : Int32) : x0_viewFrom_L10 a sight between (f + 1) v6_10 v5_10 = (if v6_10 < 0 then (v6_10, v5_10) else (if v6_10 < ((nI a) - sight) then (v6_10, v5_10) else (if (p8_has between v6_10) = 0 then (lt (v5_10 ||| (1 <<< (v6_10 &&& 31))) fun (x40 : Int32) => (x0_viewFrom_L10 a sight between f (v6_10 + (-1)) x40)) else (v6_10, v5_10)))) := rfl
def x0_viewFrom (X : xS) (pT : Nat) (q : Nat) (a : Nat) (sight : Int32) (between : Int32) : Int32 := (lt (1 <<< ((nI a) &&& 31)) fun (x3 : Int32) => lt ((nI a) - 1) fun (x8 : Int32) => (lt2 (x0_viewFrom_L10 a sight between fu11 x8 x3) fun (v6_10x : Int32) (v5_10x : Int32) => (lt2 (x0_viewFrom_L53 X pT a sight between fu11 (a + 1) v5_10x) fun (kbx : Nat) (v5_53x : Int32) => (if (X (pT + 4) q) = 5 then (v5_53x ||| (x0_mirrored X pT v5_53x)) else v5_53x))))
def x0_goOn (X : xS) (pT : Nat) (q : Nat) : xS := (lt ((X (pT + 6) q) + (X (pT + 7) q)) fun (x13 : Int32) => (lt ((if (p8_within x13 0 ((X pT 0) - 1)) = 0 then (lt (mU X (pT + 7) q (-(X (pT + 7) q))) fun (X50 : xS) => X50) else (lt (mU X (pT + 6) q x13) fun (X34 : xS) => X34)) : xS) fun (X51 : xS) => X51))
def x0_draw (X : xS) (pT : Nat) : Int32 × xS := (lt (mU X pT 18 (((X pT 18) * 1103515245) + 12345)) fun (X12 : xS) => ((((X12 pT 18).toUInt32 >>> ((8 : Int32).toUInt32 &&& Int32.toUInt32 31)).toInt32), X12))
theorem xdr_9 {X X2 : xS} {pT : Nat} {x : Int32} (h : (x, X2) = x0_draw X pT) : X2 pT 9 = X pT 9 := by
  unfold x0_draw at h
  rw [lt_i] at h
  rw [(Prod.mk.inj h).2, mU_ne (by decide)]
theorem xdr_lt {X X2 : xS} {pT n : Nat} {x y : Int32} (h : (x, X2) = x0_draw X pT) (hy : y = x - x / nI n * nI n) (h0 : 0 < n) (hn : n ≤ 8) : y = nI (vn y) ∧ vn y < n := by
  unfold x0_draw at h
  rw [lt_i] at h
  have h1 := (Prod.mk.inj h).1
  obtain ⟨e1, e2⟩ := ushr8 (mU X pT 18 (X pT 18 * 1103515245 + 12345) pT 18)
  rw [e1] at h1
  rw [h1, pk_rem (by omega) h0 (by omega)] at hy
  have h3 := Nat.mod_lt ((mU X pT 18 (X pT 18 * 1103515245 + 12345) pT 18).toBitVec.toNat / 2 ^ 8) h0
  rw [hy, vn_nI (by omega)]
  exact ⟨rfl, h3⟩
def x0_turnOneByDraws (X : xS) (pT : Nat) : xS := (lt ((if (X pT 9) ≤ 0 then X else (lt2 (x0_draw X pT) fun (x8 : Int32) (X8 : xS) => lt (x8 - x8 / (X8 pT 9) * (X8 pT 9)) fun (x16 : Int32) => lt2 (x0_draw X8 pT) fun (x23 : Int32) (X23 : xS) => lt (mU X23 (pT + 7) (vn x16) ((x23 - x23 / 3 * 3) - 1)) fun (X30 : xS) => X30)) : xS) fun (X31 : xS) => X31)
def x0_addUpLeaning_L2 (X : xS) (pT : Nat) : Nat → xS
  | 0 => X
  | k2 + 1 => lt (x0_addUpLeaning_L2 X pT k2) fun (X2 : xS) => (lt ((if (p8_has (X2 pT 5) (nI k2)) = 0 then X2 else (lt ((X2 (pT + 1) k2) - (X2 (pT + 1) k2) / 9 * 9) fun (x32 : Int32) => lt (mU X2 (pT + 1) (k2 + 1) (p8_held (((X2 (pT + 1) (k2 + 1)) + (X2 (pT + 1) k2)) - x32) 99999)) fun (X62 : xS) => lt (mU X62 (pT + 1) k2 x32) fun (X69 : xS) => X69)) : xS) fun (X70 : xS) => X70)
theorem x0_addUpLeaning_L2_0 (X : xS) (pT : Nat) : x0_addUpLeaning_L2 X pT 0 = X := rfl
theorem x0_addUpLeaning_L2_s (X : xS) (pT : Nat) (k2 : Nat) : x0_addUpLeaning_L2 X pT (k2 + 1) = lt (x0_addUpLeaning_L2 X pT k2) fun (X2 : xS) => (lt ((if (p8_has (X2 pT 5) (nI k2)) = 0 then X2 else (lt ((X2 (pT + 1) k2) - (X2 (pT + 1) k2) / 9 * 9) fun (x32 : Int32) => lt (mU X2 (pT + 1) (k2 + 1) (p8_held (((X2 (pT + 1) (k2 + 1)) + (X2 (pT + 1) k2)) - x32) 99999)) fun (X62 : xS) => lt (mU X62 (pT + 1) k2 x32) fun (X69 : xS) => X69)) : xS) fun (X70 : xS) => X70) := rfl
def x0_addUpLeaning (X : xS) (pT : Nat) : xS := (lt (x0_addUpLeaning_L2 X pT (vn (X pT 0) - 1)) fun (X2x : xS) => X2x)
theorem xaL (X : xS) (pT k : Nat) : x0_addUpLeaning_L2 X pT k pT = X pT := by
  induction k with
  | zero => rfl
  | succ k ih =>
    rw [x0_addUpLeaning_L2_s]; simp only [lt_i]
    split
    · exact ih
    · rw [mU_row (by omega), mU_row (by omega), ih]
def x0_divideGrains_L2 (pT : Nat) (v : Int32) : Nat → Nat → xS → Nat × xS
  | 0, ka, X2 => (ka, X2)
  | f + 1, ka, X2 => (if (X2 pT 0) ≤ (nI ka) then (ka, X2) else (if v = 0 then (ka, X2) else (lt (mU X2 (pT + 1) ka ((X2 (pT + 1) ka) / v)) fun (X27 : xS) => (x0_divideGrains_L2 pT v f (ka + 1) X27))))
theorem x0_divideGrains_L2_s (pT : Nat) (v : Int32) (f : Nat) (ka : Nat) (X2 : xS) : x0_divideGrains_L2 pT v (f + 1) ka X2 = (if (X2 pT 0) ≤ (nI ka) then (ka, X2) else (if v = 0 then (ka, X2) else (lt (mU X2 (pT + 1) ka ((X2 (pT + 1) ka) / v)) fun (X27 : xS) => (x0_divideGrains_L2 pT v f (ka + 1) X27)))) := rfl
def x0_divideGrains (X : xS) (pT : Nat) (v : Int32) : xS := (lt2 (x0_divideGrains_L2 pT v fu11 0 X) fun (kax : Nat) (X2x : xS) => X2x)
/-! of 24.texts -/
def p6_joined (left : Int32) (sign : Int32) (right : Int32) : Int32 := (if sign = 37 then (if right = 0 then 0 else (left - left / right * right)) else (if sign = 38 then (if left = 0 then 0 else (if right = 0 then 0 else 1)) else (if sign = 42 then (left * right) else (if sign = 43 then (left + right) else (if sign = 45 then (left - right) else (if sign = 47 then (if right = 0 then 0 else (left / right)) else (if sign = 60 then (if right ≤ left then 0 else 1) else (if sign = 61 then (if left = right then 1 else 0) else (if sign = 62 then (if left ≤ right then 0 else 1) else (if sign = 124 then (if left = 0 then (if right = 0 then 0 else 1) else 1) else 0))))))))))
def x6_valueFor_L6 (tt : tT) (ti : Nat) (a : Int32) (b : Int32) (c : Int32) : Nat → Nat → Nat → sS → Nat × Nat × sS
  | 0, ki, ks, V6 => (ki, ks, V6)
  | f + 1, ki, ks, V6 => (if (nI (tt.2.2.2.2.1 ti)) ≤ (nI ki) then (ki, ks, V6) else (lt (tt.2.2.2.2.2 ti ki) fun (x23 : Int32) => (if x23 < (-3) then (if x23 = (-33) then (if (nI ks) ≤ 0 then (x6_valueFor_L6 tt ti a b c f (ki + 1) ks V6) else (lt ((if (V6 (ks - 1)) = 0 then 1 else 0) : Int32) fun (y124 : Int32) => (lt (upd V6 (ks - 1) y124) fun (V124 : sS) => (x6_valueFor_L6 tt ti a b c f (ki + 1) ks V124)))) else (if (nI ks) ≤ 1 then (x6_valueFor_L6 tt ti a b c f (ki + 1) ks V6) else (lt (upd V6 ((ks - 1) - 1) (p6_joined (V6 ((ks - 1) - 1)) (-x23) (V6 (ks - 1)))) fun (V167 : sS) => (x6_valueFor_L6 tt ti a b c f (ki + 1) (ks - 1) V167)))) else (if (nI (tt.2.2.2.2.1 ti)) ≤ (nI ks) then (x6_valueFor_L6 tt ti a b c f (ki + 1) ks V6) else (lt ((if x23 < 0 then (if x23 = (-1) then a else (if x23 = (-2) then b else c)) else x23) : Int32) fun (y80 : Int32) => (lt (upd V6 ks y80) fun (V80 : sS) => (x6_valueFor_L6 tt ti a b c f (ki + 1) (ks + 1) V80)))))))
theorem x6_valueFor_L6_s (tt : tT) (ti : Nat) (a : Int32) (b : Int32) (c : Int32) (f : Nat) (ki : Nat) (ks : Nat) (V6 : sS) : x6_valueFor_L6 tt ti a b c (f + 1) ki ks V6 = (if (nI (tt.2.2.2.2.1 ti)) ≤ (nI ki) then (ki, ks, V6) else (lt (tt.2.2.2.2.2 ti ki) fun (x23 : Int32) => (if x23 < (-3) then (if x23 = (-33) then (if (nI ks) ≤ 0 then (x6_valueFor_L6 tt ti a b c f (ki + 1) ks V6) else (lt ((if (V6 (ks - 1)) = 0 then 1 else 0) : Int32) fun (y124 : Int32) => (lt (upd V6 (ks - 1) y124) fun (V124 : sS) => (x6_valueFor_L6 tt ti a b c f (ki + 1) ks V124)))) else (if (nI ks) ≤ 1 then (x6_valueFor_L6 tt ti a b c f (ki + 1) ks V6) else (lt (upd V6 ((ks - 1) - 1) (p6_joined (V6 ((ks - 1) - 1)) (-x23) (V6 (ks - 1)))) fun (V167 : sS) => (x6_valueFor_L6 tt ti a b c f (ki + 1) (ks - 1) V167)))) else (if (nI (tt.2.2.2.2.1 ti)) ≤ (nI ks) then (x6_valueFor_L6 tt ti a b c f (ki + 1) ks V6) else (lt ((if x23 < 0 then (if x23 = (-1) then a else (if x23 = (-2) then b else c)) else x23) : Int32) fun (y80 : Int32) => (lt (upd V6 ks y80) fun (V80 : sS) => (x6_valueFor_L6 tt ti a b c f (ki + 1) (ks + 1) V80))))))) := rfl
def x6_valueFor (tt : tT) (ti : Nat) (a : Int32) (b : Int32) (c : Int32) (V : sS) : Int32 := (lt3 (x6_valueFor_L6 tt ti a b c (tt.2.2.2.2.1 ti + 1) 0 0 V) fun (kix : Nat) (ksx : Nat) (V6x : sS) => (if (nI ksx) ≤ 0 then 0 else (V6x 0)))
def tS (tt : tT) (ti : Nat) (a b c : Int32) (ki ks : Nat) (V : sS) : Nat × sS :=
  if tt.2.2.2.2.2 ti ki < -3 then (if tt.2.2.2.2.2 ti ki = -33 then (if nI ks ≤ 0 then (ks, V) else (ks, upd V (ks - 1) (if V (ks - 1) = 0 then 1 else 0))) else (if nI ks ≤ 1 then (ks, V) else (ks - 1, upd V ((ks - 1) - 1) (p6_joined (V ((ks - 1) - 1)) (-(tt.2.2.2.2.2 ti ki)) (V (ks - 1))))))
  else (if nI (tt.2.2.2.2.1 ti) ≤ nI ks then (ks, V) else (ks + 1, upd V ks (if tt.2.2.2.2.2 ti ki < 0 then (if tt.2.2.2.2.2 ti ki = -1 then a else (if tt.2.2.2.2.2 ti ki = -2 then b else c)) else tt.2.2.2.2.2 ti ki)))
theorem vf_step (tt : tT) (ti : Nat) (a b c : Int32) (f ki ks : Nat) (V : sS) : x6_valueFor_L6 tt ti a b c (f + 1) ki ks V = if nI (tt.2.2.2.2.1 ti) ≤ nI ki then (ki, ks, V) else x6_valueFor_L6 tt ti a b c f (ki + 1) (tS tt ti a b c ki ks V).1 (tS tt ti a b c ki ks V).2 := by
  rw [x6_valueFor_L6_s]
  simp only [lt_i]
  unfold tS
  by_cases c0 : nI (tt.2.2.2.2.1 ti) ≤ nI ki
  · rw [if_pos c0, if_pos c0]
  rw [if_neg c0, if_neg c0]
  by_cases c1 : tt.2.2.2.2.2 ti ki < -3
  · simp only [if_pos c1]
    by_cases c2 : tt.2.2.2.2.2 ti ki = -33
    · simp only [if_pos c2]
      by_cases c3 : nI ks ≤ 0
      · simp only [if_pos c3]
      · simp only [if_neg c3]
    · simp only [if_neg c2]
      by_cases c3 : nI ks ≤ 1
      · simp only [if_pos c3]
      · simp only [if_neg c3]
  · simp only [if_neg c1]
    by_cases c2 : nI (tt.2.2.2.2.1 ti) ≤ nI ks
    · simp only [if_pos c2]
    · simp only [if_neg c2]
theorem vf_1 {ks : Nat} (h : ¬ nI ks ≤ 1) : 1 < ks := by
  rcases Nat.lt_or_ge 1 ks with e | e
  · exact e
  · rcases (show ks = 0 ∨ ks = 1 by omega) with rfl | rfl
    · exact absurd (by decide) h
    · exact absurd (by decide) h
theorem vf_0 {ks : Nat} (h : ¬ nI ks ≤ 0) : 0 < ks := Nat.pos_of_ne_zero (fun e9 => h (by rw [e9]; decide))
theorem tS_le (tt : tT) (ti : Nat) (a b c : Int32) (ki ks : Nat) (V : sS) (hn : tt.2.2.2.2.1 ti < 2 ^ 31) (h : ks ≤ tt.2.2.2.2.1 ti) : (tS tt ti a b c ki ks V).1 ≤ tt.2.2.2.2.1 ti := by
  unfold tS
  by_cases c1 : tt.2.2.2.2.2 ti ki < -3
  · rw [if_pos c1]
    by_cases c2 : tt.2.2.2.2.2 ti ki = -33
    · rw [if_pos c2]
      by_cases c3 : nI ks ≤ 0
      · rw [if_pos c3]; exact h
      · rw [if_neg c3]; exact h
    · rw [if_neg c2]
      by_cases c3 : nI ks ≤ 1
      · rw [if_pos c3]; exact h
      · rw [if_neg c3]; show ks - 1 ≤ _; omega
  · rw [if_neg c1]
    by_cases c2 : nI (tt.2.2.2.2.1 ti) ≤ nI ks
    · rw [if_pos c2]; exact h
    · rw [if_neg c2]
      have := lp_lt (n := tt.2.2.2.2.1 ti) rfl c2 hn (by omega)
      show ks + 1 ≤ _
      omega
theorem vf_leL (tt : tT) (ti : Nat) (a b c : Int32) (hn : tt.2.2.2.2.1 ti < 2 ^ 31) : ∀ (f ki ks : Nat) (V : sS), ks ≤ tt.2.2.2.2.1 ti → (x6_valueFor_L6 tt ti a b c f ki ks V).2.1 ≤ tt.2.2.2.2.1 ti := by
  intro f
  induction f with
  | zero => intro ki ks V h; exact h
  | succ f ih =>
    intro ki ks V h
    rw [vf_step]
    by_cases c0 : nI (tt.2.2.2.2.1 ti) ≤ nI ki
    · rw [if_pos c0]; exact h
    · rw [if_neg c0]; exact ih _ _ _ (tS_le tt ti a b c ki ks V hn h)
theorem vf_le {tt : tT} {ti : Nat} {a b c : Int32} (hn : tt.2.2.2.2.1 ti < 2 ^ 31) {f ki ks : Nat} {V V2 : sS} (h : (ki, ks, V2) = x6_valueFor_L6 tt ti a b c f 0 0 V) : ks ≤ tt.2.2.2.2.1 ti := by
  have h1 := vf_leL tt ti a b c hn f 0 0 V (Nat.zero_le _)
  rw [← h] at h1
  exact h1
theorem tS_any (tt : tT) (ti : Nat) (a b c : Int32) (ki ks : Nat) (V V2 : sS) (h : ∀ j, j < ks → V j = V2 j) : (tS tt ti a b c ki ks V).1 = (tS tt ti a b c ki ks V2).1 ∧ ∀ j, j < (tS tt ti a b c ki ks V).1 → (tS tt ti a b c ki ks V).2 j = (tS tt ti a b c ki ks V2).2 j := by
  have up : ∀ (k n : Nat) (x y : Int32), x = y → (∀ j, j < n → j ≠ k → V j = V2 j) → ∀ j, j < n → upd V k x j = upd V2 k y j := fun k n x y e hv j hj => by
    by_cases e2 : j = k
    · subst e2; rw [pk_us, pk_us, e]
    · rw [pk_un e2, pk_un e2]; exact hv j hj e2
  unfold tS
  by_cases c1 : tt.2.2.2.2.2 ti ki < -3
  · simp only [if_pos c1]
    by_cases c2 : tt.2.2.2.2.2 ti ki = -33
    · simp only [if_pos c2]
      by_cases c3 : nI ks ≤ 0
      · simp only [if_pos c3]; exact ⟨trivial, h⟩
      · simp only [if_neg c3]
        have h3 := vf_0 c3
        exact ⟨trivial, up _ _ _ _ (by rw [h (ks - 1) (by omega)]) (fun j hj _ => h j hj)⟩
    · simp only [if_neg c2]
      by_cases c3 : nI ks ≤ 1
      · simp only [if_pos c3]; exact ⟨trivial, h⟩
      · simp only [if_neg c3]
        have h3 := vf_1 c3
        exact ⟨trivial, up _ _ _ _ (by rw [h (ks - 1) (by omega), h (ks - 1 - 1) (by omega)]) (fun j hj _ => h j (by omega))⟩
  · simp only [if_neg c1]
    by_cases c2 : nI (tt.2.2.2.2.1 ti) ≤ nI ks
    · simp only [if_pos c2]; exact ⟨trivial, h⟩
    · simp only [if_neg c2]
      exact ⟨trivial, up _ _ _ _ rfl (fun j hj e => h j (by omega))⟩
theorem vf_anyL (tt : tT) (ti : Nat) (a b c : Int32) : ∀ (f ki ks : Nat) (V V2 : sS), (∀ j, j < ks → V j = V2 j) → (x6_valueFor_L6 tt ti a b c f ki ks V).2.1 = (x6_valueFor_L6 tt ti a b c f ki ks V2).2.1 ∧ ∀ j, j < (x6_valueFor_L6 tt ti a b c f ki ks V).2.1 → (x6_valueFor_L6 tt ti a b c f ki ks V).2.2 j = (x6_valueFor_L6 tt ti a b c f ki ks V2).2.2 j := by
  intro f
  induction f with
  | zero => intro ki ks V V2 h; exact ⟨rfl, h⟩
  | succ f ih =>
    intro ki ks V V2 h
    rw [vf_step, vf_step]
    by_cases c0 : nI (tt.2.2.2.2.1 ti) ≤ nI ki
    · rw [if_pos c0, if_pos c0]; exact ⟨rfl, h⟩
    · rw [if_neg c0, if_neg c0]
      have h2 := tS_any tt ti a b c ki ks V V2 h
      rw [← h2.1]
      exact ih _ _ _ _ h2.2
/-- what a text gives -/
def tE (tt : tT) (ti : Nat) (a b c : Int32) : Int32 := x6_valueFor tt ti a b c (fun _ => 0)
theorem tE_any (tt : tT) (ti : Nat) (a b c : Int32) (V : sS) : tE tt ti a b c = x6_valueFor tt ti a b c V := by
  unfold tE x6_valueFor
  rw [lt3_i, lt3_i]
  have h := vf_anyL tt ti a b c (tt.2.2.2.2.1 ti + 1) 0 0 (fun _ => 0) V (fun j hj => absurd hj (Nat.not_lt_zero _))
  rw [← h.1]
  by_cases c0 : nI (x6_valueFor_L6 tt ti a b c (tt.2.2.2.2.1 ti + 1) 0 0 (fun _ => 0)).2.1 ≤ 0
  · rw [if_pos c0, if_pos c0]
  · rw [if_neg c0, if_neg c0]
    exact h.2 0 (vf_0 c0)
/-- a row copied -/
def xcp (X : xS) (q0 q1 n : Nat) : xS := va_up X q1 (va_cpy (X q0) (X q1) 0 0 n)
theorem xcp_row {X : xS} {q0 q1 n p : Nat} (h : p ≠ q1) : xcp X q0 q1 n p = X p := va_up_ne X _ h
theorem xcp_at (X : xS) (q0 q1 n j : Nat) : xcp X q0 q1 n q1 j = if j < n then X q0 j else X q1 j := by
  unfold xcp
  rw [va_up_self]
  by_cases h : j < n
  · rw [if_pos h, pk_cpy_in (Nat.zero_le _) (by omega)]
    congr 1
    omega
  · rw [if_neg h, pk_cpy_out (by omega)]
/-! of 25.estate -/
def eT (tt : tT) (X : xS) (p : Nat) : Prop := ∀ k, (k = 14 ∨ k = 15) → X p k = -1 ∨ (X p k = nI (vn (X p k)) ∧ vn (X p k) < tt.1 ∧ tt.2.2.2.2.1 (vn (X p k)) < 2 ^ 31)
def eR (tt : tT) (X : xS) (p : Nat) : Prop := eC X p ∧ eP X p ∧ eA X p ∧ eT tt X p
theorem eR_of {tt : tT} {X X2 : xS} {p : Nat} (h0 : X2 p = X p) (h6 : X2 (p + 6) = X (p + 6)) (h : eR tt X p) : eR tt X2 p := by
  obtain ⟨a, b, c, d⟩ := h
  refine ⟨?_, ?_, ?_, ?_⟩
  · unfold eC; rw [h0]; exact a
  · unfold eP; rw [h0]; exact b
  · unfold eA; rw [h6]; exact c
  · unfold eT; rw [h0]; exact d
theorem eR_row {tt : tT} {X X2 : xS} {p : Nat} (h0 : ∀ q, q ≠ p + 3 → X2 q = X q) (h : eR tt X p) : eR tt X2 p := eR_of (h0 _ (by omega)) (h0 _ (by omega)) h
theorem eR_f {tt : tT} {X X2 : xS} {p : Nat} (h0 : ∀ k, k ≠ 7 → k ≠ 8 → X2 p k = X p k) (hA : eA X2 p) (h : eR tt X p) : eR tt X2 p := by
  obtain ⟨a, b, c, d⟩ := h
  refine ⟨?_, ?_, hA, ?_⟩
  · unfold eC; rw [h0 0 (by decide) (by decide)]; exact a
  · unfold eP; rw [h0 9 (by decide) (by decide)]; exact b
  · intro k hk
    rw [h0 k (by omega) (by omega)]
    exact d k hk
theorem gt6 {k : Nat} (h : ¬ (6 : Int32) < nI k) (hk : k < 2 ^ 31) : k ≤ 6 := by
  rw [show (6 : Int32) = nI 6 from rfl, nI_ltI (by decide) hk] at h
  omega
theorem ix0 {x : Int32} (h0 : ¬ x < 0) (h : ¬ (28 : Int32) ≤ x) : x = nI (vn x) ∧ vn x < 28 := ix_lt (n := 28) rfl (by decide) h0 h
theorem mx_0 {q : Nat} (h : q < 2 ^ 31) : (if (0 : Int32) < nI q then nI q else 0) = nI q := by
  by_cases e : (0 : Int32) < nI q
  · rw [if_pos e]
  · rw [if_neg e]
    rw [show (0 : Int32) = nI 0 from rfl, nI_ltI (by decide) h] at e
    rw [show q = 0 by omega]
    rfl
theorem xE_cap {p : Nat} (h : kE p) : rcap (p + 8) = 50 ∧ rcap (p + 10) = 20 := (by decide : ∀ p, p < 62 → kd p = 0 → rcap (p + 8) = 50 ∧ rcap (p + 10) = 20) p h.2 h.1
theorem mU_pt (X : xS) (q k : Nat) (x : Int32) (p j : Nat) : mU X q k x p j = if p = q ∧ j = k then x else X p j := by
  by_cases e : p = q
  · subst e
    by_cases e2 : j = k
    · subst e2; rw [mU_eq, if_pos ⟨rfl, rfl⟩]
    · rw [mU_ne e2, if_neg (show ¬ (p = p ∧ j = k) from fun h => e2 h.2)]
  · rw [mU_row e, if_neg (show ¬ (p = q ∧ j = k) from fun h => e h.1)]
def x1_isOneOf_L4 (X : xS) (other : Int32) (K4 : Int32 → Nat → Int32) : Nat → Int32 → Nat → Int32
  | 0, v2_4, ks => K4 v2_4 ks
  | f4 + 1, v2_4, ks => (if 6 < (nI ks) then (K4 v2_4 ks) else (if v2_4 < 0 then (K4 v2_4 ks) else (if v2_4 = other then 1 else (lt (x1_above X v2_4) fun (x25 : Int32) => (x1_isOneOf_L4 X other K4 f4 x25 (ks + 1))))))
theorem x1_isOneOf_L4_s (X : xS) (other : Int32) (K4 : Int32 → Nat → Int32) (f4 : Nat) (v2_4 : Int32) (ks : Nat) : x1_isOneOf_L4 X other K4 (f4 + 1) v2_4 ks = (if 6 < (nI ks) then (K4 v2_4 ks) else (if v2_4 < 0 then (K4 v2_4 ks) else (if v2_4 = other then 1 else (lt (x1_above X v2_4) fun (x25 : Int32) => (x1_isOneOf_L4 X other K4 f4 x25 (ks + 1)))))) := rfl
def x1_isOneOf (X : xS) (kind : Int32) (other : Int32) : Int32 := (x1_isOneOf_L4 X other (fun (v2_4x : Int32) (ksx : Nat) => 0) 8 kind 0)
def x7_bodyOf (X : xS) (act : Int32) (owner : Int32) : Int32 := (lt ((owner * 4) + act) fun (x5 : Int32) => (if x5 < 0 then 0 else (if 28 ≤ x5 then 0 else (bodiesT.getD (vn x5) 0))))
def x7_ownerOf_L4 (X : xS) (act : Int32) (K4 : Int32 → Nat → Int32) : Nat → Int32 → Nat → Int32
  | 0, v2_4, ks => K4 v2_4 ks
  | f4 + 1, v2_4, ks => (if 6 < (nI ks) then (K4 v2_4 ks) else (if v2_4 < 0 then (K4 v2_4 ks) else (if (x7_bodyOf X act v2_4) = 0 then (lt (x1_above X v2_4) fun (x28 : Int32) => (x7_ownerOf_L4 X act K4 f4 x28 (ks + 1))) else v2_4)))
theorem x7_ownerOf_L4_s (X : xS) (act : Int32) (K4 : Int32 → Nat → Int32) (f4 : Nat) (v2_4 : Int32) (ks : Nat) : x7_ownerOf_L4 X act K4 (f4 + 1) v2_4 ks = (if 6 < (nI ks) then (K4 v2_4 ks) else (if v2_4 < 0 then (K4 v2_4 ks) else (if (x7_bodyOf X act v2_4) = 0 then (lt (x1_above X v2_4) fun (x28 : Int32) => (x7_ownerOf_L4 X act K4 f4 x28 (ks + 1))) else v2_4))) := rfl
def x7_ownerOf (X : xS) (act : Int32) (of : Int32) : Int32 := (x7_ownerOf_L4 X act (fun (v2_4x : Int32) (ksx : Nat) => (-1)) 8 of 0)
def x0_sightGiven (tt : tT) (X : xS) (pT : Nat) (a : Int32) (b : Int32) (c : Int32) : Int32 := (lt ((if (X pT 14) = -1 then (3 - (b / 3)) else (tE tt (vn (X pT 14)) a b c)) : Int32) fun (y25 : Int32) => (p8_held y25 9))
def x0_theftGiven (tt : tT) (X : xS) (pT : Nat) (a : Int32) (b : Int32) (c : Int32) : Int32 := (lt ((if (X pT 15) = -1 then a else (tE tt (vn (X pT 15)) a b c)) : Int32) fun (y21 : Int32) => (p8_held y21 99))
def x0_sightIn (tt : tT) (X : xS) (pT : Nat) (q : Nat) (fog : Int32) (hour : Int32) : Int32 := (p1_sightOf (X (pT + 4) q) (X (pT + 5) q) (x0_sightGiven tt X pT (X (pT + 5) q) fog hour))
def x0_takesFrom (tt : tT) (X : xS) (pT : Nat) (q : Nat) (gr : Int32) (hour : Int32) : Int32 := (if (x1_isOneOf X (X (pT + 4) q) 3) = 0 then 0 else (p1_takesOf (X (pT + 4) q) (x0_theftGiven tt X pT (X (pT + 5) q) gr hour)))
def x0_seenBy (tt : tT) (X : xS) (pT : Nat) (q : Nat) : Int32 := (x0_viewFrom X pT q (vn (X (pT + 6) q)) (x0_sightIn tt X pT q (X pT 6) (X pT 7)) (X pT 4))
def x0_whoSee_L4 (tt : tT) (X : xS) (pT : Nat) (c : Int32) : Nat → Int32
  | 0 => 0
  | k4 + 1 => lt (x0_whoSee_L4 tt X pT c k4) fun (v2_4 : Int32) => (lt ((if (p8_has (x0_seenBy tt X pT k4) c) = 0 then v2_4 else (lt (v2_4 ||| (1 <<< ((nI k4) &&& 31))) fun (x29 : Int32) => x29)) : Int32) fun (z2_30 : Int32) => z2_30)
theorem x0_whoSee_L4_0 (tt : tT) (X : xS) (pT : Nat) (c : Int32) : x0_whoSee_L4 tt X pT c 0 = 0 := rfl
theorem x0_whoSee_L4_s (tt : tT) (X : xS) (pT : Nat) (c : Int32) (k4 : Nat) : x0_whoSee_L4 tt X pT c (k4 + 1) = lt (x0_whoSee_L4 tt X pT c k4) fun (v2_4 : Int32) => (lt ((if (p8_has (x0_seenBy tt X pT k4) c) = 0 then v2_4 else (lt (v2_4 ||| (1 <<< ((nI k4) &&& 31))) fun (x29 : Int32) => x29)) : Int32) fun (z2_30 : Int32) => z2_30) := rfl
def x0_whoSee (tt : tT) (X : xS) (pT : Nat) (c : Int32) : Int32 := (lt (x0_whoSee_L4 tt X pT c (vn (X pT 9))) fun (v2_4x : Int32) => v2_4x)
def x0_isSeen_L3 (X : xS) (pT : Nat) (r : Nat) (n : Nat) (c : Int32) (between : Int32) (K3 : Nat → Int32) : Nat → Nat → Int32
  | 0, ks => K3 ks
  | f3 + 1, ks => (if (X pT 9) ≤ (nI ks) then (K3 ks) else (if (nI n) ≤ (nI ks) then (K3 ks) else (if (p8_has (x0_viewFrom X pT ks (vn (X (pT + 6) ks)) (X r ks) between) c) = 0 then (x0_isSeen_L3 X pT r n c between K3 f3 (ks + 1)) else 1)))
theorem x0_isSeen_L3_s (X : xS) (pT : Nat) (r : Nat) (n : Nat) (c : Int32) (between : Int32) (K3 : Nat → Int32) (f3 : Nat) (ks : Nat) : x0_isSeen_L3 X pT r n c between K3 (f3 + 1) ks = (if (X pT 9) ≤ (nI ks) then (K3 ks) else (if (nI n) ≤ (nI ks) then (K3 ks) else (if (p8_has (x0_viewFrom X pT ks (vn (X (pT + 6) ks)) (X r ks) between) c) = 0 then (x0_isSeen_L3 X pT r n c between K3 f3 (ks + 1)) else 1))) := rfl
def x0_isSeen (X : xS) (pT : Nat) (r : Nat) (n : Nat) (c : Int32) (between : Int32) : Int32 := (x0_isSeen_L3 X pT r n c between (fun (ksx : Nat) => 0) 9 0)
def x4_takeOver_L6 (pT : Nat) (pA : Nat) (X1 : xS) : Nat → xS
  | 0 => X1
  | k6 + 1 => lt (x4_takeOver_L6 pT pA X1 k6) fun (X6 : xS) => (lt (x4_add X6 pT (x4_get X6 pA (nI k6))) fun (X20 : xS) => X20)
theorem x4_takeOver_L6_0 (pT : Nat) (pA : Nat) (X1 : xS) : x4_takeOver_L6 pT pA X1 0 = X1 := rfl
theorem x4_takeOver_L6_s (pT : Nat) (pA : Nat) (X1 : xS) (k6 : Nat) : x4_takeOver_L6 pT pA X1 (k6 + 1) = lt (x4_takeOver_L6 pT pA X1 k6) fun (X6 : xS) => (lt (x4_add X6 pT (x4_get X6 pA (nI k6))) fun (X20 : xS) => X20) := rfl
def x4_takeOver (X : xS) (pT : Nat) (pA : Nat) : xS := (lt (x4_clear X pT) fun (X1 : xS) => (lt (x4_takeOver_L6 pT pA X1 (vn (X pA 1))) fun (X6x : xS) => X6x))
theorem rt_at (X : xS) (pT pA : Nat) (hz : X pA 1 = nI (vn (X pA 1)) ∧ vn (X pA 1) ≤ rcap pA) (hy : rcap pA ≤ rcap pT) (hcap : rcap pT ≤ 50) (hne : pA ≠ pT ∧ pA ≠ pT + 1 ∧ pA + 1 ≠ pT) (k : Nat) : k ≤ vn (X pA 1) → ∀ (p j : Nat), x4_takeOver_L6 pT pA (x4_clear X pT) k p j = if p = pT ∧ j = 1 then nI k else if p = pT + 1 ∧ j < k then X (pA + 1) j else X p j := by
  induction k with
  | zero =>
    intro _ p j
    rw [x4_takeOver_L6_0]
    unfold x4_clear
    rw [lt_i, mU_pt]
    by_cases e : p = pT ∧ j = 1
    · rw [if_pos e, if_pos e]; rfl
    · rw [if_neg e, if_neg e, if_neg (show ¬ (p = pT + 1 ∧ j < 0) from fun h => absurd h.2 (Nat.not_lt_zero _))]
  | succ k ih =>
    intro hk p j
    have ih := ih (by omega)
    rw [x4_takeOver_L6_s, lt_i, lt_i]
    have e0 : x4_takeOver_L6 pT pA (x4_clear X pT) k pA 1 = X pA 1 := by
      rw [ih, if_neg (show ¬ (pA = pT ∧ 1 = 1) from fun h => hne.1 h.1), if_neg (show ¬ (pA = pT + 1 ∧ 1 < k) from fun h => hne.2.1 h.1)]
    have e1 : x4_takeOver_L6 pT pA (x4_clear X pT) k (pA + 1) k = X (pA + 1) k := by
      rw [ih, if_neg (show ¬ (pA + 1 = pT ∧ k = 1) from fun h => hne.2.2 h.1), if_neg (show ¬ (pA + 1 = pT + 1 ∧ k < k) from fun h => absurd h.2 (Nat.lt_irrefl _))]
    have e2 : x4_takeOver_L6 pT pA (x4_clear X pT) k pT 1 = nI k := by rw [ih, if_pos ⟨rfl, rfl⟩]
    have hg : x4_get (x4_takeOver_L6 pT pA (x4_clear X pT) k) pA (nI k) = X (pA + 1) k := by
      unfold x4_get
      rw [if_neg (nI_pos (by omega)), e0, if_neg (lp_in hz.1 (by omega) (by omega)), vn_nI (by omega), e1]
    rw [hg]
    unfold x4_add
    simp only [lt_i]
    rw [e2, if_neg (lp_in (n := rcap pT) rfl (by omega) (by omega)), mU_row (show pT ≠ pT + 1 by omega), e2, vn_nI (by omega), nI_1, mU_pt, mU_pt, ih]
    by_cases a : p = pT ∧ j = 1
    · simp only [if_pos a]
    · simp only [if_neg a]
      by_cases b : p = pT + 1 ∧ j = k
      · rw [if_pos b, if_pos (show p = pT + 1 ∧ j < k + 1 from ⟨b.1, by omega⟩), b.2]
      · rw [if_neg b]
        by_cases d : p = pT + 1 ∧ j < k
        · rw [if_pos d, if_pos (show p = pT + 1 ∧ j < k + 1 from ⟨d.1, by omega⟩)]
        · rw [if_neg d, if_neg (show ¬ (p = pT + 1 ∧ j < k + 1) from fun h => by
            rcases Nat.lt_or_ge j k with h9 | h9
            · exact d ⟨h.1, h9⟩
            · exact b ⟨h.1, by omega⟩)]
theorem rt_all {X : xS} {pT pA : Nat} (hz : X pA 1 = nI (vn (X pA 1)) ∧ vn (X pA 1) ≤ rcap pA) (hy : rcap pA ≤ rcap pT) (hcap : rcap pT ≤ 50) (hne : pA ≠ pT ∧ pA ≠ pT + 1 ∧ pA + 1 ≠ pT) (p j : Nat) : x4_takeOver X pT pA p j = if p = pT ∧ j = 1 then X pA 1 else if p = pT + 1 ∧ j < vn (X pA 1) then X (pA + 1) j else X p j := by
  unfold x4_takeOver
  simp only [lt_i]
  rw [rt_at X pT pA hz hy hcap hne _ (Nat.le_refl _) p j, ← hz.1]
theorem rt_row {X : xS} {pT pA : Nat} (hz : X pA 1 = nI (vn (X pA 1)) ∧ vn (X pA 1) ≤ rcap pA) (hy : rcap pA ≤ rcap pT) (hcap : rcap pT ≤ 50) (hne : pA ≠ pT ∧ pA ≠ pT + 1 ∧ pA + 1 ≠ pT) (p : Nat) (h0 : p ≠ pT) (h1 : p ≠ pT + 1) : x4_takeOver X pT pA p = X p := by
  funext j
  rw [rt_all hz hy hcap hne, if_neg (show ¬ (p = pT ∧ j = 1) from fun h => h0 h.1), if_neg (show ¬ (p = pT + 1 ∧ j < vn (X pA 1)) from fun h => h1 h.1)]
def x0_leaveOut_L6 (pT : Nat) : Nat → Nat → xS → Nat × xS
  | 0, ka, X6 => (ka, X6)
  | f + 1, ka, X6 => (if ((X6 pT 9) - 1) ≤ (nI ka) then (ka, X6) else (lt (mU X6 (pT + 4) ka (X6 (pT + 4) (ka + 1))) fun (X29 : xS) => lt (mU X29 (pT + 5) ka (X29 (pT + 5) (ka + 1))) fun (X43 : xS) => lt (mU X43 (pT + 6) ka (X43 (pT + 6) (ka + 1))) fun (X57 : xS) => lt (mU X57 (pT + 7) ka (X57 (pT + 7) (ka + 1))) fun (X71 : xS) => (x0_leaveOut_L6 pT f (ka + 1) X71)))
theorem x0_leaveOut_L6_s (pT : Nat) (f : Nat) (ka : Nat) (X6 : xS) : x0_leaveOut_L6 pT (f + 1) ka X6 = (if ((X6 pT 9) - 1) ≤ (nI ka) then (ka, X6) else (lt (mU X6 (pT + 4) ka (X6 (pT + 4) (ka + 1))) fun (X29 : xS) => lt (mU X29 (pT + 5) ka (X29 (pT + 5) (ka + 1))) fun (X43 : xS) => lt (mU X43 (pT + 6) ka (X43 (pT + 6) (ka + 1))) fun (X57 : xS) => lt (mU X57 (pT + 7) ka (X57 (pT + 7) (ka + 1))) fun (X71 : xS) => (x0_leaveOut_L6 pT f (ka + 1) X71))) := rfl
def x0_leaveOut (X : xS) (pT : Nat) (q : Nat) : xS := (lt2 (x0_leaveOut_L6 pT fu11 q X) fun (kax : Nat) (X6x : xS) => (lt (mU X6x pT 9 (if 0 < ((X6x pT 9) - 1) then ((X6x pT 9) - 1) else 0)) fun (X89 : xS) => X89))
def x0_takeOver (X : xS) (pT : Nat) (pA : Nat) : xS := (lt (mU X pT 0 (X pA 0)) fun (X5 : xS) => lt (xcp X5 (pA + 1) (pT + 1) 10) fun (X20 : xS) => lt (xcp X20 (pA + 2) (pT + 2) 10) fun (X35 : xS) => lt (mU X35 pT 4 (X35 pA 4)) fun (X43 : xS) => lt (mU X43 pT 5 (X43 pA 5)) fun (X51 : xS) => lt (mU X51 pT 6 (X51 pA 6)) fun (X59 : xS) => lt (mU X59 pT 7 (X59 pA 7)) fun (X67 : xS) => lt (mU X67 pT 8 (X67 pA 8)) fun (X75 : xS) => lt (mU X75 pT 9 (X75 pA 9)) fun (X83 : xS) => lt (xcp X83 (pA + 4) (pT + 4) 8) fun (X98 : xS) => lt (xcp X98 (pA + 5) (pT + 5) 8) fun (X113 : xS) => lt (xcp X113 (pA + 6) (pT + 6) 8) fun (X128 : xS) => lt (xcp X128 (pA + 7) (pT + 7) 8) fun (X143 : xS) => lt (mU X143 pT 14 (X143 pA 14)) fun (X151 : xS) => lt (mU X151 pT 15 (X151 pA 15)) fun (X159 : xS) => lt (x4_takeOver X159 (pT + 8) (pA + 8)) fun (X170 : xS) => lt (x4_takeOver X170 (pT + 10) (pA + 10)) fun (X181 : xS) => lt (mU X181 pT 18 (X181 pA 18)) fun (X189 : xS) => X189)
def x0_grow_L117 (pT : Nat) (X10x : xS) : Nat → xS
  | 0 => X10x
  | k117 + 1 => lt (x0_grow_L117 pT X10x k117) fun (X117 : xS) => (lt (mU X117 (pT + 1) k117 (p8_held (((X117 (pT + 1) k117) + ((X117 (pT + 3) k117) / 2)) - (X117 (pT + 2) k117)) 99999)) fun (X157 : xS) => X157)
theorem x0_grow_L117_0 (pT : Nat) (X10x : xS) : x0_grow_L117 pT X10x 0 = X10x := rfl
theorem x0_grow_L117_s (pT : Nat) (X10x : xS) (k117 : Nat) : x0_grow_L117 pT X10x (k117 + 1) = lt (x0_grow_L117 pT X10x k117) fun (X117 : xS) => (lt (mU X117 (pT + 1) k117 (p8_held (((X117 (pT + 1) k117) + ((X117 (pT + 3) k117) / 2)) - (X117 (pT + 2) k117)) 99999)) fun (X157 : xS) => X157) := rfl
def x0_grow_L74 (pT : Nat) (X10 : xS) (x33 : Int32) (y70 : Int32) : Nat → xS
  | 0 => X10
  | k74 + 1 => lt (x0_grow_L74 pT X10 x33 y70 k74) fun (X74 : xS) => (lt ((if (p8_has y70 (nI k74)) = 0 then X74 else (lt (mU X74 (pT + 3) k74 ((X74 (pT + 3) k74) + x33)) fun (X102 : xS) => X102)) : xS) fun (X103 : xS) => X103)
theorem x0_grow_L74_0 (pT : Nat) (X10 : xS) (x33 : Int32) (y70 : Int32) : x0_grow_L74 pT X10 x33 y70 0 = X10 := rfl
theorem x0_grow_L74_s (pT : Nat) (X10 : xS) (x33 : Int32) (y70 : Int32) (k74 : Nat) : x0_grow_L74 pT X10 x33 y70 (k74 + 1) = lt (x0_grow_L74 pT X10 x33 y70 k74) fun (X74 : xS) => (lt ((if (p8_has y70 (nI k74)) = 0 then X74 else (lt (mU X74 (pT + 3) k74 ((X74 (pT + 3) k74) + x33)) fun (X102 : xS) => X102)) : xS) fun (X103 : xS) => X103) := rfl
def x0_grow_L10 (tt : tT) (X : xS) (pT : Nat) (X5 : xS) : Nat → xS
  | 0 => X5
  | k10 + 1 => lt (x0_grow_L10 tt X pT X5 k10) fun (X10 : xS) => (lt (p1_countsOf (X10 (pT + 4) k10) (X10 (pT + 5) k10)) fun (x33 : Int32) => (lt ((if x33 = 0 then 0 else (x0_viewFrom X10 pT k10 (vn (X10 (pT + 6) k10)) (x0_sightIn tt X10 pT k10 (X10 pT 6) (X10 pT 7)) (X10 pT 4))) : Int32) fun (y70 : Int32) => (lt (x0_grow_L74 pT X10 x33 y70 (vn (X pT 0))) fun (X74x : xS) => X74x)))
theorem x0_grow_L10_0 (tt : tT) (X : xS) (pT : Nat) (X5 : xS) : x0_grow_L10 tt X pT X5 0 = X5 := rfl
theorem x0_grow_L10_s (tt : tT) (X : xS) (pT : Nat) (X5 : xS) (k10 : Nat) : x0_grow_L10 tt X pT X5 (k10 + 1) = lt (x0_grow_L10 tt X pT X5 k10) fun (X10 : xS) => (lt (p1_countsOf (X10 (pT + 4) k10) (X10 (pT + 5) k10)) fun (x33 : Int32) => (lt ((if x33 = 0 then 0 else (x0_viewFrom X10 pT k10 (vn (X10 (pT + 6) k10)) (x0_sightIn tt X10 pT k10 (X10 pT 6) (X10 pT 7)) (X10 pT 4))) : Int32) fun (y70 : Int32) => (lt (x0_grow_L74 pT X10 x33 y70 (vn (X pT 0))) fun (X74x : xS) => X74x))) := rfl
def x0_grow (tt : tT) (X : xS) (pT : Nat) : xS := (lt (x7_fill_53178 X (pT + 3) 10 0) fun (X5 : xS) => (lt (x0_grow_L10 tt X pT X5 (vn (X pT 9))) fun (X10x : xS) => (lt (x0_grow_L117 pT X10x (vn (X pT 0))) fun (X117x : xS) => X117x)))
theorem gw_fillL (X : xS) (q n : Nat) (v : Int32) (p : Nat) (h : p ≠ q) : x7_fill_53178_L5 X q v n p = X p := by
  induction n with
  | zero => rfl
  | succ n ih => rw [x7_fill_53178_L5_s, lt_i, lt_i, mU_row h, ih]
theorem gw_fill (X : xS) (q n : Nat) (v : Int32) (p : Nat) (h : p ≠ q) : x7_fill_53178 X q n v p = X p := by
  unfold x7_fill_53178
  rw [lt_i, gw_fillL _ _ _ _ _ h]
theorem gw_L74 (pT : Nat) (X : xS) (x y : Int32) (n p : Nat) (h : p ≠ pT + 3) : x0_grow_L74 pT X x y n p = X p := by
  induction n with
  | zero => rfl
  | succ n ih =>
    rw [x0_grow_L74_s]
    simp only [lt_i]
    by_cases c : p8_has y (nI n) = 0
    · rw [if_pos c, ih]
    · rw [if_neg c, mU_row h, ih]
theorem gw_L10 {tt : tT} (X : xS) (pT : Nat) (X5 : xS) (n p : Nat) (h : p ≠ pT + 3) : x0_grow_L10 tt X pT X5 n p = X5 p := by
  induction n with
  | zero => rfl
  | succ n ih =>
    rw [x0_grow_L10_s]
    simp only [lt_i]
    rw [gw_L74 _ _ _ _ _ _ h, ih]
theorem gw_L117 (pT : Nat) (X : xS) (n p : Nat) (h : p ≠ pT + 1) : x0_grow_L117 pT X n p = X p := by
  induction n with
  | zero => rfl
  | succ n ih =>
    rw [x0_grow_L117_s]
    simp only [lt_i]
    rw [mU_row h, ih]
theorem gw_all (tt : tT) (X : xS) (pT p : Nat) (h : p ≠ pT + 3) (h1 : p ≠ pT + 1) : x0_grow tt X pT p = X p := by
  unfold x0_grow
  simp only [lt_i]
  rw [gw_L117 _ _ _ _ h1, gw_L10 _ _ _ _ _ h, gw_fill _ _ _ _ _ h]
theorem gw_R {tt : tT} {X : xS} {pT : Nat} (hR : eR tt X pT) : eR tt (x0_grow tt X pT) pT ∧ x0_grow tt X pT pT 9 = X pT 9 := ⟨eR_of (gw_all tt X pT pT (by omega) (by omega)) (gw_all tt X pT (pT + 6) (by omega) (by omega)) hR, by rw [gw_all tt X pT pT (by omega) (by omega)]⟩
def x0_passHour_L6 (tt : tT) (pT : Nat) (X1 : xS) : Nat → xS
  | 0 => X1
  | k6 + 1 => lt (x0_passHour_L6 tt pT X1 k6) fun (X6 : xS) => (lt (if (x0_takesFrom tt X6 pT k6 (X6 (pT + 1) (vn (X6 (pT + 6) k6))) (X6 pT 7)) < (X6 (pT + 1) (vn (X6 (pT + 6) k6))) then (x0_takesFrom tt X6 pT k6 (X6 (pT + 1) (vn (X6 (pT + 6) k6))) (X6 pT 7)) else (X6 (pT + 1) (vn (X6 (pT + 6) k6)))) fun (x45 : Int32) => lt (mU X6 (pT + 1) (vn (X6 (pT + 6) k6)) ((X6 (pT + 1) (vn (X6 (pT + 6) k6))) - x45)) fun (X55 : xS) => lt (mU X55 pT 8 (p8_held ((X55 pT 8) + x45) 99999)) fun (X68 : xS) => lt (x0_goOn X68 pT k6) fun (X73 : xS) => X73)
theorem x0_passHour_L6_0 (tt : tT) (pT : Nat) (X1 : xS) : x0_passHour_L6 tt pT X1 0 = X1 := rfl
theorem x0_passHour_L6_s (tt : tT) (pT : Nat) (X1 : xS) (k6 : Nat) : x0_passHour_L6 tt pT X1 (k6 + 1) = lt (x0_passHour_L6 tt pT X1 k6) fun (X6 : xS) => (lt (if (x0_takesFrom tt X6 pT k6 (X6 (pT + 1) (vn (X6 (pT + 6) k6))) (X6 pT 7)) < (X6 (pT + 1) (vn (X6 (pT + 6) k6))) then (x0_takesFrom tt X6 pT k6 (X6 (pT + 1) (vn (X6 (pT + 6) k6))) (X6 pT 7)) else (X6 (pT + 1) (vn (X6 (pT + 6) k6)))) fun (x45 : Int32) => lt (mU X6 (pT + 1) (vn (X6 (pT + 6) k6)) ((X6 (pT + 1) (vn (X6 (pT + 6) k6))) - x45)) fun (X55 : xS) => lt (mU X55 pT 8 (p8_held ((X55 pT 8) + x45) 99999)) fun (X68 : xS) => lt (x0_goOn X68 pT k6) fun (X73 : xS) => X73) := rfl
def x0_passHour (tt : tT) (X : xS) (pT : Nat) : xS := (lt (x0_grow tt X pT) fun (X1 : xS) => (lt (x0_passHour_L6 tt pT X1 (vn (X pT 9))) fun (X6x : xS) => (lt (mU X6x pT 7 ((X6x pT 7) + 1)) fun (X89 : xS) => X89)))
theorem gO_0 (X : xS) (pT q p : Nat) (h6 : p ≠ pT + 6) (h7 : p ≠ pT + 7) : x0_goOn X pT q p = X p := by
  unfold x0_goOn
  simp only [lt_i]
  split
  · rw [mU_row h7]
  · rw [mU_row h6]
theorem gO_A {X : xS} {pT q : Nat} (hc : eC X pT) (hA : eA X pT) : eA (x0_goOn X pT q) pT := by
  have hc3 := hc.2.2
  have hc2 := hc.2.1
  unfold x0_goOn
  simp only [lt_i]
  by_cases c : p8_within (X (pT + 6) q + X (pT + 7) q) 0 (X pT 0 - 1) = 0
  · rw [if_pos c]
    intro j hj
    rw [mU_row (show pT + 6 ≠ pT + 7 by omega)]
    exact hA j hj
  · rw [if_neg c]
    have hn := in_natp (n := vn (X pT 0) - 1) c (nt_sub hc.1 (show (1 : Int32) = nI 1 from rfl) (by omega)) (by omega)
    intro j hj
    by_cases e : j = q
    · subst e
      rw [mU_eq]
      exact ⟨hn.1, by omega⟩
    · rw [mU_ne e]
      exact hA j hj
theorem gO_R {tt : tT} {X : xS} {pT q : Nat} (hR : eR tt X pT) : eR tt (x0_goOn X pT q) pT := by
  refine eR_f (fun k _ _ => by rw [gO_0 _ _ _ _ (by omega) (by omega)]) (gO_A hR.1 hR.2.2.1) hR
theorem ph_s {tt : tT} {X : xS} {pT j k q : Nat} {x y : Int32} (hk : k = 8) (hR : eR tt X pT) : eR tt (x0_goOn (mU (mU X (pT + 1) j x) pT k y) pT q) pT ∧ x0_goOn (mU (mU X (pT + 1) j x) pT k y) pT q pT 9 = X pT 9 := by
  subst hk
  refine ⟨gO_R (eR_f (X := X) (fun i _ h8 => by rw [mU_ne h8, mU_row (by omega)]) (fun i hi => ?_) hR), ?_⟩
  · rw [mU_row (by omega), mU_row (by omega)]
    exact hR.2.2.1 i hi
  · rw [gO_0 _ _ _ _ (by omega) (by omega), mU_ne (by decide), mU_row (by omega)]
theorem ph_L6 {tt : tT} {X X1 : xS} {pT : Nat} (h1 : eR tt X1 pT) (h9 : X1 pT 9 = X pT 9) (k : Nat) (hk : k ≤ vn (X pT 9)) : eR tt (x0_passHour_L6 tt pT X1 k) pT ∧ x0_passHour_L6 tt pT X1 k pT 9 = X pT 9 := by
  induction k with
  | zero => exact ⟨h1, h9⟩
  | succ k ih =>
    have ih := ih (by omega)
    rw [x0_passHour_L6_s]
    simp only [lt_i]
    exact ⟨(ph_s rfl ih.1).1, (ph_s rfl ih.1).2.trans ih.2⟩
/-! of 26.leading -/
def lR (tt : tT) (X : xS) : Prop := X 42 5 = 1 ∧ (X 42 6 = nI (vn (X 42 6)) ∧ vn (X 42 6) < 10) ∧ (X 42 7 = nI (vn (X 42 7)) ∧ vn (X 42 7) ≤ 3) ∧ (∀ q, q < 8 → X 46 q = nI (vn (X 46 q)) ∧ vn (X 46 q) < 10) ∧ eR tt X 1
/-- only the row of places has changed -/
def lP (tt : tT) (X Y : xS) : Prop := (∀ p, p ≠ 46 → Y p = X p) ∧ lR tt Y
theorem lR_of {tt : tT} {X Y : xS} (h42 : ∀ k, k ≠ 1 → Y 42 k = X 42 k) (h46 : ∀ q, q < 8 → Y 46 q = nI (vn (Y 46 q)) ∧ vn (Y 46 q) < 10) (h1 : Y 1 = X 1) (h7 : Y 7 = X 7) (h : lR tt X) : lR tt Y := by
  obtain ⟨a, b, c, _, e⟩ := h
  refine ⟨?_, ?_, ?_, h46, eR_of h1 h7 e⟩
  · rw [h42 5 (by decide)]; exact a
  · rw [h42 6 (by decide)]; exact b
  · rw [h42 7 (by decide)]; exact c
theorem lP_put {tt : tT} {X Y : xS} {a : Nat} {x : Int32} (h : lP tt X Y) (_ : a < 8) (hx : x = nI (vn x) ∧ vn x < 10) : lP tt X (mU Y 46 a x) := by
  refine ⟨fun p hp => by rw [mU_row hp]; exact h.1 p hp, lR_of (fun k _ => by rw [mU_row (by decide)]) (fun q hq => ?_) (by rw [mU_row (by decide)]) (by rw [mU_row (by decide)]) h.2⟩
  by_cases e : q = a
  · subst e; rw [mU_eq]; exact hx
  · rw [mU_ne e]; exact h.2.2.2.2.1 q hq
def x2_putDown (X : xS) (f : Nat) (q : Nat) : xS := (lt (mU X 43 f (nI q)) fun (X6 : xS) => lt (mU X6 43 (f + 1) (X6 46 q)) fun (X20 : xS) => X20)
def p2_index (time : Int32) (person : Int32) (start : Int32) : Int32 := ((((time * 8) + person) * 10) + start)
theorem ix_n (a b c : Nat) : p2_index (nI a) (nI b) (nI c) = nI ((a * 8 + b) * 10 + c) := by
  unfold p2_index
  rw [show (8 : Int32) = nI 8 from rfl, show (10 : Int32) = nI 10 from rfl, pk_mul, nI_add, pk_mul, nI_add]
theorem ix_p {a b : Nat} {x : Int32} (h : x = nI (vn x)) : p2_index (nI a) (nI b) x = nI ((a * 8 + b) * 10 + vn x) := by
  have e := ix_n a b (vn x)
  rw [← h] at e
  exact e
def x2_placeAfter_L17 (X : xS) (s : Nat) (x12 : Int32) : Nat → Int32 × Int32
  | 0 => (nI s, x12)
  | k17 + 1 => lt2 (x2_placeAfter_L17 X s x12 k17) fun (v4_17 : Int32) (v5_17 : Int32) => (lt2 ((if (p8_within (v4_17 + v5_17) 0 ((X 1 0) - 1)) = 0 then (lt (-v5_17) fun (x57 : Int32) => (x57, v4_17)) else (lt (v4_17 + v5_17) fun (x49 : Int32) => (v5_17, x49))) : Int32 × Int32) fun (z5_59 : Int32) (z4_59 : Int32) => (z4_59, z5_59))
theorem x2_placeAfter_L17_0 (X : xS) (s : Nat) (x12 : Int32) : x2_placeAfter_L17 X s x12 0 = (nI s, x12) := rfl
theorem x2_placeAfter_L17_s (X : xS) (s : Nat) (x12 : Int32) (k17 : Nat) : x2_placeAfter_L17 X s x12 (k17 + 1) = lt2 (x2_placeAfter_L17 X s x12 k17) fun (v4_17 : Int32) (v5_17 : Int32) => (lt2 ((if (p8_within (v4_17 + v5_17) 0 ((X 1 0) - 1)) = 0 then (lt (-v5_17) fun (x57 : Int32) => (x57, v4_17)) else (lt (v4_17 + v5_17) fun (x49 : Int32) => (v5_17, x49))) : Int32 × Int32) fun (z5_59 : Int32) (z4_59 : Int32) => (z4_59, z5_59)) := rfl
def x2_placeAfter (X : xS) (q : Nat) (s : Nat) (t : Nat) : Int32 := (lt (X 8 q) fun (x12 : Int32) => (lt2 (x2_placeAfter_L17 X s x12 t) fun (v4_17x : Int32) (v5_17x : Int32) => v4_17x))
theorem pa_L (X : xS) (s t : Nat) (x : Int32) (hC : eC X 1) (hs : s < vn (X 1 0)) : (x2_placeAfter_L17 X s x t).1 = nI (vn (x2_placeAfter_L17 X s x t).1) ∧ vn (x2_placeAfter_L17 X s x t).1 < vn (X 1 0) := by
  have hc2 := hC.2.1
  have hc3 := hC.2.2
  induction t with
  | zero =>
    rw [x2_placeAfter_L17_0]
    show nI s = nI (vn (nI s)) ∧ vn (nI s) < _
    rw [vn_nI (by omega)]
    exact ⟨rfl, hs⟩
  | succ t ih =>
    rw [x2_placeAfter_L17_s]
    simp only [lt2_i, lt_i]
    by_cases c : p8_within ((x2_placeAfter_L17 X s x t).1 + (x2_placeAfter_L17 X s x t).2) 0 (X 1 0 - 1) = 0
    · simp only [if_pos c]
      exact ih
    · simp only [if_neg c]
      have hn := in_natp (n := vn (X 1 0) - 1) c (nt_sub hC.1 (show (1 : Int32) = nI 1 from rfl) (by omega)) (by omega)
      exact ⟨hn.1, by omega⟩
theorem pa_lt {X : xS} {q s t : Nat} (hs : s < vn (X 1 0)) (hC : eC X 1) : x2_placeAfter X q s t = nI (vn (x2_placeAfter X q s t)) ∧ vn (x2_placeAfter X q s t) < vn (X 1 0) := by
  unfold x2_placeAfter
  simp only [lt2_i, lt_i]
  exact pa_L X s t _ hC hs
def x2_lookUpWalks_L61 (q : Nat) (x21 : Int32) (k24 : Nat) (X24 : xS) (x56 : Int32) : Nat → xS
  | 0 => X24
  | k61 + 1 => lt (x2_lookUpWalks_L61 q x21 k24 X24 x56 k61) fun (X61 : xS) => (lt (x0_viewFrom X61 1 q (vn (x2_placeAfter X61 q k61 k24)) x56 (X61 1 4)) fun (x102 : Int32) => (lt ((if (p8_has x102 (X61 42 6)) = 0 then 0 else x21) : Int32) fun (y132 : Int32) => (lt (mU X61 44 ((k24 * 8 + q) * 10 + k61) y132) fun (X132 : xS) => (lt ((if (nI (vn (x2_placeAfter X61 q k61 k24))) = (X132 42 6) then 1 else 0) : Int32) fun (y158 : Int32) => (lt (mU X132 45 ((k24 * 8 + q) * 10 + k61) y158) fun (X158 : xS) => X158)))))
theorem x2_lookUpWalks_L61_0 (q : Nat) (x21 : Int32) (k24 : Nat) (X24 : xS) (x56 : Int32) : x2_lookUpWalks_L61 q x21 k24 X24 x56 0 = X24 := rfl
theorem x2_lookUpWalks_L61_s (q : Nat) (x21 : Int32) (k24 : Nat) (X24 : xS) (x56 : Int32) (k61 : Nat) : x2_lookUpWalks_L61 q x21 k24 X24 x56 (k61 + 1) = lt (x2_lookUpWalks_L61 q x21 k24 X24 x56 k61) fun (X61 : xS) => (lt (x0_viewFrom X61 1 q (vn (x2_placeAfter X61 q k61 k24)) x56 (X61 1 4)) fun (x102 : Int32) => (lt ((if (p8_has x102 (X61 42 6)) = 0 then 0 else x21) : Int32) fun (y132 : Int32) => (lt (mU X61 44 ((k24 * 8 + q) * 10 + k61) y132) fun (X132 : xS) => (lt ((if (nI (vn (x2_placeAfter X61 q k61 k24))) = (X132 42 6) then 1 else 0) : Int32) fun (y158 : Int32) => (lt (mU X132 45 ((k24 * 8 + q) * 10 + k61) y158) fun (X158 : xS) => X158))))) := rfl
def x2_lookUpWalks_L24 (tt : tT) (X : xS) (q : Nat) (x21 : Int32) : Nat → xS
  | 0 => X
  | k24 + 1 => lt (x2_lookUpWalks_L24 tt X q x21 k24) fun (X24 : xS) => (lt (x0_sightIn tt X24 1 q (X24 1 6) ((X24 1 7) + (nI k24))) fun (x56 : Int32) => (lt (x2_lookUpWalks_L61 q x21 k24 X24 x56 (vn (X 1 0))) fun (X61x : xS) => X61x))
theorem x2_lookUpWalks_L24_0 (tt : tT) (X : xS) (q : Nat) (x21 : Int32) : x2_lookUpWalks_L24 tt X q x21 0 = X := rfl
theorem x2_lookUpWalks_L24_s (tt : tT) (X : xS) (q : Nat) (x21 : Int32) (k24 : Nat) : x2_lookUpWalks_L24 tt X q x21 (k24 + 1) = lt (x2_lookUpWalks_L24 tt X q x21 k24) fun (X24 : xS) => (lt (x0_sightIn tt X24 1 q (X24 1 6) ((X24 1 7) + (nI k24))) fun (x56 : Int32) => (lt (x2_lookUpWalks_L61 q x21 k24 X24 x56 (vn (X 1 0))) fun (X61x : xS) => X61x)) := rfl
def x2_lookUpWalks (tt : tT) (X : xS) (q : Nat) : xS := (lt (p1_countsOf (X 5 q) (X 6 q)) fun (x21 : Int32) => (lt (x2_lookUpWalks_L24 tt X q x21 (vn (X 42 7))) fun (X24x : xS) => X24x))
def x2_harvest_L94 (tt : tT) (X : xS) (k15 : Nat) (x90 : Int32) : Nat → Int32
  | 0 => x90
  | k94 + 1 => lt (x2_harvest_L94 tt X k15 x90 k94) fun (v1_94 : Int32) => (lt ((if (X 45 ((k15 * 8 + k94) * 10 + vn (X 46 k94))) = 0 then v1_94 else (lt (v1_94 - (if (x0_takesFrom tt X 1 k94 v1_94 ((X 1 7) + (nI k15))) < v1_94 then (x0_takesFrom tt X 1 k94 v1_94 ((X 1 7) + (nI k15))) else v1_94)) fun (x152 : Int32) => x152)) : Int32) fun (z1_153 : Int32) => z1_153)
theorem x2_harvest_L94_0 (tt : tT) (X : xS) (k15 : Nat) (x90 : Int32) : x2_harvest_L94 tt X k15 x90 0 = x90 := rfl
theorem x2_harvest_L94_s (tt : tT) (X : xS) (k15 : Nat) (x90 : Int32) (k94 : Nat) : x2_harvest_L94 tt X k15 x90 (k94 + 1) = lt (x2_harvest_L94 tt X k15 x90 k94) fun (v1_94 : Int32) => (lt ((if (X 45 ((k15 * 8 + k94) * 10 + vn (X 46 k94))) = 0 then v1_94 else (lt (v1_94 - (if (x0_takesFrom tt X 1 k94 v1_94 ((X 1 7) + (nI k15))) < v1_94 then (x0_takesFrom tt X 1 k94 v1_94 ((X 1 7) + (nI k15))) else v1_94)) fun (x152 : Int32) => x152)) : Int32) fun (z1_153 : Int32) => z1_153) := rfl
def x2_harvest_L28 (X : xS) (k15 : Nat) : Nat → Int32
  | 0 => 0
  | k28 + 1 => lt (x2_harvest_L28 X k15 k28) fun (v3_28 : Int32) => (lt (v3_28 + (X 44 ((k15 * 8 + k28) * 10 + vn (X 46 k28)))) fun (x60 : Int32) => x60)
theorem x2_harvest_L28_0 (X : xS) (k15 : Nat) : x2_harvest_L28 X k15 0 = 0 := rfl
theorem x2_harvest_L28_s (X : xS) (k15 : Nat) (k28 : Nat) : x2_harvest_L28 X k15 (k28 + 1) = lt (x2_harvest_L28 X k15 k28) fun (v3_28 : Int32) => (lt (v3_28 + (X 44 ((k15 * 8 + k28) * 10 + vn (X 46 k28)))) fun (x60 : Int32) => x60) := rfl
def x2_harvest_L15 (tt : tT) (X : xS) (x12 : Int32) : Nat → Int32
  | 0 => x12
  | k15 + 1 => lt (x2_harvest_L15 tt X x12 k15) fun (v1_15 : Int32) => (lt (x2_harvest_L28 X k15 (vn (X 1 9))) fun (v3_28x : Int32) => (lt (p8_held ((v1_15 + (v3_28x / 2)) - (X 3 (vn (X 42 6)))) 99999) fun (x90 : Int32) => (lt (x2_harvest_L94 tt X k15 x90 (vn (X 1 9))) fun (v1_94x : Int32) => v1_94x)))
theorem x2_harvest_L15_0 (tt : tT) (X : xS) (x12 : Int32) : x2_harvest_L15 tt X x12 0 = x12 := rfl
theorem x2_harvest_L15_s (tt : tT) (X : xS) (x12 : Int32) (k15 : Nat) : x2_harvest_L15 tt X x12 (k15 + 1) = lt (x2_harvest_L15 tt X x12 k15) fun (v1_15 : Int32) => (lt (x2_harvest_L28 X k15 (vn (X 1 9))) fun (v3_28x : Int32) => (lt (p8_held ((v1_15 + (v3_28x / 2)) - (X 3 (vn (X 42 6)))) 99999) fun (x90 : Int32) => (lt (x2_harvest_L94 tt X k15 x90 (vn (X 1 9))) fun (v1_94x : Int32) => v1_94x))) := rfl
def x2_harvest (tt : tT) (X : xS) : Int32 := (lt (X 2 (vn (X 42 6))) fun (x12 : Int32) => (lt (x2_harvest_L15 tt X x12 (vn (X 42 7))) fun (v1_15x : Int32) => v1_15x))
def x2_mostHarvest_L46 (X : xS) (k15 : Nat) (k28 : Nat) : Nat → Int32
  | 0 => 0
  | k46 + 1 => lt (x2_mostHarvest_L46 X k15 k28 k46) fun (v5_46 : Int32) => (lt (if v5_46 < (X 44 ((k15 * 8 + k28) * 10 + k46)) then (X 44 ((k15 * 8 + k28) * 10 + k46)) else v5_46) fun (x76 : Int32) => x76)
theorem x2_mostHarvest_L46_0 (X : xS) (k15 : Nat) (k28 : Nat) : x2_mostHarvest_L46 X k15 k28 0 = 0 := rfl
theorem x2_mostHarvest_L46_s (X : xS) (k15 : Nat) (k28 : Nat) (k46 : Nat) : x2_mostHarvest_L46 X k15 k28 (k46 + 1) = lt (x2_mostHarvest_L46 X k15 k28 k46) fun (v5_46 : Int32) => (lt (if v5_46 < (X 44 ((k15 * 8 + k28) * 10 + k46)) then (X 44 ((k15 * 8 + k28) * 10 + k46)) else v5_46) fun (x76 : Int32) => x76) := rfl
def x2_mostHarvest_L28 (X : xS) (k15 : Nat) : Nat → Int32
  | 0 => 0
  | k28 + 1 => lt (x2_mostHarvest_L28 X k15 k28) fun (v3_28 : Int32) => (lt (x2_mostHarvest_L46 X k15 k28 (vn (X 1 0))) fun (v5_46x : Int32) => (lt (v3_28 + v5_46x) fun (x88 : Int32) => x88))
theorem x2_mostHarvest_L28_0 (X : xS) (k15 : Nat) : x2_mostHarvest_L28 X k15 0 = 0 := rfl
theorem x2_mostHarvest_L28_s (X : xS) (k15 : Nat) (k28 : Nat) : x2_mostHarvest_L28 X k15 (k28 + 1) = lt (x2_mostHarvest_L28 X k15 k28) fun (v3_28 : Int32) => (lt (x2_mostHarvest_L46 X k15 k28 (vn (X 1 0))) fun (v5_46x : Int32) => (lt (v3_28 + v5_46x) fun (x88 : Int32) => x88)) := rfl
def x2_mostHarvest_L15 (X : xS) (x12 : Int32) : Nat → Int32
  | 0 => x12
  | k15 + 1 => lt (x2_mostHarvest_L15 X x12 k15) fun (v1_15 : Int32) => (lt (x2_mostHarvest_L28 X k15 (vn (X 1 9))) fun (v3_28x : Int32) => (lt (p8_held ((v1_15 + (v3_28x / 2)) - (X 3 (vn (X 42 6)))) 99999) fun (x118 : Int32) => x118))
theorem x2_mostHarvest_L15_0 (X : xS) (x12 : Int32) : x2_mostHarvest_L15 X x12 0 = x12 := rfl
theorem x2_mostHarvest_L15_s (X : xS) (x12 : Int32) (k15 : Nat) : x2_mostHarvest_L15 X x12 (k15 + 1) = lt (x2_mostHarvest_L15 X x12 k15) fun (v1_15 : Int32) => (lt (x2_mostHarvest_L28 X k15 (vn (X 1 9))) fun (v3_28x : Int32) => (lt (p8_held ((v1_15 + (v3_28x / 2)) - (X 3 (vn (X 42 6)))) 99999) fun (x118 : Int32) => x118)) := rfl
def x2_mostHarvest (X : xS) : Int32 := (lt (X 2 (vn (X 42 6))) fun (x12 : Int32) => (lt (x2_mostHarvest_L15 X x12 (vn (X 42 7))) fun (v1_15x : Int32) => v1_15x))
def x2_isFoundByOne_L15 (tt : tT) (v : Int32) (ka : Nat) (K15 : Nat → xS → Int32 × xS) : Nat → Nat → xS → Int32 × xS
  | 0, kb, X15 => K15 kb X15
  | f15 + 1, kb, X15 => (if (X15 1 0) ≤ (nI kb) then (K15 kb X15) else (lt (mU X15 46 ka (nI kb)) fun (X32 : xS) => (if (nI kb) = (X32 7 ka) then (x2_isFoundByOne_L15 tt v ka K15 f15 (kb + 1) X32) else (if (x2_harvest tt X32) < v then (x2_isFoundByOne_L15 tt v ka K15 f15 (kb + 1) X32) else (lt (x2_putDown X32 0 ka) fun (X57 : xS) => lt (mU X57 42 1 1) fun (X62 : xS) => (1, X62))))))
theorem x2_isFoundByOne_L15_s (tt : tT) (v : Int32) (ka : Nat) (K15 : Nat → xS → Int32 × xS) (f15 : Nat) (kb : Nat) (X15 : xS) : x2_isFoundByOne_L15 tt v ka K15 (f15 + 1) kb X15 = (if (X15 1 0) ≤ (nI kb) then (K15 kb X15) else (lt (mU X15 46 ka (nI kb)) fun (X32 : xS) => (if (nI kb) = (X32 7 ka) then (x2_isFoundByOne_L15 tt v ka K15 f15 (kb + 1) X32) else (if (x2_harvest tt X32) < v then (x2_isFoundByOne_L15 tt v ka K15 f15 (kb + 1) X32) else (lt (x2_putDown X32 0 ka) fun (X57 : xS) => lt (mU X57 42 1 1) fun (X62 : xS) => (1, X62)))))) := rfl
def x2_isFoundByOne_L2 (tt : tT) (v : Int32) (K2 : Nat → xS → Int32 × xS) : Nat → Nat → xS → Int32 × xS
  | 0, ka, X2 => K2 ka X2
  | f2 + 1, ka, X2 => (if (X2 1 9) ≤ (nI ka) then (K2 ka X2) else (x2_isFoundByOne_L15 tt v ka (fun (kbx : Nat) (X15x : xS) => (lt (mU X15x 46 ka (X15x 7 ka)) fun (X87 : xS) => (x2_isFoundByOne_L2 tt v K2 f2 (ka + 1) X87))) 11 0 X2))
theorem x2_isFoundByOne_L2_s (tt : tT) (v : Int32) (K2 : Nat → xS → Int32 × xS) (f2 : Nat) (ka : Nat) (X2 : xS) : x2_isFoundByOne_L2 tt v K2 (f2 + 1) ka X2 = (if (X2 1 9) ≤ (nI ka) then (K2 ka X2) else (x2_isFoundByOne_L15 tt v ka (fun (kbx : Nat) (X15x : xS) => (lt (mU X15x 46 ka (X15x 7 ka)) fun (X87 : xS) => (x2_isFoundByOne_L2 tt v K2 f2 (ka + 1) X87))) 11 0 X2)) := rfl
def x2_isFoundByOne (tt : tT) (X : xS) (v : Int32) : Int32 × xS := (x2_isFoundByOne_L2 tt v (fun (kax : Nat) (X2x : xS) => (0, X2x)) 9 0 X)
def x2_isFoundByTwo_L66 (tt : tT) (v : Int32) (ka : Nat) (kc : Nat) (K66 : Nat → xS → Int32 × xS) : Nat → Nat → xS → Int32 × xS
  | 0, kd, X66 => K66 kd X66
  | f66 + 1, kd, X66 => (if (X66 1 0) ≤ (nI kd) then (K66 kd X66) else (lt (mU X66 46 kc (nI kd)) fun (X86 : xS) => (if (nI kd) = (X86 7 kc) then (x2_isFoundByTwo_L66 tt v ka kc K66 f66 (kd + 1) X86) else (if (x2_harvest tt X86) < v then (x2_isFoundByTwo_L66 tt v ka kc K66 f66 (kd + 1) X86) else (lt (x2_putDown X86 0 ka) fun (X113 : xS) => lt (x2_putDown X113 2 kc) fun (X120 : xS) => lt (mU X120 42 1 2) fun (X125 : xS) => (1, X125))))))
theorem x2_isFoundByTwo_L66_s (tt : tT) (v : Int32) (ka : Nat) (kc : Nat) (K66 : Nat → xS → Int32 × xS) (f66 : Nat) (kd : Nat) (X66 : xS) : x2_isFoundByTwo_L66 tt v ka kc K66 (f66 + 1) kd X66 = (if (X66 1 0) ≤ (nI kd) then (K66 kd X66) else (lt (mU X66 46 kc (nI kd)) fun (X86 : xS) => (if (nI kd) = (X86 7 kc) then (x2_isFoundByTwo_L66 tt v ka kc K66 f66 (kd + 1) X86) else (if (x2_harvest tt X86) < v then (x2_isFoundByTwo_L66 tt v ka kc K66 f66 (kd + 1) X86) else (lt (x2_putDown X86 0 ka) fun (X113 : xS) => lt (x2_putDown X113 2 kc) fun (X120 : xS) => lt (mU X120 42 1 2) fun (X125 : xS) => (1, X125)))))) := rfl
def x2_isFoundByTwo_L38 (tt : tT) (v : Int32) (ka : Nat) (kb : Nat) (K38 : Nat → xS → Int32 × xS) : Nat → Nat → xS → Int32 × xS
  | 0, kc, X38 => K38 kc X38
  | f38 + 1, kc, X38 => (if (X38 1 9) ≤ (nI kc) then (K38 kc X38) else (if (nI kb) = (X38 7 ka) then (K38 kc X38) else (x2_isFoundByTwo_L66 tt v ka kc (fun (kdx : Nat) (X66x : xS) => (lt (mU X66x 46 kc (X66x 7 kc)) fun (X152 : xS) => (x2_isFoundByTwo_L38 tt v ka kb K38 f38 (kc + 1) X152))) 11 0 X38)))
theorem x2_isFoundByTwo_L38_s (tt : tT) (v : Int32) (ka : Nat) (kb : Nat) (K38 : Nat → xS → Int32 × xS) (f38 : Nat) (kc : Nat) (X38 : xS) : x2_isFoundByTwo_L38 tt v ka kb K38 (f38 + 1) kc X38 = (if (X38 1 9) ≤ (nI kc) then (K38 kc X38) else (if (nI kb) = (X38 7 ka) then (K38 kc X38) else (x2_isFoundByTwo_L66 tt v ka kc (fun (kdx : Nat) (X66x : xS) => (lt (mU X66x 46 kc (X66x 7 kc)) fun (X152 : xS) => (x2_isFoundByTwo_L38 tt v ka kb K38 f38 (kc + 1) X152))) 11 0 X38))) := rfl
def x2_isFoundByTwo_L15 (tt : tT) (v : Int32) (ka : Nat) (K15 : Nat → xS → Int32 × xS) : Nat → Nat → xS → Int32 × xS
  | 0, kb, X15 => K15 kb X15
  | f15 + 1, kb, X15 => (if (X15 1 0) ≤ (nI kb) then (K15 kb X15) else (lt (mU X15 46 ka (nI kb)) fun (X32 : xS) => (x2_isFoundByTwo_L38 tt v ka kb (fun (kcx : Nat) (X38x : xS) => (x2_isFoundByTwo_L15 tt v ka K15 f15 (kb + 1) X38x)) 9 (ka + 1) X32)))
theorem x2_isFoundByTwo_L15_s (tt : tT) (v : Int32) (ka : Nat) (K15 : Nat → xS → Int32 × xS) (f15 : Nat) (kb : Nat) (X15 : xS) : x2_isFoundByTwo_L15 tt v ka K15 (f15 + 1) kb X15 = (if (X15 1 0) ≤ (nI kb) then (K15 kb X15) else (lt (mU X15 46 ka (nI kb)) fun (X32 : xS) => (x2_isFoundByTwo_L38 tt v ka kb (fun (kcx : Nat) (X38x : xS) => (x2_isFoundByTwo_L15 tt v ka K15 f15 (kb + 1) X38x)) 9 (ka + 1) X32))) := rfl
def x2_isFoundByTwo_L2 (tt : tT) (v : Int32) (K2 : Nat → xS → Int32 × xS) : Nat → Nat → xS → Int32 × xS
  | 0, ka, X2 => K2 ka X2
  | f2 + 1, ka, X2 => (if (X2 1 9) ≤ (nI ka) then (K2 ka X2) else (x2_isFoundByTwo_L15 tt v ka (fun (kbx : Nat) (X15x : xS) => (lt (mU X15x 46 ka (X15x 7 ka)) fun (X179 : xS) => (x2_isFoundByTwo_L2 tt v K2 f2 (ka + 1) X179))) 11 0 X2))
theorem x2_isFoundByTwo_L2_s (tt : tT) (v : Int32) (K2 : Nat → xS → Int32 × xS) (f2 : Nat) (ka : Nat) (X2 : xS) : x2_isFoundByTwo_L2 tt v K2 (f2 + 1) ka X2 = (if (X2 1 9) ≤ (nI ka) then (K2 ka X2) else (x2_isFoundByTwo_L15 tt v ka (fun (kbx : Nat) (X15x : xS) => (lt (mU X15x 46 ka (X15x 7 ka)) fun (X179 : xS) => (x2_isFoundByTwo_L2 tt v K2 f2 (ka + 1) X179))) 11 0 X2)) := rfl
def x2_isFoundByTwo (tt : tT) (X : xS) (v : Int32) : Int32 × xS := (x2_isFoundByTwo_L2 tt v (fun (kax : Nat) (X2x : xS) => (0, X2x)) 9 0 X)
/-- what looking for one or two leaves of the world -/
def lQ (tt : tT) (X Y : xS) : Prop := (∀ p, p ≠ 42 → p ≠ 43 → p ≠ 46 → Y p = X p) ∧ lR tt Y
theorem lQ_of {tt : tT} {X Y : xS} (h : lP tt X Y) : lQ tt X Y := ⟨fun p _ _ h6 => h.1 p h6, h.2⟩
theorem pd_row (X : xS) (f q p : Nat) (h : p ≠ 43) : x2_putDown X f q p = X p := by
  unfold x2_putDown
  simp only [lt_i]
  rw [mU_row h, mU_row h]
theorem lQ_pd {tt : tT} {X Y : xS} {f q : Nat} (h : lQ tt X Y) : lQ tt X (x2_putDown Y f q) :=
  ⟨fun p h2 h3 h6 => (pd_row _ _ _ _ h3).trans (h.1 p h2 h3 h6), lR_of (fun k _ => by rw [pd_row _ _ _ _ (by decide)]) (fun q hq => by rw [pd_row _ _ _ _ (by decide)]; exact h.2.2.2.2.1 q hq) (pd_row _ _ _ _ (by decide)) (pd_row _ _ _ _ (by decide)) h.2⟩
theorem lQ_mv {tt : tT} {X Y : xS} {x : Int32} (h : lQ tt X Y) : lQ tt X (mU Y 42 1 x) :=
  ⟨fun p h2 h3 h6 => (mU_row h2).trans (h.1 p h2 h3 h6), lR_of (fun k hk => mU_ne hk) (fun q hq => by rw [mU_row (by decide)]; exact h.2.2.2.2.1 q hq) (mU_row (by decide)) (mU_row (by decide)) h.2⟩
theorem lP_c {tt : tT} {X Y : xS} (h : lP tt X Y) {k : Nat} (hk : k < 2 ^ 31) (c : ¬ Y 1 0 ≤ nI k) : k < 10 := Nat.lt_of_lt_of_le (lp_lt h.2.2.2.2.2.1.1 c (by have := h.2.2.2.2.2.1.2.2; omega) hk) h.2.2.2.2.2.1.2.2
theorem lP_p {tt : tT} {X Y : xS} (h : lP tt X Y) {k : Nat} (hk : k < 2 ^ 31) (c : ¬ Y 1 9 ≤ nI k) : k < 8 := Nat.lt_of_lt_of_le (lp_lt h.2.2.2.2.2.2.1.1 c (by have := h.2.2.2.2.2.2.1.2; omega) hk) h.2.2.2.2.2.2.1.2
theorem lP_nI {tt : tT} {X Y : xS} {a k : Nat} (h : lP tt X Y) (ha : a < 8) (hk : k < 10) : lP tt X (mU Y 46 a (nI k)) := lP_put h ha ⟨by rw [vn_nI (by omega)], by rw [vn_nI (by omega)]; exact hk⟩
theorem lP_at {tt : tT} {X Y : xS} {a : Nat} (h : lP tt X Y) (ha : a < 8) : lP tt X (mU Y 46 a (Y 7 a)) := lP_put h ha (h.2.2.2.2.2.2.2.1 a ha)
theorem f1_L15 {tt : tT} {X : xS} {v : Int32} {ka : Nat} (ha : ka < 8) {K : Nat → xS → Int32 × xS} (hK : ∀ k Y, lP tt X Y → lQ tt X (K k Y).2) : ∀ (f kb : Nat) (Y : xS), kb ≤ 10 → lP tt X Y → lQ tt X (x2_isFoundByOne_L15 tt v ka K f kb Y).2 := by
  intro f
  induction f with
  | zero => intro kb Y _ h; exact hK kb Y h
  | succ f ih =>
    intro kb Y hb h
    rw [x2_isFoundByOne_L15_s]
    simp only [lt_i]
    by_cases c : Y 1 0 ≤ nI kb
    · rw [if_pos c]; exact hK kb Y h
    · rw [if_neg c]
      have hk := lP_c h (by omega) c
      have h2 := lP_nI h ha hk
      split
      · exact ih _ _ (by omega) h2
      · split
        · exact ih _ _ (by omega) h2
        · exact lQ_mv (lQ_pd (lQ_of h2))
theorem f1_L2 {tt : tT} {X : xS} {v : Int32} {K : Nat → xS → Int32 × xS} (hK : ∀ k Y, lP tt X Y → lQ tt X (K k Y).2) : ∀ (f ka : Nat) (Y : xS), ka ≤ 8 → lP tt X Y → lQ tt X (x2_isFoundByOne_L2 tt v K f ka Y).2 := by
  intro f
  induction f with
  | zero => intro ka Y _ h; exact hK ka Y h
  | succ f ih =>
    intro ka Y hb h
    rw [x2_isFoundByOne_L2_s]
    simp only [lt_i]
    by_cases c : Y 1 9 ≤ nI ka
    · rw [if_pos c]; exact hK ka Y h
    · rw [if_neg c]
      have ha := lP_p h (by omega) c
      exact f1_L15 ha (fun k Z hZ => ih _ _ (by omega) (lP_at hZ ha)) _ _ _ (by omega) h
theorem f1_Q {tt : tT} {X : xS} {v : Int32} (h : lR tt X) : lQ tt X (x2_isFoundByOne tt X v).2 := f1_L2 (fun _ _ h => lQ_of h) _ _ _ (by omega) ⟨fun _ _ => rfl, h⟩
theorem f2_L66 {tt : tT} {X : xS} {v : Int32} {ka kc : Nat} (hc : kc < 8) {K : Nat → xS → Int32 × xS} (hK : ∀ k Y, lP tt X Y → lQ tt X (K k Y).2) : ∀ (f kd : Nat) (Y : xS), kd ≤ 10 → lP tt X Y → lQ tt X (x2_isFoundByTwo_L66 tt v ka kc K f kd Y).2 := by
  intro f
  induction f with
  | zero => intro kd Y _ h; exact hK kd Y h
  | succ f ih =>
    intro kd Y hb h
    rw [x2_isFoundByTwo_L66_s]
    simp only [lt_i]
    by_cases c : Y 1 0 ≤ nI kd
    · rw [if_pos c]; exact hK kd Y h
    · rw [if_neg c]
      have hk := lP_c h (by omega) c
      have h2 := lP_nI h hc hk
      split
      · exact ih _ _ (by omega) h2
      · split
        · exact ih _ _ (by omega) h2
        · exact lQ_mv (lQ_pd (lQ_pd (lQ_of h2)))
theorem f2_L38 {tt : tT} {X : xS} {v : Int32} {ka kb : Nat} {K : Nat → xS → Int32 × xS} (hK : ∀ k Y, lP tt X Y → lQ tt X (K k Y).2) : ∀ (f kc : Nat) (Y : xS), kc ≤ 9 → lP tt X Y → lQ tt X (x2_isFoundByTwo_L38 tt v ka kb K f kc Y).2 := by
  intro f
  induction f with
  | zero => intro kc Y _ h; exact hK kc Y h
  | succ f ih =>
    intro kc Y hb h
    rw [x2_isFoundByTwo_L38_s]
    simp only [lt_i]
    by_cases c : Y 1 9 ≤ nI kc
    · rw [if_pos c]; exact hK kc Y h
    · rw [if_neg c]
      have hc := lP_p h (by omega) c
      split
      · exact hK kc Y h
      · exact f2_L66 hc (fun k Z hZ => ih _ _ (by omega) (lP_at hZ hc)) _ _ _ (by omega) h
theorem f2_L15 {tt : tT} {X : xS} {v : Int32} {ka : Nat} (ha : ka < 8) {K : Nat → xS → Int32 × xS} (hK : ∀ k Y, lP tt X Y → lQ tt X (K k Y).2) : ∀ (f kb : Nat) (Y : xS), kb ≤ 10 → lP tt X Y → lQ tt X (x2_isFoundByTwo_L15 tt v ka K f kb Y).2 := by
  intro f
  induction f with
  | zero => intro kb Y _ h; exact hK kb Y h
  | succ f ih =>
    intro kb Y hb h
    rw [x2_isFoundByTwo_L15_s]
    simp only [lt_i]
    by_cases c : Y 1 0 ≤ nI kb
    · rw [if_pos c]; exact hK kb Y h
    · rw [if_neg c]
      have hk := lP_c h (by omega) c
      exact f2_L38 (fun k Z hZ => ih _ _ (by omega) hZ) _ _ _ (by omega) (lP_nI h ha hk)
theorem f2_L2 {tt : tT} {X : xS} {v : Int32} {K : Nat → xS → Int32 × xS} (hK : ∀ k Y, lP tt X Y → lQ tt X (K k Y).2) : ∀ (f ka : Nat) (Y : xS), ka ≤ 8 → lP tt X Y → lQ tt X (x2_isFoundByTwo_L2 tt v K f ka Y).2 := by
  intro f
  induction f with
  | zero => intro ka Y _ h; exact hK ka Y h
  | succ f ih =>
    intro ka Y hb h
    rw [x2_isFoundByTwo_L2_s]
    simp only [lt_i]
    by_cases c : Y 1 9 ≤ nI ka
    · rw [if_pos c]; exact hK ka Y h
    · rw [if_neg c]
      have ha := lP_p h (by omega) c
      exact f2_L15 ha (fun k Z hZ => ih _ _ (by omega) (lP_at hZ ha)) _ _ _ (by omega) h
theorem f2_Q {tt : tT} {X : xS} {v : Int32} (h : lR tt X) : lQ tt X (x2_isFoundByTwo tt X v).2 := f2_L2 (fun _ _ h => lQ_of h) _ _ _ (by omega) ⟨fun _ _ => rfl, h⟩
theorem f1_01 {tt : tT} {X X2 : xS} {v x : Int32} (h : (x, X2) = x2_isFoundByOne tt X v) (hR : lR tt X) : lR tt X2 := by
  have e := f1_Q (v := v) hR
  rw [← h] at e
  exact e.2
def x2_isFound_L36 (tt : tT) (X30 : xS) : Nat → xS
  | 0 => X30
  | k36 + 1 => lt (x2_isFound_L36 tt X30 k36) fun (X36 : xS) => (lt (mU X36 46 k36 (X36 7 k36)) fun (X64 : xS) => lt (x2_lookUpWalks tt X64 k36) fun (X68 : xS) => X68)
theorem x2_isFound_L36_0 (tt : tT) (X30 : xS) : x2_isFound_L36 tt X30 0 = X30 := rfl
theorem x2_isFound_L36_s (tt : tT) (X30 : xS) (k36 : Nat) : x2_isFound_L36 tt X30 (k36 + 1) = lt (x2_isFound_L36 tt X30 k36) fun (X36 : xS) => (lt (mU X36 46 k36 (X36 7 k36)) fun (X64 : xS) => lt (x2_lookUpWalks tt X64 k36) fun (X68 : xS) => X68) := rfl
def x2_isFound (tt : tT) (X : xS) (c : Nat) (v : Int32) (nn : Nat) : Int32 × xS := (lt (mU X 42 5 1) fun (X2 : xS) => lt (mU X2 42 6 (nI c)) fun (X7 : xS) => lt (mU X7 42 7 (p8_held (nI nn) 3)) fun (X17 : xS) => lt (x7_fill_53178 X17 43 4 (-1)) fun (X25 : xS) => lt (mU X25 42 1 0) fun (X30 : xS) => (lt (x2_isFound_L36 tt X30 (vn (X 1 9))) fun (X36x : xS) => (if (x2_harvest tt X36x) < v then (if (x2_mostHarvest X36x) < v then (0, X36x) else (lt2 (x2_isFoundByOne tt X36x v) fun (x97 : Int32) (X97 : xS) => (if x97 = 0 then (lt2 (x2_isFoundByTwo tt X97 v) fun (x105 : Int32) (X105 : xS) => (if x105 = 0 then (0, X105) else (1, X105))) else (1, X97)))) else (1, X36x))))
/-- looking up has changed Leading's own places alone -/
def lD (tt : tT) (X Y : xS) : Prop := (∀ p, p ≠ 42 → p ≠ 43 → p ≠ 44 → p ≠ 45 → p ≠ 46 → Y p = X p) ∧ lR tt Y
theorem ld_0 {tt : tT} {X : xS} {c nn : Nat} (hR : eR tt X 1) (hc : c < 10) (hn : nn ≤ 3) (hpl : ∀ q, q < 8 → X 46 q = nI (vn (X 46 q)) ∧ vn (X 46 q) < 10) : lD tt X (mU (x7_fill_53178 (mU (mU (mU X 42 5 1) 42 6 (nI c)) 42 7 (p8_held (nI nn) 3)) 43 4 (-1)) 42 1 0) := by
  have hh : p8_held (nI nn) 3 = nI nn := by
    unfold p8_held
    rw [if_pos (nI_pos' (by omega)), if_pos (show nI nn ≤ 3 from nI_le (b := 3) hn (by decide))]
  have r : ∀ p, p ≠ 42 → p ≠ 43 → mU (x7_fill_53178 (mU (mU (mU X 42 5 1) 42 6 (nI c)) 42 7 (p8_held (nI nn) 3)) 43 4 (-1)) 42 1 0 p = X p := by
    intro p h2 h3
    rw [mU_row h2, gw_fill _ _ _ _ _ h3, mU_row h2, mU_row h2, mU_row h2]
  refine ⟨fun p h2 h3 _ _ _ => r p h2 h3, ?_, ?_, ?_, ?_, ?_⟩
  · rw [mU_ne (by decide), gw_fill _ _ _ _ _ (by decide), mU_ne (by decide), mU_ne (by decide), mU_eq]
  · rw [mU_ne (by decide), gw_fill _ _ _ _ _ (by decide), mU_ne (by decide), mU_eq, vn_nI (by omega)]
    exact ⟨rfl, hc⟩
  · rw [mU_ne (by decide), gw_fill _ _ _ _ _ (by decide), mU_eq, hh, vn_nI (by omega)]
    exact ⟨rfl, hn⟩
  · intro q hq
    rw [r 46 (by decide) (by decide)]
    exact hpl q hq
  · exact eR_of (r 1 (by decide) (by decide)) (r 7 (by decide) (by decide)) hR
