/-! of 06.ref3 -/
def fu5 : Nat := 5
def fu51 : Nat := 51
/-- the reader reads text u of E bytes; d more may be opened -/
def pI (E u d : Nat) (S : sS) : Prop := (S 7 = nI u ∧ u < 2) ∧ (S 9 = nI E ∧ E ≤ 50) ∧ (S 8 = nI (vn (S 8)) ∧ vn (S 8) ≤ E) ∧ (S 10 = nI (5 - d) ∧ d ≤ 5) ∧ (S 14 = 0 ∨ S 14 = 1)
theorem pI_8 {E u d : Nat} {S : sS} (hI : pI E u d S) : S 8 = nI (vn (S 8)) ∧ vn (S 8) ≤ 50 := ⟨hI.2.2.1.1, Nat.le_trans hI.2.2.1.2 hI.2.1.2⟩
theorem vn8_lt {E u d : Nat} {S : sS} (hI : pI E u d S) : vn (S 8) < 2 ^ 31 := Nat.lt_of_le_of_lt (pI_8 hI).2 (by decide)
theorem pI_7 {E u d : Nat} {S : sS} (hI : pI E u d S) : S 7 = nI (vn (S 7)) ∧ vn (S 7) < 2 := by
  have h := hI.1.2
  rw [hI.1.1, vn_nI (by omega)]
  exact ⟨rfl, h⟩
theorem pI_10 {E u : Nat} {S : sS} (hI : pI E u 0 S) : S 10 = 5 := hI.2.2.2.1.1
theorem pI_10S {E u d : Nat} {S : sS} (hI : pI E u (d + 1) S) : ¬ S 10 = 5 := by
  have h := hI.2.2.2.1
  rw [h.1, show (5 : Int32) = nI 5 from rfl, nI_eq (by omega) (by omega)]
  omega
theorem byteAt_in {E u d k : Nat} {S : sS} (hI : pI E u d S) (hk : k < 2 ^ 31) (h : ¬ S 9 ≤ nI k) : k < E ∧ E ≤ 50 := by
  have h9 := hI.2.1
  rw [h9.1, nI_leI (by omega) hk] at h
  exact ⟨by omega, h9.2⟩
theorem pI_at {E u d : Nat} {S S2 : sS} (hI : pI E u d S) (h : S2 = upd S 8 (S 8 + 1)) (hlt : vn (S 8) < E) : pI E u d S2 := by
  obtain ⟨h7, h9, h8, h10, h14⟩ := hI
  subst h
  have e8 : upd S 8 (S 8 + 1) 8 = nI (vn (S 8) + 1) := by
    show S 8 + 1 = _
    exact (congrArg (fun z => z + 1) h8.1).trans (nI_1 _)
  have e9 : vn (upd S 8 (S 8 + 1) 8) = vn (S 8) + 1 := by rw [e8, vn_nI (by omega)]
  exact ⟨h7, h9, ⟨by rw [e9]; exact e8, by rw [e9]; omega⟩, h10, h14⟩
theorem at_succ {E u d : Nat} {S S2 : sS} (hI : pI E u d S) (h : S2 = upd S 8 (S 8 + 1)) (hlt : vn (S 8) < E) : vn (S2 8) = vn (S 8) + 1 := by
  obtain ⟨h7, h9, h8, h10, h14⟩ := hI
  subst h
  show vn (S 8 + 1) = _
  have : S 8 + 1 = nI (vn (S 8) + 1) := (congrArg (fun z => z + 1) h8.1).trans (nI_1 _)
  rw [this, vn_nI (by omega)]
theorem pI_good {E u d : Nat} {S S2 : sS} {x : Int32} (hI : pI E u d S) (h : S2 = upd S 14 x) (hx : x = 0 ∨ x = 1) : pI E u d S2 := by
  subst h
  exact ⟨hI.1, hI.2.1, hI.2.2.1, hI.2.2.2.1, hx⟩
theorem pI_open {E u d : Nat} {S S2 : sS} (hI : pI E u (d + 1) S) (h : S2 = upd S 10 (S 10 + 1)) : pI E u d S2 := by
  subst h
  have h10 := hI.2.2.2.1
  refine ⟨hI.1, hI.2.1, hI.2.2.1, ⟨?_, by omega⟩, hI.2.2.2.2⟩
  show S 10 + 1 = _
  rw [h10.1, nI_1]
  congr 1
  omega
theorem pI_shut {E u d : Nat} {S S2 : sS} (hI : pI E u d S) (h : S2 = upd S 10 (S 10 - 1)) (hd : d + 1 ≤ 5) : pI E u (d + 1) S2 := by
  subst h
  have h10 := hI.2.2.2.1
  refine ⟨hI.1, hI.2.1, hI.2.2.1, ⟨?_, hd⟩, hI.2.2.2.2⟩
  show S 10 - 1 = _
  rw [h10.1, show (1 : Int32) = nI 1 from rfl, pk_sub (by omega)]
  congr 1
theorem lp_lt {x : Int32} {n j : Nat} (hx : x = nI n) (h : ¬ x ≤ nI j) (hn : n < 2 ^ 31) (hj : j < 2 ^ 31 := by omega) : j < n := by
  rcases Nat.lt_or_ge j n with q | q
  · exact q
  · exact absurd (by rw [hx]; exact nI_le q hj) h
def mF_byteAt (M : mS) (S : sS) (k : Nat) : Int32 := (if (S 9) ≤ (nI k) then (-1) else (M 1 ((134 + (50 * (vn (S 7)))) + k)))

theorem byteAt_lt {M : mS} {S : sS} {E u d : Nat} (hI : pI E u d S) (h : ¬ mF_byteAt M S (vn (S 8)) = -1) : vn (S 8) < E := by
  unfold mF_byteAt at h
  by_cases c : S 9 ≤ nI (vn (S 8))
  · rw [if_pos c] at h; exact absurd rfl h
  · exact (byteAt_in hI (vn8_lt hI) c).1
theorem dig_ne {x : Int32} (h : ¬ sF_isDigit x = 0) : ¬ x = -1 := fun e => h (by rw [e]; decide)
theorem ite_1 {x c k : Int32} (hX : x = (if c = k then 1 else 0)) (h : ¬ x = 0) : c = k := by
  by_cases e : c = k
  · exact e
  · rw [if_neg e] at hX; exact absurd hX h
theorem cmp_ne {g y b k : Int32} (hX : y = (if g = 0 then (-1) else b)) (h : y = k) (hk : ¬ k = -1) : ¬ b = -1 := by
  by_cases e : g = 0
  · rw [if_pos e] at hX; exact absurd (h.symm.trans hX) hk
  · rw [if_neg e] at hX; rw [← hX, h]; exact hk
def mF_fails (M : mS) (S : sS) : Int32 × sS := (lt (upd S 14 0) fun (S2 : sS) => (0, S2))

theorem pI_fails {M : mS} {S : sS} {E u d : Nat} (hI : pI E u d S) : pI E u d (mF_fails M S).2 ∧ vn (S 8) ≤ vn ((mF_fails M S).2 8) := ⟨pI_good hI rfl (Or.inl rfl), Nat.le_refl _⟩
def mF_number_L4 (M : mS) : Nat → Nat → Int32 → sS → Nat × Int32 × sS
  | 0, j, v1_4, S4 => (j, v1_4, S4)
  | f + 1, j, v1_4, S4 => (if 4 ≤ (nI j) then (j, v1_4, S4) else (if (sF_isDigit (mF_byteAt M S4 (vn (S4 8)))) = 0 then (j, v1_4, S4) else (lt (((10 * v1_4) + (mF_byteAt M S4 (vn (S4 8)))) - 48) fun (x39 : Int32) => lt (upd S4 8 ((S4 8) + 1)) fun (S47 : sS) => (mF_number_L4 M f (j + 1) x39 S47))))
theorem mF_number_L4_s (M : mS) (f : Nat) (j : Nat) (v1_4 : Int32) (S4 : sS) : mF_number_L4 M (f + 1) j v1_4 S4 = (if 4 ≤ (nI j) then (j, v1_4, S4) else (if (sF_isDigit (mF_byteAt M S4 (vn (S4 8)))) = 0 then (j, v1_4, S4) else (lt (((10 * v1_4) + (mF_byteAt M S4 (vn (S4 8)))) - 48) fun (x39 : Int32) => lt (upd S4 8 ((S4 8) + 1)) fun (S47 : sS) => (mF_number_L4 M f (j + 1) x39 S47)))) := rfl
def mF_number (M : mS) (S : sS) : Int32 × sS := (lt3 (mF_number_L4 M fu5 0 0 S) fun (jx : Nat) (v1_4x : Int32) (S4x : sS) => (v1_4x, S4x))

theorem pI_number_L {M : mS} {E u d : Nat} : ∀ (f j : Nat) (v : Int32) (S : sS), pI E u d S → pI E u d (mF_number_L4 M f j v S).2.2 ∧ vn (S 8) ≤ vn ((mF_number_L4 M f j v S).2.2 8) := by
  intro f
  induction f with
  | zero => intro j v S hI; exact ⟨hI, Nat.le_refl _⟩
  | succ f ih =>
    intro j v S hI
    rw [mF_number_L4_s]
    split
    · exact ⟨hI, Nat.le_refl _⟩
    · split
      · exact ⟨hI, Nat.le_refl _⟩
      · rename_i h
        have hlt := byteAt_lt hI (dig_ne h)
        have h1 := pI_at hI rfl hlt
        have h2 := at_succ hI rfl hlt
        simp only [lt]
        have h3 := ih (j + 1) (10 * v + mF_byteAt M S (vn (S 8)) - 48) _ h1
        exact ⟨h3.1, by omega⟩
theorem pI_number {M : mS} {S : sS} {E u d : Nat} (hI : pI E u d S) : pI E u d (mF_number M S).2 ∧ vn (S 8) ≤ vn ((mF_number M S).2 8) := pI_number_L fu5 0 0 S hI
def mF_named (M : mS) (S : sS) (c : Int32) : Int32 × sS := (lt ((if c = 109 then 1 else 0) : Int32) fun (y11 : Int32) => (lt ((if (S 7) = 0 then 102 else 103) : Int32) fun (y27 : Int32) => (lt ((if c = y27 then 1 else 0) : Int32) fun (y35 : Int32) => (lt ((if c = 104 then 1 else 0) : Int32) fun (y47 : Int32) => (if y11 = 0 then (if y35 = 0 then (if y47 = 0 then (lt2 (mF_fails M S) fun (x63 : Int32) (S63 : sS) => (x63, S63)) else (lt (upd S 8 ((S 8) + 1)) fun (S74 : sS) => (if y11 = 0 then (if y35 = 0 then ((S74 13), S74) else ((S74 12), S74)) else ((S74 11), S74)))) else (lt (upd S 8 ((S 8) + 1)) fun (S74 : sS) => (if y11 = 0 then (if y35 = 0 then ((S74 13), S74) else ((S74 12), S74)) else ((S74 11), S74)))) else (lt (upd S 8 ((S 8) + 1)) fun (S74 : sS) => (if y11 = 0 then (if y35 = 0 then ((S74 13), S74) else ((S74 12), S74)) else ((S74 11), S74))))))))

theorem pI_named {M : mS} {S : sS} {c : Int32} {E u d : Nat} (hI : pI E u d S) (hc : c = mF_byteAt M S (vn (S 8))) : pI E u d (mF_named M S c).2 ∧ vn (S 8) ≤ vn ((mF_named M S c).2 8) := by
  have key : ¬ c = -1 → pI E u d (upd S 8 (S 8 + 1)) ∧ vn (S 8) ≤ vn ((upd S 8 (S 8 + 1)) 8) := fun h => by
    have hlt := byteAt_lt (M := M) hI (by rw [← hc]; exact h)
    exact ⟨pI_at hI rfl hlt, by have := at_succ hI rfl hlt; omega⟩
  unfold mF_named
  simp only [lt, lt2]
  by_cases h1 : c = 109
  · have hk := key (by rw [h1]; decide)
    simp only [h1, ite_true, reduceIte]
    exact hk
  · by_cases h2 : c = (if S 7 = 0 then 102 else 103)
    · have hk := key (by rw [h2]; split <;> decide)
      simp only [if_neg h1, if_pos h2, ite_true, reduceIte, show ¬ ((1 : Int32) = 0) by decide]
      exact hk
    · by_cases h3 : c = 104
      · have hk := key (by rw [h3]; decide)
        simp only [if_neg h1, if_neg h2, if_pos h3, ite_true, reduceIte, show ¬ ((1 : Int32) = 0) by decide]
        exact hk
      · simp only [if_neg h1, if_neg h2, if_neg h3, ite_true, reduceIte]
        exact pI_fails hI
def mF_factor0 (M : mS) (S : sS) : Int32 × sS := (lt (mF_byteAt M S (vn (S 8))) fun (x8 : Int32) => (if (sF_isDigit x8) = 0 then (if x8 = 33 then (lt2 (mF_fails M S) fun (x48 : Int32) (S48 : sS) => (x48, S48)) else (if x8 = 40 then (lt2 (mF_fails M S) fun (x48 : Int32) (S48 : sS) => (x48, S48)) else (lt2 (mF_named M S x8) fun (x35 : Int32) (S35 : sS) => (x35, S35)))) else (lt2 (mF_number M S) fun (x17 : Int32) (S17 : sS) => (x17, S17))))
def mF_factorS (M : mS) (fF : sS → Int32 × sS) (fW : sS → Int32 × sS) (S : sS) : Int32 × sS := (lt (mF_byteAt M S (vn (S 8))) fun (x8 : Int32) => (if (sF_isDigit x8) = 0 then (if x8 = 33 then (lt (upd S 10 ((S 10) + 1)) fun (S59 : sS) => lt (upd S59 8 ((S59 8) + 1)) fun (S69 : sS) => (if x8 = 33 then (lt2 (fF S69) fun (x79 : Int32) (S79 : sS) => lt (upd S79 10 ((S79 10) - 1)) fun (S97 : sS) => (if x8 = 33 then (if x79 = 0 then (1, S97) else (0, S97)) else (if (S97 14) = 0 then (lt2 (mF_fails M S97) fun (x149 : Int32) (S149 : sS) => (x149, S149)) else (if (mF_byteAt M S97 (vn (S97 8))) = 41 then (lt (upd S97 8 ((S97 8) + 1)) fun (S143 : sS) => (x79, S143)) else (lt2 (mF_fails M S97) fun (x149 : Int32) (S149 : sS) => (x149, S149)))))) else (lt2 (fW S69) fun (x86 : Int32) (S86 : sS) => lt (upd S86 10 ((S86 10) - 1)) fun (S97 : sS) => (if x8 = 33 then (if x86 = 0 then (1, S97) else (0, S97)) else (if (S97 14) = 0 then (lt2 (mF_fails M S97) fun (x149 : Int32) (S149 : sS) => (x149, S149)) else (if (mF_byteAt M S97 (vn (S97 8))) = 41 then (lt (upd S97 8 ((S97 8) + 1)) fun (S143 : sS) => (x86, S143)) else (lt2 (mF_fails M S97) fun (x149 : Int32) (S149 : sS) => (x149, S149)))))))) else (if x8 = 40 then (lt (upd S 10 ((S 10) + 1)) fun (S59 : sS) => lt (upd S59 8 ((S59 8) + 1)) fun (S69 : sS) => (if x8 = 33 then (lt2 (fF S69) fun (x79 : Int32) (S79 : sS) => lt (upd S79 10 ((S79 10) - 1)) fun (S97 : sS) => (if x8 = 33 then (if x79 = 0 then (1, S97) else (0, S97)) else (if (S97 14) = 0 then (lt2 (mF_fails M S97) fun (x149 : Int32) (S149 : sS) => (x149, S149)) else (if (mF_byteAt M S97 (vn (S97 8))) = 41 then (lt (upd S97 8 ((S97 8) + 1)) fun (S143 : sS) => (x79, S143)) else (lt2 (mF_fails M S97) fun (x149 : Int32) (S149 : sS) => (x149, S149)))))) else (lt2 (fW S69) fun (x86 : Int32) (S86 : sS) => lt (upd S86 10 ((S86 10) - 1)) fun (S97 : sS) => (if x8 = 33 then (if x86 = 0 then (1, S97) else (0, S97)) else (if (S97 14) = 0 then (lt2 (mF_fails M S97) fun (x149 : Int32) (S149 : sS) => (x149, S149)) else (if (mF_byteAt M S97 (vn (S97 8))) = 41 then (lt (upd S97 8 ((S97 8) + 1)) fun (S143 : sS) => (x86, S143)) else (lt2 (mF_fails M S97) fun (x149 : Int32) (S149 : sS) => (x149, S149)))))))) else (lt2 (mF_named M S x8) fun (x35 : Int32) (S35 : sS) => (x35, S35)))) else (lt2 (mF_number M S) fun (x17 : Int32) (S17 : sS) => (x17, S17))))
def mF_product_L5 (M : mS) (fF : sS → Int32 × sS) : Nat → Int32 → sS → Int32 × sS
  | 0, v1_5, S5 => (v1_5, S5)
  | f + 1, v1_5, S5 => (if (S5 14) = 0 then (v1_5, S5) else (if (mF_byteAt M S5 (vn (S5 8))) = 42 then (lt (mF_byteAt M S5 (vn (S5 8))) fun (x59 : Int32) => lt (upd S5 8 ((S5 8) + 1)) fun (S67 : sS) => lt2 (fF S67) fun (x71 : Int32) (S71 : sS) => (lt ((if x59 = 42 then (v1_5 * x71) else (if x71 = 0 then 0 else (if x59 = 47 then (v1_5 / x71) else (v1_5 - v1_5 / x71 * x71)))) : Int32) fun (y110 : Int32) => (mF_product_L5 M fF f y110 S71))) else (if (mF_byteAt M S5 (vn (S5 8))) = 47 then (lt (mF_byteAt M S5 (vn (S5 8))) fun (x59 : Int32) => lt (upd S5 8 ((S5 8) + 1)) fun (S67 : sS) => lt2 (fF S67) fun (x71 : Int32) (S71 : sS) => (lt ((if x59 = 42 then (v1_5 * x71) else (if x71 = 0 then 0 else (if x59 = 47 then (v1_5 / x71) else (v1_5 - v1_5 / x71 * x71)))) : Int32) fun (y110 : Int32) => (mF_product_L5 M fF f y110 S71))) else (if (mF_byteAt M S5 (vn (S5 8))) = 37 then (lt (mF_byteAt M S5 (vn (S5 8))) fun (x59 : Int32) => lt (upd S5 8 ((S5 8) + 1)) fun (S67 : sS) => lt2 (fF S67) fun (x71 : Int32) (S71 : sS) => (lt ((if x59 = 42 then (v1_5 * x71) else (if x71 = 0 then 0 else (if x59 = 47 then (v1_5 / x71) else (v1_5 - v1_5 / x71 * x71)))) : Int32) fun (y110 : Int32) => (mF_product_L5 M fF f y110 S71))) else (v1_5, S5)))))
theorem mF_product_L5_s (M : mS) (fF : sS → Int32 × sS) (f : Nat) (v1_5 : Int32) (S5 : sS) : mF_product_L5 M fF (f + 1) v1_5 S5 = (if (S5 14) = 0 then (v1_5, S5) else (if (mF_byteAt M S5 (vn (S5 8))) = 42 then (lt (mF_byteAt M S5 (vn (S5 8))) fun (x59 : Int32) => lt (upd S5 8 ((S5 8) + 1)) fun (S67 : sS) => lt2 (fF S67) fun (x71 : Int32) (S71 : sS) => (lt ((if x59 = 42 then (v1_5 * x71) else (if x71 = 0 then 0 else (if x59 = 47 then (v1_5 / x71) else (v1_5 - v1_5 / x71 * x71)))) : Int32) fun (y110 : Int32) => (mF_product_L5 M fF f y110 S71))) else (if (mF_byteAt M S5 (vn (S5 8))) = 47 then (lt (mF_byteAt M S5 (vn (S5 8))) fun (x59 : Int32) => lt (upd S5 8 ((S5 8) + 1)) fun (S67 : sS) => lt2 (fF S67) fun (x71 : Int32) (S71 : sS) => (lt ((if x59 = 42 then (v1_5 * x71) else (if x71 = 0 then 0 else (if x59 = 47 then (v1_5 / x71) else (v1_5 - v1_5 / x71 * x71)))) : Int32) fun (y110 : Int32) => (mF_product_L5 M fF f y110 S71))) else (if (mF_byteAt M S5 (vn (S5 8))) = 37 then (lt (mF_byteAt M S5 (vn (S5 8))) fun (x59 : Int32) => lt (upd S5 8 ((S5 8) + 1)) fun (S67 : sS) => lt2 (fF S67) fun (x71 : Int32) (S71 : sS) => (lt ((if x59 = 42 then (v1_5 * x71) else (if x71 = 0 then 0 else (if x59 = 47 then (v1_5 / x71) else (v1_5 - v1_5 / x71 * x71)))) : Int32) fun (y110 : Int32) => (mF_product_L5 M fF f y110 S71))) else (v1_5, S5))))) := rfl
def mF_product (M : mS) (fF : sS → Int32 × sS) (S : sS) : Int32 × sS := (lt2 (fF S) fun (x1 : Int32) (S1 : sS) => (lt2 (mF_product_L5 M fF fu51 x1 S1) fun (v1_5x : Int32) (S5x : sS) => (v1_5x, S5x)))

theorem pI_product_L {M : mS} {fF : sS → Int32 × sS} {E u d : Nat} (hpF : ∀ S, pI E u d S → pI E u d (fF S).2 ∧ vn (S 8) ≤ vn ((fF S).2 8)) : ∀ (f : Nat) (v : Int32) (S : sS), pI E u d S → pI E u d (mF_product_L5 M fF f v S).2 ∧ vn (S 8) ≤ vn ((mF_product_L5 M fF f v S).2 8) := by
  intro f
  induction f with
  | zero => intro v S hI; exact ⟨hI, Nat.le_refl _⟩
  | succ f ih =>
    intro v S hI
    have key : ∀ k : Int32, ¬ k = -1 → mF_byteAt M S (vn (S 8)) = k → ∀ w : Int32, pI E u d (mF_product_L5 M fF f w (fF (upd S 8 (S 8 + 1))).2).2 ∧ vn (S 8) ≤ vn ((mF_product_L5 M fF f w (fF (upd S 8 (S 8 + 1))).2).2 8) := fun k hk h w => by
      have hlt := byteAt_lt (M := M) hI (by rw [h]; exact hk)
      have h1 := pI_at hI rfl hlt
      have h2 := at_succ hI rfl hlt
      have h3 := hpF _ h1
      have h4 := ih w _ h3.1
      exact ⟨h4.1, by omega⟩
    rw [mF_product_L5_s]
    simp only [lt, lt2]
    by_cases c0 : S 14 = 0
    · rw [if_pos c0]; exact ⟨hI, Nat.le_refl _⟩
    rw [if_neg c0]
    by_cases c1 : mF_byteAt M S (vn (S 8)) = 42
    · rw [if_pos c1]; exact key _ (by decide) c1 _
    rw [if_neg c1]
    by_cases c2 : mF_byteAt M S (vn (S 8)) = 47
    · rw [if_pos c2]; exact key _ (by decide) c2 _
    rw [if_neg c2]
    by_cases c3 : mF_byteAt M S (vn (S 8)) = 37
    · rw [if_pos c3]; exact key _ (by decide) c3 _
    rw [if_neg c3]; exact ⟨hI, Nat.le_refl _⟩
theorem pI_product {M : mS} {S : sS} {fF : sS → Int32 × sS} {E u d : Nat} (hpF : ∀ S, pI E u d S → pI E u d (fF S).2 ∧ vn (S 8) ≤ vn ((fF S).2 8)) (hI : pI E u d S) : pI E u d (mF_product M fF S).2 ∧ vn (S 8) ≤ vn ((mF_product M fF S).2 8) := by
  have h1 := hpF _ hI
  have h2 := pI_product_L (M := M) hpF fu51 (fF S).1 _ h1.1
  have h3 := Nat.le_trans h1.2 h2.2
  unfold mF_product
  simp only [lt2]
  exact ⟨h2.1, h3⟩
def mF_sum_L5 (M : mS) (fF : sS → Int32 × sS) : Nat → Int32 → sS → Int32 × sS
  | 0, v1_5, S5 => (v1_5, S5)
  | f + 1, v1_5, S5 => (if (S5 14) = 0 then (v1_5, S5) else (if (mF_byteAt M S5 (vn (S5 8))) = 43 then (lt (mF_byteAt M S5 (vn (S5 8))) fun (x46 : Int32) => lt (upd S5 8 ((S5 8) + 1)) fun (S54 : sS) => lt2 (mF_product M fF S54) fun (x58 : Int32) (S58 : sS) => (lt ((if x46 = 43 then (v1_5 + x58) else (v1_5 - x58)) : Int32) fun (y77 : Int32) => (mF_sum_L5 M fF f y77 S58))) else (if (mF_byteAt M S5 (vn (S5 8))) = 45 then (lt (mF_byteAt M S5 (vn (S5 8))) fun (x46 : Int32) => lt (upd S5 8 ((S5 8) + 1)) fun (S54 : sS) => lt2 (mF_product M fF S54) fun (x58 : Int32) (S58 : sS) => (lt ((if x46 = 43 then (v1_5 + x58) else (v1_5 - x58)) : Int32) fun (y77 : Int32) => (mF_sum_L5 M fF f y77 S58))) else (v1_5, S5))))
theorem mF_sum_L5_s (M : mS) (fF : sS → Int32 × sS) (f : Nat) (v1_5 : Int32) (S5 : sS) : mF_sum_L5 M fF (f + 1) v1_5 S5 = (if (S5 14) = 0 then (v1_5, S5) else (if (mF_byteAt M S5 (vn (S5 8))) = 43 then (lt (mF_byteAt M S5 (vn (S5 8))) fun (x46 : Int32) => lt (upd S5 8 ((S5 8) + 1)) fun (S54 : sS) => lt2 (mF_product M fF S54) fun (x58 : Int32) (S58 : sS) => (lt ((if x46 = 43 then (v1_5 + x58) else (v1_5 - x58)) : Int32) fun (y77 : Int32) => (mF_sum_L5 M fF f y77 S58))) else (if (mF_byteAt M S5 (vn (S5 8))) = 45 then (lt (mF_byteAt M S5 (vn (S5 8))) fun (x46 : Int32) => lt (upd S5 8 ((S5 8) + 1)) fun (S54 : sS) => lt2 (mF_product M fF S54) fun (x58 : Int32) (S58 : sS) => (lt ((if x46 = 43 then (v1_5 + x58) else (v1_5 - x58)) : Int32) fun (y77 : Int32) => (mF_sum_L5 M fF f y77 S58))) else (v1_5, S5)))) := rfl
def mF_sum (M : mS) (fF : sS → Int32 × sS) (S : sS) : Int32 × sS := (lt2 (mF_product M fF S) fun (x1 : Int32) (S1 : sS) => (lt2 (mF_sum_L5 M fF fu51 x1 S1) fun (v1_5x : Int32) (S5x : sS) => (v1_5x, S5x)))

theorem pI_sum_L {M : mS} {fF : sS → Int32 × sS} {E u d : Nat} (hpF : ∀ S, pI E u d S → pI E u d (fF S).2 ∧ vn (S 8) ≤ vn ((fF S).2 8)) : ∀ (f : Nat) (v : Int32) (S : sS), pI E u d S → pI E u d (mF_sum_L5 M fF f v S).2 ∧ vn (S 8) ≤ vn ((mF_sum_L5 M fF f v S).2 8) := by
  intro f
  induction f with
  | zero => intro v S hI; exact ⟨hI, Nat.le_refl _⟩
  | succ f ih =>
    intro v S hI
    have key : ∀ k : Int32, ¬ k = -1 → mF_byteAt M S (vn (S 8)) = k → ∀ w : Int32, pI E u d (mF_sum_L5 M fF f w (mF_product M fF (upd S 8 (S 8 + 1))).2).2 ∧ vn (S 8) ≤ vn ((mF_sum_L5 M fF f w (mF_product M fF (upd S 8 (S 8 + 1))).2).2 8) := fun k hk h w => by
      have hlt := byteAt_lt (M := M) hI (by rw [h]; exact hk)
      have h1 := pI_at hI rfl hlt
      have h2 := at_succ hI rfl hlt
      have h3 := pI_product (M := M) hpF h1
      have h4 := ih w _ h3.1
      exact ⟨h4.1, by omega⟩
    rw [mF_sum_L5_s]
    simp only [lt, lt2]
    by_cases c0 : S 14 = 0
    · rw [if_pos c0]; exact ⟨hI, Nat.le_refl _⟩
    rw [if_neg c0]
    by_cases c1 : mF_byteAt M S (vn (S 8)) = 43
    · rw [if_pos c1]; exact key _ (by decide) c1 _
    rw [if_neg c1]
    by_cases c2 : mF_byteAt M S (vn (S 8)) = 45
    · rw [if_pos c2]; exact key _ (by decide) c2 _
    rw [if_neg c2]; exact ⟨hI, Nat.le_refl _⟩
theorem pI_sum {M : mS} {S : sS} {fF : sS → Int32 × sS} {E u d : Nat} (hpF : ∀ S, pI E u d S → pI E u d (fF S).2 ∧ vn (S 8) ≤ vn ((fF S).2 8)) (hI : pI E u d S) : pI E u d (mF_sum M fF S).2 ∧ vn (S 8) ≤ vn ((mF_sum M fF S).2 8) := by
  have h1 := pI_product (M := M) hpF hI
  have h2 := pI_sum_L (M := M) hpF fu51 (mF_product M fF S).1 _ h1.1
  have h3 := Nat.le_trans h1.2 h2.2
  unfold mF_sum
  simp only [lt2]
  exact ⟨h2.1, h3⟩
def mF_compared (M : mS) (fF : sS → Int32 × sS) (S : sS) : Int32 × sS := (lt2 (mF_sum M fF S) fun (x1 : Int32) (S1 : sS) => (lt ((if (S1 14) = 0 then (-1) else (mF_byteAt M S1 (vn (S1 8)))) : Int32) fun (y24 : Int32) => (if y24 = 60 then (lt (upd S1 8 ((S1 8) + 1)) fun (S52 : sS) => lt2 (mF_sum M fF S52) fun (x56 : Int32) (S56 : sS) => (lt ((if y24 = 60 then (if x56 ≤ x1 then 0 else 1) else (if y24 = 61 then (if x1 = x56 then 1 else 0) else (if x1 ≤ x56 then 0 else 1))) : Int32) fun (y108 : Int32) => (if y108 = 0 then (0, S56) else (1, S56)))) else (if y24 = 61 then (lt (upd S1 8 ((S1 8) + 1)) fun (S52 : sS) => lt2 (mF_sum M fF S52) fun (x56 : Int32) (S56 : sS) => (lt ((if y24 = 60 then (if x56 ≤ x1 then 0 else 1) else (if y24 = 61 then (if x1 = x56 then 1 else 0) else (if x1 ≤ x56 then 0 else 1))) : Int32) fun (y108 : Int32) => (if y108 = 0 then (0, S56) else (1, S56)))) else (if y24 = 62 then (lt (upd S1 8 ((S1 8) + 1)) fun (S52 : sS) => lt2 (mF_sum M fF S52) fun (x56 : Int32) (S56 : sS) => (lt ((if y24 = 60 then (if x56 ≤ x1 then 0 else 1) else (if y24 = 61 then (if x1 = x56 then 1 else 0) else (if x1 ≤ x56 then 0 else 1))) : Int32) fun (y108 : Int32) => (if y108 = 0 then (0, S56) else (1, S56)))) else (x1, S1))))))

theorem pI_compared {M : mS} {S : sS} {fF : sS → Int32 × sS} {E u d : Nat} (hpF : ∀ S, pI E u d S → pI E u d (fF S).2 ∧ vn (S 8) ≤ vn ((fF S).2 8)) (hI : pI E u d S) : pI E u d (mF_compared M fF S).2 ∧ vn (S 8) ≤ vn ((mF_compared M fF S).2 8) := by
  have h1 := pI_sum (M := M) hpF hI
  unfold mF_compared
  simp only [lt, lt2]
  have key : ∀ k : Int32, ¬ k = -1 → (if (mF_sum M fF S).2 14 = 0 then -1 else mF_byteAt M (mF_sum M fF S).2 (vn ((mF_sum M fF S).2 8))) = k → pI E u d (mF_sum M fF (upd (mF_sum M fF S).2 8 ((mF_sum M fF S).2 8 + 1))).2 ∧ vn (S 8) ≤ vn ((mF_sum M fF (upd (mF_sum M fF S).2 8 ((mF_sum M fF S).2 8 + 1))).2 8) := fun k hk h => by
    have hlt := byteAt_lt (M := M) h1.1 (cmp_ne rfl h hk)
    have h2 := pI_at h1.1 rfl hlt
    have h3 := at_succ h1.1 rfl hlt
    have h4 := pI_sum (M := M) hpF h2
    exact ⟨h4.1, by omega⟩
  generalize hy : (if (mF_sum M fF S).2 14 = 0 then (-1 : Int32) else mF_byteAt M (mF_sum M fF S).2 (vn ((mF_sum M fF S).2 8))) = y at key ⊢
  by_cases c1 : y = 60
  · simp only [if_pos c1]; split <;> exact key _ (by decide) c1
  by_cases c2 : y = 61
  · simp only [if_neg c1, if_pos c2]; split <;> exact key _ (by decide) c2
  by_cases c3 : y = 62
  · simp only [if_neg c1, if_neg c2, if_pos c3]; split <;> exact key _ (by decide) c3
  simp only [if_neg c1, if_neg c2, if_neg c3]
  exact h1
def mF_both_L5 (M : mS) (fF : sS → Int32 × sS) : Nat → Int32 → sS → Int32 × sS
  | 0, v1_5, S5 => (v1_5, S5)
  | f + 1, v1_5, S5 => (if (S5 14) = 0 then (v1_5, S5) else (if (mF_byteAt M S5 (vn (S5 8))) = 38 then (lt (upd S5 8 ((S5 8) + 1)) fun (S32 : sS) => lt2 (mF_compared M fF S32) fun (x36 : Int32) (S36 : sS) => (lt ((if v1_5 = 0 then 0 else (if x36 = 0 then 0 else 1)) : Int32) fun (y53 : Int32) => (mF_both_L5 M fF f y53 S36))) else (v1_5, S5)))
theorem mF_both_L5_s (M : mS) (fF : sS → Int32 × sS) (f : Nat) (v1_5 : Int32) (S5 : sS) : mF_both_L5 M fF (f + 1) v1_5 S5 = (if (S5 14) = 0 then (v1_5, S5) else (if (mF_byteAt M S5 (vn (S5 8))) = 38 then (lt (upd S5 8 ((S5 8) + 1)) fun (S32 : sS) => lt2 (mF_compared M fF S32) fun (x36 : Int32) (S36 : sS) => (lt ((if v1_5 = 0 then 0 else (if x36 = 0 then 0 else 1)) : Int32) fun (y53 : Int32) => (mF_both_L5 M fF f y53 S36))) else (v1_5, S5))) := rfl
def mF_both (M : mS) (fF : sS → Int32 × sS) (S : sS) : Int32 × sS := (lt2 (mF_compared M fF S) fun (x1 : Int32) (S1 : sS) => (lt2 (mF_both_L5 M fF fu51 x1 S1) fun (v1_5x : Int32) (S5x : sS) => (v1_5x, S5x)))

theorem pI_both_L {M : mS} {fF : sS → Int32 × sS} {E u d : Nat} (hpF : ∀ S, pI E u d S → pI E u d (fF S).2 ∧ vn (S 8) ≤ vn ((fF S).2 8)) : ∀ (f : Nat) (v : Int32) (S : sS), pI E u d S → pI E u d (mF_both_L5 M fF f v S).2 ∧ vn (S 8) ≤ vn ((mF_both_L5 M fF f v S).2 8) := by
  intro f
  induction f with
  | zero => intro v S hI; exact ⟨hI, Nat.le_refl _⟩
  | succ f ih =>
    intro v S hI
    have key : ∀ k : Int32, ¬ k = -1 → mF_byteAt M S (vn (S 8)) = k → ∀ w : Int32, pI E u d (mF_both_L5 M fF f w (mF_compared M fF (upd S 8 (S 8 + 1))).2).2 ∧ vn (S 8) ≤ vn ((mF_both_L5 M fF f w (mF_compared M fF (upd S 8 (S 8 + 1))).2).2 8) := fun k hk h w => by
      have hlt := byteAt_lt (M := M) hI (by rw [h]; exact hk)
      have h1 := pI_at hI rfl hlt
      have h2 := at_succ hI rfl hlt
      have h3 := pI_compared (M := M) hpF h1
      have h4 := ih w _ h3.1
      exact ⟨h4.1, by omega⟩
    rw [mF_both_L5_s]
    simp only [lt, lt2]
    by_cases c0 : S 14 = 0
    · rw [if_pos c0]; exact ⟨hI, Nat.le_refl _⟩
    rw [if_neg c0]
    by_cases c1 : mF_byteAt M S (vn (S 8)) = 38
    · rw [if_pos c1]; exact key _ (by decide) c1 _
    rw [if_neg c1]; exact ⟨hI, Nat.le_refl _⟩
theorem pI_both {M : mS} {S : sS} {fF : sS → Int32 × sS} {E u d : Nat} (hpF : ∀ S, pI E u d S → pI E u d (fF S).2 ∧ vn (S 8) ≤ vn ((fF S).2 8)) (hI : pI E u d S) : pI E u d (mF_both M fF S).2 ∧ vn (S 8) ≤ vn ((mF_both M fF S).2 8) := by
  have h1 := pI_compared (M := M) hpF hI
  have h2 := pI_both_L (M := M) hpF fu51 (mF_compared M fF S).1 _ h1.1
  have h3 := Nat.le_trans h1.2 h2.2
  unfold mF_both
  simp only [lt2]
  exact ⟨h2.1, h3⟩
def mF_whole_L5 (M : mS) (fF : sS → Int32 × sS) : Nat → Int32 → sS → Int32 × sS
  | 0, v1_5, S5 => (v1_5, S5)
  | f + 1, v1_5, S5 => (if (S5 14) = 0 then (v1_5, S5) else (if (mF_byteAt M S5 (vn (S5 8))) = 124 then (lt (upd S5 8 ((S5 8) + 1)) fun (S32 : sS) => lt2 (mF_both M fF S32) fun (x36 : Int32) (S36 : sS) => (lt ((if v1_5 = 0 then (if x36 = 0 then 0 else 1) else 1) : Int32) fun (y53 : Int32) => (mF_whole_L5 M fF f y53 S36))) else (v1_5, S5)))
theorem mF_whole_L5_s (M : mS) (fF : sS → Int32 × sS) (f : Nat) (v1_5 : Int32) (S5 : sS) : mF_whole_L5 M fF (f + 1) v1_5 S5 = (if (S5 14) = 0 then (v1_5, S5) else (if (mF_byteAt M S5 (vn (S5 8))) = 124 then (lt (upd S5 8 ((S5 8) + 1)) fun (S32 : sS) => lt2 (mF_both M fF S32) fun (x36 : Int32) (S36 : sS) => (lt ((if v1_5 = 0 then (if x36 = 0 then 0 else 1) else 1) : Int32) fun (y53 : Int32) => (mF_whole_L5 M fF f y53 S36))) else (v1_5, S5))) := rfl
def mF_whole (M : mS) (fF : sS → Int32 × sS) (S : sS) : Int32 × sS := (lt2 (mF_both M fF S) fun (x1 : Int32) (S1 : sS) => (lt2 (mF_whole_L5 M fF fu51 x1 S1) fun (v1_5x : Int32) (S5x : sS) => (v1_5x, S5x)))

theorem pI_whole_L {M : mS} {fF : sS → Int32 × sS} {E u d : Nat} (hpF : ∀ S, pI E u d S → pI E u d (fF S).2 ∧ vn (S 8) ≤ vn ((fF S).2 8)) : ∀ (f : Nat) (v : Int32) (S : sS), pI E u d S → pI E u d (mF_whole_L5 M fF f v S).2 ∧ vn (S 8) ≤ vn ((mF_whole_L5 M fF f v S).2 8) := by
  intro f
  induction f with
  | zero => intro v S hI; exact ⟨hI, Nat.le_refl _⟩
  | succ f ih =>
    intro v S hI
    have key : ∀ k : Int32, ¬ k = -1 → mF_byteAt M S (vn (S 8)) = k → ∀ w : Int32, pI E u d (mF_whole_L5 M fF f w (mF_both M fF (upd S 8 (S 8 + 1))).2).2 ∧ vn (S 8) ≤ vn ((mF_whole_L5 M fF f w (mF_both M fF (upd S 8 (S 8 + 1))).2).2 8) := fun k hk h w => by
      have hlt := byteAt_lt (M := M) hI (by rw [h]; exact hk)
      have h1 := pI_at hI rfl hlt
      have h2 := at_succ hI rfl hlt
      have h3 := pI_both (M := M) hpF h1
      have h4 := ih w _ h3.1
      exact ⟨h4.1, by omega⟩
    rw [mF_whole_L5_s]
    simp only [lt, lt2]
    by_cases c0 : S 14 = 0
    · rw [if_pos c0]; exact ⟨hI, Nat.le_refl _⟩
    rw [if_neg c0]
    by_cases c1 : mF_byteAt M S (vn (S 8)) = 124
    · rw [if_pos c1]; exact key _ (by decide) c1 _
    rw [if_neg c1]; exact ⟨hI, Nat.le_refl _⟩
theorem pI_whole {M : mS} {S : sS} {fF : sS → Int32 × sS} {E u d : Nat} (hpF : ∀ S, pI E u d S → pI E u d (fF S).2 ∧ vn (S 8) ≤ vn ((fF S).2 8)) (hI : pI E u d S) : pI E u d (mF_whole M fF S).2 ∧ vn (S 8) ≤ vn ((mF_whole M fF S).2 8) := by
  have h1 := pI_both (M := M) hpF hI
  have h2 := pI_whole_L (M := M) hpF fu51 (mF_both M fF S).1 _ h1.1
  have h3 := Nat.le_trans h1.2 h2.2
  unfold mF_whole
  simp only [lt2]
  exact ⟨h2.1, h3⟩
/-! of 07.ref4 -/
theorem pI_factor0 {M : mS} {S : sS} {E u : Nat} (hI : pI E u 0 S) : pI E u 0 (mF_factor0 M S).2 ∧ vn (S 8) ≤ vn ((mF_factor0 M S).2 8) := by
  unfold mF_factor0
  simp only [lt, lt2]
  repeat' split
  · exact pI_fails (M := M) hI
  · exact pI_fails (M := M) hI
  · exact pI_named (M := M) hI rfl
  · exact pI_number (M := M) hI
theorem pI_tail {M : mS} {S S7 : sS} {x c : Int32} {E u d : Nat} (h : pI E u d S7) (hd : d + 1 ≤ 5) (hle : vn (S 8) ≤ vn (S7 8)) : pI E u (d + 1) (if c = 33 then (if x = 0 then ((1 : Int32), upd S7 10 (S7 10 - 1)) else (0, upd S7 10 (S7 10 - 1))) else (if (upd S7 10 (S7 10 - 1)) 14 = 0 then ((mF_fails M (upd S7 10 (S7 10 - 1))).1, (mF_fails M (upd S7 10 (S7 10 - 1))).2) else (if mF_byteAt M (upd S7 10 (S7 10 - 1)) (vn ((upd S7 10 (S7 10 - 1)) 8)) = 41 then (x, upd (upd S7 10 (S7 10 - 1)) 8 ((upd S7 10 (S7 10 - 1)) 8 + 1)) else ((mF_fails M (upd S7 10 (S7 10 - 1))).1, (mF_fails M (upd S7 10 (S7 10 - 1))).2)))).2 ∧ vn (S 8) ≤ vn ((if c = 33 then (if x = 0 then ((1 : Int32), upd S7 10 (S7 10 - 1)) else (0, upd S7 10 (S7 10 - 1))) else (if (upd S7 10 (S7 10 - 1)) 14 = 0 then ((mF_fails M (upd S7 10 (S7 10 - 1))).1, (mF_fails M (upd S7 10 (S7 10 - 1))).2) else (if mF_byteAt M (upd S7 10 (S7 10 - 1)) (vn ((upd S7 10 (S7 10 - 1)) 8)) = 41 then (x, upd (upd S7 10 (S7 10 - 1)) 8 ((upd S7 10 (S7 10 - 1)) 8 + 1)) else ((mF_fails M (upd S7 10 (S7 10 - 1))).1, (mF_fails M (upd S7 10 (S7 10 - 1))).2)))).2 8) := by
  have h1 := pI_shut h rfl hd
  have hle1 : vn (S 8) ≤ vn ((upd S7 10 (S7 10 - 1)) 8) := hle
  generalize upd S7 10 (S7 10 - 1) = S9 at h1 hle1 ⊢
  have hf := pI_fails (M := M) h1
  split
  · split
    · exact ⟨h1, hle1⟩
    · exact ⟨h1, hle1⟩
  · split
    · exact ⟨hf.1, Nat.le_trans hle1 hf.2⟩
    · split
      · rename_i hb
        have hlt := byteAt_lt (M := M) h1 (by rw [hb]; decide)
        have h9 := at_succ h1 rfl hlt
        exact ⟨pI_at h1 rfl hlt, by show vn (S 8) ≤ vn (upd S9 8 (S9 8 + 1) 8); omega⟩
      · exact ⟨hf.1, Nat.le_trans hle1 hf.2⟩
theorem pI_factorS {M : mS} {S : sS} {fF fW : sS → Int32 × sS} {E u d : Nat} (hpF : ∀ S, pI E u d S → pI E u d (fF S).2 ∧ vn (S 8) ≤ vn ((fF S).2 8)) (hpW : ∀ S, pI E u d S → pI E u d (fW S).2 ∧ vn (S 8) ≤ vn ((fW S).2 8)) (hI : pI E u (d + 1) S) : pI E u (d + 1) (mF_factorS M fF fW S).2 ∧ vn (S 8) ≤ vn ((mF_factorS M fF fW S).2 8) := by
  have hd := hI.2.2.2.1.2
  have ho := pI_open hI rfl
  have key : ∀ k : Int32, ¬ k = -1 → mF_byteAt M S (vn (S 8)) = k → pI E u d (upd (upd S 10 (S 10 + 1)) 8 ((upd S 10 (S 10 + 1)) 8 + 1)) ∧ vn (S 8) ≤ vn ((upd (upd S 10 (S 10 + 1)) 8 ((upd S 10 (S 10 + 1)) 8 + 1)) 8) := fun k hk h => by
    have hlt := byteAt_lt (M := M) hI (by rw [h]; exact hk)
    have hlt2 : vn ((upd S 10 (S 10 + 1)) 8) < E := hlt
    exact ⟨pI_at ho rfl hlt2, by have h3 := at_succ ho rfl hlt2; have h4 : vn ((upd S 10 (S 10 + 1)) 8) = vn (S 8) := rfl; omega⟩
  unfold mF_factorS
  simp only [lt, lt2]
  generalize hx : mF_byteAt M S (vn (S 8)) = x8 at key ⊢
  split
  · by_cases c1 : x8 = 33
    · have k1 := key _ (by decide) c1
      rw [if_pos c1, if_pos c1]
      have k2 := hpF _ k1.1
      exact pI_tail k2.1 hd (Nat.le_trans k1.2 k2.2)
    · rw [if_neg c1]
      by_cases c2 : x8 = 40
      · have k1 := key _ (by decide) c2
        rw [if_pos c2, if_neg c1]
        have k2 := hpW _ k1.1
        exact pI_tail k2.1 hd (Nat.le_trans k1.2 k2.2)
      · rw [if_neg c2]
        exact pI_named (M := M) hI hx.symm
  · exact pI_number (M := M) hI
def pF (M : mS) : Nat → sS → Int32 × sS
  | 0 => mF_factor0 M
  | d + 1 => mF_factorS M (pF M d) (mF_whole M (pF M d))
theorem pI_F {M : mS} {E u : Nat} : ∀ (d : Nat) (S : sS), pI E u d S → pI E u d (pF M d S).2 ∧ vn (S 8) ≤ vn ((pF M d S).2 8) := by
  intro d
  induction d with
  | zero => intro S hI; exact pI_factor0 hI
  | succ d ih => intro S hI; exact pI_factorS ih (fun S h => pI_whole ih h) hI
def pS0 (w : Nat) (e b1 b2 b3 : Int32) : sS := fun k => if k = 7 then nI w else if k = 9 then e else if k = 11 then b1 else if k = 12 then b2 else if k = 13 then b3 else if k = 14 then 1 else 0
theorem zb_n {x : Int32} (h : x = 0 ∨ x = 1) : narrow .boolean (.int x) = .int x := by rcases h with rfl | rfl <;> rfl
theorem zb_f {x : Int32} (h : x = 0 ∨ x = 1) : fits .boolean (.int x) = true := by rcases h with rfl | rfl <;> rfl
def mF_walks (M : mS) (S : sS) (w : Nat) (b1 : Int32) (b2 : Int32) (b3 : Int32) : Int32 × sS := (lt (upd S 7 (nI w)) fun (S2 : sS) => lt (upd S2 8 0) fun (S7 : sS) => lt (upd S7 9 (M 1 (6 + w))) fun (S20 : sS) => lt (upd S20 10 0) fun (S25 : sS) => lt (upd S25 14 1) fun (S30 : sS) => lt (upd S30 11 b1) fun (S35 : sS) => lt (upd S35 12 b2) fun (S40 : sS) => lt (upd S40 13 b3) fun (S46 : sS) => lt2 (mF_whole M (pF M 5) (pS0 w (M 1 (6 + w)) b1 b2 b3)) fun (x50 : Int32) (S50 : sS) => (lt ((if (S50 14) = 0 then 0 else (if (S50 8) = (S50 9) then 1 else 0)) : Int32) fun (y79 : Int32) => (lt (upd S50 14 y79) fun (S79 : sS) => (x50, S79))))
def mV_walks (M : mS) (w : Nat) (b1 b2 b3 : Int32) : Int32 := (mF_whole M (pF M 5) (pS0 w (M 1 (6 + w)) b1 b2 b3)).1
def mF_lawOf (M : mS) (w : Nat) (b1 : Int32) (b2 : Int32) (b3 : Int32) : Int32 := (lt ((if (nI w) = 0 then 9 else 99) : Int32) fun (y11 : Int32) => (if (M 1 (6 + w)) < 0 then (lt ((if (nI w) = 0 then (3 - (b2 / 3)) else b1) : Int32) fun (y54 : Int32) => (sF_held y54 0 y11)) else (sF_held (mV_walks M w b1 b2 b3) 0 y11)))
def mF_law (M : mS) (u : Int32) (b1 : Int32) (b2 : Int32) (b3 : Int32) : Int32 × mS := (if (sF_in u 0 1) = 0 then (lt2 (mF_errs M (-1000000001)) fun (x24 : Int32) (M24 : mS) => (x24, M24)) else ((mF_lawOf M (vn u) b1 b2 b3), M))
/-! of 08.ref5 -/
def fu11 : Nat := 11
def rOK (M : mS) : Prop := cOK M ∧ pOK M ∧ kOK M ∧ aOK M ∧ sOK M
def aN (M : mS) (q : Nat) : Nat := vn (M 1 (32 + 4 * q + 2))
def mF_sight (M : mS) (q : Nat) : Int32 := (lt (mF_lawOf M 0 (mF_its M q 1) (M 1 1) (M 1 0)) fun (x23 : Int32) => (if (mF_its M q 0) = 2 then (x23 / 2) else (if (mF_its M q 0) = 3 then x23 else (if (mF_its M q 0) = 4 then (x23 + 1) else (if (mF_its M q 0) = 5 then (x23 / 2) else (if (mF_its M q 0) = 6 then (x23 + ((mF_its M q 1) - (mF_its M q 1) / 3 * 3)) else x23))))))
def mF_seesOf_L131 (M : mS) (q : Nat) (v4_77x : Int32) : Nat → Nat → Int32 → Nat × Int32
  | 0, kc, v5_131 => (kc, v5_131)
  | f + 1, kc, v5_131 => (if (M 1 3) ≤ (nI kc) then (kc, v5_131) else (if (mF_its M q 0) = 5 then (lt ((if (sF_has v4_77x (nI kc)) = 0 then 0 else (1 <<< ((((M 1 3) - 1) - (nI kc)) &&& 31))) : Int32) fun (y181 : Int32) => (lt (v5_131 ||| y181) fun (x182 : Int32) => (mF_seesOf_L131 M q v4_77x f (kc + 1) x182))) else (kc, v5_131)))
theorem mF_seesOf_L131_s (M : mS) (q : Nat) (v4_77x : Int32) (f : Nat) (kc : Nat) (v5_131 : Int32) : mF_seesOf_L131 M q v4_77x (f + 1) kc v5_131 = (if (M 1 3) ≤ (nI kc) then (kc, v5_131) else (if (mF_its M q 0) = 5 then (lt ((if (sF_has v4_77x (nI kc)) = 0 then 0 else (1 <<< ((((M 1 3) - 1) - (nI kc)) &&& 31))) : Int32) fun (y181 : Int32) => (lt (v5_131 ||| y181) fun (x182 : Int32) => (mF_seesOf_L131 M q v4_77x f (kc + 1) x182))) else (kc, v5_131))) := rfl
def mF_seesOf_L77 (M : mS) (q : Nat) (x12 : Int32) : Nat → Nat → Int32 → Nat × Int32
  | 0, kb, v4_77 => (kb, v4_77)
  | f + 1, kb, v4_77 => (if (nI kb) ≤ 0 then (kb, v4_77) else (if (nI kb) ≤ ((nI (aN M q)) - x12) then (kb, v4_77) else (if (sF_has (M 1 9) ((nI kb) - 1)) = 0 then (lt (v4_77 ||| (1 <<< (((nI kb) - 1) &&& 31))) fun (x116 : Int32) => (mF_seesOf_L77 M q x12 f (kb - 1) x116)) else (kb, v4_77))))
theorem mF_seesOf_L77_s (M : mS) (q : Nat) (x12 : Int32) (f : Nat) (kb : Nat) (v4_77 : Int32) : mF_seesOf_L77 M q x12 (f + 1) kb v4_77 = (if (nI kb) ≤ 0 then (kb, v4_77) else (if (nI kb) ≤ ((nI (aN M q)) - x12) then (kb, v4_77) else (if (sF_has (M 1 9) ((nI kb) - 1)) = 0 then (lt (v4_77 ||| (1 <<< (((nI kb) - 1) &&& 31))) fun (x116 : Int32) => (mF_seesOf_L77 M q x12 f (kb - 1) x116)) else (kb, v4_77)))) := rfl
def mF_seesOf_L21 (M : mS) (q : Nat) (x12 : Int32) : Nat → Nat → Int32 → Nat × Int32
  | 0, ka, v4_21 => (ka, v4_21)
  | f + 1, ka, v4_21 => (if ((M 1 3) - 1) ≤ (nI ka) then (ka, v4_21) else (if ((nI (aN M q)) + x12) ≤ (nI ka) then (ka, v4_21) else (if (sF_has (M 1 9) (nI ka)) = 0 then (lt (v4_21 ||| (1 <<< (((nI ka) + 1) &&& 31))) fun (x66 : Int32) => (mF_seesOf_L21 M q x12 f (ka + 1) x66)) else (ka, v4_21))))
theorem mF_seesOf_L21_s (M : mS) (q : Nat) (x12 : Int32) (f : Nat) (ka : Nat) (v4_21 : Int32) : mF_seesOf_L21 M q x12 (f + 1) ka v4_21 = (if ((M 1 3) - 1) ≤ (nI ka) then (ka, v4_21) else (if ((nI (aN M q)) + x12) ≤ (nI ka) then (ka, v4_21) else (if (sF_has (M 1 9) (nI ka)) = 0 then (lt (v4_21 ||| (1 <<< (((nI ka) + 1) &&& 31))) fun (x66 : Int32) => (mF_seesOf_L21 M q x12 f (ka + 1) x66)) else (ka, v4_21)))) := rfl
def mF_seesOf (M : mS) (q : Nat) : Int32 := (lt (mF_sight M q) fun (x12 : Int32) => lt (1 <<< ((nI (aN M q)) &&& 31)) fun (x16 : Int32) => (lt2 (mF_seesOf_L21 M q x12 fu11 (aN M q) x16) fun (kax : Nat) (v4_21x : Int32) => (lt2 (mF_seesOf_L77 M q x12 fu11 (aN M q) v4_21x) fun (kbx : Nat) (v4_77x : Int32) => (lt2 (mF_seesOf_L131 M q v4_77x fu11 0 v4_77x) fun (kcx : Nat) (v5_131x : Int32) => v5_131x))))
def mF_takes (M : mS) (q : Nat) : Int32 := (lt (mF_its M q 0) fun (x6 : Int32) => (if x6 = 3 then (lt (mF_lawOf M 1 (mF_its M q 1) (M 1 (12 + (aN M q))) (M 1 0)) fun (x51 : Int32) => (if x6 = 3 then x51 else (x51 / 2))) else (if x6 = 6 then (lt (mF_lawOf M 1 (mF_its M q 1) (M 1 (12 + (aN M q))) (M 1 0)) fun (x51 : Int32) => (if x6 = 3 then x51 else (x51 / 2))) else 0)))
def mF_takesAndGoes (M : mS) (q : Nat) : mS := (lt (mF_takes M q) fun (x15 : Int32) => (lt ((if x15 ≤ (M 1 (12 + (aN M q))) then x15 else (M 1 (12 + (aN M q)))) : Int32) fun (y36 : Int32) => (lt (mU M 1 (12 + (aN M q)) ((M 1 (12 + (aN M q))) - y36)) fun (M46 : mS) => lt (mU M46 1 11 (sF_held ((M46 1 11) + y36) 0 99999)) fun (M68 : mS) => lt ((mF_its M68 q 2) + (mF_its M68 q 3)) fun (x82 : Int32) => (lt ((if (mF_isCell M68 x82) = 0 then (lt (mF_gets M68 q 3 (-(mF_its M68 q 3))) fun (M114 : mS) => M114) else (lt (mF_gets M68 q 2 x82) fun (M98 : mS) => M98)) : mS) fun (M117 : mS) => M117))))
/-! of 09.ref6 -/
theorem lt_i {α β : Type} (e : α) (f : α → β) : lt e f = f e := id rfl
theorem lt2_i {α β γ : Type} (e : α × β) (f : α → β → γ) : lt2 e f = f e.1 e.2 := id rfl
theorem lt3_i {α β γ δ : Type} (e : α × β × γ) (f : α → β → γ → δ) : lt3 e f = f e.1 e.2.1 e.2.2 := id rfl
theorem lt4_i {α β γ δ ε : Type} (e : α × β × γ × δ) (f : α → β → γ → δ → ε) : lt4 e f = f e.1 e.2.1 e.2.2.1 e.2.2.2 := id rfl
theorem mU_row {M : mS} {j k i : Nat} {x : Int32} (h : i ≠ j) : mU M j k x i = M i := by unfold mU va_up; rw [if_neg h]
theorem mU_at {M : mS} {j k : Nat} {x : Int32} : mU M j k x j = upd (M j) k x := by unfold mU va_up; rw [if_pos rfl]
theorem mU_ne {M : mS} {j k i : Nat} {x : Int32} (h : i ≠ k) : mU M j k x j i = M j i := by rw [mU_at, pk_un h]
theorem mU_eq {M : mS} {j k : Nat} {x : Int32} : mU M j k x j k = x := by rw [mU_at, pk_us]
theorem rOK_row {M M2 : mS} (h : M2 1 = M 1) (hR : rOK M) : rOK M2 := by
  unfold rOK cOK pOK kOK aOK sOK at hR ⊢
  rw [h]
  exact hR
theorem rOK_up {M : mS} {i : Nat} {x : Int32} (hR : rOK M) (h1 : i ≠ 3) (h2 : i ≠ 8) (h3 : i ≠ 6) (h4 : i ≠ 7) (h5 : ∀ q, q < 8 → i ≠ 32 + 4 * q + 0) (h6 : ∀ q, q < 8 → i ≠ 32 + 4 * q + 2) : rOK (mU M 1 i x) := by
  obtain ⟨hC, hP, hK, hA, hS⟩ := hR
  refine ⟨?_, ?_, ?_, ?_, ?_⟩
  · unfold cOK; rw [mU_ne (Ne.symm h1)]; exact hC
  · unfold pOK; rw [mU_ne (Ne.symm h2)]; exact hP
  · intro q hq; rw [mU_ne (Ne.symm (h5 q hq))]; exact hK q hq
  · intro q hq; rw [mU_ne (Ne.symm (h6 q hq))]; exact hA q hq
  · intro u hu; rw [mU_ne (show 6 + u ≠ i by omega)]; exact hS u hu
theorem rOK_at {M : mS} {q : Nat} {x : Int32} (hR : rOK M) (hq : q < 8) (hx : x = nI (vn x) ∧ vn x < 10) : rOK (mU M 1 (32 + 4 * q + 2) x) := by
  obtain ⟨hC, hP, hK, hA, hS⟩ := hR
  refine ⟨?_, ?_, ?_, ?_, ?_⟩
  · unfold cOK; rw [mU_ne (by omega)]; exact hC
  · unfold pOK; rw [mU_ne (by omega)]; exact hP
  · intro p hp; rw [mU_ne (by omega)]; exact hK p hp
  · intro p hp
    by_cases e : p = q
    · subst e; rw [mU_eq]; exact hx
    · rw [mU_ne (by omega)]; exact hA p hp
  · intro u hu; rw [mU_ne (by omega)]; exact hS u hu
theorem tG_form (M : mS) (q : Nat) : ∃ x y z : Int32, mF_takesAndGoes M q = mU (mU (mU M 1 (12 + aN M q) x) 1 11 y) 1 (32 + 4 * q + 3) z ∨ (¬ mF_isCell (mU (mU M 1 (12 + aN M q) x) 1 11 y) z = 0 ∧ mF_takesAndGoes M q = mU (mU (mU M 1 (12 + aN M q) x) 1 11 y) 1 (32 + 4 * q + 2) z) := by
  unfold mF_takesAndGoes
  simp only [lt_i]
  generalize (if mF_takes M q ≤ M 1 (12 + aN M q) then mF_takes M q else M 1 (12 + aN M q)) = v
  refine ⟨M 1 (12 + aN M q) - v, sF_held (mU M 1 (12 + aN M q) (M 1 (12 + aN M q) - v) 1 11 + v) 0 99999, ?_⟩
  generalize hM : mU (mU M 1 (12 + aN M q) (M 1 (12 + aN M q) - v)) 1 11 (sF_held (mU M 1 (12 + aN M q) (M 1 (12 + aN M q) - v) 1 11 + v) 0 99999) = M2
  by_cases hc : mF_isCell M2 (mF_its M2 q 2 + mF_its M2 q 3) = 0
  · exact ⟨_, Or.inl (if_pos hc)⟩
  · exact ⟨_, Or.inr ⟨hc, if_neg hc⟩⟩
theorem tG_k (M : mS) (q j : Nat) (h : j < 11) : mF_takesAndGoes M q 1 j = M 1 j := by
  obtain ⟨x, y, z, e | ⟨-, e⟩⟩ := tG_form M q
  · rw [e, mU_ne (by omega), mU_ne (by omega), mU_ne (by omega)]
  · rw [e, mU_ne (by omega), mU_ne (by omega), mU_ne (by omega)]
theorem tG_row (M : mS) (q i : Nat) (h : i ≠ 1) : mF_takesAndGoes M q i = M i := by
  obtain ⟨x, y, z, e | ⟨-, e⟩⟩ := tG_form M q
  · rw [e, mU_row h, mU_row h, mU_row h]
  · rw [e, mU_row h, mU_row h, mU_row h]
theorem tG_R {M : mS} {q : Nat} (hR : rOK M) (hq : q < 8) : rOK (mF_takesAndGoes M q) := by
  have hA2 : aN M q < 10 := (hR.2.2.2.1 q hq).2
  have h1 : ∀ x y, rOK (mU (mU M 1 (12 + aN M q) x) 1 11 y) := fun x y => rOK_up (rOK_up hR (by omega) (by omega) (by omega) (by omega) (fun _ _ => by omega) (fun _ _ => by omega)) (by omega) (by omega) (by omega) (by omega) (fun _ _ => by omega) (fun _ _ => by omega)
  obtain ⟨x, y, z, e | ⟨hc, e⟩⟩ := tG_form M q
  · rw [e]
    exact rOK_up (h1 _ _) (by omega) (by omega) (by omega) (by omega) (fun _ _ => by omega) (fun _ _ => by omega)
  · rw [e]
    have h2 := cell_of (h1 _ _).1 hc
    have h3 := (h1 x y).1.2.2
    exact rOK_at (h1 _ _) hq ⟨h2.1, by omega⟩
def mF_oneHour_L169 (M108x : mS) : Nat → mS
  | 0 => M108x
  | k169 + 1 => lt (mF_oneHour_L169 M108x k169) fun (M169 : mS) => (lt ((if (nI k169) = (M169 0 15) then M169 else (lt (mF_takesAndGoes M169 k169) fun (M190 : mS) => M190)) : mS) fun (M193 : mS) => M193)
theorem mF_oneHour_L169_0 (M108x : mS) : mF_oneHour_L169 M108x 0 = M108x := rfl
theorem mF_oneHour_L169_s (M108x : mS) (k169 : Nat) : mF_oneHour_L169 M108x (k169 + 1) = lt (mF_oneHour_L169 M108x k169) fun (M169 : mS) => (lt ((if (nI k169) = (M169 0 15) then M169 else (lt (mF_takesAndGoes M169 k169) fun (M190 : mS) => M190)) : mS) fun (M193 : mS) => M193) := rfl
def mF_oneHour_L108 (M27x : mS) : Nat → mS
  | 0 => M27x
  | k108 + 1 => lt (mF_oneHour_L108 M27x k108) fun (M108 : mS) => (lt (mU M108 1 (12 + k108) (sF_held (((M108 1 (12 + k108)) + ((M108 6 k108) / 2)) - (M108 1 (22 + k108))) 0 99999)) fun (M160 : mS) => M160)
theorem mF_oneHour_L108_0 (M27x : mS) : mF_oneHour_L108 M27x 0 = M27x := rfl
theorem mF_oneHour_L108_s (M27x : mS) (k108 : Nat) : mF_oneHour_L108 M27x (k108 + 1) = lt (mF_oneHour_L108 M27x k108) fun (M108 : mS) => (lt (mU M108 1 (12 + k108) (sF_held (((M108 1 (12 + k108)) + ((M108 6 k108) / 2)) - (M108 1 (22 + k108))) 0 99999)) fun (M160 : mS) => M160) := rfl
def mF_oneHour_L58 (k27 : Nat) (M27 : mS) (y55 : Int32) : Nat → mS
  | 0 => M27
  | k58 + 1 => lt (mF_oneHour_L58 k27 M27 y55 k58) fun (M58 : mS) => (lt ((if (sF_has y55 (nI k58)) = 0 then 0 else (mF_counts M58 k27)) : Int32) fun (y92 : Int32) => (lt (mU M58 6 k58 ((M58 6 k58) + y92)) fun (M93 : mS) => M93))
theorem mF_oneHour_L58_0 (k27 : Nat) (M27 : mS) (y55 : Int32) : mF_oneHour_L58 k27 M27 y55 0 = M27 := rfl
theorem mF_oneHour_L58_s (k27 : Nat) (M27 : mS) (y55 : Int32) (k58 : Nat) : mF_oneHour_L58 k27 M27 y55 (k58 + 1) = lt (mF_oneHour_L58 k27 M27 y55 k58) fun (M58 : mS) => (lt ((if (sF_has y55 (nI k58)) = 0 then 0 else (mF_counts M58 k27)) : Int32) fun (y92 : Int32) => (lt (mU M58 6 k58 ((M58 6 k58) + y92)) fun (M93 : mS) => M93)) := rfl
def mF_oneHour_L27 (M : mS) (M2x : mS) : Nat → mS
  | 0 => M2x
  | k27 + 1 => lt (mF_oneHour_L27 M M2x k27) fun (M27 : mS) => (lt ((if (nI k27) = (M27 0 15) then 0 else (mF_seesOf M27 k27)) : Int32) fun (y55 : Int32) => (lt (mF_oneHour_L58 k27 M27 y55 (vn (M 1 3))) fun (M58x : mS) => M58x))
theorem mF_oneHour_L27_0 (M : mS) (M2x : mS) : mF_oneHour_L27 M M2x 0 = M2x := rfl
theorem mF_oneHour_L27_s (M : mS) (M2x : mS) (k27 : Nat) : mF_oneHour_L27 M M2x (k27 + 1) = lt (mF_oneHour_L27 M M2x k27) fun (M27 : mS) => (lt ((if (nI k27) = (M27 0 15) then 0 else (mF_seesOf M27 k27)) : Int32) fun (y55 : Int32) => (lt (mF_oneHour_L58 k27 M27 y55 (vn (M 1 3))) fun (M58x : mS) => M58x)) := rfl
def mF_oneHour_L2 (M : mS) : Nat → mS
  | 0 => M
  | k2 + 1 => lt (mF_oneHour_L2 M k2) fun (M2 : mS) => (lt (mU M2 6 k2 0) fun (M18 : mS) => M18)
theorem mF_oneHour_L2_0 (M : mS) : mF_oneHour_L2 M 0 = M := rfl
theorem mF_oneHour_L2_s (M : mS) (k2 : Nat) : mF_oneHour_L2 M (k2 + 1) = lt (mF_oneHour_L2 M k2) fun (M2 : mS) => (lt (mU M2 6 k2 0) fun (M18 : mS) => M18) := rfl
def mF_oneHour (M : mS) : mS := (lt (mF_oneHour_L2 M (vn (M 1 3))) fun (M2x : mS) => (lt (mF_oneHour_L27 M M2x (vn (M 1 8))) fun (M27x : mS) => (lt (mF_oneHour_L108 M27x (vn (M 1 3))) fun (M108x : mS) => (lt (mF_oneHour_L169 M108x (vn (M 1 8))) fun (M169x : mS) => (lt (mU M169x 1 0 ((M169x 1 0) + 1)) fun (M208 : mS) => M208)))))
theorem oH_L2 (M : mS) (k i : Nat) (h : i ≠ 6) : mF_oneHour_L2 M k i = M i := by
  induction k with
  | zero => rfl
  | succ k ih => rw [mF_oneHour_L2_s]; simp only [lt_i]; rw [mU_row h, ih]
theorem oH_L58 (k27 : Nat) (M : mS) (y : Int32) (k i : Nat) (h : i ≠ 6) : mF_oneHour_L58 k27 M y k i = M i := by
  induction k with
  | zero => rfl
  | succ k ih => rw [mF_oneHour_L58_s]; simp only [lt_i]; rw [mU_row h, ih]
theorem oH_L27 (M M2 : mS) (k i : Nat) (h : i ≠ 6) : mF_oneHour_L27 M M2 k i = M2 i := by
  induction k with
  | zero => rfl
  | succ k ih => rw [mF_oneHour_L27_s]; simp only [lt_i]; rw [oH_L58 _ _ _ _ _ h, ih]
theorem oH_L108 (M : mS) (k j : Nat) (h : j < 12) : mF_oneHour_L108 M k 1 j = M 1 j := by
  induction k with
  | zero => rfl
  | succ k ih => rw [mF_oneHour_L108_s]; simp only [lt_i]; rw [mU_ne (by omega), ih]
theorem oH_L108_row (M : mS) (k i : Nat) (h : i ≠ 1) : mF_oneHour_L108 M k i = M i := by
  induction k with
  | zero => rfl
  | succ k ih => rw [mF_oneHour_L108_s]; simp only [lt_i]; rw [mU_row h, ih]
theorem oH_L108_R {M : mS} (hR : rOK M) (k : Nat) (hk : k ≤ 10) : rOK (mF_oneHour_L108 M k) := by
  induction k with
  | zero => exact hR
  | succ k ih => rw [mF_oneHour_L108_s]; simp only [lt_i]; exact rOK_up (ih (by omega)) (by omega) (by omega) (by omega) (by omega) (fun _ _ => by omega) (fun _ _ => by omega)
theorem oH_L169 (M : mS) (k j : Nat) (h : j < 11) : mF_oneHour_L169 M k 1 j = M 1 j := by
  induction k with
  | zero => rfl
  | succ k ih =>
    rw [mF_oneHour_L169_s]; simp only [lt_i]
    split
    · exact ih
    · rw [tG_k _ _ _ h, ih]
theorem oH_L169_row (M : mS) (k i : Nat) (h : i ≠ 1) : mF_oneHour_L169 M k i = M i := by
  induction k with
  | zero => rfl
  | succ k ih =>
    rw [mF_oneHour_L169_s]; simp only [lt_i]
    split
    · exact ih
    · rw [tG_row _ _ _ h, ih]
theorem oH_L169_R {M : mS} (hR : rOK M) (k : Nat) (hk : k ≤ 8) : rOK (mF_oneHour_L169 M k) := by
  induction k with
  | zero => exact hR
  | succ k ih =>
    rw [mF_oneHour_L169_s]; simp only [lt_i]
    split
    · exact ih (by omega)
    · exact tG_R (ih (by omega)) (by omega)
/-- an hour: what else it leaves as it is -/
theorem oH_k (M : mS) (j : Nat) (h0 : j ≠ 0) (h : j < 11) : mF_oneHour M 1 j = M 1 j := by
  unfold mF_oneHour
  simp only [lt_i]
  rw [mU_ne h0, oH_L169 _ _ _ h, oH_L108 _ _ _ (by omega), oH_L27 _ _ _ 1 (by decide), oH_L2 _ _ 1 (by decide)]
theorem oH_row (M : mS) (i : Nat) (h1 : i ≠ 1) (h6 : i ≠ 6) : mF_oneHour M i = M i := by
  unfold mF_oneHour
  simp only [lt_i]
  rw [mU_row h1, oH_L169_row _ _ _ h1, oH_L108_row _ _ _ h1, oH_L27 _ _ _ _ h6, oH_L2 _ _ _ h6]
theorem oH_R {M : mS} (hR : rOK M) : rOK (mF_oneHour M) := by
  have hC := hR.1.2.2
  have hP := hR.2.1.2
  unfold mF_oneHour
  simp only [lt_i]
  refine rOK_up (oH_L169_R (oH_L108_R (rOK_row ?_ hR) _ hC) _ hP) (by omega) (by omega) (by omega) (by omega) (fun _ _ => by omega) (fun _ _ => by omega)
  rw [oH_L27 _ _ _ 1 (by decide), oH_L2 _ _ 1 (by decide)]
/-! of 10.ref7 -/
def fu52 : Nat := 52
theorem in_pos {v lo hi : Int32} {m : Nat} (h : ¬ sF_in v lo hi = 0) (h0 : 0 ≤ lo) (hh : hi = nI m ∧ m < 2 ^ 31) : v = nI (vn v) ∧ vn v ≤ m := by
  obtain ⟨h1, h2⟩ := in_of h
  refine nn_of (fun e9 => h1 (Int32.lt_of_lt_of_le e9 h0)) ?_ hh.2
  rw [← hh.1]
  exact Int32.not_lt.mp h2
theorem lp_le {x : Int32} {n k : Nat} (hx : x = nI n) (h : ¬ x < nI k) (hn : n < 2 ^ 31) (hk : k < 2 ^ 31) : k ≤ n := by
  rw [hx, nI_ltI hn hk] at h
  omega
theorem then_w {M : mS} {w : Int32} (hC : cOK M) (h : ¬ sF_in w (-1) (M 1 3 - 1) = 0) (h0 : 0 ≤ w) : w = nI (vn w) ∧ vn w < vn (M 1 3) := by
  have h2 := in_of h
  have h3 := hC.2
  have h4 := nt_subI hC.1 (by omega)
  rw [h4.1] at h2
  have h5 := nn_of (Int32.not_lt.mpr h0) (Int32.not_lt.mp h2.2) h4.2
  exact ⟨h5.1, by omega⟩
theorem mv12_row (M : mS) (r : Nat) (h : r ≠ 2) : mF_moveAll_1_2 M r = M r := by
  have key : ∀ k, mF_moveAll_1_2_L2 M k r = M r := by
    intro k
    induction k with
    | zero => rfl
    | succ k ih => rw [mF_moveAll_1_2_L2_s]; simp only [lt_i]; rw [mU_row h, ih]
  unfold mF_moveAll_1_2
  rw [lt_i]
  exact key 234
theorem mv12_at (M : mS) (x : Nat) : mF_moveAll_1_2 M 2 x = if x < 234 then M 1 x else M 2 x := by
  have key : ∀ k, mF_moveAll_1_2_L2 M k 1 = M 1 ∧ mF_moveAll_1_2_L2 M k 2 x = if x < k then M 1 x else M 2 x := by
    intro k
    induction k with
    | zero => exact ⟨rfl, by rw [if_neg (Nat.not_lt_zero _)]; rfl⟩
    | succ k ih =>
      rw [mF_moveAll_1_2_L2_s]; simp only [lt_i]
      refine ⟨by rw [mU_row (by decide)]; exact ih.1, ?_⟩
      by_cases e : x = k
      · subst e; rw [mU_eq, if_pos (Nat.lt_succ_self _), ih.1]
      · rw [mU_ne e, ih.2]
        by_cases e2 : x < k
        · rw [if_pos e2, if_pos (by omega)]
        · rw [if_neg e2, if_neg (by omega)]
  unfold mF_moveAll_1_2
  rw [lt_i]
  exact (key 234).2
theorem mv21_row (M : mS) (r : Nat) (h : r ≠ 1) : mF_moveAll_2_1 M r = M r := by
  have key : ∀ k, mF_moveAll_2_1_L2 M k r = M r := by
    intro k
    induction k with
    | zero => rfl
    | succ k ih => rw [mF_moveAll_2_1_L2_s]; simp only [lt_i]; rw [mU_row h, ih]
  unfold mF_moveAll_2_1
  rw [lt_i]
  exact key 234
theorem mv21_at (M : mS) (x : Nat) : mF_moveAll_2_1 M 1 x = if x < 234 then M 2 x else M 1 x := by
  have key : ∀ k, mF_moveAll_2_1_L2 M k 2 = M 2 ∧ mF_moveAll_2_1_L2 M k 1 x = if x < k then M 2 x else M 1 x := by
    intro k
    induction k with
    | zero => exact ⟨rfl, by rw [if_neg (Nat.not_lt_zero _)]; rfl⟩
    | succ k ih =>
      rw [mF_moveAll_2_1_L2_s]; simp only [lt_i]
      refine ⟨by rw [mU_row (by decide)]; exact ih.1, ?_⟩
      by_cases e : x = k
      · subst e; rw [mU_eq, if_pos (Nat.lt_succ_self _), ih.1]
      · rw [mU_ne e, ih.2]
        by_cases e2 : x < k
        · rw [if_pos e2, if_pos (by omega)]
        · rw [if_neg e2, if_neg (by omega)]
  unfold mF_moveAll_2_1
  rw [lt_i]
  exact (key 234).2
theorem mv13_row (M : mS) (r : Nat) (h : r ≠ 3) : mF_moveAll_1_3 M r = M r := by
  have key : ∀ k, mF_moveAll_1_3_L2 M k r = M r := by
    intro k
    induction k with
    | zero => rfl
    | succ k ih => rw [mF_moveAll_1_3_L2_s]; simp only [lt_i]; rw [mU_row h, ih]
  unfold mF_moveAll_1_3
  rw [lt_i]
  exact key 234
theorem mv13_at (M : mS) (x : Nat) : mF_moveAll_1_3 M 3 x = if x < 234 then M 1 x else M 3 x := by
  have key : ∀ k, mF_moveAll_1_3_L2 M k 1 = M 1 ∧ mF_moveAll_1_3_L2 M k 3 x = if x < k then M 1 x else M 3 x := by
    intro k
    induction k with
    | zero => exact ⟨rfl, by rw [if_neg (Nat.not_lt_zero _)]; rfl⟩
    | succ k ih =>
      rw [mF_moveAll_1_3_L2_s]; simp only [lt_i]
      refine ⟨by rw [mU_row (by decide)]; exact ih.1, ?_⟩
      by_cases e : x = k
      · subst e; rw [mU_eq, if_pos (Nat.lt_succ_self _), ih.1]
      · rw [mU_ne e, ih.2]
        by_cases e2 : x < k
        · rw [if_pos e2, if_pos (by omega)]
        · rw [if_neg e2, if_neg (by omega)]
  unfold mF_moveAll_1_3
  rw [lt_i]
  exact (key 234).2
theorem mv31_row (M : mS) (r : Nat) (h : r ≠ 1) : mF_moveAll_3_1 M r = M r := by
  have key : ∀ k, mF_moveAll_3_1_L2 M k r = M r := by
    intro k
    induction k with
    | zero => rfl
    | succ k ih => rw [mF_moveAll_3_1_L2_s]; simp only [lt_i]; rw [mU_row h, ih]
  unfold mF_moveAll_3_1
  rw [lt_i]
  exact key 234
theorem mv31_at (M : mS) (x : Nat) : mF_moveAll_3_1 M 1 x = if x < 234 then M 3 x else M 1 x := by
  have key : ∀ k, mF_moveAll_3_1_L2 M k 3 = M 3 ∧ mF_moveAll_3_1_L2 M k 1 x = if x < k then M 3 x else M 1 x := by
    intro k
    induction k with
    | zero => exact ⟨rfl, by rw [if_neg (Nat.not_lt_zero _)]; rfl⟩
    | succ k ih =>
      rw [mF_moveAll_3_1_L2_s]; simp only [lt_i]
      refine ⟨by rw [mU_row (by decide)]; exact ih.1, ?_⟩
      by_cases e : x = k
      · subst e; rw [mU_eq, if_pos (Nat.lt_succ_self _), ih.1]
      · rw [mU_ne e, ih.2]
        by_cases e2 : x < k
        · rw [if_pos e2, if_pos (by omega)]
        · rw [if_neg e2, if_neg (by omega)]
  unfold mF_moveAll_3_1
  rw [lt_i]
  exact (key 234).2
theorem mv14_row (M : mS) (r : Nat) (h : r ≠ 4) : mF_moveAll_1_4 M r = M r := by
  have key : ∀ k, mF_moveAll_1_4_L2 M k r = M r := by
    intro k
    induction k with
    | zero => rfl
    | succ k ih => rw [mF_moveAll_1_4_L2_s]; simp only [lt_i]; rw [mU_row h, ih]
  unfold mF_moveAll_1_4
  rw [lt_i]
  exact key 234
theorem mv14_at (M : mS) (x : Nat) : mF_moveAll_1_4 M 4 x = if x < 234 then M 1 x else M 4 x := by
  have key : ∀ k, mF_moveAll_1_4_L2 M k 1 = M 1 ∧ mF_moveAll_1_4_L2 M k 4 x = if x < k then M 1 x else M 4 x := by
    intro k
    induction k with
    | zero => exact ⟨rfl, by rw [if_neg (Nat.not_lt_zero _)]; rfl⟩
    | succ k ih =>
      rw [mF_moveAll_1_4_L2_s]; simp only [lt_i]
      refine ⟨by rw [mU_row (by decide)]; exact ih.1, ?_⟩
      by_cases e : x = k
      · subst e; rw [mU_eq, if_pos (Nat.lt_succ_self _), ih.1]
      · rw [mU_ne e, ih.2]
        by_cases e2 : x < k
        · rw [if_pos e2, if_pos (by omega)]
        · rw [if_neg e2, if_neg (by omega)]
  unfold mF_moveAll_1_4
  rw [lt_i]
  exact (key 234).2
theorem mv41_row (M : mS) (r : Nat) (h : r ≠ 1) : mF_moveAll_4_1 M r = M r := by
  have key : ∀ k, mF_moveAll_4_1_L2 M k r = M r := by
    intro k
    induction k with
    | zero => rfl
    | succ k ih => rw [mF_moveAll_4_1_L2_s]; simp only [lt_i]; rw [mU_row h, ih]
  unfold mF_moveAll_4_1
  rw [lt_i]
  exact key 234
theorem mv41_at (M : mS) (x : Nat) : mF_moveAll_4_1 M 1 x = if x < 234 then M 4 x else M 1 x := by
  have key : ∀ k, mF_moveAll_4_1_L2 M k 4 = M 4 ∧ mF_moveAll_4_1_L2 M k 1 x = if x < k then M 4 x else M 1 x := by
    intro k
    induction k with
    | zero => exact ⟨rfl, by rw [if_neg (Nat.not_lt_zero _)]; rfl⟩
    | succ k ih =>
      rw [mF_moveAll_4_1_L2_s]; simp only [lt_i]
      refine ⟨by rw [mU_row (by decide)]; exact ih.1, ?_⟩
      by_cases e : x = k
      · subst e; rw [mU_eq, if_pos (Nat.lt_succ_self _), ih.1]
      · rw [mU_ne e, ih.2]
        by_cases e2 : x < k
        · rw [if_pos e2, if_pos (by omega)]
        · rw [if_neg e2, if_neg (by omega)]
  unfold mF_moveAll_4_1
  rw [lt_i]
  exact (key 234).2
theorem rOK_pt {M M2 : mS} (h : ∀ x, x < 64 → M2 1 x = M 1 x) (hR : rOK M) : rOK M2 := by
  obtain ⟨hC, hP, hK, hA, hS⟩ := hR
  refine ⟨?_, ?_, ?_, ?_, ?_⟩
  · unfold cOK; rw [h 3 (by decide)]; exact hC
  · unfold pOK; rw [h 8 (by decide)]; exact hP
  · intro q hq; rw [h _ (by omega)]; exact hK q hq
  · intro q hq; rw [h _ (by omega)]; exact hA q hq
  · intro u hu; rw [h _ (by omega)]; exact hS u hu
def mF_passes_L2 (M : mS) : Nat → mS
  | 0 => M
  | k2 + 1 => lt (mF_passes_L2 M k2) fun (M2 : mS) => (lt (mF_oneHour M2) fun (M8 : mS) => M8)
theorem mF_passes_L2_0 (M : mS) : mF_passes_L2 M 0 = M := rfl
theorem mF_passes_L2_s (M : mS) (k2 : Nat) : mF_passes_L2 M (k2 + 1) = lt (mF_passes_L2 M k2) fun (M2 : mS) => (lt (mF_oneHour M2) fun (M8 : mS) => M8) := rfl
def mF_passes (M : mS) (n : Nat) : mS := (lt (mF_passes_L2 M n) fun (M2x : mS) => M2x)

theorem pS_R {M : mS} (hR : rOK M) (k : Nat) : rOK (mF_passes_L2 M k) := by
  induction k with
  | zero => exact hR
  | succ k ih => rw [mF_passes_L2_s]; simp only [lt_i]; exact oH_R ih
theorem pS_k (M : mS) (k j : Nat) (h0 : j ≠ 0) (h : j < 11) : mF_passes_L2 M k 1 j = M 1 j := by
  induction k with
  | zero => rfl
  | succ k ih => rw [mF_passes_L2_s]; simp only [lt_i]; rw [oH_k _ _ h0 h, ih]
theorem pS_row (M : mS) (k i : Nat) (h1 : i ≠ 1) (h6 : i ≠ 6) : mF_passes_L2 M k i = M i := by
  induction k with
  | zero => rfl
  | succ k ih => rw [mF_passes_L2_s]; simp only [lt_i]; rw [oH_row _ _ h1 h6, ih]
theorem ps_e (M : mS) (n : Nat) : mF_passes M n = mF_passes_L2 M n := by unfold mF_passes; rw [lt_i]
def mF_hours (M : mS) (n : Int32) : Int32 × mS := (if (sF_in n 1 50) = 0 then (lt2 (mF_errs M (-1000000001)) fun (x13 : Int32) (M13 : mS) => (x13, M13)) else (if ((M 1 0) + n) ≤ 9999 then (lt (mF_passes M (vn n)) fun (M40 : mS) => ((mF_grains M40), M40)) else (lt2 (mF_errs M (-1000000003)) fun (x34 : Int32) (M34 : mS) => (x34, M34))))
def mF_drawn (M : mS) (b : Int32) : Int32 × mS := (lt (mU M 1 2 (((M 1 2) * 1103515245) + 12345)) fun (M18 : mS) => (((((M18 1 2).toUInt32 >>> ((8 : Int32).toUInt32 &&& Int32.toUInt32 31)).toInt32) - (((M18 1 2).toUInt32 >>> ((8 : Int32).toUInt32 &&& Int32.toUInt32 31)).toInt32) / b * b), M18))
def mF_evening_L2 (M : mS) : Nat → mS
  | 0 => M
  | k2 + 1 => lt (mF_evening_L2 M k2) fun (M2 : mS) => (lt ((if (sF_has (M2 1 10) (nI k2)) = 0 then M2 else (lt ((M2 1 (12 + k2)) - (M2 1 (12 + k2)) / 9 * 9) fun (x40 : Int32) => lt (mU M2 1 ((12 + k2) + 1) (sF_held (((M2 1 ((12 + k2) + 1)) + (M2 1 (12 + k2))) - x40) 0 99999)) fun (M80 : mS) => lt (mU M80 1 (12 + k2) x40) fun (M90 : mS) => M90)) : mS) fun (M91 : mS) => M91)
theorem mF_evening_L2_0 (M : mS) : mF_evening_L2 M 0 = M := rfl
theorem mF_evening_L2_s (M : mS) (k2 : Nat) : mF_evening_L2 M (k2 + 1) = lt (mF_evening_L2 M k2) fun (M2 : mS) => (lt ((if (sF_has (M2 1 10) (nI k2)) = 0 then M2 else (lt ((M2 1 (12 + k2)) - (M2 1 (12 + k2)) / 9 * 9) fun (x40 : Int32) => lt (mU M2 1 ((12 + k2) + 1) (sF_held (((M2 1 ((12 + k2) + 1)) + (M2 1 (12 + k2))) - x40) 0 99999)) fun (M80 : mS) => lt (mU M80 1 (12 + k2) x40) fun (M90 : mS) => M90)) : mS) fun (M91 : mS) => M91) := rfl
def mF_evening (M : mS) : Int32 × mS := (lt (mF_evening_L2 M (vn (M 1 3) - 1)) fun (M2x : mS) => ((mF_grains M2x), M2x))

theorem ev_L2 (M : mS) (k j : Nat) (h : j < 12) : mF_evening_L2 M k 1 j = M 1 j := by
  induction k with
  | zero => rfl
  | succ k ih =>
    rw [mF_evening_L2_s]; simp only [lt_i]
    split
    · exact ih
    · rw [mU_ne (by omega), mU_ne (by omega), ih]
def mF_hail_L19 (M : mS) (v : Int32) : Nat → mS
  | 0 => M
  | k19 + 1 => lt (mF_hail_L19 M v k19) fun (M19 : mS) => (lt (mU M19 1 (12 + k19) ((M19 1 (12 + k19)) / v)) fun (M41 : mS) => M41)
theorem mF_hail_L19_0 (M : mS) (v : Int32) : mF_hail_L19 M v 0 = M := rfl
theorem mF_hail_L19_s (M : mS) (v : Int32) (k19 : Nat) : mF_hail_L19 M v (k19 + 1) = lt (mF_hail_L19 M v k19) fun (M19 : mS) => (lt (mU M19 1 (12 + k19) ((M19 1 (12 + k19)) / v)) fun (M41 : mS) => M41) := rfl
def mF_hail (M : mS) (v : Int32) : Int32 × mS := (if (sF_in v 2 9) = 0 then (lt2 (mF_errs M (-1000000001)) fun (x13 : Int32) (M13 : mS) => (x13, M13)) else (lt (mF_hail_L19 M v (vn (M 1 3))) fun (M19x : mS) => ((mF_grains M19x), M19x)))

theorem ha_L19 (v : Int32) (M : mS) (k j : Nat) (h : j < 12) : mF_hail_L19 M v k 1 j = M 1 j := by
  induction k with
  | zero => rfl
  | succ k ih => rw [mF_hail_L19_s]; simp only [lt_i]; rw [mU_ne (by omega), ih]
def mF_then (M : mS) (n : Int32) (what : Int32) : Int32 × mS := (if (sF_in n 0 50) = 0 then (lt2 (mF_errs M (-1000000001)) fun (x29 : Int32) (M29 : mS) => (x29, M29)) else (if (sF_in what (-1) ((M 1 3) - 1)) = 0 then (lt2 (mF_errs M (-1000000001)) fun (x29 : Int32) (M29 : mS) => (x29, M29)) else (lt (mF_moveAll_1_3 M) fun (M42 : mS) => lt (mF_passes M42 (vn n)) fun (M47 : mS) => (lt ((if 0 ≤ what then (M47 1 (12 + (vn what))) else (M47 1 11)) : Int32) fun (y73 : Int32) => (lt (mF_moveAll_3_1 M47) fun (M83 : mS) => (y73, M83))))))
def mF_full_L31 (v : Int32) : Nat → Nat → mS → Nat × mS
  | 0, kn, M31 => (kn, M31)
  | f + 1, kn, M31 => (if 50 < (nI kn) then (kn, M31) else (if v ≤ (mF_grains M31) then (kn, M31) else (lt (mF_oneHour M31) fun (M46 : mS) => (mF_full_L31 v f (kn + 1) M46))))
theorem mF_full_L31_s (v : Int32) (f : Nat) (kn : Nat) (M31 : mS) : mF_full_L31 v (f + 1) kn M31 = (if 50 < (nI kn) then (kn, M31) else (if v ≤ (mF_grains M31) then (kn, M31) else (lt (mF_oneHour M31) fun (M46 : mS) => (mF_full_L31 v f (kn + 1) M46)))) := rfl
def mF_full (M : mS) (v : Int32) : Int32 × mS := (if (sF_in v 0 999999) = 0 then (lt2 (mF_errs M (-1000000001)) fun (x13 : Int32) (M13 : mS) => (x13, M13)) else (lt (mF_moveAll_1_3 M) fun (M26 : mS) => (lt2 (mF_full_L31 v fu52 0 M26) fun (knx : Nat) (M31x : mS) => (lt (mF_moveAll_3_1 M31x) fun (M64 : mS) => (if (nI knx) ≤ 50 then (nI knx, M64) else (lt2 (mF_errs M64 (-1000000002)) fun (x76 : Int32) (M76 : mS) => (x76, M76)))))))
def mF_hasThen (M : mS) (c : Nat) (v : Int32) (n : Nat) : Int32 × mS := (lt (mF_moveAll_1_3 M) fun (M9 : mS) => lt (mF_passes M9 n) fun (M14 : mS) => (lt ((if (M14 1 (12 + c)) < v then 0 else 1) : Int32) fun (y35 : Int32) => (lt (mF_moveAll_3_1 M14) fun (M46 : mS) => (y35, M46))))
/-! of 11.ref8 -/
def mF_loose_L40 (M : mS) : Nat → mS
  | 0 => M
  | k40 + 1 => lt (mF_loose_L40 M k40) fun (M40 : mS) => (lt ((if (M40 1 8) ≤ 0 then M40 else (lt2 (mF_drawn M40 (M40 1 8)) fun (x63 : Int32) (M63 : mS) => lt2 (mF_drawn M63 3) fun (x72 : Int32) (M72 : mS) => lt (mF_gets M72 (vn x63) 3 (x72 - 1)) fun (M77 : mS) => M77)) : mS) fun (M80 : mS) => (lt (mF_oneHour M80) fun (M81 : mS) => M81))
theorem mF_loose_L40_0 (M : mS) : mF_loose_L40 M 0 = M := rfl
theorem mF_loose_L40_s (M : mS) (k40 : Nat) : mF_loose_L40 M (k40 + 1) = lt (mF_loose_L40 M k40) fun (M40 : mS) => (lt ((if (M40 1 8) ≤ 0 then M40 else (lt2 (mF_drawn M40 (M40 1 8)) fun (x63 : Int32) (M63 : mS) => lt2 (mF_drawn M63 3) fun (x72 : Int32) (M72 : mS) => lt (mF_gets M72 (vn x63) 3 (x72 - 1)) fun (M77 : mS) => M77)) : mS) fun (M80 : mS) => (lt (mF_oneHour M80) fun (M81 : mS) => M81)) := rfl
def mF_loose (M : mS) (n : Int32) : Int32 × mS := (if (sF_in n 1 40) = 0 then (lt2 (mF_errs M (-1000000001)) fun (x13 : Int32) (M13 : mS) => (x13, M13)) else (if ((M 1 0) + n) ≤ 9999 then (lt (mF_loose_L40 M (vn n)) fun (M40x : mS) => ((mF_grains M40x), M40x)) else (lt2 (mF_errs M (-1000000003)) fun (x34 : Int32) (M34 : mS) => (x34, M34))))

theorem lo_form (M : mS) : (if (M 1 8) ≤ 0 then M else (lt2 (mF_drawn M (M 1 8)) fun (x63 : Int32) (M63 : mS) => lt2 (mF_drawn M63 3) fun (x72 : Int32) (M72 : mS) => lt (mF_gets M72 (vn x63) 3 (x72 - 1)) fun (M77 : mS) => M77)) = M ∨ ∃ z1 z2 q w, (if (M 1 8) ≤ 0 then M else (lt2 (mF_drawn M (M 1 8)) fun (x63 : Int32) (M63 : mS) => lt2 (mF_drawn M63 3) fun (x72 : Int32) (M72 : mS) => lt (mF_gets M72 (vn x63) 3 (x72 - 1)) fun (M77 : mS) => M77)) = mU (mU (mU M 1 2 z1) 1 2 z2) 1 (32 + 4 * q + 3) w := by
  by_cases h : M 1 8 ≤ 0
  · exact Or.inl (if_pos h)
  · refine Or.inr ?_
    rw [if_neg h]
    simp only [lt_i, lt2_i, mF_drawn, mF_gets]
    exact ⟨_, _, _, _, rfl⟩
theorem lo_step {M : mS} (hR : rOK M) : rOK (if (M 1 8) ≤ 0 then M else (lt2 (mF_drawn M (M 1 8)) fun (x63 : Int32) (M63 : mS) => lt2 (mF_drawn M63 3) fun (x72 : Int32) (M72 : mS) => lt (mF_gets M72 (vn x63) 3 (x72 - 1)) fun (M77 : mS) => M77)) := by
  have up : ∀ {N : mS} (z : Int32), rOK N → rOK (mU N 1 2 z) := fun z h => rOK_up h (by decide) (by decide) (by decide) (by decide) (fun _ _ => by omega) (fun _ _ => by omega)
  rcases lo_form M with e | ⟨z1, z2, q, w, e⟩
  · rw [e]; exact hR
  · rw [e]; exact rOK_up (up _ (up _ hR)) (by omega) (by omega) (by omega) (by omega) (fun _ _ => by omega) (fun _ _ => by omega)
theorem lo_R {M : mS} (hR : rOK M) (k : Nat) : rOK (mF_loose_L40 M k) := by
  induction k with
  | zero => exact hR
  | succ k ih => rw [mF_loose_L40_s, lt_i, lt_i, lt_i]; exact oH_R (lo_step ih)
theorem lo_k (M : mS) (k j : Nat) (h0 : j ≠ 0) (h2 : j ≠ 2) (h : j < 11) : mF_loose_L40 M k 1 j = M 1 j := by
  induction k with
  | zero => rfl
  | succ k ih =>
    rw [mF_loose_L40_s, lt_i, lt_i, lt_i, oH_k _ _ h0 h]
    rcases lo_form (mF_loose_L40 M k) with e | ⟨z1, z2, q, w, e⟩
    · rw [e]; exact ih
    · rw [e, mU_ne (by omega), mU_ne h2, mU_ne h2]; exact ih
theorem nI_bv {x : Int32} {m : Nat} (h : x.toBitVec.toNat = m) : x = nI m := by
  apply Int32.toBitVec_inj.mp
  apply BitVec.eq_of_toNat_eq
  have h2 := x.toBitVec.isLt
  rw [pk_tn (by omega)]
  exact h
theorem ushr8 (x : Int32) : (x.toUInt32 >>> ((8 : Int32).toUInt32 &&& Int32.toUInt32 31)).toInt32 = nI (x.toBitVec.toNat / 2 ^ 8) ∧ x.toBitVec.toNat / 2 ^ 8 < 2 ^ 24 := by
  have h2 := x.toBitVec.isLt
  exact ⟨nI_bv (pk_ushr x 8 8 (by decide)), by omega⟩
theorem drawn_lt {M M2 : mS} {b x : Int32} {n : Nat} (h : (x, M2) = mF_drawn M b) (hb : b = nI n ∧ 0 < n ∧ n ≤ 8) : x = nI (vn x) ∧ vn x < n := by
  unfold mF_drawn at h
  rw [lt_i] at h
  have h1 := (Prod.mk.inj h).1
  obtain ⟨e1, e2⟩ := ushr8 (mU M 1 2 (M 1 2 * 1103515245 + 12345) 1 2)
  rw [e1, hb.1, pk_rem (by omega) hb.2.1 (by omega)] at h1
  have h3 := Nat.mod_lt ((mU M 1 2 (M 1 2 * 1103515245 + 12345) 1 2).toBitVec.toNat / 2 ^ 8) hb.2.1
  rw [h1, vn_nI (by omega)]
  exact ⟨rfl, h3⟩
def mF_whoSees_L4 (M : mS) (c : Int32) : Nat → Int32
  | 0 => 0
  | k4 + 1 => lt (mF_whoSees_L4 M c k4) fun (v2_4 : Int32) => (lt ((if (sF_has (mF_seesOf M k4) c) = 0 then 0 else (1 <<< ((nI k4) &&& 31))) : Int32) fun (y35 : Int32) => (lt (v2_4 ||| y35) fun (x36 : Int32) => x36))
theorem mF_whoSees_L4_0 (M : mS) (c : Int32) : mF_whoSees_L4 M c 0 = 0 := rfl
theorem mF_whoSees_L4_s (M : mS) (c : Int32) (k4 : Nat) : mF_whoSees_L4 M c (k4 + 1) = lt (mF_whoSees_L4 M c k4) fun (v2_4 : Int32) => (lt ((if (sF_has (mF_seesOf M k4) c) = 0 then 0 else (1 <<< ((nI k4) &&& 31))) : Int32) fun (y35 : Int32) => (lt (v2_4 ||| y35) fun (x36 : Int32) => x36)) := rfl
def mF_whoSees (M : mS) (c : Int32) : Int32 := (lt (mF_whoSees_L4 M c (vn (M 1 8))) fun (v2_4x : Int32) => v2_4x)
def mF_ofCell (M : mS) (c : Int32) (what : Int32) : Int32 × mS := (if (mF_isCell M c) = 0 then (lt2 (mF_errs M (-1000000001)) fun (x20 : Int32) (M20 : mS) => (x20, M20)) else (if (sF_in what 0 3) = 0 then (lt2 (mF_errs M (-1000000001)) fun (x20 : Int32) (M20 : mS) => (x20, M20)) else (if what = 0 then ((M 1 (12 + (vn c))), M) else (if what = 1 then ((M 1 (22 + (vn c))), M) else (if what = 2 then ((mF_whoSees M c), M) else ((mF_whoIsAt M c), M))))))
def mF_ofPerson (M : mS) (q : Int32) (what : Int32) : Int32 × mS := (if (mF_isPerson M q) = 0 then (lt2 (mF_errs M (-1000000001)) fun (x21 : Int32) (M21 : mS) => (x21, M21)) else (if (sF_in what 0 7) = 0 then (lt2 (mF_errs M (-1000000001)) fun (x21 : Int32) (M21 : mS) => (x21, M21)) else (if what = 4 then ((mF_sight M (vn q)), M) else (if what = 5 then ((mF_counts M (vn q)), M) else (if what = 6 then ((mF_takes M (vn q)), M) else (if what = 7 then ((mF_seesOf M (vn q)), M) else ((mF_its M (vn q) (vn what)), M)))))))
def mF_looks_L2 (M : mS) : Nat → mS
  | 0 => M
  | k2 + 1 => lt (mF_looks_L2 M k2) fun (M2 : mS) => (lt (mU M2 12 k2 (mF_seesOf M2 k2)) fun (M23 : mS) => M23)
theorem mF_looks_L2_0 (M : mS) : mF_looks_L2 M 0 = M := rfl
theorem mF_looks_L2_s (M : mS) (k2 : Nat) : mF_looks_L2 M (k2 + 1) = lt (mF_looks_L2 M k2) fun (M2 : mS) => (lt (mU M2 12 k2 (mF_seesOf M2 k2)) fun (M23 : mS) => M23) := rfl
def mF_looks (M : mS) : mS := (lt (mF_looks_L2 M (vn (M 1 8))) fun (M2x : mS) => M2x)

theorem lk_row (M : mS) (k i : Nat) (h : i ≠ 12) : mF_looks_L2 M k i = M i := by
  induction k with
  | zero => rfl
  | succ k ih => rw [mF_looks_L2_s]; simp only [lt_i]; rw [mU_row h, ih]
def mF_grows_L26 (M : mS) (set : Int32) (ka : Nat) : Nat → Int32
  | 0 => 0
  | k26 + 1 => lt (mF_grows_L26 M set ka k26) fun (v5_26 : Int32) => (lt ((if (sF_has set (nI k26)) = 0 then 0 else (if (sF_has (M 12 k26) (nI ka)) = 0 then 0 else (mF_counts M k26))) : Int32) fun (y74 : Int32) => (lt (v5_26 + y74) fun (x75 : Int32) => x75))
theorem mF_grows_L26_0 (M : mS) (set : Int32) (ka : Nat) : mF_grows_L26 M set ka 0 = 0 := rfl
theorem mF_grows_L26_s (M : mS) (set : Int32) (ka : Nat) (k26 : Nat) : mF_grows_L26 M set ka (k26 + 1) = lt (mF_grows_L26 M set ka k26) fun (v5_26 : Int32) => (lt ((if (sF_has set (nI k26)) = 0 then 0 else (if (sF_has (M 12 k26) (nI ka)) = 0 then 0 else (mF_counts M k26))) : Int32) fun (y74 : Int32) => (lt (v5_26 + y74) fun (x75 : Int32) => x75)) := rfl
def mF_grows_L5 (M : mS) (s : Nat) (set : Int32) : Nat → Nat → Int32 → Nat × Int32
  | 0, ka, v3_5 => (ka, v3_5)
  | f + 1, ka, v3_5 => (if (M 1 3) ≤ (nI ka) then (ka, v3_5) else (if v3_5 = 0 then (ka, v3_5) else (lt (mF_grows_L26 M set ka (vn (M 1 8))) fun (v5_26x : Int32) => (lt ((if (v5_26x / 2) = (M 10 ((40 * s) + ka)) then 1 else 0) : Int32) fun (y107 : Int32) => (mF_grows_L5 M s set f (ka + 1) y107)))))
theorem mF_grows_L5_s (M : mS) (s : Nat) (set : Int32) (f : Nat) (ka : Nat) (v3_5 : Int32) : mF_grows_L5 M s set (f + 1) ka v3_5 = (if (M 1 3) ≤ (nI ka) then (ka, v3_5) else (if v3_5 = 0 then (ka, v3_5) else (lt (mF_grows_L26 M set ka (vn (M 1 8))) fun (v5_26x : Int32) => (lt ((if (v5_26x / 2) = (M 10 ((40 * s) + ka)) then 1 else 0) : Int32) fun (y107 : Int32) => (mF_grows_L5 M s set f (ka + 1) y107))))) := rfl
def mF_grows (M : mS) (s : Nat) (set : Int32) : Int32 := (lt2 (mF_grows_L5 M s set fu11 0 1) fun (kax : Nat) (v3_5x : Int32) => v3_5x)

theorem gr_01L {M : mS} {s : Nat} {set : Int32} : ∀ (f ka : Nat) (v : Int32), v = 0 ∨ v = 1 → (mF_grows_L5 M s set f ka v).2 = 0 ∨ (mF_grows_L5 M s set f ka v).2 = 1 := by
  intro f
  induction f with
  | zero => intro ka v h; exact h
  | succ f ih =>
    intro ka v h
    rw [mF_grows_L5_s]
    split
    · exact h
    · split
      · exact h
      · simp only [lt_i]
        refine ih _ _ ?_
        split
        · exact Or.inr rfl
        · exact Or.inl rfl
theorem gr_01 {M : mS} {s : Nat} {set v : Int32} {ka : Nat} (h : (ka, v) = mF_grows_L5 M s set fu11 0 1) : v = 0 ∨ v = 1 := by
  have := gr_01L (M := M) (s := s) (set := set) fu11 0 1 (Or.inr rfl)
  rw [← h] at this
  exact this
/-! of 12.ref9 -/
theorem lk_e (M : mS) : mF_looks M = mF_looks_L2 M (vn (M 1 8)) := by unfold mF_looks; rw [lt_i]
def mF_sums_L54 (M : mS) (v5_43 : Int32) : Nat → Int32
  | 0 => 0
  | k54 + 1 => lt (mF_sums_L54 M v5_43 k54) fun (v6_54 : Int32) => (lt ((if (sF_has v5_43 (nI k54)) = 0 then 0 else (M 1 (12 + k54))) : Int32) fun (y91 : Int32) => (lt (v6_54 + y91) fun (x92 : Int32) => x92))
theorem mF_sums_L54_0 (M : mS) (v5_43 : Int32) : mF_sums_L54 M v5_43 0 = 0 := rfl
theorem mF_sums_L54_s (M : mS) (v5_43 : Int32) (k54 : Nat) : mF_sums_L54 M v5_43 (k54 + 1) = lt (mF_sums_L54 M v5_43 k54) fun (v6_54 : Int32) => (lt ((if (sF_has v5_43 (nI k54)) = 0 then 0 else (M 1 (12 + k54))) : Int32) fun (y91 : Int32) => (lt (v6_54 + y91) fun (x92 : Int32) => x92)) := rfl
def mF_sums_L43 (M : mS) (v : Int32) : Nat → Int32 → Int32 → Int32 → Int32 × Int32 × Int32
  | 0, v5_43, v4_43, v3_43 => (v5_43, v4_43, v3_43)
  | f + 1, v5_43, v4_43, v3_43 => (if v5_43 < 0 then (v5_43, v4_43, v3_43) else (lt (mF_sums_L54 M v5_43 (vn (M 1 3))) fun (v6_54x : Int32) => (lt ((if v6_54x = v then v5_43 else v4_43) : Int32) fun (y113 : Int32) => (lt ((if v6_54x = v then 1 else 0) : Int32) fun (y127 : Int32) => (lt (v3_43 + y127) fun (x128 : Int32) => (mF_sums_L43 M v f (v5_43 + (-1)) y113 x128))))))
theorem mF_sums_L43_s (M : mS) (v : Int32) (f : Nat) (v5_43 : Int32) (v4_43 : Int32) (v3_43 : Int32) : mF_sums_L43 M v (f + 1) v5_43 v4_43 v3_43 = (if v5_43 < 0 then (v5_43, v4_43, v3_43) else (lt (mF_sums_L54 M v5_43 (vn (M 1 3))) fun (v6_54x : Int32) => (lt ((if v6_54x = v then v5_43 else v4_43) : Int32) fun (y113 : Int32) => (lt ((if v6_54x = v then 1 else 0) : Int32) fun (y127 : Int32) => (lt (v3_43 + y127) fun (x128 : Int32) => (mF_sums_L43 M v f (v5_43 + (-1)) y113 x128)))))) := rfl
def mF_sums (M : mS) (v : Int32) (what : Int32) : Int32 × mS := (if (sF_in v 0 999999) = 0 then (lt2 (mF_errs M (-1000000001)) fun (x22 : Int32) (M22 : mS) => (x22, M22)) else (if (sF_in what 0 1) = 0 then (lt2 (mF_errs M (-1000000001)) fun (x22 : Int32) (M22 : mS) => (x22, M22)) else (lt ((1 <<< ((M 1 3) &&& 31)) - 1) fun (x41 : Int32) => (lt3 (mF_sums_L43 M v (2 ^ vn (M 1 3) + 1) x41 0 0) fun (v5_43x : Int32) (v4_43x : Int32) (v3_43x : Int32) => (if what = 1 then (if v3_43x = 0 then (lt2 (mF_errs M (-1000000002)) fun (x147 : Int32) (M147 : mS) => (x147, M147)) else (if what = 0 then (v3_43x, M) else (v4_43x, M))) else (if what = 0 then (v3_43x, M) else (v4_43x, M)))))))

theorem sums_init {x : Int32} {p : Nat} (hx : x = nI p) (hp : p ≤ 10) : (1 : Int32) <<< (x &&& 31) - 1 = nI (2 ^ p + 1) + (-2) := by
  subst hx
  rcases (show p = 0 ∨ p = 1 ∨ p = 2 ∨ p = 3 ∨ p = 4 ∨ p = 5 ∨ p = 6 ∨ p = 7 ∨ p = 8 ∨ p = 9 ∨ p = 10 by omega) with rfl | rfl | rfl | rfl | rfl | rfl | rfl | rfl | rfl | rfl | rfl <;> decide
theorem shl1 {x : Int32} {p : Nat} (hx : x = nI p) (hp : p ≤ 10) : (1 : Int32) <<< (x &&& 31) = nI (2 ^ p) ∧ 2 ^ p < 2 ^ 31 := by
  subst hx
  rcases (show p = 0 ∨ p = 1 ∨ p = 2 ∨ p = 3 ∨ p = 4 ∨ p = 5 ∨ p = 6 ∨ p = 7 ∨ p = 8 ∨ p = 9 ∨ p = 10 by omega) with rfl | rfl | rfl | rfl | rfl | rfl | rfl | rfl | rfl | rfl | rfl <;> exact ⟨by decide, by decide⟩
theorem sums_step {x : Int32} {f : Nat} (h : x = nI (f + 1) + (-2) ∧ 0 < f + 1) (c : ¬ x < 0) : x + (-1) = nI f + (-2) ∧ 0 < f := by
  obtain ⟨h, -⟩ := h
  refine ⟨?_, ?_⟩
  · rw [h, nI_succ, Int32.add_assoc, Int32.add_assoc]
    congr 1
  · rcases Nat.eq_zero_or_pos f with e | e
    · subst e
      exfalso
      apply c
      rw [h]
      decide
    · exact e
def mF_looked_L76 (s : Int32) (M55 : mS) : Nat → Int32 → Int32 → Int32 → Int32 × Int32 × Int32
  | 0, v5_76, v4_76, v3_76 => (v5_76, v4_76, v3_76)
  | f + 1, v5_76, v4_76, v3_76 => (if v5_76 < 0 then (v5_76, v4_76, v3_76) else (lt2 ((if (mF_grows M55 (vn s) v5_76) = 0 then (v3_76, v4_76) else ((v3_76 + 1), v5_76)) : Int32 × Int32) fun (z3_98 : Int32) (z4_98 : Int32) => (mF_looked_L76 s M55 f (v5_76 + (-1)) z4_98 z3_98)))
theorem mF_looked_L76_s (s : Int32) (M55 : mS) (f : Nat) (v5_76 : Int32) (v4_76 : Int32) (v3_76 : Int32) : mF_looked_L76 s M55 (f + 1) v5_76 v4_76 v3_76 = (if v5_76 < 0 then (v5_76, v4_76, v3_76) else (lt2 ((if (mF_grows M55 (vn s) v5_76) = 0 then (v3_76, v4_76) else ((v3_76 + 1), v5_76)) : Int32 × Int32) fun (z3_98 : Int32) (z4_98 : Int32) => (mF_looked_L76 s M55 f (v5_76 + (-1)) z4_98 z3_98))) := rfl
def mF_looked (M : mS) (s : Int32) (what : Int32) : Int32 × mS := (if (sF_isSheet s) = 0 then (lt2 (mF_errs M (-1000000001)) fun (x19 : Int32) (M19 : mS) => (x19, M19)) else (if (sF_in what 0 1) = 0 then (lt2 (mF_errs M (-1000000001)) fun (x19 : Int32) (M19 : mS) => (x19, M19)) else (if (M 8 (vn s)) = 0 then (lt2 (mF_errs M (-1000000002)) fun (x50 : Int32) (M50 : mS) => (x50, M50)) else (if (M 9 (vn s)) = (M 1 3) then (lt (mF_looks M) fun (M55 : mS) => lt ((1 <<< ((M55 1 8) &&& 31)) - 1) fun (x74 : Int32) => (lt3 (mF_looked_L76 s M55 (2 ^ vn (M 1 8) + 1) x74 0 0) fun (v5_76x : Int32) (v4_76x : Int32) (v3_76x : Int32) => (if what = 1 then (if v3_76x = 0 then (lt2 (mF_errs M55 (-1000000002)) fun (x116 : Int32) (M116 : mS) => (x116, M116)) else (if what = 0 then (v3_76x, M55) else (v4_76x, M55))) else (if what = 0 then (v3_76x, M55) else (v4_76x, M55))))) else (lt2 (mF_errs M (-1000000002)) fun (x50 : Int32) (M50 : mS) => (x50, M50))))))
def mF_watch_L26 (M1 : mS) (k8 : Nat) : Nat → Int32
  | 0 => 0
  | k26 + 1 => lt (mF_watch_L26 M1 k8 k26) fun (v3_26 : Int32) => (lt ((if (sF_has (nI k8) (nI k26)) = 0 then 0 else (M1 12 k26)) : Int32) fun (y59 : Int32) => (lt (v3_26 ||| y59) fun (x60 : Int32) => x60))
theorem mF_watch_L26_0 (M1 : mS) (k8 : Nat) : mF_watch_L26 M1 k8 0 = 0 := rfl
theorem mF_watch_L26_s (M1 : mS) (k8 : Nat) (k26 : Nat) : mF_watch_L26 M1 k8 (k26 + 1) = lt (mF_watch_L26 M1 k8 k26) fun (v3_26 : Int32) => (lt ((if (sF_has (nI k8) (nI k26)) = 0 then 0 else (M1 12 k26)) : Int32) fun (y59 : Int32) => (lt (v3_26 ||| y59) fun (x60 : Int32) => x60)) := rfl
def mF_watch_L8 (M : mS) (M1 : mS) : Nat → Int32
  | 0 => (-1)
  | k8 + 1 => lt (mF_watch_L8 M M1 k8) fun (v1_8 : Int32) => (lt (mF_watch_L26 M1 k8 (vn (M 1 8))) fun (v3_26x : Int32) => (lt ((if v3_26x = ((1 <<< ((M1 1 3) &&& 31)) - 1) then (if v1_8 < 0 then nI k8 else (if (sF_bits v1_8) ≤ (sF_bits (nI k8)) then v1_8 else nI k8)) else v1_8) : Int32) fun (z1_98 : Int32) => z1_98))
theorem mF_watch_L8_0 (M : mS) (M1 : mS) : mF_watch_L8 M M1 0 = (-1) := rfl
theorem mF_watch_L8_s (M : mS) (M1 : mS) (k8 : Nat) : mF_watch_L8 M M1 (k8 + 1) = lt (mF_watch_L8 M M1 k8) fun (v1_8 : Int32) => (lt (mF_watch_L26 M1 k8 (vn (M 1 8))) fun (v3_26x : Int32) => (lt ((if v3_26x = ((1 <<< ((M1 1 3) &&& 31)) - 1) then (if v1_8 < 0 then nI k8 else (if (sF_bits v1_8) ≤ (sF_bits (nI k8)) then v1_8 else nI k8)) else v1_8) : Int32) fun (z1_98 : Int32) => z1_98)) := rfl
def mF_watch (M : mS) : Int32 × mS := (lt (mF_looks M) fun (M1 : mS) => (lt (mF_watch_L8 M M1 (2 ^ vn (M 1 8))) fun (v1_8x : Int32) => (if 0 ≤ v1_8x then (v1_8x, M1) else (lt2 (mF_errs M1 (-1000000002)) fun (x111 : Int32) (M111 : mS) => (x111, M111)))))
def mF_hide_L28 (M : mS) (c : Int32) (x22 : Int32) : Nat → Int32 × mS
  | 0 => ((-1), M)
  | k28 + 1 => lt2 (mF_hide_L28 M c x22 k28) fun (v3_28 : Int32) (M28 : mS) => (lt2 ((if ((nI k28) &&& x22) = 0 then (if v3_28 < 0 then (lt (mU M28 1 9 (x22 ||| (nI k28))) fun (M76 : mS) => (lt ((if (mF_whoSees M76 c) = 0 then nI k28 else v3_28) : Int32) fun (y91 : Int32) => (y91, M76))) else (if (sF_bits v3_28) ≤ (sF_bits (nI k28)) then (v3_28, M28) else (lt (mU M28 1 9 (x22 ||| (nI k28))) fun (M76 : mS) => (lt ((if (mF_whoSees M76 c) = 0 then nI k28 else v3_28) : Int32) fun (y91 : Int32) => (y91, M76))))) else (v3_28, M28)) : Int32 × mS) fun (z3_92 : Int32) (M92 : mS) => (z3_92, M92))
theorem mF_hide_L28_0 (M : mS) (c : Int32) (x22 : Int32) : mF_hide_L28 M c x22 0 = ((-1), M) := rfl
theorem mF_hide_L28_s (M : mS) (c : Int32) (x22 : Int32) (k28 : Nat) : mF_hide_L28 M c x22 (k28 + 1) = lt2 (mF_hide_L28 M c x22 k28) fun (v3_28 : Int32) (M28 : mS) => (lt2 ((if ((nI k28) &&& x22) = 0 then (if v3_28 < 0 then (lt (mU M28 1 9 (x22 ||| (nI k28))) fun (M76 : mS) => (lt ((if (mF_whoSees M76 c) = 0 then nI k28 else v3_28) : Int32) fun (y91 : Int32) => (y91, M76))) else (if (sF_bits v3_28) ≤ (sF_bits (nI k28)) then (v3_28, M28) else (lt (mU M28 1 9 (x22 ||| (nI k28))) fun (M76 : mS) => (lt ((if (mF_whoSees M76 c) = 0 then nI k28 else v3_28) : Int32) fun (y91 : Int32) => (y91, M76))))) else (v3_28, M28)) : Int32 × mS) fun (z3_92 : Int32) (M92 : mS) => (z3_92, M92)) := rfl
def mF_hide (M : mS) (c : Int32) : Int32 × mS := (if (mF_isCell M c) = 0 then (lt2 (mF_errs M (-1000000001)) fun (x11 : Int32) (M11 : mS) => (x11, M11)) else (lt (M 1 9) fun (x22 : Int32) => (lt2 (mF_hide_L28 M c x22 (2 ^ (vn (M 1 3) - 1))) fun (v3_28x : Int32) (M28x : mS) => (lt (mU M28x 1 9 x22) fun (M105 : mS) => (if 0 ≤ v3_28x then (v3_28x, M105) else (lt2 (mF_errs M105 (-1000000002)) fun (x113 : Int32) (M113 : mS) => (x113, M113)))))))

theorem hd_form (M : mS) (c x : Int32) (k : Nat) : (mF_hide_L28 M c x (k + 1)).2 = (mF_hide_L28 M c x k).2 ∨ ∃ z, (mF_hide_L28 M c x (k + 1)).2 = mU (mF_hide_L28 M c x k).2 1 9 z := by
  simp only [mF_hide_L28_s, lt2_i]
  generalize mF_hide_L28 M c x k = r
  by_cases h1 : (nI k &&& x) = 0
  · rw [if_pos h1]
    by_cases h2 : r.1 < 0
    · rw [if_pos h2]; exact Or.inr ⟨_, by rw [lt_i, lt_i]⟩
    · rw [if_neg h2]
      by_cases h3 : sF_bits r.1 ≤ sF_bits (nI k)
      · rw [if_pos h3]; exact Or.inl rfl
      · rw [if_neg h3]; exact Or.inr ⟨_, by rw [lt_i, lt_i]⟩
  · rw [if_neg h1]; exact Or.inl rfl
theorem hd_k (M : mS) (c x22 : Int32) (k j : Nat) (h : j ≠ 9) : (mF_hide_L28 M c x22 k).2 1 j = M 1 j := by
  induction k with
  | zero => rfl
  | succ k ih =>
    rcases hd_form M c x22 k with e | ⟨z, e⟩
    · rw [e]; exact ih
    · rw [e, mU_ne h]; exact ih
theorem hd_R {M : mS} (hR : rOK M) (c x22 : Int32) (k : Nat) : rOK (mF_hide_L28 M c x22 k).2 := by
  induction k with
  | zero => exact hR
  | succ k ih =>
    rcases hd_form M c x22 k with e | ⟨z, e⟩
    · rw [e]; exact ih
    · rw [e]; exact rOK_up ih (by decide) (by decide) (by decide) (by decide) (fun _ _ => by omega) (fun _ _ => by omega)
def mF_gains (M : mS) (q : Int32) (n : Int32) : Int32 × mS := (if (mF_isPerson M q) = 0 then (lt2 (mF_errs M (-1000000001)) fun (x21 : Int32) (M21 : mS) => (x21, M21)) else (if (sF_in n 0 50) = 0 then (lt2 (mF_errs M (-1000000001)) fun (x21 : Int32) (M21 : mS) => (x21, M21)) else (lt (mF_moveAll_1_3 M) fun (M34 : mS) => lt (mF_passes M34 (vn n)) fun (M39 : mS) => lt (mF_grains M39) fun (x46 : Int32) => lt (mF_moveAll_3_1 M39) fun (M56 : mS) => lt (mU M56 0 15 q) fun (M61 : mS) => lt (mF_passes M61 (vn n)) fun (M66 : mS) => lt (mU M66 0 15 (-1)) fun (M71 : mS) => lt (mF_grains M71) fun (x78 : Int32) => lt (mF_moveAll_3_1 M71) fun (M89 : mS) => ((x46 - x78), M89))))
def mF_odds_L37 (M : mS) (c : Int32) : Nat → Int32 × mS
  | 0 => (0, M)
  | k37 + 1 => lt2 (mF_odds_L37 M c k37) fun (v4_37 : Int32) (M37 : mS) => (lt (mU M37 1 1 (nI k37)) fun (M51 : mS) => (lt ((if (mF_whoSees M51 c) = 0 then 0 else 1) : Int32) fun (y67 : Int32) => (lt (v4_37 + y67) fun (x68 : Int32) => (x68, M51))))
theorem mF_odds_L37_0 (M : mS) (c : Int32) : mF_odds_L37 M c 0 = (0, M) := rfl
theorem mF_odds_L37_s (M : mS) (c : Int32) (k37 : Nat) : mF_odds_L37 M c (k37 + 1) = lt2 (mF_odds_L37 M c k37) fun (v4_37 : Int32) (M37 : mS) => (lt (mU M37 1 1 (nI k37)) fun (M51 : mS) => (lt ((if (mF_whoSees M51 c) = 0 then 0 else 1) : Int32) fun (y67 : Int32) => (lt (v4_37 + y67) fun (x68 : Int32) => (x68, M51)))) := rfl
def mF_odds (M : mS) (c : Int32) (part : Int32) : Int32 × mS := (if (mF_isCell M c) = 0 then (lt2 (mF_errs M (-1000000001)) fun (x20 : Int32) (M20 : mS) => (x20, M20)) else (if (sF_in part 0 1) = 0 then (lt2 (mF_errs M (-1000000001)) fun (x20 : Int32) (M20 : mS) => (x20, M20)) else (lt (M 1 1) fun (x30 : Int32) => (lt2 (mF_odds_L37 M c 10) fun (v4_37x : Int32) (M37x : mS) => (lt (mU M37x 1 1 x30) fun (M82 : mS) => lt (sF_divisor (vn v4_37x) 10) fun (x90 : Int32) => (if part = 0 then ((v4_37x / x90), M82) else ((10 / x90), M82)))))))

theorem od_R {M : mS} (hR : rOK M) (c : Int32) (k : Nat) : rOK (mF_odds_L37 M c k).2 := by
  induction k with
  | zero => exact hR
  | succ k ih =>
    simp only [mF_odds_L37_s, lt2_i, lt_i]
    exact rOK_up ih (by decide) (by decide) (by decide) (by decide) (fun _ _ => by omega) (fun _ _ => by omega)
theorem od_L (M : mS) (c : Int32) (k : Nat) : ∃ j, j ≤ k ∧ (mF_odds_L37 M c k).1 = nI j := by
  induction k with
  | zero => exact ⟨0, Nat.le_refl _, rfl⟩
  | succ k ih =>
    obtain ⟨j, hj, e⟩ := ih
    simp only [mF_odds_L37_s, lt2_i, lt_i]
    rw [e]
    split
    · exact ⟨j, by omega, by rw [show (0 : Int32) = nI 0 from rfl, nI_add]; rfl⟩
    · exact ⟨j + 1, by omega, nI_1 j⟩
theorem od_so {M Mx : mS} {c v : Int32} (h : (v, Mx) = mF_odds_L37 M c 10) : v = nI (vn v) ∧ vn v ≤ 10 := by
  obtain ⟨j, hj, e⟩ := od_L M c 10
  rw [← h] at e
  dsimp only at e
  rw [e, vn_nI (by omega)]
  exact ⟨rfl, hj⟩
theorem od_div {j : Nat} (h : j ≤ 10) : ¬ sF_divisor j 10 = 0 := by
  rcases (show j = 0 ∨ j = 1 ∨ j = 2 ∨ j = 3 ∨ j = 4 ∨ j = 5 ∨ j = 6 ∨ j = 7 ∨ j = 8 ∨ j = 9 ∨ j = 10 by omega) with rfl | rfl | rfl | rfl | rfl | rfl | rfl | rfl | rfl | rfl | rfl <;> decide +kernel
/-! of 13.ref10 -/
def fu22 : Nat := 22
def mF_check_L30 (M : mS) : Nat → Nat → Int32 → mS → Nat × Int32 × mS
  | 0, ka, v3_30, M30 => (ka, v3_30, M30)
  | f + 1, ka, v3_30, M30 => (if (nI (vn (M 1 5))) ≤ (nI ka) then (ka, v3_30, M30) else (if v3_30 = 0 then (ka, v3_30, M30) else (lt (mF_oneHour M30) fun (M40 : mS) => (lt ((if (mF_grains M40) = (M40 1 (114 + ka)) then 1 else 0) : Int32) fun (y64 : Int32) => (if y64 = 0 then (mF_check_L30 M f (ka + 0) y64 M40) else (mF_check_L30 M f (ka + 1) y64 M40))))))
theorem mF_check_L30_s (M : mS) (f : Nat) (ka : Nat) (v3_30 : Int32) (M30 : mS) : mF_check_L30 M (f + 1) ka v3_30 M30 = (if (nI (vn (M 1 5))) ≤ (nI ka) then (ka, v3_30, M30) else (if v3_30 = 0 then (ka, v3_30, M30) else (lt (mF_oneHour M30) fun (M40 : mS) => (lt ((if (mF_grains M40) = (M40 1 (114 + ka)) then 1 else 0) : Int32) fun (y64 : Int32) => (if y64 = 0 then (mF_check_L30 M f (ka + 0) y64 M40) else (mF_check_L30 M f (ka + 1) y64 M40)))))) := rfl
def mF_check (M : mS) : Int32 × mS := (lt (mU M 1 5 0) fun (M13 : mS) => lt (mF_moveAll_1_3 M13) fun (M23 : mS) => (lt3 (mF_check_L30 M fu22 0 1 M23) fun (kax : Nat) (v3_30x : Int32) (M30x : mS) => (lt (mF_moveAll_3_1 M30x) fun (M89 : mS) => (if v3_30x = 0 then ((1 + (nI kax)), M89) else (0, M89)))))
def mF_weeds_L32 (s : Int32) : Nat → Nat → mS → Nat × mS
  | 0, ka, M32 => (ka, M32)
  | f + 1, ka, M32 => (if (M32 9 (vn s)) ≤ (nI ka) then (ka, M32) else (if (mF_isCell M32 (nI ka)) = 0 then (ka, M32) else (if (sF_in (M32 10 ((40 * (vn s)) + ka)) 0 99) = 0 then (ka, M32) else (lt (mU M32 1 (22 + ka) (M32 10 ((40 * (vn s)) + ka))) fun (M89 : mS) => (mF_weeds_L32 s f (ka + 1) M89)))))
theorem mF_weeds_L32_s (s : Int32) (f : Nat) (ka : Nat) (M32 : mS) : mF_weeds_L32 s (f + 1) ka M32 = (if (M32 9 (vn s)) ≤ (nI ka) then (ka, M32) else (if (mF_isCell M32 (nI ka)) = 0 then (ka, M32) else (if (sF_in (M32 10 ((40 * (vn s)) + ka)) 0 99) = 0 then (ka, M32) else (lt (mU M32 1 (22 + ka) (M32 10 ((40 * (vn s)) + ka))) fun (M89 : mS) => (mF_weeds_L32 s f (ka + 1) M89))))) := rfl
def mF_weeds (M : mS) (s : Int32) : Int32 × mS := (if (sF_isSheet s) = 0 then (lt2 (mF_errs M (-1000000001)) fun (x10 : Int32) (M10 : mS) => (x10, M10)) else (if (M 8 (vn s)) = 0 then (lt2 (mF_errs M (-1000000002)) fun (x26 : Int32) (M26 : mS) => (x26, M26)) else (lt2 (mF_weeds_L32 s fu11 0 M) fun (kax : Nat) (M32x : mS) => (nI kax, M32x))))
def mF_judge_L32 (M : mS) (s : Int32) : Nat → Nat → Nat
  | 0, ka => ka
  | f + 1, ka => (if (M 1 3) ≤ (nI ka) then ka else (if (M 9 (vn s)) ≤ (nI ka) then ka else (if (M 10 ((40 * (vn s)) + ka)) = (M 1 (12 + ka)) then (mF_judge_L32 M s f (ka + 1)) else ka)))
theorem mF_judge_L32_s (M : mS) (s : Int32) (f : Nat) (ka : Nat) : mF_judge_L32 M s (f + 1) ka = (if (M 1 3) ≤ (nI ka) then ka else (if (M 9 (vn s)) ≤ (nI ka) then ka else (if (M 10 ((40 * (vn s)) + ka)) = (M 1 (12 + ka)) then (mF_judge_L32 M s f (ka + 1)) else ka))) := rfl
def mF_judge (M : mS) (s : Int32) : Int32 × mS := (if (sF_isSheet s) = 0 then (lt2 (mF_errs M (-1000000001)) fun (x10 : Int32) (M10 : mS) => (x10, M10)) else (if (M 8 (vn s)) = 0 then (lt2 (mF_errs M (-1000000002)) fun (x26 : Int32) (M26 : mS) => (x26, M26)) else (lt (mF_judge_L32 M s fu11 0) fun (kax : Nat) => (if (nI kax) = (M 1 3) then (if (nI kax) = (M 9 (vn s)) then ((-1), M) else (nI kax, M)) else (nI kax, M)))))
def mF_move_L156 (s2 : Int32) (j : Int32) (M119x : mS) : Nat → mS
  | 0 => M119x
  | k156 + 1 => lt (mF_move_L156 s2 j M119x k156) fun (M156 : mS) => (lt (mU M156 10 (((40 * (vn s2)) + (vn j)) + k156) (M156 11 k156)) fun (M184 : mS) => M184)
theorem mF_move_L156_0 (s2 : Int32) (j : Int32) (M119x : mS) : mF_move_L156 s2 j M119x 0 = M119x := rfl
theorem mF_move_L156_s (s2 : Int32) (j : Int32) (M119x : mS) (k156 : Nat) : mF_move_L156 s2 j M119x (k156 + 1) = lt (mF_move_L156 s2 j M119x k156) fun (M156 : mS) => (lt (mU M156 10 (((40 * (vn s2)) + (vn j)) + k156) (M156 11 k156)) fun (M184 : mS) => M184) := rfl
def mF_move_L119 (M : mS) (s : Int32) (i : Int32) : Nat → mS
  | 0 => M
  | k119 + 1 => lt (mF_move_L119 M s i k119) fun (M119 : mS) => (lt (mU M119 11 k119 (M119 10 (((40 * (vn s)) + (vn i)) + k119))) fun (M146 : mS) => M146)
theorem mF_move_L119_0 (M : mS) (s : Int32) (i : Int32) : mF_move_L119 M s i 0 = M := rfl
theorem mF_move_L119_s (M : mS) (s : Int32) (i : Int32) (k119 : Nat) : mF_move_L119 M s i (k119 + 1) = lt (mF_move_L119 M s i k119) fun (M119 : mS) => (lt (mU M119 11 k119 (M119 10 (((40 * (vn s)) + (vn i)) + k119))) fun (M146 : mS) => M146) := rfl
def mF_move (M : mS) (s : Int32) (i : Int32) (s2 : Int32) (j : Int32) (n : Int32) : Int32 × mS := (if (sF_isSheet s) = 0 then (lt2 (mF_errs M (-1000000001)) fun (x17 : Int32) (M17 : mS) => (x17, M17)) else (if (sF_isSheet s2) = 0 then (lt2 (mF_errs M (-1000000001)) fun (x17 : Int32) (M17 : mS) => (x17, M17)) else (if (M 8 (vn s)) = 0 then (lt2 (mF_errs M (-1000000002)) fun (x42 : Int32) (M42 : mS) => (x42, M42)) else (if (M 8 (vn s2)) = 0 then (lt2 (mF_errs M (-1000000002)) fun (x42 : Int32) (M42 : mS) => (x42, M42)) else (if (M 8 (vn s)) = (M 8 (vn s2)) then (if n < 0 then (lt2 (mF_errs M (-1000000001)) fun (x112 : Int32) (M112 : mS) => (x112, M112)) else (if i < 0 then (lt2 (mF_errs M (-1000000001)) fun (x112 : Int32) (M112 : mS) => (x112, M112)) else (if j < 0 then (lt2 (mF_errs M (-1000000001)) fun (x112 : Int32) (M112 : mS) => (x112, M112)) else (if ((M 9 (vn s)) - n) < i then (lt2 (mF_errs M (-1000000001)) fun (x112 : Int32) (M112 : mS) => (x112, M112)) else (if j ≤ ((M 9 (vn s2)) - n) then (lt (mF_move_L119 M s i (vn n)) fun (M119x : mS) => (lt (mF_move_L156 s2 j M119x (vn n)) fun (M156x : mS) => (n, M156x))) else (lt2 (mF_errs M (-1000000001)) fun (x112 : Int32) (M112 : mS) => (x112, M112))))))) else (lt2 (mF_errs M (-1000000005)) fun (x64 : Int32) (M64 : mS) => (x64, M64)))))))

theorem mv_b {S i n : Int32} {a : Nat} (hS : S = nI a) (ha : a ≤ 40) (hn : ¬ n < 0) (hi : ¬ i < 0) (h : ¬ (S - n) < i) : i = nI (vn i) ∧ n = nI (vn n) ∧ vn i + vn n ≤ a := by
  obtain ⟨x, hx, rfl⟩ := nI_of hn
  obtain ⟨y, hy, rfl⟩ := nI_of hi
  rw [vn_nI hx, vn_nI hy]
  refine ⟨rfl, rfl, ?_⟩
  subst hS
  have h1 : (nI a - nI x).toInt = (a : Int) - x := by
    rw [Int32.toInt_sub, nI_toInt (by omega), nI_toInt hx]
    rw [Int.bmod_eq_of_le (by omega) (by omega)]
  have h2 : (nI y).toInt ≤ (nI a - nI x).toInt := Int32.le_iff_toInt_le.mp (Int32.not_lt.mp h)
  rw [h1, nI_toInt hy] at h2
  omega
def mF_feed_L40 (M : mS) (word : Int64) : Nat → mS
  | 0 => M
  | k40 + 1 => lt (mF_feed_L40 M word k40) fun (M40 : mS) => (lt (mU M40 1 (64 + (vn (M 1 4) + k40)) (((word >>> ((8 * (nI k40)).toInt64 &&& 63)) &&& 255).toInt32)) fun (M71 : mS) => lt (mU M71 1 4 ((M71 1 4) + 1)) fun (M81 : mS) => M81)
theorem mF_feed_L40_0 (M : mS) (word : Int64) : mF_feed_L40 M word 0 = M := rfl
theorem mF_feed_L40_s (M : mS) (word : Int64) (k40 : Nat) : mF_feed_L40 M word (k40 + 1) = lt (mF_feed_L40 M word k40) fun (M40 : mS) => (lt (mU M40 1 (64 + (vn (M 1 4) + k40)) (((word >>> ((8 * (nI k40)).toInt64 &&& 63)) &&& 255).toInt32)) fun (M71 : mS) => lt (mU M71 1 4 ((M71 1 4) + 1)) fun (M81 : mS) => M81) := rfl
def mF_feed (M : mS) (word : Int64) (n : Int32) : Int32 × mS := (if (sF_in n 1 8) = 0 then (lt2 (mF_errs M (-1000000001)) fun (x13 : Int32) (M13 : mS) => (x13, M13)) else (if ((M 1 4) + n) ≤ 50 then (lt (mF_feed_L40 M word (vn n)) fun (M40x : mS) => ((M40x 1 4), M40x)) else (lt2 (mF_errs M (-1000000004)) fun (x33 : Int32) (M33 : mS) => (x33, M33))))

theorem fd_t {M : mS} (hT : M 1 4 = nI (vn (M 1 4))) (word : Int64) (k : Nat) : mF_feed_L40 M word k 1 4 = nI (vn (M 1 4) + k) := by
  induction k with
  | zero => exact hT
  | succ k ih =>
    rw [mF_feed_L40_s]; simp only [lt_i]
    rw [mU_eq, mU_ne (by omega), ih, nI_1]
    rfl
theorem fd_b {x n : Int32} {t : Nat} (hx : x = nI t) (ht : t ≤ 50) (hn : n = nI (vn n)) (hn2 : vn n ≤ 8) (h : x + n ≤ 50) : t + vn n ≤ 50 := by
  rw [hx, hn, nI_add, show (50 : Int32) = nI 50 from rfl, nI_leI (by omega) (by decide)] at h
  exact h
/-! of 14.ref11 -/
def vR (M : mS) : Prop := vOK M ∧ ∃ j, j ≤ 6 ∧ M 0 25 = nI j
theorem ran_vR {M : mS} {b : Int32} (hV : vR M) : vR (mF_ran M b) := by
  obtain ⟨⟨h1, h2⟩, h3⟩ := hV
  unfold mF_ran
  split
  · exact ⟨⟨h1, h2⟩, h3⟩
  · rename_i h
    simp only [lt_i]
    have hlt := ran_lt ⟨h1, h2⟩ h
    refine ⟨?_, ?_⟩
    · unfold vOK
      rw [mU_eq, mU_row (show (0 : Nat) ≠ 13 by decide)]
      have e : M 0 24 + 1 = nI (vn (M 0 24) + 1) := (congrArg (fun z => z + 1) h1).trans (nI_1 _)
      rw [e, vn_nI (by omega)]
      exact ⟨rfl, by omega⟩
    · rw [mU_ne (by decide), mU_row (by decide)]
      exact h3
def mF_looksIn_0 (M : mS) (x : Int32) : Int32 × mS := (lt (mF_ran M 10) fun (M7 : mS) => ((x + (M7 0 26)), M7))
theorem vR_looksIn_0 {M : mS} {x : Int32} (hV : vR M) : vR (mF_looksIn_0 M x).2 := by
  unfold mF_looksIn_0
  simp only [lt_i, lt2_i]
  repeat (first | with_reducible exact hV | with_reducible apply ran_vR)
def mF_looksIn_1 (M : mS) (x : Int32) : Int32 × mS := (lt (mF_ran M 20) fun (M25 : mS) => lt2 (mF_looksIn_0 M25 x) fun (x31 : Int32) (M31 : mS) => ((x31 * 3), M31))
theorem vR_looksIn_1 {M : mS} {x : Int32} (hV : vR M) : vR (mF_looksIn_1 M x).2 := by
  unfold mF_looksIn_1
  simp only [lt_i, lt2_i]
  repeat (first | with_reducible exact hV | with_reducible apply ran_vR | with_reducible apply vR_looksIn_0)
def mF_looksIn_2 (M : mS) (x : Int32) : Int32 × mS := (lt2 (mF_looksIn_0 M x) fun (x43 : Int32) (M43 : mS) => (x43, M43))
theorem vR_looksIn_2 {M : mS} {x : Int32} (hV : vR M) : vR (mF_looksIn_2 M x).2 := by
  unfold mF_looksIn_2
  simp only [lt_i, lt2_i]
  repeat (first | with_reducible exact hV | with_reducible apply ran_vR | with_reducible apply vR_looksIn_0 | with_reducible apply vR_looksIn_1)
def mF_looksIn_3 (M : mS) (x : Int32) : Int32 × mS := (lt2 (mF_looksIn_0 M x) fun (x43 : Int32) (M43 : mS) => (x43, M43))
theorem vR_looksIn_3 {M : mS} {x : Int32} (hV : vR M) : vR (mF_looksIn_3 M x).2 := by
  unfold mF_looksIn_3
  simp only [lt_i, lt2_i]
  repeat (first | with_reducible exact hV | with_reducible apply ran_vR | with_reducible apply vR_looksIn_0 | with_reducible apply vR_looksIn_1 | with_reducible apply vR_looksIn_2)
def mF_looksIn_4 (M : mS) (x : Int32) : Int32 × mS := (lt2 (mF_looksIn_1 M x) fun (x43 : Int32) (M43 : mS) => (x43, M43))
theorem vR_looksIn_4 {M : mS} {x : Int32} (hV : vR M) : vR (mF_looksIn_4 M x).2 := by
  unfold mF_looksIn_4
  simp only [lt_i, lt2_i]
  repeat (first | with_reducible exact hV | with_reducible apply ran_vR | with_reducible apply vR_looksIn_0 | with_reducible apply vR_looksIn_1 | with_reducible apply vR_looksIn_2 | with_reducible apply vR_looksIn_3)
def mF_looksIn_5 (M : mS) (x : Int32) : Int32 × mS := (lt2 (mF_looksIn_2 M x) fun (x43 : Int32) (M43 : mS) => (x43, M43))
theorem vR_looksIn_5 {M : mS} {x : Int32} (hV : vR M) : vR (mF_looksIn_5 M x).2 := by
  unfold mF_looksIn_5
  simp only [lt_i, lt2_i]
  repeat (first | with_reducible exact hV | with_reducible apply ran_vR | with_reducible apply vR_looksIn_0 | with_reducible apply vR_looksIn_1 | with_reducible apply vR_looksIn_2 | with_reducible apply vR_looksIn_3 | with_reducible apply vR_looksIn_4)
def mF_looksIn_6 (M : mS) (x : Int32) : Int32 × mS := (lt2 (mF_looksIn_3 M x) fun (x43 : Int32) (M43 : mS) => (x43, M43))
theorem vR_looksIn_6 {M : mS} {x : Int32} (hV : vR M) : vR (mF_looksIn_6 M x).2 := by
  unfold mF_looksIn_6
  simp only [lt_i, lt2_i]
  repeat (first | with_reducible exact hV | with_reducible apply ran_vR | with_reducible apply vR_looksIn_0 | with_reducible apply vR_looksIn_1 | with_reducible apply vR_looksIn_2 | with_reducible apply vR_looksIn_3 | with_reducible apply vR_looksIn_4 | with_reducible apply vR_looksIn_5)
def mF_looksIn (M : mS) (kind x : Int32) : Int32 × mS := (if kind = 0 then mF_looksIn_0 M x else (if kind = 1 then mF_looksIn_1 M x else (if kind = 2 then mF_looksIn_2 M x else (if kind = 3 then mF_looksIn_3 M x else (if kind = 4 then mF_looksIn_4 M x else (if kind = 5 then mF_looksIn_5 M x else mF_looksIn_6 M x))))))
theorem mF_looksIn_at0 (M : mS) (x : Int32) : mF_looksIn M (nI 0) x = mF_looksIn_0 M x := by
  unfold mF_looksIn
  rw [if_pos (by decide)]
theorem mF_looksIn_at1 (M : mS) (x : Int32) : mF_looksIn M (nI 1) x = mF_looksIn_1 M x := by
  unfold mF_looksIn
  rw [if_neg (by decide)]; rw [if_pos (by decide)]
theorem mF_looksIn_at2 (M : mS) (x : Int32) : mF_looksIn M (nI 2) x = mF_looksIn_2 M x := by
  unfold mF_looksIn
  rw [if_neg (by decide)]; rw [if_neg (by decide)]; rw [if_pos (by decide)]
theorem mF_looksIn_at3 (M : mS) (x : Int32) : mF_looksIn M (nI 3) x = mF_looksIn_3 M x := by
  unfold mF_looksIn
  rw [if_neg (by decide)]; rw [if_neg (by decide)]; rw [if_neg (by decide)]; rw [if_pos (by decide)]
theorem mF_looksIn_at4 (M : mS) (x : Int32) : mF_looksIn M (nI 4) x = mF_looksIn_4 M x := by
  unfold mF_looksIn
  rw [if_neg (by decide)]; rw [if_neg (by decide)]; rw [if_neg (by decide)]; rw [if_neg (by decide)]; rw [if_pos (by decide)]
theorem mF_looksIn_at5 (M : mS) (x : Int32) : mF_looksIn M (nI 5) x = mF_looksIn_5 M x := by
  unfold mF_looksIn
  rw [if_neg (by decide)]; rw [if_neg (by decide)]; rw [if_neg (by decide)]; rw [if_neg (by decide)]; rw [if_neg (by decide)]; rw [if_pos (by decide)]
theorem mF_looksIn_at6 (M : mS) (x : Int32) : mF_looksIn M (nI 6) x = mF_looksIn_6 M x := by
  unfold mF_looksIn
  rw [if_neg (by decide)]; rw [if_neg (by decide)]; rw [if_neg (by decide)]; rw [if_neg (by decide)]; rw [if_neg (by decide)]; rw [if_neg (by decide)]
theorem vR_looksIn {M : mS} {kind x : Int32} (hV : vR M) : vR (mF_looksIn M kind x).2 := by
  unfold mF_looksIn
  repeat' split
  all_goals first | with_reducible exact vR_looksIn_0 hV | with_reducible exact vR_looksIn_1 hV | with_reducible exact vR_looksIn_2 hV | with_reducible exact vR_looksIn_3 hV | with_reducible exact vR_looksIn_4 hV | with_reducible exact vR_looksIn_5 hV | with_reducible exact vR_looksIn_6 hV
def mF_glancesIn_0 (M : mS) (x : Int32) : Int32 × mS := (lt (mF_ran M 12) fun (M7 : mS) => ((x - (M7 0 27)), M7))
theorem vR_glancesIn_0 {M : mS} {x : Int32} (hV : vR M) : vR (mF_glancesIn_0 M x).2 := by
  unfold mF_glancesIn_0
  simp only [lt_i, lt2_i]
  repeat (first | with_reducible exact hV | with_reducible apply ran_vR | with_reducible apply vR_looksIn_0 | with_reducible apply vR_looksIn_1 | with_reducible apply vR_looksIn_2 | with_reducible apply vR_looksIn_3 | with_reducible apply vR_looksIn_4 | with_reducible apply vR_looksIn_5 | with_reducible apply vR_looksIn_6 | with_reducible apply vR_looksIn)
def mF_glancesIn_1 (M : mS) (x : Int32) : Int32 × mS := (lt2 (mF_glancesIn_0 M x) fun (x66 : Int32) (M66 : mS) => (x66, M66))
theorem vR_glancesIn_1 {M : mS} {x : Int32} (hV : vR M) : vR (mF_glancesIn_1 M x).2 := by
  unfold mF_glancesIn_1
  simp only [lt_i, lt2_i]
  repeat (first | with_reducible exact hV | with_reducible apply ran_vR | with_reducible apply vR_looksIn_0 | with_reducible apply vR_looksIn_1 | with_reducible apply vR_looksIn_2 | with_reducible apply vR_looksIn_3 | with_reducible apply vR_looksIn_4 | with_reducible apply vR_looksIn_5 | with_reducible apply vR_looksIn_6 | with_reducible apply vR_looksIn | with_reducible apply vR_glancesIn_0)
def mF_glancesIn_2 (M : mS) (x : Int32) : Int32 × mS := (lt2 (mF_glancesIn_0 M x) fun (x66 : Int32) (M66 : mS) => (x66, M66))
theorem vR_glancesIn_2 {M : mS} {x : Int32} (hV : vR M) : vR (mF_glancesIn_2 M x).2 := by
  unfold mF_glancesIn_2
  simp only [lt_i, lt2_i]
  repeat (first | with_reducible exact hV | with_reducible apply ran_vR | with_reducible apply vR_looksIn_0 | with_reducible apply vR_looksIn_1 | with_reducible apply vR_looksIn_2 | with_reducible apply vR_looksIn_3 | with_reducible apply vR_looksIn_4 | with_reducible apply vR_looksIn_5 | with_reducible apply vR_looksIn_6 | with_reducible apply vR_looksIn | with_reducible apply vR_glancesIn_0 | with_reducible apply vR_glancesIn_1)
def mF_glancesIn_3 (M : mS) (x : Int32) : Int32 × mS := (lt (mF_ran M 40) fun (M25 : mS) => lt2 (mF_glancesIn_0 M25 x) fun (x31 : Int32) (M31 : mS) => ((-x31), M31))
theorem vR_glancesIn_3 {M : mS} {x : Int32} (hV : vR M) : vR (mF_glancesIn_3 M x).2 := by
  unfold mF_glancesIn_3
  simp only [lt_i, lt2_i]
  repeat (first | with_reducible exact hV | with_reducible apply ran_vR | with_reducible apply vR_looksIn_0 | with_reducible apply vR_looksIn_1 | with_reducible apply vR_looksIn_2 | with_reducible apply vR_looksIn_3 | with_reducible apply vR_looksIn_4 | with_reducible apply vR_looksIn_5 | with_reducible apply vR_looksIn_6 | with_reducible apply vR_looksIn | with_reducible apply vR_glancesIn_0 | with_reducible apply vR_glancesIn_1 | with_reducible apply vR_glancesIn_2)
def mF_glancesIn_4 (M : mS) (x : Int32) : Int32 × mS := (lt2 (mF_glancesIn_1 M x) fun (x66 : Int32) (M66 : mS) => (x66, M66))
theorem vR_glancesIn_4 {M : mS} {x : Int32} (hV : vR M) : vR (mF_glancesIn_4 M x).2 := by
  unfold mF_glancesIn_4
  simp only [lt_i, lt2_i]
  repeat (first | with_reducible exact hV | with_reducible apply ran_vR | with_reducible apply vR_looksIn_0 | with_reducible apply vR_looksIn_1 | with_reducible apply vR_looksIn_2 | with_reducible apply vR_looksIn_3 | with_reducible apply vR_looksIn_4 | with_reducible apply vR_looksIn_5 | with_reducible apply vR_looksIn_6 | with_reducible apply vR_looksIn | with_reducible apply vR_glancesIn_0 | with_reducible apply vR_glancesIn_1 | with_reducible apply vR_glancesIn_2 | with_reducible apply vR_glancesIn_3)
def mF_glancesIn_5 (M : mS) (x : Int32) : Int32 × mS := (lt2 (mF_glancesIn_2 M x) fun (x66 : Int32) (M66 : mS) => (x66, M66))
theorem vR_glancesIn_5 {M : mS} {x : Int32} (hV : vR M) : vR (mF_glancesIn_5 M x).2 := by
  unfold mF_glancesIn_5
  simp only [lt_i, lt2_i]
  repeat (first | with_reducible exact hV | with_reducible apply ran_vR | with_reducible apply vR_looksIn_0 | with_reducible apply vR_looksIn_1 | with_reducible apply vR_looksIn_2 | with_reducible apply vR_looksIn_3 | with_reducible apply vR_looksIn_4 | with_reducible apply vR_looksIn_5 | with_reducible apply vR_looksIn_6 | with_reducible apply vR_looksIn | with_reducible apply vR_glancesIn_0 | with_reducible apply vR_glancesIn_1 | with_reducible apply vR_glancesIn_2 | with_reducible apply vR_glancesIn_3 | with_reducible apply vR_glancesIn_4)
def mF_glancesIn_6 (M : mS) (x : Int32) : Int32 × mS := (lt (mF_ran M 70) fun (M45 : mS) => lt2 (mF_glancesIn_3 M45 x) fun (x51 : Int32) (M51 : mS) => ((x51 ^^^ (M51 0 26)), M51))
theorem vR_glancesIn_6 {M : mS} {x : Int32} (hV : vR M) : vR (mF_glancesIn_6 M x).2 := by
  unfold mF_glancesIn_6
  simp only [lt_i, lt2_i]
  repeat (first | with_reducible exact hV | with_reducible apply ran_vR | with_reducible apply vR_looksIn_0 | with_reducible apply vR_looksIn_1 | with_reducible apply vR_looksIn_2 | with_reducible apply vR_looksIn_3 | with_reducible apply vR_looksIn_4 | with_reducible apply vR_looksIn_5 | with_reducible apply vR_looksIn_6 | with_reducible apply vR_looksIn | with_reducible apply vR_glancesIn_0 | with_reducible apply vR_glancesIn_1 | with_reducible apply vR_glancesIn_2 | with_reducible apply vR_glancesIn_3 | with_reducible apply vR_glancesIn_4 | with_reducible apply vR_glancesIn_5)
def mF_glancesIn (M : mS) (kind x : Int32) : Int32 × mS := (if kind = 0 then mF_glancesIn_0 M x else (if kind = 1 then mF_glancesIn_1 M x else (if kind = 2 then mF_glancesIn_2 M x else (if kind = 3 then mF_glancesIn_3 M x else (if kind = 4 then mF_glancesIn_4 M x else (if kind = 5 then mF_glancesIn_5 M x else mF_glancesIn_6 M x))))))
theorem mF_glancesIn_at0 (M : mS) (x : Int32) : mF_glancesIn M (nI 0) x = mF_glancesIn_0 M x := by
  unfold mF_glancesIn
  rw [if_pos (by decide)]
theorem mF_glancesIn_at1 (M : mS) (x : Int32) : mF_glancesIn M (nI 1) x = mF_glancesIn_1 M x := by
  unfold mF_glancesIn
  rw [if_neg (by decide)]; rw [if_pos (by decide)]
theorem mF_glancesIn_at2 (M : mS) (x : Int32) : mF_glancesIn M (nI 2) x = mF_glancesIn_2 M x := by
  unfold mF_glancesIn
  rw [if_neg (by decide)]; rw [if_neg (by decide)]; rw [if_pos (by decide)]
theorem mF_glancesIn_at3 (M : mS) (x : Int32) : mF_glancesIn M (nI 3) x = mF_glancesIn_3 M x := by
  unfold mF_glancesIn
  rw [if_neg (by decide)]; rw [if_neg (by decide)]; rw [if_neg (by decide)]; rw [if_pos (by decide)]
theorem mF_glancesIn_at4 (M : mS) (x : Int32) : mF_glancesIn M (nI 4) x = mF_glancesIn_4 M x := by
  unfold mF_glancesIn
  rw [if_neg (by decide)]; rw [if_neg (by decide)]; rw [if_neg (by decide)]; rw [if_neg (by decide)]; rw [if_pos (by decide)]
theorem mF_glancesIn_at5 (M : mS) (x : Int32) : mF_glancesIn M (nI 5) x = mF_glancesIn_5 M x := by
  unfold mF_glancesIn
  rw [if_neg (by decide)]; rw [if_neg (by decide)]; rw [if_neg (by decide)]; rw [if_neg (by decide)]; rw [if_neg (by decide)]; rw [if_pos (by decide)]
theorem mF_glancesIn_at6 (M : mS) (x : Int32) : mF_glancesIn M (nI 6) x = mF_glancesIn_6 M x := by
  unfold mF_glancesIn
  rw [if_neg (by decide)]; rw [if_neg (by decide)]; rw [if_neg (by decide)]; rw [if_neg (by decide)]; rw [if_neg (by decide)]; rw [if_neg (by decide)]
theorem vR_glancesIn {M : mS} {kind x : Int32} (hV : vR M) : vR (mF_glancesIn M kind x).2 := by
  unfold mF_glancesIn
  repeat' split
  all_goals first | with_reducible exact vR_glancesIn_0 hV | with_reducible exact vR_glancesIn_1 hV | with_reducible exact vR_glancesIn_2 hV | with_reducible exact vR_glancesIn_3 hV | with_reducible exact vR_glancesIn_4 hV | with_reducible exact vR_glancesIn_5 hV | with_reducible exact vR_glancesIn_6 hV
def mF_addsIn_0 (M : mS) (x : Int32) : Int32 × mS := (lt (mF_ran M 11) fun (M7 : mS) => lt2 (mF_looksIn M7 (M7 0 25) x) fun (x16 : Int32) (M16 : mS) => ((x16 * 2), M16))
theorem vR_addsIn_0 {M : mS} {x : Int32} (hV : vR M) : vR (mF_addsIn_0 M x).2 := by
  unfold mF_addsIn_0
  simp only [lt_i, lt2_i]
  repeat (first | with_reducible exact hV | with_reducible apply ran_vR | with_reducible apply vR_looksIn_0 | with_reducible apply vR_looksIn_1 | with_reducible apply vR_looksIn_2 | with_reducible apply vR_looksIn_3 | with_reducible apply vR_looksIn_4 | with_reducible apply vR_looksIn_5 | with_reducible apply vR_looksIn_6 | with_reducible apply vR_looksIn | with_reducible apply vR_glancesIn_0 | with_reducible apply vR_glancesIn_1 | with_reducible apply vR_glancesIn_2 | with_reducible apply vR_glancesIn_3 | with_reducible apply vR_glancesIn_4 | with_reducible apply vR_glancesIn_5 | with_reducible apply vR_glancesIn_6 | with_reducible apply vR_glancesIn)
def mF_addsIn_1 (M : mS) (x : Int32) : Int32 × mS := (lt2 (mF_addsIn_0 M x) fun (x78 : Int32) (M78 : mS) => (x78, M78))
theorem vR_addsIn_1 {M : mS} {x : Int32} (hV : vR M) : vR (mF_addsIn_1 M x).2 := by
  unfold mF_addsIn_1
  simp only [lt_i, lt2_i]
  repeat (first | with_reducible exact hV | with_reducible apply ran_vR | with_reducible apply vR_looksIn_0 | with_reducible apply vR_looksIn_1 | with_reducible apply vR_looksIn_2 | with_reducible apply vR_looksIn_3 | with_reducible apply vR_looksIn_4 | with_reducible apply vR_looksIn_5 | with_reducible apply vR_looksIn_6 | with_reducible apply vR_looksIn | with_reducible apply vR_glancesIn_0 | with_reducible apply vR_glancesIn_1 | with_reducible apply vR_glancesIn_2 | with_reducible apply vR_glancesIn_3 | with_reducible apply vR_glancesIn_4 | with_reducible apply vR_glancesIn_5 | with_reducible apply vR_glancesIn_6 | with_reducible apply vR_glancesIn | with_reducible apply vR_addsIn_0)
def mF_addsIn_2 (M : mS) (x : Int32) : Int32 × mS := (lt (mF_ran M 30) fun (M30 : mS) => lt2 (mF_addsIn_0 M30 x) fun (x36 : Int32) (M36 : mS) => lt2 (mF_glancesIn M36 (M36 0 25) 1) fun (x47 : Int32) (M47 : mS) => ((x36 - x47), M47))
theorem vR_addsIn_2 {M : mS} {x : Int32} (hV : vR M) : vR (mF_addsIn_2 M x).2 := by
  unfold mF_addsIn_2
  simp only [lt_i, lt2_i]
  repeat (first | with_reducible exact hV | with_reducible apply ran_vR | with_reducible apply vR_looksIn_0 | with_reducible apply vR_looksIn_1 | with_reducible apply vR_looksIn_2 | with_reducible apply vR_looksIn_3 | with_reducible apply vR_looksIn_4 | with_reducible apply vR_looksIn_5 | with_reducible apply vR_looksIn_6 | with_reducible apply vR_looksIn | with_reducible apply vR_glancesIn_0 | with_reducible apply vR_glancesIn_1 | with_reducible apply vR_glancesIn_2 | with_reducible apply vR_glancesIn_3 | with_reducible apply vR_glancesIn_4 | with_reducible apply vR_glancesIn_5 | with_reducible apply vR_glancesIn_6 | with_reducible apply vR_glancesIn | with_reducible apply vR_addsIn_0 | with_reducible apply vR_addsIn_1)
def mF_addsIn_3 (M : mS) (x : Int32) : Int32 × mS := (lt2 (mF_addsIn_0 M x) fun (x78 : Int32) (M78 : mS) => (x78, M78))
theorem vR_addsIn_3 {M : mS} {x : Int32} (hV : vR M) : vR (mF_addsIn_3 M x).2 := by
  unfold mF_addsIn_3
  simp only [lt_i, lt2_i]
  repeat (first | with_reducible exact hV | with_reducible apply ran_vR | with_reducible apply vR_looksIn_0 | with_reducible apply vR_looksIn_1 | with_reducible apply vR_looksIn_2 | with_reducible apply vR_looksIn_3 | with_reducible apply vR_looksIn_4 | with_reducible apply vR_looksIn_5 | with_reducible apply vR_looksIn_6 | with_reducible apply vR_looksIn | with_reducible apply vR_glancesIn_0 | with_reducible apply vR_glancesIn_1 | with_reducible apply vR_glancesIn_2 | with_reducible apply vR_glancesIn_3 | with_reducible apply vR_glancesIn_4 | with_reducible apply vR_glancesIn_5 | with_reducible apply vR_glancesIn_6 | with_reducible apply vR_glancesIn | with_reducible apply vR_addsIn_0 | with_reducible apply vR_addsIn_1 | with_reducible apply vR_addsIn_2)
def mF_addsIn_4 (M : mS) (x : Int32) : Int32 × mS := (lt2 (mF_addsIn_1 M x) fun (x78 : Int32) (M78 : mS) => (x78, M78))
theorem vR_addsIn_4 {M : mS} {x : Int32} (hV : vR M) : vR (mF_addsIn_4 M x).2 := by
  unfold mF_addsIn_4
  simp only [lt_i, lt2_i]
  repeat (first | with_reducible exact hV | with_reducible apply ran_vR | with_reducible apply vR_looksIn_0 | with_reducible apply vR_looksIn_1 | with_reducible apply vR_looksIn_2 | with_reducible apply vR_looksIn_3 | with_reducible apply vR_looksIn_4 | with_reducible apply vR_looksIn_5 | with_reducible apply vR_looksIn_6 | with_reducible apply vR_looksIn | with_reducible apply vR_glancesIn_0 | with_reducible apply vR_glancesIn_1 | with_reducible apply vR_glancesIn_2 | with_reducible apply vR_glancesIn_3 | with_reducible apply vR_glancesIn_4 | with_reducible apply vR_glancesIn_5 | with_reducible apply vR_glancesIn_6 | with_reducible apply vR_glancesIn | with_reducible apply vR_addsIn_0 | with_reducible apply vR_addsIn_1 | with_reducible apply vR_addsIn_2 | with_reducible apply vR_addsIn_3)
def mF_addsIn_5 (M : mS) (x : Int32) : Int32 × mS := (lt (mF_ran M 60) fun (M60 : mS) => lt2 (mF_addsIn_2 M60 (x + 1)) fun (x68 : Int32) (M68 : mS) => (x68, M68))
theorem vR_addsIn_5 {M : mS} {x : Int32} (hV : vR M) : vR (mF_addsIn_5 M x).2 := by
  unfold mF_addsIn_5
  simp only [lt_i, lt2_i]
  repeat (first | with_reducible exact hV | with_reducible apply ran_vR | with_reducible apply vR_looksIn_0 | with_reducible apply vR_looksIn_1 | with_reducible apply vR_looksIn_2 | with_reducible apply vR_looksIn_3 | with_reducible apply vR_looksIn_4 | with_reducible apply vR_looksIn_5 | with_reducible apply vR_looksIn_6 | with_reducible apply vR_looksIn | with_reducible apply vR_glancesIn_0 | with_reducible apply vR_glancesIn_1 | with_reducible apply vR_glancesIn_2 | with_reducible apply vR_glancesIn_3 | with_reducible apply vR_glancesIn_4 | with_reducible apply vR_glancesIn_5 | with_reducible apply vR_glancesIn_6 | with_reducible apply vR_glancesIn | with_reducible apply vR_addsIn_0 | with_reducible apply vR_addsIn_1 | with_reducible apply vR_addsIn_2 | with_reducible apply vR_addsIn_3 | with_reducible apply vR_addsIn_4)
def mF_addsIn_6 (M : mS) (x : Int32) : Int32 × mS := (lt2 (mF_addsIn_3 M x) fun (x78 : Int32) (M78 : mS) => (x78, M78))
theorem vR_addsIn_6 {M : mS} {x : Int32} (hV : vR M) : vR (mF_addsIn_6 M x).2 := by
  unfold mF_addsIn_6
  simp only [lt_i, lt2_i]
  repeat (first | with_reducible exact hV | with_reducible apply ran_vR | with_reducible apply vR_looksIn_0 | with_reducible apply vR_looksIn_1 | with_reducible apply vR_looksIn_2 | with_reducible apply vR_looksIn_3 | with_reducible apply vR_looksIn_4 | with_reducible apply vR_looksIn_5 | with_reducible apply vR_looksIn_6 | with_reducible apply vR_looksIn | with_reducible apply vR_glancesIn_0 | with_reducible apply vR_glancesIn_1 | with_reducible apply vR_glancesIn_2 | with_reducible apply vR_glancesIn_3 | with_reducible apply vR_glancesIn_4 | with_reducible apply vR_glancesIn_5 | with_reducible apply vR_glancesIn_6 | with_reducible apply vR_glancesIn | with_reducible apply vR_addsIn_0 | with_reducible apply vR_addsIn_1 | with_reducible apply vR_addsIn_2 | with_reducible apply vR_addsIn_3 | with_reducible apply vR_addsIn_4 | with_reducible apply vR_addsIn_5)
def mF_addsIn (M : mS) (kind x : Int32) : Int32 × mS := (if kind = 0 then mF_addsIn_0 M x else (if kind = 1 then mF_addsIn_1 M x else (if kind = 2 then mF_addsIn_2 M x else (if kind = 3 then mF_addsIn_3 M x else (if kind = 4 then mF_addsIn_4 M x else (if kind = 5 then mF_addsIn_5 M x else mF_addsIn_6 M x))))))
theorem mF_addsIn_at0 (M : mS) (x : Int32) : mF_addsIn M (nI 0) x = mF_addsIn_0 M x := by
  unfold mF_addsIn
  rw [if_pos (by decide)]
theorem mF_addsIn_at1 (M : mS) (x : Int32) : mF_addsIn M (nI 1) x = mF_addsIn_1 M x := by
  unfold mF_addsIn
  rw [if_neg (by decide)]; rw [if_pos (by decide)]
theorem mF_addsIn_at2 (M : mS) (x : Int32) : mF_addsIn M (nI 2) x = mF_addsIn_2 M x := by
  unfold mF_addsIn
  rw [if_neg (by decide)]; rw [if_neg (by decide)]; rw [if_pos (by decide)]
theorem mF_addsIn_at3 (M : mS) (x : Int32) : mF_addsIn M (nI 3) x = mF_addsIn_3 M x := by
  unfold mF_addsIn
  rw [if_neg (by decide)]; rw [if_neg (by decide)]; rw [if_neg (by decide)]; rw [if_pos (by decide)]
theorem mF_addsIn_at4 (M : mS) (x : Int32) : mF_addsIn M (nI 4) x = mF_addsIn_4 M x := by
  unfold mF_addsIn
  rw [if_neg (by decide)]; rw [if_neg (by decide)]; rw [if_neg (by decide)]; rw [if_neg (by decide)]; rw [if_pos (by decide)]
theorem mF_addsIn_at5 (M : mS) (x : Int32) : mF_addsIn M (nI 5) x = mF_addsIn_5 M x := by
  unfold mF_addsIn
  rw [if_neg (by decide)]; rw [if_neg (by decide)]; rw [if_neg (by decide)]; rw [if_neg (by decide)]; rw [if_neg (by decide)]; rw [if_pos (by decide)]
theorem mF_addsIn_at6 (M : mS) (x : Int32) : mF_addsIn M (nI 6) x = mF_addsIn_6 M x := by
  unfold mF_addsIn
  rw [if_neg (by decide)]; rw [if_neg (by decide)]; rw [if_neg (by decide)]; rw [if_neg (by decide)]; rw [if_neg (by decide)]; rw [if_neg (by decide)]
theorem vR_addsIn {M : mS} {kind x : Int32} (hV : vR M) : vR (mF_addsIn M kind x).2 := by
  unfold mF_addsIn
  repeat' split
  all_goals first | with_reducible exact vR_addsIn_0 hV | with_reducible exact vR_addsIn_1 hV | with_reducible exact vR_addsIn_2 hV | with_reducible exact vR_addsIn_3 hV | with_reducible exact vR_addsIn_4 hV | with_reducible exact vR_addsIn_5 hV | with_reducible exact vR_addsIn_6 hV
def mF_provesIn_0 (M : mS) (x : Int32) : Int32 × mS := (lt (mF_ran M 13) fun (M7 : mS) => lt2 (mF_addsIn M7 (M7 0 25) x) fun (x16 : Int32) (M16 : mS) => lt2 (mF_glancesIn M16 (M16 0 25) x) fun (x27 : Int32) (M27 : mS) => ((x16 ^^^ x27), M27))
theorem vR_provesIn_0 {M : mS} {x : Int32} (hV : vR M) : vR (mF_provesIn_0 M x).2 := by
  unfold mF_provesIn_0
  simp only [lt_i, lt2_i]
  repeat (first | with_reducible exact hV | with_reducible apply ran_vR | with_reducible apply vR_looksIn_0 | with_reducible apply vR_looksIn_1 | with_reducible apply vR_looksIn_2 | with_reducible apply vR_looksIn_3 | with_reducible apply vR_looksIn_4 | with_reducible apply vR_looksIn_5 | with_reducible apply vR_looksIn_6 | with_reducible apply vR_looksIn | with_reducible apply vR_glancesIn_0 | with_reducible apply vR_glancesIn_1 | with_reducible apply vR_glancesIn_2 | with_reducible apply vR_glancesIn_3 | with_reducible apply vR_glancesIn_4 | with_reducible apply vR_glancesIn_5 | with_reducible apply vR_glancesIn_6 | with_reducible apply vR_glancesIn | with_reducible apply vR_addsIn_0 | with_reducible apply vR_addsIn_1 | with_reducible apply vR_addsIn_2 | with_reducible apply vR_addsIn_3 | with_reducible apply vR_addsIn_4 | with_reducible apply vR_addsIn_5 | with_reducible apply vR_addsIn_6 | with_reducible apply vR_addsIn)
def mF_provesIn_1 (M : mS) (x : Int32) : Int32 × mS := (lt2 (mF_provesIn_0 M x) fun (x99 : Int32) (M99 : mS) => (x99, M99))
theorem vR_provesIn_1 {M : mS} {x : Int32} (hV : vR M) : vR (mF_provesIn_1 M x).2 := by
  unfold mF_provesIn_1
  simp only [lt_i, lt2_i]
  repeat (first | with_reducible exact hV | with_reducible apply ran_vR | with_reducible apply vR_looksIn_0 | with_reducible apply vR_looksIn_1 | with_reducible apply vR_looksIn_2 | with_reducible apply vR_looksIn_3 | with_reducible apply vR_looksIn_4 | with_reducible apply vR_looksIn_5 | with_reducible apply vR_looksIn_6 | with_reducible apply vR_looksIn | with_reducible apply vR_glancesIn_0 | with_reducible apply vR_glancesIn_1 | with_reducible apply vR_glancesIn_2 | with_reducible apply vR_glancesIn_3 | with_reducible apply vR_glancesIn_4 | with_reducible apply vR_glancesIn_5 | with_reducible apply vR_glancesIn_6 | with_reducible apply vR_glancesIn | with_reducible apply vR_addsIn_0 | with_reducible apply vR_addsIn_1 | with_reducible apply vR_addsIn_2 | with_reducible apply vR_addsIn_3 | with_reducible apply vR_addsIn_4 | with_reducible apply vR_addsIn_5 | with_reducible apply vR_addsIn_6 | with_reducible apply vR_addsIn | with_reducible apply vR_provesIn_0)
def mF_provesIn_2 (M : mS) (x : Int32) : Int32 × mS := (lt2 (mF_provesIn_0 M x) fun (x99 : Int32) (M99 : mS) => (x99, M99))
theorem vR_provesIn_2 {M : mS} {x : Int32} (hV : vR M) : vR (mF_provesIn_2 M x).2 := by
  unfold mF_provesIn_2
  simp only [lt_i, lt2_i]
  repeat (first | with_reducible exact hV | with_reducible apply ran_vR | with_reducible apply vR_looksIn_0 | with_reducible apply vR_looksIn_1 | with_reducible apply vR_looksIn_2 | with_reducible apply vR_looksIn_3 | with_reducible apply vR_looksIn_4 | with_reducible apply vR_looksIn_5 | with_reducible apply vR_looksIn_6 | with_reducible apply vR_looksIn | with_reducible apply vR_glancesIn_0 | with_reducible apply vR_glancesIn_1 | with_reducible apply vR_glancesIn_2 | with_reducible apply vR_glancesIn_3 | with_reducible apply vR_glancesIn_4 | with_reducible apply vR_glancesIn_5 | with_reducible apply vR_glancesIn_6 | with_reducible apply vR_glancesIn | with_reducible apply vR_addsIn_0 | with_reducible apply vR_addsIn_1 | with_reducible apply vR_addsIn_2 | with_reducible apply vR_addsIn_3 | with_reducible apply vR_addsIn_4 | with_reducible apply vR_addsIn_5 | with_reducible apply vR_addsIn_6 | with_reducible apply vR_addsIn | with_reducible apply vR_provesIn_0 | with_reducible apply vR_provesIn_1)
def mF_provesIn_3 (M : mS) (x : Int32) : Int32 × mS := (lt2 (mF_provesIn_0 M x) fun (x99 : Int32) (M99 : mS) => (x99, M99))
theorem vR_provesIn_3 {M : mS} {x : Int32} (hV : vR M) : vR (mF_provesIn_3 M x).2 := by
  unfold mF_provesIn_3
  simp only [lt_i, lt2_i]
  repeat (first | with_reducible exact hV | with_reducible apply ran_vR | with_reducible apply vR_looksIn_0 | with_reducible apply vR_looksIn_1 | with_reducible apply vR_looksIn_2 | with_reducible apply vR_looksIn_3 | with_reducible apply vR_looksIn_4 | with_reducible apply vR_looksIn_5 | with_reducible apply vR_looksIn_6 | with_reducible apply vR_looksIn | with_reducible apply vR_glancesIn_0 | with_reducible apply vR_glancesIn_1 | with_reducible apply vR_glancesIn_2 | with_reducible apply vR_glancesIn_3 | with_reducible apply vR_glancesIn_4 | with_reducible apply vR_glancesIn_5 | with_reducible apply vR_glancesIn_6 | with_reducible apply vR_glancesIn | with_reducible apply vR_addsIn_0 | with_reducible apply vR_addsIn_1 | with_reducible apply vR_addsIn_2 | with_reducible apply vR_addsIn_3 | with_reducible apply vR_addsIn_4 | with_reducible apply vR_addsIn_5 | with_reducible apply vR_addsIn_6 | with_reducible apply vR_addsIn | with_reducible apply vR_provesIn_0 | with_reducible apply vR_provesIn_1 | with_reducible apply vR_provesIn_2)
def mF_provesIn_4 (M : mS) (x : Int32) : Int32 × mS := (lt (mF_ran M 50) fun (M40 : mS) => lt2 (mF_provesIn_1 M40 x) fun (x46 : Int32) (M46 : mS) => lt2 (mF_looksIn M46 (M46 0 25) 2) fun (x57 : Int32) (M57 : mS) => ((x46 - x57), M57))
theorem vR_provesIn_4 {M : mS} {x : Int32} (hV : vR M) : vR (mF_provesIn_4 M x).2 := by
  unfold mF_provesIn_4
  simp only [lt_i, lt2_i]
  repeat (first | with_reducible exact hV | with_reducible apply ran_vR | with_reducible apply vR_looksIn_0 | with_reducible apply vR_looksIn_1 | with_reducible apply vR_looksIn_2 | with_reducible apply vR_looksIn_3 | with_reducible apply vR_looksIn_4 | with_reducible apply vR_looksIn_5 | with_reducible apply vR_looksIn_6 | with_reducible apply vR_looksIn | with_reducible apply vR_glancesIn_0 | with_reducible apply vR_glancesIn_1 | with_reducible apply vR_glancesIn_2 | with_reducible apply vR_glancesIn_3 | with_reducible apply vR_glancesIn_4 | with_reducible apply vR_glancesIn_5 | with_reducible apply vR_glancesIn_6 | with_reducible apply vR_glancesIn | with_reducible apply vR_addsIn_0 | with_reducible apply vR_addsIn_1 | with_reducible apply vR_addsIn_2 | with_reducible apply vR_addsIn_3 | with_reducible apply vR_addsIn_4 | with_reducible apply vR_addsIn_5 | with_reducible apply vR_addsIn_6 | with_reducible apply vR_addsIn | with_reducible apply vR_provesIn_0 | with_reducible apply vR_provesIn_1 | with_reducible apply vR_provesIn_2 | with_reducible apply vR_provesIn_3)
def mF_provesIn_5 (M : mS) (x : Int32) : Int32 × mS := (lt2 (mF_provesIn_2 M x) fun (x99 : Int32) (M99 : mS) => (x99, M99))
theorem vR_provesIn_5 {M : mS} {x : Int32} (hV : vR M) : vR (mF_provesIn_5 M x).2 := by
  unfold mF_provesIn_5
  simp only [lt_i, lt2_i]
  repeat (first | with_reducible exact hV | with_reducible apply ran_vR | with_reducible apply vR_looksIn_0 | with_reducible apply vR_looksIn_1 | with_reducible apply vR_looksIn_2 | with_reducible apply vR_looksIn_3 | with_reducible apply vR_looksIn_4 | with_reducible apply vR_looksIn_5 | with_reducible apply vR_looksIn_6 | with_reducible apply vR_looksIn | with_reducible apply vR_glancesIn_0 | with_reducible apply vR_glancesIn_1 | with_reducible apply vR_glancesIn_2 | with_reducible apply vR_glancesIn_3 | with_reducible apply vR_glancesIn_4 | with_reducible apply vR_glancesIn_5 | with_reducible apply vR_glancesIn_6 | with_reducible apply vR_glancesIn | with_reducible apply vR_addsIn_0 | with_reducible apply vR_addsIn_1 | with_reducible apply vR_addsIn_2 | with_reducible apply vR_addsIn_3 | with_reducible apply vR_addsIn_4 | with_reducible apply vR_addsIn_5 | with_reducible apply vR_addsIn_6 | with_reducible apply vR_addsIn | with_reducible apply vR_provesIn_0 | with_reducible apply vR_provesIn_1 | with_reducible apply vR_provesIn_2 | with_reducible apply vR_provesIn_3 | with_reducible apply vR_provesIn_4)
def mF_provesIn_6 (M : mS) (x : Int32) : Int32 × mS := (lt (mF_ran M 71) fun (M71 : mS) => lt2 (mF_addsIn M71 (M71 0 25) x) fun (x80 : Int32) (M80 : mS) => lt2 (mF_provesIn_3 M80 x) fun (x88 : Int32) (M88 : mS) => ((x80 - x88), M88))
theorem vR_provesIn_6 {M : mS} {x : Int32} (hV : vR M) : vR (mF_provesIn_6 M x).2 := by
  unfold mF_provesIn_6
  simp only [lt_i, lt2_i]
  repeat (first | with_reducible exact hV | with_reducible apply ran_vR | with_reducible apply vR_looksIn_0 | with_reducible apply vR_looksIn_1 | with_reducible apply vR_looksIn_2 | with_reducible apply vR_looksIn_3 | with_reducible apply vR_looksIn_4 | with_reducible apply vR_looksIn_5 | with_reducible apply vR_looksIn_6 | with_reducible apply vR_looksIn | with_reducible apply vR_glancesIn_0 | with_reducible apply vR_glancesIn_1 | with_reducible apply vR_glancesIn_2 | with_reducible apply vR_glancesIn_3 | with_reducible apply vR_glancesIn_4 | with_reducible apply vR_glancesIn_5 | with_reducible apply vR_glancesIn_6 | with_reducible apply vR_glancesIn | with_reducible apply vR_addsIn_0 | with_reducible apply vR_addsIn_1 | with_reducible apply vR_addsIn_2 | with_reducible apply vR_addsIn_3 | with_reducible apply vR_addsIn_4 | with_reducible apply vR_addsIn_5 | with_reducible apply vR_addsIn_6 | with_reducible apply vR_addsIn | with_reducible apply vR_provesIn_0 | with_reducible apply vR_provesIn_1 | with_reducible apply vR_provesIn_2 | with_reducible apply vR_provesIn_3 | with_reducible apply vR_provesIn_4 | with_reducible apply vR_provesIn_5)
def mF_provesIn (M : mS) (kind x : Int32) : Int32 × mS := (if kind = 0 then mF_provesIn_0 M x else (if kind = 1 then mF_provesIn_1 M x else (if kind = 2 then mF_provesIn_2 M x else (if kind = 3 then mF_provesIn_3 M x else (if kind = 4 then mF_provesIn_4 M x else (if kind = 5 then mF_provesIn_5 M x else mF_provesIn_6 M x))))))
theorem mF_provesIn_at0 (M : mS) (x : Int32) : mF_provesIn M (nI 0) x = mF_provesIn_0 M x := by
  unfold mF_provesIn
  rw [if_pos (by decide)]
theorem mF_provesIn_at1 (M : mS) (x : Int32) : mF_provesIn M (nI 1) x = mF_provesIn_1 M x := by
  unfold mF_provesIn
  rw [if_neg (by decide)]; rw [if_pos (by decide)]
theorem mF_provesIn_at2 (M : mS) (x : Int32) : mF_provesIn M (nI 2) x = mF_provesIn_2 M x := by
  unfold mF_provesIn
  rw [if_neg (by decide)]; rw [if_neg (by decide)]; rw [if_pos (by decide)]
theorem mF_provesIn_at3 (M : mS) (x : Int32) : mF_provesIn M (nI 3) x = mF_provesIn_3 M x := by
  unfold mF_provesIn
  rw [if_neg (by decide)]; rw [if_neg (by decide)]; rw [if_neg (by decide)]; rw [if_pos (by decide)]
theorem mF_provesIn_at4 (M : mS) (x : Int32) : mF_provesIn M (nI 4) x = mF_provesIn_4 M x := by
  unfold mF_provesIn
  rw [if_neg (by decide)]; rw [if_neg (by decide)]; rw [if_neg (by decide)]; rw [if_neg (by decide)]; rw [if_pos (by decide)]
theorem mF_provesIn_at5 (M : mS) (x : Int32) : mF_provesIn M (nI 5) x = mF_provesIn_5 M x := by
  unfold mF_provesIn
  rw [if_neg (by decide)]; rw [if_neg (by decide)]; rw [if_neg (by decide)]; rw [if_neg (by decide)]; rw [if_neg (by decide)]; rw [if_pos (by decide)]
theorem mF_provesIn_at6 (M : mS) (x : Int32) : mF_provesIn M (nI 6) x = mF_provesIn_6 M x := by
  unfold mF_provesIn
  rw [if_neg (by decide)]; rw [if_neg (by decide)]; rw [if_neg (by decide)]; rw [if_neg (by decide)]; rw [if_neg (by decide)]; rw [if_neg (by decide)]
theorem vR_provesIn {M : mS} {kind x : Int32} (hV : vR M) : vR (mF_provesIn M kind x).2 := by
  unfold mF_provesIn
  repeat' split
  all_goals first | with_reducible exact vR_provesIn_0 hV | with_reducible exact vR_provesIn_1 hV | with_reducible exact vR_provesIn_2 hV | with_reducible exact vR_provesIn_3 hV | with_reducible exact vR_provesIn_4 hV | with_reducible exact vR_provesIn_5 hV | with_reducible exact vR_provesIn_6 hV
theorem vc_V {M M26 M36 M41 M51 : mS} {q : Nat} {a b : Int32} (hK : M 1 (32 + 4 * q + 0) = nI (vn (M 1 (32 + 4 * q + 0))) ∧ vn (M 1 (32 + 4 * q + 0)) ≤ 6) (h26 : M26 = mU M 0 24 0) (h36 : M36 = mU M26 0 25 (mF_its M26 q 0)) (h41 : M41 = mU M36 0 26 a) (h51 : M51 = mU M41 0 27 b) : vR M51 := by
  subst h26
  have e : mF_its (mU M 0 24 0) q 0 = M 1 (32 + 4 * q + 0) := by unfold mF_its; rw [mU_row (by decide)]
  rw [e] at h36
  subst h36
  subst h41
  subst h51
  refine ⟨?_, vn (M 1 (32 + 4 * q + 0)), hK.2, ?_⟩
  · unfold vOK
    rw [mU_ne (by decide), mU_ne (by decide), mU_ne (by decide), mU_eq]
    exact ⟨rfl, by decide⟩
  · rw [mU_ne (by decide), mU_ne (by decide), mU_eq]
    exact hK.1
def mF_voice (M : mS) (q : Int32) (act : Int32) (x : Int32) : Int32 × mS := (if (mF_isPerson M q) = 0 then (lt2 (mF_errs M (-1000000001)) fun (x20 : Int32) (M20 : mS) => (x20, M20)) else (if (sF_in act 0 3) = 0 then (lt2 (mF_errs M (-1000000001)) fun (x20 : Int32) (M20 : mS) => (x20, M20)) else (lt (mU M 0 24 0) fun (M26 : mS) => lt (mU M26 0 25 (mF_its M26 (vn q) 0)) fun (M36 : mS) => lt (mU M36 0 26 q) fun (M41 : mS) => lt (mU M41 0 27 (mF_its M41 (vn q) 1)) fun (M51 : mS) => (if act = 0 then (lt2 (mF_looksIn M51 (M51 0 25) x) fun (x86 : Int32) (M86 : mS) => (x86, M86)) else (if act = 1 then (lt2 (mF_addsIn M51 (M51 0 25) x) fun (x96 : Int32) (M96 : mS) => (x96, M96)) else (if act = 2 then (lt2 (mF_glancesIn M51 (M51 0 25) x) fun (x106 : Int32) (M106 : mS) => (x106, M106)) else (lt2 (mF_provesIn M51 (M51 0 25) x) fun (x116 : Int32) (M116 : mS) => (x116, M116))))))))
/-! of 15.ref12 -/
def mF_leadsBoth (M : mS) (one : Nat) (two : Nat) (c : Nat) (v : Int32) (n : Nat) : Int32 × mS := (lt (mF_its M (one / vn (M 1 3)) 2) fun (x27 : Int32) => lt (mF_its M (two / vn (M 1 3)) 2) fun (x36 : Int32) => (if x27 = ((nI one) - (nI one) / (nI (vn (M 1 3))) * (nI (vn (M 1 3)))) then (0, M) else (if x36 = ((nI two) - (nI two) / (nI (vn (M 1 3))) * (nI (vn (M 1 3)))) then (0, M) else (lt (mF_gets M (one / vn (M 1 3)) 2 ((nI one) - (nI one) / (nI (vn (M 1 3))) * (nI (vn (M 1 3))))) fun (M66 : mS) => lt (mF_gets M66 (two / vn (M 1 3)) 2 ((nI two) - (nI two) / (nI (vn (M 1 3))) * (nI (vn (M 1 3))))) fun (M77 : mS) => lt2 (mF_hasThen M77 c v n) fun (x86 : Int32) (M86 : mS) => lt (mF_gets M86 (one / vn (M 1 3)) 2 x27) fun (M97 : mS) => lt (mF_gets M97 (two / vn (M 1 3)) 2 x36) fun (M106 : mS) => (x86, M106)))))

theorem rem_lt {o d : Nat} (ho : o < 2 ^ 31) (h0 : 0 < d) (hd : d ≤ 10) : nI o - nI o / nI d * nI d = nI (vn (nI o - nI o / nI d * nI d)) ∧ vn (nI o - nI o / nI d * nI d) < 10 := by
  rw [pk_rem ho h0 (by omega)]
  have h := Nat.mod_lt o h0
  rw [vn_nI (by omega)]
  exact ⟨rfl, by omega⟩
theorem gt_R {M : mS} {q : Nat} {x : Int32} (hR : rOK M) (hq : q < 8) (hx : x = nI (vn x) ∧ vn x < 10) : rOK (mF_gets M q 2 x) := by
  unfold mF_gets
  rw [lt_i]
  exact rOK_at hR hq hx
theorem gt_at (M : mS) (q : Nat) (x : Int32) (j : Nat) : mF_gets M q 2 x 1 j = if j = 32 + 4 * q + 2 then x else M 1 j := by
  unfold mF_gets
  rw [lt_i]
  by_cases e : j = 32 + 4 * q + 2
  · rw [if_pos e, e, mU_eq]
  · rw [if_neg e, mU_ne e]
theorem hT_01 {M M2 : mS} {c n : Nat} {v x : Int32} (h : (x, M2) = mF_hasThen M c v n) : x = 0 ∨ x = 1 := by
  unfold mF_hasThen at h
  simp only [lt_i] at h
  have h1 := (Prod.mk.inj h).1
  rw [h1]
  split <;> first | exact Or.inl rfl | exact Or.inr rfl
theorem hT_q {M M2 : mS} {c n : Nat} {v x : Int32} (h : (x, M2) = mF_hasThen M c v n) : ∀ j, j < 234 → M2 1 j = M 1 j := by
  intro j hj
  unfold mF_hasThen at h
  simp only [lt_i] at h
  have h1 := (Prod.mk.inj h).2
  rw [h1, mv31_at, if_pos hj, ps_e, pS_row _ _ 3 (by decide) (by decide), mv13_at, if_pos hj]
theorem tl_row (M : mS) (a b c d : Int32) (i : Nat) (h : i ≠ 7) : mF_tells M a b c d i = M i := by
  unfold mF_tells
  simp only [lt_i]
  rw [mU_row h, mU_row h, mU_row h, mU_row h]
theorem gt_back {A B : mS} {q : Nat} {z w : Int32} (hB : ∀ y, y < 234 → B 1 y = mF_gets A q 2 z 1 y) (hw : w = mF_its A q 2) : ∀ x, x < 234 → mF_gets B q 2 w 1 x = A 1 x := by
  intro x hx
  rw [gt_at]
  by_cases e : x = 32 + 4 * q + 2
  · rw [if_pos e, hw, e]; rfl
  · rw [if_neg e, hB x hx, gt_at, if_neg e]
def mF_findLeads_L158 (M : mS) (c : Nat) (v : Int32) (n : Nat) (kb : Nat) (K158 : Nat → mS → Int32 × mS) : Nat → Nat → mS → Int32 × mS
  | 0, kd, M158 => K158 kd M158
  | f158 + 1, kd, M158 => (if ((M158 1 8) * (nI (vn (M 1 3)))) ≤ (nI kd) then (K158 kd M158) else (lt2 (mF_leadsBoth M158 kb kd c v n) fun (x181 : Int32) (M181 : mS) => (if x181 = 0 then (mF_findLeads_L158 M c v n kb K158 f158 (kd + 1) M181) else (lt (mF_tells M181 ((nI kb) / (nI (vn (M 1 3)))) ((nI kb) - (nI kb) / (nI (vn (M 1 3))) * (nI (vn (M 1 3)))) ((nI kd) / (nI (vn (M 1 3)))) ((nI kd) - (nI kd) / (nI (vn (M 1 3))) * (nI (vn (M 1 3))))) fun (M208 : mS) => (2, M208)))))
theorem mF_findLeads_L158_s (M : mS) (c : Nat) (v : Int32) (n : Nat) (kb : Nat) (K158 : Nat → mS → Int32 × mS) (f158 : Nat) (kd : Nat) (M158 : mS) : mF_findLeads_L158 M c v n kb K158 (f158 + 1) kd M158 = (if ((M158 1 8) * (nI (vn (M 1 3)))) ≤ (nI kd) then (K158 kd M158) else (lt2 (mF_leadsBoth M158 kb kd c v n) fun (x181 : Int32) (M181 : mS) => (if x181 = 0 then (mF_findLeads_L158 M c v n kb K158 f158 (kd + 1) M181) else (lt (mF_tells M181 ((nI kb) / (nI (vn (M 1 3)))) ((nI kb) - (nI kb) / (nI (vn (M 1 3))) * (nI (vn (M 1 3)))) ((nI kd) / (nI (vn (M 1 3)))) ((nI kd) - (nI kd) / (nI (vn (M 1 3))) * (nI (vn (M 1 3))))) fun (M208 : mS) => (2, M208))))) := rfl
def mF_findLeads_L131 (M : mS) (c : Nat) (v : Int32) (n : Nat) (K131 : Nat → mS → Int32 × mS) : Nat → Nat → mS → Int32 × mS
  | 0, kb, M131 => K131 kb M131
  | f131 + 1, kb, M131 => (if ((M131 1 8) * (nI (vn (M 1 3)))) ≤ (nI kb) then (K131 kb M131) else (mF_findLeads_L158 M c v n kb (fun (kdx : Nat) (M158x : mS) => (mF_findLeads_L131 M c v n K131 f131 (kb + 1) M158x)) (vn (M 1 3) * vn (M 1 8) + 1) ((vn (M 1 3)) * ((kb / vn (M 1 3)) + 1)) M131))
theorem mF_findLeads_L131_s (M : mS) (c : Nat) (v : Int32) (n : Nat) (K131 : Nat → mS → Int32 × mS) (f131 : Nat) (kb : Nat) (M131 : mS) : mF_findLeads_L131 M c v n K131 (f131 + 1) kb M131 = (if ((M131 1 8) * (nI (vn (M 1 3)))) ≤ (nI kb) then (K131 kb M131) else (mF_findLeads_L158 M c v n kb (fun (kdx : Nat) (M158x : mS) => (mF_findLeads_L131 M c v n K131 f131 (kb + 1) M158x)) (vn (M 1 3) * vn (M 1 8) + 1) ((vn (M 1 3)) * ((kb / vn (M 1 3)) + 1)) M131)) := rfl
def mF_findLeads_L31 (M : mS) (c : Nat) (v : Int32) (n : Nat) (K31 : Nat → mS → Int32 × mS) : Nat → Nat → mS → Int32 × mS
  | 0, ka, M31 => K31 ka M31
  | f31 + 1, ka, M31 => (if ((M31 1 8) * (nI (vn (M 1 3)))) ≤ (nI ka) then (K31 ka M31) else (lt (mF_its M31 (ka / vn (M 1 3)) 2) fun (x60 : Int32) => (if x60 = ((nI ka) - (nI ka) / (nI (vn (M 1 3))) * (nI (vn (M 1 3)))) then (mF_findLeads_L31 M c v n K31 f31 (ka + 1) M31) else (lt (mF_gets M31 (ka / vn (M 1 3)) 2 ((nI ka) - (nI ka) / (nI (vn (M 1 3))) * (nI (vn (M 1 3))))) fun (M81 : mS) => lt2 (mF_hasThen M81 c v n) fun (x88 : Int32) (M88 : mS) => lt (mF_gets M88 (ka / vn (M 1 3)) 2 x60) fun (M99 : mS) => (if x88 = 0 then (mF_findLeads_L31 M c v n K31 f31 (ka + 1) M99) else (lt (mF_tells M99 (nI (ka / vn (M 1 3))) ((nI ka) - (nI ka) / (nI (vn (M 1 3))) * (nI (vn (M 1 3)))) (-1) (-1)) fun (M117 : mS) => (1, M117)))))))
theorem mF_findLeads_L31_s (M : mS) (c : Nat) (v : Int32) (n : Nat) (K31 : Nat → mS → Int32 × mS) (f31 : Nat) (ka : Nat) (M31 : mS) : mF_findLeads_L31 M c v n K31 (f31 + 1) ka M31 = (if ((M31 1 8) * (nI (vn (M 1 3)))) ≤ (nI ka) then (K31 ka M31) else (lt (mF_its M31 (ka / vn (M 1 3)) 2) fun (x60 : Int32) => (if x60 = ((nI ka) - (nI ka) / (nI (vn (M 1 3))) * (nI (vn (M 1 3)))) then (mF_findLeads_L31 M c v n K31 f31 (ka + 1) M31) else (lt (mF_gets M31 (ka / vn (M 1 3)) 2 ((nI ka) - (nI ka) / (nI (vn (M 1 3))) * (nI (vn (M 1 3))))) fun (M81 : mS) => lt2 (mF_hasThen M81 c v n) fun (x88 : Int32) (M88 : mS) => lt (mF_gets M88 (ka / vn (M 1 3)) 2 x60) fun (M99 : mS) => (if x88 = 0 then (mF_findLeads_L31 M c v n K31 f31 (ka + 1) M99) else (lt (mF_tells M99 (nI (ka / vn (M 1 3))) ((nI ka) - (nI ka) / (nI (vn (M 1 3))) * (nI (vn (M 1 3)))) (-1) (-1)) fun (M117 : mS) => (1, M117))))))) := rfl
def mF_findLeads (M : mS) (c : Nat) (v : Int32) (n : Nat) : Int32 × mS := (lt (mF_tells M (-1) (-1) (-1) (-1)) fun (M5 : mS) => lt2 (mF_hasThen M5 c v n) fun (x12 : Int32) (M12 : mS) => (if x12 = 0 then (mF_findLeads_L31 M c v n (fun (kax : Nat) (M31x : mS) => (mF_findLeads_L131 M c v n (fun (kbx : Nat) (M131x : mS) => ((-1), M131x)) (vn (M 1 3) * vn (M 1 8) + 1) 0 M31x)) (vn (M 1 3) * vn (M 1 8) + 1) 0 M12) else (0, M12)))

theorem lB_q {M M2 : mS} {one two c n : Nat} {v x : Int32} (hR : rOK M) (h1 : one < vn (M 1 3) * vn (M 1 8)) (h2 : two < vn (M 1 3) * vn (M 1 8)) (h : (x, M2) = mF_leadsBoth M one two c v n) : ∀ j, j < 234 → M2 1 j = M 1 j := by
  intro j hj
  have key : ∀ N : mS, (mF_hasThen N c v n).2 1 j = N 1 j := fun N => hT_q (x := (mF_hasThen N c v n).1) (M2 := (mF_hasThen N c v n).2) rfl j hj
  unfold mF_leadsBoth at h
  simp only [lt_i, lt2_i] at h
  split at h
  · rw [(Prod.mk.inj h).2]
  · split at h
    · rw [(Prod.mk.inj h).2]
    · rw [(Prod.mk.inj h).2, gt_at]
      by_cases e1 : j = 32 + 4 * (two / vn (M 1 3)) + 2
      · rw [if_pos e1, e1]; rfl
      · rw [if_neg e1, gt_at]
        by_cases e2 : j = 32 + 4 * (one / vn (M 1 3)) + 2
        · rw [if_pos e2, e2]; rfl
        · rw [if_neg e2, key, gt_at, if_neg e1, gt_at, if_neg e2]
def mF_leads (M : mS) (c : Int32) (v : Int32) (n : Int32) (what : Int32) : Int32 × mS := (if (mF_isCell M c) = 0 then (lt2 (mF_errs M (-1000000001)) fun (x40 : Int32) (M40 : mS) => (x40, M40)) else (if (sF_in v 0 99999) = 0 then (lt2 (mF_errs M (-1000000001)) fun (x40 : Int32) (M40 : mS) => (x40, M40)) else (if (sF_in n 0 3) = 0 then (lt2 (mF_errs M (-1000000001)) fun (x40 : Int32) (M40 : mS) => (x40, M40)) else (if (sF_in what (-1) 3) = 0 then (lt2 (mF_errs M (-1000000001)) fun (x40 : Int32) (M40 : mS) => (x40, M40)) else (lt2 (mF_findLeads M (vn c) v (vn n)) fun (x48 : Int32) (M48 : mS) => (if 0 ≤ x48 then (if 0 ≤ what then (if 0 ≤ what then ((M48 7 (vn what)), M48) else ((M48 7 0), M48)) else (x48, M48)) else (lt2 (mF_errs M48 (-1000000002)) fun (x61 : Int32) (M61 : mS) => (x61, M61))))))))

theorem wh3 {w : Int32} (h : ¬ sF_in w (-1) 3 = 0) (h0 : 0 ≤ w) : w = nI (vn w) ∧ vn w ≤ 3 := by
  obtain ⟨h1, h2⟩ := in_of h
  exact nn_of (n := 3) (Int32.not_lt.mpr h0) (Int32.not_lt.mp h2) (by decide)
/-! of 16.ref13 -/
/-- what the reader says of a text from its first byte on: whether all of it was read, and where it stood -/
def wkR (M : mS) (w : Nat) : Int32 × sS := mF_whole M (pF M 5) (pS0 w (M 1 (6 + w)) 1 1 1)
def wk14 (M : mS) (w : Nat) : Int32 := if (wkR M w).2 14 = 0 then 0 else (if (wkR M w).2 8 = (wkR M w).2 9 then 1 else 0)
def wk8 (M : mS) (w : Nat) : Int32 := (wkR M w).2 8
theorem wk14_e (M : mS) (S : sS) (w : Nat) : (mF_walks M S w 1 1 1).2 14 = wk14 M w := by
  unfold mF_walks wk14 wkR
  simp only [lt_i, lt2_i]
  exact pk_us
theorem wk8_e (M : mS) (S : sS) (w : Nat) : (mF_walks M S w 1 1 1).2 8 = wk8 M w := by
  unfold mF_walks wk8 wkR
  simp only [lt_i, lt2_i]
  exact pk_un (by decide)
def mF_text_L30 (u : Int32) (M25 : mS) : Nat → mS
  | 0 => M25
  | k30 + 1 => lt (mF_text_L30 u M25 k30) fun (M30 : mS) => (lt (mU M30 1 ((134 + (50 * (vn u))) + k30) (M30 1 (64 + k30))) fun (M59 : mS) => M59)
theorem mF_text_L30_0 (u : Int32) (M25 : mS) : mF_text_L30 u M25 0 = M25 := rfl
theorem mF_text_L30_s (u : Int32) (M25 : mS) (k30 : Nat) : mF_text_L30 u M25 (k30 + 1) = lt (mF_text_L30 u M25 k30) fun (M30 : mS) => (lt (mU M30 1 ((134 + (50 * (vn u))) + k30) (M30 1 (64 + k30))) fun (M59 : mS) => M59) := rfl
def mF_text (M : mS) (u : Int32) : Int32 × mS := (if (sF_in u 0 1) = 0 then (lt2 (mF_errs M (-1000000001)) fun (x12 : Int32) (M12 : mS) => (x12, M12)) else (lt (mF_moveAll_1_4 M) fun (M25 : mS) => (lt (mF_text_L30 u M25 50) fun (M30x : mS) => (lt (mU M30x 1 (6 + (vn u)) (M30x 1 4)) fun (M80 : mS) => lt (mV_walks M80 (vn u) 1 1 1) fun (x89 : Int32) => lt (wk14 M80 (vn u)) fun (x91 : Int32) => (lt ((if x91 = 0 then 0 else (if x89 = x89 then 1 else 0)) : Int32) fun (y107 : Int32) => (lt (wk8 M80 (vn u)) fun (x109 : Int32) => (lt ((if y107 = 0 then (lt (mF_moveAll_4_1 M80) fun (M127 : mS) => M127) else M80) : mS) fun (M130 : mS) => (lt (mU M130 1 4 0) fun (M136 : mS) => (if y107 = 0 then (((-10) - x109), M136) else (1, M136))))))))))

theorem tx_k (u : Int32) (M : mS) (k j : Nat) (h : j < 134) : mF_text_L30 u M k 1 j = M 1 j := by
  induction k with
  | zero => rfl
  | succ k ih => rw [mF_text_L30_s]; simp only [lt_i]; rw [mU_ne (by omega), ih]
