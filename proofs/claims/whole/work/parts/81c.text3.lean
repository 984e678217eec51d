/-! the number that the next text gets is free: what is only thought, and what no image keeps, is told by another number -/
theorem free4 (n a b c d : Nat) (hn : n < 2 ^ 30) : ∃ j, n < j ∧ j < 2 ^ 31 ∧ j ≠ a ∧ j ≠ b ∧ j ≠ c ∧ j ≠ d := by
  by_cases h1 : n + 1 ≠ a ∧ n + 1 ≠ b ∧ n + 1 ≠ c ∧ n + 1 ≠ d
  · exact ⟨n + 1, by omega, by omega, h1.1, h1.2.1, h1.2.2.1, h1.2.2.2⟩
  by_cases h2 : n + 2 ≠ a ∧ n + 2 ≠ b ∧ n + 2 ≠ c ∧ n + 2 ≠ d
  · exact ⟨n + 2, by omega, by omega, h2.1, h2.2.1, h2.2.2.1, h2.2.2.2⟩
  by_cases h3 : n + 3 ≠ a ∧ n + 3 ≠ b ∧ n + 3 ≠ c ∧ n + 3 ≠ d
  · exact ⟨n + 3, by omega, by omega, h3.1, h3.2.1, h3.2.2.1, h3.2.2.2⟩
  by_cases h4 : n + 4 ≠ a ∧ n + 4 ≠ b ∧ n + 4 ≠ c ∧ n + 4 ≠ d
  · exact ⟨n + 4, by omega, by omega, h4.1, h4.2.1, h4.2.2.1, h4.2.2.2⟩
  refine ⟨n + 5, by omega, by omega, ?_, ?_, ?_, ?_⟩ <;> omega
def rcv (n j : Nat) (v : Int32) : Int32 := if v ≠ -1 ∧ vn v = n then nI j else v
def rcr (n j : Nat) (x : Nat → Int32) : Nat → Int32 := fun k => if k = 14 ∨ k = 15 then rcv n j (x k) else x k
def rcX (n j : Nat) (X : xS) : xS := fun p => if p = 13 ∨ p = 25 then rcr n j (X p) else X p
def rct (tt : tT) (j : Nat) : tT := (tt.1, (fun i => if i = j then tt.2.1 tt.1 else tt.2.1 i), tt.2.2)
theorem rcX_ne {n j : Nat} {X : xS} {p : Nat} (h : p ≠ 13) (h2 : p ≠ 25) : rcX n j X p = X p := if_neg (by omega)
theorem rcr_ok {n j : Nat} {x : Nat → Int32} (h : ∀ f, f = 14 ∨ f = 15 → x f = -1 ∨ vn (x f) ≠ n) : rcr n j x = x := by
  funext k
  unfold rcr
  by_cases hk : k = 14 ∨ k = 15
  · rw [if_pos hk]
    unfold rcv
    rw [if_neg (fun h9 => (h k hk).elim h9.1 (fun h8 => h8 h9.2))]
  · rw [if_neg hk]
theorem rT_rc {tt : tT} {j : Nat} {v : Int32} (h1 : tt.1 < j) (h2 : j < 2 ^ 31) (h3 : j ≠ vn v) : rT (rct tt j).2.1 (rcv tt.1 j v) = rT tt.2.1 v := by
  unfold rcv
  by_cases h : v ≠ -1 ∧ vn v = tt.1
  · rw [if_pos h, rT_ref (fun h9 => m1_nI h2 h9.symm), rT_ref h.1, vn_nI h2, h.2]
    congr 1
    exact if_pos rfl
  · rw [if_neg h]
    exact rT_new (Or.inr (if_neg (fun h9 => h3 h9.symm)))
theorem tE_rc (tt : tT) (j : Nat) {i : Nat} (hl : tt.2.2.2.2.1 i < 2 ^ 31) (x y z : Int32) : tE (rct tt j) i x y z = tE tt i x y z := by
  rw [tE_cd tt i x y z hl, tE_cd (rct tt j) i x y z hl]
  rfl
theorem eX_rc {tt : tT} {X X2 : xS} {p j : Nat} {R : Nat → Int32} (h : eX tt X p R) (hX : ∀ f, f = 14 ∨ f = 15 → X2 p f = X p f) : eX (rct tt j) X2 p R := by
  intro u hu
  have e := hX (14 + u) (by omega)
  rcases h u hu with g | ⟨t, E, g1, g2, g3, g4, g5, g6, g7⟩
  · exact Or.inl ⟨e.trans g.1, g.2⟩
  · refine Or.inr ⟨t, E, e.trans g1, g2, g3, g4, g5, g6, fun x y z => ?_⟩
    rw [tE_rc tt j g4]; exact g7 x y z
theorem iE_rc {tt : tT} {X X2 : xS} {p j : Nat} {R : Nat → Int32} (h : iE tt X p R) (hX : ∀ a, p ≤ a → a ≤ p + 11 → X2 a = X a) : iE (rct tt j) X2 p R := by
  have h2 := iE_c h (X2 := X2) (R2 := R) (fun a h1 h2 _ => hX a h1 h2) (fun _ _ => rfl)
  exact ⟨⟨h2.1.1, eX_rc h2.1.2 (fun f hf => rfl)⟩, h2.2⟩
theorem iE_tF {tt : tT} {X : xS} {p : Nat} {R : Nat → Int32} (h : iE tt X p R) : ∀ f, f = 14 ∨ f = 15 → X p f = -1 ∨ vn (X p f) ≠ tt.1 := by
  intro f hf
  have : ∃ u, u < 2 ∧ f = 14 + u := by
    rcases hf with rfl | rfl
    · exact ⟨0, by decide, rfl⟩
    · exact ⟨1, by decide, rfl⟩
  obtain ⟨u, hu, rfl⟩ := this
  rcases h.1.2 u hu with g | ⟨t, E, g1, g2, g3, _⟩
  · exact Or.inl g.1
  · refine Or.inr ?_
    rw [g1, vn_nI g2]; omega
theorem INV_rc {n : Nat} {tt : tT} {X : xS} {M : mS} (h : INV n tt X M) (j : Nat) : INV n (rct tt j) (rcX tt.1 j X) M := by
  obtain ⟨h0, h1, ⟨k, k1, k2, k3, k4, k5, k6⟩, h3, h4, h5, h6, h7⟩ := h
  have e : ∀ p, p ≠ 13 → p ≠ 25 → rcX tt.1 j X p = X p := fun p a b => rcX_ne a b
  refine ⟨iE_rc h0 (fun a a1 a2 => e a (by omega) (by omega)), h1, ⟨k, k1, ?_, k3, k4, ?_, fun hk => ?_⟩, ?_, ?_, ?_, ?_, ?_⟩
  · rw [e 0 (by decide) (by decide)]; exact k2
  · unfold zR; rw [e _ (by decide) (by decide), e _ (by decide) (by decide)]; exact k5
  · refine iE_rc (k6 hk) (fun a a1 a2 => ?_)
    by_cases h9 : a = 25
    · subst h9
      show (if (25 : Nat) = 13 ∨ 25 = 25 then rcr tt.1 j (X 25) else X 25) = X 25
      rw [if_pos (Or.inr rfl), rcr_ok (iE_tF (k6 hk))]
    · exact e a (by omega) h9
  · intro k hk1 hk2
    rw [e 61 (by decide) (by decide)]; exact h3 k hk1 hk2
  · unfold iV
    rw [e 48 (by decide) (by decide), e 49 (by decide) (by decide)]; exact h4
  · intro s hs
    rw [e _ (by omega) (by omega), e _ (by omega) (by omega)]; exact h5 s hs
  · unfold iL; rw [e 46 (by decide) (by decide)]; exact h6
  · unfold dN; rw [e 37 (by decide) (by decide), e 38 (by decide) (by decide), e 40 (by decide) (by decide)]; exact h7
theorem tW_rc (cc : cT) (tt : tT) (j : Nat) (w : Nat → Nat → Int32) : ∀ k, k ≤ j → tW cc (rct tt j) w k = tW cc tt w k
  | 0, _ => rfl
  | k + 1, hk => by
    have e1 : (rct tt j).2.1 k = tt.2.1 k := if_neg (by omega)
    show tW cc (rct tt j) w k ++ tW1 cc (rct tt j) w k = tW cc tt w k ++ tW1 cc tt w k
    rw [tW_rc cc tt j w k (by omega)]
    unfold tW1
    rw [e1]
    rfl
theorem eF_rc {ad : Nat → Nat} {tt : tT} {j p : Nat} {x : Nat → Int32} (h1 : tt.1 < j) (h2 : j < 2 ^ 31) (h14 : j ≠ vn (x 14)) (h15 : j ≠ vn (x 15)) : eF ad (rct tt j).2.1 p (rcr tt.1 j x) = eF ad tt.2.1 p x := by
  have e : ∀ k, k ≠ 14 → k ≠ 15 → rcr tt.1 j x k = x k := fun k a b => if_neg (by omega)
  have e14 : rcr tt.1 j x 14 = rcv tt.1 j (x 14) := if_pos (Or.inl rfl)
  have e15 : rcr tt.1 j x 15 = rcv tt.1 j (x 15) := if_pos (Or.inr rfl)
  unfold eF
  rw [e 0 (by decide) (by decide), e 4 (by decide) (by decide), e 5 (by decide) (by decide), e 6 (by decide) (by decide), e 7 (by decide) (by decide), e 8 (by decide) (by decide), e 9 (by decide) (by decide), e 18 (by decide) (by decide), e14, e15, rT_rc h1 h2 h14, rT_rc h1 h2 h15]
theorem xCell_no {ad sa ta ta2 : Nat → Nat} {cc : cT} {p : Nat} {x : Nat → Int32} (hp : p < 62) (h1 : p ≠ 1) (h2 : p ≠ 13) (h3 : p ≠ 25) : xCell ad sa ta2 cc p x = xCell ad sa ta cc p x := xCell_ta hp (fun h => by omega)
theorem re_ch {n : Nat} {tt : tT} {X : xS} {M : mS} (h : INV n tt X M) (ht : tt.1 < 2 ^ 30) : ∃ (tt2 : tT) (X2 : xS), tt2.1 = tt.1 ∧ INV n tt2 X2 M ∧ tF tt2 X2 ∧ ∀ (ad sa : Nat → Nat) (cc : cT) (w : Nat → Nat → Int32), xW ad sa cc tt2 X2 w = xW ad sa cc tt X w := by
  obtain ⟨j, j1, j2, j3, j4, j5, j6⟩ := free4 tt.1 (vn (X 13 14)) (vn (X 13 15)) (vn (X 25 14)) (vn (X 25 15)) ht
  have h13 : rcX tt.1 j X 13 = rcr tt.1 j (X 13) := if_pos (Or.inl rfl)
  have h25 : rcX tt.1 j X 25 = rcr tt.1 j (X 25) := if_pos (Or.inr rfl)
  have hv : ∀ v : Int32, rcv tt.1 j v = -1 ∨ vn (rcv tt.1 j v) ≠ tt.1 := by
    intro v
    unfold rcv
    by_cases h9 : v ≠ -1 ∧ vn v = tt.1
    · rw [if_pos h9, vn_nI j2]; exact Or.inr (by omega)
    · rw [if_neg h9]
      by_cases h8 : v = -1
      · exact Or.inl h8
      · exact Or.inr (fun h7 => h9 ⟨h8, h7⟩)
  refine ⟨rct tt j, rcX tt.1 j X, rfl, INV_rc h j, fun p hp f hf => ?_, fun ad sa cc w => ?_⟩
  · show rcX tt.1 j X p f = -1 ∨ vn (rcX tt.1 j X p f) ≠ tt.1
    rcases hp with rfl | rfl | rfl
    · rw [rcX_ne (by decide) (by decide)]; exact iE_tF h.1 f hf
    · rw [h13]; show (if f = 14 ∨ f = 15 then rcv tt.1 j (X 13 f) else X 13 f) = -1 ∨ vn (if f = 14 ∨ f = 15 then rcv tt.1 j (X 13 f) else X 13 f) ≠ tt.1
      rw [if_pos hf]; exact hv _
    · rw [h25]; show (if f = 14 ∨ f = 15 then rcv tt.1 j (X 25 f) else X 25 f) = -1 ∨ vn (if f = 14 ∨ f = 15 then rcv tt.1 j (X 25 f) else X 25 f) ≠ tt.1
      rw [if_pos hf]; exact hv _
  · show cW ad sa (rct tt j).2.1 cc (rcX tt.1 j X) ++ tW cc (rct tt j) w tt.1 = cW ad sa tt.2.1 cc X ++ tW cc tt w tt.1
    rw [tW_rc cc tt j w tt.1 (by omega)]
    congr 1
    unfold cW
    refine List.map_congr_left (fun p hp => ?_)
    have hp := List.mem_range.mp hp
    by_cases p13 : p = 13
    · subst p13
      rw [h13, xE_c (show kE 13 by decide).1, xE_c (show kE 13 by decide).1, eF_rc j1 j2 j3 j4]
    by_cases p25 : p = 25
    · subst p25
      rw [h25, xE_c (show kE 25 by decide).1, xE_c (show kE 25 by decide).1, eF_rc j1 j2 j5 j6]
    rw [rcX_ne p13 p25]
    by_cases p1 : p = 1
    · subst p1
      refine congrArg (Prod.mk (ad 1)) (xCell_ta (by decide) (fun _ f hf => rT_new ?_))
      rcases h.1.1.2 (f - 14) (by omega) with g | ⟨t, E, g1, g2, g3, _⟩
      · rw [show 14 + (f - 14) = f by omega] at g; exact Or.inl g.1
      · rw [show 14 + (f - 14) = f by omega] at g1
        refine Or.inr (if_neg ?_)
        rw [g1, vn_nI g2]; omega
    · exact congrArg (Prod.mk (ad p)) (xCell_no hp p1 p13 p25)
