/-! LEAD: the search for one -/
def SX (X1 Y : xS) : Prop := ∀ p, p ≠ 46 → Y p = X1 p
def SM (B N : mS) : Prop := ∀ i, i ≠ 3 → i ≠ 6 → N i = B i
def plU (pl : Nat → Nat) (a s : Nat) : Nat → Nat := fun p => if p = a then s else pl p
def WC (tt : tT) (X X1 : xS) (B : mS) (c nn P : Nat) : Prop := (eE 8 tt X 1 B ∧ rOK B ∧ P = vn (B 1 8) ∧ vn (X 1 9) = P ∧ c < vn (B 1 3) ∧ lkS tt X c nn P X1) ∧ aB 8 B ∧ nn ≤ 3 ∧ ∀ p, p < P → aN B p < vn (B 1 3)
theorem lkS_x {tt : tT} {X X1 Y : xS} {c nn P : Nat} (h : lkS tt X c nn P X1) (hY : SX X1 Y) : lkS tt X c nn P Y := by
  obtain ⟨h1, h2, h3, h4, h5⟩ := h
  refine ⟨fun p a b => by rw [hY p (by omega)]; exact h1 p a b, ?_, ?_, ?_, ?_⟩
  · rw [hY 42 (by decide)]; exact h2
  · rw [hY 42 (by decide)]; exact h3
  · rw [hY 42 (by decide)]; exact h4
  · rw [hY 44 (by decide), hY 45 (by decide)]; exact h5
theorem WC_LC {tt : tT} {X X1 Y : xS} {B : mS} {c nn P : Nat} {pl : Nat → Nat} (w : WC tt X X1 B c nn P) (hY : SX X1 Y) (hl : ∀ p, p < P → Y 46 p = nI (pl p) ∧ pl p < vn (B 1 3)) : LC tt X Y B c nn P pl :=
  ⟨w.1.1, w.1.2.1, w.1.2.2.1, w.1.2.2.2.1, w.1.2.2.2.2.1, lkS_x w.1.2.2.2.2.2 hY, hl⟩
/-- what is there to know about the numbers -/
theorem WC_n {tt : tT} {X X1 : xS} {B : mS} {c nn P : Nat} (w : WC tt X X1 B c nn P) : P ≤ 8 ∧ 3 ≤ vn (B 1 3) ∧ vn (B 1 3) ≤ 10 ∧ B 1 3 = nI (vn (B 1 3)) ∧ B 1 8 = nI P ∧ (∀ Y, SX X1 Y → Y 1 0 = nI (vn (B 1 3)) ∧ Y 1 9 = nI P) ∧ (∀ Y, SX X1 Y → ∀ p, p < P → Y 7 p = nI (aN B p)) ∧ (∀ p, p < P → B 1 (32 + 4 * p + 2) = nI (aN B p)) := by
  obtain ⟨⟨hE, hR, hP, hX, hc, hk⟩, hA, hn, ha⟩ := w
  have h8 := hR.2.1
  obtain ⟨c1, c2, c3⟩ := hR.1
  refine ⟨by rw [hP]; exact h8.2, c2, c3, c1, by rw [hP]; exact h8.1, fun Y hY => ⟨?_, ?_⟩, fun Y hY p hp => ?_, fun p hp => (hR.2.2.2.1 p (by have := h8.2; omega)).1⟩
  · rw [hY 1 (by decide), hk.1 1 (by decide) (by decide), (eN_f hE.1).1, ← c1]
  · rw [hY 1 (by decide), hk.1 1 (by decide) (by decide), hE.1.2.1, hX]
  · rw [hY 7 (by decide), hk.1 7 (by decide) (by decide)]
    have := eN_p hE.1 (i := p) (by rw [hX]; exact hp)
    rw [sk8 (by have := h8.2; omega)] at this
    rw [show X 7 p = _ from this.2.2.1]
    exact (hR.2.2.2.1 p (by have := h8.2; omega)).1
/-- the reference's answer, people being anywhere -/
theorem WC_h {tt : tT} {X X1 Y : xS} {B N : mS} {c nn P : Nat} {pl : Nat → Nat} (v : Int32) (w : WC tt X X1 B c nn P) (hY : SX X1 Y) (hl : ∀ p, p < P → Y 46 p = nI (pl p) ∧ pl p < vn (B 1 3)) (hN : PL B N P pl) : ∃ x N2, mF_hasThen N c v nn = (x, N2) ∧ (x = 0 ↔ x2_harvest tt Y < v) ∧ N2 1 = N 1 ∧ (∀ i, i ≠ 1 → i ≠ 3 → i ≠ 6 → N2 i = N i) := by
  obtain ⟨h1, h2, h3⟩ := hT_e (v := v) (WC_LC w hY hl) w.2.2.1 w.2.1 hN
  refine ⟨(mF_hasThen N c v nn).1, (mF_hasThen N c v nn).2, rfl, ?_, h2, h3⟩
  rw [h1]
  by_cases e : x2_harvest tt Y < v
  · rw [if_pos e]; exact ⟨fun _ => e, fun _ => rfl⟩
  · rw [if_neg e]; exact ⟨fun z => absurd z (by decide), fun z => absurd z e⟩
theorem SM_PL {B N : mS} {P : Nat} (hN : SM B N) (hb : ∀ p, p < P → B 1 (32 + 4 * p + 2) = nI (aN B p)) : PL B N P (fun p => aN B p) := by
  have h1 := hN 1 (by decide) (by decide)
  exact ⟨fun x _ => by rw [h1], fun p hp => by rw [h1]; exact hb p hp, fun i _ i3 i6 => hN i i3 i6⟩
theorem PL_g {B N : mS} {P a s : Nat} {pl : Nat → Nat} (h : PL B N P pl) (ha : a < P) : PL B (mF_gets N a 2 (nI s)) P (plU pl a s) := by
  obtain ⟨h1, h2, h3⟩ := h
  refine ⟨fun x hx => ?_, fun p hp => ?_, fun i i1 i3 i6 => ?_⟩
  · rw [gt_at, if_neg (hx a ha)]; exact h1 x hx
  · rw [gt_at]
    unfold plU
    by_cases e : p = a
    · rw [if_pos e, if_pos (by omega)]
    · rw [if_neg e, if_neg (by omega)]; exact h2 p hp
  · unfold mF_gets
    rw [lt_i, mU_row i1]
    exact h3 i i1 i3 i6
theorem code_d {a s C : Nat} (hs : s < C) : (a * C + s) / C = a ∧ (a * C + s) % C = s := by
  have h0 : 0 < C := by omega
  constructor
  · rw [Nat.mul_comm, Nat.mul_add_div h0, Nat.div_eq_of_lt hs, Nat.add_zero]
  · rw [Nat.mul_comm, Nat.mul_add_mod, Nat.mod_eq_of_lt hs]
theorem code_lt {a s C P : Nat} (hs : s < C) (ha : a < P) : a * C + s < P * C := by
  have h1 : (a + 1) * C ≤ P * C := Nat.mul_le_mul_right C ha
  rw [Nat.succ_mul] at h1
  omega
theorem PC_b {P C : Nat} (hP : P ≤ 8) (hC : C ≤ 10) : P * C ≤ 80 := Nat.mul_le_mul hP hC
theorem code_r {a s C P : Nat} (hs : s < C) (ha : a < P) (hP : P ≤ 8) (hC : C ≤ 10) : nI (a * C + s) - nI (a * C + s) / nI C * nI C = nI s ∧ nI (a * C + s) / nI C = nI a := by
  have h1 := code_lt hs ha
  have h2 := PC_b hP hC
  obtain ⟨d1, d2⟩ := code_d (a := a) hs
  rw [pk_rem (by omega) (by omega) (by omega), d2, pk_div (by omega) (by omega) (by omega), d1]
  exact ⟨rfl, rfl⟩
theorem code_c {k C P : Nat} (hP : P ≤ 8) (hC : C ≤ 10) (hk : k ≤ P * C) : nI P * nI C ≤ nI k ↔ P * C ≤ k := by
  have h2 := PC_b hP hC
  rw [pk_mul, nI_leI (by omega) (by omega)]
/-- places put and put back -/
theorem gt_b1 {N A : mS} {a : Nat} {z : Int32} (h1 : A 1 = mF_gets N a 2 z 1) : mF_gets A a 2 (N 1 (32 + 4 * a + 2)) 1 = N 1 := by
  funext x
  rw [gt_at]
  by_cases e : x = 32 + 4 * a + 2
  · rw [if_pos e, e]
  · rw [if_neg e, h1, gt_at, if_neg e]
theorem gt_ro (N : mS) (a : Nat) (z : Int32) (i : Nat) (hi : i ≠ 1) : mF_gets N a 2 z i = N i := by
  unfold mF_gets
  rw [lt_i, mU_row hi]
theorem iL_u {Y : xS} {a s : Nat} (h : iL Y) (hs : s < 10) : iL (mU Y 46 a (nI s)) := by
  intro q hq
  rw [mU_sm]
  by_cases e : q = a
  · rw [if_pos e, vn_nI (by omega)]; exact ⟨rfl, hs⟩
  · rw [if_neg e]; exact h q hq
theorem SX_u {X1 Y : xS} {a : Nat} {x : Int32} (h : SX X1 Y) : SX X1 (mU Y 46 a x) := fun p hp => (mU_row hp).trans (h p hp)
/-- one person, from cell kb on -/
theorem one_15 {tt : tT} {X X1 : xS} {B M : mS} {c nn P a F : Nat} {v : Int32} {K : Nat → xS → Int32 × xS} {KM : Nat → mS → Int32 × mS} {Q : Int32 × xS → Int32 × mS → Prop} (w : WC tt X X1 B c nn P) (hM : vn (M 1 3) = vn (B 1 3)) (ha : a < P) (hF : F = P * vn (B 1 3) + 1)
    (hf : ∀ s Y N, s < vn (B 1 3) → SX X1 Y → iL Y → (∀ p, p < P → Y 46 p = nI (plU (fun p => aN B p) a s p)) → ¬ x2_harvest tt Y < v → SM B N → Q (1, mU (x2_putDown Y 0 a) 42 1 1) (1, mF_tells N (nI a) (nI s) (-1) (-1)))
    (hK : ∀ k Y N fm, SX X1 Y → iL Y → (∀ p, p < P → p ≠ a → Y 46 p = nI (aN B p)) → SM B N → fm + (a * vn (B 1 3) + vn (B 1 3)) = F → Q (K k Y) (mF_findLeads_L31 M c v nn KM fm (a * vn (B 1 3) + vn (B 1 3)) N)) :
    ∀ f kb Y N fm, f + kb = 11 → kb ≤ vn (B 1 3) → SX X1 Y → iL Y → (∀ p, p < P → p ≠ a → Y 46 p = nI (aN B p)) → SM B N → fm + (a * vn (B 1 3) + kb) = F → Q (x2_isFoundByOne_L15 tt v a K f kb Y) (mF_findLeads_L31 M c v nn KM fm (a * vn (B 1 3) + kb) N) := by
  obtain ⟨nP, nC3, nC, c3, c8, nY, n7, nb⟩ := WC_n w
  intro f
  induction f with
  | zero => intro kb Y N fm h1 h2; omega
  | succ f ih =>
    intro kb Y N fm h1 h2 hY hL hp hN hfm
    rw [x2_isFoundByOne_L15_s, (nY Y hY).1]
    simp only [lt_i]
    by_cases c1 : nI (vn (B 1 3)) ≤ nI kb
    · rw [if_pos c1]
      rw [nI_leI (by omega) (by omega)] at c1
      have e : kb = vn (B 1 3) := by omega
      rw [e]
      rw [e] at hfm
      exact hK _ Y N fm hY hL hp hN hfm
    · rw [if_neg c1]
      rw [nI_leI (by omega) (by omega)] at c1
      have hkb : kb < vn (B 1 3) := by omega
      have hlt := code_lt hkb ha
      obtain ⟨g, rfl⟩ : ∃ g, fm = g + 1 := ⟨fm - 1, by omega⟩
      have hN1 : N 1 = B 1 := hN 1 (by decide) (by decide)
      rw [mF_findLeads_L31_s, hM, hN1, c8, (code_r hkb ha nP nC).1, (code_d hkb).1, if_neg (show ¬ nI P * nI (vn (B 1 3)) ≤ nI (a * vn (B 1 3) + kb) by rw [code_c nP nC (by omega)]; omega)]
      have hits : mF_its N a 2 = nI (aN B a) := by
        show N 1 (32 + 4 * a + 2) = _
        rw [hN1]; exact nb a ha
      simp only [lt_i, lt2_i]
      rw [hits]
      have hY2 : SX X1 (mU Y 46 a (nI kb)) := SX_u hY
      have hL2 : iL (mU Y 46 a (nI kb)) := iL_u hL (by omega)
      have hp2 : ∀ p, p < P → p ≠ a → mU Y 46 a (nI kb) 46 p = nI (aN B p) := fun p h1 h2 => by rw [mU_ne h2]; exact hp p h1 h2
      have hp3 : ∀ p, p < P → mU Y 46 a (nI kb) 46 p = nI (plU (fun p => aN B p) a kb p) := fun p h1 => by
        unfold plU
        by_cases e : p = a
        · rw [if_pos e, e, mU_eq]
        · rw [if_neg e]; exact hp2 p h1 e
      rw [n7 _ hY2 a ha]
      generalize mU Y 46 a (nI kb) = Z at hY2 hL2 hp2 hp3 ⊢
      have next : ∀ N2, SM B N2 → Q (x2_isFoundByOne_L15 tt v a K f (kb + 1) Z) (mF_findLeads_L31 M c v nn KM g (a * vn (B 1 3) + kb + 1) N2) := fun N2 hN2 => ih (kb + 1) Z N2 g (by omega) (by omega) hY2 hL2 hp2 hN2 (by omega)
      by_cases c2 : nI kb = nI (aN B a)
      · rw [if_pos c2, if_pos c2.symm]
        exact next N hN
      · rw [if_neg c2, if_neg (show ¬ nI (aN B a) = nI kb from fun e => c2 e.symm)]
        obtain ⟨x, N2, e1, e2, e3, e4⟩ := WC_h v w hY2 (pl := plU (fun p => aN B p) a kb) (fun p h1 => ⟨hp3 p h1, by
          unfold plU
          by_cases e : p = a
          · rw [if_pos e]; exact hkb
          · rw [if_neg e]; exact w.2.2.2 p h1⟩) (PL_g (s := kb) (SM_PL hN nb) ha)
        rw [e1]
        show Q _ (if x = 0 then _ else (1, mF_tells (mF_gets N2 a 2 (nI (aN B a))) (nI a) (nI kb) (-1) (-1)))
        have hN3 : SM B (mF_gets N2 a 2 (nI (aN B a))) := by
          intro i i3 i6
          by_cases e : i = 1
          · rw [e, ← hN1, ← hits]
            exact gt_b1 e3
          · rw [gt_ro _ _ _ _ e, e4 i e i3 i6, gt_ro _ _ _ _ e]
            exact hN i i3 i6
        by_cases c3 : x2_harvest tt Z < v
        · rw [if_pos c3, if_pos (e2.mpr c3)]
          exact next _ hN3
        · rw [if_neg c3, if_neg (fun e => c3 (e2.mp e))]
          exact hf kb Z _ hkb hY2 hL2 hp3 c3 hN3
theorem one_2 {tt : tT} {X X1 : xS} {B M : mS} {c nn P F : Nat} {v : Int32} {K : Nat → xS → Int32 × xS} {KM : Nat → mS → Int32 × mS} {Q : Int32 × xS → Int32 × mS → Prop} (w : WC tt X X1 B c nn P) (hM : vn (M 1 3) = vn (B 1 3)) (hF : F = P * vn (B 1 3) + 1)
    (hf : ∀ a s Y N, a < P → s < vn (B 1 3) → SX X1 Y → iL Y → (∀ p, p < P → Y 46 p = nI (plU (fun p => aN B p) a s p)) → ¬ x2_harvest tt Y < v → SM B N → Q (1, mU (x2_putDown Y 0 a) 42 1 1) (1, mF_tells N (nI a) (nI s) (-1) (-1)))
    (hK : ∀ k k2 Y N, SX X1 Y → iL Y → (∀ p, p < P → Y 46 p = nI (aN B p)) → SM B N → Q (K k Y) (KM k2 N)) :
    ∀ f a Y N fm, f + a = 9 → a ≤ P → SX X1 Y → iL Y → (∀ p, p < P → Y 46 p = nI (aN B p)) → SM B N → fm + a * vn (B 1 3) = F → Q (x2_isFoundByOne_L2 tt v K f a Y) (mF_findLeads_L31 M c v nn KM fm (a * vn (B 1 3)) N) := by
  obtain ⟨nP, nC3, nC, c3, c8, nY, n7, nb⟩ := WC_n w
  intro f
  induction f with
  | zero => intro a Y N fm h1 h2; omega
  | succ f ih =>
    intro a Y N fm h1 h2 hY hL hp hN hfm
    rw [x2_isFoundByOne_L2_s, (nY Y hY).2]
    simp only [lt_i]
    by_cases c1 : nI P ≤ nI a
    · rw [if_pos c1]
      rw [nI_leI (by omega) (by omega)] at c1
      have e : a = P := by omega
      subst e
      obtain ⟨g, rfl⟩ : ∃ g, fm = g + 1 := ⟨fm - 1, by omega⟩
      rw [mF_findLeads_L31_s, hM, hN 1 (by decide) (by decide), c8, if_pos ((code_c nP nC (Nat.le_refl _)).mpr (Nat.le_refl _))]
      exact hK _ _ Y N hY hL hp hN
    · rw [if_neg c1]
      rw [nI_leI (by omega) (by omega)] at c1
      have ha : a < P := by omega
      refine one_15 w hM ha hF (fun s Y N h1 h2 h3 h4 h5 h6 => hf a s Y N ha h1 h2 h3 h4 h5 h6) (fun k Y2 N2 fm2 g1 g2 g3 g4 g5 => ?_) 11 0 Y N fm (by omega) (by omega) hY hL (fun p h1 _ => hp p h1) hN hfm
      have e : a * vn (B 1 3) + vn (B 1 3) = (a + 1) * vn (B 1 3) := (Nat.succ_mul _ _).symm
      rw [e] at g5 ⊢
      rw [n7 Y2 g1 a ha]
      exact ih (a + 1) _ N2 fm2 (by omega) (by omega) (SX_u g1) (iL_u g2 (by have := w.2.2.2 a ha; omega)) (fun p hp => by
        rw [mU_sm]
        by_cases e : p = a
        · rw [if_pos e, e]
        · rw [if_neg e]; exact g3 p hp e) g4 g5
