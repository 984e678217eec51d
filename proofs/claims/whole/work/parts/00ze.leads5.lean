/-! LEAD: the search for two -/
theorem lB_e {tt : tT} {X X1 Z : xS} {B N : mS} {c nn P a b k d : Nat} (v : Int32) (w : WC tt X X1 B c nn P) (ha : a < P) (hk : k < P) (hb : b < vn (B 1 3)) (hd : d < vn (B 1 3)) (hN : SM B N) (hZ : SX X1 Z) (hp : ∀ p, p < P → Z 46 p = nI (plU (plU (fun p => aN B p) a b) k d p)) (c1 : ¬ nI b = nI (aN B a)) (c2 : ¬ nI d = nI (aN B k)) : ∃ x N2, mF_leadsBoth N (a * vn (B 1 3) + b) (k * vn (B 1 3) + d) c v nn = (x, N2) ∧ (x = 0 ↔ x2_harvest tt Z < v) ∧ SM B N2 := by
  obtain ⟨nP, nC3, nC, c3, c8, nY, n7, nb⟩ := WC_n w
  have hN1 : N 1 = B 1 := hN 1 (by decide) (by decide)
  unfold mF_leadsBoth mF_its
  simp only [lt_i, lt2_i]
  rw [hN1, (code_d hb).1, (code_d hd).1, (code_r hb ha nP nC).1, (code_r hd hk nP nC).1, show B 1 (32 + 4 * a + 2) = nI (aN B a) from nb a ha, show B 1 (32 + 4 * k + 2) = nI (aN B k) from nb k hk, if_neg (show ¬ nI (aN B a) = nI b from fun e => c1 e.symm), if_neg (show ¬ nI (aN B k) = nI d from fun e => c2 e.symm)]
  obtain ⟨x, N2, e1, e2, e3, e4⟩ := WC_h v w hZ (pl := plU (plU (fun p => aN B p) a b) k d) (fun p h1 => ⟨hp p h1, by
    unfold plU
    by_cases e : p = k
    · rw [if_pos e]; exact hd
    · rw [if_neg e]
      by_cases e : p = a
      · rw [if_pos e]; exact hb
      · rw [if_neg e]; exact w.2.2.2 p h1⟩) (PL_g (s := d) (PL_g (s := b) (SM_PL hN nb) ha) hk)
  rw [e1]
  refine ⟨x, mF_gets (mF_gets N2 a 2 (nI (aN B a))) k 2 (nI (aN B k)), rfl, e2, ?_⟩
  intro i i3 i6
  by_cases e : i = 1
  · rw [e]
    funext y
    rw [gt_at, gt_at, e3, gt_at, gt_at]
    by_cases f1 : y = 32 + 4 * k + 2
    · rw [if_pos f1, f1, nb k hk]
    · rw [if_neg f1, if_neg f1]
      by_cases f2 : y = 32 + 4 * a + 2
      · rw [if_pos f2, f2, nb a ha]
      · rw [if_neg f2, if_neg f2, hN1]
  · rw [gt_ro _ _ _ _ e, gt_ro _ _ _ _ e, e4 i e i3 i6, gt_ro _ _ _ _ e, gt_ro _ _ _ _ e]
    exact hN i i3 i6
theorem lB_0 {tt : tT} {X X1 : xS} {B N : mS} {c nn P a b o : Nat} (v : Int32) (w : WC tt X X1 B c nn P) (ha : a < P) (hb : b < vn (B 1 3)) (hN : SM B N) (c1 : nI b = nI (aN B a)) : mF_leadsBoth N (a * vn (B 1 3) + b) o c v nn = (0, N) := by
  obtain ⟨nP, nC3, nC, c3, c8, nY, n7, nb⟩ := WC_n w
  have hN1 : N 1 = B 1 := hN 1 (by decide) (by decide)
  unfold mF_leadsBoth mF_its
  simp only [lt_i]
  rw [hN1, (code_d hb).1, (code_r hb ha nP nC).1, show B 1 (32 + 4 * a + 2) = nI (aN B a) from nb a ha, if_pos c1.symm]
theorem lB_1 {tt : tT} {X X1 : xS} {B N : mS} {c nn P a b k d : Nat} (v : Int32) (w : WC tt X X1 B c nn P) (ha : a < P) (hk : k < P) (hb : b < vn (B 1 3)) (hd : d < vn (B 1 3)) (hN : SM B N) (c2 : nI d = nI (aN B k)) : mF_leadsBoth N (a * vn (B 1 3) + b) (k * vn (B 1 3) + d) c v nn = (0, N) := by
  obtain ⟨nP, nC3, nC, c3, c8, nY, n7, nb⟩ := WC_n w
  have hN1 : N 1 = B 1 := hN 1 (by decide) (by decide)
  unfold mF_leadsBoth mF_its
  simp only [lt_i]
  rw [hN1, (code_d hb).1, (code_d hd).1, (code_r hb ha nP nC).1, (code_r hd hk nP nC).1, show B 1 (32 + 4 * a + 2) = nI (aN B a) from nb a ha, show B 1 (32 + 4 * k + 2) = nI (aN B k) from nb k hk, if_pos c2.symm]
  split <;> rfl
/-- the first stays where it is: the reference goes through all for nothing -/
theorem skip_158 {tt : tT} {X X1 : xS} {B M : mS} {c nn P a b : Nat} {v : Int32} {KM : Nat → mS → Int32 × mS} (w : WC tt X X1 B c nn P) (hM : vn (M 1 3) = vn (B 1 3)) (ha : a < P) (hb : b < vn (B 1 3)) (c1 : nI b = nI (aN B a)) : ∀ fm k N, SM B N → k ≤ P * vn (B 1 3) → P * vn (B 1 3) + 1 ≤ fm + k → ∃ k2, mF_findLeads_L158 M c v nn (a * vn (B 1 3) + b) KM fm k N = KM k2 N := by
  obtain ⟨nP, nC3, nC, c3, c8, nY, n7, nb⟩ := WC_n w
  intro fm
  induction fm with
  | zero => intro k N _ h1 h2; omega
  | succ fm ih =>
    intro k N hN h1 h2
    rw [mF_findLeads_L158_s, hM, hN 1 (by decide) (by decide), c8]
    by_cases e : nI P * nI (vn (B 1 3)) ≤ nI k
    · rw [if_pos e]; exact ⟨_, rfl⟩
    · rw [if_neg e, lB_0 v w ha hb hN c1]
      rw [code_c nP nC h1] at e
      exact ih (k + 1) N hN (by omega) (by omega)
/-- the places while two are tried -/
def pl2 (B : mS) (a b : Nat) : Nat → Nat := plU (fun p => aN B p) a b
theorem two_66 {tt : tT} {X X1 : xS} {B M : mS} {c nn P a b k G : Nat} {v : Int32} {K : Nat → xS → Int32 × xS} {KM : Nat → mS → Int32 × mS} {Q : Int32 × xS → Int32 × mS → Prop} (w : WC tt X X1 B c nn P) (hM : vn (M 1 3) = vn (B 1 3)) (ha : a < P) (hk : k < P) (hb : b < vn (B 1 3)) (c1 : ¬ nI b = nI (aN B a)) (hG : P * vn (B 1 3) + 1 ≤ G)
    (hf : ∀ d Y N, d < vn (B 1 3) → SX X1 Y → iL Y → (∀ p, p < P → Y 46 p = nI (plU (pl2 B a b) k d p)) → ¬ x2_harvest tt Y < v → SM B N → Q (1, mU (x2_putDown (x2_putDown Y 0 a) 2 k) 42 1 2) (2, mF_tells N (nI a) (nI b) (nI k) (nI d)))
    (hK : ∀ j Y N fm, SX X1 Y → iL Y → (∀ p, p < P → p ≠ k → Y 46 p = nI (pl2 B a b p)) → SM B N → fm + (k * vn (B 1 3) + vn (B 1 3)) = G → Q (K j Y) (mF_findLeads_L158 M c v nn (a * vn (B 1 3) + b) KM fm (k * vn (B 1 3) + vn (B 1 3)) N)) :
    ∀ f d Y N fm, f + d = 11 → d ≤ vn (B 1 3) → SX X1 Y → iL Y → (∀ p, p < P → p ≠ k → Y 46 p = nI (pl2 B a b p)) → SM B N → fm + (k * vn (B 1 3) + d) = G → Q (x2_isFoundByTwo_L66 tt v a k K f d Y) (mF_findLeads_L158 M c v nn (a * vn (B 1 3) + b) KM fm (k * vn (B 1 3) + d) N) := by
  obtain ⟨nP, nC3, nC, c3, c8, nY, n7, nb⟩ := WC_n w
  intro f
  induction f with
  | zero => intro kb Y N fm h1 h2; omega
  | succ f ih =>
    intro d Y N fm h1 h2 hY hL hp hN hfm
    rw [x2_isFoundByTwo_L66_s, (nY Y hY).1]
    simp only [lt_i]
    by_cases c4 : nI (vn (B 1 3)) ≤ nI d
    · rw [if_pos c4]
      rw [nI_leI (by omega) (by omega)] at c4
      have e : d = vn (B 1 3) := by omega
      rw [e]
      rw [e] at hfm
      exact hK _ Y N fm hY hL hp hN hfm
    · rw [if_neg c4]
      rw [nI_leI (by omega) (by omega)] at c4
      have hd : d < vn (B 1 3) := by omega
      have hlt := code_lt hd hk
      obtain ⟨g, rfl⟩ : ∃ g, fm = g + 1 := ⟨fm - 1, by omega⟩
      have hN1 : N 1 = B 1 := hN 1 (by decide) (by decide)
      rw [mF_findLeads_L158_s, hM, hN1, c8, if_neg (show ¬ nI P * nI (vn (B 1 3)) ≤ nI (k * vn (B 1 3) + d) by rw [code_c nP nC (by omega)]; omega)]
      have hY2 : SX X1 (mU Y 46 k (nI d)) := SX_u hY
      have hL2 : iL (mU Y 46 k (nI d)) := iL_u hL (by omega)
      have hp2 : ∀ p, p < P → p ≠ k → mU Y 46 k (nI d) 46 p = nI (pl2 B a b p) := fun p h1 h2 => by rw [mU_ne h2]; exact hp p h1 h2
      have hp3 : ∀ p, p < P → mU Y 46 k (nI d) 46 p = nI (plU (pl2 B a b) k d p) := fun p h1 => by
        unfold plU
        by_cases e : p = k
        · rw [if_pos e, e, mU_eq]
        · rw [if_neg e]; exact hp2 p h1 e
      rw [n7 _ hY2 k hk]
      generalize mU Y 46 k (nI d) = Z at hY2 hL2 hp2 hp3 ⊢
      have next : ∀ N2, SM B N2 → Q (x2_isFoundByTwo_L66 tt v a k K f (d + 1) Z) (mF_findLeads_L158 M c v nn (a * vn (B 1 3) + b) KM g (k * vn (B 1 3) + d + 1) N2) := fun N2 hN2 => ih (d + 1) Z N2 g (by omega) (by omega) hY2 hL2 hp2 hN2 (by omega)
      by_cases c2 : nI d = nI (aN B k)
      · rw [if_pos c2, lB_1 v w ha hk hb hd hN c2]
        exact next N hN
      · rw [if_neg c2]
        obtain ⟨x, N2, e1, e2, e3⟩ := lB_e v w ha hk hb hd hN hY2 hp3 c1 c2
        rw [e1]
        show Q _ (if x = 0 then mF_findLeads_L158 M c v nn (a * vn (B 1 3) + b) KM g (k * vn (B 1 3) + d + 1) N2 else (2, mF_tells N2 (nI (a * vn (B 1 3) + b) / nI (vn (B 1 3))) (nI (a * vn (B 1 3) + b) - nI (a * vn (B 1 3) + b) / nI (vn (B 1 3)) * nI (vn (B 1 3))) (nI (k * vn (B 1 3) + d) / nI (vn (B 1 3))) (nI (k * vn (B 1 3) + d) - nI (k * vn (B 1 3) + d) / nI (vn (B 1 3)) * nI (vn (B 1 3)))))
        rw [(code_r hb ha nP nC).1, (code_r hb ha nP nC).2, (code_r hd hk nP nC).1, (code_r hd hk nP nC).2]
        by_cases c3 : x2_harvest tt Z < v
        · rw [if_pos c3, if_pos (e2.mpr c3)]
          exact next _ e3
        · rw [if_neg c3, if_neg (fun e => c3 (e2.mp e))]
          exact hf d Z _ hd hY2 hL2 hp3 c3 e3
theorem two_38 {tt : tT} {X X1 : xS} {B M : mS} {c nn P a b G : Nat} {v : Int32} {K : Nat → xS → Int32 × xS} {KM : Nat → mS → Int32 × mS} {Q : Int32 × xS → Int32 × mS → Prop} (w : WC tt X X1 B c nn P) (hM : vn (M 1 3) = vn (B 1 3)) (ha : a < P) (hb : b < vn (B 1 3)) (hG : P * vn (B 1 3) + 1 ≤ G)
    (hf : ∀ k d Y N, k < P → a < k → d < vn (B 1 3) → SX X1 Y → iL Y → (∀ p, p < P → Y 46 p = nI (plU (pl2 B a b) k d p)) → ¬ x2_harvest tt Y < v → SM B N → Q (1, mU (x2_putDown (x2_putDown Y 0 a) 2 k) 42 1 2) (2, mF_tells N (nI a) (nI b) (nI k) (nI d)))
    (hK : ∀ j j2 Y N, SX X1 Y → iL Y → (∀ p, p < P → Y 46 p = nI (pl2 B a b p)) → SM B N → Q (K j Y) (KM j2 N)) :
    ∀ f k Y N fm, 9 ≤ f + k → k ≤ P → a < k → SX X1 Y → iL Y → (∀ p, p < P → Y 46 p = nI (pl2 B a b p)) → SM B N → fm + k * vn (B 1 3) = G → Q (x2_isFoundByTwo_L38 tt v a b K f k Y) (mF_findLeads_L158 M c v nn (a * vn (B 1 3) + b) KM fm (k * vn (B 1 3)) N) := by
  obtain ⟨nP, nC3, nC, c3, c8, nY, n7, nb⟩ := WC_n w
  intro f
  induction f with
  | zero => intro k Y N fm h1 h2; omega
  | succ f ih =>
    intro k Y N fm h1 h2 hak hY hL hp hN hfm
    rw [x2_isFoundByTwo_L38_s, (nY Y hY).2]
    simp only [lt_i]
    have hkC : k * vn (B 1 3) ≤ P * vn (B 1 3) := Nat.mul_le_mul_right _ h2
    by_cases c1 : nI P ≤ nI k
    · rw [if_pos c1]
      rw [nI_leI (by omega) (by omega)] at c1
      have e : k = P := by omega
      subst e
      obtain ⟨g, rfl⟩ : ∃ g, fm = g + 1 := ⟨fm - 1, by omega⟩
      rw [mF_findLeads_L158_s, hM, hN 1 (by decide) (by decide), c8, if_pos ((code_c nP nC (Nat.le_refl _)).mpr (Nat.le_refl _))]
      exact hK _ _ Y N hY hL hp hN
    · rw [if_neg c1]
      rw [nI_leI (by omega) (by omega)] at c1
      have hk : k < P := by omega
      rw [n7 Y hY a ha]
      by_cases c2 : nI b = nI (aN B a)
      · rw [if_pos c2]
        obtain ⟨k2, e⟩ := skip_158 (M := M) (v := v) (KM := KM) w hM ha hb c2 fm (k * vn (B 1 3)) N hN hkC (by omega)
        rw [e]
        exact hK _ _ Y N hY hL hp hN
      · rw [if_neg c2]
        refine two_66 w hM ha hk hb c2 hG (fun d Y N h1 h2 h3 h4 h5 h6 => hf k d Y N hk hak h1 h2 h3 h4 h5 h6) (fun j Y2 N2 fm2 g1 g2 g3 g4 g5 => ?_) 11 0 Y N fm (by omega) (by omega) hY hL (fun p h1 _ => hp p h1) hN hfm
        have e : k * vn (B 1 3) + vn (B 1 3) = (k + 1) * vn (B 1 3) := (Nat.succ_mul _ _).symm
        rw [e] at g5 ⊢
        rw [n7 Y2 g1 k hk]
        exact ih (k + 1) _ N2 fm2 (by omega) (by omega) (by omega) (SX_u g1) (iL_u g2 (by have := w.2.2.2 k hk; omega)) (fun p hp => by
          rw [mU_sm]
          by_cases e : p = k
          · rw [if_pos e, e]
            unfold pl2 plU
            rw [if_neg (by omega)]
          · rw [if_neg e]; exact g3 p hp e) g4 g5
theorem two_15 {tt : tT} {X X1 : xS} {B M : mS} {c nn P a F : Nat} {v : Int32} {K : Nat → xS → Int32 × xS} {KM : Nat → mS → Int32 × mS} {Q : Int32 × xS → Int32 × mS → Prop} (w : WC tt X X1 B c nn P) (hM : vn (M 1 3) = vn (B 1 3)) (hM8 : vn (M 1 8) = P) (ha : a < P) (hF : F = P * vn (B 1 3) + 1)
    (hf : ∀ b k d Y N, b < vn (B 1 3) → k < P → a < k → d < vn (B 1 3) → SX X1 Y → iL Y → (∀ p, p < P → Y 46 p = nI (plU (pl2 B a b) k d p)) → ¬ x2_harvest tt Y < v → SM B N → Q (1, mU (x2_putDown (x2_putDown Y 0 a) 2 k) 42 1 2) (2, mF_tells N (nI a) (nI b) (nI k) (nI d)))
    (hK : ∀ j Y N fm, SX X1 Y → iL Y → (∀ p, p < P → p ≠ a → Y 46 p = nI (aN B p)) → SM B N → fm + (a * vn (B 1 3) + vn (B 1 3)) = F → Q (K j Y) (mF_findLeads_L131 M c v nn KM fm (a * vn (B 1 3) + vn (B 1 3)) N)) :
    ∀ f b Y N fm, f + b = 11 → b ≤ vn (B 1 3) → SX X1 Y → iL Y → (∀ p, p < P → p ≠ a → Y 46 p = nI (aN B p)) → SM B N → fm + (a * vn (B 1 3) + b) = F → Q (x2_isFoundByTwo_L15 tt v a K f b Y) (mF_findLeads_L131 M c v nn KM fm (a * vn (B 1 3) + b) N) := by
  obtain ⟨nP, nC3, nC, c3, c8, nY, n7, nb⟩ := WC_n w
  intro f
  induction f with
  | zero => intro kb Y N fm h1 h2; omega
  | succ f ih =>
    intro b Y N fm h1 h2 hY hL hp hN hfm
    rw [x2_isFoundByTwo_L15_s, (nY Y hY).1]
    simp only [lt_i]
    by_cases c1 : nI (vn (B 1 3)) ≤ nI b
    · rw [if_pos c1]
      rw [nI_leI (by omega) (by omega)] at c1
      have e : b = vn (B 1 3) := by omega
      rw [e]
      rw [e] at hfm
      exact hK _ Y N fm hY hL hp hN hfm
    · rw [if_neg c1]
      rw [nI_leI (by omega) (by omega)] at c1
      have hb : b < vn (B 1 3) := by omega
      have hlt := code_lt hb ha
      obtain ⟨g, rfl⟩ : ∃ g, fm = g + 1 := ⟨fm - 1, by omega⟩
      rw [mF_findLeads_L131_s, hM, hM8, hN 1 (by decide) (by decide), c8, if_neg (show ¬ nI P * nI (vn (B 1 3)) ≤ nI (a * vn (B 1 3) + b) by rw [code_c nP nC (by omega)]; omega), (code_d hb).1]
      have hs : vn (B 1 3) * (a + 1) = (a + 1) * vn (B 1 3) := Nat.mul_comm _ _
      rw [hs]
      refine two_38 (G := vn (B 1 3) * P + 1 + (a + 1) * vn (B 1 3)) w hM ha hb (by rw [Nat.mul_comm P]; omega) (fun k d Y N h1 h2 h3 h4 h5 h6 h7 h8 => hf b k d Y N hb h1 h2 h3 h4 h5 h6 h7 h8) (fun j j2 Y2 N2 g1 g2 g3 g4 => ?_) 9 (a + 1) _ N (vn (B 1 3) * P + 1) (by omega) (by omega) (by omega) (SX_u hY) (iL_u hL (by omega)) (fun p h1 => ?_) hN rfl
      · exact ih (b + 1) Y2 N2 g (by omega) (by omega) g1 g2 (fun p h1 h2 => by
          have := g3 p h1
          unfold pl2 plU at this
          rw [if_neg h2] at this
          exact this) g4 (by omega)
      · unfold pl2 plU
        rw [mU_sm]
        by_cases e : p = a
        · rw [if_pos e, if_pos e]
        · rw [if_neg e, if_neg e]; exact hp p h1 e
theorem two_2 {tt : tT} {X X1 : xS} {B M : mS} {c nn P F : Nat} {v : Int32} {K : Nat → xS → Int32 × xS} {KM : Nat → mS → Int32 × mS} {Q : Int32 × xS → Int32 × mS → Prop} (w : WC tt X X1 B c nn P) (hM : vn (M 1 3) = vn (B 1 3)) (hM8 : vn (M 1 8) = P) (hF : F = P * vn (B 1 3) + 1)
    (hf : ∀ a b k d Y N, a < P → b < vn (B 1 3) → k < P → a < k → d < vn (B 1 3) → SX X1 Y → iL Y → (∀ p, p < P → Y 46 p = nI (plU (pl2 B a b) k d p)) → ¬ x2_harvest tt Y < v → SM B N → Q (1, mU (x2_putDown (x2_putDown Y 0 a) 2 k) 42 1 2) (2, mF_tells N (nI a) (nI b) (nI k) (nI d)))
    (hK : ∀ k k2 Y N, SX X1 Y → iL Y → (∀ p, p < P → Y 46 p = nI (aN B p)) → SM B N → Q (K k Y) (KM k2 N)) :
    ∀ f a Y N fm, f + a = 9 → a ≤ P → SX X1 Y → iL Y → (∀ p, p < P → Y 46 p = nI (aN B p)) → SM B N → fm + a * vn (B 1 3) = F → Q (x2_isFoundByTwo_L2 tt v K f a Y) (mF_findLeads_L131 M c v nn KM fm (a * vn (B 1 3)) N) := by
  obtain ⟨nP, nC3, nC, c3, c8, nY, n7, nb⟩ := WC_n w
  intro f
  induction f with
  | zero => intro a Y N fm h1 h2; omega
  | succ f ih =>
    intro a Y N fm h1 h2 hY hL hp hN hfm
    rw [x2_isFoundByTwo_L2_s, (nY Y hY).2]
    simp only [lt_i]
    by_cases c1 : nI P ≤ nI a
    · rw [if_pos c1]
      rw [nI_leI (by omega) (by omega)] at c1
      have e : a = P := by omega
      subst e
      obtain ⟨g, rfl⟩ : ∃ g, fm = g + 1 := ⟨fm - 1, by omega⟩
      rw [mF_findLeads_L131_s, hM, hN 1 (by decide) (by decide), c8, if_pos ((code_c nP nC (Nat.le_refl _)).mpr (Nat.le_refl _))]
      exact hK _ _ Y N hY hL hp hN
    · rw [if_neg c1]
      rw [nI_leI (by omega) (by omega)] at c1
      have ha : a < P := by omega
      refine two_15 w hM hM8 ha hF (fun b k d Y N h1 h2 h3 h4 h5 h6 h7 h8 h9 => hf a b k d Y N ha h1 h2 h3 h4 h5 h6 h7 h8 h9) (fun k Y2 N2 fm2 g1 g2 g3 g4 g5 => ?_) 11 0 Y N fm (by omega) (by omega) hY hL (fun p h1 _ => hp p h1) hN hfm
      have e : a * vn (B 1 3) + vn (B 1 3) = (a + 1) * vn (B 1 3) := (Nat.succ_mul _ _).symm
      rw [e] at g5 ⊢
      rw [n7 Y2 g1 a ha]
      exact ih (a + 1) _ N2 fm2 (by omega) (by omega) (SX_u g1) (iL_u g2 (by have := w.2.2.2 a ha; omega)) (fun p hp => by
        rw [mU_sm]
        by_cases e : p = a
        · rw [if_pos e, e]
        · rw [if_neg e]; exact g3 p hp e) g4 g5
