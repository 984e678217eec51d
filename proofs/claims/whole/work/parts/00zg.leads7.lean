/-! LEAD: the act, whole -/
theorem srch {tt : tT} {X X1 : xS} {B M : mS} {c nn P : Nat} {v : Int32} (w : WC tt X X1 B c nn P) (hg : gOK (B 1)) (hX1 : GX X X1) (h43 : ∀ j, j < 4 → X1 43 j = -1) (hB : ∀ i, i ≠ 7 → B i = M i) (hp : ∀ p, p < P → X1 46 p = nI (aN B p)) {N : mS} (hN : SM B N) :
    let r := mF_findLeads_L31 M c v nn (fun (kax : Nat) (M31x : mS) => (mF_findLeads_L131 M c v nn (fun (kbx : Nat) (M131x : mS) => ((-1), M131x)) (vn (M 1 3) * vn (M 1 8) + 1) 0 M31x)) (vn (M 1 3) * vn (M 1 8) + 1) 0 N
    let p := (lt2 (x2_isFoundByOne tt X1 v) fun (x97 : Int32) (X97 : xS) => (if x97 = 0 then (lt2 (x2_isFoundByTwo tt X97 v) fun (x105 : Int32) (X105 : xS) => (if x105 = 0 then ((0 : Int32), X105) else (1, X105))) else (1, X97)))
    (FQ X M p r ∧ (p.1 = 1 → ¬ x2_mostHarvest X1 < v)) := by
  obtain ⟨nP, nC3, nC, c3, c8, nY, n7, nb⟩ := WC_n w
  have hB1 : B 1 = M 1 := hB 1 (by decide)
  have hM3 : vn (M 1 3) = vn (B 1 3) := by rw [hB1]
  have hM8 : vn (M 1 8) = P := by rw [← hB1, c8, vn_nI (by omega)]
  have hFe : vn (M 1 3) * vn (M 1 8) + 1 = P * vn (B 1 3) + 1 := by rw [hM3, hM8, Nat.mul_comm]
  rw [hFe]
  have hpl : ∀ a s, s < vn (B 1 3) → ∀ p, p < P → plU (fun p => aN B p) a s p < vn (B 1 3) := fun a s hs p hp => by
    unfold plU
    by_cases e : p = a
    · rw [if_pos e]; exact hs
    · rw [if_neg e]; exact w.2.2.2 p hp
  have one := one_2 (tt := tt) (X := X) (X1 := X1) (B := B) (M := M) (c := c) (nn := nn) (P := P) (v := v) (F := P * vn (B 1 3) + 1)
    (K := fun (kax : Nat) (X2x : xS) => (0, X2x)) (KM := fun (kax : Nat) (M31x : mS) => (mF_findLeads_L131 M c v nn (fun (kbx : Nat) (M131x : mS) => ((-1), M131x)) (P * vn (B 1 3) + 1) 0 M31x))
    (Q := fun p r => (p.1 = 0 ∧ SX X1 p.2 ∧ iL p.2 ∧ (∀ q, q < P → p.2 46 q = nI (aN B q)) ∧ ∃ N2, SM B N2 ∧ r = mF_findLeads_L131 M c v nn (fun (kbx : Nat) (M131x : mS) => ((-1), M131x)) (P * vn (B 1 3) + 1) 0 N2) ∨ (p.1 = 1 ∧ FQ X M p r ∧ ¬ x2_mostHarvest X1 < v))
    w hM3 rfl (fun a s Y N2 ha hs hY hL h46 hv hN2 => Or.inr ⟨rfl, FQ_1 hX1 h43 hB hY hL (by rw [h46 a ha]; unfold plU; rw [if_pos rfl]) hN2, WC_m w hg hY (fun p hp => ⟨h46 p hp, hpl a s hs p hp⟩) hv⟩)
    (fun k k2 Y N2 hY hL h46 hN2 => Or.inl ⟨rfl, hY, hL, h46, N2, hN2, rfl⟩)
    9 0 X1 N (P * vn (B 1 3) + 1) (by omega) (by omega) (fun _ _ => rfl) hX1.2 hp hN (by omega)
  rw [Nat.zero_mul] at one
  simp only [lt2_i]
  have e1 : x2_isFoundByOne tt X1 v = x2_isFoundByOne_L2 tt v (fun (kax : Nat) (X2x : xS) => (0, X2x)) 9 0 X1 := rfl
  rw [← e1] at one
  generalize x2_isFoundByOne tt X1 v = q1 at one ⊢
  obtain ⟨x1, Y1⟩ := q1
  rcases one with ⟨o1, o2, o3, o4, N2, o5, o6⟩ | ⟨o1, o2, o3⟩
  · have o1 : x1 = 0 := o1
    have o2 : SX X1 Y1 := o2
    have o3 : iL Y1 := o3
    have o4 : ∀ q, q < P → Y1 46 q = nI (aN B q) := o4
    rw [o6, o1]
    show FQ X M (if (0 : Int32) = 0 then (if (x2_isFoundByTwo tt Y1 v).1 = 0 then ((0 : Int32), (x2_isFoundByTwo tt Y1 v).2) else (1, (x2_isFoundByTwo tt Y1 v).2)) else (1, Y1)) _ ∧ ((if (0 : Int32) = 0 then (if (x2_isFoundByTwo tt Y1 v).1 = 0 then ((0 : Int32), (x2_isFoundByTwo tt Y1 v).2) else (1, (x2_isFoundByTwo tt Y1 v).2)) else (1, Y1)).1 = 1 → ¬ x2_mostHarvest X1 < v)
    rw [if_pos rfl]
    have two := two_2 (tt := tt) (X := X) (X1 := X1) (B := B) (M := M) (c := c) (nn := nn) (P := P) (v := v) (F := P * vn (B 1 3) + 1)
      (K := fun (kax : Nat) (X2x : xS) => (0, X2x)) (KM := fun (kbx : Nat) (M131x : mS) => ((-1), M131x))
      (Q := fun p r => FQ X M p r ∧ (p.1 = 0 ∨ p.1 = 1) ∧ (p.1 = 1 → ¬ x2_mostHarvest X1 < v))
      w hM3 hM8 rfl (fun a b k d Y N2 ha hb hk hak hd hY hL h46 hv hN2 => ⟨FQ_2 hX1 hB hY hL (by rw [h46 a ha]; unfold plU; rw [if_neg (by omega)]; unfold pl2 plU; rw [if_pos rfl]) (by rw [h46 k hk]; unfold plU; rw [if_pos rfl]) hN2, Or.inr rfl, fun _ => WC_m w hg hY (fun p hp => ⟨h46 p hp, by
        unfold plU
        by_cases e : p = k
        · rw [if_pos e]; exact hd
        · rw [if_neg e]; exact hpl a b hb p hp⟩) hv⟩)
      (fun k k2 Y N2 hY hL h46 hN2 => ⟨⟨⟨fun p a1 a2 a3 a4 a5 => (hY p a5).trans (hX1.1 p a1 a2 a3 a4 a5), hL⟩, fun i i3 i6 i7 => (hN2 i i3 i6).trans (hB i i7), Or.inl ⟨rfl, rfl⟩⟩, Or.inl rfl, fun e => absurd (show (0 : Int32) = 1 from e) (by decide)⟩)
      9 0 Y1 N2 (P * vn (B 1 3) + 1) (by omega) (by omega) o2 o3 o4 o5 (by omega)
    rw [Nat.zero_mul] at two
    have e2 : x2_isFoundByTwo tt Y1 v = x2_isFoundByTwo_L2 tt v (fun (kax : Nat) (X2x : xS) => (0, X2x)) 9 0 Y1 := rfl
    rw [← e2] at two
    generalize x2_isFoundByTwo tt Y1 v = q2 at two ⊢
    obtain ⟨x2, Y2⟩ := q2
    obtain ⟨t1, t2, t3⟩ := two
    show FQ X M (if x2 = 0 then ((0 : Int32), Y2) else (1, Y2)) _ ∧ ((if x2 = 0 then ((0 : Int32), Y2) else (1, Y2)).1 = 1 → ¬ x2_mostHarvest X1 < v)
    rcases t2 with e | e
    · have e : x2 = 0 := e
      subst e
      rw [if_pos rfl]
      exact ⟨t1, t3⟩
    · have e : x2 = 1 := e
      subst e
      rw [if_neg (by decide)]
      exact ⟨t1, t3⟩
  · have o1 : x1 = 1 := o1
    show FQ X M (if x1 = 0 then _ else (1, Y1)) _ ∧ ((if x1 = 0 then _ else (1, Y1)).1 = 1 → ¬ x2_mostHarvest X1 < v)
    subst o1
    rw [if_neg (by decide)]
    exact ⟨o2, fun _ => o3⟩
theorem fi_e {n : Nat} {tt : tT} {X : xS} {M : mS} (h : INV n tt X M) {c nn : Nat} (v : Int32) (hc : c < vn (M 1 3)) (hn : nn ≤ 3) : FQ X M (x2_isFound tt X c v nn) (mF_findLeads M c v nn) := by
  have hR := INV_R h
  have hC := hR.1
  have hP := hR.2.1
  have n8 := n8 h
  have hh : p8_held (nI nn) 3 = nI nn := by
    unfold p8_held
    rw [if_pos (nI_pos' (by omega)), if_pos (show nI nn ≤ 3 from nI_le (b := 3) hn (by decide))]
  unfold x2_isFound mF_findLeads
  simp only [lt_i]
  rw [hh]
  have hB : ∀ i, i ≠ 7 → mF_tells M (-1) (-1) (-1) (-1) i = M i := fun i hi => tl_row M _ _ _ _ i hi
  have h7 := tl_at M (-1) (-1) (-1) (-1)
  generalize mF_tells M (-1) (-1) (-1) (-1) = B at hB h7 ⊢
  have hB1 := hB 1 (by decide)
  have z42 : mU (x7_fill_53178 (mU (mU (mU X 42 5 1) 42 6 (nI c)) 42 7 (nI nn)) 43 4 (-1)) 42 1 0 42 5 = 1 ∧ mU (x7_fill_53178 (mU (mU (mU X 42 5 1) 42 6 (nI c)) 42 7 (nI nn)) 43 4 (-1)) 42 1 0 42 6 = nI c ∧ mU (x7_fill_53178 (mU (mU (mU X 42 5 1) 42 6 (nI c)) 42 7 (nI nn)) 43 4 (-1)) 42 1 0 42 7 = nI nn ∧ mU (x7_fill_53178 (mU (mU (mU X 42 5 1) 42 6 (nI c)) 42 7 (nI nn)) 43 4 (-1)) 42 1 0 42 1 = 0 := by
    refine ⟨?_, ?_, ?_, mU_eq⟩
    · rw [mU_ne (by decide), gw_fill _ _ _ _ _ (by decide), mU_ne (by decide), mU_ne (by decide), mU_eq]
    · rw [mU_ne (by decide), gw_fill _ _ _ _ _ (by decide), mU_ne (by decide), mU_eq]
    · rw [mU_ne (by decide), gw_fill _ _ _ _ _ (by decide), mU_eq]
  have z43 : ∀ j, j < 4 → mU (x7_fill_53178 (mU (mU (mU X 42 5 1) 42 6 (nI c)) 42 7 (nI nn)) 43 4 (-1)) 42 1 0 43 j = -1 := fun j hj => by
    rw [mU_row (by decide)]
    unfold x7_fill_53178
    rw [lt_i, fill_at, if_pos hj]
  have zr : ∀ p, p ≠ 42 → p ≠ 43 → mU (x7_fill_53178 (mU (mU (mU X 42 5 1) 42 6 (nI c)) 42 7 (nI nn)) 43 4 (-1)) 42 1 0 p = X p := fun p h2 h3 => by
    rw [mU_row h2, gw_fill _ _ _ _ _ h3, mU_row h2, mU_row h2, mU_row h2]
  generalize mU (x7_fill_53178 (mU (mU (mU X 42 5 1) 42 6 (nI c)) 42 7 (nI nn)) 43 4 (-1)) 42 1 0 = Z at z42 z43 zr ⊢
  obtain ⟨f0, f4, f5, f6, f7, f8, f18⟩ := eN_f (INV_eE h).1
  have hx0 : vn (X 1 0) ≤ 10 := by rw [f0]; exact hC.2.2
  have hn8 : vn (X 1 9) ≤ 8 := by rw [n8.1]; exact hP.2
  obtain ⟨g1, g2, g3⟩ := lw_L36 (tt := tt) (X := X) (Z := Z) (c := c) (nn := nn) (fun p a b => zr p (by omega) (by omega)) z42.1 z42.2.1 z42.2.2.1 hn hx0 (vn (X 1 9)) hn8
  have hiL : iL X := h.2.2.2.2.2.2.1
  obtain ⟨l1, l2⟩ := lw_46 tt Z (fun q hq => by rw [zr 7 (by decide) (by decide)]; exact aX h q hq) (by unfold iL; rw [zr 46 (by decide) (by decide)]; exact hiL) (vn (X 1 9)) hn8
  have e9 : vn (Z 1 9) = vn (X 1 9) := by rw [zr 1 (by decide) (by decide)]
  generalize x2_isFound_L36 tt Z (vn (X 1 9)) = X1 at g1 g2 g3 l1 ⊢
  have hat : ∀ p, p < vn (M 1 8) → aN B p < vn (B 1 3) := fun p hp => by
    unfold aN
    rw [hB1]
    exact (gX h).2.2 p (by have := hP.2; omega) hp
  have w : WC tt X X1 B c nn (vn (M 1 8)) := by
    refine ⟨⟨?_, rOK_row hB1 hR, by rw [hB1], n8.1, by rw [hB1]; exact hc, by rw [← n8.1]; exact g1⟩, ?_, hn, hat⟩
    · unfold eE; rw [hB1]; exact INV_eE h
    · unfold aB; rw [hB 0 (by decide)]; exact h.2.1
  obtain ⟨nP, nC3, nC, c3, c8, nY, n7, nb⟩ := WC_n w
  have hX1 : GX X X1 := ⟨fun p a1 a2 a3 a4 a5 => (g3 p a3 a4 a5).trans (zr p a1 a2), l1⟩
  have h43 : ∀ j, j < 4 → X1 43 j = -1 := fun j hj => by rw [g3 43 (by decide) (by decide) (by decide)]; exact z43 j hj
  have hp : ∀ p, p < vn (M 1 8) → X1 46 p = nI (aN B p) := fun p hp => by
    rw [g2 p (by rw [n8.1]; exact hp), ← n7 X1 (fun _ _ => rfl) p hp]
    exact (hX1.1 7 (by decide) (by decide) (by decide) (by decide) (by decide) ▸ rfl)
  have hsB : SM B B := fun _ _ _ => rfl
  obtain ⟨x, N2, e1, e2, e3, e4⟩ := WC_h v w (fun _ _ => rfl) (pl := fun p => aN B p) (fun p h1 => ⟨hp p h1, hat p h1⟩) (SM_PL hsB nb)
  have hN2 : SM B N2 := fun i i3 i6 => by
    by_cases e : i = 1
    · rw [e]; exact e3
    · exact e4 i e i3 i6
  rw [e1]
  simp only [lt2_i]
  by_cases c1 : x2_harvest tt X1 < v
  · rw [if_pos c1, if_pos (e2.mpr c1)]
    obtain ⟨s1, s2⟩ := srch (v := v) w (by rw [hB1]; exact gX h) hX1 h43 hB hp hN2
    by_cases c2 : x2_mostHarvest X1 < v
    · rw [if_pos c2]
      refine ⟨hX1, s1.2.1, Or.inl ⟨rfl, ?_⟩⟩
      rcases s1.2.2 with ⟨a, b⟩ | ⟨a, b⟩
      · exact b
      · exact absurd c2 (s2 a)
    · rw [if_neg c2]
      exact s1
  · rw [if_neg c1, if_neg (fun e => c1 (e2.mp e))]
    refine ⟨hX1, fun i i3 i6 i7 => ?_, Or.inr ⟨rfl, show (0 : Int32) ≤ 0 by decide, ?_, ?_⟩⟩
    · exact (hN2 i i3 i6).trans (hB i i7)
    · show (0 : Int32) = X1 42 1
      rw [g3 42 (by decide) (by decide) (by decide)]; exact z42.2.2.2.symm
    · show ∀ j, j < 4 → X1 43 j = N2 7 j
      rw [hN2 7 (by decide) (by decide)]
      refine all4 ?_ ?_ ?_ ?_
      · rw [h7.1]; exact h43 0 (by decide)
      · rw [h7.2.1]; exact h43 1 (by decide)
      · rw [h7.2.2.1]; exact h43 2 (by decide)
      · rw [h7.2.2.2]; exact h43 3 (by decide)
theorem leads_e {n : Nat} {tt : tT} {X : xS} {M : mS} (h : INV n tt X M) (c v k what : Int32) : AL n tt (x8_leads tt X c v k what) (mF_leads M c v k what) := by
  unfold x8_leads mF_leads
  simp only [lt2_p, isC_e h]
  by_cases c1 : mF_isCell M c = 0
  · rw [if_pos c1, if_pos c1]; exact er1 h
  rw [if_neg c1, if_neg c1]
  by_cases c2 : sF_in v 0 99999 = 0
  · rw [if_pos (show p8_within v 0 99999 = 0 from c2), if_pos c2]; exact er1 h
  rw [if_neg (show ¬ p8_within v 0 99999 = 0 from c2), if_neg c2]
  by_cases c3 : sF_in k 0 3 = 0
  · rw [if_pos (show p8_within k 0 3 = 0 from c3), if_pos c3]; exact er1 h
  rw [if_neg (show ¬ p8_within k 0 3 = 0 from c3), if_neg c3]
  by_cases c4 : sF_in what (-1) 3 = 0
  · rw [if_pos (show p8_within what (-1) 3 = 0 from c4), if_pos c4]; exact er1 h
  rw [if_neg (show ¬ p8_within what (-1) 3 = 0 from c4), if_neg c4]
  obtain ⟨k1, k2⟩ := in_nat (n := 3) c3 ⟨rfl, by decide⟩
  obtain ⟨d1, d2⟩ := cell_of (INV_R h).1 c1
  have hf := fi_e h v d2 k2
  generalize x2_isFound tt X (vn c) v (vn k) = p at hf ⊢
  generalize mF_findLeads M (vn c) v (vn k) = r at hf ⊢
  obtain ⟨x, Y⟩ := p
  obtain ⟨m, N⟩ := r
  obtain ⟨hX, hM, hq⟩ := hf
  have hI : INV n tt Y N := INV_G h hX hM
  simp only [lt2_i]
  rcases hq with ⟨a, b⟩ | ⟨a, b, b2, b3⟩
  · have a : x = 0 := a
    have b : m = -1 := b
    rw [if_pos a, if_neg (show ¬ 0 ≤ m by rw [b]; decide)]
    exact er2 hI
  · have a : x = 1 := a
    have b : 0 ≤ m := b
    have b2 : m = Y 42 1 := b2
    have b3 : ∀ j, j < 4 → Y 43 j = N 7 j := b3
    rw [if_neg (show ¬ x = 0 by rw [a]; decide), if_pos b]
    by_cases c5 : 0 ≤ what
    · rw [if_pos c5, if_pos c5, if_pos c5]
      exact AL_mk (b3 _ (by have := (wh3 c4 c5).2; omega)) hI
    · rw [if_neg c5, if_neg c5]
      exact AL_mk b2.symm hI
