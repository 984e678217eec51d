theorem XR_row {a b c : Int32} {k n : Nat} {X : xS} {s : aS} (h : XR a b c k n X s) (hn : n ≤ 50) : (∃ nc, X 38 1 = nI nc ∧ nc ≤ 50) ∧ (∃ ns, X 40 1 = nI ns ∧ ns ≤ 50) ∧ X 37 2 = nI k := by
  obtain ⟨⟨m, ⟨nc, ns, h1, h2, h3, _⟩, h4⟩, h5, _⟩ := h
  exact ⟨⟨nc, h1, by omega⟩, ⟨ns, h2, by omega⟩, h5⟩
theorem dg1X {a b c : Int32} {k m n op : Nat} {X : xS} {Vs sg : List Int32} (x : Int32) (h1 : XC a b c m X Vs sg) (hm : m ≤ n) (h2 : X 37 2 = nI k) (h3 : X 37 3 = nI op) (h3' : op = opn sg) : XR a b c k (n + 1) (mU (mU (mU X 37 4 x) 37 5 1) 37 6 0) (Vs, sg, op, x, 1, false) ∧ ko X (mU (mU (mU X 37 4 x) 37 5 1) 37 6 0) := by
  refine ⟨⟨⟨m, XC_fd (XC_fd (XC_fd h1)), Nat.succ_le_succ hm⟩, ?_, ⟨?_, h3'⟩, ⟨?_, (by decide : (1 : Nat) ≤ 4)⟩, fun _ => ?_, ?_⟩, ?_⟩
  · rw [mU_ne (by decide), mU_ne (by decide), mU_ne (by decide)]; exact h2
  · rw [mU_ne (by decide), mU_ne (by decide), mU_ne (by decide)]; exact h3
  · rw [mU_ne (by decide), mU_eq]; rfl
  · rw [mU_ne (by decide), mU_ne (by decide), mU_eq]
  · rw [mU_eq]; rfl
  · exact ko_t (ko_t (ko_kp (q := 4) kp_f (by decide)) (ko_kp (q := 5) kp_f (by decide))) (ko_kp (q := 6) kp_f (by decide))
theorem dg2X {a b c : Int32} {k m n op dg : Nat} {X : xS} {Vs sg : List Int32} (x : Int32) (h1 : XC a b c m X Vs sg) (hm : m + 1 ≤ n) (h2 : X 37 2 = nI k) (h3 : X 37 3 = nI op) (h3' : op = opn sg) (h5 : X 37 5 = nI dg) (h5' : dg < 4) (h6 : X 37 6 = 0) : XR a b c k (n + 1) (mU (mU X 37 4 x) 37 5 (mU X 37 4 x 37 5 + 1)) (Vs, sg, op, x, dg + 1, false) ∧ ko X (mU (mU X 37 4 x) 37 5 (mU X 37 4 x 37 5 + 1)) := by
  refine ⟨⟨⟨m, XC_fd (XC_fd h1), ?_⟩, ?_, ⟨?_, h3'⟩, ⟨?_, (h5' : dg + 1 ≤ 4)⟩, fun _ => ?_, ?_⟩, ?_⟩
  · show m + (if dg + 1 = 0 then 0 else 1) ≤ n + 1
    rw [if_neg (by omega)]
    omega
  · rw [mU_ne (by decide), mU_ne (by decide)]; exact h2
  · rw [mU_ne (by decide), mU_ne (by decide)]; exact h3
  · rw [mU_eq, mU_ne (by decide), h5, nI_1]
  · rw [mU_ne (by decide), mU_eq]
  · rw [mU_ne (by decide), mU_ne (by decide)]; exact h6
  · exact ko_t (ko_kp (q := 4) kp_f (by decide)) (ko_kp (q := 5) kp_f (by decide))
theorem goX {a b c : Int32} {n k w : Nat} {X : xS} {s : aS} (hk : k < 3) (hk1 : 1 ≤ k) (hw : w < 256) (hn : n < 50) (hdd : s.2.2.2.2.1 ≠ 0 → s.2.2.2.2.2 = false) (h : XR a b c k n X s) :
    (goA a b c (k - 1) (nI w) s = none ∧ (x3_goesOn X (nI w)).1 = 0 ∧ ko X (x3_goesOn X (nI w)).2) ∨ ∃ t, goA a b c (k - 1) (nI w) s = some t ∧ (x3_goesOn X (nI w)).1 = 1 ∧ XR a b c k (n + 1) (x3_goesOn X (nI w)).2 t ∧ ko X (x3_goesOn X (nI w)).2 := by
  have e0 : x3_goesOn X (nI w) = if sF_isDigit (nI w) = 0 then (if (x3_endNumber X) 37 6 = 0 then x3_takeSign (x3_endNumber X) (nI w) else x3_takeTerm (x3_endNumber X) (nI w)) else x3_takeDigit X (nI w - 48) := by
    unfold x3_goesOn sF_isDigit sF_in
    simp only [lt_i, lt2_i]
    by_cases c1 : nI w < 48
    · rw [if_pos c1, if_pos c1, if_pos rfl]
    · rw [if_neg c1, if_neg c1]
      by_cases c2 : 57 < nI w
      · rw [if_pos c2, if_pos c2, if_pos rfl]
      · rw [if_neg c2, if_neg c2, if_neg (by decide)]
  rw [e0]
  unfold goA
  by_cases hd : sF_isDigit (nI w) = 0
  · rw [if_pos hd, if_pos hd]
    obtain ⟨⟨⟨m, h1, h1'⟩, h2, ⟨h3, h3'⟩, ⟨h5, h5'⟩, h4, h6⟩, hz, kk⟩ := ntX (by omega) h
    generalize ntA a b c s = q at h1 h1' h3 h3' h5 h5' h4 h6 hz ⊢
    obtain ⟨Vs, sg, op, num, dg, due⟩ := q
    have hz' : dg = 0 := hz
    subst hz'
    have h3'' : op = opn sg := h3'
    subst h3''
    have h1'' : m ≤ n := h1'
    have g1 : XC a b c n (x3_endNumber X) Vs sg := XC_le h1 h1''
    show ((if due = true then tmA a b c (k - 1) (nI w) Vs sg (opn sg) else tsA a b c (nI w) Vs sg (opn sg)) = none ∧ _) ∨ ∃ t, (if due = true then tmA a b c (k - 1) (nI w) Vs sg (opn sg) else tsA a b c (nI w) Vs sg (opn sg)) = some t ∧ _
    by_cases hu : due = true
    · have g6 : x3_endNumber X 37 6 = 1 := h6.trans (if_pos hu)
      rw [if_pos hu, if_neg (show ¬ x3_endNumber X 37 6 = 0 by rw [g6]; decide)]
      rcases tmX hk hk1 hw hn g1 h2 h3 h5 g6 with ⟨q1, q2, q3⟩ | ⟨t, q1, q2, q3, q4⟩
      · exact Or.inl ⟨q1, q2, ko_t kk q3⟩
      · exact Or.inr ⟨t, q1, q2, q3, ko_t kk q4⟩
    · have g6 : x3_endNumber X 37 6 = 0 := h6.trans (if_neg hu)
      rw [if_neg hu, if_pos g6]
      rcases tsX (k := k) hn g1 h2 h3 h5 g6 with ⟨q1, q2, q3⟩ | ⟨t, q1, q2, q3, q4⟩
      · exact Or.inl ⟨q1, q2, ko_t kk q3⟩
      · exact Or.inr ⟨t, q1, q2, q3, ko_t kk q4⟩
  · rw [if_neg hd, if_neg hd]
    obtain ⟨⟨m, h1, h1'⟩, h2, ⟨h3, h3'⟩, ⟨h5, h5'⟩, h4, h6⟩ := h
    obtain ⟨Vs, sg, op, num, dg, due⟩ := s
    have g1 : XC a b c m X Vs sg := h1
    have g5 : X 37 5 = nI dg := h5
    have g5' : dg ≤ 4 := h5'
    have g6 : X 37 6 = (if due = true then 1 else 0) := h6
    have g4 : dg ≠ 0 → X 37 4 = num := h4
    have g1' : m + (if dg = 0 then 0 else 1) ≤ n := h1'
    have gd : dg ≠ 0 → due = false := hdd
    have gm : m ≤ n := by split at g1' <;> omega
    clear h1 h5 h5' h6 h4 h1' hdd
    unfold x3_takeDigit
    simp only [lt_i, lt2_i]
    have hnew : ((if due = true then some (Vs, sg, op, nI w - 48, 1, false) else none) = (none : Option aS) ∧ (if X 37 6 = 0 then ((0 : Int32), X) else (1, mU (mU (mU X 37 4 (nI w - 48)) 37 5 1) 37 6 0)).1 = 0 ∧ ko X (if X 37 6 = 0 then ((0 : Int32), X) else (1, mU (mU (mU X 37 4 (nI w - 48)) 37 5 1) 37 6 0)).2) ∨ ∃ t, (if due = true then some (Vs, sg, op, nI w - 48, 1, false) else none) = some t ∧ (if X 37 6 = 0 then ((0 : Int32), X) else (1, mU (mU (mU X 37 4 (nI w - 48)) 37 5 1) 37 6 0)).1 = 1 ∧ XR a b c k (n + 1) (if X 37 6 = 0 then ((0 : Int32), X) else (1, mU (mU (mU X 37 4 (nI w - 48)) 37 5 1) 37 6 0)).2 t ∧ ko X (if X 37 6 = 0 then ((0 : Int32), X) else (1, mU (mU (mU X 37 4 (nI w - 48)) 37 5 1) 37 6 0)).2 := by
      by_cases hu : due = true
      · rw [if_pos hu, if_neg (show ¬ X 37 6 = 0 by rw [g6, if_pos hu]; decide)]
        obtain ⟨q1, q2⟩ := dg1X (n := n) (nI w - 48) g1 gm h2 h3 h3'
        exact Or.inr ⟨_, rfl, rfl, q1, q2⟩
      · rw [if_neg hu, if_pos (show X 37 6 = 0 by rw [g6, if_neg hu])]
        exact Or.inl ⟨rfl, rfl, ko_r _⟩
    show ((if 0 < dg ∧ dg < 4 then some (Vs, sg, op, num * 10 + (nI w - 48), dg + 1, false) else if due = true then some (Vs, sg, op, nI w - 48, 1, false) else none) = (none : Option aS) ∧ _) ∨ ∃ t, (if 0 < dg ∧ dg < 4 then some (Vs, sg, op, num * 10 + (nI w - 48), dg + 1, false) else if due = true then some (Vs, sg, op, nI w - 48, 1, false) else none) = some t ∧ _
    by_cases d0 : dg = 0
    · rw [if_neg (show ¬ (0 < dg ∧ dg < 4) by omega), if_pos (show X 37 5 ≤ 0 by rw [g5, nz (by omega)]; exact d0)]
      exact hnew
    · rw [if_neg (show ¬ X 37 5 ≤ 0 by rw [g5, nz (by omega)]; exact d0)]
      by_cases d4 : dg = 4
      · rw [if_neg (show ¬ (0 < dg ∧ dg < 4) by omega), if_pos (show 4 ≤ X 37 5 by rw [g5, d4]; decide)]
        exact hnew
      · rw [if_pos (show 0 < dg ∧ dg < 4 by omega), if_neg (show ¬ 4 ≤ X 37 5 by rw [g5, show (4 : Int32) = nI 4 from rfl, nI_leI (by omega) (by omega)]; omega), g4 d0]
        rw [if_neg d0] at g1'
        obtain ⟨q1, q2⟩ := dg2X (n := n) (num * 10 + (nI w - 48)) g1 g1' h2 h3 h3' g5 (by omega) (by rw [g6, gd d0]; rfl)
        exact Or.inr ⟨_, rfl, rfl, q1, q2⟩
def ddA (s : aS) : Prop := s.2.2.2.2.1 ≠ 0 → s.2.2.2.2.2 = false
theorem dd_cn (a b c : Int32) (sg Vs : List Int32) (op : Nat) : ddA (cnA a b c Vs sg op z0) := by
  rw [cn_AF]
  intro _
  rfl
theorem go_dd {a b c : Int32} {u : Nat} {ch : Int32} {s t : aS} (h : goA a b c u ch s = some t) : ddA t := by
  unfold goA at h
  by_cases hd : sF_isDigit ch = 0
  · rw [if_pos hd] at h
    by_cases hu : (ntA a b c s).2.2.2.2.2 = true
    · rw [if_pos hu] at h
      unfold tmA at h
      by_cases h1 : ch = 33 ∨ ch = 40
      · rw [if_pos h1] at h
        by_cases h2 : (ntA a b c s).2.2.1 < 5
        · rw [if_pos h2] at h; cases h; intro w; exact absurd rfl w
        · rw [if_neg h2] at h; cases h
      · rw [if_neg h1] at h
        by_cases h2 : nmA u ch = 0
        · rw [if_pos h2] at h; cases h
        · rw [if_neg h2] at h; cases h; exact dd_cn _ _ _ _ _ _
    · rw [if_neg hu] at h
      unfold tsA at h
      by_cases h1 : ch = 41
      · rw [if_pos h1] at h
        generalize pdA a b c 1 (ntA a b c s).1 (ntA a b c s).2.1 = q at h
        obtain ⟨Vs, sg⟩ := q
        cases sg with
        | nil => cases h
        | cons x r =>
          have h' : (if x = 40 then some (cnA a b c Vs r ((ntA a b c s).2.2.1 - 1) z0) else none) = some t := h
          by_cases h2 : x = 40
          · rw [if_pos h2] at h'; cases h'; exact dd_cn _ _ _ _ _ _
          · rw [if_neg h2] at h'; cases h'
      · rw [if_neg h1] at h
        by_cases h2 : rk ch = 0
        · rw [if_pos h2] at h; cases h
        · rw [if_neg h2] at h
          split at h
          · cases h
          · cases h; intro w; exact absurd rfl w
  · rw [if_neg hd] at h
    split at h
    · cases h; intro _; rfl
    · split at h
      · cases h; intro _; rfl
      · cases h
/-- what the class's reader says of a text, against what the automaton says -/
def foP (a b c : Int32) (k E : Nat) (X : xS) (o : Nat × Option Int32) (r : Int32 × xS) : Prop := ((o.2 = none ∧ r.1 = nI (E - o.1)) ∨ ∃ nc, nc ≤ 50 ∧ r.2 38 1 = nI nc ∧ r.1 = -1 ∧ o = (0, some (btm (cdE a b c (r.2 39) nc)))) ∧ (dN r.2 ∧ ko X r.2)
theorem XR_d {a b c : Int32} {k n : Nat} {X : xS} {s : aS} (h : XR a b c k n X s) (hn : n ≤ 50) (hk : k < 3) : dN X := by
  obtain ⟨⟨nc, h1, h1'⟩, ⟨ns, h2, h2'⟩, h3⟩ := XR_row h hn
  refine ⟨?_, ?_, ?_⟩
  · rw [h1, vn_nI (by omega)]; exact ⟨rfl, h1'⟩
  · rw [h2, vn_nI (by omega)]; exact ⟨rfl, h2'⟩
  · rw [h3, vn_nI (by omega)]; exact hk
theorem foK {a b c : Int32} {k E n : Nat} {X Y : xS} {s : aS} (hk : k < 3) (hn : n ≤ 50) (h9 : X 9 1 = nI E) (h : XR a b c k n Y s) (hX : ko X Y) : foP a b c k E X (fnA a b c (ntA a b c s)) (lt (x3_endNumber Y) fun (X65 : xS) => (if (X65 37 6) = 0 then (if (X65 37 3) ≤ 0 then (lt (x3_putDownFrom X65 1) fun (X89 : xS) => ((-1), X89)) else ((X65 9 1), X65)) else ((X65 9 1), X65))) := by
  simp only [lt_i]
  obtain ⟨h1, hz, kk⟩ := ntX hn h
  have k2 := ko_t hX kk
  have hd := XR_d h1 hn hk
  obtain ⟨⟨m, w1, w2⟩, w3, ⟨w4, w4'⟩, _, _, w6⟩ := h1
  generalize x3_endNumber Y = Z at w1 w3 w4 w6 k2 hd ⊢
  generalize ntA a b c s = q at w1 w2 w4 w4' w6 hz ⊢
  obtain ⟨Vs, sg, op, num, dg, due⟩ := q
  have g1 : XC a b c n Z Vs sg := XC_le w1 (by omega)
  have g4 : Z 37 3 = nI op := w4
  have g4' : op = opn sg := w4'
  have g6 : Z 37 6 = (if due = true then 1 else 0) := w6
  have ho := opn_le sg
  have hl := (XC_ns g1 hn).2.1
  have hbad : foP a b c k E X (0, none) (Z 9 1, Z) := ⟨Or.inl ⟨rfl, by show Z 9 1 = nI (E - 0); rw [k2.2 9 (by decide)]; exact h9⟩, hd, k2⟩
  unfold fnA
  show foP a b c k E X (if (due = true ∨ 0 < op) then (0, none) else (0, some (btm (pdA a b c 1 Vs sg).1))) _
  by_cases hu : due = true
  · rw [if_pos (Or.inl hu), if_neg (show ¬ Z 37 6 = 0 by rw [g6, if_pos hu]; decide)]
    exact hbad
  · rw [if_pos (show Z 37 6 = 0 by rw [g6, if_neg hu])]
    by_cases hp : op = 0
    · rw [if_neg (fun e => e.elim hu (by omega)), if_pos (show Z 37 3 ≤ 0 by rw [g4, nz (by omega)]; exact hp)]
      obtain ⟨p1, p2, p3⟩ := pdX (r := 1) hn (by decide) (by decide) g1
      obtain ⟨nc, ns, q1, q2, q3, q4, q5⟩ := p1
      refine ⟨Or.inr ⟨nc, by omega, q1, rfl, ?_⟩, ⟨?_, ?_, ?_⟩, ko_t k2 (ko_kp p3 (by decide))⟩
      · show _ = (0, some (btm (cdE a b c (x3_putDownFrom Z (nI 1) 39) nc)))
        rw [← q4]
      · show x3_putDownFrom Z (nI 1) 38 1 = nI (vn (x3_putDownFrom Z (nI 1) 38 1)) ∧ _
        rw [q1, vn_nI (by omega)]; exact ⟨rfl, by show vn (x3_putDownFrom Z (nI 1) 38 1) ≤ 50; rw [q1, vn_nI (by omega)]; omega⟩
      · show x3_putDownFrom Z (nI 1) 40 1 = nI (vn (x3_putDownFrom Z (nI 1) 40 1)) ∧ _
        rw [q2, vn_nI (by omega)]; exact ⟨rfl, by show vn (x3_putDownFrom Z (nI 1) 40 1) ≤ 50; rw [q2, vn_nI (by omega)]; omega⟩
      · show vn (x3_putDownFrom Z (nI 1) 37 2) < 3
        rw [p3.1 2 (by decide), w3, vn_nI (by omega)]; exact hk
    · rw [if_pos (Or.inr (Nat.pos_of_ne_zero hp)), if_neg (show ¬ Z 37 3 ≤ 0 by rw [g4, nz (by omega)]; exact hp)]
      exact hbad
theorem foL {a b c : Int32} {k E : Nat} {X : xS} {K : Nat → xS → Int32 × xS} (hk : k < 3) (hk1 : 1 ≤ k) (hE : E ≤ 50) (h9 : X 9 1 = nI E) (hb : ∀ j, j < E → ∃ w, w < 256 ∧ X 10 j = nI w) (hK : ∀ ks Y s, XR a b c k E Y s → ko X Y → foP a b c k E X (fnA a b c (ntA a b c s)) (K ks Y)) : ∀ (f n ks : Nat) (Y : xS) (s : aS), n < f → ks + n = E → XR a b c k ks Y s → ddA s → ko X Y → foP a b c k E X (rn a b c (k - 1) (bl (X 10) n ks) s) (x3_faultOf_L36 K f ks Y) := by
  intro f
  induction f with
  | zero => intro n ks Y s h; exact absurd h (Nat.not_lt_zero _)
  | succ f ih =>
    intro n ks Y s hn hE2 h hd hX
    have h9Y : Y 9 1 = nI E := by rw [hX.2 9 (by decide)]; exact h9
    rw [x3_faultOf_L36_s]
    cases n with
    | zero =>
      have he : ks = E := by omega
      rw [if_pos (show Y 9 1 ≤ nI ks by rw [h9Y]; exact nI_le (by omega) (by omega))]
      show foP a b c k E X (rn a b c (k - 1) [] s) (K ks Y)
      rw [rn_0]
      exact hK ks Y s (he ▸ h) hX
    | succ n =>
      obtain ⟨w, hw, hw2⟩ := hb ks (by omega)
      have hget : x4_get Y 9 (nI ks) = nI w := by
        unfold x4_get
        rw [if_neg (by rw [show (0 : Int32) = nI 0 from rfl, nI_ltI (by omega) (by decide)]; omega), if_neg (by rw [h9Y, nI_leI (by omega) (by omega)]; omega), vn_nI (by omega), hX.2 (9 + 1) (by decide)]
        exact hw2
      rw [if_neg (by rw [h9Y, nI_leI (by omega) (by omega)]; omega), hget]
      simp only [lt2_i]
      show foP a b c k E X (rn a b c (k - 1) (X 10 ks :: bl (X 10) n (ks + 1)) s) _
      rw [rn_1, hw2]
      rcases goX (n := ks) hk hk1 hw (by omega) hd h with ⟨g1, g2, g3⟩ | ⟨t, g1, g2, g3, g4⟩
      · rw [g1, g2, if_pos rfl]
        refine ⟨Or.inl ⟨rfl, ?_⟩, ?_, ko_t hX g3⟩
        · show nI ks = nI (E - ((bl (X 10) n (ks + 1)).length + 1))
          rw [bl_len]
          congr 1
          omega
        · have h0 := XR_d h (by omega) hk
          exact go_d h0
      · rw [g1, g2, if_neg (by decide)]
        exact ih n (ks + 1) _ t (by omega) (by omega) g3 (go_dd g1) (ko_t hX g4)
theorem fault_A (a b c : Int32) {k E : Nat} {X : xS} (hk : k < 3) (hk1 : 1 ≤ k) (hE : E ≤ 50) (h9 : X 9 1 = nI E) (hb : ∀ j, j < E → ∃ w, w < 256 ∧ X 10 j = nI w) : ((( rn a b c (k - 1) (bl (X 10) E 0) (DU [] [] 0)).2 = none ∧ (x3_faultOf X k).1 = nI (E - (rn a b c (k - 1) (bl (X 10) E 0) (DU [] [] 0)).1)) ∨ ∃ nc, nc ≤ 50 ∧ (x3_faultOf X k).2 38 1 = nI nc ∧ (x3_faultOf X k).1 = -1 ∧ rn a b c (k - 1) (bl (X 10) E 0) (DU [] [] 0) = (0, some (btm (cdE a b c ((x3_faultOf X k).2 39) nc)))) ∧ dN (x3_faultOf X k).2 ∧ ∀ p, p < 37 ∨ 42 ≤ p → (x3_faultOf X k).2 p = X p := by
  have e : x3_faultOf X k = x3_faultOf_L36 (fun (ksx : Nat) (X36x : xS) => (lt (x3_endNumber X36x) fun (X65 : xS) => (if (X65 37 6) = 0 then (if (X65 37 3) ≤ 0 then (lt (x3_putDownFrom X65 1) fun (X89 : xS) => ((-1), X89)) else ((X65 9 1), X65)) else ((X65 9 1), X65)))) (vn (X 9 1) + 1) 0 (fo_0 X k) := by
    unfold x3_faultOf fo_0
    simp only [lt_i]
  rw [e, h9, vn_nI (by omega)]
  have h0 : fo_0 X k 37 2 = nI k ∧ fo_0 X k 37 3 = 0 ∧ fo_0 X k 37 5 = 0 ∧ fo_0 X k 37 6 = 1 ∧ fo_0 X k 38 1 = 0 ∧ fo_0 X k 40 1 = 0 := by
    unfold fo_0 x4_clear
    simp only [lt_i]
    refine ⟨?_, ?_, ?_, ?_, ?_, ?_⟩
    · rw [mU_ne (by decide), mU_ne (by decide), mU_ne (by decide), mU_row (by decide), mU_row (by decide), mU_eq]
    · rw [mU_ne (by decide), mU_ne (by decide), mU_eq]
    · rw [mU_ne (by decide), mU_eq]
    · rw [mU_eq]
    · rw [mU_row (by decide), mU_row (by decide), mU_row (by decide), mU_row (by decide), mU_eq]
    · rw [mU_row (by decide), mU_row (by decide), mU_row (by decide), mU_eq]
  have hX : ∀ p, p < 37 ∨ 42 ≤ p → fo_0 X k p = X p := fun p hp => fo_9 X k p hp
  have hR : XR a b c k 0 (fo_0 X k) (DU [] [] 0) := ⟨⟨0, ⟨0, 0, h0.2.2.2.2.1, h0.2.2.2.2.2, Nat.le_refl _, rfl, rfl⟩, Nat.le_refl _⟩, h0.1, ⟨h0.2.1, rfl⟩, ⟨h0.2.2.1, Nat.zero_le _⟩, fun w => absurd rfl w, h0.2.2.2.1⟩
  have h9' : fo_0 X k 9 1 = nI E := by rw [hX 9 (by decide)]; exact h9
  have hb' : ∀ j, j < E → ∃ w, w < 256 ∧ fo_0 X k 10 j = nI w := by rw [hX 10 (by decide)]; exact hb
  have q := foL (a := a) (b := b) (c := c) (X := fo_0 X k) hk hk1 hE h9' hb' (fun ks Y s g1 g2 => foK hk hE h9' g1 g2) (E + 1) E 0 (fo_0 X k) (DU [] [] 0) (Nat.lt_succ_self _) (Nat.zero_add _) hR (fun w => absurd rfl w) (ko_r _)
  rw [hX 10 (by decide)] at q
  exact ⟨q.1, q.2.1, fun p hp => (q.2.2.2 p hp).trans (hX p hp)⟩
theorem btm_l (V : Nat → Int32) : ∀ n, btm (sgL V (n + 1)) = V 0 := by
  intro n
  induction n with
  | zero => rfl
  | succ n ih => exact ih
/-- a text worked out: its code, number by number -/
theorem vf_cd (tt : tT) (ti : Nat) (a b c : Int32) (hn : tt.2.2.2.2.1 ti < 2 ^ 31) : ∀ (f ki ks : Nat) (V : sS), ks ≤ ki → ki ≤ tt.2.2.2.2.1 ti → tt.2.2.2.2.1 ti < ki + f → sgL V ks = cdE a b c (tt.2.2.2.2.2 ti) ki → sgL (x6_valueFor_L6 tt ti a b c f ki ks V).2.2 (x6_valueFor_L6 tt ti a b c f ki ks V).2.1 = cdE a b c (tt.2.2.2.2.2 ti) (tt.2.2.2.2.1 ti) := by
  intro f
  induction f with
  | zero => intro ki ks V h1 h2 h3; exact absurd h3 (by omega)
  | succ f ih =>
    intro ki ks V h1 h2 h3 h
    rw [vf_step]
    by_cases c0 : nI (tt.2.2.2.2.1 ti) ≤ nI ki
    · rw [if_pos c0]
      rw [nI_leI hn (by omega)] at c0
      have e : ki = tt.2.2.2.2.1 ti := by omega
      rw [← e]; exact h
    · rw [if_neg c0]
      rw [nI_leI hn (by omega)] at c0
      have hstep : (tS tt ti a b c ki ks V).1 ≤ ki + 1 ∧ sgL (tS tt ti a b c ki ks V).2 (tS tt ti a b c ki ks V).1 = es a b c (tt.2.2.2.2.2 ti ki) (sgL V ks) := by
        unfold tS es
        generalize tt.2.2.2.2.2 ti ki = x
        by_cases c1 : x < -3
        · rw [if_pos c1, if_neg (Int32.not_le.mpr c1)]
          by_cases c2 : x = -33
          · rw [if_pos c2, if_pos c2]
            cases ks with
            | zero => exact ⟨by rw [if_pos (by decide)]; exact Nat.zero_le _, by rw [if_pos (by decide)]; rfl⟩
            | succ j =>
              have c3 : ¬ nI (j + 1) ≤ 0 := by rw [nz (by omega)]; omega
              rw [if_neg c3]
              refine ⟨by show j + 1 ≤ ki + 1; omega, ?_⟩
              show upd V (j + 1 - 1) _ j :: sgL (upd V (j + 1 - 1) _) j = _
              rw [show j + 1 - 1 = j by omega, pk_us, sgL_up _ _ _ _ (Nat.le_refl _)]
              rfl
          · rw [if_neg c2, if_neg c2]
            cases ks with
            | zero => exact ⟨by rw [if_pos (by decide)]; exact Nat.zero_le _, by rw [if_pos (by decide)]; rfl⟩
            | succ j =>
              cases j with
              | zero => exact ⟨by rw [if_pos (by decide)]; show 1 ≤ ki + 1; omega, by rw [if_pos (by decide)]; rfl⟩
              | succ j =>
                have c3 : ¬ nI (j + 1 + 1) ≤ 1 := by rw [show (1 : Int32) = nI 1 from rfl, nI_leI (by omega) (by decide)]; omega
                rw [if_neg c3]
                refine ⟨by show j + 1 + 1 - 1 ≤ ki + 1; omega, ?_⟩
                show sgL (upd V (j + 1 + 1 - 1 - 1) _) (j + 1 + 1 - 1) = _
                rw [show j + 1 + 1 - 1 = j + 1 by omega, show j + 1 - 1 = j by omega]
                show upd V j _ j :: sgL (upd V j _) j = _
                rw [pk_us, sgL_up _ _ _ _ (Nat.le_refl _)]
                rfl
        · rw [if_neg c1, if_pos (Int32.not_lt.mp c1), if_neg (by rw [nI_leI hn (by omega)]; omega)]
          refine ⟨by show ks + 1 ≤ ki + 1; omega, ?_⟩
          show upd V ks _ ks :: sgL (upd V ks _) ks = _
          rw [pk_us, sgL_up _ _ _ _ (Nat.le_refl _)]
          congr 1
          by_cases c2 : x < 0
          · rw [if_pos c2, if_neg (Int32.not_le.mpr c2)]
          · rw [if_neg c2, if_pos (Int32.not_lt.mp c2)]
      exact ih (ki + 1) _ _ hstep.1 (by omega) (by omega) (by rw [hstep.2, h]; rfl)
theorem tE_cd (tt : tT) (ti : Nat) (a b c : Int32) (hn : tt.2.2.2.2.1 ti < 2 ^ 31) : tE tt ti a b c = btm (cdE a b c (tt.2.2.2.2.2 ti) (tt.2.2.2.2.1 ti)) := by
  unfold tE x6_valueFor
  rw [lt3_i, ← vf_cd tt ti a b c hn (tt.2.2.2.2.1 ti + 1) 0 0 (fun _ => 0) (Nat.le_refl _) (Nat.zero_le _) (by omega) rfl]
  have hl := vf_leL tt ti a b c hn (tt.2.2.2.2.1 ti + 1) 0 0 (fun _ => 0) (Nat.zero_le _)
  generalize x6_valueFor_L6 tt ti a b c (tt.2.2.2.2.1 ti + 1) 0 0 (fun _ => 0) = q at hl ⊢
  obtain ⟨ki, ks, V⟩ := q
  show (if nI ks ≤ 0 then 0 else V 0) = btm (sgL V ks)
  have hl' : ks ≤ tt.2.2.2.2.1 ti := hl
  cases ks with
  | zero => rfl
  | succ j => rw [if_neg (by rw [nz (by omega)]; omega), btm_l]
