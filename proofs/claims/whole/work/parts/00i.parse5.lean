/-! the class's reader: a byte, a text -/
theorem cn_AF (a b c : Int32) : ∀ (sg Vs : List Int32) (op : Nat), cnA a b c Vs sg op z0 = AF (cnA a b c Vs sg op z0).1 (cnA a b c Vs sg op z0).2.1 (cnA a b c Vs sg op z0).2.2.1 := by
  intro sg
  induction sg with
  | nil => intro Vs op; rfl
  | cons s t ih =>
    intro Vs op
    have e : cnA a b c Vs (s :: t) op z0 = if s = 33 then cnA a b c (es a b c (-33) Vs) t (op - 1) z0 else (Vs, s :: t, op, 0, 0, false) := rfl
    by_cases h : s = 33
    · rw [if_pos h] at e
      rw [e]; exact ih _ _
    · rw [if_neg h] at e
      rw [e]; rfl
/-- the class's reader stands as the automaton does, n bytes being read -/
def XR (a b c : Int32) (k n : Nat) (X : xS) (s : aS) : Prop := (∃ m, XC a b c m X s.1 s.2.1 ∧ m + (if s.2.2.2.2.1 = 0 then 0 else 1) ≤ n) ∧ X 37 2 = nI k ∧ (X 37 3 = nI s.2.2.1 ∧ s.2.2.1 = opn s.2.1) ∧ (X 37 5 = nI s.2.2.2.2.1 ∧ s.2.2.2.2.1 ≤ 4) ∧ (s.2.2.2.2.1 ≠ 0 → X 37 4 = s.2.2.2.1) ∧ X 37 6 = (if s.2.2.2.2.2 = true then 1 else 0)
/-- nothing but the reader's own has changed -/
def ko (X Y : xS) : Prop := Y 37 2 = X 37 2 ∧ ∀ p, p < 37 ∨ 42 ≤ p → Y p = X p
theorem ko_r (X : xS) : ko X X := ⟨rfl, fun _ _ => rfl⟩
theorem ko_t {X Y Z : xS} (h : ko X Y) (g : ko Y Z) : ko X Z := ⟨g.1.trans h.1, fun p hp => (g.2 p hp).trans (h.2 p hp)⟩
theorem ko_kp {q : Nat} {X Y : xS} (h : kp q X Y) (hq : q ≠ 2) : ko X Y := ⟨h.1 2 (fun e => hq e.symm), h.2⟩
theorem etX {a b c : Int32} {n k : Nat} {X : xS} {Vs sg : List Int32} (v : Int32) (hn : n < 50) (h : XC a b c n X Vs sg) (h2 : X 37 2 = nI k) (h3 : X 37 3 = nI (opn sg)) (h5 : X 37 5 = nI 0) : XR a b c k (n + 1) (x3_endTerm X v) (cnA a b c (es a b c v Vs) sg (opn sg) z0) ∧ ko X (x3_endTerm X v) := by
  unfold x3_endTerm
  simp only [lt_i]
  have k1 : XC a b c (n + 1) (mU (x4_add X 38 v) 37 6 0) (es a b c v Vs) sg := XC_fd (XC_add v h hn)
  have hr : ∀ j, x4_add X 38 v 37 j = X 37 j := fun j => by rw [ad_row _ _ _ _ (by decide) (by decide)]
  obtain ⟨q1, q2, q3, q4⟩ := cnX (by omega) k1 (by rw [mU_ne (by decide), hr]; exact h3)
  have e := cn_AF a b c sg (es a b c v Vs) (opn sg)
  refine ⟨⟨⟨n + 1, q1, ?_⟩, ?_, ⟨q2, q3⟩, ⟨?_, ?_⟩, ?_, ?_⟩, ?_⟩
  · rw [e]; exact Nat.le_refl _
  · rw [q4.1 2 (by decide), mU_ne (by decide), hr]; exact h2
  · rw [q4.1 5 (by decide), mU_ne (by decide), hr, e]; exact h5
  · rw [e]; exact Nat.zero_le _
  · intro w; rw [e] at w; exact absurd rfl w
  · rw [q4.1 6 (by decide), mU_eq, e]; rfl
  · refine ko_t (ko_t (ko_kp (q := 7) (kp_add (Or.inl rfl)) (by decide)) (ko_kp (q := 6) kp_f (by decide))) (ko_kp q4 (by decide))
theorem ntX {a b c : Int32} {n k : Nat} {X : xS} {s : aS} (hn : n ≤ 50) (h : XR a b c k n X s) : XR a b c k n (x3_endNumber X) (ntA a b c s) ∧ (ntA a b c s).2.2.2.2.1 = 0 ∧ ko X (x3_endNumber X) := by
  obtain ⟨⟨m, h1, h1'⟩, h2, ⟨h3, h3'⟩, ⟨h5, h5'⟩, h4, h6⟩ := h
  unfold x3_endNumber ntA
  simp only [lt_i]
  by_cases e : s.2.2.2.2.1 = 0
  · rw [if_pos (show X 37 5 ≤ 0 by rw [h5, nz (by omega)]; exact e), if_pos e]
    exact ⟨⟨⟨m, h1, h1'⟩, h2, ⟨h3, h3'⟩, ⟨h5, h5'⟩, h4, h6⟩, e, ko_r _⟩
  · rw [if_neg (show ¬ X 37 5 ≤ 0 by rw [h5, nz (by omega)]; exact e), if_neg e]
    rw [if_neg e] at h1'
    have k0 : XC a b c m (mU X 37 5 0) s.1 s.2.1 := XC_fd h1
    have r4 : mU X 37 5 0 37 4 = s.2.2.2.1 := by rw [mU_ne (by decide)]; exact h4 e
    rw [r4]
    obtain ⟨q1, q2⟩ := etX (k := k) s.2.2.2.1 (by omega) k0 (by rw [mU_ne (by decide)]; exact h2) (by rw [mU_ne (by decide), h3, h3']) mU_eq
    rw [h3']
    refine ⟨?_, by rw [cn_AF]; rfl, ko_t (ko_kp (q := 5) kp_f (by decide)) q2⟩
    obtain ⟨⟨m2, w1, w2⟩, w⟩ := q1
    exact ⟨⟨m2, w1, by omega⟩, w⟩
theorem nm_ix : ∀ k, k < 3 → 1 ≤ k → ∀ w, w < 256 → (nmA (k - 1) (nI w) = 0 ∧ pJ_indexOf_0f7a4 k (((nI w).toUInt32 % 65536).toInt32) < 0) ∨ (¬ nmA (k - 1) (nI w) = 0 ∧ 0 ≤ pJ_indexOf_0f7a4 k (((nI w).toUInt32 % 65536).toInt32) ∧ (-1) - pJ_indexOf_0f7a4 k (((nI w).toUInt32 % 65536).toInt32) = nmA (k - 1) (nI w)) := by decide +kernel
theorem tmX {a b c : Int32} {n k w : Nat} {X : xS} {Vs sg : List Int32} (hk : k < 3) (hk1 : 1 ≤ k) (hw : w < 256) (hn : n < 50) (h : XC a b c n X Vs sg) (h2 : X 37 2 = nI k) (h3 : X 37 3 = nI (opn sg)) (h5 : X 37 5 = nI 0) (h6 : X 37 6 = 1) :
    (tmA a b c (k - 1) (nI w) Vs sg (opn sg) = none ∧ (x3_takeTerm X (nI w)).1 = 0 ∧ ko X (x3_takeTerm X (nI w)).2) ∨ ∃ s, tmA a b c (k - 1) (nI w) Vs sg (opn sg) = some s ∧ (x3_takeTerm X (nI w)).1 = 1 ∧ XR a b c k (n + 1) (x3_takeTerm X (nI w)).2 s ∧ ko X (x3_takeTerm X (nI w)).2 := by
  have ho := opn_le sg
  have hl := (XC_ns h (by omega)).2.1
  have hbr : ∀ ch : Int32, ch = 33 ∨ ch = 40 → ((if opn sg < 5 then some (Vs, ch :: sg, opn sg + 1, (0 : Int32), 0, true) else none) = (none : Option aS) ∧ (if (X 37 3) < 5 then (lt (mU X 37 3 ((X 37 3) + 1)) fun (X29 : xS) => lt (x4_add X29 40 ch) fun (X37 : xS) => ((1 : Int32), X37)) else (0, X)).1 = 0 ∧ ko X (if (X 37 3) < 5 then (lt (mU X 37 3 ((X 37 3) + 1)) fun (X29 : xS) => lt (x4_add X29 40 ch) fun (X37 : xS) => ((1 : Int32), X37)) else (0, X)).2) ∨ ∃ s, (if opn sg < 5 then some (Vs, ch :: sg, opn sg + 1, (0 : Int32), 0, true) else none) = some s ∧ (if (X 37 3) < 5 then (lt (mU X 37 3 ((X 37 3) + 1)) fun (X29 : xS) => lt (x4_add X29 40 ch) fun (X37 : xS) => ((1 : Int32), X37)) else (0, X)).1 = 1 ∧ XR a b c k (n + 1) (if (X 37 3) < 5 then (lt (mU X 37 3 ((X 37 3) + 1)) fun (X29 : xS) => lt (x4_add X29 40 ch) fun (X37 : xS) => ((1 : Int32), X37)) else (0, X)).2 s ∧ ko X (if (X 37 3) < 5 then (lt (mU X 37 3 ((X 37 3) + 1)) fun (X29 : xS) => lt (x4_add X29 40 ch) fun (X37 : xS) => ((1 : Int32), X37)) else (0, X)).2 := by
    intro ch hc
    simp only [lt_i]
    by_cases e : opn sg < 5
    · rw [if_pos e, if_pos (show X 37 3 < 5 by rw [h3, show (5 : Int32) = nI 5 from rfl, nI_ltI (by omega) (by decide)]; exact e)]
      refine Or.inr ⟨_, rfl, rfl, ⟨⟨n + 1, XC_psh ch (XC_fd h) hn, Nat.le_refl _⟩, ?_, ⟨?_, ?_⟩, ⟨?_, Nat.zero_le _⟩, fun w => absurd rfl w, ?_⟩, ?_⟩
      · show x4_add _ 40 ch 37 2 = _
        rw [ad_row _ _ _ _ (by decide) (by decide), mU_ne (by decide)]; exact h2
      · show x4_add _ 40 ch 37 3 = nI (opn sg + 1)
        rw [ad_row _ _ _ _ (by decide) (by decide), mU_eq, h3, nI_1]
      · show opn sg + 1 = (if ch = 33 ∨ ch = 40 then 1 else 0) + opn sg
        rw [if_pos hc, Nat.add_comm]
      · show x4_add _ 40 ch 37 5 = _
        rw [ad_row _ _ _ _ (by decide) (by decide), mU_ne (by decide)]; exact h5
      · show x4_add _ 40 ch 37 6 = _
        rw [ad_row _ _ _ _ (by decide) (by decide), mU_ne (by decide)]; exact h6
      · exact ko_t (ko_kp (q := 3) kp_f (by decide)) (ko_kp (q := 7) (kp_add (Or.inr rfl)) (by decide))
    · rw [if_neg e, if_neg (show ¬ X 37 3 < 5 by rw [h3, show (5 : Int32) = nI 5 from rfl, nI_ltI (by omega) (by decide)]; exact e)]
      exact Or.inl ⟨rfl, rfl, ko_r _⟩
  unfold tmA x3_takeTerm
  by_cases e1 : nI w = 33
  · rw [if_pos (Or.inl e1), if_pos e1]
    exact hbr _ (Or.inl e1)
  · rw [if_neg e1]
    by_cases e2 : nI w = 40
    · rw [if_pos (Or.inr e2), if_pos e2]
      exact hbr _ (Or.inr e2)
    · rw [if_neg e2, if_neg (fun e => e.elim e1 e2)]
      simp only [lt_i]
      rw [h2, vn_nI (by omega)]
      rcases nm_ix k hk hk1 w hw with ⟨g1, g2⟩ | ⟨g1, g2, g3⟩
      · rw [if_pos g1, if_neg (Int32.not_le.mpr g2)]
        exact Or.inl ⟨rfl, rfl, ko_r _⟩
      · rw [if_neg g1, if_pos g2, g3]
        obtain ⟨q1, q2⟩ := etX (k := k) (nmA (k - 1) (nI w)) hn h h2 h3 h5
        exact Or.inr ⟨_, rfl, rfl, q1, q2⟩
theorem cbX {a b c : Int32} {n k : Nat} {X : xS} {Vs sg : List Int32} (hn : n ≤ 50) (h : XC a b c n X Vs sg) (h2 : X 37 2 = nI k) (h3 : X 37 3 = nI (opn sg)) (h5 : X 37 5 = nI 0) (h6 : X 37 6 = 0) :
    (cbA a b c (opn sg) (pdA a b c 1 Vs sg).1 (pdA a b c 1 Vs sg).2 = none ∧ (x3_closeBracket X).1 = 0 ∧ ko X (x3_closeBracket X).2) ∨ ∃ s, cbA a b c (opn sg) (pdA a b c 1 Vs sg).1 (pdA a b c 1 Vs sg).2 = some s ∧ (x3_closeBracket X).1 = 1 ∧ XR a b c k n (x3_closeBracket X).2 s ∧ ko X (x3_closeBracket X).2 := by
  obtain ⟨p1, p2, p3⟩ := pdX (r := 1) hn (by decide) (by decide) h
  unfold x3_closeBracket
  simp only [lt_i, lt2_i]
  rw [show (1 : Int32) = nI 1 from rfl]
  rw [← p2] at h3 ⊢
  have r2 := p3.1 2 (by decide)
  have r3 := p3.1 3 (by decide)
  have r5 := p3.1 5 (by decide)
  have r6 := p3.1 6 (by decide)
  have kk := ko_kp p3 (by decide)
  generalize x3_putDownFrom X (nI 1) = Y at p1 p3 r2 r3 r5 r6 kk ⊢
  generalize pdA a b c 1 Vs sg = q at p1 h3 ⊢
  obtain ⟨Vs2, sg2⟩ := q
  cases sg2 with
  | nil =>
    have hl : ¬ x4_last Y 40 = 40 := by
      rw [last_e (show rcap 40 = 50 from rfl) (Nat.le_refl _) (XC_nil p1) (by decide), if_pos rfl]; decide
    rw [if_neg hl]
    exact Or.inl ⟨rfl, rfl, kk⟩
  | cons s sg2 =>
    obtain ⟨w0, w1, w2, w3⟩ := XC_pop p1 hn
    have e9 : cbA a b c (opn (s :: sg2)) Vs2 (s :: sg2) = if s = 40 then some (cnA a b c Vs2 sg2 (opn (s :: sg2) - 1) z0) else none := rfl
    show (cbA a b c (opn (s :: sg2)) Vs2 (s :: sg2) = none ∧ _) ∨ ∃ t, cbA a b c (opn (s :: sg2)) Vs2 (s :: sg2) = some t ∧ _
    rw [e9, w1]
    by_cases e : s = 40
    · have ho : opn (s :: sg2) = opn sg2 + 1 := by
        show (if s = 33 ∨ s = 40 then 1 else 0) + opn sg2 = _
        rw [if_pos (Or.inr e), Nat.add_comm]
      rw [if_pos e, if_pos e]
      have k2 : XC a b c n (mU (x4_removeLast Y 40).2 37 3 ((x4_removeLast Y 40).2 37 3 - 1)) Vs2 sg2 := XC_fd (XC_le w3 (by omega))
      have hr : ∀ j, (x4_removeLast Y 40).2 37 j = Y 37 j := fun j => by rw [rl_row _ _ _ (by decide)]
      have e3 : (x4_removeLast Y 40).2 37 3 - 1 = nI (opn sg2) := by
        rw [hr, r3, h3]
        show nI (opn (s :: sg2)) - 1 = _
        rw [ho, show (1 : Int32) = nI 1 from rfl, pk_sub (by omega)]; rfl
      rw [e3] at k2
      obtain ⟨q1, q2, q3, q4⟩ := cnX hn k2 mU_eq
      have e4 := cn_AF a b c sg2 Vs2 (opn sg2)
      rw [ho, show opn sg2 + 1 - 1 = opn sg2 by omega]
      refine Or.inr ⟨_, rfl, rfl, ?_, ?_⟩
      · show XR a b c k n (x3_closeNots (mU (x4_removeLast Y 40).2 37 3 ((x4_removeLast Y 40).2 37 3 - 1))) _
        rw [e3]
        refine ⟨⟨n, q1, by rw [e4]; exact Nat.le_refl _⟩, ?_, ⟨q2, q3⟩, ⟨?_, by rw [e4]; exact Nat.zero_le _⟩, fun w => by rw [e4] at w; exact absurd rfl w, ?_⟩
        · rw [q4.1 2 (by decide), mU_ne (by decide), hr, r2]; exact h2
        · rw [q4.1 5 (by decide), mU_ne (by decide), hr, r5, e4]; exact h5
        · rw [q4.1 6 (by decide), mU_ne (by decide), hr, r6, e4]; exact h6
      · show ko X (x3_closeNots (mU (x4_removeLast Y 40).2 37 3 ((x4_removeLast Y 40).2 37 3 - 1)))
        rw [e3]
        exact ko_t kk (ko_t (ko_t (ko_kp (q := 7) kp_rml (by decide)) (ko_kp (q := 3) kp_f (by decide))) (ko_kp q4 (by decide)))
    · rw [if_neg e, if_neg e]
      exact Or.inl ⟨rfl, rfl, kk⟩
theorem hd_l {a b c : Int32} {n : Nat} {X : xS} {Vs sg : List Int32} (hn : n ≤ 50) (h : XC a b c n X Vs sg) : p3_rankOf (x4_last X 40) = nI (hdk sg) := by
  cases sg with
  | nil => rw [last_e (show rcap 40 = 50 from rfl) (Nat.le_refl _) (XC_nil h) (by decide), if_pos rfl]; decide
  | cons s t => rw [(XC_pop h hn).2.1, rk_p3]; rfl
theorem tsX {a b c : Int32} {n k : Nat} {ch : Int32} {X : xS} {Vs sg : List Int32} (hn : n < 50) (h : XC a b c n X Vs sg) (h2 : X 37 2 = nI k) (h3 : X 37 3 = nI (opn sg)) (h5 : X 37 5 = nI 0) (h6 : X 37 6 = 0) :
    (tsA a b c ch Vs sg (opn sg) = none ∧ (x3_takeSign X ch).1 = 0 ∧ ko X (x3_takeSign X ch).2) ∨ ∃ s, tsA a b c ch Vs sg (opn sg) = some s ∧ (x3_takeSign X ch).1 = 1 ∧ XR a b c k (n + 1) (x3_takeSign X ch).2 s ∧ ko X (x3_takeSign X ch).2 := by
  have hk5 := rk_le ch
  unfold tsA x3_takeSign
  simp only [lt_i, lt2_i]
  by_cases e41 : ch = 41
  · rw [if_pos e41, if_pos e41]
    rcases cbX (k := k) (by omega) h h2 h3 h5 h6 with ⟨g1, g2, g3⟩ | ⟨s, g1, g2, ⟨⟨m, w1, w2⟩, w⟩, g4⟩
    · exact Or.inl ⟨g1, g2, g3⟩
    · exact Or.inr ⟨s, g1, g2, ⟨⟨m, w1, by omega⟩, w⟩, g4⟩
  · rw [if_neg e41, if_neg e41, rk_p3]
    by_cases e0 : rk ch = 0
    · rw [if_pos e0, if_pos (show nI (rk ch) = 0 by rw [e0]; rfl)]
      exact Or.inl ⟨rfl, rfl, ko_r _⟩
    · rw [if_neg e0, if_neg (show ¬ nI (rk ch) = 0 by rw [show (0 : Int32) = nI 0 from rfl, nI_eq (by omega) (by decide)]; exact e0)]
      have e3 : (nI (rk ch) = 3) ↔ rk ch = 3 := by rw [show (3 : Int32) = nI 3 from rfl, nI_eq (by omega) (by decide)]
      have hpush : ∀ Y Vs2 sg2, XC a b c n Y Vs2 sg2 → opn sg2 = opn sg → kp 7 X Y → XR a b c k (n + 1) (mU (x4_add Y 40 ch) 37 6 1) (Vs2, ch :: sg2, opn sg, 0, 0, true) ∧ ko X (mU (x4_add Y 40 ch) 37 6 1) := by
        intro Y Vs2 sg2 g1 g2 g3
        have hr : ∀ j, x4_add Y 40 ch 37 j = Y 37 j := fun j => by rw [ad_row _ _ _ _ (by decide) (by decide)]
        refine ⟨⟨⟨n + 1, XC_fd (XC_psh ch g1 hn), Nat.le_refl _⟩, ?_, ⟨?_, ?_⟩, ⟨?_, Nat.zero_le _⟩, fun w => absurd rfl w, ?_⟩, ?_⟩
        · rw [mU_ne (by decide), hr, g3.1 2 (by decide)]; exact h2
        · rw [mU_ne (by decide), hr, g3.1 3 (by decide)]; exact h3
        · show opn sg = (if ch = 33 ∨ ch = 40 then 1 else 0) + opn sg2
          rw [if_neg, Nat.zero_add, g2]
          rintro (w | w)
          · exact (dg_rk (ch := ch) (by omega)).2.2 w
          · rw [w] at e0; exact e0 (by decide)
        · rw [mU_ne (by decide), hr, g3.1 5 (by decide)]; exact h5
        · rw [mU_eq]; rfl
        · exact ko_t (ko_kp g3 (by decide)) (ko_t (ko_kp (q := 7) (kp_add (Or.inr rfl)) (by decide)) (ko_kp (q := 6) kp_f (by decide)))
      by_cases e : rk ch = 3
      · have e' := e3.mpr e
        rw [if_pos e', if_pos e', if_pos e, show nI (rk ch) + 1 = nI 4 by rw [e]; rfl]
        obtain ⟨p1, p2, p3⟩ := pdX (r := 4) (by omega) (by decide) (by decide) h
        rw [hd_l (by omega) p1]
        have hh : hdk (pdA a b c 4 Vs sg).2 ≤ 5 := by
          cases (pdA a b c 4 Vs sg).2 with
          | nil => exact Nat.zero_le _
          | cons s t => exact rk_le s
        by_cases e4 : hdk (pdA a b c 4 Vs sg).2 = 3
        · rw [if_pos ⟨e, e4⟩, if_pos (by rw [e4, e])]
          exact Or.inl ⟨rfl, rfl, ko_kp p3 (by decide)⟩
        · rw [if_neg (fun w => e4 w.2), if_neg (by rw [nI_eq (by omega) (by omega), e]; exact e4)]
          obtain ⟨q1, q2⟩ := hpush _ _ _ p1 p2 p3
          exact Or.inr ⟨_, rfl, rfl, q1, q2⟩
      · have e' : ¬ nI (rk ch) = 3 := fun w => e (e3.mp w)
        rw [if_neg e', if_neg e', if_neg e, if_neg (fun w => e w.1)]
        obtain ⟨p1, p2, p3⟩ := pdX (r := rk ch) (by omega) (by omega) hk5 h
        obtain ⟨q1, q2⟩ := hpush _ _ _ p1 p2 p3
        exact Or.inr ⟨_, rfl, rfl, q1, q2⟩
