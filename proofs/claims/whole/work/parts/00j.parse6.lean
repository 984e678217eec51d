theorem XR_row {a b c : Int32} {k n : Nat} {X : xS} {s : aS} (h : XR a b c k n X s) (hn : n ≤ 50) : (∃ nc, X 38 1 = nI nc ∧ nc ≤ 50) ∧ (∃ ns, X 40 1 = nI ns ∧ ns ≤ 50) ∧ X 37 2 = nI k := by
  obtain ⟨⟨m, ⟨nc, ns, h1, h2, h3, _⟩, h4⟩, h5, _⟩ := h
  exact ⟨⟨nc, h1, by omega⟩, ⟨ns, h2, by omega⟩, h5⟩
theorem dg1X {a b c : Int32} {k m n op : Nat} {X : xS} {Vs sg : List Int32} (x : Int32) (h1 : XC a b c m X Vs sg) (hm : m ≤ n) (h2 : X 37 2 = nI k) (h3 : X 37 3 = nI op) (h3' : op = opn sg) : XR a b c k (n + 1) (mU (mU (mU X 37 4 x) 37 5 1) 37 6 0) (Vs, sg, op, x, 1, false) ∧ ko X (mU (mU (mU X 37 4 x) 37 5 1) 37 6 0) := by
  refine ⟨⟨⟨m, XC_fd (XC_fd (XC_fd h1)), Nat.succ_le_succ hm⟩, ?_, ⟨?_, h3'⟩, ⟨?_, (by decide : (1 : Nat) ≤ 4)⟩, fun _ => ?_, ?_⟩, ?_⟩
  · rw [mU_ne (by decide), mU_ne (by decide), mU_ne (by decide)]; exact h2
  · rw [mU_ne (by decide), mU_ne (by decide), mU_ne (by decide)]; exact h3
  · rw [mU_ne (by decide), mU_eq]; rfl
  · rw [mU_ne (by decide), mU_ne (by decide), mU_eq]
  · rw [mU_eq]; rfl
  · exact ko_t (ko_t (ko_kp (q := 4) kp_f (by decide)) (ko_kp (q := 5) kp_f (by decide))) (ko_kp (q := 6) kp_f (by decide))
theorem dg2X {a b c : Int32} {k m n op dg : Nat} {X : xS} {Vs sg : List Int32} (x : Int32) (h1 : XC a b c m X Vs sg) (hm : m + 1 ≤ n) (h2 : X 37 2 = nI k) (h3 : X 37 3 = nI op) (h3' : op = opn sg) (h5 : X 37 5 = nI dg) (h5' : dg < 4) (h6 : X 37 6 = 0) : XR a b c k (n + 1) (mU (mU X 37 4 x) 37 5 (mU X 37 4 x 37 5 + 1)) (Vs, sg, op, x, dg + 1, false) ∧ ko X (mU (mU X 37 4 x) 37 5 (mU X 37 4 x 37 5 + 1)) := by
  refine ⟨⟨⟨m, XC_fd (XC_fd h1), ?_⟩, ?_, ⟨?_, h3'⟩, ⟨?_, (h5' : dg + 1 ≤ 4)⟩, fun _ => ?_, ?_⟩, ?_⟩
  · show m + (if dg + 1 = 0 then 0 else 1) ≤ n + 1
    rw [if_neg (by omega)]
    omega
  · rw [mU_ne (by decide), mU_ne (by decide)]; exact h2
  · rw [mU_ne (by decide), mU_ne (by decide)]; exact h3
  · rw [mU_eq, mU_ne (by decide), h5, nI_1]
  · rw [mU_ne (by decide), mU_eq]
  · rw [mU_ne (by decide), mU_ne (by decide)]; exact h6
  · exact ko_t (ko_kp (q := 4) kp_f (by decide)) (ko_kp (q := 5) kp_f (by decide))
theorem goX {a b c : Int32} {n k w : Nat} {X : xS} {s : aS} (hk : k < 3) (hk1 : 1 ≤ k) (hw : w < 256) (hn : n < 50) (hdd : s.2.2.2.2.1 ≠ 0 → s.2.2.2.2.2 = false) (h : XR a b c k n X s) :
    (goA a b c (k - 1) (nI w) s = none ∧ (x3_goesOn X (nI w)).1 = 0 ∧ ko X (x3_goesOn X (nI w)).2) ∨ ∃ t, goA a b c (k - 1) (nI w) s = some t ∧ (x3_goesOn X (nI w)).1 = 1 ∧ XR a b c k (n + 1) (x3_goesOn X (nI w)).2 t ∧ ko X (x3_goesOn X (nI w)).2 := by
  have e0 : x3_goesOn X (nI w) = if sF_isDigit (nI w) = 0 then (if (x3_endNumber X) 37 6 = 0 then x3_takeSign (x3_endNumber X) (nI w) else x3_takeTerm (x3_endNumber X) (nI w)) else x3_takeDigit X (nI w - 48) := by
    unfold x3_goesOn sF_isDigit sF_in
    simp only [lt_i, lt2_i]
    by_cases c1 : nI w < 48
    · rw [if_pos c1, if_pos c1, if_pos rfl]
    · rw [if_neg c1, if_neg c1]
      by_cases c2 : 57 < nI w
      · rw [if_pos c2, if_pos c2, if_pos rfl]
      · rw [if_neg c2, if_neg c2, if_neg (by decide)]
  rw [e0]
  unfold goA
  by_cases hd : sF_isDigit (nI w) = 0
  · rw [if_pos hd, if_pos hd]
    obtain ⟨⟨⟨m, h1, h1'⟩, h2, ⟨h3, h3'⟩, ⟨h5, h5'⟩, h4, h6⟩, hz, kk⟩ := ntX (by omega) h
    generalize ntA a b c s = q at h1 h1' h3 h3' h5 h5' h4 h6 hz ⊢
    obtain ⟨Vs, sg, op, num, dg, due⟩ := q
    have hz' : dg = 0 := hz
    subst hz'
    have h3'' : op = opn sg := h3'
    subst h3''
    have h1'' : m ≤ n := h1'
    have g1 : XC a b c n (x3_endNumber X) Vs sg := XC_le h1 h1''
    show ((if due = true then tmA a b c (k - 1) (nI w) Vs sg (opn sg) else tsA a b c (nI w) Vs sg (opn sg)) = none ∧ _) ∨ ∃ t, (if due = true then tmA a b c (k - 1) (nI w) Vs sg (opn sg) else tsA a b c (nI w) Vs sg (opn sg)) = some t ∧ _
    by_cases hu : due = true
    · have g6 : x3_endNumber X 37 6 = 1 := h6.trans (if_pos hu)
      rw [if_pos hu, if_neg (show ¬ x3_endNumber X 37 6 = 0 by rw [g6]; decide)]
      rcases tmX hk hk1 hw hn g1 h2 h3 h5 g6 with ⟨q1, q2, q3⟩ | ⟨t, q1, q2, q3, q4⟩
      · exact Or.inl ⟨q1, q2, ko_t kk q3⟩
      · exact Or.inr ⟨t, q1, q2, q3, ko_t kk q4⟩
    · have g6 : x3_endNumber X 37 6 = 0 := h6.trans (if_neg hu)
      rw [if_neg hu, if_pos g6]
      rcases tsX (k := k) hn g1 h2 h3 h5 g6 with ⟨q1, q2, q3⟩ | ⟨t, q1, q2, q3, q4⟩
      · exact Or.inl ⟨q1, q2, ko_t kk q3⟩
      · exact Or.inr ⟨t, q1, q2, q3, ko_t kk q4⟩
  · rw [if_neg hd, if_neg hd]
    obtain ⟨⟨m, h1, h1'⟩, h2, ⟨h3, h3'⟩, ⟨h5, h5'⟩, h4, h6⟩ := h
    obtain ⟨Vs, sg, op, num, dg, due⟩ := s
    have g1 : XC a b c m X Vs sg := h1
    have g5 : X 37 5 = nI dg := h5
    have g5' : dg ≤ 4 := h5'
    have g6 : X 37 6 = (if due = true then 1 else 0) := h6
    have g4 : dg ≠ 0 → X 37 4 = num := h4
    have g1' : m + (if dg = 0 then 0 else 1) ≤ n := h1'
    have gd : dg ≠ 0 → due = false := hdd
    have gm : m ≤ n := by split at g1' <;> omega
    clear h1 h5 h5' h6 h4 h1' hdd
    unfold x3_takeDigit
    simp only [lt_i, lt2_i]
    have hnew : ((if due = true then some (Vs, sg, op, nI w - 48, 1, false) else none) = (none : Option aS) ∧ (if X 37 6 = 0 then ((0 : Int32), X) else (1, mU (mU (mU X 37 4 (nI w - 48)) 37 5 1) 37 6 0)).1 = 0 ∧ ko X (if X 37 6 = 0 then ((0 : Int32), X) else (1, mU (mU (mU X 37 4 (nI w - 48)) 37 5 1) 37 6 0)).2) ∨ ∃ t, (if due = true then some (Vs, sg, op, nI w - 48, 1, false) else none) = some t ∧ (if X 37 6 = 0 then ((0 : Int32), X) else (1, mU (mU (mU X 37 4 (nI w - 48)) 37 5 1) 37 6 0)).1 = 1 ∧ XR a b c k (n + 1) (if X 37 6 = 0 then ((0 : Int32), X) else (1, mU (mU (mU X 37 4 (nI w - 48)) 37 5 1) 37 6 0)).2 t ∧ ko X (if X 37 6 = 0 then ((0 : Int32), X) else (1, mU (mU (mU X 37 4 (nI w - 48)) 37 5 1) 37 6 0)).2 := by
      by_cases hu : due = true
      · rw [if_pos hu, if_neg (show ¬ X 37 6 = 0 by rw [g6, if_pos hu]; decide)]
        obtain ⟨q1, q2⟩ := dg1X (n := n) (nI w - 48) g1 gm h2 h3 h3'
        exact Or.inr ⟨_, rfl, rfl, q1, q2⟩
      · rw [if_neg hu, if_pos (show X 37 6 = 0 by rw [g6, if_neg hu])]
        exact Or.inl ⟨rfl, rfl, ko_r _⟩
    show ((if 0 < dg ∧ dg < 4 then some (Vs, sg, op, num * 10 + (nI w - 48), dg + 1, false) else if due = true then some (Vs, sg, op, nI w - 48, 1, false) else none) = (none : Option aS) ∧ _) ∨ ∃ t, (if 0 < dg ∧ dg < 4 then some (Vs, sg, op, num * 10 + (nI w - 48), dg + 1, false) else if due = true then some (Vs, sg, op, nI w - 48, 1, false) else none) = some t ∧ _
    by_cases d0 : dg = 0
    · rw [if_neg (show ¬ (0 < dg ∧ dg < 4) by omega), if_pos (show X 37 5 ≤ 0 by rw [g5, nz (by omega)]; exact d0)]
      exact hnew
    · rw [if_neg (show ¬ X 37 5 ≤ 0 by rw [g5, nz (by omega)]; exact d0)]
      by_cases d4 : dg = 4
      · rw [if_neg (show ¬ (0 < dg ∧ dg < 4) by omega), if_pos (show 4 ≤ X 37 5 by rw [g5, d4]; decide)]
        exact hnew
      · rw [if_pos (show 0 < dg ∧ dg < 4 by omega), if_neg (show ¬ 4 ≤ X 37 5 by rw [g5, show (4 : Int32) = nI 4 from rfl, nI_leI (by omega) (by omega)]; omega), g4 d0]
        rw [if_neg d0] at g1'
        obtain ⟨q1, q2⟩ := dg2X (n := n) (num * 10 + (nI w - 48)) g1 g1' h2 h3 h3' g5 (by omega) (by rw [g6, gd d0]; rfl)
        exact Or.inr ⟨_, rfl, rfl, q1, q2⟩
