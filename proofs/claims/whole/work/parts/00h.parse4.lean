/-! the class's reader against the automaton -/
/-- what the code's first n numbers make, worked out -/
def cdE (a b c : Int32) (r : Nat → Int32) : Nat → List Int32
  | 0 => []
  | n + 1 => es a b c (r n) (cdE a b c r n)
def sgL (r : Nat → Int32) : Nat → List Int32
  | 0 => []
  | n + 1 => r n :: sgL r n
theorem cdE_up (a b c : Int32) (r : Nat → Int32) (v : Int32) (j : Nat) : ∀ n, n ≤ j → cdE a b c (upd r j v) n = cdE a b c r n := by
  intro n
  induction n with
  | zero => intro _; rfl
  | succ n ih =>
    intro h
    show es a b c (upd r j v n) (cdE a b c (upd r j v) n) = _
    rw [ih (by omega), pk_un (by omega)]
    rfl
theorem sgL_up (r : Nat → Int32) (v : Int32) (j : Nat) : ∀ n, n ≤ j → sgL (upd r j v) n = sgL r n := by
  intro n
  induction n with
  | zero => intro _; rfl
  | succ n ih =>
    intro h
    show upd r j v n :: sgL (upd r j v) n = _
    rw [ih (by omega), pk_un (by omega)]
    rfl
theorem sgL_len (r : Nat → Int32) : ∀ n, (sgL r n).length = n := by
  intro n
  induction n with
  | zero => rfl
  | succ n ih => show (sgL r n).length + 1 = _; rw [ih]
theorem add_e {X : xS} {p n cap : Nat} {v : Int32} (hcap : rcap p = cap) (hc : cap ≤ 50) (h : X p 1 = nI n) (hn : n < cap) : x4_add X p v = mU (mU X (p + 1) n v) p 1 (nI (n + 1)) := by
  unfold x4_add
  simp only [lt_i]
  rw [hcap, h, if_neg (by rw [nI_leI (by omega) (by omega)]; omega), vn_nI (by omega), mU_row (show p ≠ p + 1 by omega), h, nI_1]
theorem last_e {X : xS} {p n cap : Nat} (hcap : rcap p = cap) (hc : cap ≤ 50) (h : X p 1 = nI n) (hn : n ≤ cap) : x4_last X p = if n = 0 then 0 else X (p + 1) (n - 1) := by
  unfold x4_last
  rw [hcap, h, vn_nI (by omega)]
  by_cases h0 : n = 0
  · rw [if_pos h0, if_pos (by rw [h0]; decide)]
  · rw [if_neg h0, if_neg (by rw [show (0 : Int32) = nI 0 from rfl, nI_leI (by omega) (by omega)]; omega), if_neg (by rw [nI_ltI (by omega) (by omega)]; omega)]
theorem rml_e {X : xS} {p n cap : Nat} (hcap : rcap p = cap) (hc : cap ≤ 50) (h : X p 1 = nI (n + 1)) (hn : n + 1 ≤ cap) : x4_removeLast X p = (X (p + 1) n, mU X p 1 (nI n)) := by
  unfold x4_removeLast
  simp only [lt_i]
  rw [last_e hcap hc h hn, if_neg (by omega), h, if_neg (by rw [show (0 : Int32) = nI 0 from rfl, nI_leI (by omega) (by omega)]; omega), show (1 : Int32) = nI 1 from rfl, pk_sub (by omega)]
  rfl
def XC (a b c : Int32) (n : Nat) (X : xS) (Vs sg : List Int32) : Prop := ∃ nc ns, X 38 1 = nI nc ∧ X 40 1 = nI ns ∧ nc + ns ≤ n ∧ Vs = cdE a b c (X 39) nc ∧ sg = sgL (X 41) ns
theorem XC_add {a b c : Int32} {n : Nat} {X : xS} {Vs sg : List Int32} (v : Int32) (h : XC a b c n X Vs sg) (hn : n < 50) : XC a b c (n + 1) (x4_add X 38 v) (es a b c v Vs) sg := by
  obtain ⟨nc, ns, h1, h2, h3, h4, h5⟩ := h
  rw [add_e (show rcap 38 = 50 from rfl) (Nat.le_refl _) h1 (by omega)]
  refine ⟨nc + 1, ns, mU_eq, ?_, by omega, ?_, ?_⟩
  · rw [mU_row (by decide), mU_row (by decide)]; exact h2
  · rw [mU_row (by decide), mU_at, h4]
    show es a b c v _ = es a b c (upd (X 39) nc v nc) (cdE a b c (upd (X 39) nc v) nc)
    rw [pk_us, cdE_up a b c _ _ _ _ (Nat.le_refl _)]
  · rw [mU_row (by decide), mU_row (by decide)]; exact h5
theorem XC_psh {a b c : Int32} {n : Nat} {X : xS} {Vs sg : List Int32} (v : Int32) (h : XC a b c n X Vs sg) (hn : n < 50) : XC a b c (n + 1) (x4_add X 40 v) Vs (v :: sg) := by
  obtain ⟨nc, ns, h1, h2, h3, h4, h5⟩ := h
  rw [add_e (show rcap 40 = 50 from rfl) (Nat.le_refl _) h2 (by omega)]
  refine ⟨nc, ns + 1, ?_, mU_eq, by omega, ?_, ?_⟩
  · rw [mU_row (by decide), mU_row (by decide)]; exact h1
  · rw [mU_row (by decide), mU_row (by decide)]; exact h4
  · rw [mU_row (by decide), mU_at, h5]
    show v :: _ = upd (X 41) ns v ns :: sgL (upd (X 41) ns v) ns
    rw [pk_us, sgL_up _ _ _ _ (Nat.le_refl _)]
theorem XC_pop {a b c : Int32} {n : Nat} {X : xS} {Vs sg : List Int32} {s : Int32} (h : XC a b c n X Vs (s :: sg)) (hn : n ≤ 50) : 1 ≤ n ∧ x4_last X 40 = s ∧ (x4_removeLast X 40).1 = s ∧ XC a b c (n - 1) (x4_removeLast X 40).2 Vs sg := by
  obtain ⟨nc, ns, h1, h2, h3, h4, h5⟩ := h
  cases ns with
  | zero => cases h5
  | succ ns =>
    have h6 : s = X 41 ns ∧ sg = sgL (X 41) ns := by cases h5; exact ⟨rfl, rfl⟩
    rw [rml_e (show rcap 40 = 50 from rfl) (Nat.le_refl _) h2 (by omega), last_e (show rcap 40 = 50 from rfl) (Nat.le_refl _) h2 (by omega), if_neg (by omega)]
    refine ⟨by omega, h6.1.symm, h6.1.symm, nc, ns, ?_, ?_, by omega, ?_, ?_⟩
    · show mU X 40 1 (nI ns) 38 1 = _
      rw [mU_row (by decide)]; exact h1
    · show mU X 40 1 (nI ns) 40 1 = _
      exact mU_eq
    · show _ = cdE a b c (mU X 40 1 (nI ns) 39) nc
      rw [mU_row (by decide)]; exact h4
    · show _ = sgL (mU X 40 1 (nI ns) 41) ns
      rw [mU_row (by decide)]; exact h6.2
theorem XC_nil {a b c : Int32} {n : Nat} {X : xS} {Vs : List Int32} (h : XC a b c n X Vs []) : X 40 1 = nI 0 := by
  obtain ⟨nc, ns, h1, h2, h3, h4, h5⟩ := h
  cases ns with
  | zero => exact h2
  | succ ns => cases h5
theorem XC_ns {a b c : Int32} {n : Nat} {X : xS} {Vs sg : List Int32} (h : XC a b c n X Vs sg) (hn : n ≤ 50) : X 40 1 = nI sg.length ∧ sg.length ≤ 50 ∧ vn (X 40 1) = sg.length := by
  obtain ⟨nc, ns, h1, h2, h3, h4, h5⟩ := h
  rw [h5, sgL_len, h2, vn_nI (by omega)]
  exact ⟨rfl, by omega, rfl⟩
theorem XC_row {a b c : Int32} {n : Nat} {X Y : xS} {Vs sg : List Int32} (h : XC a b c n X Vs sg) (e : ∀ p, 38 ≤ p → p < 42 → Y p = X p) : XC a b c n Y Vs sg := by
  obtain ⟨nc, ns, h1, h2, h3, h4, h5⟩ := h
  refine ⟨nc, ns, ?_, ?_, h3, ?_, ?_⟩
  · rw [e 38 (by decide) (by decide)]; exact h1
  · rw [e 40 (by decide) (by decide)]; exact h2
  · rw [e 39 (by decide) (by decide)]; exact h4
  · rw [e 41 (by decide) (by decide)]; exact h5
theorem XC_fd {a b c : Int32} {n : Nat} {X : xS} {Vs sg : List Int32} {j : Nat} {x : Int32} (h : XC a b c n X Vs sg) : XC a b c n (mU X 37 j x) Vs sg := XC_row h (fun p h1 _ => mU_row (by omega))
theorem XC_le {a b c : Int32} {n m : Nat} {X : xS} {Vs sg : List Int32} (h : XC a b c n X Vs sg) (g : n ≤ m) : XC a b c m X Vs sg := by
  obtain ⟨nc, ns, h1, h2, h3, h4, h5⟩ := h
  exact ⟨nc, ns, h1, h2, by omega, h4, h5⟩
/-- how many of the signs are open -/
def opn : List Int32 → Nat
  | [] => 0
  | s :: r => (if s = 33 ∨ s = 40 then 1 else 0) + opn r
theorem opn_le (sg : List Int32) : opn sg ≤ sg.length := by
  induction sg with
  | nil => exact Nat.le_refl _
  | cons s r ih => show (if _ then 1 else 0) + opn r ≤ r.length + 1; split <;> omega
/-- what an act of the reader leaves alone: all but number q of its own, and its two rows -/
def kp (q : Nat) (X Y : xS) : Prop := (∀ j, j ≠ q → Y 37 j = X 37 j) ∧ ∀ p, p < 37 ∨ 42 ≤ p → Y p = X p
theorem kp_r (q : Nat) (X : xS) : kp q X X := ⟨fun _ _ => rfl, fun _ _ => rfl⟩
theorem kp_t {q : Nat} {X Y Z : xS} (h : kp q X Y) (g : kp q Y Z) : kp q X Z := ⟨fun j hj => (g.1 j hj).trans (h.1 j hj), fun p hp => (g.2 p hp).trans (h.2 p hp)⟩
theorem kp_add {q p : Nat} {X : xS} {v : Int32} (hp : p = 38 ∨ p = 40) : kp q X (x4_add X p v) := by
  refine ⟨fun j _ => ?_, fun r hr => ad_row _ _ _ _ (by omega) (by omega)⟩
  rw [ad_row _ _ _ _ (by omega) (by omega)]
theorem kp_rml {q : Nat} {X : xS} : kp q X (x4_removeLast X 40).2 := by
  refine ⟨fun j _ => ?_, fun r hr => rl_row _ _ _ (by omega)⟩
  rw [rl_row _ _ _ (by decide)]
theorem kp_f {q : Nat} {X : xS} {x : Int32} : kp q X (mU X 37 q x) := ⟨fun j hj => mU_ne hj, fun p hp => mU_row (by omega)⟩
theorem rk_p3 (s : Int32) : p3_rankOf s = nI (rk s) := by
  unfold p3_rankOf rk
  repeat' split
  all_goals first | rfl | contradiction
theorem nz {n : Nat} (h : n < 2 ^ 31) : nI n ≤ 0 ↔ n = 0 := by
  rw [show (0 : Int32) = nI 0 from rfl, nI_leI h (by decide)]; omega
theorem cnX_L {a b c : Int32} {n : Nat} (hn : n ≤ 50) : ∀ (sg Vs : List Int32) (f : Nat) (X : xS), sg.length < f → XC a b c n X Vs sg → X 37 3 = nI (opn sg) →
    XC a b c n (x3_closeNots_L8 f sg.length X).2 (cnA a b c Vs sg (opn sg) z0).1 (cnA a b c Vs sg (opn sg) z0).2.1 ∧ (x3_closeNots_L8 f sg.length X).2 37 3 = nI (cnA a b c Vs sg (opn sg) z0).2.2.1 ∧ (cnA a b c Vs sg (opn sg) z0).2.2.1 = opn (cnA a b c Vs sg (opn sg) z0).2.1 ∧ kp 3 X (x3_closeNots_L8 f sg.length X).2 := by
  intro sg
  induction sg with
  | nil =>
    intro Vs f X hf h h3
    cases f with
    | zero => exact absurd hf (Nat.not_lt_zero _)
    | succ f =>
      rw [x3_closeNots_L8_s, if_pos (by rw [nz (by decide)]; rfl)]
      exact ⟨h, h3, rfl, kp_r _ _⟩
  | cons s sg ih =>
    intro Vs f X hf h h3
    cases f with
    | zero => exact absurd hf (Nat.not_lt_zero _)
    | succ f =>
      have hl := (XC_ns h hn).2.1
      obtain ⟨p0, p1, p2, p3⟩ := XC_pop h hn
      have hlen : (s :: sg).length = sg.length + 1 := rfl
      rw [x3_closeNots_L8_s, if_neg (by rw [nz (by omega), hlen]; omega), p1]
      by_cases e : s = 33
      · subst e
        rw [if_pos rfl]
        simp only [lt_i, lt2_i]
        have hc : cnA a b c Vs (33 :: sg) (opn (33 :: sg)) z0 = cnA a b c (es a b c (-33) Vs) sg (opn sg) z0 := by
          show (if (33 : Int32) = 33 then cnA a b c (es a b c (-33) Vs) sg (opn (33 :: sg) - 1) z0 else (Vs, 33 :: sg, opn (33 :: sg), 0, 0, false)) = _
          rw [if_pos rfl]
          congr 1
          show (if (33 : Int32) = 33 ∨ (33 : Int32) = 40 then 1 else 0) + opn sg - 1 = _
          rw [if_pos (Or.inl rfl)]
          omega
        rw [p2, hc, hlen, show sg.length + 1 - 1 = sg.length by omega]
        have k1 := XC_add (-33) p3 (by omega)
        have k2 : XC a b c n (mU (x4_add (x4_removeLast X 40).2 38 (-33)) 37 3 (x4_add (x4_removeLast X 40).2 38 (-33) 37 3 - 1)) (es a b c (-33) Vs) sg := XC_fd (XC_le k1 (by omega))
        have e3 : x4_add (x4_removeLast X 40).2 38 (-33) 37 3 = nI (opn sg + 1) := by
          rw [ad_row _ _ _ _ (by decide) (by decide), rl_row _ _ _ (by decide), h3]
          show nI ((if (33 : Int32) = 33 ∨ (33 : Int32) = 40 then 1 else 0) + opn sg) = _
          rw [if_pos (Or.inl rfl), Nat.add_comm]
        obtain ⟨q1, q2, q3, q4⟩ := ih _ f _ (by omega) k2 (by rw [mU_eq, e3, show (1 : Int32) = nI 1 from rfl, pk_sub (by omega)]; rfl)
        exact ⟨q1, q2, q3, kp_t (kp_t (kp_t kp_rml (kp_add (Or.inl rfl))) kp_f) q4⟩
      · rw [if_neg e]
        have hc : cnA a b c Vs (s :: sg) (opn (s :: sg)) z0 = AF Vs (s :: sg) (opn (s :: sg)) := by
          show (if s = 33 then _ else _) = _
          rw [if_neg e]
          rfl
        rw [hc]
        exact ⟨h, h3, rfl, kp_r _ _⟩
theorem cnX {a b c : Int32} {n : Nat} {X : xS} {Vs sg : List Int32} (hn : n ≤ 50) (h : XC a b c n X Vs sg) (h3 : X 37 3 = nI (opn sg)) : XC a b c n (x3_closeNots X) (cnA a b c Vs sg (opn sg) z0).1 (cnA a b c Vs sg (opn sg) z0).2.1 ∧ x3_closeNots X 37 3 = nI (cnA a b c Vs sg (opn sg) z0).2.2.1 ∧ (cnA a b c Vs sg (opn sg) z0).2.2.1 = opn (cnA a b c Vs sg (opn sg) z0).2.1 ∧ kp 3 X (x3_closeNots X) := by
  unfold x3_closeNots
  rw [lt2_i, (XC_ns h hn).2.2]
  exact cnX_L hn sg Vs _ X (Nat.lt_succ_self _) h h3
theorem pdX_L {a b c : Int32} {n r : Nat} (hn : n ≤ 50) (hr : 1 ≤ r) (hr5 : r ≤ 5) : ∀ (sg Vs : List Int32) (f : Nat) (X : xS), sg.length < f → XC a b c n X Vs sg →
    XC a b c n (x3_putDownFrom_L8 (nI r) f sg.length X).2 (pdA a b c r Vs sg).1 (pdA a b c r Vs sg).2 ∧ opn (pdA a b c r Vs sg).2 = opn sg ∧ kp 7 X (x3_putDownFrom_L8 (nI r) f sg.length X).2 := by
  intro sg
  induction sg with
  | nil =>
    intro Vs f X hf h
    cases f with
    | zero => exact absurd hf (Nat.not_lt_zero _)
    | succ f =>
      rw [x3_putDownFrom_L8_s, if_pos (by rw [nz (by decide)]; rfl)]
      exact ⟨h, rfl, kp_r _ _⟩
  | cons s sg ih =>
    intro Vs f X hf h
    cases f with
    | zero => exact absurd hf (Nat.not_lt_zero _)
    | succ f =>
      have hl := (XC_ns h hn).2.1
      have hlen : (s :: sg).length = sg.length + 1 := rfl
      obtain ⟨p0, p1, p2, p3⟩ := XC_pop h hn
      have hk := rk_le s
      rw [x3_putDownFrom_L8_s, if_neg (by rw [nz (by omega), hlen]; omega), p1, rk_p3]
      by_cases e : r ≤ rk s
      · rw [if_neg (by rw [nI_ltI (by omega) (by omega)]; omega)]
        simp only [lt_i, lt2_i]
        have hc : pdA a b c r Vs (s :: sg) = pdA a b c r (es a b c (-s) Vs) sg := by
          show (if r ≤ rk s then _ else _) = _
          rw [if_pos e]
        have ho : opn (s :: sg) = opn sg := by
          show (if s = 33 ∨ s = 40 then 1 else 0) + opn sg = _
          rw [if_neg, Nat.zero_add]
          rintro (w | w) <;> rw [w] at e
          · have : rk 33 = 0 := by decide
            omega
          · have : rk 40 = 0 := by decide
            omega
        rw [p2, hc, hlen, show sg.length + 1 - 1 = sg.length by omega, ho]
        obtain ⟨q1, q3, q4⟩ := ih _ f _ (by omega) (XC_le (XC_add (-s) p3 (by omega)) (by omega) : XC a b c n _ _ _)
        exact ⟨q1, q3, kp_t (kp_t kp_rml (kp_add (Or.inl rfl))) q4⟩
      · rw [if_pos (by rw [nI_ltI (by omega) (by omega)]; omega)]
        have hc : pdA a b c r Vs (s :: sg) = (Vs, s :: sg) := by
          show (if r ≤ rk s then _ else _) = _
          rw [if_neg e]
        rw [hc]
        exact ⟨h, rfl, kp_r _ _⟩
theorem pdX {a b c : Int32} {n r : Nat} {X : xS} {Vs sg : List Int32} (hn : n ≤ 50) (hr : 1 ≤ r) (hr5 : r ≤ 5) (h : XC a b c n X Vs sg) : XC a b c n (x3_putDownFrom X (nI r)) (pdA a b c r Vs sg).1 (pdA a b c r Vs sg).2 ∧ opn (pdA a b c r Vs sg).2 = opn sg ∧ kp 7 X (x3_putDownFrom X (nI r)) := by
  unfold x3_putDownFrom
  rw [lt2_i, (XC_ns h hn).2.2]
  exact pdX_L hn hr hr5 sg Vs _ X (Nat.lt_succ_self _) h
