/-! acts: what would be -/
theorem th_0 {n : Nat} {tt : tT} {X : xS} {M : mS} (h : INV n tt X M) : eE 8 tt (tkX X 13 1) 13 (mF_moveAll_1_3 M) ∧ rOK (mF_moveAll_1_3 M) ∧ aB 8 (mF_moveAll_1_3 M) := by
  have e1 := mv13_row M 1 (by decide)
  have hR := INV_R h
  refine ⟨?_, rOK_row e1 hR, by unfold aB; rw [mv13_row M 0 (by decide)]; exact h.2.1⟩
  unfold eE
  rw [e1]
  exact eE_tk h.1.1 (eE_n (INV_eE h) hR.2.1)
theorem th_L {ab : Nat} {tt : tT} {Y : xS} {N : mS} (h : eE ab tt Y 13 N ∧ rOK N ∧ aB ab N) {G : Nat → xS} (h0 : G 0 = Y) (hs : ∀ k, G (k + 1) = x0_passHour tt (G k) 13) : ∀ k, eE ab tt (G k) 13 (mF_passes_L2 N k) ∧ rOK (mF_passes_L2 N k) ∧ aB ab (mF_passes_L2 N k) := by
  intro k
  induction k with
  | zero => rw [h0]; exact h
  | succ k ih =>
    rw [hs, mF_passes_L2_s]
    simp only [lt_i]
    exact hour_e ih.1 ih.2.1 ih.2.2
theorem th_o {tt : tT} {Y : xS} {G : Nat → xS} (h0 : G 0 = Y) (hs : ∀ k, G (k + 1) = x0_passHour tt (G k) 13) : ∀ k p, p < 13 ∨ 21 ≤ p → G k p = Y p := by
  intro k
  induction k with
  | zero => intro p _; rw [h0]
  | succ k ih => intro p hp; rw [hs, ph_out tt (by omega)]; exact ih p hp
theorem tko (X : xS) (p : Nat) (hp : p < 13 ∨ 25 ≤ p) : tkX X 13 1 p = X p := tk_out (by omega)
/-- after thinking the reference is back -/
theorem back_c {n : Nat} {tt : tT} {X X2 : xS} {M P : mS} (h : INV n tt X M) (hX : ∀ p, p < 13 ∨ 25 ≤ p → X2 p = X p) (h3 : P 3 = mF_moveAll_1_3 M 3) (hP : ∀ i, i ≠ 1 → i ≠ 3 → i ≠ 6 → P i = M i) : INV n tt X2 (mF_moveAll_3_1 P) := by
  refine INV_c h (fun p _ h2 _ _ _ _ => hX p h2) (fun x hx => ?_) (fun i h1 h3 _ h6 _ _ _ => ?_)
  · rw [mv31_at, if_pos hx, h3, mv13_at, if_pos hx]
  · rw [mv31_row _ i h1]; exact hP i h1 h3 h6
theorem pas_3 (M : mS) (k : Nat) : mF_passes_L2 (mF_moveAll_1_3 M) k 3 = mF_moveAll_1_3 M 3 := pS_row _ k 3 (by decide) (by decide)
theorem pas_i (M : mS) (k i : Nat) (h1 : i ≠ 1) (h3 : i ≠ 3) (h6 : i ≠ 6) : mF_passes_L2 (mF_moveAll_1_3 M) k i = M i := by
  rw [pS_row _ k i h1 h6]; exact mv13_row M i h3
theorem then_e {n : Nat} {tt : tT} {X : xS} {M : mS} (h : INV n tt X M) (v w : Int32) : AL n tt (x8_then tt X v w) (mF_then M v w) := by
  unfold x8_then mF_then
  simp only [lt_i, lt2_p]
  by_cases c1 : sF_in v 0 50 = 0
  · rw [if_pos (show p8_within v 0 50 = 0 from c1), if_pos c1]; exact er1 h
  rw [if_neg (show ¬ p8_within v 0 50 = 0 from c1), if_neg c1, (eN_f (INV_eE h).1).1]
  by_cases c2 : sF_in w (-1) (M 1 3 - 1) = 0
  · rw [if_pos (show p8_within w (-1) (M 1 3 - 1) = 0 from c2), if_pos c2]; exact er1 h
  rw [if_neg (show ¬ p8_within w (-1) (M 1 3 - 1) = 0 from c2), if_neg c2, tk_e (INV_eR h).2.1 (by decide) kE1.1 kE1.2.1, ps_e]
  have hG : ∀ k, x8_then_L46 tt (tkX X 13 1) (k + 1) = x0_passHour tt (x8_then_L46 tt (tkX X 13 1) k) 13 := fun k => by rw [x8_then_L46_s]; simp only [lt_i]
  have hk := th_L (th_0 h) (G := x8_then_L46 tt (tkX X 13 1)) rfl hG (vn v)
  have ho := th_o (Y := tkX X 13 1) (G := x8_then_L46 tt (tkX X 13 1)) rfl hG (vn v)
  have hb := back_c (P := mF_passes_L2 (mF_moveAll_1_3 M) (vn v)) h (X2 := x8_then_L46 tt (tkX X 13 1) (vn v)) (fun p hp => by rw [ho p (by omega)]; exact tko X p hp) (pas_3 M _) (pas_i M _)
  by_cases c3 : 0 ≤ w
  · rw [if_pos c3, if_pos c3]
    obtain ⟨w1, w2⟩ := then_w (INV_R h).1 c2 c3
    exact AL_mk (eN_g hk.1.1 (c := vn w) (by have := (INV_R h).1.2.2; omega)).1 hb
  · rw [if_neg c3, if_neg c3]
    exact AL_mk (eN_f hk.1.1).2.2.2.2.2.1 hb
theorem full_L {tt : tT} {v : Int32} : ∀ (f k : Nat) (Y : xS) (N : mS) (K : Nat → xS → Int32 × xS), eE 8 tt Y 13 N ∧ rOK N ∧ aB 8 N → k ≤ 51 → 51 - k < f →
    (∃ Z, (mF_full_L31 v f k N).1 ≤ 50 ∧ x8_full_L29 tt v K f k Y = (nI (mF_full_L31 v f k N).1, Z) ∧ (∀ p, p < 13 ∨ 21 ≤ p → Z p = Y p)) ∨ (∃ Z, (mF_full_L31 v f k N).1 = 51 ∧ x8_full_L29 tt v K f k Y = K 51 Z ∧ (∀ p, p < 13 ∨ 21 ≤ p → Z p = Y p)) := by
  intro f
  induction f with
  | zero => intro k Y N K _ _ h; exact absurd h (Nat.not_lt_zero _)
  | succ f ih =>
    intro k Y N K h hk hf
    rw [x8_full_L29_s, mF_full_L31_s]
    by_cases c : 50 < nI k
    · simp only [if_pos c]
      rw [show (50 : Int32) = nI 50 from rfl, nI_ltI (by decide) (by omega)] at c
      have e : k = 51 := by omega
      subst e
      exact Or.inr ⟨Y, rfl, rfl, fun _ _ => rfl⟩
    · simp only [if_neg c, lt_i]
      have c2 : k ≤ 50 := by
        rw [show (50 : Int32) = nI 50 from rfl, nI_ltI (by decide) (by omega)] at c; omega
      rw [tog_e h.1.1 h.2.1.1]
      by_cases c3 : mF_grains N < v
      · simp only [if_pos c3, if_neg (Int32.not_le.mpr c3)]
        rcases ih (k + 1) _ _ K (hour_e h.1 h.2.1 h.2.2) (by omega) (by omega) with ⟨Z, z1, z2, z3⟩ | ⟨Z, z1, z2, z3⟩
        · exact Or.inl ⟨Z, z1, z2, fun p hp => by rw [z3 p hp]; exact ph_out tt (by omega)⟩
        · exact Or.inr ⟨Z, z1, z2, fun p hp => by rw [z3 p hp]; exact ph_out tt (by omega)⟩
      · simp only [if_neg c3, if_pos (Int32.not_lt.mp c3)]
        exact Or.inl ⟨Y, c2, rfl, fun _ _ => rfl⟩
theorem full_r {v : Int32} : ∀ (f k : Nat) (N : mS) (i : Nat), i ≠ 1 → i ≠ 6 → (mF_full_L31 v f k N).2 i = N i := by
  intro f
  induction f with
  | zero => intro k N i _ _; rfl
  | succ f ih =>
    intro k N i h1 h6
    rw [mF_full_L31_s]
    split
    · rfl
    · split
      · rfl
      · rw [lt_i, ih _ _ _ h1 h6]; exact oH_row N i h1 h6
theorem full_e {n : Nat} {tt : tT} {X : xS} {M : mS} (h : INV n tt X M) (v : Int32) : AL n tt (x8_full tt X v) (mF_full M v) := by
  unfold x8_full mF_full
  simp only [lt_i, lt2_i, lt2_p]
  by_cases c1 : sF_in v 0 999999 = 0
  · rw [if_pos (show p8_within v 0 999999 = 0 from c1), if_pos c1]; exact er1 h
  rw [if_neg (show ¬ p8_within v 0 999999 = 0 from c1), if_neg c1, tk_e (INV_eR h).2.1 (by decide) kE1.1 kE1.2.1]
  have hb : ∀ Z : xS, (∀ p, p < 13 ∨ 21 ≤ p → Z p = tkX X 13 1 p) → INV n tt Z (mF_moveAll_3_1 (mF_full_L31 v fu52 0 (mF_moveAll_1_3 M)).2) := fun Z hZ => back_c h (fun p hp => by rw [hZ p (by omega)]; exact tko X p hp) (full_r _ _ _ 3 (by decide) (by decide)) (fun i h1 h3 h6 => by rw [full_r _ _ _ i h1 h6]; exact mv13_row M i h3)
  rcases full_L (v := v) 52 0 (tkX X 13 1) (mF_moveAll_1_3 M) (fun (_ : Nat) (Z : xS) => ((x8_error Z 2).1, (x8_error Z 2).2)) (th_0 h) (by decide) (by decide) with ⟨Z, z1, z2, z3⟩ | ⟨Z, z1, z2, z3⟩
  · rw [z2]
    have z1' : (mF_full_L31 v fu52 0 (mF_moveAll_1_3 M)).1 ≤ 50 := z1
    rw [if_pos (show nI (mF_full_L31 v fu52 0 (mF_moveAll_1_3 M)).1 ≤ 50 by rw [show (50 : Int32) = nI 50 from rfl, nI_leI (by omega) (by decide)]; exact z1')]
    exact AL_mk rfl (hb Z z3)
  · rw [z2]
    have z1' : (mF_full_L31 v fu52 0 (mF_moveAll_1_3 M)).1 = 51 := z1
    rw [if_neg (show ¬ nI (mF_full_L31 v fu52 0 (mF_moveAll_1_3 M)).1 ≤ 50 by rw [z1']; decide)]
    exact er2 (hb Z z3)
/-! what waits is checked -/
theorem chk_L {tt : tT} {M : mS} {W : Nat} (hW : W ≤ 20) (h5 : nI (vn (M 1 5)) = nI W) {w : Nat → Int32} : ∀ (f g k : Nat) (Y : xS) (N : mS), eE 8 tt Y 13 N ∧ rOK N ∧ aB 8 N → Y 11 1 = nI W → (∀ j, j < W → Y 12 j = w j) → (∀ j, j < W → N 1 (114 + j) = w j) → k ≤ W → W - k < f → W - k + 1 < g →
    (((mF_check_L30 M g k 1 N).2.1 = 0 ∧ (x8_check_L15 tt f k 0 Y).2.1 = nI (1 + (mF_check_L30 M g k 1 N).1)) ∨ ((mF_check_L30 M g k 1 N).2.1 = 1 ∧ (x8_check_L15 tt f k 0 Y).2.1 = 0)) ∧ (∀ p, p < 13 ∨ 21 ≤ p → (x8_check_L15 tt f k 0 Y).2.2 p = Y p) ∧ (∀ i, i ≠ 1 → i ≠ 6 → (mF_check_L30 M g k 1 N).2.2 i = N i) := by
  intro f
  induction f with
  | zero => intro g k Y N _ _ _ _ _ h; exact absurd h (Nat.not_lt_zero _)
  | succ f ih =>
    intro g k Y N h h11 hY hN hk hf hg
    cases g with
    | zero => exact absurd hg (Nat.not_lt_zero _)
    | succ g =>
      rw [x8_check_L15_s, mF_check_L30_s, h5, h11]
      by_cases c : k = W
      · have cc : nI W ≤ nI k := by rw [c]; exact Int32.le_refl _
        simp only [if_pos cc]
        refine ⟨Or.inr ⟨?_, ?_⟩, ?_, ?_⟩ <;> intros <;> trivial
      · have cc : ¬ nI W ≤ nI k := by rw [nI_leI (by omega) (by omega)]; omega
        simp only [if_neg cc, if_true, if_neg (show ¬ (1 : Int32) = 0 by decide), lt_i]
        have q := hour_e h.1 h.2.1 h.2.2
        have ho : ∀ p, p < 13 ∨ 21 ≤ p → x0_passHour tt Y 13 p = Y p := fun p hp => ph_out tt (by omega)
        have e1 : x4_get (x0_passHour tt Y 13) 11 (nI k) = w k := by
          unfold x4_get
          rw [if_neg (nI_nlt0 (by omega)), ho 11 (by decide), h11, if_neg cc, vn_nI (by omega)]
          show x0_passHour tt Y 13 12 k = _
          rw [ho 12 (by decide)]; exact hY k (by omega)
        have e2 : mF_oneHour N 1 (114 + k) = w k := by rw [oH_hi h.2.1 (by omega)]; exact hN k (by omega)
        rw [tog_e q.1.1 q.2.1.1, e1, e2]
        by_cases c3 : mF_grains (mF_oneHour N) = w k
        · simp only [if_pos c3, if_neg (show ¬ (1 : Int32) = 0 by decide)]
          obtain ⟨r1, r2, r3⟩ := ih g (k + 1) _ _ q (by rw [ho 11 (by decide)]; exact h11) (fun j hj => by rw [ho 12 (by decide)]; exact hY j hj) (fun j hj => by rw [oH_hi h.2.1 (by omega)]; exact hN j hj) (by omega) (by omega) (by omega)
          exact ⟨r1, fun p hp => by rw [r2 p hp]; exact ho p hp, fun i h1 h6 => by rw [r3 i h1 h6]; exact oH_row N i h1 h6⟩
        · simp only [if_neg c3, if_true]
          cases f with
          | zero => exact absurd hf (by omega)
          | succ f =>
            cases g with
            | zero => exact absurd hg (by omega)
            | succ g =>
              rw [x8_check_L15_s, mF_check_L30_s, h5, ho 11 (by decide), h11]
              have nz1 : ¬ nI (1 + k) = 0 := by rw [show (0 : Int32) = nI 0 from rfl, nI_eq (by omega) (by decide)]; omega
              have cc0 : ¬ nI W ≤ nI (k + 0) := cc
              by_cases c4 : nI W ≤ nI (k + 1)
              · simp only [if_pos c4, if_neg cc0, if_true]
                exact ⟨Or.inl ⟨by trivial, by trivial⟩, ho, fun i h1 h6 => oH_row N i h1 h6⟩
              · simp only [if_neg c4, if_neg nz1, if_neg cc0, if_true]
                exact ⟨Or.inl ⟨by trivial, by trivial⟩, ho, fun i h1 h6 => oH_row N i h1 h6⟩
theorem check_e {n : Nat} {tt : tT} {X : xS} {M : mS} (h : INV n tt X M) : AL n tt (x8_check tt X) (mF_check M) := by
  obtain ⟨⟨T, t1, t2, t3, t4⟩, ⟨W, w1, w2, w3, w4⟩⟩ := h.1.2.1
  have w2' : X 11 1 = nI W := w2
  unfold x8_check mF_check x4_clear
  simp only [lt_i, lt3_i]
  rw [tk_e (INV_eR h).2.1 (by decide) kE1.1 kE1.2.1, w2', vn_nI (by omega)]
  have h0 : INV n tt (mU X 11 1 0) (mU M 1 5 0) := INV_T h ⟨⟨T, t1, by rw [mU_row (by decide)]; exact t2, by rw [mU_ne (by decide)]; exact t3, fun j hj => by rw [mU_row (by decide), mU_ne (by omega)]; exact t4 j hj⟩, ⟨0, by decide, mU_eq, mU_eq, fun j hj => absurd hj (Nat.not_lt_zero _)⟩⟩ (fun p hp => mU_row (by omega)) (fun x h4 h5 h6 => mU_ne h5) (fun i hi => mU_row hi)
  have e1 := mv13_row (mU M 1 5 0) 1 (by decide)
  have ht : eE 8 tt (tkX X 13 1) 13 (mF_moveAll_1_3 (mU M 1 5 0)) ∧ rOK (mF_moveAll_1_3 (mU M 1 5 0)) ∧ aB 8 (mF_moveAll_1_3 (mU M 1 5 0)) := by
    obtain ⟨q1, q2, q3⟩ := th_0 h0
    refine ⟨eE_row q1 (fun a a1 a2 a3 => ?_) rfl q2.2.1, q2, q3⟩
    funext b
    rw [tkX_at, tkX_at]
    rcases (show a = 13 ∨ a = 14 ∨ a = 15 ∨ a = 17 ∨ a = 18 ∨ a = 19 ∨ a = 20 by omega) with rfl | rfl | rfl | rfl | rfl | rfl | rfl <;> rfl
  have hto : ∀ p, p < 13 ∨ 25 ≤ p → tkX X 13 1 p = X p := tko X
  obtain ⟨r1, r2, r3⟩ := chk_L (tt := tt) (M := M) w1 (show nI (vn (M 1 5)) = nI W by rw [w3, vn_nI (by omega)]) (w := fun j => M 1 (114 + j)) (W + 1) fu22 0 (tkX X 13 1) (mF_moveAll_1_3 (mU M 1 5 0)) ht (by rw [hto 11 (by decide)]; exact w2') (fun j hj => by rw [hto 12 (by decide)]; exact w4 j hj) (fun j hj => by rw [e1, mU_ne (by omega)]) (Nat.zero_le _) (by omega) (by show _ < 22; omega)
  generalize x8_check_L15 tt (W + 1) 0 0 (tkX X 13 1) = qx at r1 r2 ⊢
  generalize mF_check_L30 M fu22 0 1 (mF_moveAll_1_3 (mU M 1 5 0)) = qm at r1 r3 ⊢
  have hb : INV n tt (mU qx.2.2 11 1 0) (mF_moveAll_3_1 qm.2.2) := back_c h0 (fun p hp => by
    by_cases e : p = 11
    · subst e; funext b; rw [mU_sm, mU_sm, r2 11 (by decide), hto 11 (by decide)]
    · rw [mU_row e, mU_row e, r2 p (by omega)]; exact hto p hp) (r3 3 (by decide) (by decide)) (fun i h1 h3 h6 => by rw [r3 i h1 h6]; exact mv13_row _ i h3)
  rcases r1 with ⟨a1, a2⟩ | ⟨a1, a2⟩
  · rw [if_pos a1]
    refine AL_mk ?_ hb
    rw [a2, ← nI_add]
    rfl
  · rw [if_neg (by rw [a1]; decide)]
    exact AL_mk a2 hb
/-! one is left out -/
theorem lo_at {q P : Nat} (hP : P ≤ 8) : ∀ (f k : Nat) (Y : xS), Y 13 9 = nI P → q ≤ k → k ≤ P - 1 → P - 1 - k < f → 1 ≤ P →
    (∀ r i, 17 ≤ r → r ≤ 20 → (x0_leaveOut_L6 13 f k Y).2 r i = if k ≤ i ∧ i < P - 1 then Y r (i + 1) else Y r i) ∧ ∀ p, p < 17 ∨ 21 ≤ p → (x0_leaveOut_L6 13 f k Y).2 p = Y p := by
  intro f
  induction f with
  | zero => intro k Y _ _ _ h; exact absurd h (Nat.not_lt_zero _)
  | succ f ih =>
    intro k Y h9 hq hk hf h1
    rw [x0_leaveOut_L6_s, h9]
    have e : nI P - 1 = nI (P - 1) := by rw [show (1 : Int32) = nI 1 from rfl, pk_sub h1]
    rw [e]
    by_cases c : nI (P - 1) ≤ nI k
    · rw [if_pos c]
      rw [nI_leI (by omega) (by omega)] at c
      exact ⟨fun r i _ _ => by rw [if_neg (by omega)], fun _ _ => rfl⟩
    · rw [if_neg c]
      rw [nI_leI (by omega) (by omega)] at c
      simp only [lt_i]
      have hY : ∀ a b, mU (mU (mU (mU Y (13 + 4) k (Y (13 + 4) (k + 1))) (13 + 5) k (mU Y (13 + 4) k (Y (13 + 4) (k + 1)) (13 + 5) (k + 1))) (13 + 6) k (mU (mU Y (13 + 4) k (Y (13 + 4) (k + 1))) (13 + 5) k (mU Y (13 + 4) k (Y (13 + 4) (k + 1)) (13 + 5) (k + 1)) (13 + 6) (k + 1))) (13 + 7) k (mU (mU (mU Y (13 + 4) k (Y (13 + 4) (k + 1))) (13 + 5) k (mU Y (13 + 4) k (Y (13 + 4) (k + 1)) (13 + 5) (k + 1))) (13 + 6) k (mU (mU Y (13 + 4) k (Y (13 + 4) (k + 1))) (13 + 5) k (mU Y (13 + 4) k (Y (13 + 4) (k + 1)) (13 + 5) (k + 1)) (13 + 6) (k + 1)) (13 + 7) (k + 1)) a b = if 17 ≤ a ∧ a ≤ 20 ∧ b = k then Y a (k + 1) else Y a b := by
        intro a b
        rw [mU_row (show 13 + 5 ≠ 13 + 4 by decide), mU_row (show 13 + 6 ≠ 13 + 5 by decide), mU_row (show 13 + 6 ≠ 13 + 4 by decide), mU_row (show 13 + 7 ≠ 13 + 6 by decide), mU_row (show 13 + 7 ≠ 13 + 5 by decide), mU_row (show 13 + 7 ≠ 13 + 4 by decide), mU_pt, mU_pt, mU_pt, mU_pt]
        by_cases hb : b = k
        · subst hb
          by_cases a7 : a = 20
          · subst a7; rw [if_pos ⟨rfl, rfl⟩, if_pos (by omega)]
          · rw [if_neg (by omega)]
            by_cases a6 : a = 19
            · subst a6; rw [if_pos ⟨rfl, rfl⟩, if_pos (by omega)]
            · rw [if_neg (by omega)]
              by_cases a5 : a = 18
              · subst a5; rw [if_pos ⟨rfl, rfl⟩, if_pos (by omega)]
              · rw [if_neg (by omega)]
                by_cases a4 : a = 17
                · subst a4; rw [if_pos ⟨rfl, rfl⟩, if_pos (by omega)]
                · rw [if_neg (by omega), if_neg (by omega)]
        · rw [if_neg (by omega), if_neg (by omega), if_neg (by omega), if_neg (by omega), if_neg (by omega)]
      generalize mU (mU (mU (mU Y (13 + 4) k (Y (13 + 4) (k + 1))) (13 + 5) k (mU Y (13 + 4) k (Y (13 + 4) (k + 1)) (13 + 5) (k + 1))) (13 + 6) k (mU (mU Y (13 + 4) k (Y (13 + 4) (k + 1))) (13 + 5) k (mU Y (13 + 4) k (Y (13 + 4) (k + 1)) (13 + 5) (k + 1)) (13 + 6) (k + 1))) (13 + 7) k (mU (mU (mU Y (13 + 4) k (Y (13 + 4) (k + 1))) (13 + 5) k (mU Y (13 + 4) k (Y (13 + 4) (k + 1)) (13 + 5) (k + 1))) (13 + 6) k (mU (mU Y (13 + 4) k (Y (13 + 4) (k + 1))) (13 + 5) k (mU Y (13 + 4) k (Y (13 + 4) (k + 1)) (13 + 5) (k + 1)) (13 + 6) (k + 1)) (13 + 7) (k + 1)) = Z at hY ⊢
      obtain ⟨r1, r2⟩ := ih (k + 1) Z (by rw [hY, if_neg (by omega)]; exact h9) (by omega) (by omega) (by omega) h1
      refine ⟨fun r i hr hr2 => ?_, fun p hp => ?_⟩
      · rw [r1 r i hr hr2, hY, hY]
        by_cases e1 : i = k
        · subst e1
          rw [if_neg (by omega), if_pos ⟨hr, hr2, rfl⟩, if_pos (by omega)]
        · by_cases e2 : k + 1 ≤ i ∧ i < P - 1
          · rw [if_pos e2, if_neg (by omega), if_pos (by omega)]
          · rw [if_neg e2, if_neg (by omega), if_neg (by omega)]
      · rw [r2 p hp]
        funext b
        rw [hY, if_neg (by omega)]
theorem lvo_e {tt : tT} {Y : xS} {N N2 : mS} {q : Nat} (h : eE 8 tt Y 13 N) (hR : rOK N) (hq : q < vn (N 1 8)) (hN : N2 1 = N 1) : eE q tt (x0_leaveOut Y 13 q) 13 N2 ∧ ∀ p, p < 13 ∨ 21 ≤ p → x0_leaveOut Y 13 q p = Y p := by
  have hm := hR.2.1.2
  have hn := h.1.2
  have hP : vn (Y 13 9) = vn (N 1 8) := by
    have := hn.2
    rw [if_neg (by omega)] at this
    exact this.symm
  obtain ⟨r1, r2⟩ := lo_at (q := q) (P := vn (Y 13 9)) (by omega) fu11 q Y hn.1 (Nat.le_refl _) (by omega) (by show _ < 11; omega) (by omega)
  unfold x0_leaveOut
  rw [lt2_i, lt_i]
  have e13 := r2 13 (by decide)
  have e9 : (x0_leaveOut_L6 13 fu11 q Y).2 13 9 - 1 = nI (vn (Y 13 9) - 1) := by
    rw [e13, hn.1, show (1 : Int32) = nI 1 from rfl, vn_nI (by omega), pk_sub (by omega)]
  have eX : (if 0 < ((x0_leaveOut_L6 13 fu11 q Y).2 13 9) - 1 then ((x0_leaveOut_L6 13 fu11 q Y).2 13 9) - 1 else 0) = nI (vn (Y 13 9) - 1) := by
    rw [e9]
    by_cases c : vn (Y 13 9) - 1 = 0
    · rw [c]; rfl
    · rw [if_pos]
      rw [show (0 : Int32) = nI 0 from rfl, nI_ltI (by decide) (by omega)]; omega
  rw [eX]
  generalize hZ : (x0_leaveOut_L6 13 fu11 q Y).2 = Z at r1 r2 e13
  have n9 : mU Z 13 9 (nI (vn (Y 13 9) - 1)) 13 9 = nI (vn (Y 13 9) - 1) := mU_eq
  refine ⟨⟨⟨fun a b x hk => ?_, ?_, ?_⟩, ?_⟩, fun p hp => ?_⟩
  · rw [n9, vn_nI (by omega)] at hk
    rw [hN]
    have s1 := sk_cs q b
    unfold lk at hk
    rcases hk with ⟨ha, hb⟩ | ⟨hb, ha⟩ | ⟨hb, ha⟩
    · rw [mU_pt, if_neg (by omega), ha, e13]
      exact h.1.1 13 b x (Or.inl ⟨rfl, hb⟩)
    · rw [mU_row (by omega), r2 a (by omega)]
      exact h.1.1 a b x (Or.inr (Or.inl ⟨hb, ha⟩))
    · have ha2 : 17 ≤ a ∧ a ≤ 20 := by omega
      rw [mU_row (by omega), r1 a b ha2.1 ha2.2]
      by_cases c : q ≤ b
      · rw [if_pos (by omega)]
        have es : sk q b = b + 1 := by omega
        rw [es] at ha
        exact h.1.1 a (b + 1) x (Or.inr (Or.inr ⟨by omega, by rw [sk8 (show b + 1 < 8 by omega)]; omega⟩))
      · rw [if_neg (by omega)]
        have es : sk q b = b := by omega
        rw [es] at ha
        exact h.1.1 a b x (Or.inr (Or.inr ⟨by omega, by rw [sk8 (show b < 8 by omega)]; omega⟩))
  · rw [n9, vn_nI (by omega)]
  · rw [n9, vn_nI (by omega), hN, if_pos (by omega)]; omega
  · rw [hN]
    exact eX_pt h.2 (by rw [mU_ne (by decide), e13]) (by rw [mU_ne (by decide), e13]) (fun _ _ => rfl)
  · rw [mU_row (by omega), r2 p (by omega)]
theorem gains_e {n : Nat} {tt : tT} {X : xS} {M : mS} (h : INV n tt X M) (q v : Int32) : AL n tt (x8_gains tt X q v) (mF_gains M q v) := by
  unfold x8_gains mF_gains x8_togetherBehind
  simp only [lt_i, lt2_i, isP_e h]
  by_cases c1 : mF_isPerson M q = 0
  · rw [if_pos c1, if_pos c1]; exact er1 h
  rw [if_neg c1, if_neg c1]
  by_cases c2 : sF_in v 0 50 = 0
  · rw [if_pos (show p8_within v 0 50 = 0 from c2), if_pos c2]; exact er1 h
  rw [if_neg (show ¬ p8_within v 0 50 = 0 from c2), if_neg c2, tk_e (INV_eR h).2.1 (by decide) kE1.1 kE1.2.1, ps_e]
  have hR := INV_R h
  obtain ⟨d1, d2⟩ := person_of hR.2.1 c1
  have hs : ∀ (Y : xS) (k : Nat), x8_togetherBehind_L2 tt Y (k + 1) = x0_passHour tt (x8_togetherBehind_L2 tt Y k) 13 := fun Y k => by rw [x8_togetherBehind_L2_s]; simp only [lt_i]
  have h1 := th_L (th_0 h) (G := x8_togetherBehind_L2 tt (tkX X 13 1)) rfl (hs _) (vn v)
  have o1 := th_o (Y := tkX X 13 1) (G := x8_togetherBehind_L2 tt (tkX X 13 1)) rfl (hs _) (vn v)
  rw [tog_e h1.1.1 h1.2.1.1]
  have hb1 := back_c (P := mF_passes_L2 (mF_moveAll_1_3 M) (vn v)) h (X2 := x8_togetherBehind_L2 tt (tkX X 13 1) (vn v)) (fun p hp => by rw [o1 p (by omega)]; exact tko X p hp) (pas_3 M _) (pas_i M _)
  have oo : ∀ p, p < 13 ∨ 25 ≤ p → x8_togetherBehind_L2 tt (tkX X 13 1) (vn v) p = X p := fun p hp => by rw [o1 p (by omega)]; exact tko X p hp
  generalize x8_togetherBehind_L2 tt (tkX X 13 1) (vn v) = X37 at hb1 oo ⊢
  have e3 : mF_moveAll_3_1 (mF_passes_L2 (mF_moveAll_1_3 M) (vn v)) 3 = mF_moveAll_1_3 M 3 := (mv31_row _ 3 (by decide)).trans (pas_3 M _)
  have ei : ∀ i, i ≠ 1 → i ≠ 3 → i ≠ 6 → mF_moveAll_3_1 (mF_passes_L2 (mF_moveAll_1_3 M) (vn v)) i = M i := fun i i1 i3 i6 => (mv31_row _ i i1).trans (pas_i M _ i i1 i3 i6)
  generalize mF_grains (mF_passes_L2 (mF_moveAll_1_3 M) (vn v)) = g1
  have d8 : vn (mF_moveAll_3_1 (mF_passes_L2 (mF_moveAll_1_3 M) (vn v)) 1 8) = vn (M 1 8) := by rw [mv31_at, if_pos (by decide), pas_3, mv13_at, if_pos (by decide)]
  generalize mF_moveAll_3_1 (mF_passes_L2 (mF_moveAll_1_3 M) (vn v)) = N at hb1 e3 ei d8 ⊢
  rw [tk_e (INV_eR hb1).2.1 (by decide) kE1.1 kE1.2.1, ps_e]
  have hRN := INV_R hb1
  have hE0 : eE 8 tt (tkX X37 13 1) 13 N := eE_tk hb1.1.1 (eE_n (INV_eE hb1) hRN.2.1)
  have q8 : vn q < 8 := Nat.lt_of_lt_of_le d2 hR.2.1.2
  obtain ⟨l1, l2⟩ := lvo_e (N2 := mU N 0 15 q) hE0 hRN (q := vn q) (by rw [d8]; exact d2) (mU_row (by decide))
  have h2 := th_L (ab := vn q) ⟨l1, rOK_row (mU_row (by decide)) hRN, by unfold aB; rw [mU_eq, if_pos q8]; exact d1⟩ (G := x8_togetherBehind_L2 tt (x0_leaveOut (tkX X37 13 1) 13 (vn q))) rfl (hs _) (vn v)
  have o2 := th_o (Y := x0_leaveOut (tkX X37 13 1) 13 (vn q)) (G := x8_togetherBehind_L2 tt (x0_leaveOut (tkX X37 13 1) 13 (vn q))) rfl (hs _) (vn v)
  rw [tog_e h2.1.1 h2.2.1.1]
  have eg : mF_grains (mU (mF_passes_L2 (mU N 0 15 q) (vn v)) 0 15 (-1)) = mF_grains (mF_passes_L2 (mU N 0 15 q) (vn v)) := by
    unfold mF_grains
    rw [lt_i, lt_i, mU_row (show 1 ≠ 0 by decide)]
    have : ∀ k, mF_grains_L4 (mU (mF_passes_L2 (mU N 0 15 q) (vn v)) 0 15 (-1)) k = mF_grains_L4 (mF_passes_L2 (mU N 0 15 q) (vn v)) k := by
      intro k
      induction k with
      | zero => rfl
      | succ k ih => rw [mF_grains_L4_s, mF_grains_L4_s, ih, mU_row (show 1 ≠ 0 by decide)]
    exact this _
  rw [eg]
  refine AL_mk rfl (back_c h (fun p hp => ?_) ?_ (fun i h1 h3 h6 => ?_))
  · rw [o2 p (by omega), l2 p (by omega), tko X37 p hp]
    exact oo p hp
  · rw [mU_row (by decide), pS_row _ _ 3 (by decide) (by decide), mU_row (by decide)]; exact e3
  · by_cases e : i = 0
    · subst e
      funext j
      rw [mU_sm, pS_row _ _ 0 (by decide) (by decide), mU_sm]
      by_cases ej : j = 15
      · rw [if_pos ej, ej]
        have := h.2.1
        unfold aB at this
        rw [this]
        rfl
      · rw [if_neg ej, if_neg ej, ei 0 (by decide) (by decide) (by decide)]
    · rw [mU_row e, pS_row _ _ i h1 h6, mU_row e]; exact ei i h1 h3 h6
