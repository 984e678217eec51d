/-! LEAD: an hour of the reference, of one cell -/
def RLe (tt : tT) (X Y : xS) (M : mS) (c P : Nat) (pl : Nat → Nat) (t : Nat) (N : mS) : Prop := rOK N ∧ aB 8 N ∧ N 1 0 = M 1 0 + nI t ∧ (∀ x, stt x → N 1 x = M 1 x) ∧ (∀ p, p < P → N 1 (32 + 4 * p + 2) = (x2_placeAfter_L17 X (pl p) (X 8 p) t).1 ∧ N 1 (32 + 4 * p + 3) = (x2_placeAfter_L17 X (pl p) (X 8 p) t).2) ∧ N 1 (12 + c) = x2_harvest_L15 tt Y (X 2 c) t
theorem tk_c {tt : tT} {X Y : xS} (h1 : Y 1 = X 1) (h5 : Y 5 = X 5) (h6 : Y 6 = X 6) (q : Nat) (g hr : Int32) : x0_takesFrom tt Y 1 q g hr = x0_takesFrom tt X 1 q g hr := by
  unfold x0_takesFrom x0_theftGiven
  rw [show Y (1 + 4) = X (1 + 4) from h5, show Y (1 + 5) = X (1 + 5) from h6, h1]
  rfl
/-- what is the same all along -/
def LC (tt : tT) (X Y : xS) (M : mS) (c nn P : Nat) (pl : Nat → Nat) : Prop := eE 8 tt X 1 M ∧ rOK M ∧ P = vn (M 1 8) ∧ vn (X 1 9) = P ∧ c < vn (M 1 3) ∧ lkS tt X c nn P Y ∧ (∀ p, p < P → Y 46 p = nI (pl p) ∧ pl p < vn (M 1 3))
theorem LCe {tt : tT} {X Y : xS} {M : mS} {c nn P : Nat} {pl : Nat → Nat} (h : LC tt X Y M c nn P pl) : eE 8 tt X 1 M := h.1
theorem LCr {tt : tT} {X Y : xS} {M : mS} {c nn P : Nat} {pl : Nat → Nat} (h : LC tt X Y M c nn P pl) : rOK M := h.2.1
theorem LCp {tt : tT} {X Y : xS} {M : mS} {c nn P : Nat} {pl : Nat → Nat} (h : LC tt X Y M c nn P pl) : P = vn (M 1 8) := h.2.2.1
theorem LCn {tt : tT} {X Y : xS} {M : mS} {c nn P : Nat} {pl : Nat → Nat} (h : LC tt X Y M c nn P pl) : vn (X 1 9) = P := h.2.2.2.1
theorem LCc {tt : tT} {X Y : xS} {M : mS} {c nn P : Nat} {pl : Nat → Nat} (h : LC tt X Y M c nn P pl) : c < vn (M 1 3) := h.2.2.2.2.1
theorem LCk {tt : tT} {X Y : xS} {M : mS} {c nn P : Nat} {pl : Nat → Nat} (h : LC tt X Y M c nn P pl) : lkS tt X c nn P Y := h.2.2.2.2.2.1
theorem LCl {tt : tT} {X Y : xS} {M : mS} {c nn P : Nat} {pl : Nat → Nat} (h : LC tt X Y M c nn P pl) : ∀ p, p < P → Y 46 p = nI (pl p) ∧ pl p < vn (M 1 3) := h.2.2.2.2.2.2
theorem LC_q {tt : tT} {X Y : xS} {M : mS} {c nn P : Nat} {pl : Nat → Nat} (h : LC tt X Y M c nn P pl) {q : Nat} (hq : q < P) : X 5 q = M 1 (32 + 4 * q + 0) ∧ X 6 q = M 1 (32 + 4 * q + 1) ∧ X 8 q = M 1 (32 + 4 * q + 3) ∧ q < 8 := by
  have h8 := (LCr h).2.1.2
  have hp := (LCp h)
  have := eN_p (LCe h).1 (i := q) (by rw [(LCn h)]; exact hq)
  rw [sk8 (by omega)] at this
  exact ⟨this.1, this.2.1, this.2.2.2, by omega⟩
theorem LC_o {tt : tT} {X Y : xS} {M : mS} {c nn P : Nat} {pl : Nat → Nat} (h : LC tt X Y M c nn P pl) : X 1 0 = M 1 3 ∧ X 1 4 = M 1 9 ∧ X 1 6 = M 1 1 ∧ X 1 7 = M 1 0 ∧ vn (M 1 3) ≤ 10 ∧ P ≤ 8 ∧ Y 1 = X 1 ∧ Y 5 = X 5 ∧ Y 6 = X 6 ∧ Y 1 9 = nI P := by
  obtain ⟨f0, f4, f5, f6, f7, f8, f18⟩ := eN_f (LCe h).1
  have h8 := (LCr h).2.1.2
  have hp := (LCp h)
  refine ⟨f0, f4, f6, f7, (LCr h).1.2.2, by omega, (LCk h).1 1 (by decide) (by decide), (LCk h).1 5 (by decide) (by decide), (LCk h).1 6 (by decide) (by decide), ?_⟩
  rw [(LCk h).1 1 (by decide) (by decide), (LCe h).1.2.1, (LCn h)]
/-- what is alike of a state and the first -/
theorem RL_ex {tt : tT} {X : xS} {M N : mS} (h : eX tt X 1 (M 1)) (hs : ∀ x, stt x → N 1 x = M 1 x) : eX tt X 1 (N 1) := eX_pt h rfl rfl (fun x hx => hs x (by unfold stt; omega))
theorem has_01 (s k : Int32) : p8_has s k = 0 ∨ p8_has s k = 1 := by
  rw [has_e]
  unfold sF_has
  rcases and1 (s >>> (k &&& 31)) with e | e <;> rw [e]
  · exact Or.inl rfl
  · exact Or.inr rfl
/-- (a) who counts for the cell -/
theorem la_L {tt : tT} {X Y : xS} {M N : mS} {c nn P : Nat} {pl : Nat → Nat} {t : Nat} (h : LC tt X Y M c nn P pl) (ht : t < nn) (g : RLe tt X Y M c P pl t N) : ∀ k, k ≤ P → mF_oneHour_L27 N (mF_oneHour_L2 N (vn (N 1 3))) k 6 c = x2_harvest_L28 Y t k := by
  obtain ⟨g1, g2, g3, g4, g5, g6⟩ := g
  obtain ⟨o0, o4, o6, o7, oC, oP, y1, y5, y6, y9⟩ := LC_o h
  have e3 : N 1 3 = M 1 3 := g4 3 (by unfold stt; omega)
  intro k
  induction k with
  | zero =>
    intro _
    show mF_oneHour_L2 N (vn (N 1 3)) 6 c = 0
    rw [L2_at, if_pos (by rw [e3]; exact (LCc h))]
  | succ k ih =>
    intro hk
    have ih := ih (by omega)
    rw [mF_oneHour_L27_s, x2_harvest_L28_s]
    simp only [lt_i]
    have hN : ∀ i, i ≠ 6 → mF_oneHour_L27 N (mF_oneHour_L2 N (vn (N 1 3))) k i = N i := fun i hi => (oH_L27 N _ k i hi).trans (oH_L2 N _ i hi)
    obtain ⟨q5, q6, q8, hk8⟩ := LC_q h (q := k) (by omega)
    have hA : mF_oneHour_L27 N (mF_oneHour_L2 N (vn (N 1 3))) k 0 15 = -1 := by
      rw [hN 0 (by decide)]
      have := g2
      unfold aB at this
      rw [this, if_neg (by decide)]
    rw [L58_at, if_pos (by rw [e3]; exact (LCc h)), if_neg (show ¬ nI k = mF_oneHour_L27 N (mF_oneHour_L2 N (vn (N 1 3))) k 0 15 by rw [hA]; exact fun e => nIm (by omega) e), ih]
    have hR : rOK (mF_oneHour_L27 N (mF_oneHour_L2 N (vn (N 1 3))) k) := rOK_row (hN 1 (by decide)) g1
    have h1 : mF_oneHour_L27 N (mF_oneHour_L2 N (vn (N 1 3))) k 1 = N 1 := hN 1 (by decide)
    generalize mF_oneHour_L27 N (mF_oneHour_L2 N (vn (N 1 3))) k = Z at hR h1 ⊢
    have z0 : Z 1 (32 + 4 * k + 0) = M 1 (32 + 4 * k + 0) := by rw [h1]; exact g4 _ (by unfold stt; omega)
    have z1 : Z 1 (32 + 4 * k + 1) = M 1 (32 + 4 * k + 1) := by rw [h1]; exact g4 _ (by unfold stt; omega)
    have hX : eX tt X 1 (Z 1) := by rw [h1]; exact RL_ex (LCe h).2 g4
    have hs : mF_sight Z k = x0_sightIn tt X 1 k (X 1 6) (X 1 7 + nI t) := by
      rw [← si_e (i := k) (q := k) hX (q5.trans z0.symm) (q6.trans z1.symm), h1, g3, g4 1 (by unfold stt; omega), o6, o7]
    have hv := vw_e (X := X) (p := 1) (i := k) (q := k) (M := Z) (by rw [h1, e3]; exact o0) hR.1 (q5.trans z0.symm) (aN_lt hR hk8)
    have ha : aN Z k = vn (x2_placeAfter X k (pl k) t) := by
      unfold aN x2_placeAfter
      simp only [lt_i, lt2_i]
      rw [h1, (g5 k (by omega)).1]
    rw [hs, ha, show Z 1 9 = X 1 4 by rw [h1, g4 9 (by unfold stt; omega), o4]] at hv
    have hc : mF_counts Z k = p1_countsOf (X 5 k) (X 6 k) := by
      rw [q5, q6, ← z0, ← z1]; rfl
    rw [← hv, hc]
    have hl := (LCl h) k (by omega)
    have hC : pl k < vn (X 1 0) := by rw [o0]; exact hl.2
    have := ((LCk h).2.2.2.2 t k (pl k) ht (by omega) hC).1
    rw [hl.1, vn_nI (by omega), this]
    congr 1
    unfold ent
    rw [has_e]
/-- (c) who stands there takes -/
theorem lc_L {tt : tT} {X Y : xS} {M N : mS} {c nn P : Nat} {pl : Nat → Nat} {t : Nat} {g : Int32} (h : LC tt X Y M c nn P pl) (ht : t < nn) (g1 : rOK N) (g2 : aB 8 N) (g3 : N 1 0 = M 1 0 + nI t) (g4 : ∀ x, stt x → N 1 x = M 1 x) (g5 : ∀ p, p < P → N 1 (32 + 4 * p + 2) = (x2_placeAfter_L17 X (pl p) (X 8 p) t).1 ∧ N 1 (32 + 4 * p + 3) = (x2_placeAfter_L17 X (pl p) (X 8 p) t).2) (g6 : N 1 (12 + c) = g) : ∀ k, k ≤ P → (mF_oneHour_L169 N k 1 0 = M 1 0 + nI t ∧ (∀ x, stt x → mF_oneHour_L169 N k 1 x = M 1 x) ∧ (∀ p, p < P → mF_oneHour_L169 N k 1 (32 + 4 * p + 2) = (x2_placeAfter_L17 X (pl p) (X 8 p) (if p < k then t + 1 else t)).1 ∧ mF_oneHour_L169 N k 1 (32 + 4 * p + 3) = (x2_placeAfter_L17 X (pl p) (X 8 p) (if p < k then t + 1 else t)).2) ∧ mF_oneHour_L169 N k 1 (12 + c) = x2_harvest_L94 tt Y t g k) := by
  obtain ⟨o0, o4, o6, o7, oC, oP, y1, y5, y6, y9⟩ := LC_o h
  have hc := (LCc h)
  intro k
  induction k with
  | zero => intro _; exact ⟨g3, g4, fun p hp => by rw [if_neg (Nat.not_lt_zero _)]; exact g5 p hp, g6⟩
  | succ k ih =>
    intro hk
    obtain ⟨i1, i2, i3, i4⟩ := ih (by omega)
    obtain ⟨q5, q6, q8, hk8⟩ := LC_q h (q := k) (by omega)
    rw [mF_oneHour_L169_s, x2_harvest_L94_s]
    simp only [lt_i]
    rw [oH_L169_row N k 0 (by decide), if_neg (by
      have := g2
      unfold aB at this
      rw [this, if_neg (by decide)]
      exact fun e => nIm (by omega) e)]
    have hR := oH_L169_R g1 k (by omega)
    generalize mF_oneHour_L169 N k = Z at hR i1 i2 i3 i4 ⊢
    obtain ⟨t1, t2, t3, t4⟩ := tg_at Z hk8 (aN_lt hR hk8)
    have i3k := i3 k (by omega)
    rw [if_neg (Nat.lt_irrefl k)] at i3k
    have hl := (LCl h) k (by omega)
    have hC : pl k < vn (X 1 0) := by rw [o0]; exact hl.2
    have hC1 : cOK M := (LCr h).1
    have hpl := pa_lt (X := X) (q := k) (s := pl k) (t := t) hC (by unfold eC; rw [o0]; exact hC1)
    have hpa : x2_placeAfter X k (pl k) t = (x2_placeAfter_L17 X (pl k) (X 8 k) t).1 := by
      unfold x2_placeAfter
      simp only [lt_i, lt2_i]
    have ha : aN Z k = vn (x2_placeAfter X k (pl k) t) := by
      unfold aN
      rw [i3k.1, hpa]
    refine ⟨by rw [t1 0 (Or.inr rfl)]; exact i1, fun x hx => by rw [t1 x (Or.inl hx)]; exact i2 x hx, fun p hp => ?_, ?_⟩
    · by_cases e : p = k
      · rw [e, if_pos (Nat.lt_succ_self k), x2_placeAfter_L17_s]
        simp only [lt_i, lt2_i]
        rw [i3k.1, i3k.2, i2 3 (by unfold stt; omega), ← o0] at t4
        by_cases c1 : sF_in ((x2_placeAfter_L17 X (pl k) (X 8 k) t).1 + (x2_placeAfter_L17 X (pl k) (X 8 k) t).2) 0 (X 1 0 - 1) = 0
        · rw [if_pos c1] at t4
          simp only [if_pos (show p8_within ((x2_placeAfter_L17 X (pl k) (X 8 k) t).1 + (x2_placeAfter_L17 X (pl k) (X 8 k) t).2) 0 (X 1 0 - 1) = 0 from c1)]
          exact t4
        · rw [if_neg c1] at t4
          simp only [if_neg (show ¬ p8_within ((x2_placeAfter_L17 X (pl k) (X 8 k) t).1 + (x2_placeAfter_L17 X (pl k) (X 8 k) t).2) 0 (X 1 0 - 1) = 0 from c1)]
          exact t4
      · have hp8 : p < 8 := by omega
        rw [(t3 p hp8 e).1, (t3 p hp8 e).2]
        by_cases e2 : p < k
        · rw [if_pos (show p < k + 1 by omega)]
          have := i3 p hp
          rw [if_pos e2] at this
          exact this
        · rw [if_neg (show ¬ p < k + 1 by omega)]
          have := i3 p hp
          rw [if_neg e2] at this
          exact this
    · rw [t2 c (by omega), i4]
      have hs := ((LCk h).2.2.2.2 t k (pl k) ht (by omega) hC).2
      rw [hl.1, vn_nI (by omega), hs, ha]
      by_cases e : vn (x2_placeAfter X k (pl k) t) = c
      · have hst : stn X c t k (pl k) = 1 := by unfold stn; rw [e, if_pos rfl]
        rw [if_pos e, hst, if_neg (show ¬ (1 : Int32) = 0 by decide), tk_c y1 y5 y6, y1]
        have z0 : Z 1 (32 + 4 * k + 0) = M 1 (32 + 4 * k + 0) := i2 _ (by unfold stt; omega)
        have z1 : Z 1 (32 + 4 * k + 1) = M 1 (32 + 4 * k + 1) := i2 _ (by unfold stt; omega)
        have hX : eX tt X 1 (Z 1) := RL_ex (LCe h).2 i2
        have ht := tk_eq (i := k) (q := k) hX (q5.trans z0.symm) (q6.trans z1.symm) (hR.2.2.1 k hk8)
        rw [ha, e, i4, i1, ← o7] at ht
        rw [← ht, min_e]
      · have hst : stn X c t k (pl k) = 0 := by unfold stn; rw [if_neg (fun w => e ((nI_eq (by have h2 := hpl.2; rw [o0] at h2; omega) (by omega)).mp w))]
        rw [if_neg e, hst, if_pos rfl]
theorem RL_s {tt : tT} {X Y : xS} {M N : mS} {c nn P : Nat} {pl : Nat → Nat} {t : Nat} (h : LC tt X Y M c nn P pl) (ht : t < nn) (g : RLe tt X Y M c P pl t N) : RLe tt X Y M c P pl (t + 1) (mF_oneHour N) := by
  have ha := la_L h ht g P (Nat.le_refl _)
  obtain ⟨g1, g2, g3, g4, g5, g6⟩ := g
  obtain ⟨o0, o4, o6, o7, oC, oP, y1, y5, y6, y9⟩ := LC_o h
  have hc := (LCc h)
  refine ⟨oH_R g1, by unfold aB; rw [oH_row N 0 (by decide) (by decide)]; exact g2, ?_⟩
  have e8 : vn (N 1 8) = P := by rw [g4 8 (by unfold stt; omega), (LCp h)]
  have e3 : N 1 3 = M 1 3 := g4 3 (by unfold stt; omega)
  have hN : ∀ i, i ≠ 6 → mF_oneHour_L27 N (mF_oneHour_L2 N (vn (N 1 3))) P i = N i := fun i hi => (oH_L27 N _ P i hi).trans (oH_L2 N _ i hi)
  unfold mF_oneHour
  simp only [lt_i]
  rw [e8]
  have hR : rOK (mF_oneHour_L27 N (mF_oneHour_L2 N (vn (N 1 3))) P) := rOK_row (hN 1 (by decide)) g1
  have h1 : mF_oneHour_L27 N (mF_oneHour_L2 N (vn (N 1 3))) P 1 = N 1 := hN 1 (by decide)
  have h0 : mF_oneHour_L27 N (mF_oneHour_L2 N (vn (N 1 3))) P 0 = N 0 := hN 0 (by decide)
  generalize mF_oneHour_L27 N (mF_oneHour_L2 N (vn (N 1 3))) P = Z at ha hR h1 h0 ⊢
  have hb := L108_at Z c (by omega) (vn (N 1 3)) (by rw [e3]; exact oC)
  rw [if_pos (by rw [e3]; exact hc), h1, ha, g6] at hb
  have hRb := oH_L108_R hR (vn (N 1 3)) (by rw [e3]; exact oC)
  have hlo : ∀ x, x < 12 ∨ 22 ≤ x → mF_oneHour_L108 Z (vn (N 1 3)) 1 x = N 1 x := fun x hx => by rw [oH_L108_hi Z hx _ (by rw [e3]; exact oC), h1]
  have h0b : mF_oneHour_L108 Z (vn (N 1 3)) 0 = N 0 := (oH_L108_row Z _ 0 (by decide)).trans h0
  generalize mF_oneHour_L108 Z (vn (N 1 3)) = W at hb hRb hlo h0b ⊢
  have hW := lc_L (N := W) (t := t) h ht hRb (by unfold aB; rw [h0b]; exact g2) (by rw [hlo 0 (by omega)]; exact g3) (fun x hx => by rw [hlo x (by unfold stt at hx; omega)]; exact g4 x hx) (fun p hp => by rw [hlo _ (by omega), hlo _ (by omega)]; exact g5 p hp) hb P (Nat.le_refl _)
  obtain ⟨w1, w2, w3, w4⟩ := hW
  have hs : ∀ x, stt x → x ≠ 0 := fun x hx => by unfold stt at hx; omega
  refine ⟨?_, fun x hx => by rw [mU_ne (hs x hx)]; exact w2 x hx, fun p hp => ?_, ?_⟩
  · rw [mU_eq, w1, Int32.add_assoc]
    congr 1
    rw [show (1 : Int32) = nI 1 from rfl, nI_add]
  · rw [mU_ne (by omega), mU_ne (by omega)]
    have := w3 p hp
    rw [if_pos hp] at this
    exact this
  · rw [mU_ne (by omega), w4, x2_harvest_L15_s]
    simp only [lt_i]
    have y96 : Y 42 6 = nI c := (LCk h).2.2.1
    have eg : Y 3 c = N 1 (22 + c) := by
      rw [(LCk h).1 3 (by decide) (by decide), g4 (22 + c) (by unfold stt; omega)]
      exact (eN_g (LCe h).1 (c := c) (by omega)).2
    rw [y9, vn_nI (by omega), y96, vn_nI (by omega), eg, held_e]
