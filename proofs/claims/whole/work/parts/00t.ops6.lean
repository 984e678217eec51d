/-! acts: sheets -/
theorem shs {s : Int32} (c : ¬ sF_isSheet s = 0) : s = nI (vn s) ∧ vn s < 4 := sheet_of c
theorem mis_e (X : xS) (p : Nat) : (x5_isMissing X p = 0) ↔ ¬ X p 1 = 0 := by
  unfold x5_isMissing
  by_cases c : X p 1 = 0
  · rw [if_pos c]; exact ⟨fun e => absurd e (by decide), fun e => absurd c e⟩
  · rw [if_neg c]; exact ⟨fun _ => c, fun _ => rfl⟩
/-- the sheets alone have changed -/
theorem INV_S {n : Nat} {tt : tT} {X X2 : xS} {M M2 : mS} (h : INV n tt X M) (hS : iS X2 M2) (hX : ∀ p, p < 51 ∨ 59 ≤ p → X2 p = X p) (hM : ∀ i, i ≠ 8 → i ≠ 9 → i ≠ 10 → i ≠ 11 → M2 i = M i) : INV n tt X2 M2 := by
  obtain ⟨g1, ⟨k, k1, k2, k3, k4, k5, k6⟩, g3, g4, g5, g6, g7⟩ := h.2
  have m0 := hM 0 (by decide) (by decide) (by decide) (by decide)
  refine ⟨iE_c h.1 (fun a _ _ _ => hX a (by omega)) (fun x _ => by rw [hM 1 (by decide) (by decide) (by decide) (by decide)]), ?_, ⟨k, k1, ?_, ?_, ?_, ?_, fun hk => ?_⟩, ?_, ?_, hS, ?_, ?_⟩
  · unfold aB; rw [m0]; exact g1
  · rw [hX 0 (by decide)]; exact k2
  · rw [m0]; exact k3
  · rw [m0]; exact k4
  · unfold zR; rw [hX _ (by decide), hX _ (by decide)]; exact k5
  · exact iE_c (k6 hk) (fun a _ _ _ => hX a (by omega)) (fun x _ => by rw [hM 2 (by decide) (by decide) (by decide) (by decide)])
  · intro j j1 j2
    rw [hX 61 (by decide), hM 5 (by decide) (by decide) (by decide) (by decide)]; exact g3 j j1 j2
  · unfold iV
    rw [hX 48 (by decide), hX 49 (by decide), m0, hM 13 (by decide) (by decide) (by decide) (by decide)]; exact g4
  · unfold iL; rw [hX 46 (by decide)]; exact g6
  · unfold dN; rw [hX 37 (by decide), hX 38 (by decide), hX 40 (by decide)]; exact g7
theorem sh_L (s : Int32) (N : mS) : ∀ k, (∀ x, mF_sheet_L93 s N k 10 x = if 40 * vn s ≤ x ∧ x < 40 * vn s + k then 0 else N 10 x) ∧ ∀ i, i ≠ 10 → mF_sheet_L93 s N k i = N i := by
  intro k
  induction k with
  | zero => exact ⟨fun x => by rw [if_neg (by omega)]; rfl, fun _ _ => rfl⟩
  | succ k ih =>
    refine ⟨fun x => ?_, fun i hi => ?_⟩
    · rw [mF_sheet_L93_s]
      simp only [lt_i]
      rw [mU_sm, ih.1]
      by_cases e1 : x = 40 * vn s + k
      · rw [if_pos e1, if_pos (by omega)]
      · rw [if_neg e1]
        by_cases e3 : 40 * vn s ≤ x ∧ x < 40 * vn s + k
        · rw [if_pos e3, if_pos (by omega)]
        · rw [if_neg e3, if_neg (by omega)]
    · rw [mF_sheet_L93_s]
      simp only [lt_i]
      rw [mU_row hi]
      exact ih.2 i hi
theorem shn_e {n : Nat} {tt : tT} {X : xS} {M : mS} (h : INV n tt X M) {s b v y : Int32} (hs : vn s < 4) {z : Nat} (hz : z ≤ 40) (hy : y = nI z) (hv : (if b = 0 then 0 else v) = nI z) : AL n tt (1, x5_startAnew X (51 + 2 * vn s) b y) (mF_sheet_J68 M s b v) := by
  unfold x5_startAnew mF_sheet_J68
  simp only [lt_i]
  rw [hv, hy]
  have hh : p8_held (nI z) 40 = nI z := by
    unfold p8_held
    rw [if_pos (nI_ge0 (by omega)), if_pos (by rw [show (40 : Int32) = nI 40 from rfl, nI_leI (by omega) (by decide)]; exact hz)]
  rw [hh]
  obtain ⟨l1, l2⟩ := sh_L s (mU (mU M 8 (vn s) b) 9 (vn s) (nI z)) 40
  have hX : ∀ p, p ≠ 51 + 2 * vn s → p ≠ 52 + 2 * vn s → x7_fill_53178 (mU (mU X (51 + 2 * vn s) 1 b) (51 + 2 * vn s) 2 (nI z)) (51 + 2 * vn s + 1) 40 0 p = X p := fun p h1 h2 => by
    rw [gw_fill _ _ _ _ _ (by omega), mU_row h1, mU_row h1]
  refine AL_mk rfl (INV_S h (fun u hu => ?_) (fun p hp => hX p (by omega) (by omega)) (fun i h8 h9 h10 _ => by rw [l2 i h10, mU_row h9, mU_row h8]))
  obtain ⟨s1, s2, ⟨zz, s3, s4⟩, s5⟩ := h.2.2.2.2.2.1 u hu
  rw [l2 8 (by decide), l2 9 (by decide)]
  by_cases e : u = vn s
  · subst e
    rw [gw_fill _ _ _ _ _ (by omega)]
    refine ⟨?_, ?_, ⟨z, hz, ?_⟩, fun j hj => ?_⟩
    · rw [mU_ne (by decide), mU_eq, mU_row (by decide), mU_eq]
    · rw [mU_eq, mU_eq]
    · rw [mU_eq]
    · rw [fill_pt, if_pos (by omega), if_pos hj, l1, if_pos (by omega)]
  · rw [hX _ (by omega) (by omega), hX _ (by omega) (by omega)]
    refine ⟨?_, ?_, ⟨zz, s3, ?_⟩, fun j hj => ?_⟩
    · rw [mU_row (by decide), mU_ne e]; exact s1
    · rw [mU_ne e, mU_row (by decide)]; exact s2
    · rw [mU_ne e, mU_row (by decide)]; exact s4
    · rw [l1, if_neg (by omega), mU_row (by decide), mU_row (by decide)]; exact s5 j hj
theorem sheet_e {n : Nat} {tt : tT} {X : xS} {M : mS} (h : INV n tt X M) (s b v : Int32) : AL n tt (x8_sheet X s b v) (mF_sheet M s b v) := by
  unfold x8_sheet mF_sheet p8_isSheet
  simp only [lt2_p]
  by_cases c0 : sF_isSheet s = 0
  · rw [if_pos (show p8_within s 0 3 = 0 from c0), if_pos c0]; exact er1 h
  rw [if_neg (show ¬ p8_within s 0 3 = 0 from c0), if_neg c0]
  obtain ⟨s1, s2⟩ := shs c0
  have key : ∀ w : Int32 × xS, (w = (if b = 0 then (if b = 0 then (lt ((if b = 0 then 0 else v) : Int32) fun (y81 : Int32) => (lt (x5_startAnew X (51 + 2 * (vn s)) b y81) fun (X81 : xS) => (1, X81))) else (if v ≤ 40 then (lt ((if b = 0 then 0 else v) : Int32) fun (y81 : Int32) => (lt (x5_startAnew X (51 + 2 * (vn s)) b y81) fun (X81 : xS) => (1, X81))) else x8_error X 1)) else (if 0 ≤ v then (if b = 0 then (lt ((if b = 0 then 0 else v) : Int32) fun (y81 : Int32) => (lt (x5_startAnew X (51 + 2 * (vn s)) b y81) fun (X81 : xS) => (1, X81))) else (if v ≤ 40 then (lt ((if b = 0 then 0 else v) : Int32) fun (y81 : Int32) => (lt (x5_startAnew X (51 + 2 * (vn s)) b y81) fun (X81 : xS) => (1, X81))) else x8_error X 1)) else x8_error X 3))) → AL n tt w (mF_sheet_J36 M s b v) := by
    intro w hw
    rw [hw]
    unfold mF_sheet_J36 mF_sheet_J51
    simp only [lt_i, lt2_p]
    by_cases b0 : b = 0
    · simp only [if_pos b0]
      exact shn_e h s2 (z := 0) (by decide) rfl (by rw [if_pos b0]; rfl)
    · simp only [if_neg b0]
      by_cases v0 : 0 ≤ v
      · rw [if_pos v0, if_pos v0]
        by_cases v4 : v ≤ 40
        · rw [if_pos v4, if_pos v4]
          obtain ⟨w1, w2⟩ := nn_of (n := 40) (Int32.not_lt.mpr v0) v4 (by decide)
          exact shn_e h s2 w2 w1 (by rw [if_neg b0]; exact w1)
        · rw [if_neg v4, if_neg v4]; exact er1 h
      · rw [if_neg v0, if_neg v0]; exact er3 h
  generalize hK : (if b = 0 then (if b = 0 then (lt ((if b = 0 then 0 else v) : Int32) fun (y81 : Int32) => (lt (x5_startAnew X (51 + 2 * (vn s)) b y81) fun (X81 : xS) => ((1 : Int32), X81))) else (if v ≤ 40 then (lt ((if b = 0 then 0 else v) : Int32) fun (y81 : Int32) => (lt (x5_startAnew X (51 + 2 * (vn s)) b y81) fun (X81 : xS) => ((1 : Int32), X81))) else x8_error X 1)) else (if 0 ≤ v then (if b = 0 then (lt ((if b = 0 then 0 else v) : Int32) fun (y81 : Int32) => (lt (x5_startAnew X (51 + 2 * (vn s)) b y81) fun (X81 : xS) => ((1 : Int32), X81))) else (if v ≤ 40 then (lt ((if b = 0 then 0 else v) : Int32) fun (y81 : Int32) => (lt (x5_startAnew X (51 + 2 * (vn s)) b y81) fun (X81 : xS) => ((1 : Int32), X81))) else x8_error X 1)) else x8_error X 3)) = K
  have hk := key K hK.symm
  by_cases b0 : b = 0
  · rw [if_pos b0, if_pos b0]; exact hk
  rw [if_neg b0, if_neg b0]
  by_cases b8 : b = 8
  · rw [if_pos b8, if_pos b8]; exact hk
  rw [if_neg b8, if_neg b8]
  by_cases b16 : b = 16
  · rw [if_pos b16, if_pos b16]; exact hk
  rw [if_neg b16, if_neg b16]
  by_cases b32 : b = 32
  · rw [if_pos b32, if_pos b32]; exact hk
  rw [if_neg b32, if_neg b32]
  exact er1 h
theorem put_e {n : Nat} {tt : tT} {X : xS} {M : mS} (h : INV n tt X M) (s i v : Int32) : AL n tt (x8_put X s i v) (mF_put M s i v) := by
  unfold x8_put mF_put p8_isSheet x5_set sF_narrow
  simp only [lt_i, lt2_p]
  by_cases c0 : sF_isSheet s = 0
  · rw [if_pos (show p8_within s 0 3 = 0 from c0), if_pos c0]; exact er1 h
  rw [if_neg (show ¬ p8_within s 0 3 = 0 from c0), if_neg c0]
  obtain ⟨w1, w2⟩ := shs c0
  obtain ⟨s1, s2, ⟨zz, s3, s4⟩, s5⟩ := h.2.2.2.2.2.1 (vn s) w2
  by_cases c1 : M 8 (vn s) = 0
  · rw [if_neg (fun e => (mis_e _ _).mp e (s1.trans c1)), if_pos c1]; exact er2 h
  rw [if_pos ((mis_e _ _).mpr (fun e => c1 (s1.symm.trans e))), if_neg c1, s2]
  by_cases c2 : sF_in i 0 (M 9 (vn s) - 1) = 0
  · rw [if_pos (show p8_within i 0 (M 9 (vn s) - 1) = 0 from c2), if_pos c2]; exact er1 h
  rw [if_neg (show ¬ p8_within i 0 (M 9 (vn s) - 1) = 0 from c2), if_neg c2]
  have hz0 : ¬ zz = 0 := by
    intro e
    rw [s4, e] at c2
    exact c2 (in_m1 i)
  obtain ⟨i1, i2⟩ := in_nat (n := zz - 1) c2 (nt_subI s4 hz0)
  rw [if_neg (in_of c2).1, if_neg (show ¬ M 9 (vn s) ≤ i by rw [s4, i1, nI_leI (by omega) (by omega)]; omega), s1]
  have hX : ∀ p, p ≠ 52 + 2 * vn s → ∀ w, mU X (51 + 2 * vn s + 1) (vn i) w p = X p := fun p h2 w => mU_row (by omega)
  generalize (if M 8 (vn s) = 8 then v.toInt8.toInt32 else if M 8 (vn s) = 16 then v.toInt16.toInt32 else v) = w
  refine AL_mk rfl (INV_S h (fun u hu => ?_) (fun p hp => hX p (by omega) w) (fun i _ _ h10 _ => mU_row h10))
  obtain ⟨t1, t2, t3, t5⟩ := h.2.2.2.2.2.1 u hu
  rw [hX _ (by omega), mU_row (show 8 ≠ 10 by decide), mU_row (show 9 ≠ 10 by decide)]
  refine ⟨t1, t2, t3, fun j hj => ?_⟩
  by_cases e : u = vn s
  · subst e
    rw [mU_pt, mU_sm]
    by_cases e2 : j = vn i
    · rw [if_pos ⟨by omega, e2⟩, if_pos (by omega)]
    · rw [if_neg (by omega), if_neg (by omega)]; exact t5 j hj
  · rw [hX _ (by omega), mU_ne (by omega)]; exact t5 j hj
theorem mv_L119 (M : mS) (s i : Int32) : ∀ k, (∀ j, j < k → mF_move_L119 M s i k 11 j = M 10 (40 * vn s + vn i + j)) ∧ ∀ r, r ≠ 11 → mF_move_L119 M s i k r = M r := by
  intro k
  induction k with
  | zero => exact ⟨fun j hj => absurd hj (Nat.not_lt_zero _), fun _ _ => rfl⟩
  | succ k ih =>
    refine ⟨fun j hj => ?_, fun r hr => ?_⟩
    · rw [mF_move_L119_s]
      simp only [lt_i]
      rw [mU_sm, ih.2 10 (by decide)]
      by_cases e : j = k
      · rw [if_pos e, e]
      · rw [if_neg e]; exact ih.1 j (by omega)
    · rw [mF_move_L119_s]
      simp only [lt_i]
      rw [mU_row hr]
      exact ih.2 r hr
theorem mv_L156 (N : mS) (s j : Int32) : ∀ k, (∀ x, mF_move_L156 s j N k 10 x = if 40 * vn s + vn j ≤ x ∧ x < 40 * vn s + vn j + k then N 11 (x - (40 * vn s + vn j)) else N 10 x) ∧ ∀ r, r ≠ 10 → mF_move_L156 s j N k r = N r := by
  intro k
  induction k with
  | zero => exact ⟨fun x => by rw [if_neg (by omega)]; rfl, fun _ _ => rfl⟩
  | succ k ih =>
    refine ⟨fun x => ?_, fun r hr => ?_⟩
    · rw [mF_move_L156_s]
      simp only [lt_i]
      rw [mU_sm, ih.1, ih.2 11 (by decide)]
      by_cases e : x = 40 * vn s + vn j + k
      · rw [if_pos e, if_pos (by omega), show x - (40 * vn s + vn j) = k by omega]
      · rw [if_neg e]
        by_cases e2 : 40 * vn s + vn j ≤ x ∧ x < 40 * vn s + vn j + k
        · rw [if_pos e2, if_pos (by omega)]
        · rw [if_neg e2, if_neg (by omega)]
    · rw [mF_move_L156_s]
      simp only [lt_i]
      rw [mU_row hr]
      exact ih.2 r hr
theorem move_e {n : Nat} {tt : tT} {X : xS} {M : mS} (h : INV n tt X M) (s i s2 j v : Int32) : AL n tt (x8_move X s i s2 j v) (mF_move M s i s2 j v) := by
  unfold x8_move mF_move p8_isSheet
  simp only [lt_i, lt2_p]
  by_cases c0 : sF_isSheet s = 0
  · rw [if_pos (show p8_within s 0 3 = 0 from c0), if_pos c0]; exact er1 h
  rw [if_neg (show ¬ p8_within s 0 3 = 0 from c0), if_neg c0]
  by_cases c00 : sF_isSheet s2 = 0
  · rw [if_pos (show p8_within s2 0 3 = 0 from c00), if_pos c00]; exact er1 h
  rw [if_neg (show ¬ p8_within s2 0 3 = 0 from c00), if_neg c00]
  obtain ⟨w1, w2⟩ := shs c0
  obtain ⟨u1, u2⟩ := shs c00
  obtain ⟨a1, a2, ⟨za, a3, a4⟩, a5⟩ := h.2.2.2.2.2.1 (vn s) w2
  obtain ⟨b1, b2, ⟨zb, b3, b4⟩, b5⟩ := h.2.2.2.2.2.1 (vn s2) u2
  by_cases c1 : M 8 (vn s) = 0
  · rw [if_neg (fun e => (mis_e _ _).mp e (a1.trans c1)), if_pos c1]; exact er2 h
  rw [if_pos ((mis_e _ _).mpr (fun e => c1 (a1.symm.trans e))), if_neg c1]
  by_cases c2 : M 8 (vn s2) = 0
  · rw [if_neg (fun e => (mis_e _ _).mp e (b1.trans c2)), if_pos c2]; exact er2 h
  rw [if_pos ((mis_e _ _).mpr (fun e => c2 (b1.symm.trans e))), if_neg c2, a1, b1, a2, b2]
  by_cases c3 : M 8 (vn s) = M 8 (vn s2)
  · rw [if_pos c3, if_pos c3]
    by_cases c4 : v < 0
    · rw [if_pos c4, if_pos c4]; exact er1 h
    rw [if_neg c4, if_neg c4]
    unfold p8_within
    by_cases c5 : i < 0
    · simp only [if_pos c5, reduceIte]; exact er1 h
    simp only [if_neg c5]
    by_cases c6 : M 9 (vn s) - v < i
    · simp only [if_pos c6, reduceIte]
      by_cases c7 : j < 0
      · rw [if_pos c7]; exact er1 h
      · rw [if_neg c7]; exact er1 h
    simp only [if_neg c6, show ¬ ((1 : Int32) = 0) by decide, reduceIte]
    by_cases c7 : j < 0
    · simp only [if_pos c7, reduceIte]; exact er1 h
    simp only [if_neg c7]
    by_cases c8 : M 9 (vn s2) - v < j
    · rw [if_pos c8, if_pos rfl, if_neg (Int32.not_le.mpr c8)]; exact er1 h
    rw [if_neg c8, if_neg (by decide), if_pos (Int32.not_lt.mp c8)]
    have m1 := mv_b a4 a3 c4 c5 c6
    have m2 := mv_b b4 b3 c4 c7 c8
    obtain ⟨p1, p2⟩ := mv_L119 M s i (vn v)
    obtain ⟨q1, q2⟩ := mv_L156 (mF_move_L119 M s i (vn v)) s2 j (vn v)
    refine AL_mk rfl (INV_S h (fun u hu => ?_) (fun p hp => ?_) (fun r _ _ h10 h11 => by rw [q2 r h10, p2 r h11]))
    · obtain ⟨t1, t2, t3, t5⟩ := h.2.2.2.2.2.1 u hu
      have hr : xcg X (51 + 2 * vn s + 1) (51 + 2 * vn s2 + 1) (vn i) (vn j) (vn v) (51 + 2 * u) = X (51 + 2 * u) := va_up_ne X _ (by omega)
      rw [hr, q2 8 (by decide), q2 9 (by decide), p2 8 (by decide), p2 9 (by decide)]
      refine ⟨t1, t2, t3, fun k hk => ?_⟩
      by_cases e : u = vn s2
      · subst e
        have hx : xcg X (51 + 2 * vn s + 1) (51 + 2 * vn s2 + 1) (vn i) (vn j) (vn v) (52 + 2 * vn s2) k = if vn j ≤ k ∧ k < vn j + vn v then X (52 + 2 * vn s) (vn i + (k - vn j)) else X (52 + 2 * vn s2) k := by
          unfold xcg
          rw [show 52 + 2 * vn s2 = 51 + 2 * vn s2 + 1 by omega, va_up_self, show 51 + 2 * vn s + 1 = 52 + 2 * vn s by omega]
          rfl
        rw [hx, q1]
        by_cases e2 : vn j ≤ k ∧ k < vn j + vn v
        · rw [if_pos e2, if_pos (by omega), p1 _ (by omega), a5 _ (by omega)]
          congr 1
          omega
        · rw [if_neg e2, if_neg (by omega), p2 10 (by decide)]; exact t5 k hk
      · have hr2 : xcg X (51 + 2 * vn s + 1) (51 + 2 * vn s2 + 1) (vn i) (vn j) (vn v) (52 + 2 * u) = X (52 + 2 * u) := va_up_ne X _ (by omega)
        rw [hr2, q1, if_neg (by omega), p2 10 (by decide)]; exact t5 k hk
    · exact va_up_ne X _ (by omega)
  · rw [if_neg c3, if_neg c3]; exact er5 h
