/-! acts: voices -/
/-- while a voice speaks: traces alike, all else as at first -/
def vk (X0 : xS) (M0 : mS) (X : xS) (M : mS) : Prop := iV X M ∧ (∀ p, p ≠ 48 → p ≠ 49 → X p = X0 p) ∧ (∀ i, i ≠ 13 → i ≠ 0 → M i = M0 i) ∧ ∀ j, j ≠ 24 → M 0 j = M0 0 j
def AV (X0 : xS) (M0 : mS) (x : Int32 × xS) (m : Int32 × mS) : Prop := x.1 = m.1 ∧ vk X0 M0 x.2 m.2
theorem AV_s {X0 : xS} {M0 : mS} {x y : Int32} {X : xS} {M : mS} (h : x = y) (g : vk X0 M0 X M) : AV X0 M0 (x, X) (y, M) := ⟨h, g⟩
theorem ran_e {X0 : xS} {M0 : mS} {X : xS} {M : mS} (h : vk X0 M0 X M) (b : Int32) : vk X0 M0 (x4_add X 48 b) (mF_ran M b) := by
  obtain ⟨⟨n, n1, n2, n3, n4⟩, h2, h3, h4⟩ := h
  unfold mF_ran
  simp only [lt_i]
  rw [n3]
  by_cases c : n = 40
  · rw [if_pos (show 40 ≤ nI n by rw [c]; decide)]
    have e : x4_add X 48 b = X := by
      unfold x4_add
      simp only [lt_i]
      rw [n2, show rcap 48 = 40 from rfl, if_pos (by rw [c]; decide)]
    rw [e]
    exact ⟨⟨n, n1, n2, n3, n4⟩, h2, h3, h4⟩
  · rw [if_neg (show ¬ 40 ≤ nI n by rw [show (40 : Int32) = nI 40 from rfl, nI_leI (by decide) (by omega)]; omega), add_e (show rcap 48 = 40 from rfl) (by decide) n2 (by omega), vn_nI (by omega), mU_row (show 0 ≠ 13 by decide), n3, nI_1]
    refine ⟨⟨n + 1, by omega, mU_eq, mU_eq, fun j hj => ?_⟩, fun p h8 h9 => by rw [mU_row h8, mU_row h9]; exact h2 p h8 h9, fun i h13 h0 => by rw [mU_row h0, mU_row h13]; exact h3 i h13 h0, fun j hj => by rw [mU_ne hj, mU_row (by decide)]; exact h4 j hj⟩
    show mU (mU X 49 n b) 48 1 (nI (n + 1)) 49 j = _
    rw [mU_row (show 49 ≠ 48 by decide), mU_row (show 13 ≠ 0 by decide), mU_sm, mU_sm]
    by_cases e : j = n
    · rw [if_pos e, if_pos e]
    · rw [if_neg e, if_neg e]; exact n4 j (by omega)
def sayB (f : Nat) (b up own : Int32) (Y : xS) (x : Int32) : Int32 × xS :=
  if b = 10 then (x + Y 47 2, Y)
  else if b = 11 then ((x7_say f Y 0 own x).1 * 2, (x7_say f Y 0 own x).2)
  else if b = 12 then (x - Y 47 3, Y)
  else if b = 13 then ((x7_say f Y 1 own x).1 ^^^ (x7_say f (x7_say f Y 1 own x).2 2 own x).1, (x7_say f (x7_say f Y 1 own x).2 2 own x).2)
  else if b = 20 then ((x7_say f Y 0 up x).1 * 3, (x7_say f Y 0 up x).2)
  else if b = 30 then ((x7_say f Y 1 up x).1 - (x7_say f (x7_say f Y 1 up x).2 2 own 1).1, (x7_say f (x7_say f Y 1 up x).2 2 own 1).2)
  else if b = 40 then (-(x7_say f Y 2 up x).1, (x7_say f Y 2 up x).2)
  else if b = 50 then ((x7_say f Y 3 up x).1 - (x7_say f (x7_say f Y 3 up x).2 0 own 2).1, (x7_say f (x7_say f Y 3 up x).2 0 own 2).2)
  else if b = 60 then ((x7_say f Y 1 up (x + 1)).1, (x7_say f Y 1 up (x + 1)).2)
  else if b = 70 then ((x7_say f Y 2 up x).1 ^^^ (x7_say f Y 2 up x).2 47 2, (x7_say f Y 2 up x).2)
  else if b = 71 then ((x7_say f Y 1 own x).1 - (x7_say f (x7_say f Y 1 own x).2 3 up x).1, (x7_say f (x7_say f Y 1 own x).2 3 up x).2)
  else (0, Y)
theorem say_b {X : xS} {act of x o b up : Int32} {f : Nat} (ho : x7_ownerOf X act of = o) (h0 : ¬ o < 0) (hb : x7_bodyOf X act o = b) (hu : x1_above X o = up) : x7_say (f + 1) X act of x = sayB f b up (X 47 1) (x4_add X 48 b) x := by
  rw [x7_say_s, ho]
  simp only [lt_i, lt2_i]
  rw [if_neg h0, hb, hu]
  rfl
theorem sayB_10 (f : Nat) (up own : Int32) (Y : xS) (x : Int32) : sayB f 10 up own Y x = (x + Y 47 2, Y) := by
  unfold sayB
  rw [if_pos rfl]
theorem sayB_11 (f : Nat) (up own : Int32) (Y : xS) (x : Int32) : sayB f 11 up own Y x = ((x7_say f Y 0 own x).1 * 2, (x7_say f Y 0 own x).2) := by
  unfold sayB
  rw [if_neg (show ¬ (11 : Int32) = 10 by decide), if_pos rfl]
theorem sayB_12 (f : Nat) (up own : Int32) (Y : xS) (x : Int32) : sayB f 12 up own Y x = (x - Y 47 3, Y) := by
  unfold sayB
  rw [if_neg (show ¬ (12 : Int32) = 10 by decide), if_neg (show ¬ (12 : Int32) = 11 by decide), if_pos rfl]
theorem sayB_13 (f : Nat) (up own : Int32) (Y : xS) (x : Int32) : sayB f 13 up own Y x = ((x7_say f Y 1 own x).1 ^^^ (x7_say f (x7_say f Y 1 own x).2 2 own x).1, (x7_say f (x7_say f Y 1 own x).2 2 own x).2) := by
  unfold sayB
  rw [if_neg (show ¬ (13 : Int32) = 10 by decide), if_neg (show ¬ (13 : Int32) = 11 by decide), if_neg (show ¬ (13 : Int32) = 12 by decide), if_pos rfl]
theorem sayB_20 (f : Nat) (up own : Int32) (Y : xS) (x : Int32) : sayB f 20 up own Y x = ((x7_say f Y 0 up x).1 * 3, (x7_say f Y 0 up x).2) := by
  unfold sayB
  rw [if_neg (show ¬ (20 : Int32) = 10 by decide), if_neg (show ¬ (20 : Int32) = 11 by decide), if_neg (show ¬ (20 : Int32) = 12 by decide), if_neg (show ¬ (20 : Int32) = 13 by decide), if_pos rfl]
theorem sayB_30 (f : Nat) (up own : Int32) (Y : xS) (x : Int32) : sayB f 30 up own Y x = ((x7_say f Y 1 up x).1 - (x7_say f (x7_say f Y 1 up x).2 2 own 1).1, (x7_say f (x7_say f Y 1 up x).2 2 own 1).2) := by
  unfold sayB
  rw [if_neg (show ¬ (30 : Int32) = 10 by decide), if_neg (show ¬ (30 : Int32) = 11 by decide), if_neg (show ¬ (30 : Int32) = 12 by decide), if_neg (show ¬ (30 : Int32) = 13 by decide), if_neg (show ¬ (30 : Int32) = 20 by decide), if_pos rfl]
theorem sayB_40 (f : Nat) (up own : Int32) (Y : xS) (x : Int32) : sayB f 40 up own Y x = (-(x7_say f Y 2 up x).1, (x7_say f Y 2 up x).2) := by
  unfold sayB
  rw [if_neg (show ¬ (40 : Int32) = 10 by decide), if_neg (show ¬ (40 : Int32) = 11 by decide), if_neg (show ¬ (40 : Int32) = 12 by decide), if_neg (show ¬ (40 : Int32) = 13 by decide), if_neg (show ¬ (40 : Int32) = 20 by decide), if_neg (show ¬ (40 : Int32) = 30 by decide), if_pos rfl]
theorem sayB_50 (f : Nat) (up own : Int32) (Y : xS) (x : Int32) : sayB f 50 up own Y x = ((x7_say f Y 3 up x).1 - (x7_say f (x7_say f Y 3 up x).2 0 own 2).1, (x7_say f (x7_say f Y 3 up x).2 0 own 2).2) := by
  unfold sayB
  rw [if_neg (show ¬ (50 : Int32) = 10 by decide), if_neg (show ¬ (50 : Int32) = 11 by decide), if_neg (show ¬ (50 : Int32) = 12 by decide), if_neg (show ¬ (50 : Int32) = 13 by decide), if_neg (show ¬ (50 : Int32) = 20 by decide), if_neg (show ¬ (50 : Int32) = 30 by decide), if_neg (show ¬ (50 : Int32) = 40 by decide), if_pos rfl]
theorem sayB_60 (f : Nat) (up own : Int32) (Y : xS) (x : Int32) : sayB f 60 up own Y x = ((x7_say f Y 1 up (x + 1)).1, (x7_say f Y 1 up (x + 1)).2) := by
  unfold sayB
  rw [if_neg (show ¬ (60 : Int32) = 10 by decide), if_neg (show ¬ (60 : Int32) = 11 by decide), if_neg (show ¬ (60 : Int32) = 12 by decide), if_neg (show ¬ (60 : Int32) = 13 by decide), if_neg (show ¬ (60 : Int32) = 20 by decide), if_neg (show ¬ (60 : Int32) = 30 by decide), if_neg (show ¬ (60 : Int32) = 40 by decide), if_neg (show ¬ (60 : Int32) = 50 by decide), if_pos rfl]
theorem sayB_70 (f : Nat) (up own : Int32) (Y : xS) (x : Int32) : sayB f 70 up own Y x = ((x7_say f Y 2 up x).1 ^^^ (x7_say f Y 2 up x).2 47 2, (x7_say f Y 2 up x).2) := by
  unfold sayB
  rw [if_neg (show ¬ (70 : Int32) = 10 by decide), if_neg (show ¬ (70 : Int32) = 11 by decide), if_neg (show ¬ (70 : Int32) = 12 by decide), if_neg (show ¬ (70 : Int32) = 13 by decide), if_neg (show ¬ (70 : Int32) = 20 by decide), if_neg (show ¬ (70 : Int32) = 30 by decide), if_neg (show ¬ (70 : Int32) = 40 by decide), if_neg (show ¬ (70 : Int32) = 50 by decide), if_neg (show ¬ (70 : Int32) = 60 by decide), if_pos rfl]
theorem sayB_71 (f : Nat) (up own : Int32) (Y : xS) (x : Int32) : sayB f 71 up own Y x = ((x7_say f Y 1 own x).1 - (x7_say f (x7_say f Y 1 own x).2 3 up x).1, (x7_say f (x7_say f Y 1 own x).2 3 up x).2) := by
  unfold sayB
  rw [if_neg (show ¬ (71 : Int32) = 10 by decide), if_neg (show ¬ (71 : Int32) = 11 by decide), if_neg (show ¬ (71 : Int32) = 12 by decide), if_neg (show ¬ (71 : Int32) = 13 by decide), if_neg (show ¬ (71 : Int32) = 20 by decide), if_neg (show ¬ (71 : Int32) = 30 by decide), if_neg (show ¬ (71 : Int32) = 40 by decide), if_neg (show ¬ (71 : Int32) = 50 by decide), if_neg (show ¬ (71 : Int32) = 60 by decide), if_neg (show ¬ (71 : Int32) = 70 by decide), if_pos rfl]
theorem ow_X (X : xS) (a b : Int32) : x7_ownerOf X a b = x7_ownerOf (fun _ _ => 0) a b := rfl
theorem bo_X (X : xS) (a b : Int32) : x7_bodyOf X a b = x7_bodyOf (fun _ _ => 0) a b := rfl
theorem ab_X (X : xS) (a : Int32) : x1_above X a = x1_above (fun _ _ => 0) a := rfl
theorem ow_0_0 : x7_ownerOf (fun _ _ => 0) 0 (nI 0) = nI 0 := by decide +kernel
theorem ow_0_1 : x7_ownerOf (fun _ _ => 0) 0 (nI 1) = nI 1 := by decide +kernel
theorem ow_0_2 : x7_ownerOf (fun _ _ => 0) 0 (nI 2) = nI 0 := by decide +kernel
theorem ow_0_3 : x7_ownerOf (fun _ _ => 0) 0 (nI 3) = nI 0 := by decide +kernel
theorem ow_0_4 : x7_ownerOf (fun _ _ => 0) 0 (nI 4) = nI 1 := by decide +kernel
theorem ow_0_5 : x7_ownerOf (fun _ _ => 0) 0 (nI 5) = nI 0 := by decide +kernel
theorem ow_0_6 : x7_ownerOf (fun _ _ => 0) 0 (nI 6) = nI 0 := by decide +kernel
theorem ow_1_0 : x7_ownerOf (fun _ _ => 0) 1 (nI 0) = nI 0 := by decide +kernel
theorem ow_1_1 : x7_ownerOf (fun _ _ => 0) 1 (nI 1) = nI 0 := by decide +kernel
theorem ow_1_2 : x7_ownerOf (fun _ _ => 0) 1 (nI 2) = nI 2 := by decide +kernel
theorem ow_1_3 : x7_ownerOf (fun _ _ => 0) 1 (nI 3) = nI 0 := by decide +kernel
theorem ow_1_4 : x7_ownerOf (fun _ _ => 0) 1 (nI 4) = nI 0 := by decide +kernel
theorem ow_1_5 : x7_ownerOf (fun _ _ => 0) 1 (nI 5) = nI 5 := by decide +kernel
theorem ow_1_6 : x7_ownerOf (fun _ _ => 0) 1 (nI 6) = nI 0 := by decide +kernel
theorem ow_2_0 : x7_ownerOf (fun _ _ => 0) 2 (nI 0) = nI 0 := by decide +kernel
theorem ow_2_1 : x7_ownerOf (fun _ _ => 0) 2 (nI 1) = nI 0 := by decide +kernel
theorem ow_2_2 : x7_ownerOf (fun _ _ => 0) 2 (nI 2) = nI 0 := by decide +kernel
theorem ow_2_3 : x7_ownerOf (fun _ _ => 0) 2 (nI 3) = nI 3 := by decide +kernel
theorem ow_2_4 : x7_ownerOf (fun _ _ => 0) 2 (nI 4) = nI 0 := by decide +kernel
theorem ow_2_5 : x7_ownerOf (fun _ _ => 0) 2 (nI 5) = nI 0 := by decide +kernel
theorem ow_2_6 : x7_ownerOf (fun _ _ => 0) 2 (nI 6) = nI 6 := by decide +kernel
theorem ow_3_0 : x7_ownerOf (fun _ _ => 0) 3 (nI 0) = nI 0 := by decide +kernel
theorem ow_3_1 : x7_ownerOf (fun _ _ => 0) 3 (nI 1) = nI 0 := by decide +kernel
theorem ow_3_2 : x7_ownerOf (fun _ _ => 0) 3 (nI 2) = nI 0 := by decide +kernel
theorem ow_3_3 : x7_ownerOf (fun _ _ => 0) 3 (nI 3) = nI 0 := by decide +kernel
theorem ow_3_4 : x7_ownerOf (fun _ _ => 0) 3 (nI 4) = nI 4 := by decide +kernel
theorem ow_3_5 : x7_ownerOf (fun _ _ => 0) 3 (nI 5) = nI 0 := by decide +kernel
theorem ow_3_6 : x7_ownerOf (fun _ _ => 0) 3 (nI 6) = nI 6 := by decide +kernel
theorem bo_0_0 : x7_bodyOf (fun _ _ => 0) 0 (nI 0) = 10 := by decide +kernel
theorem bo_0_1 : x7_bodyOf (fun _ _ => 0) 0 (nI 1) = 20 := by decide +kernel
theorem bo_1_0 : x7_bodyOf (fun _ _ => 0) 1 (nI 0) = 11 := by decide +kernel
theorem bo_1_2 : x7_bodyOf (fun _ _ => 0) 1 (nI 2) = 30 := by decide +kernel
theorem bo_1_5 : x7_bodyOf (fun _ _ => 0) 1 (nI 5) = 60 := by decide +kernel
theorem bo_2_0 : x7_bodyOf (fun _ _ => 0) 2 (nI 0) = 12 := by decide +kernel
theorem bo_2_3 : x7_bodyOf (fun _ _ => 0) 2 (nI 3) = 40 := by decide +kernel
theorem bo_2_6 : x7_bodyOf (fun _ _ => 0) 2 (nI 6) = 70 := by decide +kernel
theorem bo_3_0 : x7_bodyOf (fun _ _ => 0) 3 (nI 0) = 13 := by decide +kernel
theorem bo_3_4 : x7_bodyOf (fun _ _ => 0) 3 (nI 4) = 50 := by decide +kernel
theorem bo_3_6 : x7_bodyOf (fun _ _ => 0) 3 (nI 6) = 71 := by decide +kernel
theorem ab_0 : x1_above (fun _ _ => 0) (nI 0) = (-1) := by decide +kernel
theorem ab_1 : x1_above (fun _ _ => 0) (nI 1) = 0 := by decide +kernel
theorem ab_2 : x1_above (fun _ _ => 0) (nI 2) = 0 := by decide +kernel
theorem ab_3 : x1_above (fun _ _ => 0) (nI 3) = 0 := by decide +kernel
theorem ab_4 : x1_above (fun _ _ => 0) (nI 4) = 1 := by decide +kernel
theorem ab_5 : x1_above (fun _ _ => 0) (nI 5) = 2 := by decide +kernel
theorem ab_6 : x1_above (fun _ _ => 0) (nI 6) = 3 := by decide +kernel
theorem owl_0_0 : x7_ownerOf (fun _ _ => 0) 0 0 = nI 0 := by decide +kernel
theorem owl_2_0 : x7_ownerOf (fun _ _ => 0) 2 0 = nI 0 := by decide +kernel
theorem owl_2_3 : x7_ownerOf (fun _ _ => 0) 2 3 = nI 3 := by decide +kernel
theorem owl_1_0 : x7_ownerOf (fun _ _ => 0) 1 0 = nI 0 := by decide +kernel
theorem owl_1_2 : x7_ownerOf (fun _ _ => 0) 1 2 = nI 2 := by decide +kernel
theorem owl_3_1 : x7_ownerOf (fun _ _ => 0) 3 1 = nI 0 := by decide +kernel
theorem owl_3_3 : x7_ownerOf (fun _ _ => 0) 3 3 = nI 0 := by decide +kernel
section
variable {X0 : xS} {M0 : mS} {J : Nat} {X : xS} {M : mS}
/-- the one who speaks -/
def who (X0 : xS) (M0 : mS) (J : Nat) : Prop := J ≤ 6 ∧ X0 47 1 = nI J ∧ M0 0 25 = nI J ∧ X0 47 2 = M0 0 26 ∧ X0 47 3 = M0 0 27
theorem who_x (w : who X0 M0 J) (h : vk X0 M0 X M) : X 47 1 = nI J ∧ M 0 25 = nI J ∧ X 47 2 = M 0 26 ∧ X 47 3 = M 0 27 := by
  rw [h.2.1 47 (by decide) (by decide), h.2.2.2 25 (by decide), h.2.2.2 26 (by decide), h.2.2.2 27 (by decide)]
  exact w.2
theorem lo_0 (w : who X0 M0 J) (h : vk X0 M0 X M) {of x : Int32} {f : Nat} (ho : x7_ownerOf X 0 of = nI 0) : AV X0 M0 (x7_say (f + 1) X 0 of x) (mF_looksIn_0 M x) := by
  rw [say_b ho (by decide) (show x7_bodyOf X 0 (nI 0) = 10 from (bo_X _ _ _).trans bo_0_0) rfl, sayB_10]
  have h1 := ran_e h 10
  unfold mF_looksIn_0
  simp only [lt_i]
  refine AV_s ?_ h1
  rw [(who_x w h1).2.2.1]
theorem lo_1 (w : who X0 M0 J) (h : vk X0 M0 X M) {of x : Int32} {f : Nat} (ho : x7_ownerOf X 0 of = nI 1) : AV X0 M0 (x7_say (f + 2) X 0 of x) (mF_looksIn_1 M x) := by
  rw [say_b ho (by decide) (show x7_bodyOf X 0 (nI 1) = 20 from (bo_X _ _ _).trans bo_0_1) (show x1_above X (nI 1) = 0 from (ab_X _ _).trans ab_1), sayB_20]
  have h1 := ran_e h 20
  obtain ⟨a, b⟩ := lo_0 w h1 (of := 0) (x := x) (f := f) ((ow_X _ _ _).trans owl_0_0)
  unfold mF_looksIn_1
  simp only [lt_i, lt2_i]
  refine AV_s ?_ b
  rw [a]
theorem lo_e (w : who X0 M0 J) (h : vk X0 M0 X M) {k : Nat} (hk : k ≤ 6) {x : Int32} {f : Nat} : AV X0 M0 (x7_say (f + 2) X 0 (nI k) x) (mF_looksIn M (nI k) x) := by
  rcases (show k = 0 ∨ k = 1 ∨ k = 2 ∨ k = 3 ∨ k = 4 ∨ k = 5 ∨ k = 6 by omega) with rfl | rfl | rfl | rfl | rfl | rfl | rfl
  · rw [mF_looksIn_at0]; exact lo_0 w h ((ow_X _ _ _).trans ow_0_0)
  · rw [mF_looksIn_at1]; exact lo_1 w h ((ow_X _ _ _).trans ow_0_1)
  · rw [mF_looksIn_at2]; unfold mF_looksIn_2; rw [lt2_p]; exact lo_0 w h ((ow_X _ _ _).trans ow_0_2)
  · rw [mF_looksIn_at3]; unfold mF_looksIn_3; rw [lt2_p]; exact lo_0 w h ((ow_X _ _ _).trans ow_0_3)
  · rw [mF_looksIn_at4]; unfold mF_looksIn_4; rw [lt2_p]; exact lo_1 w h ((ow_X _ _ _).trans ow_0_4)
  · rw [mF_looksIn_at5]; unfold mF_looksIn_5 mF_looksIn_2; rw [lt2_p, lt2_p]; exact lo_0 w h ((ow_X _ _ _).trans ow_0_5)
  · rw [mF_looksIn_at6]; unfold mF_looksIn_6 mF_looksIn_3; rw [lt2_p, lt2_p]; exact lo_0 w h ((ow_X _ _ _).trans ow_0_6)
theorem gl_0 (w : who X0 M0 J) (h : vk X0 M0 X M) {of x : Int32} {f : Nat} (ho : x7_ownerOf X 2 of = nI 0) : AV X0 M0 (x7_say (f + 1) X 2 of x) (mF_glancesIn_0 M x) := by
  rw [say_b ho (by decide) (show x7_bodyOf X 2 (nI 0) = 12 from (bo_X _ _ _).trans bo_2_0) rfl, sayB_12]
  have h1 := ran_e h 12
  unfold mF_glancesIn_0
  simp only [lt_i]
  refine AV_s ?_ h1
  rw [(who_x w h1).2.2.2]
theorem gl_3 (w : who X0 M0 J) (h : vk X0 M0 X M) {of x : Int32} {f : Nat} (ho : x7_ownerOf X 2 of = nI 3) : AV X0 M0 (x7_say (f + 2) X 2 of x) (mF_glancesIn_3 M x) := by
  rw [say_b ho (by decide) (show x7_bodyOf X 2 (nI 3) = 40 from (bo_X _ _ _).trans bo_2_3) (show x1_above X (nI 3) = 0 from (ab_X _ _).trans ab_3), sayB_40]
  have h1 := ran_e h 40
  obtain ⟨a, b⟩ := gl_0 w h1 (of := 0) (x := x) (f := f) ((ow_X _ _ _).trans owl_2_0)
  unfold mF_glancesIn_3
  simp only [lt_i, lt2_i]
  refine AV_s ?_ b
  rw [a]
theorem gl_6 (w : who X0 M0 J) (h : vk X0 M0 X M) {of x : Int32} {f : Nat} (ho : x7_ownerOf X 2 of = nI 6) : AV X0 M0 (x7_say (f + 3) X 2 of x) (mF_glancesIn_6 M x) := by
  rw [say_b ho (by decide) (show x7_bodyOf X 2 (nI 6) = 70 from (bo_X _ _ _).trans bo_2_6) (show x1_above X (nI 6) = 3 from (ab_X _ _).trans ab_6), sayB_70]
  have h1 := ran_e h 70
  obtain ⟨a, b⟩ := gl_3 w h1 (of := 3) (x := x) (f := f) ((ow_X _ _ _).trans owl_2_3)
  unfold mF_glancesIn_6
  simp only [lt_i, lt2_i]
  refine AV_s ?_ b
  rw [a, (who_x w b).2.2.1]
theorem gl_e (w : who X0 M0 J) (h : vk X0 M0 X M) {k : Nat} (hk : k ≤ 6) {x : Int32} {f : Nat} : AV X0 M0 (x7_say (f + 3) X 2 (nI k) x) (mF_glancesIn M (nI k) x) := by
  rcases (show k = 0 ∨ k = 1 ∨ k = 2 ∨ k = 3 ∨ k = 4 ∨ k = 5 ∨ k = 6 by omega) with rfl | rfl | rfl | rfl | rfl | rfl | rfl
  · rw [mF_glancesIn_at0]; exact gl_0 w h ((ow_X _ _ _).trans ow_2_0)
  · rw [mF_glancesIn_at1]; unfold mF_glancesIn_1; rw [lt2_p]; exact gl_0 w h ((ow_X _ _ _).trans ow_2_1)
  · rw [mF_glancesIn_at2]; unfold mF_glancesIn_2; rw [lt2_p]; exact gl_0 w h ((ow_X _ _ _).trans ow_2_2)
  · rw [mF_glancesIn_at3]; exact gl_3 w h ((ow_X _ _ _).trans ow_2_3)
  · rw [mF_glancesIn_at4]; unfold mF_glancesIn_4 mF_glancesIn_1; rw [lt2_p, lt2_p]; exact gl_0 w h ((ow_X _ _ _).trans ow_2_4)
  · rw [mF_glancesIn_at5]; unfold mF_glancesIn_5 mF_glancesIn_2; rw [lt2_p, lt2_p]; exact gl_0 w h ((ow_X _ _ _).trans ow_2_5)
  · rw [mF_glancesIn_at6]; exact gl_6 w h ((ow_X _ _ _).trans ow_2_6)
theorem ad_0 (w : who X0 M0 J) (h : vk X0 M0 X M) {of x : Int32} {f : Nat} (ho : x7_ownerOf X 1 of = nI 0) : AV X0 M0 (x7_say (f + 3) X 1 of x) (mF_addsIn_0 M x) := by
  rw [say_b ho (by decide) (show x7_bodyOf X 1 (nI 0) = 11 from (bo_X _ _ _).trans bo_1_0) rfl, (who_x w h).1, sayB_11]
  have h1 := ran_e h 11
  obtain ⟨a, b⟩ := lo_e w h1 w.1 (x := x) (f := f)
  unfold mF_addsIn_0
  simp only [lt_i, lt2_i]
  rw [(who_x w h1).2.1]
  refine AV_s ?_ b
  rw [a]
theorem ad_2 (w : who X0 M0 J) (h : vk X0 M0 X M) {of x : Int32} {f : Nat} (ho : x7_ownerOf X 1 of = nI 2) : AV X0 M0 (x7_say (f + 4) X 1 of x) (mF_addsIn_2 M x) := by
  rw [say_b ho (by decide) (show x7_bodyOf X 1 (nI 2) = 30 from (bo_X _ _ _).trans bo_1_2) (show x1_above X (nI 2) = 0 from (ab_X _ _).trans ab_2), (who_x w h).1, sayB_30]
  have h1 := ran_e h 30
  obtain ⟨a, b⟩ := ad_0 w h1 (of := 0) (x := x) (f := f) ((ow_X _ _ _).trans owl_1_0)
  obtain ⟨c, d⟩ := gl_e w b w.1 (x := 1) (f := f)
  unfold mF_addsIn_2
  simp only [lt_i, lt2_i]
  rw [(who_x w b).2.1]
  refine AV_s ?_ d
  rw [a, c]
theorem ad_5 (w : who X0 M0 J) (h : vk X0 M0 X M) {of x : Int32} {f : Nat} (ho : x7_ownerOf X 1 of = nI 5) : AV X0 M0 (x7_say (f + 5) X 1 of x) (mF_addsIn_5 M x) := by
  rw [say_b ho (by decide) (show x7_bodyOf X 1 (nI 5) = 60 from (bo_X _ _ _).trans bo_1_5) (show x1_above X (nI 5) = 2 from (ab_X _ _).trans ab_5), sayB_60]
  have h1 := ran_e h 60
  obtain ⟨a, b⟩ := ad_2 w h1 (of := 2) (x := x + 1) (f := f) ((ow_X _ _ _).trans owl_1_2)
  unfold mF_addsIn_5
  simp only [lt_i, lt2_i]
  exact AV_s a b
theorem ad_e (w : who X0 M0 J) (h : vk X0 M0 X M) {k : Nat} (hk : k ≤ 6) {x : Int32} {f : Nat} : AV X0 M0 (x7_say (f + 5) X 1 (nI k) x) (mF_addsIn M (nI k) x) := by
  rcases (show k = 0 ∨ k = 1 ∨ k = 2 ∨ k = 3 ∨ k = 4 ∨ k = 5 ∨ k = 6 by omega) with rfl | rfl | rfl | rfl | rfl | rfl | rfl
  · rw [mF_addsIn_at0]; exact ad_0 w h ((ow_X _ _ _).trans ow_1_0)
  · rw [mF_addsIn_at1]; unfold mF_addsIn_1; rw [lt2_p]; exact ad_0 w h ((ow_X _ _ _).trans ow_1_1)
  · rw [mF_addsIn_at2]; exact ad_2 w h ((ow_X _ _ _).trans ow_1_2)
  · rw [mF_addsIn_at3]; unfold mF_addsIn_3; rw [lt2_p]; exact ad_0 w h ((ow_X _ _ _).trans ow_1_3)
  · rw [mF_addsIn_at4]; unfold mF_addsIn_4 mF_addsIn_1; rw [lt2_p, lt2_p]; exact ad_0 w h ((ow_X _ _ _).trans ow_1_4)
  · rw [mF_addsIn_at5]; exact ad_5 w h ((ow_X _ _ _).trans ow_1_5)
  · rw [mF_addsIn_at6]; unfold mF_addsIn_6 mF_addsIn_3; rw [lt2_p, lt2_p]; exact ad_0 w h ((ow_X _ _ _).trans ow_1_6)
theorem pv_0 (w : who X0 M0 J) (h : vk X0 M0 X M) {of x : Int32} {f : Nat} (ho : x7_ownerOf X 3 of = nI 0) : AV X0 M0 (x7_say (f + 6) X 3 of x) (mF_provesIn_0 M x) := by
  rw [say_b ho (by decide) (show x7_bodyOf X 3 (nI 0) = 13 from (bo_X _ _ _).trans bo_3_0) rfl, (who_x w h).1, sayB_13]
  have h1 := ran_e h 13
  obtain ⟨a, b⟩ := ad_e w h1 w.1 (x := x) (f := f)
  obtain ⟨c, d⟩ := gl_e w b w.1 (x := x) (f := f + 2)
  unfold mF_provesIn_0
  simp only [lt_i, lt2_i]
  rw [(who_x w h1).2.1, (who_x w b).2.1]
  refine AV_s ?_ d
  rw [a, c]
theorem pv_4 (w : who X0 M0 J) (h : vk X0 M0 X M) {of x : Int32} {f : Nat} (ho : x7_ownerOf X 3 of = nI 4) : AV X0 M0 (x7_say (f + 7) X 3 of x) (mF_provesIn_4 M x) := by
  rw [say_b ho (by decide) (show x7_bodyOf X 3 (nI 4) = 50 from (bo_X _ _ _).trans bo_3_4) (show x1_above X (nI 4) = 1 from (ab_X _ _).trans ab_4), (who_x w h).1, sayB_50]
  have h1 := ran_e h 50
  obtain ⟨a, b⟩ := pv_0 w h1 (of := 1) (x := x) (f := f) ((ow_X _ _ _).trans owl_3_1)
  obtain ⟨c, d⟩ := lo_e w b w.1 (x := 2) (f := f + 4)
  unfold mF_provesIn_4 mF_provesIn_1
  simp only [lt_i, lt2_i]
  rw [(who_x w b).2.1]
  refine AV_s ?_ d
  rw [a, c]
theorem pv_6 (w : who X0 M0 J) (h : vk X0 M0 X M) {of x : Int32} {f : Nat} (ho : x7_ownerOf X 3 of = nI 6) : AV X0 M0 (x7_say (f + 7) X 3 of x) (mF_provesIn_6 M x) := by
  rw [say_b ho (by decide) (show x7_bodyOf X 3 (nI 6) = 71 from (bo_X _ _ _).trans bo_3_6) (show x1_above X (nI 6) = 3 from (ab_X _ _).trans ab_6), (who_x w h).1, sayB_71]
  have h1 := ran_e h 71
  obtain ⟨a, b⟩ := ad_e w h1 w.1 (x := x) (f := f + 1)
  obtain ⟨c, d⟩ := pv_0 w b (of := 3) (x := x) (f := f) ((ow_X _ _ _).trans owl_3_3)
  unfold mF_provesIn_6 mF_provesIn_3
  simp only [lt_i, lt2_i]
  rw [(who_x w h1).2.1]
  refine AV_s ?_ d
  rw [a, c]
theorem pv_e (w : who X0 M0 J) (h : vk X0 M0 X M) {k : Nat} (hk : k ≤ 6) {x : Int32} {f : Nat} : AV X0 M0 (x7_say (f + 7) X 3 (nI k) x) (mF_provesIn M (nI k) x) := by
  rcases (show k = 0 ∨ k = 1 ∨ k = 2 ∨ k = 3 ∨ k = 4 ∨ k = 5 ∨ k = 6 by omega) with rfl | rfl | rfl | rfl | rfl | rfl | rfl
  · rw [mF_provesIn_at0]; exact pv_0 w h ((ow_X _ _ _).trans ow_3_0)
  · rw [mF_provesIn_at1]; unfold mF_provesIn_1; rw [lt2_p]; exact pv_0 w h ((ow_X _ _ _).trans ow_3_1)
  · rw [mF_provesIn_at2]; unfold mF_provesIn_2; rw [lt2_p]; exact pv_0 w h ((ow_X _ _ _).trans ow_3_2)
  · rw [mF_provesIn_at3]; unfold mF_provesIn_3; rw [lt2_p]; exact pv_0 w h ((ow_X _ _ _).trans ow_3_3)
  · rw [mF_provesIn_at4]; exact pv_4 w h ((ow_X _ _ _).trans ow_3_4)
  · rw [mF_provesIn_at5]; unfold mF_provesIn_5 mF_provesIn_2; rw [lt2_p, lt2_p]; exact pv_0 w h ((ow_X _ _ _).trans ow_3_5)
  · rw [mF_provesIn_at6]; exact pv_6 w h ((ow_X _ _ _).trans ow_3_6)
end
theorem INV_V {n : Nat} {tt : tT} {X X2 : xS} {M M2 : mS} (h : INV n tt X M) (hV : iV X2 M2) (hX : ∀ p, p ≠ 47 → p ≠ 48 → p ≠ 49 → X2 p = X p) (hM : ∀ i, i ≠ 13 → i ≠ 0 → M2 i = M i) (h0 : ∀ j, j < 24 → M2 0 j = M 0 j) : INV n tt X2 M2 := by
  obtain ⟨g1, ⟨k, k1, k2, k3, k4, k5, k6⟩, g3, g4, g5, g6, g7⟩ := h.2
  refine ⟨iE_c h.1 (fun a _ _ _ => hX a (by omega) (by omega) (by omega)) (fun x _ => by rw [hM 1 (by decide) (by decide)]), ?_, ⟨k, k1, ?_, ?_, ?_, ?_, fun hk => ?_⟩, ?_, hV, ?_, ?_, ?_⟩
  · unfold aB; rw [h0 15 (by decide)]; exact g1
  · rw [hX 0 (by decide) (by decide) (by decide)]; exact k2
  · rw [h0 5 (by decide)]; exact k3
  · rw [h0 4 (by decide)]; exact k4
  · unfold zR; rw [hX _ (by decide) (by decide) (by decide), hX _ (by decide) (by decide) (by decide)]; exact k5
  · exact iE_c (k6 hk) (fun a _ _ _ => hX a (by omega) (by omega) (by omega)) (fun x _ => by rw [hM 2 (by decide) (by decide)])
  · intro j j1 j2
    rw [hX 61 (by decide) (by decide) (by decide), hM 5 (by decide) (by decide)]; exact g3 j j1 j2
  · intro s hs
    rw [hX _ (by omega) (by omega) (by omega), hX _ (by omega) (by omega) (by omega), hM 8 (by decide) (by decide), hM 9 (by decide) (by decide), hM 10 (by decide) (by decide)]; exact g5 s hs
  · unfold iL; rw [hX 46 (by decide) (by decide) (by decide)]; exact g6
  · unfold dN; rw [hX 37 (by decide) (by decide) (by decide), hX 38 (by decide) (by decide) (by decide), hX 40 (by decide) (by decide) (by decide)]; exact g7
set_option maxHeartbeats 200000 in
theorem voice_e {n : Nat} {tt : tT} {X : xS} {M : mS} (h : INV n tt X M) (q act x : Int32) : AL n tt (x8_voice X q act x) (mF_voice M q act x) := by
  unfold x8_voice mF_voice x7_answer
  simp only [lt_i, lt2_p, isP_e h]
  by_cases c1 : mF_isPerson M q = 0
  · rw [if_pos c1, if_pos c1]; exact er1 h
  rw [if_neg c1, if_neg c1]
  by_cases c2 : sF_in act 0 3 = 0
  · rw [if_pos (show p8_within act 0 3 = 0 from c2), if_pos c2]; exact er1 h
  rw [if_neg (show ¬ p8_within act 0 3 = 0 from c2), if_neg c2]
  have hR := INV_R h
  obtain ⟨d1, d2⟩ := person_of hR.2.1 c1
  have hq8 : vn q < 8 := Nat.lt_of_lt_of_le d2 hR.2.1.2
  have hn := n8 h
  have hqx : vn q < vn (X 1 9) := by rw [hn.1]; exact d2
  obtain ⟨q4, q5, q6, q7⟩ := eN_p (INV_eE h).1 hqx
  rw [sk8 hq8] at q4 q5
  obtain ⟨k1, k2⟩ := hR.2.2.1 _ hq8
  have e5 : X 5 (vn q) = nI (vn (M 1 (32 + 4 * vn q + 0))) := (show X 5 (vn q) = _ from q4).trans k1
  have e6 : X 6 (vn q) = M 1 (32 + 4 * vn q + 1) := q5
  have eB : ∀ a b c, x7_begin X a b c = mU (mU (mU (mU X 47 1 a) 47 2 b) 47 3 c) 48 1 0 := fun a b c => by unfold x7_begin x4_clear; simp only [lt_i]
  have eM : mU (mU (mU (mU M 0 24 0) 0 25 (mF_its (mU M 0 24 0) (vn q) 0)) 0 26 q) 0 27 (mF_its (mU (mU (mU M 0 24 0) 0 25 (mF_its (mU M 0 24 0) (vn q) 0)) 0 26 q) (vn q) 1) = mU (mU (mU (mU M 0 24 0) 0 25 (nI (vn (M 1 (32 + 4 * vn q + 0))))) 0 26 q) 0 27 (M 1 (32 + 4 * vn q + 1)) := by
    unfold mF_its
    have r3 : ∀ Y : mS, mU (mU (mU M 0 24 0) 0 25 (Y 0 0)) 0 26 q 1 = M 1 := fun Y => by rw [mU_row (show 1 ≠ 0 by decide), mU_row (show 1 ≠ 0 by decide), mU_row (show 1 ≠ 0 by decide)]
    rw [mU_row (show 1 ≠ 0 by decide), mU_row (show 1 ≠ 0 by decide), mU_row (show 1 ≠ 0 by decide), mU_row (show 1 ≠ 0 by decide)]
    rw [← k1]
  rw [eM, eB, e5, e6]
  generalize hX0 : mU (mU (mU (mU X 47 1 (nI (vn (M 1 (32 + 4 * vn q + 0))))) 47 2 q) 47 3 (M 1 (32 + 4 * vn q + 1))) 48 1 0 = X0
  generalize hM0 : mU (mU (mU (mU M 0 24 0) 0 25 (nI (vn (M 1 (32 + 4 * vn q + 0))))) 0 26 q) 0 27 (M 1 (32 + 4 * vn q + 1)) = M0
  have w : who X0 M0 (vn (M 1 (32 + 4 * vn q + 0))) := by
    refine ⟨k2, ?_, ?_, ?_, ?_⟩
    · rw [← hX0, mU_row (by decide), mU_ne (by decide), mU_ne (by decide), mU_eq]
    · rw [← hM0, mU_ne (by decide), mU_ne (by decide), mU_eq]
    · rw [← hX0, ← hM0, mU_row (by decide), mU_ne (by decide), mU_eq, mU_ne (by decide), mU_eq]
    · rw [← hX0, ← hM0, mU_row (by decide), mU_eq, mU_eq]
  have v : vk X0 M0 X0 M0 := ⟨⟨0, by decide, by rw [← hX0, mU_eq]; rfl, by rw [← hM0, mU_ne (by decide), mU_ne (by decide), mU_ne (by decide), mU_eq]; rfl, fun j hj => absurd hj (Nat.not_lt_zero _)⟩, fun _ _ _ => rfl, fun _ _ _ => rfl, fun _ _ => rfl⟩
  have fin : ∀ {a : Int32 × xS} {b : Int32 × mS}, AV X0 M0 a b → AL n tt a b := fun {a b} g => ⟨g.1, INV_V h g.2.1 (fun p p7 p8 p9 => by rw [g.2.2.1 p p8 p9, ← hX0, mU_row p8, mU_row p7, mU_row p7, mU_row p7]) (fun i i13 i0 => by rw [g.2.2.2.1 i i13 i0, ← hM0, mU_row i0, mU_row i0, mU_row i0, mU_row i0]) (fun j hj => by rw [g.2.2.2.2 j (by omega), ← hM0, mU_ne (by omega), mU_ne (by omega), mU_ne (by omega), mU_ne (by omega)])⟩
  rw [w.2.1, w.2.2.1]
  obtain ⟨a1, a2⟩ := in_nat (n := 3) c2 ⟨rfl, by decide⟩
  rcases (show vn act = 0 ∨ vn act = 1 ∨ vn act = 2 ∨ vn act = 3 by omega) with e | e | e | e <;> rw [e] at a1
  · have a0 : act = 0 := a1
    subst a0
    rw [if_pos rfl]
    exact fin (lo_e w v k2)
  · have a0 : act = 1 := a1
    subst a0
    rw [if_neg (by decide), if_pos rfl]
    exact fin (ad_e w v k2)
  · have a0 : act = 2 := a1
    subst a0
    rw [if_neg (by decide), if_neg (by decide), if_pos rfl]
    exact fin (gl_e w v k2)
  · have a0 : act = 3 := a1
    subst a0
    rw [if_neg (by decide), if_neg (by decide), if_neg (by decide)]
    exact fin (pv_e w v k2)
