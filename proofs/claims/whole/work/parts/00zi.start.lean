/-! THE START: both as they are made -/
def x0v (p k : Nat) : Int32 := if p = 1 ∨ p = 13 ∨ p = 25 then (if k = 0 then 6 else if k = 18 then 1 else if k = 14 ∨ k = 15 then -1 else 0) else if p = 42 ∧ k = 5 then -1 else 0
def m0v (i j : Nat) : Int32 := if i = 1 then (if j = 2 then 1 else if j = 3 then 6 else if j = 6 ∨ j = 7 then -1 else 0) else if i = 0 ∧ j = 15 then -1 else 0
theorem x0_z {p k : Nat} (h1 : p ≠ 1) (h2 : p ≠ 13) (h3 : p ≠ 25) (h4 : p ≠ 42) : x0v p k = 0 := by
  unfold x0v
  rw [if_neg (by omega), if_neg (by omega)]
theorem x0_1 {k : Nat} : x0v 1 k = if k = 0 then 6 else if k = 18 then 1 else if k = 14 ∨ k = 15 then -1 else 0 := by
  unfold x0v
  rw [if_pos (Or.inl rfl)]
theorem m0_1 {j : Nat} : m0v 1 j = if j = 2 then 1 else if j = 3 then 6 else if j = 6 ∨ j = 7 then -1 else 0 := by
  unfold m0v
  rw [if_pos rfl]
theorem m0_z {i j : Nat} (h1 : i ≠ 1) (h2 : i ≠ 0 ∨ j ≠ 15) : m0v i j = 0 := by
  unfold m0v
  rw [if_neg h1, if_neg (by omega)]
theorem INV_0 (tt : tT) : INV 0 tt x0v m0v := by
  have z0 : (0 : Int32) = nI 0 := rfl
  have hR : rOK m0v := by
    refine ⟨?_, ?_, fun q hq => ?_, fun q hq => ?_, fun u hu => ?_⟩
    · unfold cOK; rw [m0_1]; decide
    · unfold pOK; rw [m0_1]; decide
    · rw [m0_1, if_neg (by omega), if_neg (by omega), if_neg (by omega)]; decide
    · rw [m0_1, if_neg (by omega), if_neg (by omega), if_neg (by omega)]; decide
    · rw [m0_1, if_neg (by omega), if_neg (by omega), if_pos (by omega)]; exact Or.inl rfl
  have h9 : vn (x0v 1 9) = 0 := by rw [x0_1]; decide
  refine ⟨⟨⟨⟨fun a b x hk => ?_, ?_, ?_⟩, fun u hu => Or.inl ⟨?_, ?_⟩⟩, ⟨⟨0, by omega, ?_, ?_, fun j hj => absurd hj (Nat.not_lt_zero _)⟩, ⟨0, by omega, ?_, ?_, fun j hj => absurd hj (Nat.not_lt_zero _)⟩⟩, ⟨hR, ?_⟩, ?_⟩, ?_⟩
  · rw [h9] at hk
    rcases hk with ⟨rfl, h⟩ | ⟨hb, ⟨rfl, rfl⟩ | ⟨rfl, rfl⟩⟩ | ⟨hb, _⟩
    · rw [x0_1, m0_1]
      rcases h with ⟨rfl, rfl⟩ | ⟨rfl, rfl⟩ | ⟨rfl, rfl⟩ | ⟨rfl, rfl⟩ | ⟨rfl, rfl⟩ | ⟨rfl, rfl⟩ | ⟨rfl, rfl⟩ <;> decide
    · rw [x0_z (by decide) (by decide) (by decide) (by decide), m0_1, if_neg (by omega), if_neg (by omega), if_neg (by omega)]
    · rw [x0_z (by decide) (by decide) (by decide) (by decide), m0_1, if_neg (by omega), if_neg (by omega), if_neg (by omega)]
    · exact absurd hb (Nat.not_lt_zero _)
  · rw [h9, x0_1]; decide
  · rw [h9, m0_1]; decide
  · rw [x0_1, if_neg (by omega), if_neg (by omega), if_pos (by omega)]
  · rw [m0_1, if_neg (by omega), if_neg (by omega), if_pos (by omega)]
  · exact x0_z (by decide) (by decide) (by decide) (by decide)
  · rw [m0_1]; decide
  · exact x0_z (by decide) (by decide) (by decide) (by decide)
  · rw [m0_1]; decide
  · refine ⟨fun c hc => ?_, fun q hq => ?_, fun q hq h8 => ?_⟩
    · rw [m0_1, m0_1, if_neg (by omega), if_neg (by omega), if_neg (by omega), if_neg (by omega), if_neg (by omega), if_neg (by omega)]; decide
    · rw [m0_1, if_neg (by omega), if_neg (by omega), if_neg (by omega)]; decide
    · rw [m0_1, if_neg (by decide), if_neg (by decide), if_neg (by decide)] at h8
      exact absurd h8 (Nat.not_lt_zero _)
  · intro q hq
    show x0v 7 q = nI (vn (x0v 7 q)) ∧ vn (x0v 7 q) < 10
    rw [x0_z (by decide) (by decide) (by decide) (by decide)]; decide
  · refine ⟨?_, ⟨0, Nat.le_refl _, ?_, ?_, ?_, ⟨?_, ?_⟩, fun h => absurd rfl h⟩, fun k _ _ => ?_, ⟨0, by omega, ?_, ?_, fun j hj => absurd hj (Nat.not_lt_zero _)⟩, fun s hs => ⟨?_, ?_, ⟨0, by omega, ?_⟩, fun j hj => ?_⟩, fun q hq => ?_, ⟨?_, ?_, ?_⟩⟩
    · unfold aB m0v; decide
    · exact x0_z (by decide) (by decide) (by decide) (by decide)
    · exact m0_z (by omega) (by omega)
    · exact m0_z (by omega) (by omega)
    · rw [x0_z (by decide) (by decide) (by decide) (by decide)]; decide
    · rw [x0_z (by decide) (by decide) (by decide) (by decide)]; decide
    · rw [x0_z (by decide) (by decide) (by decide) (by decide), m0_z (by omega) (by omega)]
    · exact x0_z (by decide) (by decide) (by decide) (by decide)
    · exact m0_z (by omega) (by omega)
    · rw [x0_z (by omega) (by omega) (by omega) (by omega), m0_z (by omega) (by omega)]
    · rw [x0_z (by omega) (by omega) (by omega) (by omega), m0_z (by omega) (by omega)]
    · exact m0_z (by omega) (by omega)
    · rw [x0_z (by omega) (by omega) (by omega) (by omega), m0_z (by omega) (by omega)]
    · rw [x0_z (by decide) (by decide) (by decide) (by decide)]; decide
    · rw [x0_z (by decide) (by decide) (by decide) (by decide)]; decide
    · rw [x0_z (by decide) (by decide) (by decide) (by decide)]; decide
    · rw [x0_z (by decide) (by decide) (by decide) (by decide)]; decide
