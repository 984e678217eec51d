/-! the reference's descent against the automaton -/
/-- the bytes from the k-th on, n of them -/
def bl (B : Nat → Int32) : Nat → Nat → List Int32
  | 0, _ => []
  | n + 1, k => B k :: bl B n (k + 1)
theorem bl_len (B : Nat → Int32) : ∀ n k, (bl B n k).length = n := by
  intro n
  induction n with
  | zero => intro k; rfl
  | succ n ih => intro k; show (bl B n (k + 1)).length + 1 = n + 1; rw [ih]
theorem bl_eq {B B2 : Nat → Int32} : ∀ n k, (∀ j, k ≤ j → j < k + n → B j = B2 j) → bl B n k = bl B2 n k := by
  intro n
  induction n with
  | zero => intro k _; rfl
  | succ n ih =>
    intro k h
    show B k :: _ = B2 k :: _
    rw [h k (Nat.le_refl _) (by omega), ih (k + 1) (fun j h1 h2 => h j (by omega) (by omega))]
/-- the reader's numbers S stand before the bytes r -/
def RS (M : mS) (u E : Nat) (a b c : Int32) (d : Nat) (S : sS) (r : List Int32) : Prop := pI E u d S ∧ (S 11 = a ∧ S 12 = b ∧ S 13 = c) ∧ r = bl (fun k => M 1 (134 + 50 * u + k)) (E - vn (S 8)) (vn (S 8))
theorem RS_len {M : mS} {u E : Nat} {a b c : Int32} {d : Nat} {S : sS} {r : List Int32} (h : RS M u E a b c d S r) : vn (S 8) + r.length = E := by
  rw [h.2.2, bl_len]
  have := h.1.2.2.1.2
  omega
theorem RS_byte {M : mS} {u E : Nat} {a b c : Int32} {d : Nat} {S : sS} {r : List Int32} (h : RS M u E a b c d S r) : (r = [] ∧ mF_byteAt M S (vn (S 8)) = -1) ∨ ∃ ch t, r = ch :: t ∧ mF_byteAt M S (vn (S 8)) = ch ∧ RS M u E a b c d (upd S 8 (S 8 + 1)) t := by
  obtain ⟨hI, hn, hr⟩ := h
  have h8 := pI_8 hI
  have hE := hI.2.1
  by_cases hk : vn (S 8) < E
  · refine Or.inr ⟨M 1 (134 + 50 * u + vn (S 8)), bl (fun k => M 1 (134 + 50 * u + k)) (E - (vn (S 8) + 1)) (vn (S 8) + 1), ?_, ?_, ?_⟩
    · rw [hr, show E - vn (S 8) = (E - (vn (S 8) + 1)) + 1 by omega]
      rfl
    · unfold mF_byteAt
      rw [if_neg (by rw [hE.1, nI_leI (by omega) (by omega)]; omega), hI.1.1, vn_nI (by have := hI.1.2; omega)]
    · refine ⟨pI_at hI rfl hk, ?_, ?_⟩
      · rw [pk_un (by decide), pk_un (by decide), pk_un (by decide)]; exact hn
      · rw [at_succ hI rfl hk]
  · refine Or.inl ⟨?_, ?_⟩
    · rw [hr, show E - vn (S 8) = 0 by omega]
      rfl
    · unfold mF_byteAt
      rw [if_pos (by rw [hE.1]; exact nI_le (by omega) (by omega))]
theorem RS_14 {M : mS} {u E : Nat} {a b c x : Int32} {d : Nat} {S : sS} {r : List Int32} (h : RS M u E a b c d S r) (hx : x = 0 ∨ x = 1) : RS M u E a b c d (upd S 14 x) r := by
  refine ⟨pI_good h.1 rfl hx, ?_, ?_⟩
  · rw [pk_un (by decide), pk_un (by decide), pk_un (by decide)]; exact h.2.1
  · rw [pk_un (by decide)]; exact h.2.2
theorem RS_10 {M : mS} {u E : Nat} {a b c : Int32} {d : Nat} {S : sS} {r : List Int32} (h : RS M u E a b c (d + 1) S r) : RS M u E a b c d (upd S 10 (S 10 + 1)) r := by
  refine ⟨pI_open h.1 rfl, ?_, ?_⟩
  · rw [pk_un (by decide), pk_un (by decide), pk_un (by decide)]; exact h.2.1
  · rw [pk_un (by decide)]; exact h.2.2
theorem RS_10m {M : mS} {u E : Nat} {a b c : Int32} {d : Nat} {S : sS} {r : List Int32} (h : RS M u E a b c d S r) (hd : d + 1 ≤ 5) : RS M u E a b c (d + 1) (upd S 10 (S 10 - 1)) r := by
  refine ⟨pI_shut h.1 rfl hd, ?_, ?_⟩
  · rw [pk_un (by decide), pk_un (by decide), pk_un (by decide)]; exact h.2.1
  · rw [pk_un (by decide)]; exact h.2.2
theorem RS_01 {M : mS} {u E : Nat} {a b c : Int32} {d : Nat} {S : sS} {r : List Int32} (h : RS M u E a b c d S r) : S 14 = 0 ∨ S 14 = 1 := h.1.2.2.2.2
/-- what a factor is for the automaton -/
def PF (M : mS) (u E : Nat) (a b c : Int32) (d : Nat) (g : sS → Int32 × sS) : Prop := ∀ S r, RS M u E a b c d S r → S 14 = 1 → ∃ r2, RS M u E a b c d (g S).2 r2 ∧ r2.length ≤ r.length ∧
  (((g S).2 14 = 1 ∧ ∀ Vs sg, rn a b c u r (DU Vs sg (5 - d)) = rn a b c u r2 (cnA a b c ((g S).1 :: Vs) sg (5 - d) z0)) ∨
   ((g S).2 14 = 0 ∧ ∀ Vs sg, rn a b c u r (DU Vs sg (5 - d)) = (r2.length, none)))
/-- what all above is: l the rank from which on it takes signs -/
def PR (M : mS) (u E : Nat) (a b c : Int32) (d l : Nat) (g : sS → Int32 × sS) : Prop := ∀ S r, RS M u E a b c d S r → S 14 = 1 → ∃ r2, RS M u E a b c d (g S).2 r2 ∧ r2.length ≤ r.length ∧
  (((g S).2 14 = 1 ∧ nr r2 < l ∧ ∀ Vs sg, tc l sg → rn a b c u r (DU Vs sg (5 - d)) = rn a b c u r2 (AF ((g S).1 :: Vs) sg (5 - d))) ∨
   ((g S).2 14 = 1 ∧ l ≤ 3 ∧ nr r2 = 3 ∧ ∀ Vs sg, tc l sg → rn a b c u r (DU Vs sg (5 - d)) = (r2.length, none)) ∨
   ((g S).2 14 = 0 ∧ ∀ Vs sg, tc l sg → rn a b c u r (DU Vs sg (5 - d)) = (r2.length, none)))
theorem PR_F {M : mS} {u E : Nat} {a b c : Int32} {d : Nat} {g : sS → Int32 × sS} (h : PF M u E a b c d g) : PR M u E a b c d 6 g := by
  intro S r hS h1
  obtain ⟨r2, h2, h3, h4⟩ := h S r hS h1
  refine ⟨r2, h2, h3, ?_⟩
  rcases h4 with ⟨e, k⟩ | ⟨e, k⟩
  · refine Or.inl ⟨e, ?_, fun Vs sg ht => by rw [k, cn_tc a b c _ _ _ ht]⟩
    cases r2 with
    | nil => decide
    | cons ch t => have := rk_le ch; show rk ch < 6; omega
  · exact Or.inr (Or.inr ⟨e, fun Vs sg _ => k Vs sg⟩)
/-- a loop that takes signs -/
def lpG (M : mS) (g : sS → Int32 × sS) (l : Nat) (cmb : Int32 → Int32 → Int32 → Int32) : Nat → Int32 → sS → Int32 × sS
  | 0, v, S => (v, S)
  | f + 1, v, S => if S 14 = 0 then (v, S) else if rk (mF_byteAt M S (vn (S 8))) = l then lpG M g l cmb f (cmb v (mF_byteAt M S (vn (S 8))) (g (upd S 8 (S 8 + 1))).1) (g (upd S 8 (S 8 + 1))).2 else (v, S)
theorem lpG_s (M : mS) (g : sS → Int32 × sS) (l : Nat) (cmb : Int32 → Int32 → Int32 → Int32) (f : Nat) (v : Int32) (S : sS) : lpG M g l cmb (f + 1) v S = if S 14 = 0 then (v, S) else if rk (mF_byteAt M S (vn (S 8))) = l then lpG M g l cmb f (cmb v (mF_byteAt M S (vn (S 8))) (g (upd S 8 (S 8 + 1))).1) (g (upd S 8 (S 8 + 1))).2 else (v, S) := rfl
theorem lpG_0 (M : mS) (g : sS → Int32 × sS) (l : Nat) (cmb : Int32 → Int32 → Int32 → Int32) (f : Nat) (v : Int32) (S : sS) (h : S 14 = 0) : lpG M g l cmb f v S = (v, S) := by
  cases f with
  | zero => rfl
  | succ f => rw [lpG_s, if_pos h]
theorem rk_m1 : rk (-1) = 0 := by decide
theorem lpG_R {M : mS} {u E : Nat} {a b c : Int32} {d l : Nat} {g : sS → Int32 × sS} {cmb : Int32 → Int32 → Int32 → Int32} (hl : 1 ≤ l) (hl3 : l ≠ 3) (hc : ∀ v ch w, rk ch = l → cmb v ch w = p6_joined v ch w) (hg : PR M u E a b c d (l + 1) g) : ∀ (f : Nat) (v : Int32) (S : sS) (r : List Int32), RS M u E a b c d S r → r.length < f → S 14 = 1 → nr r < l + 1 ∨ (l + 1 ≤ 3 ∧ nr r = 3) →
    ∃ r2, RS M u E a b c d (lpG M g l cmb f v S).2 r2 ∧ r2.length ≤ r.length ∧
    (((lpG M g l cmb f v S).2 14 = 1 ∧ nr r2 < l ∧ nr r < l + 1 ∧ ∀ Vs sg, tc l sg → rn a b c u r (AF (v :: Vs) sg (5 - d)) = rn a b c u r2 (AF ((lpG M g l cmb f v S).1 :: Vs) sg (5 - d))) ∨
     ((lpG M g l cmb f v S).2 14 = 1 ∧ l ≤ 3 ∧ nr r2 = 3 ∧ ((r2 = r ∧ nr r = 3) ∨ ∀ Vs sg, tc l sg → rn a b c u r (AF (v :: Vs) sg (5 - d)) = (r2.length, none))) ∨
     ((lpG M g l cmb f v S).2 14 = 0 ∧ ∀ Vs sg, tc l sg → rn a b c u r (AF (v :: Vs) sg (5 - d)) = (r2.length, none))) := by
  intro f
  induction f with
  | zero => intro v S r _ h _; exact absurd h (Nat.not_lt_zero _)
  | succ f ih =>
    intro v S r hS hf h1 hn
    have hne : ¬ S 14 = 0 := by rw [h1]; decide
    rcases RS_byte hS with ⟨hr, hb⟩ | ⟨ch, t, hr, hb, hS2⟩
    · have e : lpG M g l cmb (f + 1) v S = (v, S) := by rw [lpG_s, if_neg hne, hb, rk_m1, if_neg (by omega)]
      rw [e]
      have h0 : nr r = 0 := by rw [hr]; rfl
      exact ⟨r, hS, Nat.le_refl _, Or.inl ⟨h1, by omega, by omega, fun _ _ _ => rfl⟩⟩
    · by_cases hk : rk ch = l
      · have e : lpG M g l cmb (f + 1) v S = lpG M g l cmb f (p6_joined v ch (g (upd S 8 (S 8 + 1))).1) (g (upd S 8 (S 8 + 1))).2 := by rw [lpG_s, if_neg hne, hb, if_pos hk, hc _ _ _ hk]
        rw [e]
        obtain ⟨r3, h3, hlen, h4⟩ := hg _ _ hS2 (by rw [pk_un (by decide)]; exact h1)
        have hlt : r3.length < r.length := by rw [hr]; exact Nat.lt_succ_of_le hlen
        have hsgn : ∀ Vs sg, tc l sg → rn a b c u r (AF (v :: Vs) sg (5 - d)) = rn a b c u t (DU (v :: Vs) (ch :: sg) (5 - d)) := fun Vs sg ht => by
          rw [hr]; exact rn_sign a b c u (by omega) t _ _ (by rw [hk]; exact ht)
        have htc : ∀ sg, tc (l + 1) (ch :: sg) := fun sg => ⟨(dg_rk (by omega)).2.2, by omega⟩
        have hnl : nr r < l + 1 := by rw [hr]; show rk ch < _; omega
        rcases h4 with ⟨g1, g2, g3⟩ | ⟨g1, g2, g3, g4⟩ | ⟨g1, g2⟩
        · obtain ⟨r2, k1, k2, k3⟩ := ih (p6_joined v ch (g (upd S 8 (S 8 + 1))).1) _ r3 h3 (by omega) g1 (Or.inl g2)
          have hred : ∀ Vs sg, tc l sg → rn a b c u r (AF (v :: Vs) sg (5 - d)) = rn a b c u r3 (AF (p6_joined v ch (g (upd S 8 (S 8 + 1))).1 :: Vs) sg (5 - d)) := fun Vs sg ht => by
            rw [hsgn Vs sg ht, g3 _ _ (htc sg), rn_red a b c u (by omega) (by omega) (by omega)]
          refine ⟨r2, k1, by omega, ?_⟩
          rcases k3 with ⟨q1, q2, q3, q4⟩ | ⟨q1, q2, q3, q4⟩ | ⟨q1, q2⟩
          · exact Or.inl ⟨q1, q2, hnl, fun Vs sg ht => (hred Vs sg ht).trans (q4 Vs sg ht)⟩
          · refine Or.inr (Or.inl ⟨q1, q2, q3, Or.inr ?_⟩)
            rcases q4 with ⟨w1, w2⟩ | w
            · exact absurd w2 (by omega)
            · exact fun Vs sg ht => (hred Vs sg ht).trans (w Vs sg ht)
          · exact Or.inr (Or.inr ⟨q1, fun Vs sg ht => (hred Vs sg ht).trans (q2 Vs sg ht)⟩)
        · have e3 : ∀ w : Int32, lpG M g l cmb f w (g (upd S 8 (S 8 + 1))).2 = (w, (g (upd S 8 (S 8 + 1))).2) := fun w => by
            cases f with
            | zero => rfl
            | succ f =>
              rcases RS_byte h3 with ⟨hr3, _⟩ | ⟨ch3, t3, hr3, hb3, _⟩
              · rw [hr3] at g3; exact absurd g3 (by decide)
              · rw [lpG_s, if_neg (by rw [g1]; decide), hb3, if_neg]
                rw [hr3] at g3
                have g3' : rk ch3 = 3 := g3
                omega
          rw [e3]
          exact ⟨r3, h3, by omega, Or.inr (Or.inl ⟨g1, by omega, g3, Or.inr fun Vs sg ht => by rw [hsgn Vs sg ht, g4 _ _ (htc sg)]⟩)⟩
        · rw [lpG_0 M g l cmb f _ _ g1]
          exact ⟨r3, h3, by omega, Or.inr (Or.inr ⟨g1, fun Vs sg ht => by rw [hsgn Vs sg ht, g2 _ _ (htc sg)]⟩)⟩
      · have e : lpG M g l cmb (f + 1) v S = (v, S) := by rw [lpG_s, if_neg hne, hb, if_neg hk]
        rw [e]
        have hnr : nr r = rk ch := by rw [hr]; rfl
        rcases hn with hn | ⟨hn1, hn2⟩
        · exact ⟨r, hS, Nat.le_refl _, Or.inl ⟨h1, by omega, hn, fun _ _ _ => rfl⟩⟩
        · exact ⟨r, hS, Nat.le_refl _, Or.inr (Or.inl ⟨h1, by omega, hn2, Or.inl ⟨rfl, hn2⟩⟩)⟩
/-- a parser and the loop behind it -/
def gL (M : mS) (g : sS → Int32 × sS) (l : Nat) (cmb : Int32 → Int32 → Int32 → Int32) (S : sS) : Int32 × sS := lpG M g l cmb fu51 (g S).1 (g S).2
theorem PR_L {M : mS} {u E : Nat} {a b c : Int32} {d l : Nat} {g : sS → Int32 × sS} {cmb : Int32 → Int32 → Int32 → Int32} (hl : 1 ≤ l) (hl3 : l ≠ 3) (hc : ∀ v ch w, rk ch = l → cmb v ch w = p6_joined v ch w) (hg : PR M u E a b c d (l + 1) g) : PR M u E a b c d l (gL M g l cmb) := by
  intro S r hS h1
  obtain ⟨r1, h2, h3, h4⟩ := hg S r hS h1
  have hE := hS.1.2.1.2
  have hf : r1.length < fu51 := by have := RS_len h2; show _ < 51; omega
  unfold gL
  rcases h4 with ⟨g1, g2, g3⟩ | ⟨g1, g2, g3, g4⟩ | ⟨g1, g2⟩
  · obtain ⟨r2, k1, k2, k3⟩ := lpG_R hl hl3 hc hg fu51 (g S).1 _ r1 h2 hf g1 (Or.inl g2)
    refine ⟨r2, k1, by omega, ?_⟩
    have h0 : ∀ Vs sg, tc l sg → rn a b c u r (DU Vs sg (5 - d)) = rn a b c u r1 (AF ((g S).1 :: Vs) sg (5 - d)) := fun Vs sg ht => g3 Vs sg (tc_le ht (by omega))
    rcases k3 with ⟨q1, q2, q3, q4⟩ | ⟨q1, q2, q3, q4⟩ | ⟨q1, q2⟩
    · exact Or.inl ⟨q1, q2, fun Vs sg ht => (h0 Vs sg ht).trans (q4 Vs sg ht)⟩
    · refine Or.inr (Or.inl ⟨q1, q2, q3, ?_⟩)
      rcases q4 with ⟨w1, w2⟩ | w
      · exact absurd w2 (by omega)
      · exact fun Vs sg ht => (h0 Vs sg ht).trans (w Vs sg ht)
    · exact Or.inr (Or.inr ⟨q1, fun Vs sg ht => (h0 Vs sg ht).trans (q2 Vs sg ht)⟩)
  · obtain ⟨r2, k1, k2, k3⟩ := lpG_R hl hl3 hc hg fu51 (g S).1 _ r1 h2 hf g1 (Or.inr ⟨g2, g3⟩)
    rcases k3 with ⟨q1, q2, q3, q4⟩ | ⟨q1, q2, q3, q4⟩ | ⟨q1, q2⟩
    · exact absurd q3 (by omega)
    · rcases q4 with ⟨w1, w2⟩ | w
      · exact ⟨r2, k1, by omega, Or.inr (Or.inl ⟨q1, q2, q3, fun Vs sg ht => by rw [g4 _ _ (tc_le ht (by omega)), w1]⟩)⟩
      · have e3 : ∀ w : Int32, lpG M g l cmb fu51 w (g S).2 = (w, (g S).2) := fun w => by
          rcases RS_byte h2 with ⟨hr3, _⟩ | ⟨ch3, t3, hr3, hb3, _⟩
          · rw [hr3] at g3; exact absurd g3 (by decide)
          · show lpG M g l cmb (50 + 1) w (g S).2 = _
            rw [lpG_s, if_neg (by rw [g1]; decide), hb3, if_neg]
            rw [hr3] at g3
            have g3' : rk ch3 = 3 := g3
            omega
        rw [e3] at k1 q1 ⊢
        have e5 : r2 = r1 := k1.2.2.trans h2.2.2.symm
        exact ⟨r2, k1, by omega, Or.inr (Or.inl ⟨q1, q2, q3, fun Vs sg ht => by rw [g4 _ _ (tc_le ht (by omega)), e5]⟩)⟩
    · have e3 : ∀ w : Int32, lpG M g l cmb fu51 w (g S).2 = (w, (g S).2) := fun w => by
        rcases RS_byte h2 with ⟨hr3, _⟩ | ⟨ch3, t3, hr3, hb3, _⟩
        · rw [hr3] at g3; exact absurd g3 (by decide)
        · show lpG M g l cmb (50 + 1) w (g S).2 = _
          rw [lpG_s, if_neg (by rw [g1]; decide), hb3, if_neg]
          rw [hr3] at g3
          have g3' : rk ch3 = 3 := g3
          omega
      rw [e3] at q1
      exact absurd (q1.symm.trans g1) (by decide)
  · rw [lpG_0 M g l cmb fu51 _ _ g1]
    exact ⟨r1, h2, h3, Or.inr (Or.inr ⟨g1, fun Vs sg ht => g2 Vs sg (tc_le ht (by omega))⟩)⟩
theorem rk_5 (ch : Int32) : rk ch = 5 ↔ ch = 42 ∨ ch = 47 ∨ ch = 37 := by
  constructor
  · intro h
    rcases rk_cs (s := ch) (by omega) with e | e | e | e | e | e | e | e | e | e <;> rw [e] at h ⊢ <;> first | exact absurd h (by decide) | decide
  · rintro (rfl | rfl | rfl) <;> decide
theorem rk_4 (ch : Int32) : rk ch = 4 ↔ ch = 43 ∨ ch = 45 := by
  constructor
  · intro h
    rcases rk_cs (s := ch) (by omega) with e | e | e | e | e | e | e | e | e | e <;> rw [e] at h ⊢ <;> first | exact absurd h (by decide) | decide
  · rintro (rfl | rfl) <;> decide
theorem rk_3 (ch : Int32) : rk ch = 3 ↔ ch = 60 ∨ ch = 61 ∨ ch = 62 := by
  constructor
  · intro h
    rcases rk_cs (s := ch) (by omega) with e | e | e | e | e | e | e | e | e | e <;> rw [e] at h ⊢ <;> first | exact absurd h (by decide) | decide
  · rintro (rfl | rfl | rfl) <;> decide
theorem rk_2 (ch : Int32) : rk ch = 2 ↔ ch = 38 := by
  constructor
  · intro h
    rcases rk_cs (s := ch) (by omega) with e | e | e | e | e | e | e | e | e | e <;> rw [e] at h ⊢ <;> first | exact absurd h (by decide) | decide
  · rintro rfl; decide
theorem rk_1 (ch : Int32) : rk ch = 1 ↔ ch = 124 := by
  constructor
  · intro h
    rcases rk_cs (s := ch) (by omega) with e | e | e | e | e | e | e | e | e | e <;> rw [e] at h ⊢ <;> first | exact absurd h (by decide) | decide
  · rintro rfl; decide
theorem pr_lp (M : mS) (fF : sS → Int32 × sS) : ∀ (f : Nat) (v : Int32) (S : sS), mF_product_L5 M fF f v S = lpG M fF 5 p6_joined f v S := by
  intro f
  induction f with
  | zero => intro v S; rfl
  | succ f ih =>
    intro v S
    rw [mF_product_L5_s, lpG_s]
    simp only [lt_i, lt2_i]
    by_cases h0 : S 14 = 0
    · rw [if_pos h0, if_pos h0]
    · rw [if_neg h0, if_neg h0]
      generalize mF_byteAt M S (vn (S 8)) = ch
      by_cases h1 : ch = 42
      · subst h1; rw [if_pos rfl, if_pos (show rk 42 = 5 by decide), ih]; rfl
      · rw [if_neg h1]
        by_cases h2 : ch = 47
        · subst h2; rw [if_pos rfl, if_pos (show rk 47 = 5 by decide), ih]; rfl
        · rw [if_neg h2]
          by_cases h3 : ch = 37
          · subst h3; rw [if_pos rfl, if_pos (show rk 37 = 5 by decide), ih]; rfl
          · rw [if_neg h3, if_neg]
            rw [rk_5]
            rintro (e | e | e)
            · exact h1 e
            · exact h2 e
            · exact h3 e
theorem sm_lp (M : mS) (fF : sS → Int32 × sS) : ∀ (f : Nat) (v : Int32) (S : sS), mF_sum_L5 M fF f v S = lpG M (mF_product M fF) 4 p6_joined f v S := by
  intro f
  induction f with
  | zero => intro v S; rfl
  | succ f ih =>
    intro v S
    rw [mF_sum_L5_s, lpG_s]
    simp only [lt_i, lt2_i]
    by_cases h0 : S 14 = 0
    · rw [if_pos h0, if_pos h0]
    · rw [if_neg h0, if_neg h0]
      generalize mF_byteAt M S (vn (S 8)) = ch
      by_cases h1 : ch = 43
      · subst h1; rw [if_pos rfl, if_pos (show rk 43 = 4 by decide), ih]; rfl
      · rw [if_neg h1]
        by_cases h2 : ch = 45
        · subst h2; rw [if_pos rfl, if_pos (show rk 45 = 4 by decide), ih]; rfl
        · rw [if_neg h2, if_neg]
          rw [rk_4]
          rintro (e | e)
          · exact h1 e
          · exact h2 e
theorem bo_lp (M : mS) (fF : sS → Int32 × sS) : ∀ (f : Nat) (v : Int32) (S : sS), mF_both_L5 M fF f v S = lpG M (mF_compared M fF) 2 p6_joined f v S := by
  intro f
  induction f with
  | zero => intro v S; rfl
  | succ f ih =>
    intro v S
    rw [mF_both_L5_s, lpG_s]
    simp only [lt_i, lt2_i]
    by_cases h0 : S 14 = 0
    · rw [if_pos h0, if_pos h0]
    · rw [if_neg h0, if_neg h0]
      generalize mF_byteAt M S (vn (S 8)) = ch
      by_cases h1 : ch = 38
      · subst h1; rw [if_pos rfl, if_pos (show rk 38 = 2 by decide), ih]; rfl
      · rw [if_neg h1, if_neg]
        rw [rk_2]
        exact h1
theorem wh_lp (M : mS) (fF : sS → Int32 × sS) : ∀ (f : Nat) (v : Int32) (S : sS), mF_whole_L5 M fF f v S = lpG M (mF_both M fF) 1 p6_joined f v S := by
  intro f
  induction f with
  | zero => intro v S; rfl
  | succ f ih =>
    intro v S
    rw [mF_whole_L5_s, lpG_s]
    simp only [lt_i, lt2_i]
    by_cases h0 : S 14 = 0
    · rw [if_pos h0, if_pos h0]
    · rw [if_neg h0, if_neg h0]
      generalize mF_byteAt M S (vn (S 8)) = ch
      by_cases h1 : ch = 124
      · subst h1; rw [if_pos rfl, if_pos (show rk 124 = 1 by decide), ih]; rfl
      · rw [if_neg h1, if_neg]
        rw [rk_1]
        exact h1
theorem pr_g (M : mS) (fF : sS → Int32 × sS) : mF_product M fF = gL M fF 5 p6_joined := by
  funext S; unfold mF_product gL; rw [lt2_i, lt2_i, pr_lp]
theorem sm_g (M : mS) (fF : sS → Int32 × sS) : mF_sum M fF = gL M (mF_product M fF) 4 p6_joined := by
  funext S; unfold mF_sum gL; rw [lt2_i, lt2_i, sm_lp]
theorem bo_g (M : mS) (fF : sS → Int32 × sS) : mF_both M fF = gL M (mF_compared M fF) 2 p6_joined := by
  funext S; unfold mF_both gL; rw [lt2_i, lt2_i, bo_lp]
theorem wh_g (M : mS) (fF : sS → Int32 × sS) : mF_whole M fF = gL M (mF_both M fF) 1 p6_joined := by
  funext S; unfold mF_whole gL; rw [lt2_i, lt2_i, wh_lp]
theorem cm_e (M : mS) (fF : sS → Int32 × sS) (S : sS) : mF_compared M fF S = if (mF_sum M fF S).2 14 = 0 then mF_sum M fF S else if rk (mF_byteAt M (mF_sum M fF S).2 (vn ((mF_sum M fF S).2 8))) = 3 then (p6_joined (mF_sum M fF S).1 (mF_byteAt M (mF_sum M fF S).2 (vn ((mF_sum M fF S).2 8))) (mF_sum M fF (upd (mF_sum M fF S).2 8 ((mF_sum M fF S).2 8 + 1))).1, (mF_sum M fF (upd (mF_sum M fF S).2 8 ((mF_sum M fF S).2 8 + 1))).2) else mF_sum M fF S := by
  unfold mF_compared
  simp only [lt_i, lt2_i]
  obtain ⟨v, S1⟩ := mF_sum M fF S
  show _ = if S1 14 = 0 then (v, S1) else if rk (mF_byteAt M S1 (vn (S1 8))) = 3 then (p6_joined v (mF_byteAt M S1 (vn (S1 8))) (mF_sum M fF (upd S1 8 (S1 8 + 1))).1, (mF_sum M fF (upd S1 8 (S1 8 + 1))).2) else (v, S1)
  by_cases h0 : S1 14 = 0
  · simp only [if_pos h0]
    rfl
  · simp only [if_neg h0]
    generalize mF_byteAt M S1 (vn (S1 8)) = ch
    obtain ⟨w, S2⟩ := mF_sum M fF (upd S1 8 (S1 8 + 1))
    by_cases h1 : ch = 60
    · subst h1
      rw [if_pos (show rk 60 = 3 by decide)]
      show (if (if w ≤ v then (0 : Int32) else 1) = 0 then _ else _) = ((if w ≤ v then (0 : Int32) else 1), S2)
      by_cases h2 : w ≤ v
      · simp only [if_pos h2]; rfl
      · simp only [if_neg h2]; rfl
    · by_cases h2 : ch = 61
      · subst h2
        rw [if_pos (show rk 61 = 3 by decide)]
        show (if (if v = w then (1 : Int32) else 0) = 0 then _ else _) = ((if v = w then (1 : Int32) else 0), S2)
        by_cases h2 : v = w
        · simp only [if_pos h2]; rfl
        · simp only [if_neg h2]; rfl
      · by_cases h3 : ch = 62
        · subst h3
          rw [if_pos (show rk 62 = 3 by decide)]
          show (if (if v ≤ w then (0 : Int32) else 1) = 0 then _ else _) = ((if v ≤ w then (0 : Int32) else 1), S2)
          by_cases h2 : v ≤ w
          · simp only [if_pos h2]; rfl
          · simp only [if_neg h2]; rfl
        · rw [if_neg h1, if_neg h2, if_neg h3, if_neg]
          rw [rk_3]
          rintro (e | e | e)
          · exact h1 e
          · exact h2 e
          · exact h3 e
theorem PR_C {M : mS} {u E : Nat} {a b c : Int32} {d : Nat} {fF : sS → Int32 × sS} (hg : PR M u E a b c d 4 (mF_sum M fF)) : PR M u E a b c d 3 (mF_compared M fF) := by
  intro S r hS h1
  obtain ⟨r1, h2, h3, h4⟩ := hg S r hS h1
  rw [cm_e]
  generalize mF_sum M fF S = q at h2 h4 ⊢
  obtain ⟨v, S1⟩ := q
  rcases h4 with ⟨g1, g2, g3⟩ | ⟨g1, g2, g3, g4⟩ | ⟨g1, g2⟩
  · rw [if_neg (by rw [g1]; decide)]
    rcases RS_byte h2 with ⟨hr, hb⟩ | ⟨ch, t, hr, hb, hS2⟩
    · rw [hb, rk_m1, if_neg (by decide)]
      exact ⟨r1, h2, h3, Or.inl ⟨g1, by rw [hr]; decide, fun Vs sg ht => g3 Vs sg (tc_le ht (by omega))⟩⟩
    · by_cases hk : rk ch = 3
      · rw [hb, if_pos hk]
        obtain ⟨r3, k2, k3, k4⟩ := hg _ t hS2 (by rw [pk_un (by decide)]; exact g1)
        generalize mF_sum M fF _ = q at k2 k4 ⊢
        obtain ⟨w, S3⟩ := q
        have hl : r3.length ≤ r.length := by rw [hr] at h3; exact Nat.le_trans k3 (Nat.le_of_succ_le h3)
        have h0 : ∀ Vs sg, tc 3 sg → rn a b c u r (DU Vs sg (5 - d)) = rn a b c u t (DU (v :: Vs) (ch :: sg) (5 - d)) := fun Vs sg ht => by
          rw [g3 Vs sg (tc_le ht (by omega)), hr]
          exact rn_sign a b c u (by omega) t _ _ (by rw [hk]; exact ht)
        have htc : ∀ sg, tc 4 (ch :: sg) := fun sg => ⟨(dg_rk (by omega)).2.2, by omega⟩
        rcases k4 with ⟨q1, q2, q3⟩ | ⟨q1, q2, q3, q4⟩ | ⟨q1, q2⟩
        · by_cases hn : nr r3 = 3
          · exact ⟨r3, k2, hl, Or.inr (Or.inl ⟨q1, by decide, hn, fun Vs sg ht => by rw [h0 Vs sg ht, q3 _ _ (htc sg), rn_cmp a b c u hk hn]⟩)⟩
          · exact ⟨r3, k2, hl, Or.inl ⟨q1, by omega, fun Vs sg ht => by rw [h0 Vs sg ht, q3 _ _ (htc sg), rn_red a b c u (by omega) (by omega) (by omega)]⟩⟩
        · exact absurd q2 (by decide)
        · exact ⟨r3, k2, hl, Or.inr (Or.inr ⟨q1, fun Vs sg ht => by rw [h0 Vs sg ht, q2 _ _ (htc sg)]⟩)⟩
      · rw [hb, if_neg hk]
        have hnr : nr r1 = rk ch := by rw [hr]; rfl
        exact ⟨r1, h2, h3, Or.inl ⟨g1, by omega, fun Vs sg ht => g3 Vs sg (tc_le ht (by omega))⟩⟩
  · exact absurd g2 (by decide)
  · rw [if_pos g1]
    exact ⟨r1, h2, h3, Or.inr (Or.inr ⟨g1, fun Vs sg ht => g2 Vs sg (tc_le ht (by omega))⟩)⟩
/-- a whole out of a factor -/
theorem PR_W {M : mS} {u E : Nat} {a b c : Int32} {d : Nat} {fF : sS → Int32 × sS} (h : PF M u E a b c d fF) : PR M u E a b c d 1 (mF_whole M fF) := by
  have h5 : PR M u E a b c d 5 (mF_product M fF) := by rw [pr_g]; exact PR_L (by decide) (by decide) (fun _ _ _ _ => rfl) (PR_F h)
  have h4 : PR M u E a b c d 4 (mF_sum M fF) := by rw [sm_g]; exact PR_L (by decide) (by decide) (fun _ _ _ _ => rfl) h5
  have h3 := PR_C h4
  have h2 : PR M u E a b c d 2 (mF_both M fF) := by rw [bo_g]; exact PR_L (by decide) (by decide) (fun _ _ _ _ => rfl) h3
  rw [wh_g]
  exact PR_L (by decide) (by decide) (fun _ _ _ _ => rfl) h2
