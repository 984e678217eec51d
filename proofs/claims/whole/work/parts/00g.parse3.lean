/-! factors, and a whole text -/
theorem dig_v {ch : Int32} (h : ¬ sF_isDigit ch = 0) : ∃ w : Nat, w < 10 ∧ ch - 48 = nI w ∧ ch = nI (w + 48) := by
  unfold sF_isDigit at h
  obtain ⟨h1, h2⟩ := in_of h
  obtain ⟨j, hj, rfl⟩ := nI_of2 (M := 57) (n := 57) (by decide) (x := ch) (fun e => h1 (Int32.lt_trans e (by decide))) (Int32.not_lt.mp h2)
  have h3 : 48 ≤ j := by
    rw [show (48 : Int32) = nI 48 from rfl, nI_ltI (by omega) (by decide)] at h1
    omega
  exact ⟨j - 48, by omega, by rw [show (48 : Int32) = nI 48 from rfl, pk_sub h3], by rw [Nat.sub_add_cancel h3]⟩
theorem es_num (a b c : Int32) {w : Nat} (h : w < 10000) (Vs : List Int32) : es a b c (nI w) Vs = nI w :: Vs := by
  unfold es
  have h0 : (0 : Int32) ≤ nI w := by rw [show (0 : Int32) = nI 0 from rfl, nI_leI (by decide) (by omega)]; omega
  rw [if_pos (Int32.le_trans (by decide) h0), if_pos h0]
theorem num_up (v ch : Int32) : 10 * v + ch - 48 = v * 10 + (ch - 48) := by
  rw [Int32.mul_comm, Int32.sub_eq_add_neg, Int32.sub_eq_add_neg, Int32.add_assoc]
/-- a number that stands with j digits: where it ends -/
theorem num_end (a b c : Int32) (u : Nat) (r : List Int32) (v : Int32) (j : Nat) (hj : 1 ≤ j) (h : 4 ≤ j ∨ ∀ ch t, r = ch :: t → sF_isDigit ch = 0) (Vs sg : List Int32) (op : Nat) : rn a b c u r (Vs, sg, op, v, j, false) = rn a b c u r (cnA a b c (es a b c v Vs) sg op z0) := by
  have hc : ∀ sg' Vs' op', ∃ p q o, cnA a b c Vs' sg' op' z0 = AF p q o := by
    intro sg'
    induction sg' with
    | nil => intro Vs' op'; exact ⟨_, _, _, rfl⟩
    | cons s t ih =>
      intro Vs' op'
      show ∃ p q o, (if s = 33 then cnA a b c _ t _ z0 else _) = _
      by_cases e : s = 33
      · rw [if_pos e]; exact ih _ _
      · rw [if_neg e]; exact ⟨_, _, _, rfl⟩
  obtain ⟨p, q, o, e⟩ := hc sg (es a b c v Vs) op
  have hn : ntA a b c (Vs, sg, op, v, j, false) = AF p q o := by
    unfold ntA
    rw [if_neg (show ¬ j = 0 by omega)]
    exact e
  rw [e]
  cases r with
  | nil => rw [rn_0, rn_0, hn, nt_AF]
  | cons ch t =>
    rw [rn_1, rn_1]
    congr 1
    unfold goA
    rw [hn, nt_AF]
    by_cases hd : sF_isDigit ch = 0
    · rw [if_pos hd, if_pos hd]
    · rw [if_neg hd, if_neg hd]
      rcases h with h | h
      · rw [if_neg (show ¬ (0 < j ∧ j < 4) by omega)]
        rfl
      · exact absurd (h ch t rfl) hd
theorem num_L {M : mS} {u E : Nat} {a b c : Int32} {d : Nat} : ∀ (f j w : Nat) (S : sS) (r : List Int32), 1 ≤ j → j ≤ 4 → j + f = 5 → w < 10 ^ j → RS M u E a b c d S r →
    ∃ r2, RS M u E a b c d (mF_number_L4 M f j (nI w) S).2.2 r2 ∧ r2.length ≤ r.length ∧ (mF_number_L4 M f j (nI w) S).2.2 14 = S 14 ∧ ∀ Vs sg op, rn a b c u r (Vs, sg, op, nI w, j, false) = rn a b c u r2 (cnA a b c ((mF_number_L4 M f j (nI w) S).2.1 :: Vs) sg op z0) := by
  intro f
  induction f with
  | zero =>
    intro j w S r hj hj4 hf hw hS
    exact absurd hf (by omega)
  | succ f ih =>
    intro j w S r hj hj4 hf hw hS
    have hw4 : w < 10000 := by
      have : 10 ^ j ≤ 10 ^ 4 := Nat.pow_le_pow_right (by decide) (by omega)
      omega
    rw [mF_number_L4_s]
    by_cases h4 : (4 : Int32) ≤ nI j
    · rw [if_pos h4]
      have h4' : 4 ≤ j := by rw [show (4 : Int32) = nI 4 from rfl, nI_leI (by decide) (by omega)] at h4; exact h4
      exact ⟨r, hS, Nat.le_refl _, rfl, fun Vs sg op => by rw [num_end a b c u r _ j hj (Or.inl h4'), es_num a b c hw4]⟩
    · rw [if_neg h4]
      have h4' : j < 4 := by rw [show (4 : Int32) = nI 4 from rfl, nI_leI (by decide) (by omega)] at h4; omega
      rcases RS_byte hS with ⟨hr, hb⟩ | ⟨ch, t, hr, hb, hS2⟩
      · rw [hb, if_pos (by decide)]
        exact ⟨r, hS, Nat.le_refl _, rfl, fun Vs sg op => by rw [num_end a b c u r _ j hj (Or.inr (fun ch t e => by rw [hr] at e; cases e)), es_num a b c hw4]⟩
      · rw [hb]
        by_cases hd : sF_isDigit ch = 0
        · rw [if_pos hd]
          exact ⟨r, hS, Nat.le_refl _, rfl, fun Vs sg op => by rw [num_end a b c u r _ j hj (Or.inr (fun ch2 t2 e => by rw [hr] at e; cases e; exact hd)), es_num a b c hw4]⟩
        · rw [if_neg hd]
          simp only [lt_i]
          obtain ⟨x, hx, hx2, hx3⟩ := dig_v hd
          have hv : 10 * nI w + ch - 48 = nI (w * 10 + x) := by
            rw [num_up, hx2, show (10 : Int32) = nI 10 from rfl, pk_mul, nI_add]
          rw [hv]
          obtain ⟨r2, k1, k2, k3, k4⟩ := ih (j + 1) (w * 10 + x) (upd S 8 (S 8 + 1)) t (by omega) (by omega) (by omega) (by rw [Nat.pow_succ]; omega) hS2
          refine ⟨r2, k1, by rw [hr]; exact Nat.le_succ_of_le k2, by rw [k3, pk_un (by decide)], fun Vs sg op => ?_⟩
          rw [← k4 Vs sg op, hr, rn_1]
          have hg : goA a b c u ch (Vs, sg, op, nI w, j, false) = some (Vs, sg, op, nI (w * 10 + x), j + 1, false) := by
            unfold goA
            rw [if_neg hd, if_pos (show 0 < j ∧ j < 4 by omega)]
            show some (Vs, sg, op, nI w * 10 + (ch - 48), j + 1, false) = _
            rw [hx2, show (10 : Int32) = nI 10 from rfl, pk_mul, nI_add]
          rw [hg]
          rfl
theorem num_F {M : mS} {u E : Nat} {a b c : Int32} {d : Nat} {S : sS} {ch : Int32} {t : List Int32} (hS : RS M u E a b c d S (ch :: t)) (hd : ¬ sF_isDigit ch = 0) : ∃ r2, RS M u E a b c d (mF_number M S).2 r2 ∧ r2.length ≤ t.length ∧ (mF_number M S).2 14 = S 14 ∧ ∀ Vs sg op, rn a b c u (ch :: t) (DU Vs sg op) = rn a b c u r2 (cnA a b c ((mF_number M S).1 :: Vs) sg op z0) := by
  obtain ⟨x, hx, hx2, hx3⟩ := dig_v hd
  rcases RS_byte hS with ⟨hr, hb⟩ | ⟨ch', t', hr, hb, hS2⟩
  · cases hr
  · cases hr
    have e : mF_number M S = ((mF_number_L4 M 4 1 (nI x) (upd S 8 (S 8 + 1))).2.1, (mF_number_L4 M 4 1 (nI x) (upd S 8 (S 8 + 1))).2.2) := by
      unfold mF_number
      rw [lt3_i, show fu5 = 4 + 1 from rfl, mF_number_L4_s, if_neg (by decide), hb, if_neg hd]
      simp only [lt_i]
      rw [num_up, hx2, show (0 : Int32) * 10 + nI x = nI x by rw [show (0 : Int32) = nI 0 from rfl, show (10 : Int32) = nI 10 from rfl, pk_mul, nI_add, Nat.zero_mul, Nat.zero_add]]
    rw [e]
    obtain ⟨r2, k1, k2, k3, k4⟩ := num_L (M := M) 4 1 x (upd S 8 (S 8 + 1)) t (by decide) (by decide) (by decide) (by omega) hS2
    refine ⟨r2, k1, k2, by rw [k3, pk_un (by decide)], fun Vs sg op => ?_⟩
    rw [← k4 Vs sg op, rn_1, go_DU, if_neg hd, hx2]
    rfl
theorem fl_14 (v : Int32) (S : sS) : ((v, upd S 14 0) : Int32 × sS).2 14 = 0 := by
  show upd S 14 0 14 = 0
  exact pk_us
theorem cb_40 (a b c : Int32) (op : Nat) (Vs sg : List Int32) : cbA a b c op Vs (40 :: sg) = some (cnA a b c Vs sg (op - 1) z0) := by
  show (if (40 : Int32) = 40 then some (cnA a b c Vs sg (op - 1) z0) else none) = _
  rw [if_pos rfl]
theorem nm_F {M : mS} {u E : Nat} {a b c : Int32} {d : Nat} {S : sS} {r : List Int32} (hS : RS M u E a b c d S r) (h1 : S 14 = 1) {x : Int32} (hx : x = mF_byteAt M S (vn (S 8))) (hd : sF_isDigit x = 0) (h33 : ¬ x = 33) (h40 : ¬ x = 40) : ∃ r2, RS M u E a b c d (mF_named M S x).2 r2 ∧ r2.length ≤ r.length ∧
    (((mF_named M S x).2 14 = 1 ∧ ∀ Vs sg op, rn a b c u r (DU Vs sg op) = rn a b c u r2 (cnA a b c ((mF_named M S x).1 :: Vs) sg op z0)) ∨
     ((mF_named M S x).2 14 = 0 ∧ ∀ Vs sg op, rn a b c u r (DU Vs sg op) = (r2.length, none))) := by
  have hu : (S 7 = 0) ↔ u = 0 := by
    rw [hS.1.1.1, show (0 : Int32) = nI 0 from rfl, nI_eq (by have := hS.1.1.2; omega) (by decide)]
  have hy : (if S 7 = 0 then (102 : Int32) else 103) = if u = 0 then 102 else 103 := by
    by_cases h : u = 0
    · rw [if_pos h, if_pos (hu.mpr h)]
    · rw [if_neg h, if_neg (fun e => h (hu.mp e))]
  have key : ∀ v : Int32, ¬ x = -1 → nmA u x ≠ 0 → (∀ Vs, es a b c (nmA u x) Vs = v :: Vs) → mF_named M S x = (v, upd S 8 (S 8 + 1)) → ∃ r2, RS M u E a b c d (mF_named M S x).2 r2 ∧ r2.length ≤ r.length ∧
    (((mF_named M S x).2 14 = 1 ∧ ∀ Vs sg op, rn a b c u r (DU Vs sg op) = rn a b c u r2 (cnA a b c ((mF_named M S x).1 :: Vs) sg op z0)) ∨
     ((mF_named M S x).2 14 = 0 ∧ ∀ Vs sg op, rn a b c u r (DU Vs sg op) = (r2.length, none))) := by
    intro v hm hn he hv
    rcases RS_byte hS with ⟨hr, hb⟩ | ⟨ch, t, hr, hb, hS2⟩
    · exact absurd (hx.trans hb) hm
    · have hxc : x = ch := hx.trans hb
      subst hxc
      rw [hv]
      refine ⟨t, hS2, by rw [hr]; exact Nat.le_succ _, Or.inl ⟨by show (upd S 8 (S 8 + 1)) 14 = 1; rw [pk_un (by decide)]; exact h1, fun Vs sg op => ?_⟩⟩
      rw [hr, rn_1, go_DU, if_pos hd]
      unfold tmA
      rw [if_neg (fun e => e.elim h33 h40), if_neg hn, he]
      rfl
  by_cases e1 : x = 109
  · have hm : nmA u x = -1 := by unfold nmA; rw [if_pos e1]
    refine key a (by rw [e1]; decide) (by rw [hm]; decide) (fun Vs => by rw [hm]; rfl) ?_
    unfold mF_named
    simp only [lt_i, lt2_i, e1, reduceIte, show ¬ ((1 : Int32) = 0) by decide]
    show ((upd S 8 (S 8 + 1)) 11, _) = _
    rw [pk_un (by decide), hS.2.1.1]
  · by_cases e2 : x = (if u = 0 then 102 else 103)
    · have hm : nmA u x = -2 := by unfold nmA; rw [if_neg e1, if_pos e2]
      refine key b (by rw [e2]; split <;> decide) (by rw [hm]; decide) (fun Vs => by rw [hm]; rfl) ?_
      unfold mF_named
      simp only [lt_i, lt2_i, hy, if_neg e1, if_pos e2, reduceIte, show ¬ ((1 : Int32) = 0) by decide]
      show ((upd S 8 (S 8 + 1)) 12, _) = _
      rw [pk_un (by decide), hS.2.1.2.1]
    · by_cases e3 : x = 104
      · have hm : nmA u x = -3 := by unfold nmA; rw [if_neg e1, if_neg e2, if_pos e3]
        refine key c (by rw [e3]; decide) (by rw [hm]; decide) (fun Vs => by rw [hm]; rfl) ?_
        unfold mF_named
        simp only [lt_i, lt2_i, hy, if_neg e1, if_neg e2, if_pos e3, reduceIte, show ¬ ((1 : Int32) = 0) by decide]
        show ((upd S 8 (S 8 + 1)) 13, _) = _
        rw [pk_un (by decide), hS.2.1.2.2]
      · have hm : nmA u x = 0 := by unfold nmA; rw [if_neg e1, if_neg e2, if_neg e3]
        have hv : mF_named M S x = (0, upd S 14 0) := by
          unfold mF_named mF_fails
          simp only [lt_i, lt2_i, hy, if_neg e1, if_neg e2, if_neg e3, reduceIte]
        rw [hv]
        refine ⟨r, RS_14 hS (Or.inl rfl), Nat.le_refl _, Or.inr ⟨fl_14 _ _, fun Vs sg op => ?_⟩⟩
        rcases RS_byte hS with ⟨hr, hb⟩ | ⟨ch, t, hr, hb, hS2⟩
        · rw [hr, rn_0, nt_DU]
          rfl
        · have hxc : x = ch := hx.trans hb
          subst hxc
          rw [hr, rn_1, go_DU, if_pos hd]
          unfold tmA
          rw [if_neg (fun e => e.elim h33 h40), if_pos hm]
          rfl
theorem PF_0 {M : mS} {u E : Nat} {a b c : Int32} : PF M u E a b c 0 (mF_factor0 M) := by
  intro S r hS h1
  unfold mF_factor0
  rw [lt_i]
  obtain ⟨x, hx⟩ : ∃ x, x = mF_byteAt M S (vn (S 8)) := ⟨_, rfl⟩
  rw [← hx]
  have hbr : x = 33 ∨ x = 40 → ∃ r2, RS M u E a b c 0 (mF_fails M S).2 r2 ∧ r2.length ≤ r.length ∧ (((mF_fails M S).2 14 = 1 ∧ ∀ Vs sg, rn a b c u r (DU Vs sg (5 - 0)) = rn a b c u r2 (cnA a b c ((mF_fails M S).1 :: Vs) sg (5 - 0) z0)) ∨ ((mF_fails M S).2 14 = 0 ∧ ∀ Vs sg, rn a b c u r (DU Vs sg (5 - 0)) = (r2.length, none))) := by
    intro hc
    unfold mF_fails
    rw [lt_i]
    refine ⟨r, RS_14 hS (Or.inl rfl), Nat.le_refl _, Or.inr ⟨fl_14 _ _, fun Vs sg => ?_⟩⟩
    rcases RS_byte hS with ⟨hr, hb⟩ | ⟨ch, t, hr, hb, hS2⟩
    · have h9 := hx.trans hb
      rcases hc with e | e <;> exact absurd (e.symm.trans h9) (by decide)
    · have hxc : x = ch := hx.trans hb
      subst hxc
      rw [hr, rn_1, go_DU, if_pos (by rcases hc with rfl | rfl <;> decide)]
      unfold tmA
      rw [if_pos hc]
      rfl
  by_cases hd : sF_isDigit x = 0
  · rw [if_pos hd]
    by_cases h33 : x = 33
    · rw [if_pos h33, lt2_i]; exact hbr (Or.inl h33)
    · rw [if_neg h33]
      by_cases h40 : x = 40
      · rw [if_pos h40, lt2_i]; exact hbr (Or.inr h40)
      · rw [if_neg h40, lt2_i]
        obtain ⟨r2, k1, k2, k3⟩ := nm_F hS h1 hx hd h33 h40
        refine ⟨r2, k1, k2, ?_⟩
        rcases k3 with ⟨g1, g2⟩ | ⟨g1, g2⟩
        · exact Or.inl ⟨g1, fun Vs sg => g2 Vs sg _⟩
        · exact Or.inr ⟨g1, fun Vs sg => g2 Vs sg _⟩
  · rw [if_neg hd, lt2_i]
    rcases RS_byte hS with ⟨hr, hb⟩ | ⟨ch, t, hr, hb, hS2⟩
    · exact absurd (hx.trans hb) (fun e => hd (by rw [e]; decide))
    · have hxc : x = ch := hx.trans hb
      subst hxc
      rw [hr] at hS ⊢
      obtain ⟨r2, k1, k2, k3, k4⟩ := num_F hS hd
      exact ⟨r2, k1, Nat.le_succ_of_le k2, Or.inl ⟨k3.trans h1, fun Vs sg => k4 Vs sg _⟩⟩
theorem cn_33 (a b c : Int32) (v : Int32) (Vs sg : List Int32) (op : Nat) : cnA a b c (v :: Vs) (33 :: sg) op z0 = cnA a b c ((if v = 0 then 1 else 0) :: Vs) sg (op - 1) z0 := by
  show (if (33 : Int32) = 33 then _ else _) = _
  rw [if_pos rfl]
  rfl
theorem PF_S {M : mS} {u E : Nat} {a b c : Int32} {d : Nat} {fF fW : sS → Int32 × sS} (hF : PF M u E a b c d fF) (hW : PR M u E a b c d 1 fW) (hd5 : d + 1 ≤ 5) : PF M u E a b c (d + 1) (mF_factorS M fF fW) := by
  intro S r hS h1
  have ho : 5 - (d + 1) < 5 := by omega
  have ho2 : 5 - (d + 1) + 1 = 5 - d := by omega
  unfold mF_factorS
  rw [lt_i]
  obtain ⟨x, hx⟩ : ∃ x, x = mF_byteAt M S (vn (S 8)) := ⟨_, rfl⟩
  rw [← hx]
  by_cases hd : sF_isDigit x = 0
  · rw [if_pos hd]
    by_cases hb2 : x = 33 ∨ x = 40
    · rcases RS_byte hS with ⟨hr, hb⟩ | ⟨ch, t, hr, hb, hS2⟩
      · have h9 := hx.trans hb
        rcases hb2 with e | e <;> exact absurd (e.symm.trans h9) (by decide)
      · have hxc : x = ch := hx.trans hb
        subst hxc
        have hS3 : RS M u E a b c d (upd (upd S 10 (S 10 + 1)) 8 ((upd S 10 (S 10 + 1)) 8 + 1)) t := by
          rcases RS_byte (RS_10 hS) with ⟨hr', _⟩ | ⟨ch', t', hr', _, hS'⟩
          · rw [hr] at hr'; cases hr'
          · rw [hr] at hr'; cases hr'; exact hS'
        have h14 : (upd (upd S 10 (S 10 + 1)) 8 ((upd S 10 (S 10 + 1)) 8 + 1)) 14 = 1 := by rw [pk_un (by decide), pk_un (by decide)]; exact h1
        have hst : ∀ Vs sg, rn a b c u r (DU Vs sg (5 - (d + 1))) = rn a b c u t (DU Vs (x :: sg) (5 - d)) := fun Vs sg => by
          rw [hr, rn_1, go_DU, if_pos hd]
          unfold tmA
          rw [if_pos hb2, if_pos ho, ho2]
          rfl
        by_cases h33 : x = 33
        · subst h33
          simp only [if_true, reduceIte, lt_i, lt2_i]
          obtain ⟨r2, k1, k2, k3⟩ := hF _ _ hS3 h14
          generalize fF _ = q at k1 k3 ⊢
          obtain ⟨v, S79⟩ := q
          have hS97 := RS_10m k1 hd5
          have e14 : (upd S79 10 (S79 10 - 1)) 14 = S79 14 := pk_un (by decide)
          have eF : (if v = 0 then ((1 : Int32), upd S79 10 (S79 10 - 1)) else (0, upd S79 10 (S79 10 - 1))) = ((if v = 0 then 1 else 0), upd S79 10 (S79 10 - 1)) := by
            by_cases e : v = 0
            · rw [if_pos e, if_pos e]
            · rw [if_neg e, if_neg e]
          show ∃ r2, RS M u E a b c (d + 1) (if v = 0 then ((1 : Int32), upd S79 10 (S79 10 - 1)) else (0, upd S79 10 (S79 10 - 1))).2 r2 ∧ _
          rw [eF]
          refine ⟨r2, hS97, by rw [hr]; exact Nat.le_succ_of_le k2, ?_⟩
          rcases k3 with ⟨g1, g2⟩ | ⟨g1, g2⟩
          · refine Or.inl ⟨e14.trans g1, fun Vs sg => ?_⟩
            rw [hst, g2, cn_33, show 5 - d - 1 = 5 - (d + 1) by omega]
          · exact Or.inr ⟨e14.trans g1, fun Vs sg => by rw [hst, g2]⟩
        · have h40 : x = 40 := hb2.resolve_left h33
          subst h40
          simp only [if_neg h33, if_true, reduceIte, lt_i, lt2_i]
          obtain ⟨r2, k1, k2, k3⟩ := hW _ _ hS3 h14
          generalize fW _ = q at k1 k3 ⊢
          obtain ⟨v, S86⟩ := q
          have hS97 := RS_10m k1 hd5
          have e14 : (upd S86 10 (S86 10 - 1)) 14 = S86 14 := pk_un (by decide)
          have hfl : mF_fails M (upd S86 10 (S86 10 - 1)) = (0, upd (upd S86 10 (S86 10 - 1)) 14 0) := by unfold mF_fails; rw [lt_i]
          have htc : ∀ sg : List Int32, tc 1 (40 :: sg) := fun sg => ⟨by decide, by decide⟩
          have hlen : r2.length ≤ r.length := by rw [hr]; exact Nat.le_succ_of_le k2
          by_cases hg : S86 14 = 0
          · rw [if_pos (show (upd S86 10 (S86 10 - 1)) 14 = 0 from e14.trans hg), hfl]
            refine ⟨r2, RS_14 hS97 (Or.inl rfl), hlen, Or.inr ⟨fl_14 _ _, fun Vs sg => ?_⟩⟩
            rcases k3 with ⟨g1, g2, g3⟩ | ⟨g1, g2, g3, g4⟩ | ⟨g1, g2⟩
            · exact absurd (g1.symm.trans hg) (by decide)
            · exact absurd (g1.symm.trans hg) (by decide)
            · rw [hst, g2 _ _ (htc sg)]
          · rw [if_neg (show ¬ (upd S86 10 (S86 10 - 1)) 14 = 0 from fun e => hg (e14.symm.trans e))]
            rcases k3 with ⟨g1, g2, g3⟩ | ⟨g1, g2, g3, g4⟩ | ⟨g1, g2⟩
            · have h0 : nr r2 = 0 := by omega
              rcases RS_byte hS97 with ⟨hr2, hb3⟩ | ⟨ch, t2, hr2, hb3, hS4⟩
              · rw [hb3, if_neg (by decide), hfl]
                refine ⟨r2, RS_14 hS97 (Or.inl rfl), hlen, Or.inr ⟨fl_14 _ _, fun Vs sg => ?_⟩⟩
                rw [hst, g3 _ _ (htc sg), rn_bad a b c u h0 (fun ch t e => by rw [hr2] at e; cases e) _ _ _ (fun _ => by omega)]
              · rw [hb3]
                by_cases h41 : ch = 41
                · rw [if_pos h41]
                  refine ⟨t2, hS4, by rw [hr2] at hlen; exact Nat.le_of_succ_le hlen, Or.inl ⟨by rw [pk_un (by decide)]; exact e14.trans g1, fun Vs sg => ?_⟩⟩
                  rw [hst, g3 _ _ (htc sg), hr2, rn_1, go_AF, h41, if_pos (by decide)]
                  unfold tsA
                  rw [if_pos rfl, pd_tc a b c _ (htc sg), cb_40, show 5 - d - 1 = 5 - (d + 1) by omega]
                  rfl
                · rw [if_neg h41, hfl]
                  refine ⟨r2, RS_14 hS97 (Or.inl rfl), hlen, Or.inr ⟨fl_14 _ _, fun Vs sg => ?_⟩⟩
                  rw [hst, g3 _ _ (htc sg), rn_bad a b c u h0 (fun ch2 t3 e => by rw [hr2] at e; cases e; exact h41) _ _ _ (fun _ => by omega)]
            · have hne : ¬ mF_byteAt M (upd S86 10 (S86 10 - 1)) (vn ((upd S86 10 (S86 10 - 1)) 8)) = 41 := by
                rcases RS_byte hS97 with ⟨hr2, hb3⟩ | ⟨ch, t2, hr2, hb3, hS4⟩
                · rw [hb3]; decide
                · rw [hb3]
                  intro e
                  rw [hr2, e] at g3
                  exact absurd (show (0 : Nat) = 3 from g3) (by decide)
              rw [if_neg hne, hfl]
              exact ⟨r2, RS_14 hS97 (Or.inl rfl), hlen, Or.inr ⟨fl_14 _ _, fun Vs sg => by rw [hst, g4 _ _ (htc sg)]⟩⟩
            · exact absurd g1 hg
    · have h33 : ¬ x = 33 := fun e => hb2 (Or.inl e)
      have h40 : ¬ x = 40 := fun e => hb2 (Or.inr e)
      rw [if_neg h33, if_neg h40, lt2_i]
      obtain ⟨r2, k1, k2, k3⟩ := nm_F hS h1 hx hd h33 h40
      refine ⟨r2, k1, k2, ?_⟩
      rcases k3 with ⟨g1, g2⟩ | ⟨g1, g2⟩
      · exact Or.inl ⟨g1, fun Vs sg => g2 Vs sg _⟩
      · exact Or.inr ⟨g1, fun Vs sg => g2 Vs sg _⟩
  · rw [if_neg hd, lt2_i]
    rcases RS_byte hS with ⟨hr, hb⟩ | ⟨ch, t, hr, hb, hS2⟩
    · exact absurd (hx.trans hb) (fun e => hd (by rw [e]; decide))
    · have hxc : x = ch := hx.trans hb
      subst hxc
      rw [hr] at hS ⊢
      obtain ⟨r2, k1, k2, k3, k4⟩ := num_F hS hd
      exact ⟨r2, k1, Nat.le_succ_of_le k2, Or.inl ⟨k3.trans h1, fun Vs sg => k4 Vs sg _⟩⟩
theorem PF_d {M : mS} {u E : Nat} {a b c : Int32} : ∀ d, d ≤ 5 → PF M u E a b c d (pF M d) := by
  intro d
  induction d with
  | zero => intro _; exact PF_0
  | succ d ih => intro h; exact PF_S (ih (by omega)) (PR_W (ih (by omega))) h
theorem pS0_R {M : mS} {u E : Nat} {a b c : Int32} (hu : u < 2) (hE : E ≤ 50) : RS M u E a b c 5 (pS0 u (nI E) a b c) (bl (fun k => M 1 (134 + 50 * u + k)) E 0) :=
  ⟨⟨⟨rfl, hu⟩, ⟨rfl, hE⟩, ⟨rfl, Nat.zero_le _⟩, ⟨rfl, Nat.le_refl _⟩, Or.inr rfl⟩, ⟨rfl, rfl, rfl⟩, rfl⟩
/-- a whole text: what the reference reads is what the automaton says -/
theorem walk_A {M : mS} {u E : Nat} {a b c : Int32} (hu : u < 2) (hE : E ≤ 50) : ∃ k, k ≤ E ∧ (mF_whole M (pF M 5) (pS0 u (nI E) a b c)).2 8 = nI k ∧ (mF_whole M (pF M 5) (pS0 u (nI E) a b c)).2 9 = nI E ∧
    (((mF_whole M (pF M 5) (pS0 u (nI E) a b c)).2 14 = 1 ∧ k = E ∧ rn a b c u (bl (fun k => M 1 (134 + 50 * u + k)) E 0) (DU [] [] 0) = (0, some (mF_whole M (pF M 5) (pS0 u (nI E) a b c)).1)) ∨
     (((mF_whole M (pF M 5) (pS0 u (nI E) a b c)).2 14 = 0 ∨ k ≠ E) ∧ rn a b c u (bl (fun k => M 1 (134 + 50 * u + k)) E 0) (DU [] [] 0) = (E - k, none))) := by
  have hR := pS0_R (M := M) (a := a) (b := b) (c := c) hu hE
  obtain ⟨r2, k1, k2, k3⟩ := PR_W (PF_d 5 (Nat.le_refl _)) _ _ hR rfl
  generalize mF_whole M (pF M 5) (pS0 u (nI E) a b c) = q at k1 k3 ⊢
  obtain ⟨v, S⟩ := q
  have hl : vn (S 8) + r2.length = E := RS_len k1
  have h8 : S 8 = nI (vn (S 8)) ∧ vn (S 8) ≤ E := k1.1.2.2.1
  refine ⟨vn (S 8), h8.2, h8.1, k1.1.2.1.1, ?_⟩
  have hrl : r2.length = E - vn (S 8) := by omega
  rcases k3 with ⟨g1, g2, g3⟩ | ⟨g1, g2, g3, g4⟩ | ⟨g1, g2⟩
  · have h0 : nr r2 = 0 := by omega
    have g3 := g3 [] [] trivial
    by_cases he : vn (S 8) = E
    · refine Or.inl ⟨g1, he, ?_⟩
      have hn : r2 = [] := List.eq_nil_of_length_eq_zero (by omega)
      rw [show (0 : Nat) = 5 - 5 from rfl, g3, hn, rn_0, nt_AF]
      rfl
    · refine Or.inr ⟨Or.inr he, ?_⟩
      rw [show (DU [] [] 0) = DU [] [] (5 - 5) from rfl, g3, ← hrl]
      cases r2 with
      | nil => exact absurd hrl (by show ¬ (0 : Nat) = _; omega)
      | cons ch t =>
        by_cases h41 : ch = 41
        · rw [rn_1, go_AF, h41, if_pos (by decide)]
          rfl
        · exact rn_bad a b c u h0 (fun ch2 t3 e => by cases e; exact h41) _ _ _ (fun e => by cases e)
  · have g4 := g4 [] [] trivial
    have hne : ¬ vn (S 8) = E := by
      intro e
      have hn : r2 = [] := List.eq_nil_of_length_eq_zero (by omega)
      rw [hn] at g3
      exact absurd g3 (by decide)
    exact Or.inr ⟨Or.inr hne, by rw [show (DU [] [] 0) = DU [] [] (5 - 5) from rfl, g4, hrl]⟩
  · have g2 := g2 [] [] trivial
    exact Or.inr ⟨Or.inl g1, by rw [show (DU [] [] 0) = DU [] [] (5 - 5) from rfl, g2, hrl]⟩
