/-! acts, first: the field, people -/
theorem lt2_p {α β : Type} (q : α × β) : (lt2 q fun (x : α) (y : β) => (x, y)) = q := rfl
theorem AL_n {n m : Nat} {tt : tT} {x : Int32 × xS} {y : Int32 × mS} (h : AL n tt x y) (hn : n ≤ m) : AL m tt x y := ⟨h.1, INV_n h.2 hn⟩
theorem isC_e {n : Nat} {tt : tT} {X : xS} {M : mS} (h : INV n tt X M) (c : Int32) : x8_isCell X c = mF_isCell M c := by
  unfold x8_isCell mF_isCell
  rw [(eN_f (INV_eE h).1).1]
  rfl
theorem n8 {n : Nat} {tt : tT} {X : xS} {M : mS} (h : INV n tt X M) : vn (X 1 9) = vn (M 1 8) ∧ X 1 9 = M 1 8 := by
  have hn := (INV_eE h).1.2
  have hP := (INV_R h).2.1
  have e : vn (M 1 8) = vn (X 1 9) := by
    have := hn.2
    rw [if_neg (by have := hP.2; omega)] at this
    exact this
  exact ⟨e.symm, by rw [hn.1, hP.1, e]⟩
theorem isP_e {n : Nat} {tt : tT} {X : xS} {M : mS} (h : INV n tt X M) (c : Int32) : x8_isPerson X c = mF_isPerson M c := by
  unfold x8_isPerson mF_isPerson
  rw [(n8 h).2]
  rfl
theorem sk8 {i : Nat} (h : i < 8) : sk 8 i = i := by unfold sk; rw [if_pos h]
theorem gOK_g {R : Nat → Int32} {c w : Nat} (h : gOK R) (hc : c < 10) (hw : w ≤ 99999) : gOK (upd R (12 + c) (nI w)) := by
  refine ⟨fun d hd => ⟨?_, ?_⟩, fun q hq => ?_, fun q hq hq2 => ?_⟩
  · by_cases e : d = c
    · rw [e, pk_us, vn_nI (by omega)]; exact ⟨rfl, hw⟩
    · rw [pk_un (by omega)]; exact (h.1 d hd).1
  · rw [pk_un (by omega)]; exact (h.1 d hd).2
  · rw [pk_un (by omega)]; exact h.2.1 q hq
  · rw [pk_un (by omega)] at hq2
    rw [pk_un (by omega), pk_un (by omega)]; exact h.2.2 q hq hq2
theorem gOK_w {R : Nat → Int32} {c w : Nat} (h : gOK R) (hc : c < 10) (hw : w ≤ 99) : gOK (upd R (22 + c) (nI w)) := by
  refine ⟨fun d hd => ⟨?_, ?_⟩, fun q hq => ?_, fun q hq hq2 => ?_⟩
  · rw [pk_un (by omega)]; exact (h.1 d hd).1
  · by_cases e : d = c
    · rw [e, pk_us, vn_nI (by omega)]; exact ⟨rfl, hw⟩
    · rw [pk_un (by omega)]; exact (h.1 d hd).2
  · rw [pk_un (by omega)]; exact h.2.1 q hq
  · rw [pk_un (by omega)] at hq2
    rw [pk_un (by omega), pk_un (by omega)]; exact h.2.2 q hq hq2
theorem gOK_m {R : Nat → Int32} {q w : Nat} (h : gOK R) (hq : q < 8) (hw : w ≤ 9) : gOK (upd R (32 + 4 * q + 1) (nI w)) := by
  refine ⟨fun d hd => ⟨?_, ?_⟩, fun p hp => ?_, fun p hp hq2 => ?_⟩
  · rw [pk_un (by omega)]; exact (h.1 d hd).1
  · rw [pk_un (by omega)]; exact (h.1 d hd).2
  · by_cases e : p = q
    · rw [e, pk_us, vn_nI (by omega)]; exact ⟨rfl, hw⟩
    · rw [pk_un (by omega)]; exact h.2.1 p hp
  · rw [pk_un (by omega)] at hq2
    rw [pk_un (by omega), pk_un (by omega)]; exact h.2.2 p hp hq2
theorem gOK_o {R : Nat → Int32} {x : Nat} {v : Int32} (h : gOK R) (h1 : (x < 12 ∧ x ≠ 3 ∧ x ≠ 8) ∨ 64 ≤ x ∨ (32 ≤ x ∧ x % 4 ≠ 1 ∧ x % 4 ≠ 2)) : gOK (upd R x v) := by
  refine ⟨fun d hd => ⟨?_, ?_⟩, fun p hp => ?_, fun p hp hq2 => ?_⟩
  · rw [pk_un (by omega)]; exact (h.1 d hd).1
  · rw [pk_un (by omega)]; exact (h.1 d hd).2
  · rw [pk_un (by omega)]; exact h.2.1 p hp
  · rw [pk_un (by omega)] at hq2
    rw [pk_un (by omega), pk_un (by omega)]; exact h.2.2 p hp hq2
theorem gOK_at {R : Nat → Int32} {q : Nat} {v : Int32} (h : gOK R) (hv : vn v < vn (R 3)) : gOK (upd R (32 + 4 * q + 2) v) := by
  refine ⟨fun d hd => ⟨?_, ?_⟩, fun p hp => ?_, fun p hp hq2 => ?_⟩
  · rw [pk_un (by omega)]; exact (h.1 d hd).1
  · rw [pk_un (by omega)]; exact (h.1 d hd).2
  · rw [pk_un (by omega)]; exact h.2.1 p hp
  · rw [pk_un (by omega)] at hq2
    rw [pk_un (show 3 ≠ 32 + 4 * q + 2 by omega)]
    by_cases e : p = q
    · rw [e, pk_us]; exact hv
    · rw [pk_un (by omega)]; exact h.2.2 p hp hq2
theorem eA_o {X : xS} {a b : Nat} {v : Int32} (h : eA X 1) (ha : a ≠ 7) : eA (mU X a b v) 1 := by
  unfold eA; rw [mU_row (show 1 + 6 ≠ a by omega)]; exact h
theorem eA_7 {X : xS} {b w : Nat} (h : eA X 1) (hw : w < 10) : eA (mU X 7 b (nI w)) 1 := by
  intro q hq
  show mU X 7 b (nI w) 7 q = nI (vn (mU X 7 b (nI w) 7 q)) ∧ _
  rw [mU_sm]
  by_cases e : q = b
  · rw [if_pos e, vn_nI (by omega)]
    exact ⟨rfl, hw⟩
  · rw [if_neg e]
    exact h q hq
/-- one linked number of the estate becomes another -/
theorem up_e {n : Nat} {tt : tT} {X : xS} {M : mS} {a b x : Nat} (h : INV n tt X M) (hl : lk 8 (vn (X 1 9)) 1 a b x) (v : Int32) (hR : rOK (mU M 1 x v)) (hg : gOK (upd (M 1) x v)) (hA : eA (mU X a b v) 1) : INV n tt (mU X a b v) (mU M 1 x v) := by
  have hn : vn (X 1 9) ≤ 8 := eE_n (INV_eE h) (INV_R h).2.1
  have hb := lk_bd hl hn
  exact INV_E h (iE_up h.1 hl v hR (by rw [mU_at]; exact hg) hA) (fun p hp => mU_row (by omega)) (fun i h1 _ => mU_row h1)
theorem gX {n : Nat} {tt : tT} {X : xS} {M : mS} (h : INV n tt X M) : gOK (M 1) := h.1.2.2.1.2
theorem aX {n : Nat} {tt : tT} {X : xS} {M : mS} (h : INV n tt X M) : eA X 1 := h.1.2.2.2
theorem bec_e (M : mS) (x : Nat) (v : Int32) : mF_becomes M x v = (M 1 x, mU M 1 x v) := rfl
theorem sow_e {n : Nat} {tt : tT} {X : xS} {M : mS} (h : INV n tt X M) (c what v : Int32) : AL n tt (x8_sow X c what v) (mF_sow M c what v) := by
  unfold x8_sow mF_sow
  simp only [lt_i, lt2_p, bec_e, isC_e h, in_e]
  by_cases c1 : mF_isCell M c = 0
  · rw [if_pos c1, if_pos c1]; exact er1 h
  rw [if_neg c1, if_neg c1]
  by_cases c2 : sF_in what 0 1 = 0
  · rw [if_pos c2, if_pos c2]; exact er1 h
  rw [if_neg c2, if_neg c2]
  by_cases c3 : sF_in v 0 (if what = 0 then 99999 else 99) = 0
  · rw [if_pos c3, if_pos c3]; exact er1 h
  rw [if_neg c3, if_neg c3]
  have hR := INV_R h
  obtain ⟨d1, d2⟩ := cell_of hR.1 c1
  have h10 : vn c < 10 := Nat.lt_of_lt_of_le d2 hR.1.2.2
  have hg := eN_g (INV_eE h).1 h10
  by_cases c4 : what = 0
  · rw [if_pos c4, if_pos c4]
    rw [if_pos c4] at c3
    obtain ⟨w1, w2⟩ := in_nat (n := 99999) c3 ⟨rfl, by decide⟩
    refine ⟨hg.1, up_e h (Or.inr (Or.inl ⟨h10, Or.inl ⟨rfl, rfl⟩⟩)) v (rOK_up hR (by omega) (by omega) (by omega) (by omega) (fun q _ => by omega) (fun q _ => by omega)) ?_ (eA_o (aX h) (by decide))⟩
    rw [w1]; exact gOK_g (gX h) h10 w2
  · rw [if_neg c4, if_neg c4]
    rw [if_neg c4] at c3
    obtain ⟨w1, w2⟩ := in_nat (n := 99) c3 ⟨rfl, by decide⟩
    refine ⟨hg.2, up_e h (Or.inr (Or.inl ⟨h10, Or.inr ⟨rfl, rfl⟩⟩)) v (rOK_up hR (by omega) (by omega) (by omega) (by omega) (fun q _ => by omega) (fun q _ => by omega)) ?_ (eA_o (aX h) (by decide))⟩
    rw [w1]; exact gOK_w (gX h) h10 w2
theorem lay_e {n : Nat} {tt : tT} {X : xS} {M : mS} (h : INV n tt X M) (what v : Int32) : AL n tt (x8_lay X what v) (mF_lay M what v) := by
  obtain ⟨f0, f4, f5, f6, f7, f8, f18⟩ := eN_f (INV_eE h).1
  have hR := INV_R h
  have up : ∀ b x, (b = 4 ∧ x = 9) ∨ (b = 5 ∧ x = 10) ∨ (b = 6 ∧ x = 1) → INV n tt (mU X 1 b v) (mU M 1 x v) := fun b x hb =>
    up_e h (Or.inl ⟨rfl, by omega⟩) v (rOK_up hR (by omega) (by omega) (by omega) (by omega) (fun q _ => by omega) (fun q _ => by omega)) (gOK_o (gX h) (by omega)) (eA_o (aX h) (by decide))
  unfold x8_lay mF_lay x8_mostLaid
  simp only [lt_i, lt2_p, bec_e, in_e]
  rw [f0, f4, f5, f6]
  by_cases a0 : what = 0
  · subst a0
    rw [if_neg (show ¬ sF_in 0 0 2 = 0 by decide)]
    simp only [if_true, reduceIte]
    by_cases c : sF_in v 0 (1 <<< (M 1 3 - 1 &&& 31) - 1) = 0
    · rw [if_pos c, if_pos c]; exact er1 h
    · rw [if_neg c, if_neg c]; exact ⟨rfl, up 4 9 (by omega)⟩
  · by_cases a1 : what = 1
    · subst a1
      rw [if_neg (show ¬ sF_in 1 0 2 = 0 by decide)]
      simp only [if_true, reduceIte, if_neg a0]
      by_cases c : sF_in v 0 (1 <<< (M 1 3 &&& 31) - 1) = 0
      · rw [if_pos c, if_pos c]; exact er1 h
      · rw [if_neg c, if_neg c]; exact ⟨rfl, up 5 10 (by omega)⟩
    · by_cases a2 : what = 2
      · subst a2
        rw [if_neg (show ¬ sF_in 2 0 2 = 0 by decide)]
        simp only [if_true, reduceIte, if_neg a0, if_neg a1]
        by_cases c : sF_in v 0 9 = 0
        · rw [if_pos c, if_pos c]; exact er1 h
        · rw [if_neg c, if_neg c]; exact ⟨rfl, up 6 1 (by omega)⟩
      · have hn : sF_in what 0 2 = 0 := by
          by_cases c : sF_in what 0 2 = 0
          · exact c
          · obtain ⟨w1, w2⟩ := in_nat (n := 2) c ⟨rfl, by decide⟩
            exfalso
            rcases (show vn what = 0 ∨ vn what = 1 ∨ vn what = 2 by omega) with e | e | e <;> rw [e] at w1
            · exact a0 w1
            · exact a1 w1
            · exact a2 w1
        rw [if_pos hn, if_neg a0, if_neg a1, if_neg a2]
        exact er1 h
theorem seed_e {n : Nat} {tt : tT} {X : xS} {M : mS} (h : INV n tt X M) (v : Int32) : AL n tt (x8_seed X v) (mF_seed M v) := by
  obtain ⟨f0, f4, f5, f6, f7, f8, f18⟩ := eN_f (INV_eE h).1
  unfold x8_seed mF_seed
  simp only [lt_i]
  exact ⟨f18, up_e h (Or.inl ⟨rfl, by omega⟩) v (rOK_up (INV_R h) (by omega) (by omega) (by omega) (by omega) (fun q _ => by omega) (fun q _ => by omega)) (gOK_o (gX h) (by omega)) (eA_o (aX h) (by decide))⟩
theorem lead_e {n : Nat} {tt : tT} {X : xS} {M : mS} (h : INV n tt X M) (q what v : Int32) : AL n tt (x8_lead X q what v) (mF_lead M q what v) := by
  unfold x8_lead mF_lead
  simp only [lt_i, lt2_p, bec_e, in_e, isC_e h, isP_e h]
  by_cases c1 : mF_isPerson M q = 0
  · rw [if_pos c1, if_pos c1]; exact er1 h
  rw [if_neg c1, if_neg c1]
  have hR := INV_R h
  obtain ⟨d1, d2⟩ := person_of hR.2.1 c1
  have hq8 : vn q < 8 := Nat.lt_of_lt_of_le d2 hR.2.1.2
  have hn := n8 h
  have hqx : vn q < vn (X 1 9) := by rw [hn.1]; exact d2
  obtain ⟨q4, q5, q6, q7⟩ := eN_p (INV_eE h).1 hqx
  rw [sk8 hq8] at q4 q5 q6 q7
  by_cases a0 : what = 0
  · subst a0
    rw [if_neg (show ¬ sF_in 0 0 1 = 0 by decide)]
    simp only [if_true, reduceIte]
    by_cases c : mF_isCell M v = 0
    · rw [if_pos c, if_pos c]; exact er1 h
    · rw [if_neg c, if_neg c]
      obtain ⟨w1, w2⟩ := cell_of hR.1 c
      have w3 : vn v < 10 := Nat.lt_of_lt_of_le w2 hR.1.2.2
      have hl : lk 8 (vn (X 1 9)) 1 7 (vn q) (32 + 4 * vn q + 2) := Or.inr (Or.inr ⟨hqx, Or.inr (Or.inr (Or.inl ⟨rfl, by rw [sk8 hq8]⟩))⟩)
      refine ⟨q6, up_e h hl v (rOK_at hR hq8 ⟨w1, w3⟩) (gOK_at (gX h) w2) ?_⟩
      rw [w1]; exact eA_7 (aX h) w3
  · by_cases a1 : what = 1
    · subst a1
      rw [if_neg (show ¬ sF_in 1 0 1 = 0 by decide)]
      simp only [if_true, reduceIte, if_neg a0]
      by_cases c : sF_in v (-1) 1 = 0
      · simp only [if_pos c, reduceIte]; exact er1 h
      · simp only [if_neg c, reduceIte, show ¬ ((1 : Int32) = 0) by decide]
        have hl : lk 8 (vn (X 1 9)) 1 8 (vn q) (32 + 4 * vn q + 3) := Or.inr (Or.inr ⟨hqx, Or.inr (Or.inr (Or.inr ⟨rfl, by rw [sk8 hq8]⟩))⟩)
        exact ⟨q7, up_e h hl v (rOK_up hR (by omega) (by omega) (by omega) (by omega) (fun q _ => by omega) (fun q _ => by omega)) (gOK_o (gX h) (by omega)) (eA_o (aX h) (by decide))⟩
    · have hn : sF_in what 0 1 = 0 := by
        by_cases c : sF_in what 0 1 = 0
        · exact c
        · obtain ⟨w1, w2⟩ := in_nat (n := 1) c ⟨rfl, by decide⟩
          exfalso
          rcases (show vn what = 0 ∨ vn what = 1 by omega) with e | e <;> rw [e] at w1
          · exact a0 w1
          · exact a1 w1
      rw [if_pos hn]
      simp only [if_neg a0, if_neg a1, reduceIte]
      exact er1 h
