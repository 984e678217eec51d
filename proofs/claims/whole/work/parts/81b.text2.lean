/-! text(int): the tape's text, the world being three cells more -/
/-- no estate holds the number that the next text gets -/
def tF (tt : tT) (X : xS) : Prop := ∀ p, p = 1 ∨ p = 13 ∨ p = 25 → ∀ f, f = 14 ∨ f = 15 → X p f = -1 ∨ vn (X p f) ≠ tt.1
theorem kd_0 : ∀ p, p < 62 → kd p = 0 → p = 1 ∨ p = 13 ∨ p = 25 := by decide
theorem rT_new {ta ta2 : Nat → Nat} {v : Int32} (h : v = -1 ∨ ta2 (vn v) = ta (vn v)) : rT ta2 v = rT ta v := by
  rcases h with h | h
  · rw [rT_null h, rT_null h]
  · by_cases e : v = -1
    · rw [rT_null e, rT_null e]
    · rw [rT_ref e, rT_ref e, h]
theorem xCell_ta {ad sa ta ta2 : Nat → Nat} {cc : cT} {p : Nat} {x : Nat → Int32} (hp : p < 62) (h : p = 1 ∨ p = 13 ∨ p = 25 → ∀ f, f = 14 ∨ f = 15 → rT ta2 (x f) = rT ta (x f)) : xCell ad sa ta2 cc p x = xCell ad sa ta cc p x := by
  by_cases e : kd p = 0
  · rw [xE_c e, xE_c e]
    have h1 := h (kd_0 p hp e)
    unfold eF
    rw [h1 14 (Or.inl rfl), h1 15 (Or.inr rfl)]
  · unfold xCell
    split
    all_goals first | rfl | omega
theorem cW_ta {ad sa ta ta2 : Nat → Nat} {cc : cT} {X : xS} (h : ∀ p, p = 1 ∨ p = 13 ∨ p = 25 → ∀ f, f = 14 ∨ f = 15 → rT ta2 (X p f) = rT ta (X p f)) : cW ad sa ta2 cc X = cW ad sa ta cc X := by
  unfold cW
  refine List.map_congr_left (fun p hp => ?_)
  rw [xCell_ta (List.mem_range.mp hp) (fun hq => h p hq)]
theorem tW_new (cc : cT) (tt : tT) (a b c n : Nat) (r : Nat → Int32) (w : Nat → Nat → Int32) : ∀ k, k ≤ tt.1 → tW cc (tNew tt a b c n r) (va_up w tt.1 (fun _ => 0)) k = tW cc tt w k
  | 0, _ => rfl
  | k + 1, hk => by
    have hne : k ≠ tt.1 := by omega
    have e1 : (tNew tt a b c n r).2.1 k = tt.2.1 k := if_neg hne
    have e2 : (tNew tt a b c n r).2.2.1 k = tt.2.2.1 k := if_neg hne
    have e3 : (tNew tt a b c n r).2.2.2.1 k = tt.2.2.2.1 k := if_neg hne
    have e4 : (tNew tt a b c n r).2.2.2.2.1 k = tt.2.2.2.2.1 k := if_neg hne
    have e5 : (tNew tt a b c n r).2.2.2.2.2 k = tt.2.2.2.2.2 k := if_neg hne
    have e6 : va_up w tt.1 (fun _ => 0) k = w k := va_up_ne w _ hne
    show tW cc (tNew tt a b c n r) (va_up w tt.1 (fun _ => 0)) k ++ tW1 cc (tNew tt a b c n r) (va_up w tt.1 (fun _ => 0)) k = tW cc tt w k ++ tW1 cc tt w k
    rw [tW_new cc tt a b c n r w k (by omega)]
    unfold tW1
    rw [e1, e2, e3, e4, e5, e6]
theorem xW_new (ad sa : Nat → Nat) (cc : cT) (tt : tT) (a b c n : Nat) (r : Nat → Int32) (X : xS) (w : Nat → Nat → Int32) (hf : tF tt X) : xW ad sa cc (tNew tt a b c n r) X (va_up w tt.1 (fun _ => 0)) = xW ad sa cc tt X w ++ [(a, .inr (5, [.ref b, .ref c])), (b, .inl (cc.1, n, .inl r)), (c, .inl (cc.1, n, .inl (fun _ => 0)))] := by
  have e1 : cW ad sa (tNew tt a b c n r).2.1 cc X = cW ad sa tt.2.1 cc X := cW_ta (fun p hp f hf2 => rT_new (by
    rcases hf p hp f hf2 with h | h
    · exact Or.inl h
    · exact Or.inr (if_neg h)))
  have z1 : (tNew tt a b c n r).2.1 tt.1 = a := if_pos rfl
  have z2 : (tNew tt a b c n r).2.2.1 tt.1 = b := if_pos rfl
  have z3 : (tNew tt a b c n r).2.2.2.1 tt.1 = c := if_pos rfl
  have z4 : (tNew tt a b c n r).2.2.2.2.1 tt.1 = n := if_pos rfl
  have z5 : (tNew tt a b c n r).2.2.2.2.2 tt.1 = r := if_pos rfl
  show cW ad sa (tNew tt a b c n r).2.1 cc X ++ (tW cc (tNew tt a b c n r) (va_up w tt.1 (fun _ => 0)) tt.1 ++ tW1 cc (tNew tt a b c n r) (va_up w tt.1 (fun _ => 0)) tt.1) = (cW ad sa tt.2.1 cc X ++ tW cc tt w tt.1) ++ _
  rw [e1, tW_new cc tt a b c n r w tt.1 (Nat.le_refl _), List.append_assoc]
  congr 2
  unfold tW1
  rw [z1, z2, z3, z4, z5, va_up_self]
theorem eF_txt {ad ta : Nat → Nat} {x : Nat → Int32} {v : Int32} {q : Nat} (h : rT ta v = .ref q) : eF ad ta 1 (upd x 14 v) = (eF ad ta 1 x).set 14 (.ref q) := by
  rw [← h]; rfl
theorem eF_tx5 {ad ta : Nat → Nat} {x : Nat → Int32} {v : Int32} {q : Nat} (h : rT ta v = .ref q) : eF ad ta 1 (upd x 15 v) = (eF ad ta 1 x).set 15 (.ref q) := by
  rw [← h]; rfl
theorem rT_tN (tt : tT) (a b c n : Nat) (r : Nat → Int32) (ht : tt.1 < 2 ^ 31) : rT (tNew tt a b c n r).2.1 (nI tt.1) = .ref a := by
  have h1 : ¬ nI tt.1 = -1 := fun h => m1_nI ht h.symm
  rw [rT_ref h1, vn_nI ht]
  congr 1
  exact if_pos rfl
set_option maxHeartbeats 4000000 in
set_option maxRecDepth 100000 in
/-- text(int) -/
theorem kx8_text (zl : Launch) (D : va_G) (ad sa : Nat → Nat) (cc : cT) (tt : tT) (X : xS) (u : Int32) (hd : dN X) (hz : X 9 1 = nI (vn (X 9 1)) ∧ vn (X 9 1) ≤ 50) (hdf : ∀ k, 1 ≤ k → k < 3 → dN (x3_faultOf X k).2 ∧ ∀ p, p < 37 → (x3_faultOf X k).2 p = X p) (hf : tF tt X) (ht : tt.1 < 2 ^ 31) (sz : Nat) (w : Nat → Nat → Int32) : Met zl yX8_text wsX8_text ({ frames := 7, cells := 3, slots := 102, locals := 200 } : Room) (fun a U => xPre D ad sa cc tt [.ref (ad 0), .int u] X w sz a U ∧ va_Nw clN U) (va_Qi (fun (r : Int32) (_ : Nat × Nat × Nat × (Nat → Nat → Int32)) => r = (x8_text tt X u).1) (fun v t => va_P D vwCl (xW ad sa cc (x8_textT tt X u v.1 v.2.1 v.2.2.1) (x8_text tt X u).2 v.2.2.2) t.heap ∧ va_K D vwCl (xTy cc) t ∧ va_D (va_A (xW ad sa cc tt X w) sz) (xW ad sa cc (x8_textT tt X u v.1 v.2.1 v.2.2.1) (x8_text tt X u).2 v.2.2.2)) (va_A (xW ad sa cc tt X w) sz)) 3 102 (va_A (xW ad sa cc tt X w) sz) := by
  refine Met.ofW (cc := cX8_text) (maxL := 3) (ret := some .int) (by decide) rfl ?_
  intro p e s m args below meth c s₁ B hml hv
  obtain ⟨⟨rfl, hsz, hP, hK, hD0, hE⟩, hN⟩ := hv
  subst hsz
  have hx := B.exec
  have hb := B.bytes
  have hr := B.returns
  have hl := lv_entry ([.ref (ad 0), .int u]) (n := 3) (Nat.le_of_ble_eq_true rfl)
  rw [lg_entry_eq]
  generalize (lg_sl ([.ref (ad 0), .int u]) ++ List.replicate (3 - (lg_sl ([.ref (ad 0), .int u])).length) Slot.unset).toArray = ls at hl ⊢
  have hl : lv_has ls 3 [(0, .ref (ad 0)), (1, .int u)] := hl
  have C : xC cX8_text 3 RX8 wsX8_text D sa cc (va_A (xW ad sa cc tt X w) s.heap.size) p s m c ([.ref (ad 0), .int u] : List Value).toArray := ⟨hx, hb, hml, findClass_of_methodNamed B.named, atoms_spec (ws := wsX8_text) B.pre, hK, hE⟩
  have hD := hD0.self (sz := s.heap.size)
  have hAA : ∀ q, s.heap.size ≤ q → va_A (xW ad sa cc tt X w) s.heap.size q := fun q h => Or.inr h
  generalize va_A (xW ad sa cc tt X w) s.heap.size = A at hD C hAA ⊢
  have hA : ∀ q, s.heap.size ≤ q → A q := hAA
  have G : xG D ad sa cc tt A s.heap s.heap [] X := ⟨w, hP, hD, va_S.rf⟩
  have hend : ∀ (pc : Nat) (H : Heap) (locs : List Loc) (ls : Array Slot) (r : Int32) (X2 : xS) (a b d : Nat) (w2 : Nat → Nat → Int32), x8_text tt X u = (r, X2) → va_P D vwCl (xW ad sa cc (x8_textT tt X u a b d) X2 w2) H → va_D A (xW ad sa cc (x8_textT tt X u a b d) X2 w2) → va_S A s.heap H locs → decode cX8_text pc = .ok (.ireturn, 1) → W p zl e ({ frames := 7, cells := 3, slots := 102, locals := 200 } : Room) s m ([.ref (ad 0), .int u] : List Value).toArray below meth c H locs 3 102 (MQ below (va_Qi (fun (r : Int32) (_ : Nat × Nat × Nat × (Nat → Nat → Int32)) => r = (x8_text tt X u).1) (fun v t => va_P D vwCl (xW ad sa cc (x8_textT tt X u v.1 v.2.1 v.2.2.1) (x8_text tt X u).2 v.2.2.2) t.heap ∧ va_K D vwCl (xTy cc) t ∧ va_D A (xW ad sa cc (x8_textT tt X u v.1 v.2.1 v.2.2.1) (x8_text tt X u).2 v.2.2.2)) A) ([.ref (ad 0), .int u] : List Value).toArray s 3 102 A) (F0 m pc ls [.int r]) := by
    intro pc H locs ls r X2 a b d w2 e1 hP hD hS hdg
    exact W.iret hx hb hr (fun t ht hW => ⟨⟨r, (a, b, d, w2), rfl, by rw [e1], by rw [ht, e1]; exact hP, va_K.moved hW.alike hK, by rw [e1]; exact hD⟩, hS.F ht⟩) hS.2.2 hdg B.notSynchronized
  have hend0 : ∀ (pc : Nat) (H : Heap) (locs : List Loc) (ls : Array Slot) (r : Int32) (X2 : xS), x8_text tt X u = (r, X2) → ¬ r = 1 → xG D ad sa cc tt A s.heap H locs X2 → decode cX8_text pc = .ok (.ireturn, 1) → W p zl e ({ frames := 7, cells := 3, slots := 102, locals := 200 } : Room) s m ([.ref (ad 0), .int u] : List Value).toArray below meth c H locs 0 0 (MQ below (va_Qi (fun (r : Int32) (_ : Nat × Nat × Nat × (Nat → Nat → Int32)) => r = (x8_text tt X u).1) (fun v t => va_P D vwCl (xW ad sa cc (x8_textT tt X u v.1 v.2.1 v.2.2.1) (x8_text tt X u).2 v.2.2.2) t.heap ∧ va_K D vwCl (xTy cc) t ∧ va_D A (xW ad sa cc (x8_textT tt X u v.1 v.2.1 v.2.2.1) (x8_text tt X u).2 v.2.2.2)) A) ([.ref (ad 0), .int u] : List Value).toArray s 3 102 A) (F0 m pc ls [.int r]) := by
    intro pc H locs ls r X2 e1 h1 G hdg
    obtain ⟨w2, hP, hD, hS⟩ := G
    have e2 : x8_textT tt X u 0 0 0 = tt := by unfold x8_textT; rw [if_neg (by rw [e1]; exact h1)]
    exact W.widen (Nat.zero_le _) (Nat.zero_le _) (hend pc H locs ls r X2 0 0 0 w2 e1 (by rw [e2]; exact hP) (by rw [e2]; exact hD) hS hdg)
  refine lv_iload_n hx hb dX8_text_0 rfl (lv_at hl 1 rfl) ?_
  refine lv_iconst (v := 0) hx hb dX8_text_1 (by decide) ?_
  refine lv_iconst (v := 1) hx hb dX8_text_2 (by decide) ?_
  refine xr_ps C hA G (ks_X8_within zl u 0 1) (va_cwS 3 C.2.2.2.2.1 gX8_text_X8_within rfl rfl rfl (by decide +kernel) ⟨Nat.le_of_ble_eq_true rfl, Nat.le_of_ble_eq_true rfl⟩) rfl hl.1 rfl (Nat.le_of_ble_eq_true rfl) dX8_text_3 ⟨Nat.zero_le _, Nat.zero_le _⟩ (fun H locs G => ?_)
  refine lv_if_ne (tgt := 15) hx hb dX8_text_6 (by decide) (fun c6 => ?_) (fun c6 => ?_)
  · have hu := in_natp (n := 1) c6 rfl (by decide)
    have hk : vn u + 1 < 3 := by have := hu.2; omega
    obtain ⟨hd1, hX1⟩ := hdf _ (by omega) hk
    obtain ⟨x, X1, hx1⟩ : ∃ (Z : Int32) (Y : xS), (Z, Y) = x3_faultOf X (vn u + 1) := ⟨_, _, rfl⟩
    have eT0 : ∀ a b d, (x8_text tt X u).1 = 1 → x8_textT tt X u a b d = tNew tt a b d (vn (X1 38 1)) (X1 39) := fun a b d h1 => by unfold x8_textT; rw [if_pos h1, ← hx1]
    have eX : x8_text tt X u = (if 0 ≤ x then ((-10) - x, x4_clear X1 9) else (1, mU (x4_clear X1 9) 1 (14 + vn u) (nI tt.1))) := by unfold x8_text; rw [if_neg c6, ← hx1]; rfl
    rw [← hx1] at hd1 hX1
    have hd1 : dN X1 := hd1
    have hX1 : ∀ p, p < 37 → X1 p = X p := hX1
    refine lv_aload_n hx hb dX8_text_15 rfl (lv_at hl 0 rfl) ?_
    refine xr_get C G (show kW 0 by decide).2 (xW_c (show kW 0 by decide).1) rfl (fun _ h => List.mem_cons_of_mem _ (List.mem_append_left _ (List.mem_append_left _ (List.mem_append_left _ (List.mem_append_left _ (List.mem_append_right _ h)))))) 4 (by decide) (show Cond.fieldLink RX8 25 "WheatCounts" "reader" "LWheatCounts$Reader;" ∈ _ by decide +kernel) rfl dX8_text_16 ?_
    refine lv_aload_n hx hb dX8_text_19 rfl (lv_at hl 0 rfl) ?_
    refine xr_get C G (show kW 0 by decide).2 (xW_c (show kW 0 by decide).1) rfl (fun _ h => List.mem_cons_of_mem _ (List.mem_append_left _ (List.mem_append_left _ (List.mem_append_left _ (List.mem_append_left _ (List.mem_append_right _ h)))))) 0 (by decide) (show Cond.fieldLink RX8 10 "WheatCounts" "estate" "LWheatCounts$Estate;" ∈ _ by decide +kernel) rfl dX8_text_20 ?_
    refine xr_get C G (show kE 1 by decide).2 (xE_c (show kE 1 by decide).1) rfl (fun _ h => List.mem_cons_of_mem _ (List.mem_append_left _ (List.mem_append_left _ (List.mem_append_left _ (List.mem_append_right _ h))))) 16 (by decide) (show Cond.fieldLink RX8 152 "WheatCounts$Estate" "tape" "LWheatCounts$Row;" ∈ _ by decide +kernel) rfl dX8_text_23 ?_
    have key : ∀ (H : Heap) (locs : List Loc), xG D ad sa cc tt A s.heap H locs X → W p zl e ({ frames := 7, cells := 3, slots := 102, locals := 200 } : Room) s m ([.ref (ad 0), .int u] : List Value).toArray below meth c H locs 0 0 (MQ below (va_Qi (fun (r : Int32) (_ : Nat × Nat × Nat × (Nat → Nat → Int32)) => r = (x8_text tt X u).1) (fun v t => va_P D vwCl (xW ad sa cc (x8_textT tt X u v.1 v.2.1 v.2.2.1) (x8_text tt X u).2 v.2.2.2) t.heap ∧ va_K D vwCl (xTy cc) t ∧ va_D A (xW ad sa cc (x8_textT tt X u v.1 v.2.1 v.2.2.1) (x8_text tt X u).2 v.2.2.2)) A) ([.ref (ad 0), .int u] : List Value).toArray s 3 102 A) (F0 m 37 ls [.ref (sa (vn u + 1)), .ref (ad 9), .ref (ad 37)]) := by
      intro H locs G
      refine xr_Vi (r0 := x) (X2 := X1) C hA G (by rw [hx1]; exact kx3_faultOf zl D ad sa cc tt X (vn u + 1) hk hd hz) (show kD 37 by decide).2 (xD_c (show kD 37 by decide).1) rfl (cwV 2 C.2.2.2.2.1 gX8_text_X3_faultOf rfl rfl rfl (by decide +kernel) ⟨Nat.le_of_ble_eq_true rfl, Nat.le_of_ble_eq_true rfl⟩) rfl hl.1 rfl (Nat.le_of_ble_eq_true rfl) dX8_text_37 ⟨Nat.zero_le _, Nat.zero_le _⟩ (fun H locs G => ?_)
      refine lv_istore_n (lv' := [(2, .int x), (0, .ref (ad 0)), (1, .int u)]) hx hb dX8_text_40 rfl hl (by decide) rfl (fun ls hl => ?_)
      refine lv_aload_n hx hb dX8_text_41 rfl (lv_at hl 1 rfl) ?_
      refine xr_get C G (show kW 0 by decide).2 (xW_c (show kW 0 by decide).1) rfl (fun _ h => List.mem_cons_of_mem _ (List.mem_append_left _ (List.mem_append_left _ (List.mem_append_left _ (List.mem_append_left _ (List.mem_append_right _ h)))))) 0 (by decide) (show Cond.fieldLink RX8 10 "WheatCounts" "estate" "LWheatCounts$Estate;" ∈ _ by decide +kernel) rfl dX8_text_42 ?_
      refine xr_get C G (show kE 1 by decide).2 (xE_c (show kE 1 by decide).1) rfl (fun _ h => List.mem_cons_of_mem _ (List.mem_append_left _ (List.mem_append_left _ (List.mem_append_left _ (List.mem_append_right _ h))))) 16 (by decide) (show Cond.fieldLink RX8 152 "WheatCounts$Estate" "tape" "LWheatCounts$Row;" ∈ _ by decide +kernel) rfl dX8_text_45 ?_
      refine xr_Vv C hA G (kx4_clear zl D ad sa cc tt X1 9 (show kR 9 by decide)) (show kR 9 by decide).2 (xR_c (show kR 9 by decide).1) rfl (cwV 0 C.2.2.2.2.1 gX8_text_X4_clear rfl rfl rfl (by decide +kernel) ⟨Nat.le_of_ble_eq_true rfl, Nat.le_of_ble_eq_true rfl⟩) rfl hl.1 rfl (Nat.le_of_ble_eq_true rfl) dX8_text_48 ⟨Nat.zero_le _, Nat.zero_le _⟩ (fun H locs G => ?_)
      obtain ⟨X2, hX2⟩ : ∃ Z : xS, Z = x4_clear X1 9 := ⟨_, rfl⟩
      rw [← hX2] at G eX
      have hr2 : ∀ p, p ≠ 9 → X2 p = X1 p := fun p hp => by rw [hX2]; exact mU_row hp
      refine lv_iload_n hx hb dX8_text_51 rfl (lv_at hl 0 rfl) ?_
      refine lv_if_lt (tgt := 60) hx hb dX8_text_52 (by decide) (fun c52 => ?_) (fun c52 => ?_)
      · rw [if_neg (Int32.not_le.mpr c52)] at eX
        have hf2 : tF tt X2 := fun p hp f hf9 => by rw [hr2 p (by omega), hX1 p (by omega)]; exact hf p hp f hf9
        have h38 : X2 38 1 = nI (vn (X1 38 1)) := by rw [hr2 38 (by decide)]; exact hd1.1.1
        have h39 : X2 39 = X1 39 := hr2 39 (by decide)
        have w37 : ∀ w2, (xW ad sa cc tt X2 w2)[37]? = some (ad 37, .inr (2, dF ad sa 37 (X2 37))) := fun w2 => (xW_get ad sa cc tt X2 w2 (by decide)).trans (by rw [xD_c (show kD 37 by decide).1])
        have w38 : ∀ w2, (xW ad sa cc tt X2 w2)[38]? = some (ad 38, .inr (3, [.ref (ad 39), .int (nI (vn (X1 38 1)))])) := fun w2 => (xW_get ad sa cc tt X2 w2 (by decide)).trans (by rw [xR_c (show kR 38 by decide).1, ← h38]; rfl)
        have w39 : ∀ w2, (xW ad sa cc tt X2 w2)[39]? = some (ad 39, .inl (cc.1, 50, .inl (X1 39))) := fun w2 => (xW_get ad sa cc tt X2 w2 (by decide)).trans (by rw [xI_c (n := 50) (by decide), h39])
        have hl0 := hl
        refine lv_iload_n hx hb dX8_text_60 rfl (lv_at hl 2 rfl) ?_
        refine lv_if_ne (tgt := 81) hx hb dX8_text_61 (by decide) (fun c61 => ?_) (fun c61 => ?_)
        · have evu : 14 + vn u = 15 := by
            have : vn u ≠ 0 := fun h9 => c61 (by rw [hu.1, h9]; rfl)
            have := hu.2
            omega
          skip
          refine lv_aload_n hx hb dX8_text_81 rfl (lv_at hl 1 rfl) ?_
          refine xr_get C G (show kW 0 by decide).2 (xW_c (show kW 0 by decide).1) rfl (fun _ h => List.mem_cons_of_mem _ (List.mem_append_left _ (List.mem_append_left _ (List.mem_append_left _ (List.mem_append_left _ (List.mem_append_right _ h)))))) 0 (by decide) (show Cond.fieldLink RX8 10 "WheatCounts" "estate" "LWheatCounts$Estate;" ∈ _ by decide +kernel) rfl dX8_text_82 ?_
          refine lv_aload_n hx hb dX8_text_85 rfl (lv_at hl 1 rfl) ?_
          refine xr_get C G (show kW 0 by decide).2 (xW_c (show kW 0 by decide).1) rfl (fun _ h => List.mem_cons_of_mem _ (List.mem_append_left _ (List.mem_append_left _ (List.mem_append_left _ (List.mem_append_left _ (List.mem_append_right _ h)))))) 4 (by decide) (show Cond.fieldLink RX8 25 "WheatCounts" "reader" "LWheatCounts$Reader;" ∈ _ by decide +kernel) rfl dX8_text_86 ?_
          obtain ⟨w2, hP, hD, hS⟩ := G
          have hfr := xr_free hD hS hA
          refine va_callr (A0 := A) (A1 := va_A (xW ad sa cc tt X2 w2) H.size) (va_runV (As := []) (rest := [.ref (ad 1)]) ⟨C.1, C.2.1, C.2.2.1, C.2.2.2.1, C.2.2.2.2.1⟩ (kx3_textRead zl D (xTy cc) (xW ad sa cc tt X2 w2) (ad 37) (ad 38) (ad 39) (dF ad sa 37 (X2 37)) cc.1 (X1 39) (vn (X1 38 1)) 39 38 37 0 H.size hd1.1.2 (w37 w2) rfl (w38 w2) (w39 w2) rfl) (cwV 0 C.2.2.2.2.1 gX8_text_X3_textRead rfl rfl rfl (by decide +kernel) ⟨Nat.le_of_ble_eq_true rfl, Nat.le_of_ble_eq_true rfl⟩) ⟨tP_blind _ _ _ _ _, va_recv hK hP (ci := 2) (q0 := 37) rfl (w37 w2), tP_pre hP hK hD hN _⟩ rfl rfl hl.1 rfl (lv_room (Nat.le_of_ble_eq_true rfl)) dX8_text_89 ⟨Nat.le_of_ble_eq_true rfl, Nat.le_of_ble_eq_true rfl⟩) hS (fun q _ h => xr_free hD hS hA q h) (xr_free hD hS hA) (fun v q4 t H1 locs ht9 hvm hw9 hB hz1 hk1 hS => ?_)
          obtain ⟨q5, q6⟩ := v
          obtain ⟨hP1, hK1, hD1⟩ := hB
          rw [ht9] at hP1
          rw [← xW_new ad sa cc tt q4 q5 q6 (vn (X1 38 1)) (X1 39) X2 w2 hf2] at hP1 hD1
          have G : xG D ad sa cc (tNew tt q4 q5 q6 (vn (X1 38 1)) (X1 39)) A s.heap H1 locs X2 := ⟨_, hP1, hD1.weaken (fun k q _ h => hfr _ h), hS⟩
          refine xr_put C G (show kE 1 by decide).2 (xE_c (show kE 1 by decide).1) rfl (fun _ h => List.mem_cons_of_mem _ (List.mem_append_left _ (List.mem_append_left _ (List.mem_append_left _ (List.mem_append_right _ h))))) tyX0 tyX0_ok nmX0 15 (by decide) rfl (show Cond.fieldLink RX8 185 "WheatCounts$Estate" "theftText" "LWheatCounts$Text;" ∈ _ by decide +kernel) (ty := .object "WheatCounts$Text") (by decide +kernel) rfl rfl (Nat.le_of_ble_eq_true rfl) (upd (X2 1) 15 (nI tt.1)) ((xE_c (show kE 1 by decide).1).trans (by rw [eF_tx5 (rT_tN tt q4 q5 q6 (vn (X1 38 1)) (X1 39) ht)])) dX8_text_92 (fun H locs G => ?_)
          refine lv_iconst (v := 1) hx hb dX8_text_95 (by decide) ?_
          obtain ⟨w3, hP, hD, hS⟩ := G
          rw [evu] at eX
          exact hend 96 _ _ _ 1 _ q4 q5 q6 w3 eX (by rw [eT0 q4 q5 q6 (by rw [eX])]; exact hP) (by rw [eT0 q4 q5 q6 (by rw [eX])]; exact hD) hS dX8_text_96
        · have evu : 14 + vn u = 14 := by rw [c61]; rfl
          refine lv_aload_n hx hb dX8_text_64 rfl (lv_at hl 1 rfl) ?_
          refine xr_get C G (show kW 0 by decide).2 (xW_c (show kW 0 by decide).1) rfl (fun _ h => List.mem_cons_of_mem _ (List.mem_append_left _ (List.mem_append_left _ (List.mem_append_left _ (List.mem_append_left _ (List.mem_append_right _ h)))))) 0 (by decide) (show Cond.fieldLink RX8 10 "WheatCounts" "estate" "LWheatCounts$Estate;" ∈ _ by decide +kernel) rfl dX8_text_65 ?_
          refine lv_aload_n hx hb dX8_text_68 rfl (lv_at hl 1 rfl) ?_
          refine xr_get C G (show kW 0 by decide).2 (xW_c (show kW 0 by decide).1) rfl (fun _ h => List.mem_cons_of_mem _ (List.mem_append_left _ (List.mem_append_left _ (List.mem_append_left _ (List.mem_append_left _ (List.mem_append_right _ h)))))) 4 (by decide) (show Cond.fieldLink RX8 25 "WheatCounts" "reader" "LWheatCounts$Reader;" ∈ _ by decide +kernel) rfl dX8_text_69 ?_
          obtain ⟨w2, hP, hD, hS⟩ := G
          have hfr := xr_free hD hS hA
          refine va_callr (A0 := A) (A1 := va_A (xW ad sa cc tt X2 w2) H.size) (va_runV (As := []) (rest := [.ref (ad 1)]) ⟨C.1, C.2.1, C.2.2.1, C.2.2.2.1, C.2.2.2.2.1⟩ (kx3_textRead zl D (xTy cc) (xW ad sa cc tt X2 w2) (ad 37) (ad 38) (ad 39) (dF ad sa 37 (X2 37)) cc.1 (X1 39) (vn (X1 38 1)) 39 38 37 0 H.size hd1.1.2 (w37 w2) rfl (w38 w2) (w39 w2) rfl) (cwV 0 C.2.2.2.2.1 gX8_text_X3_textRead rfl rfl rfl (by decide +kernel) ⟨Nat.le_of_ble_eq_true rfl, Nat.le_of_ble_eq_true rfl⟩) ⟨tP_blind _ _ _ _ _, va_recv hK hP (ci := 2) (q0 := 37) rfl (w37 w2), tP_pre hP hK hD hN _⟩ rfl rfl hl.1 rfl (lv_room (Nat.le_of_ble_eq_true rfl)) dX8_text_72 ⟨Nat.le_of_ble_eq_true rfl, Nat.le_of_ble_eq_true rfl⟩) hS (fun q _ h => xr_free hD hS hA q h) (xr_free hD hS hA) (fun v q4 t H1 locs ht9 hvm hw9 hB hz1 hk1 hS => ?_)
          obtain ⟨q5, q6⟩ := v
          obtain ⟨hP1, hK1, hD1⟩ := hB
          rw [ht9] at hP1
          rw [← xW_new ad sa cc tt q4 q5 q6 (vn (X1 38 1)) (X1 39) X2 w2 hf2] at hP1 hD1
          have G : xG D ad sa cc (tNew tt q4 q5 q6 (vn (X1 38 1)) (X1 39)) A s.heap H1 locs X2 := ⟨_, hP1, hD1.weaken (fun k q _ h => hfr _ h), hS⟩
          refine xr_put C G (show kE 1 by decide).2 (xE_c (show kE 1 by decide).1) rfl (fun _ h => List.mem_cons_of_mem _ (List.mem_append_left _ (List.mem_append_left _ (List.mem_append_left _ (List.mem_append_right _ h))))) tyX0 tyX0_ok nmX0 14 (by decide) rfl (show Cond.fieldLink RX8 181 "WheatCounts$Estate" "sightText" "LWheatCounts$Text;" ∈ _ by decide +kernel) (ty := .object "WheatCounts$Text") (by decide +kernel) rfl rfl (Nat.le_of_ble_eq_true rfl) (upd (X2 1) 14 (nI tt.1)) ((xE_c (show kE 1 by decide).1).trans (by rw [eF_txt (rT_tN tt q4 q5 q6 (vn (X1 38 1)) (X1 39) ht)])) dX8_text_75 (fun H locs G => ?_)
          refine lv_goto (tgt := 95) hx hb dX8_text_78 (by decide) ?_
          refine lv_iconst (v := 1) hx hb dX8_text_95 (by decide) ?_
          obtain ⟨w3, hP, hD, hS⟩ := G
          rw [evu] at eX
          exact hend 96 _ _ _ 1 _ q4 q5 q6 w3 eX (by rw [eT0 q4 q5 q6 (by rw [eX])]; exact hP) (by rw [eT0 q4 q5 q6 (by rw [eX])]; exact hD) hS dX8_text_96
      · rw [if_pos (Int32.not_lt.mp c52)] at eX
        refine lv_bipush (v := -10) hx hb dX8_text_55 (by decide) ?_
        refine lv_iload_n hx hb dX8_text_57 rfl (lv_at hl 0 rfl) ?_
        refine lv_isub hx hb dX8_text_58 ?_
        refine hend0 59 _ _ _ _ _ eX (fun h9 => ?_) G dX8_text_59
        have h8 := Int32.le_iff_toInt_le.mp (Int32.not_lt.mp c52)
        have h7 := congrArg Int32.toInt h9
        have hm := Int32.toInt_lt x
        have e10 : (-10 : Int32).toInt = -10 := by decide
        have e1 : (1 : Int32).toInt = 1 := by decide
        have e0 : (0 : Int32).toInt = 0 := by decide
        rw [Int32.toInt_sub, e10, e1, Int.bmod_def] at h7
        rw [e0] at h8
        split at h7 <;> omega
    refine lv_iload_n hx hb dX8_text_26 rfl (lv_at hl 1 rfl) ?_
    have hE2 := C.2.2.2.2.2.2
    refine lv_if_ne (tgt := 35) hx hb dX8_text_27 (by decide) (fun c27 => ?_) (fun c27 => ?_)
    · have evu : vn u + 1 = 2 := by
        have : vn u ≠ 0 := fun h9 => c27 (by rw [hu.1, h9]; rfl)
        have := hu.2
        omega
      refine va_ldcS hx hb C.2.2.2.1 hE2.2.2.2.2.2.1 dX8_text_35 ?_
      rw [evu] at key
      exact key H locs G
    · have evu : vn u + 1 = 1 := by rw [c27]; rfl
      refine va_ldcS hx hb C.2.2.2.1 hE2.2.2.2.2.1 dX8_text_30 ?_
      refine lv_goto (tgt := 37) hx hb dX8_text_32 (by decide) ?_
      rw [evu] at key
      exact key H locs G
  · have eX : x8_text tt X u = x8_error X 1 := by unfold x8_text; rw [if_pos c6]; rfl
    obtain ⟨x11, X11, hx11⟩ : ∃ (Z : Int32) (Y : xS), (Z, Y) = x8_error X 1 := ⟨_, _, rfl⟩
    refine lv_aload_n hx hb dX8_text_9 rfl (lv_at hl 0 rfl) ?_
    refine lv_iconst (v := 1) hx hb dX8_text_10 (by decide) ?_
    refine xr_Vi (r0 := x11) (X2 := X11) C hA G (by rw [hx11]; exact (kx8_error zl D ad sa cc tt X 1)) (show kW 0 by decide).2 (xW_c (show kW 0 by decide).1) rfl (cwV 1 C.2.2.2.2.1 gX8_text_X8_error rfl rfl rfl (by decide +kernel) ⟨Nat.le_of_ble_eq_true rfl, Nat.le_of_ble_eq_true rfl⟩) rfl hl.1 rfl (Nat.le_of_ble_eq_true rfl) dX8_text_11 ⟨Nat.zero_le _, Nat.zero_le _⟩ (fun H locs G => ?_)
    rw [← hx11] at eX
    refine hend0 14 _ _ _ _ _ eX (fun h9 => ?_) G dX8_text_14
    have h8 : (x8_error X 1).1 = 1 := by rw [← hx11]; exact h9
    revert h8
    unfold x8_error
    simp only [lt_i]
    decide
