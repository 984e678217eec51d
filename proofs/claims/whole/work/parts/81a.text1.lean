/-! A TEXT AS IT IS MADE: Arrays.copyOf, Text's own constructor, textRead, over any world that holds the reader's row -/
abbrev clN : Cond := .castable "[I" "java/lang/Cloneable"
theorem arr_cg (cI : ClassId) {n : Nat} {f g : Nat → Int32} (h : ∀ j, j < n → g j = f j) : vp_cell cI (n, .inl g) = vp_cell cI (n, .inl f) := by
  have e : (fun j : Fin n => Value.int (g j.val)) = fun j : Fin n => Value.int (f j.val) := funext fun j => by rw [h j.1 j.2]
  show ({ cls := cI, slots := Array.ofFn (n := n) fun j => Value.int (g j.val), vm := .none } : Cell) = { cls := cI, slots := Array.ofFn (n := n) fun j => Value.int (f j.val), vm := .none }
  rw [e]
theorem vl_set (ws : va_W) (x y : Nat × va_E) : (ws ++ [x]).set ws.length y = ws ++ [y] := by
  rw [List.set_append_right _ _ (Nat.le_refl _), Nat.sub_self]
  rfl
theorem vl_get (ws : va_W) (x : Nat × va_E) : (ws ++ [x])[ws.length]? = some x := by
  rw [List.getElem?_append_right (Nat.le_refl _), Nat.sub_self]
  rfl
theorem vl_old {α : Type} {ws : List α} {w2 : List α} {q : Nat} {x : α} (h : ws[q]? = some x) : (ws ++ w2)[q]? = some x := by
  rw [List.getElem?_append_left (List.getElem?_eq_some_iff.mp h).1]
  exact h
/-- the last cell told otherwise -/
theorem vl_P {D : va_G} {cl : List vw_C} {ws : va_W} {a : Nat} {x y : va_E} {H : Heap} (h : va_P D cl (ws ++ [(a, x)]) H) (hy : va_at D cl (a, x) H → va_at D cl (a, y) H) : va_P D cl (ws ++ [(a, y)]) H := by
  intro k q hq
  by_cases hk : k < ws.length
  · rw [List.getElem?_append_left hk] at hq
    exact h k q (vl_old hq)
  · have hl : k < (ws ++ [(a, y)]).length := (List.getElem?_eq_some_iff.mp hq).1
    rw [List.length_append] at hl
    have e : k = ws.length := by
      have : [(a, y)].length = 1 := rfl
      omega
    rw [e, vl_get] at hq
    cases hq
    exact hy (h ws.length _ (vl_get ws _))
theorem vl_D {A : Nat → Prop} {ws : va_W} {a : Nat} {x y : va_E} (h : va_D A (ws ++ [(a, x)])) : va_D A (ws ++ [(a, y)]) := by
  have e : ∀ (k : Nat) (q : Nat × va_E), (ws ++ [(a, y)])[k]? = some q → ∃ z, (ws ++ [(a, x)])[k]? = some (q.1, z) := by
    intro k q hq
    by_cases hk : k < ws.length
    · rw [List.getElem?_append_left hk] at hq
      exact ⟨q.2, vl_old hq⟩
    · have hl : k < (ws ++ [(a, y)]).length := (List.getElem?_eq_some_iff.mp hq).1
      rw [List.length_append] at hl
      have e : k = ws.length := by
        have : [(a, y)].length = 1 := rfl
        omega
      rw [e, vl_get] at hq
      cases hq
      exact ⟨x, by rw [e]; exact vl_get ws _⟩
  refine ⟨fun i j p q hi hj hpq => ?_, fun k q hq => ?_⟩
  · obtain ⟨z1, h1⟩ := e i p hi
    obtain ⟨z2, h2⟩ := e j q hj
    exact h.1 i j _ _ h1 h2 hpq
  · obtain ⟨z, h1⟩ := e k q hq
    exact h.2 k (q.1, z) h1
theorem nw_blind {U : State} {g : JFrame} {mk : MethodId} {b : Array Value} (h : va_Nw clN U) : va_Nw clN (U.calling g mk b) := va_Nw.same (u := U) (U := U.calling g mk b) rfl rfl h
/-- what a maker of a text finds -/
def tPre (D : va_G) (tys : List (ClassId × FieldType)) (av : List Value) (ws : va_W) (sz : Nat) : Array Value → State → Prop := va_Pc av (fun U => U.heap.size = sz ∧ va_P D vwCl ws U.heap ∧ va_K D vwCl tys U ∧ va_D (fun _ => True) ws ∧ va_Nw clN U)
theorem tP_blind (D : va_G) (tys : List (ClassId × FieldType)) (av : List Value) (ws : va_W) (sz : Nat) : FrameBlind (tPre D tys av ws sz) := fun b U g mk q => by
  obtain ⟨q0, q1, qP, qK, qD, qN⟩ := q
  exact ⟨q0, q1, qP, va_K.moved (u := U) (U := U.calling g mk b) (Vm.Alike.refl U.vm) qK, qD, nw_blind qN⟩
theorem tP_pre {D : va_G} {tys : List (ClassId × FieldType)} {ws : va_W} {s : State} {H : Heap} {A : Nat → Prop} (hP : va_P D vwCl ws H) (hK : va_K D vwCl tys s) (hD : va_D A ws) (hC : va_Nw clN s) (av : List Value) : ∀ U : State, U.heap = H → s.WarmedH U.vm → tPre D tys av ws H.size av.toArray U := fun U hU hW => ⟨rfl, by rw [hU], by rw [hU]; exact hP, va_K.moved hW.alike hK, hD.weaken (fun _ _ _ _ => trivial), va_Nw.warmC hW hC⟩
theorem tP_free {A0 : Nat → Prop} {ws : va_W} {H0 H : Heap} {locs : List Loc} (hD : va_D A0 ws) (hS : va_S A0 H0 H locs) (hA : ∀ q, H0.size ≤ q → A0 q) : ∀ q, va_A ws H.size q → A0 q := by
  intro q h
  rcases h with ⟨k, e, h⟩ | h
  · exact hD.2 k _ h
  · exact hA q (Nat.le_trans hS.1 h)
set_option maxHeartbeats 1000000 in
set_option maxRecDepth 100000 in
/-- Arrays.copyOf, of a row of fifty -/
theorem kj_copyOf (l : Launch) (D : va_G) (tys : List (ClassId × FieldType)) (ws : va_W) (a0 : Nat) (cI : ClassId) (f : Nat → Int32) (n q0 t0 sz : Nat) (hn : n ≤ 50) (hw : ws[q0]? = some (a0, .inl (cI, 50, .inl f))) (ht0 : tys[t0]? = some (cI, .int)) : Met l yJ7_copyOf_59c91 wsJ7_copyOf_59c91 ({ frames := 1, cells := 1, slots := 50, locals := 64 }) (tPre D tys [.ref a0, .int (nI n)] ws sz) (va_Qr (fun _ : Unit => True) (fun _ a t => va_P D vwCl (ws ++ [(a, .inl (cI, n, .inl f))]) t.heap ∧ va_K D vwCl tys t ∧ va_D (va_A ws sz) (ws ++ [(a, .inl (cI, n, .inl f))])) (va_A ws sz)) 1 50 (va_A ws sz) := by
  refine Met.ofW (cc := cJ7_copyOf_59c91) (maxL := 3) (ret := some (.array .int)) (by decide) rfl ?_
  intro p e s m args below meth c s₁ B hml hv
  obtain ⟨rfl, hsz, hP, hK, hD0, hC⟩ := hv
  have hx := B.exec
  have hb := B.bytes
  have hr := B.returns
  have hts := atoms_spec (ws := wsJ7_copyOf_59c91) B.pre
  have hown : s.vm.findClass RJ7 = some m.cls := findClass_of_methodNamed B.named
  subst hsz
  have hD := hD0.self (sz := s.heap.size)
  generalize hAe : va_A ws s.heap.size = A at hD ⊢
  have hA : ∀ q : Nat, s.heap.size ≤ q → A q := fun q h => by rw [← hAe]; exact Or.inr h
  have hS : va_S A s.heap s.heap [] := va_S.rf
  have hK0 := hK
  have hl := lv_entry ([.ref a0, .int (nI n)]) (n := 3) (Nat.le_of_ble_eq_true rfl)
  rw [lg_entry_eq]
  generalize (lg_sl ([.ref a0, .int (nI n)]) ++ List.replicate (3 - (lg_sl ([.ref a0, .int (nI n)])).length) Slot.unset).toArray = ls at hl ⊢
  have hl : lv_has ls 3 [(0, .ref a0), (1, .int (nI n))] := hl
  refine lv_iload_n hx hb dJ7_copyOf_59c91_0 rfl (lv_at hl 1 rfl) ?_
  refine lv_aload_n hx hb dJ7_copyOf_59c91_1 rfl (lv_at hl 0 rfl) ?_
  refine va_alen hx hb hK hP q0 t0 hw ht0 (v := 50) rfl dJ7_copyOf_59c91_2 ?_
  refine lv_icmp_ne (tgt := 14) hx hb dJ7_copyOf_59c91_3 (by decide) (fun c3 => ?_) (fun c3 => ?_)
  · -- fewer than fifty
    have n50 : n ≠ 50 := fun h9 => c3 (by rw [h9]; rfl)
    have h_1 : 0 + 1 ≤ 1 := Nat.le_refl _
    have h_2 : 0 + n ≤ 50 := by omega
    refine lv_iload_n hx hb dJ7_copyOf_59c91_14 rfl (lv_at hl 1 rfl) ?_
    refine va_newa (atype := .int) (n := nI n) (ty := .int) (N' := n) (a0 := (n, .inl (fun _ => 0))) hx hb (hts (.arrayClass .int) (by decide +kernel)) rfl hK hP hD hS hA (mk_6 n) (nI_nlt0 (by omega)) (vn_nI (by omega)) (by show n * 4 ≤ 536870912; omega) h_1 h_2 dJ7_copyOf_59c91_15 (fun q5 c5 H hK hP hD hS => ?_)
    have hw1 : (ws ++ [(q5, (.inl (c5, n, .inl (fun _ => 0)) : va_E))])[q0]? = some (a0, .inl (cI, 50, .inl f)) := vl_old hw
    have ht1 : (tys ++ [(c5, FieldType.int)])[t0]? = some (cI, .int) := vl_old ht0
    have ht2 : (tys ++ [(c5, FieldType.int)])[tys.length]? = some (c5, .int) := by
      rw [List.getElem?_append_right (Nat.le_refl _), Nat.sub_self]
      rfl
    refine lv_astore_n (lv' := [(2, .ref q5), (0, .ref a0), (1, .int (nI n))]) hx hb dJ7_copyOf_59c91_17 rfl hl (by decide) rfl (fun ls hl => ?_)
    refine lv_aload_n hx hb dJ7_copyOf_59c91_18 rfl (lv_at hl 1 rfl) ?_
    refine lv_iconst (v := 0) hx hb dJ7_copyOf_59c91_19 (by decide) ?_
    refine lv_aload_n hx hb dJ7_copyOf_59c91_20 rfl (lv_at hl 0 rfl) ?_
    refine lv_iconst (v := 0) hx hb dJ7_copyOf_59c91_21 (by decide) ?_
    refine lv_aload_n hx hb dJ7_copyOf_59c91_22 rfl (lv_at hl 1 rfl) ?_
    refine va_alen hx hb hK hP q0 t0 hw1 ht1 (v := 50) rfl dJ7_copyOf_59c91_23 ?_
    refine lv_iload_n hx hb dJ7_copyOf_59c91_24 rfl (lv_at hl 2 rfl) ?_
    refine va_mmin hx hb (hml.trans hl.1.symm) hown (hts (.methodLink RJ7 304 Lib.Math.min.name) (by decide +kernel)) (hts (.static Lib.Math.min.name) (by decide +kernel)) (hts (.initialized "java/lang/Math") (by decide +kernel)) (hts (.code Lib.Math.min.name Lib.Math.min.code 2 (some .int)) (by decide +kernel)) (Nat.le_of_ble_eq_true rfl) (Nat.le_of_ble_eq_true rfl) h_1 h_2 dJ7_copyOf_59c91_25 ?_
    have hmn : (if nI n < (50 : Int32) then nI n else 50) = nI n := if_pos (by rw [show (50 : Int32) = nI 50 from rfl, nI_ltI (by omega) (by decide)]; omega)
    rw [hmn]
    refine va_copyi (ty := .int) hx hb (hml.trans hl.1.symm) hown (hts (.methodLink RJ7 150 arraycopyName) (by decide +kernel)) (hts (.native arraycopyName) (by decide +kernel)) (hts (.static arraycopyName) (by decide +kernel)) (hts (.initialized "java/lang/System") (by decide +kernel)) hK hP hD hS q0 ws.length t0 tys.length hw1 (vl_get ws _) ht1 ht2 rfl (by decide) (by decide) (nI_nlt0 (by omega)) (by rw [nI_clamp (by omega)]; show 0 + n ≤ 50; omega) (by rw [nI_clamp (by omega)]; show 0 + n ≤ n; omega) (fun _ _ => rfl) (Nat.le_of_ble_eq_true rfl) (Nat.le_of_ble_eq_true rfl) dJ7_copyOf_59c91_28 (fun H locs hP hD hS => ?_)
    rw [vl_set] at hP hD
    refine lv_aload_n hx hb dJ7_copyOf_59c91_31 rfl (lv_at hl 0 rfl) ?_
    refine W.widen (k := 1) (n := 50) h_1 h_2 ?_
    have ec : c5 = cI := ci_int (hK.2 _ _ ht2).2 (hK.2 _ _ ht1).2
    have hP9 : va_P D vwCl (ws ++ [(q5, .inl (cI, n, .inl f))]) H := vl_P hP (fun h9 => by
      show H[q5]? = some (vp_cell cI (n, .inl f))
      have h8 : H[q5]? = some (vp_cell c5 (n, .inl (va_cpy f (fun _ => 0) (0 : Int32).toNatClampNeg (0 : Int32).toNatClampNeg (nI n).toNatClampNeg))) := h9
      rw [h8, ec]
      congr 1
      refine arr_cg cI (fun j hj => ?_)
      unfold va_cpy
      rw [if_pos ⟨Nat.zero_le _, by rw [nI_clamp (by omega)]; show j < 0 + n; omega⟩]
      congr 1
      show 0 + (j - 0) = j
      omega)
    exact W.aret hx hb hr (Or.inr ⟨.int, rfl⟩) (Or.inr ⟨q5, rfl⟩) (fun t ht hW => ⟨⟨(), q5, rfl, trivial, by rw [ht]; exact hP9, va_K.moved hW.alike hK0, vl_D hD⟩, hS.F ht⟩) hS.2.2 dJ7_copyOf_59c91_32
  · -- fifty: the row is cloned
    have n50 : n = 50 := by
      have h9 : nI n = nI 50 := c3
      rwa [nI_eq (by omega) (by decide)] at h9
    subst n50
    have hnm : s.vm.findClass "[I" = some cI := va_nm_int (hK.2 _ _ ht0).2
    refine lv_aload_n hx hb dJ7_copyOf_59c91_6 rfl (lv_at hl 0 rfl) ?_
    have hfit : ∀ (i : Nat) (v : Value), (vp_cell cI (50, .inl f)).slots[i]? = some v → fits .int v = true := fun i v h9 => va_fit (cA := cI) (n := 50) (F := fun j => .int (f j)) (fun _ _ => rfl) i v h9
    have h_5 : 0 + 1 ≤ 1 := Nat.le_refl _
    have h_6 : 0 + 50 ≤ 50 := Nat.le_refl _
    refine va_clone (ad := "[I") (cA := cI) (x := (50, .inl f)) (ty := .int) hx hb (hml.trans hl.1.symm) hown (hts (.methodLink RJ7 316 ⟨"[I", "clone", "()Ljava/lang/Object;"⟩) (by decide +kernel)) (hts (.sameMethod "[I" "java/lang/Object" "clone" "()Ljava/lang/Object;") (by decide +kernel)) (hts (.native ⟨"java/lang/Object", "clone", "()Ljava/lang/Object;"⟩) (by decide +kernel)) (hts (.instanceMethod ⟨"java/lang/Object", "clone", "()Ljava/lang/Object;"⟩) (by decide +kernel)) (hts (.selects "[I" ⟨"[I", "clone", "()Ljava/lang/Object;"⟩ ⟨"java/lang/Object", "clone", "()Ljava/lang/Object;"⟩) (by decide +kernel)) hC hK hP hD hS hA q0 t0 hw ht0 hnm hfit (Nat.le_of_ble_eq_true rfl) (Nat.le_of_ble_eq_true rfl) h_5 h_6 dJ7_copyOf_59c91_7 (fun q5 H hK hP hD hS => ?_)
    refine va_castA hx hb hown (hts (.classLink RJ7 317 "[I") (by decide +kernel)) hP ws.length (vl_get ws _) hnm dJ7_copyOf_59c91_10 ?_
    exact W.aret hx hb hr (Or.inr ⟨.int, rfl⟩) (Or.inr ⟨q5, rfl⟩) (fun t ht hW => ⟨⟨(), q5, rfl, trivial, by rw [ht]; exact hP, va_K.moved hW.alike hK0, hD⟩, hS.F ht⟩) hS.2.2 dJ7_copyOf_59c91_13
theorem vl_set2 (ws w2 : va_W) (x y : Nat × va_E) : ((ws ++ [x]) ++ w2).set ws.length y = (ws ++ [y]) ++ w2 := by
  rw [List.set_append_left _ _ (by rw [List.length_append]; exact Nat.lt_succ_self _), vl_set]
set_option maxHeartbeats 1000000 in
set_option maxRecDepth 100000 in
/-- a Text of n signs -/
theorem kx6_init (l : Launch) (D : va_G) (tys : List (ClassId × FieldType)) (ws : va_W) (h0 r0 a0 : Nat) (cI : ClassId) (f : Nat → Int32) (n q0 q1 t0 sz : Nat) (hn : n ≤ 50) (hw1 : ws[q1]? = some (r0, .inr (3, [.ref a0, .int (nI n)]))) (hw : ws[q0]? = some (a0, .inl (cI, 50, .inl f))) (ht0 : tys[t0]? = some (cI, .int)) : Met l yX6_init wsX6_init ({ frames := 2, cells := 2, slots := 100, locals := 96 }) (tPre D tys [.ref h0, .ref r0] (ws ++ [(h0, .inr (5, [.null, .null]))]) sz) (va_Qv (fun _ : Nat × Nat => True) (fun u t => va_P D vwCl (ws ++ [(h0, .inr (5, [.ref u.1, .ref u.2])), (u.1, .inl (cI, n, .inl f)), (u.2, .inl (cI, n, .inl (fun _ => 0)))]) t.heap ∧ va_K D vwCl tys t ∧ va_D (va_A (ws ++ [(h0, .inr (5, [.null, .null]))]) sz) (ws ++ [(h0, .inr (5, [.ref u.1, .ref u.2])), (u.1, .inl (cI, n, .inl f)), (u.2, .inl (cI, n, .inl (fun _ => 0)))])) (va_A (ws ++ [(h0, .inr (5, [.null, .null]))]) sz)) 2 100 (va_A (ws ++ [(h0, .inr (5, [.null, .null]))]) sz) := by
  refine Met.ofW (cc := cX6_init) (maxL := 2) (ret := none) (by decide) rfl ?_
  intro p e s m args below meth c s₁ B hml hv
  obtain ⟨rfl, hsz, hP, hK, hD0, hC⟩ := hv
  have hx := B.exec
  have hb := B.bytes
  have hr := B.returns
  have hts := atoms_spec (ws := wsX6_init) B.pre
  have hown : s.vm.findClass RX6 = some m.cls := findClass_of_methodNamed B.named
  have hin : meth.name = "<init>" := (name_of_methodNamed B.named B.method).1
  subst hsz
  have hD := hD0.self (sz := s.heap.size)
  generalize hAe : va_A (ws ++ [(h0, (.inr (5, [.null, .null]) : va_E))]) s.heap.size = A at hD ⊢
  have hA : ∀ q : Nat, s.heap.size ≤ q → A q := fun q h => by rw [← hAe]; exact Or.inr h
  have hS : va_S A s.heap s.heap [] := va_S.rf
  have hK0 := hK
  have hl := lv_entry ([.ref h0, .ref r0]) (n := 2) (Nat.le_of_ble_eq_true rfl)
  rw [lg_entry_eq]
  generalize (lg_sl ([.ref h0, .ref r0]) ++ List.replicate (2 - (lg_sl ([.ref h0, .ref r0])).length) Slot.unset).toArray = ls at hl ⊢
  have hl : lv_has ls 2 [(0, .ref h0), (1, .ref r0)] := hl
  refine lv_aload_n hx hb dX6_init_0 rfl (lv_at hl 0 rfl) ?_
  refine W.objInit hx hb hown (hts (.methodLink RX6 1 objectInit) (by decide +kernel)) (hts (.instanceMethod objectInit) (by decide +kernel)) (hts (.code objectInit ⟨#[0xb1]⟩ 1 none) (List.mem_cons_of_mem _ (List.mem_append_left _ (List.mem_append_left _ (List.mem_append_left _ (List.mem_of_getElem? (i := 2) rfl)))))) rfl (by rw [hml]; exact hl.1) rfl dX6_init_1 (Nat.le_of_ble_eq_true rfl) (Nat.le_of_ble_eq_true rfl) ?_
  refine W.eq (g2 := F0 m 4 ls []) rfl ?_
  refine lv_aload_n hx hb dX6_init_4 rfl (lv_at hl 0 rfl) ?_
  refine lv_aload_n hx hb dX6_init_5 rfl (lv_at hl 1 rfl) ?_
  refine va_get (v := .ref a0) hx hb hts (C := RX4) (T := TX4) (N := 2) (ci := 3) (by decide +kernel) hown hK hP q1 (vl_old hw1) rfl 0 (by decide) (hts (.fieldLink RX6 7 "WheatCounts$Row" "numbers" "[I") (by decide +kernel)) (fun _ h9 => h9) rfl dX6_init_6 ?_
  refine lv_aload_n hx hb dX6_init_9 rfl (lv_at hl 1 rfl) ?_
  refine va_get (v := .int (nI n)) hx hb hts (C := RX4) (T := TX4) (N := 2) (ci := 3) (by decide +kernel) hown hK hP q1 (vl_old hw1) rfl 1 (by decide) (hts (.fieldLink RX6 13 "WheatCounts$Row" "size" "I") (by decide +kernel)) (fun _ h9 => h9) rfl dX6_init_10 ?_
  refine W.eq (g2 := F0 m 13 ls [.int (nI n), .ref a0, .ref h0]) rfl ?_
  have hfr := tP_free hD hS hA
  have h_1 : 0 + 1 ≤ 2 := by decide
  have h_2 : 0 + 50 ≤ 100 := by decide
  refine va_callr (A0 := A) (A1 := va_A (ws ++ [(h0, (.inr (5, [.null, .null]) : va_E))]) s.heap.size) (va_runS (As := [.ref a0, .int (nI n)]) (rest := [.ref h0]) ⟨hx, hb, hml, hown, hts⟩ (kj_copyOf l D tys (ws ++ [(h0, .inr (5, [.null, .null]))]) a0 cI f n q0 t0 s.heap.size hn (vl_old hw) ht0) (va_cwS 2 hts gX6_init_J7_copyOf_59c91 rfl rfl rfl (by decide +kernel) ⟨Nat.le_of_ble_eq_true rfl, Nat.le_of_ble_eq_true rfl⟩) ⟨tP_blind _ _ _ _ _, tP_pre hP hK hD hC _⟩ rfl rfl hl.1 rfl (lv_room (Nat.le_of_ble_eq_true rfl)) dX6_init_13 ⟨h_1, h_2⟩) hS (fun q _ h => hfr q h) hfr (fun u q5 t H1 locs ht hvm hw9 hB hz1 hk1 hS => ?_)
  obtain ⟨hP, hK1, hD1⟩ := hB
  rw [ht] at hP
  have hD : va_D A ((ws ++ [(h0, .inr (5, [.null, .null]))]) ++ [(q5, .inl (cI, n, .inl f))]) := hD1.weaken (fun k q _ h => hfr _ h)
  generalize H1 = H at hP hS ⊢
  refine va_putF (D := D) (ci := 5) (v := .ref q5) (ty := .array .int) (C := RX6) (T := TX6) (N := 2) hx hb hts (by decide +kernel) tyX6 tyX6_ok nmX6 hown hK hP hD hS ws.length (vl_old (vl_get ws _)) rfl 0 (by decide) (hts (.fieldLink RX6 23 "WheatCounts$Text" "code" "[I") (by decide +kernel)) (fun _ h9 => h9) rfl hin rfl (by decide +kernel) rfl rfl (Nat.le_of_ble_eq_true rfl) dX6_init_16 (fun H locs hP hD hS => ?_)
  rw [vl_set2] at hP hD
  have hP : va_P D vwCl ((ws ++ [(h0, .inr (5, [.ref q5, .null]))]) ++ [(q5, .inl (cI, n, .inl f))]) H := hP
  have hD : va_D A ((ws ++ [(h0, .inr (5, [.ref q5, .null]))]) ++ [(q5, .inl (cI, n, .inl f))]) := hD
  refine lv_aload_n hx hb dX6_init_19 rfl (lv_at hl 0 rfl) ?_
  refine lv_aload_n hx hb dX6_init_20 rfl (lv_at hl 0 rfl) ?_
  refine va_get (v := .ref q5) hx hb hts (C := RX6) (T := TX6) (N := 2) (ci := 5) (by decide +kernel) hown hK hP ws.length (vl_old (vl_get ws _)) rfl 0 (by decide) (hts (.fieldLink RX6 23 "WheatCounts$Text" "code" "[I") (by decide +kernel)) (fun _ h9 => h9) rfl dX6_init_21 ?_
  refine va_alen hx hb hK hP (ws ++ [(h0, (.inr (5, [.ref q5, .null]) : va_E))]).length t0 (vl_get _ _) ht0 (v := nI n) rfl dX6_init_24 ?_
  refine W.eq (g2 := F0 m 25 ls [.int (nI n), .ref h0]) rfl ?_
  have h_3 : 0 + 1 + 1 ≤ 2 := by decide
  have h_4 : 0 + 50 + n ≤ 100 := by omega
  refine va_newa (atype := .int) (n := nI n) (ty := .int) (N' := n) (a0 := (n, .inl (fun _ => 0))) hx hb (hts (.arrayClass .int) (by decide +kernel)) rfl hK hP hD hS hA (mk_6 n) (nI_nlt0 (by omega)) (vn_nI (by omega)) (by show n * 4 ≤ 536870912; omega) h_3 h_4 dX6_init_25 (fun q6 c6 H hK hP hD hS => ?_)
  have ht1 : (tys ++ [(c6, FieldType.int)])[t0]? = some (cI, .int) := vl_old ht0
  have ht2 : (tys ++ [(c6, FieldType.int)])[tys.length]? = some (c6, .int) := by
    rw [List.getElem?_append_right (Nat.le_refl _), Nat.sub_self]
    rfl
  have ec : c6 = cI := ci_int (hK.2 _ _ ht2).2 (hK.2 _ _ ht1).2
  rw [ec, List.append_assoc (ws ++ [_])] at hP hD
  refine va_putF (D := D) (ci := 5) (v := .ref q6) (ty := .array .int) (C := RX6) (T := TX6) (N := 2) hx hb hts (by decide +kernel) tyX6 tyX6_ok nmX6 hown hK hP hD hS ws.length (vl_old (vl_get ws _)) rfl 1 (by decide) (hts (.fieldLink RX6 28 "WheatCounts$Text" "waiting" "[I") (by decide +kernel)) (fun _ h9 => h9) rfl hin rfl (by decide +kernel) rfl rfl (Nat.le_of_ble_eq_true rfl) dX6_init_27 (fun H locs hP hD hS => ?_)
  rw [vl_set2, List.append_assoc] at hP hD
  have hP : va_P D vwCl (ws ++ [(h0, .inr (5, [.ref q5, .ref q6])), (q5, .inl (cI, n, .inl f)), (q6, .inl (cI, n, .inl (fun _ => 0)))]) H := hP
  have hD : va_D A (ws ++ [(h0, .inr (5, [.ref q5, .ref q6])), (q5, .inl (cI, n, .inl f)), (q6, .inl (cI, n, .inl (fun _ => 0)))]) := hD
  refine W.widen (k := 2) (n := 100) h_3 h_4 ?_
  exact W.vret hx hb hr (fun t ht hW => ⟨⟨(q5, q6), rfl, trivial, by rw [ht]; exact hP, va_K.moved hW.alike hK0, hD⟩, hS.F ht⟩) hS.2.2 dX6_init_30
set_option maxHeartbeats 1000000 in
set_option maxRecDepth 100000 in
/-- textRead: the reader's row as a Text -/
theorem kx3_textRead (l : Launch) (D : va_G) (tys : List (ClassId × FieldType)) (ws : va_W) (d0 r0 a0 : Nat) (fs : List Value) (cI : ClassId) (f : Nat → Int32) (n q0 q1 q2 t0 sz : Nat) (hn : n ≤ 50) (hw2 : ws[q2]? = some (d0, .inr (2, fs))) (hfs : fs[0]? = some (.ref r0)) (hw1 : ws[q1]? = some (r0, .inr (3, [.ref a0, .int (nI n)]))) (hw : ws[q0]? = some (a0, .inl (cI, 50, .inl f))) (ht0 : tys[t0]? = some (cI, .int)) : Met l yX3_textRead wsX3_textRead ({ frames := 3, cells := 3, slots := 102, locals := 128 }) (tPre D tys [.ref d0] ws sz) (va_Qr (fun _ : Nat × Nat => True) (fun u a t => va_P D vwCl (ws ++ [(a, .inr (5, [.ref u.1, .ref u.2])), (u.1, .inl (cI, n, .inl f)), (u.2, .inl (cI, n, .inl (fun _ => 0)))]) t.heap ∧ va_K D vwCl tys t ∧ va_D (va_A ws sz) (ws ++ [(a, .inr (5, [.ref u.1, .ref u.2])), (u.1, .inl (cI, n, .inl f)), (u.2, .inl (cI, n, .inl (fun _ => 0)))])) (va_A ws sz)) 3 102 (va_A ws sz) := by
  refine Met.ofW (cc := cX3_textRead) (maxL := 1) (ret := some (.object "WheatCounts$Text")) (by decide) rfl ?_
  intro p e s m args below meth c s₁ B hml hv
  obtain ⟨rfl, hsz, hP, hK, hD0, hC⟩ := hv
  have hx := B.exec
  have hb := B.bytes
  have hr := B.returns
  have hts := atoms_spec (ws := wsX3_textRead) B.pre
  have hown : s.vm.findClass RX3 = some m.cls := findClass_of_methodNamed B.named
  subst hsz
  have hD := hD0.self (sz := s.heap.size)
  generalize hAe : va_A ws s.heap.size = A at hD ⊢
  have hA : ∀ q : Nat, s.heap.size ≤ q → A q := fun q h => by rw [← hAe]; exact Or.inr h
  have hS : va_S A s.heap s.heap [] := va_S.rf
  have hl := lv_entry ([.ref d0]) (n := 1) (Nat.le_of_ble_eq_true rfl)
  rw [lg_entry_eq]
  generalize (lg_sl ([.ref d0]) ++ List.replicate (1 - (lg_sl ([.ref d0])).length) Slot.unset).toArray = ls at hl ⊢
  have hl : lv_has ls 1 [(0, .ref d0)] := hl
  have h_1 : 0 + 1 ≤ 3 := by decide
  have h_2 : 0 + 2 ≤ 102 := by decide
  refine va_new (ci := 5) (fs := [.null, .null]) (C := RX6) (T := TX6) (N := 2) hx hb hts (by decide +kernel) tyX6 tyX6_ok hown (hts (.classLink RX3 60 RX6) (by decide +kernel)) (hts (.instantiable RX6 2) (by decide +kernel)) (hts (.initialized RX6) (by decide +kernel)) hK hP hD hS hA rfl (fun j hj => by rcases (show j = 0 ∨ j = 1 by omega) with rfl | rfl <;> rfl) h_1 h_2 dX3_textRead_0 (fun q4 H hP hD hS => ?_)
  refine lv_dup hx hb dX3_textRead_3 rfl ?_
  refine lv_aload_n hx hb dX3_textRead_4 rfl (lv_at hl 0 rfl) ?_
  refine va_get (v := .ref r0) hx hb hts (C := RX3) (T := TX3) (N := 7) (ci := 2) (by decide +kernel) hown hK hP q2 (vl_old hw2) rfl 0 (by decide) (hts (.fieldLink RX3 14 "WheatCounts$Reader" "code" "LWheatCounts$Row;") (by decide +kernel)) (fun _ h9 => h9) hfs dX3_textRead_5 ?_
  refine W.eq (g2 := F0 m 8 ls [.ref r0, .ref q4, .ref q4]) rfl ?_
  have hfr := tP_free hD hS hA
  have h_3 : 0 + 1 + 2 ≤ 3 := by decide
  have h_4 : 0 + 2 + 100 ≤ 102 := by decide
  refine va_callv (A0 := A) (A1 := va_A (ws ++ [(q4, (.inr (5, [.null, .null]) : va_E))]) H.size) (va_runI (As := [.ref r0]) (rest := [.ref q4]) ⟨hx, hb, hml, hown, hts⟩ (kx6_init l D tys ws q4 r0 a0 cI f n q0 q1 t0 H.size hn hw1 hw ht0) (cwI 1 hts gX3_textRead_X6_init rfl rfl rfl (hts (.initialized RX6) (by decide +kernel)) (hts (.methodLink RX3 62 yX6_init) (by decide +kernel)) (hts (.instanceMethod yX6_init) (by decide +kernel)) rfl (by decide +kernel) ⟨Nat.le_of_ble_eq_true rfl, Nat.le_of_ble_eq_true rfl⟩) ⟨tP_blind _ _ _ _ _, tP_pre hP hK hD hC _⟩ rfl rfl hl.1 rfl (lv_room (Nat.le_of_ble_eq_true rfl)) dX3_textRead_8 ⟨h_3, h_4⟩) hS (fun q _ h => hfr q h) hfr (fun u t H1 locs ht hvm hw9 hB hz1 hk1 hS => ?_)
  obtain ⟨q5, q6⟩ := u
  obtain ⟨hP, hK1, hD1⟩ := hB
  rw [ht] at hP
  have hD : va_D A (ws ++ [(q4, .inr (5, [.ref q5, .ref q6])), (q5, .inl (cI, n, .inl f)), (q6, .inl (cI, n, .inl (fun _ => 0)))]) := hD1.weaken (fun k q _ h => hfr _ h)
  refine W.widen (k := 3) (n := 102) h_3 h_4 ?_
  exact W.aret hx hb hr (Or.inl ⟨_, rfl⟩) (Or.inr ⟨q4, rfl⟩) (fun t ht hW => ⟨⟨(q5, q6), q4, rfl, trivial, by rw [ht]; exact hP, va_K.moved hW.alike hK, hD⟩, hS.F ht⟩) hS.2.2 dX3_textRead_11
