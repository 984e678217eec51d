/-! STRINGS: the constants that the class names (0: "", 1: "mfh", 2: "mgh"), their objects sa, their bytes sv -/
def sEnv (sa sv : Nat → Nat) (A : Nat → Prop) (U : State) (H : Heap) : Prop := vk_S 3 lenS bytS sa sv A U H ∧ va_Z RJ0 "COMPACT_STRINGS" "Z" (.int 1) A U H
theorem sE_call {sa sv : Nat → Nat} {A B : Nat → Prop} {s U : State} {H0 H : Heap} (hW : s.WarmedH U.vm) (h : sEnv sa sv A s H0) (hk : ∀ q : Nat, q < H0.size → ¬ A q → H[q]? = H0[q]?) (hB : ∀ q, B q → A q) : sEnv sa sv B U H := ⟨vk_S.moved hW.alike ((h.1.kept hk).narrow hB), va_Z.moved hW.alike ((h.2.kept hk).narrow hB)⟩
theorem sE_calling {sa sv : Nat → Nat} {A : Nat → Prop} {U : State} {g : JFrame} {mk : MethodId} {b : Array Value} (h : sEnv sa sv A U U.heap) : sEnv sa sv A (U.calling g mk b) (U.calling g mk b).heap := ⟨vk_S.moved (u := U) (Vm.Alike.refl U.vm) h.1, va_Z.moved (u := U) (Vm.Alike.refl U.vm) h.2⟩
def jC (code : ByteArray) (nL : Nat) (own : String) (Ts : List Cond) (sa sv : Nat → Nat) (A : Nat → Prop) (p : Program) (s : State) (m : MethodId) (c : Code) (args : Array Value) : Prop := p.tables.exec = Jvm.exec ∧ c.code = code ∧ c.maxLocals = nL ∧ s.vm.findClass own = some m.cls ∧ (∀ w ∈ Ts, w.before args s = true) ∧ sEnv sa sv A s s.heap
/-- contract of a library method over the strings -/
def kJ (l : Launch) (sa sv : Nat → Nat) (y : MethodName) (ws : List Cond) (rm : Room) (av : List Value) (r : Int32) : Prop := ∀ sz : Nat, Met l y ws rm (va_Pc av (fun U => U.heap.size = sz ∧ sEnv sa sv (va_A [] sz) U U.heap)) (va_Qi (fun (r' : Int32) (_ : Unit) => r' = r) (fun _ _ => True) (va_A [] sz)) 0 0 (va_A [] sz)
theorem kJ_of {l : Launch} {sa sv : Nat → Nat} {own : String} {y : MethodName} {ws ws' : List Cond} {rm : Room} {av : List Value} {r0 : Int32} {code : ByteArray} {nL : Nat} {ty : FieldType} (hn : narrow ty (.int r0) = .int r0) (hy : plainName y.cls = true) (hw : ws = Cond.code y code nL (some ty) :: ws') (hcls : y.cls = own) (hL : (lg_sl av).length ≤ nL)
    (body : ∀ (p : Program) (e : Env) (s : State) (m : MethodId) (args : Array Value) (below : List Frame) (meth : Method) (c : Code) (A : Nat → Prop) (Q : State → Prop), jC code nL own ws sa sv A p s m c args → (∀ q, s.heap.size ≤ q → A q) → (∀ (pc : Nat) (H : Heap) (locs : List Loc) (ls : Array Slot) (r : Int32), r0 = r → va_S A s.heap H locs → decode code pc = .ok (.ireturn, 1) → W p l e rm s m args below meth c H locs 0 0 Q (F0 m pc ls [.int r])) → ∀ (H : Heap) (locs : List Loc) (ls : Array Slot), lv_has ls nL (lv_args 0 av) → va_S A s.heap H locs → W p l e rm s m args below meth c H locs 0 0 Q (F0 m 0 ls [])) : kJ l sa sv y ws rm av r0 := by
  intro sz
  refine Met.ofW (cc := code) (maxL := nL) (ret := some ty) hy hw ?_
  intro p e s m args below meth c s₁ B hml hv
  obtain ⟨rfl, hsz, hE⟩ := hv
  subst hsz
  have hl := lv_entry av (n := nL) hL
  rw [lg_entry_eq]
  refine body p e s m _ below meth c (va_A [] s.heap.size) _ ⟨B.exec, B.bytes, hml, hcls ▸ findClass_of_methodNamed B.named, atoms_spec (ws := ws) B.pre, hE⟩ (fun q h => Or.inr h) (fun pc H locs ls r hr hS hdg => ?_) _ [] _ hl va_S.rf
  subst hr
  exact W.zret B.exec B.bytes B.returns hn (fun t ht hW => ⟨⟨_, (), rfl, rfl, trivial⟩, hS.F ht⟩) hS.2.2 hdg B.notSynchronized
section jrows
variable {p : Program} {l : Launch} {e : Env} {R : Room} {s : State} {m : MethodId} {args : Array Value} {below : List Frame} {meth : Method} {c : Code} {H : Heap} {locs : List Loc} {cells slots : Nat} {Q : State → Prop} {code : ByteArray} {nL : Nat} {own : String} {Ts : List Cond} {sa sv : Nat → Nat} {A : Nat → Prop} {pc : Nat} {ls : Array Slot} {rest : List Value}
theorem jE_co (C : jC code nL own Ts sa sv A p s m c args) : va_Ef 3 "java/lang/String" "coder" "B" (fun _ => .int 0) sa A s s.heap := fun i hi => (C.2.2.2.2.2.1.1 i hi).2.1
theorem jE_va (C : jC code nL own Ts sa sv A p s m c args) : va_Ef 3 "java/lang/String" "value" "[B" (fun k => .ref (sv k)) sa A s s.heap := fun i hi => (C.2.2.2.2.2.1.1 i hi).2.2.1
theorem jE_t (C : jC code nL own Ts sa sv A p s m c args) {i : Nat} (hi : i < 3) : va_T .byte (sv i) (lenS.getD i 0) (fun j => .int ((bytS.getD i []).getD j 0)) A s s.heap := (C.2.2.2.2.2.1.1 i hi).2.2.2
theorem jr_free {H0 : Heap} (G : va_S A H0 H locs) (hA : ∀ q, H0.size ≤ q → A q) : ∀ q, va_A [] H.size q → A q := fun q h => h.elim (fun ⟨k, e, hk⟩ => by simp at hk) (fun h => hA q (Nat.le_trans G.1 h))
theorem sE_pre {s : State} {A : Nat → Prop} (hE : sEnv sa sv A s s.heap) (hA : ∀ q, s.heap.size ≤ q → A q) (G : va_S A s.heap H locs) (av : List Value) : ∀ U : State, U.heap = H → s.WarmedH U.vm → va_Pc av (fun U => U.heap.size = H.size ∧ sEnv sa sv (va_A [] H.size) U U.heap) av.toArray U := fun U hU hW => ⟨rfl, by rw [hU], by rw [hU]; exact sE_call hW hE G.2.1 (jr_free G hA)⟩
theorem sE_blind (av : List Value) (sz : Nat) : FrameBlind (va_Pc av (fun U => U.heap.size = sz ∧ sEnv sa sv (va_A [] sz) U U.heap)) := fun b U g mk q => ⟨q.1, q.2.1, sE_calling q.2.2⟩
theorem sE_recv {s : State} {A : Nat → Prop} (hE : sEnv sa sv A s s.heap) {i : Nat} (hi : i < 3) (G : va_S A s.heap H locs) : ∃ cell : Cell, H[sa i]? = some cell ∧ cell.vm.isStatics = false ∧ s.vm.findClass "java/lang/String" = some cell.cls := by
  obtain ⟨cell, h1, h2, h3, h4⟩ := (hE.1.1 i hi).1.kept G.2.1
  exact ⟨cell, h1, h2, h3⟩
theorem jr_V (C : jC code nL own Ts sa sv A p s m c args) (hA : ∀ q, s.heap.size ≤ q → A q) (G : va_S A s.heap H locs) {y : MethodName} {ws : List Cond} {rm : Room} {av : List Value} {r : Int32} {i : Nat} (hi : i < 3) (hM : kJ l sa sv y ws rm (.ref (sa i) :: av) r) {index n maxL : Nat} {bytes : ByteArray} {ret : Option FieldType} (cw : CallW R s args own "java/lang/String" index y bytes maxL ret ws rm 0 0 n) (hn : av.length = n) (hl : ls.size = nL) {st : List Value} (hst : st = av.reverse ++ .ref (sa i) :: rest) (hW : (rest.map fun v => v.category).sum ≤ 8) (hdg : decode code pc = .ok (.invokevirtual index, 3)) (hf : cells ≤ R.cells ∧ slots ≤ R.slots) (kk : ∀ (H1 : Heap) (locs1 : List Loc), va_S A s.heap H1 locs1 → W p l e R s m args below meth c H1 locs1 cells slots Q (F0 m (pc + 3) ls (.int r :: rest))) : W p l e R s m args below meth c H locs cells slots Q (F0 m pc ls st) := by
  refine va_calli (A0 := A) (A1 := va_A [] H.size) (va_runV (As := av) (rest := rest) ⟨C.1, C.2.1, C.2.2.1, C.2.2.2.1, C.2.2.2.2.1⟩ (hM H.size) cw ⟨sE_blind _ _, sE_recv C.2.2.2.2.2 hi G, sE_pre C.2.2.2.2.2 hA G _⟩ rfl hn hl hst (lv_room hW) hdg hf) G (fun q _ h => jr_free G hA q h) (jr_free G hA) (fun r u t H1 locs1 ht hvm hw hB hz1 hk1 hS => ?_)
  subst hw
  exact kk H1 locs1 hS
theorem jr_S (C : jC code nL own Ts sa sv A p s m c args) (hA : ∀ q, s.heap.size ≤ q → A q) (G : va_S A s.heap H locs) {y : MethodName} {ws : List Cond} {rm : Room} {av : List Value} {r : Int32} (hM : kJ l sa sv y ws rm av r) {index n maxL : Nat} {bytes : ByteArray} {ret : Option FieldType} (cw : CallB R s args own index y bytes maxL ret ws rm 0 0 n ∧ (Cond.static y).before args s = true) (hn : av.length = n) (hl : ls.size = nL) {st : List Value} (hst : st = av.reverse ++ rest) (hW : (rest.map fun v => v.category).sum ≤ 8) (hdg : decode code pc = .ok (.invokestatic index, 3)) (hf : cells ≤ R.cells ∧ slots ≤ R.slots) (kk : ∀ (H1 : Heap) (locs1 : List Loc), va_S A s.heap H1 locs1 → W p l e R s m args below meth c H1 locs1 cells slots Q (F0 m (pc + 3) ls (.int r :: rest))) : W p l e R s m args below meth c H locs cells slots Q (F0 m pc ls st) := by
  refine va_calli (A0 := A) (A1 := va_A [] H.size) (va_runS (As := av) (rest := rest) ⟨C.1, C.2.1, C.2.2.1, C.2.2.2.1, C.2.2.2.2.1⟩ (hM H.size) cw ⟨sE_blind _ _, sE_pre C.2.2.2.2.2 hA G _⟩ rfl hn hl hst (lv_room hW) hdg hf) G (fun q _ h => jr_free G hA q h) (jr_free G hA) (fun r u t H1 locs1 ht hvm hw hB hz1 hk1 hS => ?_)
  subst hw
  exact kk H1 locs1 hS
theorem jr_ps (C : jC code nL own Ts sa sv A p s m c args) (hA : ∀ q, s.heap.size ≤ q → A q) (G : va_S A s.heap H locs) {y : MethodName} {ws : List Cond} {rm : Room} {av : List Value} {r : Int32} (hM : sM l y ws rm av r) {index n maxL : Nat} {bytes : ByteArray} {ret : Option FieldType} (cw : CallB R s args own index y bytes maxL ret ws rm 0 0 n ∧ (Cond.static y).before args s = true) (hn : av.length = n) (hl : ls.size = nL) {st : List Value} (hst : st = av.reverse ++ rest) (hW : (rest.map fun v => v.category).sum ≤ 8) (hdg : decode code pc = .ok (.invokestatic index, 3)) (hf : cells ≤ R.cells ∧ slots ≤ R.slots) (kk : ∀ (H1 : Heap) (locs1 : List Loc), va_S A s.heap H1 locs1 → W p l e R s m args below meth c H1 locs1 cells slots Q (F0 m (pc + 3) ls (.int r :: rest))) : W p l e R s m args below meth c H locs cells slots Q (F0 m pc ls st) := by
  refine va_calli (A0 := A) (A1 := va_A [] H.size) (va_runS (As := av) (rest := rest) ⟨C.1, C.2.1, C.2.2.1, C.2.2.2.1, C.2.2.2.2.1⟩ (hM H.size) cw ⟨fun b U g mk q => q, fun U hU hW => ⟨rfl, by show U.heap.size = _; rw [hU]⟩⟩ rfl hn hl hst (lv_room hW) hdg hf) G (fun q _ h => jr_free G hA q h) (jr_free G hA) (fun r u t H1 locs1 ht hvm hw hB hz1 hk1 hS => ?_)
  subst hw
  exact kk H1 locs1 hS
end jrows
set_option maxRecDepth 100000 in
set_option maxHeartbeats 4000000 in
theorem ks_J1_canEncode_9a6ad (zl : Launch) (c : Int32) : sM zl yJ1_canEncode_9a6ad wsJ1_canEncode_9a6ad ({ frames := 0, cells := 0, slots := 0, locals := 0 } : Room) [.int c] (p1_canEncode_9a6ad c) := by
  refine sM_of (own := RJ1) (cc := cJ1_canEncode_9a6ad) (nL := 1) (Or.inr ⟨rfl, p1_canEncode_9a6ad_01 ..⟩) (by decide) rfl rfl (Nat.le_of_ble_eq_true rfl) ?_
  intro zp ze zs zm zg zb zt zc zA H0 zQ C hA hret H locs ls hl G
  have hx := C.1
  have hb := C.2.1
  have hl : lv_has ls 1 [(0, .int c)] := hl
  obtain ⟨rM, hF⟩ : ∃ X : Int32, X = p1_canEncode_9a6ad c := ⟨_, rfl⟩
  rw [← hF] at hret
  unfold p1_canEncode_9a6ad at hF
  refine lv_iload_n hx hb dJ1_canEncode_9a6ad_0 rfl (lv_at hl 0 rfl) ?_
  refine lv_if_lt (tgt := 15) hx hb dJ1_canEncode_9a6ad_1 (by decide) (fun c1 => ?_) (fun c1 => ?_)
  · rw [if_pos c1] at hF
    refine lv_iconst (v := 0) hx hb dJ1_canEncode_9a6ad_15 (by decide) ?_
    exact hret _ _ _ _ _ hF G dJ1_canEncode_9a6ad_16
  · rw [if_neg c1] at hF
    refine lv_iload_n hx hb dJ1_canEncode_9a6ad_4 rfl (lv_at hl 0 rfl) ?_
    refine lv_sipush (v := 255) hx hb dJ1_canEncode_9a6ad_5 (by decide) ?_
    refine lv_icmp_gt (tgt := 15) hx hb dJ1_canEncode_9a6ad_8 (by decide) (fun c8 => ?_) (fun c8 => ?_)
    · rw [if_pos c8] at hF
      refine lv_iconst (v := 0) hx hb dJ1_canEncode_9a6ad_15 (by decide) ?_
      exact hret _ _ _ _ _ hF G dJ1_canEncode_9a6ad_16
    · rw [if_neg c8] at hF
      refine lv_iconst (v := 1) hx hb dJ1_canEncode_9a6ad_11 (by decide) ?_
      refine lv_goto (tgt := 16) hx hb dJ1_canEncode_9a6ad_12 (by decide) ?_
      exact hret _ _ _ _ _ hF G dJ1_canEncode_9a6ad_16
set_option maxRecDepth 100000 in
set_option maxHeartbeats 4000000 in
theorem kJ_isLatin1_aae02 (zl : Launch) (sa sv : Nat → Nat) (i : Nat) (hi : i < 3) : kJ zl sa sv yJ0_isLatin1_aae02 wsJ0_isLatin1_aae02 ({ frames := 0, cells := 0, slots := 0, locals := 0 } : Room) [.ref (sa i)] (pJ_isLatin1_aae02 i) := by
  refine kJ_of (code := cJ0_isLatin1_aae02) (nL := 1) (own := RJ0) (by unfold pJ_isLatin1_aae02; rfl) (by decide) rfl rfl (Nat.le_of_ble_eq_true rfl) ?_
  intro zp ze zs zm zg zb zt zc zA zQ C hA hret H locs ls hl G
  have hx := C.1
  have hb := C.2.1
  have hl : lv_has ls 1 [(0, .ref (sa i))] := hl
  obtain ⟨rM, hF⟩ : ∃ Z : Int32, Z = pJ_isLatin1_aae02 i := ⟨_, rfl⟩
  rw [← hF] at hret
  unfold pJ_isLatin1_aae02 at hF
  refine va_gets hx hb C.2.2.2.2.2.2 G C.2.2.2.1 (C.2.2.2.2.1 (.fieldLink RJ0 38 "java/lang/String" "COMPACT_STRINGS" "Z") (by decide +kernel)) (fun _ h => h) dJ0_isLatin1_aae02_0 ?_
  refine lv_if_eq (tgt := 17) hx hb dJ0_isLatin1_aae02_3 (by decide) (fun c3 => absurd c3 (by decide)) (fun c3 => ?_)
  refine lv_aload_n hx hb dJ0_isLatin1_aae02_6 rfl (lv_at hl 0 rfl) ?_
  refine va_getX (N := 3) (v := fun _ => .int 0) (ad := sa) (i := i) hx hb (jE_co C) hi G C.2.2.2.1 (C.2.2.2.2.1 (.fieldLink RJ0 15 "java/lang/String" "coder" "B") (by decide +kernel)) (fun _ h => h) dJ0_isLatin1_aae02_7 ?_
  refine lv_if_ne (tgt := 17) hx hb dJ0_isLatin1_aae02_10 (by decide) (fun c10 => absurd (by decide) c10) (fun c10 => ?_)
  refine lv_iconst (v := 1) hx hb dJ0_isLatin1_aae02_13 (by decide) ?_
  refine lv_goto (tgt := 18) hx hb dJ0_isLatin1_aae02_14 (by decide) ?_
  exact hret _ _ _ _ _ (by rw [hF]) G dJ0_isLatin1_aae02_18
set_option maxRecDepth 100000 in
set_option maxHeartbeats 4000000 in
theorem kJ_coder_7d493 (zl : Launch) (sa sv : Nat → Nat) (i : Nat) (hi : i < 3) : kJ zl sa sv yJ0_coder_7d493 wsJ0_coder_7d493 ({ frames := 0, cells := 0, slots := 0, locals := 0 } : Room) [.ref (sa i)] (pJ_coder_7d493 i) := by
  refine kJ_of (code := cJ0_coder_7d493) (nL := 1) (own := RJ0) (by unfold pJ_coder_7d493; rfl) (by decide) rfl rfl (Nat.le_of_ble_eq_true rfl) ?_
  intro zp ze zs zm zg zb zt zc zA zQ C hA hret H locs ls hl G
  have hx := C.1
  have hb := C.2.1
  have hl : lv_has ls 1 [(0, .ref (sa i))] := hl
  obtain ⟨rM, hF⟩ : ∃ Z : Int32, Z = pJ_coder_7d493 i := ⟨_, rfl⟩
  rw [← hF] at hret
  unfold pJ_coder_7d493 at hF
  refine va_gets hx hb C.2.2.2.2.2.2 G C.2.2.2.1 (C.2.2.2.2.1 (.fieldLink RJ0 38 "java/lang/String" "COMPACT_STRINGS" "Z") (by decide +kernel)) (fun _ h => h) dJ0_coder_7d493_0 ?_
  refine lv_if_eq (tgt := 13) hx hb dJ0_coder_7d493_3 (by decide) (fun c3 => absurd c3 (by decide)) (fun c3 => ?_)
  refine lv_aload_n hx hb dJ0_coder_7d493_6 rfl (lv_at hl 0 rfl) ?_
  refine va_getX (N := 3) (v := fun _ => .int 0) (ad := sa) (i := i) hx hb (jE_co C) hi G C.2.2.2.1 (C.2.2.2.2.1 (.fieldLink RJ0 15 "java/lang/String" "coder" "B") (by decide +kernel)) (fun _ h => h) dJ0_coder_7d493_7 ?_
  refine lv_goto (tgt := 14) hx hb dJ0_coder_7d493_10 (by decide) ?_
  exact hret _ _ _ _ _ (by rw [hF]) G dJ0_coder_7d493_14
set_option maxRecDepth 100000 in
set_option maxHeartbeats 4000000 in
theorem kJ_length_8abf5 (zl : Launch) (sa sv : Nat → Nat) (i : Nat) (hi : i < 3) : kJ zl sa sv yJ0_length_8abf5 wsJ0_length_8abf5 ({ frames := 1, cells := 0, slots := 0, locals := 20 } : Room) [.ref (sa i)] (pJ_length_8abf5 i) := by
  refine kJ_of (code := cJ0_length_8abf5) (nL := 1) (own := RJ0) rfl (by decide) rfl rfl (Nat.le_of_ble_eq_true rfl) ?_
  intro zp ze zs zm zg zb zt zc zA zQ C hA hret H locs ls hl G
  have hx := C.1
  have hb := C.2.1
  have hl : lv_has ls 1 [(0, .ref (sa i))] := hl
  obtain ⟨rM, hF⟩ : ∃ Z : Int32, Z = pJ_length_8abf5 i := ⟨_, rfl⟩
  rw [← hF] at hret
  unfold pJ_length_8abf5 at hF
  refine lv_aload_n hx hb dJ0_length_8abf5_0 rfl (lv_at hl 0 rfl) ?_
  refine va_getX (N := 3) (v := fun k => .ref (sv k)) (ad := sa) (i := i) hx hb (jE_va C) hi G C.2.2.2.1 (C.2.2.2.2.1 (.fieldLink RJ0 9 "java/lang/String" "value" "[B") (by decide +kernel)) (fun _ h => h) dJ0_length_8abf5_1 ?_
  refine va_tlen (v := nI (lenS.getD i 0)) hx hb (jE_t C hi) G rfl dJ0_length_8abf5_4 ?_
  refine lv_aload_n hx hb dJ0_length_8abf5_5 rfl (lv_at hl 0 rfl) ?_
  refine jr_V C hA G hi (kJ_coder_7d493 zl sa sv i (by first | assumption | omega)) (cwV 0 C.2.2.2.2.1 gJ0_length_8abf5_J0_coder_7d493 rfl rfl rfl (by decide +kernel) ⟨Nat.le_of_ble_eq_true rfl, Nat.le_of_ble_eq_true rfl⟩) rfl hl.1 rfl (Nat.le_of_ble_eq_true rfl) dJ0_length_8abf5_6 ⟨Nat.le_refl _, Nat.le_refl _⟩ (fun H locs G => ?_)
  refine lv_ishr hx hb dJ0_length_8abf5_9 ?_
  exact hret _ _ _ _ _ (by rw [hF]) G dJ0_length_8abf5_10
set_option maxRecDepth 100000 in
set_option maxHeartbeats 4000000 in
theorem kJ_indexOfChar_4cfef (zl : Launch) (sa sv : Nat → Nat) (i : Nat) (c : Int32) (fr : Nat) (t : Nat) (hi : i < 3) (ht : t ≤ lenS.getD i 0) (hf : fr ≤ t) : kJ zl sa sv yJ1_indexOfChar_4cfef wsJ1_indexOfChar_4cfef ({ frames := 0, cells := 0, slots := 0, locals := 0 } : Room) [.ref (sv i), .int c, .int (nI fr), .int (nI t)] (pJ_indexOfChar_4cfef i c fr t) := by
  refine kJ_of (code := cJ1_indexOfChar_4cfef) (nL := 6) (own := RJ1) rfl (by decide) rfl rfl (Nat.le_of_ble_eq_true rfl) ?_
  intro zp ze zs zm zg zb zt zc zA zQ C hA hret H locs ls hl G
  have hx := C.1
  have hb := C.2.1
  have hl : lv_has ls 6 [(0, .ref (sv i)), (1, .int c), (2, .int (nI fr)), (3, .int (nI t))] := hl
  obtain ⟨rM, hF⟩ : ∃ Z : Int32, Z = pJ_indexOfChar_4cfef i c fr t := ⟨_, rfl⟩
  rw [← hF] at hret
  unfold pJ_indexOfChar_4cfef at hF
  have hln := lenS_le hi
  have ht3 : t ≤ 3 := Nat.le_trans ht hln
  refine lv_iload_n hx hb dJ1_indexOfChar_4cfef_0 rfl (lv_at hl 1 rfl) ?_
  refine lv_i2b (v := c.toInt8.toInt32) hx hb dJ1_indexOfChar_4cfef_1 rfl ?_
  refine lv_topi (fun x2 hx2 => ?_)
  rw [lt_e hx2] at hF
  refine lv_istore (lv' := [(4, .int x2), (0, .ref (sv i)), (1, .int c), (2, .int (nI fr)), (3, .int (nI t))]) hx hb dJ1_indexOfChar_4cfef_2 hl (by decide) rfl (fun ls hl => ?_)
  refine lv_iload_n hx hb dJ1_indexOfChar_4cfef_4 rfl (lv_at hl 3 rfl) ?_
  refine lv_istore (lv' := [(5, .int (nI fr)), (4, .int x2), (0, .ref (sv i)), (1, .int c), (2, .int (nI fr)), (3, .int (nI t))]) hx hb dJ1_indexOfChar_4cfef_5 hl (by decide) rfl (fun ls hl => ?_)
  obtain ⟨K7, hK7⟩ : ∃ Zk : Nat → Int32, Zk = (fun (ksx : Nat) => (-1)) := ⟨_, rfl⟩
  rw [← hK7] at hF
  have hrest7 : ∀ (ksx : Nat), rM = K7 ksx → (True) → ∀ (H : Heap) (locs : List Loc) (ls : Array Slot), lv_has ls 6 [(0, .ref (sv i)), (1, .int c), (2, .int (nI fr)), (3, .int (nI t)), (4, .int x2), (5, .int (nI ksx))] → va_S zA zs.heap H locs → W zp zl ze ({ frames := 0, cells := 0, slots := 0, locals := 0 } : Room) zs zm zg zb zt zc H locs 0 0 zQ (F0 zm 31 ls []) := by
    intro ksx hF hR9 H locs ls hl G
    have hF : rM = (-1) := by rw [hK7] at hF; exact hF
    refine lv_iconst (v := -1) hx hb dJ1_indexOfChar_4cfef_31 (by decide) ?_
    exact hret _ _ _ _ _ (by rw [hF]) G dJ1_indexOfChar_4cfef_32
  have hloop7 : ∀ (f7 : Nat) (ks : Nat), (ks ≤ t ∧ t < ks + f7) → rM = pJ_indexOfChar_4cfef_L7 i t x2 K7 f7 ks → ∀ (H : Heap) (locs : List Loc) (ls : Array Slot), lv_has ls 6 [(0, .ref (sv i)), (1, .int c), (2, .int (nI fr)), (3, .int (nI t)), (4, .int x2), (5, .int (nI ks))] → va_S zA zs.heap H locs → W zp zl ze ({ frames := 0, cells := 0, slots := 0, locals := 0 } : Room) zs zm zg zb zt zc H locs 0 0 zQ (F0 zm 7 ls []) := by
    intro f7
    induction f7 with
    | zero =>
      intro ks hI hL7 H locs ls hl G
      exact absurd hI.2 (by omega)
    | succ f7 ih7 =>
      intro ks hI hL7 H locs ls hl G
      rw [pJ_indexOfChar_4cfef_L7_s] at hL7
      refine lv_iload hx hb dJ1_indexOfChar_4cfef_7 (lv_at hl 5 rfl) ?_
      refine lv_iload_n hx hb dJ1_indexOfChar_4cfef_9 rfl (lv_at hl 3 rfl) ?_
      refine lv_icmp_ge (tgt := 31) hx hb dJ1_indexOfChar_4cfef_10 (by decide) (fun c10 => ?_) (fun c10 => ?_)
      · rw [if_pos c10] at hL7
        exact hrest7 ks hL7 trivial _ _ _ (lv_sub hl [0, 1, 2, 3, 4, 5] rfl) G
      · rw [if_neg c10] at hL7
        have hk9 := lp_lt (n := t) rfl c10 (by omega) (by omega)
        refine lv_aload_n hx hb dJ1_indexOfChar_4cfef_13 rfl (lv_at hl 0 rfl) ?_
        refine lv_iload hx hb dJ1_indexOfChar_4cfef_14 (lv_at hl 5 rfl) ?_
        refine va_tb (v := .int ((bytS.getD i []).getD ks 0)) hx hb (jE_t C hi) G (vp_in_nI (show ks < lenS.getD i 0 by omega) (by have := lenS_le hi; omega)) (by rw [nI_clamp (by have := lenS_le hi; omega)]) dJ1_indexOfChar_4cfef_16 ?_
        refine lv_iload hx hb dJ1_indexOfChar_4cfef_17 (lv_at hl 4 rfl) ?_
        refine lv_icmp_ne (tgt := 25) hx hb dJ1_indexOfChar_4cfef_19 (by decide) (fun c19 => ?_) (fun c19 => ?_)
        · rw [if_neg c19] at hL7
          refine lv_iinc (v := nI (ks + 1)) (lv' := [(5, .int (nI (ks + 1))), (0, .ref (sv i)), (1, .int c), (2, .int (nI fr)), (3, .int (nI t)), (4, .int x2)]) hx hb dJ1_indexOfChar_4cfef_25 hl (k := 5) rfl (nt_add rfl (show (1 : Int32) = nI 1 from rfl)) (by decide) rfl (fun ls hl => ?_)
          refine lv_goto (tgt := 7) hx hb dJ1_indexOfChar_4cfef_28 (by decide) ?_
          exact ih7 (ks + 1) ⟨by omega, by omega⟩ hL7 _ _ _ (lv_sub hl [1, 2, 3, 4, 5, 0] rfl) G
        · rw [if_pos c19] at hL7
          refine lv_iload hx hb dJ1_indexOfChar_4cfef_22 (lv_at hl 5 rfl) ?_
          exact hret _ _ _ _ _ (by rw [hL7]) G dJ1_indexOfChar_4cfef_24
  exact hloop7 (t + 1) fr ⟨hf, by omega⟩ hF _ _ _ (lv_sub hl [2, 3, 4, 5, 1, 0] rfl) G
set_option maxRecDepth 100000 in
set_option maxHeartbeats 4000000 in
theorem kJ_indexOf_4cfef (zl : Launch) (sa sv : Nat → Nat) (i : Nat) (c : Int32) (t : Nat) (hi : i < 3) (ht : t = lenS.getD i 0) : kJ zl sa sv yJ1_indexOf_4cfef wsJ1_indexOf_4cfef ({ frames := 1, cells := 0, slots := 0, locals := 25 } : Room) [.ref (sv i), .int c, .int 0, .int (nI t)] (pJ_indexOf_4cfef i c t) := by
  refine kJ_of (code := cJ1_indexOf_4cfef) (nL := 4) (own := RJ1) rfl (by decide) rfl rfl (Nat.le_of_ble_eq_true rfl) ?_
  intro zp ze zs zm zg zb zt zc zA zQ C hA hret H locs ls hl G
  have hx := C.1
  have hb := C.2.1
  have hl : lv_has ls 4 [(0, .ref (sv i)), (1, .int c), (2, .int 0), (3, .int (nI t))] := hl
  obtain ⟨rM, hF⟩ : ∃ Z : Int32, Z = pJ_indexOf_4cfef i c t := ⟨_, rfl⟩
  rw [← hF] at hret
  unfold pJ_indexOf_4cfef at hF
  have hln := lenS_le hi
  refine lv_iload_n hx hb dJ1_indexOf_4cfef_0 rfl (lv_at hl 1 rfl) ?_
  refine jr_ps C hA G (ks_J1_canEncode_9a6ad zl c) (va_cwS 1 C.2.2.2.2.1 gJ1_indexOf_4cfef_J1_canEncode_9a6ad rfl rfl rfl (by decide +kernel) ⟨Nat.le_of_ble_eq_true rfl, Nat.le_of_ble_eq_true rfl⟩) rfl hl.1 rfl (Nat.le_of_ble_eq_true rfl) dJ1_indexOf_4cfef_1 ⟨Nat.le_refl _, Nat.le_refl _⟩ (fun H locs G => ?_)
  refine lv_if_ne (tgt := 9) hx hb dJ1_indexOf_4cfef_4 (by decide) (fun c4 => ?_) (fun c4 => ?_)
  · rw [if_neg c4] at hF
    refine lv_iload_n hx hb dJ1_indexOf_4cfef_9 rfl (lv_at hl 2 rfl) ?_
    refine lv_iconst (v := 0) hx hb dJ1_indexOf_4cfef_10 (by decide) ?_
    refine va_mmax hx hb (C.2.2.1.trans hl.1.symm) C.2.2.2.1 (C.2.2.2.2.1 (.methodLink RJ1 92 Lib.Math.max.name) (by decide +kernel)) (C.2.2.2.2.1 (.static Lib.Math.max.name) (by decide +kernel)) (C.2.2.2.2.1 (.initialized "java/lang/Math") (by decide +kernel)) (C.2.2.2.2.1 (.code Lib.Math.max.name Lib.Math.max.code 2 (some .int)) (by decide +kernel)) (Nat.le_of_ble_eq_true rfl) (Nat.le_of_ble_eq_true rfl) (Nat.le_refl _) (Nat.le_refl _) dJ1_indexOf_4cfef_11 ?_
    refine lv_topi (fun x14 hx14 => ?_)
    obtain rfl : x14 = nI 0 := hx14.trans (by decide)
    refine lv_istore_n (lv' := [(2, .int (nI 0)), (0, .ref (sv i)), (1, .int c), (3, .int (nI t))]) hx hb dJ1_indexOf_4cfef_14 rfl hl (by decide) rfl (fun ls hl => ?_)
    refine lv_iload_n hx hb dJ1_indexOf_4cfef_15 rfl (lv_at hl 3 rfl) ?_
    refine lv_aload_n hx hb dJ1_indexOf_4cfef_16 rfl (lv_at hl 1 rfl) ?_
    refine va_tlen (v := nI (lenS.getD i 0)) hx hb (jE_t C hi) G rfl dJ1_indexOf_4cfef_17 ?_
    refine va_mmin hx hb (C.2.2.1.trans hl.1.symm) C.2.2.2.1 (C.2.2.2.2.1 (.methodLink RJ1 38 Lib.Math.min.name) (by decide +kernel)) (C.2.2.2.2.1 (.static Lib.Math.min.name) (by decide +kernel)) (C.2.2.2.2.1 (.initialized "java/lang/Math") (by decide +kernel)) (C.2.2.2.2.1 (.code Lib.Math.min.name Lib.Math.min.code 2 (some .int)) (by decide +kernel)) (Nat.le_of_ble_eq_true rfl) (Nat.le_of_ble_eq_true rfl) (Nat.le_refl _) (Nat.le_refl _) dJ1_indexOf_4cfef_18 ?_
    refine lv_topi (fun x21 hx21 => ?_)
    obtain rfl : x21 = nI (lenS.getD i 0) := hx21.trans (by rw [ht]; exact ite_self _)
    refine lv_istore_n (lv' := [(3, .int (nI (lenS.getD i 0))), (2, .int (nI 0)), (0, .ref (sv i)), (1, .int c)]) hx hb dJ1_indexOf_4cfef_21 rfl hl (by decide) rfl (fun ls hl => ?_)
    refine lv_iload_n hx hb dJ1_indexOf_4cfef_22 rfl (lv_at hl 1 rfl) ?_
    refine lv_iload_n hx hb dJ1_indexOf_4cfef_23 rfl (lv_at hl 0 rfl) ?_
    refine lv_icmp_lt (tgt := 29) hx hb dJ1_indexOf_4cfef_24 (by decide) (fun c24 => ?_) (fun c24 => ?_)
    · rw [if_pos c24] at hF
      refine lv_aload_n hx hb dJ1_indexOf_4cfef_29 rfl (lv_at hl 2 rfl) ?_
      refine lv_iload_n hx hb dJ1_indexOf_4cfef_30 rfl (lv_at hl 3 rfl) ?_
      refine lv_iload_n hx hb dJ1_indexOf_4cfef_31 rfl (lv_at hl 1 rfl) ?_
      refine lv_iload_n hx hb dJ1_indexOf_4cfef_32 rfl (lv_at hl 0 rfl) ?_
      refine jr_S C hA G (kJ_indexOfChar_4cfef zl sa sv i c 0 (lenS.getD i 0) hi (Nat.le_refl _) (Nat.zero_le _)) (va_cwS 4 C.2.2.2.2.1 gJ1_indexOf_4cfef_J1_indexOfChar_4cfef rfl rfl rfl (by decide +kernel) ⟨Nat.le_of_ble_eq_true rfl, Nat.le_of_ble_eq_true rfl⟩) rfl hl.1 rfl (Nat.le_of_ble_eq_true rfl) dJ1_indexOf_4cfef_33 ⟨Nat.le_refl _, Nat.le_refl _⟩ (fun H locs G => ?_)
      exact hret _ _ _ _ _ (by rw [hF]) G dJ1_indexOf_4cfef_36
    · rw [if_neg c24] at hF
      refine lv_iconst (v := -1) hx hb dJ1_indexOf_4cfef_27 (by decide) ?_
      exact hret _ _ _ _ _ (by rw [hF]) G dJ1_indexOf_4cfef_28
  · rw [if_pos c4] at hF
    refine lv_iconst (v := -1) hx hb dJ1_indexOf_4cfef_7 (by decide) ?_
    exact hret _ _ _ _ _ (by rw [hF]) G dJ1_indexOf_4cfef_8
set_option maxRecDepth 100000 in
set_option maxHeartbeats 4000000 in
theorem kJ_indexOf_7cf53 (zl : Launch) (sa sv : Nat → Nat) (i : Nat) (c : Int32) (hi : i < 3) : kJ zl sa sv yJ0_indexOf_7cf53 wsJ0_indexOf_7cf53 ({ frames := 2, cells := 0, slots := 0, locals := 48 } : Room) [.ref (sa i), .int c, .int 0] (pJ_indexOf_7cf53 i c) := by
  refine kJ_of (code := cJ0_indexOf_7cf53) (nL := 3) (own := RJ0) rfl (by decide) rfl rfl (Nat.le_of_ble_eq_true rfl) ?_
  intro zp ze zs zm zg zb zt zc zA zQ C hA hret H locs ls hl G
  have hx := C.1
  have hb := C.2.1
  have hl : lv_has ls 3 [(0, .ref (sa i)), (1, .int c), (2, .int 0)] := hl
  obtain ⟨rM, hF⟩ : ∃ Z : Int32, Z = pJ_indexOf_7cf53 i c := ⟨_, rfl⟩
  rw [← hF] at hret
  unfold pJ_indexOf_7cf53 at hF
  refine lv_aload_n hx hb dJ0_indexOf_7cf53_0 rfl (lv_at hl 0 rfl) ?_
  refine jr_V C hA G hi (kJ_isLatin1_aae02 zl sa sv i (by first | assumption | omega)) (cwV 0 C.2.2.2.2.1 gJ0_indexOf_7cf53_J0_isLatin1_aae02 rfl rfl rfl (by decide +kernel) ⟨Nat.le_of_ble_eq_true rfl, Nat.le_of_ble_eq_true rfl⟩) rfl hl.1 rfl (Nat.le_of_ble_eq_true rfl) dJ0_indexOf_7cf53_1 ⟨Nat.le_refl _, Nat.le_refl _⟩ (fun H locs G => ?_)
  refine lv_if_eq (tgt := 23) hx hb dJ0_indexOf_7cf53_4 (by decide) (fun c4 => absurd c4 (show ¬ (1 : Int32) = 0 by decide)) (fun c4 => ?_)
  refine lv_aload_n hx hb dJ0_indexOf_7cf53_7 rfl (lv_at hl 0 rfl) ?_
  refine va_getX (N := 3) (v := fun k => .ref (sv k)) (ad := sa) (i := i) hx hb (jE_va C) hi G C.2.2.2.1 (C.2.2.2.2.1 (.fieldLink RJ0 9 "java/lang/String" "value" "[B") (by decide +kernel)) (fun _ h => h) dJ0_indexOf_7cf53_8 ?_
  refine lv_iload_n hx hb dJ0_indexOf_7cf53_11 rfl (lv_at hl 1 rfl) ?_
  refine lv_iload_n hx hb dJ0_indexOf_7cf53_12 rfl (lv_at hl 2 rfl) ?_
  refine lv_aload_n hx hb dJ0_indexOf_7cf53_13 rfl (lv_at hl 0 rfl) ?_
  refine jr_V C hA G hi (kJ_length_8abf5 zl sa sv i (by first | assumption | omega)) (cwV 0 C.2.2.2.2.1 gJ0_indexOf_7cf53_J0_length_8abf5 rfl rfl rfl (by decide +kernel) ⟨Nat.le_of_ble_eq_true rfl, Nat.le_of_ble_eq_true rfl⟩) rfl hl.1 rfl (Nat.le_of_ble_eq_true rfl) dJ0_indexOf_7cf53_14 ⟨Nat.le_refl _, Nat.le_refl _⟩ (fun H locs G => ?_)
  refine jr_S C hA G (kJ_indexOf_4cfef zl sa sv i c (lenS.getD i 0) hi rfl) (va_cwS 4 C.2.2.2.2.1 gJ0_indexOf_7cf53_J1_indexOf_4cfef rfl rfl rfl (by decide +kernel) ⟨Nat.le_of_ble_eq_true rfl, Nat.le_of_ble_eq_true rfl⟩) rfl hl.1 (cons_int (jlen hi) (cons_int rfl (cons_int rfl (congrArg (List.cons _) rfl)))) (Nat.le_of_ble_eq_true rfl) dJ0_indexOf_7cf53_17 ⟨Nat.le_refl _, Nat.le_refl _⟩ (fun H locs G => ?_)
  refine lv_goto (tgt := 36) hx hb dJ0_indexOf_7cf53_20 (by decide) ?_
  exact hret _ _ _ _ _ (by rw [hF]) G dJ0_indexOf_7cf53_36
set_option maxRecDepth 100000 in
set_option maxHeartbeats 4000000 in
theorem kJ_indexOf_0f7a4 (zl : Launch) (sa sv : Nat → Nat) (i : Nat) (c : Int32) (hi : i < 3) : kJ zl sa sv yJ0_indexOf_0f7a4 wsJ0_indexOf_0f7a4 ({ frames := 3, cells := 0, slots := 0, locals := 70 } : Room) [.ref (sa i), .int c] (pJ_indexOf_0f7a4 i c) := by
  refine kJ_of (code := cJ0_indexOf_0f7a4) (nL := 2) (own := RJ0) rfl (by decide) rfl rfl (Nat.le_of_ble_eq_true rfl) ?_
  intro zp ze zs zm zg zb zt zc zA zQ C hA hret H locs ls hl G
  have hx := C.1
  have hb := C.2.1
  have hl : lv_has ls 2 [(0, .ref (sa i)), (1, .int c)] := hl
  obtain ⟨rM, hF⟩ : ∃ Z : Int32, Z = pJ_indexOf_0f7a4 i c := ⟨_, rfl⟩
  rw [← hF] at hret
  unfold pJ_indexOf_0f7a4 at hF
  refine lv_aload_n hx hb dJ0_indexOf_0f7a4_0 rfl (lv_at hl 0 rfl) ?_
  refine lv_iload_n hx hb dJ0_indexOf_0f7a4_1 rfl (lv_at hl 1 rfl) ?_
  refine lv_iconst (v := 0) hx hb dJ0_indexOf_0f7a4_2 (by decide) ?_
  refine jr_V C hA G hi (kJ_indexOf_7cf53 zl sa sv i c (by first | assumption | omega)) (cwV 2 C.2.2.2.2.1 gJ0_indexOf_0f7a4_J0_indexOf_7cf53 rfl rfl rfl (by decide +kernel) ⟨Nat.le_of_ble_eq_true rfl, Nat.le_of_ble_eq_true rfl⟩) rfl hl.1 rfl (Nat.le_of_ble_eq_true rfl) dJ0_indexOf_0f7a4_3 ⟨Nat.le_refl _, Nat.le_refl _⟩ (fun H locs G => ?_)
  exact hret _ _ _ _ _ (by rw [hF]) G dJ0_indexOf_0f7a4_6

