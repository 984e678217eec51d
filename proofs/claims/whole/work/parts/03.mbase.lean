/-! THE REFERENCE'S WORLD: one object of 28 fields and thirteen int rows. M j k: row j (1 .. 13), place k; M 0 k: the number in field k; S k: the same for the reader's own (fields 7 .. 14), of which no other method's answer speaks. -/
def mF (a : Nat → Nat) (M : mS) (S : Nat → Int32) : List Value := [.ref (a 1), .ref (a 2), .ref (a 3), .ref (a 4), .int (M 0 4), .int (M 0 5), .ref (a 5), .int (S 7), .int (S 8), .int (S 9), .int (S 10), .int (S 11), .int (S 12), .int (S 13), .int (S 14), .int (M 0 15), .ref (a 6), .ref (a 7), .ref (a 8), .ref (a 9), .ref (a 10), .ref (a 11), .ref (a 12), .ref (a 13), .int (M 0 24), .int (M 0 25), .int (M 0 26), .int (M 0 27)]
def mW (cI : ClassId) (a : Nat → Nat) (M : mS) (S : Nat → Int32) : va_W := [(a 0, .inr (8, mF a M S)), (a 1, .inl (cI, 234, .inl (M 1))), (a 2, .inl (cI, 234, .inl (M 2))), (a 3, .inl (cI, 234, .inl (M 3))), (a 4, .inl (cI, 234, .inl (M 4))), (a 5, .inl (cI, 6, .inl (M 5))), (a 6, .inl (cI, 10, .inl (M 6))), (a 7, .inl (cI, 4, .inl (M 7))), (a 8, .inl (cI, 4, .inl (M 8))), (a 9, .inl (cI, 4, .inl (M 9))), (a 10, .inl (cI, 160, .inl (M 10))), (a 11, .inl (cI, 40, .inl (M 11))), (a 12, .inl (cI, 8, .inl (M 12))), (a 13, .inl (cI, 40, .inl (M 13)))]
/-- what holds all along a method of the reference -/
def mC (cc : ByteArray) (nL : Nat) (Ts : List Cond) (D : va_G) (cI : ClassId) (p : Program) (s : State) (m : MethodId) (c : Code) (args : Array Value) : Prop := p.tables.exec = Jvm.exec ∧ c.code = cc ∧ c.maxLocals = nL ∧ s.vm.findClass RX9 = some m.cls ∧ (∀ w ∈ Ts, w.before args s = true) ∧ va_K D vwCl [(cI, .int)] s
/-- the heap holds the reference in the state M, S -/
def mGs (D : va_G) (cI : ClassId) (a : Nat → Nat) (A : Nat → Prop) (H0 H : Heap) (locs : List Loc) (M : mS) (S : Nat → Int32) : Prop := va_P D vwCl (mW cI a M S) H ∧ va_D A (mW cI a M S) ∧ va_S A H0 H locs
/-- the heap holds the reference in the state M, the reader's numbers being any -/
def mG (D : va_G) (cI : ClassId) (a : Nat → Nat) (A : Nat → Prop) (H0 H : Heap) (locs : List Loc) (M : mS) : Prop := ∃ S, mGs D cI a A H0 H locs M S
def mPre (D : va_G) (cI : ClassId) (a : Nat → Nat) (av : List Value) (M : mS) (S : Nat → Int32) (sz : Nat) : Array Value → State → Prop := va_Pc (.ref (a 0) :: av) (fun U => U.heap.size = sz ∧ va_P D vwCl (mW cI a M S) U.heap ∧ va_K D vwCl [(cI, .int)] U ∧ va_D (fun _ => True) (mW cI a M S))
/-- contract of a method of the reference that answers an int (a boolean) and leaves a state -/
def mM (l : Launch) (D : va_G) (cI : ClassId) (a : Nat → Nat) (y : MethodName) (ws : List Cond) (rm : Room) (av : List Value) (M : mS) (rM : Int32 × mS) : Prop := ∀ (sz : Nat) (S : Nat → Int32), Met l y ws rm (mPre D cI a av M S sz) (va_Qi (fun (r : Int32) (_ : Nat → Int32) => r = rM.1) (fun u t => va_P D vwCl (mW cI a rM.2 u) t.heap ∧ va_K D vwCl [(cI, .int)] t ∧ va_D (va_A (mW cI a M S) sz) (mW cI a rM.2 u)) (va_A (mW cI a M S) sz)) 0 0 (va_A (mW cI a M S) sz)
/-- the same, without an answer -/
def mMv (l : Launch) (D : va_G) (cI : ClassId) (a : Nat → Nat) (y : MethodName) (ws : List Cond) (rm : Room) (av : List Value) (M M2 : mS) : Prop := ∀ (sz : Nat) (S : Nat → Int32), Met l y ws rm (mPre D cI a av M S sz) (va_Qv (fun (_ : Nat → Int32) => True) (fun u t => va_P D vwCl (mW cI a M2 u) t.heap ∧ va_K D vwCl [(cI, .int)] t ∧ va_D (va_A (mW cI a M S) sz) (mW cI a M2 u)) (va_A (mW cI a M S) sz)) 0 0 (va_A (mW cI a M S) sz)
/-- contract of a method of the reference's reader: it changes the reader's numbers alone -/
def mPc (l : Launch) (D : va_G) (cI : ClassId) (a : Nat → Nat) (y : MethodName) (ws : List Cond) (rm : Room) (av : List Value) (M : mS) (S : Nat → Int32) (rS : Int32 × (Nat → Int32)) : Prop := ∀ sz : Nat, Met l y ws rm (mPre D cI a av M S sz) (va_Qi (fun (r : Int32) (u : Nat → Int32) => r = rS.1 ∧ u = rS.2) (fun u t => va_P D vwCl (mW cI a M u) t.heap ∧ va_K D vwCl [(cI, .int)] t ∧ va_D (va_A (mW cI a M S) sz) (mW cI a M u)) (va_A (mW cI a M S) sz)) 0 0 (va_A (mW cI a M S) sz)
theorem mM_ofP {l : Launch} {D : va_G} {cI : ClassId} {a : Nat → Nat} {y : MethodName} {ws : List Cond} {rm : Room} {av : List Value} {M : mS} {r : Int32} (h : ∀ S, ∃ S2, mPc l D cI a y ws rm av M S (r, S2)) : mM l D cI a y ws rm av M (r, M) := by
  intro sz S p e ha hc hk s m args below hf happ hP hT
  obtain ⟨S2, hS⟩ := h S
  obtain ⟨k, o, h1, h2, h3, h4, h5⟩ := hS sz p e ha hc hk s m args below hf happ hP hT
  obtain ⟨⟨r1, u, e1, e2, e3⟩, hF⟩ := h4
  exact ⟨k, o, h1, h2, h3, ⟨⟨r1, u, e1, e2.1, e3⟩, hF⟩, h5⟩
/-- contract of a static method without a world that answers an int -/
def sM (l : Launch) (y : MethodName) (ws : List Cond) (rm : Room) (av : List Value) (r : Int32) : Prop := ∀ sz : Nat, Met l y ws rm (va_Pc av (fun U => U.heap.size = sz)) (va_Qi (fun (r' : Int32) (_ : Unit) => r' = r) (fun _ _ => True) (va_A [] sz)) 0 0 (va_A [] sz)
section mrows
variable {p : Program} {l : Launch} {e : Env} {R : Room} {s : State} {m : MethodId} {args : Array Value} {below : List Frame} {meth : Method} {c : Code} {H H0 : Heap} {locs : List Loc} {cells slots : Nat} {Q : State → Prop} {cc : ByteArray} {nL : Nat} {Ts : List Cond} {D : va_G} {cI : ClassId} {a : Nat → Nat} {A : Nat → Prop} {M : mS} {pc : Nat} {ls : Array Slot} {rest : List Value}
theorem mr_get (C : mC cc nL Ts D cI p s m c args) (G : mG D cI a A H0 H locs M) (hin : ∀ w ∈ wsX90, w ∈ Ts) (k : Nat) (hk : k < 28) (hT : (TX9 k).1 = "WheatCountsModel") {index : Nat} {v : Value} (hlink : (Cond.fieldLink RX9 index "WheatCountsModel" (TX9 k).2.1 (TX9 k).2.2.1) ∈ Ts) (hv : ∀ S, (mF a M S)[k]? = some v) (hdg : decode cc pc = .ok (.getfield index, 3)) (kk : W p l e R s m args below meth c H locs cells slots Q (F0 m (pc + 3) ls (v :: rest))) : W p l e R s m args below meth c H locs cells slots Q (F0 m pc ls (.ref (a 0) :: rest)) := by
  obtain ⟨S, hP, hD, hS⟩ := G
  exact va_get (D := D) (ci := 8) (v := v) (C := RX9) (T := TX9) (N := 28) (ws := mW cI a M S) (fs := mF a M S) C.1 C.2.1 C.2.2.2.2.1 hin C.2.2.2.1 C.2.2.2.2.2 hP 0 rfl rfl k hk (C.2.2.2.2.1 _ hlink) (fun x h => by rw [hT] at h; exact h) (hv S) hdg kk
theorem mr_put (C : mC cc nL Ts D cI p s m c args) (G : mG D cI a A H0 H locs M) (hin : ∀ w ∈ wsX90, w ∈ Ts) (k : Nat) (hk : k < 28) (hT : (TX9 k).1 = "WheatCountsModel") (hfin : (TX9 k).2.2.2 = false) {index : Nat} {x : Int32} {ty : FieldType} (hlink : (Cond.fieldLink RX9 index "WheatCountsModel" (TX9 k).2.1 (TX9 k).2.2.1) ∈ Ts) (hd : parseFieldDescriptor (TX9 k).2.2.1 = some ty) (hn : narrow ty (.int x) = .int x) (hfit : fits ty (.int x) = true) (hw : ∀ S, (mW cI a M S).set 0 (a 0, .inr (8, (mF a M S).set k (.int x))) = mW cI a (mU M 0 k x) S) (hdg : decode cc pc = .ok (.putfield index, 3)) (kk : ∀ (H1 : Heap) (locs1 : List Loc), mG D cI a A H0 H1 locs1 (mU M 0 k x) → W p l e R s m args below meth c H1 locs1 cells slots Q (F0 m (pc + 3) ls rest)) : W p l e R s m args below meth c H locs cells slots Q (F0 m pc ls (.int x :: .ref (a 0) :: rest)) := by
  obtain ⟨S, hP, hD, hS⟩ := G
  exact va_put (D := D) (ci := 8) (v := .int x) (ty := ty) (C := RX9) (T := TX9) (N := 28) (ws := mW cI a M S) (fs := mF a M S) C.1 C.2.1 C.2.2.2.2.1 hin tyX9 tyX9_ok nmX9 C.2.2.2.1 C.2.2.2.2.2 hP hD hS 0 rfl rfl k hk (C.2.2.2.2.1 _ hlink) (fun x h => by rw [hT] at h; exact h) hfin hd hn hfit hk hdg (fun H1 locs1 hP hD hS => kk H1 locs1 ⟨S, hw S ▸ hP, hw S ▸ hD, hS⟩)
theorem mr_ald (C : mC cc nL Ts D cI p s m c args) (G : mG D cI a A H0 H locs M) (j : Nat) {n : Nat} (ha : ∀ S, (mW cI a M S)[j]? = some (a j, .inl (cI, n, .inl (M j)))) {i : Int32} (e0 : Nat) (hi : i = nI e0) (he : e0 < n) (hn : n < 2 ^ 31) (hdg : decode cc pc = .ok (.iaload, 1)) (kk : W p l e R s m args below meth c H locs cells slots Q (F0 m (pc + 1) ls (.int (M j e0) :: rest))) : W p l e R s m args below meth c H locs cells slots Q (F0 m pc ls (.int i :: .ref (a j) :: rest)) := by
  obtain ⟨S, hP, hD, hS⟩ := G
  subst hi
  refine va_iald C.1 C.2.1 C.2.2.2.2.2 hP j 0 (ha S) rfl (vp_in_nI he hn) hdg ?_
  rw [nI_clamp (Nat.lt_trans he hn)]
  exact kk
theorem mr_ast (C : mC cc nL Ts D cI p s m c args) (G : mG D cI a A H0 H locs M) (j : Nat) {n : Nat} (ha : ∀ S, (mW cI a M S)[j]? = some (a j, .inl (cI, n, .inl (M j)))) {i x : Int32} (e0 : Nat) (hi : i = nI e0) (he : e0 < n) (hn : n < 2 ^ 31) (hw : ∀ S, (mW cI a M S).set j (a j, .inl (cI, n, .inl (upd (M j) e0 x))) = mW cI a (mU M j e0 x) S) (hdg : decode cc pc = .ok (.iastore, 1)) (kk : ∀ (H1 : Heap) (locs1 : List Loc), mG D cI a A H0 H1 locs1 (mU M j e0 x) → W p l e R s m args below meth c H1 locs1 cells slots Q (F0 m (pc + 1) ls rest)) : W p l e R s m args below meth c H locs cells slots Q (F0 m pc ls (.int x :: .int i :: .ref (a j) :: rest)) := by
  obtain ⟨S, hP, hD, hS⟩ := G
  subst hi
  refine va_iast C.1 C.2.1 C.2.2.2.2.2 hP hD hS j 0 (ha S) rfl (vp_in_nI he hn) hdg (fun H1 locs1 hP hD hS => ?_)
  rw [nI_clamp (Nat.lt_trans he hn), hw S] at hP hD
  exact kk H1 locs1 ⟨S, hP, hD, hS⟩
theorem mr_blind (av : List Value) (M : mS) (S : Nat → Int32) (sz : Nat) : FrameBlind (mPre D cI a av M S sz) := fun b U g mk q => by
  obtain ⟨q0, q1, qP, qK, qD⟩ := q
  exact ⟨q0, q1, qP, va_K.moved (u := U) (U := U.calling g mk b) (Vm.Alike.refl U.vm) qK, qD⟩
theorem mr_free {S : Nat → Int32} (G : mGs D cI a A H0 H locs M S) (hA : ∀ q, H0.size ≤ q → A q) : ∀ q, va_A (mW cI a M S) H.size q → A q := fun q h => h.elim (fun ⟨k, e, hk⟩ => G.2.1.2 k _ hk) (fun h => hA q (Nat.le_trans G.2.2.1 h))
theorem mr_join {S S2 : Nat → Int32} (G : mGs D cI a A H0 H locs M S) (hA : ∀ q, H0.size ≤ q → A q) {M2 : mS} {H1 : Heap} {locs1 : List Loc} (hP : va_P D vwCl (mW cI a M2 S2) H1) (hD : va_D (va_A (mW cI a M S) H.size) (mW cI a M2 S2)) (hS : va_S A H0 H1 locs1) : mGs D cI a A H0 H1 locs1 M2 S2 := ⟨hP, hD.weaken (fun k q _ h => mr_free G hA _ h), hS⟩
theorem mr_calli (C : mC cc nL Ts D cI p s m c args) (hA : ∀ q, H0.size ≤ q → A q) (G : mG D cI a A H0 H locs M) {y : MethodName} {ws : List Cond} {rm : Room} {av : List Value} {r0 : Int32} {M2 : mS} (hM : mM l D cI a y ws rm av M (r0, M2)) {index n maxL : Nat} {bytes : ByteArray} {ret : Option FieldType} (cw : CallW R s args RX9 RX9 index y bytes maxL ret ws rm 0 0 n) (hn : av.length = n) (hl : ls.size = nL) {st : List Value} (hst : st = av.reverse ++ .ref (a 0) :: rest) (hW : (rest.map fun v => v.category).sum ≤ 8) (hdg : decode cc pc = .ok (.invokevirtual index, 3)) (hf : cells ≤ R.cells ∧ slots ≤ R.slots) (kk : ∀ (H1 : Heap) (locs1 : List Loc), mG D cI a A H0 H1 locs1 M2 → W p l e R s m args below meth c H1 locs1 cells slots Q (F0 m (pc + 3) ls (.int r0 :: rest))) : W p l e R s m args below meth c H locs cells slots Q (F0 m pc ls st) := by
  obtain ⟨S, G⟩ := G
  refine va_calli (A0 := A) (A1 := va_A (mW cI a M S) H.size) (va_runV (As := av) (rest := rest) ⟨C.1, C.2.1, C.2.2.1, C.2.2.2.1, C.2.2.2.2.1⟩ (hM H.size S) cw ⟨mr_blind _ _ _ _, va_recv C.2.2.2.2.2 G.1 (ci := 8) (q0 := 0) rfl rfl, fun U hU hW => ⟨rfl, by rw [hU], by rw [hU]; exact G.1, va_K.moved hW.alike C.2.2.2.2.2, G.2.1.weaken (fun _ _ _ _ => trivial)⟩⟩ rfl hn hl hst (lv_room hW) hdg hf) G.2.2 (fun q _ h => mr_free G hA q h) (mr_free G hA) (fun r u t H1 locs1 ht hvm hw hB hz1 hk1 hS => ?_)
  obtain ⟨hP1, hK1, hD1⟩ := hB
  rw [ht] at hP1
  subst hw
  exact kk H1 locs1 ⟨u, mr_join G hA hP1 hD1 hS⟩
theorem mr_callv (C : mC cc nL Ts D cI p s m c args) (hA : ∀ q, H0.size ≤ q → A q) (G : mG D cI a A H0 H locs M) {y : MethodName} {ws : List Cond} {rm : Room} {av : List Value} {M2 : mS} (hM : mMv l D cI a y ws rm av M M2) {index n maxL : Nat} {bytes : ByteArray} {ret : Option FieldType} (cw : CallW R s args RX9 RX9 index y bytes maxL ret ws rm 0 0 n) (hn : av.length = n) (hl : ls.size = nL) {st : List Value} (hst : st = av.reverse ++ .ref (a 0) :: rest) (hW : (rest.map fun v => v.category).sum ≤ 8) (hdg : decode cc pc = .ok (.invokevirtual index, 3)) (hf : cells ≤ R.cells ∧ slots ≤ R.slots) (kk : ∀ (H1 : Heap) (locs1 : List Loc), mG D cI a A H0 H1 locs1 M2 → W p l e R s m args below meth c H1 locs1 cells slots Q (F0 m (pc + 3) ls rest)) : W p l e R s m args below meth c H locs cells slots Q (F0 m pc ls st) := by
  obtain ⟨S, G⟩ := G
  refine va_callv (A0 := A) (A1 := va_A (mW cI a M S) H.size) (va_runV (As := av) (rest := rest) ⟨C.1, C.2.1, C.2.2.1, C.2.2.2.1, C.2.2.2.2.1⟩ (hM H.size S) cw ⟨mr_blind _ _ _ _, va_recv C.2.2.2.2.2 G.1 (ci := 8) (q0 := 0) rfl rfl, fun U hU hW => ⟨rfl, by rw [hU], by rw [hU]; exact G.1, va_K.moved hW.alike C.2.2.2.2.2, G.2.1.weaken (fun _ _ _ _ => trivial)⟩⟩ rfl hn hl hst (lv_room hW) hdg hf) G.2.2 (fun q _ h => mr_free G hA q h) (mr_free G hA) (fun u t H1 locs1 ht hvm hw hB hz1 hk1 hS => ?_)
  obtain ⟨hP1, hK1, hD1⟩ := hB
  rw [ht] at hP1
  exact kk H1 locs1 ⟨u, mr_join G hA hP1 hD1 hS⟩
theorem mr_calls (C : mC cc nL Ts D cI p s m c args) (hA : ∀ q, H0.size ≤ q → A q) (G : mG D cI a A H0 H locs M) {y : MethodName} {ws : List Cond} {rm : Room} {av : List Value} {r : Int32} (hM : sM l y ws rm av r) {index n maxL : Nat} {bytes : ByteArray} {ret : Option FieldType} (cw : CallB R s args RX9 index y bytes maxL ret ws rm 0 0 n ∧ (Cond.static y).before args s = true) (hn : av.length = n) (hl : ls.size = nL) {st : List Value} (hst : st = av.reverse ++ rest) (hW : (rest.map fun v => v.category).sum ≤ 8) (hdg : decode cc pc = .ok (.invokestatic index, 3)) (hf : cells ≤ R.cells ∧ slots ≤ R.slots) (kk : ∀ (H1 : Heap) (locs1 : List Loc), mG D cI a A H0 H1 locs1 M → W p l e R s m args below meth c H1 locs1 cells slots Q (F0 m (pc + 3) ls (.int r :: rest))) : W p l e R s m args below meth c H locs cells slots Q (F0 m pc ls st) := by
  obtain ⟨S, G⟩ := G
  have hfr : ∀ q, va_A [] H.size q → A q := fun q h => h.elim (fun ⟨k, e, hk⟩ => by simp at hk) (fun h => hA q (Nat.le_trans G.2.2.1 h))
  refine va_calli (A0 := A) (A1 := va_A [] H.size) (va_runS (As := av) (rest := rest) ⟨C.1, C.2.1, C.2.2.1, C.2.2.2.1, C.2.2.2.2.1⟩ (hM H.size) cw ⟨fun b U g mk q => q, fun U hU hW => ⟨rfl, by show U.heap.size = _; rw [hU]⟩⟩ rfl hn hl hst (lv_room hW) hdg hf) G.2.2 (fun q _ h => hfr q h) hfr (fun r u t H1 locs1 ht hvm hw hB hz1 hk1 hS => ?_)
  subst hw
  refine kk H1 locs1 ⟨S, va_P.kept G.1 (fun k q hq => hk1 q.1 (va_at.lt (G.1 k q hq)) ?_), G.2.1, hS⟩
  intro h
  rcases h with ⟨k, e, hk⟩ | h
  · simp at hk
  · exact absurd (va_at.lt (G.1 k q hq)) (Nat.not_lt.mpr h)
end mrows
/-! ENTRIES: a contract out of the walk of the body from its first instruction, with its end as a hypothesis -/
theorem mM_of {l : Launch} {D : va_G} {cI : ClassId} {a : Nat → Nat} {y : MethodName} {ws ws' : List Cond} {rm : Room} {av : List Value} {M : mS} {rM : Int32 × mS} {cc : ByteArray} {nL : Nat} (hy : plainName y.cls = true) (hw : ws = Cond.code y cc nL (some .int) :: ws') (hcls : y.cls = RX9) (hL : (lg_sl (.ref (a 0) :: av)).length ≤ nL)
    (body : ∀ (p : Program) (e : Env) (s : State) (m : MethodId) (args : Array Value) (below : List Frame) (meth : Method) (c : Code) (A : Nat → Prop) (H0 : Heap) (Q : State → Prop), mC cc nL ws D cI p s m c args → (∀ q, H0.size ≤ q → A q) → (∀ (pc : Nat) (H : Heap) (locs : List Loc) (ls : Array Slot) (r : Int32) (M2 : mS), rM = (r, M2) → mG D cI a A H0 H locs M2 → decode cc pc = .ok (.ireturn, 1) → W p l e rm s m args below meth c H locs 0 0 Q (F0 m pc ls [.int r])) → ∀ (H : Heap) (locs : List Loc) (ls : Array Slot), lv_has ls nL (lv_args 0 (.ref (a 0) :: av)) → mG D cI a A H0 H locs M → W p l e rm s m args below meth c H locs 0 0 Q (F0 m 0 ls [])) : mM l D cI a y ws rm av M rM := by
  intro sz S
  refine Met.ofW (cc := cc) (maxL := nL) (ret := some .int) hy hw ?_
  intro p e s m args below meth c s₁ B hml hv
  obtain ⟨rfl, hsz, hP, hK, hD0⟩ := hv
  subst hsz
  have hl := lv_entry (.ref (a 0) :: av) (n := nL) hL
  rw [lg_entry_eq]
  exact body p e s m _ below meth c (va_A (mW cI a M S) s.heap.size) s.heap _ ⟨B.exec, B.bytes, hml, hcls ▸ findClass_of_methodNamed B.named, atoms_spec (ws := ws) B.pre, hK⟩ (fun q h => Or.inr h) (fun pc H locs ls r M2 hr G hdg => W.iret B.exec B.bytes B.returns (fun t ht hW => ⟨⟨r, G.choose, rfl, by rw [hr], by rw [ht, hr]; exact G.choose_spec.1, va_K.moved hW.alike hK, by rw [hr]; exact G.choose_spec.2.1⟩, G.choose_spec.2.2.F ht⟩) G.choose_spec.2.2.2.2 hdg B.notSynchronized) _ [] _ hl ⟨S, hP, hD0.self, va_S.rf⟩
theorem mM_ofZ {l : Launch} {D : va_G} {cI : ClassId} {a : Nat → Nat} {y : MethodName} {ws ws' : List Cond} {rm : Room} {av : List Value} {M : mS} {rM : Int32 × mS} {cc : ByteArray} {nL : Nat} (hy : plainName y.cls = true) (hw : ws = Cond.code y cc nL (some .boolean) :: ws') (hcls : y.cls = RX9) (hL : (lg_sl (.ref (a 0) :: av)).length ≤ nL)
    (body : ∀ (p : Program) (e : Env) (s : State) (m : MethodId) (args : Array Value) (below : List Frame) (meth : Method) (c : Code) (A : Nat → Prop) (H0 : Heap) (Q : State → Prop), mC cc nL ws D cI p s m c args → (∀ q, H0.size ≤ q → A q) → (∀ (pc : Nat) (H : Heap) (locs : List Loc) (ls : Array Slot) (r : Int32) (M2 : mS), rM = (r, M2) → mG D cI a A H0 H locs M2 → r = 0 ∨ r = 1 → decode cc pc = .ok (.ireturn, 1) → W p l e rm s m args below meth c H locs 0 0 Q (F0 m pc ls [.int r])) → ∀ (H : Heap) (locs : List Loc) (ls : Array Slot), lv_has ls nL (lv_args 0 (.ref (a 0) :: av)) → mG D cI a A H0 H locs M → W p l e rm s m args below meth c H locs 0 0 Q (F0 m 0 ls [])) : mM l D cI a y ws rm av M rM := by
  intro sz S
  refine Met.ofW (cc := cc) (maxL := nL) (ret := some .boolean) hy hw ?_
  intro p e s m args below meth c s₁ B hml hv
  obtain ⟨rfl, hsz, hP, hK, hD0⟩ := hv
  subst hsz
  have hl := lv_entry (.ref (a 0) :: av) (n := nL) hL
  rw [lg_entry_eq]
  exact body p e s m _ below meth c (va_A (mW cI a M S) s.heap.size) s.heap _ ⟨B.exec, B.bytes, hml, hcls ▸ findClass_of_methodNamed B.named, atoms_spec (ws := ws) B.pre, hK⟩ (fun q h => Or.inr h) (fun pc H locs ls r M2 hr G hz hdg => W.zret B.exec B.bytes B.returns (by rcases hz with rfl | rfl <;> rfl) (fun t ht hW => ⟨⟨r, G.choose, rfl, by rw [hr], by rw [ht, hr]; exact G.choose_spec.1, va_K.moved hW.alike hK, by rw [hr]; exact G.choose_spec.2.1⟩, G.choose_spec.2.2.F ht⟩) G.choose_spec.2.2.2.2 hdg B.notSynchronized) _ [] _ hl ⟨S, hP, hD0.self, va_S.rf⟩
theorem mMv_of {l : Launch} {D : va_G} {cI : ClassId} {a : Nat → Nat} {y : MethodName} {ws ws' : List Cond} {rm : Room} {av : List Value} {M MR : mS} {cc : ByteArray} {nL : Nat} (hy : plainName y.cls = true) (hw : ws = Cond.code y cc nL none :: ws') (hcls : y.cls = RX9) (hL : (lg_sl (.ref (a 0) :: av)).length ≤ nL)
    (body : ∀ (p : Program) (e : Env) (s : State) (m : MethodId) (args : Array Value) (below : List Frame) (meth : Method) (c : Code) (A : Nat → Prop) (H0 : Heap) (Q : State → Prop), mC cc nL ws D cI p s m c args → (∀ q, H0.size ≤ q → A q) → (∀ (pc : Nat) (H : Heap) (locs : List Loc) (ls : Array Slot) (M2 : mS), MR = M2 → mG D cI a A H0 H locs M2 → decode cc pc = .ok (.return_, 1) → W p l e rm s m args below meth c H locs 0 0 Q (F0 m pc ls [])) → ∀ (H : Heap) (locs : List Loc) (ls : Array Slot), lv_has ls nL (lv_args 0 (.ref (a 0) :: av)) → mG D cI a A H0 H locs M → W p l e rm s m args below meth c H locs 0 0 Q (F0 m 0 ls [])) : mMv l D cI a y ws rm av M MR := by
  intro sz S
  refine Met.ofW (cc := cc) (maxL := nL) (ret := none) hy hw ?_
  intro p e s m args below meth c s₁ B hml hv
  obtain ⟨rfl, hsz, hP, hK, hD0⟩ := hv
  subst hsz
  have hl := lv_entry (.ref (a 0) :: av) (n := nL) hL
  rw [lg_entry_eq]
  exact body p e s m _ below meth c (va_A (mW cI a M S) s.heap.size) s.heap _ ⟨B.exec, B.bytes, hml, hcls ▸ findClass_of_methodNamed B.named, atoms_spec (ws := ws) B.pre, hK⟩ (fun q h => Or.inr h) (fun pc H locs ls M2 hr G hdg => W.vret B.exec B.bytes B.returns (fun t ht hW => ⟨⟨G.choose, rfl, trivial, by rw [ht, hr]; exact G.choose_spec.1, va_K.moved hW.alike hK, by rw [hr]; exact G.choose_spec.2.1⟩, G.choose_spec.2.2.F ht⟩) G.choose_spec.2.2.2.2 hdg B.notSynchronized) _ [] _ hl ⟨S, hP, hD0.self, va_S.rf⟩
/-- what holds all along a static method without a world -/
def sC (cc : ByteArray) (nL : Nat) (own : String) (Ts : List Cond) (p : Program) (s : State) (m : MethodId) (c : Code) (args : Array Value) : Prop := p.tables.exec = Jvm.exec ∧ c.code = cc ∧ c.maxLocals = nL ∧ s.vm.findClass own = some m.cls ∧ (∀ w ∈ Ts, w.before args s = true)
theorem sM_of {l : Launch} {own : String} {y : MethodName} {ws ws' : List Cond} {rm : Room} {av : List Value} {r0 : Int32} {cc : ByteArray} {nL : Nat} {ret : Option FieldType} (hret : ret = some .int ∨ ret = some .boolean ∧ (r0 = 0 ∨ r0 = 1)) (hy : plainName y.cls = true) (hw : ws = Cond.code y cc nL ret :: ws') (hcls : y.cls = own) (hL : (lg_sl av).length ≤ nL)
    (body : ∀ (p : Program) (e : Env) (s : State) (m : MethodId) (args : Array Value) (below : List Frame) (meth : Method) (c : Code) (A : Nat → Prop) (H0 : Heap) (Q : State → Prop), sC cc nL own ws p s m c args → (∀ q, H0.size ≤ q → A q) → (∀ (pc : Nat) (H : Heap) (locs : List Loc) (ls : Array Slot) (r : Int32), r0 = r → va_S A H0 H locs → decode cc pc = .ok (.ireturn, 1) → W p l e rm s m args below meth c H locs 0 0 Q (F0 m pc ls [.int r])) → ∀ (H : Heap) (locs : List Loc) (ls : Array Slot), lv_has ls nL (lv_args 0 av) → va_S A H0 H locs → W p l e rm s m args below meth c H locs 0 0 Q (F0 m 0 ls [])) : sM l y ws rm av r0 := by
  intro sz
  refine Met.ofW (cc := cc) (maxL := nL) (ret := ret) hy hw ?_
  intro p e s m args below meth c s₁ B hml hv
  obtain ⟨rfl, hsz⟩ := hv
  subst hsz
  have hl := lv_entry av (n := nL) hL
  rw [lg_entry_eq]
  refine body p e s m _ below meth c (va_A [] s.heap.size) s.heap _ ⟨B.exec, B.bytes, hml, hcls ▸ findClass_of_methodNamed B.named, atoms_spec (ws := ws) B.pre⟩ (fun q h => Or.inr h) (fun pc H locs ls r hr hS hdg => ?_) _ [] _ hl va_S.rf
  subst hr
  rcases hret with rfl | ⟨rfl, hz⟩
  · exact W.iret B.exec B.bytes B.returns (fun t ht hW => ⟨⟨_, (), rfl, rfl, trivial⟩, hS.F ht⟩) hS.2.2 hdg B.notSynchronized
  · exact W.zret B.exec B.bytes B.returns (by rcases hz with rfl | rfl <;> rfl) (fun t ht hW => ⟨⟨_, (), rfl, rfl, trivial⟩, hS.F ht⟩) hS.2.2 hdg B.notSynchronized
/-! sharing: a value, then what is done with it -/
theorem sr_calls {p : Program} {l : Launch} {e : Env} {R : Room} {s : State} {m : MethodId} {args : Array Value} {below : List Frame} {meth : Method} {c : Code} {H H0 : Heap} {locs : List Loc} {cells slots : Nat} {Q : State → Prop} {cc : ByteArray} {nL : Nat} {own : String} {Ts : List Cond} {A : Nat → Prop} {pc : Nat} {ls : Array Slot} {rest : List Value} (C : sC cc nL own Ts p s m c args) (hA : ∀ q, H0.size ≤ q → A q) (G : va_S A H0 H locs) {y : MethodName} {ws : List Cond} {rm : Room} {av : List Value} {r : Int32} (hM : sM l y ws rm av r) {index n maxL : Nat} {bytes : ByteArray} {ret : Option FieldType} (cw : CallB R s args own index y bytes maxL ret ws rm 0 0 n ∧ (Cond.static y).before args s = true) (hn : av.length = n) (hl : ls.size = nL) {st : List Value} (hst : st = av.reverse ++ rest) (hW : (rest.map fun v => v.category).sum ≤ 8) (hdg : decode cc pc = .ok (.invokestatic index, 3)) (hf : cells ≤ R.cells ∧ slots ≤ R.slots) (kk : ∀ (H1 : Heap) (locs1 : List Loc), va_S A H0 H1 locs1 → W p l e R s m args below meth c H1 locs1 cells slots Q (F0 m (pc + 3) ls (.int r :: rest))) : W p l e R s m args below meth c H locs cells slots Q (F0 m pc ls st) := by
  have hfr : ∀ q, va_A [] H.size q → A q := fun q h => h.elim (fun ⟨k, e, hk⟩ => by simp at hk) (fun h => hA q (Nat.le_trans G.1 h))
  refine va_calli (A0 := A) (A1 := va_A [] H.size) (va_runS (As := av) (rest := rest) ⟨C.1, C.2.1, C.2.2.1, C.2.2.2.1, C.2.2.2.2⟩ (hM H.size) cw ⟨fun b U g mk q => q, fun U hU hW => ⟨rfl, by show U.heap.size = _; rw [hU]⟩⟩ rfl hn hl hst (lv_room hW) hdg hf) G (fun q _ h => hfr q h) hfr (fun r u t H1 locs1 ht hvm hw hB hz1 hk1 hS => ?_)
  subst hw
  exact kk H1 locs1 hS
/-! the same rows with the reader's numbers told -/
section prows
variable {p : Program} {l : Launch} {e : Env} {R : Room} {s : State} {m : MethodId} {args : Array Value} {below : List Frame} {meth : Method} {c : Code} {H H0 : Heap} {locs : List Loc} {cells slots : Nat} {Q : State → Prop} {cc : ByteArray} {nL : Nat} {Ts : List Cond} {D : va_G} {cI : ClassId} {a : Nat → Nat} {A : Nat → Prop} {M : mS} {S : sS} {pc : Nat} {ls : Array Slot} {rest : List Value}
theorem ps_get (C : mC cc nL Ts D cI p s m c args) (G : mGs D cI a A H0 H locs M S) (hin : ∀ w ∈ wsX90, w ∈ Ts) (k : Nat) (hk : k < 28) (hT : (TX9 k).1 = "WheatCountsModel") {index : Nat} {v : Value} (hlink : (Cond.fieldLink RX9 index "WheatCountsModel" (TX9 k).2.1 (TX9 k).2.2.1) ∈ Ts) (hv : (mF a M S)[k]? = some v) (hdg : decode cc pc = .ok (.getfield index, 3)) (kk : W p l e R s m args below meth c H locs cells slots Q (F0 m (pc + 3) ls (v :: rest))) : W p l e R s m args below meth c H locs cells slots Q (F0 m pc ls (.ref (a 0) :: rest)) :=
  va_get (D := D) (ci := 8) (v := v) (C := RX9) (T := TX9) (N := 28) (ws := mW cI a M S) (fs := mF a M S) C.1 C.2.1 C.2.2.2.2.1 hin C.2.2.2.1 C.2.2.2.2.2 G.1 0 rfl rfl k hk (C.2.2.2.2.1 _ hlink) (fun x h => by rw [hT] at h; exact h) hv hdg kk
theorem ps_put (C : mC cc nL Ts D cI p s m c args) (G : mGs D cI a A H0 H locs M S) (hin : ∀ w ∈ wsX90, w ∈ Ts) (k : Nat) (hk : k < 28) (hT : (TX9 k).1 = "WheatCountsModel") (hfin : (TX9 k).2.2.2 = false) {index : Nat} {x : Int32} {ty : FieldType} (hlink : (Cond.fieldLink RX9 index "WheatCountsModel" (TX9 k).2.1 (TX9 k).2.2.1) ∈ Ts) (hd : parseFieldDescriptor (TX9 k).2.2.1 = some ty) (hn : narrow ty (.int x) = .int x) (hfit : fits ty (.int x) = true) (hw : (mW cI a M S).set 0 (a 0, .inr (8, (mF a M S).set k (.int x))) = mW cI a M (upd S k x)) (hdg : decode cc pc = .ok (.putfield index, 3)) (kk : ∀ (H1 : Heap) (locs1 : List Loc), mGs D cI a A H0 H1 locs1 M (upd S k x) → W p l e R s m args below meth c H1 locs1 cells slots Q (F0 m (pc + 3) ls rest)) : W p l e R s m args below meth c H locs cells slots Q (F0 m pc ls (.int x :: .ref (a 0) :: rest)) :=
  va_put (D := D) (ci := 8) (v := .int x) (ty := ty) (C := RX9) (T := TX9) (N := 28) (ws := mW cI a M S) (fs := mF a M S) C.1 C.2.1 C.2.2.2.2.1 hin tyX9 tyX9_ok nmX9 C.2.2.2.1 C.2.2.2.2.2 G.1 G.2.1 G.2.2 0 rfl rfl k hk (C.2.2.2.2.1 _ hlink) (fun x h => by rw [hT] at h; exact h) hfin hd hn hfit hk hdg (fun H1 locs1 hP hD hS => kk H1 locs1 ⟨hw ▸ hP, hw ▸ hD, hS⟩)
theorem ps_ald (C : mC cc nL Ts D cI p s m c args) (G : mGs D cI a A H0 H locs M S) (j : Nat) {n : Nat} (ha : (mW cI a M S)[j]? = some (a j, .inl (cI, n, .inl (M j)))) {i : Int32} (e0 : Nat) (hi : i = nI e0) (he : e0 < n) (hn : n < 2 ^ 31) (hdg : decode cc pc = .ok (.iaload, 1)) (kk : W p l e R s m args below meth c H locs cells slots Q (F0 m (pc + 1) ls (.int (M j e0) :: rest))) : W p l e R s m args below meth c H locs cells slots Q (F0 m pc ls (.int i :: .ref (a j) :: rest)) := by
  subst hi
  refine va_iald C.1 C.2.1 C.2.2.2.2.2 G.1 j 0 ha rfl (vp_in_nI he hn) hdg ?_
  rw [nI_clamp (Nat.lt_trans he hn)]
  exact kk
theorem ps_calli (C : mC cc nL Ts D cI p s m c args) (hA : ∀ q, H0.size ≤ q → A q) (G : mGs D cI a A H0 H locs M S) {y : MethodName} {ws : List Cond} {rm : Room} {av : List Value} {r0 : Int32} {S2 : sS} (hM : mPc l D cI a y ws rm av M S (r0, S2)) {index n maxL : Nat} {bytes : ByteArray} {ret : Option FieldType} (cw : CallW R s args RX9 RX9 index y bytes maxL ret ws rm 0 0 n) (hn : av.length = n) (hl : ls.size = nL) {st : List Value} (hst : st = av.reverse ++ .ref (a 0) :: rest) (hW : (rest.map fun v => v.category).sum ≤ 8) (hdg : decode cc pc = .ok (.invokevirtual index, 3)) (hf : cells ≤ R.cells ∧ slots ≤ R.slots) (kk : ∀ (H1 : Heap) (locs1 : List Loc), mGs D cI a A H0 H1 locs1 M S2 → W p l e R s m args below meth c H1 locs1 cells slots Q (F0 m (pc + 3) ls (.int r0 :: rest))) : W p l e R s m args below meth c H locs cells slots Q (F0 m pc ls st) := by
  refine va_calli (A0 := A) (A1 := va_A (mW cI a M S) H.size) (va_runV (As := av) (rest := rest) ⟨C.1, C.2.1, C.2.2.1, C.2.2.2.1, C.2.2.2.2.1⟩ (hM H.size) cw ⟨mr_blind _ _ _ _, va_recv C.2.2.2.2.2 G.1 (ci := 8) (q0 := 0) rfl rfl, fun U hU hW => ⟨rfl, by rw [hU], by rw [hU]; exact G.1, va_K.moved hW.alike C.2.2.2.2.2, G.2.1.weaken (fun _ _ _ _ => trivial)⟩⟩ rfl hn hl hst (lv_room hW) hdg hf) G.2.2 (fun q _ h => mr_free G hA q h) (mr_free G hA) (fun r u t H1 locs1 ht hvm hw hB hz1 hk1 hS => ?_)
  obtain ⟨hP1, hK1, hD1⟩ := hB
  rw [ht] at hP1
  obtain ⟨e1, e2⟩ := hw
  subst e1; subst e2
  exact kk H1 locs1 (mr_join G hA hP1 hD1 hS)
theorem ps_calls (C : mC cc nL Ts D cI p s m c args) (hA : ∀ q, H0.size ≤ q → A q) (G : mGs D cI a A H0 H locs M S) {y : MethodName} {ws : List Cond} {rm : Room} {av : List Value} {r : Int32} (hM : sM l y ws rm av r) {index n maxL : Nat} {bytes : ByteArray} {ret : Option FieldType} (cw : CallB R s args RX9 index y bytes maxL ret ws rm 0 0 n ∧ (Cond.static y).before args s = true) (hn : av.length = n) (hl : ls.size = nL) {st : List Value} (hst : st = av.reverse ++ rest) (hW : (rest.map fun v => v.category).sum ≤ 8) (hdg : decode cc pc = .ok (.invokestatic index, 3)) (hf : cells ≤ R.cells ∧ slots ≤ R.slots) (kk : ∀ (H1 : Heap) (locs1 : List Loc), mGs D cI a A H0 H1 locs1 M S → W p l e R s m args below meth c H1 locs1 cells slots Q (F0 m (pc + 3) ls (.int r :: rest))) : W p l e R s m args below meth c H locs cells slots Q (F0 m pc ls st) := by
  have hfr : ∀ q, va_A [] H.size q → A q := fun q h => h.elim (fun ⟨k, e, hk⟩ => by simp at hk) (fun h => hA q (Nat.le_trans G.2.2.1 h))
  refine va_calli (A0 := A) (A1 := va_A [] H.size) (va_runS (As := av) (rest := rest) ⟨C.1, C.2.1, C.2.2.1, C.2.2.2.1, C.2.2.2.2.1⟩ (hM H.size) cw ⟨fun b U g mk q => q, fun U hU hW => ⟨rfl, by show U.heap.size = _; rw [hU]⟩⟩ rfl hn hl hst (lv_room hW) hdg hf) G.2.2 (fun q _ h => hfr q h) hfr (fun r u t H1 locs1 ht hvm hw hB hz1 hk1 hS => ?_)
  subst hw
  refine kk H1 locs1 ⟨va_P.kept G.1 (fun k q hq => hk1 q.1 (va_at.lt (G.1 k q hq)) ?_), G.2.1, hS⟩
  intro h
  rcases h with ⟨k, e, hk⟩ | h
  · simp at hk
  · exact absurd (va_at.lt (G.1 k q hq)) (Nat.not_lt.mpr h)
end prows
theorem mPc_of {l : Launch} {D : va_G} {cI : ClassId} {a : Nat → Nat} {y : MethodName} {ws ws' : List Cond} {rm : Room} {av : List Value} {M : mS} {S : sS} {rM : Int32 × sS} {cc : ByteArray} {nL : Nat} (hy : plainName y.cls = true) (hw : ws = Cond.code y cc nL (some .int) :: ws') (hcls : y.cls = RX9) (hL : (lg_sl (.ref (a 0) :: av)).length ≤ nL)
    (body : ∀ (p : Program) (e : Env) (s : State) (m : MethodId) (args : Array Value) (below : List Frame) (meth : Method) (c : Code) (A : Nat → Prop) (H0 : Heap) (Q : State → Prop), mC cc nL ws D cI p s m c args → (∀ q, H0.size ≤ q → A q) → (∀ (pc : Nat) (H : Heap) (locs : List Loc) (ls : Array Slot) (r : Int32) (S2 : sS), rM = (r, S2) → mGs D cI a A H0 H locs M S2 → decode cc pc = .ok (.ireturn, 1) → W p l e rm s m args below meth c H locs 0 0 Q (F0 m pc ls [.int r])) → ∀ (H : Heap) (locs : List Loc) (ls : Array Slot), lv_has ls nL (lv_args 0 (.ref (a 0) :: av)) → mGs D cI a A H0 H locs M S → W p l e rm s m args below meth c H locs 0 0 Q (F0 m 0 ls [])) : mPc l D cI a y ws rm av M S rM := by
  intro sz
  refine Met.ofW (cc := cc) (maxL := nL) (ret := some .int) hy hw ?_
  intro p e s m args below meth c s₁ B hml hv
  obtain ⟨rfl, hsz, hP, hK, hD0⟩ := hv
  subst hsz
  have hl := lv_entry (.ref (a 0) :: av) (n := nL) hL
  rw [lg_entry_eq]
  exact body p e s m _ below meth c (va_A (mW cI a M S) s.heap.size) s.heap _ ⟨B.exec, B.bytes, hml, hcls ▸ findClass_of_methodNamed B.named, atoms_spec (ws := ws) B.pre, hK⟩ (fun q h => Or.inr h) (fun pc H locs ls r M2 hr G hdg => W.iret B.exec B.bytes B.returns (fun t ht hW => ⟨⟨r, M2, rfl, by rw [hr]; exact ⟨rfl, rfl⟩, by rw [ht]; exact G.1, va_K.moved hW.alike hK, G.2.1⟩, G.2.2.F ht⟩) G.2.2.2.2 hdg B.notSynchronized) _ [] _ hl ⟨hP, hD0.self, va_S.rf⟩
theorem cons_int {x y : Int32} {l1 l2 : List Value} (h : x = y) (g : l1 = l2) : (Value.int x :: l1) = (Value.int y :: l2) := by rw [h, g]

