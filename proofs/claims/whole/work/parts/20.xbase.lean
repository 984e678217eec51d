/-! THE CLASS'S WORLD: sixty-two cells by their places (0: the object; 1, 13, 25: the three estates, each with its seven rows and its two Rows behind it; 37: the reader; 42: Leading; 47: Voices; 50: the row of the Sheets, 51 ..; 59 .. 61), then the texts, three cells each. X p k: field k of the object at place p, or number k of the row at place p. A text's field holds -1 (null) or the text's number. -/
def rT (ta : Nat → Nat) (v : Int32) : Value := if v = -1 then .null else .ref (ta v.toNatClampNeg)
def eF (ad ta : Nat → Nat) (p : Nat) (x : Nat → Int32) : List Value := [.int (x 0), .ref (ad (p + 1)), .ref (ad (p + 2)), .ref (ad (p + 3)), .int (x 4), .int (x 5), .int (x 6), .int (x 7), .int (x 8), .int (x 9), .ref (ad (p + 4)), .ref (ad (p + 5)), .ref (ad (p + 6)), .ref (ad (p + 7)), rT ta (x 14), rT ta (x 15), .ref (ad (p + 8)), .ref (ad (p + 10)), .int (x 18)]
def lF (ad : Nat → Nat) (p : Nat) (x : Nat → Int32) : List Value := [.ref (ad (p + 1)), .int (x 1), .ref (ad (p + 2)), .ref (ad (p + 3)), .ref (ad (p + 4)), rT ad (x 5), .int (x 6), .int (x 7)]
def dF (ad sa : Nat → Nat) (p : Nat) (x : Nat → Int32) : List Value := [.ref (ad (p + 1)), .ref (ad (p + 3)), .ref (sa (x 2).toNatClampNeg), .int (x 3), .int (x 4), .int (x 5), .int (x 6)]
def rwF (ad : Nat → Nat) (p : Nat) (x : Nat → Int32) : List Value := [.ref (ad (p + 1)), .int (x 1)]
def shF (ad : Nat → Nat) (p : Nat) (x : Nat → Int32) : List Value := [.ref (ad (p + 1)), .int (x 1), .int (x 2)]
def voF (ad : Nat → Nat) (p : Nat) (x : Nat → Int32) : List Value := [.ref (ad (p + 1)), .int (x 1), .int (x 2), .int (x 3)]
def wcF (ad : Nat → Nat) (x : Nat → Int32) : List Value := [.ref (ad 1), .ref (ad 13), .ref (ad 25), .int (x 3), .ref (ad 37), .ref (ad 42), .ref (ad 47), .ref (ad 50), .ref (ad 59), .ref (ad 60), .ref (ad 61)]
def xCell (ad sa ta : Nat → Nat) (cc : cT) (p : Nat) (x : Nat → Int32) : va_E :=
  match kd p with
  | 0 => .inr (0, eF ad ta p x)
  | 1 => .inr (1, lF ad p x)
  | 2 => .inr (2, dF ad sa p x)
  | 3 => .inr (3, rwF ad p x)
  | 4 => .inr (4, shF ad p x)
  | 6 => .inr (6, voF ad p x)
  | 7 => .inr (7, wcF ad x)
  | 90 => .inl (cc.2.1, 240, .inl x)
  | 91 => .inl (cc.2.2, 4, .inr (.inr (.inr (.inr (fun j => some (ad (51 + 2 * j)))))))
  | n => .inl (cc.1, n - 100, .inl x)
def cW (ad sa ta : Nat → Nat) (cc : cT) (X : xS) : va_W := (List.range 62).map (fun p => (ad p, xCell ad sa ta cc p (X p)))
def tW1 (cc : cT) (t : tT) (w : Nat → Nat → Int32) (i : Nat) : va_W := [(t.2.1 i, .inr (5, [.ref (t.2.2.1 i), .ref (t.2.2.2.1 i)])), (t.2.2.1 i, .inl (cc.1, t.2.2.2.2.1 i, .inl (t.2.2.2.2.2 i))), (t.2.2.2.1 i, .inl (cc.1, t.2.2.2.2.1 i, .inl (w i)))]
def tW (cc : cT) (t : tT) (w : Nat → Nat → Int32) : Nat → va_W
  | 0 => []
  | n + 1 => tW cc t w n ++ tW1 cc t w n
/-- the whole world of the class -/
def xW (ad sa : Nat → Nat) (cc : cT) (t : tT) (X : xS) (w : Nat → Nat → Int32) : va_W := cW ad sa t.2.1 cc X ++ tW cc t w t.1
theorem cW_len (ad sa ta : Nat → Nat) (cc : cT) (X : xS) : (cW ad sa ta cc X).length = 62 := by unfold cW; rw [List.length_map, List.length_range]
theorem cW_get (ad sa ta : Nat → Nat) (cc : cT) (X : xS) {p : Nat} (hp : p < 62) : (cW ad sa ta cc X)[p]? = some (ad p, xCell ad sa ta cc p (X p)) := by
  unfold cW
  rw [List.getElem?_map, List.getElem?_range hp]
  rfl
theorem cW_set (ad sa ta : Nat → Nat) (cc : cT) (X : xS) {p : Nat} (hp : p < 62) {e : va_E} {x : Nat → Int32} (he : xCell ad sa ta cc p x = e) : (cW ad sa ta cc X).set p (ad p, e) = cW ad sa ta cc (va_up X p x) := by
  apply List.ext_getElem?
  intro i
  by_cases h : i < 62
  · rw [cW_get ad sa ta cc _ h, List.getElem?_set]
    by_cases e2 : p = i
    · subst e2
      rw [if_pos rfl, if_pos (by rw [cW_len]; exact hp), va_up_self, he]
    · rw [if_neg e2, cW_get ad sa ta cc _ h, va_up_ne X x (show i ≠ p from fun h9 => e2 h9.symm)]
  · rw [List.getElem?_eq_none (by rw [List.length_set, cW_len]; omega), List.getElem?_eq_none (by rw [cW_len]; omega)]
theorem xW_get (ad sa : Nat → Nat) (cc : cT) (t : tT) (X : xS) (w : Nat → Nat → Int32) {p : Nat} (hp : p < 62) : (xW ad sa cc t X w)[p]? = some (ad p, xCell ad sa t.2.1 cc p (X p)) := by
  unfold xW
  rw [List.getElem?_append_left (by rw [cW_len]; exact hp), cW_get ad sa t.2.1 cc X hp]
theorem xW_set (ad sa : Nat → Nat) (cc : cT) (t : tT) (X : xS) (w : Nat → Nat → Int32) {p : Nat} (hp : p < 62) {e : va_E} {x : Nat → Int32} (he : xCell ad sa t.2.1 cc p x = e) : (xW ad sa cc t X w).set p (ad p, e) = xW ad sa cc t (va_up X p x) w := by
  unfold xW
  rw [List.set_append_left _ _ (by rw [cW_len]; exact hp), cW_set ad sa t.2.1 cc X hp he]
/-- the links between nest mates that the tables tell -/
def nestL : List Cond := [.methodLinkNest RX0 103 yX8_has RX8, .methodLinkNest RX0 113 yX8_held RX8, .methodLinkNest RX0 162 yX8_within RX8, .methodLinkNest RX1 9 yX8_within RX8, .methodLinkNest RX2 112 yX8_has RX8, .methodLinkNest RX2 119 yX8_within RX8, .methodLinkNest RX2 33 yX8_held RX8, .methodLinkNest RX5 19 yX8_held RX8]
/-- what stands beside the world: the links, the two static rows -/
def xEnv (sa : Nat → Nat) (A : Nat → Prop) (U : State) (H : Heap) : Prop := (∀ q ∈ nestL, va_Nw q U) ∧ (∃ t : Nat, va_Z RX1 "ABOVE" "[I" (.ref t) A U H ∧ va_T .int t 7 (fun j => .int (aboveT.getD j 0)) A U H) ∧ (∃ t : Nat, va_Z RX7 "BODIES" "[I" (.ref t) A U H ∧ va_T .int t 28 (fun j => .int (bodiesT.getD j 0)) A U H) ∧ (∃ sv : Nat → Nat, sEnv sa sv A U H) ∧ vk_R RX8 166 "mfh" (sa 1) U ∧ vk_R RX8 168 "mgh" (sa 2) U ∧ vk_R RX3 23 "" (sa 0) U
theorem nest_warm {s U : State} (hW : s.WarmedH U.vm) (h : ∀ q ∈ nestL, va_Nw q s) : ∀ q ∈ nestL, va_Nw q U := by
  intro q hq
  have h1 := h q hq
  unfold nestL at hq
  simp only [List.mem_cons, List.not_mem_nil, or_false] at hq
  rcases hq with rfl | rfl | rfl | rfl | rfl | rfl | rfl | rfl <;> exact va_Nw.warmM hW h1
theorem nest_same {u U : State} (e : u.vm = U.vm) (h : ∀ q ∈ nestL, va_Nw q u) : ∀ q ∈ nestL, va_Nw q U := by
  intro q hq
  have h1 := h q hq
  unfold nestL at hq
  simp only [List.mem_cons, List.not_mem_nil, or_false] at hq
  rcases hq with rfl | rfl | rfl | rfl | rfl | rfl | rfl | rfl <;> exact va_Nw.same rfl e h1
theorem xEnv_blind {sa : Nat → Nat} {A : Nat → Prop} {U : State} {g : JFrame} {mk : MethodId} {b : Array Value} (h : xEnv sa A U U.heap) : xEnv sa A (U.calling g mk b) (U.calling g mk b).heap := by
  obtain ⟨h1, ⟨t1, h2, h3⟩, ⟨t2, h4, h5⟩, ⟨sv, h6⟩, h7, h8, h9⟩ := h
  exact ⟨nest_same (u := U) (U := U.calling g mk b) rfl h1, ⟨t1, va_Z.moved (u := U) (Vm.Alike.refl U.vm) h2, va_T.moved (u := U) (Vm.Alike.refl U.vm) h3⟩, ⟨t2, va_Z.moved (u := U) (Vm.Alike.refl U.vm) h4, va_T.moved (u := U) (Vm.Alike.refl U.vm) h5⟩, ⟨sv, sE_calling h6⟩, vk_R.same (u := U) rfl h7, vk_R.same (u := U) rfl h8, vk_R.same (u := U) rfl h9⟩
theorem xEnv_call {sa : Nat → Nat} {A B : Nat → Prop} {s U : State} {H0 H : Heap} (hW : s.WarmedH U.vm) (h : xEnv sa A s H0) (hk : ∀ q : Nat, q < H0.size → ¬ A q → H[q]? = H0[q]?) (hB : ∀ q, B q → A q) : xEnv sa B U H := by
  obtain ⟨h1, ⟨t1, h2, h3⟩, ⟨t2, h4, h5⟩, ⟨sv, h6⟩, h7, h8, h9⟩ := h
  exact ⟨nest_warm hW h1, ⟨t1, va_Z.moved hW.alike ((h2.kept hk).narrow hB), va_T.moved hW.alike ((h3.kept hk).narrow hB)⟩, ⟨t2, va_Z.moved hW.alike ((h4.kept hk).narrow hB), va_T.moved hW.alike ((h5.kept hk).narrow hB)⟩, ⟨sv, sE_call hW h6 hk hB⟩, vk_R.warm hW h7, vk_R.warm hW h8, vk_R.warm hW h9⟩
def xTy (cc : cT) : List (ClassId × FieldType) := [(cc.1, .int), (cc.2.1, .boolean), (cc.2.2, .object RX5)]
/-- what holds all along a method of the class -/
def xC (code : ByteArray) (nL : Nat) (own : String) (Ts : List Cond) (D : va_G) (sa : Nat → Nat) (cc : cT) (A : Nat → Prop) (p : Program) (s : State) (m : MethodId) (c : Code) (args : Array Value) : Prop := p.tables.exec = Jvm.exec ∧ c.code = code ∧ c.maxLocals = nL ∧ s.vm.findClass own = some m.cls ∧ (∀ w ∈ Ts, w.before args s = true) ∧ va_K D vwCl (xTy cc) s ∧ xEnv sa A s s.heap
/-- the heap holds the class's world in the state X (the texts' waiting rows being any) -/
def xG (D : va_G) (ad sa : Nat → Nat) (cc : cT) (t : tT) (A : Nat → Prop) (H0 H : Heap) (locs : List Loc) (X : xS) : Prop := ∃ w, va_P D vwCl (xW ad sa cc t X w) H ∧ va_D A (xW ad sa cc t X w) ∧ va_S A H0 H locs
def xPre (D : va_G) (ad sa : Nat → Nat) (cc : cT) (t : tT) (av : List Value) (X : xS) (w : Nat → Nat → Int32) (sz : Nat) : Array Value → State → Prop := va_Pc av (fun U => U.heap.size = sz ∧ va_P D vwCl (xW ad sa cc t X w) U.heap ∧ va_K D vwCl (xTy cc) U ∧ va_D (fun _ => True) (xW ad sa cc t X w) ∧ xEnv sa (va_A (xW ad sa cc t X w) sz) U U.heap)
/-- contract of a method of the class (of its nested classes) over the whole world -/
def xM (l : Launch) (D : va_G) (ad sa : Nat → Nat) (cc : cT) (t : tT) (y : MethodName) (ws : List Cond) (rm : Room) (av : List Value) (X : xS) (rX : Int32 × xS) : Prop := ∀ (sz : Nat) (w : Nat → Nat → Int32), Met l y ws rm (xPre D ad sa cc t av X w sz) (va_Qi (fun (r : Int32) (_ : Nat → Nat → Int32) => r = rX.1) (fun u tt => va_P D vwCl (xW ad sa cc t rX.2 u) tt.heap ∧ va_K D vwCl (xTy cc) tt ∧ va_D (va_A (xW ad sa cc t X w) sz) (xW ad sa cc t rX.2 u)) (va_A (xW ad sa cc t X w) sz)) 0 0 (va_A (xW ad sa cc t X w) sz)
def xMv (l : Launch) (D : va_G) (ad sa : Nat → Nat) (cc : cT) (t : tT) (y : MethodName) (ws : List Cond) (rm : Room) (av : List Value) (X X2 : xS) : Prop := ∀ (sz : Nat) (w : Nat → Nat → Int32), Met l y ws rm (xPre D ad sa cc t av X w sz) (va_Qv (fun (_ : Nat → Nat → Int32) => True) (fun u tt => va_P D vwCl (xW ad sa cc t X2 u) tt.heap ∧ va_K D vwCl (xTy cc) tt ∧ va_D (va_A (xW ad sa cc t X w) sz) (xW ad sa cc t X2 u)) (va_A (xW ad sa cc t X w) sz)) 0 0 (va_A (xW ad sa cc t X w) sz)
section xrows
variable {p : Program} {l : Launch} {e : Env} {R : Room} {s : State} {m : MethodId} {args : Array Value} {below : List Frame} {meth : Method} {c : Code} {H : Heap} {locs : List Loc} {cells slots : Nat} {Q : State → Prop} {code : ByteArray} {nL : Nat} {own : String} {Ts : List Cond} {D : va_G} {ad sa : Nat → Nat} {cc : cT} {t : tT} {A : Nat → Prop} {X : xS} {pc : Nat} {ls : Array Slot} {rest : List Value}
theorem xr_get (C : xC code nL own Ts D sa cc A p s m c args) (G : xG D ad sa cc t A s.heap H locs X) {q : Nat} (hq : q < 62) {ci : Nat} {fs : List Value} (hc : xCell ad sa t.2.1 cc q (X q) = .inr (ci, fs)) {Cn : String} {Tn : u_T} {N : Nat} (hcl : vwCl[ci]? = some (Cn, Tn, N)) (hin : ∀ w ∈ u_ws Cn Tn N, w ∈ Ts) (k : Nat) (hk : k < N) {index : Nat} {v : Value} (hlink : (Cond.fieldLink own index (Tn k).1 (Tn k).2.1 (Tn k).2.2.1) ∈ Ts) (hv : fs[k]? = some v) (hdg : decode code pc = .ok (.getfield index, 3)) (kk : W p l e R s m args below meth c H locs cells slots Q (F0 m (pc + 3) ls (v :: rest))) : W p l e R s m args below meth c H locs cells slots Q (F0 m pc ls (.ref (ad q) :: rest)) := by
  obtain ⟨w, hP, hD, hS⟩ := G
  exact va_get (D := D) (ci := ci) (v := v) (C := Cn) (T := Tn) (N := N) (ws := xW ad sa cc t X w) (fs := fs) C.1 C.2.1 C.2.2.2.2.1 hin C.2.2.2.1 C.2.2.2.2.2.1 hP q ((xW_get ad sa cc t X w hq).trans (by rw [hc])) hcl k hk (C.2.2.2.2.1 _ hlink) (fun x h => h) hv hdg kk
theorem xr_put (C : xC code nL own Ts D sa cc A p s m c args) (G : xG D ad sa cc t A s.heap H locs X) {q : Nat} (hq : q < 62) {ci : Nat} {fs : List Value} (hc : xCell ad sa t.2.1 cc q (X q) = .inr (ci, fs)) {Cn : String} {Tn : u_T} {N : Nat} (hcl : vwCl[ci]? = some (Cn, Tn, N)) (hin : ∀ w ∈ u_ws Cn Tn N, w ∈ Ts) (tyn : Nat → FieldType) (htyn : ∀ k, k < N → parseFieldDescriptor (Tn k).2.2.1 = some (tyn k)) (hnm : ∀ a, a < N → ∀ b, b < N → a ≠ b → (Tn a).2.1 ≠ (Tn b).2.1) (k : Nat) (hk : k < N) (hfin : (Tn k).2.2.2 = false) {index : Nat} {v : Value} {ty : FieldType} (hlink : (Cond.fieldLink own index (Tn k).1 (Tn k).2.1 (Tn k).2.2.1) ∈ Ts) (hd : parseFieldDescriptor (Tn k).2.2.1 = some ty) (hn : narrow ty v = v) (hfit : fits ty v = true) (hlen : k < fs.length) (x : Nat → Int32) (hw : xCell ad sa t.2.1 cc q x = .inr (ci, fs.set k v)) (hdg : decode code pc = .ok (.putfield index, 3)) (kk : ∀ (H1 : Heap) (locs1 : List Loc), xG D ad sa cc t A s.heap H1 locs1 (va_up X q x) → W p l e R s m args below meth c H1 locs1 cells slots Q (F0 m (pc + 3) ls rest)) : W p l e R s m args below meth c H locs cells slots Q (F0 m pc ls (v :: .ref (ad q) :: rest)) := by
  obtain ⟨w, hP, hD, hS⟩ := G
  refine va_put (D := D) (ci := ci) (v := v) (ty := ty) (C := Cn) (T := Tn) (N := N) (ws := xW ad sa cc t X w) (fs := fs) C.1 C.2.1 C.2.2.2.2.1 hin tyn htyn hnm C.2.2.2.1 C.2.2.2.2.2.1 hP hD hS q ((xW_get ad sa cc t X w hq).trans (by rw [hc])) hcl k hk (C.2.2.2.2.1 _ hlink) (fun x h => h) hfin hd hn hfit hlen hdg (fun H1 locs1 hP hD hS => ?_)
  rw [xW_set ad sa cc t X w hq hw] at hP hD
  exact kk H1 locs1 ⟨w, hP, hD, hS⟩
theorem xr_ald (C : xC code nL own Ts D sa cc A p s m c args) (G : xG D ad sa cc t A s.heap H locs X) {q n : Nat} (hq : q < 62) (hc : xCell ad sa t.2.1 cc q (X q) = .inl (cc.1, n, .inl (X q))) {i : Int32} (e0 : Nat) (hi : i = nI e0) (he : e0 < n) (hn : n < 2 ^ 31) (hdg : decode code pc = .ok (.iaload, 1)) (kk : W p l e R s m args below meth c H locs cells slots Q (F0 m (pc + 1) ls (.int (X q e0) :: rest))) : W p l e R s m args below meth c H locs cells slots Q (F0 m pc ls (.int i :: .ref (ad q) :: rest)) := by
  obtain ⟨w, hP, hD, hS⟩ := G
  subst hi
  refine va_iald (ws := xW ad sa cc t X w) C.1 C.2.1 C.2.2.2.2.2.1 hP q 0 ((xW_get ad sa cc t X w hq).trans (by rw [hc])) rfl (vp_in_nI he hn) hdg ?_
  rw [nI_clamp (Nat.lt_trans he hn)]
  exact kk
theorem xr_ast (C : xC code nL own Ts D sa cc A p s m c args) (G : xG D ad sa cc t A s.heap H locs X) {q n : Nat} (hq : q < 62) (hc : ∀ x, xCell ad sa t.2.1 cc q x = .inl (cc.1, n, .inl x)) {i x : Int32} (e0 : Nat) (hi : i = nI e0) (he : e0 < n) (hn : n < 2 ^ 31) (hdg : decode code pc = .ok (.iastore, 1)) (kk : ∀ (H1 : Heap) (locs1 : List Loc), xG D ad sa cc t A s.heap H1 locs1 (mU X q e0 x) → W p l e R s m args below meth c H1 locs1 cells slots Q (F0 m (pc + 1) ls rest)) : W p l e R s m args below meth c H locs cells slots Q (F0 m pc ls (.int x :: .int i :: .ref (ad q) :: rest)) := by
  obtain ⟨w, hP, hD, hS⟩ := G
  subst hi
  refine va_iast (ws := xW ad sa cc t X w) C.1 C.2.1 C.2.2.2.2.2.1 hP hD hS q 0 ((xW_get ad sa cc t X w hq).trans (by rw [hc])) rfl (vp_in_nI he hn) hdg (fun H1 locs1 hP hD hS => ?_)
  rw [nI_clamp (Nat.lt_trans he hn), xW_set ad sa cc t X w hq (hc _)] at hP hD
  exact kk H1 locs1 ⟨w, hP, hD, hS⟩
theorem xr_blind (av : List Value) (X : xS) (w : Nat → Nat → Int32) (sz : Nat) : FrameBlind (xPre D ad sa cc t av X w sz) := fun b U g mk q => by
  obtain ⟨q0, q1, qP, qK, qD, qE⟩ := q
  exact ⟨q0, q1, qP, va_K.moved (u := U) (U := U.calling g mk b) (Vm.Alike.refl U.vm) qK, qD, xEnv_blind qE⟩
theorem xr_free {w : Nat → Nat → Int32} {H0 : Heap} (hD : va_D A (xW ad sa cc t X w)) (hS : va_S A H0 H locs) (hA : ∀ q, H0.size ≤ q → A q) : ∀ q, va_A (xW ad sa cc t X w) H.size q → A q := fun q h => h.elim (fun ⟨k, e, hk⟩ => hD.2 k _ hk) (fun h => hA q (Nat.le_trans hS.1 h))
/-- what a call finds at its start -/
theorem xr_pre (C : xC code nL own Ts D sa cc A p s m c args) (hA : ∀ q, s.heap.size ≤ q → A q) {w : Nat → Nat → Int32} (hP : va_P D vwCl (xW ad sa cc t X w) H) (hD : va_D A (xW ad sa cc t X w)) (hS : va_S A s.heap H locs) (av : List Value) : ∀ U : State, U.heap = H → s.WarmedH U.vm → xPre D ad sa cc t av X w H.size av.toArray U := fun U hU hW => ⟨rfl, by rw [hU], by rw [hU]; exact hP, va_K.moved hW.alike C.2.2.2.2.2.1, hD.weaken (fun _ _ _ _ => trivial), by rw [hU]; exact xEnv_call hW C.2.2.2.2.2.2 hS.2.1 (xr_free hD hS hA)⟩
theorem xr_backi (hA : ∀ q, s.heap.size ≤ q → A q) {w : Nat → Nat → Int32} {X2 : xS} {r0 : Int32} {aa : Array Value} (hD : va_D A (xW ad sa cc t X w)) (hS : va_S A s.heap H locs) {st : List Value} (hr : va_Run p l e R s m args below meth c H locs cells slots 0 0 (F0 m pc ls st) rest (va_Qi (fun (r : Int32) (_ : Nat → Nat → Int32) => r = r0) (fun u tt => va_P D vwCl (xW ad sa cc t X2 u) tt.heap ∧ va_K D vwCl (xTy cc) tt ∧ va_D (va_A (xW ad sa cc t X w) H.size) (xW ad sa cc t X2 u)) (va_A (xW ad sa cc t X w) H.size) aa) (va_A (xW ad sa cc t X w) H.size)) (kk : ∀ (H1 : Heap) (locs1 : List Loc), xG D ad sa cc t A s.heap H1 locs1 X2 → W p l e R s m args below meth c H1 locs1 cells slots Q (F0 m (pc + 3) ls (.int r0 :: rest))) : W p l e R s m args below meth c H locs cells slots Q (F0 m pc ls st) := by
  refine va_calli (A0 := A) (A1 := va_A (xW ad sa cc t X w) H.size) hr hS (fun q _ h => xr_free hD hS hA q h) (xr_free hD hS hA) (fun r u tt H1 locs1 ht hvm hw hB hz1 hk1 hS1 => ?_)
  obtain ⟨hP1, hK1, hD1⟩ := hB
  rw [ht] at hP1
  subst hw
  exact kk H1 locs1 ⟨u, hP1, hD1.weaken (fun k q _ h => xr_free hD hS hA _ h), hS1⟩
theorem xr_backv (hA : ∀ q, s.heap.size ≤ q → A q) {w : Nat → Nat → Int32} {X2 : xS} {aa : Array Value} (hD : va_D A (xW ad sa cc t X w)) (hS : va_S A s.heap H locs) {st : List Value} (hr : va_Run p l e R s m args below meth c H locs cells slots 0 0 (F0 m pc ls st) rest (va_Qv (fun (_ : Nat → Nat → Int32) => True) (fun u tt => va_P D vwCl (xW ad sa cc t X2 u) tt.heap ∧ va_K D vwCl (xTy cc) tt ∧ va_D (va_A (xW ad sa cc t X w) H.size) (xW ad sa cc t X2 u)) (va_A (xW ad sa cc t X w) H.size) aa) (va_A (xW ad sa cc t X w) H.size)) (kk : ∀ (H1 : Heap) (locs1 : List Loc), xG D ad sa cc t A s.heap H1 locs1 X2 → W p l e R s m args below meth c H1 locs1 cells slots Q (F0 m (pc + 3) ls rest)) : W p l e R s m args below meth c H locs cells slots Q (F0 m pc ls st) := by
  refine va_callv (A0 := A) (A1 := va_A (xW ad sa cc t X w) H.size) hr hS (fun q _ h => xr_free hD hS hA q h) (xr_free hD hS hA) (fun u tt H1 locs1 ht hvm hw hB hz1 hk1 hS1 => ?_)
  obtain ⟨hP1, hK1, hD1⟩ := hB
  rw [ht] at hP1
  exact kk H1 locs1 ⟨u, hP1, hD1.weaken (fun k q _ h => xr_free hD hS hA _ h), hS1⟩
theorem xr_Vi (C : xC code nL own Ts D sa cc A p s m c args) (hA : ∀ q, s.heap.size ≤ q → A q) (G : xG D ad sa cc t A s.heap H locs X) {y : MethodName} {ws : List Cond} {rm : Room} {av : List Value} {q : Nat} {r0 : Int32} {X2 : xS} (hM : xM l D ad sa cc t y ws rm (.ref (ad q) :: av) X (r0, X2)) (hq : q < 62) {ci : Nat} {fs : List Value} (hc : xCell ad sa t.2.1 cc q (X q) = .inr (ci, fs)) {r1 : vw_C} (hcl : vwCl[ci]? = some r1) {index n maxL : Nat} {bytes : ByteArray} {ret : Option FieldType} (cw : CallW R s args own r1.1 index y bytes maxL ret ws rm 0 0 n) (hn : av.length = n) (hl : ls.size = nL) {st : List Value} (hst : st = av.reverse ++ .ref (ad q) :: rest) (hW : (rest.map fun v => v.category).sum ≤ 8) (hdg : decode code pc = .ok (.invokevirtual index, 3)) (hf : cells ≤ R.cells ∧ slots ≤ R.slots) (kk : ∀ (H1 : Heap) (locs1 : List Loc), xG D ad sa cc t A s.heap H1 locs1 X2 → W p l e R s m args below meth c H1 locs1 cells slots Q (F0 m (pc + 3) ls (.int r0 :: rest))) : W p l e R s m args below meth c H locs cells slots Q (F0 m pc ls st) := by
  obtain ⟨w, hP, hD, hS⟩ := G
  exact xr_backi hA hD hS (va_runV (As := av) (rest := rest) ⟨C.1, C.2.1, C.2.2.1, C.2.2.2.1, C.2.2.2.2.1⟩ (hM H.size w) cw ⟨xr_blind _ _ _ _, va_recv C.2.2.2.2.2.1 hP (ci := ci) (q0 := q) hcl ((xW_get ad sa cc t X w hq).trans (by rw [hc])), xr_pre C hA hP hD hS _⟩ rfl hn hl hst (lv_room hW) hdg hf) kk
theorem xr_Si (C : xC code nL own Ts D sa cc A p s m c args) (hA : ∀ q, s.heap.size ≤ q → A q) (G : xG D ad sa cc t A s.heap H locs X) {y : MethodName} {ws : List Cond} {rm : Room} {av : List Value} {r0 : Int32} {X2 : xS} (hM : xM l D ad sa cc t y ws rm av X (r0, X2)) {index n maxL : Nat} {bytes : ByteArray} {ret : Option FieldType} (cw : CallB R s args own index y bytes maxL ret ws rm 0 0 n ∧ (Cond.static y).before args s = true) (hn : av.length = n) (hl : ls.size = nL) {st : List Value} (hst : st = av.reverse ++ rest) (hW : (rest.map fun v => v.category).sum ≤ 8) (hdg : decode code pc = .ok (.invokestatic index, 3)) (hf : cells ≤ R.cells ∧ slots ≤ R.slots) (kk : ∀ (H1 : Heap) (locs1 : List Loc), xG D ad sa cc t A s.heap H1 locs1 X2 → W p l e R s m args below meth c H1 locs1 cells slots Q (F0 m (pc + 3) ls (.int r0 :: rest))) : W p l e R s m args below meth c H locs cells slots Q (F0 m pc ls st) := by
  obtain ⟨w, hP, hD, hS⟩ := G
  exact xr_backi hA hD hS (va_runS (As := av) (rest := rest) ⟨C.1, C.2.1, C.2.2.1, C.2.2.2.1, C.2.2.2.2.1⟩ (hM H.size w) cw ⟨xr_blind _ _ _ _, xr_pre C hA hP hD hS _⟩ rfl hn hl hst (lv_room hW) hdg hf) kk
theorem xr_Vv (C : xC code nL own Ts D sa cc A p s m c args) (hA : ∀ q, s.heap.size ≤ q → A q) (G : xG D ad sa cc t A s.heap H locs X) {y : MethodName} {ws : List Cond} {rm : Room} {av : List Value} {q : Nat} {X2 : xS} (hM : xMv l D ad sa cc t y ws rm (.ref (ad q) :: av) X X2) (hq : q < 62) {ci : Nat} {fs : List Value} (hc : xCell ad sa t.2.1 cc q (X q) = .inr (ci, fs)) {r1 : vw_C} (hcl : vwCl[ci]? = some r1) {index n maxL : Nat} {bytes : ByteArray} {ret : Option FieldType} (cw : CallW R s args own r1.1 index y bytes maxL ret ws rm 0 0 n) (hn : av.length = n) (hl : ls.size = nL) {st : List Value} (hst : st = av.reverse ++ .ref (ad q) :: rest) (hW : (rest.map fun v => v.category).sum ≤ 8) (hdg : decode code pc = .ok (.invokevirtual index, 3)) (hf : cells ≤ R.cells ∧ slots ≤ R.slots) (kk : ∀ (H1 : Heap) (locs1 : List Loc), xG D ad sa cc t A s.heap H1 locs1 X2 → W p l e R s m args below meth c H1 locs1 cells slots Q (F0 m (pc + 3) ls rest)) : W p l e R s m args below meth c H locs cells slots Q (F0 m pc ls st) := by
  obtain ⟨w, hP, hD, hS⟩ := G
  exact xr_backv hA hD hS (va_runV (As := av) (rest := rest) ⟨C.1, C.2.1, C.2.2.1, C.2.2.2.1, C.2.2.2.2.1⟩ (hM H.size w) cw ⟨xr_blind _ _ _ _, va_recv C.2.2.2.2.2.1 hP (ci := ci) (q0 := q) hcl ((xW_get ad sa cc t X w hq).trans (by rw [hc])), xr_pre C hA hP hD hS _⟩ rfl hn hl hst (lv_room hW) hdg hf) kk
theorem xr_Sv (C : xC code nL own Ts D sa cc A p s m c args) (hA : ∀ q, s.heap.size ≤ q → A q) (G : xG D ad sa cc t A s.heap H locs X) {y : MethodName} {ws : List Cond} {rm : Room} {av : List Value} {X2 : xS} (hM : xMv l D ad sa cc t y ws rm av X X2) {index n maxL : Nat} {bytes : ByteArray} {ret : Option FieldType} (cw : CallB R s args own index y bytes maxL ret ws rm 0 0 n ∧ (Cond.static y).before args s = true) (hn : av.length = n) (hl : ls.size = nL) {st : List Value} (hst : st = av.reverse ++ rest) (hW : (rest.map fun v => v.category).sum ≤ 8) (hdg : decode code pc = .ok (.invokestatic index, 3)) (hf : cells ≤ R.cells ∧ slots ≤ R.slots) (kk : ∀ (H1 : Heap) (locs1 : List Loc), xG D ad sa cc t A s.heap H1 locs1 X2 → W p l e R s m args below meth c H1 locs1 cells slots Q (F0 m (pc + 3) ls rest)) : W p l e R s m args below meth c H locs cells slots Q (F0 m pc ls st) := by
  obtain ⟨w, hP, hD, hS⟩ := G
  exact xr_backv hA hD hS (va_runS (As := av) (rest := rest) ⟨C.1, C.2.1, C.2.2.1, C.2.2.2.1, C.2.2.2.2.1⟩ (hM H.size w) cw ⟨xr_blind _ _ _ _, xr_pre C hA hP hD hS _⟩ rfl hn hl hst (lv_room hW) hdg hf) kk
theorem xr_keep {w : Nat → Nat → Int32} {H1 : Heap} {locs1 : List Loc} (hP : va_P D vwCl (xW ad sa cc t X w) H) (hD : va_D A (xW ad sa cc t X w)) (hk1 : ∀ q : Nat, q < H.size → ¬ va_A [] H.size q → H1[q]? = H[q]?) (hS1 : va_S A s.heap H1 locs1) : xG D ad sa cc t A s.heap H1 locs1 X := by
  refine ⟨w, va_P.kept hP (fun k q hq => hk1 q.1 (va_at.lt (hP k q hq)) ?_), hD, hS1⟩
  intro h
  rcases h with ⟨k, e, hk⟩ | h
  · simp at hk
  · exact absurd (va_at.lt (hP k q hq)) (Nat.not_lt.mpr h)
theorem xr_none {H0 : Heap} (hS : va_S A H0 H locs) (hA : ∀ q, H0.size ≤ q → A q) : ∀ q, va_A [] H.size q → A q := fun q h => h.elim (fun ⟨k, e, hk⟩ => by simp at hk) (fun h => hA q (Nat.le_trans hS.1 h))
theorem xr_ps (C : xC code nL own Ts D sa cc A p s m c args) (hA : ∀ q, s.heap.size ≤ q → A q) (G : xG D ad sa cc t A s.heap H locs X) {y : MethodName} {ws : List Cond} {rm : Room} {av : List Value} {r : Int32} (hM : sM l y ws rm av r) {index n maxL : Nat} {bytes : ByteArray} {ret : Option FieldType} (cw : CallB R s args own index y bytes maxL ret ws rm 0 0 n ∧ (Cond.static y).before args s = true) (hn : av.length = n) (hl : ls.size = nL) {st : List Value} (hst : st = av.reverse ++ rest) (hW : (rest.map fun v => v.category).sum ≤ 8) (hdg : decode code pc = .ok (.invokestatic index, 3)) (hf : cells ≤ R.cells ∧ slots ≤ R.slots) (kk : ∀ (H1 : Heap) (locs1 : List Loc), xG D ad sa cc t A s.heap H1 locs1 X → W p l e R s m args below meth c H1 locs1 cells slots Q (F0 m (pc + 3) ls (.int r :: rest))) : W p l e R s m args below meth c H locs cells slots Q (F0 m pc ls st) := by
  obtain ⟨w, hP, hD, hS⟩ := G
  refine va_calli (A0 := A) (A1 := va_A [] H.size) (va_runS (As := av) (rest := rest) ⟨C.1, C.2.1, C.2.2.1, C.2.2.2.1, C.2.2.2.2.1⟩ (hM H.size) cw ⟨fun b U g mk q => q, fun U hU hW => ⟨rfl, by show U.heap.size = _; rw [hU]⟩⟩ rfl hn hl hst (lv_room hW) hdg hf) hS (fun q _ h => xr_none hS hA q h) (xr_none hS hA) (fun r u tt H1 locs1 ht hvm hw hB hz1 hk1 hS1 => ?_)
  subst hw
  exact kk H1 locs1 (xr_keep hP hD hk1 hS1)
theorem xr_psn (C : xC code nL own Ts D sa cc A p s m c args) (hA : ∀ q, s.heap.size ≤ q → A q) (G : xG D ad sa cc t A s.heap H locs X) {y : MethodName} {ws : List Cond} {rm : Room} {av : List Value} {r : Int32} (hM : sM l y ws rm av r) {index n maxL : Nat} {bytes : ByteArray} {ret : Option FieldType} {host : String} (cw : va_CN R s args own index y host bytes maxL ret ws rm 0 0 n ∧ (Cond.static y).before args s = true ∧ True) (hn : av.length = n) (hl : ls.size = nL) {st : List Value} (hst : st = av.reverse ++ rest) (hW : (rest.map fun v => v.category).sum ≤ 8) (hdg : decode code pc = .ok (.invokestatic index, 3)) (hf : cells ≤ R.cells ∧ slots ≤ R.slots) (kk : ∀ (H1 : Heap) (locs1 : List Loc), xG D ad sa cc t A s.heap H1 locs1 X → W p l e R s m args below meth c H1 locs1 cells slots Q (F0 m (pc + 3) ls (.int r :: rest))) : W p l e R s m args below meth c H locs cells slots Q (F0 m pc ls st) := by
  obtain ⟨w, hP, hD, hS⟩ := G
  refine va_calli (A0 := A) (A1 := va_A [] H.size) (va_runSN (As := av) (rest := rest) ⟨C.1, C.2.1, C.2.2.1, C.2.2.2.1, C.2.2.2.2.1⟩ (hM H.size) cw ⟨fun b U g mk q => q, fun U hU hW => ⟨rfl, by show U.heap.size = _; rw [hU]⟩⟩ rfl hn hl hst (lv_room hW) hdg hf) hS (fun q _ h => xr_none hS hA q h) (xr_none hS hA) (fun r u tt H1 locs1 ht hvm hw hB hz1 hk1 hS1 => ?_)
  subst hw
  exact kk H1 locs1 (xr_keep hP hD hk1 hS1)
end xrows
theorem xM_of {l : Launch} {D : va_G} {ad sa : Nat → Nat} {cc : cT} {t : tT} {y : MethodName} {ws ws' : List Cond} {rm : Room} {av : List Value} {X : xS} {rX : Int32 × xS} {code : ByteArray} {nL : Nat} {own : String} (hy : plainName y.cls = true) (hw : ws = Cond.code y code nL (some .int) :: ws') (hcls : y.cls = own) (hL : (lg_sl av).length ≤ nL)
    (body : ∀ (p : Program) (e : Env) (s : State) (m : MethodId) (args : Array Value) (below : List Frame) (meth : Method) (c : Code) (A : Nat → Prop) (Q : State → Prop), xC code nL own ws D sa cc A p s m c args → (∀ q, s.heap.size ≤ q → A q) → (∀ (pc : Nat) (H : Heap) (locs : List Loc) (ls : Array Slot) (r : Int32) (X2 : xS), rX = (r, X2) → xG D ad sa cc t A s.heap H locs X2 → decode code pc = .ok (.ireturn, 1) → W p l e rm s m args below meth c H locs 0 0 Q (F0 m pc ls [.int r])) → ∀ (H : Heap) (locs : List Loc) (ls : Array Slot), lv_has ls nL (lv_args 0 av) → xG D ad sa cc t A s.heap H locs X → W p l e rm s m args below meth c H locs 0 0 Q (F0 m 0 ls [])) : xM l D ad sa cc t y ws rm av X rX := by
  intro sz w
  refine Met.ofW (cc := code) (maxL := nL) (ret := some .int) hy hw ?_
  intro p e s m args below meth c s₁ B hml hv
  obtain ⟨rfl, hsz, hP, hK, hD0, hE⟩ := hv
  subst hsz
  have hl := lv_entry av (n := nL) hL
  rw [lg_entry_eq]
  exact body p e s m _ below meth c (va_A (xW ad sa cc t X w) s.heap.size) _ ⟨B.exec, B.bytes, hml, hcls ▸ findClass_of_methodNamed B.named, atoms_spec (ws := ws) B.pre, hK, hE⟩ (fun q h => Or.inr h) (fun pc H locs ls r X2 hr G hdg => W.iret B.exec B.bytes B.returns (fun tt ht hW => ⟨⟨r, G.choose, rfl, by rw [hr], by rw [ht, hr]; exact G.choose_spec.1, va_K.moved hW.alike hK, by rw [hr]; exact G.choose_spec.2.1⟩, G.choose_spec.2.2.F ht⟩) G.choose_spec.2.2.2.2 hdg B.notSynchronized) _ [] _ hl ⟨w, hP, hD0.self, va_S.rf⟩
theorem xM_ofZ {l : Launch} {D : va_G} {ad sa : Nat → Nat} {cc : cT} {t : tT} {y : MethodName} {ws ws' : List Cond} {rm : Room} {av : List Value} {X : xS} {rX : Int32 × xS} {code : ByteArray} {nL : Nat} {own : String} (hy : plainName y.cls = true) (hw : ws = Cond.code y code nL (some .boolean) :: ws') (hcls : y.cls = own) (hL : (lg_sl av).length ≤ nL)
    (body : ∀ (p : Program) (e : Env) (s : State) (m : MethodId) (args : Array Value) (below : List Frame) (meth : Method) (c : Code) (A : Nat → Prop) (Q : State → Prop), xC code nL own ws D sa cc A p s m c args → (∀ q, s.heap.size ≤ q → A q) → (∀ (pc : Nat) (H : Heap) (locs : List Loc) (ls : Array Slot) (r : Int32) (X2 : xS), rX = (r, X2) → xG D ad sa cc t A s.heap H locs X2 → r = 0 ∨ r = 1 → decode code pc = .ok (.ireturn, 1) → W p l e rm s m args below meth c H locs 0 0 Q (F0 m pc ls [.int r])) → ∀ (H : Heap) (locs : List Loc) (ls : Array Slot), lv_has ls nL (lv_args 0 av) → xG D ad sa cc t A s.heap H locs X → W p l e rm s m args below meth c H locs 0 0 Q (F0 m 0 ls [])) : xM l D ad sa cc t y ws rm av X rX := by
  intro sz w
  refine Met.ofW (cc := code) (maxL := nL) (ret := some .boolean) hy hw ?_
  intro p e s m args below meth c s₁ B hml hv
  obtain ⟨rfl, hsz, hP, hK, hD0, hE⟩ := hv
  subst hsz
  have hl := lv_entry av (n := nL) hL
  rw [lg_entry_eq]
  exact body p e s m _ below meth c (va_A (xW ad sa cc t X w) s.heap.size) _ ⟨B.exec, B.bytes, hml, hcls ▸ findClass_of_methodNamed B.named, atoms_spec (ws := ws) B.pre, hK, hE⟩ (fun q h => Or.inr h) (fun pc H locs ls r X2 hr G hz hdg => W.zret B.exec B.bytes B.returns (by rcases hz with rfl | rfl <;> rfl) (fun tt ht hW => ⟨⟨r, G.choose, rfl, by rw [hr], by rw [ht, hr]; exact G.choose_spec.1, va_K.moved hW.alike hK, by rw [hr]; exact G.choose_spec.2.1⟩, G.choose_spec.2.2.F ht⟩) G.choose_spec.2.2.2.2 hdg B.notSynchronized) _ [] _ hl ⟨w, hP, hD0.self, va_S.rf⟩
theorem xMv_of {l : Launch} {D : va_G} {ad sa : Nat → Nat} {cc : cT} {t : tT} {y : MethodName} {ws ws' : List Cond} {rm : Room} {av : List Value} {X : xS} {XR : xS} {code : ByteArray} {nL : Nat} {own : String} (hy : plainName y.cls = true) (hw : ws = Cond.code y code nL none :: ws') (hcls : y.cls = own) (hL : (lg_sl av).length ≤ nL)
    (body : ∀ (p : Program) (e : Env) (s : State) (m : MethodId) (args : Array Value) (below : List Frame) (meth : Method) (c : Code) (A : Nat → Prop) (Q : State → Prop), xC code nL own ws D sa cc A p s m c args → (∀ q, s.heap.size ≤ q → A q) → (∀ (pc : Nat) (H : Heap) (locs : List Loc) (ls : Array Slot) (X2 : xS), XR = X2 → xG D ad sa cc t A s.heap H locs X2 → decode code pc = .ok (.return_, 1) → W p l e rm s m args below meth c H locs 0 0 Q (F0 m pc ls [])) → ∀ (H : Heap) (locs : List Loc) (ls : Array Slot), lv_has ls nL (lv_args 0 av) → xG D ad sa cc t A s.heap H locs X → W p l e rm s m args below meth c H locs 0 0 Q (F0 m 0 ls [])) : xMv l D ad sa cc t y ws rm av X XR := by
  intro sz w
  refine Met.ofW (cc := code) (maxL := nL) (ret := none) hy hw ?_
  intro p e s m args below meth c s₁ B hml hv
  obtain ⟨rfl, hsz, hP, hK, hD0, hE⟩ := hv
  subst hsz
  have hl := lv_entry av (n := nL) hL
  rw [lg_entry_eq]
  exact body p e s m _ below meth c (va_A (xW ad sa cc t X w) s.heap.size) _ ⟨B.exec, B.bytes, hml, hcls ▸ findClass_of_methodNamed B.named, atoms_spec (ws := ws) B.pre, hK, hE⟩ (fun q h => Or.inr h) (fun pc H locs ls X2 hr G hdg => W.vret B.exec B.bytes B.returns (fun tt ht hW => ⟨⟨G.choose, rfl, trivial, by rw [ht, hr]; exact G.choose_spec.1, va_K.moved hW.alike hK, by rw [hr]; exact G.choose_spec.2.1⟩, G.choose_spec.2.2.F ht⟩) G.choose_spec.2.2.2.2 hdg B.notSynchronized) _ [] _ hl ⟨w, hP, hD0.self, va_S.rf⟩

