/-! THE LAW: its world is the class's world and the reference's, apart from each other -/
def LWd (D : va_G) (w1 w2 : va_W) (A : Nat → Prop) (H : Heap) : Prop := (va_P D vwCl w1 H ∧ va_P D vwCl w2 H) ∧ (va_D A w1 ∧ va_D A w2) ∧ ∀ (i j : Nat) (p q : Nat × va_E), w1[i]? = some p → w2[j]? = some q → p.1 ≠ q.1
theorem LWd_swap {D : va_G} {w1 w2 : va_W} {A : Nat → Prop} {H : Heap} (h : LWd D w1 w2 A H) : LWd D w2 w1 A H := ⟨⟨h.1.2, h.1.1⟩, ⟨h.2.1.2, h.2.1.1⟩, fun i j p q hp hq e => h.2.2 j i q p hq hp e.symm⟩
theorem LWd_free {D : va_G} {w1 w2 : va_W} {A : Nat → Prop} {H0 H : Heap} {locs : List Loc} (h : LWd D w1 w2 A H) (hS : va_S A H0 H locs) (hA : ∀ q, H0.size ≤ q → A q) : ∀ q, va_A w1 H.size q → A q := fun q h9 => h9.elim (fun ⟨k, e, hk⟩ => h.2.1.1.2 k _ hk) (fun h9 => hA q (Nat.le_trans hS.1 h9))
theorem LWd_step {D : va_G} {w1 w2 w3 : va_W} {A : Nat → Prop} {H0 H H1 : Heap} {locs : List Loc} (h : LWd D w1 w2 A H) (hS : va_S A H0 H locs) (hA : ∀ q, H0.size ≤ q → A q) (hk : ∀ q : Nat, q < H.size → ¬ va_A w1 H.size q → H1[q]? = H[q]?) (hP : va_P D vwCl w3 H1) (hD : va_D (va_A w1 H.size) w3) : LWd D w3 w2 A H1 := by
  have hn : ∀ (j : Nat) (q : Nat × va_E), w2[j]? = some q → q.1 < H.size ∧ ¬ va_A w1 H.size q.1 := fun j q hq => by
    have hl := va_at.lt (h.1.2 j q hq)
    refine ⟨hl, fun h9 => ?_⟩
    rcases h9 with ⟨k, e, hk9⟩ | h9
    · exact h.2.2 k j _ _ hk9 hq rfl
    · omega
  refine ⟨⟨hP, va_P.kept h.1.2 (fun k q hq => hk q.1 (hn k q hq).1 (hn k q hq).2)⟩, ⟨hD.weaken (fun k q _ h9 => LWd_free h hS hA _ h9), h.2.1.2⟩, fun i j p q hp hq e => ?_⟩
  have h9 := hD.2 i p hp
  rw [e] at h9
  exact (hn j q hq).2 h9
/-- two worlds out of one -/
theorem LWd_app {D : va_G} {w1 w2 : va_W} {A : Nat → Prop} {H : Heap} (hP : va_P D vwCl (w1 ++ w2) H) (hD : va_D A (w1 ++ w2)) : LWd D w1 w2 A H := by
  have l1 : ∀ (i : Nat) (p : Nat × va_E), w1[i]? = some p → (w1 ++ w2)[i]? = some p := fun i p h => vl_old h
  have l2 : ∀ (j : Nat) (q : Nat × va_E), w2[j]? = some q → (w1 ++ w2)[w1.length + j]? = some q := fun j q h => by
    rw [List.getElem?_append_right (Nat.le_add_right _ _), Nat.add_sub_cancel_left]; exact h
  refine ⟨⟨fun k q h => hP k q (l1 k q h), fun k q h => hP _ q (l2 k q h)⟩, ⟨⟨fun i j p q hp hq e => hD.1 i j p q (l1 i p hp) (l1 j q hq) e, fun k q h => hD.2 k q (l1 k q h)⟩, ⟨fun i j p q hp hq e => ?_, fun k q h => hD.2 _ q (l2 k q h)⟩⟩, fun i j p q hp hq e => ?_⟩
  · have := hD.1 _ _ p q (l2 i p hp) (l2 j q hq) e
    omega
  · have h1 := hD.1 _ _ p q (l1 i p hp) (l2 j q hq) e
    have h2 : i < w1.length := (List.getElem?_eq_some_iff.mp hp).1
    omega
/-- what holds all along the law -/
def LXt (D : va_G) (sa : Nat → Nat) (cc : cT) (A : Nat → Prop) (p : Program) (s : State) (m : MethodId) (c : Code) (args : Array Value) (b L : Nat) (xs : Nat → Int32) : Prop := xC cL_law 4 RL wsL_law D sa cc A p s m c args ∧ (∀ q, s.heap.size ≤ q → A q) ∧ va_X b L xs s s.heap ∧ b < s.heap.size ∧ ¬ A b ∧ L ≤ 3072 ∧ va_Nw clN s
/-- the law's locals at call n -/
abbrev lvL (a0 x0 b n : Nat) : List (Nat × Value) := [(3, .int (nI (6 * n))), (2, .ref a0), (1, .ref x0), (0, .ref b)]
/-- behind n calls -/
def LSt (D : va_G) (ad sa : Nat → Nat) (cc : cT) (a : Nat → Nat) (A : Nat → Prop) (s : State) (b n : Nat) (tt : tT) (X : xS) (M : mS) (H : Heap) (locs : List Loc) (ls : Array Slot) : Prop := INV n tt X M ∧ tt.1 ≤ n ∧ (∃ (w : Nat → Nat → Int32) (S : Nat → Int32), LWd D (xW ad sa cc tt X w) (mW cc.1 a M S) A H) ∧ va_S A s.heap H locs ∧ lv_has ls 4 (lvL (a 0) (ad 0) b n)
/-- the walk goes on from the loop's head behind n calls -/
def LKt (p : Program) (l : Launch) (e : Env) (s : State) (m : MethodId) (args : Array Value) (below : List Frame) (meth : Method) (c : Code) (Q : State → Prop) (D : va_G) (ad sa : Nat → Nat) (cc : cT) (a : Nat → Nat) (A : Nat → Prop) (b n : Nat) : Prop := ∀ (tt : tT) (X : xS) (M : mS) (H : Heap) (locs : List Loc) (ls : Array Slot), LSt D ad sa cc a A s b n tt X M H locs ls → W p l e room_1 s m args below meth c H locs (76 + 3 * n) (2571 + 102 * n) Q (F0 m 18 ls [])
section lrows
variable {p : Program} {l : Launch} {e : Env} {s : State} {m : MethodId} {args : Array Value} {below : List Frame} {meth : Method} {c : Code} {H : Heap} {locs : List Loc} {cells slots : Nat} {Q : State → Prop} {D : va_G} {ad sa : Nat → Nat} {cc : cT} {a : Nat → Nat} {tt : tT} {A : Nat → Prop} {X : xS} {M : mS} {pc : Nat} {ls : Array Slot} {rest : List Value} {b L n : Nat} {xs : Nat → Int32} {w : Nat → Nat → Int32} {S : Nat → Int32} {w2 : va_W}
/-- a number of the script -/
theorem lr_arg (hC : LXt D sa cc A p s m c args b L xs) (hS : va_S A s.heap H locs) (hl : lv_has ls 4 (lvL (a 0) (ad 0) b n)) (j : Nat) {z : Int} (hz : Int32.ofInt z = nI j) (hj : 6 * n + j < L) (d0 : decode cL_law pc = .ok (.aload_n 0, 1)) (d1 : decode cL_law (pc + 1) = .ok (.iload_n 3, 1)) (d2 : decode cL_law (pc + 2) = .ok (.iconst z, 1)) (d3 : decode cL_law (pc + 3) = .ok (.iadd, 1)) (d4 : decode cL_law (pc + 4) = .ok (.iaload, 1)) (kk : W p l e room_1 s m args below meth c H locs cells slots Q (F0 m (pc + 5) ls (.int (xs (6 * n + j)) :: rest))) : W p l e room_1 s m args below meth c H locs cells slots Q (F0 m pc ls rest) := by
  obtain ⟨C, hA, hX, hbl, hbA, hL, hN⟩ := hC
  refine lv_aload_n C.1 C.2.1 d0 rfl (lv_at hl 3 rfl) ?_
  refine lv_iload_n C.1 C.2.1 d1 rfl (lv_at hl 0 rfl) ?_
  refine lv_iconst (v := nI j) C.1 C.2.1 d2 hz ?_
  refine lv_iadd C.1 C.2.1 d3 ?_
  rw [nI_add]
  refine va_sld C.1 C.2.1 hX hbl hbA hS (vp_in_nI hj (by omega)) d4 ?_
  rw [nI_clamp (by omega)]
  exact kk
/-- a call on the class -/
theorem lr_X (hC : LXt D sa cc A p s m c args b L xs) (G : LWd D (xW ad sa cc tt X w) w2 A H) (hS : va_S A s.heap H locs) {y : MethodName} {ws : List Cond} {rm : Room} {av : List Value} {rX : Int32 × xS} (hM : xM l D ad sa cc tt y ws rm (.ref (ad 0) :: av) X rX) {index k maxL : Nat} {bytes : ByteArray} {ret : Option FieldType} (cw : CallW room_1 s args RL RX8 index y bytes maxL ret ws rm 0 0 k) (hn : av.length = k) (hl : ls.size = 4) {st : List Value} (hst : st = av.reverse ++ .ref (ad 0) :: rest) (hW : (rest.map fun v => v.category).sum ≤ 8) (hdg : decode cL_law pc = .ok (.invokevirtual index, 3)) (hf : cells ≤ 600000 ∧ slots ≤ 7302250) (kk : ∀ (H1 : Heap) (locs1 : List Loc) (w1 : Nat → Nat → Int32), LWd D (xW ad sa cc tt rX.2 w1) w2 A H1 → va_S A s.heap H1 locs1 → W p l e room_1 s m args below meth c H1 locs1 cells slots Q (F0 m (pc + 3) ls (.int rX.1 :: rest))) : W p l e room_1 s m args below meth c H locs cells slots Q (F0 m pc ls st) := by
  obtain ⟨C, hA, -⟩ := hC
  refine va_calli (A0 := A) (A1 := va_A (xW ad sa cc tt X w) H.size) (va_runV (As := av) (rest := rest) ⟨C.1, C.2.1, C.2.2.1, C.2.2.2.1, C.2.2.2.2.1⟩ (hM H.size w) cw ⟨xr_blind _ _ _ _, va_recv C.2.2.2.2.2.1 G.1.1 (ci := 7) (q0 := 0) rfl ((xW_get ad sa cc tt X w (by decide)).trans (by rw [xW_c (show kW 0 by decide).1])), xr_pre C hA G.1.1 G.2.1.1 hS _⟩ rfl hn hl hst (lv_room hW) hdg hf) hS (fun q _ h => LWd_free G hS hA q h) (LWd_free G hS hA) (fun r u t9 H1 locs1 ht hvm hw hB hz1 hk1 hS1 => ?_)
  obtain ⟨hP1, hK1, hD1⟩ := hB
  rw [ht] at hP1
  subst hw
  exact kk H1 locs1 u (LWd_step G hS hA hk1 hP1 hD1) hS1
/-- a call on the reference -/
theorem lr_M (hC : LXt D sa cc A p s m c args b L xs) (G : LWd D w2 (mW cc.1 a M S) A H) (hS : va_S A s.heap H locs) {y : MethodName} {ws : List Cond} {rm : Room} {av : List Value} {rM : Int32 × mS} (hM : mM l D cc.1 a y ws rm av M rM) {index k maxL : Nat} {bytes : ByteArray} {ret : Option FieldType} (cw : CallW room_1 s args RL RX9 index y bytes maxL ret ws rm 0 0 k) (hn : av.length = k) (hl : ls.size = 4) {st : List Value} (hst : st = av.reverse ++ .ref (a 0) :: rest) (hW : (rest.map fun v => v.category).sum ≤ 8) (hdg : decode cL_law pc = .ok (.invokevirtual index, 3)) (hf : cells ≤ 600000 ∧ slots ≤ 7302250) (kk : ∀ (H1 : Heap) (locs1 : List Loc) (S1 : Nat → Int32), LWd D w2 (mW cc.1 a rM.2 S1) A H1 → va_S A s.heap H1 locs1 → W p l e room_1 s m args below meth c H1 locs1 cells slots Q (F0 m (pc + 3) ls (.int rM.1 :: rest))) : W p l e room_1 s m args below meth c H locs cells slots Q (F0 m pc ls st) := by
  obtain ⟨C, hA, -⟩ := hC
  have G := LWd_swap G
  have hK9 : va_K D vwCl [(cc.1, .int)] s := C.2.2.2.2.2.1.sub [0] rfl
  refine va_calli (A0 := A) (A1 := va_A (mW cc.1 a M S) H.size) (va_runV (As := av) (rest := rest) ⟨C.1, C.2.1, C.2.2.1, C.2.2.2.1, C.2.2.2.2.1⟩ (hM H.size S) cw ⟨mr_blind _ _ _ _, va_recv hK9 G.1.1 (ci := 8) (q0 := 0) rfl rfl, fun U hU hW => ⟨rfl, by rw [hU], by rw [hU]; exact G.1.1, va_K.moved hW.alike hK9, G.2.1.1.weaken (fun _ _ _ _ => trivial)⟩⟩ rfl hn hl hst (lv_room hW) hdg hf) hS (fun q _ h => LWd_free G hS hA q h) (LWd_free G hS hA) (fun r u t9 H1 locs1 ht hvm hw hB hz1 hk1 hS1 => ?_)
  obtain ⟨hP1, hK1, hD1⟩ := hB
  rw [ht] at hP1
  subst hw
  exact kk H1 locs1 u (LWd_swap (LWd_step G hS hA hk1 hP1 hD1)) hS1
/-- the end of a call: six ints on -/
theorem lr_end (hC : LXt D sa cc A p s m c args b L xs) (ih : LKt p l e s m args below meth c Q D ad sa cc a A b (n + 1)) (hI : INV (n + 1) tt X M) (ht : tt.1 ≤ n + 1) (G : LWd D (xW ad sa cc tt X w) (mW cc.1 a M S) A H) (hS : va_S A s.heap H locs) (hl : lv_has ls 4 (lvL (a 0) (ad 0) b n)) : W p l e room_1 s m args below meth c H locs (76 + 3 * (n + 1)) (2571 + 102 * (n + 1)) Q (F0 m 1401 ls []) := by
  obtain ⟨C, -⟩ := hC
  refine lv_iinc (v := nI (6 * (n + 1))) (k := 0) (lv' := lvL (a 0) (ad 0) b (n + 1)) C.1 C.2.1 dL_law_1401 hl rfl (by show nI (6 * n) + nI 6 = nI (6 * (n + 1)); rw [nI_add]; rfl) (by decide) rfl (fun ls hl => ?_)
  refine lv_goto (tgt := 18) C.1 C.2.1 dL_law_1404 (by decide) ?_
  exact ih tt X M H locs ls ⟨hI, ht, ⟨w, S, G⟩, hS, hl⟩
/-- the two answers are the same -/
theorem lr_cmp (hC : LXt D sa cc A p s m c args b L xs) (ih : LKt p l e s m args below meth c Q D ad sa cc a A b (n + 1)) {rX : Int32 × xS} {rM : Int32 × mS} {k : Nat} (hk : k ≤ n + 1) (hI : AL k tt rX rM) (ht : tt.1 ≤ n + 1) (G : LWd D (xW ad sa cc tt rX.2 w) (mW cc.1 a rM.2 S) A H) (hS : va_S A s.heap H locs) (hl : lv_has ls 4 (lvL (a 0) (ad 0) b n)) (hc : cells ≤ 76 + 3 * (n + 1)) (hs : slots ≤ 2571 + 102 * (n + 1)) {off : Int} (hdg : decode cL_law pc = .ok (.if_icmp .eq off, 3)) (hto : (pc : Int) + off = (1401 : Nat)) : W p l e room_1 s m args below meth c H locs cells slots Q (F0 m pc ls [.int rM.1, .int rX.1]) := by
  refine lv_icmp_eq (tgt := 1401) hC.1.1 hC.1.2.1 hdg hto (fun _ => ?_) (fun c9 => absurd hI.1 c9)
  exact W.widen hc hs (lr_end hC ih (INV_n hI.2 hk) ht G hS hl)
end lrows
