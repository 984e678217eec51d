/-! what stands at a place, as a hypothesis of a contract -/
theorem xE_c {ad sa ta : Nat → Nat} {cc : cT} {p : Nat} (h : kd p = 0) {x : Nat → Int32} : xCell ad sa ta cc p x = .inr (0, eF ad ta p x) := by unfold xCell; rw [h]; rfl
theorem xL_c {ad sa ta : Nat → Nat} {cc : cT} {p : Nat} (h : kd p = 1) {x : Nat → Int32} : xCell ad sa ta cc p x = .inr (1, lF ad p x) := by unfold xCell; rw [h]; rfl
theorem xD_c {ad sa ta : Nat → Nat} {cc : cT} {p : Nat} (h : kd p = 2) {x : Nat → Int32} : xCell ad sa ta cc p x = .inr (2, dF ad sa p x) := by unfold xCell; rw [h]; rfl
theorem xR_c {ad sa ta : Nat → Nat} {cc : cT} {p : Nat} (h : kd p = 3) {x : Nat → Int32} : xCell ad sa ta cc p x = .inr (3, rwF ad p x) := by unfold xCell; rw [h]; rfl
theorem xS_c {ad sa ta : Nat → Nat} {cc : cT} {p : Nat} (h : kd p = 4) {x : Nat → Int32} : xCell ad sa ta cc p x = .inr (4, shF ad p x) := by unfold xCell; rw [h]; rfl
theorem xV_c {ad sa ta : Nat → Nat} {cc : cT} {p : Nat} (h : kd p = 6) {x : Nat → Int32} : xCell ad sa ta cc p x = .inr (6, voF ad p x) := by unfold xCell; rw [h]; rfl
theorem xW_c {ad sa ta : Nat → Nat} {cc : cT} {p : Nat} (h : kd p = 7) {x : Nat → Int32} : xCell ad sa ta cc p x = .inr (7, wcF ad x) := by unfold xCell; rw [h]; rfl
theorem xI_c {ad sa ta : Nat → Nat} {cc : cT} {q n : Nat} (h : kd q = 100 + n) (x : Nat → Int32) : xCell ad sa ta cc q x = .inl (cc.1, n, .inl x) := by
  unfold xCell
  split
  all_goals first | omega | skip
  rw [h, Nat.add_sub_cancel_left]
section xmore
variable {p : Program} {l : Launch} {e : Env} {R : Room} {s : State} {m : MethodId} {args : Array Value} {below : List Frame} {meth : Method} {c : Code} {H : Heap} {locs : List Loc} {cells slots : Nat} {Q : State → Prop} {code : ByteArray} {nL : Nat} {own : String} {Ts : List Cond} {D : va_G} {ad sa : Nat → Nat} {cc : cT} {t : tT} {A : Nat → Prop} {X : xS} {pc : Nat} {ls : Array Slot} {rest : List Value}
theorem xr_len (C : xC code nL own Ts D sa cc A p s m c args) (G : xG D ad sa cc t A s.heap H locs X) {q n : Nat} (hq : q < 62) (hc : xCell ad sa t.2.1 cc q (X q) = .inl (cc.1, n, .inl (X q))) (hdg : decode code pc = .ok (.arraylength, 1)) (kk : W p l e R s m args below meth c H locs cells slots Q (F0 m (pc + 1) ls (.int (nI n) :: rest))) : W p l e R s m args below meth c H locs cells slots Q (F0 m pc ls (.ref (ad q) :: rest)) := by
  obtain ⟨w, hP, hD, hS⟩ := G
  exact va_alen (ws := xW ad sa cc t X w) C.1 C.2.1 C.2.2.2.2.2.1 hP q 0 ((xW_get ad sa cc t X w hq).trans (show some (ad q, xCell ad sa t.2.1 cc q (X q)) = some (ad q, .inl (cc.1, n, .inl (X q))) by rw [hc])) rfl rfl hdg kk
theorem xG_S (G : xG D ad sa cc t A s.heap H locs X) : va_S A s.heap H locs := by
  obtain ⟨w, hP, hD, hS⟩ := G
  exact hS
theorem xr_zld (C : xC code nL own Ts D sa cc A p s m c args) (G : xG D ad sa cc t A s.heap H locs X) {i : Int32} (e0 : Nat) (hi : i = nI e0) (he : e0 < 240) (hdg : decode code pc = .ok (.baload, 1)) (kk : W p l e R s m args below meth c H locs cells slots Q (F0 m (pc + 1) ls (.int (X 45 e0) :: rest))) : W p l e R s m args below meth c H locs cells slots Q (F0 m pc ls (.int i :: .ref (ad 45) :: rest)) := by
  obtain ⟨w, hP, hD, hS⟩ := G
  subst hi
  refine va_zald (ws := xW ad sa cc t X w) C.1 C.2.1 C.2.2.2.2.2.1 hP 45 1 ((xW_get ad sa cc t X w (by decide)).trans rfl) rfl (vp_in_nI he (by decide)) hdg ?_
  rw [nI_clamp (by omega)]
  exact kk
theorem xr_zst (C : xC code nL own Ts D sa cc A p s m c args) (G : xG D ad sa cc t A s.heap H locs X) {i x : Int32} (e0 : Nat) (hi : i = nI e0) (he : e0 < 240) (hx : x = 0 ∨ x = 1) (hdg : decode code pc = .ok (.bastore, 1)) (kk : ∀ (H1 : Heap) (locs1 : List Loc), xG D ad sa cc t A s.heap H1 locs1 (mU X 45 e0 x) → W p l e R s m args below meth c H1 locs1 cells slots Q (F0 m (pc + 1) ls rest)) : W p l e R s m args below meth c H locs cells slots Q (F0 m pc ls (.int x :: .int i :: .ref (ad 45) :: rest)) := by
  obtain ⟨w, hP, hD, hS⟩ := G
  subst hi
  have hn : vp_nar .boolean x = x := by rcases hx with rfl | rfl <;> rfl
  refine va_zast (ws := xW ad sa cc t X w) C.1 C.2.1 C.2.2.2.2.2.1 hP hD hS 45 1 ((xW_get ad sa cc t X w (by decide)).trans rfl) rfl (vp_in_nI he (by decide)) hdg (fun H1 locs1 hP hD hS => ?_)
  rw [nI_clamp (by omega), hn, xW_set ad sa cc t X w (by decide : 45 < 62) (show xCell ad sa t.2.1 cc 45 (upd (X 45) e0 x) = .inl (cc.2.1, 240, .inl (upd (X 45) e0 x)) from rfl)] at hP hD
  exact kk H1 locs1 ⟨w, hP, hD, hS⟩
theorem rT_1 {ta : Nat → Nat} {v : Int32} (h : v = 1) : rT ta v = .ref (ta 1) := by
  subst h
  exact if_neg (by decide)
end xmore
