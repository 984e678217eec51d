/-! the texts' cells -/
theorem tW_len (cc : cT) (t : tT) (w : Nat → Nat → Int32) (n : Nat) : (tW cc t w n).length = 3 * n := by
  induction n with
  | zero => rfl
  | succ n ih => unfold tW; rw [List.length_append, ih]; show 3 * n + 3 = 3 * (n + 1); omega
theorem tW_get (cc : cT) (t : tT) (w : Nat → Nat → Int32) (n : Nat) {i j : Nat} (hi : i < n) (hj : j < 3) : (tW cc t w n)[3 * i + j]? = (tW1 cc t w i)[j]? := by
  induction n with
  | zero => exact absurd hi (Nat.not_lt_zero _)
  | succ n ih =>
    unfold tW
    by_cases e : i = n
    · subst e
      rw [List.getElem?_append_right (by rw [tW_len]; omega), tW_len]
      congr 1
      omega
    · rw [List.getElem?_append_left (by rw [tW_len]; omega), ih (by omega)]
theorem tW_set (cc : cT) (t : tT) (w : Nat → Nat → Int32) (n : Nat) {i : Nat} (hi : i < n) (f : Nat → Int32) : (tW cc t w n).set (3 * i + 2) (t.2.2.2.1 i, .inl (cc.1, t.2.2.2.2.1 i, .inl f)) = tW cc t (va_up w i f) n := by
  induction n with
  | zero => exact absurd hi (Nat.not_lt_zero _)
  | succ n ih =>
    unfold tW
    by_cases e : i = n
    · subst e
      have h0 : ∀ m, m ≤ i → tW cc t (va_up w i f) m = tW cc t w m := by
        intro m
        induction m with
        | zero => intro _; rfl
        | succ m ihm =>
          intro hm
          unfold tW
          rw [ihm (by omega)]
          unfold tW1
          rw [va_up_ne w f (show m ≠ i by omega)]
      rw [List.set_append_right _ _ (by rw [tW_len]; omega), tW_len, h0 i (Nat.le_refl _), show 3 * i + 2 - 3 * i = 2 by omega]
      congr 1
      unfold tW1
      rw [va_up_self]
      rfl
    · rw [List.set_append_left _ _ (by rw [tW_len]; omega), ih (by omega)]
      congr 1
      unfold tW1
      rw [va_up_ne w f (show n ≠ i from fun h => e h.symm)]
theorem xT_get (ad sa : Nat → Nat) (cc : cT) (t : tT) (X : xS) (w : Nat → Nat → Int32) {i j : Nat} (hi : i < t.1) (hj : j < 3) : (xW ad sa cc t X w)[62 + (3 * i + j)]? = (tW1 cc t w i)[j]? := by
  unfold xW
  rw [List.getElem?_append_right (by rw [cW_len]; omega), cW_len, Nat.add_sub_cancel_left, tW_get cc t w t.1 hi hj]
theorem xT_set (ad sa : Nat → Nat) (cc : cT) (t : tT) (X : xS) (w : Nat → Nat → Int32) {i : Nat} (hi : i < t.1) (f : Nat → Int32) : (xW ad sa cc t X w).set (62 + (3 * i + 2)) (t.2.2.2.1 i, .inl (cc.1, t.2.2.2.2.1 i, .inl f)) = xW ad sa cc t X (va_up w i f) := by
  unfold xW
  rw [List.set_append_right _ _ (by rw [cW_len]; omega), cW_len, Nat.add_sub_cancel_left, tW_set cc t w t.1 hi f]
/-- the world while text i is worked out: W its waiting row -/
def xGi (D : va_G) (ad sa : Nat → Nat) (cc : cT) (t : tT) (A : Nat → Prop) (H0 H : Heap) (locs : List Loc) (X : xS) (w : Nat → Nat → Int32) (i : Nat) (W : Nat → Int32) : Prop := va_P D vwCl (xW ad sa cc t X (va_up w i W)) H ∧ va_D A (xW ad sa cc t X (va_up w i W)) ∧ va_S A H0 H locs
section trows
variable {p : Program} {l : Launch} {e : Env} {R : Room} {s : State} {m : MethodId} {args : Array Value} {below : List Frame} {meth : Method} {c : Code} {H : Heap} {locs : List Loc} {cells slots : Nat} {Q : State → Prop} {code : ByteArray} {nL : Nat} {own : String} {Ts : List Cond} {D : va_G} {ad sa : Nat → Nat} {cc : cT} {t : tT} {A : Nat → Prop} {X : xS} {pc : Nat} {ls : Array Slot} {rest : List Value} {w : Nat → Nat → Int32} {i : Nat} {V : Nat → Int32}
theorem tr_get (C : xC code nL own Ts D sa cc A p s m c args) (G : xGi D ad sa cc t A s.heap H locs X w i V) (hi : i < t.1) (hin : ∀ w ∈ u_ws RX6 TX6 2, w ∈ Ts) (k : Nat) (hk : k < 2) {index : Nat} {v : Value} (hlink : (Cond.fieldLink own index (TX6 k).1 (TX6 k).2.1 (TX6 k).2.2.1) ∈ Ts) (hv : ([.ref (t.2.2.1 i), .ref (t.2.2.2.1 i)] : List Value)[k]? = some v) (hdg : decode code pc = .ok (.getfield index, 3)) (kk : W p l e R s m args below meth c H locs cells slots Q (F0 m (pc + 3) ls (v :: rest))) : W p l e R s m args below meth c H locs cells slots Q (F0 m pc ls (.ref (t.2.1 i) :: rest)) :=
  va_get (D := D) (ci := 5) (v := v) (C := RX6) (T := TX6) (N := 2) (ws := xW ad sa cc t X (va_up w i V)) (fs := [.ref (t.2.2.1 i), .ref (t.2.2.2.1 i)]) C.1 C.2.1 C.2.2.2.2.1 hin C.2.2.2.1 C.2.2.2.2.2.1 G.1 (62 + (3 * i + 0)) ((xT_get ad sa cc t X _ hi (by decide)).trans rfl) rfl k hk (C.2.2.2.2.1 _ hlink) (fun x h => h) hv hdg kk
theorem tr_cld (C : xC code nL own Ts D sa cc A p s m c args) (G : xGi D ad sa cc t A s.heap H locs X w i V) (hi : i < t.1) {x : Int32} (e0 : Nat) (hx : x = nI e0) (he : e0 < t.2.2.2.2.1 i) (hn : t.2.2.2.2.1 i < 2 ^ 31) (hdg : decode code pc = .ok (.iaload, 1)) (kk : W p l e R s m args below meth c H locs cells slots Q (F0 m (pc + 1) ls (.int (t.2.2.2.2.2 i e0) :: rest))) : W p l e R s m args below meth c H locs cells slots Q (F0 m pc ls (.int x :: .ref (t.2.2.1 i) :: rest)) := by
  subst hx
  refine va_iald (ws := xW ad sa cc t X (va_up w i V)) C.1 C.2.1 C.2.2.2.2.2.1 G.1 (62 + (3 * i + 1)) 0 ((xT_get ad sa cc t X _ hi (by decide)).trans rfl) rfl (vp_in_nI he hn) hdg ?_
  rw [nI_clamp (Nat.lt_trans he hn)]
  exact kk
theorem tr_wld (C : xC code nL own Ts D sa cc A p s m c args) (G : xGi D ad sa cc t A s.heap H locs X w i V) (hi : i < t.1) {x : Int32} (e0 : Nat) (hx : x = nI e0) (he : e0 < t.2.2.2.2.1 i) (hn : t.2.2.2.2.1 i < 2 ^ 31) (hdg : decode code pc = .ok (.iaload, 1)) (kk : W p l e R s m args below meth c H locs cells slots Q (F0 m (pc + 1) ls (.int (V e0) :: rest))) : W p l e R s m args below meth c H locs cells slots Q (F0 m pc ls (.int x :: .ref (t.2.2.2.1 i) :: rest)) := by
  subst hx
  refine va_iald (ws := xW ad sa cc t X (va_up w i V)) C.1 C.2.1 C.2.2.2.2.2.1 G.1 (62 + (3 * i + 2)) 0 ((xT_get ad sa cc t X _ hi (by decide)).trans rfl) rfl (vp_in_nI he hn) hdg ?_
  rw [nI_clamp (Nat.lt_trans he hn), va_up_self]
  exact kk
theorem tr_wst (C : xC code nL own Ts D sa cc A p s m c args) (G : xGi D ad sa cc t A s.heap H locs X w i V) (hi : i < t.1) {x y : Int32} (e0 : Nat) (hx : x = nI e0) (he : e0 < t.2.2.2.2.1 i) (hn : t.2.2.2.2.1 i < 2 ^ 31) (hdg : decode code pc = .ok (.iastore, 1)) (kk : ∀ (H1 : Heap) (locs1 : List Loc), xGi D ad sa cc t A s.heap H1 locs1 X w i (upd V e0 y) → W p l e R s m args below meth c H1 locs1 cells slots Q (F0 m (pc + 1) ls rest)) : W p l e R s m args below meth c H locs cells slots Q (F0 m pc ls (.int y :: .int x :: .ref (t.2.2.2.1 i) :: rest)) := by
  subst hx
  have hpl : (xW ad sa cc t X (va_up w i V))[62 + (3 * i + 2)]? = some (t.2.2.2.1 i, .inl (cc.1, t.2.2.2.2.1 i, .inl V)) := (xT_get ad sa cc t X _ hi (by decide)).trans (by unfold tW1; rw [va_up_self]; rfl)
  refine va_iast (ws := xW ad sa cc t X (va_up w i V)) C.1 C.2.1 C.2.2.2.2.2.1 G.1 G.2.1 G.2.2 (62 + (3 * i + 2)) 0 hpl rfl (vp_in_nI he hn) hdg (fun H1 locs1 hP hD hS => ?_)
  rw [nI_clamp (Nat.lt_trans he hn), xT_set ad sa cc t X _ hi, bx_uu] at hP hD
  exact kk H1 locs1 ⟨hP, hD, hS⟩
theorem tr_len (C : xC code nL own Ts D sa cc A p s m c args) (G : xGi D ad sa cc t A s.heap H locs X w i V) (hi : i < t.1) (j : Nat) {q : Nat} (hj : j = 1 ∧ q = t.2.2.1 i ∨ j = 2 ∧ q = t.2.2.2.1 i) (hdg : decode code pc = .ok (.arraylength, 1)) (kk : W p l e R s m args below meth c H locs cells slots Q (F0 m (pc + 1) ls (.int (nI (t.2.2.2.2.1 i)) :: rest))) : W p l e R s m args below meth c H locs cells slots Q (F0 m pc ls (.ref q :: rest)) := by
  rcases hj with ⟨rfl, rfl⟩ | ⟨rfl, rfl⟩
  · exact va_alen (ws := xW ad sa cc t X (va_up w i V)) C.1 C.2.1 C.2.2.2.2.2.1 G.1 (62 + (3 * i + 1)) 0 ((xT_get ad sa cc t X _ hi (by decide)).trans rfl) rfl rfl hdg kk
  · exact va_alen (ws := xW ad sa cc t X (va_up w i V)) C.1 C.2.1 C.2.2.2.2.2.1 G.1 (62 + (3 * i + 2)) 0 ((xT_get ad sa cc t X _ hi (by decide)).trans rfl) rfl rfl hdg kk
theorem xGi_of (G : xG D ad sa cc t A s.heap H locs X) (i : Nat) : ∃ w V, xGi D ad sa cc t A s.heap H locs X w i V := by
  obtain ⟨w, hP, hD, hS⟩ := G
  refine ⟨w, w i, ?_⟩
  have e : va_up w i (w i) = w := funext fun j => by
    by_cases h : j = i
    · subst h; exact va_up_self _ _ _
    · exact va_up_ne _ _ h
  unfold xGi
  rw [e]
  exact ⟨hP, hD, hS⟩
theorem xGi_to (G : xGi D ad sa cc t A s.heap H locs X w i V) : xG D ad sa cc t A s.heap H locs X := ⟨_, G.1, G.2.1, G.2.2⟩
end trows
theorem tr_ps {p : Program} {l : Launch} {e : Env} {R : Room} {s : State} {m : MethodId} {args : Array Value} {below : List Frame} {meth : Method} {c : Code} {H : Heap} {locs : List Loc} {cells slots : Nat} {Q : State → Prop} {code : ByteArray} {nL : Nat} {own : String} {Ts : List Cond} {D : va_G} {ad sa : Nat → Nat} {cc : cT} {t : tT} {A : Nat → Prop} {X : xS} {pc : Nat} {ls : Array Slot} {rest : List Value} {w : Nat → Nat → Int32} {i : Nat} {V : Nat → Int32} (C : xC code nL own Ts D sa cc A p s m c args) (hA : ∀ q, s.heap.size ≤ q → A q) (G : xGi D ad sa cc t A s.heap H locs X w i V) {y : MethodName} {ws : List Cond} {rm : Room} {av : List Value} {r : Int32} (hM : sM l y ws rm av r) {index n maxL : Nat} {bytes : ByteArray} {ret : Option FieldType} (cw : CallB R s args own index y bytes maxL ret ws rm 0 0 n ∧ (Cond.static y).before args s = true) (hn : av.length = n) (hl : ls.size = nL) {st : List Value} (hst : st = av.reverse ++ rest) (hW : (rest.map fun v => v.category).sum ≤ 8) (hdg : decode code pc = .ok (.invokestatic index, 3)) (hf : cells ≤ R.cells ∧ slots ≤ R.slots) (kk : ∀ (H1 : Heap) (locs1 : List Loc), xGi D ad sa cc t A s.heap H1 locs1 X w i V → W p l e R s m args below meth c H1 locs1 cells slots Q (F0 m (pc + 3) ls (.int r :: rest))) : W p l e R s m args below meth c H locs cells slots Q (F0 m pc ls st) := by
  obtain ⟨hP, hD, hS⟩ := G
  refine va_calli (A0 := A) (A1 := va_A [] H.size) (va_runS (As := av) (rest := rest) ⟨C.1, C.2.1, C.2.2.1, C.2.2.2.1, C.2.2.2.2.1⟩ (hM H.size) cw ⟨fun b U g mk q => q, fun U hU hW => ⟨rfl, by show U.heap.size = _; rw [hU]⟩⟩ rfl hn hl hst (lv_room hW) hdg hf) hS (fun q _ h => xr_none hS hA q h) (xr_none hS hA) (fun r u tt H1 locs1 ht hvm hw hB hz1 hk1 hS1 => ?_)
  subst hw
  refine kk H1 locs1 ⟨va_P.kept hP (fun k q hq => hk1 q.1 (va_at.lt (hP k q hq)) ?_), hD, hS1⟩
  intro h
  rcases h with ⟨k, e, hk⟩ | h
  · simp at hk
  · exact absurd (va_at.lt (hP k q hq)) (Nat.not_lt.mpr h)
set_option maxRecDepth 100000 in
set_option maxHeartbeats 4000000 in
theorem ks_X6_joined (zl : Launch) (left : Int32) (sign : Int32) (right : Int32) : sM zl yX6_joined wsX6_joined ({ frames := 0, cells := 0, slots := 0, locals := 0 } : Room) [.int left, .int sign, .int right] (p6_joined left sign right) := by
  refine sM_of (own := RX6) (cc := cX6_joined) (nL := 3) (Or.inl rfl) (by decide) rfl rfl (Nat.le_of_ble_eq_true rfl) ?_
  intro zp ze zs zm zg zb zt zc zA H0 zQ C hA hret H locs ls hl G
  have hx := C.1
  have hb := C.2.1
  have hl : lv_has ls 3 [(0, .int left), (1, .int sign), (2, .int right)] := hl
  obtain ⟨rM, hF⟩ : ∃ X : Int32, X = p6_joined left sign right := ⟨_, rfl⟩
  rw [← hF] at hret
  unfold p6_joined at hF
  refine lv_iload_n hx hb dX6_joined_0 rfl (lv_at hl 1 rfl) ?_
  by_cases c1_37 : sign = 37
  · rw [if_pos c1_37] at hF
    refine lv_lookup (off := 176) (tgt := 177) hx hb dX6_joined_1 (by decide) (by rw [c1_37]; rfl) (by decide) ?_
    refine lv_iload_n hx hb dX6_joined_177 rfl (lv_at hl 2 rfl) ?_
    refine lv_if_ne (tgt := 185) hx hb dX6_joined_178 (by decide) (fun c178 => ?_) (fun c178 => ?_)
    · rw [if_neg c178] at hF
      refine lv_iload_n hx hb dX6_joined_185 rfl (lv_at hl 0 rfl) ?_
      refine lv_iload_n hx hb dX6_joined_186 rfl (lv_at hl 2 rfl) ?_
      refine lv_irem hx hb dX6_joined_187 (by assumption) ?_
      exact hret _ _ _ _ _ hF G dX6_joined_188
    · rw [if_pos c178] at hF
      refine lv_iconst (v := 0) hx hb dX6_joined_181 (by decide) ?_
      refine lv_goto (tgt := 188) hx hb dX6_joined_182 (by decide) ?_
      exact hret _ _ _ _ _ hF G dX6_joined_188
  · rw [if_neg c1_37] at hF
    by_cases c1_38 : sign = 38
    · rw [if_pos c1_38] at hF
      refine lv_lookup (off := 105) (tgt := 106) hx hb dX6_joined_1 (by decide) (by rw [c1_38]; rfl) (by decide) ?_
      refine lv_iload_n hx hb dX6_joined_106 rfl (lv_at hl 0 rfl) ?_
      refine lv_if_eq (tgt := 118) hx hb dX6_joined_107 (by decide) (fun c107 => ?_) (fun c107 => ?_)
      · rw [if_pos c107] at hF
        refine lv_iconst (v := 0) hx hb dX6_joined_118 (by decide) ?_
        exact hret _ _ _ _ _ hF G dX6_joined_119
      · rw [if_neg c107] at hF
        refine lv_iload_n hx hb dX6_joined_110 rfl (lv_at hl 2 rfl) ?_
        refine lv_if_eq (tgt := 118) hx hb dX6_joined_111 (by decide) (fun c111 => ?_) (fun c111 => ?_)
        · rw [if_pos c111] at hF
          refine lv_iconst (v := 0) hx hb dX6_joined_118 (by decide) ?_
          exact hret _ _ _ _ _ hF G dX6_joined_119
        · rw [if_neg c111] at hF
          refine lv_iconst (v := 1) hx hb dX6_joined_114 (by decide) ?_
          refine lv_goto (tgt := 119) hx hb dX6_joined_115 (by decide) ?_
          exact hret _ _ _ _ _ hF G dX6_joined_119
    · rw [if_neg c1_38] at hF
      by_cases c1_42 : sign = 42
      · rw [if_pos c1_42] at hF
        refine lv_lookup (off := 160) (tgt := 161) hx hb dX6_joined_1 (by decide) (by rw [c1_42]; rfl) (by decide) ?_
        refine lv_iload_n hx hb dX6_joined_161 rfl (lv_at hl 0 rfl) ?_
        refine lv_iload_n hx hb dX6_joined_162 rfl (lv_at hl 2 rfl) ?_
        refine lv_imul hx hb dX6_joined_163 ?_
        exact hret _ _ _ _ _ hF G dX6_joined_164
      · rw [if_neg c1_42] at hF
        by_cases c1_43 : sign = 43
        · rw [if_pos c1_43] at hF
          refine lv_lookup (off := 152) (tgt := 153) hx hb dX6_joined_1 (by decide) (by rw [c1_43]; rfl) (by decide) ?_
          refine lv_iload_n hx hb dX6_joined_153 rfl (lv_at hl 0 rfl) ?_
          refine lv_iload_n hx hb dX6_joined_154 rfl (lv_at hl 2 rfl) ?_
          refine lv_iadd hx hb dX6_joined_155 ?_
          exact hret _ _ _ _ _ hF G dX6_joined_156
        · rw [if_neg c1_43] at hF
          by_cases c1_45 : sign = 45
          · rw [if_pos c1_45] at hF
            refine lv_lookup (off := 156) (tgt := 157) hx hb dX6_joined_1 (by decide) (by rw [c1_45]; rfl) (by decide) ?_
            refine lv_iload_n hx hb dX6_joined_157 rfl (lv_at hl 0 rfl) ?_
            refine lv_iload_n hx hb dX6_joined_158 rfl (lv_at hl 2 rfl) ?_
            refine lv_isub hx hb dX6_joined_159 ?_
            exact hret _ _ _ _ _ hF G dX6_joined_160
          · rw [if_neg c1_45] at hF
            by_cases c1_47 : sign = 47
            · rw [if_pos c1_47] at hF
              refine lv_lookup (off := 164) (tgt := 165) hx hb dX6_joined_1 (by decide) (by rw [c1_47]; rfl) (by decide) ?_
              refine lv_iload_n hx hb dX6_joined_165 rfl (lv_at hl 2 rfl) ?_
              refine lv_if_ne (tgt := 173) hx hb dX6_joined_166 (by decide) (fun c166 => ?_) (fun c166 => ?_)
              · rw [if_neg c166] at hF
                refine lv_iload_n hx hb dX6_joined_173 rfl (lv_at hl 0 rfl) ?_
                refine lv_iload_n hx hb dX6_joined_174 rfl (lv_at hl 2 rfl) ?_
                refine lv_idiv hx hb dX6_joined_175 (by assumption) ?_
                exact hret _ _ _ _ _ hF G dX6_joined_176
              · rw [if_pos c166] at hF
                refine lv_iconst (v := 0) hx hb dX6_joined_169 (by decide) ?_
                refine lv_goto (tgt := 176) hx hb dX6_joined_170 (by decide) ?_
                exact hret _ _ _ _ _ hF G dX6_joined_176
            · rw [if_neg c1_47] at hF
              by_cases c1_60 : sign = 60
              · rw [if_pos c1_60] at hF
                refine lv_lookup (off := 119) (tgt := 120) hx hb dX6_joined_1 (by decide) (by rw [c1_60]; rfl) (by decide) ?_
                refine lv_iload_n hx hb dX6_joined_120 rfl (lv_at hl 0 rfl) ?_
                refine lv_iload_n hx hb dX6_joined_121 rfl (lv_at hl 2 rfl) ?_
                refine lv_icmp_ge (tgt := 129) hx hb dX6_joined_122 (by decide) (fun c122 => ?_) (fun c122 => ?_)
                · rw [if_pos c122] at hF
                  refine lv_iconst (v := 0) hx hb dX6_joined_129 (by decide) ?_
                  exact hret _ _ _ _ _ hF G dX6_joined_130
                · rw [if_neg c122] at hF
                  refine lv_iconst (v := 1) hx hb dX6_joined_125 (by decide) ?_
                  refine lv_goto (tgt := 130) hx hb dX6_joined_126 (by decide) ?_
                  exact hret _ _ _ _ _ hF G dX6_joined_130
              · rw [if_neg c1_60] at hF
                by_cases c1_61 : sign = 61
                · rw [if_pos c1_61] at hF
                  refine lv_lookup (off := 130) (tgt := 131) hx hb dX6_joined_1 (by decide) (by rw [c1_61]; rfl) (by decide) ?_
                  refine lv_iload_n hx hb dX6_joined_131 rfl (lv_at hl 0 rfl) ?_
                  refine lv_iload_n hx hb dX6_joined_132 rfl (lv_at hl 2 rfl) ?_
                  refine lv_icmp_ne (tgt := 140) hx hb dX6_joined_133 (by decide) (fun c133 => ?_) (fun c133 => ?_)
                  · rw [if_neg c133] at hF
                    refine lv_iconst (v := 0) hx hb dX6_joined_140 (by decide) ?_
                    exact hret _ _ _ _ _ hF G dX6_joined_141
                  · rw [if_pos c133] at hF
                    refine lv_iconst (v := 1) hx hb dX6_joined_136 (by decide) ?_
                    refine lv_goto (tgt := 141) hx hb dX6_joined_137 (by decide) ?_
                    exact hret _ _ _ _ _ hF G dX6_joined_141
                · rw [if_neg c1_61] at hF
                  by_cases c1_62 : sign = 62
                  · rw [if_pos c1_62] at hF
                    refine lv_lookup (off := 141) (tgt := 142) hx hb dX6_joined_1 (by decide) (by rw [c1_62]; rfl) (by decide) ?_
                    refine lv_iload_n hx hb dX6_joined_142 rfl (lv_at hl 0 rfl) ?_
                    refine lv_iload_n hx hb dX6_joined_143 rfl (lv_at hl 2 rfl) ?_
                    refine lv_icmp_le (tgt := 151) hx hb dX6_joined_144 (by decide) (fun c144 => ?_) (fun c144 => ?_)
                    · rw [if_pos c144] at hF
                      refine lv_iconst (v := 0) hx hb dX6_joined_151 (by decide) ?_
                      exact hret _ _ _ _ _ hF G dX6_joined_152
                    · rw [if_neg c144] at hF
                      refine lv_iconst (v := 1) hx hb dX6_joined_147 (by decide) ?_
                      refine lv_goto (tgt := 152) hx hb dX6_joined_148 (by decide) ?_
                      exact hret _ _ _ _ _ hF G dX6_joined_152
                  · rw [if_neg c1_62] at hF
                    by_cases c1_124 : sign = 124
                    · rw [if_pos c1_124] at hF
                      refine lv_lookup (off := 91) (tgt := 92) hx hb dX6_joined_1 (by decide) (by rw [c1_124]; rfl) (by decide) ?_
                      refine lv_iload_n hx hb dX6_joined_92 rfl (lv_at hl 0 rfl) ?_
                      refine lv_if_ne (tgt := 100) hx hb dX6_joined_93 (by decide) (fun c93 => ?_) (fun c93 => ?_)
                      · rw [if_neg c93] at hF
                        refine lv_iconst (v := 1) hx hb dX6_joined_100 (by decide) ?_
                        refine lv_goto (tgt := 105) hx hb dX6_joined_101 (by decide) ?_
                        exact hret _ _ _ _ _ hF G dX6_joined_105
                      · rw [if_pos c93] at hF
                        refine lv_iload_n hx hb dX6_joined_96 rfl (lv_at hl 2 rfl) ?_
                        refine lv_if_eq (tgt := 104) hx hb dX6_joined_97 (by decide) (fun c97 => ?_) (fun c97 => ?_)
                        · rw [if_pos c97] at hF
                          refine lv_iconst (v := 0) hx hb dX6_joined_104 (by decide) ?_
                          exact hret _ _ _ _ _ hF G dX6_joined_105
                        · rw [if_neg c97] at hF
                          refine lv_iconst (v := 1) hx hb dX6_joined_100 (by decide) ?_
                          refine lv_goto (tgt := 105) hx hb dX6_joined_101 (by decide) ?_
                          exact hret _ _ _ _ _ hF G dX6_joined_105
                    · rw [if_neg c1_124] at hF
                      refine lv_lookup (tgt := 189) (off := 188) hx hb dX6_joined_1 (by decide) (by simp [Op.lookupswitch.offset, List.find?, show ¬ (37 : Int) = sign.toInt from fun e9 => c1_37 (Int32.toInt_inj.mp e9.symm), show ¬ (38 : Int) = sign.toInt from fun e9 => c1_38 (Int32.toInt_inj.mp e9.symm), show ¬ (42 : Int) = sign.toInt from fun e9 => c1_42 (Int32.toInt_inj.mp e9.symm), show ¬ (43 : Int) = sign.toInt from fun e9 => c1_43 (Int32.toInt_inj.mp e9.symm), show ¬ (45 : Int) = sign.toInt from fun e9 => c1_45 (Int32.toInt_inj.mp e9.symm), show ¬ (47 : Int) = sign.toInt from fun e9 => c1_47 (Int32.toInt_inj.mp e9.symm), show ¬ (60 : Int) = sign.toInt from fun e9 => c1_60 (Int32.toInt_inj.mp e9.symm), show ¬ (61 : Int) = sign.toInt from fun e9 => c1_61 (Int32.toInt_inj.mp e9.symm), show ¬ (62 : Int) = sign.toInt from fun e9 => c1_62 (Int32.toInt_inj.mp e9.symm), show ¬ (124 : Int) = sign.toInt from fun e9 => c1_124 (Int32.toInt_inj.mp e9.symm)]) (by decide) ?_
                      refine lv_iconst (v := 0) hx hb dX6_joined_189 (by decide) ?_
                      exact hret _ _ _ _ _ hF G dX6_joined_190
/-! a text worked out: one step, no matter what stood in the waiting row -/
set_option maxRecDepth 100000 in
set_option maxHeartbeats 4000000 in
theorem kx6_valueFor (zl : Launch) (D : va_G) (ad sa : Nat → Nat) (cc : cT) (tt : tT) (X : xS) (ti : Nat) (a b c : Int32) (hi : ti < tt.1) (hn : tt.2.2.2.2.1 ti < 2 ^ 31) : xM zl D ad sa cc tt yX6_valueFor wsX6_valueFor ({ frames := 1, cells := 0, slots := 0, locals := 22 } : Room) [.ref (tt.2.1 ti), .int a, .int b, .int c] X (tE tt ti a b c, X) := by
  refine xM_of (code := cX6_valueFor) (nL := 7) (own := RX6) (by decide) rfl rfl (Nat.le_of_ble_eq_true rfl) ?_
  intro zp ze zs zm zg zb zt zc zA zQ C hA hret H locs ls hl G
  have hx := C.1
  have hb := C.2.1
  have hl : lv_has ls 7 [(0, .ref (tt.2.1 ti)), (1, .int a), (2, .int b), (3, .int c)] := hl
  obtain ⟨rM, hF⟩ : ∃ Z : Int32, Z = tE tt ti a b c := ⟨_, rfl⟩
  rw [← hF] at hret
  obtain ⟨w0, V, G⟩ := xGi_of G ti
  rw [tE_any tt ti a b c V] at hF
  unfold x6_valueFor at hF
  refine lv_iconst (v := 0) hx hb dX6_valueFor_0 (by decide) ?_
  refine lv_istore (lv' := [(4, .int 0), (0, .ref (tt.2.1 ti)), (1, .int a), (2, .int b), (3, .int c)]) hx hb dX6_valueFor_1 hl (by decide) rfl (fun ls hl => ?_)
  refine lv_iconst (v := 0) hx hb dX6_valueFor_3 (by decide) ?_
  refine lv_istore (lv' := [(5, .int 0), (4, .int 0), (0, .ref (tt.2.1 ti)), (1, .int a), (2, .int b), (3, .int c)]) hx hb dX6_valueFor_4 hl (by decide) rfl (fun ls hl => ?_)
  obtain ⟨kix, ksx, V6x, hX6⟩ : ∃ (kix : Nat) (ksx : Nat) (V6x : sS), (kix, ksx, V6x) = x6_valueFor_L6 tt ti a b c (tt.2.2.2.2.1 ti + 1) 0 0 V := ⟨_, _, _, rfl⟩
  rw [lt3_e hX6] at hF
  have hrest6 : ∀ (H : Heap) (locs : List Loc) (ls : Array Slot), lv_has ls 7 [(0, .ref (tt.2.1 ti)), (1, .int a), (2, .int b), (3, .int c), (4, .int (nI ksx)), (5, .int (nI kix))] → xGi D ad sa cc tt zA zs.heap H locs X w0 ti V6x → W zp zl ze ({ frames := 1, cells := 0, slots := 0, locals := 22 } : Room) zs zm zg zb zt zc H locs 0 0 zQ (F0 zm 174 ls []) := by
    intro H locs ls hl G
    refine lv_iload hx hb dX6_valueFor_174 (lv_at hl 4 rfl) ?_
    refine lv_if_le (tgt := 188) hx hb dX6_valueFor_176 (by decide) (fun c176 => ?_) (fun c176 => ?_)
    · rw [if_pos c176] at hF
      refine lv_iconst (v := 0) hx hb dX6_valueFor_188 (by decide) ?_
      exact hret _ _ _ _ _ _ (by rw [hF]) (xGi_to G) dX6_valueFor_189
    · rw [if_neg c176] at hF
      have hk6 := vf_le hn hX6
      have hk5 : 0 < ksx := Nat.pos_of_ne_zero (fun e9 => c176 (by rw [e9]; decide))
      refine lv_aload_n hx hb dX6_valueFor_179 rfl (lv_at hl 0 rfl) ?_
      refine tr_get C G hi (fun _ h => List.mem_cons_of_mem _ (List.mem_append_right _ h)) 1 (by decide) (show Cond.fieldLink RX6 28 "WheatCounts$Text" "waiting" "[I" ∈ _ by decide +kernel) rfl dX6_valueFor_180 ?_
      refine lv_iconst (v := 0) hx hb dX6_valueFor_183 (by decide) ?_
      refine tr_wld C G hi 0 rfl (by omega) hn dX6_valueFor_184 ?_
      refine lv_goto (tgt := 189) hx hb dX6_valueFor_185 (by decide) ?_
      exact hret _ _ _ _ _ _ (by rw [hF]) (xGi_to G) dX6_valueFor_189
  have hloop6 : ∀ (f : Nat) (ki : Nat) (ks : Nat) (V6 : sS), (ki ≤ tt.2.2.2.2.1 ti ∧ tt.2.2.2.2.1 ti < ki + f ∧ ks ≤ tt.2.2.2.2.1 ti) → (kix, ksx, V6x) = x6_valueFor_L6 tt ti a b c f ki ks V6 → ∀ (H : Heap) (locs : List Loc) (ls : Array Slot), lv_has ls 7 [(0, .ref (tt.2.1 ti)), (1, .int a), (2, .int b), (3, .int c), (4, .int (nI ks)), (5, .int (nI ki))] → xGi D ad sa cc tt zA zs.heap H locs X w0 ti V6 → W zp zl ze ({ frames := 1, cells := 0, slots := 0, locals := 22 } : Room) zs zm zg zb zt zc H locs 0 0 zQ (F0 zm 6 ls []) := by
    intro f
    induction f with
    | zero =>
      intro ki ks V6 hI hL6 H locs ls hl G
      exact absurd hI.2.1 (by omega)
    | succ f ih =>
      intro ki ks V6 hI hL6 H locs ls hl G
      rw [x6_valueFor_L6_s] at hL6
      refine lv_iload hx hb dX6_valueFor_6 (lv_at hl 5 rfl) ?_
      refine lv_aload_n hx hb dX6_valueFor_8 rfl (lv_at hl 0 rfl) ?_
      refine tr_get C G hi (fun _ h => List.mem_cons_of_mem _ (List.mem_append_right _ h)) 0 (by decide) (show Cond.fieldLink RX6 23 "WheatCounts$Text" "code" "[I" ∈ _ by decide +kernel) rfl dX6_valueFor_9 ?_
      refine tr_len C G hi 1 (Or.inl ⟨rfl, rfl⟩) dX6_valueFor_12 ?_
      refine lv_icmp_ge (tgt := 174) hx hb dX6_valueFor_13 (by decide) (fun c13 => ?_) (fun c13 => ?_)
      · rw [if_pos c13] at hL6
        cases hL6
        exact hrest6 _ _ _ (lv_sub hl [0, 1, 2, 3, 4, 5] rfl) G
      · rw [if_neg c13] at hL6
        have hk1 := lp_lt (n := tt.2.2.2.2.1 ti) rfl c13 hn (by omega)
        refine lv_aload_n hx hb dX6_valueFor_16 rfl (lv_at hl 0 rfl) ?_
        refine tr_get C G hi (fun _ h => List.mem_cons_of_mem _ (List.mem_append_right _ h)) 0 (by decide) (show Cond.fieldLink RX6 23 "WheatCounts$Text" "code" "[I" ∈ _ by decide +kernel) rfl dX6_valueFor_17 ?_
        refine lv_iload hx hb dX6_valueFor_20 (lv_at hl 5 rfl) ?_
        refine tr_cld C G hi ki rfl (by omega) hn dX6_valueFor_22 ?_
        refine lv_topi (fun x23 hx23 => ?_)
        rw [lt_e hx23] at hL6
        refine lv_istore (lv' := [(6, .int x23), (0, .ref (tt.2.1 ti)), (1, .int a), (2, .int b), (3, .int c), (4, .int (nI ks)), (5, .int (nI ki))]) hx hb dX6_valueFor_23 hl (by decide) rfl (fun ls hl => ?_)
        refine lv_iload hx hb dX6_valueFor_25 (lv_at hl 0 rfl) ?_
        refine lv_bipush (v := -3) hx hb dX6_valueFor_27 (by decide) ?_
        refine lv_icmp_lt (tgt := 87) hx hb dX6_valueFor_29 (by decide) (fun c29 => ?_) (fun c29 => ?_)
        · rw [if_pos c29] at hL6
          refine lv_iload hx hb dX6_valueFor_87 (lv_at hl 0 rfl) ?_
          refine lv_bipush (v := -33) hx hb dX6_valueFor_89 (by decide) ?_
          refine lv_icmp_ne (tgt := 128) hx hb dX6_valueFor_91 (by decide) (fun c91 => ?_) (fun c91 => ?_)
          · rw [if_neg c91] at hL6
            refine lv_iload hx hb dX6_valueFor_128 (lv_at hl 5 rfl) ?_
            refine lv_iconst (v := 1) hx hb dX6_valueFor_130 (by decide) ?_
            refine lv_icmp_le (tgt := 168) hx hb dX6_valueFor_131 (by decide) (fun c131 => ?_) (fun c131 => ?_)
            · rw [if_pos c131] at hL6
              refine lv_iinc (v := nI (ki + 1)) (lv' := [(5, .int (nI (ki + 1))), (6, .int x23), (0, .ref (tt.2.1 ti)), (1, .int a), (2, .int b), (3, .int c), (4, .int (nI ks))]) hx hb dX6_valueFor_168 hl (k := 6) rfl (nt_add rfl (show (1 : Int32) = nI 1 from rfl)) (by decide) rfl (fun ls hl => ?_)
              refine lv_goto (tgt := 6) hx hb dX6_valueFor_171 (by decide) ?_
              exact ih (ki + 1) ks V6 ⟨by omega, by omega, by omega⟩ hL6 _ _ _ (lv_sub hl [2, 3, 4, 5, 6, 0] rfl) G
            · rw [if_neg c131] at hL6
              have hk4 : 1 < ks := vf_1 c131
              refine lv_iinc (v := nI (ks - 1)) (lv' := [(4, .int (nI (ks - 1))), (6, .int x23), (0, .ref (tt.2.1 ti)), (1, .int a), (2, .int b), (3, .int c), (5, .int (nI ki))]) hx hb dX6_valueFor_134 hl (k := 5) rfl (nt_subi rfl (by omega)) (by decide) rfl (fun ls hl => ?_)
              refine lv_aload_n hx hb dX6_valueFor_137 rfl (lv_at hl 2 rfl) ?_
              refine tr_get C G hi (fun _ h => List.mem_cons_of_mem _ (List.mem_append_right _ h)) 1 (by decide) (show Cond.fieldLink RX6 28 "WheatCounts$Text" "waiting" "[I" ∈ _ by decide +kernel) rfl dX6_valueFor_138 ?_
              refine lv_iload hx hb dX6_valueFor_141 (lv_at hl 0 rfl) ?_
              refine lv_iconst (v := 1) hx hb dX6_valueFor_143 (by decide) ?_
              refine lv_isub hx hb dX6_valueFor_144 ?_
              refine lv_aload_n hx hb dX6_valueFor_145 rfl (lv_at hl 2 rfl) ?_
              refine tr_get C G hi (fun _ h => List.mem_cons_of_mem _ (List.mem_append_right _ h)) 1 (by decide) (show Cond.fieldLink RX6 28 "WheatCounts$Text" "waiting" "[I" ∈ _ by decide +kernel) rfl dX6_valueFor_146 ?_
              refine lv_iload hx hb dX6_valueFor_149 (lv_at hl 0 rfl) ?_
              refine lv_iconst (v := 1) hx hb dX6_valueFor_151 (by decide) ?_
              refine lv_isub hx hb dX6_valueFor_152 ?_
              refine tr_wld C G hi ((ks - 1) - 1) (nt_sub rfl rfl (by omega)) (by omega) hn dX6_valueFor_153 ?_
              refine lv_iload hx hb dX6_valueFor_154 (lv_at hl 1 rfl) ?_
              refine lv_ineg hx hb dX6_valueFor_156 ?_
              refine lv_aload_n hx hb dX6_valueFor_157 rfl (lv_at hl 2 rfl) ?_
              refine tr_get C G hi (fun _ h => List.mem_cons_of_mem _ (List.mem_append_right _ h)) 1 (by decide) (show Cond.fieldLink RX6 28 "WheatCounts$Text" "waiting" "[I" ∈ _ by decide +kernel) rfl dX6_valueFor_158 ?_
              refine lv_iload hx hb dX6_valueFor_161 (lv_at hl 0 rfl) ?_
              refine tr_wld C G hi (ks - 1) rfl (by omega) hn dX6_valueFor_163 ?_
              refine tr_ps C hA G (ks_X6_joined zl (V6 ((ks - 1) - 1)) (-x23) (V6 (ks - 1))) (va_cwS 3 C.2.2.2.2.1 gX6_valueFor_X6_joined rfl rfl rfl (by decide +kernel) ⟨Nat.le_of_ble_eq_true rfl, Nat.le_of_ble_eq_true rfl⟩) rfl hl.1 rfl (Nat.le_of_ble_eq_true rfl) dX6_valueFor_164 ⟨Nat.le_refl _, Nat.le_refl _⟩ (fun H locs G => ?_)
              refine tr_wst C G hi ((ks - 1) - 1) (nt_sub rfl rfl (by omega)) (by omega) hn dX6_valueFor_167 (fun H locs G => ?_)
              obtain ⟨V167, hV167⟩ : ∃ Z : sS, Z = upd V6 ((ks - 1) - 1) (p6_joined (V6 ((ks - 1) - 1)) (-x23) (V6 (ks - 1))) := ⟨_, rfl⟩
              rw [← hV167] at G
              rw [lt_e hV167] at hL6
              refine lv_iinc (v := nI (ki + 1)) (lv' := [(5, .int (nI (ki + 1))), (4, .int (nI (ks - 1))), (6, .int x23), (0, .ref (tt.2.1 ti)), (1, .int a), (2, .int b), (3, .int c)]) hx hb dX6_valueFor_168 hl (k := 6) rfl (nt_add rfl (show (1 : Int32) = nI 1 from rfl)) (by decide) rfl (fun ls hl => ?_)
              refine lv_goto (tgt := 6) hx hb dX6_valueFor_171 (by decide) ?_
              exact ih (ki + 1) (ks - 1) V167 ⟨by omega, by omega, by omega⟩ hL6 _ _ _ (lv_sub hl [3, 4, 5, 6, 1, 0] rfl) G
          · rw [if_pos c91] at hL6
            refine lv_iload hx hb dX6_valueFor_94 (lv_at hl 5 rfl) ?_
            refine lv_if_le (tgt := 168) hx hb dX6_valueFor_96 (by decide) (fun c96 => ?_) (fun c96 => ?_)
            · rw [if_pos c96] at hL6
              refine lv_iinc (v := nI (ki + 1)) (lv' := [(5, .int (nI (ki + 1))), (6, .int x23), (0, .ref (tt.2.1 ti)), (1, .int a), (2, .int b), (3, .int c), (4, .int (nI ks))]) hx hb dX6_valueFor_168 hl (k := 6) rfl (nt_add rfl (show (1 : Int32) = nI 1 from rfl)) (by decide) rfl (fun ls hl => ?_)
              refine lv_goto (tgt := 6) hx hb dX6_valueFor_171 (by decide) ?_
              exact ih (ki + 1) ks V6 ⟨by omega, by omega, by omega⟩ hL6 _ _ _ (lv_sub hl [2, 3, 4, 5, 6, 0] rfl) G
            · rw [if_neg c96] at hL6
              have hk3 : 0 < ks := Nat.pos_of_ne_zero (fun e9 => c96 (by rw [e9]; decide))
              refine lv_aload_n hx hb dX6_valueFor_99 rfl (lv_at hl 1 rfl) ?_
              refine tr_get C G hi (fun _ h => List.mem_cons_of_mem _ (List.mem_append_right _ h)) 1 (by decide) (show Cond.fieldLink RX6 28 "WheatCounts$Text" "waiting" "[I" ∈ _ by decide +kernel) rfl dX6_valueFor_100 ?_
              refine lv_iload hx hb dX6_valueFor_103 (lv_at hl 5 rfl) ?_
              refine lv_iconst (v := 1) hx hb dX6_valueFor_105 (by decide) ?_
              refine lv_isub hx hb dX6_valueFor_106 ?_
              refine lv_aload_n hx hb dX6_valueFor_107 rfl (lv_at hl 1 rfl) ?_
              refine tr_get C G hi (fun _ h => List.mem_cons_of_mem _ (List.mem_append_right _ h)) 1 (by decide) (show Cond.fieldLink RX6 28 "WheatCounts$Text" "waiting" "[I" ∈ _ by decide +kernel) rfl dX6_valueFor_108 ?_
              refine lv_iload hx hb dX6_valueFor_111 (lv_at hl 5 rfl) ?_
              refine lv_iconst (v := 1) hx hb dX6_valueFor_113 (by decide) ?_
              refine lv_isub hx hb dX6_valueFor_114 ?_
              refine tr_wld C G hi (ks - 1) (nt_sub rfl rfl (by omega)) (by omega) hn dX6_valueFor_115 ?_
              obtain ⟨y124, hX124⟩ : ∃ (y124 : Int32), y124 = ((if (V6 (ks - 1)) = 0 then 1 else 0) : Int32) := ⟨_, rfl⟩
              rw [lt_e hX124] at hL6
              have hj124 : ∀ (H : Heap) (locs : List Loc) (ls : Array Slot), lv_has ls 7 [(0, .ref (tt.2.1 ti)), (1, .int a), (2, .int b), (3, .int c), (4, .int (nI ks)), (5, .int (nI ki)), (6, .int x23)] → xGi D ad sa cc tt zA zs.heap H locs X w0 ti V6 → W zp zl ze ({ frames := 1, cells := 0, slots := 0, locals := 22 } : Room) zs zm zg zb zt zc H locs 0 0 zQ (F0 zm 124 ls [.int y124, .int ((nI ks) - 1), .ref (tt.2.2.2.1 ti)]) := by
                intro H locs ls hl G
                refine tr_wst C G hi (ks - 1) (nt_sub rfl rfl (by omega)) (by omega) hn dX6_valueFor_124 (fun H locs G => ?_)
                obtain ⟨V124, hV124⟩ : ∃ Z : sS, Z = upd V6 (ks - 1) y124 := ⟨_, rfl⟩
                rw [← hV124] at G
                rw [lt_e hV124] at hL6
                refine lv_goto (tgt := 168) hx hb dX6_valueFor_125 (by decide) ?_
                refine lv_iinc (v := nI (ki + 1)) (lv' := [(5, .int (nI (ki + 1))), (0, .ref (tt.2.1 ti)), (1, .int a), (2, .int b), (3, .int c), (4, .int (nI ks)), (6, .int x23)]) hx hb dX6_valueFor_168 hl (k := 5) rfl (nt_add rfl (show (1 : Int32) = nI 1 from rfl)) (by decide) rfl (fun ls hl => ?_)
                refine lv_goto (tgt := 6) hx hb dX6_valueFor_171 (by decide) ?_
                exact ih (ki + 1) ks V124 ⟨by omega, by omega, by omega⟩ hL6 _ _ _ (lv_sub hl [1, 2, 3, 4, 5, 0] rfl) G
              refine lv_if_ne (tgt := 123) hx hb dX6_valueFor_116 (by decide) (fun c116 => ?_) (fun c116 => ?_)
              · rw [if_neg c116] at hX124
                refine lv_iconst (v := 0) hx hb dX6_valueFor_123 (by decide) ?_
                subst hX124
                exact hj124 _ _ _ (lv_sub hl [1, 2, 3, 4, 5, 6, 0] rfl) G
              · rw [if_pos c116] at hX124
                refine lv_iconst (v := 1) hx hb dX6_valueFor_119 (by decide) ?_
                refine lv_goto (tgt := 124) hx hb dX6_valueFor_120 (by decide) ?_
                subst hX124
                exact hj124 _ _ _ (lv_sub hl [1, 2, 3, 4, 5, 6, 0] rfl) G
        · rw [if_neg c29] at hL6
          refine lv_iload hx hb dX6_valueFor_32 (lv_at hl 5 rfl) ?_
          refine lv_aload_n hx hb dX6_valueFor_34 rfl (lv_at hl 1 rfl) ?_
          refine tr_get C G hi (fun _ h => List.mem_cons_of_mem _ (List.mem_append_right _ h)) 1 (by decide) (show Cond.fieldLink RX6 28 "WheatCounts$Text" "waiting" "[I" ∈ _ by decide +kernel) rfl dX6_valueFor_35 ?_
          refine tr_len C G hi 2 (Or.inr ⟨rfl, rfl⟩) dX6_valueFor_38 ?_
          refine lv_icmp_ge (tgt := 168) hx hb dX6_valueFor_39 (by decide) (fun c39 => ?_) (fun c39 => ?_)
          · rw [if_pos c39] at hL6
            refine lv_iinc (v := nI (ki + 1)) (lv' := [(5, .int (nI (ki + 1))), (6, .int x23), (0, .ref (tt.2.1 ti)), (1, .int a), (2, .int b), (3, .int c), (4, .int (nI ks))]) hx hb dX6_valueFor_168 hl (k := 6) rfl (nt_add rfl (show (1 : Int32) = nI 1 from rfl)) (by decide) rfl (fun ls hl => ?_)
            refine lv_goto (tgt := 6) hx hb dX6_valueFor_171 (by decide) ?_
            exact ih (ki + 1) ks V6 ⟨by omega, by omega, by omega⟩ hL6 _ _ _ (lv_sub hl [2, 3, 4, 5, 6, 0] rfl) G
          · rw [if_neg c39] at hL6
            have hk2 := lp_lt (n := tt.2.2.2.2.1 ti) rfl c39 hn (by omega)
            refine lv_aload_n hx hb dX6_valueFor_42 rfl (lv_at hl 1 rfl) ?_
            refine tr_get C G hi (fun _ h => List.mem_cons_of_mem _ (List.mem_append_right _ h)) 1 (by decide) (show Cond.fieldLink RX6 28 "WheatCounts$Text" "waiting" "[I" ∈ _ by decide +kernel) rfl dX6_valueFor_43 ?_
            refine lv_iload hx hb dX6_valueFor_46 (lv_at hl 5 rfl) ?_
            refine lv_iload hx hb dX6_valueFor_48 (lv_at hl 0 rfl) ?_
            obtain ⟨y80, hX80⟩ : ∃ (y80 : Int32), y80 = ((if x23 < 0 then (if x23 = (-1) then a else (if x23 = (-2) then b else c)) else x23) : Int32) := ⟨_, rfl⟩
            rw [lt_e hX80] at hL6
            have hj80 : ∀ (H : Heap) (locs : List Loc) (ls : Array Slot), lv_has ls 7 [(0, .ref (tt.2.1 ti)), (1, .int a), (2, .int b), (3, .int c), (4, .int (nI ks)), (5, .int (nI ki)), (6, .int x23)] → xGi D ad sa cc tt zA zs.heap H locs X w0 ti V6 → W zp zl ze ({ frames := 1, cells := 0, slots := 0, locals := 22 } : Room) zs zm zg zb zt zc H locs 0 0 zQ (F0 zm 80 ls [.int y80, .int (nI ks), .ref (tt.2.2.2.1 ti)]) := by
              intro H locs ls hl G
              refine tr_wst C G hi ks rfl (by omega) hn dX6_valueFor_80 (fun H locs G => ?_)
              obtain ⟨V80, hV80⟩ : ∃ Z : sS, Z = upd V6 ks y80 := ⟨_, rfl⟩
              rw [← hV80] at G
              rw [lt_e hV80] at hL6
              refine lv_iinc (v := nI (ks + 1)) (lv' := [(4, .int (nI (ks + 1))), (0, .ref (tt.2.1 ti)), (1, .int a), (2, .int b), (3, .int c), (5, .int (nI ki)), (6, .int x23)]) hx hb dX6_valueFor_81 hl (k := 4) rfl (nt_add rfl (show (1 : Int32) = nI 1 from rfl)) (by decide) rfl (fun ls hl => ?_)
              refine lv_goto (tgt := 168) hx hb dX6_valueFor_84 (by decide) ?_
              refine lv_iinc (v := nI (ki + 1)) (lv' := [(5, .int (nI (ki + 1))), (4, .int (nI (ks + 1))), (0, .ref (tt.2.1 ti)), (1, .int a), (2, .int b), (3, .int c), (6, .int x23)]) hx hb dX6_valueFor_168 hl (k := 5) rfl (nt_add rfl (show (1 : Int32) = nI 1 from rfl)) (by decide) rfl (fun ls hl => ?_)
              refine lv_goto (tgt := 6) hx hb dX6_valueFor_171 (by decide) ?_
              exact ih (ki + 1) (ks + 1) V80 ⟨by omega, by omega, by omega⟩ hL6 _ _ _ (lv_sub hl [2, 3, 4, 5, 1, 0] rfl) G
            refine lv_if_lt (tgt := 58) hx hb dX6_valueFor_50 (by decide) (fun c50 => ?_) (fun c50 => ?_)
            · rw [if_pos c50] at hX80
              refine lv_iload hx hb dX6_valueFor_58 (lv_at hl 0 rfl) ?_
              refine lv_iconst (v := -1) hx hb dX6_valueFor_60 (by decide) ?_
              refine lv_icmp_ne (tgt := 68) hx hb dX6_valueFor_61 (by decide) (fun c61 => ?_) (fun c61 => ?_)
              · rw [if_neg c61] at hX80
                refine lv_iload hx hb dX6_valueFor_68 (lv_at hl 0 rfl) ?_
                refine lv_bipush (v := -2) hx hb dX6_valueFor_70 (by decide) ?_
                refine lv_icmp_ne (tgt := 79) hx hb dX6_valueFor_72 (by decide) (fun c72 => ?_) (fun c72 => ?_)
                · rw [if_neg c72] at hX80
                  refine lv_iload_n hx hb dX6_valueFor_79 rfl (lv_at hl 4 rfl) ?_
                  subst hX80
                  exact hj80 _ _ _ (lv_sub hl [1, 2, 3, 4, 5, 6, 0] rfl) G
                · rw [if_pos c72] at hX80
                  refine lv_iload_n hx hb dX6_valueFor_75 rfl (lv_at hl 3 rfl) ?_
                  refine lv_goto (tgt := 80) hx hb dX6_valueFor_76 (by decide) ?_
                  subst hX80
                  exact hj80 _ _ _ (lv_sub hl [1, 2, 3, 4, 5, 6, 0] rfl) G
              · rw [if_pos c61] at hX80
                refine lv_iload_n hx hb dX6_valueFor_64 rfl (lv_at hl 2 rfl) ?_
                refine lv_goto (tgt := 80) hx hb dX6_valueFor_65 (by decide) ?_
                subst hX80
                exact hj80 _ _ _ (lv_sub hl [1, 2, 3, 4, 5, 6, 0] rfl) G
            · rw [if_neg c50] at hX80
              refine lv_iload hx hb dX6_valueFor_53 (lv_at hl 0 rfl) ?_
              refine lv_goto (tgt := 80) hx hb dX6_valueFor_55 (by decide) ?_
              subst hX80
              exact hj80 _ _ _ (lv_sub hl [1, 2, 3, 4, 5, 6, 0] rfl) G
  exact hloop6 _ _ _ _ ⟨Nat.zero_le _, by omega, Nat.zero_le _⟩ hX6 _ _ _ (lv_sub hl [2, 3, 4, 5, 1, 0] rfl) G
/-! a text in a field -/
theorem rT_null {ta : Nat → Nat} {v : Int32} (h : v = -1) : rT ta v = .null := if_pos h
theorem rT_ref {ta : Nat → Nat} {v : Int32} (h : ¬ v = -1) : rT ta v = .ref (ta (vn v)) := if_neg h
theorem rT_nar {ta : Nat → Nat} {v : Int32} : narrow (.object RX6) (rT ta v) = rT ta v := by
  unfold rT
  split <;> rfl
theorem rT_fit {ta : Nat → Nat} {v : Int32} : fits (.object RX6) (rT ta v) = true := by
  unfold rT
  split <;> rfl
section ymore
variable {p : Program} {l : Launch} {e : Env} {R : Room} {s : State} {m : MethodId} {args : Array Value} {below : List Frame} {meth : Method} {c : Code} {H : Heap} {locs : List Loc} {cells slots : Nat} {Q : State → Prop} {code : ByteArray} {nL : Nat} {own : String} {Ts : List Cond} {D : va_G} {ad sa : Nat → Nat} {cc : cT} {t : tT} {A : Nat → Prop} {X : xS} {pc : Nat} {ls : Array Slot} {rest : List Value}
theorem xr_cpy (C : xC code nL own Ts D sa cc A p s m c args) (G : xG D ad sa cc t A s.heap H locs X) {index : Nat} (hlink : Cond.methodLink own index arraycopyName ∈ Ts) (hnat : Cond.native arraycopyName ∈ Ts) (hstat : Cond.static arraycopyName ∈ Ts) (hini : Cond.initialized "java/lang/System" ∈ Ts) {q0 q1 n0 n1 n : Nat} (hk0 : kI q0 n0) (hk1 : kI q1 n1) (hn0 : n ≤ n0) (hn1 : n ≤ n1) {z : Int32} (hz : z.toNatClampNeg = n) (h3 : ¬ z < 0) (hl : ls.size = nL) (hframes : 1 ≤ R.frames) (hlocals : (rest.map fun v => v.category).sum + (nativeFrameWords "java/lang/System" "arraycopy" 5 + 11) ≤ R.locals) (hdg : decode code pc = .ok (.invokestatic index, 3)) (kk : ∀ (H1 : Heap) (locs1 : List Loc), xG D ad sa cc t A s.heap H1 locs1 (xcp X q0 q1 n) → W p l e R s m args below meth c H1 locs1 cells slots Q (F0 m (pc + 3) ls rest)) : W p l e R s m args below meth c H locs cells slots Q (F0 m pc ls (.int z :: .int 0 :: .ref (ad q1) :: .int 0 :: .ref (ad q0) :: rest)) := by
  obtain ⟨w, hP, hD, hS⟩ := G
  subst hz
  refine va_copyi (ws := xW ad sa cc t X w) C.1 C.2.1 (C.2.2.1.trans hl.symm) C.2.2.2.1 (C.2.2.2.2.1 _ hlink) (C.2.2.2.2.1 _ hnat) (C.2.2.2.2.1 _ hstat) (C.2.2.2.2.1 _ hini) C.2.2.2.2.2.1 hP hD hS q0 q1 0 0 ((xW_get ad sa cc t X w hk0.2).trans (by rw [xI_c hk0.1])) ((xW_get ad sa cc t X w hk1.2).trans (by rw [xI_c hk1.1])) rfl rfl rfl (by decide) (by decide) h3 (by rw [show (0 : Int32).toNatClampNeg = 0 from rfl, Nat.zero_add]; exact hn0) (by rw [show (0 : Int32).toNatClampNeg = 0 from rfl, Nat.zero_add]; exact hn1) (fun _ _ => rfl) hframes hlocals hdg (fun H1 locs1 hP hD hS => ?_)
  rw [show (0 : Int32).toNatClampNeg = 0 from rfl, xW_set ad sa cc t X w hk1.2 (xI_c hk1.1 _)] at hP hD
  exact kk H1 locs1 ⟨w, hP, hD, hS⟩
theorem xr_Vt (C : xC code nL own Ts D sa cc A p s m c args) (hA : ∀ q, s.heap.size ≤ q → A q) (G : xG D ad sa cc t A s.heap H locs X) {i : Nat} (hi : i < t.1) {y : MethodName} {ws : List Cond} {rm : Room} {av : List Value} {r0 : Int32} {X2 : xS} (hM : xM l D ad sa cc t y ws rm (.ref (t.2.1 i) :: av) X (r0, X2)) {index n maxL : Nat} {bytes : ByteArray} {ret : Option FieldType} (cw : CallW R s args own RX6 index y bytes maxL ret ws rm 0 0 n) (hn : av.length = n) (hl : ls.size = nL) {st : List Value} (hst : st = av.reverse ++ .ref (t.2.1 i) :: rest) (hW : (rest.map fun v => v.category).sum ≤ 8) (hdg : decode code pc = .ok (.invokevirtual index, 3)) (hf : cells ≤ R.cells ∧ slots ≤ R.slots) (kk : ∀ (H1 : Heap) (locs1 : List Loc), xG D ad sa cc t A s.heap H1 locs1 X2 → W p l e R s m args below meth c H1 locs1 cells slots Q (F0 m (pc + 3) ls (.int r0 :: rest))) : W p l e R s m args below meth c H locs cells slots Q (F0 m pc ls st) := by
  obtain ⟨w, hP, hD, hS⟩ := G
  exact xr_backi hA hD hS (va_runV (As := av) (rest := rest) ⟨C.1, C.2.1, C.2.2.1, C.2.2.2.1, C.2.2.2.2.1⟩ (hM H.size w) cw ⟨xr_blind _ _ _ _, va_recv C.2.2.2.2.2.1 hP (ci := 5) (q0 := 62 + (3 * i + 0)) rfl ((xT_get ad sa cc t X w hi (by decide)).trans rfl), xr_pre C hA hP hD hS _⟩ rfl hn hl hst (lv_room hW) hdg hf) kk
end ymore
