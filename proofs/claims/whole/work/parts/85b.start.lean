/-! THE LAW'S LOOP, AND THE LAW -/
theorem and63 (z : Int32) : ∃ k : Nat, k < 64 ∧ z &&& 63 = nI k := by
  have h1 : (z &&& 63).toBitVec = z.toBitVec &&& 63#32 := rfl
  have h2 : (z &&& 63).toBitVec.toNat ≤ 63 := by
    rw [h1, BitVec.toNat_and]
    exact Nat.and_le_right
  refine ⟨(z &&& 63).toBitVec.toNat, by omega, ?_⟩
  apply Int32.toBitVec_inj.mp
  show (z &&& 63).toBitVec = BitVec.ofNat 32 (z &&& 63).toBitVec.toNat
  rw [BitVec.ofNat_toNat, BitVec.setWidth_eq]
theorem loop_c {L n : Nat} (hL : L ≤ 3072) (hn : 6 * n ≤ L) : (nI L - 6 < nI (6 * n)) ↔ L < 6 * n + 6 := by
  rw [Int32.lt_iff_toInt_lt, Int32.toInt_sub, nI_toInt (by omega), nI_toInt (by omega), show (6 : Int32).toInt = 6 by decide, Int.bmod_def]
  split <;> omega
set_option maxHeartbeats 4000000 in
set_option maxRecDepth 100000 in
theorem law_loop {p : Program} {l : Launch} {e : Env} {s : State} {m : MethodId} {below : List Frame} {meth : Method} {c : Code} {b L : Nat} {xs : Nat → Int32} {D : va_G} {ad sa : Nat → Nat} {cc : cT} {a : Nat → Nat} {A : Nat → Prop} (C0 : lw_At p s m meth c b L xs) (hC : LXt D sa cc A p s m c #[Value.ref b] b L xs) (hAs : ∀ q, A q → s.heap.size ≤ q) : ∀ f n, 6 * n ≤ L → L < 6 * n + 6 * f → LKt p l e s m #[Value.ref b] below meth c (lw_Z below #[Value.ref b] s) D ad sa cc a A b n := by
  intro f
  induction f with
  | zero => intro n h1 h2; omega
  | succ f ih =>
    intro n h1 h2 tt X M H locs ls hs
    obtain ⟨hx, hb, hr, hml, hown, hts, hX, hbl, hlocks, hgv⟩ := id C0
    have hL := hC.2.2.2.2.2.1
    obtain ⟨hI, ht, ⟨w, S, G⟩, hS, hl⟩ := id hs
    have hbA := hC.2.2.2.2.1
    refine lv_iload_n hx hb dL_law_18 rfl (lv_at hl 0 rfl) ?_
    refine lv_aload_n hx hb dL_law_19 rfl (lv_at hl 3 rfl) ?_
    refine va_slen hx hb hX hbl hbA hS dL_law_20 ?_
    refine lv_bipush (v := 6) hx hb dL_law_21 (by decide) ?_
    refine lv_isub hx hb dL_law_23 ?_
    refine lv_icmp_gt (tgt := 1407) hx hb dL_law_24 (by decide) (fun c24 => ?_) (fun c24 => ?_)
    · refine va_forget (fun q hq => hAs _ (hS.2.2 q hq)) ?_
      refine W.widen (k := 600000) (n := 7302250) (by omega) (by omega) ?_
      refine lv_iconst (v := 1) hx hb dL_law_1407 (by decide) ?_
      exact lw_ret hx hb hr hlocks dL_law_1408
    · have hn : 6 * n + 6 ≤ L := Nat.not_lt.mp (fun h => c24 ((loop_c hL h1).mpr h))
      refine lv_aload_n hx hb dL_law_27 rfl (lv_at hl 3 rfl) ?_
      refine lv_iload_n hx hb dL_law_28 rfl (lv_at hl 0 rfl) ?_
      refine va_sld hx hb hX hbl hbA hS (vp_in_nI (show 6 * n < L by omega) (by omega)) dL_law_29 ?_
      rw [nI_clamp (by omega)]
      refine lv_bipush (v := 63) hx hb dL_law_30 (by decide) ?_
      refine lv_iand hx hb dL_law_32 ?_
      obtain ⟨k, hk, ek⟩ := and63 (xs (6 * n))
      rw [ek]
      have ihn := ih (n + 1) (by omega) (by omega)
      have g0 : 0 ≤ k := Nat.zero_le k
      by_cases k0 : k = 0
      · subst k0
        exact lv_tableIn (off := 171) (tgt := 204) hx hb dL_law_33 (by decide) (by decide) rfl (by decide) (lc_field hC hn ihn hs)
      have g1 : 1 ≤ k := by omega
      clear k0 g0
      by_cases k1 : k = 1
      · subst k1
        exact lv_tableIn (off := 194) (tgt := 227) hx hb dL_law_33 (by decide) (by decide) rfl (by decide) (lc_sow hC hn ihn hs)
      have g2 : 2 ≤ k := by omega
      clear k1 g1
      by_cases k2 : k = 2
      · subst k2
        exact lv_tableIn (off := 237) (tgt := 270) hx hb dL_law_33 (by decide) (by decide) rfl (by decide) (lc_ofCell hC hn ihn hs)
      have g3 : 3 ≤ k := by omega
      clear k2 g2
      by_cases k3 : k = 3
      · subst k3
        exact lv_tableIn (off := 270) (tgt := 303) hx hb dL_law_33 (by decide) (by decide) rfl (by decide) (lc_lay hC hn ihn hs)
      have g4 : 4 ≤ k := by omega
      clear k3 g3
      by_cases k4 : k = 4
      · subst k4
        exact lv_tableIn (off := 303) (tgt := 336) hx hb dL_law_33 (by decide) (by decide) rfl (by decide) (lc_person hC hn ihn hs)
      have g5 : 5 ≤ k := by omega
      clear k4 g4
      by_cases k5 : k = 5
      · subst k5
        exact lv_tableIn (off := 336) (tgt := 369) hx hb dL_law_33 (by decide) (by decide) rfl (by decide) (lc_ofPerson hC hn ihn hs)
      have g6 : 6 ≤ k := by omega
      clear k5 g5
      by_cases k6 : k = 6
      · subst k6
        exact lv_tableIn (off := 369) (tgt := 402) hx hb dL_law_33 (by decide) (by decide) rfl (by decide) (lc_lead hC hn ihn hs)
      have g7 : 7 ≤ k := by omega
      clear k6 g6
      by_cases k7 : k = 7
      · subst k7
        exact lv_tableIn (off := 412) (tgt := 445) hx hb dL_law_33 (by decide) (by decide) rfl (by decide) (lc_become hC hn ihn hs)
      have g8 : 8 ≤ k := by omega
      clear k7 g7
      by_cases k8 : k = 8
      · subst k8
        exact lv_tableIn (off := 445) (tgt := 478) hx hb dL_law_33 (by decide) (by decide) rfl (by decide) (lc_as hC hn ihn hs)
      have g9 : 9 ≤ k := by omega
      clear k8 g8
      by_cases k9 : k = 9
      · subst k9
        exact lv_tableIn (off := 478) (tgt := 511) hx hb dL_law_33 (by decide) (by decide) rfl (by decide) (lc_feed hC hn ihn hs)
      have g10 : 10 ≤ k := by omega
      clear k9 g9
      by_cases k10 : k = 10
      · subst k10
        exact lv_tableIn (off := 541) (tgt := 574) hx hb dL_law_33 (by decide) (by decide) rfl (by decide) (lc_text hC hn ihn hs)
      have g11 : 11 ≤ k := by omega
      clear k10 g10
      by_cases k11 : k = 11
      · subst k11
        exact lv_tableIn (off := 564) (tgt := 597) hx hb dL_law_33 (by decide) (by decide) rfl (by decide) (lc_law hC hn ihn hs)
      have g12 : 12 ≤ k := by omega
      clear k11 g11
      by_cases k12 : k = 12
      · subst k12
        exact lv_tableIn (off := 617) (tgt := 650) hx hb dL_law_33 (by decide) (by decide) rfl (by decide) (lc_hours hC hn ihn hs)
      have g13 : 13 ≤ k := by omega
      clear k12 g12
      by_cases k13 : k = 13
      · subst k13
        exact lv_tableIn (off := 640) (tgt := 673) hx hb dL_law_33 (by decide) (by decide) rfl (by decide) (lc_loose hC hn ihn hs)
      have g14 : 14 ≤ k := by omega
      clear k13 g13
      by_cases k14 : k = 14
      · subst k14
        exact lv_tableIn (off := 663) (tgt := 696) hx hb dL_law_33 (by decide) (by decide) rfl (by decide) (lc_evening hC hn ihn hs)
      have g15 : 15 ≤ k := by omega
      clear k14 g14
      by_cases k15 : k = 15
      · subst k15
        exact lv_tableIn (off := 676) (tgt := 709) hx hb dL_law_33 (by decide) (by decide) rfl (by decide) (lc_hail hC hn ihn hs)
      have g16 : 16 ≤ k := by omega
      clear k15 g15
      by_cases k16 : k = 16
      · subst k16
        exact lv_tableIn (off := 699) (tgt := 732) hx hb dL_law_33 (by decide) (by decide) rfl (by decide) (lc_then hC hn ihn hs)
      have g17 : 17 ≤ k := by omega
      clear k16 g16
      by_cases k17 : k = 17
      · subst k17
        exact lv_tableIn (off := 732) (tgt := 765) hx hb dL_law_33 (by decide) (by decide) rfl (by decide) (lc_full hC hn ihn hs)
      have g18 : 18 ≤ k := by omega
      clear k17 g17
      by_cases k18 : k = 18
      · subst k18
        exact lv_tableIn (off := 755) (tgt := 788) hx hb dL_law_33 (by decide) (by decide) rfl (by decide) (lc_leads hC hn ihn hs)
      have g19 : 19 ≤ k := by omega
      clear k18 g18
      by_cases k19 : k = 19
      · subst k19
        exact lv_tableIn (off := 808) (tgt := 841) hx hb dL_law_33 (by decide) (by decide) rfl (by decide) (lc_sums hC hn ihn hs)
      have g20 : 20 ≤ k := by omega
      clear k19 g19
      by_cases k20 : k = 20
      · subst k20
        exact lv_tableIn (off := 841) (tgt := 874) hx hb dL_law_33 (by decide) (by decide) rfl (by decide) (lc_looked hC hn ihn hs)
      have g21 : 21 ≤ k := by omega
      clear k20 g20
      by_cases k21 : k = 21
      · subst k21
        exact lv_tableIn (off := 874) (tgt := 907) hx hb dL_law_33 (by decide) (by decide) rfl (by decide) (lc_watch hC hn ihn hs)
      have g22 : 22 ≤ k := by omega
      clear k21 g21
      by_cases k22 : k = 22
      · subst k22
        exact lv_tableIn (off := 887) (tgt := 920) hx hb dL_law_33 (by decide) (by decide) rfl (by decide) (lc_hide hC hn ihn hs)
      have g23 : 23 ≤ k := by omega
      clear k22 g22
      by_cases k23 : k = 23
      · subst k23
        exact lv_tableIn (off := 910) (tgt := 943) hx hb dL_law_33 (by decide) (by decide) rfl (by decide) (lc_gains hC hn ihn hs)
      have g24 : 24 ≤ k := by omega
      clear k23 g23
      by_cases k24 : k = 24
      · subst k24
        exact lv_tableIn (off := 943) (tgt := 976) hx hb dL_law_33 (by decide) (by decide) rfl (by decide) (lc_odds hC hn ihn hs)
      have g25 : 25 ≤ k := by omega
      clear k24 g24
      by_cases k25 : k = 25
      · subst k25
        exact lv_tableIn (off := 976) (tgt := 1009) hx hb dL_law_33 (by decide) (by decide) rfl (by decide) (lc_seed hC hn ihn hs)
      have g26 : 26 ≤ k := by omega
      clear k25 g25
      by_cases k26 : k = 26
      · subst k26
        exact lv_tableIn (off := 999) (tgt := 1032) hx hb dL_law_33 (by decide) (by decide) rfl (by decide) (lc_voice hC hn ihn hs)
      have g27 : 27 ≤ k := by omega
      clear k26 g26
      by_cases k27 : k = 27
      · subst k27
        exact lv_tableIn (off := 1042) (tgt := 1075) hx hb dL_law_33 (by decide) (by decide) rfl (by decide) (lc_trace hC hn ihn hs)
      have g28 : 28 ≤ k := by omega
      clear k27 g27
      by_cases k28 : k = 28
      · subst k28
        exact lv_tableIn (off := 1065) (tgt := 1098) hx hb dL_law_33 (by decide) (by decide) rfl (by decide) (lc_sheet hC hn ihn hs)
      have g29 : 29 ≤ k := by omega
      clear k28 g28
      by_cases k29 : k = 29
      · subst k29
        exact lv_tableIn (off := 1108) (tgt := 1141) hx hb dL_law_33 (by decide) (by decide) rfl (by decide) (lc_put hC hn ihn hs)
      have g30 : 30 ≤ k := by omega
      clear k29 g29
      by_cases k30 : k = 30
      · subst k30
        exact lv_tableIn (off := 1151) (tgt := 1184) hx hb dL_law_33 (by decide) (by decide) rfl (by decide) (lc_move hC hn ihn hs)
      have g31 : 31 ≤ k := by omega
      clear k30 g30
      by_cases k31 : k = 31
      · subst k31
        exact lv_tableIn (off := 1214) (tgt := 1247) hx hb dL_law_33 (by decide) (by decide) rfl (by decide) (lc_weeds hC hn ihn hs)
      have g32 : 32 ≤ k := by omega
      clear k31 g31
      by_cases k32 : k = 32
      · subst k32
        exact lv_tableIn (off := 1237) (tgt := 1270) hx hb dL_law_33 (by decide) (by decide) rfl (by decide) (lc_judge hC hn ihn hs)
      have g33 : 33 ≤ k := by omega
      clear k32 g32
      by_cases k33 : k = 33
      · subst k33
        exact lv_tableIn (off := 1260) (tgt := 1293) hx hb dL_law_33 (by decide) (by decide) rfl (by decide) (lc_image hC hn ihn hs)
      have g34 : 34 ≤ k := by omega
      clear k33 g33
      by_cases k34 : k = 34
      · subst k34
        exact lv_tableIn (off := 1273) (tgt := 1306) hx hb dL_law_33 (by decide) (by decide) rfl (by decide) (lc_restore hC hn ihn hs)
      have g35 : 35 ≤ k := by omega
      clear k34 g34
      by_cases k35 : k = 35
      · subst k35
        exact lv_tableIn (off := 1286) (tgt := 1319) hx hb dL_law_33 (by decide) (by decide) rfl (by decide) (lc_tell hC hn ihn hs)
      have g36 : 36 ≤ k := by omega
      clear k35 g35
      by_cases k36 : k = 36
      · subst k36
        exact lv_tableIn (off := 1309) (tgt := 1342) hx hb dL_law_33 (by decide) (by decide) rfl (by decide) (lc_check hC hn ihn hs)
      have g37 : 37 ≤ k := by omega
      clear k36 g36
      by_cases k37 : k = 37
      · subst k37
        exact lv_tableIn (off := 1322) (tgt := 1355) hx hb dL_law_33 (by decide) (by decide) rfl (by decide) (lc_count hC hn ihn hs)
      have g38 : 38 ≤ k := by omega
      clear k37 g37
      by_cases k38 : k = 38
      · subst k38
        exact lv_tableIn (off := 1345) (tgt := 1378) hx hb dL_law_33 (by decide) (by decide) rfl (by decide) (lc_told hC hn ihn hs)
      have g39 : 39 ≤ k := by omega
      clear k38 g38
      refine lv_tableOut (tgt := 1401) hx hb dL_law_33 (Or.inr (by rw [nI_toInt (by omega)]; omega)) (by decide) ?_
      exact W.widen (by omega) (by omega) (lr_end hC ihn (INV_n hI (Nat.le_succ n)) (by omega) G hS hl)
set_option maxHeartbeats 4000000 in
set_option maxRecDepth 100000 in
/-- THE LAW, from its entry -/
theorem whole_start {p : Program} {e : Env} {s : State} {m : MethodId} {below : List Frame} {meth : Method} {c : Code} (l : Launch) (hflags : l.flags = flags0) {b L : Nat} {xs : Nat → Int32} (hL : L ≤ 3072) (C0 : lw_At p s m meth c b L xs) : W p l e room_1 s m #[Value.ref b] below meth c s.heap [] 0 0 (lw_Z below #[Value.ref b] s) (entryFrame m ([Value.ref b] : List Value).toArray 4) := by
  obtain ⟨hx, hb, hr, hml, hown0, hts, hX, hbl, hlocks, hgv⟩ := id C0
  have hown : s.vm.findClass RL = some m.cls := hown0
  obtain ⟨A, hAe⟩ : ∃ A : Nat → Prop, A = fun q : Nat => s.heap.size ≤ q := ⟨_, rfl⟩
  have hA : ∀ q : Nat, s.heap.size ≤ q → A q := fun q h => by rw [hAe]; exact h
  have hAs : ∀ q : Nat, A q → s.heap.size ≤ q := fun q h => by rw [hAe] at h; exact h
  have hbA : ¬ A b := fun h => Nat.not_le.mpr hbl (hAs b h)
  obtain ⟨c0, i0, hk0⟩ := u_known (C := RX0) (T := TX0) (N := 19) (n := 19) hts inX0 (hts (.instantiable RX0 19) (tb_in _ 29 (by decide +kernel)))
  obtain ⟨c1, i1, hk1⟩ := u_known (C := RX2) (T := TX2) (N := 8) (n := 8) hts inX2 (hts (.instantiable RX2 8) (tb_in _ 175 (by decide +kernel)))
  obtain ⟨c2, i2, hk2⟩ := u_known (C := RX3) (T := TX3) (N := 7) (n := 7) hts inX3 (hts (.instantiable RX3 7) (tb_in _ 143 (by decide +kernel)))
  obtain ⟨c3, i3, hk3⟩ := u_known (C := RX4) (T := TX4) (N := 2) (n := 2) hts inX4 (hts (.instantiable RX4 2) (tb_in _ 35 (by decide +kernel)))
  obtain ⟨c4, i4, hk4⟩ := u_known (C := RX5) (T := TX5) (N := 3) (n := 3) hts inX5 (hts (.instantiable RX5 3) (tb_in _ 232 (by decide +kernel)))
  obtain ⟨c5, i5, hk5⟩ := u_known (C := RX6) (T := TX6) (N := 2) (n := 2) hts inX6 (hts (.instantiable RX6 2) (tb_in _ 591 (by decide +kernel)))
  obtain ⟨c6, i6, hk6⟩ := u_known (C := RX7) (T := TX7) (N := 4) (n := 4) hts inX7 (hts (.instantiable RX7 4) (tb_in _ 209 (by decide +kernel)))
  obtain ⟨c7, i7, hk7⟩ := u_known (C := RX8) (T := TX8) (N := 11) (n := 11) hts inX8 (hts (.instantiable RX8 11) (tb_in _ 21 (by decide +kernel)))
  obtain ⟨c8, i8, hk8⟩ := u_known (C := RX9) (T := TX9) (N := 28) (n := 28) hts inX9 (hts (.instantiable RX9 28) (tb_in _ 922 (by decide +kernel)))
  obtain ⟨D, hKc⟩ : ∃ D : va_G, ∀ (k : Nat) (q : vw_C), vwCl[k]? = some q → u_Kn s q.1 q.2.1 q.2.2 (D.1 k) (D.2 k) := by
    refine ⟨(fun k => [c0, c1, c2, c3, c4, c5, c6, c7, c8].getD k c0, fun k => [i0, i1, i2, i3, i4, i5, i6, i7, i8].getD k i0), ?_⟩
    intro k q hq
    match k, hq with
    | 0, hq => cases hq; exact hk0
    | 1, hq => cases hq; exact hk1
    | 2, hq => cases hq; exact hk2
    | 3, hq => cases hq; exact hk3
    | 4, hq => cases hq; exact hk4
    | 5, hq => cases hq; exact hk5
    | 6, hq => cases hq; exact hk6
    | 7, hq => cases hq; exact hk7
    | 8, hq => cases hq; exact hk8
    | k + 9, hq => simp [vwCl] at hq
  have hS : va_S A s.heap s.heap [] := va_S.rf
  have hK : va_K D vwCl [] s := ⟨hKc, fun k q h => by simp at h⟩
  have hP : va_P D vwCl [] s.heap := fun k q h => by simp at h
  have hD : va_D A [] := ⟨fun i j p q h => by simp at h, fun k q h => by simp at h⟩
  have hl := lv_entry ([.ref b]) (n := 4) (Nat.le_of_ble_eq_true rfl)
  rw [lg_entry_eq]
  generalize (lg_sl ([.ref b]) ++ List.replicate (4 - (lg_sl ([.ref b])).length) Slot.unset).toArray = ls at hl ⊢
  have hl : lv_has ls 4 [(0, .ref b)] := hl
  obtain ⟨sa, hE⟩ := wh_env hts hgv
  rw [← hAe] at hE
  have hwl : ∀ w ∈ wsL_law, w.before #[Value.ref b] s = true := fun w h => hts w (wsL_law_in w h)
  have hN : va_Nw clN s := va_Nw.of rfl (hts _ en_10)
  have hO : va_AO RX5 s := va_AO.of (hts _ en_11)
  refine va_new (ci := 7) (fs := [.null, .null, .null, .int 0, .null, .null, .null, .null, .null, .null, .null]) (C := RX8) (T := TX8) (N := 11) hx hb hts inX8 tyX8 tyX8_ok hown (hts (.classLink RL 7 RX8) (tb_in _ 20 (by decide +kernel))) (hts (.instantiable RX8 11) (tb_in _ 21 (by decide +kernel))) (hts (.initialized RX8) (tb_in _ 1 (by decide +kernel))) hK hP hD hS hA rfl (fun j hj => by rcases (show j = 0 ∨ j = 1 ∨ j = 2 ∨ j = 3 ∨ j = 4 ∨ j = 5 ∨ j = 6 ∨ j = 7 ∨ j = 8 ∨ j = 9 ∨ j = 10 by omega) with rfl | rfl | rfl | rfl | rfl | rfl | rfl | rfl | rfl | rfl | rfl <;> rfl) (Nat.le_of_ble_eq_true rfl) (Nat.le_of_ble_eq_true rfl) dL_law_0 (fun h0 H hP hD hS => ?_)
  have hP : va_P D vwCl [(h0, .inr (7, [.null, .null, .null, .int 0, .null, .null, .null, .null, .null, .null, .null]))] H := hP
  have hD : va_D A [(h0, .inr (7, [.null, .null, .null, .int 0, .null, .null, .null, .null, .null, .null, .null]))] := hD
  refine lv_dup hx hb dL_law_3 rfl ?_
  have hFc := va_free (wc := [(h0, .inr (7, [.null, .null, .null, .int 0, .null, .null, .null, .null, .null, .null, .null]))]) hD hS hA [0] rfl
  refine va_callv (A0 := A) (A1 := va_A [(h0, .inr (7, [.null, .null, .null, .int 0, .null, .null, .null, .null, .null, .null, .null]))] H.size) (va_runI (As := []) (rest := [.ref h0]) ⟨hx, hb, hml, hown, hwl⟩ (kx8_init l D h0 H.size (sa 0)) (cwI 0 hwl gL_law_X8_init rfl rfl rfl (hts (.initialized RX8) (tb_in _ 1 (by decide +kernel))) (hts (.methodLink RL 9 yX8_init) (tb_in _ 22 (by decide +kernel))) (hts (.instanceMethod yX8_init) (tb_in _ 23 (by decide +kernel))) rfl (by decide +kernel) ⟨Nat.le_of_ble_eq_true rfl, Nat.le_of_ble_eq_true rfl⟩) ⟨fun a U g mk q => by obtain ⟨q0, q1, qP, qK, qD, qR, qO⟩ := q; exact ⟨q0, q1, qP, va_K.moved (u := U) (U := U.calling g mk a) (Vm.Alike.refl U.vm) qK, qD, vk_R.same (u := U) rfl qR, va_AO.moved (u := U) (U := U.calling g mk a) (Vm.Alike.refl U.vm) qO⟩, fun U hU hW => ⟨rfl, by rw [hU], by rw [hU]; exact hP, va_K.moved hW.alike hK, hD.weaken (fun _ _ _ _ => trivial), vk_R.warm hW hE.2.2.2.2.2.2, va_AO.moved hW.alike hO⟩⟩ rfl rfl hl.1 rfl (lv_room (Nat.le_of_ble_eq_true rfl)) dL_law_4 ⟨Nat.le_of_ble_eq_true rfl, Nat.le_of_ble_eq_true rfl⟩) hS (fun q _ h => hFc q h) hFc (fun u t H1 locs ht hvm hw hB hz1 hk1 hS => ?_)
  obtain ⟨cI, cB, cS, o0, o0_0, o0_1, o0_2, o0_3, o0_4, o0_5, o0_6, o0_7, o0_8, o0_9, o0_10, o1, o1_0, o1_1, o1_2, o1_3, o1_4, o1_5, o1_6, o1_7, o1_8, o1_9, o1_10, o2, o2_0, o2_1, o2_2, o2_3, o2_4, o2_5, o2_6, o2_7, o2_8, o2_9, o2_10, o3, o3_0, o3_1, o3_2, o3_3, o4, o4_0, o4_1, o4_2, o4_3, o5, o5_0, o5_1, sh, o6, o6_0, o7, o7_0, o8, o8_0, o9, o9_0, o10, o11, o12, hP1, hK1, hD1⟩ := hB
  rw [ht] at hP1
  have hK1 := va_K.moved hvm.symm hK1
  have hD1 := hD1.weaken (fun k q _ h => hFc _ h)
  have hst := st_W sa (fun _ => 0) cI cB cS (sa 0) h0 o0 o0_0 o0_1 o0_2 o0_3 o0_4 o0_5 o0_6 o0_7 o0_8 o0_9 o0_10 o1 o1_0 o1_1 o1_2 o1_3 o1_4 o1_5 o1_6 o1_7 o1_8 o1_9 o1_10 o2 o2_0 o2_1 o2_2 o2_3 o2_4 o2_5 o2_6 o2_7 o2_8 o2_9 o2_10 o3 o3_0 o3_1 o3_2 o3_3 o4 o4_0 o4_1 o4_2 o4_3 o5 o5_0 o5_1 sh o6 o6_0 o7 o7_0 o8 o8_0 o9 o9_0 o10 o11 o12 rfl hP1 hD1
  clear hP1 hD1 hP hD hk1 hFc hKc
  obtain ⟨ad, had, hP7, hD7⟩ : ∃ ad : Nat → Nat, ad 0 = h0 ∧ va_P D vwCl (cW ad sa (fun _ => 0) (cI, cB, cS) x0v) H1 ∧ va_D A (cW ad sa (fun _ => 0) (cI, cB, cS) x0v) := ⟨_, rfl, hst.1, hst.2⟩
  clear hst
  subst had
  refine lv_astore_n (lv' := [(1, .ref (ad 0)), (0, .ref b)]) hx hb dL_law_7 rfl hl (by decide) rfl (fun ls hl => ?_)
  refine va_new (ci := 8) (fs := [.null, .null, .null, .null, .int 0, .int 0, .null, .int 0, .int 0, .int 0, .int 0, .int 0, .int 0, .int 0, .int 0, .int 0, .null, .null, .null, .null, .null, .null, .null, .null, .int 0, .int 0, .int 0, .int 0]) (C := RX9) (T := TX9) (N := 28) hx hb hts inX9 tyX9 tyX9_ok hown (hts (.classLink RL 10 RX9) (tb_in _ 921 (by decide +kernel))) (hts (.instantiable RX9 28) (tb_in _ 922 (by decide +kernel))) (hts (.initialized RX9) (tb_in _ 9 (by decide +kernel))) hK1 hP7 hD7 hS hA rfl (fun j hj => by rcases (show j = 0 ∨ j = 1 ∨ j = 2 ∨ j = 3 ∨ j = 4 ∨ j = 5 ∨ j = 6 ∨ j = 7 ∨ j = 8 ∨ j = 9 ∨ j = 10 ∨ j = 11 ∨ j = 12 ∨ j = 13 ∨ j = 14 ∨ j = 15 ∨ j = 16 ∨ j = 17 ∨ j = 18 ∨ j = 19 ∨ j = 20 ∨ j = 21 ∨ j = 22 ∨ j = 23 ∨ j = 24 ∨ j = 25 ∨ j = 26 ∨ j = 27 by omega) with rfl | rfl | rfl | rfl | rfl | rfl | rfl | rfl | rfl | rfl | rfl | rfl | rfl | rfl | rfl | rfl | rfl | rfl | rfl | rfl | rfl | rfl | rfl | rfl | rfl | rfl | rfl | rfl <;> rfl) (Nat.le_of_ble_eq_true rfl) (Nat.le_of_ble_eq_true rfl) dL_law_8 (fun h9 H hP8 hD8 hS => ?_)
  refine lv_dup hx hb dL_law_11 rfl ?_
  have G : LWd D [(h9, .inr (8, [.null, .null, .null, .null, .int 0, .int 0, .null, .int 0, .int 0, .int 0, .int 0, .int 0, .int 0, .int 0, .int 0, .int 0, .null, .null, .null, .null, .null, .null, .null, .null, .int 0, .int 0, .int 0, .int 0]))] (cW ad sa (fun _ => 0) (cI, cB, cS) x0v) A H := LWd_swap (LWd_app hP8 hD8)
  have hFc := LWd_free G hS hA
  refine va_callv (A0 := A) (A1 := va_A [(h9, .inr (8, [.null, .null, .null, .null, .int 0, .int 0, .null, .int 0, .int 0, .int 0, .int 0, .int 0, .int 0, .int 0, .int 0, .int 0, .null, .null, .null, .null, .null, .null, .null, .null, .int 0, .int 0, .int 0, .int 0]))] H.size) (va_runI (As := []) (rest := [.ref h9]) ⟨hx, hb, hml, hown, hwl⟩ (kx9_init l D h9 H.size) (cwI 0 hwl gL_law_X9_init rfl rfl rfl (hts (.initialized RX9) (tb_in _ 9 (by decide +kernel))) (hts (.methodLink RL 12 yX9_init) (tb_in _ 923 (by decide +kernel))) (hts (.instanceMethod yX9_init) (tb_in _ 924 (by decide +kernel))) rfl (by decide +kernel) ⟨Nat.le_of_ble_eq_true rfl, Nat.le_of_ble_eq_true rfl⟩) ⟨fun a U g mk q => by obtain ⟨q0, q1, qP, qK, qD⟩ := q; exact ⟨q0, q1, qP, va_K.moved (u := U) (U := U.calling g mk a) (Vm.Alike.refl U.vm) qK, qD⟩, fun U hU hW => ⟨rfl, by rw [hU], by rw [hU]; exact G.1.1, va_K.moved hW.alike (hK1.sub [] rfl), G.2.1.1.weaken (fun _ _ _ _ => trivial)⟩⟩ rfl rfl hl.1 rfl (lv_room (Nat.le_of_ble_eq_true rfl)) dL_law_12 ⟨Nat.le_of_ble_eq_true rfl, Nat.le_of_ble_eq_true rfl⟩) hS (fun q _ h => hFc q h) hFc (fun u t H2 locs ht2 hvm2 hw2 hB2 hz2 hk2 hS2 => ?_)
  obtain ⟨cJ, q1, q2, q3, q4, q5, q6, q7, q8, q9, q10, q11, q12, q13, hP2, hK2, hD2⟩ := hB2
  rw [ht2] at hP2
  have hK2 := va_K.moved hvm2.symm hK2
  have ec : cJ = cI := ci_int (hK2.2 0 _ rfl).2 (hK1.2 0 _ rfl).2
  subst ec
  rw [← mW_st cJ h9 q1 q2 q3 q4 q5 q6 q7 q8 q9 q10 q11 q12 q13, ← m0_eq] at hP2 hD2
  have G := LWd_step G hS hA hk2 hP2 hD2
  obtain ⟨a, ha, G7⟩ : ∃ a : Nat → Nat, a 0 = h9 ∧ LWd D (mW cJ a m0v (fun _ => 0)) (cW ad sa (fun _ => 0) (cJ, cB, cS) x0v) A H2 := ⟨_, rfl, G⟩
  subst ha
  refine lv_astore_n (lv' := [(2, .ref (a 0)), (1, .ref (ad 0)), (0, .ref b)]) hx hb dL_law_15 rfl hl (by decide) rfl (fun ls hl => ?_)
  refine lv_iconst (v := 0) hx hb dL_law_16 (by decide) ?_
  refine lv_istore_n (lv' := [(3, .int 0), (2, .ref (a 0)), (1, .ref (ad 0)), (0, .ref b)]) hx hb dL_law_17 rfl hl (by decide) rfl (fun ls hl => ?_)
  refine W.widen (k := 76 + 3 * 0) (n := 2571 + 102 * 0) (Nat.le_of_ble_eq_true rfl) (Nat.le_of_ble_eq_true rfl) ?_
  have hC : LXt D sa (cJ, cB, cS) A p s m c #[Value.ref b] b L xs := ⟨⟨hx, hb, hml, hown, hwl, hK1, hE⟩, hA, hX, hbl, hbA, hL, hN⟩
  obtain ⟨t0, ht0⟩ : ∃ t0 : tT, t0 = (0, (fun _ => 0), (fun _ => 0), (fun _ => 0), (fun _ => 0), (fun _ _ => 0)) := ⟨_, rfl⟩
  have hw0 : xW ad sa (cJ, cB, cS) t0 x0v (fun _ _ => 0) = cW ad sa (fun _ => 0) (cJ, cB, cS) x0v := by
    rw [ht0]
    exact List.append_nil _
  exact law_loop C0 hC hAs (L / 6 + 1) 0 (Nat.zero_le _) (by omega) t0 x0v m0v H2 locs ls ⟨INV_0 t0, by rw [ht0]; exact Nat.le_refl _, ⟨fun _ _ => 0, fun _ => 0, by rw [hw0]; exact LWd_swap G7⟩, hS2, hl⟩
