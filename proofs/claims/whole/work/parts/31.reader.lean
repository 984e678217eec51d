/-! the reader -/
theorem dF_nm {ad sa ta : Nat → Nat} {cc : cT} {x : Nat → Int32} {k : Nat} (hk : k < 3) : xCell ad sa ta cc 37 (upd x 2 (nI k)) = .inr (2, (dF ad sa 37 x).set 2 (.ref (sa k))) := by
  rcases (show k = 0 ∨ k = 1 ∨ k = 2 by omega) with rfl | rfl | rfl <;> rfl
theorem xr_J {p : Program} {l : Launch} {e : Env} {R : Room} {s : State} {m : MethodId} {args : Array Value} {below : List Frame} {meth : Method} {c : Code} {H : Heap} {locs : List Loc} {cells slots : Nat} {Q : State → Prop} {code : ByteArray} {nL : Nat} {own : String} {Ts : List Cond} {D : va_G} {ad sa : Nat → Nat} {cc : cT} {t : tT} {A : Nat → Prop} {X : xS} {pc : Nat} {ls : Array Slot} {rest : List Value} (C : xC code nL own Ts D sa cc A p s m c args) (hA : ∀ q, s.heap.size ≤ q → A q) (G : xG D ad sa cc t A s.heap H locs X) {i : Nat} (hi : i < 3) {y : MethodName} {ws : List Cond} {rm : Room} {av : List Value} {r : Int32} (hM : ∀ sv, kJ l sa sv y ws rm (.ref (sa i) :: av) r) {index n maxL : Nat} {bytes : ByteArray} {ret : Option FieldType} (cw : CallW R s args own "java/lang/String" index y bytes maxL ret ws rm 0 0 n) (hn : av.length = n) (hl : ls.size = nL) {st : List Value} (hst : st = av.reverse ++ .ref (sa i) :: rest) (hW : (rest.map fun v => v.category).sum ≤ 8) (hdg : decode code pc = .ok (.invokevirtual index, 3)) (hf : cells ≤ R.cells ∧ slots ≤ R.slots) (kk : ∀ (H1 : Heap) (locs1 : List Loc), xG D ad sa cc t A s.heap H1 locs1 X → W p l e R s m args below meth c H1 locs1 cells slots Q (F0 m (pc + 3) ls (.int r :: rest))) : W p l e R s m args below meth c H locs cells slots Q (F0 m pc ls st) := by
  obtain ⟨w, hP, hD, hS⟩ := G
  obtain ⟨sv, hE⟩ := C.2.2.2.2.2.2.2.2.2.1
  refine va_calli (A0 := A) (A1 := va_A [] H.size) (va_runV (As := av) (rest := rest) ⟨C.1, C.2.1, C.2.2.1, C.2.2.2.1, C.2.2.2.2.1⟩ (hM sv H.size) cw ⟨sE_blind _ _, sE_recv hE hi hS, sE_pre hE hA hS _⟩ rfl hn hl hst (lv_room hW) hdg hf) hS (fun q _ h => xr_none hS hA q h) (xr_none hS hA) (fun r u tt H1 locs1 ht hvm hw hB hz1 hk1 hS1 => ?_)
  subst hw
  exact kk H1 locs1 (xr_keep hP hD hk1 hS1)
set_option maxRecDepth 100000 in
set_option maxHeartbeats 4000000 in
theorem ks_X3_rankOf (zl : Launch) (c : Int32) : sM zl yX3_rankOf wsX3_rankOf ({ frames := 0, cells := 0, slots := 0, locals := 0 } : Room) [.int c] (p3_rankOf c) := by
  refine sM_of (own := RX3) (cc := cX3_rankOf) (nL := 1) (Or.inl rfl) (by decide) rfl rfl (Nat.le_of_ble_eq_true rfl) ?_
  intro zp ze zs zm zg zb zt zc zA H0 zQ C hA hret H locs ls hl G
  have hx := C.1
  have hb := C.2.1
  have hl : lv_has ls 1 [(0, .int c)] := hl
  obtain ⟨rM, hF⟩ : ∃ X : Int32, X = p3_rankOf c := ⟨_, rfl⟩
  rw [← hF] at hret
  unfold p3_rankOf at hF
  refine lv_iload_n hx hb dX3_rankOf_0 rfl (lv_at hl 0 rfl) ?_
  by_cases c1_37 : c = 37
  · rw [if_pos c1_37] at hF
    refine lv_lookup (off := 99) (tgt := 100) hx hb dX3_rankOf_1 (by decide) (by rw [c1_37]; rfl) (by decide) ?_
    refine lv_iconst (v := 5) hx hb dX3_rankOf_100 (by decide) ?_
    exact hret _ _ _ _ _ hF G dX3_rankOf_101
  · rw [if_neg c1_37] at hF
    by_cases c1_38 : c = 38
    · rw [if_pos c1_38] at hF
      refine lv_lookup (off := 93) (tgt := 94) hx hb dX3_rankOf_1 (by decide) (by rw [c1_38]; rfl) (by decide) ?_
      refine lv_iconst (v := 2) hx hb dX3_rankOf_94 (by decide) ?_
      exact hret _ _ _ _ _ hF G dX3_rankOf_95
    · rw [if_neg c1_38] at hF
      by_cases c1_42 : c = 42
      · rw [if_pos c1_42] at hF
        refine lv_lookup (off := 99) (tgt := 100) hx hb dX3_rankOf_1 (by decide) (by rw [c1_42]; rfl) (by decide) ?_
        refine lv_iconst (v := 5) hx hb dX3_rankOf_100 (by decide) ?_
        exact hret _ _ _ _ _ hF G dX3_rankOf_101
      · rw [if_neg c1_42] at hF
        by_cases c1_43 : c = 43
        · rw [if_pos c1_43] at hF
          refine lv_lookup (off := 97) (tgt := 98) hx hb dX3_rankOf_1 (by decide) (by rw [c1_43]; rfl) (by decide) ?_
          refine lv_iconst (v := 4) hx hb dX3_rankOf_98 (by decide) ?_
          exact hret _ _ _ _ _ hF G dX3_rankOf_99
        · rw [if_neg c1_43] at hF
          by_cases c1_45 : c = 45
          · rw [if_pos c1_45] at hF
            refine lv_lookup (off := 97) (tgt := 98) hx hb dX3_rankOf_1 (by decide) (by rw [c1_45]; rfl) (by decide) ?_
            refine lv_iconst (v := 4) hx hb dX3_rankOf_98 (by decide) ?_
            exact hret _ _ _ _ _ hF G dX3_rankOf_99
          · rw [if_neg c1_45] at hF
            by_cases c1_47 : c = 47
            · rw [if_pos c1_47] at hF
              refine lv_lookup (off := 99) (tgt := 100) hx hb dX3_rankOf_1 (by decide) (by rw [c1_47]; rfl) (by decide) ?_
              refine lv_iconst (v := 5) hx hb dX3_rankOf_100 (by decide) ?_
              exact hret _ _ _ _ _ hF G dX3_rankOf_101
            · rw [if_neg c1_47] at hF
              by_cases c1_60 : c = 60
              · rw [if_pos c1_60] at hF
                refine lv_lookup (off := 95) (tgt := 96) hx hb dX3_rankOf_1 (by decide) (by rw [c1_60]; rfl) (by decide) ?_
                refine lv_iconst (v := 3) hx hb dX3_rankOf_96 (by decide) ?_
                exact hret _ _ _ _ _ hF G dX3_rankOf_97
              · rw [if_neg c1_60] at hF
                by_cases c1_61 : c = 61
                · rw [if_pos c1_61] at hF
                  refine lv_lookup (off := 95) (tgt := 96) hx hb dX3_rankOf_1 (by decide) (by rw [c1_61]; rfl) (by decide) ?_
                  refine lv_iconst (v := 3) hx hb dX3_rankOf_96 (by decide) ?_
                  exact hret _ _ _ _ _ hF G dX3_rankOf_97
                · rw [if_neg c1_61] at hF
                  by_cases c1_62 : c = 62
                  · rw [if_pos c1_62] at hF
                    refine lv_lookup (off := 95) (tgt := 96) hx hb dX3_rankOf_1 (by decide) (by rw [c1_62]; rfl) (by decide) ?_
                    refine lv_iconst (v := 3) hx hb dX3_rankOf_96 (by decide) ?_
                    exact hret _ _ _ _ _ hF G dX3_rankOf_97
                  · rw [if_neg c1_62] at hF
                    by_cases c1_124 : c = 124
                    · rw [if_pos c1_124] at hF
                      refine lv_lookup (off := 91) (tgt := 92) hx hb dX3_rankOf_1 (by decide) (by rw [c1_124]; rfl) (by decide) ?_
                      refine lv_iconst (v := 1) hx hb dX3_rankOf_92 (by decide) ?_
                      exact hret _ _ _ _ _ hF G dX3_rankOf_93
                    · rw [if_neg c1_124] at hF
                      refine lv_lookup (tgt := 102) (off := 101) hx hb dX3_rankOf_1 (by decide) (by simp [Op.lookupswitch.offset, List.find?, show ¬ (37 : Int) = c.toInt from fun e9 => c1_37 (Int32.toInt_inj.mp e9.symm), show ¬ (38 : Int) = c.toInt from fun e9 => c1_38 (Int32.toInt_inj.mp e9.symm), show ¬ (42 : Int) = c.toInt from fun e9 => c1_42 (Int32.toInt_inj.mp e9.symm), show ¬ (43 : Int) = c.toInt from fun e9 => c1_43 (Int32.toInt_inj.mp e9.symm), show ¬ (45 : Int) = c.toInt from fun e9 => c1_45 (Int32.toInt_inj.mp e9.symm), show ¬ (47 : Int) = c.toInt from fun e9 => c1_47 (Int32.toInt_inj.mp e9.symm), show ¬ (60 : Int) = c.toInt from fun e9 => c1_60 (Int32.toInt_inj.mp e9.symm), show ¬ (61 : Int) = c.toInt from fun e9 => c1_61 (Int32.toInt_inj.mp e9.symm), show ¬ (62 : Int) = c.toInt from fun e9 => c1_62 (Int32.toInt_inj.mp e9.symm), show ¬ (124 : Int) = c.toInt from fun e9 => c1_124 (Int32.toInt_inj.mp e9.symm)]) (by decide) ?_
                      refine lv_iconst (v := 0) hx hb dX3_rankOf_102 (by decide) ?_
                      exact hret _ _ _ _ _ hF G dX3_rankOf_103
set_option maxRecDepth 100000 in
set_option maxHeartbeats 4000000 in
theorem kx3_closeNots (zl : Launch) (D : va_G) (ad sa : Nat → Nat) (cc : cT) (tt : tT) (X : xS) (hd : dN X) : xMv zl D ad sa cc tt yX3_closeNots wsX3_closeNots ({ frames := 2, cells := 0, slots := 0, locals := 41 } : Room) [.ref (ad 37)] X (x3_closeNots X) := by
  refine xMv_of (code := cX3_closeNots) (nL := 2) (own := RX3) (by decide) rfl rfl (Nat.le_of_ble_eq_true rfl) ?_
  intro zp ze zs zm zg zb zt zc zA zQ C hA hret H locs ls hl G
  have hx := C.1
  have hb := C.2.1
  have hl : lv_has ls 2 [(0, .ref (ad 37))] := hl
  obtain ⟨rM, hF⟩ : ∃ Z : xS, Z = x3_closeNots X := ⟨_, rfl⟩
  rw [← hF] at hret
  unfold x3_closeNots at hF
  refine lv_aload_n hx hb dX3_closeNots_0 rfl (lv_at hl 0 rfl) ?_
  refine xr_get C G (show kD 37 by decide).2 (xD_c (show kD 37 by decide).1) rfl (fun _ h => List.mem_cons_of_mem _ (List.mem_append_left _ (List.mem_append_right _ h))) 1 (by decide) (show Cond.fieldLink RX3 20 "WheatCounts$Reader" "signs" "LWheatCounts$Row;" ∈ _ by decide +kernel) rfl dX3_closeNots_1 ?_
  refine xr_get C G (show kR 40 by decide).2 (xR_c (show kR 40 by decide).1) rfl (fun _ h => List.mem_cons_of_mem _ (List.mem_append_right _ h)) 1 (by decide) (show Cond.fieldLink RX3 43 "WheatCounts$Row" "size" "I" ∈ _ by decide +kernel) rfl dX3_closeNots_4 ?_
  refine lv_topi (fun x7 hx7 => ?_)
  obtain rfl : x7 = nI (vn (X 40 1)) := hx7.trans hd.2.1.1
  refine lv_istore_n (lv' := [(1, .int (nI (vn (X 40 1)))), (0, .ref (ad 37))]) hx hb dX3_closeNots_7 rfl hl (by decide) rfl (fun ls hl => ?_)
  obtain ⟨kix, X8x, hX8⟩ : ∃ (kix : Nat) (X8x : xS), (kix, X8x) = x3_closeNots_L8 (vn (X 40 1) + 1) (vn (X 40 1)) X := ⟨_, _, rfl⟩
  rw [lt2_e hX8] at hF
  have hrest8 : ∀ (H : Heap) (locs : List Loc) (ls : Array Slot), lv_has ls 2 [(0, .ref (ad 37)), (1, .int (nI kix))] → xG D ad sa cc tt zA zs.heap H locs X8x → W zp zl ze ({ frames := 2, cells := 0, slots := 0, locals := 41 } : Room) zs zm zg zb zt zc H locs 0 0 zQ (F0 zm 55 ls []) := by
    intro H locs ls hl G
    exact hret _ _ _ _ _ hF G dX3_closeNots_55
  have hloop8 : ∀ (f : Nat) (ki : Nat) (X8 : xS), (ki < f ∧ dN X8) → (kix, X8x) = x3_closeNots_L8 f ki X8 → ∀ (H : Heap) (locs : List Loc) (ls : Array Slot), lv_has ls 2 [(0, .ref (ad 37)), (1, .int (nI ki))] → xG D ad sa cc tt zA zs.heap H locs X8 → W zp zl ze ({ frames := 2, cells := 0, slots := 0, locals := 41 } : Room) zs zm zg zb zt zc H locs 0 0 zQ (F0 zm 8 ls []) := by
    intro f
    induction f with
    | zero =>
      intro ki X8 hI hL8 H locs ls hl G
      exact absurd hI.1 (by omega)
    | succ f ih =>
      intro ki X8 hI hL8 H locs ls hl G
      rw [x3_closeNots_L8_s] at hL8
      refine lv_iload_n hx hb dX3_closeNots_8 rfl (lv_at hl 1 rfl) ?_
      refine lv_if_le (tgt := 55) hx hb dX3_closeNots_9 (by decide) (fun c9 => ?_) (fun c9 => ?_)
      · rw [if_pos c9] at hL8
        cases hL8
        exact hrest8 _ _ _ (lv_sub hl [0, 1] rfl) G
      · rw [if_neg c9] at hL8
        have hk0 : 0 < ki := Nat.pos_of_ne_zero (fun e9 => c9 (by rw [e9]; decide))
        refine lv_aload_n hx hb dX3_closeNots_12 rfl (lv_at hl 0 rfl) ?_
        refine xr_get C G (show kD 37 by decide).2 (xD_c (show kD 37 by decide).1) rfl (fun _ h => List.mem_cons_of_mem _ (List.mem_append_left _ (List.mem_append_right _ h))) 1 (by decide) (show Cond.fieldLink RX3 20 "WheatCounts$Reader" "signs" "LWheatCounts$Row;" ∈ _ by decide +kernel) rfl dX3_closeNots_13 ?_
        refine xr_Vi C hA G (kx4_last zl D ad sa cc tt X8 40 (show kR 40 by decide) hI.2.2.1) (show kR 40 by decide).2 (xR_c (show kR 40 by decide).1) rfl (cwV 0 C.2.2.2.2.1 gX3_closeNots_X4_last rfl rfl rfl (by decide +kernel) ⟨Nat.le_of_ble_eq_true rfl, Nat.le_of_ble_eq_true rfl⟩) rfl hl.1 rfl (Nat.le_of_ble_eq_true rfl) dX3_closeNots_16 ⟨Nat.le_refl _, Nat.le_refl _⟩ (fun H locs G => ?_)
        refine lv_bipush (v := 33) hx hb dX3_closeNots_19 (by decide) ?_
        refine lv_icmp_ne (tgt := 55) hx hb dX3_closeNots_21 (by decide) (fun c21 => ?_) (fun c21 => ?_)
        · rw [if_neg c21] at hL8
          cases hL8
          exact hrest8 _ _ _ (lv_sub hl [0, 1] rfl) G
        · rw [if_pos c21] at hL8
          refine lv_aload_n hx hb dX3_closeNots_24 rfl (lv_at hl 0 rfl) ?_
          refine xr_get C G (show kD 37 by decide).2 (xD_c (show kD 37 by decide).1) rfl (fun _ h => List.mem_cons_of_mem _ (List.mem_append_left _ (List.mem_append_right _ h))) 0 (by decide) (show Cond.fieldLink RX3 14 "WheatCounts$Reader" "code" "LWheatCounts$Row;" ∈ _ by decide +kernel) rfl dX3_closeNots_25 ?_
          refine lv_aload_n hx hb dX3_closeNots_28 rfl (lv_at hl 0 rfl) ?_
          refine xr_get C G (show kD 37 by decide).2 (xD_c (show kD 37 by decide).1) rfl (fun _ h => List.mem_cons_of_mem _ (List.mem_append_left _ (List.mem_append_right _ h))) 1 (by decide) (show Cond.fieldLink RX3 20 "WheatCounts$Reader" "signs" "LWheatCounts$Row;" ∈ _ by decide +kernel) rfl dX3_closeNots_29 ?_
          obtain ⟨x32, X32, hx32⟩ : ∃ (Z : Int32) (Y : xS), (Z, Y) = x4_removeLast X8 40 := ⟨_, _, rfl⟩
          refine xr_Vi (r0 := x32) (X2 := X32) C hA G (by rw [hx32]; exact (kx4_removeLast zl D ad sa cc tt X8 40 (show kR 40 by decide) hI.2.2.1)) (show kR 40 by decide).2 (xR_c (show kR 40 by decide).1) rfl (cwV 0 C.2.2.2.2.1 gX3_closeNots_X4_removeLast rfl rfl rfl (by decide +kernel) ⟨Nat.le_of_ble_eq_true rfl, Nat.le_of_ble_eq_true rfl⟩) rfl hl.1 rfl (Nat.le_of_ble_eq_true rfl) dX3_closeNots_32 ⟨Nat.le_refl _, Nat.le_refl _⟩ (fun H locs G => ?_)
          rw [lt2_e hx32] at hL8
          have hd32 : dN X32 := by have h9 := rl_d hI.2; rw [← hx32] at h9; exact h9
          refine lv_ineg hx hb dX3_closeNots_35 ?_
          refine xr_Vv C hA G (kx4_add zl D ad sa cc tt X32 38 (-x32) (show kR 38 by decide) hd32.1) (show kR 38 by decide).2 (xR_c (show kR 38 by decide).1) rfl (cwV 1 C.2.2.2.2.1 gX3_closeNots_X4_add rfl rfl rfl (by decide +kernel) ⟨Nat.le_of_ble_eq_true rfl, Nat.le_of_ble_eq_true rfl⟩) rfl hl.1 rfl (Nat.le_of_ble_eq_true rfl) dX3_closeNots_36 ⟨Nat.le_refl _, Nat.le_refl _⟩ (fun H locs G => ?_)
          obtain ⟨X36, hX36⟩ : ∃ Z : xS, Z = x4_add X32 38 (-x32) := ⟨_, rfl⟩
          have G : xG D ad sa cc tt zA zs.heap H locs X36 := by rw [hX36]; exact G
          rw [lt_e hX36] at hL8
          have hd36 : dN X36 := by rw [hX36]; exact ad38_d hd32
          refine lv_aload_n hx hb dX3_closeNots_39 rfl (lv_at hl 0 rfl) ?_
          refine lv_dup hx hb dX3_closeNots_40 rfl ?_
          refine xr_get C G (show kD 37 by decide).2 (xD_c (show kD 37 by decide).1) rfl (fun _ h => List.mem_cons_of_mem _ (List.mem_append_left _ (List.mem_append_right _ h))) 3 (by decide) (show Cond.fieldLink RX3 32 "WheatCounts$Reader" "open" "I" ∈ _ by decide +kernel) rfl dX3_closeNots_41 ?_
          refine lv_iconst (v := 1) hx hb dX3_closeNots_44 (by decide) ?_
          refine lv_isub hx hb dX3_closeNots_45 ?_
          refine xr_put C G (show kD 37 by decide).2 (xD_c (show kD 37 by decide).1) rfl (fun _ h => List.mem_cons_of_mem _ (List.mem_append_left _ (List.mem_append_right _ h))) tyX3 tyX3_ok nmX3 3 (by decide) rfl (show Cond.fieldLink RX3 32 "WheatCounts$Reader" "open" "I" ∈ _ by decide +kernel) (ty := .int) (by decide +kernel) rfl rfl (Nat.le_of_ble_eq_true rfl) (upd (X36 37) 3 ((X36 37 3) - 1)) (xD_c (show kD 37 by decide).1) dX3_closeNots_46 (fun H locs G => ?_)
          obtain ⟨X46, hX46⟩ : ∃ Z : xS, Z = mU X36 37 3 ((X36 37 3) - 1) := ⟨_, rfl⟩
          have G : xG D ad sa cc tt zA zs.heap H locs X46 := by rw [hX46]; exact G
          rw [lt_e hX46] at hL8
          have hqX46 : dN X46 := by rw [hX46]; exact fd3_d hd36
          refine lv_iinc (v := nI (ki - 1)) (lv' := [(1, .int (nI (ki - 1))), (0, .ref (ad 37))]) hx hb dX3_closeNots_49 hl (k := 1) rfl (nt_subi rfl (by omega)) (by decide) rfl (fun ls hl => ?_)
          refine lv_goto (tgt := 8) hx hb dX3_closeNots_52 (by decide) ?_
          exact ih (ki - 1) X46 ⟨by omega, hqX46⟩ hL8 _ _ _ (lv_sub hl [1, 0] rfl) G
  exact hloop8 _ _ _ ⟨by omega, hd⟩ hX8 _ _ _ (lv_sub hl [1, 0] rfl) G
set_option maxRecDepth 100000 in
set_option maxHeartbeats 4000000 in
theorem kx3_putDownFrom (zl : Launch) (D : va_G) (ad sa : Nat → Nat) (cc : cT) (tt : tT) (X : xS) (rank : Int32) (hd : dN X) : xMv zl D ad sa cc tt yX3_putDownFrom wsX3_putDownFrom ({ frames := 2, cells := 0, slots := 0, locals := 41 } : Room) [.ref (ad 37), .int rank] X (x3_putDownFrom X rank) := by
  refine xMv_of (code := cX3_putDownFrom) (nL := 3) (own := RX3) (by decide) rfl rfl (Nat.le_of_ble_eq_true rfl) ?_
  intro zp ze zs zm zg zb zt zc zA zQ C hA hret H locs ls hl G
  have hx := C.1
  have hb := C.2.1
  have hl : lv_has ls 3 [(0, .ref (ad 37)), (1, .int rank)] := hl
  obtain ⟨rM, hF⟩ : ∃ Z : xS, Z = x3_putDownFrom X rank := ⟨_, rfl⟩
  rw [← hF] at hret
  unfold x3_putDownFrom at hF
  refine lv_aload_n hx hb dX3_putDownFrom_0 rfl (lv_at hl 0 rfl) ?_
  refine xr_get C G (show kD 37 by decide).2 (xD_c (show kD 37 by decide).1) rfl (fun _ h => List.mem_cons_of_mem _ (List.mem_append_left _ (List.mem_append_right _ h))) 1 (by decide) (show Cond.fieldLink RX3 20 "WheatCounts$Reader" "signs" "LWheatCounts$Row;" ∈ _ by decide +kernel) rfl dX3_putDownFrom_1 ?_
  refine xr_get C G (show kR 40 by decide).2 (xR_c (show kR 40 by decide).1) rfl (fun _ h => List.mem_cons_of_mem _ (List.mem_append_right _ h)) 1 (by decide) (show Cond.fieldLink RX3 43 "WheatCounts$Row" "size" "I" ∈ _ by decide +kernel) rfl dX3_putDownFrom_4 ?_
  refine lv_topi (fun x7 hx7 => ?_)
  obtain rfl : x7 = nI (vn (X 40 1)) := hx7.trans hd.2.1.1
  refine lv_istore_n (lv' := [(2, .int (nI (vn (X 40 1)))), (0, .ref (ad 37)), (1, .int rank)]) hx hb dX3_putDownFrom_7 rfl hl (by decide) rfl (fun ls hl => ?_)
  obtain ⟨kix, X8x, hX8⟩ : ∃ (kix : Nat) (X8x : xS), (kix, X8x) = x3_putDownFrom_L8 rank (vn (X 40 1) + 1) (vn (X 40 1)) X := ⟨_, _, rfl⟩
  rw [lt2_e hX8] at hF
  have hrest8 : ∀ (H : Heap) (locs : List Loc) (ls : Array Slot), lv_has ls 3 [(0, .ref (ad 37)), (1, .int rank), (2, .int (nI kix))] → xG D ad sa cc tt zA zs.heap H locs X8x → W zp zl ze ({ frames := 2, cells := 0, slots := 0, locals := 41 } : Room) zs zm zg zb zt zc H locs 0 0 zQ (F0 zm 47 ls []) := by
    intro H locs ls hl G
    exact hret _ _ _ _ _ hF G dX3_putDownFrom_47
  have hloop8 : ∀ (f : Nat) (ki : Nat) (X8 : xS), (ki < f ∧ dN X8) → (kix, X8x) = x3_putDownFrom_L8 rank f ki X8 → ∀ (H : Heap) (locs : List Loc) (ls : Array Slot), lv_has ls 3 [(0, .ref (ad 37)), (1, .int rank), (2, .int (nI ki))] → xG D ad sa cc tt zA zs.heap H locs X8 → W zp zl ze ({ frames := 2, cells := 0, slots := 0, locals := 41 } : Room) zs zm zg zb zt zc H locs 0 0 zQ (F0 zm 8 ls []) := by
    intro f
    induction f with
    | zero =>
      intro ki X8 hI hL8 H locs ls hl G
      exact absurd hI.1 (by omega)
    | succ f ih =>
      intro ki X8 hI hL8 H locs ls hl G
      rw [x3_putDownFrom_L8_s] at hL8
      refine lv_iload_n hx hb dX3_putDownFrom_8 rfl (lv_at hl 2 rfl) ?_
      refine lv_if_le (tgt := 47) hx hb dX3_putDownFrom_9 (by decide) (fun c9 => ?_) (fun c9 => ?_)
      · rw [if_pos c9] at hL8
        cases hL8
        exact hrest8 _ _ _ (lv_sub hl [0, 1, 2] rfl) G
      · rw [if_neg c9] at hL8
        have hk0 : 0 < ki := Nat.pos_of_ne_zero (fun e9 => c9 (by rw [e9]; decide))
        refine lv_aload_n hx hb dX3_putDownFrom_12 rfl (lv_at hl 0 rfl) ?_
        refine xr_get C G (show kD 37 by decide).2 (xD_c (show kD 37 by decide).1) rfl (fun _ h => List.mem_cons_of_mem _ (List.mem_append_left _ (List.mem_append_right _ h))) 1 (by decide) (show Cond.fieldLink RX3 20 "WheatCounts$Reader" "signs" "LWheatCounts$Row;" ∈ _ by decide +kernel) rfl dX3_putDownFrom_13 ?_
        refine xr_Vi C hA G (kx4_last zl D ad sa cc tt X8 40 (show kR 40 by decide) hI.2.2.1) (show kR 40 by decide).2 (xR_c (show kR 40 by decide).1) rfl (cwV 0 C.2.2.2.2.1 gX3_putDownFrom_X4_last rfl rfl rfl (by decide +kernel) ⟨Nat.le_of_ble_eq_true rfl, Nat.le_of_ble_eq_true rfl⟩) rfl hl.1 rfl (Nat.le_of_ble_eq_true rfl) dX3_putDownFrom_16 ⟨Nat.le_refl _, Nat.le_refl _⟩ (fun H locs G => ?_)
        refine xr_ps C hA G (ks_X3_rankOf zl (x4_last X8 40)) (va_cwS 1 C.2.2.2.2.1 gX3_putDownFrom_X3_rankOf rfl rfl rfl (by decide +kernel) ⟨Nat.le_of_ble_eq_true rfl, Nat.le_of_ble_eq_true rfl⟩) rfl hl.1 rfl (Nat.le_of_ble_eq_true rfl) dX3_putDownFrom_19 ⟨Nat.le_refl _, Nat.le_refl _⟩ (fun H locs G => ?_)
        refine lv_iload_n hx hb dX3_putDownFrom_22 rfl (lv_at hl 1 rfl) ?_
        refine lv_icmp_lt (tgt := 47) hx hb dX3_putDownFrom_23 (by decide) (fun c23 => ?_) (fun c23 => ?_)
        · rw [if_pos c23] at hL8
          cases hL8
          exact hrest8 _ _ _ (lv_sub hl [0, 1, 2] rfl) G
        · rw [if_neg c23] at hL8
          refine lv_aload_n hx hb dX3_putDownFrom_26 rfl (lv_at hl 0 rfl) ?_
          refine xr_get C G (show kD 37 by decide).2 (xD_c (show kD 37 by decide).1) rfl (fun _ h => List.mem_cons_of_mem _ (List.mem_append_left _ (List.mem_append_right _ h))) 0 (by decide) (show Cond.fieldLink RX3 14 "WheatCounts$Reader" "code" "LWheatCounts$Row;" ∈ _ by decide +kernel) rfl dX3_putDownFrom_27 ?_
          refine lv_aload_n hx hb dX3_putDownFrom_30 rfl (lv_at hl 0 rfl) ?_
          refine xr_get C G (show kD 37 by decide).2 (xD_c (show kD 37 by decide).1) rfl (fun _ h => List.mem_cons_of_mem _ (List.mem_append_left _ (List.mem_append_right _ h))) 1 (by decide) (show Cond.fieldLink RX3 20 "WheatCounts$Reader" "signs" "LWheatCounts$Row;" ∈ _ by decide +kernel) rfl dX3_putDownFrom_31 ?_
          obtain ⟨x34, X34, hx34⟩ : ∃ (Z : Int32) (Y : xS), (Z, Y) = x4_removeLast X8 40 := ⟨_, _, rfl⟩
          refine xr_Vi (r0 := x34) (X2 := X34) C hA G (by rw [hx34]; exact (kx4_removeLast zl D ad sa cc tt X8 40 (show kR 40 by decide) hI.2.2.1)) (show kR 40 by decide).2 (xR_c (show kR 40 by decide).1) rfl (cwV 0 C.2.2.2.2.1 gX3_putDownFrom_X4_removeLast rfl rfl rfl (by decide +kernel) ⟨Nat.le_of_ble_eq_true rfl, Nat.le_of_ble_eq_true rfl⟩) rfl hl.1 rfl (Nat.le_of_ble_eq_true rfl) dX3_putDownFrom_34 ⟨Nat.le_refl _, Nat.le_refl _⟩ (fun H locs G => ?_)
          rw [lt2_e hx34] at hL8
          have hd34 : dN X34 := by have h9 := rl_d hI.2; rw [← hx34] at h9; exact h9
          refine lv_ineg hx hb dX3_putDownFrom_37 ?_
          refine xr_Vv C hA G (kx4_add zl D ad sa cc tt X34 38 (-x34) (show kR 38 by decide) hd34.1) (show kR 38 by decide).2 (xR_c (show kR 38 by decide).1) rfl (cwV 1 C.2.2.2.2.1 gX3_putDownFrom_X4_add rfl rfl rfl (by decide +kernel) ⟨Nat.le_of_ble_eq_true rfl, Nat.le_of_ble_eq_true rfl⟩) rfl hl.1 rfl (Nat.le_of_ble_eq_true rfl) dX3_putDownFrom_38 ⟨Nat.le_refl _, Nat.le_refl _⟩ (fun H locs G => ?_)
          obtain ⟨X38, hX38⟩ : ∃ Z : xS, Z = x4_add X34 38 (-x34) := ⟨_, rfl⟩
          have G : xG D ad sa cc tt zA zs.heap H locs X38 := by rw [hX38]; exact G
          rw [lt_e hX38] at hL8
          have hqX38 : dN X38 := by rw [hX38]; exact ad38_d hd34
          refine lv_iinc (v := nI (ki - 1)) (lv' := [(2, .int (nI (ki - 1))), (0, .ref (ad 37)), (1, .int rank)]) hx hb dX3_putDownFrom_41 hl (k := 2) rfl (nt_subi rfl (by omega)) (by decide) rfl (fun ls hl => ?_)
          refine lv_goto (tgt := 8) hx hb dX3_putDownFrom_44 (by decide) ?_
          exact ih (ki - 1) X38 ⟨by omega, hqX38⟩ hL8 _ _ _ (lv_sub hl [1, 2, 0] rfl) G
  exact hloop8 _ _ _ ⟨by omega, hd⟩ hX8 _ _ _ (lv_sub hl [1, 2, 0] rfl) G
set_option maxRecDepth 100000 in
set_option maxHeartbeats 4000000 in
theorem kx3_endTerm (zl : Launch) (D : va_G) (ad sa : Nat → Nat) (cc : cT) (tt : tT) (X : xS) (sign : Int32) (hd : dN X) : xMv zl D ad sa cc tt yX3_endTerm wsX3_endTerm ({ frames := 3, cells := 0, slots := 0, locals := 62 } : Room) [.ref (ad 37), .int sign] X (x3_endTerm X sign) := by
  refine xMv_of (code := cX3_endTerm) (nL := 2) (own := RX3) (by decide) rfl rfl (Nat.le_of_ble_eq_true rfl) ?_
  intro zp ze zs zm zg zb zt zc zA zQ C hA hret H locs ls hl G
  have hx := C.1
  have hb := C.2.1
  have hl : lv_has ls 2 [(0, .ref (ad 37)), (1, .int sign)] := hl
  obtain ⟨rM, hF⟩ : ∃ Z : xS, Z = x3_endTerm X sign := ⟨_, rfl⟩
  rw [← hF] at hret
  unfold x3_endTerm at hF
  refine lv_aload_n hx hb dX3_endTerm_0 rfl (lv_at hl 0 rfl) ?_
  refine xr_get C G (show kD 37 by decide).2 (xD_c (show kD 37 by decide).1) rfl (fun _ h => List.mem_cons_of_mem _ (List.mem_append_left _ (List.mem_append_right _ h))) 0 (by decide) (show Cond.fieldLink RX3 14 "WheatCounts$Reader" "code" "LWheatCounts$Row;" ∈ _ by decide +kernel) rfl dX3_endTerm_1 ?_
  refine lv_iload_n hx hb dX3_endTerm_4 rfl (lv_at hl 1 rfl) ?_
  refine xr_Vv C hA G (kx4_add zl D ad sa cc tt X 38 sign (show kR 38 by decide) hd.1) (show kR 38 by decide).2 (xR_c (show kR 38 by decide).1) rfl (cwV 1 C.2.2.2.2.1 gX3_endTerm_X4_add rfl rfl rfl (by decide +kernel) ⟨Nat.le_of_ble_eq_true rfl, Nat.le_of_ble_eq_true rfl⟩) rfl hl.1 rfl (Nat.le_of_ble_eq_true rfl) dX3_endTerm_5 ⟨Nat.le_refl _, Nat.le_refl _⟩ (fun H locs G => ?_)
  obtain ⟨X5, hX5⟩ : ∃ Z : xS, Z = x4_add X 38 sign := ⟨_, rfl⟩
  have G : xG D ad sa cc tt zA zs.heap H locs X5 := by rw [hX5]; exact G
  rw [lt_e hX5] at hF
  have hd5 : dN X5 := by rw [hX5]; exact ad38_d hd
  refine lv_aload_n hx hb dX3_endTerm_8 rfl (lv_at hl 0 rfl) ?_
  refine lv_iconst (v := 0) hx hb dX3_endTerm_9 (by decide) ?_
  refine xr_put C G (show kD 37 by decide).2 (xD_c (show kD 37 by decide).1) rfl (fun _ h => List.mem_cons_of_mem _ (List.mem_append_left _ (List.mem_append_right _ h))) tyX3 tyX3_ok nmX3 6 (by decide) rfl (show Cond.fieldLink RX3 39 "WheatCounts$Reader" "termIsDue" "Z" ∈ _ by decide +kernel) (ty := .boolean) (by decide +kernel) rfl rfl (Nat.le_of_ble_eq_true rfl) (upd (X5 37) 6 0) (xD_c (show kD 37 by decide).1) dX3_endTerm_10 (fun H locs G => ?_)
  obtain ⟨X10, hX10⟩ : ∃ Z : xS, Z = mU X5 37 6 0 := ⟨_, rfl⟩
  have G : xG D ad sa cc tt zA zs.heap H locs X10 := by rw [hX10]; exact G
  rw [lt_e hX10] at hF
  have hd10 : dN X10 := by rw [hX10]; exact fd6_d hd5
  refine lv_aload_n hx hb dX3_endTerm_13 rfl (lv_at hl 0 rfl) ?_
  refine xr_Vv C hA G (kx3_closeNots zl D ad sa cc tt X10 hd10) (show kD 37 by decide).2 (xD_c (show kD 37 by decide).1) rfl (cwV 0 C.2.2.2.2.1 gX3_endTerm_X3_closeNots rfl rfl rfl (by decide +kernel) ⟨Nat.le_of_ble_eq_true rfl, Nat.le_of_ble_eq_true rfl⟩) rfl hl.1 rfl (Nat.le_of_ble_eq_true rfl) dX3_endTerm_14 ⟨Nat.le_refl _, Nat.le_refl _⟩ (fun H locs G => ?_)
  obtain ⟨X14, hX14⟩ : ∃ Z : xS, Z = x3_closeNots X10 := ⟨_, rfl⟩
  have G : xG D ad sa cc tt zA zs.heap H locs X14 := by rw [hX14]; exact G
  rw [lt_e hX14] at hF
  exact hret _ _ _ _ _ hF G dX3_endTerm_17
set_option maxRecDepth 100000 in
set_option maxHeartbeats 4000000 in
theorem kx3_endNumber (zl : Launch) (D : va_G) (ad sa : Nat → Nat) (cc : cT) (tt : tT) (X : xS) (hd : dN X) : xMv zl D ad sa cc tt yX3_endNumber wsX3_endNumber ({ frames := 4, cells := 0, slots := 0, locals := 83 } : Room) [.ref (ad 37)] X (x3_endNumber X) := by
  refine xMv_of (code := cX3_endNumber) (nL := 1) (own := RX3) (by decide) rfl rfl (Nat.le_of_ble_eq_true rfl) ?_
  intro zp ze zs zm zg zb zt zc zA zQ C hA hret H locs ls hl G
  have hx := C.1
  have hb := C.2.1
  have hl : lv_has ls 1 [(0, .ref (ad 37))] := hl
  obtain ⟨rM, hF⟩ : ∃ Z : xS, Z = x3_endNumber X := ⟨_, rfl⟩
  rw [← hF] at hret
  unfold x3_endNumber at hF
  refine lv_aload_n hx hb dX3_endNumber_0 rfl (lv_at hl 0 rfl) ?_
  refine xr_get C G (show kD 37 by decide).2 (xD_c (show kD 37 by decide).1) rfl (fun _ h => List.mem_cons_of_mem _ (List.mem_append_left _ (List.mem_append_right _ h))) 5 (by decide) (show Cond.fieldLink RX3 36 "WheatCounts$Reader" "digits" "I" ∈ _ by decide +kernel) rfl dX3_endNumber_1 ?_
  obtain ⟨X20, hX20⟩ : ∃ (X20 : xS), X20 = ((if (X 37 5) ≤ 0 then X else (lt (mU X 37 5 0) fun (X9 : xS) => lt (x3_endTerm X9 (X9 37 4)) fun (X17 : xS) => X17)) : xS) := ⟨_, rfl⟩
  rw [lt_e hX20] at hF
  have hj20 : ∀ (H : Heap) (locs : List Loc) (ls : Array Slot), lv_has ls 1 [(0, .ref (ad 37))] → xG D ad sa cc tt zA zs.heap H locs X20 → W zp zl ze ({ frames := 4, cells := 0, slots := 0, locals := 83 } : Room) zs zm zg zb zt zc H locs 0 0 zQ (F0 zm 20 ls []) := by
    intro H locs ls hl G
    exact hret _ _ _ _ _ hF G dX3_endNumber_20
  refine lv_if_le (tgt := 20) hx hb dX3_endNumber_4 (by decide) (fun c4 => ?_) (fun c4 => ?_)
  · rw [if_pos c4] at hX20
    subst hX20
    exact hj20 _ _ _ (lv_sub hl [0] rfl) G
  · rw [if_neg c4] at hX20
    refine lv_aload_n hx hb dX3_endNumber_7 rfl (lv_at hl 0 rfl) ?_
    refine lv_iconst (v := 0) hx hb dX3_endNumber_8 (by decide) ?_
    refine xr_put C G (show kD 37 by decide).2 (xD_c (show kD 37 by decide).1) rfl (fun _ h => List.mem_cons_of_mem _ (List.mem_append_left _ (List.mem_append_right _ h))) tyX3 tyX3_ok nmX3 5 (by decide) rfl (show Cond.fieldLink RX3 36 "WheatCounts$Reader" "digits" "I" ∈ _ by decide +kernel) (ty := .int) (by decide +kernel) rfl rfl (Nat.le_of_ble_eq_true rfl) (upd (X 37) 5 0) (xD_c (show kD 37 by decide).1) dX3_endNumber_9 (fun H locs G => ?_)
    obtain ⟨X9, hX9⟩ : ∃ Z : xS, Z = mU X 37 5 0 := ⟨_, rfl⟩
    have G : xG D ad sa cc tt zA zs.heap H locs X9 := by rw [hX9]; exact G
    rw [lt_e hX9] at hX20
    have hd9 : dN X9 := by rw [hX9]; exact fd5_d hd
    refine lv_aload_n hx hb dX3_endNumber_12 rfl (lv_at hl 0 rfl) ?_
    refine lv_aload_n hx hb dX3_endNumber_13 rfl (lv_at hl 0 rfl) ?_
    refine xr_get C G (show kD 37 by decide).2 (xD_c (show kD 37 by decide).1) rfl (fun _ h => List.mem_cons_of_mem _ (List.mem_append_left _ (List.mem_append_right _ h))) 4 (by decide) (show Cond.fieldLink RX3 74 "WheatCounts$Reader" "number" "I" ∈ _ by decide +kernel) rfl dX3_endNumber_14 ?_
    refine xr_Vv C hA G (kx3_endTerm zl D ad sa cc tt X9 (X9 37 4) hd9) (show kD 37 by decide).2 (xD_c (show kD 37 by decide).1) rfl (cwV 1 C.2.2.2.2.1 gX3_endNumber_X3_endTerm rfl rfl rfl (by decide +kernel) ⟨Nat.le_of_ble_eq_true rfl, Nat.le_of_ble_eq_true rfl⟩) rfl hl.1 rfl (Nat.le_of_ble_eq_true rfl) dX3_endNumber_17 ⟨Nat.le_refl _, Nat.le_refl _⟩ (fun H locs G => ?_)
    obtain ⟨X17, hX17⟩ : ∃ Z : xS, Z = x3_endTerm X9 (X9 37 4) := ⟨_, rfl⟩
    have G : xG D ad sa cc tt zA zs.heap H locs X17 := by rw [hX17]; exact G
    rw [lt_e hX17] at hX20
    subst hX20
    exact hj20 _ _ _ (lv_sub hl [0] rfl) G
set_option maxRecDepth 100000 in
set_option maxHeartbeats 4000000 in
theorem kx3_closeBracket (zl : Launch) (D : va_G) (ad sa : Nat → Nat) (cc : cT) (tt : tT) (X : xS) (hd : dN X) : xM zl D ad sa cc tt yX3_closeBracket wsX3_closeBracket ({ frames := 3, cells := 0, slots := 0, locals := 63 } : Room) [.ref (ad 37)] X (x3_closeBracket X) := by
  refine xM_ofZ (code := cX3_closeBracket) (nL := 1) (own := RX3) (by decide) rfl rfl (Nat.le_of_ble_eq_true rfl) ?_
  intro zp ze zs zm zg zb zt zc zA zQ C hA hret H locs ls hl G
  have hx := C.1
  have hb := C.2.1
  have hl : lv_has ls 1 [(0, .ref (ad 37))] := hl
  obtain ⟨rM, hF⟩ : ∃ Z : Int32 × xS, Z = x3_closeBracket X := ⟨_, rfl⟩
  rw [← hF] at hret
  unfold x3_closeBracket at hF
  refine lv_aload_n hx hb dX3_closeBracket_0 rfl (lv_at hl 0 rfl) ?_
  refine lv_iconst (v := 1) hx hb dX3_closeBracket_1 (by decide) ?_
  refine xr_Vv C hA G (kx3_putDownFrom zl D ad sa cc tt X 1 hd) (show kD 37 by decide).2 (xD_c (show kD 37 by decide).1) rfl (cwV 1 C.2.2.2.2.1 gX3_closeBracket_X3_putDownFrom rfl rfl rfl (by decide +kernel) ⟨Nat.le_of_ble_eq_true rfl, Nat.le_of_ble_eq_true rfl⟩) rfl hl.1 rfl (Nat.le_of_ble_eq_true rfl) dX3_closeBracket_2 ⟨Nat.le_refl _, Nat.le_refl _⟩ (fun H locs G => ?_)
  obtain ⟨X2, hX2⟩ : ∃ Z : xS, Z = x3_putDownFrom X 1 := ⟨_, rfl⟩
  have G : xG D ad sa cc tt zA zs.heap H locs X2 := by rw [hX2]; exact G
  rw [lt_e hX2] at hF
  have hd2 : dN X2 := by rw [hX2]; exact pd_d hd
  refine lv_aload_n hx hb dX3_closeBracket_5 rfl (lv_at hl 0 rfl) ?_
  refine xr_get C G (show kD 37 by decide).2 (xD_c (show kD 37 by decide).1) rfl (fun _ h => List.mem_cons_of_mem _ (List.mem_append_left _ (List.mem_append_right _ h))) 1 (by decide) (show Cond.fieldLink RX3 20 "WheatCounts$Reader" "signs" "LWheatCounts$Row;" ∈ _ by decide +kernel) rfl dX3_closeBracket_6 ?_
  refine xr_Vi C hA G (kx4_last zl D ad sa cc tt X2 40 (show kR 40 by decide) hd2.2.1) (show kR 40 by decide).2 (xR_c (show kR 40 by decide).1) rfl (cwV 0 C.2.2.2.2.1 gX3_closeBracket_X4_last rfl rfl rfl (by decide +kernel) ⟨Nat.le_of_ble_eq_true rfl, Nat.le_of_ble_eq_true rfl⟩) rfl hl.1 rfl (Nat.le_of_ble_eq_true rfl) dX3_closeBracket_9 ⟨Nat.le_refl _, Nat.le_refl _⟩ (fun H locs G => ?_)
  refine lv_bipush (v := 40) hx hb dX3_closeBracket_12 (by decide) ?_
  refine lv_icmp_eq (tgt := 19) hx hb dX3_closeBracket_14 (by decide) (fun c14 => ?_) (fun c14 => ?_)
  · rw [if_pos c14] at hF
    refine lv_aload_n hx hb dX3_closeBracket_19 rfl (lv_at hl 0 rfl) ?_
    refine xr_get C G (show kD 37 by decide).2 (xD_c (show kD 37 by decide).1) rfl (fun _ h => List.mem_cons_of_mem _ (List.mem_append_left _ (List.mem_append_right _ h))) 1 (by decide) (show Cond.fieldLink RX3 20 "WheatCounts$Reader" "signs" "LWheatCounts$Row;" ∈ _ by decide +kernel) rfl dX3_closeBracket_20 ?_
    obtain ⟨x23, X23, hx23⟩ : ∃ (Z : Int32) (Y : xS), (Z, Y) = x4_removeLast X2 40 := ⟨_, _, rfl⟩
    refine xr_Vi (r0 := x23) (X2 := X23) C hA G (by rw [hx23]; exact (kx4_removeLast zl D ad sa cc tt X2 40 (show kR 40 by decide) hd2.2.1)) (show kR 40 by decide).2 (xR_c (show kR 40 by decide).1) rfl (cwV 0 C.2.2.2.2.1 gX3_closeBracket_X4_removeLast rfl rfl rfl (by decide +kernel) ⟨Nat.le_of_ble_eq_true rfl, Nat.le_of_ble_eq_true rfl⟩) rfl hl.1 rfl (Nat.le_of_ble_eq_true rfl) dX3_closeBracket_23 ⟨Nat.le_refl _, Nat.le_refl _⟩ (fun H locs G => ?_)
    rw [lt2_e hx23] at hF
    have hd23 : dN X23 := by have h9 := rl_d hd2; rw [← hx23] at h9; exact h9
    refine lv_pop hx hb dX3_closeBracket_26 rfl ?_
    refine lv_aload_n hx hb dX3_closeBracket_27 rfl (lv_at hl 0 rfl) ?_
    refine lv_dup hx hb dX3_closeBracket_28 rfl ?_
    refine xr_get C G (show kD 37 by decide).2 (xD_c (show kD 37 by decide).1) rfl (fun _ h => List.mem_cons_of_mem _ (List.mem_append_left _ (List.mem_append_right _ h))) 3 (by decide) (show Cond.fieldLink RX3 32 "WheatCounts$Reader" "open" "I" ∈ _ by decide +kernel) rfl dX3_closeBracket_29 ?_
    refine lv_iconst (v := 1) hx hb dX3_closeBracket_32 (by decide) ?_
    refine lv_isub hx hb dX3_closeBracket_33 ?_
    refine xr_put C G (show kD 37 by decide).2 (xD_c (show kD 37 by decide).1) rfl (fun _ h => List.mem_cons_of_mem _ (List.mem_append_left _ (List.mem_append_right _ h))) tyX3 tyX3_ok nmX3 3 (by decide) rfl (show Cond.fieldLink RX3 32 "WheatCounts$Reader" "open" "I" ∈ _ by decide +kernel) (ty := .int) (by decide +kernel) rfl rfl (Nat.le_of_ble_eq_true rfl) (upd (X23 37) 3 ((X23 37 3) - 1)) (xD_c (show kD 37 by decide).1) dX3_closeBracket_34 (fun H locs G => ?_)
    obtain ⟨X34, hX34⟩ : ∃ Z : xS, Z = mU X23 37 3 ((X23 37 3) - 1) := ⟨_, rfl⟩
    have G : xG D ad sa cc tt zA zs.heap H locs X34 := by rw [hX34]; exact G
    rw [lt_e hX34] at hF
    have hd34 : dN X34 := by rw [hX34]; exact fd3_d hd23
    refine lv_aload_n hx hb dX3_closeBracket_37 rfl (lv_at hl 0 rfl) ?_
    refine xr_Vv C hA G (kx3_closeNots zl D ad sa cc tt X34 hd34) (show kD 37 by decide).2 (xD_c (show kD 37 by decide).1) rfl (cwV 0 C.2.2.2.2.1 gX3_closeBracket_X3_closeNots rfl rfl rfl (by decide +kernel) ⟨Nat.le_of_ble_eq_true rfl, Nat.le_of_ble_eq_true rfl⟩) rfl hl.1 rfl (Nat.le_of_ble_eq_true rfl) dX3_closeBracket_38 ⟨Nat.le_refl _, Nat.le_refl _⟩ (fun H locs G => ?_)
    obtain ⟨X38, hX38⟩ : ∃ Z : xS, Z = x3_closeNots X34 := ⟨_, rfl⟩
    have G : xG D ad sa cc tt zA zs.heap H locs X38 := by rw [hX38]; exact G
    rw [lt_e hX38] at hF
    refine lv_iconst (v := 1) hx hb dX3_closeBracket_41 (by decide) ?_
    exact hret _ _ _ _ _ _ hF G (Or.inr rfl) dX3_closeBracket_42
  · rw [if_neg c14] at hF
    refine lv_iconst (v := 0) hx hb dX3_closeBracket_17 (by decide) ?_
    exact hret _ _ _ _ _ _ hF G (Or.inl rfl) dX3_closeBracket_18
set_option maxRecDepth 100000 in
set_option maxHeartbeats 4000000 in
theorem kx3_takeSign (zl : Launch) (D : va_G) (ad sa : Nat → Nat) (cc : cT) (tt : tT) (X : xS) (c : Int32) (hd : dN X) : xM zl D ad sa cc tt yX3_takeSign wsX3_takeSign ({ frames := 4, cells := 0, slots := 0, locals := 83 } : Room) [.ref (ad 37), .int c] X (x3_takeSign X c) := by
  refine xM_ofZ (code := cX3_takeSign) (nL := 3) (own := RX3) (by decide) rfl rfl (Nat.le_of_ble_eq_true rfl) ?_
  intro zp ze zs zm zg zb zt zc zA zQ C hA hret H locs ls hl G
  have hx := C.1
  have hb := C.2.1
  have hl : lv_has ls 3 [(0, .ref (ad 37)), (1, .int c)] := hl
  obtain ⟨rM, hF⟩ : ∃ Z : Int32 × xS, Z = x3_takeSign X c := ⟨_, rfl⟩
  rw [← hF] at hret
  unfold x3_takeSign at hF
  refine lv_iload_n hx hb dX3_takeSign_0 rfl (lv_at hl 1 rfl) ?_
  refine lv_bipush (v := 41) hx hb dX3_takeSign_1 (by decide) ?_
  refine lv_icmp_ne (tgt := 11) hx hb dX3_takeSign_3 (by decide) (fun c3 => ?_) (fun c3 => ?_)
  · rw [if_neg c3] at hF
    refine lv_iload_n hx hb dX3_takeSign_11 rfl (lv_at hl 1 rfl) ?_
    refine xr_ps C hA G (ks_X3_rankOf zl c) (va_cwS 1 C.2.2.2.2.1 gX3_takeSign_X3_rankOf rfl rfl rfl (by decide +kernel) ⟨Nat.le_of_ble_eq_true rfl, Nat.le_of_ble_eq_true rfl⟩) rfl hl.1 rfl (Nat.le_of_ble_eq_true rfl) dX3_takeSign_12 ⟨Nat.le_refl _, Nat.le_refl _⟩ (fun H locs G => ?_)
    refine lv_topi (fun x15 hx15 => ?_)
    rw [lt_e hx15] at hF
    refine lv_istore_n (lv' := [(2, .int x15), (0, .ref (ad 37)), (1, .int c)]) hx hb dX3_takeSign_15 rfl hl (by decide) rfl (fun ls hl => ?_)
    refine lv_iload_n hx hb dX3_takeSign_16 rfl (lv_at hl 0 rfl) ?_
    refine lv_if_ne (tgt := 22) hx hb dX3_takeSign_17 (by decide) (fun c17 => ?_) (fun c17 => ?_)
    · rw [if_neg c17] at hF
      refine lv_aload_n hx hb dX3_takeSign_22 rfl (lv_at hl 1 rfl) ?_
      refine lv_iload_n hx hb dX3_takeSign_23 rfl (lv_at hl 0 rfl) ?_
      refine lv_iconst (v := 3) hx hb dX3_takeSign_24 (by decide) ?_
      obtain ⟨y35, hX35⟩ : ∃ (y35 : Int32), y35 = ((if x15 = 3 then (x15 + 1) else x15) : Int32) := ⟨_, rfl⟩
      rw [lt_e hX35] at hF
      have hj35 : ∀ (H : Heap) (locs : List Loc) (ls : Array Slot), lv_has ls 3 [(0, .ref (ad 37)), (1, .int c), (2, .int x15)] → xG D ad sa cc tt zA zs.heap H locs X → W zp zl ze ({ frames := 4, cells := 0, slots := 0, locals := 83 } : Room) zs zm zg zb zt zc H locs 0 0 zQ (F0 zm 35 ls [.int y35, .ref (ad 37)]) := by
        intro H locs ls hl G
        refine xr_Vv C hA G (kx3_putDownFrom zl D ad sa cc tt X y35 hd) (show kD 37 by decide).2 (xD_c (show kD 37 by decide).1) rfl (cwV 1 C.2.2.2.2.1 gX3_takeSign_X3_putDownFrom rfl rfl rfl (by decide +kernel) ⟨Nat.le_of_ble_eq_true rfl, Nat.le_of_ble_eq_true rfl⟩) rfl hl.1 rfl (Nat.le_of_ble_eq_true rfl) dX3_takeSign_35 ⟨Nat.le_refl _, Nat.le_refl _⟩ (fun H locs G => ?_)
        obtain ⟨X35, hX35⟩ : ∃ Z : xS, Z = x3_putDownFrom X y35 := ⟨_, rfl⟩
        have G : xG D ad sa cc tt zA zs.heap H locs X35 := by rw [hX35]; exact G
        rw [lt_e hX35] at hF
        have hd35 : dN X35 := by rw [hX35]; exact pd_d hd
        refine lv_iload_n hx hb dX3_takeSign_38 rfl (lv_at hl 2 rfl) ?_
        refine lv_iconst (v := 3) hx hb dX3_takeSign_39 (by decide) ?_
        refine lv_icmp_ne (tgt := 59) hx hb dX3_takeSign_40 (by decide) (fun c40 => ?_) (fun c40 => ?_)
        · rw [if_neg c40] at hF
          refine lv_aload_n hx hb dX3_takeSign_59 rfl (lv_at hl 0 rfl) ?_
          refine xr_get C G (show kD 37 by decide).2 (xD_c (show kD 37 by decide).1) rfl (fun _ h => List.mem_cons_of_mem _ (List.mem_append_left _ (List.mem_append_right _ h))) 1 (by decide) (show Cond.fieldLink RX3 20 "WheatCounts$Reader" "signs" "LWheatCounts$Row;" ∈ _ by decide +kernel) rfl dX3_takeSign_60 ?_
          refine lv_iload_n hx hb dX3_takeSign_63 rfl (lv_at hl 1 rfl) ?_
          refine xr_Vv C hA G (kx4_add zl D ad sa cc tt X35 40 c (show kR 40 by decide) hd35.2.1) (show kR 40 by decide).2 (xR_c (show kR 40 by decide).1) rfl (cwV 1 C.2.2.2.2.1 gX3_takeSign_X4_add rfl rfl rfl (by decide +kernel) ⟨Nat.le_of_ble_eq_true rfl, Nat.le_of_ble_eq_true rfl⟩) rfl hl.1 rfl (Nat.le_of_ble_eq_true rfl) dX3_takeSign_64 ⟨Nat.le_refl _, Nat.le_refl _⟩ (fun H locs G => ?_)
          obtain ⟨X64, hX64⟩ : ∃ Z : xS, Z = x4_add X35 40 c := ⟨_, rfl⟩
          have G : xG D ad sa cc tt zA zs.heap H locs X64 := by rw [hX64]; exact G
          rw [lt_e hX64] at hF
          refine lv_aload_n hx hb dX3_takeSign_67 rfl (lv_at hl 0 rfl) ?_
          refine lv_iconst (v := 1) hx hb dX3_takeSign_68 (by decide) ?_
          refine xr_put C G (show kD 37 by decide).2 (xD_c (show kD 37 by decide).1) rfl (fun _ h => List.mem_cons_of_mem _ (List.mem_append_left _ (List.mem_append_right _ h))) tyX3 tyX3_ok nmX3 6 (by decide) rfl (show Cond.fieldLink RX3 39 "WheatCounts$Reader" "termIsDue" "Z" ∈ _ by decide +kernel) (ty := .boolean) (by decide +kernel) rfl rfl (Nat.le_of_ble_eq_true rfl) (upd (X64 37) 6 1) (xD_c (show kD 37 by decide).1) dX3_takeSign_69 (fun H locs G => ?_)
          obtain ⟨X69, hX69⟩ : ∃ Z : xS, Z = mU X64 37 6 1 := ⟨_, rfl⟩
          have G : xG D ad sa cc tt zA zs.heap H locs X69 := by rw [hX69]; exact G
          rw [lt_e hX69] at hF
          refine lv_iconst (v := 1) hx hb dX3_takeSign_72 (by decide) ?_
          exact hret _ _ _ _ _ _ hF G (Or.inr rfl) dX3_takeSign_73
        · rw [if_pos c40] at hF
          refine lv_aload_n hx hb dX3_takeSign_43 rfl (lv_at hl 0 rfl) ?_
          refine xr_get C G (show kD 37 by decide).2 (xD_c (show kD 37 by decide).1) rfl (fun _ h => List.mem_cons_of_mem _ (List.mem_append_left _ (List.mem_append_right _ h))) 1 (by decide) (show Cond.fieldLink RX3 20 "WheatCounts$Reader" "signs" "LWheatCounts$Row;" ∈ _ by decide +kernel) rfl dX3_takeSign_44 ?_
          refine xr_Vi C hA G (kx4_last zl D ad sa cc tt X35 40 (show kR 40 by decide) hd35.2.1) (show kR 40 by decide).2 (xR_c (show kR 40 by decide).1) rfl (cwV 0 C.2.2.2.2.1 gX3_takeSign_X4_last rfl rfl rfl (by decide +kernel) ⟨Nat.le_of_ble_eq_true rfl, Nat.le_of_ble_eq_true rfl⟩) rfl hl.1 rfl (Nat.le_of_ble_eq_true rfl) dX3_takeSign_47 ⟨Nat.le_refl _, Nat.le_refl _⟩ (fun H locs G => ?_)
          refine xr_ps C hA G (ks_X3_rankOf zl (x4_last X35 40)) (va_cwS 1 C.2.2.2.2.1 gX3_takeSign_X3_rankOf rfl rfl rfl (by decide +kernel) ⟨Nat.le_of_ble_eq_true rfl, Nat.le_of_ble_eq_true rfl⟩) rfl hl.1 rfl (Nat.le_of_ble_eq_true rfl) dX3_takeSign_50 ⟨Nat.le_refl _, Nat.le_refl _⟩ (fun H locs G => ?_)
          refine lv_iload_n hx hb dX3_takeSign_53 rfl (lv_at hl 2 rfl) ?_
          refine lv_icmp_ne (tgt := 59) hx hb dX3_takeSign_54 (by decide) (fun c54 => ?_) (fun c54 => ?_)
          · rw [if_neg c54] at hF
            refine lv_aload_n hx hb dX3_takeSign_59 rfl (lv_at hl 0 rfl) ?_
            refine xr_get C G (show kD 37 by decide).2 (xD_c (show kD 37 by decide).1) rfl (fun _ h => List.mem_cons_of_mem _ (List.mem_append_left _ (List.mem_append_right _ h))) 1 (by decide) (show Cond.fieldLink RX3 20 "WheatCounts$Reader" "signs" "LWheatCounts$Row;" ∈ _ by decide +kernel) rfl dX3_takeSign_60 ?_
            refine lv_iload_n hx hb dX3_takeSign_63 rfl (lv_at hl 1 rfl) ?_
            refine xr_Vv C hA G (kx4_add zl D ad sa cc tt X35 40 c (show kR 40 by decide) hd35.2.1) (show kR 40 by decide).2 (xR_c (show kR 40 by decide).1) rfl (cwV 1 C.2.2.2.2.1 gX3_takeSign_X4_add rfl rfl rfl (by decide +kernel) ⟨Nat.le_of_ble_eq_true rfl, Nat.le_of_ble_eq_true rfl⟩) rfl hl.1 rfl (Nat.le_of_ble_eq_true rfl) dX3_takeSign_64 ⟨Nat.le_refl _, Nat.le_refl _⟩ (fun H locs G => ?_)
            obtain ⟨X64, hX64⟩ : ∃ Z : xS, Z = x4_add X35 40 c := ⟨_, rfl⟩
            have G : xG D ad sa cc tt zA zs.heap H locs X64 := by rw [hX64]; exact G
            rw [lt_e hX64] at hF
            refine lv_aload_n hx hb dX3_takeSign_67 rfl (lv_at hl 0 rfl) ?_
            refine lv_iconst (v := 1) hx hb dX3_takeSign_68 (by decide) ?_
            refine xr_put C G (show kD 37 by decide).2 (xD_c (show kD 37 by decide).1) rfl (fun _ h => List.mem_cons_of_mem _ (List.mem_append_left _ (List.mem_append_right _ h))) tyX3 tyX3_ok nmX3 6 (by decide) rfl (show Cond.fieldLink RX3 39 "WheatCounts$Reader" "termIsDue" "Z" ∈ _ by decide +kernel) (ty := .boolean) (by decide +kernel) rfl rfl (Nat.le_of_ble_eq_true rfl) (upd (X64 37) 6 1) (xD_c (show kD 37 by decide).1) dX3_takeSign_69 (fun H locs G => ?_)
            obtain ⟨X69, hX69⟩ : ∃ Z : xS, Z = mU X64 37 6 1 := ⟨_, rfl⟩
            have G : xG D ad sa cc tt zA zs.heap H locs X69 := by rw [hX69]; exact G
            rw [lt_e hX69] at hF
            refine lv_iconst (v := 1) hx hb dX3_takeSign_72 (by decide) ?_
            exact hret _ _ _ _ _ _ hF G (Or.inr rfl) dX3_takeSign_73
          · rw [if_pos c54] at hF
            refine lv_iconst (v := 0) hx hb dX3_takeSign_57 (by decide) ?_
            exact hret _ _ _ _ _ _ hF G (Or.inl rfl) dX3_takeSign_58
      refine lv_icmp_ne (tgt := 34) hx hb dX3_takeSign_25 (by decide) (fun c25 => ?_) (fun c25 => ?_)
      · rw [if_neg c25] at hX35
        refine lv_iload_n hx hb dX3_takeSign_34 rfl (lv_at hl 0 rfl) ?_
        subst hX35
        exact hj35 _ _ _ (lv_sub hl [1, 2, 0] rfl) G
      · rw [if_pos c25] at hX35
        refine lv_iload_n hx hb dX3_takeSign_28 rfl (lv_at hl 0 rfl) ?_
        refine lv_iconst (v := 1) hx hb dX3_takeSign_29 (by decide) ?_
        refine lv_iadd hx hb dX3_takeSign_30 ?_
        refine lv_goto (tgt := 35) hx hb dX3_takeSign_31 (by decide) ?_
        subst hX35
        exact hj35 _ _ _ (lv_sub hl [1, 2, 0] rfl) G
    · rw [if_pos c17] at hF
      refine lv_iconst (v := 0) hx hb dX3_takeSign_20 (by decide) ?_
      exact hret _ _ _ _ _ _ hF G (Or.inl rfl) dX3_takeSign_21
  · rw [if_pos c3] at hF
    refine lv_aload_n hx hb dX3_takeSign_6 rfl (lv_at hl 0 rfl) ?_
    obtain ⟨x7, X7, hx7⟩ : ∃ (Z : Int32) (Y : xS), (Z, Y) = x3_closeBracket X := ⟨_, _, rfl⟩
    refine xr_Vi (r0 := x7) (X2 := X7) C hA G (by rw [hx7]; exact (kx3_closeBracket zl D ad sa cc tt X hd)) (show kD 37 by decide).2 (xD_c (show kD 37 by decide).1) rfl (cwV 0 C.2.2.2.2.1 gX3_takeSign_X3_closeBracket rfl rfl rfl (by decide +kernel) ⟨Nat.le_of_ble_eq_true rfl, Nat.le_of_ble_eq_true rfl⟩) rfl hl.1 rfl (Nat.le_of_ble_eq_true rfl) dX3_takeSign_7 ⟨Nat.le_refl _, Nat.le_refl _⟩ (fun H locs G => ?_)
    rw [lt2_e hx7] at hF
    exact hret _ _ _ _ _ _ hF G (cb_01 hx7) dX3_takeSign_10
set_option maxRecDepth 100000 in
set_option maxHeartbeats 4000000 in
theorem kx3_takeTerm (zl : Launch) (D : va_G) (ad sa : Nat → Nat) (cc : cT) (tt : tT) (X : xS) (c : Int32) (hd : dN X) : xM zl D ad sa cc tt yX3_takeTerm wsX3_takeTerm ({ frames := 4, cells := 0, slots := 0, locals := 91 } : Room) [.ref (ad 37), .int c] X (x3_takeTerm X c) := by
  refine xM_ofZ (code := cX3_takeTerm) (nL := 3) (own := RX3) (by decide) rfl rfl (Nat.le_of_ble_eq_true rfl) ?_
  intro zp ze zs zm zg zb zt zc zA zQ C hA hret H locs ls hl G
  have hx := C.1
  have hb := C.2.1
  have hl : lv_has ls 3 [(0, .ref (ad 37)), (1, .int c)] := hl
  obtain ⟨rM, hF⟩ : ∃ Z : Int32 × xS, Z = x3_takeTerm X c := ⟨_, rfl⟩
  rw [← hF] at hret
  unfold x3_takeTerm at hF
  have hnm := hd.2.2
  refine lv_iload_n hx hb dX3_takeTerm_0 rfl (lv_at hl 1 rfl) ?_
  refine lv_bipush (v := 33) hx hb dX3_takeTerm_1 (by decide) ?_
  refine lv_icmp_eq (tgt := 12) hx hb dX3_takeTerm_3 (by decide) (fun c3 => ?_) (fun c3 => ?_)
  · rw [if_pos c3] at hF
    refine lv_aload_n hx hb dX3_takeTerm_12 rfl (lv_at hl 0 rfl) ?_
    refine xr_get C G (show kD 37 by decide).2 (xD_c (show kD 37 by decide).1) rfl (fun _ h => List.mem_cons_of_mem _ (List.mem_append_left _ (List.mem_append_right _ h))) 3 (by decide) (show Cond.fieldLink RX3 32 "WheatCounts$Reader" "open" "I" ∈ _ by decide +kernel) rfl dX3_takeTerm_13 ?_
    refine lv_iconst (v := 5) hx hb dX3_takeTerm_16 (by decide) ?_
    refine lv_icmp_lt (tgt := 22) hx hb dX3_takeTerm_17 (by decide) (fun c17 => ?_) (fun c17 => ?_)
    · rw [if_pos c17] at hF
      refine lv_aload_n hx hb dX3_takeTerm_22 rfl (lv_at hl 0 rfl) ?_
      refine lv_dup hx hb dX3_takeTerm_23 rfl ?_
      refine xr_get C G (show kD 37 by decide).2 (xD_c (show kD 37 by decide).1) rfl (fun _ h => List.mem_cons_of_mem _ (List.mem_append_left _ (List.mem_append_right _ h))) 3 (by decide) (show Cond.fieldLink RX3 32 "WheatCounts$Reader" "open" "I" ∈ _ by decide +kernel) rfl dX3_takeTerm_24 ?_
      refine lv_iconst (v := 1) hx hb dX3_takeTerm_27 (by decide) ?_
      refine lv_iadd hx hb dX3_takeTerm_28 ?_
      refine xr_put C G (show kD 37 by decide).2 (xD_c (show kD 37 by decide).1) rfl (fun _ h => List.mem_cons_of_mem _ (List.mem_append_left _ (List.mem_append_right _ h))) tyX3 tyX3_ok nmX3 3 (by decide) rfl (show Cond.fieldLink RX3 32 "WheatCounts$Reader" "open" "I" ∈ _ by decide +kernel) (ty := .int) (by decide +kernel) rfl rfl (Nat.le_of_ble_eq_true rfl) (upd (X 37) 3 ((X 37 3) + 1)) (xD_c (show kD 37 by decide).1) dX3_takeTerm_29 (fun H locs G => ?_)
      obtain ⟨X29, hX29⟩ : ∃ Z : xS, Z = mU X 37 3 ((X 37 3) + 1) := ⟨_, rfl⟩
      have G : xG D ad sa cc tt zA zs.heap H locs X29 := by rw [hX29]; exact G
      rw [lt_e hX29] at hF
      have hd29 : dN X29 := by rw [hX29]; exact fd3_d hd
      refine lv_aload_n hx hb dX3_takeTerm_32 rfl (lv_at hl 0 rfl) ?_
      refine xr_get C G (show kD 37 by decide).2 (xD_c (show kD 37 by decide).1) rfl (fun _ h => List.mem_cons_of_mem _ (List.mem_append_left _ (List.mem_append_right _ h))) 1 (by decide) (show Cond.fieldLink RX3 20 "WheatCounts$Reader" "signs" "LWheatCounts$Row;" ∈ _ by decide +kernel) rfl dX3_takeTerm_33 ?_
      refine lv_iload_n hx hb dX3_takeTerm_36 rfl (lv_at hl 1 rfl) ?_
      refine xr_Vv C hA G (kx4_add zl D ad sa cc tt X29 40 c (show kR 40 by decide) hd29.2.1) (show kR 40 by decide).2 (xR_c (show kR 40 by decide).1) rfl (cwV 1 C.2.2.2.2.1 gX3_takeTerm_X4_add rfl rfl rfl (by decide +kernel) ⟨Nat.le_of_ble_eq_true rfl, Nat.le_of_ble_eq_true rfl⟩) rfl hl.1 rfl (Nat.le_of_ble_eq_true rfl) dX3_takeTerm_37 ⟨Nat.le_refl _, Nat.le_refl _⟩ (fun H locs G => ?_)
      obtain ⟨X37, hX37⟩ : ∃ Z : xS, Z = x4_add X29 40 c := ⟨_, rfl⟩
      have G : xG D ad sa cc tt zA zs.heap H locs X37 := by rw [hX37]; exact G
      rw [lt_e hX37] at hF
      refine lv_iconst (v := 1) hx hb dX3_takeTerm_40 (by decide) ?_
      exact hret _ _ _ _ _ _ hF G (Or.inr rfl) dX3_takeTerm_41
    · rw [if_neg c17] at hF
      refine lv_iconst (v := 0) hx hb dX3_takeTerm_20 (by decide) ?_
      exact hret _ _ _ _ _ _ hF G (Or.inl rfl) dX3_takeTerm_21
  · rw [if_neg c3] at hF
    refine lv_iload_n hx hb dX3_takeTerm_6 rfl (lv_at hl 1 rfl) ?_
    refine lv_bipush (v := 40) hx hb dX3_takeTerm_7 (by decide) ?_
    refine lv_icmp_ne (tgt := 42) hx hb dX3_takeTerm_9 (by decide) (fun c9 => ?_) (fun c9 => ?_)
    · rw [if_neg c9] at hF
      refine lv_aload_n hx hb dX3_takeTerm_42 rfl (lv_at hl 0 rfl) ?_
      refine xr_get C G (show kD 37 by decide).2 (xD_c (show kD 37 by decide).1) rfl (fun _ h => List.mem_cons_of_mem _ (List.mem_append_left _ (List.mem_append_right _ h))) 2 (by decide) (show Cond.fieldLink RX3 25 "WheatCounts$Reader" "names" "Ljava/lang/String;" ∈ _ by decide +kernel) rfl dX3_takeTerm_43 ?_
      refine lv_iload_n hx hb dX3_takeTerm_46 rfl (lv_at hl 1 rfl) ?_
      refine lv_i2c (v := (c.toUInt32 % 65536).toInt32) hx hb dX3_takeTerm_47 rfl ?_
      refine xr_J C hA G hnm (fun sv => kJ_indexOf_0f7a4 zl sa sv (vn (X 37 2)) ((c.toUInt32 % 65536).toInt32) hnm) (cwV 1 C.2.2.2.2.1 gX3_takeTerm_J0_indexOf_0f7a4 rfl rfl rfl (by decide +kernel) ⟨Nat.le_of_ble_eq_true rfl, Nat.le_of_ble_eq_true rfl⟩) rfl hl.1 rfl (Nat.le_of_ble_eq_true rfl) dX3_takeTerm_48 ⟨Nat.le_refl _, Nat.le_refl _⟩ (fun H locs G => ?_)
      refine lv_topi (fun x51 hx51 => ?_)
      rw [lt_e hx51] at hF
      refine lv_istore_n (lv' := [(2, .int x51), (0, .ref (ad 37)), (1, .int c)]) hx hb dX3_takeTerm_51 rfl hl (by decide) rfl (fun ls hl => ?_)
      refine lv_iload_n hx hb dX3_takeTerm_52 rfl (lv_at hl 0 rfl) ?_
      refine lv_if_ge (tgt := 58) hx hb dX3_takeTerm_53 (by decide) (fun c53 => ?_) (fun c53 => ?_)
      · rw [if_pos c53] at hF
        refine lv_aload_n hx hb dX3_takeTerm_58 rfl (lv_at hl 1 rfl) ?_
        refine lv_iconst (v := -1) hx hb dX3_takeTerm_59 (by decide) ?_
        refine lv_iload_n hx hb dX3_takeTerm_60 rfl (lv_at hl 0 rfl) ?_
        refine lv_isub hx hb dX3_takeTerm_61 ?_
        refine xr_Vv C hA G (kx3_endTerm zl D ad sa cc tt X ((-1) - x51) hd) (show kD 37 by decide).2 (xD_c (show kD 37 by decide).1) rfl (cwV 1 C.2.2.2.2.1 gX3_takeTerm_X3_endTerm rfl rfl rfl (by decide +kernel) ⟨Nat.le_of_ble_eq_true rfl, Nat.le_of_ble_eq_true rfl⟩) rfl hl.1 rfl (Nat.le_of_ble_eq_true rfl) dX3_takeTerm_62 ⟨Nat.le_refl _, Nat.le_refl _⟩ (fun H locs G => ?_)
        obtain ⟨X62, hX62⟩ : ∃ Z : xS, Z = x3_endTerm X ((-1) - x51) := ⟨_, rfl⟩
        have G : xG D ad sa cc tt zA zs.heap H locs X62 := by rw [hX62]; exact G
        rw [lt_e hX62] at hF
        refine lv_iconst (v := 1) hx hb dX3_takeTerm_65 (by decide) ?_
        exact hret _ _ _ _ _ _ hF G (Or.inr rfl) dX3_takeTerm_66
      · rw [if_neg c53] at hF
        refine lv_iconst (v := 0) hx hb dX3_takeTerm_56 (by decide) ?_
        exact hret _ _ _ _ _ _ hF G (Or.inl rfl) dX3_takeTerm_57
    · rw [if_pos c9] at hF
      refine lv_aload_n hx hb dX3_takeTerm_12 rfl (lv_at hl 0 rfl) ?_
      refine xr_get C G (show kD 37 by decide).2 (xD_c (show kD 37 by decide).1) rfl (fun _ h => List.mem_cons_of_mem _ (List.mem_append_left _ (List.mem_append_right _ h))) 3 (by decide) (show Cond.fieldLink RX3 32 "WheatCounts$Reader" "open" "I" ∈ _ by decide +kernel) rfl dX3_takeTerm_13 ?_
      refine lv_iconst (v := 5) hx hb dX3_takeTerm_16 (by decide) ?_
      refine lv_icmp_lt (tgt := 22) hx hb dX3_takeTerm_17 (by decide) (fun c17 => ?_) (fun c17 => ?_)
      · rw [if_pos c17] at hF
        refine lv_aload_n hx hb dX3_takeTerm_22 rfl (lv_at hl 0 rfl) ?_
        refine lv_dup hx hb dX3_takeTerm_23 rfl ?_
        refine xr_get C G (show kD 37 by decide).2 (xD_c (show kD 37 by decide).1) rfl (fun _ h => List.mem_cons_of_mem _ (List.mem_append_left _ (List.mem_append_right _ h))) 3 (by decide) (show Cond.fieldLink RX3 32 "WheatCounts$Reader" "open" "I" ∈ _ by decide +kernel) rfl dX3_takeTerm_24 ?_
        refine lv_iconst (v := 1) hx hb dX3_takeTerm_27 (by decide) ?_
        refine lv_iadd hx hb dX3_takeTerm_28 ?_
        refine xr_put C G (show kD 37 by decide).2 (xD_c (show kD 37 by decide).1) rfl (fun _ h => List.mem_cons_of_mem _ (List.mem_append_left _ (List.mem_append_right _ h))) tyX3 tyX3_ok nmX3 3 (by decide) rfl (show Cond.fieldLink RX3 32 "WheatCounts$Reader" "open" "I" ∈ _ by decide +kernel) (ty := .int) (by decide +kernel) rfl rfl (Nat.le_of_ble_eq_true rfl) (upd (X 37) 3 ((X 37 3) + 1)) (xD_c (show kD 37 by decide).1) dX3_takeTerm_29 (fun H locs G => ?_)
        obtain ⟨X29, hX29⟩ : ∃ Z : xS, Z = mU X 37 3 ((X 37 3) + 1) := ⟨_, rfl⟩
        have G : xG D ad sa cc tt zA zs.heap H locs X29 := by rw [hX29]; exact G
        rw [lt_e hX29] at hF
        have hd29 : dN X29 := by rw [hX29]; exact fd3_d hd
        refine lv_aload_n hx hb dX3_takeTerm_32 rfl (lv_at hl 0 rfl) ?_
        refine xr_get C G (show kD 37 by decide).2 (xD_c (show kD 37 by decide).1) rfl (fun _ h => List.mem_cons_of_mem _ (List.mem_append_left _ (List.mem_append_right _ h))) 1 (by decide) (show Cond.fieldLink RX3 20 "WheatCounts$Reader" "signs" "LWheatCounts$Row;" ∈ _ by decide +kernel) rfl dX3_takeTerm_33 ?_
        refine lv_iload_n hx hb dX3_takeTerm_36 rfl (lv_at hl 1 rfl) ?_
        refine xr_Vv C hA G (kx4_add zl D ad sa cc tt X29 40 c (show kR 40 by decide) hd29.2.1) (show kR 40 by decide).2 (xR_c (show kR 40 by decide).1) rfl (cwV 1 C.2.2.2.2.1 gX3_takeTerm_X4_add rfl rfl rfl (by decide +kernel) ⟨Nat.le_of_ble_eq_true rfl, Nat.le_of_ble_eq_true rfl⟩) rfl hl.1 rfl (Nat.le_of_ble_eq_true rfl) dX3_takeTerm_37 ⟨Nat.le_refl _, Nat.le_refl _⟩ (fun H locs G => ?_)
        obtain ⟨X37, hX37⟩ : ∃ Z : xS, Z = x4_add X29 40 c := ⟨_, rfl⟩
        have G : xG D ad sa cc tt zA zs.heap H locs X37 := by rw [hX37]; exact G
        rw [lt_e hX37] at hF
        refine lv_iconst (v := 1) hx hb dX3_takeTerm_40 (by decide) ?_
        exact hret _ _ _ _ _ _ hF G (Or.inr rfl) dX3_takeTerm_41
      · rw [if_neg c17] at hF
        refine lv_iconst (v := 0) hx hb dX3_takeTerm_20 (by decide) ?_
        exact hret _ _ _ _ _ _ hF G (Or.inl rfl) dX3_takeTerm_21
set_option maxRecDepth 100000 in
set_option maxHeartbeats 4000000 in
theorem kx3_takeDigit (zl : Launch) (D : va_G) (ad sa : Nat → Nat) (cc : cT) (tt : tT) (X : xS) (digit : Int32) : xM zl D ad sa cc tt yX3_takeDigit wsX3_takeDigit ({ frames := 0, cells := 0, slots := 0, locals := 0 } : Room) [.ref (ad 37), .int digit] X (x3_takeDigit X digit) := by
  refine xM_ofZ (code := cX3_takeDigit) (nL := 2) (own := RX3) (by decide) rfl rfl (Nat.le_of_ble_eq_true rfl) ?_
  intro zp ze zs zm zg zb zt zc zA zQ C hA hret H locs ls hl G
  have hx := C.1
  have hb := C.2.1
  have hl : lv_has ls 2 [(0, .ref (ad 37)), (1, .int digit)] := hl
  obtain ⟨rM, hF⟩ : ∃ Z : Int32 × xS, Z = x3_takeDigit X digit := ⟨_, rfl⟩
  rw [← hF] at hret
  unfold x3_takeDigit at hF
  refine lv_aload_n hx hb dX3_takeDigit_0 rfl (lv_at hl 0 rfl) ?_
  refine xr_get C G (show kD 37 by decide).2 (xD_c (show kD 37 by decide).1) rfl (fun _ h => List.mem_cons_of_mem _ (List.mem_append_right _ h)) 5 (by decide) (show Cond.fieldLink RX3 36 "WheatCounts$Reader" "digits" "I" ∈ _ by decide +kernel) rfl dX3_takeDigit_1 ?_
  refine lv_if_le (tgt := 40) hx hb dX3_takeDigit_4 (by decide) (fun c4 => ?_) (fun c4 => ?_)
  · rw [if_pos c4] at hF
    refine lv_aload_n hx hb dX3_takeDigit_40 rfl (lv_at hl 0 rfl) ?_
    refine xr_get C G (show kD 37 by decide).2 (xD_c (show kD 37 by decide).1) rfl (fun _ h => List.mem_cons_of_mem _ (List.mem_append_right _ h)) 6 (by decide) (show Cond.fieldLink RX3 39 "WheatCounts$Reader" "termIsDue" "Z" ∈ _ by decide +kernel) rfl dX3_takeDigit_41 ?_
    refine lv_if_ne (tgt := 49) hx hb dX3_takeDigit_44 (by decide) (fun c44 => ?_) (fun c44 => ?_)
    · rw [if_neg c44] at hF
      refine lv_aload_n hx hb dX3_takeDigit_49 rfl (lv_at hl 0 rfl) ?_
      refine lv_iload_n hx hb dX3_takeDigit_50 rfl (lv_at hl 1 rfl) ?_
      refine xr_put C G (show kD 37 by decide).2 (xD_c (show kD 37 by decide).1) rfl (fun _ h => List.mem_cons_of_mem _ (List.mem_append_right _ h)) tyX3 tyX3_ok nmX3 4 (by decide) rfl (show Cond.fieldLink RX3 74 "WheatCounts$Reader" "number" "I" ∈ _ by decide +kernel) (ty := .int) (by decide +kernel) rfl rfl (Nat.le_of_ble_eq_true rfl) (upd (X 37) 4 digit) (xD_c (show kD 37 by decide).1) dX3_takeDigit_51 (fun H locs G => ?_)
      obtain ⟨X51, hX51⟩ : ∃ Z : xS, Z = mU X 37 4 digit := ⟨_, rfl⟩
      have G : xG D ad sa cc tt zA zs.heap H locs X51 := by rw [hX51]; exact G
      rw [lt_e hX51] at hF
      refine lv_aload_n hx hb dX3_takeDigit_54 rfl (lv_at hl 0 rfl) ?_
      refine lv_iconst (v := 1) hx hb dX3_takeDigit_55 (by decide) ?_
      refine xr_put C G (show kD 37 by decide).2 (xD_c (show kD 37 by decide).1) rfl (fun _ h => List.mem_cons_of_mem _ (List.mem_append_right _ h)) tyX3 tyX3_ok nmX3 5 (by decide) rfl (show Cond.fieldLink RX3 36 "WheatCounts$Reader" "digits" "I" ∈ _ by decide +kernel) (ty := .int) (by decide +kernel) rfl rfl (Nat.le_of_ble_eq_true rfl) (upd (X51 37) 5 1) (xD_c (show kD 37 by decide).1) dX3_takeDigit_56 (fun H locs G => ?_)
      obtain ⟨X56, hX56⟩ : ∃ Z : xS, Z = mU X51 37 5 1 := ⟨_, rfl⟩
      have G : xG D ad sa cc tt zA zs.heap H locs X56 := by rw [hX56]; exact G
      rw [lt_e hX56] at hF
      refine lv_aload_n hx hb dX3_takeDigit_59 rfl (lv_at hl 0 rfl) ?_
      refine lv_iconst (v := 0) hx hb dX3_takeDigit_60 (by decide) ?_
      refine xr_put C G (show kD 37 by decide).2 (xD_c (show kD 37 by decide).1) rfl (fun _ h => List.mem_cons_of_mem _ (List.mem_append_right _ h)) tyX3 tyX3_ok nmX3 6 (by decide) rfl (show Cond.fieldLink RX3 39 "WheatCounts$Reader" "termIsDue" "Z" ∈ _ by decide +kernel) (ty := .boolean) (by decide +kernel) rfl rfl (Nat.le_of_ble_eq_true rfl) (upd (X56 37) 6 0) (xD_c (show kD 37 by decide).1) dX3_takeDigit_61 (fun H locs G => ?_)
      obtain ⟨X61, hX61⟩ : ∃ Z : xS, Z = mU X56 37 6 0 := ⟨_, rfl⟩
      have G : xG D ad sa cc tt zA zs.heap H locs X61 := by rw [hX61]; exact G
      rw [lt_e hX61] at hF
      refine lv_iconst (v := 1) hx hb dX3_takeDigit_64 (by decide) ?_
      exact hret _ _ _ _ _ _ hF G (Or.inr rfl) dX3_takeDigit_65
    · rw [if_pos c44] at hF
      refine lv_iconst (v := 0) hx hb dX3_takeDigit_47 (by decide) ?_
      exact hret _ _ _ _ _ _ hF G (Or.inl rfl) dX3_takeDigit_48
  · rw [if_neg c4] at hF
    refine lv_aload_n hx hb dX3_takeDigit_7 rfl (lv_at hl 0 rfl) ?_
    refine xr_get C G (show kD 37 by decide).2 (xD_c (show kD 37 by decide).1) rfl (fun _ h => List.mem_cons_of_mem _ (List.mem_append_right _ h)) 5 (by decide) (show Cond.fieldLink RX3 36 "WheatCounts$Reader" "digits" "I" ∈ _ by decide +kernel) rfl dX3_takeDigit_8 ?_
    refine lv_iconst (v := 4) hx hb dX3_takeDigit_11 (by decide) ?_
    refine lv_icmp_ge (tgt := 40) hx hb dX3_takeDigit_12 (by decide) (fun c12 => ?_) (fun c12 => ?_)
    · rw [if_pos c12] at hF
      refine lv_aload_n hx hb dX3_takeDigit_40 rfl (lv_at hl 0 rfl) ?_
      refine xr_get C G (show kD 37 by decide).2 (xD_c (show kD 37 by decide).1) rfl (fun _ h => List.mem_cons_of_mem _ (List.mem_append_right _ h)) 6 (by decide) (show Cond.fieldLink RX3 39 "WheatCounts$Reader" "termIsDue" "Z" ∈ _ by decide +kernel) rfl dX3_takeDigit_41 ?_
      refine lv_if_ne (tgt := 49) hx hb dX3_takeDigit_44 (by decide) (fun c44 => ?_) (fun c44 => ?_)
      · rw [if_neg c44] at hF
        refine lv_aload_n hx hb dX3_takeDigit_49 rfl (lv_at hl 0 rfl) ?_
        refine lv_iload_n hx hb dX3_takeDigit_50 rfl (lv_at hl 1 rfl) ?_
        refine xr_put C G (show kD 37 by decide).2 (xD_c (show kD 37 by decide).1) rfl (fun _ h => List.mem_cons_of_mem _ (List.mem_append_right _ h)) tyX3 tyX3_ok nmX3 4 (by decide) rfl (show Cond.fieldLink RX3 74 "WheatCounts$Reader" "number" "I" ∈ _ by decide +kernel) (ty := .int) (by decide +kernel) rfl rfl (Nat.le_of_ble_eq_true rfl) (upd (X 37) 4 digit) (xD_c (show kD 37 by decide).1) dX3_takeDigit_51 (fun H locs G => ?_)
        obtain ⟨X51, hX51⟩ : ∃ Z : xS, Z = mU X 37 4 digit := ⟨_, rfl⟩
        have G : xG D ad sa cc tt zA zs.heap H locs X51 := by rw [hX51]; exact G
        rw [lt_e hX51] at hF
        refine lv_aload_n hx hb dX3_takeDigit_54 rfl (lv_at hl 0 rfl) ?_
        refine lv_iconst (v := 1) hx hb dX3_takeDigit_55 (by decide) ?_
        refine xr_put C G (show kD 37 by decide).2 (xD_c (show kD 37 by decide).1) rfl (fun _ h => List.mem_cons_of_mem _ (List.mem_append_right _ h)) tyX3 tyX3_ok nmX3 5 (by decide) rfl (show Cond.fieldLink RX3 36 "WheatCounts$Reader" "digits" "I" ∈ _ by decide +kernel) (ty := .int) (by decide +kernel) rfl rfl (Nat.le_of_ble_eq_true rfl) (upd (X51 37) 5 1) (xD_c (show kD 37 by decide).1) dX3_takeDigit_56 (fun H locs G => ?_)
        obtain ⟨X56, hX56⟩ : ∃ Z : xS, Z = mU X51 37 5 1 := ⟨_, rfl⟩
        have G : xG D ad sa cc tt zA zs.heap H locs X56 := by rw [hX56]; exact G
        rw [lt_e hX56] at hF
        refine lv_aload_n hx hb dX3_takeDigit_59 rfl (lv_at hl 0 rfl) ?_
        refine lv_iconst (v := 0) hx hb dX3_takeDigit_60 (by decide) ?_
        refine xr_put C G (show kD 37 by decide).2 (xD_c (show kD 37 by decide).1) rfl (fun _ h => List.mem_cons_of_mem _ (List.mem_append_right _ h)) tyX3 tyX3_ok nmX3 6 (by decide) rfl (show Cond.fieldLink RX3 39 "WheatCounts$Reader" "termIsDue" "Z" ∈ _ by decide +kernel) (ty := .boolean) (by decide +kernel) rfl rfl (Nat.le_of_ble_eq_true rfl) (upd (X56 37) 6 0) (xD_c (show kD 37 by decide).1) dX3_takeDigit_61 (fun H locs G => ?_)
        obtain ⟨X61, hX61⟩ : ∃ Z : xS, Z = mU X56 37 6 0 := ⟨_, rfl⟩
        have G : xG D ad sa cc tt zA zs.heap H locs X61 := by rw [hX61]; exact G
        rw [lt_e hX61] at hF
        refine lv_iconst (v := 1) hx hb dX3_takeDigit_64 (by decide) ?_
        exact hret _ _ _ _ _ _ hF G (Or.inr rfl) dX3_takeDigit_65
      · rw [if_pos c44] at hF
        refine lv_iconst (v := 0) hx hb dX3_takeDigit_47 (by decide) ?_
        exact hret _ _ _ _ _ _ hF G (Or.inl rfl) dX3_takeDigit_48
    · rw [if_neg c12] at hF
      refine lv_aload_n hx hb dX3_takeDigit_15 rfl (lv_at hl 0 rfl) ?_
      refine lv_aload_n hx hb dX3_takeDigit_16 rfl (lv_at hl 0 rfl) ?_
      refine xr_get C G (show kD 37 by decide).2 (xD_c (show kD 37 by decide).1) rfl (fun _ h => List.mem_cons_of_mem _ (List.mem_append_right _ h)) 4 (by decide) (show Cond.fieldLink RX3 74 "WheatCounts$Reader" "number" "I" ∈ _ by decide +kernel) rfl dX3_takeDigit_17 ?_
      refine lv_bipush (v := 10) hx hb dX3_takeDigit_20 (by decide) ?_
      refine lv_imul hx hb dX3_takeDigit_22 ?_
      refine lv_iload_n hx hb dX3_takeDigit_23 rfl (lv_at hl 1 rfl) ?_
      refine lv_iadd hx hb dX3_takeDigit_24 ?_
      refine xr_put C G (show kD 37 by decide).2 (xD_c (show kD 37 by decide).1) rfl (fun _ h => List.mem_cons_of_mem _ (List.mem_append_right _ h)) tyX3 tyX3_ok nmX3 4 (by decide) rfl (show Cond.fieldLink RX3 74 "WheatCounts$Reader" "number" "I" ∈ _ by decide +kernel) (ty := .int) (by decide +kernel) rfl rfl (Nat.le_of_ble_eq_true rfl) (upd (X 37) 4 (((X 37 4) * 10) + digit)) (xD_c (show kD 37 by decide).1) dX3_takeDigit_25 (fun H locs G => ?_)
      obtain ⟨X25, hX25⟩ : ∃ Z : xS, Z = mU X 37 4 (((X 37 4) * 10) + digit) := ⟨_, rfl⟩
      have G : xG D ad sa cc tt zA zs.heap H locs X25 := by rw [hX25]; exact G
      rw [lt_e hX25] at hF
      refine lv_aload_n hx hb dX3_takeDigit_28 rfl (lv_at hl 0 rfl) ?_
      refine lv_dup hx hb dX3_takeDigit_29 rfl ?_
      refine xr_get C G (show kD 37 by decide).2 (xD_c (show kD 37 by decide).1) rfl (fun _ h => List.mem_cons_of_mem _ (List.mem_append_right _ h)) 5 (by decide) (show Cond.fieldLink RX3 36 "WheatCounts$Reader" "digits" "I" ∈ _ by decide +kernel) rfl dX3_takeDigit_30 ?_
      refine lv_iconst (v := 1) hx hb dX3_takeDigit_33 (by decide) ?_
      refine lv_iadd hx hb dX3_takeDigit_34 ?_
      refine xr_put C G (show kD 37 by decide).2 (xD_c (show kD 37 by decide).1) rfl (fun _ h => List.mem_cons_of_mem _ (List.mem_append_right _ h)) tyX3 tyX3_ok nmX3 5 (by decide) rfl (show Cond.fieldLink RX3 36 "WheatCounts$Reader" "digits" "I" ∈ _ by decide +kernel) (ty := .int) (by decide +kernel) rfl rfl (Nat.le_of_ble_eq_true rfl) (upd (X25 37) 5 ((X25 37 5) + 1)) (xD_c (show kD 37 by decide).1) dX3_takeDigit_35 (fun H locs G => ?_)
      obtain ⟨X35, hX35⟩ : ∃ Z : xS, Z = mU X25 37 5 ((X25 37 5) + 1) := ⟨_, rfl⟩
      have G : xG D ad sa cc tt zA zs.heap H locs X35 := by rw [hX35]; exact G
      rw [lt_e hX35] at hF
      refine lv_iconst (v := 1) hx hb dX3_takeDigit_38 (by decide) ?_
      exact hret _ _ _ _ _ _ hF G (Or.inr rfl) dX3_takeDigit_39
set_option maxRecDepth 100000 in
set_option maxHeartbeats 4000000 in
theorem kx3_goesOn (zl : Launch) (D : va_G) (ad sa : Nat → Nat) (cc : cT) (tt : tT) (X : xS) (c : Int32) (hd : dN X) : xM zl D ad sa cc tt yX3_goesOn wsX3_goesOn ({ frames := 5, cells := 0, slots := 0, locals := 113 } : Room) [.ref (ad 37), .int c] X (x3_goesOn X c) := by
  refine xM_ofZ (code := cX3_goesOn) (nL := 2) (own := RX3) (by decide) rfl rfl (Nat.le_of_ble_eq_true rfl) ?_
  intro zp ze zs zm zg zb zt zc zA zQ C hA hret H locs ls hl G
  have hx := C.1
  have hb := C.2.1
  have hl : lv_has ls 2 [(0, .ref (ad 37)), (1, .int c)] := hl
  obtain ⟨rM, hF⟩ : ∃ Z : Int32 × xS, Z = x3_goesOn X c := ⟨_, rfl⟩
  rw [← hF] at hret
  unfold x3_goesOn at hF
  refine lv_iload_n hx hb dX3_goesOn_0 rfl (lv_at hl 1 rfl) ?_
  refine lv_bipush (v := 48) hx hb dX3_goesOn_1 (by decide) ?_
  refine lv_icmp_lt (tgt := 21) hx hb dX3_goesOn_3 (by decide) (fun c3 => ?_) (fun c3 => ?_)
  · rw [if_pos c3] at hF
    refine lv_aload_n hx hb dX3_goesOn_21 rfl (lv_at hl 0 rfl) ?_
    refine xr_Vv C hA G (kx3_endNumber zl D ad sa cc tt X hd) (show kD 37 by decide).2 (xD_c (show kD 37 by decide).1) rfl (cwV 0 C.2.2.2.2.1 gX3_goesOn_X3_endNumber rfl rfl rfl (by decide +kernel) ⟨Nat.le_of_ble_eq_true rfl, Nat.le_of_ble_eq_true rfl⟩) rfl hl.1 rfl (Nat.le_of_ble_eq_true rfl) dX3_goesOn_22 ⟨Nat.le_refl _, Nat.le_refl _⟩ (fun H locs G => ?_)
    obtain ⟨X22, hX22⟩ : ∃ Z : xS, Z = x3_endNumber X := ⟨_, rfl⟩
    have G : xG D ad sa cc tt zA zs.heap H locs X22 := by rw [hX22]; exact G
    rw [lt_e hX22] at hF
    have hd22 : dN X22 := by rw [hX22]; exact en_d hd
    refine lv_aload_n hx hb dX3_goesOn_25 rfl (lv_at hl 0 rfl) ?_
    refine xr_get C G (show kD 37 by decide).2 (xD_c (show kD 37 by decide).1) rfl (fun _ h => List.mem_cons_of_mem _ (List.mem_append_left _ (List.mem_append_right _ h))) 6 (by decide) (show Cond.fieldLink RX3 39 "WheatCounts$Reader" "termIsDue" "Z" ∈ _ by decide +kernel) rfl dX3_goesOn_26 ?_
    refine lv_if_eq (tgt := 40) hx hb dX3_goesOn_29 (by decide) (fun c29 => ?_) (fun c29 => ?_)
    · rw [if_pos c29] at hF
      refine lv_aload_n hx hb dX3_goesOn_40 rfl (lv_at hl 0 rfl) ?_
      refine lv_iload_n hx hb dX3_goesOn_41 rfl (lv_at hl 1 rfl) ?_
      obtain ⟨x42, X42, hx42⟩ : ∃ (Z : Int32) (Y : xS), (Z, Y) = x3_takeSign X22 c := ⟨_, _, rfl⟩
      refine xr_Vi (r0 := x42) (X2 := X42) C hA G (by rw [hx42]; exact (kx3_takeSign zl D ad sa cc tt X22 c hd22)) (show kD 37 by decide).2 (xD_c (show kD 37 by decide).1) rfl (cwV 1 C.2.2.2.2.1 gX3_goesOn_X3_takeSign rfl rfl rfl (by decide +kernel) ⟨Nat.le_of_ble_eq_true rfl, Nat.le_of_ble_eq_true rfl⟩) rfl hl.1 rfl (Nat.le_of_ble_eq_true rfl) dX3_goesOn_42 ⟨Nat.le_refl _, Nat.le_refl _⟩ (fun H locs G => ?_)
      rw [lt2_e hx42] at hF
      exact hret _ _ _ _ _ _ hF G (by first | exact tm_01 hx34 | exact ts_01 hx42) dX3_goesOn_45
    · rw [if_neg c29] at hF
      refine lv_aload_n hx hb dX3_goesOn_32 rfl (lv_at hl 0 rfl) ?_
      refine lv_iload_n hx hb dX3_goesOn_33 rfl (lv_at hl 1 rfl) ?_
      obtain ⟨x34, X34, hx34⟩ : ∃ (Z : Int32) (Y : xS), (Z, Y) = x3_takeTerm X22 c := ⟨_, _, rfl⟩
      refine xr_Vi (r0 := x34) (X2 := X34) C hA G (by rw [hx34]; exact (kx3_takeTerm zl D ad sa cc tt X22 c hd22)) (show kD 37 by decide).2 (xD_c (show kD 37 by decide).1) rfl (cwV 1 C.2.2.2.2.1 gX3_goesOn_X3_takeTerm rfl rfl rfl (by decide +kernel) ⟨Nat.le_of_ble_eq_true rfl, Nat.le_of_ble_eq_true rfl⟩) rfl hl.1 rfl (Nat.le_of_ble_eq_true rfl) dX3_goesOn_34 ⟨Nat.le_refl _, Nat.le_refl _⟩ (fun H locs G => ?_)
      rw [lt2_e hx34] at hF
      refine lv_goto (tgt := 45) hx hb dX3_goesOn_37 (by decide) ?_
      exact hret _ _ _ _ _ _ hF G (by first | exact tm_01 hx34 | exact ts_01 hx42) dX3_goesOn_45
  · rw [if_neg c3] at hF
    refine lv_iload_n hx hb dX3_goesOn_6 rfl (lv_at hl 1 rfl) ?_
    refine lv_bipush (v := 57) hx hb dX3_goesOn_7 (by decide) ?_
    refine lv_icmp_gt (tgt := 21) hx hb dX3_goesOn_9 (by decide) (fun c9 => ?_) (fun c9 => ?_)
    · rw [if_pos c9] at hF
      refine lv_aload_n hx hb dX3_goesOn_21 rfl (lv_at hl 0 rfl) ?_
      refine xr_Vv C hA G (kx3_endNumber zl D ad sa cc tt X hd) (show kD 37 by decide).2 (xD_c (show kD 37 by decide).1) rfl (cwV 0 C.2.2.2.2.1 gX3_goesOn_X3_endNumber rfl rfl rfl (by decide +kernel) ⟨Nat.le_of_ble_eq_true rfl, Nat.le_of_ble_eq_true rfl⟩) rfl hl.1 rfl (Nat.le_of_ble_eq_true rfl) dX3_goesOn_22 ⟨Nat.le_refl _, Nat.le_refl _⟩ (fun H locs G => ?_)
      obtain ⟨X22, hX22⟩ : ∃ Z : xS, Z = x3_endNumber X := ⟨_, rfl⟩
      have G : xG D ad sa cc tt zA zs.heap H locs X22 := by rw [hX22]; exact G
      rw [lt_e hX22] at hF
      have hd22 : dN X22 := by rw [hX22]; exact en_d hd
      refine lv_aload_n hx hb dX3_goesOn_25 rfl (lv_at hl 0 rfl) ?_
      refine xr_get C G (show kD 37 by decide).2 (xD_c (show kD 37 by decide).1) rfl (fun _ h => List.mem_cons_of_mem _ (List.mem_append_left _ (List.mem_append_right _ h))) 6 (by decide) (show Cond.fieldLink RX3 39 "WheatCounts$Reader" "termIsDue" "Z" ∈ _ by decide +kernel) rfl dX3_goesOn_26 ?_
      refine lv_if_eq (tgt := 40) hx hb dX3_goesOn_29 (by decide) (fun c29 => ?_) (fun c29 => ?_)
      · rw [if_pos c29] at hF
        refine lv_aload_n hx hb dX3_goesOn_40 rfl (lv_at hl 0 rfl) ?_
        refine lv_iload_n hx hb dX3_goesOn_41 rfl (lv_at hl 1 rfl) ?_
        obtain ⟨x42, X42, hx42⟩ : ∃ (Z : Int32) (Y : xS), (Z, Y) = x3_takeSign X22 c := ⟨_, _, rfl⟩
        refine xr_Vi (r0 := x42) (X2 := X42) C hA G (by rw [hx42]; exact (kx3_takeSign zl D ad sa cc tt X22 c hd22)) (show kD 37 by decide).2 (xD_c (show kD 37 by decide).1) rfl (cwV 1 C.2.2.2.2.1 gX3_goesOn_X3_takeSign rfl rfl rfl (by decide +kernel) ⟨Nat.le_of_ble_eq_true rfl, Nat.le_of_ble_eq_true rfl⟩) rfl hl.1 rfl (Nat.le_of_ble_eq_true rfl) dX3_goesOn_42 ⟨Nat.le_refl _, Nat.le_refl _⟩ (fun H locs G => ?_)
        rw [lt2_e hx42] at hF
        exact hret _ _ _ _ _ _ hF G (by first | exact tm_01 hx34 | exact ts_01 hx42) dX3_goesOn_45
      · rw [if_neg c29] at hF
        refine lv_aload_n hx hb dX3_goesOn_32 rfl (lv_at hl 0 rfl) ?_
        refine lv_iload_n hx hb dX3_goesOn_33 rfl (lv_at hl 1 rfl) ?_
        obtain ⟨x34, X34, hx34⟩ : ∃ (Z : Int32) (Y : xS), (Z, Y) = x3_takeTerm X22 c := ⟨_, _, rfl⟩
        refine xr_Vi (r0 := x34) (X2 := X34) C hA G (by rw [hx34]; exact (kx3_takeTerm zl D ad sa cc tt X22 c hd22)) (show kD 37 by decide).2 (xD_c (show kD 37 by decide).1) rfl (cwV 1 C.2.2.2.2.1 gX3_goesOn_X3_takeTerm rfl rfl rfl (by decide +kernel) ⟨Nat.le_of_ble_eq_true rfl, Nat.le_of_ble_eq_true rfl⟩) rfl hl.1 rfl (Nat.le_of_ble_eq_true rfl) dX3_goesOn_34 ⟨Nat.le_refl _, Nat.le_refl _⟩ (fun H locs G => ?_)
        rw [lt2_e hx34] at hF
        refine lv_goto (tgt := 45) hx hb dX3_goesOn_37 (by decide) ?_
        exact hret _ _ _ _ _ _ hF G (by first | exact tm_01 hx34 | exact ts_01 hx42) dX3_goesOn_45
    · rw [if_neg c9] at hF
      refine lv_aload_n hx hb dX3_goesOn_12 rfl (lv_at hl 0 rfl) ?_
      refine lv_iload_n hx hb dX3_goesOn_13 rfl (lv_at hl 1 rfl) ?_
      refine lv_bipush (v := 48) hx hb dX3_goesOn_14 (by decide) ?_
      refine lv_isub hx hb dX3_goesOn_16 ?_
      obtain ⟨x17, X17, hx17⟩ : ∃ (Z : Int32) (Y : xS), (Z, Y) = x3_takeDigit X (c - 48) := ⟨_, _, rfl⟩
      refine xr_Vi (r0 := x17) (X2 := X17) C hA G (by rw [hx17]; exact (kx3_takeDigit zl D ad sa cc tt X (c - 48))) (show kD 37 by decide).2 (xD_c (show kD 37 by decide).1) rfl (cwV 1 C.2.2.2.2.1 gX3_goesOn_X3_takeDigit rfl rfl rfl (by decide +kernel) ⟨Nat.le_of_ble_eq_true rfl, Nat.le_of_ble_eq_true rfl⟩) rfl hl.1 rfl (Nat.le_of_ble_eq_true rfl) dX3_goesOn_17 ⟨Nat.le_refl _, Nat.le_refl _⟩ (fun H locs G => ?_)
      rw [lt2_e hx17] at hF
      exact hret _ _ _ _ _ _ hF G (tdg_01 hx17) dX3_goesOn_20
set_option maxRecDepth 100000 in
set_option maxHeartbeats 4000000 in
theorem kx3_faultOf (zl : Launch) (D : va_G) (ad sa : Nat → Nat) (cc : cT) (tt : tT) (X : xS) (k : Nat) (hk : k < 3) (hd : dN X) (hz : X 9 1 = nI (vn (X 9 1)) ∧ vn (X 9 1) ≤ 50) : xM zl D ad sa cc tt yX3_faultOf wsX3_faultOf ({ frames := 6, cells := 0, slots := 0, locals := 134 } : Room) [.ref (ad 37), .ref (ad 9), .ref (sa k)] X (x3_faultOf X k) := by
  refine xM_of (code := cX3_faultOf) (nL := 4) (own := RX3) (by decide) rfl rfl (Nat.le_of_ble_eq_true rfl) ?_
  intro zp ze zs zm zg zb zt zc zA zQ C hA hret H locs ls hl G
  have hx := C.1
  have hb := C.2.1
  have hl : lv_has ls 4 [(0, .ref (ad 37)), (1, .ref (ad 9)), (2, .ref (sa k))] := hl
  obtain ⟨rM, hF⟩ : ∃ Z : Int32 × xS, Z = x3_faultOf X k := ⟨_, rfl⟩
  rw [← hF] at hret
  unfold x3_faultOf at hF
  have hz2 := hz.2
  refine lv_aload_n hx hb dX3_faultOf_0 rfl (lv_at hl 0 rfl) ?_
  refine lv_aload_n hx hb dX3_faultOf_1 rfl (lv_at hl 2 rfl) ?_
  refine xr_put C G (show kD 37 by decide).2 (xD_c (show kD 37 by decide).1) rfl (fun _ h => List.mem_cons_of_mem _ (List.mem_append_left _ (List.mem_append_right _ h))) tyX3 tyX3_ok nmX3 2 (by decide) rfl (show Cond.fieldLink RX3 25 "WheatCounts$Reader" "names" "Ljava/lang/String;" ∈ _ by decide +kernel) (ty := .object "java/lang/String") (by decide +kernel) rfl rfl (Nat.le_of_ble_eq_true rfl) (upd (X 37) 2 (nI k)) (dF_nm hk) dX3_faultOf_2 (fun H locs G => ?_)
  obtain ⟨X2, hX2⟩ : ∃ Z : xS, Z = mU X 37 2 (nI k) := ⟨_, rfl⟩
  have G : xG D ad sa cc tt zA zs.heap H locs X2 := by rw [hX2]; exact G
  rw [lt_e hX2] at hF
  refine lv_aload_n hx hb dX3_faultOf_5 rfl (lv_at hl 0 rfl) ?_
  refine xr_get C G (show kD 37 by decide).2 (xD_c (show kD 37 by decide).1) rfl (fun _ h => List.mem_cons_of_mem _ (List.mem_append_left _ (List.mem_append_right _ h))) 0 (by decide) (show Cond.fieldLink RX3 14 "WheatCounts$Reader" "code" "LWheatCounts$Row;" ∈ _ by decide +kernel) rfl dX3_faultOf_6 ?_
  refine xr_Vv C hA G (kx4_clear zl D ad sa cc tt X2 38 (show kR 38 by decide)) (show kR 38 by decide).2 (xR_c (show kR 38 by decide).1) rfl (cwV 0 C.2.2.2.2.1 gX3_faultOf_X4_clear rfl rfl rfl (by decide +kernel) ⟨Nat.le_of_ble_eq_true rfl, Nat.le_of_ble_eq_true rfl⟩) rfl hl.1 rfl (Nat.le_of_ble_eq_true rfl) dX3_faultOf_9 ⟨Nat.le_refl _, Nat.le_refl _⟩ (fun H locs G => ?_)
  obtain ⟨X9, hX9⟩ : ∃ Z : xS, Z = x4_clear X2 38 := ⟨_, rfl⟩
  have G : xG D ad sa cc tt zA zs.heap H locs X9 := by rw [hX9]; exact G
  rw [lt_e hX9] at hF
  refine lv_aload_n hx hb dX3_faultOf_12 rfl (lv_at hl 0 rfl) ?_
  refine xr_get C G (show kD 37 by decide).2 (xD_c (show kD 37 by decide).1) rfl (fun _ h => List.mem_cons_of_mem _ (List.mem_append_left _ (List.mem_append_right _ h))) 1 (by decide) (show Cond.fieldLink RX3 20 "WheatCounts$Reader" "signs" "LWheatCounts$Row;" ∈ _ by decide +kernel) rfl dX3_faultOf_13 ?_
  refine xr_Vv C hA G (kx4_clear zl D ad sa cc tt X9 40 (show kR 40 by decide)) (show kR 40 by decide).2 (xR_c (show kR 40 by decide).1) rfl (cwV 0 C.2.2.2.2.1 gX3_faultOf_X4_clear rfl rfl rfl (by decide +kernel) ⟨Nat.le_of_ble_eq_true rfl, Nat.le_of_ble_eq_true rfl⟩) rfl hl.1 rfl (Nat.le_of_ble_eq_true rfl) dX3_faultOf_16 ⟨Nat.le_refl _, Nat.le_refl _⟩ (fun H locs G => ?_)
  obtain ⟨X16, hX16⟩ : ∃ Z : xS, Z = x4_clear X9 40 := ⟨_, rfl⟩
  have G : xG D ad sa cc tt zA zs.heap H locs X16 := by rw [hX16]; exact G
  rw [lt_e hX16] at hF
  refine lv_aload_n hx hb dX3_faultOf_19 rfl (lv_at hl 0 rfl) ?_
  refine lv_iconst (v := 0) hx hb dX3_faultOf_20 (by decide) ?_
  refine xr_put C G (show kD 37 by decide).2 (xD_c (show kD 37 by decide).1) rfl (fun _ h => List.mem_cons_of_mem _ (List.mem_append_left _ (List.mem_append_right _ h))) tyX3 tyX3_ok nmX3 3 (by decide) rfl (show Cond.fieldLink RX3 32 "WheatCounts$Reader" "open" "I" ∈ _ by decide +kernel) (ty := .int) (by decide +kernel) rfl rfl (Nat.le_of_ble_eq_true rfl) (upd (X16 37) 3 0) (xD_c (show kD 37 by decide).1) dX3_faultOf_21 (fun H locs G => ?_)
  obtain ⟨X21, hX21⟩ : ∃ Z : xS, Z = mU X16 37 3 0 := ⟨_, rfl⟩
  have G : xG D ad sa cc tt zA zs.heap H locs X21 := by rw [hX21]; exact G
  rw [lt_e hX21] at hF
  refine lv_aload_n hx hb dX3_faultOf_24 rfl (lv_at hl 0 rfl) ?_
  refine lv_iconst (v := 0) hx hb dX3_faultOf_25 (by decide) ?_
  refine xr_put C G (show kD 37 by decide).2 (xD_c (show kD 37 by decide).1) rfl (fun _ h => List.mem_cons_of_mem _ (List.mem_append_left _ (List.mem_append_right _ h))) tyX3 tyX3_ok nmX3 5 (by decide) rfl (show Cond.fieldLink RX3 36 "WheatCounts$Reader" "digits" "I" ∈ _ by decide +kernel) (ty := .int) (by decide +kernel) rfl rfl (Nat.le_of_ble_eq_true rfl) (upd (X21 37) 5 0) (xD_c (show kD 37 by decide).1) dX3_faultOf_26 (fun H locs G => ?_)
  obtain ⟨X26, hX26⟩ : ∃ Z : xS, Z = mU X21 37 5 0 := ⟨_, rfl⟩
  have G : xG D ad sa cc tt zA zs.heap H locs X26 := by rw [hX26]; exact G
  rw [lt_e hX26] at hF
  refine lv_aload_n hx hb dX3_faultOf_29 rfl (lv_at hl 0 rfl) ?_
  refine lv_iconst (v := 1) hx hb dX3_faultOf_30 (by decide) ?_
  refine xr_put C G (show kD 37 by decide).2 (xD_c (show kD 37 by decide).1) rfl (fun _ h => List.mem_cons_of_mem _ (List.mem_append_left _ (List.mem_append_right _ h))) tyX3 tyX3_ok nmX3 6 (by decide) rfl (show Cond.fieldLink RX3 39 "WheatCounts$Reader" "termIsDue" "Z" ∈ _ by decide +kernel) (ty := .boolean) (by decide +kernel) rfl rfl (Nat.le_of_ble_eq_true rfl) (upd (X26 37) 6 1) (xD_c (show kD 37 by decide).1) dX3_faultOf_31 (fun H locs G => ?_)
  obtain ⟨X31, hX31⟩ : ∃ Z : xS, Z = mU X26 37 6 1 := ⟨_, rfl⟩
  have G : xG D ad sa cc tt zA zs.heap H locs X31 := by rw [hX31]; exact G
  rw [lt_e hX31] at hF
  have hd31 : dN X31 := by rw [hX31, hX26, hX21, hX16, hX9, hX2]; exact fo_d (X := X) hk
  have h931 : X31 9 1 = X 9 1 := by rw [hX31, hX26, hX21, hX16, hX9, hX2]; exact congrFun (fo_9 X k 9 (by decide)) 1
  refine lv_iconst (v := 0) hx hb dX3_faultOf_34 (by decide) ?_
  refine lv_istore_n (lv' := [(3, .int 0), (0, .ref (ad 37)), (1, .ref (ad 9)), (2, .ref (sa k))]) hx hb dX3_faultOf_35 rfl hl (by decide) rfl (fun ls hl => ?_)
  obtain ⟨K36, hK36⟩ : ∃ Zk : Nat → xS → Int32 × xS, Zk = (fun (ksx : Nat) (X36x : xS) => (lt (x3_endNumber X36x) fun (X65 : xS) => (if (X65 37 6) = 0 then (if (X65 37 3) ≤ 0 then (lt (x3_putDownFrom X65 1) fun (X89 : xS) => ((-1), X89)) else ((X65 9 1), X65)) else ((X65 9 1), X65)))) := ⟨_, rfl⟩
  rw [← hK36] at hF
  have hrest36 : ∀ (ksx : Nat) (X36x : xS), rM = K36 ksx X36x → (dN X36x ∧ X36x 9 1 = X 9 1) → ∀ (H : Heap) (locs : List Loc) (ls : Array Slot), lv_has ls 4 [(0, .ref (ad 37)), (1, .ref (ad 9)), (2, .ref (sa k)), (3, .int (nI ksx))] → xG D ad sa cc tt zA zs.heap H locs X36x → W zp zl ze ({ frames := 6, cells := 0, slots := 0, locals := 134 } : Room) zs zm zg zb zt zc H locs 0 0 zQ (F0 zm 64 ls []) := by
    intro ksx X36x hF hR9 H locs ls hl G
    have hF : rM = (lt (x3_endNumber X36x) fun (X65 : xS) => (if (X65 37 6) = 0 then (if (X65 37 3) ≤ 0 then (lt (x3_putDownFrom X65 1) fun (X89 : xS) => ((-1), X89)) else ((X65 9 1), X65)) else ((X65 9 1), X65))) := by rw [hK36] at hF; exact hF
    refine lv_aload_n hx hb dX3_faultOf_64 rfl (lv_at hl 0 rfl) ?_
    refine xr_Vv C hA G (kx3_endNumber zl D ad sa cc tt X36x hR9.1) (show kD 37 by decide).2 (xD_c (show kD 37 by decide).1) rfl (cwV 0 C.2.2.2.2.1 gX3_faultOf_X3_endNumber rfl rfl rfl (by decide +kernel) ⟨Nat.le_of_ble_eq_true rfl, Nat.le_of_ble_eq_true rfl⟩) rfl hl.1 rfl (Nat.le_of_ble_eq_true rfl) dX3_faultOf_65 ⟨Nat.le_refl _, Nat.le_refl _⟩ (fun H locs G => ?_)
    obtain ⟨X65, hX65⟩ : ∃ Z : xS, Z = x3_endNumber X36x := ⟨_, rfl⟩
    have G : xG D ad sa cc tt zA zs.heap H locs X65 := by rw [hX65]; exact G
    rw [lt_e hX65] at hF
    have hd65 : dN X65 := by rw [hX65]; exact en_d hR9.1
    refine lv_aload_n hx hb dX3_faultOf_68 rfl (lv_at hl 0 rfl) ?_
    refine xr_get C G (show kD 37 by decide).2 (xD_c (show kD 37 by decide).1) rfl (fun _ h => List.mem_cons_of_mem _ (List.mem_append_left _ (List.mem_append_right _ h))) 6 (by decide) (show Cond.fieldLink RX3 39 "WheatCounts$Reader" "termIsDue" "Z" ∈ _ by decide +kernel) rfl dX3_faultOf_69 ?_
    refine lv_if_ne (tgt := 82) hx hb dX3_faultOf_72 (by decide) (fun c72 => ?_) (fun c72 => ?_)
    · rw [if_neg c72] at hF
      refine lv_aload_n hx hb dX3_faultOf_82 rfl (lv_at hl 1 rfl) ?_
      refine xr_get C G (show kR 9 by decide).2 (xR_c (show kR 9 by decide).1) rfl (fun _ h => List.mem_cons_of_mem _ (List.mem_append_right _ h)) 1 (by decide) (show Cond.fieldLink RX3 43 "WheatCounts$Row" "size" "I" ∈ _ by decide +kernel) rfl dX3_faultOf_83 ?_
      exact hret _ _ _ _ _ _ hF G dX3_faultOf_86
    · rw [if_pos c72] at hF
      refine lv_aload_n hx hb dX3_faultOf_75 rfl (lv_at hl 0 rfl) ?_
      refine xr_get C G (show kD 37 by decide).2 (xD_c (show kD 37 by decide).1) rfl (fun _ h => List.mem_cons_of_mem _ (List.mem_append_left _ (List.mem_append_right _ h))) 3 (by decide) (show Cond.fieldLink RX3 32 "WheatCounts$Reader" "open" "I" ∈ _ by decide +kernel) rfl dX3_faultOf_76 ?_
      refine lv_if_le (tgt := 87) hx hb dX3_faultOf_79 (by decide) (fun c79 => ?_) (fun c79 => ?_)
      · rw [if_pos c79] at hF
        refine lv_aload_n hx hb dX3_faultOf_87 rfl (lv_at hl 0 rfl) ?_
        refine lv_iconst (v := 1) hx hb dX3_faultOf_88 (by decide) ?_
        refine xr_Vv C hA G (kx3_putDownFrom zl D ad sa cc tt X65 1 hd65) (show kD 37 by decide).2 (xD_c (show kD 37 by decide).1) rfl (cwV 1 C.2.2.2.2.1 gX3_faultOf_X3_putDownFrom rfl rfl rfl (by decide +kernel) ⟨Nat.le_of_ble_eq_true rfl, Nat.le_of_ble_eq_true rfl⟩) rfl hl.1 rfl (Nat.le_of_ble_eq_true rfl) dX3_faultOf_89 ⟨Nat.le_refl _, Nat.le_refl _⟩ (fun H locs G => ?_)
        obtain ⟨X89, hX89⟩ : ∃ Z : xS, Z = x3_putDownFrom X65 1 := ⟨_, rfl⟩
        have G : xG D ad sa cc tt zA zs.heap H locs X89 := by rw [hX89]; exact G
        rw [lt_e hX89] at hF
        refine lv_iconst (v := -1) hx hb dX3_faultOf_92 (by decide) ?_
        exact hret _ _ _ _ _ _ hF G dX3_faultOf_93
      · rw [if_neg c79] at hF
        refine lv_aload_n hx hb dX3_faultOf_82 rfl (lv_at hl 1 rfl) ?_
        refine xr_get C G (show kR 9 by decide).2 (xR_c (show kR 9 by decide).1) rfl (fun _ h => List.mem_cons_of_mem _ (List.mem_append_right _ h)) 1 (by decide) (show Cond.fieldLink RX3 43 "WheatCounts$Row" "size" "I" ∈ _ by decide +kernel) rfl dX3_faultOf_83 ?_
        exact hret _ _ _ _ _ _ hF G dX3_faultOf_86
  have hloop36 : ∀ (f36 : Nat) (ks : Nat) (X36 : xS), (ks ≤ vn (X 9 1) ∧ vn (X 9 1) < ks + f36 ∧ (dN X36 ∧ X36 9 1 = X 9 1)) → rM = x3_faultOf_L36 K36 f36 ks X36 → ∀ (H : Heap) (locs : List Loc) (ls : Array Slot), lv_has ls 4 [(0, .ref (ad 37)), (1, .ref (ad 9)), (2, .ref (sa k)), (3, .int (nI ks))] → xG D ad sa cc tt zA zs.heap H locs X36 → W zp zl ze ({ frames := 6, cells := 0, slots := 0, locals := 134 } : Room) zs zm zg zb zt zc H locs 0 0 zQ (F0 zm 36 ls []) := by
    intro f36
    induction f36 with
    | zero =>
      intro ks X36 hI hL36 H locs ls hl G
      exact absurd hI.2.1 (by omega)
    | succ f36 ih36 =>
      intro ks X36 hI hL36 H locs ls hl G
      rw [x3_faultOf_L36_s] at hL36
      have hd36 := hI.2.2.1
      have h936 := hI.2.2.2
      refine lv_iload_n hx hb dX3_faultOf_36 rfl (lv_at hl 3 rfl) ?_
      refine lv_aload_n hx hb dX3_faultOf_37 rfl (lv_at hl 1 rfl) ?_
      refine xr_get C G (show kR 9 by decide).2 (xR_c (show kR 9 by decide).1) rfl (fun _ h => List.mem_cons_of_mem _ (List.mem_append_right _ h)) 1 (by decide) (show Cond.fieldLink RX3 43 "WheatCounts$Row" "size" "I" ∈ _ by decide +kernel) rfl dX3_faultOf_38 ?_
      refine lv_icmp_ge (tgt := 64) hx hb dX3_faultOf_41 (by decide) (fun c41 => ?_) (fun c41 => ?_)
      · rw [if_pos c41] at hL36
        exact hrest36 ks X36 hL36 hI.2.2 _ _ _ (lv_sub hl [0, 1, 2, 3] rfl) G
      · rw [if_neg c41] at hL36
        have hk9 := lp_lt (n := vn (X 9 1)) (by rw [h936]; exact hz.1) c41 (by omega) (by omega)
        refine lv_aload_n hx hb dX3_faultOf_44 rfl (lv_at hl 0 rfl) ?_
        refine lv_aload_n hx hb dX3_faultOf_45 rfl (lv_at hl 1 rfl) ?_
        refine lv_iload_n hx hb dX3_faultOf_46 rfl (lv_at hl 3 rfl) ?_
        refine xr_Vi C hA G (kx4_get zl D ad sa cc tt X36 9 (nI ks) (show kR 9 by decide) (by rw [h936]; exact hz)) (show kR 9 by decide).2 (xR_c (show kR 9 by decide).1) rfl (cwV 1 C.2.2.2.2.1 gX3_faultOf_X4_get rfl rfl rfl (by decide +kernel) ⟨Nat.le_of_ble_eq_true rfl, Nat.le_of_ble_eq_true rfl⟩) rfl hl.1 rfl (Nat.le_of_ble_eq_true rfl) dX3_faultOf_47 ⟨Nat.le_refl _, Nat.le_refl _⟩ (fun H locs G => ?_)
        obtain ⟨x50, X50, hx50⟩ : ∃ (Z : Int32) (Y : xS), (Z, Y) = x3_goesOn X36 (x4_get X36 9 (nI ks)) := ⟨_, _, rfl⟩
        refine xr_Vi (r0 := x50) (X2 := X50) C hA G (by rw [hx50]; exact (kx3_goesOn zl D ad sa cc tt X36 (x4_get X36 9 (nI ks)) hd36)) (show kD 37 by decide).2 (xD_c (show kD 37 by decide).1) rfl (cwV 1 C.2.2.2.2.1 gX3_faultOf_X3_goesOn rfl rfl rfl (by decide +kernel) ⟨Nat.le_of_ble_eq_true rfl, Nat.le_of_ble_eq_true rfl⟩) rfl hl.1 rfl (Nat.le_of_ble_eq_true rfl) dX3_faultOf_50 ⟨Nat.le_refl _, Nat.le_refl _⟩ (fun H locs G => ?_)
        rw [lt2_e hx50] at hL36
        have hqX50 : dN X50 ∧ X50 9 1 = X 9 1 := ⟨by { have h9 := go_d hd36 (c := x4_get X36 9 (nI ks)); rw [← hx50] at h9; exact h9 }, by { have h9 := go_9 (c := x4_get X36 9 (nI ks)) hd36; rw [← hx50] at h9; exact h9.trans h936 }⟩
        refine lv_if_ne (tgt := 58) hx hb dX3_faultOf_53 (by decide) (fun c53 => ?_) (fun c53 => ?_)
        · rw [if_neg c53] at hL36
          refine lv_iinc (v := nI (ks + 1)) (lv' := [(3, .int (nI (ks + 1))), (0, .ref (ad 37)), (1, .ref (ad 9)), (2, .ref (sa k))]) hx hb dX3_faultOf_58 hl (k := 3) rfl (nt_add rfl (show (1 : Int32) = nI 1 from rfl)) (by decide) rfl (fun ls hl => ?_)
          refine lv_goto (tgt := 36) hx hb dX3_faultOf_61 (by decide) ?_
          exact ih36 (ks + 1) X50 ⟨by omega, by omega, hqX50⟩ hL36 _ _ _ (lv_sub hl [1, 2, 3, 0] rfl) G
        · rw [if_pos c53] at hL36
          refine lv_iload_n hx hb dX3_faultOf_56 rfl (lv_at hl 3 rfl) ?_
          exact hret _ _ _ _ _ _ hL36 G dX3_faultOf_57
  exact hloop36 (vn (X 9 1) + 1) 0 X31 ⟨Nat.zero_le _, by omega, hd31, h931⟩ hF _ _ _ (lv_sub hl [1, 2, 3, 0] rfl) G

