set_option maxRecDepth 100000 in
set_option maxHeartbeats 4000000 in
theorem k_oneHour (zl : Launch) (D : va_G) (cI : ClassId) (ad : Nat → Nat) (M : mS) (hR : rOK M) : mMv zl D cI ad yX9_oneHour wsX9_oneHour ({ frames := 53, cells := 0, slots := 0, locals := 1188 } : Room) [] M (mF_oneHour M) := by
  have hin : ∀ w ∈ wsX90, w ∈ wsX9_oneHour := fun w h => List.mem_cons_of_mem _ (List.mem_append_right _ h)
  refine mMv_of (cc := cX9_oneHour) (nL := 4) (by decide) rfl rfl (Nat.le_of_ble_eq_true rfl) ?_
  intro zp ze zs zm zg zb zt zc zA H0 zQ C hA hret H locs ls hl G
  have hx := C.1
  have hb := C.2.1
  have hl : lv_has ls 4 [(0, .ref (ad 0))] := hl
  obtain ⟨rM, hF⟩ : ∃ X : mS, X = mF_oneHour M := ⟨_, rfl⟩
  rw [← hF] at hret
  unfold mF_oneHour at hF
  have hC := hR.1
  have hP := hR.2.1
  have hK := hR.2.2.1
  have hA9 := hR.2.2.2.1
  have hS := hR.2.2.2.2
  have hC2 := hC.2.1
  have hC3 := hC.2.2
  have hP2 := hP.2
  refine lv_iconst (v := 0) hx hb dX9_oneHour_0 (by decide) ?_
  refine lv_istore_n (lv' := [(1, .int 0), (0, .ref (ad 0))]) hx hb dX9_oneHour_1 rfl hl (by decide) rfl (fun ls hl => ?_)
  obtain ⟨M2x, hX2⟩ : ∃ (M2x : mS), M2x = mF_oneHour_L2 M (vn (M 1 3)) := ⟨_, rfl⟩
  rw [lt_e hX2] at hF
  have hr2x : M2x 1 = M 1 := by rw [hX2]; exact oH_L2 M _ 1 (by decide)
  have hrest2 : ∀ (H : Heap) (locs : List Loc) (ls : Array Slot), lv_has ls 4 [(0, .ref (ad 0)), (1, .int (nI (vn (M 1 3))))] → mG D cI ad zA H0 H locs M2x → W zp zl ze ({ frames := 53, cells := 0, slots := 0, locals := 1188 } : Room) zs zm zg zb zt zc H locs 0 0 zQ (F0 zm 25 ls []) := by
    intro H locs ls hl G
    refine lv_iconst (v := 0) hx hb dX9_oneHour_25 (by decide) ?_
    refine lv_istore_n (lv' := [(1, .int 0), (0, .ref (ad 0))]) hx hb dX9_oneHour_26 rfl hl (by decide) rfl (fun ls hl => ?_)
    obtain ⟨M27x, hX27⟩ : ∃ (M27x : mS), M27x = mF_oneHour_L27 M M2x (vn (M 1 8)) := ⟨_, rfl⟩
    rw [lt_e hX27] at hF
    have hr27x : M27x 1 = M 1 := by rw [hX27]; exact (oH_L27 M M2x _ 1 (by decide)).trans hr2x
    have hR27x : rOK M27x := rOK_row hr27x hR
    have hrest27 : ∀ (H : Heap) (locs : List Loc) (ls : Array Slot), lv_has ls 4 [(0, .ref (ad 0)), (1, .int (nI (vn (M 1 8))))] → mG D cI ad zA H0 H locs M27x → W zp zl ze ({ frames := 53, cells := 0, slots := 0, locals := 1188 } : Room) zs zm zg zb zt zc H locs 0 0 zQ (F0 zm 106 ls []) := by
      intro H locs ls hl G
      refine lv_iconst (v := 0) hx hb dX9_oneHour_106 (by decide) ?_
      refine lv_istore_n (lv' := [(1, .int 0), (0, .ref (ad 0))]) hx hb dX9_oneHour_107 rfl hl (by decide) rfl (fun ls hl => ?_)
      obtain ⟨M108x, hX108⟩ : ∃ (M108x : mS), M108x = mF_oneHour_L108 M27x (vn (M 1 3)) := ⟨_, rfl⟩
      rw [lt_e hX108] at hF
      have hr108x : M108x 1 8 = M 1 8 := by rw [hX108, oH_L108 _ _ 8 (by decide), hr27x]
      have hR108x : rOK M108x := by rw [hX108]; exact oH_L108_R hR27x _ hC3
      have hrest108 : ∀ (H : Heap) (locs : List Loc) (ls : Array Slot), lv_has ls 4 [(0, .ref (ad 0)), (1, .int (nI (vn (M 1 3))))] → mG D cI ad zA H0 H locs M108x → W zp zl ze ({ frames := 53, cells := 0, slots := 0, locals := 1188 } : Room) zs zm zg zb zt zc H locs 0 0 zQ (F0 zm 167 ls []) := by
        intro H locs ls hl G
        refine lv_iconst (v := 0) hx hb dX9_oneHour_167 (by decide) ?_
        refine lv_istore_n (lv' := [(1, .int 0), (0, .ref (ad 0))]) hx hb dX9_oneHour_168 rfl hl (by decide) rfl (fun ls hl => ?_)
        obtain ⟨M169x, hX169⟩ : ∃ (M169x : mS), M169x = mF_oneHour_L169 M108x (vn (M 1 8)) := ⟨_, rfl⟩
        rw [lt_e hX169] at hF
        have hrest169 : ∀ (H : Heap) (locs : List Loc) (ls : Array Slot), lv_has ls 4 [(0, .ref (ad 0)), (1, .int (nI (vn (M 1 8))))] → mG D cI ad zA H0 H locs M169x → W zp zl ze ({ frames := 53, cells := 0, slots := 0, locals := 1188 } : Room) zs zm zg zb zt zc H locs 0 0 zQ (F0 zm 199 ls []) := by
          intro H locs ls hl G
          refine lv_aload_n hx hb dX9_oneHour_199 rfl (lv_at hl 0 rfl) ?_
          refine mr_get C G hin 0 (by decide) rfl (show Cond.fieldLink RX9 7 "WheatCountsModel" "row" "[I" ∈ _ by decide +kernel) (fun _ => rfl) dX9_oneHour_200 ?_
          refine lv_iconst (v := 0) hx hb dX9_oneHour_203 (by decide) ?_
          refine lv_dup2_11 hx hb dX9_oneHour_204 rfl rfl ?_
          refine mr_ald C G 1 (fun _ => rfl) 0 rfl (by omega) (Nat.le_of_ble_eq_true rfl) dX9_oneHour_205 ?_
          refine lv_iconst (v := 1) hx hb dX9_oneHour_206 (by decide) ?_
          refine lv_iadd hx hb dX9_oneHour_207 ?_
          refine mr_ast C G 1 (fun _ => rfl) 0 rfl (by omega) (Nat.le_of_ble_eq_true rfl) (fun _ => rfl) dX9_oneHour_208 (fun H locs G => ?_)
          obtain ⟨M208, hM208⟩ : ∃ X : mS, X = mU M169x 1 0 ((M169x 1 0) + 1) := ⟨_, rfl⟩
          rw [← hM208] at G
          rw [lt_e hM208] at hF
          exact hret _ _ _ _ _ hF G dX9_oneHour_209
        have hloop169 : ∀ (j k169 : Nat), j + k169 = vn (M 1 8) → ∀ (M169 : mS), M169 = mF_oneHour_L169 M108x k169 → ∀ (H : Heap) (locs : List Loc) (ls : Array Slot), lv_has ls 4 [(0, .ref (ad 0)), (1, .int (nI k169))] → mG D cI ad zA H0 H locs M169 → W zp zl ze ({ frames := 53, cells := 0, slots := 0, locals := 1188 } : Room) zs zm zg zb zt zc H locs 0 0 zQ (F0 zm 169 ls []) := by
          intro j
          induction j with
          | zero =>
            intro k169 hk M169 hL H locs ls hl G
            have hk : k169 = vn (M 1 8) := by omega
            rw [hk] at hL hl
            have hr169 : M169 1 8 = M 1 8 := by rw [hL, oH_L169 _ _ 8 (by decide), hr108x]
            refine lv_iload_n hx hb dX9_oneHour_169 rfl (lv_at hl 1 rfl) ?_
            refine lv_aload_n hx hb dX9_oneHour_170 rfl (lv_at hl 0 rfl) ?_
            refine mr_get C G hin 0 (by decide) rfl (show Cond.fieldLink RX9 7 "WheatCountsModel" "row" "[I" ∈ _ by decide +kernel) (fun _ => rfl) dX9_oneHour_171 ?_
            refine lv_bipush (v := 8) hx hb dX9_oneHour_174 (by decide) ?_
            refine mr_ald C G 1 (fun _ => rfl) 8 rfl (by omega) (Nat.le_of_ble_eq_true rfl) dX9_oneHour_176 ?_
            refine lv_icmp_ge (tgt := 199) hx hb dX9_oneHour_177 (by decide) (fun c177 => ?_) (fun c177 => absurd (lp_out (n := vn (M 1 8)) (by rw [hr169]; exact hP.1)) c177)
            obtain rfl := hL.trans hX169.symm
            exact hrest169 _ _ _ (lv_sub hl [0, 1] rfl) G
          | succ j ih =>
            intro k169 hk M169 hL H locs ls hl G
            have hkn : k169 < vn (M 1 8) := by omega
            obtain ⟨M169s, hS0⟩ : ∃ (M169s : mS), M169s = mF_oneHour_L169 M108x (k169 + 1) := ⟨_, rfl⟩
            have hS := hS0
            rw [mF_oneHour_L169_s, lt_e hL] at hS
            have hr169 : M169 1 8 = M 1 8 := by rw [hL, oH_L169 _ _ 8 (by decide), hr108x]
            have hk8 : k169 < 8 := by omega
            have hR169 : rOK M169 := by rw [hL]; exact oH_L169_R hR108x _ (by omega)
            refine lv_iload_n hx hb dX9_oneHour_169 rfl (lv_at hl 1 rfl) ?_
            refine lv_aload_n hx hb dX9_oneHour_170 rfl (lv_at hl 0 rfl) ?_
            refine mr_get C G hin 0 (by decide) rfl (show Cond.fieldLink RX9 7 "WheatCountsModel" "row" "[I" ∈ _ by decide +kernel) (fun _ => rfl) dX9_oneHour_171 ?_
            refine lv_bipush (v := 8) hx hb dX9_oneHour_174 (by decide) ?_
            refine mr_ald C G 1 (fun _ => rfl) 8 rfl (by omega) (Nat.le_of_ble_eq_true rfl) dX9_oneHour_176 ?_
            refine lv_icmp_ge (tgt := 199) hx hb dX9_oneHour_177 (by decide) (fun c177 => absurd c177 (lp_in (n := vn (M 1 8)) (by rw [hr169]; exact hP.1) hkn (by omega))) (fun c177 => ?_)
            refine lv_iload_n hx hb dX9_oneHour_180 rfl (lv_at hl 1 rfl) ?_
            refine lv_aload_n hx hb dX9_oneHour_181 rfl (lv_at hl 0 rfl) ?_
            refine mr_get C G hin 15 (by decide) rfl (show Cond.fieldLink RX9 25 "WheatCountsModel" "absent" "I" ∈ _ by decide +kernel) (fun _ => rfl) dX9_oneHour_182 ?_
            obtain ⟨M193, hX193⟩ : ∃ (M193 : mS), M193 = ((if (nI k169) = (M169 0 15) then M169 else (lt (mF_takesAndGoes M169 k169) fun (M190 : mS) => M190)) : mS) := ⟨_, rfl⟩
            rw [lt_e hX193] at hS
            have hj193 : ∀ (H : Heap) (locs : List Loc) (ls : Array Slot), lv_has ls 4 [(0, .ref (ad 0)), (1, .int (nI k169))] → mG D cI ad zA H0 H locs M193 → W zp zl ze ({ frames := 53, cells := 0, slots := 0, locals := 1188 } : Room) zs zm zg zb zt zc H locs 0 0 zQ (F0 zm 193 ls []) := by
              intro H locs ls hl G
              refine lv_iinc (v := nI (k169 + 1)) (lv' := [(1, .int (nI (k169 + 1))), (0, .ref (ad 0))]) hx hb dX9_oneHour_193 hl (k := 1) rfl (nt_add rfl (show (1 : Int32) = nI 1 from rfl)) (by decide) rfl (fun ls hl => ?_)
              refine lv_goto (tgt := 169) hx hb dX9_oneHour_196 (by decide) ?_
              subst hS
              exact ih (k169 + 1) (by omega) _ hS0 _ _ _ (lv_sub hl [1, 0] rfl) G
            refine lv_icmp_eq (tgt := 193) hx hb dX9_oneHour_185 (by decide) (fun c185 => ?_) (fun c185 => ?_)
            · rw [if_pos c185] at hX193
              subst hX193
              exact hj193 _ _ _ (lv_sub hl [0, 1] rfl) G
            · rw [if_neg c185] at hX193
              refine lv_aload_n hx hb dX9_oneHour_188 rfl (lv_at hl 0 rfl) ?_
              refine lv_iload_n hx hb dX9_oneHour_189 rfl (lv_at hl 1 rfl) ?_
              refine mr_callv C hA G (k_takesAndGoes zl D cI ad M169 k169 hR169 hk8) (cwV 1 C.2.2.2.2.1 gX9_oneHour_X9_takesAndGoes rfl rfl rfl (by decide +kernel) ⟨Nat.le_of_ble_eq_true rfl, Nat.le_of_ble_eq_true rfl⟩) rfl hl.1 rfl (Nat.le_of_ble_eq_true rfl) dX9_oneHour_190 ⟨Nat.le_refl _, Nat.le_refl _⟩ (fun H locs G => ?_)
              obtain ⟨M190, hM190⟩ : ∃ X : mS, X = mF_takesAndGoes M169 k169 := ⟨_, rfl⟩
              rw [← hM190] at G
              rw [lt_e hM190] at hX193
              subst hX193
              exact hj193 _ _ _ (lv_sub hl [0, 1] rfl) G
        exact hloop169 _ 0 (Nat.add_zero _) _ rfl _ _ _ (lv_sub hl [1, 0] rfl) G
      have hloop108 : ∀ (j k108 : Nat), j + k108 = vn (M 1 3) → ∀ (M108 : mS), M108 = mF_oneHour_L108 M27x k108 → ∀ (H : Heap) (locs : List Loc) (ls : Array Slot), lv_has ls 4 [(0, .ref (ad 0)), (1, .int (nI k108))] → mG D cI ad zA H0 H locs M108 → W zp zl ze ({ frames := 53, cells := 0, slots := 0, locals := 1188 } : Room) zs zm zg zb zt zc H locs 0 0 zQ (F0 zm 108 ls []) := by
        intro j
        induction j with
        | zero =>
          intro k108 hk M108 hL H locs ls hl G
          have hk : k108 = vn (M 1 3) := by omega
          rw [hk] at hL hl
          have hr108 : M108 1 3 = M 1 3 := by rw [hL, oH_L108 _ _ 3 (by decide), hr27x]
          refine lv_iload_n hx hb dX9_oneHour_108 rfl (lv_at hl 1 rfl) ?_
          refine lv_aload_n hx hb dX9_oneHour_109 rfl (lv_at hl 0 rfl) ?_
          refine mr_get C G hin 0 (by decide) rfl (show Cond.fieldLink RX9 7 "WheatCountsModel" "row" "[I" ∈ _ by decide +kernel) (fun _ => rfl) dX9_oneHour_110 ?_
          refine lv_iconst (v := 3) hx hb dX9_oneHour_113 (by decide) ?_
          refine mr_ald C G 1 (fun _ => rfl) 3 rfl (by omega) (Nat.le_of_ble_eq_true rfl) dX9_oneHour_114 ?_
          refine lv_icmp_ge (tgt := 167) hx hb dX9_oneHour_115 (by decide) (fun c115 => ?_) (fun c115 => absurd (lp_out (n := vn (M 1 3)) (by rw [hr108]; exact hC.1)) c115)
          obtain rfl := hL.trans hX108.symm
          exact hrest108 _ _ _ (lv_sub hl [0, 1] rfl) G
        | succ j ih =>
          intro k108 hk M108 hL H locs ls hl G
          have hkn : k108 < vn (M 1 3) := by omega
          obtain ⟨M108s, hS0⟩ : ∃ (M108s : mS), M108s = mF_oneHour_L108 M27x (k108 + 1) := ⟨_, rfl⟩
          have hS := hS0
          rw [mF_oneHour_L108_s, lt_e hL] at hS
          have hr108 : M108 1 3 = M 1 3 := by rw [hL, oH_L108 _ _ 3 (by decide), hr27x]
          refine lv_iload_n hx hb dX9_oneHour_108 rfl (lv_at hl 1 rfl) ?_
          refine lv_aload_n hx hb dX9_oneHour_109 rfl (lv_at hl 0 rfl) ?_
          refine mr_get C G hin 0 (by decide) rfl (show Cond.fieldLink RX9 7 "WheatCountsModel" "row" "[I" ∈ _ by decide +kernel) (fun _ => rfl) dX9_oneHour_110 ?_
          refine lv_iconst (v := 3) hx hb dX9_oneHour_113 (by decide) ?_
          refine mr_ald C G 1 (fun _ => rfl) 3 rfl (by omega) (Nat.le_of_ble_eq_true rfl) dX9_oneHour_114 ?_
          refine lv_icmp_ge (tgt := 167) hx hb dX9_oneHour_115 (by decide) (fun c115 => absurd c115 (lp_in (n := vn (M 1 3)) (by rw [hr108]; exact hC.1) hkn (by omega))) (fun c115 => ?_)
          refine lv_aload_n hx hb dX9_oneHour_118 rfl (lv_at hl 0 rfl) ?_
          refine mr_get C G hin 0 (by decide) rfl (show Cond.fieldLink RX9 7 "WheatCountsModel" "row" "[I" ∈ _ by decide +kernel) (fun _ => rfl) dX9_oneHour_119 ?_
          refine lv_bipush (v := 12) hx hb dX9_oneHour_122 (by decide) ?_
          refine lv_iload_n hx hb dX9_oneHour_124 rfl (lv_at hl 1 rfl) ?_
          refine lv_iadd hx hb dX9_oneHour_125 ?_
          refine lv_aload_n hx hb dX9_oneHour_126 rfl (lv_at hl 0 rfl) ?_
          refine mr_get C G hin 0 (by decide) rfl (show Cond.fieldLink RX9 7 "WheatCountsModel" "row" "[I" ∈ _ by decide +kernel) (fun _ => rfl) dX9_oneHour_127 ?_
          refine lv_bipush (v := 12) hx hb dX9_oneHour_130 (by decide) ?_
          refine lv_iload_n hx hb dX9_oneHour_132 rfl (lv_at hl 1 rfl) ?_
          refine lv_iadd hx hb dX9_oneHour_133 ?_
          refine mr_ald C G 1 (fun _ => rfl) (12 + k108) (nt_add rfl rfl) (by omega) (Nat.le_of_ble_eq_true rfl) dX9_oneHour_134 ?_
          refine lv_aload_n hx hb dX9_oneHour_135 rfl (lv_at hl 0 rfl) ?_
          refine mr_get C G hin 16 (by decide) rfl (show Cond.fieldLink RX9 29 "WheatCountsModel" "counted" "[I" ∈ _ by decide +kernel) (fun _ => rfl) dX9_oneHour_136 ?_
          refine lv_iload_n hx hb dX9_oneHour_139 rfl (lv_at hl 1 rfl) ?_
          refine mr_ald C G 6 (fun _ => rfl) k108 rfl (by omega) (Nat.le_of_ble_eq_true rfl) dX9_oneHour_140 ?_
          refine lv_iconst (v := 2) hx hb dX9_oneHour_141 (by decide) ?_
          refine lv_idiv hx hb dX9_oneHour_142 (by decide) ?_
          refine lv_iadd hx hb dX9_oneHour_143 ?_
          refine lv_aload_n hx hb dX9_oneHour_144 rfl (lv_at hl 0 rfl) ?_
          refine mr_get C G hin 0 (by decide) rfl (show Cond.fieldLink RX9 7 "WheatCountsModel" "row" "[I" ∈ _ by decide +kernel) (fun _ => rfl) dX9_oneHour_145 ?_
          refine lv_bipush (v := 22) hx hb dX9_oneHour_148 (by decide) ?_
          refine lv_iload_n hx hb dX9_oneHour_150 rfl (lv_at hl 1 rfl) ?_
          refine lv_iadd hx hb dX9_oneHour_151 ?_
          refine mr_ald C G 1 (fun _ => rfl) (22 + k108) (nt_add rfl rfl) (by omega) (Nat.le_of_ble_eq_true rfl) dX9_oneHour_152 ?_
          refine lv_isub hx hb dX9_oneHour_153 ?_
          refine lv_iconst (v := 0) hx hb dX9_oneHour_154 (by decide) ?_
          refine lv_ldc (v := 99999) hx hb C.2.2.2.1 (C.2.2.2.2.1 (.constant RX9 72 (99999)) (by decide +kernel)) dX9_oneHour_155 ?_
          refine mr_calls C hA G (ks_held zl (((M108 1 (12 + k108)) + ((M108 6 k108) / 2)) - (M108 1 (22 + k108))) 0 99999) (va_cwS 3 C.2.2.2.2.1 gX9_oneHour_X9_held rfl rfl rfl (by decide +kernel) ⟨Nat.le_of_ble_eq_true rfl, Nat.le_of_ble_eq_true rfl⟩) rfl hl.1 rfl (Nat.le_of_ble_eq_true rfl) dX9_oneHour_157 ⟨Nat.le_refl _, Nat.le_refl _⟩ (fun H locs G => ?_)
          refine mr_ast C G 1 (fun _ => rfl) (12 + k108) (nt_add rfl rfl) (by omega) (Nat.le_of_ble_eq_true rfl) (fun _ => rfl) dX9_oneHour_160 (fun H locs G => ?_)
          obtain ⟨M160, hM160⟩ : ∃ X : mS, X = mU M108 1 (12 + k108) (sF_held (((M108 1 (12 + k108)) + ((M108 6 k108) / 2)) - (M108 1 (22 + k108))) 0 99999) := ⟨_, rfl⟩
          rw [← hM160] at G
          rw [lt_e hM160] at hS
          refine lv_iinc (v := nI (k108 + 1)) (lv' := [(1, .int (nI (k108 + 1))), (0, .ref (ad 0))]) hx hb dX9_oneHour_161 hl (k := 1) rfl (nt_add rfl (show (1 : Int32) = nI 1 from rfl)) (by decide) rfl (fun ls hl => ?_)
          refine lv_goto (tgt := 108) hx hb dX9_oneHour_164 (by decide) ?_
          subst hS
          exact ih (k108 + 1) (by omega) _ hS0 _ _ _ (lv_sub hl [1, 0] rfl) G
      exact hloop108 _ 0 (Nat.add_zero _) _ rfl _ _ _ (lv_sub hl [1, 0] rfl) G
    have hloop27 : ∀ (j k27 : Nat), j + k27 = vn (M 1 8) → ∀ (M27 : mS), M27 = mF_oneHour_L27 M M2x k27 → ∀ (H : Heap) (locs : List Loc) (ls : Array Slot), lv_has ls 4 [(0, .ref (ad 0)), (1, .int (nI k27))] → mG D cI ad zA H0 H locs M27 → W zp zl ze ({ frames := 53, cells := 0, slots := 0, locals := 1188 } : Room) zs zm zg zb zt zc H locs 0 0 zQ (F0 zm 27 ls []) := by
      intro j
      induction j with
      | zero =>
        intro k27 hk M27 hL H locs ls hl G
        have hk : k27 = vn (M 1 8) := by omega
        rw [hk] at hL hl
        have hr27 : M27 1 = M 1 := by rw [hL]; exact (oH_L27 M M2x _ 1 (by decide)).trans hr2x
        refine lv_iload_n hx hb dX9_oneHour_27 rfl (lv_at hl 1 rfl) ?_
        refine lv_aload_n hx hb dX9_oneHour_28 rfl (lv_at hl 0 rfl) ?_
        refine mr_get C G hin 0 (by decide) rfl (show Cond.fieldLink RX9 7 "WheatCountsModel" "row" "[I" ∈ _ by decide +kernel) (fun _ => rfl) dX9_oneHour_29 ?_
        refine lv_bipush (v := 8) hx hb dX9_oneHour_32 (by decide) ?_
        refine mr_ald C G 1 (fun _ => rfl) 8 rfl (by omega) (Nat.le_of_ble_eq_true rfl) dX9_oneHour_34 ?_
        refine lv_icmp_ge (tgt := 106) hx hb dX9_oneHour_35 (by decide) (fun c35 => ?_) (fun c35 => absurd (lp_out (n := vn (M 1 8)) (by rw [hr27]; exact hP.1)) c35)
        obtain rfl := hL.trans hX27.symm
        exact hrest27 _ _ _ (lv_sub hl [0, 1] rfl) G
      | succ j ih =>
        intro k27 hk M27 hL H locs ls hl G
        have hkn : k27 < vn (M 1 8) := by omega
        obtain ⟨M27s, hS0⟩ : ∃ (M27s : mS), M27s = mF_oneHour_L27 M M2x (k27 + 1) := ⟨_, rfl⟩
        have hS := hS0
        rw [mF_oneHour_L27_s, lt_e hL] at hS
        have hr27 : M27 1 = M 1 := by rw [hL]; exact (oH_L27 M M2x _ 1 (by decide)).trans hr2x
        have hR27 : rOK M27 := rOK_row hr27 hR
        have hk8 : k27 < 8 := by omega
        refine lv_iload_n hx hb dX9_oneHour_27 rfl (lv_at hl 1 rfl) ?_
        refine lv_aload_n hx hb dX9_oneHour_28 rfl (lv_at hl 0 rfl) ?_
        refine mr_get C G hin 0 (by decide) rfl (show Cond.fieldLink RX9 7 "WheatCountsModel" "row" "[I" ∈ _ by decide +kernel) (fun _ => rfl) dX9_oneHour_29 ?_
        refine lv_bipush (v := 8) hx hb dX9_oneHour_32 (by decide) ?_
        refine mr_ald C G 1 (fun _ => rfl) 8 rfl (by omega) (Nat.le_of_ble_eq_true rfl) dX9_oneHour_34 ?_
        refine lv_icmp_ge (tgt := 106) hx hb dX9_oneHour_35 (by decide) (fun c35 => absurd c35 (lp_in (n := vn (M 1 8)) (by rw [hr27]; exact hP.1) hkn (by omega))) (fun c35 => ?_)
        refine lv_iload_n hx hb dX9_oneHour_38 rfl (lv_at hl 1 rfl) ?_
        refine lv_aload_n hx hb dX9_oneHour_39 rfl (lv_at hl 0 rfl) ?_
        refine mr_get C G hin 15 (by decide) rfl (show Cond.fieldLink RX9 25 "WheatCountsModel" "absent" "I" ∈ _ by decide +kernel) (fun _ => rfl) dX9_oneHour_40 ?_
        obtain ⟨y55, hX55⟩ : ∃ (y55 : Int32), y55 = ((if (nI k27) = (M27 0 15) then 0 else (mF_seesOf M27 k27)) : Int32) := ⟨_, rfl⟩
        rw [lt_e hX55] at hS
        have hj55 : ∀ (H : Heap) (locs : List Loc) (ls : Array Slot), lv_has ls 4 [(0, .ref (ad 0)), (1, .int (nI k27))] → mG D cI ad zA H0 H locs M27 → W zp zl ze ({ frames := 53, cells := 0, slots := 0, locals := 1188 } : Room) zs zm zg zb zt zc H locs 0 0 zQ (F0 zm 55 ls [.int y55]) := by
          intro H locs ls hl G
          refine lv_istore_n (lv' := [(2, .int y55), (0, .ref (ad 0)), (1, .int (nI k27))]) hx hb dX9_oneHour_55 rfl hl (by decide) rfl (fun ls hl => ?_)
          refine lv_iconst (v := 0) hx hb dX9_oneHour_56 (by decide) ?_
          refine lv_istore_n (lv' := [(3, .int 0), (2, .int y55), (0, .ref (ad 0)), (1, .int (nI k27))]) hx hb dX9_oneHour_57 rfl hl (by decide) rfl (fun ls hl => ?_)
          obtain ⟨M58x, hX58⟩ : ∃ (M58x : mS), M58x = mF_oneHour_L58 k27 M27 y55 (vn (M 1 3)) := ⟨_, rfl⟩
          rw [lt_e hX58] at hS
          have hrest58 : ∀ (H : Heap) (locs : List Loc) (ls : Array Slot), lv_has ls 4 [(0, .ref (ad 0)), (1, .int (nI k27)), (2, .int y55), (3, .int (nI (vn (M 1 3))))] → mG D cI ad zA H0 H locs M58x → W zp zl ze ({ frames := 53, cells := 0, slots := 0, locals := 1188 } : Room) zs zm zg zb zt zc H locs 0 0 zQ (F0 zm 100 ls []) := by
            intro H locs ls hl G
            refine lv_iinc (v := nI (k27 + 1)) (lv' := [(1, .int (nI (k27 + 1))), (0, .ref (ad 0)), (2, .int y55), (3, .int (nI (vn (M 1 3))))]) hx hb dX9_oneHour_100 hl (k := 1) rfl (nt_add rfl (show (1 : Int32) = nI 1 from rfl)) (by decide) rfl (fun ls hl => ?_)
            refine lv_goto (tgt := 27) hx hb dX9_oneHour_103 (by decide) ?_
            subst hS
            exact ih (k27 + 1) (by omega) _ hS0 _ _ _ (lv_sub hl [1, 0] rfl) G
          have hloop58 : ∀ (j k58 : Nat), j + k58 = vn (M 1 3) → ∀ (M58 : mS), M58 = mF_oneHour_L58 k27 M27 y55 k58 → ∀ (H : Heap) (locs : List Loc) (ls : Array Slot), lv_has ls 4 [(0, .ref (ad 0)), (1, .int (nI k27)), (2, .int y55), (3, .int (nI k58))] → mG D cI ad zA H0 H locs M58 → W zp zl ze ({ frames := 53, cells := 0, slots := 0, locals := 1188 } : Room) zs zm zg zb zt zc H locs 0 0 zQ (F0 zm 58 ls []) := by
            intro j
            induction j with
            | zero =>
              intro k58 hk M58 hL H locs ls hl G
              have hk : k58 = vn (M 1 3) := by omega
              rw [hk] at hL hl
              have hr58 : M58 1 = M 1 := by rw [hL]; exact (oH_L58 _ _ _ _ 1 (by decide)).trans hr27
              refine lv_iload_n hx hb dX9_oneHour_58 rfl (lv_at hl 3 rfl) ?_
              refine lv_aload_n hx hb dX9_oneHour_59 rfl (lv_at hl 0 rfl) ?_
              refine mr_get C G hin 0 (by decide) rfl (show Cond.fieldLink RX9 7 "WheatCountsModel" "row" "[I" ∈ _ by decide +kernel) (fun _ => rfl) dX9_oneHour_60 ?_
              refine lv_iconst (v := 3) hx hb dX9_oneHour_63 (by decide) ?_
              refine mr_ald C G 1 (fun _ => rfl) 3 rfl (by omega) (Nat.le_of_ble_eq_true rfl) dX9_oneHour_64 ?_
              refine lv_icmp_ge (tgt := 100) hx hb dX9_oneHour_65 (by decide) (fun c65 => ?_) (fun c65 => absurd (lp_out (n := vn (M 1 3)) (by rw [hr58]; exact hC.1)) c65)
              obtain rfl := hL.trans hX58.symm
              exact hrest58 _ _ _ (lv_sub hl [0, 1, 2, 3] rfl) G
            | succ j ih =>
              intro k58 hk M58 hL H locs ls hl G
              have hkn : k58 < vn (M 1 3) := by omega
              obtain ⟨M58s, hS0⟩ : ∃ (M58s : mS), M58s = mF_oneHour_L58 k27 M27 y55 (k58 + 1) := ⟨_, rfl⟩
              have hS := hS0
              rw [mF_oneHour_L58_s, lt_e hL] at hS
              have hr58 : M58 1 = M 1 := by rw [hL]; exact (oH_L58 _ _ _ _ 1 (by decide)).trans hr27
              refine lv_iload_n hx hb dX9_oneHour_58 rfl (lv_at hl 3 rfl) ?_
              refine lv_aload_n hx hb dX9_oneHour_59 rfl (lv_at hl 0 rfl) ?_
              refine mr_get C G hin 0 (by decide) rfl (show Cond.fieldLink RX9 7 "WheatCountsModel" "row" "[I" ∈ _ by decide +kernel) (fun _ => rfl) dX9_oneHour_60 ?_
              refine lv_iconst (v := 3) hx hb dX9_oneHour_63 (by decide) ?_
              refine mr_ald C G 1 (fun _ => rfl) 3 rfl (by omega) (Nat.le_of_ble_eq_true rfl) dX9_oneHour_64 ?_
              refine lv_icmp_ge (tgt := 100) hx hb dX9_oneHour_65 (by decide) (fun c65 => absurd c65 (lp_in (n := vn (M 1 3)) (by rw [hr58]; exact hC.1) hkn (by omega))) (fun c65 => ?_)
              refine lv_aload_n hx hb dX9_oneHour_68 rfl (lv_at hl 0 rfl) ?_
              refine mr_get C G hin 16 (by decide) rfl (show Cond.fieldLink RX9 29 "WheatCountsModel" "counted" "[I" ∈ _ by decide +kernel) (fun _ => rfl) dX9_oneHour_69 ?_
              refine lv_iload_n hx hb dX9_oneHour_72 rfl (lv_at hl 3 rfl) ?_
              refine lv_dup2_11 hx hb dX9_oneHour_73 rfl rfl ?_
              refine mr_ald C G 6 (fun _ => rfl) k58 rfl (by omega) (Nat.le_of_ble_eq_true rfl) dX9_oneHour_74 ?_
              refine lv_iload_n hx hb dX9_oneHour_75 rfl (lv_at hl 2 rfl) ?_
              refine lv_iload_n hx hb dX9_oneHour_76 rfl (lv_at hl 3 rfl) ?_
              refine mr_calls C hA G (ks_has zl y55 (nI k58)) (va_cwS 2 C.2.2.2.2.1 gX9_oneHour_X9_has rfl rfl rfl (by decide +kernel) ⟨Nat.le_of_ble_eq_true rfl, Nat.le_of_ble_eq_true rfl⟩) rfl hl.1 rfl (Nat.le_of_ble_eq_true rfl) dX9_oneHour_77 ⟨Nat.le_refl _, Nat.le_refl _⟩ (fun H locs G => ?_)
              obtain ⟨y92, hX92⟩ : ∃ (y92 : Int32), y92 = ((if (sF_has y55 (nI k58)) = 0 then 0 else (mF_counts M58 k27)) : Int32) := ⟨_, rfl⟩
              rw [lt_e hX92] at hS
              have hj92 : ∀ (H : Heap) (locs : List Loc) (ls : Array Slot), lv_has ls 4 [(0, .ref (ad 0)), (1, .int (nI k27)), (2, .int y55), (3, .int (nI k58))] → mG D cI ad zA H0 H locs M58 → W zp zl ze ({ frames := 53, cells := 0, slots := 0, locals := 1188 } : Room) zs zm zg zb zt zc H locs 0 0 zQ (F0 zm 92 ls [.int y92, .int (M58 6 k58), .int (nI k58), .ref (ad 6)]) := by
                intro H locs ls hl G
                refine lv_iadd hx hb dX9_oneHour_92 ?_
                refine mr_ast C G 6 (fun _ => rfl) k58 rfl (by omega) (Nat.le_of_ble_eq_true rfl) (fun _ => rfl) dX9_oneHour_93 (fun H locs G => ?_)
                obtain ⟨M93, hM93⟩ : ∃ X : mS, X = mU M58 6 k58 ((M58 6 k58) + y92) := ⟨_, rfl⟩
                rw [← hM93] at G
                rw [lt_e hM93] at hS
                refine lv_iinc (v := nI (k58 + 1)) (lv' := [(3, .int (nI (k58 + 1))), (0, .ref (ad 0)), (1, .int (nI k27)), (2, .int y55)]) hx hb dX9_oneHour_94 hl (k := 3) rfl (nt_add rfl (show (1 : Int32) = nI 1 from rfl)) (by decide) rfl (fun ls hl => ?_)
                refine lv_goto (tgt := 58) hx hb dX9_oneHour_97 (by decide) ?_
                subst hS
                exact ih (k58 + 1) (by omega) _ hS0 _ _ _ (lv_sub hl [1, 2, 3, 0] rfl) G
              refine lv_if_eq (tgt := 91) hx hb dX9_oneHour_80 (by decide) (fun c80 => ?_) (fun c80 => ?_)
              · rw [if_pos c80] at hX92
                refine lv_iconst (v := 0) hx hb dX9_oneHour_91 (by decide) ?_
                subst hX92
                exact hj92 _ _ _ (lv_sub hl [0, 1, 2, 3] rfl) G
              · rw [if_neg c80] at hX92
                refine lv_aload_n hx hb dX9_oneHour_83 rfl (lv_at hl 0 rfl) ?_
                refine lv_iload_n hx hb dX9_oneHour_84 rfl (lv_at hl 1 rfl) ?_
                refine mr_calli C hA G (k_counts zl D cI ad M58 k27 (by first | assumption | omega)) (cwV 1 C.2.2.2.2.1 gX9_oneHour_X9_counts rfl rfl rfl (by decide +kernel) ⟨Nat.le_of_ble_eq_true rfl, Nat.le_of_ble_eq_true rfl⟩) rfl hl.1 rfl (Nat.le_of_ble_eq_true rfl) dX9_oneHour_85 ⟨Nat.le_refl _, Nat.le_refl _⟩ (fun H locs G => ?_)
                refine lv_goto (tgt := 92) hx hb dX9_oneHour_88 (by decide) ?_
                subst hX92
                exact hj92 _ _ _ (lv_sub hl [0, 1, 2, 3] rfl) G
          exact hloop58 _ 0 (Nat.add_zero _) _ rfl _ _ _ (lv_sub hl [2, 3, 1, 0] rfl) G
        refine lv_icmp_ne (tgt := 50) hx hb dX9_oneHour_43 (by decide) (fun c43 => ?_) (fun c43 => ?_)
        · rw [if_neg c43] at hX55
          refine lv_aload_n hx hb dX9_oneHour_50 rfl (lv_at hl 0 rfl) ?_
          refine lv_iload_n hx hb dX9_oneHour_51 rfl (lv_at hl 1 rfl) ?_
          refine mr_calli C hA G (k_seesOf zl D cI ad M27 k27 hR27 hk8) (cwV 1 C.2.2.2.2.1 gX9_oneHour_X9_seesOf rfl rfl rfl (by decide +kernel) ⟨Nat.le_of_ble_eq_true rfl, Nat.le_of_ble_eq_true rfl⟩) rfl hl.1 rfl (Nat.le_of_ble_eq_true rfl) dX9_oneHour_52 ⟨Nat.le_refl _, Nat.le_refl _⟩ (fun H locs G => ?_)
          subst hX55
          exact hj55 _ _ _ (lv_sub hl [0, 1] rfl) G
        · rw [if_pos c43] at hX55
          refine lv_iconst (v := 0) hx hb dX9_oneHour_46 (by decide) ?_
          refine lv_goto (tgt := 55) hx hb dX9_oneHour_47 (by decide) ?_
          subst hX55
          exact hj55 _ _ _ (lv_sub hl [0, 1] rfl) G
    exact hloop27 _ 0 (Nat.add_zero _) _ rfl _ _ _ (lv_sub hl [1, 0] rfl) G
  have hloop2 : ∀ (j k2 : Nat), j + k2 = vn (M 1 3) → ∀ (M2 : mS), M2 = mF_oneHour_L2 M k2 → ∀ (H : Heap) (locs : List Loc) (ls : Array Slot), lv_has ls 4 [(0, .ref (ad 0)), (1, .int (nI k2))] → mG D cI ad zA H0 H locs M2 → W zp zl ze ({ frames := 53, cells := 0, slots := 0, locals := 1188 } : Room) zs zm zg zb zt zc H locs 0 0 zQ (F0 zm 2 ls []) := by
    intro j
    induction j with
    | zero =>
      intro k2 hk M2 hL H locs ls hl G
      have hk : k2 = vn (M 1 3) := by omega
      rw [hk] at hL hl
      have hr2 : M2 1 = M 1 := by rw [hL]; exact oH_L2 M _ 1 (by decide)
      refine lv_iload_n hx hb dX9_oneHour_2 rfl (lv_at hl 1 rfl) ?_
      refine lv_aload_n hx hb dX9_oneHour_3 rfl (lv_at hl 0 rfl) ?_
      refine mr_get C G hin 0 (by decide) rfl (show Cond.fieldLink RX9 7 "WheatCountsModel" "row" "[I" ∈ _ by decide +kernel) (fun _ => rfl) dX9_oneHour_4 ?_
      refine lv_iconst (v := 3) hx hb dX9_oneHour_7 (by decide) ?_
      refine mr_ald C G 1 (fun _ => rfl) 3 rfl (by omega) (Nat.le_of_ble_eq_true rfl) dX9_oneHour_8 ?_
      refine lv_icmp_ge (tgt := 25) hx hb dX9_oneHour_9 (by decide) (fun c9 => ?_) (fun c9 => absurd (lp_out (n := vn (M 1 3)) (by rw [hr2]; exact hC.1)) c9)
      obtain rfl := hL.trans hX2.symm
      exact hrest2 _ _ _ (lv_sub hl [0, 1] rfl) G
    | succ j ih =>
      intro k2 hk M2 hL H locs ls hl G
      have hkn : k2 < vn (M 1 3) := by omega
      obtain ⟨M2s, hS0⟩ : ∃ (M2s : mS), M2s = mF_oneHour_L2 M (k2 + 1) := ⟨_, rfl⟩
      have hS := hS0
      rw [mF_oneHour_L2_s, lt_e hL] at hS
      have hr2 : M2 1 = M 1 := by rw [hL]; exact oH_L2 M _ 1 (by decide)
      refine lv_iload_n hx hb dX9_oneHour_2 rfl (lv_at hl 1 rfl) ?_
      refine lv_aload_n hx hb dX9_oneHour_3 rfl (lv_at hl 0 rfl) ?_
      refine mr_get C G hin 0 (by decide) rfl (show Cond.fieldLink RX9 7 "WheatCountsModel" "row" "[I" ∈ _ by decide +kernel) (fun _ => rfl) dX9_oneHour_4 ?_
      refine lv_iconst (v := 3) hx hb dX9_oneHour_7 (by decide) ?_
      refine mr_ald C G 1 (fun _ => rfl) 3 rfl (by omega) (Nat.le_of_ble_eq_true rfl) dX9_oneHour_8 ?_
      refine lv_icmp_ge (tgt := 25) hx hb dX9_oneHour_9 (by decide) (fun c9 => absurd c9 (lp_in (n := vn (M 1 3)) (by rw [hr2]; exact hC.1) hkn (by omega))) (fun c9 => ?_)
      refine lv_aload_n hx hb dX9_oneHour_12 rfl (lv_at hl 0 rfl) ?_
      refine mr_get C G hin 16 (by decide) rfl (show Cond.fieldLink RX9 29 "WheatCountsModel" "counted" "[I" ∈ _ by decide +kernel) (fun _ => rfl) dX9_oneHour_13 ?_
      refine lv_iload_n hx hb dX9_oneHour_16 rfl (lv_at hl 1 rfl) ?_
      refine lv_iconst (v := 0) hx hb dX9_oneHour_17 (by decide) ?_
      refine mr_ast C G 6 (fun _ => rfl) k2 rfl (by omega) (Nat.le_of_ble_eq_true rfl) (fun _ => rfl) dX9_oneHour_18 (fun H locs G => ?_)
      obtain ⟨M18, hM18⟩ : ∃ X : mS, X = mU M2 6 k2 0 := ⟨_, rfl⟩
      rw [← hM18] at G
      rw [lt_e hM18] at hS
      refine lv_iinc (v := nI (k2 + 1)) (lv' := [(1, .int (nI (k2 + 1))), (0, .ref (ad 0))]) hx hb dX9_oneHour_19 hl (k := 1) rfl (nt_add rfl (show (1 : Int32) = nI 1 from rfl)) (by decide) rfl (fun ls hl => ?_)
      refine lv_goto (tgt := 2) hx hb dX9_oneHour_22 (by decide) ?_
      subst hS
      exact ih (k2 + 1) (by omega) _ hS0 _ _ _ (lv_sub hl [1, 0] rfl) G
  exact hloop2 _ 0 (Nat.add_zero _) _ rfl _ _ _ (lv_sub hl [1, 0] rfl) G

