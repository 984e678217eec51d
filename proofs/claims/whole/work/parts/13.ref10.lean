def fu22 : Nat := 22
def mF_check_L30 (M : mS) : Nat → Nat → Int32 → mS → Nat × Int32 × mS
  | 0, ka, v3_30, M30 => (ka, v3_30, M30)
  | f + 1, ka, v3_30, M30 => (if (nI (vn (M 1 5))) ≤ (nI ka) then (ka, v3_30, M30) else (if v3_30 = 0 then (ka, v3_30, M30) else (lt (mF_oneHour M30) fun (M40 : mS) => (lt ((if (mF_grains M40) = (M40 1 (114 + ka)) then 1 else 0) : Int32) fun (y64 : Int32) => (if y64 = 0 then (mF_check_L30 M f (ka + 0) y64 M40) else (mF_check_L30 M f (ka + 1) y64 M40))))))
theorem mF_check_L30_s (M : mS) (f : Nat) (ka : Nat) (v3_30 : Int32) (M30 : mS) : mF_check_L30 M (f + 1) ka v3_30 M30 = (if (nI (vn (M 1 5))) ≤ (nI ka) then (ka, v3_30, M30) else (if v3_30 = 0 then (ka, v3_30, M30) else (lt (mF_oneHour M30) fun (M40 : mS) => (lt ((if (mF_grains M40) = (M40 1 (114 + ka)) then 1 else 0) : Int32) fun (y64 : Int32) => (if y64 = 0 then (mF_check_L30 M f (ka + 0) y64 M40) else (mF_check_L30 M f (ka + 1) y64 M40)))))) := rfl
def mF_check (M : mS) : Int32 × mS := (lt (mU M 1 5 0) fun (M13 : mS) => lt (mF_moveAll_1_3 M13) fun (M23 : mS) => (lt3 (mF_check_L30 M fu22 0 1 M23) fun (kax : Nat) (v3_30x : Int32) (M30x : mS) => (lt (mF_moveAll_3_1 M30x) fun (M89 : mS) => (if v3_30x = 0 then ((1 + (nI kax)), M89) else (0, M89)))))
set_option maxRecDepth 100000 in
set_option maxHeartbeats 4000000 in
theorem k_check (zl : Launch) (D : va_G) (cI : ClassId) (ad : Nat → Nat) (M : mS) (hR : rOK M) (hW : wOK M) : mM zl D cI ad yX9_check wsX9_check ({ frames := 54, cells := 0, slots := 0, locals := 1211 } : Room) [] M (mF_check M) := sorry
def mF_weeds_L32 (s : Int32) : Nat → Nat → mS → Nat × mS
  | 0, ka, M32 => (ka, M32)
  | f + 1, ka, M32 => (if (M32 9 (vn s)) ≤ (nI ka) then (ka, M32) else (if (mF_isCell M32 (nI ka)) = 0 then (ka, M32) else (if (sF_in (M32 10 ((40 * (vn s)) + ka)) 0 99) = 0 then (ka, M32) else (lt (mU M32 1 (22 + ka) (M32 10 ((40 * (vn s)) + ka))) fun (M89 : mS) => (mF_weeds_L32 s f (ka + 1) M89)))))
theorem mF_weeds_L32_s (s : Int32) (f : Nat) (ka : Nat) (M32 : mS) : mF_weeds_L32 s (f + 1) ka M32 = (if (M32 9 (vn s)) ≤ (nI ka) then (ka, M32) else (if (mF_isCell M32 (nI ka)) = 0 then (ka, M32) else (if (sF_in (M32 10 ((40 * (vn s)) + ka)) 0 99) = 0 then (ka, M32) else (lt (mU M32 1 (22 + ka) (M32 10 ((40 * (vn s)) + ka))) fun (M89 : mS) => (mF_weeds_L32 s f (ka + 1) M89))))) := rfl
def mF_weeds (M : mS) (s : Int32) : Int32 × mS := (if (sF_isSheet s) = 0 then (lt2 (mF_errs M (-1000000001)) fun (x10 : Int32) (M10 : mS) => (x10, M10)) else (if (M 8 (vn s)) = 0 then (lt2 (mF_errs M (-1000000002)) fun (x26 : Int32) (M26 : mS) => (x26, M26)) else (lt2 (mF_weeds_L32 s fu11 0 M) fun (kax : Nat) (M32x : mS) => (nI kax, M32x))))
set_option maxRecDepth 100000 in
set_option maxHeartbeats 4000000 in
theorem k_weeds (zl : Launch) (D : va_G) (cI : ClassId) (ad : Nat → Nat) (M : mS) (s : Int32) (hC : cOK M) (hZ : zOK M) : mM zl D cI ad yX9_weeds wsX9_weeds ({ frames := 2, cells := 0, slots := 0, locals := 43 } : Room) [.int s] M (mF_weeds M s) := by
  have hin : ∀ w ∈ wsX90, w ∈ wsX9_weeds := fun w h => List.mem_cons_of_mem _ (List.mem_append_right _ h)
  refine mM_of (cc := cX9_weeds) (nL := 3) (by decide) rfl rfl (Nat.le_of_ble_eq_true rfl) ?_
  intro zp ze zs zm zg zb zt zc zA H0 zQ C hA hret H locs ls hl G
  have hx := C.1
  have hb := C.2.1
  have hl : lv_has ls 3 [(0, .ref (ad 0)), (1, .int s)] := hl
  obtain ⟨rM, hF⟩ : ∃ X : Int32 × mS, X = mF_weeds M s := ⟨_, rfl⟩
  rw [← hF] at hret
  unfold mF_weeds at hF
  have hC1 := hC.1
  have hC2 := hC.2.1
  have hC3 := hC.2.2
  refine lv_iload_n hx hb dX9_weeds_0 rfl (lv_at hl 1 rfl) ?_
  refine mr_calls C hA G (ks_isSheet zl s) (va_cwS 1 C.2.2.2.2.1 gX9_weeds_X9_isSheet rfl rfl rfl (by decide +kernel) ⟨Nat.le_of_ble_eq_true rfl, Nat.le_of_ble_eq_true rfl⟩) rfl hl.1 rfl (Nat.le_of_ble_eq_true rfl) dX9_weeds_1 ⟨Nat.le_refl _, Nat.le_refl _⟩ (fun H locs G => ?_)
  refine lv_if_ne (tgt := 14) hx hb dX9_weeds_4 (by decide) (fun c4 => ?_) (fun c4 => ?_)
  · rw [if_neg c4] at hF
    have hs := sheet_of c4
    have hs2 := hs.2
    refine lv_aload_n hx hb dX9_weeds_14 rfl (lv_at hl 0 rfl) ?_
    refine mr_get C G hin 18 (by decide) rfl (show Cond.fieldLink RX9 35 "WheatCountsModel" "bitsOf" "[I" ∈ _ by decide +kernel) (fun _ => rfl) dX9_weeds_15 ?_
    refine lv_iload_n hx hb dX9_weeds_18 rfl (lv_at hl 1 rfl) ?_
    refine mr_ald C G 8 (fun _ => rfl) (vn s) hs.1 (by omega) (Nat.le_of_ble_eq_true rfl) dX9_weeds_19 ?_
    refine lv_if_ne (tgt := 30) hx hb dX9_weeds_20 (by decide) (fun c20 => ?_) (fun c20 => ?_)
    · rw [if_neg c20] at hF
      refine lv_iconst (v := 0) hx hb dX9_weeds_30 (by decide) ?_
      refine lv_istore_n (lv' := [(2, .int 0), (0, .ref (ad 0)), (1, .int s)]) hx hb dX9_weeds_31 rfl hl (by decide) rfl (fun ls hl => ?_)
      obtain ⟨kax, M32x, hX32⟩ : ∃ (kax : Nat) (M32x : mS), (kax, M32x) = mF_weeds_L32 s fu11 0 M := ⟨_, _, rfl⟩
      rw [lt2_e hX32] at hF
      have hrest32 : ∀ (H : Heap) (locs : List Loc) (ls : Array Slot), lv_has ls 3 [(0, .ref (ad 0)), (1, .int s), (2, .int (nI kax))] → mG D cI ad zA H0 H locs M32x → W zp zl ze ({ frames := 2, cells := 0, slots := 0, locals := 43 } : Room) zs zm zg zb zt zc H locs 0 0 zQ (F0 zm 96 ls []) := by
        intro H locs ls hl G
        refine lv_iload_n hx hb dX9_weeds_96 rfl (lv_at hl 2 rfl) ?_
        exact hret _ _ _ _ _ _ hF G dX9_weeds_97
      have hloop32 : ∀ (f : Nat) (ka : Nat) (M32 : mS), (ka ≤ 10 ∧ 10 < ka + f ∧ cOK M32) → (kax, M32x) = mF_weeds_L32 s f ka M32 → ∀ (H : Heap) (locs : List Loc) (ls : Array Slot), lv_has ls 3 [(0, .ref (ad 0)), (1, .int s), (2, .int (nI ka))] → mG D cI ad zA H0 H locs M32 → W zp zl ze ({ frames := 2, cells := 0, slots := 0, locals := 43 } : Room) zs zm zg zb zt zc H locs 0 0 zQ (F0 zm 32 ls []) := by
        intro f
        induction f with
        | zero =>
          intro ka M32 hI hL32 H locs ls hl G
          exact absurd hI.2.1 (by omega)
        | succ f ih =>
          intro ka M32 hI hL32 H locs ls hl G
          rw [mF_weeds_L32_s] at hL32
          refine lv_iload_n hx hb dX9_weeds_32 rfl (lv_at hl 2 rfl) ?_
          refine lv_aload_n hx hb dX9_weeds_33 rfl (lv_at hl 0 rfl) ?_
          refine mr_get C G hin 19 (by decide) rfl (show Cond.fieldLink RX9 38 "WheatCountsModel" "sizeOf" "[I" ∈ _ by decide +kernel) (fun _ => rfl) dX9_weeds_34 ?_
          refine lv_iload_n hx hb dX9_weeds_37 rfl (lv_at hl 1 rfl) ?_
          refine mr_ald C G 9 (fun _ => rfl) (vn s) hs.1 (by omega) (Nat.le_of_ble_eq_true rfl) dX9_weeds_38 ?_
          refine lv_icmp_ge (tgt := 96) hx hb dX9_weeds_39 (by decide) (fun c39 => ?_) (fun c39 => ?_)
          · rw [if_pos c39] at hL32
            cases hL32
            exact hrest32 _ _ _ (lv_sub hl [0, 1, 2] rfl) G
          · rw [if_neg c39] at hL32
            refine lv_aload_n hx hb dX9_weeds_42 rfl (lv_at hl 0 rfl) ?_
            refine lv_iload_n hx hb dX9_weeds_43 rfl (lv_at hl 2 rfl) ?_
            refine mr_calli C hA G (k_isCell zl D cI ad M32 (nI ka)) (cwV 1 C.2.2.2.2.1 gX9_weeds_X9_isCell rfl rfl rfl (by decide +kernel) ⟨Nat.le_of_ble_eq_true rfl, Nat.le_of_ble_eq_true rfl⟩) rfl hl.1 rfl (Nat.le_of_ble_eq_true rfl) dX9_weeds_44 ⟨Nat.le_refl _, Nat.le_refl _⟩ (fun H locs G => ?_)
            refine lv_if_eq (tgt := 96) hx hb dX9_weeds_47 (by decide) (fun c47 => ?_) (fun c47 => ?_)
            · rw [if_pos c47] at hL32
              cases hL32
              exact hrest32 _ _ _ (lv_sub hl [0, 1, 2] rfl) G
            · rw [if_neg c47] at hL32
              have hc9 := cell_of hI.2.2 c47
              rw [vn_nI (by omega)] at hc9
              have hc8 := hc9.2
              have hc7 := hI.2.2.2.2
              refine lv_aload_n hx hb dX9_weeds_50 rfl (lv_at hl 0 rfl) ?_
              refine mr_get C G hin 20 (by decide) rfl (show Cond.fieldLink RX9 41 "WheatCountsModel" "sheets" "[I" ∈ _ by decide +kernel) (fun _ => rfl) dX9_weeds_51 ?_
              refine lv_bipush (v := 40) hx hb dX9_weeds_54 (by decide) ?_
              refine lv_iload_n hx hb dX9_weeds_56 rfl (lv_at hl 1 rfl) ?_
              refine lv_imul hx hb dX9_weeds_57 ?_
              refine lv_iload_n hx hb dX9_weeds_58 rfl (lv_at hl 2 rfl) ?_
              refine lv_iadd hx hb dX9_weeds_59 ?_
              refine mr_ald C G 10 (fun _ => rfl) ((40 * (vn s)) + ka) (nt_add (nt_mul rfl hs.1) rfl) (by omega) (Nat.le_of_ble_eq_true rfl) dX9_weeds_60 ?_
              refine lv_iconst (v := 0) hx hb dX9_weeds_61 (by decide) ?_
              refine lv_bipush (v := 99) hx hb dX9_weeds_62 (by decide) ?_
              refine mr_calls C hA G (ks_in zl (M32 10 ((40 * (vn s)) + ka)) 0 99) (va_cwS 3 C.2.2.2.2.1 gX9_weeds_X9_in rfl rfl rfl (by decide +kernel) ⟨Nat.le_of_ble_eq_true rfl, Nat.le_of_ble_eq_true rfl⟩) rfl hl.1 rfl (Nat.le_of_ble_eq_true rfl) dX9_weeds_64 ⟨Nat.le_refl _, Nat.le_refl _⟩ (fun H locs G => ?_)
              refine lv_if_eq (tgt := 96) hx hb dX9_weeds_67 (by decide) (fun c67 => ?_) (fun c67 => ?_)
              · rw [if_pos c67] at hL32
                cases hL32
                exact hrest32 _ _ _ (lv_sub hl [0, 1, 2] rfl) G
              · rw [if_neg c67] at hL32
                refine lv_aload_n hx hb dX9_weeds_70 rfl (lv_at hl 0 rfl) ?_
                refine mr_get C G hin 0 (by decide) rfl (show Cond.fieldLink RX9 7 "WheatCountsModel" "row" "[I" ∈ _ by decide +kernel) (fun _ => rfl) dX9_weeds_71 ?_
                refine lv_bipush (v := 22) hx hb dX9_weeds_74 (by decide) ?_
                refine lv_iload_n hx hb dX9_weeds_76 rfl (lv_at hl 2 rfl) ?_
                refine lv_iadd hx hb dX9_weeds_77 ?_
                refine lv_aload_n hx hb dX9_weeds_78 rfl (lv_at hl 0 rfl) ?_
                refine mr_get C G hin 20 (by decide) rfl (show Cond.fieldLink RX9 41 "WheatCountsModel" "sheets" "[I" ∈ _ by decide +kernel) (fun _ => rfl) dX9_weeds_79 ?_
                refine lv_bipush (v := 40) hx hb dX9_weeds_82 (by decide) ?_
                refine lv_iload_n hx hb dX9_weeds_84 rfl (lv_at hl 1 rfl) ?_
                refine lv_imul hx hb dX9_weeds_85 ?_
                refine lv_iload_n hx hb dX9_weeds_86 rfl (lv_at hl 2 rfl) ?_
                refine lv_iadd hx hb dX9_weeds_87 ?_
                refine mr_ald C G 10 (fun _ => rfl) ((40 * (vn s)) + ka) (nt_add (nt_mul rfl hs.1) rfl) (by omega) (Nat.le_of_ble_eq_true rfl) dX9_weeds_88 ?_
                refine mr_ast C G 1 (fun _ => rfl) (22 + ka) (nt_add rfl rfl) (by omega) (Nat.le_of_ble_eq_true rfl) (fun _ => rfl) dX9_weeds_89 (fun H locs G => ?_)
                obtain ⟨M89, hM89⟩ : ∃ X : mS, X = mU M32 1 (22 + ka) (M32 10 ((40 * (vn s)) + ka)) := ⟨_, rfl⟩
                rw [← hM89] at G
                rw [lt_e hM89] at hL32
                refine lv_iinc (v := nI (ka + 1)) (lv' := [(2, .int (nI (ka + 1))), (0, .ref (ad 0)), (1, .int s)]) hx hb dX9_weeds_90 hl (k := 2) rfl (nt_add rfl (show (1 : Int32) = nI 1 from rfl)) (by decide) rfl (fun ls hl => ?_)
                refine lv_goto (tgt := 32) hx hb dX9_weeds_93 (by decide) ?_
                exact ih (ka + 1) M89 ⟨by omega, by omega, by rw [hM89]; unfold cOK; rw [mU_ne (by omega)]; exact hI.2.2⟩ hL32 _ _ _ (lv_sub hl [1, 2, 0] rfl) G
      exact hloop32 _ _ _ ⟨by omega, by decide, hC⟩ hX32 _ _ _ (lv_sub hl [1, 2, 0] rfl) G
    · rw [if_pos c20] at hF
      refine lv_aload_n hx hb dX9_weeds_23 rfl (lv_at hl 0 rfl) ?_
      refine lv_ldc (v := -1000000002) hx hb C.2.2.2.1 (C.2.2.2.2.1 (.constant RX9 204 (-1000000002)) (by decide +kernel)) dX9_weeds_24 ?_
      obtain ⟨x26, M26, hx26⟩ : ∃ (X : Int32) (Y : mS), (X, Y) = mF_errs M (-1000000002) := ⟨_, _, rfl⟩
      refine mr_calli (r0 := x26) (M2 := M26) C hA G (by rw [hx26]; exact (k_errs zl D cI ad M (-1000000002) (by unfold vp_in; decide))) (cwV 1 C.2.2.2.2.1 gX9_weeds_X9_errs rfl rfl rfl (by decide +kernel) ⟨Nat.le_of_ble_eq_true rfl, Nat.le_of_ble_eq_true rfl⟩) rfl hl.1 rfl (Nat.le_of_ble_eq_true rfl) dX9_weeds_26 ⟨Nat.le_refl _, Nat.le_refl _⟩ (fun H locs G => ?_)
      rw [lt2_e hx26] at hF
      exact hret _ _ _ _ _ _ hF G dX9_weeds_29
  · rw [if_pos c4] at hF
    refine lv_aload_n hx hb dX9_weeds_7 rfl (lv_at hl 0 rfl) ?_
    refine lv_ldc (v := -1000000001) hx hb C.2.2.2.1 (C.2.2.2.2.1 (.constant RX9 58 (-1000000001)) (by decide +kernel)) dX9_weeds_8 ?_
    obtain ⟨x10, M10, hx10⟩ : ∃ (X : Int32) (Y : mS), (X, Y) = mF_errs M (-1000000001) := ⟨_, _, rfl⟩
    refine mr_calli (r0 := x10) (M2 := M10) C hA G (by rw [hx10]; exact (k_errs zl D cI ad M (-1000000001) (by unfold vp_in; decide))) (cwV 1 C.2.2.2.2.1 gX9_weeds_X9_errs rfl rfl rfl (by decide +kernel) ⟨Nat.le_of_ble_eq_true rfl, Nat.le_of_ble_eq_true rfl⟩) rfl hl.1 rfl (Nat.le_of_ble_eq_true rfl) dX9_weeds_10 ⟨Nat.le_refl _, Nat.le_refl _⟩ (fun H locs G => ?_)
    rw [lt2_e hx10] at hF
    exact hret _ _ _ _ _ _ hF G dX9_weeds_13
def mF_judge_L32 (M : mS) (s : Int32) : Nat → Nat → Nat
  | 0, ka => ka
  | f + 1, ka => (if (M 1 3) ≤ (nI ka) then ka else (if (M 9 (vn s)) ≤ (nI ka) then ka else (if (M 10 ((40 * (vn s)) + ka)) = (M 1 (12 + ka)) then (mF_judge_L32 M s f (ka + 1)) else ka)))
theorem mF_judge_L32_s (M : mS) (s : Int32) (f : Nat) (ka : Nat) : mF_judge_L32 M s (f + 1) ka = (if (M 1 3) ≤ (nI ka) then ka else (if (M 9 (vn s)) ≤ (nI ka) then ka else (if (M 10 ((40 * (vn s)) + ka)) = (M 1 (12 + ka)) then (mF_judge_L32 M s f (ka + 1)) else ka))) := rfl
def mF_judge (M : mS) (s : Int32) : Int32 × mS := (if (sF_isSheet s) = 0 then (lt2 (mF_errs M (-1000000001)) fun (x10 : Int32) (M10 : mS) => (x10, M10)) else (if (M 8 (vn s)) = 0 then (lt2 (mF_errs M (-1000000002)) fun (x26 : Int32) (M26 : mS) => (x26, M26)) else (lt (mF_judge_L32 M s fu11 0) fun (kax : Nat) => (if (nI kax) = (M 1 3) then (if (nI kax) = (M 9 (vn s)) then ((-1), M) else (nI kax, M)) else (nI kax, M)))))
set_option maxRecDepth 100000 in
set_option maxHeartbeats 4000000 in
theorem k_judge (zl : Launch) (D : va_G) (cI : ClassId) (ad : Nat → Nat) (M : mS) (s : Int32) (hC : cOK M) : mM zl D cI ad yX9_judge wsX9_judge ({ frames := 2, cells := 0, slots := 0, locals := 42 } : Room) [.int s] M (mF_judge M s) := sorry
def mF_move_L156 (s2 : Int32) (j : Int32) (M119x : mS) : Nat → mS
  | 0 => M119x
  | k156 + 1 => lt (mF_move_L156 s2 j M119x k156) fun (M156 : mS) => (lt (mU M156 10 (((40 * (vn s2)) + (vn j)) + k156) (M156 11 k156)) fun (M184 : mS) => M184)
theorem mF_move_L156_0 (s2 : Int32) (j : Int32) (M119x : mS) : mF_move_L156 s2 j M119x 0 = M119x := rfl
theorem mF_move_L156_s (s2 : Int32) (j : Int32) (M119x : mS) (k156 : Nat) : mF_move_L156 s2 j M119x (k156 + 1) = lt (mF_move_L156 s2 j M119x k156) fun (M156 : mS) => (lt (mU M156 10 (((40 * (vn s2)) + (vn j)) + k156) (M156 11 k156)) fun (M184 : mS) => M184) := rfl
def mF_move_L119 (M : mS) (s : Int32) (i : Int32) : Nat → mS
  | 0 => M
  | k119 + 1 => lt (mF_move_L119 M s i k119) fun (M119 : mS) => (lt (mU M119 11 k119 (M119 10 (((40 * (vn s)) + (vn i)) + k119))) fun (M146 : mS) => M146)
theorem mF_move_L119_0 (M : mS) (s : Int32) (i : Int32) : mF_move_L119 M s i 0 = M := rfl
theorem mF_move_L119_s (M : mS) (s : Int32) (i : Int32) (k119 : Nat) : mF_move_L119 M s i (k119 + 1) = lt (mF_move_L119 M s i k119) fun (M119 : mS) => (lt (mU M119 11 k119 (M119 10 (((40 * (vn s)) + (vn i)) + k119))) fun (M146 : mS) => M146) := rfl
def mF_move (M : mS) (s : Int32) (i : Int32) (s2 : Int32) (j : Int32) (n : Int32) : Int32 × mS := (if (sF_isSheet s) = 0 then (lt2 (mF_errs M (-1000000001)) fun (x17 : Int32) (M17 : mS) => (x17, M17)) else (if (sF_isSheet s2) = 0 then (lt2 (mF_errs M (-1000000001)) fun (x17 : Int32) (M17 : mS) => (x17, M17)) else (if (M 8 (vn s)) = 0 then (lt2 (mF_errs M (-1000000002)) fun (x42 : Int32) (M42 : mS) => (x42, M42)) else (if (M 8 (vn s2)) = 0 then (lt2 (mF_errs M (-1000000002)) fun (x42 : Int32) (M42 : mS) => (x42, M42)) else (if (M 8 (vn s)) = (M 8 (vn s2)) then (if n < 0 then (lt2 (mF_errs M (-1000000001)) fun (x112 : Int32) (M112 : mS) => (x112, M112)) else (if i < 0 then (lt2 (mF_errs M (-1000000001)) fun (x112 : Int32) (M112 : mS) => (x112, M112)) else (if j < 0 then (lt2 (mF_errs M (-1000000001)) fun (x112 : Int32) (M112 : mS) => (x112, M112)) else (if ((M 9 (vn s)) - n) < i then (lt2 (mF_errs M (-1000000001)) fun (x112 : Int32) (M112 : mS) => (x112, M112)) else (if j ≤ ((M 9 (vn s2)) - n) then (lt (mF_move_L119 M s i (vn n)) fun (M119x : mS) => (lt (mF_move_L156 s2 j M119x (vn n)) fun (M156x : mS) => (n, M156x))) else (lt2 (mF_errs M (-1000000001)) fun (x112 : Int32) (M112 : mS) => (x112, M112))))))) else (lt2 (mF_errs M (-1000000005)) fun (x64 : Int32) (M64 : mS) => (x64, M64)))))))

theorem mv_b {S i n : Int32} {a : Nat} (hS : S = nI a) (ha : a ≤ 40) (hn : ¬ n < 0) (hi : ¬ i < 0) (h : ¬ (S - n) < i) : i = nI (vn i) ∧ n = nI (vn n) ∧ vn i + vn n ≤ a := by
  obtain ⟨x, hx, rfl⟩ := nI_of hn
  obtain ⟨y, hy, rfl⟩ := nI_of hi
  rw [vn_nI hx, vn_nI hy]
  refine ⟨rfl, rfl, ?_⟩
  subst hS
  have h1 : (nI a - nI x).toInt = (a : Int) - x := by
    rw [Int32.toInt_sub, nI_toInt (by omega), nI_toInt hx]
    rw [Int.bmod_eq_of_le (by omega) (by omega)]
  have h2 : (nI y).toInt ≤ (nI a - nI x).toInt := Int32.le_iff_toInt_le.mp (Int32.not_lt.mp h)
  rw [h1, nI_toInt hy] at h2
  omega
set_option maxRecDepth 100000 in
set_option maxHeartbeats 4000000 in
theorem k_move (zl : Launch) (D : va_G) (cI : ClassId) (ad : Nat → Nat) (M : mS) (s : Int32) (i : Int32) (s2 : Int32) (j : Int32) (n : Int32) (hZ : zOK M) : mM zl D cI ad yX9_move wsX9_move ({ frames := 2, cells := 0, slots := 0, locals := 42 } : Room) [.int s, .int i, .int s2, .int j, .int n] M (mF_move M s i s2 j n) := sorry
def mF_feed_L40 (M : mS) (word : Int64) : Nat → mS
  | 0 => M
  | k40 + 1 => lt (mF_feed_L40 M word k40) fun (M40 : mS) => (lt (mU M40 1 (64 + (vn (M 1 4) + k40)) (((word >>> ((8 * (nI k40)).toInt64 &&& 63)) &&& 255).toInt32)) fun (M71 : mS) => lt (mU M71 1 4 ((M71 1 4) + 1)) fun (M81 : mS) => M81)
theorem mF_feed_L40_0 (M : mS) (word : Int64) : mF_feed_L40 M word 0 = M := rfl
theorem mF_feed_L40_s (M : mS) (word : Int64) (k40 : Nat) : mF_feed_L40 M word (k40 + 1) = lt (mF_feed_L40 M word k40) fun (M40 : mS) => (lt (mU M40 1 (64 + (vn (M 1 4) + k40)) (((word >>> ((8 * (nI k40)).toInt64 &&& 63)) &&& 255).toInt32)) fun (M71 : mS) => lt (mU M71 1 4 ((M71 1 4) + 1)) fun (M81 : mS) => M81) := rfl
def mF_feed (M : mS) (word : Int64) (n : Int32) : Int32 × mS := (if (sF_in n 1 8) = 0 then (lt2 (mF_errs M (-1000000001)) fun (x13 : Int32) (M13 : mS) => (x13, M13)) else (if ((M 1 4) + n) ≤ 50 then (lt (mF_feed_L40 M word (vn n)) fun (M40x : mS) => ((M40x 1 4), M40x)) else (lt2 (mF_errs M (-1000000004)) fun (x33 : Int32) (M33 : mS) => (x33, M33))))

theorem fd_t {M : mS} (hT : M 1 4 = nI (vn (M 1 4))) (word : Int64) (k : Nat) : mF_feed_L40 M word k 1 4 = nI (vn (M 1 4) + k) := by
  induction k with
  | zero => exact hT
  | succ k ih =>
    rw [mF_feed_L40_s]; simp only [lt_i]
    rw [mU_eq, mU_ne (by omega), ih, nI_1]
    rfl
theorem fd_b {x n : Int32} {t : Nat} (hx : x = nI t) (ht : t ≤ 50) (hn : n = nI (vn n)) (hn2 : vn n ≤ 8) (h : x + n ≤ 50) : t + vn n ≤ 50 := by
  rw [hx, hn, nI_add, show (50 : Int32) = nI 50 from rfl, nI_leI (by omega) (by decide)] at h
  exact h
set_option maxRecDepth 100000 in
set_option maxHeartbeats 4000000 in
theorem k_feed (zl : Launch) (D : va_G) (cI : ClassId) (ad : Nat → Nat) (M : mS) (word : Int64) (n : Int32) (hT : tOK M) : mM zl D cI ad yX9_feed wsX9_feed ({ frames := 1, cells := 0, slots := 0, locals := 22 } : Room) [.long word, .int n] M (mF_feed M word n) := sorry
