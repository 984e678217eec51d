/-! the law's calls: text, law, hours, loose, evening, hail, then, full, leads, sums -/
theorem tx_fa {n : Nat} {tt : tT} {X : xS} {M : mS} (h : INV n tt X M) {k : Nat} (hk : k < 3) (h1 : 1 ≤ k) : dN (x3_faultOf X k).2 ∧ ∀ p, p < 37 → (x3_faultOf X k).2 p = X p := by
  obtain ⟨⟨T, t1, t2, t3, t4⟩, ⟨W, w1, w2, w3, w4⟩⟩ := h.1.2.1
  have t2 : X 9 1 = nI T := t2
  have t4 : ∀ j, j < T → X 10 j = M 1 (64 + j) ∧ ∃ w, w < 256 ∧ M 1 (64 + j) = nI w := t4
  have hf := fault_A 1 1 1 (k := k) (E := T) (X := X) hk h1 t1 t2 (fun j hj => by rw [(t4 j hj).1]; exact (t4 j hj).2)
  exact ⟨hf.2.1, fun p hp => hf.2.2 p (Or.inl hp)⟩
set_option maxRecDepth 100000 in
theorem lc_text {p : Program} {l : Launch} {e : Env} {s : State} {m : MethodId} {args : Array Value} {below : List Frame} {meth : Method} {c : Code} {H : Heap} {locs : List Loc} {Q : State → Prop} {D : va_G} {ad sa : Nat → Nat} {cc : cT} {a : Nat → Nat} {tt : tT} {A : Nat → Prop} {X : xS} {M : mS} {ls : Array Slot} {b L n : Nat} {xs : Nat → Int32} (hC : LXt D sa cc A p s m c args b L xs) (hn : 6 * n + 6 ≤ L) (ih : LKt p l e s m args below meth c Q D ad sa cc a A b (n + 1)) (hs : LSt D ad sa cc a A s b n tt X M H locs ls) : W p l e room_1 s m args below meth c H locs (76 + 3 * n) (2571 + 102 * n) Q (F0 m 574 ls []) := by
  have hL := hC.2.2.2.2.2.1
  have hx := hC.1.1
  have hb := hC.1.2.1
  have hf : 76 + 3 * n ≤ 600000 ∧ 2571 + 102 * n ≤ 7302250 := by omega
  obtain ⟨hI, ht, ⟨w, S, G⟩, hS, hl⟩ := hs
  obtain ⟨tt2, X2, et, hI, hf2, ew⟩ := re_ch hI (by omega)
  rw [← ew ad sa cc w] at G
  refine lv_aload_n hx hb dL_law_574 rfl (lv_at hl 2 rfl) ?_
  refine lr_arg hC hS hl 1 (by decide) (by omega) dL_law_575 dL_law_576 dL_law_577 dL_law_578 dL_law_579 ?_
  have hfa := fun k (h1 : 1 ≤ k) (h3 : k < 3) => tx_fa hI (k := k) h3 h1
  have hN := hC.2.2.2.2.2.2
  have hA := hC.2.1
  have C := hC.1
  have hdn : dN X2 := hI.2.2.2.2.2.2.2
  refine va_calli (A0 := A) (A1 := va_A (xW ad sa cc tt2 X2 w) H.size) (va_runV (As := [.int (xs (6 * n + 1))]) (rest := []) ⟨C.1, C.2.1, C.2.2.1, C.2.2.2.1, C.2.2.2.2.1⟩ (kx8_text l D ad sa cc tt2 X2 (xs (6 * n + 1)) hdn (INV_eR hI).2.1.1 hfa hf2 (by omega) H.size w) (cwV 1 C.2.2.2.2.1 gL_law_X8_text rfl rfl rfl (by decide +kernel) ⟨Nat.le_of_ble_eq_true rfl, Nat.le_of_ble_eq_true rfl⟩) ⟨fun b9 U g mk q9 => ⟨xr_blind _ _ _ _ b9 U g mk q9.1, nw_blind q9.2⟩, va_recv C.2.2.2.2.2.1 G.1.1 (ci := 7) (q0 := 0) rfl ((xW_get ad sa cc tt2 X2 w (by decide)).trans (by rw [xW_c (show kW 0 by decide).1])), fun U hU hW => ⟨xr_pre C hA G.1.1 G.2.1.1 hS _ U hU hW, va_Nw.warmC hW hN⟩⟩ rfl rfl hl.1 rfl (lv_room (Nat.le_of_ble_eq_true rfl)) dL_law_580 ⟨by show 76 + 3 * n + 3 ≤ 600000; omega, by show 2571 + 102 * n + 102 ≤ 7302250; omega⟩) hS (fun q _ h => LWd_free G hS hA q h) (LWd_free G hS hA) (fun r u t9 H1 locs1 ht9 hvm hw hB hz1 hk1 hS1 => ?_)
  obtain ⟨q4, q5, q6, w9⟩ := u
  obtain ⟨hP1, hK1, hD1⟩ := hB
  rw [ht9] at hP1
  subst hw
  have G := LWd_step G hS hA hk1 hP1 hD1
  have hS := hS1
  have E := text_e hI (by omega) (xs (6 * n + 1)) q4 q5 q6
  have ht2 : (x8_textT tt2 X2 (xs (6 * n + 1)) q4 q5 q6).1 ≤ n + 1 := by
    unfold x8_textT
    split
    · show tt2.1 + 1 ≤ n + 1; omega
    · omega
  generalize x8_textT tt2 X2 (xs (6 * n + 1)) q4 q5 q6 = tt3 at G E ht2 ⊢
  refine lv_aload_n hx hb dL_law_583 rfl (lv_at hl 1 rfl) ?_
  refine lr_arg hC hS hl 1 (by decide) (by omega) dL_law_584 dL_law_585 dL_law_586 dL_law_587 dL_law_588 ?_
  refine lr_M (rM := mF_text M (xs (6 * n + 1))) hC G hS (k_text l D cc.1 a M (xs (6 * n + 1)) ((INV_tw hI).1)) (cwV 1 hC.1.2.2.2.2.1 gL_law_X9_text rfl rfl rfl (by decide +kernel) ⟨Nat.le_of_ble_eq_true rfl, Nat.le_of_ble_eq_true rfl⟩) rfl hl.1 rfl (Nat.le_of_ble_eq_true rfl) dL_law_589 ⟨by show 76 + 3 * n + 3 ≤ 600000; omega, by show 2571 + 102 * n + 102 ≤ 7302250; omega⟩ (fun H locs S G hS => ?_)
  exact lr_cmp hC ih (Nat.le_succ n) E ht2 G hS hl (by omega) (by omega) dL_law_592 (by decide)
set_option maxRecDepth 100000 in
theorem lc_law {p : Program} {l : Launch} {e : Env} {s : State} {m : MethodId} {args : Array Value} {below : List Frame} {meth : Method} {c : Code} {H : Heap} {locs : List Loc} {Q : State → Prop} {D : va_G} {ad sa : Nat → Nat} {cc : cT} {a : Nat → Nat} {tt : tT} {A : Nat → Prop} {X : xS} {M : mS} {ls : Array Slot} {b L n : Nat} {xs : Nat → Int32} (hC : LXt D sa cc A p s m c args b L xs) (hn : 6 * n + 6 ≤ L) (ih : LKt p l e s m args below meth c Q D ad sa cc a A b (n + 1)) (hs : LSt D ad sa cc a A s b n tt X M H locs ls) : W p l e room_1 s m args below meth c H locs (76 + 3 * n) (2571 + 102 * n) Q (F0 m 597 ls []) := by
  have hL := hC.2.2.2.2.2.1
  have hx := hC.1.1
  have hb := hC.1.2.1
  have hf : 76 + 3 * n ≤ 600000 ∧ 2571 + 102 * n ≤ 7302250 := by omega
  obtain ⟨hI, ht, ⟨w, S, G⟩, hS, hl⟩ := hs
  refine lv_aload_n hx hb dL_law_597 rfl (lv_at hl 2 rfl) ?_
  refine lr_arg hC hS hl 1 (by decide) (by omega) dL_law_598 dL_law_599 dL_law_600 dL_law_601 dL_law_602 ?_
  refine lr_arg hC hS hl 2 (by decide) (by omega) dL_law_603 dL_law_604 dL_law_605 dL_law_606 dL_law_607 ?_
  refine lr_arg hC hS hl 3 (by decide) (by omega) dL_law_608 dL_law_609 dL_law_610 dL_law_611 dL_law_612 ?_
  refine lr_arg hC hS hl 4 (by decide) (by omega) dL_law_613 dL_law_614 dL_law_615 dL_law_616 dL_law_617 ?_
  refine lr_X (rX := x8_law tt X (xs (6 * n + 1)) (xs (6 * n + 2)) (xs (6 * n + 3)) (xs (6 * n + 4))) hC G hS (kx8_law l D ad sa cc tt X (xs (6 * n + 1)) (xs (6 * n + 2)) (xs (6 * n + 3)) (xs (6 * n + 4)) ((INV_eR hI).1.2.2.2)) (cwV 4 hC.1.2.2.2.2.1 gL_law_X8_law rfl rfl rfl (by decide +kernel) ⟨Nat.le_of_ble_eq_true rfl, Nat.le_of_ble_eq_true rfl⟩) rfl hl.1 rfl (Nat.le_of_ble_eq_true rfl) dL_law_618 hf (fun H locs w G hS => ?_)
  refine lv_aload_n hx hb dL_law_621 rfl (lv_at hl 1 rfl) ?_
  refine lr_arg hC hS hl 1 (by decide) (by omega) dL_law_622 dL_law_623 dL_law_624 dL_law_625 dL_law_626 ?_
  refine lr_arg hC hS hl 2 (by decide) (by omega) dL_law_627 dL_law_628 dL_law_629 dL_law_630 dL_law_631 ?_
  refine lr_arg hC hS hl 3 (by decide) (by omega) dL_law_632 dL_law_633 dL_law_634 dL_law_635 dL_law_636 ?_
  refine lr_arg hC hS hl 4 (by decide) (by omega) dL_law_637 dL_law_638 dL_law_639 dL_law_640 dL_law_641 ?_
  refine lr_M (rM := mF_law M (xs (6 * n + 1)) (xs (6 * n + 2)) (xs (6 * n + 3)) (xs (6 * n + 4))) hC G hS (k_law l D cc.1 a M (xs (6 * n + 1)) (xs (6 * n + 2)) (xs (6 * n + 3)) (xs (6 * n + 4)) ((INV_R hI).2.2.2.2)) (cwV 4 hC.1.2.2.2.2.1 gL_law_X9_law rfl rfl rfl (by decide +kernel) ⟨Nat.le_of_ble_eq_true rfl, Nat.le_of_ble_eq_true rfl⟩) rfl hl.1 rfl (Nat.le_of_ble_eq_true rfl) dL_law_642 hf (fun H locs S G hS => ?_)
  exact lr_cmp hC ih (Nat.le_succ n) (law_e hI (xs (6 * n + 1)) (xs (6 * n + 2)) (xs (6 * n + 3)) (xs (6 * n + 4))) (by omega) G hS hl (by omega) (by omega) dL_law_645 (by decide)
set_option maxRecDepth 100000 in
theorem lc_hours {p : Program} {l : Launch} {e : Env} {s : State} {m : MethodId} {args : Array Value} {below : List Frame} {meth : Method} {c : Code} {H : Heap} {locs : List Loc} {Q : State → Prop} {D : va_G} {ad sa : Nat → Nat} {cc : cT} {a : Nat → Nat} {tt : tT} {A : Nat → Prop} {X : xS} {M : mS} {ls : Array Slot} {b L n : Nat} {xs : Nat → Int32} (hC : LXt D sa cc A p s m c args b L xs) (hn : 6 * n + 6 ≤ L) (ih : LKt p l e s m args below meth c Q D ad sa cc a A b (n + 1)) (hs : LSt D ad sa cc a A s b n tt X M H locs ls) : W p l e room_1 s m args below meth c H locs (76 + 3 * n) (2571 + 102 * n) Q (F0 m 650 ls []) := by
  have hL := hC.2.2.2.2.2.1
  have hx := hC.1.1
  have hb := hC.1.2.1
  have hf : 76 + 3 * n ≤ 600000 ∧ 2571 + 102 * n ≤ 7302250 := by omega
  obtain ⟨hI, ht, ⟨w, S, G⟩, hS, hl⟩ := hs
  refine lv_aload_n hx hb dL_law_650 rfl (lv_at hl 2 rfl) ?_
  refine lr_arg hC hS hl 1 (by decide) (by omega) dL_law_651 dL_law_652 dL_law_653 dL_law_654 dL_law_655 ?_
  refine lr_X (rX := x8_hours tt X (xs (6 * n + 1))) hC G hS (kx8_hours l D ad sa cc tt X (xs (6 * n + 1)) ((INV_eR hI).1)) (cwV 1 hC.1.2.2.2.2.1 gL_law_X8_hours rfl rfl rfl (by decide +kernel) ⟨Nat.le_of_ble_eq_true rfl, Nat.le_of_ble_eq_true rfl⟩) rfl hl.1 rfl (Nat.le_of_ble_eq_true rfl) dL_law_656 hf (fun H locs w G hS => ?_)
  refine lv_aload_n hx hb dL_law_659 rfl (lv_at hl 1 rfl) ?_
  refine lr_arg hC hS hl 1 (by decide) (by omega) dL_law_660 dL_law_661 dL_law_662 dL_law_663 dL_law_664 ?_
  refine lr_M (rM := mF_hours M (xs (6 * n + 1))) hC G hS (k_hours l D cc.1 a M (xs (6 * n + 1)) (INV_R hI)) (cwV 1 hC.1.2.2.2.2.1 gL_law_X9_hours rfl rfl rfl (by decide +kernel) ⟨Nat.le_of_ble_eq_true rfl, Nat.le_of_ble_eq_true rfl⟩) rfl hl.1 rfl (Nat.le_of_ble_eq_true rfl) dL_law_665 hf (fun H locs S G hS => ?_)
  exact lr_cmp hC ih (Nat.le_succ n) (hours_e hI (xs (6 * n + 1))) (by omega) G hS hl (by omega) (by omega) dL_law_668 (by decide)
set_option maxRecDepth 100000 in
theorem lc_loose {p : Program} {l : Launch} {e : Env} {s : State} {m : MethodId} {args : Array Value} {below : List Frame} {meth : Method} {c : Code} {H : Heap} {locs : List Loc} {Q : State → Prop} {D : va_G} {ad sa : Nat → Nat} {cc : cT} {a : Nat → Nat} {tt : tT} {A : Nat → Prop} {X : xS} {M : mS} {ls : Array Slot} {b L n : Nat} {xs : Nat → Int32} (hC : LXt D sa cc A p s m c args b L xs) (hn : 6 * n + 6 ≤ L) (ih : LKt p l e s m args below meth c Q D ad sa cc a A b (n + 1)) (hs : LSt D ad sa cc a A s b n tt X M H locs ls) : W p l e room_1 s m args below meth c H locs (76 + 3 * n) (2571 + 102 * n) Q (F0 m 673 ls []) := by
  have hL := hC.2.2.2.2.2.1
  have hx := hC.1.1
  have hb := hC.1.2.1
  have hf : 76 + 3 * n ≤ 600000 ∧ 2571 + 102 * n ≤ 7302250 := by omega
  obtain ⟨hI, ht, ⟨w, S, G⟩, hS, hl⟩ := hs
  refine lv_aload_n hx hb dL_law_673 rfl (lv_at hl 2 rfl) ?_
  refine lr_arg hC hS hl 1 (by decide) (by omega) dL_law_674 dL_law_675 dL_law_676 dL_law_677 dL_law_678 ?_
  refine lr_X (rX := x8_loose tt X (xs (6 * n + 1))) hC G hS (kx8_loose l D ad sa cc tt X (xs (6 * n + 1)) ((INV_eR hI).1)) (cwV 1 hC.1.2.2.2.2.1 gL_law_X8_loose rfl rfl rfl (by decide +kernel) ⟨Nat.le_of_ble_eq_true rfl, Nat.le_of_ble_eq_true rfl⟩) rfl hl.1 rfl (Nat.le_of_ble_eq_true rfl) dL_law_679 hf (fun H locs w G hS => ?_)
  refine lv_aload_n hx hb dL_law_682 rfl (lv_at hl 1 rfl) ?_
  refine lr_arg hC hS hl 1 (by decide) (by omega) dL_law_683 dL_law_684 dL_law_685 dL_law_686 dL_law_687 ?_
  refine lr_M (rM := mF_loose M (xs (6 * n + 1))) hC G hS (k_loose l D cc.1 a M (xs (6 * n + 1)) (INV_R hI)) (cwV 1 hC.1.2.2.2.2.1 gL_law_X9_loose rfl rfl rfl (by decide +kernel) ⟨Nat.le_of_ble_eq_true rfl, Nat.le_of_ble_eq_true rfl⟩) rfl hl.1 rfl (Nat.le_of_ble_eq_true rfl) dL_law_688 hf (fun H locs S G hS => ?_)
  exact lr_cmp hC ih (Nat.le_succ n) (loose_e hI (xs (6 * n + 1))) (by omega) G hS hl (by omega) (by omega) dL_law_691 (by decide)
set_option maxRecDepth 100000 in
theorem lc_evening {p : Program} {l : Launch} {e : Env} {s : State} {m : MethodId} {args : Array Value} {below : List Frame} {meth : Method} {c : Code} {H : Heap} {locs : List Loc} {Q : State → Prop} {D : va_G} {ad sa : Nat → Nat} {cc : cT} {a : Nat → Nat} {tt : tT} {A : Nat → Prop} {X : xS} {M : mS} {ls : Array Slot} {b L n : Nat} {xs : Nat → Int32} (hC : LXt D sa cc A p s m c args b L xs) (hn : 6 * n + 6 ≤ L) (ih : LKt p l e s m args below meth c Q D ad sa cc a A b (n + 1)) (hs : LSt D ad sa cc a A s b n tt X M H locs ls) : W p l e room_1 s m args below meth c H locs (76 + 3 * n) (2571 + 102 * n) Q (F0 m 696 ls []) := by
  have hL := hC.2.2.2.2.2.1
  have hx := hC.1.1
  have hb := hC.1.2.1
  have hf : 76 + 3 * n ≤ 600000 ∧ 2571 + 102 * n ≤ 7302250 := by omega
  obtain ⟨hI, ht, ⟨w, S, G⟩, hS, hl⟩ := hs
  refine lv_aload_n hx hb dL_law_696 rfl (lv_at hl 2 rfl) ?_
  refine lr_X (rX := x8_evening X ) hC G hS (kx8_evening l D ad sa cc tt X  ((INV_eR hI).1.1)) (cwV 0 hC.1.2.2.2.2.1 gL_law_X8_evening rfl rfl rfl (by decide +kernel) ⟨Nat.le_of_ble_eq_true rfl, Nat.le_of_ble_eq_true rfl⟩) rfl hl.1 rfl (Nat.le_of_ble_eq_true rfl) dL_law_697 hf (fun H locs w G hS => ?_)
  refine lv_aload_n hx hb dL_law_700 rfl (lv_at hl 1 rfl) ?_
  refine lr_M (rM := mF_evening M ) hC G hS (k_evening l D cc.1 a M  ((INV_R hI).1)) (cwV 0 hC.1.2.2.2.2.1 gL_law_X9_evening rfl rfl rfl (by decide +kernel) ⟨Nat.le_of_ble_eq_true rfl, Nat.le_of_ble_eq_true rfl⟩) rfl hl.1 rfl (Nat.le_of_ble_eq_true rfl) dL_law_701 hf (fun H locs S G hS => ?_)
  exact lr_cmp hC ih (Nat.le_succ n) (evening_e hI ) (by omega) G hS hl (by omega) (by omega) dL_law_704 (by decide)
set_option maxRecDepth 100000 in
theorem lc_hail {p : Program} {l : Launch} {e : Env} {s : State} {m : MethodId} {args : Array Value} {below : List Frame} {meth : Method} {c : Code} {H : Heap} {locs : List Loc} {Q : State → Prop} {D : va_G} {ad sa : Nat → Nat} {cc : cT} {a : Nat → Nat} {tt : tT} {A : Nat → Prop} {X : xS} {M : mS} {ls : Array Slot} {b L n : Nat} {xs : Nat → Int32} (hC : LXt D sa cc A p s m c args b L xs) (hn : 6 * n + 6 ≤ L) (ih : LKt p l e s m args below meth c Q D ad sa cc a A b (n + 1)) (hs : LSt D ad sa cc a A s b n tt X M H locs ls) : W p l e room_1 s m args below meth c H locs (76 + 3 * n) (2571 + 102 * n) Q (F0 m 709 ls []) := by
  have hL := hC.2.2.2.2.2.1
  have hx := hC.1.1
  have hb := hC.1.2.1
  have hf : 76 + 3 * n ≤ 600000 ∧ 2571 + 102 * n ≤ 7302250 := by omega
  obtain ⟨hI, ht, ⟨w, S, G⟩, hS, hl⟩ := hs
  refine lv_aload_n hx hb dL_law_709 rfl (lv_at hl 2 rfl) ?_
  refine lr_arg hC hS hl 1 (by decide) (by omega) dL_law_710 dL_law_711 dL_law_712 dL_law_713 dL_law_714 ?_
  refine lr_X (rX := x8_hail X (xs (6 * n + 1))) hC G hS (kx8_hail l D ad sa cc tt X (xs (6 * n + 1)) ((INV_eR hI).1.1)) (cwV 1 hC.1.2.2.2.2.1 gL_law_X8_hail rfl rfl rfl (by decide +kernel) ⟨Nat.le_of_ble_eq_true rfl, Nat.le_of_ble_eq_true rfl⟩) rfl hl.1 rfl (Nat.le_of_ble_eq_true rfl) dL_law_715 hf (fun H locs w G hS => ?_)
  refine lv_aload_n hx hb dL_law_718 rfl (lv_at hl 1 rfl) ?_
  refine lr_arg hC hS hl 1 (by decide) (by omega) dL_law_719 dL_law_720 dL_law_721 dL_law_722 dL_law_723 ?_
  refine lr_M (rM := mF_hail M (xs (6 * n + 1))) hC G hS (k_hail l D cc.1 a M (xs (6 * n + 1)) ((INV_R hI).1)) (cwV 1 hC.1.2.2.2.2.1 gL_law_X9_hail rfl rfl rfl (by decide +kernel) ⟨Nat.le_of_ble_eq_true rfl, Nat.le_of_ble_eq_true rfl⟩) rfl hl.1 rfl (Nat.le_of_ble_eq_true rfl) dL_law_724 hf (fun H locs S G hS => ?_)
  exact lr_cmp hC ih (Nat.le_succ n) (hail_e hI (xs (6 * n + 1))) (by omega) G hS hl (by omega) (by omega) dL_law_727 (by decide)
set_option maxRecDepth 100000 in
theorem lc_then {p : Program} {l : Launch} {e : Env} {s : State} {m : MethodId} {args : Array Value} {below : List Frame} {meth : Method} {c : Code} {H : Heap} {locs : List Loc} {Q : State → Prop} {D : va_G} {ad sa : Nat → Nat} {cc : cT} {a : Nat → Nat} {tt : tT} {A : Nat → Prop} {X : xS} {M : mS} {ls : Array Slot} {b L n : Nat} {xs : Nat → Int32} (hC : LXt D sa cc A p s m c args b L xs) (hn : 6 * n + 6 ≤ L) (ih : LKt p l e s m args below meth c Q D ad sa cc a A b (n + 1)) (hs : LSt D ad sa cc a A s b n tt X M H locs ls) : W p l e room_1 s m args below meth c H locs (76 + 3 * n) (2571 + 102 * n) Q (F0 m 732 ls []) := by
  have hL := hC.2.2.2.2.2.1
  have hx := hC.1.1
  have hb := hC.1.2.1
  have hf : 76 + 3 * n ≤ 600000 ∧ 2571 + 102 * n ≤ 7302250 := by omega
  obtain ⟨hI, ht, ⟨w, S, G⟩, hS, hl⟩ := hs
  refine lv_aload_n hx hb dL_law_732 rfl (lv_at hl 2 rfl) ?_
  refine lr_arg hC hS hl 1 (by decide) (by omega) dL_law_733 dL_law_734 dL_law_735 dL_law_736 dL_law_737 ?_
  refine lr_arg hC hS hl 2 (by decide) (by omega) dL_law_738 dL_law_739 dL_law_740 dL_law_741 dL_law_742 ?_
  refine lr_X (rX := x8_then tt X (xs (6 * n + 1)) (xs (6 * n + 2))) hC G hS (kx8_then l D ad sa cc tt X (xs (6 * n + 1)) (xs (6 * n + 2)) ((INV_eR hI).1) ((INV_eR hI).2.1)) (cwV 2 hC.1.2.2.2.2.1 gL_law_X8_then rfl rfl rfl (by decide +kernel) ⟨Nat.le_of_ble_eq_true rfl, Nat.le_of_ble_eq_true rfl⟩) rfl hl.1 rfl (Nat.le_of_ble_eq_true rfl) dL_law_743 hf (fun H locs w G hS => ?_)
  refine lv_aload_n hx hb dL_law_746 rfl (lv_at hl 1 rfl) ?_
  refine lr_arg hC hS hl 1 (by decide) (by omega) dL_law_747 dL_law_748 dL_law_749 dL_law_750 dL_law_751 ?_
  refine lr_arg hC hS hl 2 (by decide) (by omega) dL_law_752 dL_law_753 dL_law_754 dL_law_755 dL_law_756 ?_
  refine lr_M (rM := mF_then M (xs (6 * n + 1)) (xs (6 * n + 2))) hC G hS (k_then l D cc.1 a M (xs (6 * n + 1)) (xs (6 * n + 2)) (INV_R hI)) (cwV 2 hC.1.2.2.2.2.1 gL_law_X9_then rfl rfl rfl (by decide +kernel) ⟨Nat.le_of_ble_eq_true rfl, Nat.le_of_ble_eq_true rfl⟩) rfl hl.1 rfl (Nat.le_of_ble_eq_true rfl) dL_law_757 hf (fun H locs S G hS => ?_)
  exact lr_cmp hC ih (Nat.le_succ n) (then_e hI (xs (6 * n + 1)) (xs (6 * n + 2))) (by omega) G hS hl (by omega) (by omega) dL_law_760 (by decide)
set_option maxRecDepth 100000 in
theorem lc_full {p : Program} {l : Launch} {e : Env} {s : State} {m : MethodId} {args : Array Value} {below : List Frame} {meth : Method} {c : Code} {H : Heap} {locs : List Loc} {Q : State → Prop} {D : va_G} {ad sa : Nat → Nat} {cc : cT} {a : Nat → Nat} {tt : tT} {A : Nat → Prop} {X : xS} {M : mS} {ls : Array Slot} {b L n : Nat} {xs : Nat → Int32} (hC : LXt D sa cc A p s m c args b L xs) (hn : 6 * n + 6 ≤ L) (ih : LKt p l e s m args below meth c Q D ad sa cc a A b (n + 1)) (hs : LSt D ad sa cc a A s b n tt X M H locs ls) : W p l e room_1 s m args below meth c H locs (76 + 3 * n) (2571 + 102 * n) Q (F0 m 765 ls []) := by
  have hL := hC.2.2.2.2.2.1
  have hx := hC.1.1
  have hb := hC.1.2.1
  have hf : 76 + 3 * n ≤ 600000 ∧ 2571 + 102 * n ≤ 7302250 := by omega
  obtain ⟨hI, ht, ⟨w, S, G⟩, hS, hl⟩ := hs
  refine lv_aload_n hx hb dL_law_765 rfl (lv_at hl 2 rfl) ?_
  refine lr_arg hC hS hl 1 (by decide) (by omega) dL_law_766 dL_law_767 dL_law_768 dL_law_769 dL_law_770 ?_
  refine lr_X (rX := x8_full tt X (xs (6 * n + 1))) hC G hS (kx8_full l D ad sa cc tt X (xs (6 * n + 1)) ((INV_eR hI).1) ((INV_eR hI).2.1)) (cwV 1 hC.1.2.2.2.2.1 gL_law_X8_full rfl rfl rfl (by decide +kernel) ⟨Nat.le_of_ble_eq_true rfl, Nat.le_of_ble_eq_true rfl⟩) rfl hl.1 rfl (Nat.le_of_ble_eq_true rfl) dL_law_771 hf (fun H locs w G hS => ?_)
  refine lv_aload_n hx hb dL_law_774 rfl (lv_at hl 1 rfl) ?_
  refine lr_arg hC hS hl 1 (by decide) (by omega) dL_law_775 dL_law_776 dL_law_777 dL_law_778 dL_law_779 ?_
  refine lr_M (rM := mF_full M (xs (6 * n + 1))) hC G hS (k_full l D cc.1 a M (xs (6 * n + 1)) (INV_R hI)) (cwV 1 hC.1.2.2.2.2.1 gL_law_X9_full rfl rfl rfl (by decide +kernel) ⟨Nat.le_of_ble_eq_true rfl, Nat.le_of_ble_eq_true rfl⟩) rfl hl.1 rfl (Nat.le_of_ble_eq_true rfl) dL_law_780 hf (fun H locs S G hS => ?_)
  exact lr_cmp hC ih (Nat.le_succ n) (full_e hI (xs (6 * n + 1))) (by omega) G hS hl (by omega) (by omega) dL_law_783 (by decide)
set_option maxRecDepth 100000 in
theorem lc_leads {p : Program} {l : Launch} {e : Env} {s : State} {m : MethodId} {args : Array Value} {below : List Frame} {meth : Method} {c : Code} {H : Heap} {locs : List Loc} {Q : State → Prop} {D : va_G} {ad sa : Nat → Nat} {cc : cT} {a : Nat → Nat} {tt : tT} {A : Nat → Prop} {X : xS} {M : mS} {ls : Array Slot} {b L n : Nat} {xs : Nat → Int32} (hC : LXt D sa cc A p s m c args b L xs) (hn : 6 * n + 6 ≤ L) (ih : LKt p l e s m args below meth c Q D ad sa cc a A b (n + 1)) (hs : LSt D ad sa cc a A s b n tt X M H locs ls) : W p l e room_1 s m args below meth c H locs (76 + 3 * n) (2571 + 102 * n) Q (F0 m 788 ls []) := by
  have hL := hC.2.2.2.2.2.1
  have hx := hC.1.1
  have hb := hC.1.2.1
  have hf : 76 + 3 * n ≤ 600000 ∧ 2571 + 102 * n ≤ 7302250 := by omega
  obtain ⟨hI, ht, ⟨w, S, G⟩, hS, hl⟩ := hs
  refine lv_aload_n hx hb dL_law_788 rfl (lv_at hl 2 rfl) ?_
  refine lr_arg hC hS hl 1 (by decide) (by omega) dL_law_789 dL_law_790 dL_law_791 dL_law_792 dL_law_793 ?_
  refine lr_arg hC hS hl 2 (by decide) (by omega) dL_law_794 dL_law_795 dL_law_796 dL_law_797 dL_law_798 ?_
  refine lr_arg hC hS hl 3 (by decide) (by omega) dL_law_799 dL_law_800 dL_law_801 dL_law_802 dL_law_803 ?_
  refine lr_arg hC hS hl 4 (by decide) (by omega) dL_law_804 dL_law_805 dL_law_806 dL_law_807 dL_law_808 ?_
  refine lr_X (rX := x8_leads tt X (xs (6 * n + 1)) (xs (6 * n + 2)) (xs (6 * n + 3)) (xs (6 * n + 4))) hC G hS (kx8_leads l D ad sa cc tt X (xs (6 * n + 1)) (xs (6 * n + 2)) (xs (6 * n + 3)) (xs (6 * n + 4)) ((INV_eR hI).1) (hI.2.2.2.2.2.2.1)) (cwV 4 hC.1.2.2.2.2.1 gL_law_X8_leads rfl rfl rfl (by decide +kernel) ⟨Nat.le_of_ble_eq_true rfl, Nat.le_of_ble_eq_true rfl⟩) rfl hl.1 rfl (Nat.le_of_ble_eq_true rfl) dL_law_809 hf (fun H locs w G hS => ?_)
  refine lv_aload_n hx hb dL_law_812 rfl (lv_at hl 1 rfl) ?_
  refine lr_arg hC hS hl 1 (by decide) (by omega) dL_law_813 dL_law_814 dL_law_815 dL_law_816 dL_law_817 ?_
  refine lr_arg hC hS hl 2 (by decide) (by omega) dL_law_818 dL_law_819 dL_law_820 dL_law_821 dL_law_822 ?_
  refine lr_arg hC hS hl 3 (by decide) (by omega) dL_law_823 dL_law_824 dL_law_825 dL_law_826 dL_law_827 ?_
  refine lr_arg hC hS hl 4 (by decide) (by omega) dL_law_828 dL_law_829 dL_law_830 dL_law_831 dL_law_832 ?_
  refine lr_M (rM := mF_leads M (xs (6 * n + 1)) (xs (6 * n + 2)) (xs (6 * n + 3)) (xs (6 * n + 4))) hC G hS (k_leads l D cc.1 a M (xs (6 * n + 1)) (xs (6 * n + 2)) (xs (6 * n + 3)) (xs (6 * n + 4)) (INV_R hI)) (cwV 4 hC.1.2.2.2.2.1 gL_law_X9_leads rfl rfl rfl (by decide +kernel) ⟨Nat.le_of_ble_eq_true rfl, Nat.le_of_ble_eq_true rfl⟩) rfl hl.1 rfl (Nat.le_of_ble_eq_true rfl) dL_law_833 hf (fun H locs S G hS => ?_)
  exact lr_cmp hC ih (Nat.le_succ n) (leads_e hI (xs (6 * n + 1)) (xs (6 * n + 2)) (xs (6 * n + 3)) (xs (6 * n + 4))) (by omega) G hS hl (by omega) (by omega) dL_law_836 (by decide)
set_option maxRecDepth 100000 in
theorem lc_sums {p : Program} {l : Launch} {e : Env} {s : State} {m : MethodId} {args : Array Value} {below : List Frame} {meth : Method} {c : Code} {H : Heap} {locs : List Loc} {Q : State → Prop} {D : va_G} {ad sa : Nat → Nat} {cc : cT} {a : Nat → Nat} {tt : tT} {A : Nat → Prop} {X : xS} {M : mS} {ls : Array Slot} {b L n : Nat} {xs : Nat → Int32} (hC : LXt D sa cc A p s m c args b L xs) (hn : 6 * n + 6 ≤ L) (ih : LKt p l e s m args below meth c Q D ad sa cc a A b (n + 1)) (hs : LSt D ad sa cc a A s b n tt X M H locs ls) : W p l e room_1 s m args below meth c H locs (76 + 3 * n) (2571 + 102 * n) Q (F0 m 841 ls []) := by
  have hL := hC.2.2.2.2.2.1
  have hx := hC.1.1
  have hb := hC.1.2.1
  have hf : 76 + 3 * n ≤ 600000 ∧ 2571 + 102 * n ≤ 7302250 := by omega
  obtain ⟨hI, ht, ⟨w, S, G⟩, hS, hl⟩ := hs
  refine lv_aload_n hx hb dL_law_841 rfl (lv_at hl 2 rfl) ?_
  refine lr_arg hC hS hl 1 (by decide) (by omega) dL_law_842 dL_law_843 dL_law_844 dL_law_845 dL_law_846 ?_
  refine lr_arg hC hS hl 2 (by decide) (by omega) dL_law_847 dL_law_848 dL_law_849 dL_law_850 dL_law_851 ?_
  refine lr_X (rX := x8_sums X (xs (6 * n + 1)) (xs (6 * n + 2))) hC G hS (kx8_sums l D ad sa cc tt X (xs (6 * n + 1)) (xs (6 * n + 2)) ((INV_eR hI).1.1)) (cwV 2 hC.1.2.2.2.2.1 gL_law_X8_sums rfl rfl rfl (by decide +kernel) ⟨Nat.le_of_ble_eq_true rfl, Nat.le_of_ble_eq_true rfl⟩) rfl hl.1 rfl (Nat.le_of_ble_eq_true rfl) dL_law_852 hf (fun H locs w G hS => ?_)
  refine lv_aload_n hx hb dL_law_855 rfl (lv_at hl 1 rfl) ?_
  refine lr_arg hC hS hl 1 (by decide) (by omega) dL_law_856 dL_law_857 dL_law_858 dL_law_859 dL_law_860 ?_
  refine lr_arg hC hS hl 2 (by decide) (by omega) dL_law_861 dL_law_862 dL_law_863 dL_law_864 dL_law_865 ?_
  refine lr_M (rM := mF_sums M (xs (6 * n + 1)) (xs (6 * n + 2))) hC G hS (k_sums l D cc.1 a M (xs (6 * n + 1)) (xs (6 * n + 2)) ((INV_R hI).1)) (cwV 2 hC.1.2.2.2.2.1 gL_law_X9_sums rfl rfl rfl (by decide +kernel) ⟨Nat.le_of_ble_eq_true rfl, Nat.le_of_ble_eq_true rfl⟩) rfl hl.1 rfl (Nat.le_of_ble_eq_true rfl) dL_law_866 hf (fun H locs S G hS => ?_)
  exact lr_cmp hC ih (Nat.le_succ n) (sums_e hI (xs (6 * n + 1)) (xs (6 * n + 2))) (by omega) G hS hl (by omega) (by omega) dL_law_869 (by decide)
