/-! the law's calls: looked, watch, hide, gains, odds, seed, voice, trace, sheet, put -/
set_option maxRecDepth 100000 in
theorem lc_looked {p : Program} {l : Launch} {e : Env} {s : State} {m : MethodId} {args : Array Value} {below : List Frame} {meth : Method} {c : Code} {H : Heap} {locs : List Loc} {Q : State → Prop} {D : va_G} {ad sa : Nat → Nat} {cc : cT} {a : Nat → Nat} {tt : tT} {A : Nat → Prop} {X : xS} {M : mS} {ls : Array Slot} {b L n : Nat} {xs : Nat → Int32} (hC : LXt D sa cc A p s m c args b L xs) (hn : 6 * n + 6 ≤ L) (ih : LKt p l e s m args below meth c Q D ad sa cc a A b (n + 1)) (hs : LSt D ad sa cc a A s b n tt X M H locs ls) : W p l e room_1 s m args below meth c H locs (76 + 3 * n) (2571 + 102 * n) Q (F0 m 874 ls []) := by
  have hL := hC.2.2.2.2.2.1
  have hx := hC.1.1
  have hb := hC.1.2.1
  have hf : 76 + 3 * n ≤ 600000 ∧ 2571 + 102 * n ≤ 7302250 := by omega
  obtain ⟨hI, ht, ⟨w, S, G⟩, hS, hl⟩ := hs
  refine lv_aload_n hx hb dL_law_874 rfl (lv_at hl 2 rfl) ?_
  refine lr_arg hC hS hl 1 (by decide) (by omega) dL_law_875 dL_law_876 dL_law_877 dL_law_878 dL_law_879 ?_
  refine lr_arg hC hS hl 2 (by decide) (by omega) dL_law_880 dL_law_881 dL_law_882 dL_law_883 dL_law_884 ?_
  refine lr_X (rX := x8_looked tt X (xs (6 * n + 1)) (xs (6 * n + 2))) hC G hS (kx8_looked l D ad sa cc tt X (xs (6 * n + 1)) (xs (6 * n + 2)) ((INV_eR hI).1) ((INV_sh hI).1)) (cwV 2 hC.1.2.2.2.2.1 gL_law_X8_looked rfl rfl rfl (by decide +kernel) ⟨Nat.le_of_ble_eq_true rfl, Nat.le_of_ble_eq_true rfl⟩) rfl hl.1 rfl (Nat.le_of_ble_eq_true rfl) dL_law_885 hf (fun H locs w G hS => ?_)
  refine lv_aload_n hx hb dL_law_888 rfl (lv_at hl 1 rfl) ?_
  refine lr_arg hC hS hl 1 (by decide) (by omega) dL_law_889 dL_law_890 dL_law_891 dL_law_892 dL_law_893 ?_
  refine lr_arg hC hS hl 2 (by decide) (by omega) dL_law_894 dL_law_895 dL_law_896 dL_law_897 dL_law_898 ?_
  refine lr_M (rM := mF_looked M (xs (6 * n + 1)) (xs (6 * n + 2))) hC G hS (k_looked l D cc.1 a M (xs (6 * n + 1)) (xs (6 * n + 2)) (INV_R hI) ((INV_sh hI).2)) (cwV 2 hC.1.2.2.2.2.1 gL_law_X9_looked rfl rfl rfl (by decide +kernel) ⟨Nat.le_of_ble_eq_true rfl, Nat.le_of_ble_eq_true rfl⟩) rfl hl.1 rfl (Nat.le_of_ble_eq_true rfl) dL_law_899 hf (fun H locs S G hS => ?_)
  exact lr_cmp hC ih (Nat.le_succ n) (looked_e hI (xs (6 * n + 1)) (xs (6 * n + 2))) (by omega) G hS hl (by omega) (by omega) dL_law_902 (by decide)
set_option maxRecDepth 100000 in
theorem lc_watch {p : Program} {l : Launch} {e : Env} {s : State} {m : MethodId} {args : Array Value} {below : List Frame} {meth : Method} {c : Code} {H : Heap} {locs : List Loc} {Q : State → Prop} {D : va_G} {ad sa : Nat → Nat} {cc : cT} {a : Nat → Nat} {tt : tT} {A : Nat → Prop} {X : xS} {M : mS} {ls : Array Slot} {b L n : Nat} {xs : Nat → Int32} (hC : LXt D sa cc A p s m c args b L xs) (hn : 6 * n + 6 ≤ L) (ih : LKt p l e s m args below meth c Q D ad sa cc a A b (n + 1)) (hs : LSt D ad sa cc a A s b n tt X M H locs ls) : W p l e room_1 s m args below meth c H locs (76 + 3 * n) (2571 + 102 * n) Q (F0 m 907 ls []) := by
  have hL := hC.2.2.2.2.2.1
  have hx := hC.1.1
  have hb := hC.1.2.1
  have hf : 76 + 3 * n ≤ 600000 ∧ 2571 + 102 * n ≤ 7302250 := by omega
  obtain ⟨hI, ht, ⟨w, S, G⟩, hS, hl⟩ := hs
  refine lv_aload_n hx hb dL_law_907 rfl (lv_at hl 2 rfl) ?_
  refine lr_X (rX := x8_watch tt X ) hC G hS (kx8_watch l D ad sa cc tt X  ((INV_eR hI).1)) (cwV 0 hC.1.2.2.2.2.1 gL_law_X8_watch rfl rfl rfl (by decide +kernel) ⟨Nat.le_of_ble_eq_true rfl, Nat.le_of_ble_eq_true rfl⟩) rfl hl.1 rfl (Nat.le_of_ble_eq_true rfl) dL_law_908 hf (fun H locs w G hS => ?_)
  refine lv_aload_n hx hb dL_law_911 rfl (lv_at hl 1 rfl) ?_
  refine lr_M (rM := mF_watch M ) hC G hS (k_watch l D cc.1 a M  (INV_R hI)) (cwV 0 hC.1.2.2.2.2.1 gL_law_X9_watch rfl rfl rfl (by decide +kernel) ⟨Nat.le_of_ble_eq_true rfl, Nat.le_of_ble_eq_true rfl⟩) rfl hl.1 rfl (Nat.le_of_ble_eq_true rfl) dL_law_912 hf (fun H locs S G hS => ?_)
  exact lr_cmp hC ih (Nat.le_succ n) (watch_e hI ) (by omega) G hS hl (by omega) (by omega) dL_law_915 (by decide)
set_option maxRecDepth 100000 in
theorem lc_hide {p : Program} {l : Launch} {e : Env} {s : State} {m : MethodId} {args : Array Value} {below : List Frame} {meth : Method} {c : Code} {H : Heap} {locs : List Loc} {Q : State → Prop} {D : va_G} {ad sa : Nat → Nat} {cc : cT} {a : Nat → Nat} {tt : tT} {A : Nat → Prop} {X : xS} {M : mS} {ls : Array Slot} {b L n : Nat} {xs : Nat → Int32} (hC : LXt D sa cc A p s m c args b L xs) (hn : 6 * n + 6 ≤ L) (ih : LKt p l e s m args below meth c Q D ad sa cc a A b (n + 1)) (hs : LSt D ad sa cc a A s b n tt X M H locs ls) : W p l e room_1 s m args below meth c H locs (76 + 3 * n) (2571 + 102 * n) Q (F0 m 920 ls []) := by
  have hL := hC.2.2.2.2.2.1
  have hx := hC.1.1
  have hb := hC.1.2.1
  have hf : 76 + 3 * n ≤ 600000 ∧ 2571 + 102 * n ≤ 7302250 := by omega
  obtain ⟨hI, ht, ⟨w, S, G⟩, hS, hl⟩ := hs
  refine lv_aload_n hx hb dL_law_920 rfl (lv_at hl 2 rfl) ?_
  refine lr_arg hC hS hl 1 (by decide) (by omega) dL_law_921 dL_law_922 dL_law_923 dL_law_924 dL_law_925 ?_
  refine lr_X (rX := x8_hide tt X (xs (6 * n + 1))) hC G hS (kx8_hide l D ad sa cc tt X (xs (6 * n + 1)) ((INV_eR hI).1)) (cwV 1 hC.1.2.2.2.2.1 gL_law_X8_hide rfl rfl rfl (by decide +kernel) ⟨Nat.le_of_ble_eq_true rfl, Nat.le_of_ble_eq_true rfl⟩) rfl hl.1 rfl (Nat.le_of_ble_eq_true rfl) dL_law_926 hf (fun H locs w G hS => ?_)
  refine lv_aload_n hx hb dL_law_929 rfl (lv_at hl 1 rfl) ?_
  refine lr_arg hC hS hl 1 (by decide) (by omega) dL_law_930 dL_law_931 dL_law_932 dL_law_933 dL_law_934 ?_
  refine lr_M (rM := mF_hide M (xs (6 * n + 1))) hC G hS (k_hide l D cc.1 a M (xs (6 * n + 1)) (INV_R hI)) (cwV 1 hC.1.2.2.2.2.1 gL_law_X9_hide rfl rfl rfl (by decide +kernel) ⟨Nat.le_of_ble_eq_true rfl, Nat.le_of_ble_eq_true rfl⟩) rfl hl.1 rfl (Nat.le_of_ble_eq_true rfl) dL_law_935 hf (fun H locs S G hS => ?_)
  exact lr_cmp hC ih (Nat.le_succ n) (hide_e hI (xs (6 * n + 1))) (by omega) G hS hl (by omega) (by omega) dL_law_938 (by decide)
set_option maxRecDepth 100000 in
theorem lc_gains {p : Program} {l : Launch} {e : Env} {s : State} {m : MethodId} {args : Array Value} {below : List Frame} {meth : Method} {c : Code} {H : Heap} {locs : List Loc} {Q : State → Prop} {D : va_G} {ad sa : Nat → Nat} {cc : cT} {a : Nat → Nat} {tt : tT} {A : Nat → Prop} {X : xS} {M : mS} {ls : Array Slot} {b L n : Nat} {xs : Nat → Int32} (hC : LXt D sa cc A p s m c args b L xs) (hn : 6 * n + 6 ≤ L) (ih : LKt p l e s m args below meth c Q D ad sa cc a A b (n + 1)) (hs : LSt D ad sa cc a A s b n tt X M H locs ls) : W p l e room_1 s m args below meth c H locs (76 + 3 * n) (2571 + 102 * n) Q (F0 m 943 ls []) := by
  have hL := hC.2.2.2.2.2.1
  have hx := hC.1.1
  have hb := hC.1.2.1
  have hf : 76 + 3 * n ≤ 600000 ∧ 2571 + 102 * n ≤ 7302250 := by omega
  obtain ⟨hI, ht, ⟨w, S, G⟩, hS, hl⟩ := hs
  refine lv_aload_n hx hb dL_law_943 rfl (lv_at hl 2 rfl) ?_
  refine lr_arg hC hS hl 1 (by decide) (by omega) dL_law_944 dL_law_945 dL_law_946 dL_law_947 dL_law_948 ?_
  refine lr_arg hC hS hl 2 (by decide) (by omega) dL_law_949 dL_law_950 dL_law_951 dL_law_952 dL_law_953 ?_
  refine lr_X (rX := x8_gains tt X (xs (6 * n + 1)) (xs (6 * n + 2))) hC G hS (kx8_gains l D ad sa cc tt X (xs (6 * n + 1)) (xs (6 * n + 2)) ((INV_eR hI).1) ((INV_eR hI).2.1)) (cwV 2 hC.1.2.2.2.2.1 gL_law_X8_gains rfl rfl rfl (by decide +kernel) ⟨Nat.le_of_ble_eq_true rfl, Nat.le_of_ble_eq_true rfl⟩) rfl hl.1 rfl (Nat.le_of_ble_eq_true rfl) dL_law_954 hf (fun H locs w G hS => ?_)
  refine lv_aload_n hx hb dL_law_957 rfl (lv_at hl 1 rfl) ?_
  refine lr_arg hC hS hl 1 (by decide) (by omega) dL_law_958 dL_law_959 dL_law_960 dL_law_961 dL_law_962 ?_
  refine lr_arg hC hS hl 2 (by decide) (by omega) dL_law_963 dL_law_964 dL_law_965 dL_law_966 dL_law_967 ?_
  refine lr_M (rM := mF_gains M (xs (6 * n + 1)) (xs (6 * n + 2))) hC G hS (k_gains l D cc.1 a M (xs (6 * n + 1)) (xs (6 * n + 2)) (INV_R hI)) (cwV 2 hC.1.2.2.2.2.1 gL_law_X9_gains rfl rfl rfl (by decide +kernel) ⟨Nat.le_of_ble_eq_true rfl, Nat.le_of_ble_eq_true rfl⟩) rfl hl.1 rfl (Nat.le_of_ble_eq_true rfl) dL_law_968 hf (fun H locs S G hS => ?_)
  exact lr_cmp hC ih (Nat.le_succ n) (gains_e hI (xs (6 * n + 1)) (xs (6 * n + 2))) (by omega) G hS hl (by omega) (by omega) dL_law_971 (by decide)
set_option maxRecDepth 100000 in
theorem lc_odds {p : Program} {l : Launch} {e : Env} {s : State} {m : MethodId} {args : Array Value} {below : List Frame} {meth : Method} {c : Code} {H : Heap} {locs : List Loc} {Q : State → Prop} {D : va_G} {ad sa : Nat → Nat} {cc : cT} {a : Nat → Nat} {tt : tT} {A : Nat → Prop} {X : xS} {M : mS} {ls : Array Slot} {b L n : Nat} {xs : Nat → Int32} (hC : LXt D sa cc A p s m c args b L xs) (hn : 6 * n + 6 ≤ L) (ih : LKt p l e s m args below meth c Q D ad sa cc a A b (n + 1)) (hs : LSt D ad sa cc a A s b n tt X M H locs ls) : W p l e room_1 s m args below meth c H locs (76 + 3 * n) (2571 + 102 * n) Q (F0 m 976 ls []) := by
  have hL := hC.2.2.2.2.2.1
  have hx := hC.1.1
  have hb := hC.1.2.1
  have hf : 76 + 3 * n ≤ 600000 ∧ 2571 + 102 * n ≤ 7302250 := by omega
  obtain ⟨hI, ht, ⟨w, S, G⟩, hS, hl⟩ := hs
  refine lv_aload_n hx hb dL_law_976 rfl (lv_at hl 2 rfl) ?_
  refine lr_arg hC hS hl 1 (by decide) (by omega) dL_law_977 dL_law_978 dL_law_979 dL_law_980 dL_law_981 ?_
  refine lr_arg hC hS hl 2 (by decide) (by omega) dL_law_982 dL_law_983 dL_law_984 dL_law_985 dL_law_986 ?_
  refine lr_X (rX := x8_odds tt X (xs (6 * n + 1)) (xs (6 * n + 2))) hC G hS (kx8_odds l D ad sa cc tt X (xs (6 * n + 1)) (xs (6 * n + 2)) ((INV_eR hI).1)) (cwV 2 hC.1.2.2.2.2.1 gL_law_X8_odds rfl rfl rfl (by decide +kernel) ⟨Nat.le_of_ble_eq_true rfl, Nat.le_of_ble_eq_true rfl⟩) rfl hl.1 rfl (Nat.le_of_ble_eq_true rfl) dL_law_987 hf (fun H locs w G hS => ?_)
  refine lv_aload_n hx hb dL_law_990 rfl (lv_at hl 1 rfl) ?_
  refine lr_arg hC hS hl 1 (by decide) (by omega) dL_law_991 dL_law_992 dL_law_993 dL_law_994 dL_law_995 ?_
  refine lr_arg hC hS hl 2 (by decide) (by omega) dL_law_996 dL_law_997 dL_law_998 dL_law_999 dL_law_1000 ?_
  refine lr_M (rM := mF_odds M (xs (6 * n + 1)) (xs (6 * n + 2))) hC G hS (k_odds l D cc.1 a M (xs (6 * n + 1)) (xs (6 * n + 2)) (INV_R hI)) (cwV 2 hC.1.2.2.2.2.1 gL_law_X9_odds rfl rfl rfl (by decide +kernel) ⟨Nat.le_of_ble_eq_true rfl, Nat.le_of_ble_eq_true rfl⟩) rfl hl.1 rfl (Nat.le_of_ble_eq_true rfl) dL_law_1001 hf (fun H locs S G hS => ?_)
  exact lr_cmp hC ih (Nat.le_succ n) (odds_e hI (xs (6 * n + 1)) (xs (6 * n + 2))) (by omega) G hS hl (by omega) (by omega) dL_law_1004 (by decide)
set_option maxRecDepth 100000 in
theorem lc_seed {p : Program} {l : Launch} {e : Env} {s : State} {m : MethodId} {args : Array Value} {below : List Frame} {meth : Method} {c : Code} {H : Heap} {locs : List Loc} {Q : State → Prop} {D : va_G} {ad sa : Nat → Nat} {cc : cT} {a : Nat → Nat} {tt : tT} {A : Nat → Prop} {X : xS} {M : mS} {ls : Array Slot} {b L n : Nat} {xs : Nat → Int32} (hC : LXt D sa cc A p s m c args b L xs) (hn : 6 * n + 6 ≤ L) (ih : LKt p l e s m args below meth c Q D ad sa cc a A b (n + 1)) (hs : LSt D ad sa cc a A s b n tt X M H locs ls) : W p l e room_1 s m args below meth c H locs (76 + 3 * n) (2571 + 102 * n) Q (F0 m 1009 ls []) := by
  have hL := hC.2.2.2.2.2.1
  have hx := hC.1.1
  have hb := hC.1.2.1
  have hf : 76 + 3 * n ≤ 600000 ∧ 2571 + 102 * n ≤ 7302250 := by omega
  obtain ⟨hI, ht, ⟨w, S, G⟩, hS, hl⟩ := hs
  refine lv_aload_n hx hb dL_law_1009 rfl (lv_at hl 2 rfl) ?_
  refine lr_arg hC hS hl 1 (by decide) (by omega) dL_law_1010 dL_law_1011 dL_law_1012 dL_law_1013 dL_law_1014 ?_
  refine lr_X (rX := x8_seed X (xs (6 * n + 1))) hC G hS (kx8_seed l D ad sa cc tt X (xs (6 * n + 1)) ) (cwV 1 hC.1.2.2.2.2.1 gL_law_X8_seed rfl rfl rfl (by decide +kernel) ⟨Nat.le_of_ble_eq_true rfl, Nat.le_of_ble_eq_true rfl⟩) rfl hl.1 rfl (Nat.le_of_ble_eq_true rfl) dL_law_1015 hf (fun H locs w G hS => ?_)
  refine lv_aload_n hx hb dL_law_1018 rfl (lv_at hl 1 rfl) ?_
  refine lr_arg hC hS hl 1 (by decide) (by omega) dL_law_1019 dL_law_1020 dL_law_1021 dL_law_1022 dL_law_1023 ?_
  refine lr_M (rM := mF_seed M (xs (6 * n + 1))) hC G hS (k_seed l D cc.1 a M (xs (6 * n + 1)) ) (cwV 1 hC.1.2.2.2.2.1 gL_law_X9_seed rfl rfl rfl (by decide +kernel) ⟨Nat.le_of_ble_eq_true rfl, Nat.le_of_ble_eq_true rfl⟩) rfl hl.1 rfl (Nat.le_of_ble_eq_true rfl) dL_law_1024 hf (fun H locs S G hS => ?_)
  exact lr_cmp hC ih (Nat.le_succ n) (seed_e hI (xs (6 * n + 1))) (by omega) G hS hl (by omega) (by omega) dL_law_1027 (by decide)
set_option maxRecDepth 100000 in
theorem lc_voice {p : Program} {l : Launch} {e : Env} {s : State} {m : MethodId} {args : Array Value} {below : List Frame} {meth : Method} {c : Code} {H : Heap} {locs : List Loc} {Q : State → Prop} {D : va_G} {ad sa : Nat → Nat} {cc : cT} {a : Nat → Nat} {tt : tT} {A : Nat → Prop} {X : xS} {M : mS} {ls : Array Slot} {b L n : Nat} {xs : Nat → Int32} (hC : LXt D sa cc A p s m c args b L xs) (hn : 6 * n + 6 ≤ L) (ih : LKt p l e s m args below meth c Q D ad sa cc a A b (n + 1)) (hs : LSt D ad sa cc a A s b n tt X M H locs ls) : W p l e room_1 s m args below meth c H locs (76 + 3 * n) (2571 + 102 * n) Q (F0 m 1032 ls []) := by
  have hL := hC.2.2.2.2.2.1
  have hx := hC.1.1
  have hb := hC.1.2.1
  have hf : 76 + 3 * n ≤ 600000 ∧ 2571 + 102 * n ≤ 7302250 := by omega
  obtain ⟨hI, ht, ⟨w, S, G⟩, hS, hl⟩ := hs
  refine lv_aload_n hx hb dL_law_1032 rfl (lv_at hl 2 rfl) ?_
  refine lr_arg hC hS hl 1 (by decide) (by omega) dL_law_1033 dL_law_1034 dL_law_1035 dL_law_1036 dL_law_1037 ?_
  refine lr_arg hC hS hl 2 (by decide) (by omega) dL_law_1038 dL_law_1039 dL_law_1040 dL_law_1041 dL_law_1042 ?_
  refine lr_arg hC hS hl 3 (by decide) (by omega) dL_law_1043 dL_law_1044 dL_law_1045 dL_law_1046 dL_law_1047 ?_
  refine lr_X (rX := x8_voice X (xs (6 * n + 1)) (xs (6 * n + 2)) (xs (6 * n + 3))) hC G hS (kx8_voice l D ad sa cc tt X (xs (6 * n + 1)) (xs (6 * n + 2)) (xs (6 * n + 3)) ((INV_eR hI).1.2.1) ((INV_v hI).1)) (cwV 3 hC.1.2.2.2.2.1 gL_law_X8_voice rfl rfl rfl (by decide +kernel) ⟨Nat.le_of_ble_eq_true rfl, Nat.le_of_ble_eq_true rfl⟩) rfl hl.1 rfl (Nat.le_of_ble_eq_true rfl) dL_law_1048 hf (fun H locs w G hS => ?_)
  refine lv_aload_n hx hb dL_law_1051 rfl (lv_at hl 1 rfl) ?_
  refine lr_arg hC hS hl 1 (by decide) (by omega) dL_law_1052 dL_law_1053 dL_law_1054 dL_law_1055 dL_law_1056 ?_
  refine lr_arg hC hS hl 2 (by decide) (by omega) dL_law_1057 dL_law_1058 dL_law_1059 dL_law_1060 dL_law_1061 ?_
  refine lr_arg hC hS hl 3 (by decide) (by omega) dL_law_1062 dL_law_1063 dL_law_1064 dL_law_1065 dL_law_1066 ?_
  refine lr_M (rM := mF_voice M (xs (6 * n + 1)) (xs (6 * n + 2)) (xs (6 * n + 3))) hC G hS (k_voice l D cc.1 a M (xs (6 * n + 1)) (xs (6 * n + 2)) (xs (6 * n + 3)) ((INV_R hI).2.1) ((INV_R hI).2.2.1)) (cwV 3 hC.1.2.2.2.2.1 gL_law_X9_voice rfl rfl rfl (by decide +kernel) ⟨Nat.le_of_ble_eq_true rfl, Nat.le_of_ble_eq_true rfl⟩) rfl hl.1 rfl (Nat.le_of_ble_eq_true rfl) dL_law_1067 hf (fun H locs S G hS => ?_)
  exact lr_cmp hC ih (Nat.le_succ n) (voice_e hI (xs (6 * n + 1)) (xs (6 * n + 2)) (xs (6 * n + 3))) (by omega) G hS hl (by omega) (by omega) dL_law_1070 (by decide)
set_option maxRecDepth 100000 in
theorem lc_trace {p : Program} {l : Launch} {e : Env} {s : State} {m : MethodId} {args : Array Value} {below : List Frame} {meth : Method} {c : Code} {H : Heap} {locs : List Loc} {Q : State → Prop} {D : va_G} {ad sa : Nat → Nat} {cc : cT} {a : Nat → Nat} {tt : tT} {A : Nat → Prop} {X : xS} {M : mS} {ls : Array Slot} {b L n : Nat} {xs : Nat → Int32} (hC : LXt D sa cc A p s m c args b L xs) (hn : 6 * n + 6 ≤ L) (ih : LKt p l e s m args below meth c Q D ad sa cc a A b (n + 1)) (hs : LSt D ad sa cc a A s b n tt X M H locs ls) : W p l e room_1 s m args below meth c H locs (76 + 3 * n) (2571 + 102 * n) Q (F0 m 1075 ls []) := by
  have hL := hC.2.2.2.2.2.1
  have hx := hC.1.1
  have hb := hC.1.2.1
  have hf : 76 + 3 * n ≤ 600000 ∧ 2571 + 102 * n ≤ 7302250 := by omega
  obtain ⟨hI, ht, ⟨w, S, G⟩, hS, hl⟩ := hs
  refine lv_aload_n hx hb dL_law_1075 rfl (lv_at hl 2 rfl) ?_
  refine lr_arg hC hS hl 1 (by decide) (by omega) dL_law_1076 dL_law_1077 dL_law_1078 dL_law_1079 dL_law_1080 ?_
  refine lr_X (rX := x8_trace X (xs (6 * n + 1))) hC G hS (kx8_trace l D ad sa cc tt X (xs (6 * n + 1)) ((INV_v hI).1)) (cwV 1 hC.1.2.2.2.2.1 gL_law_X8_trace rfl rfl rfl (by decide +kernel) ⟨Nat.le_of_ble_eq_true rfl, Nat.le_of_ble_eq_true rfl⟩) rfl hl.1 rfl (Nat.le_of_ble_eq_true rfl) dL_law_1081 hf (fun H locs w G hS => ?_)
  refine lv_aload_n hx hb dL_law_1084 rfl (lv_at hl 1 rfl) ?_
  refine lr_arg hC hS hl 1 (by decide) (by omega) dL_law_1085 dL_law_1086 dL_law_1087 dL_law_1088 dL_law_1089 ?_
  refine lr_M (rM := mF_trace M (xs (6 * n + 1))) hC G hS (k_trace l D cc.1 a M (xs (6 * n + 1)) ((INV_v hI).2)) (cwV 1 hC.1.2.2.2.2.1 gL_law_X9_trace rfl rfl rfl (by decide +kernel) ⟨Nat.le_of_ble_eq_true rfl, Nat.le_of_ble_eq_true rfl⟩) rfl hl.1 rfl (Nat.le_of_ble_eq_true rfl) dL_law_1090 hf (fun H locs S G hS => ?_)
  exact lr_cmp hC ih (Nat.le_succ n) (trace_e hI (xs (6 * n + 1))) (by omega) G hS hl (by omega) (by omega) dL_law_1093 (by decide)
set_option maxRecDepth 100000 in
theorem lc_sheet {p : Program} {l : Launch} {e : Env} {s : State} {m : MethodId} {args : Array Value} {below : List Frame} {meth : Method} {c : Code} {H : Heap} {locs : List Loc} {Q : State → Prop} {D : va_G} {ad sa : Nat → Nat} {cc : cT} {a : Nat → Nat} {tt : tT} {A : Nat → Prop} {X : xS} {M : mS} {ls : Array Slot} {b L n : Nat} {xs : Nat → Int32} (hC : LXt D sa cc A p s m c args b L xs) (hn : 6 * n + 6 ≤ L) (ih : LKt p l e s m args below meth c Q D ad sa cc a A b (n + 1)) (hs : LSt D ad sa cc a A s b n tt X M H locs ls) : W p l e room_1 s m args below meth c H locs (76 + 3 * n) (2571 + 102 * n) Q (F0 m 1098 ls []) := by
  have hL := hC.2.2.2.2.2.1
  have hx := hC.1.1
  have hb := hC.1.2.1
  have hf : 76 + 3 * n ≤ 600000 ∧ 2571 + 102 * n ≤ 7302250 := by omega
  obtain ⟨hI, ht, ⟨w, S, G⟩, hS, hl⟩ := hs
  refine lv_aload_n hx hb dL_law_1098 rfl (lv_at hl 2 rfl) ?_
  refine lr_arg hC hS hl 1 (by decide) (by omega) dL_law_1099 dL_law_1100 dL_law_1101 dL_law_1102 dL_law_1103 ?_
  refine lr_arg hC hS hl 2 (by decide) (by omega) dL_law_1104 dL_law_1105 dL_law_1106 dL_law_1107 dL_law_1108 ?_
  refine lr_arg hC hS hl 3 (by decide) (by omega) dL_law_1109 dL_law_1110 dL_law_1111 dL_law_1112 dL_law_1113 ?_
  refine lr_X (rX := x8_sheet X (xs (6 * n + 1)) (xs (6 * n + 2)) (xs (6 * n + 3))) hC G hS (kx8_sheet l D ad sa cc tt X (xs (6 * n + 1)) (xs (6 * n + 2)) (xs (6 * n + 3)) ) (cwV 3 hC.1.2.2.2.2.1 gL_law_X8_sheet rfl rfl rfl (by decide +kernel) ⟨Nat.le_of_ble_eq_true rfl, Nat.le_of_ble_eq_true rfl⟩) rfl hl.1 rfl (Nat.le_of_ble_eq_true rfl) dL_law_1114 hf (fun H locs w G hS => ?_)
  refine lv_aload_n hx hb dL_law_1117 rfl (lv_at hl 1 rfl) ?_
  refine lr_arg hC hS hl 1 (by decide) (by omega) dL_law_1118 dL_law_1119 dL_law_1120 dL_law_1121 dL_law_1122 ?_
  refine lr_arg hC hS hl 2 (by decide) (by omega) dL_law_1123 dL_law_1124 dL_law_1125 dL_law_1126 dL_law_1127 ?_
  refine lr_arg hC hS hl 3 (by decide) (by omega) dL_law_1128 dL_law_1129 dL_law_1130 dL_law_1131 dL_law_1132 ?_
  refine lr_M (rM := mF_sheet M (xs (6 * n + 1)) (xs (6 * n + 2)) (xs (6 * n + 3))) hC G hS (k_sheet l D cc.1 a M (xs (6 * n + 1)) (xs (6 * n + 2)) (xs (6 * n + 3)) ) (cwV 3 hC.1.2.2.2.2.1 gL_law_X9_sheet rfl rfl rfl (by decide +kernel) ⟨Nat.le_of_ble_eq_true rfl, Nat.le_of_ble_eq_true rfl⟩) rfl hl.1 rfl (Nat.le_of_ble_eq_true rfl) dL_law_1133 hf (fun H locs S G hS => ?_)
  exact lr_cmp hC ih (Nat.le_succ n) (sheet_e hI (xs (6 * n + 1)) (xs (6 * n + 2)) (xs (6 * n + 3))) (by omega) G hS hl (by omega) (by omega) dL_law_1136 (by decide)
set_option maxRecDepth 100000 in
theorem lc_put {p : Program} {l : Launch} {e : Env} {s : State} {m : MethodId} {args : Array Value} {below : List Frame} {meth : Method} {c : Code} {H : Heap} {locs : List Loc} {Q : State → Prop} {D : va_G} {ad sa : Nat → Nat} {cc : cT} {a : Nat → Nat} {tt : tT} {A : Nat → Prop} {X : xS} {M : mS} {ls : Array Slot} {b L n : Nat} {xs : Nat → Int32} (hC : LXt D sa cc A p s m c args b L xs) (hn : 6 * n + 6 ≤ L) (ih : LKt p l e s m args below meth c Q D ad sa cc a A b (n + 1)) (hs : LSt D ad sa cc a A s b n tt X M H locs ls) : W p l e room_1 s m args below meth c H locs (76 + 3 * n) (2571 + 102 * n) Q (F0 m 1141 ls []) := by
  have hL := hC.2.2.2.2.2.1
  have hx := hC.1.1
  have hb := hC.1.2.1
  have hf : 76 + 3 * n ≤ 600000 ∧ 2571 + 102 * n ≤ 7302250 := by omega
  obtain ⟨hI, ht, ⟨w, S, G⟩, hS, hl⟩ := hs
  refine lv_aload_n hx hb dL_law_1141 rfl (lv_at hl 2 rfl) ?_
  refine lr_arg hC hS hl 1 (by decide) (by omega) dL_law_1142 dL_law_1143 dL_law_1144 dL_law_1145 dL_law_1146 ?_
  refine lr_arg hC hS hl 2 (by decide) (by omega) dL_law_1147 dL_law_1148 dL_law_1149 dL_law_1150 dL_law_1151 ?_
  refine lr_arg hC hS hl 3 (by decide) (by omega) dL_law_1152 dL_law_1153 dL_law_1154 dL_law_1155 dL_law_1156 ?_
  refine lr_X (rX := x8_put X (xs (6 * n + 1)) (xs (6 * n + 2)) (xs (6 * n + 3))) hC G hS (kx8_put l D ad sa cc tt X (xs (6 * n + 1)) (xs (6 * n + 2)) (xs (6 * n + 3)) ((INV_sh hI).1)) (cwV 3 hC.1.2.2.2.2.1 gL_law_X8_put rfl rfl rfl (by decide +kernel) ⟨Nat.le_of_ble_eq_true rfl, Nat.le_of_ble_eq_true rfl⟩) rfl hl.1 rfl (Nat.le_of_ble_eq_true rfl) dL_law_1157 hf (fun H locs w G hS => ?_)
  refine lv_aload_n hx hb dL_law_1160 rfl (lv_at hl 1 rfl) ?_
  refine lr_arg hC hS hl 1 (by decide) (by omega) dL_law_1161 dL_law_1162 dL_law_1163 dL_law_1164 dL_law_1165 ?_
  refine lr_arg hC hS hl 2 (by decide) (by omega) dL_law_1166 dL_law_1167 dL_law_1168 dL_law_1169 dL_law_1170 ?_
  refine lr_arg hC hS hl 3 (by decide) (by omega) dL_law_1171 dL_law_1172 dL_law_1173 dL_law_1174 dL_law_1175 ?_
  refine lr_M (rM := mF_put M (xs (6 * n + 1)) (xs (6 * n + 2)) (xs (6 * n + 3))) hC G hS (k_put l D cc.1 a M (xs (6 * n + 1)) (xs (6 * n + 2)) (xs (6 * n + 3)) ((INV_sh hI).2)) (cwV 3 hC.1.2.2.2.2.1 gL_law_X9_put rfl rfl rfl (by decide +kernel) ⟨Nat.le_of_ble_eq_true rfl, Nat.le_of_ble_eq_true rfl⟩) rfl hl.1 rfl (Nat.le_of_ble_eq_true rfl) dL_law_1176 hf (fun H locs S G hS => ?_)
  exact lr_cmp hC ih (Nat.le_succ n) (put_e hI (xs (6 * n + 1)) (xs (6 * n + 2)) (xs (6 * n + 3))) (by omega) G hS hl (by omega) (by omega) dL_law_1179 (by decide)
