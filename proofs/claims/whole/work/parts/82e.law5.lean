/-! the law's calls: move, weeds, judge, image, restore, tell, check, count, told -/
set_option maxRecDepth 100000 in
theorem lc_move {p : Program} {l : Launch} {e : Env} {s : State} {m : MethodId} {args : Array Value} {below : List Frame} {meth : Method} {c : Code} {H : Heap} {locs : List Loc} {Q : State → Prop} {D : va_G} {ad sa : Nat → Nat} {cc : cT} {a : Nat → Nat} {tt : tT} {A : Nat → Prop} {X : xS} {M : mS} {ls : Array Slot} {b L n : Nat} {xs : Nat → Int32} (hC : LXt D sa cc A p s m c args b L xs) (hn : 6 * n + 6 ≤ L) (ih : LKt p l e s m args below meth c Q D ad sa cc a A b (n + 1)) (hs : LSt D ad sa cc a A s b n tt X M H locs ls) : W p l e room_1 s m args below meth c H locs (76 + 3 * n) (2571 + 102 * n) Q (F0 m 1184 ls []) := by
  have hL := hC.2.2.2.2.2.1
  have hx := hC.1.1
  have hb := hC.1.2.1
  have hf : 76 + 3 * n ≤ 600000 ∧ 2571 + 102 * n ≤ 7302250 := by omega
  obtain ⟨hI, ht, ⟨w, S, G⟩, hS, hl⟩ := hs
  refine lv_aload_n hx hb dL_law_1184 rfl (lv_at hl 2 rfl) ?_
  refine lr_arg hC hS hl 1 (by decide) (by omega) dL_law_1185 dL_law_1186 dL_law_1187 dL_law_1188 dL_law_1189 ?_
  refine lr_arg hC hS hl 2 (by decide) (by omega) dL_law_1190 dL_law_1191 dL_law_1192 dL_law_1193 dL_law_1194 ?_
  refine lr_arg hC hS hl 3 (by decide) (by omega) dL_law_1195 dL_law_1196 dL_law_1197 dL_law_1198 dL_law_1199 ?_
  refine lr_arg hC hS hl 4 (by decide) (by omega) dL_law_1200 dL_law_1201 dL_law_1202 dL_law_1203 dL_law_1204 ?_
  refine lr_arg hC hS hl 5 (by decide) (by omega) dL_law_1205 dL_law_1206 dL_law_1207 dL_law_1208 dL_law_1209 ?_
  refine lr_X (rX := x8_move X (xs (6 * n + 1)) (xs (6 * n + 2)) (xs (6 * n + 3)) (xs (6 * n + 4)) (xs (6 * n + 5))) hC G hS (kx8_move l D ad sa cc tt X (xs (6 * n + 1)) (xs (6 * n + 2)) (xs (6 * n + 3)) (xs (6 * n + 4)) (xs (6 * n + 5)) ((INV_sh hI).1)) (cwV 5 hC.1.2.2.2.2.1 gL_law_X8_move rfl rfl rfl (by decide +kernel) ⟨Nat.le_of_ble_eq_true rfl, Nat.le_of_ble_eq_true rfl⟩) rfl hl.1 rfl (Nat.le_of_ble_eq_true rfl) dL_law_1210 hf (fun H locs w G hS => ?_)
  refine lv_aload_n hx hb dL_law_1213 rfl (lv_at hl 1 rfl) ?_
  refine lr_arg hC hS hl 1 (by decide) (by omega) dL_law_1214 dL_law_1215 dL_law_1216 dL_law_1217 dL_law_1218 ?_
  refine lr_arg hC hS hl 2 (by decide) (by omega) dL_law_1219 dL_law_1220 dL_law_1221 dL_law_1222 dL_law_1223 ?_
  refine lr_arg hC hS hl 3 (by decide) (by omega) dL_law_1224 dL_law_1225 dL_law_1226 dL_law_1227 dL_law_1228 ?_
  refine lr_arg hC hS hl 4 (by decide) (by omega) dL_law_1229 dL_law_1230 dL_law_1231 dL_law_1232 dL_law_1233 ?_
  refine lr_arg hC hS hl 5 (by decide) (by omega) dL_law_1234 dL_law_1235 dL_law_1236 dL_law_1237 dL_law_1238 ?_
  refine lr_M (rM := mF_move M (xs (6 * n + 1)) (xs (6 * n + 2)) (xs (6 * n + 3)) (xs (6 * n + 4)) (xs (6 * n + 5))) hC G hS (k_move l D cc.1 a M (xs (6 * n + 1)) (xs (6 * n + 2)) (xs (6 * n + 3)) (xs (6 * n + 4)) (xs (6 * n + 5)) ((INV_sh hI).2)) (cwV 5 hC.1.2.2.2.2.1 gL_law_X9_move rfl rfl rfl (by decide +kernel) ⟨Nat.le_of_ble_eq_true rfl, Nat.le_of_ble_eq_true rfl⟩) rfl hl.1 rfl (Nat.le_of_ble_eq_true rfl) dL_law_1239 hf (fun H locs S G hS => ?_)
  exact lr_cmp hC ih (Nat.le_succ n) (move_e hI (xs (6 * n + 1)) (xs (6 * n + 2)) (xs (6 * n + 3)) (xs (6 * n + 4)) (xs (6 * n + 5))) (by omega) G hS hl (by omega) (by omega) dL_law_1242 (by decide)
set_option maxRecDepth 100000 in
theorem lc_weeds {p : Program} {l : Launch} {e : Env} {s : State} {m : MethodId} {args : Array Value} {below : List Frame} {meth : Method} {c : Code} {H : Heap} {locs : List Loc} {Q : State → Prop} {D : va_G} {ad sa : Nat → Nat} {cc : cT} {a : Nat → Nat} {tt : tT} {A : Nat → Prop} {X : xS} {M : mS} {ls : Array Slot} {b L n : Nat} {xs : Nat → Int32} (hC : LXt D sa cc A p s m c args b L xs) (hn : 6 * n + 6 ≤ L) (ih : LKt p l e s m args below meth c Q D ad sa cc a A b (n + 1)) (hs : LSt D ad sa cc a A s b n tt X M H locs ls) : W p l e room_1 s m args below meth c H locs (76 + 3 * n) (2571 + 102 * n) Q (F0 m 1247 ls []) := by
  have hL := hC.2.2.2.2.2.1
  have hx := hC.1.1
  have hb := hC.1.2.1
  have hf : 76 + 3 * n ≤ 600000 ∧ 2571 + 102 * n ≤ 7302250 := by omega
  obtain ⟨hI, ht, ⟨w, S, G⟩, hS, hl⟩ := hs
  refine lv_aload_n hx hb dL_law_1247 rfl (lv_at hl 2 rfl) ?_
  refine lr_arg hC hS hl 1 (by decide) (by omega) dL_law_1248 dL_law_1249 dL_law_1250 dL_law_1251 dL_law_1252 ?_
  refine lr_X (rX := x8_weeds X (xs (6 * n + 1))) hC G hS (kx8_weeds l D ad sa cc tt X (xs (6 * n + 1)) ((INV_eR hI).1.1) ((INV_sh hI).1)) (cwV 1 hC.1.2.2.2.2.1 gL_law_X8_weeds rfl rfl rfl (by decide +kernel) ⟨Nat.le_of_ble_eq_true rfl, Nat.le_of_ble_eq_true rfl⟩) rfl hl.1 rfl (Nat.le_of_ble_eq_true rfl) dL_law_1253 hf (fun H locs w G hS => ?_)
  refine lv_aload_n hx hb dL_law_1256 rfl (lv_at hl 1 rfl) ?_
  refine lr_arg hC hS hl 1 (by decide) (by omega) dL_law_1257 dL_law_1258 dL_law_1259 dL_law_1260 dL_law_1261 ?_
  refine lr_M (rM := mF_weeds M (xs (6 * n + 1))) hC G hS (k_weeds l D cc.1 a M (xs (6 * n + 1)) ((INV_R hI).1) ((INV_sh hI).2)) (cwV 1 hC.1.2.2.2.2.1 gL_law_X9_weeds rfl rfl rfl (by decide +kernel) ⟨Nat.le_of_ble_eq_true rfl, Nat.le_of_ble_eq_true rfl⟩) rfl hl.1 rfl (Nat.le_of_ble_eq_true rfl) dL_law_1262 hf (fun H locs S G hS => ?_)
  exact lr_cmp hC ih (Nat.le_succ n) (weeds_e hI (xs (6 * n + 1))) (by omega) G hS hl (by omega) (by omega) dL_law_1265 (by decide)
set_option maxRecDepth 100000 in
theorem lc_judge {p : Program} {l : Launch} {e : Env} {s : State} {m : MethodId} {args : Array Value} {below : List Frame} {meth : Method} {c : Code} {H : Heap} {locs : List Loc} {Q : State → Prop} {D : va_G} {ad sa : Nat → Nat} {cc : cT} {a : Nat → Nat} {tt : tT} {A : Nat → Prop} {X : xS} {M : mS} {ls : Array Slot} {b L n : Nat} {xs : Nat → Int32} (hC : LXt D sa cc A p s m c args b L xs) (hn : 6 * n + 6 ≤ L) (ih : LKt p l e s m args below meth c Q D ad sa cc a A b (n + 1)) (hs : LSt D ad sa cc a A s b n tt X M H locs ls) : W p l e room_1 s m args below meth c H locs (76 + 3 * n) (2571 + 102 * n) Q (F0 m 1270 ls []) := by
  have hL := hC.2.2.2.2.2.1
  have hx := hC.1.1
  have hb := hC.1.2.1
  have hf : 76 + 3 * n ≤ 600000 ∧ 2571 + 102 * n ≤ 7302250 := by omega
  obtain ⟨hI, ht, ⟨w, S, G⟩, hS, hl⟩ := hs
  refine lv_aload_n hx hb dL_law_1270 rfl (lv_at hl 2 rfl) ?_
  refine lr_arg hC hS hl 1 (by decide) (by omega) dL_law_1271 dL_law_1272 dL_law_1273 dL_law_1274 dL_law_1275 ?_
  refine lr_X (rX := x8_judge X (xs (6 * n + 1))) hC G hS (kx8_judge l D ad sa cc tt X (xs (6 * n + 1)) ((INV_eR hI).1.1) ((INV_sh hI).1)) (cwV 1 hC.1.2.2.2.2.1 gL_law_X8_judge rfl rfl rfl (by decide +kernel) ⟨Nat.le_of_ble_eq_true rfl, Nat.le_of_ble_eq_true rfl⟩) rfl hl.1 rfl (Nat.le_of_ble_eq_true rfl) dL_law_1276 hf (fun H locs w G hS => ?_)
  refine lv_aload_n hx hb dL_law_1279 rfl (lv_at hl 1 rfl) ?_
  refine lr_arg hC hS hl 1 (by decide) (by omega) dL_law_1280 dL_law_1281 dL_law_1282 dL_law_1283 dL_law_1284 ?_
  refine lr_M (rM := mF_judge M (xs (6 * n + 1))) hC G hS (k_judge l D cc.1 a M (xs (6 * n + 1)) ((INV_R hI).1)) (cwV 1 hC.1.2.2.2.2.1 gL_law_X9_judge rfl rfl rfl (by decide +kernel) ⟨Nat.le_of_ble_eq_true rfl, Nat.le_of_ble_eq_true rfl⟩) rfl hl.1 rfl (Nat.le_of_ble_eq_true rfl) dL_law_1285 hf (fun H locs S G hS => ?_)
  exact lr_cmp hC ih (Nat.le_succ n) (judge_e hI (xs (6 * n + 1))) (by omega) G hS hl (by omega) (by omega) dL_law_1288 (by decide)
set_option maxRecDepth 100000 in
theorem lc_image {p : Program} {l : Launch} {e : Env} {s : State} {m : MethodId} {args : Array Value} {below : List Frame} {meth : Method} {c : Code} {H : Heap} {locs : List Loc} {Q : State → Prop} {D : va_G} {ad sa : Nat → Nat} {cc : cT} {a : Nat → Nat} {tt : tT} {A : Nat → Prop} {X : xS} {M : mS} {ls : Array Slot} {b L n : Nat} {xs : Nat → Int32} (hC : LXt D sa cc A p s m c args b L xs) (hn : 6 * n + 6 ≤ L) (ih : LKt p l e s m args below meth c Q D ad sa cc a A b (n + 1)) (hs : LSt D ad sa cc a A s b n tt X M H locs ls) : W p l e room_1 s m args below meth c H locs (76 + 3 * n) (2571 + 102 * n) Q (F0 m 1293 ls []) := by
  have hL := hC.2.2.2.2.2.1
  have hx := hC.1.1
  have hb := hC.1.2.1
  have hf : 76 + 3 * n ≤ 600000 ∧ 2571 + 102 * n ≤ 7302250 := by omega
  obtain ⟨hI, ht, ⟨w, S, G⟩, hS, hl⟩ := hs
  refine lv_aload_n hx hb dL_law_1293 rfl (lv_at hl 2 rfl) ?_
  refine lr_X (rX := x8_image X ) hC G hS (kx8_image l D ad sa cc tt X  ((INV_eR hI).2.1)) (cwV 0 hC.1.2.2.2.2.1 gL_law_X8_image rfl rfl rfl (by decide +kernel) ⟨Nat.le_of_ble_eq_true rfl, Nat.le_of_ble_eq_true rfl⟩) rfl hl.1 rfl (Nat.le_of_ble_eq_true rfl) dL_law_1294 hf (fun H locs w G hS => ?_)
  refine lv_aload_n hx hb dL_law_1297 rfl (lv_at hl 1 rfl) ?_
  refine lr_M (rM := mF_image M ) hC G hS (k_image l D cc.1 a M  ) (cwV 0 hC.1.2.2.2.2.1 gL_law_X9_image rfl rfl rfl (by decide +kernel) ⟨Nat.le_of_ble_eq_true rfl, Nat.le_of_ble_eq_true rfl⟩) rfl hl.1 rfl (Nat.le_of_ble_eq_true rfl) dL_law_1298 hf (fun H locs S G hS => ?_)
  exact lr_cmp hC ih (Nat.le_refl _) (image_e hI (by omega)) (by omega) G hS hl (by omega) (by omega) dL_law_1301 (by decide)
set_option maxRecDepth 100000 in
theorem lc_restore {p : Program} {l : Launch} {e : Env} {s : State} {m : MethodId} {args : Array Value} {below : List Frame} {meth : Method} {c : Code} {H : Heap} {locs : List Loc} {Q : State → Prop} {D : va_G} {ad sa : Nat → Nat} {cc : cT} {a : Nat → Nat} {tt : tT} {A : Nat → Prop} {X : xS} {M : mS} {ls : Array Slot} {b L n : Nat} {xs : Nat → Int32} (hC : LXt D sa cc A p s m c args b L xs) (hn : 6 * n + 6 ≤ L) (ih : LKt p l e s m args below meth c Q D ad sa cc a A b (n + 1)) (hs : LSt D ad sa cc a A s b n tt X M H locs ls) : W p l e room_1 s m args below meth c H locs (76 + 3 * n) (2571 + 102 * n) Q (F0 m 1306 ls []) := by
  have hL := hC.2.2.2.2.2.1
  have hx := hC.1.1
  have hb := hC.1.2.1
  have hf : 76 + 3 * n ≤ 600000 ∧ 2571 + 102 * n ≤ 7302250 := by omega
  obtain ⟨hI, ht, ⟨w, S, G⟩, hS, hl⟩ := hs
  refine lv_aload_n hx hb dL_law_1306 rfl (lv_at hl 2 rfl) ?_
  refine lr_X (rX := x8_restore X ) hC G hS (kx8_restore l D ad sa cc tt X  ((INV_eR hI).2.2)) (cwV 0 hC.1.2.2.2.2.1 gL_law_X8_restore rfl rfl rfl (by decide +kernel) ⟨Nat.le_of_ble_eq_true rfl, Nat.le_of_ble_eq_true rfl⟩) rfl hl.1 rfl (Nat.le_of_ble_eq_true rfl) dL_law_1307 hf (fun H locs w G hS => ?_)
  refine lv_aload_n hx hb dL_law_1310 rfl (lv_at hl 1 rfl) ?_
  refine lr_M (rM := mF_restore M ) hC G hS (k_restore l D cc.1 a M  ) (cwV 0 hC.1.2.2.2.2.1 gL_law_X9_restore rfl rfl rfl (by decide +kernel) ⟨Nat.le_of_ble_eq_true rfl, Nat.le_of_ble_eq_true rfl⟩) rfl hl.1 rfl (Nat.le_of_ble_eq_true rfl) dL_law_1311 hf (fun H locs S G hS => ?_)
  exact lr_cmp hC ih (Nat.le_succ n) (restore_e hI (by omega)) (by omega) G hS hl (by omega) (by omega) dL_law_1314 (by decide)
set_option maxRecDepth 100000 in
theorem lc_tell {p : Program} {l : Launch} {e : Env} {s : State} {m : MethodId} {args : Array Value} {below : List Frame} {meth : Method} {c : Code} {H : Heap} {locs : List Loc} {Q : State → Prop} {D : va_G} {ad sa : Nat → Nat} {cc : cT} {a : Nat → Nat} {tt : tT} {A : Nat → Prop} {X : xS} {M : mS} {ls : Array Slot} {b L n : Nat} {xs : Nat → Int32} (hC : LXt D sa cc A p s m c args b L xs) (hn : 6 * n + 6 ≤ L) (ih : LKt p l e s m args below meth c Q D ad sa cc a A b (n + 1)) (hs : LSt D ad sa cc a A s b n tt X M H locs ls) : W p l e room_1 s m args below meth c H locs (76 + 3 * n) (2571 + 102 * n) Q (F0 m 1319 ls []) := by
  have hL := hC.2.2.2.2.2.1
  have hx := hC.1.1
  have hb := hC.1.2.1
  have hf : 76 + 3 * n ≤ 600000 ∧ 2571 + 102 * n ≤ 7302250 := by omega
  obtain ⟨hI, ht, ⟨w, S, G⟩, hS, hl⟩ := hs
  refine lv_aload_n hx hb dL_law_1319 rfl (lv_at hl 2 rfl) ?_
  refine lr_arg hC hS hl 1 (by decide) (by omega) dL_law_1320 dL_law_1321 dL_law_1322 dL_law_1323 dL_law_1324 ?_
  refine lr_X (rX := x8_tell X (xs (6 * n + 1))) hC G hS (kx8_tell l D ad sa cc tt X (xs (6 * n + 1)) ((INV_eR hI).2.1)) (cwV 1 hC.1.2.2.2.2.1 gL_law_X8_tell rfl rfl rfl (by decide +kernel) ⟨Nat.le_of_ble_eq_true rfl, Nat.le_of_ble_eq_true rfl⟩) rfl hl.1 rfl (Nat.le_of_ble_eq_true rfl) dL_law_1325 hf (fun H locs w G hS => ?_)
  refine lv_aload_n hx hb dL_law_1328 rfl (lv_at hl 1 rfl) ?_
  refine lr_arg hC hS hl 1 (by decide) (by omega) dL_law_1329 dL_law_1330 dL_law_1331 dL_law_1332 dL_law_1333 ?_
  refine lr_M (rM := mF_tell M (xs (6 * n + 1))) hC G hS (k_tell l D cc.1 a M (xs (6 * n + 1)) ((INV_tw hI).2)) (cwV 1 hC.1.2.2.2.2.1 gL_law_X9_tell rfl rfl rfl (by decide +kernel) ⟨Nat.le_of_ble_eq_true rfl, Nat.le_of_ble_eq_true rfl⟩) rfl hl.1 rfl (Nat.le_of_ble_eq_true rfl) dL_law_1334 hf (fun H locs S G hS => ?_)
  exact lr_cmp hC ih (Nat.le_succ n) (tell_e hI (xs (6 * n + 1))) (by omega) G hS hl (by omega) (by omega) dL_law_1337 (by decide)
set_option maxRecDepth 100000 in
theorem lc_check {p : Program} {l : Launch} {e : Env} {s : State} {m : MethodId} {args : Array Value} {below : List Frame} {meth : Method} {c : Code} {H : Heap} {locs : List Loc} {Q : State → Prop} {D : va_G} {ad sa : Nat → Nat} {cc : cT} {a : Nat → Nat} {tt : tT} {A : Nat → Prop} {X : xS} {M : mS} {ls : Array Slot} {b L n : Nat} {xs : Nat → Int32} (hC : LXt D sa cc A p s m c args b L xs) (hn : 6 * n + 6 ≤ L) (ih : LKt p l e s m args below meth c Q D ad sa cc a A b (n + 1)) (hs : LSt D ad sa cc a A s b n tt X M H locs ls) : W p l e room_1 s m args below meth c H locs (76 + 3 * n) (2571 + 102 * n) Q (F0 m 1342 ls []) := by
  have hL := hC.2.2.2.2.2.1
  have hx := hC.1.1
  have hb := hC.1.2.1
  have hf : 76 + 3 * n ≤ 600000 ∧ 2571 + 102 * n ≤ 7302250 := by omega
  obtain ⟨hI, ht, ⟨w, S, G⟩, hS, hl⟩ := hs
  refine lv_aload_n hx hb dL_law_1342 rfl (lv_at hl 2 rfl) ?_
  refine lr_X (rX := x8_check tt X ) hC G hS (kx8_check l D ad sa cc tt X  ((INV_eR hI).1) ((INV_eR hI).2.1)) (cwV 0 hC.1.2.2.2.2.1 gL_law_X8_check rfl rfl rfl (by decide +kernel) ⟨Nat.le_of_ble_eq_true rfl, Nat.le_of_ble_eq_true rfl⟩) rfl hl.1 rfl (Nat.le_of_ble_eq_true rfl) dL_law_1343 hf (fun H locs w G hS => ?_)
  refine lv_aload_n hx hb dL_law_1346 rfl (lv_at hl 1 rfl) ?_
  refine lr_M (rM := mF_check M ) hC G hS (k_check l D cc.1 a M  (INV_R hI) ((INV_tw hI).2)) (cwV 0 hC.1.2.2.2.2.1 gL_law_X9_check rfl rfl rfl (by decide +kernel) ⟨Nat.le_of_ble_eq_true rfl, Nat.le_of_ble_eq_true rfl⟩) rfl hl.1 rfl (Nat.le_of_ble_eq_true rfl) dL_law_1347 hf (fun H locs S G hS => ?_)
  exact lr_cmp hC ih (Nat.le_succ n) (check_e hI ) (by omega) G hS hl (by omega) (by omega) dL_law_1350 (by decide)
set_option maxRecDepth 100000 in
theorem lc_count {p : Program} {l : Launch} {e : Env} {s : State} {m : MethodId} {args : Array Value} {below : List Frame} {meth : Method} {c : Code} {H : Heap} {locs : List Loc} {Q : State → Prop} {D : va_G} {ad sa : Nat → Nat} {cc : cT} {a : Nat → Nat} {tt : tT} {A : Nat → Prop} {X : xS} {M : mS} {ls : Array Slot} {b L n : Nat} {xs : Nat → Int32} (hC : LXt D sa cc A p s m c args b L xs) (hn : 6 * n + 6 ≤ L) (ih : LKt p l e s m args below meth c Q D ad sa cc a A b (n + 1)) (hs : LSt D ad sa cc a A s b n tt X M H locs ls) : W p l e room_1 s m args below meth c H locs (76 + 3 * n) (2571 + 102 * n) Q (F0 m 1355 ls []) := by
  have hL := hC.2.2.2.2.2.1
  have hx := hC.1.1
  have hb := hC.1.2.1
  have hf : 76 + 3 * n ≤ 600000 ∧ 2571 + 102 * n ≤ 7302250 := by omega
  obtain ⟨hI, ht, ⟨w, S, G⟩, hS, hl⟩ := hs
  refine lv_aload_n hx hb dL_law_1355 rfl (lv_at hl 2 rfl) ?_
  refine lr_arg hC hS hl 1 (by decide) (by omega) dL_law_1356 dL_law_1357 dL_law_1358 dL_law_1359 dL_law_1360 ?_
  refine lr_X (rX := x8_count X (xs (6 * n + 1))) hC G hS (kx8_count l D ad sa cc tt X (xs (6 * n + 1)) ((INV_eR hI).1.1)) (cwV 1 hC.1.2.2.2.2.1 gL_law_X8_count rfl rfl rfl (by decide +kernel) ⟨Nat.le_of_ble_eq_true rfl, Nat.le_of_ble_eq_true rfl⟩) rfl hl.1 rfl (Nat.le_of_ble_eq_true rfl) dL_law_1361 hf (fun H locs w G hS => ?_)
  refine lv_aload_n hx hb dL_law_1364 rfl (lv_at hl 1 rfl) ?_
  refine lr_arg hC hS hl 1 (by decide) (by omega) dL_law_1365 dL_law_1366 dL_law_1367 dL_law_1368 dL_law_1369 ?_
  refine lr_M (rM := mF_count M (xs (6 * n + 1))) hC G hS (k_count l D cc.1 a M (xs (6 * n + 1)) ((INV_R hI).1)) (cwV 1 hC.1.2.2.2.2.1 gL_law_X9_count rfl rfl rfl (by decide +kernel) ⟨Nat.le_of_ble_eq_true rfl, Nat.le_of_ble_eq_true rfl⟩) rfl hl.1 rfl (Nat.le_of_ble_eq_true rfl) dL_law_1370 hf (fun H locs S G hS => ?_)
  exact lr_cmp hC ih (Nat.le_succ n) (count_e hI (xs (6 * n + 1))) (by omega) G hS hl (by omega) (by omega) dL_law_1373 (by decide)
set_option maxRecDepth 100000 in
theorem lc_told {p : Program} {l : Launch} {e : Env} {s : State} {m : MethodId} {args : Array Value} {below : List Frame} {meth : Method} {c : Code} {H : Heap} {locs : List Loc} {Q : State → Prop} {D : va_G} {ad sa : Nat → Nat} {cc : cT} {a : Nat → Nat} {tt : tT} {A : Nat → Prop} {X : xS} {M : mS} {ls : Array Slot} {b L n : Nat} {xs : Nat → Int32} (hC : LXt D sa cc A p s m c args b L xs) (hn : 6 * n + 6 ≤ L) (ih : LKt p l e s m args below meth c Q D ad sa cc a A b (n + 1)) (hs : LSt D ad sa cc a A s b n tt X M H locs ls) : W p l e room_1 s m args below meth c H locs (76 + 3 * n) (2571 + 102 * n) Q (F0 m 1378 ls []) := by
  have hL := hC.2.2.2.2.2.1
  have hx := hC.1.1
  have hb := hC.1.2.1
  have hf : 76 + 3 * n ≤ 600000 ∧ 2571 + 102 * n ≤ 7302250 := by omega
  obtain ⟨hI, ht, ⟨w, S, G⟩, hS, hl⟩ := hs
  refine lv_aload_n hx hb dL_law_1378 rfl (lv_at hl 2 rfl) ?_
  refine lr_arg hC hS hl 1 (by decide) (by omega) dL_law_1379 dL_law_1380 dL_law_1381 dL_law_1382 dL_law_1383 ?_
  refine lr_X (rX := x8_told X (xs (6 * n + 1))) hC G hS (kx8_told l D ad sa cc tt X (xs (6 * n + 1)) ) (cwV 1 hC.1.2.2.2.2.1 gL_law_X8_told rfl rfl rfl (by decide +kernel) ⟨Nat.le_of_ble_eq_true rfl, Nat.le_of_ble_eq_true rfl⟩) rfl hl.1 rfl (Nat.le_of_ble_eq_true rfl) dL_law_1384 hf (fun H locs w G hS => ?_)
  refine lv_aload_n hx hb dL_law_1387 rfl (lv_at hl 1 rfl) ?_
  refine lr_arg hC hS hl 1 (by decide) (by omega) dL_law_1388 dL_law_1389 dL_law_1390 dL_law_1391 dL_law_1392 ?_
  refine lr_M (rM := mF_told M (xs (6 * n + 1))) hC G hS (k_told l D cc.1 a M (xs (6 * n + 1)) ) (cwV 1 hC.1.2.2.2.2.1 gL_law_X9_told rfl rfl rfl (by decide +kernel) ⟨Nat.le_of_ble_eq_true rfl, Nat.le_of_ble_eq_true rfl⟩) rfl hl.1 rfl (Nat.le_of_ble_eq_true rfl) dL_law_1393 hf (fun H locs S G hS => ?_)
  exact lr_cmp hC ih (Nat.le_succ n) (told_e hI (xs (6 * n + 1))) (by omega) G hS hl (by omega) (by omega) dL_law_1396 (by decide)
