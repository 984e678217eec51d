/-! WHAT THE STATEMENT GIVES of the start: the two static rows, the three strings, the links between nest mates -/
abbrev trA : Term := .static RX1 "ABOVE" "[I"
abbrev trB : Term := .static RX7 "BODIES" "[I"
def trS (i : Nat) : Term := match i with
  | 0 => .string RX3 23
  | 1 => .string RX8 166
  | _ => .string RX8 168
abbrev fl9 : List Cond := flatC (Jvm.Cond.and given_1 narrow_1)
theorem en_a1 : (Cond.arrayOf trA .int) ∈ fl9 := by decide +kernel
theorem en_a2 : (Cond.eq (.length trA) (.int (Int32.ofNat 7))) ∈ fl9 := by decide +kernel
theorem en_a3 : ∀ j, j < 7 → (Cond.eq (.elem trA (.int (Int32.ofNat j))) (.int (aboveT.getD j 0))) ∈ fl9 := by decide +kernel
theorem en_b1 : (Cond.arrayOf trB .int) ∈ fl9 := by decide +kernel
theorem en_b2 : (Cond.eq (.length trB) (.int (Int32.ofNat 28))) ∈ fl9 := by decide +kernel
theorem en_b3 : ∀ j, j < 28 → (Cond.eq (.elem trB (.int (Int32.ofNat j))) (.int (bodiesT.getD j 0))) ∈ fl9 := by decide +kernel
theorem en_s1 : ∀ i, i < 3 → (Cond.exactly (trS i) "java/lang/String") ∈ fl9 := by decide +kernel
theorem en_s2 : ∀ i, i < 3 → (Cond.eq (.field (trS i) "java/lang/String" "coder" "B") (.int 0)) ∈ fl9 := by decide +kernel
theorem en_s3 : ∀ i, i < 3 → (Cond.arrayOf (.field (trS i) "java/lang/String" "value" "[B") .byte) ∈ fl9 := by decide +kernel
theorem en_s4 : ∀ i, i < 3 → (Cond.eq (.length (.field (trS i) "java/lang/String" "value" "[B")) (.int (Int32.ofNat (lenS.getD i 0)))) ∈ fl9 := by decide +kernel
theorem en_s5 : ∀ i, i < 3 → ∀ j, j < lenS.getD i 0 → (Cond.eq (.elem (.field (trS i) "java/lang/String" "value" "[B") (.int (Int32.ofNat j))) (.int ((bytS.getD i []).getD j 0))) ∈ fl9 := by decide +kernel
theorem en_s6 : ∀ i, i < 3 → ∀ j, j < 3 → i ≠ j → (Cond.not (Cond.eq (trS i) (trS j))) ∈ fl9 ∨ (Cond.not (Cond.eq (trS j) (trS i))) ∈ fl9 := by decide +kernel
theorem en_c : (Cond.eq (.static RJ0 "COMPACT_STRINGS" "Z") (.int 1)) ∈ fl9 := by decide +kernel
theorem tb_in (w : Cond) (i : Nat) (h : tables_1[i]? = some w) : w ∈ lw_tbl := List.mem_append_right _ (List.mem_of_getElem? h)
theorem en_1 : Cond.laysStatic RX1 "ABOVE" "[I" ∈ lw_tbl := tb_in _ 403 (by decide +kernel)
theorem en_2 : Cond.initialized RX1 ∈ lw_tbl := tb_in _ 12 (by decide +kernel)
theorem en_3 : Cond.laysStatic RX7 "BODIES" "[I" ∈ lw_tbl := tb_in _ 857 (by decide +kernel)
theorem en_4 : Cond.initialized RX7 ∈ lw_tbl := tb_in _ 7 (by decide +kernel)
theorem en_5 : Cond.laysStatic RJ0 "COMPACT_STRINGS" "Z" ∈ lw_tbl := tb_in _ 499 (by decide +kernel)
theorem en_6 : Cond.initialized RJ0 ∈ lw_tbl := tb_in _ 13 (by decide +kernel)
theorem en_7 : Cond.stringRef RX8 166 "mfh" ∈ lw_tbl := tb_in _ 438 (by decide +kernel)
theorem en_8 : Cond.stringRef RX8 168 "mgh" ∈ lw_tbl := tb_in _ 439 (by decide +kernel)
theorem en_9 : Cond.stringRef RX3 23 "" ∈ lw_tbl := tb_in _ 150 (by decide +kernel)
theorem en_10 : clN ∈ lw_tbl := tb_in _ 604 (by decide +kernel)
theorem en_11 : Cond.arrayOver (.object RX5) ∈ lw_tbl := tb_in _ 231 (by decide +kernel)
theorem en_n : ∀ q ∈ nestL, q ∈ lw_tbl ∧ q.onTables = true := by
  intro q hq
  unfold nestL at hq
  simp only [List.mem_cons, List.not_mem_nil, or_false] at hq
  rcases hq with rfl | rfl | rfl | rfl | rfl | rfl | rfl | rfl
  · exact ⟨tb_in _ 349 (by decide +kernel), rfl⟩
  · exact ⟨tb_in _ 339 (by decide +kernel), rfl⟩
  · exact ⟨tb_in _ 643 (by decide +kernel), rfl⟩
  · exact ⟨tb_in _ 401 (by decide +kernel), rfl⟩
  · exact ⟨tb_in _ 727 (by decide +kernel), rfl⟩
  · exact ⟨tb_in _ 722 (by decide +kernel), rfl⟩
  · exact ⟨tb_in _ 710 (by decide +kernel), rfl⟩
  · exact ⟨tb_in _ 873 (by decide +kernel), rfl⟩
theorem wh_env {args : Array Value} {s : State} (hts : ∀ w ∈ lw_tbl, w.before args s = true) (hgv : (Jvm.Cond.and given_1 narrow_1).before args s = true) : ∃ sa : Nat → Nat, xEnv sa (fun q : Nat => s.heap.size ≤ q) s s.heap := by
  have hA : ∀ a : Nat, a < s.heap.size → ¬ (fun q : Nat => s.heap.size ≤ q) a := fun a h => Nat.not_le.mpr h
  have hf : ∀ c ∈ fl9, c.before args s = true := flat_of_before _ hgv
  obtain ⟨t1, e1, T1⟩ := va_Tof (tm := trA) (ty := .int) (N := 7) (f := fun j => .int (aboveT.getD j 0)) (by decide) (hf _ en_a1) (va_eqt (hf _ en_a2)) (fun j hj => va_eqt (hf _ (en_a3 j hj))) hA
  obtain ⟨t2, e2, T2⟩ := va_Tof (tm := trB) (ty := .int) (N := 28) (f := fun j => .int (bodiesT.getD j 0)) (by decide) (hf _ en_b1) (va_eqt (hf _ en_b2)) (fun j hj => va_eqt (hf _ (en_b3 j hj))) hA
  obtain ⟨sa, sv, hS, he⟩ := vk_Sof (N := 3) (tm := trS) (len := lenS) (byt := bytS) (fun i hi => Nat.lt_of_le_of_lt (lenS_le hi) (by decide)) (fun i hi => hf _ (en_s1 i hi)) (fun i hi => hf _ (en_s2 i hi)) (fun i hi => hf _ (en_s3 i hi)) (fun i hi => hf _ (en_s4 i hi)) (fun i hi j hj => hf _ (en_s5 i hi j hj)) (fun i j hi hj hij => (en_s6 i hi j hj hij).elim (fun h => Or.inl (hf _ h)) (fun h => Or.inr (hf _ h))) hA
  exact ⟨sa, fun q hq => va_Nw.of (en_n q hq).2 (hts q (en_n q hq).1), ⟨t1, va_Zof (hts _ en_1) (hts _ en_2) e1 hA, T1⟩, ⟨t2, va_Zof (hts _ en_3) (hts _ en_4) e2 hA, T2⟩, ⟨sv, hS, va_Zof (hts _ en_5) (hts _ en_6) (va_eqi (hf _ en_c)) hA⟩, vk_R.of (hts _ en_7) (he 1 (by decide)), vk_R.of (hts _ en_8) (he 2 (by decide)), vk_R.of (hts _ en_9) (he 0 (by decide))⟩
