/-! The tables' words that the rows ask for, by their places; calls, fields, new cells. Written by a program. -/
theorem tb_30 : (Cond.lays "OrderBench$PlaceSet" "OrderBench$PlaceSet" "low" "J") ∈ mw_tb := mw_tb_in (List.mem_append_right _ (List.mem_of_getElem? (i := 30) (by decide +kernel))) (by decide +kernel)
theorem tb_32 : (Cond.lays "OrderBench$PlaceSet" "OrderBench$PlaceSet" "high" "J") ∈ mw_tb := mw_tb_in (List.mem_append_right _ (List.mem_of_getElem? (i := 32) (by decide +kernel))) (by decide +kernel)
theorem uw_ps : ∀ w ∈ u_ws "OrderBench$PlaceSet" T_ps 2, w ∈ mw_tb := by
  intro w hw
  have e : u_ws "OrderBench$PlaceSet" T_ps 2 = [(Cond.lays "OrderBench$PlaceSet" "OrderBench$PlaceSet" "low" "J"), (Cond.lays "OrderBench$PlaceSet" "OrderBench$PlaceSet" "high" "J")] := by decide +kernel
  rw [e] at hw
  simp only [List.mem_cons, List.not_mem_nil, or_false] at hw
  rcases hw with rfl | rfl
  · exact tb_30
  · exact tb_32
theorem tn_ps : ∀ a, a < 2 → ∀ b, b < 2 → a ≠ b → (T_ps a).2.1 ≠ (T_ps b).2.1 := by decide +kernel
theorem tp_ps : ∀ k, k < 2 → parseFieldDescriptor (T_ps k).2.2.1 = some (ty_ps k) := by decide +kernel
theorem tb_45 : (Cond.lays "OrderBench" "OrderBench" "size" "I") ∈ mw_tb := mw_tb_in (List.mem_append_right _ (List.mem_of_getElem? (i := 45) (by decide +kernel))) (by decide +kernel)
theorem tb_47 : (Cond.laysFinal "OrderBench" "OrderBench" "out" "[LOrderBench$PlaceSet;") ∈ mw_tb := mw_tb_in (List.mem_append_right _ (List.mem_of_getElem? (i := 47) (by decide +kernel))) (by decide +kernel)
theorem tb_49 : (Cond.laysFinal "OrderBench" "OrderBench" "into" "[LOrderBench$PlaceSet;") ∈ mw_tb := mw_tb_in (List.mem_append_right _ (List.mem_of_getElem? (i := 49) (by decide +kernel))) (by decide +kernel)
theorem tb_51 : (Cond.laysFinal "OrderBench" "OrderBench" "reached" "LOrderBench$PlaceSet;") ∈ mw_tb := mw_tb_in (List.mem_append_right _ (List.mem_of_getElem? (i := 51) (by decide +kernel))) (by decide +kernel)
theorem tb_53 : (Cond.laysFinal "OrderBench" "OrderBench" "rim" "LOrderBench$PlaceSet;") ∈ mw_tb := mw_tb_in (List.mem_append_right _ (List.mem_of_getElem? (i := 53) (by decide +kernel))) (by decide +kernel)
theorem tb_55 : (Cond.laysFinal "OrderBench" "OrderBench" "fresh" "LOrderBench$PlaceSet;") ∈ mw_tb := mw_tb_in (List.mem_append_right _ (List.mem_of_getElem? (i := 55) (by decide +kernel))) (by decide +kernel)
theorem tb_57 : (Cond.laysFinal "OrderBench" "OrderBench" "kept" "LOrderBench$PlaceSet;") ∈ mw_tb := mw_tb_in (List.mem_append_right _ (List.mem_of_getElem? (i := 57) (by decide +kernel))) (by decide +kernel)
theorem tb_59 : (Cond.laysFinal "OrderBench" "OrderBench" "line" "[I") ∈ mw_tb := mw_tb_in (List.mem_append_right _ (List.mem_of_getElem? (i := 59) (by decide +kernel))) (by decide +kernel)
theorem tb_61 : (Cond.laysFinal "OrderBench" "OrderBench" "waiting" "[I") ∈ mw_tb := mw_tb_in (List.mem_append_right _ (List.mem_of_getElem? (i := 61) (by decide +kernel))) (by decide +kernel)
theorem tb_63 : (Cond.laysFinal "OrderBench" "OrderBench" "tally" "[I") ∈ mw_tb := mw_tb_in (List.mem_append_right _ (List.mem_of_getElem? (i := 63) (by decide +kernel))) (by decide +kernel)
theorem uw_ob : ∀ w ∈ u_ws "OrderBench" T_ob 10, w ∈ mw_tb := by
  intro w hw
  have e : u_ws "OrderBench" T_ob 10 = [(Cond.lays "OrderBench" "OrderBench" "size" "I"), (Cond.laysFinal "OrderBench" "OrderBench" "out" "[LOrderBench$PlaceSet;"), (Cond.laysFinal "OrderBench" "OrderBench" "into" "[LOrderBench$PlaceSet;"), (Cond.laysFinal "OrderBench" "OrderBench" "reached" "LOrderBench$PlaceSet;"), (Cond.laysFinal "OrderBench" "OrderBench" "rim" "LOrderBench$PlaceSet;"), (Cond.laysFinal "OrderBench" "OrderBench" "fresh" "LOrderBench$PlaceSet;"), (Cond.laysFinal "OrderBench" "OrderBench" "kept" "LOrderBench$PlaceSet;"), (Cond.laysFinal "OrderBench" "OrderBench" "line" "[I"), (Cond.laysFinal "OrderBench" "OrderBench" "waiting" "[I"), (Cond.laysFinal "OrderBench" "OrderBench" "tally" "[I")] := by decide +kernel
  rw [e] at hw
  simp only [List.mem_cons, List.not_mem_nil, or_false] at hw
  rcases hw with rfl | rfl | rfl | rfl | rfl | rfl | rfl | rfl | rfl | rfl
  · exact tb_45
  · exact tb_47
  · exact tb_49
  · exact tb_51
  · exact tb_53
  · exact tb_55
  · exact tb_57
  · exact tb_59
  · exact tb_61
  · exact tb_63
theorem tn_ob : ∀ a, a < 10 → ∀ b, b < 10 → a ≠ b → (T_ob a).2.1 ≠ (T_ob b).2.1 := by decide +kernel
theorem tp_ob : ∀ k, k < 10 → parseFieldDescriptor (T_ob k).2.2.1 = some (ty_ob k) := by decide +kernel
theorem tb_387 : (Cond.lays "OrderBenchModel" "OrderBenchModel" "thrown" "I") ∈ mw_tb := mw_tb_in (List.mem_append_right _ (List.mem_of_getElem? (i := 387) (by decide +kernel))) (by decide +kernel)
theorem tb_389 : (Cond.lays "OrderBenchModel" "OrderBenchModel" "n" "I") ∈ mw_tb := mw_tb_in (List.mem_append_right _ (List.mem_of_getElem? (i := 389) (by decide +kernel))) (by decide +kernel)
theorem tb_391 : (Cond.laysFinal "OrderBenchModel" "OrderBenchModel" "way" "[[Z") ∈ mw_tb := mw_tb_in (List.mem_append_right _ (List.mem_of_getElem? (i := 391) (by decide +kernel))) (by decide +kernel)
theorem tb_393 : (Cond.laysFinal "OrderBenchModel" "OrderBenchModel" "away" "[I") ∈ mw_tb := mw_tb_in (List.mem_append_right _ (List.mem_of_getElem? (i := 393) (by decide +kernel))) (by decide +kernel)
theorem tb_395 : (Cond.laysFinal "OrderBenchModel" "OrderBenchModel" "reached" "[[Z") ∈ mw_tb := mw_tb_in (List.mem_append_right _ (List.mem_of_getElem? (i := 395) (by decide +kernel))) (by decide +kernel)
theorem tb_397 : (Cond.laysFinal "OrderBenchModel" "OrderBenchModel" "order" "[I") ∈ mw_tb := mw_tb_in (List.mem_append_right _ (List.mem_of_getElem? (i := 397) (by decide +kernel))) (by decide +kernel)
theorem tb_399 : (Cond.laysFinal "OrderBenchModel" "OrderBenchModel" "placed" "[Z") ∈ mw_tb := mw_tb_in (List.mem_append_right _ (List.mem_of_getElem? (i := 399) (by decide +kernel))) (by decide +kernel)
theorem tb_401 : (Cond.laysFinal "OrderBenchModel" "OrderBenchModel" "measure" "[I") ∈ mw_tb := mw_tb_in (List.mem_append_right _ (List.mem_of_getElem? (i := 401) (by decide +kernel))) (by decide +kernel)
theorem uw_md : ∀ w ∈ u_ws "OrderBenchModel" T_md 8, w ∈ mw_tb := by
  intro w hw
  have e : u_ws "OrderBenchModel" T_md 8 = [(Cond.lays "OrderBenchModel" "OrderBenchModel" "thrown" "I"), (Cond.lays "OrderBenchModel" "OrderBenchModel" "n" "I"), (Cond.laysFinal "OrderBenchModel" "OrderBenchModel" "way" "[[Z"), (Cond.laysFinal "OrderBenchModel" "OrderBenchModel" "away" "[I"), (Cond.laysFinal "OrderBenchModel" "OrderBenchModel" "reached" "[[Z"), (Cond.laysFinal "OrderBenchModel" "OrderBenchModel" "order" "[I"), (Cond.laysFinal "OrderBenchModel" "OrderBenchModel" "placed" "[Z"), (Cond.laysFinal "OrderBenchModel" "OrderBenchModel" "measure" "[I")] := by decide +kernel
  rw [e] at hw
  simp only [List.mem_cons, List.not_mem_nil, or_false] at hw
  rcases hw with rfl | rfl | rfl | rfl | rfl | rfl | rfl | rfl
  · exact tb_387
  · exact tb_389
  · exact tb_391
  · exact tb_393
  · exact tb_395
  · exact tb_397
  · exact tb_399
  · exact tb_401
theorem tn_md : ∀ a, a < 8 → ∀ b, b < 8 → a ≠ b → (T_md a).2.1 ≠ (T_md b).2.1 := by decide +kernel
theorem tp_md : ∀ k, k < 8 → parseFieldDescriptor (T_md k).2.2.1 = some (ty_md k) := by decide +kernel
theorem tb_28 : (Cond.fieldLink "OrderBench$PlaceSet" (15 : Nat) "OrderBench$PlaceSet" "low" "J") ∈ mw_tb := mw_tb_in (List.mem_append_right _ (List.mem_of_getElem? (i := 28) (by decide +kernel))) (by decide +kernel)
theorem fl_ps_low : mw_fl "OrderBench$PlaceSet" 15 0 0 := ⟨"OrderBench$PlaceSet", T_ps, 2, rfl, Nat.le_of_ble_eq_true rfl, uw_ps, rfl, tb_28⟩
theorem fp_ps_low : mw_fp "OrderBench$PlaceSet" 15 0 0 (.long) false := ⟨"OrderBench$PlaceSet", T_ps, 2, ty_ps, rfl, Nat.le_of_ble_eq_true rfl, uw_ps, rfl, tb_28, tp_ps, tn_ps, rfl, rfl⟩
theorem tb_29 : (Cond.fieldLink "OrderBench$PlaceSet" (23 : Nat) "OrderBench$PlaceSet" "high" "J") ∈ mw_tb := mw_tb_in (List.mem_append_right _ (List.mem_of_getElem? (i := 29) (by decide +kernel))) (by decide +kernel)
theorem fl_ps_high : mw_fl "OrderBench$PlaceSet" 23 0 1 := ⟨"OrderBench$PlaceSet", T_ps, 2, rfl, Nat.le_of_ble_eq_true rfl, uw_ps, rfl, tb_29⟩
theorem fp_ps_high : mw_fp "OrderBench$PlaceSet" 23 0 1 (.long) false := ⟨"OrderBench$PlaceSet", T_ps, 2, ty_ps, rfl, Nat.le_of_ble_eq_true rfl, uw_ps, rfl, tb_29, tp_ps, tn_ps, rfl, rfl⟩
theorem tb_35 : (Cond.fieldLink "OrderBench" (9 : Nat) "OrderBench" "size" "I") ∈ mw_tb := mw_tb_in (List.mem_append_right _ (List.mem_of_getElem? (i := 35) (by decide +kernel))) (by decide +kernel)
theorem fl_ob_size : mw_fl "OrderBench" 9 1 0 := ⟨"OrderBench", T_ob, 10, rfl, Nat.le_of_ble_eq_true rfl, uw_ob, rfl, tb_35⟩
theorem fp_ob_size : mw_fp "OrderBench" 9 1 0 (.int) false := ⟨"OrderBench", T_ob, 10, ty_ob, rfl, Nat.le_of_ble_eq_true rfl, uw_ob, rfl, tb_35, tp_ob, tn_ob, rfl, rfl⟩
theorem tb_36 : (Cond.fieldLink "OrderBench" (15 : Nat) "OrderBench" "out" "[LOrderBench$PlaceSet;") ∈ mw_tb := mw_tb_in (List.mem_append_right _ (List.mem_of_getElem? (i := 36) (by decide +kernel))) (by decide +kernel)
theorem fl_ob_out : mw_fl "OrderBench" 15 1 1 := ⟨"OrderBench", T_ob, 10, rfl, Nat.le_of_ble_eq_true rfl, uw_ob, rfl, tb_36⟩
theorem fp_ob_out : mw_fp "OrderBench" 15 1 1 (.array (.object "OrderBench$PlaceSet")) true := ⟨"OrderBench", T_ob, 10, ty_ob, rfl, Nat.le_of_ble_eq_true rfl, uw_ob, rfl, tb_36, tp_ob, tn_ob, rfl, rfl⟩
theorem tb_37 : (Cond.fieldLink "OrderBench" (19 : Nat) "OrderBench" "into" "[LOrderBench$PlaceSet;") ∈ mw_tb := mw_tb_in (List.mem_append_right _ (List.mem_of_getElem? (i := 37) (by decide +kernel))) (by decide +kernel)
theorem fl_ob_into : mw_fl "OrderBench" 19 1 2 := ⟨"OrderBench", T_ob, 10, rfl, Nat.le_of_ble_eq_true rfl, uw_ob, rfl, tb_37⟩
theorem fp_ob_into : mw_fp "OrderBench" 19 1 2 (.array (.object "OrderBench$PlaceSet")) true := ⟨"OrderBench", T_ob, 10, ty_ob, rfl, Nat.le_of_ble_eq_true rfl, uw_ob, rfl, tb_37, tp_ob, tn_ob, rfl, rfl⟩
theorem tb_38 : (Cond.fieldLink "OrderBench" (23 : Nat) "OrderBench" "reached" "LOrderBench$PlaceSet;") ∈ mw_tb := mw_tb_in (List.mem_append_right _ (List.mem_of_getElem? (i := 38) (by decide +kernel))) (by decide +kernel)
theorem fl_ob_reached : mw_fl "OrderBench" 23 1 3 := ⟨"OrderBench", T_ob, 10, rfl, Nat.le_of_ble_eq_true rfl, uw_ob, rfl, tb_38⟩
theorem fp_ob_reached : mw_fp "OrderBench" 23 1 3 (.object "OrderBench$PlaceSet") true := ⟨"OrderBench", T_ob, 10, ty_ob, rfl, Nat.le_of_ble_eq_true rfl, uw_ob, rfl, tb_38, tp_ob, tn_ob, rfl, rfl⟩
theorem tb_39 : (Cond.fieldLink "OrderBench" (27 : Nat) "OrderBench" "rim" "LOrderBench$PlaceSet;") ∈ mw_tb := mw_tb_in (List.mem_append_right _ (List.mem_of_getElem? (i := 39) (by decide +kernel))) (by decide +kernel)
theorem fl_ob_rim : mw_fl "OrderBench" 27 1 4 := ⟨"OrderBench", T_ob, 10, rfl, Nat.le_of_ble_eq_true rfl, uw_ob, rfl, tb_39⟩
theorem fp_ob_rim : mw_fp "OrderBench" 27 1 4 (.object "OrderBench$PlaceSet") true := ⟨"OrderBench", T_ob, 10, ty_ob, rfl, Nat.le_of_ble_eq_true rfl, uw_ob, rfl, tb_39, tp_ob, tn_ob, rfl, rfl⟩
theorem tb_40 : (Cond.fieldLink "OrderBench" (30 : Nat) "OrderBench" "fresh" "LOrderBench$PlaceSet;") ∈ mw_tb := mw_tb_in (List.mem_append_right _ (List.mem_of_getElem? (i := 40) (by decide +kernel))) (by decide +kernel)
theorem fl_ob_fresh : mw_fl "OrderBench" 30 1 5 := ⟨"OrderBench", T_ob, 10, rfl, Nat.le_of_ble_eq_true rfl, uw_ob, rfl, tb_40⟩
theorem fp_ob_fresh : mw_fp "OrderBench" 30 1 5 (.object "OrderBench$PlaceSet") true := ⟨"OrderBench", T_ob, 10, ty_ob, rfl, Nat.le_of_ble_eq_true rfl, uw_ob, rfl, tb_40, tp_ob, tn_ob, rfl, rfl⟩
theorem tb_41 : (Cond.fieldLink "OrderBench" (33 : Nat) "OrderBench" "kept" "LOrderBench$PlaceSet;") ∈ mw_tb := mw_tb_in (List.mem_append_right _ (List.mem_of_getElem? (i := 41) (by decide +kernel))) (by decide +kernel)
theorem fl_ob_kept : mw_fl "OrderBench" 33 1 6 := ⟨"OrderBench", T_ob, 10, rfl, Nat.le_of_ble_eq_true rfl, uw_ob, rfl, tb_41⟩
theorem fp_ob_kept : mw_fp "OrderBench" 33 1 6 (.object "OrderBench$PlaceSet") true := ⟨"OrderBench", T_ob, 10, ty_ob, rfl, Nat.le_of_ble_eq_true rfl, uw_ob, rfl, tb_41, tp_ob, tn_ob, rfl, rfl⟩
theorem tb_42 : (Cond.fieldLink "OrderBench" (36 : Nat) "OrderBench" "line" "[I") ∈ mw_tb := mw_tb_in (List.mem_append_right _ (List.mem_of_getElem? (i := 42) (by decide +kernel))) (by decide +kernel)
theorem fl_ob_line : mw_fl "OrderBench" 36 1 7 := ⟨"OrderBench", T_ob, 10, rfl, Nat.le_of_ble_eq_true rfl, uw_ob, rfl, tb_42⟩
theorem fp_ob_line : mw_fp "OrderBench" 36 1 7 (.array .int) true := ⟨"OrderBench", T_ob, 10, ty_ob, rfl, Nat.le_of_ble_eq_true rfl, uw_ob, rfl, tb_42, tp_ob, tn_ob, rfl, rfl⟩
theorem tb_43 : (Cond.fieldLink "OrderBench" (40 : Nat) "OrderBench" "waiting" "[I") ∈ mw_tb := mw_tb_in (List.mem_append_right _ (List.mem_of_getElem? (i := 43) (by decide +kernel))) (by decide +kernel)
theorem fl_ob_waiting : mw_fl "OrderBench" 40 1 8 := ⟨"OrderBench", T_ob, 10, rfl, Nat.le_of_ble_eq_true rfl, uw_ob, rfl, tb_43⟩
theorem fp_ob_waiting : mw_fp "OrderBench" 40 1 8 (.array .int) true := ⟨"OrderBench", T_ob, 10, ty_ob, rfl, Nat.le_of_ble_eq_true rfl, uw_ob, rfl, tb_43, tp_ob, tn_ob, rfl, rfl⟩
theorem tb_44 : (Cond.fieldLink "OrderBench" (43 : Nat) "OrderBench" "tally" "[I") ∈ mw_tb := mw_tb_in (List.mem_append_right _ (List.mem_of_getElem? (i := 44) (by decide +kernel))) (by decide +kernel)
theorem fl_ob_tally : mw_fl "OrderBench" 43 1 9 := ⟨"OrderBench", T_ob, 10, rfl, Nat.le_of_ble_eq_true rfl, uw_ob, rfl, tb_44⟩
theorem fp_ob_tally : mw_fp "OrderBench" 43 1 9 (.array .int) true := ⟨"OrderBench", T_ob, 10, ty_ob, rfl, Nat.le_of_ble_eq_true rfl, uw_ob, rfl, tb_44, tp_ob, tn_ob, rfl, rfl⟩
theorem tb_379 : (Cond.fieldLink "OrderBenchModel" (7 : Nat) "OrderBenchModel" "thrown" "I") ∈ mw_tb := mw_tb_in (List.mem_append_right _ (List.mem_of_getElem? (i := 379) (by decide +kernel))) (by decide +kernel)
theorem fl_md_thrown : mw_fl "OrderBenchModel" 7 2 0 := ⟨"OrderBenchModel", T_md, 8, rfl, Nat.le_of_ble_eq_true rfl, uw_md, rfl, tb_379⟩
theorem fp_md_thrown : mw_fp "OrderBenchModel" 7 2 0 (.int) false := ⟨"OrderBenchModel", T_md, 8, ty_md, rfl, Nat.le_of_ble_eq_true rfl, uw_md, rfl, tb_379, tp_md, tn_md, rfl, rfl⟩
theorem tb_380 : (Cond.fieldLink "OrderBenchModel" (13 : Nat) "OrderBenchModel" "n" "I") ∈ mw_tb := mw_tb_in (List.mem_append_right _ (List.mem_of_getElem? (i := 380) (by decide +kernel))) (by decide +kernel)
theorem fl_md_n : mw_fl "OrderBenchModel" 13 2 1 := ⟨"OrderBenchModel", T_md, 8, rfl, Nat.le_of_ble_eq_true rfl, uw_md, rfl, tb_380⟩
theorem fp_md_n : mw_fp "OrderBenchModel" 13 2 1 (.int) false := ⟨"OrderBenchModel", T_md, 8, ty_md, rfl, Nat.le_of_ble_eq_true rfl, uw_md, rfl, tb_380, tp_md, tn_md, rfl, rfl⟩
theorem tb_381 : (Cond.fieldLink "OrderBenchModel" (18 : Nat) "OrderBenchModel" "way" "[[Z") ∈ mw_tb := mw_tb_in (List.mem_append_right _ (List.mem_of_getElem? (i := 381) (by decide +kernel))) (by decide +kernel)
theorem fl_md_way : mw_fl "OrderBenchModel" 18 2 2 := ⟨"OrderBenchModel", T_md, 8, rfl, Nat.le_of_ble_eq_true rfl, uw_md, rfl, tb_381⟩
theorem fp_md_way : mw_fp "OrderBenchModel" 18 2 2 (.array (.array .boolean)) true := ⟨"OrderBenchModel", T_md, 8, ty_md, rfl, Nat.le_of_ble_eq_true rfl, uw_md, rfl, tb_381, tp_md, tn_md, rfl, rfl⟩
theorem tb_382 : (Cond.fieldLink "OrderBenchModel" (21 : Nat) "OrderBenchModel" "away" "[I") ∈ mw_tb := mw_tb_in (List.mem_append_right _ (List.mem_of_getElem? (i := 382) (by decide +kernel))) (by decide +kernel)
theorem fl_md_away : mw_fl "OrderBenchModel" 21 2 3 := ⟨"OrderBenchModel", T_md, 8, rfl, Nat.le_of_ble_eq_true rfl, uw_md, rfl, tb_382⟩
theorem fp_md_away : mw_fp "OrderBenchModel" 21 2 3 (.array .int) true := ⟨"OrderBenchModel", T_md, 8, ty_md, rfl, Nat.le_of_ble_eq_true rfl, uw_md, rfl, tb_382, tp_md, tn_md, rfl, rfl⟩
theorem tb_383 : (Cond.fieldLink "OrderBenchModel" (25 : Nat) "OrderBenchModel" "reached" "[[Z") ∈ mw_tb := mw_tb_in (List.mem_append_right _ (List.mem_of_getElem? (i := 383) (by decide +kernel))) (by decide +kernel)
theorem fl_md_reached : mw_fl "OrderBenchModel" 25 2 4 := ⟨"OrderBenchModel", T_md, 8, rfl, Nat.le_of_ble_eq_true rfl, uw_md, rfl, tb_383⟩
theorem fp_md_reached : mw_fp "OrderBenchModel" 25 2 4 (.array (.array .boolean)) true := ⟨"OrderBenchModel", T_md, 8, ty_md, rfl, Nat.le_of_ble_eq_true rfl, uw_md, rfl, tb_383, tp_md, tn_md, rfl, rfl⟩
theorem tb_384 : (Cond.fieldLink "OrderBenchModel" (28 : Nat) "OrderBenchModel" "order" "[I") ∈ mw_tb := mw_tb_in (List.mem_append_right _ (List.mem_of_getElem? (i := 384) (by decide +kernel))) (by decide +kernel)
theorem fl_md_order : mw_fl "OrderBenchModel" 28 2 5 := ⟨"OrderBenchModel", T_md, 8, rfl, Nat.le_of_ble_eq_true rfl, uw_md, rfl, tb_384⟩
theorem fp_md_order : mw_fp "OrderBenchModel" 28 2 5 (.array .int) true := ⟨"OrderBenchModel", T_md, 8, ty_md, rfl, Nat.le_of_ble_eq_true rfl, uw_md, rfl, tb_384, tp_md, tn_md, rfl, rfl⟩
theorem tb_385 : (Cond.fieldLink "OrderBenchModel" (31 : Nat) "OrderBenchModel" "placed" "[Z") ∈ mw_tb := mw_tb_in (List.mem_append_right _ (List.mem_of_getElem? (i := 385) (by decide +kernel))) (by decide +kernel)
theorem fl_md_placed : mw_fl "OrderBenchModel" 31 2 6 := ⟨"OrderBenchModel", T_md, 8, rfl, Nat.le_of_ble_eq_true rfl, uw_md, rfl, tb_385⟩
theorem fp_md_placed : mw_fp "OrderBenchModel" 31 2 6 (.array .boolean) true := ⟨"OrderBenchModel", T_md, 8, ty_md, rfl, Nat.le_of_ble_eq_true rfl, uw_md, rfl, tb_385, tp_md, tn_md, rfl, rfl⟩
theorem tb_386 : (Cond.fieldLink "OrderBenchModel" (35 : Nat) "OrderBenchModel" "measure" "[I") ∈ mw_tb := mw_tb_in (List.mem_append_right _ (List.mem_of_getElem? (i := 386) (by decide +kernel))) (by decide +kernel)
theorem fl_md_measure : mw_fl "OrderBenchModel" 35 2 7 := ⟨"OrderBenchModel", T_md, 8, rfl, Nat.le_of_ble_eq_true rfl, uw_md, rfl, tb_386⟩
theorem fp_md_measure : mw_fp "OrderBenchModel" 35 2 7 (.array .int) true := ⟨"OrderBenchModel", T_md, 8, ty_md, rfl, Nat.le_of_ble_eq_true rfl, uw_md, rfl, tb_386, tp_md, tn_md, rfl, rfl⟩
theorem tb_26 : (Cond.code (⟨"OrderBench$PlaceSet", "<init>", "()V"⟩ : MethodName) prog_2_method_1_code (1 : Nat) (Option.none : Option FieldType)) ∈ mw_tb := mw_tb_in (List.mem_append_right _ (List.mem_of_getElem? (i := 26) (by decide +kernel))) (by decide +kernel)
theorem tb_2 : (Cond.initialized "OrderBench$PlaceSet") ∈ mw_tb := mw_tb_in (List.mem_append_right _ (List.mem_of_getElem? (i := 2) (by decide +kernel))) (by decide +kernel)
theorem ca_ps_init : mw_cal m_ps_init 0 := ⟨tb_26, tb_2, Nat.le_of_ble_eq_true rfl, by decide +kernel, ⟨by decide +kernel, by decide +kernel⟩, by decide +kernel⟩
theorem tb_25 : (Cond.instanceMethod (⟨"OrderBench$PlaceSet", "<init>", "()V"⟩ : MethodName)) ∈ mw_tb := mw_tb_in (List.mem_append_right _ (List.mem_of_getElem? (i := 25) (by decide +kernel))) (by decide +kernel)
theorem lk_ob_init_ps_init : mw_lkI m_ob_init m_ps_init 22 0 := ⟨ca_ps_init, rfl, rfl, rfl, tb_25, Or.inr ⟨"OrderBench", List.mem_of_getElem? (i := 0) rfl⟩⟩
theorem tb_74 : (Cond.code (⟨"OrderBench", "isOnCircle", "(I)Z"⟩ : MethodName) prog_1_method_19_code (2 : Nat) (Option.some FieldType.boolean)) ∈ mw_tb := mw_tb_in (List.mem_append_right _ (List.mem_of_getElem? (i := 74) (by decide +kernel))) (by decide +kernel)
theorem tb_1 : (Cond.initialized "OrderBench") ∈ mw_tb := mw_tb_in (List.mem_append_right _ (List.mem_of_getElem? (i := 1) (by decide +kernel))) (by decide +kernel)
theorem ca_ob_isOnCircle : mw_cal m_ob_isOnCircle 1 := ⟨tb_74, tb_1, Nat.le_of_ble_eq_true rfl, by decide +kernel, ⟨by decide +kernel, by decide +kernel⟩, by decide +kernel⟩
theorem tb_73 : (Cond.instanceMethod (⟨"OrderBench", "isOnCircle", "(I)Z"⟩ : MethodName)) ∈ mw_tb := mw_tb_in (List.mem_append_right _ (List.mem_of_getElem? (i := 73) (by decide +kernel))) (by decide +kernel)
theorem ts_ob_isOnCircle : Cond.selects "OrderBench" ⟨"OrderBench", "isOnCircle", "(I)Z"⟩ ⟨"OrderBench", "isOnCircle", "(I)Z"⟩ ∈ mw_tb := mw_tb_in (List.mem_append_left _ (List.mem_of_getElem? (i := 0) (by decide +kernel))) (by decide +kernel)
theorem tb_71 : (Cond.methodLink "OrderBench" (70 : Nat) (⟨"OrderBench", "isOnCircle", "(I)Z"⟩ : MethodName)) ∈ mw_tb := mw_tb_in (List.mem_append_right _ (List.mem_of_getElem? (i := 71) (by decide +kernel))) (by decide +kernel)
theorem lk_ob_circle_ob_isOnCircle : mw_lkV m_ob_circle m_ob_isOnCircle 70 1 1 := ⟨ca_ob_isOnCircle, tb_71, tb_73, _, rfl, ts_ob_isOnCircle⟩
theorem tb_78 : (Cond.code (⟨"OrderBench", "search", "([LOrderBench$PlaceSet;III)I"⟩ : MethodName) prog_1_method_17_code (6 : Nat) (Option.some FieldType.int)) ∈ mw_tb := mw_tb_in (List.mem_append_right _ (List.mem_of_getElem? (i := 78) (by decide +kernel))) (by decide +kernel)
theorem ca_ob_search : mw_cal m_ob_search 4 := ⟨tb_78, tb_1, Nat.le_of_ble_eq_true rfl, by decide +kernel, ⟨by decide +kernel, by decide +kernel⟩, by decide +kernel⟩
theorem tb_77 : (Cond.instanceMethod (⟨"OrderBench", "search", "([LOrderBench$PlaceSet;III)I"⟩ : MethodName)) ∈ mw_tb := mw_tb_in (List.mem_append_right _ (List.mem_of_getElem? (i := 77) (by decide +kernel))) (by decide +kernel)
theorem ts_ob_search : Cond.selects "OrderBench" ⟨"OrderBench", "search", "([LOrderBench$PlaceSet;III)I"⟩ ⟨"OrderBench", "search", "([LOrderBench$PlaceSet;III)I"⟩ ∈ mw_tb := mw_tb_in (List.mem_append_left _ (List.mem_of_getElem? (i := 1) (by decide +kernel))) (by decide +kernel)
theorem tb_75 : (Cond.methodLink "OrderBench" (66 : Nat) (⟨"OrderBench", "search", "([LOrderBench$PlaceSet;III)I"⟩ : MethodName)) ∈ mw_tb := mw_tb_in (List.mem_append_right _ (List.mem_of_getElem? (i := 75) (by decide +kernel))) (by decide +kernel)
theorem lk_ob_isOnCircle_ob_search : mw_lkV m_ob_isOnCircle m_ob_search 66 4 1 := ⟨ca_ob_search, tb_75, tb_77, _, rfl, ts_ob_search⟩
theorem tb_134 : (Cond.code (⟨"OrderBench$PlaceSet", "meets", "(LOrderBench$PlaceSet;)Z"⟩ : MethodName) prog_2_method_12_code (2 : Nat) (Option.some FieldType.boolean)) ∈ mw_tb := mw_tb_in (List.mem_append_right _ (List.mem_of_getElem? (i := 134) (by decide +kernel))) (by decide +kernel)
theorem ca_ps_meets : mw_cal m_ps_meets 1 := ⟨tb_134, tb_2, Nat.le_of_ble_eq_true rfl, by decide +kernel, ⟨by decide +kernel, by decide +kernel⟩, by decide +kernel⟩
theorem tb_132 : (Cond.instanceMethod (⟨"OrderBench$PlaceSet", "meets", "(LOrderBench$PlaceSet;)Z"⟩ : MethodName)) ∈ mw_tb := mw_tb_in (List.mem_append_right _ (List.mem_of_getElem? (i := 132) (by decide +kernel))) (by decide +kernel)
theorem tb_133 : (Cond.selects "OrderBench$PlaceSet" (⟨"OrderBench$PlaceSet", "meets", "(LOrderBench$PlaceSet;)Z"⟩ : MethodName) (⟨"OrderBench$PlaceSet", "meets", "(LOrderBench$PlaceSet;)Z"⟩ : MethodName)) ∈ mw_tb := mw_tb_in (List.mem_append_right _ (List.mem_of_getElem? (i := 133) (by decide +kernel))) (by decide +kernel)
theorem tb_131 : (Cond.methodLink "OrderBench" (121 : Nat) (⟨"OrderBench$PlaceSet", "meets", "(LOrderBench$PlaceSet;)Z"⟩ : MethodName)) ∈ mw_tb := mw_tb_in (List.mem_append_right _ (List.mem_of_getElem? (i := 131) (by decide +kernel))) (by decide +kernel)
theorem lk_ob_isOnCircle_ps_meets : mw_lkV m_ob_isOnCircle m_ps_meets 121 1 0 := ⟨ca_ps_meets, tb_131, tb_132, _, rfl, tb_133⟩
theorem tb_82 : (Cond.code (⟨"OrderBench$PlaceSet", "clear", "()V"⟩ : MethodName) prog_2_method_8_code (1 : Nat) (Option.none : Option FieldType)) ∈ mw_tb := mw_tb_in (List.mem_append_right _ (List.mem_of_getElem? (i := 82) (by decide +kernel))) (by decide +kernel)
theorem ca_ps_clear : mw_cal m_ps_clear 0 := ⟨tb_82, tb_2, Nat.le_of_ble_eq_true rfl, by decide +kernel, ⟨by decide +kernel, by decide +kernel⟩, by decide +kernel⟩
theorem tb_80 : (Cond.instanceMethod (⟨"OrderBench$PlaceSet", "clear", "()V"⟩ : MethodName)) ∈ mw_tb := mw_tb_in (List.mem_append_right _ (List.mem_of_getElem? (i := 80) (by decide +kernel))) (by decide +kernel)
theorem tb_81 : (Cond.selects "OrderBench$PlaceSet" (⟨"OrderBench$PlaceSet", "clear", "()V"⟩ : MethodName) (⟨"OrderBench$PlaceSet", "clear", "()V"⟩ : MethodName)) ∈ mw_tb := mw_tb_in (List.mem_append_right _ (List.mem_of_getElem? (i := 81) (by decide +kernel))) (by decide +kernel)
theorem tb_79 : (Cond.methodLink "OrderBench" (49 : Nat) (⟨"OrderBench$PlaceSet", "clear", "()V"⟩ : MethodName)) ∈ mw_tb := mw_tb_in (List.mem_append_right _ (List.mem_of_getElem? (i := 79) (by decide +kernel))) (by decide +kernel)
theorem lk_ob_search_ps_clear : mw_lkV m_ob_search m_ps_clear 49 0 0 := ⟨ca_ps_clear, tb_79, tb_80, _, rfl, tb_81⟩
theorem tb_86 : (Cond.code (⟨"OrderBench$PlaceSet", "add", "(I)V"⟩ : MethodName) prog_2_method_6_code (2 : Nat) (Option.none : Option FieldType)) ∈ mw_tb := mw_tb_in (List.mem_append_right _ (List.mem_of_getElem? (i := 86) (by decide +kernel))) (by decide +kernel)
theorem ca_ps_add : mw_cal m_ps_add 1 := ⟨tb_86, tb_2, Nat.le_of_ble_eq_true rfl, by decide +kernel, ⟨by decide +kernel, by decide +kernel⟩, by decide +kernel⟩
theorem tb_84 : (Cond.instanceMethod (⟨"OrderBench$PlaceSet", "add", "(I)V"⟩ : MethodName)) ∈ mw_tb := mw_tb_in (List.mem_append_right _ (List.mem_of_getElem? (i := 84) (by decide +kernel))) (by decide +kernel)
theorem tb_85 : (Cond.selects "OrderBench$PlaceSet" (⟨"OrderBench$PlaceSet", "add", "(I)V"⟩ : MethodName) (⟨"OrderBench$PlaceSet", "add", "(I)V"⟩ : MethodName)) ∈ mw_tb := mw_tb_in (List.mem_append_right _ (List.mem_of_getElem? (i := 85) (by decide +kernel))) (by decide +kernel)
theorem tb_83 : (Cond.methodLink "OrderBench" (60 : Nat) (⟨"OrderBench$PlaceSet", "add", "(I)V"⟩ : MethodName)) ∈ mw_tb := mw_tb_in (List.mem_append_right _ (List.mem_of_getElem? (i := 83) (by decide +kernel))) (by decide +kernel)
theorem lk_ob_search_ps_add : mw_lkV m_ob_search m_ps_add 60 1 0 := ⟨ca_ps_add, tb_83, tb_84, _, rfl, tb_85⟩
theorem tb_96 : (Cond.code (⟨"OrderBench$PlaceSet", "has", "(I)Z"⟩ : MethodName) prog_2_method_5_code (2 : Nat) (Option.some FieldType.boolean)) ∈ mw_tb := mw_tb_in (List.mem_append_right _ (List.mem_of_getElem? (i := 96) (by decide +kernel))) (by decide +kernel)
theorem ca_ps_has : mw_cal m_ps_has 1 := ⟨tb_96, tb_2, Nat.le_of_ble_eq_true rfl, by decide +kernel, ⟨by decide +kernel, by decide +kernel⟩, by decide +kernel⟩
theorem tb_94 : (Cond.instanceMethod (⟨"OrderBench$PlaceSet", "has", "(I)Z"⟩ : MethodName)) ∈ mw_tb := mw_tb_in (List.mem_append_right _ (List.mem_of_getElem? (i := 94) (by decide +kernel))) (by decide +kernel)
theorem tb_95 : (Cond.selects "OrderBench$PlaceSet" (⟨"OrderBench$PlaceSet", "has", "(I)Z"⟩ : MethodName) (⟨"OrderBench$PlaceSet", "has", "(I)Z"⟩ : MethodName)) ∈ mw_tb := mw_tb_in (List.mem_append_right _ (List.mem_of_getElem? (i := 95) (by decide +kernel))) (by decide +kernel)
theorem tb_93 : (Cond.methodLink "OrderBench" (56 : Nat) (⟨"OrderBench$PlaceSet", "has", "(I)Z"⟩ : MethodName)) ∈ mw_tb := mw_tb_in (List.mem_append_right _ (List.mem_of_getElem? (i := 93) (by decide +kernel))) (by decide +kernel)
theorem lk_ob_search_ps_has : mw_lkV m_ob_search m_ps_has 56 1 0 := ⟨ca_ps_has, tb_93, tb_94, _, rfl, tb_95⟩
theorem tb_100 : (Cond.code (⟨"OrderBench", "moveRim", "([LOrderBench$PlaceSet;I)V"⟩ : MethodName) prog_1_method_18_code (4 : Nat) (Option.none : Option FieldType)) ∈ mw_tb := mw_tb_in (List.mem_append_right _ (List.mem_of_getElem? (i := 100) (by decide +kernel))) (by decide +kernel)
theorem ca_ob_moveRim : mw_cal m_ob_moveRim 2 := ⟨tb_100, tb_1, Nat.le_of_ble_eq_true rfl, by decide +kernel, ⟨by decide +kernel, by decide +kernel⟩, by decide +kernel⟩
theorem tb_99 : (Cond.instanceMethod (⟨"OrderBench", "moveRim", "([LOrderBench$PlaceSet;I)V"⟩ : MethodName)) ∈ mw_tb := mw_tb_in (List.mem_append_right _ (List.mem_of_getElem? (i := 99) (by decide +kernel))) (by decide +kernel)
theorem ts_ob_moveRim : Cond.selects "OrderBench" ⟨"OrderBench", "moveRim", "([LOrderBench$PlaceSet;I)V"⟩ ⟨"OrderBench", "moveRim", "([LOrderBench$PlaceSet;I)V"⟩ ∈ mw_tb := mw_tb_in (List.mem_append_left _ (List.mem_of_getElem? (i := 2) (by decide +kernel))) (by decide +kernel)
theorem tb_97 : (Cond.methodLink "OrderBench" (103 : Nat) (⟨"OrderBench", "moveRim", "([LOrderBench$PlaceSet;I)V"⟩ : MethodName)) ∈ mw_tb := mw_tb_in (List.mem_append_right _ (List.mem_of_getElem? (i := 97) (by decide +kernel))) (by decide +kernel)
theorem lk_ob_search_ob_moveRim : mw_lkV m_ob_search m_ob_moveRim 103 2 1 := ⟨ca_ob_moveRim, tb_97, tb_99, _, rfl, ts_ob_moveRim⟩
theorem tb_130 : (Cond.code (⟨"OrderBench$PlaceSet", "isEmpty", "()Z"⟩ : MethodName) prog_2_method_13_code (1 : Nat) (Option.some FieldType.boolean)) ∈ mw_tb := mw_tb_in (List.mem_append_right _ (List.mem_of_getElem? (i := 130) (by decide +kernel))) (by decide +kernel)
theorem ca_ps_isEmpty : mw_cal m_ps_isEmpty 0 := ⟨tb_130, tb_2, Nat.le_of_ble_eq_true rfl, by decide +kernel, ⟨by decide +kernel, by decide +kernel⟩, by decide +kernel⟩
theorem tb_128 : (Cond.instanceMethod (⟨"OrderBench$PlaceSet", "isEmpty", "()Z"⟩ : MethodName)) ∈ mw_tb := mw_tb_in (List.mem_append_right _ (List.mem_of_getElem? (i := 128) (by decide +kernel))) (by decide +kernel)
theorem tb_129 : (Cond.selects "OrderBench$PlaceSet" (⟨"OrderBench$PlaceSet", "isEmpty", "()Z"⟩ : MethodName) (⟨"OrderBench$PlaceSet", "isEmpty", "()Z"⟩ : MethodName)) ∈ mw_tb := mw_tb_in (List.mem_append_right _ (List.mem_of_getElem? (i := 129) (by decide +kernel))) (by decide +kernel)
theorem tb_127 : (Cond.methodLink "OrderBench" (107 : Nat) (⟨"OrderBench$PlaceSet", "isEmpty", "()Z"⟩ : MethodName)) ∈ mw_tb := mw_tb_in (List.mem_append_right _ (List.mem_of_getElem? (i := 127) (by decide +kernel))) (by decide +kernel)
theorem lk_ob_search_ps_isEmpty : mw_lkV m_ob_search m_ps_isEmpty 107 0 0 := ⟨ca_ps_isEmpty, tb_127, tb_128, _, rfl, tb_129⟩
theorem tb_89 : (Cond.code (⟨"OrderBench$PlaceSet", "lowBit", "(I)J"⟩ : MethodName) prog_2_method_2_code (1 : Nat) (Option.some FieldType.long)) ∈ mw_tb := mw_tb_in (List.mem_append_right _ (List.mem_of_getElem? (i := 89) (by decide +kernel))) (by decide +kernel)
theorem ca_ps_lowBit : mw_cal m_ps_lowBit 1 := ⟨tb_89, tb_2, Nat.le_of_ble_eq_true rfl, by decide +kernel, ⟨by decide +kernel, by decide +kernel⟩, by decide +kernel⟩
theorem tb_88 : (Cond.static (⟨"OrderBench$PlaceSet", "lowBit", "(I)J"⟩ : MethodName)) ∈ mw_tb := mw_tb_in (List.mem_append_right _ (List.mem_of_getElem? (i := 88) (by decide +kernel))) (by decide +kernel)
theorem tb_87 : (Cond.methodLink "OrderBench$PlaceSet" (19 : Nat) (⟨"OrderBench$PlaceSet", "lowBit", "(I)J"⟩ : MethodName)) ∈ mw_tb := mw_tb_in (List.mem_append_right _ (List.mem_of_getElem? (i := 87) (by decide +kernel))) (by decide +kernel)
theorem lk_ps_add_ps_lowBit : mw_lkS m_ps_add m_ps_lowBit 19 1 := ⟨ca_ps_lowBit, tb_87, tb_88⟩
theorem tb_92 : (Cond.code (⟨"OrderBench$PlaceSet", "highBit", "(I)J"⟩ : MethodName) prog_2_method_3_code (1 : Nat) (Option.some FieldType.long)) ∈ mw_tb := mw_tb_in (List.mem_append_right _ (List.mem_of_getElem? (i := 92) (by decide +kernel))) (by decide +kernel)
theorem ca_ps_highBit : mw_cal m_ps_highBit 1 := ⟨tb_92, tb_2, Nat.le_of_ble_eq_true rfl, by decide +kernel, ⟨by decide +kernel, by decide +kernel⟩, by decide +kernel⟩
theorem tb_91 : (Cond.static (⟨"OrderBench$PlaceSet", "highBit", "(I)J"⟩ : MethodName)) ∈ mw_tb := mw_tb_in (List.mem_append_right _ (List.mem_of_getElem? (i := 91) (by decide +kernel))) (by decide +kernel)
theorem tb_90 : (Cond.methodLink "OrderBench$PlaceSet" (26 : Nat) (⟨"OrderBench$PlaceSet", "highBit", "(I)J"⟩ : MethodName)) ∈ mw_tb := mw_tb_in (List.mem_append_right _ (List.mem_of_getElem? (i := 90) (by decide +kernel))) (by decide +kernel)
theorem lk_ps_add_ps_highBit : mw_lkS m_ps_add m_ps_highBit 26 1 := ⟨ca_ps_highBit, tb_90, tb_91⟩
theorem lk_ps_has_ps_lowBit : mw_lkS m_ps_has m_ps_lowBit 19 1 := ⟨ca_ps_lowBit, tb_87, tb_88⟩
theorem lk_ps_has_ps_highBit : mw_lkS m_ps_has m_ps_highBit 26 1 := ⟨ca_ps_highBit, tb_90, tb_91⟩
theorem lk_ob_moveRim_ps_clear : mw_lkV m_ob_moveRim m_ps_clear 49 0 0 := ⟨ca_ps_clear, tb_79, tb_80, _, rfl, tb_81⟩
theorem tb_104 : (Cond.code (⟨"OrderBench$PlaceSet", "next", "(I)I"⟩ : MethodName) prog_2_method_15_code (6 : Nat) (Option.some FieldType.int)) ∈ mw_tb := mw_tb_in (List.mem_append_right _ (List.mem_of_getElem? (i := 104) (by decide +kernel))) (by decide +kernel)
theorem ca_ps_next : mw_cal m_ps_next 1 := ⟨tb_104, tb_2, Nat.le_of_ble_eq_true rfl, by decide +kernel, ⟨by decide +kernel, by decide +kernel⟩, by decide +kernel⟩
theorem tb_102 : (Cond.instanceMethod (⟨"OrderBench$PlaceSet", "next", "(I)I"⟩ : MethodName)) ∈ mw_tb := mw_tb_in (List.mem_append_right _ (List.mem_of_getElem? (i := 102) (by decide +kernel))) (by decide +kernel)
theorem tb_103 : (Cond.selects "OrderBench$PlaceSet" (⟨"OrderBench$PlaceSet", "next", "(I)I"⟩ : MethodName) (⟨"OrderBench$PlaceSet", "next", "(I)I"⟩ : MethodName)) ∈ mw_tb := mw_tb_in (List.mem_append_right _ (List.mem_of_getElem? (i := 103) (by decide +kernel))) (by decide +kernel)
theorem tb_101 : (Cond.methodLink "OrderBench" (111 : Nat) (⟨"OrderBench$PlaceSet", "next", "(I)I"⟩ : MethodName)) ∈ mw_tb := mw_tb_in (List.mem_append_right _ (List.mem_of_getElem? (i := 101) (by decide +kernel))) (by decide +kernel)
theorem lk_ob_moveRim_ps_next : mw_lkV m_ob_moveRim m_ps_next 111 1 0 := ⟨ca_ps_next, tb_101, tb_102, _, rfl, tb_103⟩
theorem tb_117 : (Cond.code (⟨"OrderBench$PlaceSet", "addAllOf", "(LOrderBench$PlaceSet;)V"⟩ : MethodName) prog_2_method_9_code (2 : Nat) (Option.none : Option FieldType)) ∈ mw_tb := mw_tb_in (List.mem_append_right _ (List.mem_of_getElem? (i := 117) (by decide +kernel))) (by decide +kernel)
theorem ca_ps_addAllOf : mw_cal m_ps_addAllOf 1 := ⟨tb_117, tb_2, Nat.le_of_ble_eq_true rfl, by decide +kernel, ⟨by decide +kernel, by decide +kernel⟩, by decide +kernel⟩
theorem tb_115 : (Cond.instanceMethod (⟨"OrderBench$PlaceSet", "addAllOf", "(LOrderBench$PlaceSet;)V"⟩ : MethodName)) ∈ mw_tb := mw_tb_in (List.mem_append_right _ (List.mem_of_getElem? (i := 115) (by decide +kernel))) (by decide +kernel)
theorem tb_116 : (Cond.selects "OrderBench$PlaceSet" (⟨"OrderBench$PlaceSet", "addAllOf", "(LOrderBench$PlaceSet;)V"⟩ : MethodName) (⟨"OrderBench$PlaceSet", "addAllOf", "(LOrderBench$PlaceSet;)V"⟩ : MethodName)) ∈ mw_tb := mw_tb_in (List.mem_append_right _ (List.mem_of_getElem? (i := 116) (by decide +kernel))) (by decide +kernel)
theorem tb_114 : (Cond.methodLink "OrderBench" (114 : Nat) (⟨"OrderBench$PlaceSet", "addAllOf", "(LOrderBench$PlaceSet;)V"⟩ : MethodName)) ∈ mw_tb := mw_tb_in (List.mem_append_right _ (List.mem_of_getElem? (i := 114) (by decide +kernel))) (by decide +kernel)
theorem lk_ob_moveRim_ps_addAllOf : mw_lkV m_ob_moveRim m_ps_addAllOf 114 1 0 := ⟨ca_ps_addAllOf, tb_114, tb_115, _, rfl, tb_116⟩
theorem tb_121 : (Cond.code (⟨"OrderBench$PlaceSet", "removeAllOf", "(LOrderBench$PlaceSet;)V"⟩ : MethodName) prog_2_method_10_code (2 : Nat) (Option.none : Option FieldType)) ∈ mw_tb := mw_tb_in (List.mem_append_right _ (List.mem_of_getElem? (i := 121) (by decide +kernel))) (by decide +kernel)
theorem ca_ps_removeAllOf : mw_cal m_ps_removeAllOf 1 := ⟨tb_121, tb_2, Nat.le_of_ble_eq_true rfl, by decide +kernel, ⟨by decide +kernel, by decide +kernel⟩, by decide +kernel⟩
theorem tb_119 : (Cond.instanceMethod (⟨"OrderBench$PlaceSet", "removeAllOf", "(LOrderBench$PlaceSet;)V"⟩ : MethodName)) ∈ mw_tb := mw_tb_in (List.mem_append_right _ (List.mem_of_getElem? (i := 119) (by decide +kernel))) (by decide +kernel)
theorem tb_120 : (Cond.selects "OrderBench$PlaceSet" (⟨"OrderBench$PlaceSet", "removeAllOf", "(LOrderBench$PlaceSet;)V"⟩ : MethodName) (⟨"OrderBench$PlaceSet", "removeAllOf", "(LOrderBench$PlaceSet;)V"⟩ : MethodName)) ∈ mw_tb := mw_tb_in (List.mem_append_right _ (List.mem_of_getElem? (i := 120) (by decide +kernel))) (by decide +kernel)
theorem tb_118 : (Cond.methodLink "OrderBench" (118 : Nat) (⟨"OrderBench$PlaceSet", "removeAllOf", "(LOrderBench$PlaceSet;)V"⟩ : MethodName)) ∈ mw_tb := mw_tb_in (List.mem_append_right _ (List.mem_of_getElem? (i := 118) (by decide +kernel))) (by decide +kernel)
theorem lk_ob_moveRim_ps_removeAllOf : mw_lkV m_ob_moveRim m_ps_removeAllOf 118 1 0 := ⟨ca_ps_removeAllOf, tb_118, tb_119, _, rfl, tb_120⟩
theorem tb_126 : (Cond.code (⟨"OrderBench$PlaceSet", "remove", "(I)V"⟩ : MethodName) prog_2_method_7_code (2 : Nat) (Option.none : Option FieldType)) ∈ mw_tb := mw_tb_in (List.mem_append_right _ (List.mem_of_getElem? (i := 126) (by decide +kernel))) (by decide +kernel)
theorem ca_ps_remove : mw_cal m_ps_remove 1 := ⟨tb_126, tb_2, Nat.le_of_ble_eq_true rfl, by decide +kernel, ⟨by decide +kernel, by decide +kernel⟩, by decide +kernel⟩
theorem tb_124 : (Cond.instanceMethod (⟨"OrderBench$PlaceSet", "remove", "(I)V"⟩ : MethodName)) ∈ mw_tb := mw_tb_in (List.mem_append_right _ (List.mem_of_getElem? (i := 124) (by decide +kernel))) (by decide +kernel)
theorem tb_125 : (Cond.selects "OrderBench$PlaceSet" (⟨"OrderBench$PlaceSet", "remove", "(I)V"⟩ : MethodName) (⟨"OrderBench$PlaceSet", "remove", "(I)V"⟩ : MethodName)) ∈ mw_tb := mw_tb_in (List.mem_append_right _ (List.mem_of_getElem? (i := 125) (by decide +kernel))) (by decide +kernel)
theorem tb_123 : (Cond.methodLink "OrderBench" (63 : Nat) (⟨"OrderBench$PlaceSet", "remove", "(I)V"⟩ : MethodName)) ∈ mw_tb := mw_tb_in (List.mem_append_right _ (List.mem_of_getElem? (i := 123) (by decide +kernel))) (by decide +kernel)
theorem lk_ob_moveRim_ps_remove : mw_lkV m_ob_moveRim m_ps_remove 63 1 0 := ⟨ca_ps_remove, tb_123, tb_124, _, rfl, tb_125⟩
theorem lk_ps_next_ps_lowBit : mw_lkS m_ps_next m_ps_lowBit 19 1 := ⟨ca_ps_lowBit, tb_87, tb_88⟩
theorem tb_107 : (Cond.code (⟨"OrderBench$PlaceSet", "lowest", "(J)I"⟩ : MethodName) prog_2_method_4_code (2 : Nat) (Option.some FieldType.int)) ∈ mw_tb := mw_tb_in (List.mem_append_right _ (List.mem_of_getElem? (i := 107) (by decide +kernel))) (by decide +kernel)
theorem ca_ps_lowest : mw_cal m_ps_lowest 1 := ⟨tb_107, tb_2, Nat.le_of_ble_eq_true rfl, by decide +kernel, ⟨by decide +kernel, by decide +kernel⟩, by decide +kernel⟩
theorem tb_106 : (Cond.static (⟨"OrderBench$PlaceSet", "lowest", "(J)I"⟩ : MethodName)) ∈ mw_tb := mw_tb_in (List.mem_append_right _ (List.mem_of_getElem? (i := 106) (by decide +kernel))) (by decide +kernel)
theorem tb_105 : (Cond.methodLink "OrderBench$PlaceSet" (31 : Nat) (⟨"OrderBench$PlaceSet", "lowest", "(J)I"⟩ : MethodName)) ∈ mw_tb := mw_tb_in (List.mem_append_right _ (List.mem_of_getElem? (i := 105) (by decide +kernel))) (by decide +kernel)
theorem lk_ps_next_ps_lowest : mw_lkS m_ps_next m_ps_lowest 31 1 := ⟨ca_ps_lowest, tb_105, tb_106⟩
theorem lk_ps_next_ps_highBit : mw_lkS m_ps_next m_ps_highBit 26 1 := ⟨ca_ps_highBit, tb_90, tb_91⟩
theorem tb_110 : (Cond.code (⟨"java/lang/Long", "bitCount", "(J)I"⟩ : MethodName) prog_8_method_50_code (2 : Nat) (Option.some FieldType.int)) ∈ mw_tb := mw_tb_in (List.mem_append_right _ (List.mem_of_getElem? (i := 110) (by decide +kernel))) (by decide +kernel)
theorem tb_9 : (Cond.initialized "java/lang/Long") ∈ mw_tb := mw_tb_in (List.mem_append_right _ (List.mem_of_getElem? (i := 9) (by decide +kernel))) (by decide +kernel)
theorem ca_jl_bitCount : mw_cal m_jl_bitCount 1 := ⟨tb_110, tb_9, Nat.le_of_ble_eq_true rfl, by decide +kernel, ⟨by decide +kernel, by decide +kernel⟩, by decide +kernel⟩
theorem tb_109 : (Cond.static (⟨"java/lang/Long", "bitCount", "(J)I"⟩ : MethodName)) ∈ mw_tb := mw_tb_in (List.mem_append_right _ (List.mem_of_getElem? (i := 109) (by decide +kernel))) (by decide +kernel)
theorem tb_108 : (Cond.methodLink "OrderBench$PlaceSet" (9 : Nat) (⟨"java/lang/Long", "bitCount", "(J)I"⟩ : MethodName)) ∈ mw_tb := mw_tb_in (List.mem_append_right _ (List.mem_of_getElem? (i := 108) (by decide +kernel))) (by decide +kernel)
theorem lk_ps_lowest_jl_bitCount : mw_lkS m_ps_lowest m_jl_bitCount 9 1 := ⟨ca_jl_bitCount, tb_108, tb_109⟩
theorem lk_ps_remove_ps_lowBit : mw_lkS m_ps_remove m_ps_lowBit 19 1 := ⟨ca_ps_lowBit, tb_87, tb_88⟩
theorem lk_ps_remove_ps_highBit : mw_lkS m_ps_remove m_ps_highBit 26 1 := ⟨ca_ps_highBit, tb_90, tb_91⟩
theorem tb_142 : (Cond.code (⟨"OrderBench", "leastOfGroup", "(I)I"⟩ : MethodName) prog_1_method_20_code (2 : Nat) (Option.some FieldType.int)) ∈ mw_tb := mw_tb_in (List.mem_append_right _ (List.mem_of_getElem? (i := 142) (by decide +kernel))) (by decide +kernel)
theorem ca_ob_leastOfGroup : mw_cal m_ob_leastOfGroup 1 := ⟨tb_142, tb_1, Nat.le_of_ble_eq_true rfl, by decide +kernel, ⟨by decide +kernel, by decide +kernel⟩, by decide +kernel⟩
theorem tb_141 : (Cond.instanceMethod (⟨"OrderBench", "leastOfGroup", "(I)I"⟩ : MethodName)) ∈ mw_tb := mw_tb_in (List.mem_append_right _ (List.mem_of_getElem? (i := 141) (by decide +kernel))) (by decide +kernel)
theorem ts_ob_leastOfGroup : Cond.selects "OrderBench" ⟨"OrderBench", "leastOfGroup", "(I)I"⟩ ⟨"OrderBench", "leastOfGroup", "(I)I"⟩ ∈ mw_tb := mw_tb_in (List.mem_append_left _ (List.mem_of_getElem? (i := 3) (by decide +kernel))) (by decide +kernel)
theorem tb_139 : (Cond.methodLink "OrderBench" (73 : Nat) (⟨"OrderBench", "leastOfGroup", "(I)I"⟩ : MethodName)) ∈ mw_tb := mw_tb_in (List.mem_append_right _ (List.mem_of_getElem? (i := 139) (by decide +kernel))) (by decide +kernel)
theorem lk_ob_groups_ob_leastOfGroup : mw_lkV m_ob_groups m_ob_leastOfGroup 73 1 1 := ⟨ca_ob_leastOfGroup, tb_139, tb_141, _, rfl, ts_ob_leastOfGroup⟩
theorem lk_ob_leastOfGroup_ob_search : mw_lkV m_ob_leastOfGroup m_ob_search 66 4 1 := ⟨ca_ob_search, tb_75, tb_77, _, rfl, ts_ob_search⟩
theorem lk_ob_leastOfGroup_ps_clear : mw_lkV m_ob_leastOfGroup m_ps_clear 49 0 0 := ⟨ca_ps_clear, tb_79, tb_80, _, rfl, tb_81⟩
theorem lk_ob_leastOfGroup_ps_addAllOf : mw_lkV m_ob_leastOfGroup m_ps_addAllOf 114 1 0 := ⟨ca_ps_addAllOf, tb_114, tb_115, _, rfl, tb_116⟩
theorem tb_146 : (Cond.code (⟨"OrderBench$PlaceSet", "keepAllOf", "(LOrderBench$PlaceSet;)V"⟩ : MethodName) prog_2_method_11_code (2 : Nat) (Option.none : Option FieldType)) ∈ mw_tb := mw_tb_in (List.mem_append_right _ (List.mem_of_getElem? (i := 146) (by decide +kernel))) (by decide +kernel)
theorem ca_ps_keepAllOf : mw_cal m_ps_keepAllOf 1 := ⟨tb_146, tb_2, Nat.le_of_ble_eq_true rfl, by decide +kernel, ⟨by decide +kernel, by decide +kernel⟩, by decide +kernel⟩
theorem tb_144 : (Cond.instanceMethod (⟨"OrderBench$PlaceSet", "keepAllOf", "(LOrderBench$PlaceSet;)V"⟩ : MethodName)) ∈ mw_tb := mw_tb_in (List.mem_append_right _ (List.mem_of_getElem? (i := 144) (by decide +kernel))) (by decide +kernel)
theorem tb_145 : (Cond.selects "OrderBench$PlaceSet" (⟨"OrderBench$PlaceSet", "keepAllOf", "(LOrderBench$PlaceSet;)V"⟩ : MethodName) (⟨"OrderBench$PlaceSet", "keepAllOf", "(LOrderBench$PlaceSet;)V"⟩ : MethodName)) ∈ mw_tb := mw_tb_in (List.mem_append_right _ (List.mem_of_getElem? (i := 145) (by decide +kernel))) (by decide +kernel)
theorem tb_143 : (Cond.methodLink "OrderBench" (125 : Nat) (⟨"OrderBench$PlaceSet", "keepAllOf", "(LOrderBench$PlaceSet;)V"⟩ : MethodName)) ∈ mw_tb := mw_tb_in (List.mem_append_right _ (List.mem_of_getElem? (i := 143) (by decide +kernel))) (by decide +kernel)
theorem lk_ob_leastOfGroup_ps_keepAllOf : mw_lkV m_ob_leastOfGroup m_ps_keepAllOf 125 1 0 := ⟨ca_ps_keepAllOf, tb_143, tb_144, _, rfl, tb_145⟩
theorem lk_ob_leastOfGroup_ps_next : mw_lkV m_ob_leastOfGroup m_ps_next 111 1 0 := ⟨ca_ps_next, tb_101, tb_102, _, rfl, tb_103⟩
theorem tb_154 : (Cond.code (⟨"OrderBench", "countWays", "()I"⟩ : MethodName) prog_1_method_26_code (3 : Nat) (Option.some FieldType.int)) ∈ mw_tb := mw_tb_in (List.mem_append_right _ (List.mem_of_getElem? (i := 154) (by decide +kernel))) (by decide +kernel)
theorem ca_ob_countWays : mw_cal m_ob_countWays 0 := ⟨tb_154, tb_1, Nat.le_of_ble_eq_true rfl, by decide +kernel, ⟨by decide +kernel, by decide +kernel⟩, by decide +kernel⟩
theorem tb_153 : (Cond.instanceMethod (⟨"OrderBench", "countWays", "()I"⟩ : MethodName)) ∈ mw_tb := mw_tb_in (List.mem_append_right _ (List.mem_of_getElem? (i := 153) (by decide +kernel))) (by decide +kernel)
theorem ts_ob_countWays : Cond.selects "OrderBench" ⟨"OrderBench", "countWays", "()I"⟩ ⟨"OrderBench", "countWays", "()I"⟩ ∈ mw_tb := mw_tb_in (List.mem_append_left _ (List.mem_of_getElem? (i := 4) (by decide +kernel))) (by decide +kernel)
theorem tb_151 : (Cond.methodLink "OrderBench" (90 : Nat) (⟨"OrderBench", "countWays", "()I"⟩ : MethodName)) ∈ mw_tb := mw_tb_in (List.mem_append_right _ (List.mem_of_getElem? (i := 151) (by decide +kernel))) (by decide +kernel)
theorem lk_ob_count_ob_countWays : mw_lkV m_ob_count m_ob_countWays 90 0 1 := ⟨ca_ob_countWays, tb_151, tb_153, _, rfl, ts_ob_countWays⟩
theorem tb_162 : (Cond.code (⟨"OrderBench", "countWithoutWayTo", "()I"⟩ : MethodName) prog_1_method_27_code (3 : Nat) (Option.some FieldType.int)) ∈ mw_tb := mw_tb_in (List.mem_append_right _ (List.mem_of_getElem? (i := 162) (by decide +kernel))) (by decide +kernel)
theorem ca_ob_countWithoutWayTo : mw_cal m_ob_countWithoutWayTo 0 := ⟨tb_162, tb_1, Nat.le_of_ble_eq_true rfl, by decide +kernel, ⟨by decide +kernel, by decide +kernel⟩, by decide +kernel⟩
theorem tb_161 : (Cond.instanceMethod (⟨"OrderBench", "countWithoutWayTo", "()I"⟩ : MethodName)) ∈ mw_tb := mw_tb_in (List.mem_append_right _ (List.mem_of_getElem? (i := 161) (by decide +kernel))) (by decide +kernel)
theorem ts_ob_countWithoutWayTo : Cond.selects "OrderBench" ⟨"OrderBench", "countWithoutWayTo", "()I"⟩ ⟨"OrderBench", "countWithoutWayTo", "()I"⟩ ∈ mw_tb := mw_tb_in (List.mem_append_left _ (List.mem_of_getElem? (i := 5) (by decide +kernel))) (by decide +kernel)
theorem tb_159 : (Cond.methodLink "OrderBench" (94 : Nat) (⟨"OrderBench", "countWithoutWayTo", "()I"⟩ : MethodName)) ∈ mw_tb := mw_tb_in (List.mem_append_right _ (List.mem_of_getElem? (i := 159) (by decide +kernel))) (by decide +kernel)
theorem lk_ob_count_ob_countWithoutWayTo : mw_lkV m_ob_count m_ob_countWithoutWayTo 94 0 1 := ⟨ca_ob_countWithoutWayTo, tb_159, tb_161, _, rfl, ts_ob_countWithoutWayTo⟩
theorem tb_166 : (Cond.code (⟨"OrderBench", "countOnCircles", "()I"⟩ : MethodName) prog_1_method_28_code (3 : Nat) (Option.some FieldType.int)) ∈ mw_tb := mw_tb_in (List.mem_append_right _ (List.mem_of_getElem? (i := 166) (by decide +kernel))) (by decide +kernel)
theorem ca_ob_countOnCircles : mw_cal m_ob_countOnCircles 0 := ⟨tb_166, tb_1, Nat.le_of_ble_eq_true rfl, by decide +kernel, ⟨by decide +kernel, by decide +kernel⟩, by decide +kernel⟩
theorem tb_165 : (Cond.instanceMethod (⟨"OrderBench", "countOnCircles", "()I"⟩ : MethodName)) ∈ mw_tb := mw_tb_in (List.mem_append_right _ (List.mem_of_getElem? (i := 165) (by decide +kernel))) (by decide +kernel)
theorem ts_ob_countOnCircles : Cond.selects "OrderBench" ⟨"OrderBench", "countOnCircles", "()I"⟩ ⟨"OrderBench", "countOnCircles", "()I"⟩ ∈ mw_tb := mw_tb_in (List.mem_append_left _ (List.mem_of_getElem? (i := 6) (by decide +kernel))) (by decide +kernel)
theorem tb_163 : (Cond.methodLink "OrderBench" (97 : Nat) (⟨"OrderBench", "countOnCircles", "()I"⟩ : MethodName)) ∈ mw_tb := mw_tb_in (List.mem_append_right _ (List.mem_of_getElem? (i := 163) (by decide +kernel))) (by decide +kernel)
theorem lk_ob_count_ob_countOnCircles : mw_lkV m_ob_count m_ob_countOnCircles 97 0 1 := ⟨ca_ob_countOnCircles, tb_163, tb_165, _, rfl, ts_ob_countOnCircles⟩
theorem tb_158 : (Cond.code (⟨"OrderBench$PlaceSet", "size", "()I"⟩ : MethodName) prog_2_method_14_code (1 : Nat) (Option.some FieldType.int)) ∈ mw_tb := mw_tb_in (List.mem_append_right _ (List.mem_of_getElem? (i := 158) (by decide +kernel))) (by decide +kernel)
theorem ca_ps_size : mw_cal m_ps_size 0 := ⟨tb_158, tb_2, Nat.le_of_ble_eq_true rfl, by decide +kernel, ⟨by decide +kernel, by decide +kernel⟩, by decide +kernel⟩
theorem tb_156 : (Cond.instanceMethod (⟨"OrderBench$PlaceSet", "size", "()I"⟩ : MethodName)) ∈ mw_tb := mw_tb_in (List.mem_append_right _ (List.mem_of_getElem? (i := 156) (by decide +kernel))) (by decide +kernel)
theorem tb_157 : (Cond.selects "OrderBench$PlaceSet" (⟨"OrderBench$PlaceSet", "size", "()I"⟩ : MethodName) (⟨"OrderBench$PlaceSet", "size", "()I"⟩ : MethodName)) ∈ mw_tb := mw_tb_in (List.mem_append_right _ (List.mem_of_getElem? (i := 157) (by decide +kernel))) (by decide +kernel)
theorem tb_155 : (Cond.methodLink "OrderBench" (128 : Nat) (⟨"OrderBench$PlaceSet", "size", "()I"⟩ : MethodName)) ∈ mw_tb := mw_tb_in (List.mem_append_right _ (List.mem_of_getElem? (i := 155) (by decide +kernel))) (by decide +kernel)
theorem lk_ob_countWays_ps_size : mw_lkV m_ob_countWays m_ps_size 128 0 0 := ⟨ca_ps_size, tb_155, tb_156, _, rfl, tb_157⟩
theorem lk_ps_size_jl_bitCount : mw_lkS m_ps_size m_jl_bitCount 9 1 := ⟨ca_jl_bitCount, tb_108, tb_109⟩
theorem lk_ob_countWithoutWayTo_ps_isEmpty : mw_lkV m_ob_countWithoutWayTo m_ps_isEmpty 107 0 0 := ⟨ca_ps_isEmpty, tb_127, tb_128, _, rfl, tb_129⟩
theorem lk_ob_countOnCircles_ob_isOnCircle : mw_lkV m_ob_countOnCircles m_ob_isOnCircle 70 1 1 := ⟨ca_ob_isOnCircle, tb_71, tb_73, _, rfl, ts_ob_isOnCircle⟩
theorem tb_174 : (Cond.code (⟨"OrderBench", "places", "(I)I"⟩ : MethodName) prog_1_method_2_code (4 : Nat) (Option.some FieldType.int)) ∈ mw_tb := mw_tb_in (List.mem_append_right _ (List.mem_of_getElem? (i := 174) (by decide +kernel))) (by decide +kernel)
theorem ca_ob_places : mw_cal m_ob_places 1 := ⟨tb_174, tb_1, Nat.le_of_ble_eq_true rfl, by decide +kernel, ⟨by decide +kernel, by decide +kernel⟩, by decide +kernel⟩
theorem tb_172 : (Cond.instanceMethod (⟨"OrderBench", "places", "(I)I"⟩ : MethodName)) ∈ mw_tb := mw_tb_in (List.mem_append_right _ (List.mem_of_getElem? (i := 172) (by decide +kernel))) (by decide +kernel)
theorem tb_173 : (Cond.selects "OrderBench" (⟨"OrderBench", "places", "(I)I"⟩ : MethodName) (⟨"OrderBench", "places", "(I)I"⟩ : MethodName)) ∈ mw_tb := mw_tb_in (List.mem_append_right _ (List.mem_of_getElem? (i := 173) (by decide +kernel))) (by decide +kernel)
theorem tb_171 : (Cond.methodLink "OrderBenchLaw" (7 : Nat) (⟨"OrderBench", "places", "(I)I"⟩ : MethodName)) ∈ mw_tb := mw_tb_in (List.mem_append_right _ (List.mem_of_getElem? (i := 171) (by decide +kernel))) (by decide +kernel)
theorem lk_lw_places_ob_places : mw_lkV m_lw_places m_ob_places 7 1 1 := ⟨ca_ob_places, tb_171, tb_172, _, rfl, tb_173⟩
theorem lk_ob_places_ps_clear : mw_lkV m_ob_places m_ps_clear 49 0 0 := ⟨ca_ps_clear, tb_79, tb_80, _, rfl, tb_81⟩
theorem tb_245 : (Cond.code (⟨"OrderBench", "way", "(II)Z"⟩ : MethodName) prog_1_method_3_code (4 : Nat) (Option.some FieldType.boolean)) ∈ mw_tb := mw_tb_in (List.mem_append_right _ (List.mem_of_getElem? (i := 245) (by decide +kernel))) (by decide +kernel)
theorem ca_ob_way : mw_cal m_ob_way 2 := ⟨tb_245, tb_1, Nat.le_of_ble_eq_true rfl, by decide +kernel, ⟨by decide +kernel, by decide +kernel⟩, by decide +kernel⟩
theorem tb_243 : (Cond.instanceMethod (⟨"OrderBench", "way", "(II)Z"⟩ : MethodName)) ∈ mw_tb := mw_tb_in (List.mem_append_right _ (List.mem_of_getElem? (i := 243) (by decide +kernel))) (by decide +kernel)
theorem tb_244 : (Cond.selects "OrderBench" (⟨"OrderBench", "way", "(II)Z"⟩ : MethodName) (⟨"OrderBench", "way", "(II)Z"⟩ : MethodName)) ∈ mw_tb := mw_tb_in (List.mem_append_right _ (List.mem_of_getElem? (i := 244) (by decide +kernel))) (by decide +kernel)
theorem tb_242 : (Cond.methodLink "OrderBenchLaw" (15 : Nat) (⟨"OrderBench", "way", "(II)Z"⟩ : MethodName)) ∈ mw_tb := mw_tb_in (List.mem_append_right _ (List.mem_of_getElem? (i := 242) (by decide +kernel))) (by decide +kernel)
theorem lk_lw_way_ob_way : mw_lkV m_lw_way m_ob_way 15 2 1 := ⟨ca_ob_way, tb_242, tb_243, _, rfl, tb_244⟩
theorem tb_249 : (Cond.code (⟨"OrderBench", "mustBePlace", "(I)V"⟩ : MethodName) prog_1_method_16_code (2 : Nat) (Option.none : Option FieldType)) ∈ mw_tb := mw_tb_in (List.mem_append_right _ (List.mem_of_getElem? (i := 249) (by decide +kernel))) (by decide +kernel)
theorem ca_ob_mustBePlace : mw_cal m_ob_mustBePlace 1 := ⟨tb_249, tb_1, Nat.le_of_ble_eq_true rfl, by decide +kernel, ⟨by decide +kernel, by decide +kernel⟩, by decide +kernel⟩
theorem tb_248 : (Cond.instanceMethod (⟨"OrderBench", "mustBePlace", "(I)V"⟩ : MethodName)) ∈ mw_tb := mw_tb_in (List.mem_append_right _ (List.mem_of_getElem? (i := 248) (by decide +kernel))) (by decide +kernel)
theorem ts_ob_mustBePlace : Cond.selects "OrderBench" ⟨"OrderBench", "mustBePlace", "(I)V"⟩ ⟨"OrderBench", "mustBePlace", "(I)V"⟩ ∈ mw_tb := mw_tb_in (List.mem_append_left _ (List.mem_of_getElem? (i := 8) (by decide +kernel))) (by decide +kernel)
theorem tb_246 : (Cond.methodLink "OrderBench" (52 : Nat) (⟨"OrderBench", "mustBePlace", "(I)V"⟩ : MethodName)) ∈ mw_tb := mw_tb_in (List.mem_append_right _ (List.mem_of_getElem? (i := 246) (by decide +kernel))) (by decide +kernel)
theorem lk_ob_way_ob_mustBePlace : mw_lkV m_ob_way m_ob_mustBePlace 52 1 1 := ⟨ca_ob_mustBePlace, tb_246, tb_248, _, rfl, ts_ob_mustBePlace⟩
theorem lk_ob_way_ps_has : mw_lkV m_ob_way m_ps_has 56 1 0 := ⟨ca_ps_has, tb_93, tb_94, _, rfl, tb_95⟩
theorem lk_ob_way_ps_add : mw_lkV m_ob_way m_ps_add 60 1 0 := ⟨ca_ps_add, tb_83, tb_84, _, rfl, tb_85⟩
theorem tb_271 : (Cond.code (⟨"OrderBench", "drop", "(II)Z"⟩ : MethodName) prog_1_method_4_code (4 : Nat) (Option.some FieldType.boolean)) ∈ mw_tb := mw_tb_in (List.mem_append_right _ (List.mem_of_getElem? (i := 271) (by decide +kernel))) (by decide +kernel)
theorem ca_ob_drop : mw_cal m_ob_drop 2 := ⟨tb_271, tb_1, Nat.le_of_ble_eq_true rfl, by decide +kernel, ⟨by decide +kernel, by decide +kernel⟩, by decide +kernel⟩
theorem tb_269 : (Cond.instanceMethod (⟨"OrderBench", "drop", "(II)Z"⟩ : MethodName)) ∈ mw_tb := mw_tb_in (List.mem_append_right _ (List.mem_of_getElem? (i := 269) (by decide +kernel))) (by decide +kernel)
theorem tb_270 : (Cond.selects "OrderBench" (⟨"OrderBench", "drop", "(II)Z"⟩ : MethodName) (⟨"OrderBench", "drop", "(II)Z"⟩ : MethodName)) ∈ mw_tb := mw_tb_in (List.mem_append_right _ (List.mem_of_getElem? (i := 270) (by decide +kernel))) (by decide +kernel)
theorem tb_268 : (Cond.methodLink "OrderBenchLaw" (21 : Nat) (⟨"OrderBench", "drop", "(II)Z"⟩ : MethodName)) ∈ mw_tb := mw_tb_in (List.mem_append_right _ (List.mem_of_getElem? (i := 268) (by decide +kernel))) (by decide +kernel)
theorem lk_lw_drop_ob_drop : mw_lkV m_lw_drop m_ob_drop 21 2 1 := ⟨ca_ob_drop, tb_268, tb_269, _, rfl, tb_270⟩
theorem lk_ob_drop_ob_mustBePlace : mw_lkV m_ob_drop m_ob_mustBePlace 52 1 1 := ⟨ca_ob_mustBePlace, tb_246, tb_248, _, rfl, ts_ob_mustBePlace⟩
theorem lk_ob_drop_ps_has : mw_lkV m_ob_drop m_ps_has 56 1 0 := ⟨ca_ps_has, tb_93, tb_94, _, rfl, tb_95⟩
theorem lk_ob_drop_ps_remove : mw_lkV m_ob_drop m_ps_remove 63 1 0 := ⟨ca_ps_remove, tb_123, tb_124, _, rfl, tb_125⟩
theorem tb_278 : (Cond.code (⟨"OrderBench", "reaches", "(II)Z"⟩ : MethodName) prog_1_method_5_code (3 : Nat) (Option.some FieldType.boolean)) ∈ mw_tb := mw_tb_in (List.mem_append_right _ (List.mem_of_getElem? (i := 278) (by decide +kernel))) (by decide +kernel)
theorem ca_ob_reaches : mw_cal m_ob_reaches 2 := ⟨tb_278, tb_1, Nat.le_of_ble_eq_true rfl, by decide +kernel, ⟨by decide +kernel, by decide +kernel⟩, by decide +kernel⟩
theorem tb_276 : (Cond.instanceMethod (⟨"OrderBench", "reaches", "(II)Z"⟩ : MethodName)) ∈ mw_tb := mw_tb_in (List.mem_append_right _ (List.mem_of_getElem? (i := 276) (by decide +kernel))) (by decide +kernel)
theorem tb_277 : (Cond.selects "OrderBench" (⟨"OrderBench", "reaches", "(II)Z"⟩ : MethodName) (⟨"OrderBench", "reaches", "(II)Z"⟩ : MethodName)) ∈ mw_tb := mw_tb_in (List.mem_append_right _ (List.mem_of_getElem? (i := 277) (by decide +kernel))) (by decide +kernel)
theorem tb_275 : (Cond.methodLink "OrderBenchLaw" (24 : Nat) (⟨"OrderBench", "reaches", "(II)Z"⟩ : MethodName)) ∈ mw_tb := mw_tb_in (List.mem_append_right _ (List.mem_of_getElem? (i := 275) (by decide +kernel))) (by decide +kernel)
theorem lk_lw_reaches_ob_reaches : mw_lkV m_lw_reaches m_ob_reaches 24 2 1 := ⟨ca_ob_reaches, tb_275, tb_276, _, rfl, tb_277⟩
theorem lk_ob_reaches_ob_mustBePlace : mw_lkV m_ob_reaches m_ob_mustBePlace 52 1 1 := ⟨ca_ob_mustBePlace, tb_246, tb_248, _, rfl, ts_ob_mustBePlace⟩
theorem lk_ob_reaches_ob_search : mw_lkV m_ob_reaches m_ob_search 66 4 1 := ⟨ca_ob_search, tb_75, tb_77, _, rfl, ts_ob_search⟩
theorem tb_285 : (Cond.code (⟨"OrderBench", "far", "(II)I"⟩ : MethodName) prog_1_method_6_code (3 : Nat) (Option.some FieldType.int)) ∈ mw_tb := mw_tb_in (List.mem_append_right _ (List.mem_of_getElem? (i := 285) (by decide +kernel))) (by decide +kernel)
theorem ca_ob_far : mw_cal m_ob_far 2 := ⟨tb_285, tb_1, Nat.le_of_ble_eq_true rfl, by decide +kernel, ⟨by decide +kernel, by decide +kernel⟩, by decide +kernel⟩
theorem tb_283 : (Cond.instanceMethod (⟨"OrderBench", "far", "(II)I"⟩ : MethodName)) ∈ mw_tb := mw_tb_in (List.mem_append_right _ (List.mem_of_getElem? (i := 283) (by decide +kernel))) (by decide +kernel)
theorem tb_284 : (Cond.selects "OrderBench" (⟨"OrderBench", "far", "(II)I"⟩ : MethodName) (⟨"OrderBench", "far", "(II)I"⟩ : MethodName)) ∈ mw_tb := mw_tb_in (List.mem_append_right _ (List.mem_of_getElem? (i := 284) (by decide +kernel))) (by decide +kernel)
theorem tb_282 : (Cond.methodLink "OrderBenchLaw" (27 : Nat) (⟨"OrderBench", "far", "(II)I"⟩ : MethodName)) ∈ mw_tb := mw_tb_in (List.mem_append_right _ (List.mem_of_getElem? (i := 282) (by decide +kernel))) (by decide +kernel)
theorem lk_lw_far_ob_far : mw_lkV m_lw_far m_ob_far 27 2 1 := ⟨ca_ob_far, tb_282, tb_283, _, rfl, tb_284⟩
theorem lk_ob_far_ob_mustBePlace : mw_lkV m_ob_far m_ob_mustBePlace 52 1 1 := ⟨ca_ob_mustBePlace, tb_246, tb_248, _, rfl, ts_ob_mustBePlace⟩
theorem lk_ob_far_ob_search : mw_lkV m_ob_far m_ob_search 66 4 1 := ⟨ca_ob_search, tb_75, tb_77, _, rfl, ts_ob_search⟩
theorem tb_292 : (Cond.code (⟨"OrderBench", "group", "(I)I"⟩ : MethodName) prog_1_method_8_code (2 : Nat) (Option.some FieldType.int)) ∈ mw_tb := mw_tb_in (List.mem_append_right _ (List.mem_of_getElem? (i := 292) (by decide +kernel))) (by decide +kernel)
theorem ca_ob_group : mw_cal m_ob_group 1 := ⟨tb_292, tb_1, Nat.le_of_ble_eq_true rfl, by decide +kernel, ⟨by decide +kernel, by decide +kernel⟩, by decide +kernel⟩
theorem tb_290 : (Cond.instanceMethod (⟨"OrderBench", "group", "(I)I"⟩ : MethodName)) ∈ mw_tb := mw_tb_in (List.mem_append_right _ (List.mem_of_getElem? (i := 290) (by decide +kernel))) (by decide +kernel)
theorem tb_291 : (Cond.selects "OrderBench" (⟨"OrderBench", "group", "(I)I"⟩ : MethodName) (⟨"OrderBench", "group", "(I)I"⟩ : MethodName)) ∈ mw_tb := mw_tb_in (List.mem_append_right _ (List.mem_of_getElem? (i := 291) (by decide +kernel))) (by decide +kernel)
theorem tb_289 : (Cond.methodLink "OrderBenchLaw" (31 : Nat) (⟨"OrderBench", "group", "(I)I"⟩ : MethodName)) ∈ mw_tb := mw_tb_in (List.mem_append_right _ (List.mem_of_getElem? (i := 289) (by decide +kernel))) (by decide +kernel)
theorem lk_lw_group_ob_group : mw_lkV m_lw_group m_ob_group 31 1 1 := ⟨ca_ob_group, tb_289, tb_290, _, rfl, tb_291⟩
theorem lk_ob_group_ob_mustBePlace : mw_lkV m_ob_group m_ob_mustBePlace 52 1 1 := ⟨ca_ob_mustBePlace, tb_246, tb_248, _, rfl, ts_ob_mustBePlace⟩
theorem lk_ob_group_ob_leastOfGroup : mw_lkV m_ob_group m_ob_leastOfGroup 73 1 1 := ⟨ca_ob_leastOfGroup, tb_139, tb_141, _, rfl, ts_ob_leastOfGroup⟩
theorem tb_300 : (Cond.code (⟨"OrderBench", "order", "(I)I"⟩ : MethodName) prog_1_method_10_code (2 : Nat) (Option.some FieldType.int)) ∈ mw_tb := mw_tb_in (List.mem_append_right _ (List.mem_of_getElem? (i := 300) (by decide +kernel))) (by decide +kernel)
theorem ca_ob_order : mw_cal m_ob_order 1 := ⟨tb_300, tb_1, Nat.le_of_ble_eq_true rfl, by decide +kernel, ⟨by decide +kernel, by decide +kernel⟩, by decide +kernel⟩
theorem tb_298 : (Cond.instanceMethod (⟨"OrderBench", "order", "(I)I"⟩ : MethodName)) ∈ mw_tb := mw_tb_in (List.mem_append_right _ (List.mem_of_getElem? (i := 298) (by decide +kernel))) (by decide +kernel)
theorem tb_299 : (Cond.selects "OrderBench" (⟨"OrderBench", "order", "(I)I"⟩ : MethodName) (⟨"OrderBench", "order", "(I)I"⟩ : MethodName)) ∈ mw_tb := mw_tb_in (List.mem_append_right _ (List.mem_of_getElem? (i := 299) (by decide +kernel))) (by decide +kernel)
theorem tb_297 : (Cond.methodLink "OrderBenchLaw" (34 : Nat) (⟨"OrderBench", "order", "(I)I"⟩ : MethodName)) ∈ mw_tb := mw_tb_in (List.mem_append_right _ (List.mem_of_getElem? (i := 297) (by decide +kernel))) (by decide +kernel)
theorem lk_lw_order_ob_order : mw_lkV m_lw_order m_ob_order 34 1 1 := ⟨ca_ob_order, tb_297, tb_298, _, rfl, tb_299⟩
theorem lk_ob_order_ob_mustBePlace : mw_lkV m_ob_order m_ob_mustBePlace 52 1 1 := ⟨ca_ob_mustBePlace, tb_246, tb_248, _, rfl, ts_ob_mustBePlace⟩
theorem tb_304 : (Cond.code (⟨"OrderBench", "lineUp", "()V"⟩ : MethodName) prog_1_method_22_code (3 : Nat) (Option.none : Option FieldType)) ∈ mw_tb := mw_tb_in (List.mem_append_right _ (List.mem_of_getElem? (i := 304) (by decide +kernel))) (by decide +kernel)
theorem ca_ob_lineUp : mw_cal m_ob_lineUp 0 := ⟨tb_304, tb_1, Nat.le_of_ble_eq_true rfl, by decide +kernel, ⟨by decide +kernel, by decide +kernel⟩, by decide +kernel⟩
theorem tb_303 : (Cond.instanceMethod (⟨"OrderBench", "lineUp", "()V"⟩ : MethodName)) ∈ mw_tb := mw_tb_in (List.mem_append_right _ (List.mem_of_getElem? (i := 303) (by decide +kernel))) (by decide +kernel)
theorem ts_ob_lineUp : Cond.selects "OrderBench" ⟨"OrderBench", "lineUp", "()V"⟩ ⟨"OrderBench", "lineUp", "()V"⟩ ∈ mw_tb := mw_tb_in (List.mem_append_left _ (List.mem_of_getElem? (i := 9) (by decide +kernel))) (by decide +kernel)
theorem tb_301 : (Cond.methodLink "OrderBench" (77 : Nat) (⟨"OrderBench", "lineUp", "()V"⟩ : MethodName)) ∈ mw_tb := mw_tb_in (List.mem_append_right _ (List.mem_of_getElem? (i := 301) (by decide +kernel))) (by decide +kernel)
theorem lk_ob_order_ob_lineUp : mw_lkV m_ob_order m_ob_lineUp 77 0 1 := ⟨ca_ob_lineUp, tb_301, tb_303, _, rfl, ts_ob_lineUp⟩
theorem lk_ob_lineUp_ps_clear : mw_lkV m_ob_lineUp m_ps_clear 49 0 0 := ⟨ca_ps_clear, tb_79, tb_80, _, rfl, tb_81⟩
theorem lk_ob_lineUp_ps_size : mw_lkV m_ob_lineUp m_ps_size 128 0 0 := ⟨ca_ps_size, tb_155, tb_156, _, rfl, tb_157⟩
theorem lk_ob_lineUp_ps_add : mw_lkV m_ob_lineUp m_ps_add 60 1 0 := ⟨ca_ps_add, tb_83, tb_84, _, rfl, tb_85⟩
theorem lk_ob_lineUp_ps_next : mw_lkV m_ob_lineUp m_ps_next 111 1 0 := ⟨ca_ps_next, tb_101, tb_102, _, rfl, tb_103⟩
theorem lk_ob_lineUp_ps_remove : mw_lkV m_ob_lineUp m_ps_remove 63 1 0 := ⟨ca_ps_remove, tb_123, tb_124, _, rfl, tb_125⟩
theorem tb_323 : (Cond.code (⟨"OrderBench", "release", "(I)V"⟩ : MethodName) prog_1_method_23_code (3 : Nat) (Option.none : Option FieldType)) ∈ mw_tb := mw_tb_in (List.mem_append_right _ (List.mem_of_getElem? (i := 323) (by decide +kernel))) (by decide +kernel)
theorem ca_ob_release : mw_cal m_ob_release 1 := ⟨tb_323, tb_1, Nat.le_of_ble_eq_true rfl, by decide +kernel, ⟨by decide +kernel, by decide +kernel⟩, by decide +kernel⟩
theorem tb_322 : (Cond.instanceMethod (⟨"OrderBench", "release", "(I)V"⟩ : MethodName)) ∈ mw_tb := mw_tb_in (List.mem_append_right _ (List.mem_of_getElem? (i := 322) (by decide +kernel))) (by decide +kernel)
theorem ts_ob_release : Cond.selects "OrderBench" ⟨"OrderBench", "release", "(I)V"⟩ ⟨"OrderBench", "release", "(I)V"⟩ ∈ mw_tb := mw_tb_in (List.mem_append_left _ (List.mem_of_getElem? (i := 10) (by decide +kernel))) (by decide +kernel)
theorem tb_320 : (Cond.methodLink "OrderBench" (133 : Nat) (⟨"OrderBench", "release", "(I)V"⟩ : MethodName)) ∈ mw_tb := mw_tb_in (List.mem_append_right _ (List.mem_of_getElem? (i := 320) (by decide +kernel))) (by decide +kernel)
theorem lk_ob_lineUp_ob_release : mw_lkV m_ob_lineUp m_ob_release 133 1 1 := ⟨ca_ob_release, tb_320, tb_322, _, rfl, ts_ob_release⟩
theorem lk_ob_release_ps_next : mw_lkV m_ob_release m_ps_next 111 1 0 := ⟨ca_ps_next, tb_101, tb_102, _, rfl, tb_103⟩
theorem lk_ob_release_ps_add : mw_lkV m_ob_release m_ps_add 60 1 0 := ⟨ca_ps_add, tb_83, tb_84, _, rfl, tb_85⟩
theorem tb_330 : (Cond.code (⟨"OrderBench", "level", "(I)I"⟩ : MethodName) prog_1_method_11_code (2 : Nat) (Option.some FieldType.int)) ∈ mw_tb := mw_tb_in (List.mem_append_right _ (List.mem_of_getElem? (i := 330) (by decide +kernel))) (by decide +kernel)
theorem ca_ob_level : mw_cal m_ob_level 1 := ⟨tb_330, tb_1, Nat.le_of_ble_eq_true rfl, by decide +kernel, ⟨by decide +kernel, by decide +kernel⟩, by decide +kernel⟩
theorem tb_328 : (Cond.instanceMethod (⟨"OrderBench", "level", "(I)I"⟩ : MethodName)) ∈ mw_tb := mw_tb_in (List.mem_append_right _ (List.mem_of_getElem? (i := 328) (by decide +kernel))) (by decide +kernel)
theorem tb_329 : (Cond.selects "OrderBench" (⟨"OrderBench", "level", "(I)I"⟩ : MethodName) (⟨"OrderBench", "level", "(I)I"⟩ : MethodName)) ∈ mw_tb := mw_tb_in (List.mem_append_right _ (List.mem_of_getElem? (i := 329) (by decide +kernel))) (by decide +kernel)
theorem tb_327 : (Cond.methodLink "OrderBenchLaw" (39 : Nat) (⟨"OrderBench", "level", "(I)I"⟩ : MethodName)) ∈ mw_tb := mw_tb_in (List.mem_append_right _ (List.mem_of_getElem? (i := 327) (by decide +kernel))) (by decide +kernel)
theorem lk_lw_level_ob_level : mw_lkV m_lw_level m_ob_level 39 1 1 := ⟨ca_ob_level, tb_327, tb_328, _, rfl, tb_329⟩
theorem lk_ob_level_ob_mustBePlace : mw_lkV m_ob_level m_ob_mustBePlace 52 1 1 := ⟨ca_ob_mustBePlace, tb_246, tb_248, _, rfl, ts_ob_mustBePlace⟩
theorem lk_ob_level_ob_lineUp : mw_lkV m_ob_level m_ob_lineUp 77 0 1 := ⟨ca_ob_lineUp, tb_301, tb_303, _, rfl, ts_ob_lineUp⟩
theorem tb_334 : (Cond.code (⟨"OrderBench", "tallyLongest", "()V"⟩ : MethodName) prog_1_method_24_code (4 : Nat) (Option.none : Option FieldType)) ∈ mw_tb := mw_tb_in (List.mem_append_right _ (List.mem_of_getElem? (i := 334) (by decide +kernel))) (by decide +kernel)
theorem ca_ob_tallyLongest : mw_cal m_ob_tallyLongest 0 := ⟨tb_334, tb_1, Nat.le_of_ble_eq_true rfl, by decide +kernel, ⟨by decide +kernel, by decide +kernel⟩, by decide +kernel⟩
theorem tb_333 : (Cond.instanceMethod (⟨"OrderBench", "tallyLongest", "()V"⟩ : MethodName)) ∈ mw_tb := mw_tb_in (List.mem_append_right _ (List.mem_of_getElem? (i := 333) (by decide +kernel))) (by decide +kernel)
theorem ts_ob_tallyLongest : Cond.selects "OrderBench" ⟨"OrderBench", "tallyLongest", "()V"⟩ ⟨"OrderBench", "tallyLongest", "()V"⟩ ∈ mw_tb := mw_tb_in (List.mem_append_left _ (List.mem_of_getElem? (i := 11) (by decide +kernel))) (by decide +kernel)
theorem tb_331 : (Cond.methodLink "OrderBench" (80 : Nat) (⟨"OrderBench", "tallyLongest", "()V"⟩ : MethodName)) ∈ mw_tb := mw_tb_in (List.mem_append_right _ (List.mem_of_getElem? (i := 331) (by decide +kernel))) (by decide +kernel)
theorem lk_ob_level_ob_tallyLongest : mw_lkV m_ob_level m_ob_tallyLongest 80 0 1 := ⟨ca_ob_tallyLongest, tb_331, tb_333, _, rfl, ts_ob_tallyLongest⟩
theorem tb_337 : (Cond.code (⟨"java/util/Arrays", "fill", "([II)V"⟩ : MethodName) prog_12_method_103_code (4 : Nat) (Option.none : Option FieldType)) ∈ mw_tb := mw_tb_in (List.mem_append_right _ (List.mem_of_getElem? (i := 337) (by decide +kernel))) (by decide +kernel)
theorem tb_11 : (Cond.initialized "java/util/Arrays") ∈ mw_tb := mw_tb_in (List.mem_append_right _ (List.mem_of_getElem? (i := 11) (by decide +kernel))) (by decide +kernel)
theorem ca_ja_fill : mw_cal m_ja_fill 2 := ⟨tb_337, tb_11, Nat.le_of_ble_eq_true rfl, by decide +kernel, ⟨by decide +kernel, by decide +kernel⟩, by decide +kernel⟩
theorem tb_336 : (Cond.static (⟨"java/util/Arrays", "fill", "([II)V"⟩ : MethodName)) ∈ mw_tb := mw_tb_in (List.mem_append_right _ (List.mem_of_getElem? (i := 336) (by decide +kernel))) (by decide +kernel)
theorem tb_335 : (Cond.methodLink "OrderBench" (136 : Nat) (⟨"java/util/Arrays", "fill", "([II)V"⟩ : MethodName)) ∈ mw_tb := mw_tb_in (List.mem_append_right _ (List.mem_of_getElem? (i := 335) (by decide +kernel))) (by decide +kernel)
theorem lk_ob_tallyLongest_ja_fill : mw_lkS m_ob_tallyLongest m_ja_fill 136 2 := ⟨ca_ja_fill, tb_335, tb_336⟩
theorem lk_ob_tallyLongest_ps_next : mw_lkV m_ob_tallyLongest m_ps_next 111 1 0 := ⟨ca_ps_next, tb_101, tb_102, _, rfl, tb_103⟩
theorem tb_340 : (Cond.code (⟨"java/lang/Math", "max", "(II)I"⟩ : MethodName) prog_9_method_65_code (2 : Nat) (Option.some FieldType.int)) ∈ mw_tb := mw_tb_in (List.mem_append_right _ (List.mem_of_getElem? (i := 340) (by decide +kernel))) (by decide +kernel)
theorem tb_12 : (Cond.initialized "java/lang/Math") ∈ mw_tb := mw_tb_in (List.mem_append_right _ (List.mem_of_getElem? (i := 12) (by decide +kernel))) (by decide +kernel)
theorem ca_jm_max : mw_cal m_jm_max 2 := ⟨tb_340, tb_12, Nat.le_of_ble_eq_true rfl, by decide +kernel, ⟨by decide +kernel, by decide +kernel⟩, by decide +kernel⟩
theorem tb_339 : (Cond.static (⟨"java/lang/Math", "max", "(II)I"⟩ : MethodName)) ∈ mw_tb := mw_tb_in (List.mem_append_right _ (List.mem_of_getElem? (i := 339) (by decide +kernel))) (by decide +kernel)
theorem tb_338 : (Cond.methodLink "OrderBench" (142 : Nat) (⟨"java/lang/Math", "max", "(II)I"⟩ : MethodName)) ∈ mw_tb := mw_tb_in (List.mem_append_right _ (List.mem_of_getElem? (i := 338) (by decide +kernel))) (by decide +kernel)
theorem lk_ob_tallyLongest_jm_max : mw_lkS m_ob_tallyLongest m_jm_max 142 2 := ⟨ca_jm_max, tb_338, tb_339⟩
theorem tb_347 : (Cond.code (⟨"OrderBench", "paths", "(II)I"⟩ : MethodName) prog_1_method_12_code (3 : Nat) (Option.some FieldType.int)) ∈ mw_tb := mw_tb_in (List.mem_append_right _ (List.mem_of_getElem? (i := 347) (by decide +kernel))) (by decide +kernel)
theorem ca_ob_paths : mw_cal m_ob_paths 2 := ⟨tb_347, tb_1, Nat.le_of_ble_eq_true rfl, by decide +kernel, ⟨by decide +kernel, by decide +kernel⟩, by decide +kernel⟩
theorem tb_345 : (Cond.instanceMethod (⟨"OrderBench", "paths", "(II)I"⟩ : MethodName)) ∈ mw_tb := mw_tb_in (List.mem_append_right _ (List.mem_of_getElem? (i := 345) (by decide +kernel))) (by decide +kernel)
theorem tb_346 : (Cond.selects "OrderBench" (⟨"OrderBench", "paths", "(II)I"⟩ : MethodName) (⟨"OrderBench", "paths", "(II)I"⟩ : MethodName)) ∈ mw_tb := mw_tb_in (List.mem_append_right _ (List.mem_of_getElem? (i := 346) (by decide +kernel))) (by decide +kernel)
theorem tb_344 : (Cond.methodLink "OrderBenchLaw" (42 : Nat) (⟨"OrderBench", "paths", "(II)I"⟩ : MethodName)) ∈ mw_tb := mw_tb_in (List.mem_append_right _ (List.mem_of_getElem? (i := 344) (by decide +kernel))) (by decide +kernel)
theorem lk_lw_paths_ob_paths : mw_lkV m_lw_paths m_ob_paths 42 2 1 := ⟨ca_ob_paths, tb_344, tb_345, _, rfl, tb_346⟩
theorem lk_ob_paths_ob_mustBePlace : mw_lkV m_ob_paths m_ob_mustBePlace 52 1 1 := ⟨ca_ob_mustBePlace, tb_246, tb_248, _, rfl, ts_ob_mustBePlace⟩
theorem lk_ob_paths_ob_lineUp : mw_lkV m_ob_paths m_ob_lineUp 77 0 1 := ⟨ca_ob_lineUp, tb_301, tb_303, _, rfl, ts_ob_lineUp⟩
theorem tb_351 : (Cond.code (⟨"OrderBench", "tallyPaths", "(I)V"⟩ : MethodName) prog_1_method_25_code (5 : Nat) (Option.none : Option FieldType)) ∈ mw_tb := mw_tb_in (List.mem_append_right _ (List.mem_of_getElem? (i := 351) (by decide +kernel))) (by decide +kernel)
theorem ca_ob_tallyPaths : mw_cal m_ob_tallyPaths 1 := ⟨tb_351, tb_1, Nat.le_of_ble_eq_true rfl, by decide +kernel, ⟨by decide +kernel, by decide +kernel⟩, by decide +kernel⟩
theorem tb_350 : (Cond.instanceMethod (⟨"OrderBench", "tallyPaths", "(I)V"⟩ : MethodName)) ∈ mw_tb := mw_tb_in (List.mem_append_right _ (List.mem_of_getElem? (i := 350) (by decide +kernel))) (by decide +kernel)
theorem ts_ob_tallyPaths : Cond.selects "OrderBench" ⟨"OrderBench", "tallyPaths", "(I)V"⟩ ⟨"OrderBench", "tallyPaths", "(I)V"⟩ ∈ mw_tb := mw_tb_in (List.mem_append_left _ (List.mem_of_getElem? (i := 12) (by decide +kernel))) (by decide +kernel)
theorem tb_348 : (Cond.methodLink "OrderBench" (83 : Nat) (⟨"OrderBench", "tallyPaths", "(I)V"⟩ : MethodName)) ∈ mw_tb := mw_tb_in (List.mem_append_right _ (List.mem_of_getElem? (i := 348) (by decide +kernel))) (by decide +kernel)
theorem lk_ob_paths_ob_tallyPaths : mw_lkV m_ob_paths m_ob_tallyPaths 83 1 1 := ⟨ca_ob_tallyPaths, tb_348, tb_350, _, rfl, ts_ob_tallyPaths⟩
theorem lk_ob_tallyPaths_ja_fill : mw_lkS m_ob_tallyPaths m_ja_fill 136 2 := ⟨ca_ja_fill, tb_335, tb_336⟩
theorem lk_ob_tallyPaths_ps_next : mw_lkV m_ob_tallyPaths m_ps_next 111 1 0 := ⟨ca_ps_next, tb_101, tb_102, _, rfl, tb_103⟩
theorem tb_359 : (Cond.code (⟨"OrderBench", "gate", "(II)I"⟩ : MethodName) prog_1_method_13_code (3 : Nat) (Option.some FieldType.int)) ∈ mw_tb := mw_tb_in (List.mem_append_right _ (List.mem_of_getElem? (i := 359) (by decide +kernel))) (by decide +kernel)
theorem ca_ob_gate : mw_cal m_ob_gate 2 := ⟨tb_359, tb_1, Nat.le_of_ble_eq_true rfl, by decide +kernel, ⟨by decide +kernel, by decide +kernel⟩, by decide +kernel⟩
theorem tb_357 : (Cond.instanceMethod (⟨"OrderBench", "gate", "(II)I"⟩ : MethodName)) ∈ mw_tb := mw_tb_in (List.mem_append_right _ (List.mem_of_getElem? (i := 357) (by decide +kernel))) (by decide +kernel)
theorem tb_358 : (Cond.selects "OrderBench" (⟨"OrderBench", "gate", "(II)I"⟩ : MethodName) (⟨"OrderBench", "gate", "(II)I"⟩ : MethodName)) ∈ mw_tb := mw_tb_in (List.mem_append_right _ (List.mem_of_getElem? (i := 358) (by decide +kernel))) (by decide +kernel)
theorem tb_356 : (Cond.methodLink "OrderBenchLaw" (45 : Nat) (⟨"OrderBench", "gate", "(II)I"⟩ : MethodName)) ∈ mw_tb := mw_tb_in (List.mem_append_right _ (List.mem_of_getElem? (i := 356) (by decide +kernel))) (by decide +kernel)
theorem lk_lw_gate_ob_gate : mw_lkV m_lw_gate m_ob_gate 45 2 1 := ⟨ca_ob_gate, tb_356, tb_357, _, rfl, tb_358⟩
theorem lk_ob_gate_ob_mustBePlace : mw_lkV m_ob_gate m_ob_mustBePlace 52 1 1 := ⟨ca_ob_mustBePlace, tb_246, tb_248, _, rfl, ts_ob_mustBePlace⟩
theorem lk_ob_gate_ob_search : mw_lkV m_ob_gate m_ob_search 66 4 1 := ⟨ca_ob_search, tb_75, tb_77, _, rfl, ts_ob_search⟩
theorem tb_363 : (Cond.code (⟨"OrderBench", "lastGate", "(II)I"⟩ : MethodName) prog_1_method_21_code (6 : Nat) (Option.some FieldType.int)) ∈ mw_tb := mw_tb_in (List.mem_append_right _ (List.mem_of_getElem? (i := 363) (by decide +kernel))) (by decide +kernel)
theorem ca_ob_lastGate : mw_cal m_ob_lastGate 2 := ⟨tb_363, tb_1, Nat.le_of_ble_eq_true rfl, by decide +kernel, ⟨by decide +kernel, by decide +kernel⟩, by decide +kernel⟩
theorem tb_362 : (Cond.instanceMethod (⟨"OrderBench", "lastGate", "(II)I"⟩ : MethodName)) ∈ mw_tb := mw_tb_in (List.mem_append_right _ (List.mem_of_getElem? (i := 362) (by decide +kernel))) (by decide +kernel)
theorem ts_ob_lastGate : Cond.selects "OrderBench" ⟨"OrderBench", "lastGate", "(II)I"⟩ ⟨"OrderBench", "lastGate", "(II)I"⟩ ∈ mw_tb := mw_tb_in (List.mem_append_left _ (List.mem_of_getElem? (i := 13) (by decide +kernel))) (by decide +kernel)
theorem tb_360 : (Cond.methodLink "OrderBench" (86 : Nat) (⟨"OrderBench", "lastGate", "(II)I"⟩ : MethodName)) ∈ mw_tb := mw_tb_in (List.mem_append_right _ (List.mem_of_getElem? (i := 360) (by decide +kernel))) (by decide +kernel)
theorem lk_ob_gate_ob_lastGate : mw_lkV m_ob_gate m_ob_lastGate 86 2 1 := ⟨ca_ob_lastGate, tb_360, tb_362, _, rfl, ts_ob_lastGate⟩
theorem lk_ob_lastGate_ob_search : mw_lkV m_ob_lastGate m_ob_search 66 4 1 := ⟨ca_ob_search, tb_75, tb_77, _, rfl, ts_ob_search⟩
theorem lk_ob_lastGate_ps_size : mw_lkV m_ob_lastGate m_ps_size 128 0 0 := ⟨ca_ps_size, tb_155, tb_156, _, rfl, tb_157⟩
theorem tb_370 : (Cond.code (⟨"OrderBench", "all", "(III)Z"⟩ : MethodName) prog_1_method_14_code (4 : Nat) (Option.some FieldType.boolean)) ∈ mw_tb := mw_tb_in (List.mem_append_right _ (List.mem_of_getElem? (i := 370) (by decide +kernel))) (by decide +kernel)
theorem ca_ob_all : mw_cal m_ob_all 3 := ⟨tb_370, tb_1, Nat.le_of_ble_eq_true rfl, by decide +kernel, ⟨by decide +kernel, by decide +kernel⟩, by decide +kernel⟩
theorem tb_368 : (Cond.instanceMethod (⟨"OrderBench", "all", "(III)Z"⟩ : MethodName)) ∈ mw_tb := mw_tb_in (List.mem_append_right _ (List.mem_of_getElem? (i := 368) (by decide +kernel))) (by decide +kernel)
theorem tb_369 : (Cond.selects "OrderBench" (⟨"OrderBench", "all", "(III)Z"⟩ : MethodName) (⟨"OrderBench", "all", "(III)Z"⟩ : MethodName)) ∈ mw_tb := mw_tb_in (List.mem_append_right _ (List.mem_of_getElem? (i := 369) (by decide +kernel))) (by decide +kernel)
theorem tb_367 : (Cond.methodLink "OrderBenchLaw" (48 : Nat) (⟨"OrderBench", "all", "(III)Z"⟩ : MethodName)) ∈ mw_tb := mw_tb_in (List.mem_append_right _ (List.mem_of_getElem? (i := 367) (by decide +kernel))) (by decide +kernel)
theorem lk_lw_all_ob_all : mw_lkV m_lw_all m_ob_all 48 3 1 := ⟨ca_ob_all, tb_367, tb_368, _, rfl, tb_369⟩
theorem lk_ob_all_ob_mustBePlace : mw_lkV m_ob_all m_ob_mustBePlace 52 1 1 := ⟨ca_ob_mustBePlace, tb_246, tb_248, _, rfl, ts_ob_mustBePlace⟩
theorem lk_ob_all_ob_search : mw_lkV m_ob_all m_ob_search 66 4 1 := ⟨ca_ob_search, tb_75, tb_77, _, rfl, ts_ob_search⟩
theorem tb_416 : (Cond.code (⟨"OrderBenchModel", "refuse", "(IZ)Z"⟩ : MethodName) prog_4_method_3_code (3 : Nat) (Option.some FieldType.boolean)) ∈ mw_tb := mw_tb_in (List.mem_append_right _ (List.mem_of_getElem? (i := 416) (by decide +kernel))) (by decide +kernel)
theorem tb_3 : (Cond.initialized "OrderBenchModel") ∈ mw_tb := mw_tb_in (List.mem_append_right _ (List.mem_of_getElem? (i := 3) (by decide +kernel))) (by decide +kernel)
theorem ca_md_refuse : mw_cal m_md_refuse 2 := ⟨tb_416, tb_3, Nat.le_of_ble_eq_true rfl, by decide +kernel, ⟨by decide +kernel, by decide +kernel⟩, by decide +kernel⟩
theorem tb_415 : (Cond.instanceMethod (⟨"OrderBenchModel", "refuse", "(IZ)Z"⟩ : MethodName)) ∈ mw_tb := mw_tb_in (List.mem_append_right _ (List.mem_of_getElem? (i := 415) (by decide +kernel))) (by decide +kernel)
theorem ts_md_refuse : Cond.selects "OrderBenchModel" ⟨"OrderBenchModel", "refuse", "(IZ)Z"⟩ ⟨"OrderBenchModel", "refuse", "(IZ)Z"⟩ ∈ mw_tb := mw_tb_in (List.mem_append_left _ (List.mem_of_getElem? (i := 14) (by decide +kernel))) (by decide +kernel)
theorem tb_413 : (Cond.methodLink "OrderBenchModel" (38 : Nat) (⟨"OrderBenchModel", "refuse", "(IZ)Z"⟩ : MethodName)) ∈ mw_tb := mw_tb_in (List.mem_append_right _ (List.mem_of_getElem? (i := 413) (by decide +kernel))) (by decide +kernel)
theorem lk_md_places_md_refuse : mw_lkV m_md_places m_md_refuse 38 2 2 := ⟨ca_md_refuse, tb_413, tb_415, _, rfl, ts_md_refuse⟩
theorem tb_424 : (Cond.code (⟨"OrderBenchModel", "set", "(IIZ)Z"⟩ : MethodName) prog_4_method_6_code (5 : Nat) (Option.some FieldType.boolean)) ∈ mw_tb := mw_tb_in (List.mem_append_right _ (List.mem_of_getElem? (i := 424) (by decide +kernel))) (by decide +kernel)
theorem ca_md_set : mw_cal m_md_set 3 := ⟨tb_424, tb_3, Nat.le_of_ble_eq_true rfl, by decide +kernel, ⟨by decide +kernel, by decide +kernel⟩, by decide +kernel⟩
theorem tb_423 : (Cond.instanceMethod (⟨"OrderBenchModel", "set", "(IIZ)Z"⟩ : MethodName)) ∈ mw_tb := mw_tb_in (List.mem_append_right _ (List.mem_of_getElem? (i := 423) (by decide +kernel))) (by decide +kernel)
theorem ts_md_set : Cond.selects "OrderBenchModel" ⟨"OrderBenchModel", "set", "(IIZ)Z"⟩ ⟨"OrderBenchModel", "set", "(IIZ)Z"⟩ ∈ mw_tb := mw_tb_in (List.mem_append_left _ (List.mem_of_getElem? (i := 15) (by decide +kernel))) (by decide +kernel)
theorem tb_421 : (Cond.methodLink "OrderBenchModel" (46 : Nat) (⟨"OrderBenchModel", "set", "(IIZ)Z"⟩ : MethodName)) ∈ mw_tb := mw_tb_in (List.mem_append_right _ (List.mem_of_getElem? (i := 421) (by decide +kernel))) (by decide +kernel)
theorem lk_md_way_md_set : mw_lkV m_md_way m_md_set 46 3 2 := ⟨ca_md_set, tb_421, tb_423, _, rfl, ts_md_set⟩
theorem tb_428 : (Cond.code (⟨"OrderBenchModel", "none", "(I)Z"⟩ : MethodName) prog_4_method_4_code (2 : Nat) (Option.some FieldType.boolean)) ∈ mw_tb := mw_tb_in (List.mem_append_right _ (List.mem_of_getElem? (i := 428) (by decide +kernel))) (by decide +kernel)
theorem ca_md_none : mw_cal m_md_none 1 := ⟨tb_428, tb_3, Nat.le_of_ble_eq_true rfl, by decide +kernel, ⟨by decide +kernel, by decide +kernel⟩, by decide +kernel⟩
theorem tb_427 : (Cond.instanceMethod (⟨"OrderBenchModel", "none", "(I)Z"⟩ : MethodName)) ∈ mw_tb := mw_tb_in (List.mem_append_right _ (List.mem_of_getElem? (i := 427) (by decide +kernel))) (by decide +kernel)
theorem ts_md_none : Cond.selects "OrderBenchModel" ⟨"OrderBenchModel", "none", "(I)Z"⟩ ⟨"OrderBenchModel", "none", "(I)Z"⟩ ∈ mw_tb := mw_tb_in (List.mem_append_left _ (List.mem_of_getElem? (i := 16) (by decide +kernel))) (by decide +kernel)
theorem tb_425 : (Cond.methodLink "OrderBenchModel" (42 : Nat) (⟨"OrderBenchModel", "none", "(I)Z"⟩ : MethodName)) ∈ mw_tb := mw_tb_in (List.mem_append_right _ (List.mem_of_getElem? (i := 425) (by decide +kernel))) (by decide +kernel)
theorem lk_md_set_md_none : mw_lkV m_md_set m_md_none 42 1 2 := ⟨ca_md_none, tb_425, tb_427, _, rfl, ts_md_none⟩
theorem lk_md_none_md_refuse : mw_lkV m_md_none m_md_refuse 38 2 2 := ⟨ca_md_refuse, tb_413, tb_415, _, rfl, ts_md_refuse⟩
theorem lk_md_drop_md_set : mw_lkV m_md_drop m_md_set 46 3 2 := ⟨ca_md_set, tb_421, tb_423, _, rfl, ts_md_set⟩
theorem lk_md_reaches_md_none : mw_lkV m_md_reaches m_md_none 42 1 2 := ⟨ca_md_none, tb_425, tb_427, _, rfl, ts_md_none⟩
theorem tb_440 : (Cond.code (⟨"OrderBenchModel", "from", "(II)V"⟩ : MethodName) prog_4_method_9_code (7 : Nat) (Option.none : Option FieldType)) ∈ mw_tb := mw_tb_in (List.mem_append_right _ (List.mem_of_getElem? (i := 440) (by decide +kernel))) (by decide +kernel)
theorem ca_md_from : mw_cal m_md_from 2 := ⟨tb_440, tb_3, Nat.le_of_ble_eq_true rfl, by decide +kernel, ⟨by decide +kernel, by decide +kernel⟩, by decide +kernel⟩
theorem tb_439 : (Cond.instanceMethod (⟨"OrderBenchModel", "from", "(II)V"⟩ : MethodName)) ∈ mw_tb := mw_tb_in (List.mem_append_right _ (List.mem_of_getElem? (i := 439) (by decide +kernel))) (by decide +kernel)
theorem ts_md_from : Cond.selects "OrderBenchModel" ⟨"OrderBenchModel", "from", "(II)V"⟩ ⟨"OrderBenchModel", "from", "(II)V"⟩ ∈ mw_tb := mw_tb_in (List.mem_append_left _ (List.mem_of_getElem? (i := 17) (by decide +kernel))) (by decide +kernel)
theorem tb_437 : (Cond.methodLink "OrderBenchModel" (50 : Nat) (⟨"OrderBenchModel", "from", "(II)V"⟩ : MethodName)) ∈ mw_tb := mw_tb_in (List.mem_append_right _ (List.mem_of_getElem? (i := 437) (by decide +kernel))) (by decide +kernel)
theorem lk_md_reaches_md_from : mw_lkV m_md_reaches m_md_from 50 2 2 := ⟨ca_md_from, tb_437, tb_439, _, rfl, ts_md_from⟩
theorem lk_md_far_md_none : mw_lkV m_md_far m_md_none 42 1 2 := ⟨ca_md_none, tb_425, tb_427, _, rfl, ts_md_none⟩
theorem lk_md_far_md_from : mw_lkV m_md_far m_md_from 50 2 2 := ⟨ca_md_from, tb_437, tb_439, _, rfl, ts_md_from⟩
theorem tb_452 : (Cond.code (⟨"OrderBenchModel", "all", "()V"⟩ : MethodName) prog_4_method_12_code (3 : Nat) (Option.none : Option FieldType)) ∈ mw_tb := mw_tb_in (List.mem_append_right _ (List.mem_of_getElem? (i := 452) (by decide +kernel))) (by decide +kernel)
theorem ca_md_all0 : mw_cal m_md_all0 0 := ⟨tb_452, tb_3, Nat.le_of_ble_eq_true rfl, by decide +kernel, ⟨by decide +kernel, by decide +kernel⟩, by decide +kernel⟩
theorem tb_451 : (Cond.instanceMethod (⟨"OrderBenchModel", "all", "()V"⟩ : MethodName)) ∈ mw_tb := mw_tb_in (List.mem_append_right _ (List.mem_of_getElem? (i := 451) (by decide +kernel))) (by decide +kernel)
theorem ts_md_all : Cond.selects "OrderBenchModel" ⟨"OrderBenchModel", "all", "()V"⟩ ⟨"OrderBenchModel", "all", "()V"⟩ ∈ mw_tb := mw_tb_in (List.mem_append_left _ (List.mem_of_getElem? (i := 18) (by decide +kernel))) (by decide +kernel)
theorem tb_449 : (Cond.methodLink "OrderBenchModel" (54 : Nat) (⟨"OrderBenchModel", "all", "()V"⟩ : MethodName)) ∈ mw_tb := mw_tb_in (List.mem_append_right _ (List.mem_of_getElem? (i := 449) (by decide +kernel))) (by decide +kernel)
theorem lk_md_circle_md_all0 : mw_lkV m_md_circle m_md_all0 54 0 2 := ⟨ca_md_all0, tb_449, tb_451, _, rfl, ts_md_all⟩
theorem tb_456 : (Cond.code (⟨"OrderBenchModel", "onCircle", "(I)Z"⟩ : MethodName) prog_4_method_13_code (3 : Nat) (Option.some FieldType.boolean)) ∈ mw_tb := mw_tb_in (List.mem_append_right _ (List.mem_of_getElem? (i := 456) (by decide +kernel))) (by decide +kernel)
theorem ca_md_onCircle : mw_cal m_md_onCircle 1 := ⟨tb_456, tb_3, Nat.le_of_ble_eq_true rfl, by decide +kernel, ⟨by decide +kernel, by decide +kernel⟩, by decide +kernel⟩
theorem tb_455 : (Cond.instanceMethod (⟨"OrderBenchModel", "onCircle", "(I)Z"⟩ : MethodName)) ∈ mw_tb := mw_tb_in (List.mem_append_right _ (List.mem_of_getElem? (i := 455) (by decide +kernel))) (by decide +kernel)
theorem ts_md_onCircle : Cond.selects "OrderBenchModel" ⟨"OrderBenchModel", "onCircle", "(I)Z"⟩ ⟨"OrderBenchModel", "onCircle", "(I)Z"⟩ ∈ mw_tb := mw_tb_in (List.mem_append_left _ (List.mem_of_getElem? (i := 19) (by decide +kernel))) (by decide +kernel)
theorem tb_453 : (Cond.methodLink "OrderBenchModel" (57 : Nat) (⟨"OrderBenchModel", "onCircle", "(I)Z"⟩ : MethodName)) ∈ mw_tb := mw_tb_in (List.mem_append_right _ (List.mem_of_getElem? (i := 453) (by decide +kernel))) (by decide +kernel)
theorem lk_md_circle_md_onCircle : mw_lkV m_md_circle m_md_onCircle 57 1 2 := ⟨ca_md_onCircle, tb_453, tb_455, _, rfl, ts_md_onCircle⟩
theorem lk_md_all0_md_from : mw_lkV m_md_all0 m_md_from 50 2 2 := ⟨ca_md_from, tb_437, tb_439, _, rfl, ts_md_from⟩
theorem lk_md_group_md_none : mw_lkV m_md_group m_md_none 42 1 2 := ⟨ca_md_none, tb_425, tb_427, _, rfl, ts_md_none⟩
theorem lk_md_group_md_all0 : mw_lkV m_md_group m_md_all0 54 0 2 := ⟨ca_md_all0, tb_449, tb_451, _, rfl, ts_md_all⟩
theorem tb_464 : (Cond.code (⟨"OrderBenchModel", "least", "(I)I"⟩ : MethodName) prog_4_method_15_code (3 : Nat) (Option.some FieldType.int)) ∈ mw_tb := mw_tb_in (List.mem_append_right _ (List.mem_of_getElem? (i := 464) (by decide +kernel))) (by decide +kernel)
theorem ca_md_least : mw_cal m_md_least 1 := ⟨tb_464, tb_3, Nat.le_of_ble_eq_true rfl, by decide +kernel, ⟨by decide +kernel, by decide +kernel⟩, by decide +kernel⟩
theorem tb_463 : (Cond.instanceMethod (⟨"OrderBenchModel", "least", "(I)I"⟩ : MethodName)) ∈ mw_tb := mw_tb_in (List.mem_append_right _ (List.mem_of_getElem? (i := 463) (by decide +kernel))) (by decide +kernel)
theorem ts_md_least : Cond.selects "OrderBenchModel" ⟨"OrderBenchModel", "least", "(I)I"⟩ ⟨"OrderBenchModel", "least", "(I)I"⟩ ∈ mw_tb := mw_tb_in (List.mem_append_left _ (List.mem_of_getElem? (i := 20) (by decide +kernel))) (by decide +kernel)
theorem tb_461 : (Cond.methodLink "OrderBenchModel" (60 : Nat) (⟨"OrderBenchModel", "least", "(I)I"⟩ : MethodName)) ∈ mw_tb := mw_tb_in (List.mem_append_right _ (List.mem_of_getElem? (i := 461) (by decide +kernel))) (by decide +kernel)
theorem lk_md_group_md_least : mw_lkV m_md_group m_md_least 60 1 2 := ⟨ca_md_least, tb_461, tb_463, _, rfl, ts_md_least⟩
theorem lk_md_groups_md_all0 : mw_lkV m_md_groups m_md_all0 54 0 2 := ⟨ca_md_all0, tb_449, tb_451, _, rfl, ts_md_all⟩
theorem lk_md_groups_md_least : mw_lkV m_md_groups m_md_least 60 1 2 := ⟨ca_md_least, tb_461, tb_463, _, rfl, ts_md_least⟩
theorem lk_md_order_md_none : mw_lkV m_md_order m_md_none 42 1 2 := ⟨ca_md_none, tb_425, tb_427, _, rfl, ts_md_none⟩
theorem tb_476 : (Cond.code (⟨"OrderBenchModel", "ordered", "()Z"⟩ : MethodName) prog_4_method_19_code (3 : Nat) (Option.some FieldType.boolean)) ∈ mw_tb := mw_tb_in (List.mem_append_right _ (List.mem_of_getElem? (i := 476) (by decide +kernel))) (by decide +kernel)
theorem ca_md_ordered : mw_cal m_md_ordered 0 := ⟨tb_476, tb_3, Nat.le_of_ble_eq_true rfl, by decide +kernel, ⟨by decide +kernel, by decide +kernel⟩, by decide +kernel⟩
theorem tb_475 : (Cond.instanceMethod (⟨"OrderBenchModel", "ordered", "()Z"⟩ : MethodName)) ∈ mw_tb := mw_tb_in (List.mem_append_right _ (List.mem_of_getElem? (i := 475) (by decide +kernel))) (by decide +kernel)
theorem ts_md_ordered : Cond.selects "OrderBenchModel" ⟨"OrderBenchModel", "ordered", "()Z"⟩ ⟨"OrderBenchModel", "ordered", "()Z"⟩ ∈ mw_tb := mw_tb_in (List.mem_append_left _ (List.mem_of_getElem? (i := 21) (by decide +kernel))) (by decide +kernel)
theorem tb_473 : (Cond.methodLink "OrderBenchModel" (67 : Nat) (⟨"OrderBenchModel", "ordered", "()Z"⟩ : MethodName)) ∈ mw_tb := mw_tb_in (List.mem_append_right _ (List.mem_of_getElem? (i := 473) (by decide +kernel))) (by decide +kernel)
theorem lk_md_order_md_ordered : mw_lkV m_md_order m_md_ordered 67 0 2 := ⟨ca_md_ordered, tb_473, tb_475, _, rfl, ts_md_ordered⟩
theorem lk_md_order_md_refuse : mw_lkV m_md_order m_md_refuse 38 2 2 := ⟨ca_md_refuse, tb_413, tb_415, _, rfl, ts_md_refuse⟩
theorem tb_480 : (Cond.code (⟨"OrderBenchModel", "ready", "(I)Z"⟩ : MethodName) prog_4_method_18_code (3 : Nat) (Option.some FieldType.boolean)) ∈ mw_tb := mw_tb_in (List.mem_append_right _ (List.mem_of_getElem? (i := 480) (by decide +kernel))) (by decide +kernel)
theorem ca_md_ready : mw_cal m_md_ready 1 := ⟨tb_480, tb_3, Nat.le_of_ble_eq_true rfl, by decide +kernel, ⟨by decide +kernel, by decide +kernel⟩, by decide +kernel⟩
theorem tb_479 : (Cond.instanceMethod (⟨"OrderBenchModel", "ready", "(I)Z"⟩ : MethodName)) ∈ mw_tb := mw_tb_in (List.mem_append_right _ (List.mem_of_getElem? (i := 479) (by decide +kernel))) (by decide +kernel)
theorem ts_md_ready : Cond.selects "OrderBenchModel" ⟨"OrderBenchModel", "ready", "(I)Z"⟩ ⟨"OrderBenchModel", "ready", "(I)Z"⟩ ∈ mw_tb := mw_tb_in (List.mem_append_left _ (List.mem_of_getElem? (i := 22) (by decide +kernel))) (by decide +kernel)
theorem tb_477 : (Cond.methodLink "OrderBenchModel" (64 : Nat) (⟨"OrderBenchModel", "ready", "(I)Z"⟩ : MethodName)) ∈ mw_tb := mw_tb_in (List.mem_append_right _ (List.mem_of_getElem? (i := 477) (by decide +kernel))) (by decide +kernel)
theorem lk_md_ordered_md_ready : mw_lkV m_md_ordered m_md_ready 64 1 2 := ⟨ca_md_ready, tb_477, tb_479, _, rfl, ts_md_ready⟩
theorem lk_md_level_md_none : mw_lkV m_md_level m_md_none 42 1 2 := ⟨ca_md_none, tb_425, tb_427, _, rfl, ts_md_none⟩
theorem lk_md_level_md_ordered : mw_lkV m_md_level m_md_ordered 67 0 2 := ⟨ca_md_ordered, tb_473, tb_475, _, rfl, ts_md_ordered⟩
theorem lk_md_level_md_refuse : mw_lkV m_md_level m_md_refuse 38 2 2 := ⟨ca_md_refuse, tb_413, tb_415, _, rfl, ts_md_refuse⟩
theorem tb_485 : (Cond.methodLink "OrderBenchModel" (71 : Nat) (⟨"java/lang/Math", "max", "(II)I"⟩ : MethodName)) ∈ mw_tb := mw_tb_in (List.mem_append_right _ (List.mem_of_getElem? (i := 485) (by decide +kernel))) (by decide +kernel)
theorem lk_md_level_jm_max : mw_lkS m_md_level m_jm_max 71 2 := ⟨ca_jm_max, tb_485, tb_339⟩
theorem lk_md_paths_md_none : mw_lkV m_md_paths m_md_none 42 1 2 := ⟨ca_md_none, tb_425, tb_427, _, rfl, ts_md_none⟩
theorem lk_md_paths_md_ordered : mw_lkV m_md_paths m_md_ordered 67 0 2 := ⟨ca_md_ordered, tb_473, tb_475, _, rfl, ts_md_ordered⟩
theorem lk_md_paths_md_refuse : mw_lkV m_md_paths m_md_refuse 38 2 2 := ⟨ca_md_refuse, tb_413, tb_415, _, rfl, ts_md_refuse⟩
theorem lk_md_gate_md_none : mw_lkV m_md_gate m_md_none 42 1 2 := ⟨ca_md_none, tb_425, tb_427, _, rfl, ts_md_none⟩
theorem lk_md_gate_md_from : mw_lkV m_md_gate m_md_from 50 2 2 := ⟨ca_md_from, tb_437, tb_439, _, rfl, ts_md_from⟩
theorem tb_498 : (Cond.code (⟨"OrderBenchModel", "always", "(III)Z"⟩ : MethodName) prog_4_method_23_code (4 : Nat) (Option.some FieldType.boolean)) ∈ mw_tb := mw_tb_in (List.mem_append_right _ (List.mem_of_getElem? (i := 498) (by decide +kernel))) (by decide +kernel)
theorem ca_md_always : mw_cal m_md_always 3 := ⟨tb_498, tb_3, Nat.le_of_ble_eq_true rfl, by decide +kernel, ⟨by decide +kernel, by decide +kernel⟩, by decide +kernel⟩
theorem tb_497 : (Cond.instanceMethod (⟨"OrderBenchModel", "always", "(III)Z"⟩ : MethodName)) ∈ mw_tb := mw_tb_in (List.mem_append_right _ (List.mem_of_getElem? (i := 497) (by decide +kernel))) (by decide +kernel)
theorem ts_md_always : Cond.selects "OrderBenchModel" ⟨"OrderBenchModel", "always", "(III)Z"⟩ ⟨"OrderBenchModel", "always", "(III)Z"⟩ ∈ mw_tb := mw_tb_in (List.mem_append_left _ (List.mem_of_getElem? (i := 23) (by decide +kernel))) (by decide +kernel)
theorem tb_495 : (Cond.methodLink "OrderBenchModel" (78 : Nat) (⟨"OrderBenchModel", "always", "(III)Z"⟩ : MethodName)) ∈ mw_tb := mw_tb_in (List.mem_append_right _ (List.mem_of_getElem? (i := 495) (by decide +kernel))) (by decide +kernel)
theorem lk_md_gate_md_always : mw_lkV m_md_gate m_md_always 78 3 2 := ⟨ca_md_always, tb_495, tb_497, _, rfl, ts_md_always⟩
theorem lk_md_always_md_from : mw_lkV m_md_always m_md_from 50 2 2 := ⟨ca_md_from, tb_437, tb_439, _, rfl, ts_md_from⟩
theorem lk_md_all3_md_none : mw_lkV m_md_all3 m_md_none 42 1 2 := ⟨ca_md_none, tb_425, tb_427, _, rfl, ts_md_none⟩
theorem lk_md_all3_md_always : mw_lkV m_md_all3 m_md_always 78 3 2 := ⟨ca_md_always, tb_495, tb_497, _, rfl, ts_md_always⟩
theorem lk_md_count_md_all0 : mw_lkV m_md_count m_md_all0 54 0 2 := ⟨ca_md_all0, tb_449, tb_451, _, rfl, ts_md_all⟩
theorem lk_md_count_md_onCircle : mw_lkV m_md_count m_md_onCircle 57 1 2 := ⟨ca_md_onCircle, tb_453, tb_455, _, rfl, ts_md_onCircle⟩
theorem tb_17 : (Cond.code (⟨"OrderBench", "<init>", "()V"⟩ : MethodName) prog_1_method_1_code (2 : Nat) (Option.none : Option FieldType)) ∈ mw_tb := mw_tb_in (List.mem_append_right _ (List.mem_of_getElem? (i := 17) (by decide +kernel))) (by decide +kernel)
theorem ca_ob_init : mw_cal m_ob_init 0 := ⟨tb_17, tb_1, Nat.le_of_ble_eq_true rfl, by decide +kernel, ⟨by decide +kernel, by decide +kernel⟩, by decide +kernel⟩
theorem tb_16 : (Cond.instanceMethod (⟨"OrderBench", "<init>", "()V"⟩ : MethodName)) ∈ mw_tb := mw_tb_in (List.mem_append_right _ (List.mem_of_getElem? (i := 16) (by decide +kernel))) (by decide +kernel)
theorem tb_15 : (Cond.methodLink "OrderBenchLaw" (52 : Nat) (⟨"OrderBench", "<init>", "()V"⟩ : MethodName)) ∈ mw_tb := mw_tb_in (List.mem_append_right _ (List.mem_of_getElem? (i := 15) (by decide +kernel))) (by decide +kernel)
theorem lk_lw_law_ob_init : mw_lkI m_lw_law m_ob_init 52 0 := ⟨ca_ob_init, rfl, rfl, rfl, tb_16, Or.inl tb_15⟩
theorem tb_375 : (Cond.code (⟨"OrderBenchModel", "<init>", "()V"⟩ : MethodName) prog_4_method_1_code (1 : Nat) (Option.none : Option FieldType)) ∈ mw_tb := mw_tb_in (List.mem_append_right _ (List.mem_of_getElem? (i := 375) (by decide +kernel))) (by decide +kernel)
theorem ca_md_init : mw_cal m_md_init 0 := ⟨tb_375, tb_3, Nat.le_of_ble_eq_true rfl, by decide +kernel, ⟨by decide +kernel, by decide +kernel⟩, by decide +kernel⟩
theorem tb_374 : (Cond.instanceMethod (⟨"OrderBenchModel", "<init>", "()V"⟩ : MethodName)) ∈ mw_tb := mw_tb_in (List.mem_append_right _ (List.mem_of_getElem? (i := 374) (by decide +kernel))) (by decide +kernel)
theorem tb_373 : (Cond.methodLink "OrderBenchLaw" (55 : Nat) (⟨"OrderBenchModel", "<init>", "()V"⟩ : MethodName)) ∈ mw_tb := mw_tb_in (List.mem_append_right _ (List.mem_of_getElem? (i := 373) (by decide +kernel))) (by decide +kernel)
theorem lk_lw_law_md_init : mw_lkI m_lw_law m_md_init 55 0 := ⟨ca_md_init, rfl, rfl, rfl, tb_374, Or.inl tb_373⟩
theorem tb_169 : (Cond.codeWith (⟨"OrderBenchLaw", "places", "(LOrderBench;I[J)I"⟩ : MethodName) method_3_code (4 : Nat) (Option.some FieldType.int) [((0 : Nat), (9 : Nat), (12 : Nat), (13 : Nat))]) ∈ mw_tb := mw_tb_in (List.mem_append_right _ (List.mem_of_getElem? (i := 169) (by decide +kernel))) (by decide +kernel)
theorem tb_0 : (Cond.initialized "OrderBenchLaw") ∈ mw_tb := mw_tb_in (List.mem_append_right _ (List.mem_of_getElem? (i := 0) (by decide +kernel))) (by decide +kernel)
theorem ca_lw_places : mw_cal m_lw_places 3 := ⟨tb_169, tb_0, Nat.le_of_ble_eq_true rfl, by decide +kernel, ⟨by decide +kernel, by decide +kernel⟩, by decide +kernel⟩
theorem tb_168 : (Cond.static (⟨"OrderBenchLaw", "places", "(LOrderBench;I[J)I"⟩ : MethodName)) ∈ mw_tb := mw_tb_in (List.mem_append_right _ (List.mem_of_getElem? (i := 168) (by decide +kernel))) (by decide +kernel)
theorem tb_167 : (Cond.methodLink "OrderBenchLaw" (56 : Nat) (⟨"OrderBenchLaw", "places", "(LOrderBench;I[J)I"⟩ : MethodName)) ∈ mw_tb := mw_tb_in (List.mem_append_right _ (List.mem_of_getElem? (i := 167) (by decide +kernel))) (by decide +kernel)
theorem lk_lw_law_lw_places : mw_lkS m_lw_law m_lw_places 56 3 := ⟨ca_lw_places, tb_167, tb_168⟩
theorem tb_412 : (Cond.code (⟨"OrderBenchModel", "places", "(I)I"⟩ : MethodName) prog_4_method_5_code (5 : Nat) (Option.some FieldType.int)) ∈ mw_tb := mw_tb_in (List.mem_append_right _ (List.mem_of_getElem? (i := 412) (by decide +kernel))) (by decide +kernel)
theorem ca_md_places : mw_cal m_md_places 1 := ⟨tb_412, tb_3, Nat.le_of_ble_eq_true rfl, by decide +kernel, ⟨by decide +kernel, by decide +kernel⟩, by decide +kernel⟩
theorem tb_410 : (Cond.instanceMethod (⟨"OrderBenchModel", "places", "(I)I"⟩ : MethodName)) ∈ mw_tb := mw_tb_in (List.mem_append_right _ (List.mem_of_getElem? (i := 410) (by decide +kernel))) (by decide +kernel)
theorem tb_411 : (Cond.selects "OrderBenchModel" (⟨"OrderBenchModel", "places", "(I)I"⟩ : MethodName) (⟨"OrderBenchModel", "places", "(I)I"⟩ : MethodName)) ∈ mw_tb := mw_tb_in (List.mem_append_right _ (List.mem_of_getElem? (i := 411) (by decide +kernel))) (by decide +kernel)
theorem tb_409 : (Cond.methodLink "OrderBenchLaw" (61 : Nat) (⟨"OrderBenchModel", "places", "(I)I"⟩ : MethodName)) ∈ mw_tb := mw_tb_in (List.mem_append_right _ (List.mem_of_getElem? (i := 409) (by decide +kernel))) (by decide +kernel)
theorem lk_lw_law_md_places : mw_lkV m_lw_law m_md_places 61 1 2 := ⟨ca_md_places, tb_409, tb_410, _, rfl, tb_411⟩
theorem tb_408 : (Cond.code (⟨"OrderBenchModel", "thrown", "()I"⟩ : MethodName) prog_4_method_2_code (1 : Nat) (Option.some FieldType.int)) ∈ mw_tb := mw_tb_in (List.mem_append_right _ (List.mem_of_getElem? (i := 408) (by decide +kernel))) (by decide +kernel)
theorem ca_md_thrown : mw_cal m_md_thrown 0 := ⟨tb_408, tb_3, Nat.le_of_ble_eq_true rfl, by decide +kernel, ⟨by decide +kernel, by decide +kernel⟩, by decide +kernel⟩
theorem tb_406 : (Cond.instanceMethod (⟨"OrderBenchModel", "thrown", "()I"⟩ : MethodName)) ∈ mw_tb := mw_tb_in (List.mem_append_right _ (List.mem_of_getElem? (i := 406) (by decide +kernel))) (by decide +kernel)
theorem tb_407 : (Cond.selects "OrderBenchModel" (⟨"OrderBenchModel", "thrown", "()I"⟩ : MethodName) (⟨"OrderBenchModel", "thrown", "()I"⟩ : MethodName)) ∈ mw_tb := mw_tb_in (List.mem_append_right _ (List.mem_of_getElem? (i := 407) (by decide +kernel))) (by decide +kernel)
theorem tb_405 : (Cond.methodLink "OrderBenchLaw" (62 : Nat) (⟨"OrderBenchModel", "thrown", "()I"⟩ : MethodName)) ∈ mw_tb := mw_tb_in (List.mem_append_right _ (List.mem_of_getElem? (i := 405) (by decide +kernel))) (by decide +kernel)
theorem lk_lw_law_md_thrown : mw_lkV m_lw_law m_md_thrown 62 0 2 := ⟨ca_md_thrown, tb_405, tb_406, _, rfl, tb_407⟩
theorem tb_240 : (Cond.codeWith (⟨"OrderBenchLaw", "way", "(LOrderBench;II[J)I"⟩ : MethodName) method_4_code (5 : Nat) (Option.some FieldType.int) [((0 : Nat), (17 : Nat), (20 : Nat), (19 : Nat))]) ∈ mw_tb := mw_tb_in (List.mem_append_right _ (List.mem_of_getElem? (i := 240) (by decide +kernel))) (by decide +kernel)
theorem ca_lw_way : mw_cal m_lw_way 4 := ⟨tb_240, tb_0, Nat.le_of_ble_eq_true rfl, by decide +kernel, ⟨by decide +kernel, by decide +kernel⟩, by decide +kernel⟩
theorem tb_239 : (Cond.static (⟨"OrderBenchLaw", "way", "(LOrderBench;II[J)I"⟩ : MethodName)) ∈ mw_tb := mw_tb_in (List.mem_append_right _ (List.mem_of_getElem? (i := 239) (by decide +kernel))) (by decide +kernel)
theorem tb_238 : (Cond.methodLink "OrderBenchLaw" (66 : Nat) (⟨"OrderBenchLaw", "way", "(LOrderBench;II[J)I"⟩ : MethodName)) ∈ mw_tb := mw_tb_in (List.mem_append_right _ (List.mem_of_getElem? (i := 238) (by decide +kernel))) (by decide +kernel)
theorem lk_lw_law_lw_way : mw_lkS m_lw_law m_lw_way 66 4 := ⟨ca_lw_way, tb_238, tb_239⟩
theorem tb_420 : (Cond.code (⟨"OrderBenchModel", "way", "(II)Z"⟩ : MethodName) prog_4_method_7_code (3 : Nat) (Option.some FieldType.boolean)) ∈ mw_tb := mw_tb_in (List.mem_append_right _ (List.mem_of_getElem? (i := 420) (by decide +kernel))) (by decide +kernel)
theorem ca_md_way : mw_cal m_md_way 2 := ⟨tb_420, tb_3, Nat.le_of_ble_eq_true rfl, by decide +kernel, ⟨by decide +kernel, by decide +kernel⟩, by decide +kernel⟩
theorem tb_418 : (Cond.instanceMethod (⟨"OrderBenchModel", "way", "(II)Z"⟩ : MethodName)) ∈ mw_tb := mw_tb_in (List.mem_append_right _ (List.mem_of_getElem? (i := 418) (by decide +kernel))) (by decide +kernel)
theorem tb_419 : (Cond.selects "OrderBenchModel" (⟨"OrderBenchModel", "way", "(II)Z"⟩ : MethodName) (⟨"OrderBenchModel", "way", "(II)Z"⟩ : MethodName)) ∈ mw_tb := mw_tb_in (List.mem_append_right _ (List.mem_of_getElem? (i := 419) (by decide +kernel))) (by decide +kernel)
theorem tb_417 : (Cond.methodLink "OrderBenchLaw" (69 : Nat) (⟨"OrderBenchModel", "way", "(II)Z"⟩ : MethodName)) ∈ mw_tb := mw_tb_in (List.mem_append_right _ (List.mem_of_getElem? (i := 417) (by decide +kernel))) (by decide +kernel)
theorem lk_lw_law_md_way : mw_lkV m_lw_law m_md_way 69 2 2 := ⟨ca_md_way, tb_417, tb_418, _, rfl, tb_419⟩
theorem tb_267 : (Cond.codeWith (⟨"OrderBenchLaw", "drop", "(LOrderBench;II[J)I"⟩ : MethodName) method_5_code (5 : Nat) (Option.some FieldType.int) [((0 : Nat), (17 : Nat), (20 : Nat), (19 : Nat))]) ∈ mw_tb := mw_tb_in (List.mem_append_right _ (List.mem_of_getElem? (i := 267) (by decide +kernel))) (by decide +kernel)
theorem ca_lw_drop : mw_cal m_lw_drop 4 := ⟨tb_267, tb_0, Nat.le_of_ble_eq_true rfl, by decide +kernel, ⟨by decide +kernel, by decide +kernel⟩, by decide +kernel⟩
theorem tb_266 : (Cond.static (⟨"OrderBenchLaw", "drop", "(LOrderBench;II[J)I"⟩ : MethodName)) ∈ mw_tb := mw_tb_in (List.mem_append_right _ (List.mem_of_getElem? (i := 266) (by decide +kernel))) (by decide +kernel)
theorem tb_265 : (Cond.methodLink "OrderBenchLaw" (70 : Nat) (⟨"OrderBenchLaw", "drop", "(LOrderBench;II[J)I"⟩ : MethodName)) ∈ mw_tb := mw_tb_in (List.mem_append_right _ (List.mem_of_getElem? (i := 265) (by decide +kernel))) (by decide +kernel)
theorem lk_lw_law_lw_drop : mw_lkS m_lw_law m_lw_drop 70 4 := ⟨ca_lw_drop, tb_265, tb_266⟩
theorem tb_432 : (Cond.code (⟨"OrderBenchModel", "drop", "(II)Z"⟩ : MethodName) prog_4_method_8_code (3 : Nat) (Option.some FieldType.boolean)) ∈ mw_tb := mw_tb_in (List.mem_append_right _ (List.mem_of_getElem? (i := 432) (by decide +kernel))) (by decide +kernel)
theorem ca_md_drop : mw_cal m_md_drop 2 := ⟨tb_432, tb_3, Nat.le_of_ble_eq_true rfl, by decide +kernel, ⟨by decide +kernel, by decide +kernel⟩, by decide +kernel⟩
theorem tb_430 : (Cond.instanceMethod (⟨"OrderBenchModel", "drop", "(II)Z"⟩ : MethodName)) ∈ mw_tb := mw_tb_in (List.mem_append_right _ (List.mem_of_getElem? (i := 430) (by decide +kernel))) (by decide +kernel)
theorem tb_431 : (Cond.selects "OrderBenchModel" (⟨"OrderBenchModel", "drop", "(II)Z"⟩ : MethodName) (⟨"OrderBenchModel", "drop", "(II)Z"⟩ : MethodName)) ∈ mw_tb := mw_tb_in (List.mem_append_right _ (List.mem_of_getElem? (i := 431) (by decide +kernel))) (by decide +kernel)
theorem tb_429 : (Cond.methodLink "OrderBenchLaw" (72 : Nat) (⟨"OrderBenchModel", "drop", "(II)Z"⟩ : MethodName)) ∈ mw_tb := mw_tb_in (List.mem_append_right _ (List.mem_of_getElem? (i := 429) (by decide +kernel))) (by decide +kernel)
theorem lk_lw_law_md_drop : mw_lkV m_lw_law m_md_drop 72 2 2 := ⟨ca_md_drop, tb_429, tb_430, _, rfl, tb_431⟩
theorem tb_274 : (Cond.codeWith (⟨"OrderBenchLaw", "reaches", "(LOrderBench;II[J)I"⟩ : MethodName) method_6_code (5 : Nat) (Option.some FieldType.int) [((0 : Nat), (17 : Nat), (20 : Nat), (19 : Nat))]) ∈ mw_tb := mw_tb_in (List.mem_append_right _ (List.mem_of_getElem? (i := 274) (by decide +kernel))) (by decide +kernel)
theorem ca_lw_reaches : mw_cal m_lw_reaches 4 := ⟨tb_274, tb_0, Nat.le_of_ble_eq_true rfl, by decide +kernel, ⟨by decide +kernel, by decide +kernel⟩, by decide +kernel⟩
theorem tb_273 : (Cond.static (⟨"OrderBenchLaw", "reaches", "(LOrderBench;II[J)I"⟩ : MethodName)) ∈ mw_tb := mw_tb_in (List.mem_append_right _ (List.mem_of_getElem? (i := 273) (by decide +kernel))) (by decide +kernel)
theorem tb_272 : (Cond.methodLink "OrderBenchLaw" (73 : Nat) (⟨"OrderBenchLaw", "reaches", "(LOrderBench;II[J)I"⟩ : MethodName)) ∈ mw_tb := mw_tb_in (List.mem_append_right _ (List.mem_of_getElem? (i := 272) (by decide +kernel))) (by decide +kernel)
theorem lk_lw_law_lw_reaches : mw_lkS m_lw_law m_lw_reaches 73 4 := ⟨ca_lw_reaches, tb_272, tb_273⟩
theorem tb_436 : (Cond.code (⟨"OrderBenchModel", "reaches", "(II)Z"⟩ : MethodName) prog_4_method_10_code (3 : Nat) (Option.some FieldType.boolean)) ∈ mw_tb := mw_tb_in (List.mem_append_right _ (List.mem_of_getElem? (i := 436) (by decide +kernel))) (by decide +kernel)
theorem ca_md_reaches : mw_cal m_md_reaches 2 := ⟨tb_436, tb_3, Nat.le_of_ble_eq_true rfl, by decide +kernel, ⟨by decide +kernel, by decide +kernel⟩, by decide +kernel⟩
theorem tb_434 : (Cond.instanceMethod (⟨"OrderBenchModel", "reaches", "(II)Z"⟩ : MethodName)) ∈ mw_tb := mw_tb_in (List.mem_append_right _ (List.mem_of_getElem? (i := 434) (by decide +kernel))) (by decide +kernel)
theorem tb_435 : (Cond.selects "OrderBenchModel" (⟨"OrderBenchModel", "reaches", "(II)Z"⟩ : MethodName) (⟨"OrderBenchModel", "reaches", "(II)Z"⟩ : MethodName)) ∈ mw_tb := mw_tb_in (List.mem_append_right _ (List.mem_of_getElem? (i := 435) (by decide +kernel))) (by decide +kernel)
theorem tb_433 : (Cond.methodLink "OrderBenchLaw" (75 : Nat) (⟨"OrderBenchModel", "reaches", "(II)Z"⟩ : MethodName)) ∈ mw_tb := mw_tb_in (List.mem_append_right _ (List.mem_of_getElem? (i := 433) (by decide +kernel))) (by decide +kernel)
theorem lk_lw_law_md_reaches : mw_lkV m_lw_law m_md_reaches 75 2 2 := ⟨ca_md_reaches, tb_433, tb_434, _, rfl, tb_435⟩
theorem tb_281 : (Cond.codeWith (⟨"OrderBenchLaw", "far", "(LOrderBench;II[J)I"⟩ : MethodName) method_7_code (5 : Nat) (Option.some FieldType.int) [((0 : Nat), (10 : Nat), (13 : Nat), (19 : Nat))]) ∈ mw_tb := mw_tb_in (List.mem_append_right _ (List.mem_of_getElem? (i := 281) (by decide +kernel))) (by decide +kernel)
theorem ca_lw_far : mw_cal m_lw_far 4 := ⟨tb_281, tb_0, Nat.le_of_ble_eq_true rfl, by decide +kernel, ⟨by decide +kernel, by decide +kernel⟩, by decide +kernel⟩
theorem tb_280 : (Cond.static (⟨"OrderBenchLaw", "far", "(LOrderBench;II[J)I"⟩ : MethodName)) ∈ mw_tb := mw_tb_in (List.mem_append_right _ (List.mem_of_getElem? (i := 280) (by decide +kernel))) (by decide +kernel)
theorem tb_279 : (Cond.methodLink "OrderBenchLaw" (76 : Nat) (⟨"OrderBenchLaw", "far", "(LOrderBench;II[J)I"⟩ : MethodName)) ∈ mw_tb := mw_tb_in (List.mem_append_right _ (List.mem_of_getElem? (i := 279) (by decide +kernel))) (by decide +kernel)
theorem lk_lw_law_lw_far : mw_lkS m_lw_law m_lw_far 76 4 := ⟨ca_lw_far, tb_279, tb_280⟩
theorem tb_444 : (Cond.code (⟨"OrderBenchModel", "far", "(II)I"⟩ : MethodName) prog_4_method_11_code (3 : Nat) (Option.some FieldType.int)) ∈ mw_tb := mw_tb_in (List.mem_append_right _ (List.mem_of_getElem? (i := 444) (by decide +kernel))) (by decide +kernel)
theorem ca_md_far : mw_cal m_md_far 2 := ⟨tb_444, tb_3, Nat.le_of_ble_eq_true rfl, by decide +kernel, ⟨by decide +kernel, by decide +kernel⟩, by decide +kernel⟩
theorem tb_442 : (Cond.instanceMethod (⟨"OrderBenchModel", "far", "(II)I"⟩ : MethodName)) ∈ mw_tb := mw_tb_in (List.mem_append_right _ (List.mem_of_getElem? (i := 442) (by decide +kernel))) (by decide +kernel)
theorem tb_443 : (Cond.selects "OrderBenchModel" (⟨"OrderBenchModel", "far", "(II)I"⟩ : MethodName) (⟨"OrderBenchModel", "far", "(II)I"⟩ : MethodName)) ∈ mw_tb := mw_tb_in (List.mem_append_right _ (List.mem_of_getElem? (i := 443) (by decide +kernel))) (by decide +kernel)
theorem tb_441 : (Cond.methodLink "OrderBenchLaw" (78 : Nat) (⟨"OrderBenchModel", "far", "(II)I"⟩ : MethodName)) ∈ mw_tb := mw_tb_in (List.mem_append_right _ (List.mem_of_getElem? (i := 441) (by decide +kernel))) (by decide +kernel)
theorem lk_lw_law_md_far : mw_lkV m_lw_law m_md_far 78 2 2 := ⟨ca_md_far, tb_441, tb_442, _, rfl, tb_443⟩
theorem tb_70 : (Cond.code (⟨"OrderBench", "circle", "()I"⟩ : MethodName) prog_1_method_7_code (2 : Nat) (Option.some FieldType.int)) ∈ mw_tb := mw_tb_in (List.mem_append_right _ (List.mem_of_getElem? (i := 70) (by decide +kernel))) (by decide +kernel)
theorem ca_ob_circle : mw_cal m_ob_circle 0 := ⟨tb_70, tb_1, Nat.le_of_ble_eq_true rfl, by decide +kernel, ⟨by decide +kernel, by decide +kernel⟩, by decide +kernel⟩
theorem tb_68 : (Cond.instanceMethod (⟨"OrderBench", "circle", "()I"⟩ : MethodName)) ∈ mw_tb := mw_tb_in (List.mem_append_right _ (List.mem_of_getElem? (i := 68) (by decide +kernel))) (by decide +kernel)
theorem tb_69 : (Cond.selects "OrderBench" (⟨"OrderBench", "circle", "()I"⟩ : MethodName) (⟨"OrderBench", "circle", "()I"⟩ : MethodName)) ∈ mw_tb := mw_tb_in (List.mem_append_right _ (List.mem_of_getElem? (i := 69) (by decide +kernel))) (by decide +kernel)
theorem tb_67 : (Cond.methodLink "OrderBenchLaw" (79 : Nat) (⟨"OrderBench", "circle", "()I"⟩ : MethodName)) ∈ mw_tb := mw_tb_in (List.mem_append_right _ (List.mem_of_getElem? (i := 67) (by decide +kernel))) (by decide +kernel)
theorem lk_lw_law_ob_circle : mw_lkV m_lw_law m_ob_circle 79 0 1 := ⟨ca_ob_circle, tb_67, tb_68, _, rfl, tb_69⟩
theorem tb_448 : (Cond.code (⟨"OrderBenchModel", "circle", "()I"⟩ : MethodName) prog_4_method_14_code (2 : Nat) (Option.some FieldType.int)) ∈ mw_tb := mw_tb_in (List.mem_append_right _ (List.mem_of_getElem? (i := 448) (by decide +kernel))) (by decide +kernel)
theorem ca_md_circle : mw_cal m_md_circle 0 := ⟨tb_448, tb_3, Nat.le_of_ble_eq_true rfl, by decide +kernel, ⟨by decide +kernel, by decide +kernel⟩, by decide +kernel⟩
theorem tb_446 : (Cond.instanceMethod (⟨"OrderBenchModel", "circle", "()I"⟩ : MethodName)) ∈ mw_tb := mw_tb_in (List.mem_append_right _ (List.mem_of_getElem? (i := 446) (by decide +kernel))) (by decide +kernel)
theorem tb_447 : (Cond.selects "OrderBenchModel" (⟨"OrderBenchModel", "circle", "()I"⟩ : MethodName) (⟨"OrderBenchModel", "circle", "()I"⟩ : MethodName)) ∈ mw_tb := mw_tb_in (List.mem_append_right _ (List.mem_of_getElem? (i := 447) (by decide +kernel))) (by decide +kernel)
theorem tb_445 : (Cond.methodLink "OrderBenchLaw" (82 : Nat) (⟨"OrderBenchModel", "circle", "()I"⟩ : MethodName)) ∈ mw_tb := mw_tb_in (List.mem_append_right _ (List.mem_of_getElem? (i := 445) (by decide +kernel))) (by decide +kernel)
theorem lk_lw_law_md_circle : mw_lkV m_lw_law m_md_circle 82 0 2 := ⟨ca_md_circle, tb_445, tb_446, _, rfl, tb_447⟩
theorem tb_288 : (Cond.codeWith (⟨"OrderBenchLaw", "group", "(LOrderBench;I[J)I"⟩ : MethodName) method_8_code (4 : Nat) (Option.some FieldType.int) [((0 : Nat), (9 : Nat), (12 : Nat), (19 : Nat))]) ∈ mw_tb := mw_tb_in (List.mem_append_right _ (List.mem_of_getElem? (i := 288) (by decide +kernel))) (by decide +kernel)
theorem ca_lw_group : mw_cal m_lw_group 3 := ⟨tb_288, tb_0, Nat.le_of_ble_eq_true rfl, by decide +kernel, ⟨by decide +kernel, by decide +kernel⟩, by decide +kernel⟩
theorem tb_287 : (Cond.static (⟨"OrderBenchLaw", "group", "(LOrderBench;I[J)I"⟩ : MethodName)) ∈ mw_tb := mw_tb_in (List.mem_append_right _ (List.mem_of_getElem? (i := 287) (by decide +kernel))) (by decide +kernel)
theorem tb_286 : (Cond.methodLink "OrderBenchLaw" (83 : Nat) (⟨"OrderBenchLaw", "group", "(LOrderBench;I[J)I"⟩ : MethodName)) ∈ mw_tb := mw_tb_in (List.mem_append_right _ (List.mem_of_getElem? (i := 286) (by decide +kernel))) (by decide +kernel)
theorem lk_lw_law_lw_group : mw_lkS m_lw_law m_lw_group 83 3 := ⟨ca_lw_group, tb_286, tb_287⟩
theorem tb_460 : (Cond.code (⟨"OrderBenchModel", "group", "(I)I"⟩ : MethodName) prog_4_method_16_code (2 : Nat) (Option.some FieldType.int)) ∈ mw_tb := mw_tb_in (List.mem_append_right _ (List.mem_of_getElem? (i := 460) (by decide +kernel))) (by decide +kernel)
theorem ca_md_group : mw_cal m_md_group 1 := ⟨tb_460, tb_3, Nat.le_of_ble_eq_true rfl, by decide +kernel, ⟨by decide +kernel, by decide +kernel⟩, by decide +kernel⟩
theorem tb_458 : (Cond.instanceMethod (⟨"OrderBenchModel", "group", "(I)I"⟩ : MethodName)) ∈ mw_tb := mw_tb_in (List.mem_append_right _ (List.mem_of_getElem? (i := 458) (by decide +kernel))) (by decide +kernel)
theorem tb_459 : (Cond.selects "OrderBenchModel" (⟨"OrderBenchModel", "group", "(I)I"⟩ : MethodName) (⟨"OrderBenchModel", "group", "(I)I"⟩ : MethodName)) ∈ mw_tb := mw_tb_in (List.mem_append_right _ (List.mem_of_getElem? (i := 459) (by decide +kernel))) (by decide +kernel)
theorem tb_457 : (Cond.methodLink "OrderBenchLaw" (85 : Nat) (⟨"OrderBenchModel", "group", "(I)I"⟩ : MethodName)) ∈ mw_tb := mw_tb_in (List.mem_append_right _ (List.mem_of_getElem? (i := 457) (by decide +kernel))) (by decide +kernel)
theorem lk_lw_law_md_group : mw_lkV m_lw_law m_md_group 85 1 2 := ⟨ca_md_group, tb_457, tb_458, _, rfl, tb_459⟩
theorem tb_138 : (Cond.code (⟨"OrderBench", "groups", "()I"⟩ : MethodName) prog_1_method_9_code (3 : Nat) (Option.some FieldType.int)) ∈ mw_tb := mw_tb_in (List.mem_append_right _ (List.mem_of_getElem? (i := 138) (by decide +kernel))) (by decide +kernel)
theorem ca_ob_groups : mw_cal m_ob_groups 0 := ⟨tb_138, tb_1, Nat.le_of_ble_eq_true rfl, by decide +kernel, ⟨by decide +kernel, by decide +kernel⟩, by decide +kernel⟩
theorem tb_136 : (Cond.instanceMethod (⟨"OrderBench", "groups", "()I"⟩ : MethodName)) ∈ mw_tb := mw_tb_in (List.mem_append_right _ (List.mem_of_getElem? (i := 136) (by decide +kernel))) (by decide +kernel)
theorem tb_137 : (Cond.selects "OrderBench" (⟨"OrderBench", "groups", "()I"⟩ : MethodName) (⟨"OrderBench", "groups", "()I"⟩ : MethodName)) ∈ mw_tb := mw_tb_in (List.mem_append_right _ (List.mem_of_getElem? (i := 137) (by decide +kernel))) (by decide +kernel)
theorem tb_135 : (Cond.methodLink "OrderBenchLaw" (86 : Nat) (⟨"OrderBench", "groups", "()I"⟩ : MethodName)) ∈ mw_tb := mw_tb_in (List.mem_append_right _ (List.mem_of_getElem? (i := 135) (by decide +kernel))) (by decide +kernel)
theorem lk_lw_law_ob_groups : mw_lkV m_lw_law m_ob_groups 86 0 1 := ⟨ca_ob_groups, tb_135, tb_136, _, rfl, tb_137⟩
theorem tb_468 : (Cond.code (⟨"OrderBenchModel", "groups", "()I"⟩ : MethodName) prog_4_method_17_code (3 : Nat) (Option.some FieldType.int)) ∈ mw_tb := mw_tb_in (List.mem_append_right _ (List.mem_of_getElem? (i := 468) (by decide +kernel))) (by decide +kernel)
theorem ca_md_groups : mw_cal m_md_groups 0 := ⟨tb_468, tb_3, Nat.le_of_ble_eq_true rfl, by decide +kernel, ⟨by decide +kernel, by decide +kernel⟩, by decide +kernel⟩
theorem tb_466 : (Cond.instanceMethod (⟨"OrderBenchModel", "groups", "()I"⟩ : MethodName)) ∈ mw_tb := mw_tb_in (List.mem_append_right _ (List.mem_of_getElem? (i := 466) (by decide +kernel))) (by decide +kernel)
theorem tb_467 : (Cond.selects "OrderBenchModel" (⟨"OrderBenchModel", "groups", "()I"⟩ : MethodName) (⟨"OrderBenchModel", "groups", "()I"⟩ : MethodName)) ∈ mw_tb := mw_tb_in (List.mem_append_right _ (List.mem_of_getElem? (i := 467) (by decide +kernel))) (by decide +kernel)
theorem tb_465 : (Cond.methodLink "OrderBenchLaw" (89 : Nat) (⟨"OrderBenchModel", "groups", "()I"⟩ : MethodName)) ∈ mw_tb := mw_tb_in (List.mem_append_right _ (List.mem_of_getElem? (i := 465) (by decide +kernel))) (by decide +kernel)
theorem lk_lw_law_md_groups : mw_lkV m_lw_law m_md_groups 89 0 2 := ⟨ca_md_groups, tb_465, tb_466, _, rfl, tb_467⟩
theorem tb_295 : (Cond.codeWith (⟨"OrderBenchLaw", "order", "(LOrderBench;I[J)I"⟩ : MethodName) method_9_code (4 : Nat) (Option.some FieldType.int) [((0 : Nat), (9 : Nat), (12 : Nat), (19 : Nat)), ((0 : Nat), (9 : Nat), (15 : Nat), (37 : Nat))]) ∈ mw_tb := mw_tb_in (List.mem_append_right _ (List.mem_of_getElem? (i := 295) (by decide +kernel))) (by decide +kernel)
theorem ca_lw_order : mw_cal m_lw_order 3 := ⟨tb_295, tb_0, Nat.le_of_ble_eq_true rfl, by decide +kernel, ⟨by decide +kernel, by decide +kernel⟩, by decide +kernel⟩
theorem tb_294 : (Cond.static (⟨"OrderBenchLaw", "order", "(LOrderBench;I[J)I"⟩ : MethodName)) ∈ mw_tb := mw_tb_in (List.mem_append_right _ (List.mem_of_getElem? (i := 294) (by decide +kernel))) (by decide +kernel)
theorem tb_293 : (Cond.methodLink "OrderBenchLaw" (90 : Nat) (⟨"OrderBenchLaw", "order", "(LOrderBench;I[J)I"⟩ : MethodName)) ∈ mw_tb := mw_tb_in (List.mem_append_right _ (List.mem_of_getElem? (i := 293) (by decide +kernel))) (by decide +kernel)
theorem lk_lw_law_lw_order : mw_lkS m_lw_law m_lw_order 90 3 := ⟨ca_lw_order, tb_293, tb_294⟩
theorem tb_472 : (Cond.code (⟨"OrderBenchModel", "order", "(I)I"⟩ : MethodName) prog_4_method_20_code (2 : Nat) (Option.some FieldType.int)) ∈ mw_tb := mw_tb_in (List.mem_append_right _ (List.mem_of_getElem? (i := 472) (by decide +kernel))) (by decide +kernel)
theorem ca_md_order : mw_cal m_md_order 1 := ⟨tb_472, tb_3, Nat.le_of_ble_eq_true rfl, by decide +kernel, ⟨by decide +kernel, by decide +kernel⟩, by decide +kernel⟩
theorem tb_470 : (Cond.instanceMethod (⟨"OrderBenchModel", "order", "(I)I"⟩ : MethodName)) ∈ mw_tb := mw_tb_in (List.mem_append_right _ (List.mem_of_getElem? (i := 470) (by decide +kernel))) (by decide +kernel)
theorem tb_471 : (Cond.selects "OrderBenchModel" (⟨"OrderBenchModel", "order", "(I)I"⟩ : MethodName) (⟨"OrderBenchModel", "order", "(I)I"⟩ : MethodName)) ∈ mw_tb := mw_tb_in (List.mem_append_right _ (List.mem_of_getElem? (i := 471) (by decide +kernel))) (by decide +kernel)
theorem tb_469 : (Cond.methodLink "OrderBenchLaw" (92 : Nat) (⟨"OrderBenchModel", "order", "(I)I"⟩ : MethodName)) ∈ mw_tb := mw_tb_in (List.mem_append_right _ (List.mem_of_getElem? (i := 469) (by decide +kernel))) (by decide +kernel)
theorem lk_lw_law_md_order : mw_lkV m_lw_law m_md_order 92 1 2 := ⟨ca_md_order, tb_469, tb_470, _, rfl, tb_471⟩
theorem tb_326 : (Cond.codeWith (⟨"OrderBenchLaw", "level", "(LOrderBench;I[J)I"⟩ : MethodName) method_10_code (4 : Nat) (Option.some FieldType.int) [((0 : Nat), (9 : Nat), (12 : Nat), (19 : Nat)), ((0 : Nat), (9 : Nat), (15 : Nat), (37 : Nat))]) ∈ mw_tb := mw_tb_in (List.mem_append_right _ (List.mem_of_getElem? (i := 326) (by decide +kernel))) (by decide +kernel)
theorem ca_lw_level : mw_cal m_lw_level 3 := ⟨tb_326, tb_0, Nat.le_of_ble_eq_true rfl, by decide +kernel, ⟨by decide +kernel, by decide +kernel⟩, by decide +kernel⟩
theorem tb_325 : (Cond.static (⟨"OrderBenchLaw", "level", "(LOrderBench;I[J)I"⟩ : MethodName)) ∈ mw_tb := mw_tb_in (List.mem_append_right _ (List.mem_of_getElem? (i := 325) (by decide +kernel))) (by decide +kernel)
theorem tb_324 : (Cond.methodLink "OrderBenchLaw" (93 : Nat) (⟨"OrderBenchLaw", "level", "(LOrderBench;I[J)I"⟩ : MethodName)) ∈ mw_tb := mw_tb_in (List.mem_append_right _ (List.mem_of_getElem? (i := 324) (by decide +kernel))) (by decide +kernel)
theorem lk_lw_law_lw_level : mw_lkS m_lw_law m_lw_level 93 3 := ⟨ca_lw_level, tb_324, tb_325⟩
theorem tb_484 : (Cond.code (⟨"OrderBenchModel", "level", "(I)I"⟩ : MethodName) prog_4_method_21_code (5 : Nat) (Option.some FieldType.int)) ∈ mw_tb := mw_tb_in (List.mem_append_right _ (List.mem_of_getElem? (i := 484) (by decide +kernel))) (by decide +kernel)
theorem ca_md_level : mw_cal m_md_level 1 := ⟨tb_484, tb_3, Nat.le_of_ble_eq_true rfl, by decide +kernel, ⟨by decide +kernel, by decide +kernel⟩, by decide +kernel⟩
theorem tb_482 : (Cond.instanceMethod (⟨"OrderBenchModel", "level", "(I)I"⟩ : MethodName)) ∈ mw_tb := mw_tb_in (List.mem_append_right _ (List.mem_of_getElem? (i := 482) (by decide +kernel))) (by decide +kernel)
theorem tb_483 : (Cond.selects "OrderBenchModel" (⟨"OrderBenchModel", "level", "(I)I"⟩ : MethodName) (⟨"OrderBenchModel", "level", "(I)I"⟩ : MethodName)) ∈ mw_tb := mw_tb_in (List.mem_append_right _ (List.mem_of_getElem? (i := 483) (by decide +kernel))) (by decide +kernel)
theorem tb_481 : (Cond.methodLink "OrderBenchLaw" (95 : Nat) (⟨"OrderBenchModel", "level", "(I)I"⟩ : MethodName)) ∈ mw_tb := mw_tb_in (List.mem_append_right _ (List.mem_of_getElem? (i := 481) (by decide +kernel))) (by decide +kernel)
theorem lk_lw_law_md_level : mw_lkV m_lw_law m_md_level 95 1 2 := ⟨ca_md_level, tb_481, tb_482, _, rfl, tb_483⟩
theorem tb_343 : (Cond.codeWith (⟨"OrderBenchLaw", "paths", "(LOrderBench;II[J)I"⟩ : MethodName) method_11_code (5 : Nat) (Option.some FieldType.int) [((0 : Nat), (10 : Nat), (13 : Nat), (19 : Nat)), ((0 : Nat), (10 : Nat), (17 : Nat), (37 : Nat))]) ∈ mw_tb := mw_tb_in (List.mem_append_right _ (List.mem_of_getElem? (i := 343) (by decide +kernel))) (by decide +kernel)
theorem ca_lw_paths : mw_cal m_lw_paths 4 := ⟨tb_343, tb_0, Nat.le_of_ble_eq_true rfl, by decide +kernel, ⟨by decide +kernel, by decide +kernel⟩, by decide +kernel⟩
theorem tb_342 : (Cond.static (⟨"OrderBenchLaw", "paths", "(LOrderBench;II[J)I"⟩ : MethodName)) ∈ mw_tb := mw_tb_in (List.mem_append_right _ (List.mem_of_getElem? (i := 342) (by decide +kernel))) (by decide +kernel)
theorem tb_341 : (Cond.methodLink "OrderBenchLaw" (96 : Nat) (⟨"OrderBenchLaw", "paths", "(LOrderBench;II[J)I"⟩ : MethodName)) ∈ mw_tb := mw_tb_in (List.mem_append_right _ (List.mem_of_getElem? (i := 341) (by decide +kernel))) (by decide +kernel)
theorem lk_lw_law_lw_paths : mw_lkS m_lw_law m_lw_paths 96 4 := ⟨ca_lw_paths, tb_341, tb_342⟩
theorem tb_489 : (Cond.code (⟨"OrderBenchModel", "paths", "(II)I"⟩ : MethodName) prog_4_method_22_code (6 : Nat) (Option.some FieldType.int)) ∈ mw_tb := mw_tb_in (List.mem_append_right _ (List.mem_of_getElem? (i := 489) (by decide +kernel))) (by decide +kernel)
theorem ca_md_paths : mw_cal m_md_paths 2 := ⟨tb_489, tb_3, Nat.le_of_ble_eq_true rfl, by decide +kernel, ⟨by decide +kernel, by decide +kernel⟩, by decide +kernel⟩
theorem tb_487 : (Cond.instanceMethod (⟨"OrderBenchModel", "paths", "(II)I"⟩ : MethodName)) ∈ mw_tb := mw_tb_in (List.mem_append_right _ (List.mem_of_getElem? (i := 487) (by decide +kernel))) (by decide +kernel)
theorem tb_488 : (Cond.selects "OrderBenchModel" (⟨"OrderBenchModel", "paths", "(II)I"⟩ : MethodName) (⟨"OrderBenchModel", "paths", "(II)I"⟩ : MethodName)) ∈ mw_tb := mw_tb_in (List.mem_append_right _ (List.mem_of_getElem? (i := 488) (by decide +kernel))) (by decide +kernel)
theorem tb_486 : (Cond.methodLink "OrderBenchLaw" (98 : Nat) (⟨"OrderBenchModel", "paths", "(II)I"⟩ : MethodName)) ∈ mw_tb := mw_tb_in (List.mem_append_right _ (List.mem_of_getElem? (i := 486) (by decide +kernel))) (by decide +kernel)
theorem lk_lw_law_md_paths : mw_lkV m_lw_law m_md_paths 98 2 2 := ⟨ca_md_paths, tb_486, tb_487, _, rfl, tb_488⟩
theorem tb_355 : (Cond.codeWith (⟨"OrderBenchLaw", "gate", "(LOrderBench;II[J)I"⟩ : MethodName) method_12_code (5 : Nat) (Option.some FieldType.int) [((0 : Nat), (10 : Nat), (13 : Nat), (19 : Nat))]) ∈ mw_tb := mw_tb_in (List.mem_append_right _ (List.mem_of_getElem? (i := 355) (by decide +kernel))) (by decide +kernel)
theorem ca_lw_gate : mw_cal m_lw_gate 4 := ⟨tb_355, tb_0, Nat.le_of_ble_eq_true rfl, by decide +kernel, ⟨by decide +kernel, by decide +kernel⟩, by decide +kernel⟩
theorem tb_354 : (Cond.static (⟨"OrderBenchLaw", "gate", "(LOrderBench;II[J)I"⟩ : MethodName)) ∈ mw_tb := mw_tb_in (List.mem_append_right _ (List.mem_of_getElem? (i := 354) (by decide +kernel))) (by decide +kernel)
theorem tb_353 : (Cond.methodLink "OrderBenchLaw" (99 : Nat) (⟨"OrderBenchLaw", "gate", "(LOrderBench;II[J)I"⟩ : MethodName)) ∈ mw_tb := mw_tb_in (List.mem_append_right _ (List.mem_of_getElem? (i := 353) (by decide +kernel))) (by decide +kernel)
theorem lk_lw_law_lw_gate : mw_lkS m_lw_law m_lw_gate 99 4 := ⟨ca_lw_gate, tb_353, tb_354⟩
theorem tb_494 : (Cond.code (⟨"OrderBenchModel", "gate", "(II)I"⟩ : MethodName) prog_4_method_24_code (5 : Nat) (Option.some FieldType.int)) ∈ mw_tb := mw_tb_in (List.mem_append_right _ (List.mem_of_getElem? (i := 494) (by decide +kernel))) (by decide +kernel)
theorem ca_md_gate : mw_cal m_md_gate 2 := ⟨tb_494, tb_3, Nat.le_of_ble_eq_true rfl, by decide +kernel, ⟨by decide +kernel, by decide +kernel⟩, by decide +kernel⟩
theorem tb_492 : (Cond.instanceMethod (⟨"OrderBenchModel", "gate", "(II)I"⟩ : MethodName)) ∈ mw_tb := mw_tb_in (List.mem_append_right _ (List.mem_of_getElem? (i := 492) (by decide +kernel))) (by decide +kernel)
theorem tb_493 : (Cond.selects "OrderBenchModel" (⟨"OrderBenchModel", "gate", "(II)I"⟩ : MethodName) (⟨"OrderBenchModel", "gate", "(II)I"⟩ : MethodName)) ∈ mw_tb := mw_tb_in (List.mem_append_right _ (List.mem_of_getElem? (i := 493) (by decide +kernel))) (by decide +kernel)
theorem tb_491 : (Cond.methodLink "OrderBenchLaw" (101 : Nat) (⟨"OrderBenchModel", "gate", "(II)I"⟩ : MethodName)) ∈ mw_tb := mw_tb_in (List.mem_append_right _ (List.mem_of_getElem? (i := 491) (by decide +kernel))) (by decide +kernel)
theorem lk_lw_law_md_gate : mw_lkV m_lw_law m_md_gate 101 2 2 := ⟨ca_md_gate, tb_491, tb_492, _, rfl, tb_493⟩
theorem tb_366 : (Cond.codeWith (⟨"OrderBenchLaw", "all", "(LOrderBench;III[J)I"⟩ : MethodName) method_13_code (6 : Nat) (Option.some FieldType.int) [((0 : Nat), (19 : Nat), (22 : Nat), (19 : Nat))]) ∈ mw_tb := mw_tb_in (List.mem_append_right _ (List.mem_of_getElem? (i := 366) (by decide +kernel))) (by decide +kernel)
theorem ca_lw_all : mw_cal m_lw_all 5 := ⟨tb_366, tb_0, Nat.le_of_ble_eq_true rfl, by decide +kernel, ⟨by decide +kernel, by decide +kernel⟩, by decide +kernel⟩
theorem tb_365 : (Cond.static (⟨"OrderBenchLaw", "all", "(LOrderBench;III[J)I"⟩ : MethodName)) ∈ mw_tb := mw_tb_in (List.mem_append_right _ (List.mem_of_getElem? (i := 365) (by decide +kernel))) (by decide +kernel)
theorem tb_364 : (Cond.methodLink "OrderBenchLaw" (102 : Nat) (⟨"OrderBenchLaw", "all", "(LOrderBench;III[J)I"⟩ : MethodName)) ∈ mw_tb := mw_tb_in (List.mem_append_right _ (List.mem_of_getElem? (i := 364) (by decide +kernel))) (by decide +kernel)
theorem lk_lw_law_lw_all : mw_lkS m_lw_law m_lw_all 102 5 := ⟨ca_lw_all, tb_364, tb_365⟩
theorem tb_502 : (Cond.code (⟨"OrderBenchModel", "all", "(III)Z"⟩ : MethodName) prog_4_method_25_code (4 : Nat) (Option.some FieldType.boolean)) ∈ mw_tb := mw_tb_in (List.mem_append_right _ (List.mem_of_getElem? (i := 502) (by decide +kernel))) (by decide +kernel)
theorem ca_md_all3 : mw_cal m_md_all3 3 := ⟨tb_502, tb_3, Nat.le_of_ble_eq_true rfl, by decide +kernel, ⟨by decide +kernel, by decide +kernel⟩, by decide +kernel⟩
theorem tb_500 : (Cond.instanceMethod (⟨"OrderBenchModel", "all", "(III)Z"⟩ : MethodName)) ∈ mw_tb := mw_tb_in (List.mem_append_right _ (List.mem_of_getElem? (i := 500) (by decide +kernel))) (by decide +kernel)
theorem tb_501 : (Cond.selects "OrderBenchModel" (⟨"OrderBenchModel", "all", "(III)Z"⟩ : MethodName) (⟨"OrderBenchModel", "all", "(III)Z"⟩ : MethodName)) ∈ mw_tb := mw_tb_in (List.mem_append_right _ (List.mem_of_getElem? (i := 501) (by decide +kernel))) (by decide +kernel)
theorem tb_499 : (Cond.methodLink "OrderBenchLaw" (105 : Nat) (⟨"OrderBenchModel", "all", "(III)Z"⟩ : MethodName)) ∈ mw_tb := mw_tb_in (List.mem_append_right _ (List.mem_of_getElem? (i := 499) (by decide +kernel))) (by decide +kernel)
theorem lk_lw_law_md_all3 : mw_lkV m_lw_law m_md_all3 105 3 2 := ⟨ca_md_all3, tb_499, tb_500, _, rfl, tb_501⟩
theorem tb_150 : (Cond.code (⟨"OrderBench", "count", "(I)I"⟩ : MethodName) prog_1_method_15_code (2 : Nat) (Option.some FieldType.int)) ∈ mw_tb := mw_tb_in (List.mem_append_right _ (List.mem_of_getElem? (i := 150) (by decide +kernel))) (by decide +kernel)
theorem ca_ob_count : mw_cal m_ob_count 1 := ⟨tb_150, tb_1, Nat.le_of_ble_eq_true rfl, by decide +kernel, ⟨by decide +kernel, by decide +kernel⟩, by decide +kernel⟩
theorem tb_148 : (Cond.instanceMethod (⟨"OrderBench", "count", "(I)I"⟩ : MethodName)) ∈ mw_tb := mw_tb_in (List.mem_append_right _ (List.mem_of_getElem? (i := 148) (by decide +kernel))) (by decide +kernel)
theorem tb_149 : (Cond.selects "OrderBench" (⟨"OrderBench", "count", "(I)I"⟩ : MethodName) (⟨"OrderBench", "count", "(I)I"⟩ : MethodName)) ∈ mw_tb := mw_tb_in (List.mem_append_right _ (List.mem_of_getElem? (i := 149) (by decide +kernel))) (by decide +kernel)
theorem tb_147 : (Cond.methodLink "OrderBenchLaw" (106 : Nat) (⟨"OrderBench", "count", "(I)I"⟩ : MethodName)) ∈ mw_tb := mw_tb_in (List.mem_append_right _ (List.mem_of_getElem? (i := 147) (by decide +kernel))) (by decide +kernel)
theorem lk_lw_law_ob_count : mw_lkV m_lw_law m_ob_count 106 1 1 := ⟨ca_ob_count, tb_147, tb_148, _, rfl, tb_149⟩
theorem tb_506 : (Cond.code (⟨"OrderBenchModel", "count", "(I)I"⟩ : MethodName) prog_4_method_26_code (8 : Nat) (Option.some FieldType.int)) ∈ mw_tb := mw_tb_in (List.mem_append_right _ (List.mem_of_getElem? (i := 506) (by decide +kernel))) (by decide +kernel)
theorem ca_md_count : mw_cal m_md_count 1 := ⟨tb_506, tb_3, Nat.le_of_ble_eq_true rfl, by decide +kernel, ⟨by decide +kernel, by decide +kernel⟩, by decide +kernel⟩
theorem tb_504 : (Cond.instanceMethod (⟨"OrderBenchModel", "count", "(I)I"⟩ : MethodName)) ∈ mw_tb := mw_tb_in (List.mem_append_right _ (List.mem_of_getElem? (i := 504) (by decide +kernel))) (by decide +kernel)
theorem tb_505 : (Cond.selects "OrderBenchModel" (⟨"OrderBenchModel", "count", "(I)I"⟩ : MethodName) (⟨"OrderBenchModel", "count", "(I)I"⟩ : MethodName)) ∈ mw_tb := mw_tb_in (List.mem_append_right _ (List.mem_of_getElem? (i := 505) (by decide +kernel))) (by decide +kernel)
theorem tb_503 : (Cond.methodLink "OrderBenchLaw" (109 : Nat) (⟨"OrderBenchModel", "count", "(I)I"⟩ : MethodName)) ∈ mw_tb := mw_tb_in (List.mem_append_right _ (List.mem_of_getElem? (i := 503) (by decide +kernel))) (by decide +kernel)
theorem lk_lw_law_md_count : mw_lkV m_lw_law m_md_count 109 1 2 := ⟨ca_md_count, tb_503, tb_504, _, rfl, tb_505⟩
theorem tb_352 : (Cond.constant "OrderBench" (147 : Nat) (1000003 : Int32)) ∈ mw_tb := mw_tb_in (List.mem_append_right _ (List.mem_of_getElem? (i := 352) (by decide +kernel))) (by decide +kernel)
theorem tb_490 : (Cond.constant "OrderBenchModel" (77 : Nat) (1000003 : Int32)) ∈ mw_tb := mw_tb_in (List.mem_append_right _ (List.mem_of_getElem? (i := 490) (by decide +kernel))) (by decide +kernel)
theorem tb_111 : (Cond.constantLong "java/lang/Long" (314 : Nat) (6148914691236517205 : Int64)) ∈ mw_tb := mw_tb_in (List.mem_append_right _ (List.mem_of_getElem? (i := 111) (by decide +kernel))) (by decide +kernel)
theorem tb_112 : (Cond.constantLong "java/lang/Long" (316 : Nat) (3689348814741910323 : Int64)) ∈ mw_tb := mw_tb_in (List.mem_append_right _ (List.mem_of_getElem? (i := 112) (by decide +kernel))) (by decide +kernel)
theorem tb_113 : (Cond.constantLong "java/lang/Long" (318 : Nat) (1085102592571150095 : Int64)) ∈ mw_tb := mw_tb_in (List.mem_append_right _ (List.mem_of_getElem? (i := 113) (by decide +kernel))) (by decide +kernel)
theorem tb_122 : (Cond.constantLong "OrderBench$PlaceSet" (29 : Nat) (-1 : Int64)) ∈ mw_tb := mw_tb_in (List.mem_append_right _ (List.mem_of_getElem? (i := 122) (by decide +kernel))) (by decide +kernel)
theorem tb_13 : (Cond.classLink "OrderBenchLaw" (8 : Nat) "OrderBench") ∈ mw_tb := mw_tb_in (List.mem_append_right _ (List.mem_of_getElem? (i := 13) (by decide +kernel))) (by decide +kernel)
theorem tb_21 : (Cond.classLink "OrderBench" (13 : Nat) "OrderBench$PlaceSet") ∈ mw_tb := mw_tb_in (List.mem_append_right _ (List.mem_of_getElem? (i := 21) (by decide +kernel))) (by decide +kernel)
theorem tb_170 : (Cond.classLink "OrderBenchLaw" (13 : Nat) "java/lang/IllegalArgumentException") ∈ mw_tb := mw_tb_in (List.mem_append_right _ (List.mem_of_getElem? (i := 170) (by decide +kernel))) (by decide +kernel)
theorem tb_175 : (Cond.classLink "OrderBench" (46 : Nat) "java/lang/IllegalArgumentException") ∈ mw_tb := mw_tb_in (List.mem_append_right _ (List.mem_of_getElem? (i := 175) (by decide +kernel))) (by decide +kernel)
theorem tb_241 : (Cond.classLink "OrderBenchLaw" (19 : Nat) "java/util/NoSuchElementException") ∈ mw_tb := mw_tb_in (List.mem_append_right _ (List.mem_of_getElem? (i := 241) (by decide +kernel))) (by decide +kernel)
theorem tb_250 : (Cond.classLink "OrderBench" (100 : Nat) "java/util/NoSuchElementException") ∈ mw_tb := mw_tb_in (List.mem_append_right _ (List.mem_of_getElem? (i := 250) (by decide +kernel))) (by decide +kernel)
theorem tb_296 : (Cond.classLink "OrderBenchLaw" (37 : Nat) "java/lang/IllegalStateException") ∈ mw_tb := mw_tb_in (List.mem_append_right _ (List.mem_of_getElem? (i := 296) (by decide +kernel))) (by decide +kernel)
theorem tb_305 : (Cond.classLink "OrderBench" (130 : Nat) "java/lang/IllegalStateException") ∈ mw_tb := mw_tb_in (List.mem_append_right _ (List.mem_of_getElem? (i := 305) (by decide +kernel))) (by decide +kernel)
theorem tb_371 : (Cond.classLink "OrderBenchLaw" (53 : Nat) "OrderBenchModel") ∈ mw_tb := mw_tb_in (List.mem_append_right _ (List.mem_of_getElem? (i := 371) (by decide +kernel))) (by decide +kernel)
theorem tb_377 : (Cond.classLink "OrderBenchModel" (16 : Nat) "[[Z") ∈ mw_tb := mw_tb_in (List.mem_append_right _ (List.mem_of_getElem? (i := 377) (by decide +kernel))) (by decide +kernel)
theorem tb_66 : (Cond.arrayClass FieldType.int) ∈ mw_tb := mw_tb_in (List.mem_append_right _ (List.mem_of_getElem? (i := 66) (by decide +kernel))) (by decide +kernel)
theorem tb_404 : (Cond.arrayClass FieldType.boolean) ∈ mw_tb := mw_tb_in (List.mem_append_right _ (List.mem_of_getElem? (i := 404) (by decide +kernel))) (by decide +kernel)
theorem tb_507 : (Cond.arrayClass FieldType.long) ∈ mw_tb := mw_tb_in (List.mem_append_right _ (List.mem_of_getElem? (i := 507) (by decide +kernel))) (by decide +kernel)
theorem tb_14 : (Cond.instantiable "OrderBench" (10 : Nat)) ∈ mw_tb := mw_tb_in (List.mem_append_right _ (List.mem_of_getElem? (i := 14) (by decide +kernel))) (by decide +kernel)
theorem tb_23 : (Cond.instantiable "OrderBench$PlaceSet" (2 : Nat)) ∈ mw_tb := mw_tb_in (List.mem_append_right _ (List.mem_of_getElem? (i := 23) (by decide +kernel))) (by decide +kernel)
theorem tb_176 : (Cond.instantiable "java/lang/IllegalArgumentException" (6 : Nat)) ∈ mw_tb := mw_tb_in (List.mem_append_right _ (List.mem_of_getElem? (i := 176) (by decide +kernel))) (by decide +kernel)
theorem tb_214 : (Cond.instantiable "java/lang/Throwable" (6 : Nat)) ∈ mw_tb := mw_tb_in (List.mem_append_right _ (List.mem_of_getElem? (i := 214) (by decide +kernel))) (by decide +kernel)
theorem tb_251 : (Cond.instantiable "java/util/NoSuchElementException" (6 : Nat)) ∈ mw_tb := mw_tb_in (List.mem_append_right _ (List.mem_of_getElem? (i := 251) (by decide +kernel))) (by decide +kernel)
theorem tb_306 : (Cond.instantiable "java/lang/IllegalStateException" (6 : Nat)) ∈ mw_tb := mw_tb_in (List.mem_append_right _ (List.mem_of_getElem? (i := 306) (by decide +kernel))) (by decide +kernel)
theorem tb_372 : (Cond.instantiable "OrderBenchModel" (8 : Nat)) ∈ mw_tb := mw_tb_in (List.mem_append_right _ (List.mem_of_getElem? (i := 372) (by decide +kernel))) (by decide +kernel)
theorem tb_4 : (Cond.initialized "java/lang/Throwable") ∈ mw_tb := mw_tb_in (List.mem_append_right _ (List.mem_of_getElem? (i := 4) (by decide +kernel))) (by decide +kernel)
theorem tb_5 : (Cond.initialized "java/lang/Exception") ∈ mw_tb := mw_tb_in (List.mem_append_right _ (List.mem_of_getElem? (i := 5) (by decide +kernel))) (by decide +kernel)
theorem tb_6 : (Cond.initialized "java/lang/RuntimeException") ∈ mw_tb := mw_tb_in (List.mem_append_right _ (List.mem_of_getElem? (i := 6) (by decide +kernel))) (by decide +kernel)
theorem tb_7 : (Cond.initialized "java/lang/IllegalArgumentException") ∈ mw_tb := mw_tb_in (List.mem_append_right _ (List.mem_of_getElem? (i := 7) (by decide +kernel))) (by decide +kernel)
theorem tb_8 : (Cond.initialized "java/util/NoSuchElementException") ∈ mw_tb := mw_tb_in (List.mem_append_right _ (List.mem_of_getElem? (i := 8) (by decide +kernel))) (by decide +kernel)
theorem tb_10 : (Cond.initialized "java/lang/IllegalStateException") ∈ mw_tb := mw_tb_in (List.mem_append_right _ (List.mem_of_getElem? (i := 10) (by decide +kernel))) (by decide +kernel)
theorem tb_19 : (Cond.instanceMethod (⟨"java/lang/Object", "<init>", "()V"⟩ : MethodName)) ∈ mw_tb := mw_tb_in (List.mem_append_right _ (List.mem_of_getElem? (i := 19) (by decide +kernel))) (by decide +kernel)
theorem ob9 : Cond.instanceMethod Lib.objectInit ∈ mw_tb := tb_19
theorem tb_20 : (Cond.code (⟨"java/lang/Object", "<init>", "()V"⟩ : MethodName) object_method_1_code (1 : Nat) (Option.none : Option FieldType)) ∈ mw_tb := mw_tb_in (List.mem_append_right _ (List.mem_of_getElem? (i := 20) (by decide +kernel))) (by decide +kernel)
theorem oc9 : Cond.code Lib.objectInit ⟨#[0xb1]⟩ 1 none ∈ mw_tb := tb_20
theorem tb_18 : (Cond.methodLink "OrderBench" (1 : Nat) (⟨"java/lang/Object", "<init>", "()V"⟩ : MethodName)) ∈ mw_tb := mw_tb_in (List.mem_append_right _ (List.mem_of_getElem? (i := 18) (by decide +kernel))) (by decide +kernel)
theorem ol_ob : Cond.methodLink "OrderBench" 1 Lib.objectInit ∈ mw_tb := tb_18
theorem tb_27 : (Cond.methodLink "OrderBench$PlaceSet" (1 : Nat) (⟨"java/lang/Object", "<init>", "()V"⟩ : MethodName)) ∈ mw_tb := mw_tb_in (List.mem_append_right _ (List.mem_of_getElem? (i := 27) (by decide +kernel))) (by decide +kernel)
theorem ol_ps : Cond.methodLink "OrderBench$PlaceSet" 1 Lib.objectInit ∈ mw_tb := tb_27
theorem tb_376 : (Cond.methodLink "OrderBenchModel" (1 : Nat) (⟨"java/lang/Object", "<init>", "()V"⟩ : MethodName)) ∈ mw_tb := mw_tb_in (List.mem_append_right _ (List.mem_of_getElem? (i := 376) (by decide +kernel))) (by decide +kernel)
theorem ol_md : Cond.methodLink "OrderBenchModel" 1 Lib.objectInit ∈ mw_tb := tb_376
