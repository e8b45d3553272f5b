section
-- ===== PART A: goes FIRST, ahead of the names: the tables' words, and 'selects' of the private methods out of them =====
/-- a private method of a class that the tables say can be made, by its rows of tables_1 -/
def lw_okq (q : MethodName × Nat) : Prop := (q.1.cls ≠ "java/lang/invoke/MethodHandle" ∧ q.1.cls ≠ "java/lang/invoke/VarHandle") ∧ Cond.instantiable q.1.cls q.2 ∈ tables_1 ∧ Cond.privateMethod q.1 ∈ tables_1 ∧ Cond.instanceMethod q.1 ∈ tables_1
theorem lw_p0 : lw_okq (⟨"OrderBench", "isOnCircle", "(I)Z"⟩, 10) := ⟨⟨by decide +kernel, by decide +kernel⟩, List.mem_of_getElem? (i := 14) (by decide +kernel), List.mem_of_getElem? (i := 72) (by decide +kernel), List.mem_of_getElem? (i := 73) (by decide +kernel)⟩
theorem lw_p1 : lw_okq (⟨"OrderBench", "search", "([LOrderBench$PlaceSet;III)I"⟩, 10) := ⟨⟨by decide +kernel, by decide +kernel⟩, List.mem_of_getElem? (i := 14) (by decide +kernel), List.mem_of_getElem? (i := 76) (by decide +kernel), List.mem_of_getElem? (i := 77) (by decide +kernel)⟩
theorem lw_p2 : lw_okq (⟨"OrderBench", "moveRim", "([LOrderBench$PlaceSet;I)V"⟩, 10) := ⟨⟨by decide +kernel, by decide +kernel⟩, List.mem_of_getElem? (i := 14) (by decide +kernel), List.mem_of_getElem? (i := 98) (by decide +kernel), List.mem_of_getElem? (i := 99) (by decide +kernel)⟩
theorem lw_p3 : lw_okq (⟨"OrderBench", "leastOfGroup", "(I)I"⟩, 10) := ⟨⟨by decide +kernel, by decide +kernel⟩, List.mem_of_getElem? (i := 14) (by decide +kernel), List.mem_of_getElem? (i := 140) (by decide +kernel), List.mem_of_getElem? (i := 141) (by decide +kernel)⟩
theorem lw_p4 : lw_okq (⟨"OrderBench", "countWays", "()I"⟩, 10) := ⟨⟨by decide +kernel, by decide +kernel⟩, List.mem_of_getElem? (i := 14) (by decide +kernel), List.mem_of_getElem? (i := 152) (by decide +kernel), List.mem_of_getElem? (i := 153) (by decide +kernel)⟩
theorem lw_p5 : lw_okq (⟨"OrderBench", "countWithoutWayTo", "()I"⟩, 10) := ⟨⟨by decide +kernel, by decide +kernel⟩, List.mem_of_getElem? (i := 14) (by decide +kernel), List.mem_of_getElem? (i := 160) (by decide +kernel), List.mem_of_getElem? (i := 161) (by decide +kernel)⟩
theorem lw_p6 : lw_okq (⟨"OrderBench", "countOnCircles", "()I"⟩, 10) := ⟨⟨by decide +kernel, by decide +kernel⟩, List.mem_of_getElem? (i := 14) (by decide +kernel), List.mem_of_getElem? (i := 164) (by decide +kernel), List.mem_of_getElem? (i := 165) (by decide +kernel)⟩
theorem lw_p7 : lw_okq (⟨"java/lang/Throwable", "fillInStackTrace", "(I)Ljava/lang/Throwable;"⟩, 6) := ⟨⟨by decide +kernel, by decide +kernel⟩, List.mem_of_getElem? (i := 214) (by decide +kernel), List.mem_of_getElem? (i := 212) (by decide +kernel), List.mem_of_getElem? (i := 213) (by decide +kernel)⟩
theorem lw_p8 : lw_okq (⟨"OrderBench", "mustBePlace", "(I)V"⟩, 10) := ⟨⟨by decide +kernel, by decide +kernel⟩, List.mem_of_getElem? (i := 14) (by decide +kernel), List.mem_of_getElem? (i := 247) (by decide +kernel), List.mem_of_getElem? (i := 248) (by decide +kernel)⟩
theorem lw_p9 : lw_okq (⟨"OrderBench", "lineUp", "()V"⟩, 10) := ⟨⟨by decide +kernel, by decide +kernel⟩, List.mem_of_getElem? (i := 14) (by decide +kernel), List.mem_of_getElem? (i := 302) (by decide +kernel), List.mem_of_getElem? (i := 303) (by decide +kernel)⟩
theorem lw_p10 : lw_okq (⟨"OrderBench", "release", "(I)V"⟩, 10) := ⟨⟨by decide +kernel, by decide +kernel⟩, List.mem_of_getElem? (i := 14) (by decide +kernel), List.mem_of_getElem? (i := 321) (by decide +kernel), List.mem_of_getElem? (i := 322) (by decide +kernel)⟩
theorem lw_p11 : lw_okq (⟨"OrderBench", "tallyLongest", "()V"⟩, 10) := ⟨⟨by decide +kernel, by decide +kernel⟩, List.mem_of_getElem? (i := 14) (by decide +kernel), List.mem_of_getElem? (i := 332) (by decide +kernel), List.mem_of_getElem? (i := 333) (by decide +kernel)⟩
theorem lw_p12 : lw_okq (⟨"OrderBench", "tallyPaths", "(I)V"⟩, 10) := ⟨⟨by decide +kernel, by decide +kernel⟩, List.mem_of_getElem? (i := 14) (by decide +kernel), List.mem_of_getElem? (i := 349) (by decide +kernel), List.mem_of_getElem? (i := 350) (by decide +kernel)⟩
theorem lw_p13 : lw_okq (⟨"OrderBench", "lastGate", "(II)I"⟩, 10) := ⟨⟨by decide +kernel, by decide +kernel⟩, List.mem_of_getElem? (i := 14) (by decide +kernel), List.mem_of_getElem? (i := 361) (by decide +kernel), List.mem_of_getElem? (i := 362) (by decide +kernel)⟩
theorem lw_p14 : lw_okq (⟨"OrderBenchModel", "refuse", "(IZ)Z"⟩, 8) := ⟨⟨by decide +kernel, by decide +kernel⟩, List.mem_of_getElem? (i := 372) (by decide +kernel), List.mem_of_getElem? (i := 414) (by decide +kernel), List.mem_of_getElem? (i := 415) (by decide +kernel)⟩
theorem lw_p15 : lw_okq (⟨"OrderBenchModel", "set", "(IIZ)Z"⟩, 8) := ⟨⟨by decide +kernel, by decide +kernel⟩, List.mem_of_getElem? (i := 372) (by decide +kernel), List.mem_of_getElem? (i := 422) (by decide +kernel), List.mem_of_getElem? (i := 423) (by decide +kernel)⟩
def lw_privs_1 : List (MethodName × Nat) := [(⟨"OrderBench", "isOnCircle", "(I)Z"⟩, 10), (⟨"OrderBench", "search", "([LOrderBench$PlaceSet;III)I"⟩, 10), (⟨"OrderBench", "moveRim", "([LOrderBench$PlaceSet;I)V"⟩, 10), (⟨"OrderBench", "leastOfGroup", "(I)I"⟩, 10), (⟨"OrderBench", "countWays", "()I"⟩, 10), (⟨"OrderBench", "countWithoutWayTo", "()I"⟩, 10), (⟨"OrderBench", "countOnCircles", "()I"⟩, 10), (⟨"java/lang/Throwable", "fillInStackTrace", "(I)Ljava/lang/Throwable;"⟩, 6), (⟨"OrderBench", "mustBePlace", "(I)V"⟩, 10), (⟨"OrderBench", "lineUp", "()V"⟩, 10), (⟨"OrderBench", "release", "(I)V"⟩, 10), (⟨"OrderBench", "tallyLongest", "()V"⟩, 10), (⟨"OrderBench", "tallyPaths", "(I)V"⟩, 10), (⟨"OrderBench", "lastGate", "(II)I"⟩, 10), (⟨"OrderBenchModel", "refuse", "(IZ)Z"⟩, 8), (⟨"OrderBenchModel", "set", "(IIZ)Z"⟩, 8)]
theorem lw_r1 : ∀ q ∈ lw_privs_1, lw_okq q := List.forall_mem_cons.mpr ⟨lw_p0, List.forall_mem_cons.mpr ⟨lw_p1, List.forall_mem_cons.mpr ⟨lw_p2, List.forall_mem_cons.mpr ⟨lw_p3, List.forall_mem_cons.mpr ⟨lw_p4, List.forall_mem_cons.mpr ⟨lw_p5, List.forall_mem_cons.mpr ⟨lw_p6, List.forall_mem_cons.mpr ⟨lw_p7, List.forall_mem_cons.mpr ⟨lw_p8, List.forall_mem_cons.mpr ⟨lw_p9, List.forall_mem_cons.mpr ⟨lw_p10, List.forall_mem_cons.mpr ⟨lw_p11, List.forall_mem_cons.mpr ⟨lw_p12, List.forall_mem_cons.mpr ⟨lw_p13, List.forall_mem_cons.mpr ⟨lw_p14, List.forall_mem_cons.mpr ⟨lw_p15, fun _ h => absurd h List.not_mem_nil⟩⟩⟩⟩⟩⟩⟩⟩⟩⟩⟩⟩⟩⟩⟩⟩
theorem lw_p16 : lw_okq (⟨"OrderBenchModel", "none", "(I)Z"⟩, 8) := ⟨⟨by decide +kernel, by decide +kernel⟩, List.mem_of_getElem? (i := 372) (by decide +kernel), List.mem_of_getElem? (i := 426) (by decide +kernel), List.mem_of_getElem? (i := 427) (by decide +kernel)⟩
theorem lw_p17 : lw_okq (⟨"OrderBenchModel", "from", "(II)V"⟩, 8) := ⟨⟨by decide +kernel, by decide +kernel⟩, List.mem_of_getElem? (i := 372) (by decide +kernel), List.mem_of_getElem? (i := 438) (by decide +kernel), List.mem_of_getElem? (i := 439) (by decide +kernel)⟩
theorem lw_p18 : lw_okq (⟨"OrderBenchModel", "all", "()V"⟩, 8) := ⟨⟨by decide +kernel, by decide +kernel⟩, List.mem_of_getElem? (i := 372) (by decide +kernel), List.mem_of_getElem? (i := 450) (by decide +kernel), List.mem_of_getElem? (i := 451) (by decide +kernel)⟩
theorem lw_p19 : lw_okq (⟨"OrderBenchModel", "onCircle", "(I)Z"⟩, 8) := ⟨⟨by decide +kernel, by decide +kernel⟩, List.mem_of_getElem? (i := 372) (by decide +kernel), List.mem_of_getElem? (i := 454) (by decide +kernel), List.mem_of_getElem? (i := 455) (by decide +kernel)⟩
theorem lw_p20 : lw_okq (⟨"OrderBenchModel", "least", "(I)I"⟩, 8) := ⟨⟨by decide +kernel, by decide +kernel⟩, List.mem_of_getElem? (i := 372) (by decide +kernel), List.mem_of_getElem? (i := 462) (by decide +kernel), List.mem_of_getElem? (i := 463) (by decide +kernel)⟩
theorem lw_p21 : lw_okq (⟨"OrderBenchModel", "ordered", "()Z"⟩, 8) := ⟨⟨by decide +kernel, by decide +kernel⟩, List.mem_of_getElem? (i := 372) (by decide +kernel), List.mem_of_getElem? (i := 474) (by decide +kernel), List.mem_of_getElem? (i := 475) (by decide +kernel)⟩
theorem lw_p22 : lw_okq (⟨"OrderBenchModel", "ready", "(I)Z"⟩, 8) := ⟨⟨by decide +kernel, by decide +kernel⟩, List.mem_of_getElem? (i := 372) (by decide +kernel), List.mem_of_getElem? (i := 478) (by decide +kernel), List.mem_of_getElem? (i := 479) (by decide +kernel)⟩
theorem lw_p23 : lw_okq (⟨"OrderBenchModel", "always", "(III)Z"⟩, 8) := ⟨⟨by decide +kernel, by decide +kernel⟩, List.mem_of_getElem? (i := 372) (by decide +kernel), List.mem_of_getElem? (i := 496) (by decide +kernel), List.mem_of_getElem? (i := 497) (by decide +kernel)⟩
def lw_privs_2 : List (MethodName × Nat) := [(⟨"OrderBenchModel", "none", "(I)Z"⟩, 8), (⟨"OrderBenchModel", "from", "(II)V"⟩, 8), (⟨"OrderBenchModel", "all", "()V"⟩, 8), (⟨"OrderBenchModel", "onCircle", "(I)Z"⟩, 8), (⟨"OrderBenchModel", "least", "(I)I"⟩, 8), (⟨"OrderBenchModel", "ordered", "()Z"⟩, 8), (⟨"OrderBenchModel", "ready", "(I)Z"⟩, 8), (⟨"OrderBenchModel", "always", "(III)Z"⟩, 8)]
theorem lw_r2 : ∀ q ∈ lw_privs_2, lw_okq q := List.forall_mem_cons.mpr ⟨lw_p16, List.forall_mem_cons.mpr ⟨lw_p17, List.forall_mem_cons.mpr ⟨lw_p18, List.forall_mem_cons.mpr ⟨lw_p19, List.forall_mem_cons.mpr ⟨lw_p20, List.forall_mem_cons.mpr ⟨lw_p21, List.forall_mem_cons.mpr ⟨lw_p22, List.forall_mem_cons.mpr ⟨lw_p23, fun _ h => absurd h List.not_mem_nil⟩⟩⟩⟩⟩⟩⟩⟩
def lw_privs : List (MethodName × Nat) := lw_privs_1 ++ (lw_privs_2)
def lw_tbl : List Cond := k2_sels lw_privs ++ tables_1
theorem lw_privs_ok : ∀ q ∈ lw_privs, lw_okq q := by
  show ∀ q ∈ lw_privs_1 ++ (lw_privs_2), lw_okq q
  exact List.forall_mem_append.mpr ⟨lw_r1, lw_r2⟩

/-! Names: classes, fields in the order of the slots, methods (name, code, locals, answer, handlers). Written by a program. -/
def T_ps : u_T := fun k => match k with
  | 0 => ("OrderBench$PlaceSet", "low", "J", false)
  | _ => ("OrderBench$PlaceSet", "high", "J", false)
def ty_ps : Nat → FieldType := fun k => match k with
  | _ => .long
def T_ob : u_T := fun k => match k with
  | 0 => ("OrderBench", "size", "I", false)
  | 1 => ("OrderBench", "out", "[LOrderBench$PlaceSet;", true)
  | 2 => ("OrderBench", "into", "[LOrderBench$PlaceSet;", true)
  | 3 => ("OrderBench", "reached", "LOrderBench$PlaceSet;", true)
  | 4 => ("OrderBench", "rim", "LOrderBench$PlaceSet;", true)
  | 5 => ("OrderBench", "fresh", "LOrderBench$PlaceSet;", true)
  | 6 => ("OrderBench", "kept", "LOrderBench$PlaceSet;", true)
  | 7 => ("OrderBench", "line", "[I", true)
  | 8 => ("OrderBench", "waiting", "[I", true)
  | _ => ("OrderBench", "tally", "[I", true)
def ty_ob : Nat → FieldType := fun k => match k with
  | 0 => .int
  | 1 => .array (.object "OrderBench$PlaceSet")
  | 2 => .array (.object "OrderBench$PlaceSet")
  | 3 => .object "OrderBench$PlaceSet"
  | 4 => .object "OrderBench$PlaceSet"
  | 5 => .object "OrderBench$PlaceSet"
  | 6 => .object "OrderBench$PlaceSet"
  | 7 => .array .int
  | 8 => .array .int
  | _ => .array .int
def T_md : u_T := fun k => match k with
  | 0 => ("OrderBenchModel", "thrown", "I", false)
  | 1 => ("OrderBenchModel", "n", "I", false)
  | 2 => ("OrderBenchModel", "way", "[[Z", true)
  | 3 => ("OrderBenchModel", "away", "[I", true)
  | 4 => ("OrderBenchModel", "reached", "[[Z", true)
  | 5 => ("OrderBenchModel", "order", "[I", true)
  | 6 => ("OrderBenchModel", "placed", "[Z", true)
  | _ => ("OrderBenchModel", "measure", "[I", true)
def ty_md : Nat → FieldType := fun k => match k with
  | 0 => .int
  | 1 => .int
  | 2 => .array (.array .boolean)
  | 3 => .array .int
  | 4 => .array (.array .boolean)
  | 5 => .array .int
  | 6 => .array .boolean
  | _ => .array .int
def T_no : u_T := fun k => match k with
  | _ => ("", "", "", false)
def mw_PS : String := "OrderBench$PlaceSet"
def mw_cl : List vw_C := [("OrderBench$PlaceSet", T_ps, 2), ("OrderBench", T_ob, 10), ("OrderBenchModel", T_md, 8), ("java/util/NoSuchElementException", T_no, 0), ("java/lang/IllegalArgumentException", T_no, 0), ("java/lang/IllegalStateException", T_no, 0)]
abbrev mw_M : Type := MethodName × ByteArray × Nat × Option FieldType × List (Nat × Nat × Nat × Nat)
abbrev m_ob_init : mw_M := (⟨"OrderBench", "<init>", "()V"⟩, prog_1_method_1_code, 2, none, [])
abbrev m_ps_init : mw_M := (⟨"OrderBench$PlaceSet", "<init>", "()V"⟩, prog_2_method_1_code, 1, none, [])
abbrev m_ob_circle : mw_M := (⟨"OrderBench", "circle", "()I"⟩, prog_1_method_7_code, 2, (some .int), [])
abbrev m_ob_isOnCircle : mw_M := (⟨"OrderBench", "isOnCircle", "(I)Z"⟩, prog_1_method_19_code, 2, (some .boolean), [])
abbrev m_ob_search : mw_M := (⟨"OrderBench", "search", "([LOrderBench$PlaceSet;III)I"⟩, prog_1_method_17_code, 6, (some .int), [])
abbrev m_ps_clear : mw_M := (⟨"OrderBench$PlaceSet", "clear", "()V"⟩, prog_2_method_8_code, 1, none, [])
abbrev m_ps_add : mw_M := (⟨"OrderBench$PlaceSet", "add", "(I)V"⟩, prog_2_method_6_code, 2, none, [])
abbrev m_ps_lowBit : mw_M := (⟨"OrderBench$PlaceSet", "lowBit", "(I)J"⟩, prog_2_method_2_code, 1, (some .long), [])
abbrev m_ps_highBit : mw_M := (⟨"OrderBench$PlaceSet", "highBit", "(I)J"⟩, prog_2_method_3_code, 1, (some .long), [])
abbrev m_ps_has : mw_M := (⟨"OrderBench$PlaceSet", "has", "(I)Z"⟩, prog_2_method_5_code, 2, (some .boolean), [])
abbrev m_ob_moveRim : mw_M := (⟨"OrderBench", "moveRim", "([LOrderBench$PlaceSet;I)V"⟩, prog_1_method_18_code, 4, none, [])
abbrev m_ps_next : mw_M := (⟨"OrderBench$PlaceSet", "next", "(I)I"⟩, prog_2_method_15_code, 6, (some .int), [])
abbrev m_ps_lowest : mw_M := (⟨"OrderBench$PlaceSet", "lowest", "(J)I"⟩, prog_2_method_4_code, 2, (some .int), [])
abbrev m_jl_bitCount : mw_M := (⟨"java/lang/Long", "bitCount", "(J)I"⟩, prog_8_method_50_code, 2, (some .int), [])
abbrev m_ps_addAllOf : mw_M := (⟨"OrderBench$PlaceSet", "addAllOf", "(LOrderBench$PlaceSet;)V"⟩, prog_2_method_9_code, 2, none, [])
abbrev m_ps_removeAllOf : mw_M := (⟨"OrderBench$PlaceSet", "removeAllOf", "(LOrderBench$PlaceSet;)V"⟩, prog_2_method_10_code, 2, none, [])
abbrev m_ps_remove : mw_M := (⟨"OrderBench$PlaceSet", "remove", "(I)V"⟩, prog_2_method_7_code, 2, none, [])
abbrev m_ps_isEmpty : mw_M := (⟨"OrderBench$PlaceSet", "isEmpty", "()Z"⟩, prog_2_method_13_code, 1, (some .boolean), [])
abbrev m_ps_meets : mw_M := (⟨"OrderBench$PlaceSet", "meets", "(LOrderBench$PlaceSet;)Z"⟩, prog_2_method_12_code, 2, (some .boolean), [])
abbrev m_ob_groups : mw_M := (⟨"OrderBench", "groups", "()I"⟩, prog_1_method_9_code, 3, (some .int), [])
abbrev m_ob_leastOfGroup : mw_M := (⟨"OrderBench", "leastOfGroup", "(I)I"⟩, prog_1_method_20_code, 2, (some .int), [])
abbrev m_ps_keepAllOf : mw_M := (⟨"OrderBench$PlaceSet", "keepAllOf", "(LOrderBench$PlaceSet;)V"⟩, prog_2_method_11_code, 2, none, [])
abbrev m_ob_count : mw_M := (⟨"OrderBench", "count", "(I)I"⟩, prog_1_method_15_code, 2, (some .int), [])
abbrev m_ob_countWays : mw_M := (⟨"OrderBench", "countWays", "()I"⟩, prog_1_method_26_code, 3, (some .int), [])
abbrev m_ps_size : mw_M := (⟨"OrderBench$PlaceSet", "size", "()I"⟩, prog_2_method_14_code, 1, (some .int), [])
abbrev m_ob_countWithoutWayTo : mw_M := (⟨"OrderBench", "countWithoutWayTo", "()I"⟩, prog_1_method_27_code, 3, (some .int), [])
abbrev m_ob_countOnCircles : mw_M := (⟨"OrderBench", "countOnCircles", "()I"⟩, prog_1_method_28_code, 3, (some .int), [])
abbrev m_lw_places : mw_M := (⟨"OrderBenchLaw", "places", "(LOrderBench;I[J)I"⟩, method_3_code, 4, (some .int), [(0, 9, 12, 13)])
abbrev m_ob_places : mw_M := (⟨"OrderBench", "places", "(I)I"⟩, prog_1_method_2_code, 4, (some .int), [])
abbrev m_lw_way : mw_M := (⟨"OrderBenchLaw", "way", "(LOrderBench;II[J)I"⟩, method_4_code, 5, (some .int), [(0, 17, 20, 19)])
abbrev m_ob_way : mw_M := (⟨"OrderBench", "way", "(II)Z"⟩, prog_1_method_3_code, 4, (some .boolean), [])
abbrev m_ob_mustBePlace : mw_M := (⟨"OrderBench", "mustBePlace", "(I)V"⟩, prog_1_method_16_code, 2, none, [])
abbrev m_lw_drop : mw_M := (⟨"OrderBenchLaw", "drop", "(LOrderBench;II[J)I"⟩, method_5_code, 5, (some .int), [(0, 17, 20, 19)])
abbrev m_ob_drop : mw_M := (⟨"OrderBench", "drop", "(II)Z"⟩, prog_1_method_4_code, 4, (some .boolean), [])
abbrev m_lw_reaches : mw_M := (⟨"OrderBenchLaw", "reaches", "(LOrderBench;II[J)I"⟩, method_6_code, 5, (some .int), [(0, 17, 20, 19)])
abbrev m_ob_reaches : mw_M := (⟨"OrderBench", "reaches", "(II)Z"⟩, prog_1_method_5_code, 3, (some .boolean), [])
abbrev m_lw_far : mw_M := (⟨"OrderBenchLaw", "far", "(LOrderBench;II[J)I"⟩, method_7_code, 5, (some .int), [(0, 10, 13, 19)])
abbrev m_ob_far : mw_M := (⟨"OrderBench", "far", "(II)I"⟩, prog_1_method_6_code, 3, (some .int), [])
abbrev m_lw_group : mw_M := (⟨"OrderBenchLaw", "group", "(LOrderBench;I[J)I"⟩, method_8_code, 4, (some .int), [(0, 9, 12, 19)])
abbrev m_ob_group : mw_M := (⟨"OrderBench", "group", "(I)I"⟩, prog_1_method_8_code, 2, (some .int), [])
abbrev m_lw_order : mw_M := (⟨"OrderBenchLaw", "order", "(LOrderBench;I[J)I"⟩, method_9_code, 4, (some .int), [(0, 9, 12, 19), (0, 9, 15, 37)])
abbrev m_ob_order : mw_M := (⟨"OrderBench", "order", "(I)I"⟩, prog_1_method_10_code, 2, (some .int), [])
abbrev m_ob_lineUp : mw_M := (⟨"OrderBench", "lineUp", "()V"⟩, prog_1_method_22_code, 3, none, [])
abbrev m_ob_release : mw_M := (⟨"OrderBench", "release", "(I)V"⟩, prog_1_method_23_code, 3, none, [])
abbrev m_lw_level : mw_M := (⟨"OrderBenchLaw", "level", "(LOrderBench;I[J)I"⟩, method_10_code, 4, (some .int), [(0, 9, 12, 19), (0, 9, 15, 37)])
abbrev m_ob_level : mw_M := (⟨"OrderBench", "level", "(I)I"⟩, prog_1_method_11_code, 2, (some .int), [])
abbrev m_ob_tallyLongest : mw_M := (⟨"OrderBench", "tallyLongest", "()V"⟩, prog_1_method_24_code, 4, none, [])
abbrev m_ja_fill : mw_M := (⟨"java/util/Arrays", "fill", "([II)V"⟩, prog_12_method_103_code, 4, none, [])
abbrev m_jm_max : mw_M := (⟨"java/lang/Math", "max", "(II)I"⟩, prog_9_method_65_code, 2, (some .int), [])
abbrev m_lw_paths : mw_M := (⟨"OrderBenchLaw", "paths", "(LOrderBench;II[J)I"⟩, method_11_code, 5, (some .int), [(0, 10, 13, 19), (0, 10, 17, 37)])
abbrev m_ob_paths : mw_M := (⟨"OrderBench", "paths", "(II)I"⟩, prog_1_method_12_code, 3, (some .int), [])
abbrev m_ob_tallyPaths : mw_M := (⟨"OrderBench", "tallyPaths", "(I)V"⟩, prog_1_method_25_code, 5, none, [])
abbrev m_lw_gate : mw_M := (⟨"OrderBenchLaw", "gate", "(LOrderBench;II[J)I"⟩, method_12_code, 5, (some .int), [(0, 10, 13, 19)])
abbrev m_ob_gate : mw_M := (⟨"OrderBench", "gate", "(II)I"⟩, prog_1_method_13_code, 3, (some .int), [])
abbrev m_ob_lastGate : mw_M := (⟨"OrderBench", "lastGate", "(II)I"⟩, prog_1_method_21_code, 6, (some .int), [])
abbrev m_lw_all : mw_M := (⟨"OrderBenchLaw", "all", "(LOrderBench;III[J)I"⟩, method_13_code, 6, (some .int), [(0, 19, 22, 19)])
abbrev m_ob_all : mw_M := (⟨"OrderBench", "all", "(III)Z"⟩, prog_1_method_14_code, 4, (some .boolean), [])
abbrev m_md_init : mw_M := (⟨"OrderBenchModel", "<init>", "()V"⟩, prog_4_method_1_code, 1, none, [])
abbrev m_md_thrown : mw_M := (⟨"OrderBenchModel", "thrown", "()I"⟩, prog_4_method_2_code, 1, (some .int), [])
abbrev m_md_places : mw_M := (⟨"OrderBenchModel", "places", "(I)I"⟩, prog_4_method_5_code, 5, (some .int), [])
abbrev m_md_refuse : mw_M := (⟨"OrderBenchModel", "refuse", "(IZ)Z"⟩, prog_4_method_3_code, 3, (some .boolean), [])
abbrev m_md_way : mw_M := (⟨"OrderBenchModel", "way", "(II)Z"⟩, prog_4_method_7_code, 3, (some .boolean), [])
abbrev m_md_set : mw_M := (⟨"OrderBenchModel", "set", "(IIZ)Z"⟩, prog_4_method_6_code, 5, (some .boolean), [])
abbrev m_md_none : mw_M := (⟨"OrderBenchModel", "none", "(I)Z"⟩, prog_4_method_4_code, 2, (some .boolean), [])
abbrev m_md_drop : mw_M := (⟨"OrderBenchModel", "drop", "(II)Z"⟩, prog_4_method_8_code, 3, (some .boolean), [])
abbrev m_md_reaches : mw_M := (⟨"OrderBenchModel", "reaches", "(II)Z"⟩, prog_4_method_10_code, 3, (some .boolean), [])
abbrev m_md_from : mw_M := (⟨"OrderBenchModel", "from", "(II)V"⟩, prog_4_method_9_code, 7, none, [])
abbrev m_md_far : mw_M := (⟨"OrderBenchModel", "far", "(II)I"⟩, prog_4_method_11_code, 3, (some .int), [])
abbrev m_md_circle : mw_M := (⟨"OrderBenchModel", "circle", "()I"⟩, prog_4_method_14_code, 2, (some .int), [])
abbrev m_md_all0 : mw_M := (⟨"OrderBenchModel", "all", "()V"⟩, prog_4_method_12_code, 3, none, [])
abbrev m_md_onCircle : mw_M := (⟨"OrderBenchModel", "onCircle", "(I)Z"⟩, prog_4_method_13_code, 3, (some .boolean), [])
abbrev m_md_group : mw_M := (⟨"OrderBenchModel", "group", "(I)I"⟩, prog_4_method_16_code, 2, (some .int), [])
abbrev m_md_least : mw_M := (⟨"OrderBenchModel", "least", "(I)I"⟩, prog_4_method_15_code, 3, (some .int), [])
abbrev m_md_groups : mw_M := (⟨"OrderBenchModel", "groups", "()I"⟩, prog_4_method_17_code, 3, (some .int), [])
abbrev m_md_order : mw_M := (⟨"OrderBenchModel", "order", "(I)I"⟩, prog_4_method_20_code, 2, (some .int), [])
abbrev m_md_ordered : mw_M := (⟨"OrderBenchModel", "ordered", "()Z"⟩, prog_4_method_19_code, 3, (some .boolean), [])
abbrev m_md_ready : mw_M := (⟨"OrderBenchModel", "ready", "(I)Z"⟩, prog_4_method_18_code, 3, (some .boolean), [])
abbrev m_md_level : mw_M := (⟨"OrderBenchModel", "level", "(I)I"⟩, prog_4_method_21_code, 5, (some .int), [])
abbrev m_md_paths : mw_M := (⟨"OrderBenchModel", "paths", "(II)I"⟩, prog_4_method_22_code, 6, (some .int), [])
abbrev m_md_gate : mw_M := (⟨"OrderBenchModel", "gate", "(II)I"⟩, prog_4_method_24_code, 5, (some .int), [])
abbrev m_md_always : mw_M := (⟨"OrderBenchModel", "always", "(III)Z"⟩, prog_4_method_23_code, 4, (some .boolean), [])
abbrev m_md_all3 : mw_M := (⟨"OrderBenchModel", "all", "(III)Z"⟩, prog_4_method_25_code, 4, (some .boolean), [])
abbrev m_md_count : mw_M := (⟨"OrderBenchModel", "count", "(I)I"⟩, prog_4_method_26_code, 8, (some .int), [])
abbrev m_lw_law : mw_M := (⟨"OrderBenchLaw", "law", "([I)Z"⟩, code, 7, (some .boolean), [])
end
section
/-! The walker of this claim: a judgement mw_W over a heap of pictures that lie from one address on, with two ends (returned, threw). A method's contract is mw_Ct. -/
abbrev mw_O : Type := (Nat × (Nat → Value)) ⊕ (Nat × Nat × (Nat → Value))
abbrev mw_H : Type := Nat × (Nat → mw_O)
abbrev mw_E : Type := Launch × va_G × (Nat → ClassId) × Nat × Heap × Nat × Nat × (Nat → Int32)
def mw_b (E : mw_E) : Nat := E.2.2.2.1
def mw_at (E : mw_E) (k : Nat) (o : mw_O) (H : Heap) : Prop := match o with
  | .inl c => ∃ r : vw_C, mw_cl[c.1]? = some r ∧ t_OB (mw_b E + k) (E.2.1.1 c.1) r.2.2 (E.2.1.2 c.1) H c.2
  | .inr a => H[mw_b E + k]? = some (arrV (E.2.2.1 a.1) a.2.1 a.2.2)
def mw_R (E : mw_E) (h : mw_H) (H : Heap) : Prop := H.size = mw_b E + h.1 ∧ (∀ q : Nat, q < mw_b E → H[q]? = E.2.2.2.2.1[q]?) ∧ ∀ k : Nat, k < h.1 → mw_at E k (h.2 k) H
theorem mw_at.kept {E : mw_E} {k : Nat} {o : mw_O} {H H1 : Heap} (h : mw_at E k o H) (hq : H1[mw_b E + k]? = H[mw_b E + k]?) : mw_at E k o H1 := by
  cases o with
  | inl c =>
    obtain ⟨r, h1, h2⟩ := h
    exact ⟨r, h1, h2.kept hq⟩
  | inr a => exact hq.trans h
theorem mw_up_s {α : Type} (f : Nat → α) (k : Nat) (v : α) : va_up f k v k = v := by simp [va_up]
theorem mw_up_n {α : Type} (f : Nat → α) {k j : Nat} (v : α) (h : j ≠ k) : va_up f k v j = f j := by simp [va_up, h]
theorem mw_R.set {E : mw_E} {h : mw_H} {H H1 : Heap} (hR : mw_R E h H) {k : Nat} (o : mw_O) (hk : k < h.1) (hz : H1.size = H.size) (hq : ∀ q : Nat, q ≠ mw_b E + k → H1[q]? = H[q]?) (ha : mw_at E k o H1) : mw_R E (h.1, va_up h.2 k o) H1 := by
  refine ⟨hz.trans hR.1, fun q h1 => (hq q (by omega)).trans (hR.2.1 q h1), fun j hj => ?_⟩
  show mw_at E j (va_up h.2 k o j) H1
  by_cases e : j = k
  · subst e
    rw [mw_up_s]
    exact ha
  · rw [mw_up_n _ _ e]
    exact (hR.2.2 j hj).kept (hq _ (by omega))
theorem mw_R.push {E : mw_E} {h : mw_H} {H H1 : Heap} (hR : mw_R E h H) (o : mw_O) (hz : H1.size = H.size + 1) (hq : ∀ q : Nat, q < H.size → H1[q]? = H[q]?) (ha : mw_at E h.1 o H1) : mw_R E (h.1 + 1, va_up h.2 h.1 o) H1 := by
  have h0 := hR.1
  refine ⟨by show H1.size = mw_b E + (h.1 + 1); omega, fun q h1 => (hq q (by omega)).trans (hR.2.1 q h1), fun j hj => ?_⟩
  show mw_at E j (va_up h.2 h.1 o j) H1
  have hj' : j < h.1 + 1 := hj
  by_cases e : j = h.1
  · subst e
    rw [mw_up_s]
    exact ha
  · rw [mw_up_n _ _ e]
    exact (hR.2.2 j (by omega)).kept (hq _ (by omega))
-- words
def mw_tb : List Cond := lw_tbl.filter goodWord
theorem mw_tb_in {w : Cond} (h : w ∈ lw_tbl) (hg : goodWord w = true) : w ∈ mw_tb := List.mem_filter.mpr ⟨h, hg⟩
theorem mw_words {args a' : Array Value} {s U : State} (hts : ∀ w ∈ mw_tb, w.before args s = true) (hW : s.WarmedH U.vm) {w : Cond} (hw : w ∈ mw_tb) : w.before a' U = true := word_at hW (good_of_word (List.mem_filter.mp hw).2) (hts w hw)
def mw_tys (E : mw_E) : List (ClassId × FieldType) := [(E.2.2.1 0, .int), (E.2.2.1 1, .boolean), (E.2.2.1 2, .array .boolean), (E.2.2.1 3, .object mw_PS), (E.2.2.1 4, .long)]
def mw_K (E : mw_E) (U : State) : Prop := va_K E.2.1 mw_cl (mw_tys E) U
theorem mw_K.moved {E : mw_E} {u U : State} (hvm : u.vm.Alike U.vm) (h : mw_K E u) : mw_K E U := va_K.moved hvm h
-- the four words of a throw that look into the heap
def mw_zw : List Cond := [.isRef (.static Bundle.tN "UNASSIGNED_STACK" Bundle.steD), .isRef (.static Bundle.tN "SUPPRESSED_SENTINEL" Bundle.listD), .laysStatic Bundle.tN "UNASSIGNED_STACK" Bundle.steD, .laysStatic Bundle.tN "SUPPRESSED_SENTINEL" Bundle.listD]
def mw_Z (E : mw_E) (U : State) : Prop := (∀ (s' : State) (args : Array Value), U.vm.Alike s'.vm → (∀ q : Nat, q < mw_b E → s'.heap[q]? = E.2.2.2.2.1[q]?) → ∀ w ∈ mw_zw, w.before args s' = true) ∧ va_X E.2.2.2.2.2.1 E.2.2.2.2.2.2.1 E.2.2.2.2.2.2.2 U E.2.2.2.2.1
theorem mw_Z.moved {E : mw_E} {u U : State} (hvm : u.vm.Alike U.vm) (h : mw_Z E u) : mw_Z E U := ⟨fun s' args ha hq => h.1 s' args (hvm.trans ha) hq, h.2.moved hvm⟩
-- methods: name, code, locals, answer, handlers
def mw_code (M : mw_M) : Cond := if M.2.2.2.2 = [] then .code M.1 M.2.1 M.2.2.1 M.2.2.2.1 else .codeWith M.1 M.2.1 M.2.2.1 M.2.2.2.1 M.2.2.2.2
theorem mw_code_named {M : mw_M} {args : Array Value} {s : State} (h : (mw_code M).before args s = true) : ∃ m, s.methodNamed? M.1 = some m := by
  unfold mw_code at h
  split at h
  · exact Cond.code_named h
  · obtain ⟨m, _, _, hn, -⟩ := Cond.codeWith_spec h
    exact ⟨m, hn⟩
theorem mw_code_spec {M : mw_M} {args : Array Value} {s : State} {m : MethodId} (hn : s.methodNamed? M.1 = some m) (h : (mw_code M).before args s = true) :
    ∃ meth c, s.vm.method? m = some meth ∧ meth.code = some c ∧ c.code = M.2.1 ∧ c.maxLocals = M.2.2.1 ∧ meth.sig.returnType = M.2.2.2.1 ∧ meth.locks = false ∧ c.exceptionTable.toList = tableOf M.2.2.2.2 ∧ parseMethodDescriptor M.1.desc = some meth.sig := by
  unfold mw_code at h
  split at h
  · rename_i he
    obtain ⟨meth, c, h1, h2, h3, h4, h5, h6, h7, h8⟩ := Cond.code_spec hn h
    refine ⟨meth, c, h1, h2, h3, h4, h5, h6, ?_, h8⟩
    rw [he]
    have h0 : c.exceptionTable.size = 0 := by simpa [Array.isEmpty] using h7
    exact List.eq_nil_of_length_eq_zero (by simpa using h0)
  · obtain ⟨m', meth, c, hn', h1, h2, h3, h4, h5, h6, h7, h8⟩ := Cond.codeWith_spec h
    cases hn.symm.trans hn'
    refine ⟨meth, c, h1, h2, h3, h4, h6, h7, ?_, h8⟩
    rw [← h5]
    exact (table_eq _).symm
def mw_C (E : mw_E) (M : mw_M) (p : Program) (s : State) (m : MethodId) (args : Array Value) (meth : Method) (c : Code) : Prop :=
  p.tables.exec = Jvm.exec ∧ c.code = M.2.1 ∧ meth.sig.returnType = M.2.2.2.1 ∧ c.maxLocals = M.2.2.1 ∧ s.vm.findClass M.1.cls = some m.cls ∧ (∀ w ∈ mw_tb, w.before args s = true) ∧ mw_K E s ∧ mw_Z E s ∧ meth.locks = false ∧ c.exceptionTable.toList = tableOf M.2.2.2.2 ∧ meth.name = M.1.name ∧ E.1.stackTraces = false
def mw_rm (d mc ms : Nat) : Room := { frames := d, cells := mc, slots := ms, locals := 33 * d }
-- locals
def mw_lv (ls : Array Slot) (nL : Nat) (lo : List (Option Value)) : Prop := ls.size = nL ∧ lv_wf ls ∧ ∀ (i : Nat) (v : Value), lo[i]? = some (some v) → ls[i]? = some (.val v)
def mw_pr (lo : List (Option Value)) : List (Nat × Value) := (List.range lo.length).filterMap (fun i => (lo[i]?.join).map (fun v => (i, v)))
theorem mw_pr_mem {lo : List (Option Value)} {i : Nat} {v : Value} : (i, v) ∈ mw_pr lo ↔ lo[i]? = some (some v) := by
  unfold mw_pr
  rw [List.mem_filterMap]
  constructor
  · rintro ⟨j, -, h⟩
    cases hj : lo[j]? with
    | none => simp [hj] at h
    | some o =>
      cases o with
      | none => simp [hj] at h
      | some w =>
        simp [hj] at h
        obtain ⟨rfl, rfl⟩ := h
        exact hj
  · intro h
    have hl : i < lo.length := (List.getElem?_eq_some_iff.mp h).1
    exact ⟨i, List.mem_range.mpr hl, by simp [h]⟩
theorem mw_lv.has {ls : Array Slot} {nL : Nat} {lo : List (Option Value)} (h : mw_lv ls nL lo) : lv_has ls nL (mw_pr lo) := ⟨h.1, h.2.1, fun q hq => h.2.2 q.1 q.2 (mw_pr_mem.mp hq)⟩
theorem mw_lv.st1 {ls' : Array Slot} {nL i : Nat} {lo : List (Option Value)} {v : Value} (hp : ∀ (j : Nat) (w : Value), j + 1 = i → lo[j]? = some (some w) → ¬ w.category = 2)
    (h' : lv_has ls' nL ((i, v) :: (mw_pr lo).filter (fun q => !(q.1 == i) && !(q.1 + 1 == i && q.2.category == 2)))) : mw_lv ls' nL (lo.set i (some v)) := by
  refine ⟨h'.1, h'.2.1, fun j w hj => ?_⟩
  by_cases e : j = i
  · subst e
    rw [List.getElem?_set] at hj
    split at hj
    · split at hj
      · cases hj
        exact h'.2.2 (j, v) List.mem_cons_self
      · cases hj
    · rename_i hne
      exact absurd rfl hne
  · rw [List.getElem?_set_ne (Ne.symm e)] at hj
    refine h'.2.2 (j, w) (List.mem_cons_of_mem _ (List.mem_filter.mpr ⟨mw_pr_mem.mpr hj, ?_⟩))
    simp only [Bool.and_eq_true, Bool.not_eq_true', beq_eq_false_iff_ne, ne_eq, Bool.and_eq_false_iff]
    refine ⟨e, ?_⟩
    by_cases e2 : j + 1 = i
    · exact Or.inr (hp j w e2 hj)
    · exact Or.inl e2
theorem mw_lv.st2 {ls' : Array Slot} {nL i : Nat} {lo : List (Option Value)} {v : Value} (hp : ∀ (j : Nat) (w : Value), j + 1 = i → lo[j]? = some (some w) → ¬ w.category = 2)
    (h' : lv_has ls' nL ((i, v) :: (mw_pr lo).filter (fun q => !(q.1 == i) && (!(q.1 == i + 1) && !(q.1 + 1 == i && q.2.category == 2))))) : mw_lv ls' nL ((lo.set i (some v)).set (i + 1) none) := by
  refine ⟨h'.1, h'.2.1, fun j w hj => ?_⟩
  by_cases e1 : j = i + 1
  · subst e1
    rw [List.getElem?_set] at hj
    split at hj
    · split at hj
      · cases hj
      · cases hj
    · rename_i hne
      exact absurd rfl hne
  · rw [List.getElem?_set_ne (Ne.symm e1)] at hj
    by_cases e : j = i
    · subst e
      rw [List.getElem?_set] at hj
      split at hj
      · split at hj
        · cases hj
          exact h'.2.2 (j, v) List.mem_cons_self
        · cases hj
      · rename_i hne
        exact absurd rfl hne
    · rw [List.getElem?_set_ne (Ne.symm e)] at hj
      refine h'.2.2 (j, w) (List.mem_cons_of_mem _ (List.mem_filter.mpr ⟨mw_pr_mem.mpr hj, ?_⟩))
      simp only [Bool.and_eq_true, Bool.not_eq_true', beq_eq_false_iff_ne, ne_eq, Bool.and_eq_false_iff]
      refine ⟨e, e1, ?_⟩
      by_cases e2 : j + 1 = i
      · exact Or.inr (hp j w e2 hj)
      · exact Or.inl e2
def mw_args (av : List Value) : List (Option Value) := av.flatMap fun v => if v.category = 2 then [some v, none] else [some v]
theorem mw_args_in (av : List Value) : ∀ (i0 i : Nat) (v : Value), (mw_args av)[i]? = some (some v) → (i0 + i, v) ∈ lv_args i0 av := by
  induction av with
  | nil => intro i0 i v h; simp [mw_args] at h
  | cons a t ih =>
    intro i0 i v h
    simp only [mw_args, List.flatMap_cons] at h
    by_cases hc : a.category = 2
    · simp only [hc, if_true] at h
      cases i with
      | zero => simp at h; subst h; simp [lv_args]
      | succ i =>
        cases i with
        | zero => simp at h
        | succ i =>
          have h2 : (mw_args t)[i]? = some (some v) := by simpa [mw_args] using h
          have := ih (i0 + 2) i v h2
          simp only [lv_args, hc, if_true]
          refine List.mem_cons_of_mem _ ?_
          rw [show i0 + (i + 1 + 1) = i0 + 2 + i by omega]
          exact this
    · simp only [hc, if_false] at h
      cases i with
      | zero => simp at h; subst h; simp [lv_args]
      | succ i =>
        have h2 : (mw_args t)[i]? = some (some v) := by simpa [mw_args] using h
        have := ih (i0 + 1) i v h2
        simp only [lv_args, hc, if_false]
        refine List.mem_cons_of_mem _ ?_
        rw [show i0 + (i + 1) = i0 + 1 + i by omega]
        exact this
theorem mw_lv.entry {ls : Array Slot} {n : Nat} {av : List Value} (h : lv_has ls n (lv_args 0 av)) : mw_lv ls n (mw_args av) :=
  ⟨h.1, h.2.1, fun i v hi => h.2.2 (i, v) (by have := mw_args_in av 0 i v hi; rwa [Nat.zero_add] at this)⟩
-- the judgement
def mw_Q (E : mw_E) (Q : Option Value → mw_H → Prop) (X : Nat → mw_H → Prop) (o : Outcome) (t : State) : Prop :=
  ∃ h : mw_H, mw_R E h t.heap ∧ ((∃ v, o = .returned v ∧ Q v h) ∨ ∃ k, o = .threw (mw_b E + k) ∧ X k h)
def mw_F (E : mw_E) (s t : State) (mc ms : Nat) : Prop := ∃ L : List Loc, s.WarmedH t.vm ∧ s.sameButNew ({ t with vm := s.vm } : State) L mc ms ∧ ∀ q ∈ L, mw_b E ≤ q.base
def mw_end (E : mw_E) (Q : Option Value → mw_H → Prop) (X : Nat → mw_H → Prop) (below : List Frame) (s : State) (mc ms : Nat) : State → Prop := fun t =>
  ∃ o, t.status = .running ∧ Ended t below o ∧ mw_Q E Q X o t ∧ mw_F E s t mc ms
def mw_W (E : mw_E) (M : mw_M) (d : Nat) (Q : Option Value → mw_H → Prop) (X : Nat → mw_H → Prop) (bc bs pc : Nat) (lo : List (Option Value)) (st : List Value) (h : mw_H) : Prop :=
  ∀ (p : Program) (e : Env) (s : State) (m : MethodId) (args : Array Value) (below : List Frame) (meth : Method) (c : Code) (H : Heap) (locs : List Loc) (cells slots mc ms : Nat) (ls : Array Slot),
    mw_C E M p s m args meth c → mw_R E h H → (∀ q ∈ locs, mw_b E ≤ q.base) → mw_lv ls M.2.2.1 lo → cells + bc ≤ mc → slots + bs ≤ ms →
    W p E.1 e (mw_rm d mc ms) s m args below meth c H locs cells slots (mw_end E Q X below s mc ms) (F0 m pc ls st)
/-- an object (offset k) is under way through a frame that stands at pc -/
def mw_T (E : mw_E) (M : mw_M) (d : Nat) (Q : Option Value → mw_H → Prop) (X : Nat → mw_H → Prop) (bc bs pc : Nat) (lo : List (Option Value)) (k : Nat) (h : mw_H) : Prop :=
  ∀ (p : Program) (e : Env) (s : State) (m : MethodId) (args : Array Value) (below : List Frame) (meth : Method) (c : Code) (locs : List Loc) (cells slots mc ms : Nat) (ls : Array Slot) (st : List Value) (T : State),
    mw_C E M p s m args meth c → mw_R E h T.heap → (∀ q ∈ locs, mw_b E ≤ q.base) → mw_lv ls M.2.2.1 lo → cells + bc ≤ mc → slots + bs ≤ ms →
    Stand p E.1 e (mw_rm d mc ms) s m args below meth c T locs cells slots → ∃ t, Steps p.tables e below ((T.setTop (F0 m pc ls st)).pushFrame (.throwing (mw_b E + k))) t ∧ mw_end E Q X below s mc ms t
def mw_Ct (E : mw_E) (M : mw_M) (d bc bs : Nat) (av : List Value) (h : mw_H) (Q : Option Value → mw_H → Prop) (X : Nat → mw_H → Prop) : Prop :=
  mw_W E M d Q X bc bs 0 (mw_args av) [] h
def mw_no : Nat → mw_H → Prop := fun _ _ => False
theorem mw_mono {p : Program} {l : Launch} {e : Env} {R : Room} {s : State} {m : MethodId} {args : Array Value} {below : List Frame} {meth : Method} {c : Code} {H : Heap} {locs : List Loc} {cells slots : Nat} {Q Q' : State → Prop} {g : JFrame} (w : W p l e R s m args below meth c H locs cells slots Q g) (h : ∀ t, Q t → Q' t) : W p l e R s m args below meth c H locs cells slots Q' g := by
  intro T hT X
  obtain ⟨t, a, b⟩ := w T hT X
  exact ⟨t, a, h t b⟩
set_option maxHeartbeats 1000000 in
theorem mw_met {E : mw_E} {M : mw_M} {d bc bs : Nat} {av : List Value} {h : mw_H} {Q : Option Value → mw_H → Prop} {X : Nat → mw_H → Prop} (hl9 : E.1.stackTraces = false) (hC : mw_Ct E M d bc bs av h Q X) (hy : plainName M.1.cls = true) (ha : (lg_sl av).length ≤ M.2.2.1) :
    MetFree E.1 M.1 (headSpec (mw_code M :: mw_tb) (mw_rm d bc bs)) (fun a U => a = av.toArray ∧ mw_R E h U.heap ∧ mw_K E U ∧ mw_Z E U) (fun _ _ _ _ _ => True) (fun _ st o t => mw_Q E Q X o t ∧ mw_F E st t bc bs) := by
  refine MetFree.of_bodyS (code := M.2.1) (maxLocals := M.2.2.1) (ret := M.2.2.2.1) hy ?_ ?_
  · intro args s m hp hn
    obtain ⟨meth, c, h1, h2, h3, h4, h5, h6, -, -⟩ := mw_code_spec hn (atoms_spec (ws := mw_code M :: mw_tb) hp _ List.mem_cons_self)
    exact ⟨meth, c, h1, h2, h3, h4, h5, h6⟩
  · intro p e s m args below meth c s₁ B hml hP _
    obtain ⟨rfl, hR, hK, hZ⟩ := hP
    have hts := atoms_spec (ws := mw_code M :: mw_tb) B.pre
    obtain ⟨meth', c', h1, h2, -, -, -, -, hT, -⟩ := mw_code_spec B.named (hts _ List.mem_cons_self)
    have X₀ : Stand p E.1 e (mw_rm d bc bs) s m av.toArray below meth c s₁ [] 0 0 := Stand.of_body B
    cases B.method.symm.trans h1
    cases X₀.code.symm.trans h2
    have hh0 : s₁.heap = s.heap := by rw [B.state]; rfl
    have hl := lv_entry av (n := M.2.2.1) ha
    have w := hC p e s m av.toArray below meth c s.heap [] 0 0 bc bs _ ⟨B.exec, B.bytes, B.returns, hml, findClass_of_methodNamed B.named, fun w hw => hts w (List.mem_cons_of_mem _ hw), hK, hZ, B.notSynchronized, hT, (name_of_methodNamed B.named B.method).1, hl9⟩ hR (fun q hq => nomatch hq) (mw_lv.entry hl) (by omega) (by omega)
    obtain ⟨t, a1, o, b1, b2, b3⟩ := w s₁ hh0 X₀
    refine ⟨t, o, ?_, b1, b2, b3⟩
    rw [lg_entry_eq]
    exact a1
end
section
/-! Calls: a method's contract at a caller's point; both ends. -/
section MwCalls
variable {E : mw_E} {M M' : mw_M} {d d' bc' bs' mc ms : Nat} {av : List Value} {h : mw_H} {Q' : Option Value → mw_H → Prop} {X' : Nat → mw_H → Prop}
variable {p : Program} {e : Env} {s : State} {m : MethodId} {args : Array Value} {below : List Frame} {meth : Method} {c : Code} {T : State} {locs : List Loc} {cells slots : Nat}
/-- what comes behind a call: back with v, or with the note that an object is under way -/
def mw_aft (E : mw_E) (p : Program) (e : Env) (below : List Frame) (Q' : Option Value → mw_H → Prop) (X' : Nat → mw_H → Prop) (h' : mw_H) (S0 T' : State) (g : JFrame) (len : Nat) : Prop :=
  (∃ v, Q' v h' ∧ Steps p.tables e below S0 (T'.setTop { g with pc := g.pc + len, stack := v.toList ++ g.stack })) ∨ (∃ k, X' k h' ∧ Steps p.tables e below S0 ((T'.setTop g).pushFrame (.throwing (mw_b E + k))))
set_option maxHeartbeats 2000000 in
theorem mw_back (hM : MetFree E.1 M'.1 (headSpec (mw_code M' :: mw_tb) (mw_rm d' bc' bs')) (fun a U => a = av.toArray ∧ mw_R E h U.heap ∧ mw_K E U ∧ mw_Z E U) (fun _ _ _ _ _ => True) (fun _ st o t => mw_Q E Q' X' o t ∧ mw_F E st t bc' bs'))
    (X : Stand p E.1 e (mw_rm d mc ms) s m args below meth c T locs cells slots) (hts : ∀ w ∈ mw_tb, w.before args s = true) (hK : mw_K E s) (hZ : mw_Z E s) (hR : mw_R E h T.heap)
    (hcw : mw_code M' ∈ mw_tb) (hini : Cond.initialized M'.1.cls ∈ mw_tb) (hd : d' + 1 ≤ d) (hL : M'.2.2.1 ≤ 14) (hc : cells + bc' ≤ mc) (hs : slots + bs' ≤ ms)
    {g : JFrame} {ig : Instr} {len : Nat} (hg : g.method = m) (hsize : g.locals.size = c.maxLocals) (hdg : decode c.code g.pc = .ok (ig, len)) (hW : 2 * g.monitorRoom + (g.stack.map fun v => v.category).sum ≤ 8) {mk : MethodId} (hn : T.methodNamed? M'.1 = some mk) :
    ∃ (h' : mw_H) (T' : State) (L : List Loc), Stand p E.1 e (mw_rm d mc ms) s m args below meth c T' (locs ++ L) (cells + bc') (slots + bs') ∧ (∀ q ∈ L, mw_b E ≤ q.base) ∧ mw_R E h' T'.heap ∧ mw_aft E p e below Q' X' h' (doInvoke e (T.setTop g) [] mk av.toArray).1 T' g len := by
  obtain ⟨methY, cY, hmY, hcY, -, hlY, -, -, -, -⟩ := mw_code_spec (args := args) hn (mw_words hts X.warmed hcw)
  obtain ⟨kY, hkY, -⟩ := className_of_methodNamed hn
  have hinitY : kY.init = .initialized := Cond.initialized_spec (args := args) (findClass_of_methodNamed hn) hkY (mw_words hts X.warmed hini)
  have hAt : At T g.method c below := by rw [hg]; exact X.here
  have hpre : (headSpec (mw_code M' :: mw_tb) (mw_rm d' bc' bs')).pre.before av.toArray T = true := atoms_intro (fun w hw => by
    rcases List.mem_cons.mp hw with rfl | hw
    · exact mw_words hts X.warmed hcw
    · exact mw_words hts X.warmed hw)
  have happ : (headSpec (mw_code M' :: mw_tb) (mw_rm d' bc' bs')).appliesLoose M'.1 e.platform (T.calling g mk av.toArray) = true :=
    Spec.appliesLoose_calling (g := g) hAt hdg hn hkY hinitY
      (X.room_calling (g := g) (R' := mw_rm d' bc' bs') hsize hmY hcY hd (by rw [hlY]; show _ + (M'.2.2.1 + 11) + 33 * d' ≤ 33 * d; omega) hc hs) hpre
  obtain ⟨mid, hmid⟩ := hAt.above
  have hfr : (T.setTop g).frames = (.java g :: mid) ++ below := by rw [State.frames_setTop' g hAt.top, hmid]; rfl
  obtain ⟨o, s₂, hsteps, -, hend, hq⟩ := Steps.callFree hM p X.admits X.cas X.clock (acts := []) hfr happ ⟨rfl, hR, hK.moved X.warmed.alike, hZ.moved X.warmed.alike⟩ trivial
  rw [State.frames_setTop' g hAt.top] at hend
  obtain ⟨⟨h', hR', ho⟩, L, hW₂, hsb, hL9⟩ := hq
  obtain ⟨e2, q2, q3, q4, q5, q6⟩ := hsb
  have hW' : T.WarmedH s₂.vm := hW₂
  have e3 : s₂ = ({ (T.calling g mk av.toArray).setFrames s₂.frames with heap := s₂.heap, slotsUsed := s₂.slotsUsed } : State).setVm s₂.vm := by
    have : s₂ = ({ s₂ with vm := (T.calling g mk av.toArray).vm } : State).setVm s₂.vm := rfl
    rw [show ({ s₂ with vm := (T.calling g mk av.toArray).vm } : State) = _ from e2] at this
    exact this
  obtain ⟨g₀, hg0⟩ := Option.isSome_iff_exists.mp hAt.top
  obtain ⟨r, hr⟩ := State.topJava?_eq_some.mp hg0
  have hr' : (({ T with heap := s₂.heap, slotsUsed := s₂.slotsUsed } : State).setVm s₂.vm).frames = .java g₀ :: r := hr
  have hsame : T.sameButNew ({ T with heap := s₂.heap, slotsUsed := s₂.slotsUsed } : State) L bc' bs' := by
    refine ⟨?_, q2, q3, q4, q5, q6⟩
    obtain ⟨t, ht, -⟩ := State.frames_cons hr
    show ({ T with heap := s₂.heap, slotsUsed := s₂.slotsUsed } : State) = { T.setFrames T.frames with heap := s₂.heap, slotsUsed := s₂.slotsUsed }
    rw [State.setFrames_self ht]
  refine ⟨h', ({ T with heap := s₂.heap, slotsUsed := s₂.slotsUsed } : State).setVm s₂.vm, L,
    ⟨X.admits, X.cas, X.clock, X.frames, X.room, X.hears, X.method, X.code, (X.here.setHeapUsed s₂.heap s₂.slotsUsed).setVm hW'.alike, X.tail, State.WarmedH.trans X.warmed hW', X.limits, X.bytes, X.same.trans (hsame.setVm s.vm)⟩, hL9, hR', ?_⟩
  rcases ho with ⟨v, rfl, hQ⟩ | ⟨k, rfl, hX⟩
  · refine Or.inl ⟨v, hQ, ?_⟩
    obtain ⟨c₂, i₂, len₂, hc₂, hd₂, hf₂⟩ := hend
    have hcc : c₂ = c := by
      have h1 : s₂.code? g.method = T.code? g.method := by
        rw [State.code?_eq, State.code?_eq, hW'.alike.method?]
      exact Option.some.inj (hc₂.symm.trans (h1.trans hAt.code))
    subst hcc
    have hlen : len₂ = len := by rw [hdg] at hd₂; cases hd₂; rfl
    subst hlen
    have hs₂ : s₂ = (({ T with heap := s₂.heap, slotsUsed := s₂.slotsUsed } : State).setVm s₂.vm).setTop { g with pc := g.pc + len₂, stack := v.toList ++ g.stack } := by
      refine e3.trans ?_
      rw [hf₂, State.calling_eq hAt.top, State.setFrames_setFrames, State.setTop_of_frames _ hr', hr]
      rfl
    rw [← hs₂]
    exact hsteps
  · refine Or.inr ⟨k, hX, ?_⟩
    have hf₂ : s₂.frames = .throwing (mw_b E + k) :: .java g :: T.frames.tail := hend
    have hs₂ : s₂ = ((({ T with heap := s₂.heap, slotsUsed := s₂.slotsUsed } : State).setVm s₂.vm).setTop g).pushFrame (.throwing (mw_b E + k)) := by
      refine e3.trans ?_
      rw [hf₂, State.calling_eq hAt.top, State.setFrames_setFrames, State.pushFrame, State.frames_setTop _ hr', State.setTop_of_frames _ hr', State.setFrames_setFrames, hr]
      rfl
    rw [← hs₂]
    exact hsteps
/-- the callee's side of a call, as the tables have it -/
def mw_cal (M' : mw_M) (n : Nat) : Prop := mw_code M' ∈ mw_tb ∧ Cond.initialized M'.1.cls ∈ mw_tb ∧ M'.2.2.1 ≤ 14 ∧ plainName M'.1.cls = true ∧ (M'.1.cls ≠ "java/lang/invoke/MethodHandle" ∧ M'.1.cls ≠ "java/lang/invoke/VarHandle") ∧ (parseMethodDescriptor M'.1.desc).map (fun d => d.parameters.length) = some n
theorem mw_cal_len {n : Nat} (hw : mw_cal M' n) {sg : MethodDescriptor} (hp : parseMethodDescriptor M'.1.desc = some sg) : n = sg.parameters.length := by
  have h2 := hw.2.2.2.2.2
  rw [hp] at h2
  exact (Option.some.inj h2).symm
variable {Q : Option Value → mw_H → Prop} {X : Nat → mw_H → Prop} {bc bs pc idx : Nat} {lo : List (Option Value)} {st As : List Value}
/-- the joint end of all kinds of calls -/
theorem mw_join {p : Program} {e : Env} {s : State} {m : MethodId} {args : Array Value} {below : List Frame} {meth : Method} {c : Code} {locs : List Loc} {cells slots mc ms : Nat} {ls : Array Slot}
    (C : mw_C E M p s m args meth c) (hlocs : ∀ q ∈ locs, mw_b E ≤ q.base) (hl : mw_lv ls M.2.2.1 lo) (hc : cells + bc ≤ mc) (hs : slots + bs ≤ ms) (hbc : bc' ≤ bc) (hbs : bs' ≤ bs)
    {T1 : State} {mk : MethodId}
    (hb : ∃ (h' : mw_H) (T' : State) (L : List Loc), Stand p E.1 e (mw_rm d mc ms) s m args below meth c T' (locs ++ L) (cells + bc') (slots + bs') ∧ (∀ q ∈ L, mw_b E ≤ q.base) ∧ mw_R E h' T'.heap ∧ mw_aft E p e below Q' X' h' (doInvoke e (T1.setTop (F0 m pc ls st)) [] mk av.toArray).1 T' (F0 m pc ls st) 3)
    (kr : ∀ v h', Q' v h' → mw_W E M d Q X (bc - bc') (bs - bs') (pc + 3) lo (v.toList ++ st) h') (kx : ∀ k h', X' k h' → mw_T E M d Q X (bc - bc') (bs - bs') pc lo k h') :
    ∃ t, Steps p.tables e below (doInvoke e (T1.setTop (F0 m pc ls st)) [] mk av.toArray).1 t ∧ mw_end E Q X below s mc ms t := by
  obtain ⟨h', T', L, X1, hL, hR', ha⟩ := hb
  have hlocs' : ∀ q ∈ locs ++ L, mw_b E ≤ q.base := fun q hq => by
    rcases List.mem_append.mp hq with h1 | h1
    · exact hlocs q h1
    · exact hL q h1
  rcases ha with ⟨v, hQ, st1⟩ | ⟨k, hX, st1⟩
  · obtain ⟨t, a1, b1⟩ := kr v h' hQ p e s m args below meth c T'.heap (locs ++ L) (cells + bc') (slots + bs') mc ms ls C hR' hlocs' hl (by omega) (by omega) T' rfl X1
    exact ⟨t, st1.trans a1, b1⟩
  · obtain ⟨t, a1, b1⟩ := kx k h' hX p e s m args below meth c (locs ++ L) (cells + bc') (slots + bs') mc ms ls st T' C hR' hlocs' hl (by omega) (by omega) X1
    exact ⟨t, st1.trans a1, b1⟩
def mw_lkS (M M' : mw_M) (idx n : Nat) : Prop := mw_cal M' n ∧ Cond.methodLink M.1.cls idx M'.1 ∈ mw_tb ∧ Cond.static M'.1 ∈ mw_tb
set_option maxHeartbeats 2000000 in
theorem mw_callS {n : Nat} (hw : mw_lkS M M' idx n) (hd : decode M.2.1 pc = .ok (.invokestatic idx, 3)) (hn : As.length = n) (hsl : (lg_sl As).length ≤ M'.2.2.1) (hC : mw_Ct E M' d' bc' bs' As h Q' X') (hdd : d' + 1 ≤ d) (hst : (st.map fun v => v.category).sum ≤ 8) (hbc : bc' ≤ bc) (hbs : bs' ≤ bs)
    (kr : ∀ v h', Q' v h' → mw_W E M d Q X (bc - bc') (bs - bs') (pc + 3) lo (v.toList ++ st) h') (kx : ∀ k h', X' k h' → mw_T E M d Q X (bc - bc') (bs - bs') pc lo k h') :
    mw_W E M d Q X bc bs pc lo (As.reverse ++ st) h := by
  intro p e s m args below meth c H locs cells slots mc ms ls C hR hlocs hl hc hs T hT X0
  subst hT
  have C0 := C
  obtain ⟨hx, hb, hr, hml, hown, hts, hK, hZ, hlk, htab, hnm, hl9⟩ := C
  obtain ⟨hcal, hlink, hstat⟩ := hw
  obtain ⟨mk, hnamed⟩ := mw_code_named (hts _ hcal.1)
  obtain ⟨methM, cM, hmethM, -, -, -, -, -, -, hsigM⟩ := mw_code_spec hnamed (hts _ hcal.1)
  have hstatic : methM.isStatic = true := Cond.static_spec hnamed hmethM (hts _ hstat)
  obtain ⟨kP, hkP, -⟩ := className_of_methodNamed hnamed
  have hinitP : kP.init = .initialized := Cond.initialized_spec (findClass_of_methodNamed hnamed) hkP (hts _ hcal.2.1)
  obtain ⟨vm₁, X₁, hstep₁⟩ := X0.invokestatic hx hown (hts _ hlink) hnamed hmethM hstatic hkP hinitP hcal.2.2.2.2.1 (g := F0 m pc ls (As.reverse ++ st)) rfl (argsL := As) (rest := st) (hn.trans (mw_cal_len hcal hsigM)) rfl (by rw [hb]; exact hd)
  have hM := mw_met hl9 hC hcal.2.2.2.1 hsl
  have hB := mw_back hM X₁ hts hK hZ (by exact hR) hcal.1 hcal.2.1 hdd hcal.2.2.1 (Nat.le_trans (Nat.add_le_add_left hbc _) hc) (Nat.le_trans (Nat.add_le_add_left hbs _) hs) (g := F0 m pc ls st) rfl (hl.1.trans hml.symm) (by rw [hb]; exact hd) (lv_room hst) (X₁.named hnamed)
  obtain ⟨t, a1, b1⟩ := mw_join C0 hlocs hl hc hs hbc hbs hB kr kx
  exact ⟨t, hstep₁ _ (fun acts => by rw [doInvoke_state]; exact a1), b1⟩
def mw_lkV (M M' : mw_M) (idx n ci : Nat) : Prop := mw_cal M' n ∧ Cond.methodLink M.1.cls idx M'.1 ∈ mw_tb ∧ Cond.instanceMethod M'.1 ∈ mw_tb ∧ (∃ r : vw_C, mw_cl[ci]? = some r ∧ Cond.selects r.1 M'.1 M'.1 ∈ mw_tb)
theorem mw_recv {E : mw_E} {s : State} {h : mw_H} {H : Heap} {a ci : Nat} {f : Nat → Value} (hK : mw_K E s) (hR : mw_R E h H) (ha : a < h.1) (ho : h.2 a = .inl (ci, f)) {r : vw_C} (hr : mw_cl[ci]? = some r) : ∃ cell : Cell, H[mw_b E + a]? = some cell ∧ cell.vm.isStatics = false ∧ s.vm.findClass r.1 = some cell.cls := by
  have h1 := hR.2.2 a ha
  rw [ho] at h1
  obtain ⟨r', h2, cell, g1, g2, g3, -⟩ := h1
  cases hr.symm.trans h2
  exact ⟨cell, g1, by rw [g3]; rfl, by rw [g2]; exact (hK.1 ci r hr).2.1⟩
set_option maxHeartbeats 2000000 in
theorem mw_callV {n ci a : Nat} {f : Nat → Value} (hw : mw_lkV M M' idx n ci) (hd : decode M.2.1 pc = .ok (.invokevirtual idx, 3)) (ha : a < h.1) (ho : h.2 a = .inl (ci, f)) (hn : As.length = n) (hsl : (lg_sl (.ref (mw_b E + a) :: As)).length ≤ M'.2.2.1) (hC : mw_Ct E M' d' bc' bs' (.ref (mw_b E + a) :: As) h Q' X') (hdd : d' + 1 ≤ d) (hst : (st.map fun v => v.category).sum ≤ 8) (hbc : bc' ≤ bc) (hbs : bs' ≤ bs)
    (kr : ∀ v h', Q' v h' → mw_W E M d Q X (bc - bc') (bs - bs') (pc + 3) lo (v.toList ++ st) h') (kx : ∀ k h', X' k h' → mw_T E M d Q X (bc - bc') (bs - bs') pc lo k h') :
    mw_W E M d Q X bc bs pc lo (As.reverse ++ .ref (mw_b E + a) :: st) h := by
  intro p e s m args below meth c H locs cells slots mc ms ls C hR hlocs hl hc hs T hT X0
  subst hT
  have C0 := C
  obtain ⟨hx, hb, hr, hml, hown, hts, hK, hZ, hlk, htab, hnm, hl9⟩ := C
  obtain ⟨hcal, hlink, hinst, r, hr9, hsel⟩ := hw
  obtain ⟨cellB, hcell, hobj, hcls⟩ := mw_recv hK hR ha ho hr9
  obtain ⟨mk, methM, hnamed, hmethM, hstM, habM⟩ := Cond.instanceMethod_spec (hts _ hinst)
  obtain ⟨methM', cM, hmethM', -, -, -, -, -, -, hsigM⟩ := mw_code_spec hnamed (hts _ hcal.1)
  cases hmethM.symm.trans hmethM'
  obtain ⟨c2, r2, m2, q1, q2, q3, q4, kP, hkP, hkPi⟩ := Cond.selects_spec (hts _ hsel)
  cases hcls.symm.trans q1
  cases (State.methodFound?_of_named hnamed hcal.2.2.2.2.1).symm.trans q2
  cases hnamed.symm.trans q3
  have hselP : selectMethod e.platform s.vm cellB.cls mk = .method mk := by rw [Launch.admits_selectMethod X0.admits]; exact q4
  obtain ⟨vm₁, X₁, hstep₁⟩ := X0.invokevirtual hx hown (hts _ hlink) hnamed hmethM hstM hkP hkPi hcal.2.2.2.2.1 (a := mw_b E + a) (cell := cellB) hcell
    (fun z h => by rw [h] at hobj; cases hobj) hselP hmethM habM hkP hkPi (g := F0 m pc ls (As.reverse ++ .ref (mw_b E + a) :: st)) rfl (argsL := As) (rest := st) (hn.trans (mw_cal_len hcal hsigM)) rfl (by rw [hb]; exact hd)
  have hM := mw_met hl9 hC hcal.2.2.2.1 hsl
  have hB := mw_back hM X₁ hts hK hZ (by exact hR) hcal.1 hcal.2.1 hdd hcal.2.2.1 (Nat.le_trans (Nat.add_le_add_left hbc _) hc) (Nat.le_trans (Nat.add_le_add_left hbs _) hs) (g := F0 m pc ls st) rfl (hl.1.trans hml.symm) (by rw [hb]; exact hd) (lv_room hst) (X₁.named hnamed)
  obtain ⟨t, a1, b1⟩ := mw_join C0 hlocs hl hc hs hbc hbs hB kr kx
  exact ⟨t, hstep₁ _ (fun acts => by rw [doInvoke_state]; exact a1), b1⟩
def mw_lkI (M M' : mw_M) (idx n : Nat) : Prop := mw_cal M' n ∧ M'.1.name = "<init>" ∧ M'.2.2.2.1 = none ∧ M'.2.2.2.2 = [] ∧ Cond.instanceMethod M'.1 ∈ mw_tb ∧ ((Cond.methodLink M.1.cls idx M'.1 ∈ mw_tb) ∨ ∃ host : String, ∀ (args : Array Value) (s : State), (∀ w ∈ mw_tb, w.before args s = true) → (Cond.methodLinkNest M.1.cls idx M'.1 host).before args s = true)
set_option maxHeartbeats 2000000 in
theorem mw_callI {n a : Nat} (hw : mw_lkI M M' idx n) (hd : decode M.2.1 pc = .ok (.invokespecial idx, 3)) (hn : As.length = n) (hsl : (lg_sl (.ref (mw_b E + a) :: As)).length ≤ M'.2.2.1) (hC : mw_Ct E M' d' bc' bs' (.ref (mw_b E + a) :: As) h Q' X') (hdd : d' + 1 ≤ d) (hst : (st.map fun v => v.category).sum ≤ 8) (hbc : bc' ≤ bc) (hbs : bs' ≤ bs)
    (kr : ∀ v h', Q' v h' → mw_W E M d Q X (bc - bc') (bs - bs') (pc + 3) lo (v.toList ++ st) h') (kx : ∀ k h', X' k h' → mw_T E M d Q X (bc - bc') (bs - bs') pc lo k h') :
    mw_W E M d Q X bc bs pc lo (As.reverse ++ .ref (mw_b E + a) :: st) h := by
  intro p e s m args below meth c H locs cells slots mc ms ls C hR hlocs hl hc hs T hT X0
  subst hT
  have C0 := C
  obtain ⟨hx, hb, hr, hml, hown, hts, hK, hZ, hlk, htab, hnm, hl9⟩ := C
  obtain ⟨hcal, hy1, hret, hno, hinst, hlink⟩ := hw
  have hpl : e.platform.magicAccessors = ({} : Platform).magicAccessors := by rw [X0.admits.platform]
  have hcode : (Cond.code M'.1 M'.2.1 M'.2.2.1 none).before args s = true := by
    have h1 := hts _ hcal.1
    unfold mw_code at h1
    rw [if_pos hno, hret] at h1
    exact h1
  have key : ∃ (mk : MethodId) (vm₁ : Vm), s.methodNamed? M'.1 = some mk ∧ s.WarmedH vm₁ ∧ ∀ target, (∀ acts, Steps p.tables e below (doInvoke e ((T.setVm vm₁).setTop (F0 m pc ls st)) acts mk (Value.ref (mw_b E + a) :: As).toArray).1 target) → Steps p.tables e below (T.setTop (F0 m pc ls (As.reverse ++ .ref (mw_b E + a) :: st))) target := by
    rcases hlink with hlink | ⟨host, hlink⟩
    · obtain ⟨mk, methM, cM, kP, vm₁, hnamed, hmethM, hcodeM, -, hlocalsM, -, hkP, -, hW₁, hstep₁⟩ := Steps.initColdArgs (e := e) X0.here hx X0.warmed hpl hown hy1 hcal.2.2.2.2.1 (hts _ hlink) (hts _ hinst) hcode (f := F0 m pc ls (As.reverse ++ .ref (mw_b E + a) :: st)) rfl (fun sg h => hn.trans (mw_cal_len hcal h)) rfl (by rw [hb]; exact hd)
      exact ⟨mk, vm₁, hnamed, hW₁, hstep₁⟩
    · obtain ⟨mk, methM, cM, kP, vm₁, hnamed, hmethM, hcodeM, -, hlocalsM, -, hkP, -, hW₁, hstep₁⟩ := Steps.initColdArgsNest (e := e) X0.here hx X0.warmed hpl hown hy1 hcal.2.2.2.2.1 (hlink args s hts) (hts _ hinst) hcode (f := F0 m pc ls (As.reverse ++ .ref (mw_b E + a) :: st)) rfl (fun sg h => hn.trans (mw_cal_len hcal h)) rfl (by rw [hb]; exact hd)
      exact ⟨mk, vm₁, hnamed, hW₁, hstep₁⟩
  obtain ⟨mk, vm₁, hnamed, hW₁, hstep₁⟩ := key
  have X₁ := X0.noted hW₁
  have hM := mw_met hl9 hC hcal.2.2.2.1 hsl
  have hB := mw_back hM X₁ hts hK hZ (by exact hR) hcal.1 hcal.2.1 hdd hcal.2.2.1 (Nat.le_trans (Nat.add_le_add_left hbc _) hc) (Nat.le_trans (Nat.add_le_add_left hbs _) hs) (g := F0 m pc ls st) rfl (hl.1.trans hml.symm) (by rw [hb]; exact hd) (lv_room hst) (X₁.named hnamed)
  obtain ⟨t, a1, b1⟩ := mw_join C0 hlocs hl hc hs hbc hbs hB kr kx
  exact ⟨t, hstep₁ _ (fun acts => by rw [doInvoke_state]; exact a1), b1⟩
end MwCalls
end
section
/-! The walker's rows, an instruction each (written by a program). -/
section MwRows
variable {E : mw_E} {M : mw_M} {d bc bs pc : Nat} {Q : Option Value → mw_H → Prop} {X : Nat → mw_H → Prop} {lo : List (Option Value)} {st : List Value} {h : mw_H}
theorem mw_iconst {n : Int} {v : Int32} (hd : decode M.2.1 pc = .ok (.iconst n, 1)) (hv : Int32.ofInt n = v) (k : mw_W E M d Q X bc bs (pc + 1) lo (.int v :: st) h) : mw_W E M d Q X bc bs pc lo st h := by
  intro p e s m args below meth c H locs cells slots mc ms ls C hR hlocs hl hc hs
  exact lv_iconst C.1 C.2.1 hd hv (k p e s m args below meth c H locs cells slots mc ms ls C hR hlocs hl hc hs)
theorem mw_bipush {n : Int} {v : Int32} (hd : decode M.2.1 pc = .ok (.bipush n, 2)) (hv : (Int8.ofInt n).toInt32 = v) (k : mw_W E M d Q X bc bs (pc + 2) lo (.int v :: st) h) : mw_W E M d Q X bc bs pc lo st h := by
  intro p e s m args below meth c H locs cells slots mc ms ls C hR hlocs hl hc hs
  exact lv_bipush C.1 C.2.1 hd hv (k p e s m args below meth c H locs cells slots mc ms ls C hR hlocs hl hc hs)
theorem mw_sipush {n : Int} {v : Int32} (hd : decode M.2.1 pc = .ok (.sipush n, 3)) (hv : (Int16.ofInt n).toInt32 = v) (k : mw_W E M d Q X bc bs (pc + 3) lo (.int v :: st) h) : mw_W E M d Q X bc bs pc lo st h := by
  intro p e s m args below meth c H locs cells slots mc ms ls C hR hlocs hl hc hs
  exact lv_sipush C.1 C.2.1 hd hv (k p e s m args below meth c H locs cells slots mc ms ls C hR hlocs hl hc hs)
theorem mw_lconst {n : Fin 2} {v : Int64} (hd : decode M.2.1 pc = .ok (.lconst n, 1)) (hv : Int64.ofNat (n : Nat) = v) (k : mw_W E M d Q X bc bs (pc + 1) lo (.long v :: st) h) : mw_W E M d Q X bc bs pc lo st h := by
  intro p e s m args below meth c H locs cells slots mc ms ls C hR hlocs hl hc hs
  exact lv_lconst C.1 C.2.1 hd hv (k p e s m args below meth c H locs cells slots mc ms ls C hR hlocs hl hc hs)
theorem mw_iadd {x y : Int32} (hd : decode M.2.1 pc = .ok (.iadd, 1)) (k : mw_W E M d Q X bc bs (pc + 1) lo (.int (x + y) :: st) h) : mw_W E M d Q X bc bs pc lo (.int y :: .int x :: st) h := by
  intro p e s m args below meth c H locs cells slots mc ms ls C hR hlocs hl hc hs
  exact lv_iadd C.1 C.2.1 hd (k p e s m args below meth c H locs cells slots mc ms ls C hR hlocs hl hc hs)
theorem mw_isub {x y : Int32} (hd : decode M.2.1 pc = .ok (.isub, 1)) (k : mw_W E M d Q X bc bs (pc + 1) lo (.int (x - y) :: st) h) : mw_W E M d Q X bc bs pc lo (.int y :: .int x :: st) h := by
  intro p e s m args below meth c H locs cells slots mc ms ls C hR hlocs hl hc hs
  exact lv_isub C.1 C.2.1 hd (k p e s m args below meth c H locs cells slots mc ms ls C hR hlocs hl hc hs)
theorem mw_imul {x y : Int32} (hd : decode M.2.1 pc = .ok (.imul, 1)) (k : mw_W E M d Q X bc bs (pc + 1) lo (.int (x * y) :: st) h) : mw_W E M d Q X bc bs pc lo (.int y :: .int x :: st) h := by
  intro p e s m args below meth c H locs cells slots mc ms ls C hR hlocs hl hc hs
  exact lv_imul C.1 C.2.1 hd (k p e s m args below meth c H locs cells slots mc ms ls C hR hlocs hl hc hs)
theorem mw_iand {x y : Int32} (hd : decode M.2.1 pc = .ok (.iand, 1)) (k : mw_W E M d Q X bc bs (pc + 1) lo (.int (x &&& y) :: st) h) : mw_W E M d Q X bc bs pc lo (.int y :: .int x :: st) h := by
  intro p e s m args below meth c H locs cells slots mc ms ls C hR hlocs hl hc hs
  exact lv_iand C.1 C.2.1 hd (k p e s m args below meth c H locs cells slots mc ms ls C hR hlocs hl hc hs)
theorem mw_ior {x y : Int32} (hd : decode M.2.1 pc = .ok (.ior, 1)) (k : mw_W E M d Q X bc bs (pc + 1) lo (.int (x ||| y) :: st) h) : mw_W E M d Q X bc bs pc lo (.int y :: .int x :: st) h := by
  intro p e s m args below meth c H locs cells slots mc ms ls C hR hlocs hl hc hs
  exact lv_ior C.1 C.2.1 hd (k p e s m args below meth c H locs cells slots mc ms ls C hR hlocs hl hc hs)
theorem mw_ixor {x y : Int32} (hd : decode M.2.1 pc = .ok (.ixor, 1)) (k : mw_W E M d Q X bc bs (pc + 1) lo (.int (x ^^^ y) :: st) h) : mw_W E M d Q X bc bs pc lo (.int y :: .int x :: st) h := by
  intro p e s m args below meth c H locs cells slots mc ms ls C hR hlocs hl hc hs
  exact lv_ixor C.1 C.2.1 hd (k p e s m args below meth c H locs cells slots mc ms ls C hR hlocs hl hc hs)
theorem mw_ladd {x y : Int64} (hd : decode M.2.1 pc = .ok (.ladd, 1)) (k : mw_W E M d Q X bc bs (pc + 1) lo (.long (x + y) :: st) h) : mw_W E M d Q X bc bs pc lo (.long y :: .long x :: st) h := by
  intro p e s m args below meth c H locs cells slots mc ms ls C hR hlocs hl hc hs
  exact lv_ladd C.1 C.2.1 hd (k p e s m args below meth c H locs cells slots mc ms ls C hR hlocs hl hc hs)
theorem mw_lsub {x y : Int64} (hd : decode M.2.1 pc = .ok (.lsub, 1)) (k : mw_W E M d Q X bc bs (pc + 1) lo (.long (x - y) :: st) h) : mw_W E M d Q X bc bs pc lo (.long y :: .long x :: st) h := by
  intro p e s m args below meth c H locs cells slots mc ms ls C hR hlocs hl hc hs
  exact lv_lsub C.1 C.2.1 hd (k p e s m args below meth c H locs cells slots mc ms ls C hR hlocs hl hc hs)
theorem mw_lmul {x y : Int64} (hd : decode M.2.1 pc = .ok (.lmul, 1)) (k : mw_W E M d Q X bc bs (pc + 1) lo (.long (x * y) :: st) h) : mw_W E M d Q X bc bs pc lo (.long y :: .long x :: st) h := by
  intro p e s m args below meth c H locs cells slots mc ms ls C hR hlocs hl hc hs
  exact lv_lmul C.1 C.2.1 hd (k p e s m args below meth c H locs cells slots mc ms ls C hR hlocs hl hc hs)
theorem mw_land {x y : Int64} (hd : decode M.2.1 pc = .ok (.land, 1)) (k : mw_W E M d Q X bc bs (pc + 1) lo (.long (x &&& y) :: st) h) : mw_W E M d Q X bc bs pc lo (.long y :: .long x :: st) h := by
  intro p e s m args below meth c H locs cells slots mc ms ls C hR hlocs hl hc hs
  exact lv_land C.1 C.2.1 hd (k p e s m args below meth c H locs cells slots mc ms ls C hR hlocs hl hc hs)
theorem mw_lor {x y : Int64} (hd : decode M.2.1 pc = .ok (.lor, 1)) (k : mw_W E M d Q X bc bs (pc + 1) lo (.long (x ||| y) :: st) h) : mw_W E M d Q X bc bs pc lo (.long y :: .long x :: st) h := by
  intro p e s m args below meth c H locs cells slots mc ms ls C hR hlocs hl hc hs
  exact lv_lor C.1 C.2.1 hd (k p e s m args below meth c H locs cells slots mc ms ls C hR hlocs hl hc hs)
theorem mw_lxor {x y : Int64} (hd : decode M.2.1 pc = .ok (.lxor, 1)) (k : mw_W E M d Q X bc bs (pc + 1) lo (.long (x ^^^ y) :: st) h) : mw_W E M d Q X bc bs pc lo (.long y :: .long x :: st) h := by
  intro p e s m args below meth c H locs cells slots mc ms ls C hR hlocs hl hc hs
  exact lv_lxor C.1 C.2.1 hd (k p e s m args below meth c H locs cells slots mc ms ls C hR hlocs hl hc hs)
theorem mw_irem {x y : Int32} (hd : decode M.2.1 pc = .ok (.irem, 1)) (hne : ¬ y = 0) (k : mw_W E M d Q X bc bs (pc + 1) lo (.int (x - x / y * y) :: st) h) : mw_W E M d Q X bc bs pc lo (.int y :: .int x :: st) h := by
  intro p e s m args below meth c H locs cells slots mc ms ls C hR hlocs hl hc hs
  exact lv_irem C.1 C.2.1 hd hne (k p e s m args below meth c H locs cells slots mc ms ls C hR hlocs hl hc hs)
theorem mw_ineg {x : Int32} (hd : decode M.2.1 pc = .ok (.ineg, 1)) (k : mw_W E M d Q X bc bs (pc + 1) lo (.int (-x) :: st) h) : mw_W E M d Q X bc bs pc lo (.int x :: st) h := by
  intro p e s m args below meth c H locs cells slots mc ms ls C hR hlocs hl hc hs
  exact lv_ineg C.1 C.2.1 hd (k p e s m args below meth c H locs cells slots mc ms ls C hR hlocs hl hc hs)
theorem mw_lneg {x : Int64} (hd : decode M.2.1 pc = .ok (.lneg, 1)) (k : mw_W E M d Q X bc bs (pc + 1) lo (.long (-x) :: st) h) : mw_W E M d Q X bc bs pc lo (.long x :: st) h := by
  intro p e s m args below meth c H locs cells slots mc ms ls C hR hlocs hl hc hs
  exact lv_lneg C.1 C.2.1 hd (k p e s m args below meth c H locs cells slots mc ms ls C hR hlocs hl hc hs)
theorem mw_i2l {x : Int32} (hd : decode M.2.1 pc = .ok (.i2l, 1)) (k : mw_W E M d Q X bc bs (pc + 1) lo (.long x.toInt64 :: st) h) : mw_W E M d Q X bc bs pc lo (.int x :: st) h := by
  intro p e s m args below meth c H locs cells slots mc ms ls C hR hlocs hl hc hs
  exact lv_i2l C.1 C.2.1 hd rfl (k p e s m args below meth c H locs cells slots mc ms ls C hR hlocs hl hc hs)
theorem mw_l2i {x : Int64} (hd : decode M.2.1 pc = .ok (.l2i, 1)) (k : mw_W E M d Q X bc bs (pc + 1) lo (.int x.toInt32 :: st) h) : mw_W E M d Q X bc bs pc lo (.long x :: st) h := by
  intro p e s m args below meth c H locs cells slots mc ms ls C hR hlocs hl hc hs
  exact lv_l2i C.1 C.2.1 hd rfl (k p e s m args below meth c H locs cells slots mc ms ls C hR hlocs hl hc hs)
theorem mw_lushr {x : Int64} {y : Int32} (hd : decode M.2.1 pc = .ok (.lushr, 1)) (k : mw_W E M d Q X bc bs (pc + 1) lo (.long ((x.toUInt64 >>> (y.toInt64.toUInt64 &&& Int64.toUInt64 63)).toInt64) :: st) h) : mw_W E M d Q X bc bs pc lo (.int y :: .long x :: st) h := by
  intro p e s m args below meth c H locs cells slots mc ms ls C hR hlocs hl hc hs
  exact lv_lushr C.1 C.2.1 hd rfl (k p e s m args below meth c H locs cells slots mc ms ls C hR hlocs hl hc hs)
theorem mw_lshl {x : Int64} {y : Int32} (hd : decode M.2.1 pc = .ok (.lshl, 1)) (k : mw_W E M d Q X bc bs (pc + 1) lo (.long (x <<< (y.toInt64 &&& 63)) :: st) h) : mw_W E M d Q X bc bs pc lo (.int y :: .long x :: st) h := by
  intro p e s m args below meth c H locs cells slots mc ms ls C hR hlocs hl hc hs
  exact lv_lshl C.1 C.2.1 hd rfl (k p e s m args below meth c H locs cells slots mc ms ls C hR hlocs hl hc hs)
theorem mw_dup {va : Value} (hd : decode M.2.1 pc = .ok (.dup, 1)) (hva : va.category = 1) (k : mw_W E M d Q X bc bs (pc + 1) lo (va :: va :: st) h) : mw_W E M d Q X bc bs pc lo (va :: st) h := by
  intro p e s m args below meth c H locs cells slots mc ms ls C hR hlocs hl hc hs
  exact lv_dup C.1 C.2.1 hd hva (k p e s m args below meth c H locs cells slots mc ms ls C hR hlocs hl hc hs)
theorem mw_pop {va : Value} (hd : decode M.2.1 pc = .ok (.pop, 1)) (hva : va.category = 1) (k : mw_W E M d Q X bc bs (pc + 1) lo st h) : mw_W E M d Q X bc bs pc lo (va :: st) h := by
  intro p e s m args below meth c H locs cells slots mc ms ls C hR hlocs hl hc hs
  exact lv_pop C.1 C.2.1 hd hva (k p e s m args below meth c H locs cells slots mc ms ls C hR hlocs hl hc hs)
theorem mw_dup2 {va vb : Value} (hd : decode M.2.1 pc = .ok (.dup2, 1)) (hva : va.category = 1) (hvb : vb.category = 1) (k : mw_W E M d Q X bc bs (pc + 1) lo (va :: vb :: va :: vb :: st) h) : mw_W E M d Q X bc bs pc lo (va :: vb :: st) h := by
  intro p e s m args below meth c H locs cells slots mc ms ls C hR hlocs hl hc hs
  exact lv_dup2_11 C.1 C.2.1 hd hva hvb (k p e s m args below meth c H locs cells slots mc ms ls C hR hlocs hl hc hs)
theorem mw_dup2L {va : Value} (hd : decode M.2.1 pc = .ok (.dup2, 1)) (hva : va.category = 2) (k : mw_W E M d Q X bc bs (pc + 1) lo (va :: va :: st) h) : mw_W E M d Q X bc bs pc lo (va :: st) h := by
  intro p e s m args below meth c H locs cells slots mc ms ls C hR hlocs hl hc hs
  exact lv_dup2_2 C.1 C.2.1 hd hva (k p e s m args below meth c H locs cells slots mc ms ls C hR hlocs hl hc hs)
theorem mw_dup_x1 {va vb : Value} (hd : decode M.2.1 pc = .ok (.dup_x1, 1)) (hva : va.category = 1) (hvb : vb.category = 1) (k : mw_W E M d Q X bc bs (pc + 1) lo (va :: vb :: va :: st) h) : mw_W E M d Q X bc bs pc lo (va :: vb :: st) h := by
  intro p e s m args below meth c H locs cells slots mc ms ls C hR hlocs hl hc hs
  exact lv_dup_x1 C.1 C.2.1 hd hva hvb (k p e s m args below meth c H locs cells slots mc ms ls C hR hlocs hl hc hs)
theorem mw_lcmp {x y : Int64} (hd : decode M.2.1 pc = .ok (.lcmp, 1)) (k : mw_W E M d Q X bc bs (pc + 1) lo (.int (lg_cmp x y) :: st) h) : mw_W E M d Q X bc bs pc lo (.long y :: .long x :: st) h := by
  intro p e s m args below meth c H locs cells slots mc ms ls C hR hlocs hl hc hs
  exact W.lcmp C.1 C.2.1 hd (k p e s m args below meth c H locs cells slots mc ms ls C hR hlocs hl hc hs)
theorem mw_ldc {idx : Nat} {v : Int32} (hd : decode M.2.1 pc = .ok (.ldc idx, 2)) (hw : Cond.constant M.1.cls idx v ∈ mw_tb) (k : mw_W E M d Q X bc bs (pc + 2) lo (.int v :: st) h) : mw_W E M d Q X bc bs pc lo st h := by
  intro p e s m args below meth c H locs cells slots mc ms ls C hR hlocs hl hc hs
  exact lv_ldc C.1 C.2.1 C.2.2.2.2.1 (C.2.2.2.2.2.1 _ hw) hd (k p e s m args below meth c H locs cells slots mc ms ls C hR hlocs hl hc hs)
theorem mw_ldc2 {idx : Nat} {v : Int64} (hd : decode M.2.1 pc = .ok (.ldc2_w idx, 3)) (hw : Cond.constantLong M.1.cls idx v ∈ mw_tb) (k : mw_W E M d Q X bc bs (pc + 3) lo (.long v :: st) h) : mw_W E M d Q X bc bs pc lo st h := by
  intro p e s m args below meth c H locs cells slots mc ms ls C hR hlocs hl hc hs
  exact lv_ldc2 C.1 C.2.1 C.2.2.2.2.1 (C.2.2.2.2.2.1 _ hw) hd (k p e s m args below meth c H locs cells slots mc ms ls C hR hlocs hl hc hs)
theorem mw_goto {off : Int} {tgt : Nat} (hd : decode M.2.1 pc = .ok (.goto off, 3)) (ht : (pc : Int) + off = (tgt : Int)) (k : mw_W E M d Q X bc bs tgt lo st h) : mw_W E M d Q X bc bs pc lo st h := by
  intro p e s m args below meth c H locs cells slots mc ms ls C hR hlocs hl hc hs
  exact lv_goto C.1 C.2.1 hd ht (k p e s m args below meth c H locs cells slots mc ms ls C hR hlocs hl hc hs)
theorem mw_if_eq {x : Int32} {off : Int} {tgt : Nat} (hd : decode M.2.1 pc = .ok (.ifCond .eq off, 3)) (ht : (pc : Int) + off = (tgt : Int)) (kt : x = 0 → mw_W E M d Q X bc bs tgt lo st h) (kf : ¬ x = 0 → mw_W E M d Q X bc bs (pc + 3) lo st h) : mw_W E M d Q X bc bs pc lo (.int x :: st) h := by
  intro p e s m args below meth c H locs cells slots mc ms ls C hR hlocs hl hc hs
  exact lv_if_eq C.1 C.2.1 hd ht (fun q => kt q p e s m args below meth c H locs cells slots mc ms ls C hR hlocs hl hc hs) (fun q => kf q p e s m args below meth c H locs cells slots mc ms ls C hR hlocs hl hc hs)
theorem mw_icmp_eq {x y : Int32} {off : Int} {tgt : Nat} (hd : decode M.2.1 pc = .ok (.if_icmp .eq off, 3)) (ht : (pc : Int) + off = (tgt : Int)) (kt : x = y → mw_W E M d Q X bc bs tgt lo st h) (kf : ¬ x = y → mw_W E M d Q X bc bs (pc + 3) lo st h) : mw_W E M d Q X bc bs pc lo (.int y :: .int x :: st) h := by
  intro p e s m args below meth c H locs cells slots mc ms ls C hR hlocs hl hc hs
  exact lv_icmp_eq C.1 C.2.1 hd ht (fun q => kt q p e s m args below meth c H locs cells slots mc ms ls C hR hlocs hl hc hs) (fun q => kf q p e s m args below meth c H locs cells slots mc ms ls C hR hlocs hl hc hs)
theorem mw_if_ne {x : Int32} {off : Int} {tgt : Nat} (hd : decode M.2.1 pc = .ok (.ifCond .ne off, 3)) (ht : (pc : Int) + off = (tgt : Int)) (kt : ¬ x = 0 → mw_W E M d Q X bc bs tgt lo st h) (kf : x = 0 → mw_W E M d Q X bc bs (pc + 3) lo st h) : mw_W E M d Q X bc bs pc lo (.int x :: st) h := by
  intro p e s m args below meth c H locs cells slots mc ms ls C hR hlocs hl hc hs
  exact lv_if_ne C.1 C.2.1 hd ht (fun q => kt q p e s m args below meth c H locs cells slots mc ms ls C hR hlocs hl hc hs) (fun q => kf q p e s m args below meth c H locs cells slots mc ms ls C hR hlocs hl hc hs)
theorem mw_icmp_ne {x y : Int32} {off : Int} {tgt : Nat} (hd : decode M.2.1 pc = .ok (.if_icmp .ne off, 3)) (ht : (pc : Int) + off = (tgt : Int)) (kt : ¬ x = y → mw_W E M d Q X bc bs tgt lo st h) (kf : x = y → mw_W E M d Q X bc bs (pc + 3) lo st h) : mw_W E M d Q X bc bs pc lo (.int y :: .int x :: st) h := by
  intro p e s m args below meth c H locs cells slots mc ms ls C hR hlocs hl hc hs
  exact lv_icmp_ne C.1 C.2.1 hd ht (fun q => kt q p e s m args below meth c H locs cells slots mc ms ls C hR hlocs hl hc hs) (fun q => kf q p e s m args below meth c H locs cells slots mc ms ls C hR hlocs hl hc hs)
theorem mw_if_lt {x : Int32} {off : Int} {tgt : Nat} (hd : decode M.2.1 pc = .ok (.ifCond .lt off, 3)) (ht : (pc : Int) + off = (tgt : Int)) (kt : x < 0 → mw_W E M d Q X bc bs tgt lo st h) (kf : ¬ x < 0 → mw_W E M d Q X bc bs (pc + 3) lo st h) : mw_W E M d Q X bc bs pc lo (.int x :: st) h := by
  intro p e s m args below meth c H locs cells slots mc ms ls C hR hlocs hl hc hs
  exact lv_if_lt C.1 C.2.1 hd ht (fun q => kt q p e s m args below meth c H locs cells slots mc ms ls C hR hlocs hl hc hs) (fun q => kf q p e s m args below meth c H locs cells slots mc ms ls C hR hlocs hl hc hs)
theorem mw_icmp_lt {x y : Int32} {off : Int} {tgt : Nat} (hd : decode M.2.1 pc = .ok (.if_icmp .lt off, 3)) (ht : (pc : Int) + off = (tgt : Int)) (kt : x < y → mw_W E M d Q X bc bs tgt lo st h) (kf : ¬ x < y → mw_W E M d Q X bc bs (pc + 3) lo st h) : mw_W E M d Q X bc bs pc lo (.int y :: .int x :: st) h := by
  intro p e s m args below meth c H locs cells slots mc ms ls C hR hlocs hl hc hs
  exact lv_icmp_lt C.1 C.2.1 hd ht (fun q => kt q p e s m args below meth c H locs cells slots mc ms ls C hR hlocs hl hc hs) (fun q => kf q p e s m args below meth c H locs cells slots mc ms ls C hR hlocs hl hc hs)
theorem mw_if_ge {x : Int32} {off : Int} {tgt : Nat} (hd : decode M.2.1 pc = .ok (.ifCond .ge off, 3)) (ht : (pc : Int) + off = (tgt : Int)) (kt : 0 ≤ x → mw_W E M d Q X bc bs tgt lo st h) (kf : ¬ 0 ≤ x → mw_W E M d Q X bc bs (pc + 3) lo st h) : mw_W E M d Q X bc bs pc lo (.int x :: st) h := by
  intro p e s m args below meth c H locs cells slots mc ms ls C hR hlocs hl hc hs
  exact lv_if_ge C.1 C.2.1 hd ht (fun q => kt q p e s m args below meth c H locs cells slots mc ms ls C hR hlocs hl hc hs) (fun q => kf q p e s m args below meth c H locs cells slots mc ms ls C hR hlocs hl hc hs)
theorem mw_icmp_ge {x y : Int32} {off : Int} {tgt : Nat} (hd : decode M.2.1 pc = .ok (.if_icmp .ge off, 3)) (ht : (pc : Int) + off = (tgt : Int)) (kt : y ≤ x → mw_W E M d Q X bc bs tgt lo st h) (kf : ¬ y ≤ x → mw_W E M d Q X bc bs (pc + 3) lo st h) : mw_W E M d Q X bc bs pc lo (.int y :: .int x :: st) h := by
  intro p e s m args below meth c H locs cells slots mc ms ls C hR hlocs hl hc hs
  exact lv_icmp_ge C.1 C.2.1 hd ht (fun q => kt q p e s m args below meth c H locs cells slots mc ms ls C hR hlocs hl hc hs) (fun q => kf q p e s m args below meth c H locs cells slots mc ms ls C hR hlocs hl hc hs)
theorem mw_if_gt {x : Int32} {off : Int} {tgt : Nat} (hd : decode M.2.1 pc = .ok (.ifCond .gt off, 3)) (ht : (pc : Int) + off = (tgt : Int)) (kt : 0 < x → mw_W E M d Q X bc bs tgt lo st h) (kf : ¬ 0 < x → mw_W E M d Q X bc bs (pc + 3) lo st h) : mw_W E M d Q X bc bs pc lo (.int x :: st) h := by
  intro p e s m args below meth c H locs cells slots mc ms ls C hR hlocs hl hc hs
  exact lv_if_gt C.1 C.2.1 hd ht (fun q => kt q p e s m args below meth c H locs cells slots mc ms ls C hR hlocs hl hc hs) (fun q => kf q p e s m args below meth c H locs cells slots mc ms ls C hR hlocs hl hc hs)
theorem mw_icmp_gt {x y : Int32} {off : Int} {tgt : Nat} (hd : decode M.2.1 pc = .ok (.if_icmp .gt off, 3)) (ht : (pc : Int) + off = (tgt : Int)) (kt : y < x → mw_W E M d Q X bc bs tgt lo st h) (kf : ¬ y < x → mw_W E M d Q X bc bs (pc + 3) lo st h) : mw_W E M d Q X bc bs pc lo (.int y :: .int x :: st) h := by
  intro p e s m args below meth c H locs cells slots mc ms ls C hR hlocs hl hc hs
  exact lv_icmp_gt C.1 C.2.1 hd ht (fun q => kt q p e s m args below meth c H locs cells slots mc ms ls C hR hlocs hl hc hs) (fun q => kf q p e s m args below meth c H locs cells slots mc ms ls C hR hlocs hl hc hs)
theorem mw_if_le {x : Int32} {off : Int} {tgt : Nat} (hd : decode M.2.1 pc = .ok (.ifCond .le off, 3)) (ht : (pc : Int) + off = (tgt : Int)) (kt : x ≤ 0 → mw_W E M d Q X bc bs tgt lo st h) (kf : ¬ x ≤ 0 → mw_W E M d Q X bc bs (pc + 3) lo st h) : mw_W E M d Q X bc bs pc lo (.int x :: st) h := by
  intro p e s m args below meth c H locs cells slots mc ms ls C hR hlocs hl hc hs
  exact lv_if_le C.1 C.2.1 hd ht (fun q => kt q p e s m args below meth c H locs cells slots mc ms ls C hR hlocs hl hc hs) (fun q => kf q p e s m args below meth c H locs cells slots mc ms ls C hR hlocs hl hc hs)
theorem mw_icmp_le {x y : Int32} {off : Int} {tgt : Nat} (hd : decode M.2.1 pc = .ok (.if_icmp .le off, 3)) (ht : (pc : Int) + off = (tgt : Int)) (kt : x ≤ y → mw_W E M d Q X bc bs tgt lo st h) (kf : ¬ x ≤ y → mw_W E M d Q X bc bs (pc + 3) lo st h) : mw_W E M d Q X bc bs pc lo (.int y :: .int x :: st) h := by
  intro p e s m args below meth c H locs cells slots mc ms ls C hR hlocs hl hc hs
  exact lv_icmp_le C.1 C.2.1 hd ht (fun q => kt q p e s m args below meth c H locs cells slots mc ms ls C hR hlocs hl hc hs) (fun q => kf q p e s m args below meth c H locs cells slots mc ms ls C hR hlocs hl hc hs)
theorem mw_tabIn {dflt a b : Int} {offs : Array Int} {len : Nat} {x : Int32} {off : Int} {tgt : Nat} (hd : decode M.2.1 pc = .ok (.tableswitch dflt a b offs, len)) (h1 : ¬ x.toInt < a) (h2 : ¬ b < x.toInt) (ho : offs[(x.toInt - a).toNat]? = some off) (ht : (pc : Int) + off = (tgt : Int)) (k : mw_W E M d Q X bc bs tgt lo st h) : mw_W E M d Q X bc bs pc lo (.int x :: st) h := by
  intro p e s m args below meth c H locs cells slots mc ms ls C hR hlocs hl hc hs
  exact lv_tableIn C.1 C.2.1 hd h1 h2 ho ht (k p e s m args below meth c H locs cells slots mc ms ls C hR hlocs hl hc hs)
theorem mw_tabOut {dflt a b : Int} {offs : Array Int} {len : Nat} {x : Int32} {tgt : Nat} (hd : decode M.2.1 pc = .ok (.tableswitch dflt a b offs, len)) (h1 : x.toInt < a ∨ b < x.toInt) (ht : (pc : Int) + dflt = (tgt : Int)) (k : mw_W E M d Q X bc bs tgt lo st h) : mw_W E M d Q X bc bs pc lo (.int x :: st) h := by
  intro p e s m args below meth c H locs cells slots mc ms ls C hR hlocs hl hc hs
  exact lv_tableOut C.1 C.2.1 hd h1 ht (k p e s m args below meth c H locs cells slots mc ms ls C hR hlocs hl hc hs)
/-- no long just below -/
def mw_c1 (o : Option Value) : Bool := match o with | some (.long _) => false | some (.double _) => false | _ => true
theorem mw_c1_spec {o : Option Value} (h : mw_c1 o = true) {w : Value} (e : o = some w) : ¬ w.category = 2 := by
  subst e
  cases w <;> simp_all [mw_c1, Value.category]
theorem mw_pv {lo : List (Option Value)} {i : Nat} {o : Option Value} (hlo : lo[i]? = some o) (hp : mw_c1 o = true) : ∀ (j : Nat) (w : Value), j + 1 = i + 1 → lo[j]? = some (some w) → ¬ w.category = 2 := by
  intro j w e1 e2
  obtain rfl : j = i := by omega
  rw [hlo] at e2
  exact mw_c1_spec hp (Option.some.inj e2)
theorem mw_iload0 {x : Int32} {t : List (Option Value)} (hd : decode M.2.1 pc = .ok (.iload_n 0, 1)) (k : mw_W E M d Q X bc bs (pc + 1) (some (.int x) :: t) (.int x :: st) h) : mw_W E M d Q X bc bs pc (some (.int x) :: t) st h := by
  intro p e s m args below meth c H locs cells slots mc ms ls C hR hlocs hl hc hs
  exact lv_iload_n C.1 C.2.1 hd rfl (hl.2.2 0 (.int x) rfl) (k p e s m args below meth c H locs cells slots mc ms ls C hR hlocs hl hc hs)
theorem mw_istore0 {o : Option Value} {x : Int32} {t : List (Option Value)} (hd : decode M.2.1 pc = .ok (.istore_n 0, 1)) (hn : 0 < M.2.2.1) (k : mw_W E M d Q X bc bs (pc + 1) (some (.int x) :: t) st h) : mw_W E M d Q X bc bs pc (o :: t) (.int x :: st) h := by
  intro p e s m args below meth c H locs cells slots mc ms ls C hR hlocs hl hc hs
  exact lv_istore_n C.1 C.2.1 hd rfl hl.has hn rfl (fun ls' h' => k p e s m args below meth c H locs cells slots mc ms ls' C hR hlocs (mw_lv.st1 (i := 0) (fun j w e1 e2 => absurd e1 (Nat.succ_ne_zero j)) h') hc hs)
theorem mw_lload0 {x : Int64} {t : List (Option Value)} (hd : decode M.2.1 pc = .ok (.lload_n 0, 1)) (k : mw_W E M d Q X bc bs (pc + 1) (some (.long x) :: t) (.long x :: st) h) : mw_W E M d Q X bc bs pc (some (.long x) :: t) st h := by
  intro p e s m args below meth c H locs cells slots mc ms ls C hR hlocs hl hc hs
  exact lv_lload_n C.1 C.2.1 hd rfl (hl.2.2 0 (.long x) rfl) (k p e s m args below meth c H locs cells slots mc ms ls C hR hlocs hl hc hs)
theorem mw_lstore0 {o o2 : Option Value} {x : Int64} {t : List (Option Value)} (hd : decode M.2.1 pc = .ok (.lstore_n 0, 1)) (hn : 1 < M.2.2.1) (k : mw_W E M d Q X bc bs (pc + 1) (some (.long x) :: none :: t) st h) : mw_W E M d Q X bc bs pc (o :: o2 :: t) (.long x :: st) h := by
  intro p e s m args below meth c H locs cells slots mc ms ls C hR hlocs hl hc hs
  exact lv_lstore_n C.1 C.2.1 hd rfl hl.has hn rfl (fun ls' h' => k p e s m args below meth c H locs cells slots mc ms ls' C hR hlocs (mw_lv.st2 (i := 0) (fun j w e1 e2 => absurd e1 (Nat.succ_ne_zero j)) h') hc hs)
theorem mw_aload0 {x : Nat} {t : List (Option Value)} (hd : decode M.2.1 pc = .ok (.aload_n 0, 1)) (k : mw_W E M d Q X bc bs (pc + 1) (some (.ref x) :: t) (.ref x :: st) h) : mw_W E M d Q X bc bs pc (some (.ref x) :: t) st h := by
  intro p e s m args below meth c H locs cells slots mc ms ls C hR hlocs hl hc hs
  exact lv_aload_n C.1 C.2.1 hd rfl (hl.2.2 0 (.ref x) rfl) (k p e s m args below meth c H locs cells slots mc ms ls C hR hlocs hl hc hs)
theorem mw_astore0 {o : Option Value} {x : Nat} {t : List (Option Value)} (hd : decode M.2.1 pc = .ok (.astore_n 0, 1)) (hn : 0 < M.2.2.1) (k : mw_W E M d Q X bc bs (pc + 1) (some (.ref x) :: t) st h) : mw_W E M d Q X bc bs pc (o :: t) (.ref x :: st) h := by
  intro p e s m args below meth c H locs cells slots mc ms ls C hR hlocs hl hc hs
  exact lv_astore_n C.1 C.2.1 hd rfl hl.has hn rfl (fun ls' h' => k p e s m args below meth c H locs cells slots mc ms ls' C hR hlocs (mw_lv.st1 (i := 0) (fun j w e1 e2 => absurd e1 (Nat.succ_ne_zero j)) h') hc hs)
theorem mw_iinc0 {n : Int} {x : Int32} {t : List (Option Value)} (hd : decode M.2.1 pc = .ok (.iinc 0 n, 3)) (hn : 0 < M.2.2.1) (k : mw_W E M d Q X bc bs (pc + 3) (some (.int (x + Int32.ofInt n)) :: t) st h) : mw_W E M d Q X bc bs pc (some (.int x) :: t) st h := by
  intro p e s m args below meth c H locs cells slots mc ms ls C hR hlocs hl hc hs
  obtain ⟨q, hq⟩ := List.getElem?_of_mem (mw_pr_mem.mpr (show (some (.int x) :: t)[0]? = some (some (.int x)) from rfl))
  exact lv_iinc C.1 C.2.1 hd hl.has hq rfl hn rfl (fun ls' h' => k p e s m args below meth c H locs cells slots mc ms ls' C hR hlocs (mw_lv.st1 (i := 0) (fun j w e1 e2 => absurd e1 (Nat.succ_ne_zero j)) h') hc hs)
theorem mw_iload1 {a0 : Option Value} {x : Int32} {t : List (Option Value)} (hd : decode M.2.1 pc = .ok (.iload_n 1, 1)) (k : mw_W E M d Q X bc bs (pc + 1) (a0 :: some (.int x) :: t) (.int x :: st) h) : mw_W E M d Q X bc bs pc (a0 :: some (.int x) :: t) st h := by
  intro p e s m args below meth c H locs cells slots mc ms ls C hR hlocs hl hc hs
  exact lv_iload_n C.1 C.2.1 hd rfl (hl.2.2 1 (.int x) rfl) (k p e s m args below meth c H locs cells slots mc ms ls C hR hlocs hl hc hs)
theorem mw_istore1 {a0 : Option Value} {o : Option Value} {x : Int32} {t : List (Option Value)} (hd : decode M.2.1 pc = .ok (.istore_n 1, 1)) (hp : mw_c1 a0 = true) (hn : 1 < M.2.2.1) (k : mw_W E M d Q X bc bs (pc + 1) (a0 :: some (.int x) :: t) st h) : mw_W E M d Q X bc bs pc (a0 :: o :: t) (.int x :: st) h := by
  intro p e s m args below meth c H locs cells slots mc ms ls C hR hlocs hl hc hs
  exact lv_istore_n C.1 C.2.1 hd rfl hl.has hn rfl (fun ls' h' => k p e s m args below meth c H locs cells slots mc ms ls' C hR hlocs (mw_lv.st1 (i := 1) (mw_pv (i := 0) rfl hp) h') hc hs)
theorem mw_lload1 {a0 : Option Value} {x : Int64} {t : List (Option Value)} (hd : decode M.2.1 pc = .ok (.lload_n 1, 1)) (k : mw_W E M d Q X bc bs (pc + 1) (a0 :: some (.long x) :: t) (.long x :: st) h) : mw_W E M d Q X bc bs pc (a0 :: some (.long x) :: t) st h := by
  intro p e s m args below meth c H locs cells slots mc ms ls C hR hlocs hl hc hs
  exact lv_lload_n C.1 C.2.1 hd rfl (hl.2.2 1 (.long x) rfl) (k p e s m args below meth c H locs cells slots mc ms ls C hR hlocs hl hc hs)
theorem mw_lstore1 {a0 : Option Value} {o o2 : Option Value} {x : Int64} {t : List (Option Value)} (hd : decode M.2.1 pc = .ok (.lstore_n 1, 1)) (hp : mw_c1 a0 = true) (hn : 2 < M.2.2.1) (k : mw_W E M d Q X bc bs (pc + 1) (a0 :: some (.long x) :: none :: t) st h) : mw_W E M d Q X bc bs pc (a0 :: o :: o2 :: t) (.long x :: st) h := by
  intro p e s m args below meth c H locs cells slots mc ms ls C hR hlocs hl hc hs
  exact lv_lstore_n C.1 C.2.1 hd rfl hl.has hn rfl (fun ls' h' => k p e s m args below meth c H locs cells slots mc ms ls' C hR hlocs (mw_lv.st2 (i := 1) (mw_pv (i := 0) rfl hp) h') hc hs)
theorem mw_aload1 {a0 : Option Value} {x : Nat} {t : List (Option Value)} (hd : decode M.2.1 pc = .ok (.aload_n 1, 1)) (k : mw_W E M d Q X bc bs (pc + 1) (a0 :: some (.ref x) :: t) (.ref x :: st) h) : mw_W E M d Q X bc bs pc (a0 :: some (.ref x) :: t) st h := by
  intro p e s m args below meth c H locs cells slots mc ms ls C hR hlocs hl hc hs
  exact lv_aload_n C.1 C.2.1 hd rfl (hl.2.2 1 (.ref x) rfl) (k p e s m args below meth c H locs cells slots mc ms ls C hR hlocs hl hc hs)
theorem mw_astore1 {a0 : Option Value} {o : Option Value} {x : Nat} {t : List (Option Value)} (hd : decode M.2.1 pc = .ok (.astore_n 1, 1)) (hp : mw_c1 a0 = true) (hn : 1 < M.2.2.1) (k : mw_W E M d Q X bc bs (pc + 1) (a0 :: some (.ref x) :: t) st h) : mw_W E M d Q X bc bs pc (a0 :: o :: t) (.ref x :: st) h := by
  intro p e s m args below meth c H locs cells slots mc ms ls C hR hlocs hl hc hs
  exact lv_astore_n C.1 C.2.1 hd rfl hl.has hn rfl (fun ls' h' => k p e s m args below meth c H locs cells slots mc ms ls' C hR hlocs (mw_lv.st1 (i := 1) (mw_pv (i := 0) rfl hp) h') hc hs)
theorem mw_iinc1 {a0 : Option Value} {n : Int} {x : Int32} {t : List (Option Value)} (hd : decode M.2.1 pc = .ok (.iinc 1 n, 3)) (hp : mw_c1 a0 = true) (hn : 1 < M.2.2.1) (k : mw_W E M d Q X bc bs (pc + 3) (a0 :: some (.int (x + Int32.ofInt n)) :: t) st h) : mw_W E M d Q X bc bs pc (a0 :: some (.int x) :: t) st h := by
  intro p e s m args below meth c H locs cells slots mc ms ls C hR hlocs hl hc hs
  obtain ⟨q, hq⟩ := List.getElem?_of_mem (mw_pr_mem.mpr (show (a0 :: some (.int x) :: t)[1]? = some (some (.int x)) from rfl))
  exact lv_iinc C.1 C.2.1 hd hl.has hq rfl hn rfl (fun ls' h' => k p e s m args below meth c H locs cells slots mc ms ls' C hR hlocs (mw_lv.st1 (i := 1) (mw_pv (i := 0) rfl hp) h') hc hs)
theorem mw_iload2 {a0 a1 : Option Value} {x : Int32} {t : List (Option Value)} (hd : decode M.2.1 pc = .ok (.iload_n 2, 1)) (k : mw_W E M d Q X bc bs (pc + 1) (a0 :: a1 :: some (.int x) :: t) (.int x :: st) h) : mw_W E M d Q X bc bs pc (a0 :: a1 :: some (.int x) :: t) st h := by
  intro p e s m args below meth c H locs cells slots mc ms ls C hR hlocs hl hc hs
  exact lv_iload_n C.1 C.2.1 hd rfl (hl.2.2 2 (.int x) rfl) (k p e s m args below meth c H locs cells slots mc ms ls C hR hlocs hl hc hs)
theorem mw_istore2 {a0 a1 : Option Value} {o : Option Value} {x : Int32} {t : List (Option Value)} (hd : decode M.2.1 pc = .ok (.istore_n 2, 1)) (hp : mw_c1 a1 = true) (hn : 2 < M.2.2.1) (k : mw_W E M d Q X bc bs (pc + 1) (a0 :: a1 :: some (.int x) :: t) st h) : mw_W E M d Q X bc bs pc (a0 :: a1 :: o :: t) (.int x :: st) h := by
  intro p e s m args below meth c H locs cells slots mc ms ls C hR hlocs hl hc hs
  exact lv_istore_n C.1 C.2.1 hd rfl hl.has hn rfl (fun ls' h' => k p e s m args below meth c H locs cells slots mc ms ls' C hR hlocs (mw_lv.st1 (i := 2) (mw_pv (i := 1) rfl hp) h') hc hs)
theorem mw_lload2 {a0 a1 : Option Value} {x : Int64} {t : List (Option Value)} (hd : decode M.2.1 pc = .ok (.lload_n 2, 1)) (k : mw_W E M d Q X bc bs (pc + 1) (a0 :: a1 :: some (.long x) :: t) (.long x :: st) h) : mw_W E M d Q X bc bs pc (a0 :: a1 :: some (.long x) :: t) st h := by
  intro p e s m args below meth c H locs cells slots mc ms ls C hR hlocs hl hc hs
  exact lv_lload_n C.1 C.2.1 hd rfl (hl.2.2 2 (.long x) rfl) (k p e s m args below meth c H locs cells slots mc ms ls C hR hlocs hl hc hs)
theorem mw_lstore2 {a0 a1 : Option Value} {o o2 : Option Value} {x : Int64} {t : List (Option Value)} (hd : decode M.2.1 pc = .ok (.lstore_n 2, 1)) (hp : mw_c1 a1 = true) (hn : 3 < M.2.2.1) (k : mw_W E M d Q X bc bs (pc + 1) (a0 :: a1 :: some (.long x) :: none :: t) st h) : mw_W E M d Q X bc bs pc (a0 :: a1 :: o :: o2 :: t) (.long x :: st) h := by
  intro p e s m args below meth c H locs cells slots mc ms ls C hR hlocs hl hc hs
  exact lv_lstore_n C.1 C.2.1 hd rfl hl.has hn rfl (fun ls' h' => k p e s m args below meth c H locs cells slots mc ms ls' C hR hlocs (mw_lv.st2 (i := 2) (mw_pv (i := 1) rfl hp) h') hc hs)
theorem mw_aload2 {a0 a1 : Option Value} {x : Nat} {t : List (Option Value)} (hd : decode M.2.1 pc = .ok (.aload_n 2, 1)) (k : mw_W E M d Q X bc bs (pc + 1) (a0 :: a1 :: some (.ref x) :: t) (.ref x :: st) h) : mw_W E M d Q X bc bs pc (a0 :: a1 :: some (.ref x) :: t) st h := by
  intro p e s m args below meth c H locs cells slots mc ms ls C hR hlocs hl hc hs
  exact lv_aload_n C.1 C.2.1 hd rfl (hl.2.2 2 (.ref x) rfl) (k p e s m args below meth c H locs cells slots mc ms ls C hR hlocs hl hc hs)
theorem mw_astore2 {a0 a1 : Option Value} {o : Option Value} {x : Nat} {t : List (Option Value)} (hd : decode M.2.1 pc = .ok (.astore_n 2, 1)) (hp : mw_c1 a1 = true) (hn : 2 < M.2.2.1) (k : mw_W E M d Q X bc bs (pc + 1) (a0 :: a1 :: some (.ref x) :: t) st h) : mw_W E M d Q X bc bs pc (a0 :: a1 :: o :: t) (.ref x :: st) h := by
  intro p e s m args below meth c H locs cells slots mc ms ls C hR hlocs hl hc hs
  exact lv_astore_n C.1 C.2.1 hd rfl hl.has hn rfl (fun ls' h' => k p e s m args below meth c H locs cells slots mc ms ls' C hR hlocs (mw_lv.st1 (i := 2) (mw_pv (i := 1) rfl hp) h') hc hs)
theorem mw_iinc2 {a0 a1 : Option Value} {n : Int} {x : Int32} {t : List (Option Value)} (hd : decode M.2.1 pc = .ok (.iinc 2 n, 3)) (hp : mw_c1 a1 = true) (hn : 2 < M.2.2.1) (k : mw_W E M d Q X bc bs (pc + 3) (a0 :: a1 :: some (.int (x + Int32.ofInt n)) :: t) st h) : mw_W E M d Q X bc bs pc (a0 :: a1 :: some (.int x) :: t) st h := by
  intro p e s m args below meth c H locs cells slots mc ms ls C hR hlocs hl hc hs
  obtain ⟨q, hq⟩ := List.getElem?_of_mem (mw_pr_mem.mpr (show (a0 :: a1 :: some (.int x) :: t)[2]? = some (some (.int x)) from rfl))
  exact lv_iinc C.1 C.2.1 hd hl.has hq rfl hn rfl (fun ls' h' => k p e s m args below meth c H locs cells slots mc ms ls' C hR hlocs (mw_lv.st1 (i := 2) (mw_pv (i := 1) rfl hp) h') hc hs)
theorem mw_iload3 {a0 a1 a2 : Option Value} {x : Int32} {t : List (Option Value)} (hd : decode M.2.1 pc = .ok (.iload_n 3, 1)) (k : mw_W E M d Q X bc bs (pc + 1) (a0 :: a1 :: a2 :: some (.int x) :: t) (.int x :: st) h) : mw_W E M d Q X bc bs pc (a0 :: a1 :: a2 :: some (.int x) :: t) st h := by
  intro p e s m args below meth c H locs cells slots mc ms ls C hR hlocs hl hc hs
  exact lv_iload_n C.1 C.2.1 hd rfl (hl.2.2 3 (.int x) rfl) (k p e s m args below meth c H locs cells slots mc ms ls C hR hlocs hl hc hs)
theorem mw_istore3 {a0 a1 a2 : Option Value} {o : Option Value} {x : Int32} {t : List (Option Value)} (hd : decode M.2.1 pc = .ok (.istore_n 3, 1)) (hp : mw_c1 a2 = true) (hn : 3 < M.2.2.1) (k : mw_W E M d Q X bc bs (pc + 1) (a0 :: a1 :: a2 :: some (.int x) :: t) st h) : mw_W E M d Q X bc bs pc (a0 :: a1 :: a2 :: o :: t) (.int x :: st) h := by
  intro p e s m args below meth c H locs cells slots mc ms ls C hR hlocs hl hc hs
  exact lv_istore_n C.1 C.2.1 hd rfl hl.has hn rfl (fun ls' h' => k p e s m args below meth c H locs cells slots mc ms ls' C hR hlocs (mw_lv.st1 (i := 3) (mw_pv (i := 2) rfl hp) h') hc hs)
theorem mw_lload3 {a0 a1 a2 : Option Value} {x : Int64} {t : List (Option Value)} (hd : decode M.2.1 pc = .ok (.lload_n 3, 1)) (k : mw_W E M d Q X bc bs (pc + 1) (a0 :: a1 :: a2 :: some (.long x) :: t) (.long x :: st) h) : mw_W E M d Q X bc bs pc (a0 :: a1 :: a2 :: some (.long x) :: t) st h := by
  intro p e s m args below meth c H locs cells slots mc ms ls C hR hlocs hl hc hs
  exact lv_lload_n C.1 C.2.1 hd rfl (hl.2.2 3 (.long x) rfl) (k p e s m args below meth c H locs cells slots mc ms ls C hR hlocs hl hc hs)
theorem mw_lstore3 {a0 a1 a2 : Option Value} {o o2 : Option Value} {x : Int64} {t : List (Option Value)} (hd : decode M.2.1 pc = .ok (.lstore_n 3, 1)) (hp : mw_c1 a2 = true) (hn : 4 < M.2.2.1) (k : mw_W E M d Q X bc bs (pc + 1) (a0 :: a1 :: a2 :: some (.long x) :: none :: t) st h) : mw_W E M d Q X bc bs pc (a0 :: a1 :: a2 :: o :: o2 :: t) (.long x :: st) h := by
  intro p e s m args below meth c H locs cells slots mc ms ls C hR hlocs hl hc hs
  exact lv_lstore_n C.1 C.2.1 hd rfl hl.has hn rfl (fun ls' h' => k p e s m args below meth c H locs cells slots mc ms ls' C hR hlocs (mw_lv.st2 (i := 3) (mw_pv (i := 2) rfl hp) h') hc hs)
theorem mw_aload3 {a0 a1 a2 : Option Value} {x : Nat} {t : List (Option Value)} (hd : decode M.2.1 pc = .ok (.aload_n 3, 1)) (k : mw_W E M d Q X bc bs (pc + 1) (a0 :: a1 :: a2 :: some (.ref x) :: t) (.ref x :: st) h) : mw_W E M d Q X bc bs pc (a0 :: a1 :: a2 :: some (.ref x) :: t) st h := by
  intro p e s m args below meth c H locs cells slots mc ms ls C hR hlocs hl hc hs
  exact lv_aload_n C.1 C.2.1 hd rfl (hl.2.2 3 (.ref x) rfl) (k p e s m args below meth c H locs cells slots mc ms ls C hR hlocs hl hc hs)
theorem mw_astore3 {a0 a1 a2 : Option Value} {o : Option Value} {x : Nat} {t : List (Option Value)} (hd : decode M.2.1 pc = .ok (.astore_n 3, 1)) (hp : mw_c1 a2 = true) (hn : 3 < M.2.2.1) (k : mw_W E M d Q X bc bs (pc + 1) (a0 :: a1 :: a2 :: some (.ref x) :: t) st h) : mw_W E M d Q X bc bs pc (a0 :: a1 :: a2 :: o :: t) (.ref x :: st) h := by
  intro p e s m args below meth c H locs cells slots mc ms ls C hR hlocs hl hc hs
  exact lv_astore_n C.1 C.2.1 hd rfl hl.has hn rfl (fun ls' h' => k p e s m args below meth c H locs cells slots mc ms ls' C hR hlocs (mw_lv.st1 (i := 3) (mw_pv (i := 2) rfl hp) h') hc hs)
theorem mw_iinc3 {a0 a1 a2 : Option Value} {n : Int} {x : Int32} {t : List (Option Value)} (hd : decode M.2.1 pc = .ok (.iinc 3 n, 3)) (hp : mw_c1 a2 = true) (hn : 3 < M.2.2.1) (k : mw_W E M d Q X bc bs (pc + 3) (a0 :: a1 :: a2 :: some (.int (x + Int32.ofInt n)) :: t) st h) : mw_W E M d Q X bc bs pc (a0 :: a1 :: a2 :: some (.int x) :: t) st h := by
  intro p e s m args below meth c H locs cells slots mc ms ls C hR hlocs hl hc hs
  obtain ⟨q, hq⟩ := List.getElem?_of_mem (mw_pr_mem.mpr (show (a0 :: a1 :: a2 :: some (.int x) :: t)[3]? = some (some (.int x)) from rfl))
  exact lv_iinc C.1 C.2.1 hd hl.has hq rfl hn rfl (fun ls' h' => k p e s m args below meth c H locs cells slots mc ms ls' C hR hlocs (mw_lv.st1 (i := 3) (mw_pv (i := 2) rfl hp) h') hc hs)
theorem mw_iload4 {a0 a1 a2 a3 : Option Value} {x : Int32} {t : List (Option Value)} (hd : decode M.2.1 pc = .ok (.iload 4, 2)) (k : mw_W E M d Q X bc bs (pc + 2) (a0 :: a1 :: a2 :: a3 :: some (.int x) :: t) (.int x :: st) h) : mw_W E M d Q X bc bs pc (a0 :: a1 :: a2 :: a3 :: some (.int x) :: t) st h := by
  intro p e s m args below meth c H locs cells slots mc ms ls C hR hlocs hl hc hs
  exact lv_iload C.1 C.2.1 hd (hl.2.2 4 (.int x) rfl) (k p e s m args below meth c H locs cells slots mc ms ls C hR hlocs hl hc hs)
theorem mw_istore4 {a0 a1 a2 a3 : Option Value} {o : Option Value} {x : Int32} {t : List (Option Value)} (hd : decode M.2.1 pc = .ok (.istore 4, 2)) (hp : mw_c1 a3 = true) (hn : 4 < M.2.2.1) (k : mw_W E M d Q X bc bs (pc + 2) (a0 :: a1 :: a2 :: a3 :: some (.int x) :: t) st h) : mw_W E M d Q X bc bs pc (a0 :: a1 :: a2 :: a3 :: o :: t) (.int x :: st) h := by
  intro p e s m args below meth c H locs cells slots mc ms ls C hR hlocs hl hc hs
  exact lv_istore C.1 C.2.1 hd hl.has hn rfl (fun ls' h' => k p e s m args below meth c H locs cells slots mc ms ls' C hR hlocs (mw_lv.st1 (i := 4) (mw_pv (i := 3) rfl hp) h') hc hs)
theorem mw_lload4 {a0 a1 a2 a3 : Option Value} {x : Int64} {t : List (Option Value)} (hd : decode M.2.1 pc = .ok (.lload 4, 2)) (k : mw_W E M d Q X bc bs (pc + 2) (a0 :: a1 :: a2 :: a3 :: some (.long x) :: t) (.long x :: st) h) : mw_W E M d Q X bc bs pc (a0 :: a1 :: a2 :: a3 :: some (.long x) :: t) st h := by
  intro p e s m args below meth c H locs cells slots mc ms ls C hR hlocs hl hc hs
  exact lv_lload C.1 C.2.1 hd (hl.2.2 4 (.long x) rfl) (k p e s m args below meth c H locs cells slots mc ms ls C hR hlocs hl hc hs)
theorem mw_lstore4 {a0 a1 a2 a3 : Option Value} {o o2 : Option Value} {x : Int64} {t : List (Option Value)} (hd : decode M.2.1 pc = .ok (.lstore 4, 2)) (hp : mw_c1 a3 = true) (hn : 5 < M.2.2.1) (k : mw_W E M d Q X bc bs (pc + 2) (a0 :: a1 :: a2 :: a3 :: some (.long x) :: none :: t) st h) : mw_W E M d Q X bc bs pc (a0 :: a1 :: a2 :: a3 :: o :: o2 :: t) (.long x :: st) h := by
  intro p e s m args below meth c H locs cells slots mc ms ls C hR hlocs hl hc hs
  exact lv_lstore C.1 C.2.1 hd hl.has hn rfl (fun ls' h' => k p e s m args below meth c H locs cells slots mc ms ls' C hR hlocs (mw_lv.st2 (i := 4) (mw_pv (i := 3) rfl hp) h') hc hs)
theorem mw_aload4 {a0 a1 a2 a3 : Option Value} {x : Nat} {t : List (Option Value)} (hd : decode M.2.1 pc = .ok (.aload 4, 2)) (k : mw_W E M d Q X bc bs (pc + 2) (a0 :: a1 :: a2 :: a3 :: some (.ref x) :: t) (.ref x :: st) h) : mw_W E M d Q X bc bs pc (a0 :: a1 :: a2 :: a3 :: some (.ref x) :: t) st h := by
  intro p e s m args below meth c H locs cells slots mc ms ls C hR hlocs hl hc hs
  exact lv_aload C.1 C.2.1 hd (hl.2.2 4 (.ref x) rfl) (k p e s m args below meth c H locs cells slots mc ms ls C hR hlocs hl hc hs)
theorem mw_astore4 {a0 a1 a2 a3 : Option Value} {o : Option Value} {x : Nat} {t : List (Option Value)} (hd : decode M.2.1 pc = .ok (.astore 4, 2)) (hp : mw_c1 a3 = true) (hn : 4 < M.2.2.1) (k : mw_W E M d Q X bc bs (pc + 2) (a0 :: a1 :: a2 :: a3 :: some (.ref x) :: t) st h) : mw_W E M d Q X bc bs pc (a0 :: a1 :: a2 :: a3 :: o :: t) (.ref x :: st) h := by
  intro p e s m args below meth c H locs cells slots mc ms ls C hR hlocs hl hc hs
  exact lv_astore C.1 C.2.1 hd hl.has hn rfl (fun ls' h' => k p e s m args below meth c H locs cells slots mc ms ls' C hR hlocs (mw_lv.st1 (i := 4) (mw_pv (i := 3) rfl hp) h') hc hs)
theorem mw_iinc4 {a0 a1 a2 a3 : Option Value} {n : Int} {x : Int32} {t : List (Option Value)} (hd : decode M.2.1 pc = .ok (.iinc 4 n, 3)) (hp : mw_c1 a3 = true) (hn : 4 < M.2.2.1) (k : mw_W E M d Q X bc bs (pc + 3) (a0 :: a1 :: a2 :: a3 :: some (.int (x + Int32.ofInt n)) :: t) st h) : mw_W E M d Q X bc bs pc (a0 :: a1 :: a2 :: a3 :: some (.int x) :: t) st h := by
  intro p e s m args below meth c H locs cells slots mc ms ls C hR hlocs hl hc hs
  obtain ⟨q, hq⟩ := List.getElem?_of_mem (mw_pr_mem.mpr (show (a0 :: a1 :: a2 :: a3 :: some (.int x) :: t)[4]? = some (some (.int x)) from rfl))
  exact lv_iinc C.1 C.2.1 hd hl.has hq rfl hn rfl (fun ls' h' => k p e s m args below meth c H locs cells slots mc ms ls' C hR hlocs (mw_lv.st1 (i := 4) (mw_pv (i := 3) rfl hp) h') hc hs)
theorem mw_iload5 {a0 a1 a2 a3 a4 : Option Value} {x : Int32} {t : List (Option Value)} (hd : decode M.2.1 pc = .ok (.iload 5, 2)) (k : mw_W E M d Q X bc bs (pc + 2) (a0 :: a1 :: a2 :: a3 :: a4 :: some (.int x) :: t) (.int x :: st) h) : mw_W E M d Q X bc bs pc (a0 :: a1 :: a2 :: a3 :: a4 :: some (.int x) :: t) st h := by
  intro p e s m args below meth c H locs cells slots mc ms ls C hR hlocs hl hc hs
  exact lv_iload C.1 C.2.1 hd (hl.2.2 5 (.int x) rfl) (k p e s m args below meth c H locs cells slots mc ms ls C hR hlocs hl hc hs)
theorem mw_istore5 {a0 a1 a2 a3 a4 : Option Value} {o : Option Value} {x : Int32} {t : List (Option Value)} (hd : decode M.2.1 pc = .ok (.istore 5, 2)) (hp : mw_c1 a4 = true) (hn : 5 < M.2.2.1) (k : mw_W E M d Q X bc bs (pc + 2) (a0 :: a1 :: a2 :: a3 :: a4 :: some (.int x) :: t) st h) : mw_W E M d Q X bc bs pc (a0 :: a1 :: a2 :: a3 :: a4 :: o :: t) (.int x :: st) h := by
  intro p e s m args below meth c H locs cells slots mc ms ls C hR hlocs hl hc hs
  exact lv_istore C.1 C.2.1 hd hl.has hn rfl (fun ls' h' => k p e s m args below meth c H locs cells slots mc ms ls' C hR hlocs (mw_lv.st1 (i := 5) (mw_pv (i := 4) rfl hp) h') hc hs)
theorem mw_lload5 {a0 a1 a2 a3 a4 : Option Value} {x : Int64} {t : List (Option Value)} (hd : decode M.2.1 pc = .ok (.lload 5, 2)) (k : mw_W E M d Q X bc bs (pc + 2) (a0 :: a1 :: a2 :: a3 :: a4 :: some (.long x) :: t) (.long x :: st) h) : mw_W E M d Q X bc bs pc (a0 :: a1 :: a2 :: a3 :: a4 :: some (.long x) :: t) st h := by
  intro p e s m args below meth c H locs cells slots mc ms ls C hR hlocs hl hc hs
  exact lv_lload C.1 C.2.1 hd (hl.2.2 5 (.long x) rfl) (k p e s m args below meth c H locs cells slots mc ms ls C hR hlocs hl hc hs)
theorem mw_lstore5 {a0 a1 a2 a3 a4 : Option Value} {o o2 : Option Value} {x : Int64} {t : List (Option Value)} (hd : decode M.2.1 pc = .ok (.lstore 5, 2)) (hp : mw_c1 a4 = true) (hn : 6 < M.2.2.1) (k : mw_W E M d Q X bc bs (pc + 2) (a0 :: a1 :: a2 :: a3 :: a4 :: some (.long x) :: none :: t) st h) : mw_W E M d Q X bc bs pc (a0 :: a1 :: a2 :: a3 :: a4 :: o :: o2 :: t) (.long x :: st) h := by
  intro p e s m args below meth c H locs cells slots mc ms ls C hR hlocs hl hc hs
  exact lv_lstore C.1 C.2.1 hd hl.has hn rfl (fun ls' h' => k p e s m args below meth c H locs cells slots mc ms ls' C hR hlocs (mw_lv.st2 (i := 5) (mw_pv (i := 4) rfl hp) h') hc hs)
theorem mw_aload5 {a0 a1 a2 a3 a4 : Option Value} {x : Nat} {t : List (Option Value)} (hd : decode M.2.1 pc = .ok (.aload 5, 2)) (k : mw_W E M d Q X bc bs (pc + 2) (a0 :: a1 :: a2 :: a3 :: a4 :: some (.ref x) :: t) (.ref x :: st) h) : mw_W E M d Q X bc bs pc (a0 :: a1 :: a2 :: a3 :: a4 :: some (.ref x) :: t) st h := by
  intro p e s m args below meth c H locs cells slots mc ms ls C hR hlocs hl hc hs
  exact lv_aload C.1 C.2.1 hd (hl.2.2 5 (.ref x) rfl) (k p e s m args below meth c H locs cells slots mc ms ls C hR hlocs hl hc hs)
theorem mw_astore5 {a0 a1 a2 a3 a4 : Option Value} {o : Option Value} {x : Nat} {t : List (Option Value)} (hd : decode M.2.1 pc = .ok (.astore 5, 2)) (hp : mw_c1 a4 = true) (hn : 5 < M.2.2.1) (k : mw_W E M d Q X bc bs (pc + 2) (a0 :: a1 :: a2 :: a3 :: a4 :: some (.ref x) :: t) st h) : mw_W E M d Q X bc bs pc (a0 :: a1 :: a2 :: a3 :: a4 :: o :: t) (.ref x :: st) h := by
  intro p e s m args below meth c H locs cells slots mc ms ls C hR hlocs hl hc hs
  exact lv_astore C.1 C.2.1 hd hl.has hn rfl (fun ls' h' => k p e s m args below meth c H locs cells slots mc ms ls' C hR hlocs (mw_lv.st1 (i := 5) (mw_pv (i := 4) rfl hp) h') hc hs)
theorem mw_iinc5 {a0 a1 a2 a3 a4 : Option Value} {n : Int} {x : Int32} {t : List (Option Value)} (hd : decode M.2.1 pc = .ok (.iinc 5 n, 3)) (hp : mw_c1 a4 = true) (hn : 5 < M.2.2.1) (k : mw_W E M d Q X bc bs (pc + 3) (a0 :: a1 :: a2 :: a3 :: a4 :: some (.int (x + Int32.ofInt n)) :: t) st h) : mw_W E M d Q X bc bs pc (a0 :: a1 :: a2 :: a3 :: a4 :: some (.int x) :: t) st h := by
  intro p e s m args below meth c H locs cells slots mc ms ls C hR hlocs hl hc hs
  obtain ⟨q, hq⟩ := List.getElem?_of_mem (mw_pr_mem.mpr (show (a0 :: a1 :: a2 :: a3 :: a4 :: some (.int x) :: t)[5]? = some (some (.int x)) from rfl))
  exact lv_iinc C.1 C.2.1 hd hl.has hq rfl hn rfl (fun ls' h' => k p e s m args below meth c H locs cells slots mc ms ls' C hR hlocs (mw_lv.st1 (i := 5) (mw_pv (i := 4) rfl hp) h') hc hs)
theorem mw_iload6 {a0 a1 a2 a3 a4 a5 : Option Value} {x : Int32} {t : List (Option Value)} (hd : decode M.2.1 pc = .ok (.iload 6, 2)) (k : mw_W E M d Q X bc bs (pc + 2) (a0 :: a1 :: a2 :: a3 :: a4 :: a5 :: some (.int x) :: t) (.int x :: st) h) : mw_W E M d Q X bc bs pc (a0 :: a1 :: a2 :: a3 :: a4 :: a5 :: some (.int x) :: t) st h := by
  intro p e s m args below meth c H locs cells slots mc ms ls C hR hlocs hl hc hs
  exact lv_iload C.1 C.2.1 hd (hl.2.2 6 (.int x) rfl) (k p e s m args below meth c H locs cells slots mc ms ls C hR hlocs hl hc hs)
theorem mw_istore6 {a0 a1 a2 a3 a4 a5 : Option Value} {o : Option Value} {x : Int32} {t : List (Option Value)} (hd : decode M.2.1 pc = .ok (.istore 6, 2)) (hp : mw_c1 a5 = true) (hn : 6 < M.2.2.1) (k : mw_W E M d Q X bc bs (pc + 2) (a0 :: a1 :: a2 :: a3 :: a4 :: a5 :: some (.int x) :: t) st h) : mw_W E M d Q X bc bs pc (a0 :: a1 :: a2 :: a3 :: a4 :: a5 :: o :: t) (.int x :: st) h := by
  intro p e s m args below meth c H locs cells slots mc ms ls C hR hlocs hl hc hs
  exact lv_istore C.1 C.2.1 hd hl.has hn rfl (fun ls' h' => k p e s m args below meth c H locs cells slots mc ms ls' C hR hlocs (mw_lv.st1 (i := 6) (mw_pv (i := 5) rfl hp) h') hc hs)
theorem mw_lload6 {a0 a1 a2 a3 a4 a5 : Option Value} {x : Int64} {t : List (Option Value)} (hd : decode M.2.1 pc = .ok (.lload 6, 2)) (k : mw_W E M d Q X bc bs (pc + 2) (a0 :: a1 :: a2 :: a3 :: a4 :: a5 :: some (.long x) :: t) (.long x :: st) h) : mw_W E M d Q X bc bs pc (a0 :: a1 :: a2 :: a3 :: a4 :: a5 :: some (.long x) :: t) st h := by
  intro p e s m args below meth c H locs cells slots mc ms ls C hR hlocs hl hc hs
  exact lv_lload C.1 C.2.1 hd (hl.2.2 6 (.long x) rfl) (k p e s m args below meth c H locs cells slots mc ms ls C hR hlocs hl hc hs)
theorem mw_lstore6 {a0 a1 a2 a3 a4 a5 : Option Value} {o o2 : Option Value} {x : Int64} {t : List (Option Value)} (hd : decode M.2.1 pc = .ok (.lstore 6, 2)) (hp : mw_c1 a5 = true) (hn : 7 < M.2.2.1) (k : mw_W E M d Q X bc bs (pc + 2) (a0 :: a1 :: a2 :: a3 :: a4 :: a5 :: some (.long x) :: none :: t) st h) : mw_W E M d Q X bc bs pc (a0 :: a1 :: a2 :: a3 :: a4 :: a5 :: o :: o2 :: t) (.long x :: st) h := by
  intro p e s m args below meth c H locs cells slots mc ms ls C hR hlocs hl hc hs
  exact lv_lstore C.1 C.2.1 hd hl.has hn rfl (fun ls' h' => k p e s m args below meth c H locs cells slots mc ms ls' C hR hlocs (mw_lv.st2 (i := 6) (mw_pv (i := 5) rfl hp) h') hc hs)
theorem mw_aload6 {a0 a1 a2 a3 a4 a5 : Option Value} {x : Nat} {t : List (Option Value)} (hd : decode M.2.1 pc = .ok (.aload 6, 2)) (k : mw_W E M d Q X bc bs (pc + 2) (a0 :: a1 :: a2 :: a3 :: a4 :: a5 :: some (.ref x) :: t) (.ref x :: st) h) : mw_W E M d Q X bc bs pc (a0 :: a1 :: a2 :: a3 :: a4 :: a5 :: some (.ref x) :: t) st h := by
  intro p e s m args below meth c H locs cells slots mc ms ls C hR hlocs hl hc hs
  exact lv_aload C.1 C.2.1 hd (hl.2.2 6 (.ref x) rfl) (k p e s m args below meth c H locs cells slots mc ms ls C hR hlocs hl hc hs)
theorem mw_astore6 {a0 a1 a2 a3 a4 a5 : Option Value} {o : Option Value} {x : Nat} {t : List (Option Value)} (hd : decode M.2.1 pc = .ok (.astore 6, 2)) (hp : mw_c1 a5 = true) (hn : 6 < M.2.2.1) (k : mw_W E M d Q X bc bs (pc + 2) (a0 :: a1 :: a2 :: a3 :: a4 :: a5 :: some (.ref x) :: t) st h) : mw_W E M d Q X bc bs pc (a0 :: a1 :: a2 :: a3 :: a4 :: a5 :: o :: t) (.ref x :: st) h := by
  intro p e s m args below meth c H locs cells slots mc ms ls C hR hlocs hl hc hs
  exact lv_astore C.1 C.2.1 hd hl.has hn rfl (fun ls' h' => k p e s m args below meth c H locs cells slots mc ms ls' C hR hlocs (mw_lv.st1 (i := 6) (mw_pv (i := 5) rfl hp) h') hc hs)
theorem mw_iinc6 {a0 a1 a2 a3 a4 a5 : Option Value} {n : Int} {x : Int32} {t : List (Option Value)} (hd : decode M.2.1 pc = .ok (.iinc 6 n, 3)) (hp : mw_c1 a5 = true) (hn : 6 < M.2.2.1) (k : mw_W E M d Q X bc bs (pc + 3) (a0 :: a1 :: a2 :: a3 :: a4 :: a5 :: some (.int (x + Int32.ofInt n)) :: t) st h) : mw_W E M d Q X bc bs pc (a0 :: a1 :: a2 :: a3 :: a4 :: a5 :: some (.int x) :: t) st h := by
  intro p e s m args below meth c H locs cells slots mc ms ls C hR hlocs hl hc hs
  obtain ⟨q, hq⟩ := List.getElem?_of_mem (mw_pr_mem.mpr (show (a0 :: a1 :: a2 :: a3 :: a4 :: a5 :: some (.int x) :: t)[6]? = some (some (.int x)) from rfl))
  exact lv_iinc C.1 C.2.1 hd hl.has hq rfl hn rfl (fun ls' h' => k p e s m args below meth c H locs cells slots mc ms ls' C hR hlocs (mw_lv.st1 (i := 6) (mw_pv (i := 5) rfl hp) h') hc hs)
theorem mw_iload7 {a0 a1 a2 a3 a4 a5 a6 : Option Value} {x : Int32} {t : List (Option Value)} (hd : decode M.2.1 pc = .ok (.iload 7, 2)) (k : mw_W E M d Q X bc bs (pc + 2) (a0 :: a1 :: a2 :: a3 :: a4 :: a5 :: a6 :: some (.int x) :: t) (.int x :: st) h) : mw_W E M d Q X bc bs pc (a0 :: a1 :: a2 :: a3 :: a4 :: a5 :: a6 :: some (.int x) :: t) st h := by
  intro p e s m args below meth c H locs cells slots mc ms ls C hR hlocs hl hc hs
  exact lv_iload C.1 C.2.1 hd (hl.2.2 7 (.int x) rfl) (k p e s m args below meth c H locs cells slots mc ms ls C hR hlocs hl hc hs)
theorem mw_istore7 {a0 a1 a2 a3 a4 a5 a6 : Option Value} {o : Option Value} {x : Int32} {t : List (Option Value)} (hd : decode M.2.1 pc = .ok (.istore 7, 2)) (hp : mw_c1 a6 = true) (hn : 7 < M.2.2.1) (k : mw_W E M d Q X bc bs (pc + 2) (a0 :: a1 :: a2 :: a3 :: a4 :: a5 :: a6 :: some (.int x) :: t) st h) : mw_W E M d Q X bc bs pc (a0 :: a1 :: a2 :: a3 :: a4 :: a5 :: a6 :: o :: t) (.int x :: st) h := by
  intro p e s m args below meth c H locs cells slots mc ms ls C hR hlocs hl hc hs
  exact lv_istore C.1 C.2.1 hd hl.has hn rfl (fun ls' h' => k p e s m args below meth c H locs cells slots mc ms ls' C hR hlocs (mw_lv.st1 (i := 7) (mw_pv (i := 6) rfl hp) h') hc hs)
theorem mw_lload7 {a0 a1 a2 a3 a4 a5 a6 : Option Value} {x : Int64} {t : List (Option Value)} (hd : decode M.2.1 pc = .ok (.lload 7, 2)) (k : mw_W E M d Q X bc bs (pc + 2) (a0 :: a1 :: a2 :: a3 :: a4 :: a5 :: a6 :: some (.long x) :: t) (.long x :: st) h) : mw_W E M d Q X bc bs pc (a0 :: a1 :: a2 :: a3 :: a4 :: a5 :: a6 :: some (.long x) :: t) st h := by
  intro p e s m args below meth c H locs cells slots mc ms ls C hR hlocs hl hc hs
  exact lv_lload C.1 C.2.1 hd (hl.2.2 7 (.long x) rfl) (k p e s m args below meth c H locs cells slots mc ms ls C hR hlocs hl hc hs)
theorem mw_lstore7 {a0 a1 a2 a3 a4 a5 a6 : Option Value} {o o2 : Option Value} {x : Int64} {t : List (Option Value)} (hd : decode M.2.1 pc = .ok (.lstore 7, 2)) (hp : mw_c1 a6 = true) (hn : 8 < M.2.2.1) (k : mw_W E M d Q X bc bs (pc + 2) (a0 :: a1 :: a2 :: a3 :: a4 :: a5 :: a6 :: some (.long x) :: none :: t) st h) : mw_W E M d Q X bc bs pc (a0 :: a1 :: a2 :: a3 :: a4 :: a5 :: a6 :: o :: o2 :: t) (.long x :: st) h := by
  intro p e s m args below meth c H locs cells slots mc ms ls C hR hlocs hl hc hs
  exact lv_lstore C.1 C.2.1 hd hl.has hn rfl (fun ls' h' => k p e s m args below meth c H locs cells slots mc ms ls' C hR hlocs (mw_lv.st2 (i := 7) (mw_pv (i := 6) rfl hp) h') hc hs)
theorem mw_aload7 {a0 a1 a2 a3 a4 a5 a6 : Option Value} {x : Nat} {t : List (Option Value)} (hd : decode M.2.1 pc = .ok (.aload 7, 2)) (k : mw_W E M d Q X bc bs (pc + 2) (a0 :: a1 :: a2 :: a3 :: a4 :: a5 :: a6 :: some (.ref x) :: t) (.ref x :: st) h) : mw_W E M d Q X bc bs pc (a0 :: a1 :: a2 :: a3 :: a4 :: a5 :: a6 :: some (.ref x) :: t) st h := by
  intro p e s m args below meth c H locs cells slots mc ms ls C hR hlocs hl hc hs
  exact lv_aload C.1 C.2.1 hd (hl.2.2 7 (.ref x) rfl) (k p e s m args below meth c H locs cells slots mc ms ls C hR hlocs hl hc hs)
theorem mw_astore7 {a0 a1 a2 a3 a4 a5 a6 : Option Value} {o : Option Value} {x : Nat} {t : List (Option Value)} (hd : decode M.2.1 pc = .ok (.astore 7, 2)) (hp : mw_c1 a6 = true) (hn : 7 < M.2.2.1) (k : mw_W E M d Q X bc bs (pc + 2) (a0 :: a1 :: a2 :: a3 :: a4 :: a5 :: a6 :: some (.ref x) :: t) st h) : mw_W E M d Q X bc bs pc (a0 :: a1 :: a2 :: a3 :: a4 :: a5 :: a6 :: o :: t) (.ref x :: st) h := by
  intro p e s m args below meth c H locs cells slots mc ms ls C hR hlocs hl hc hs
  exact lv_astore C.1 C.2.1 hd hl.has hn rfl (fun ls' h' => k p e s m args below meth c H locs cells slots mc ms ls' C hR hlocs (mw_lv.st1 (i := 7) (mw_pv (i := 6) rfl hp) h') hc hs)
theorem mw_iinc7 {a0 a1 a2 a3 a4 a5 a6 : Option Value} {n : Int} {x : Int32} {t : List (Option Value)} (hd : decode M.2.1 pc = .ok (.iinc 7 n, 3)) (hp : mw_c1 a6 = true) (hn : 7 < M.2.2.1) (k : mw_W E M d Q X bc bs (pc + 3) (a0 :: a1 :: a2 :: a3 :: a4 :: a5 :: a6 :: some (.int (x + Int32.ofInt n)) :: t) st h) : mw_W E M d Q X bc bs pc (a0 :: a1 :: a2 :: a3 :: a4 :: a5 :: a6 :: some (.int x) :: t) st h := by
  intro p e s m args below meth c H locs cells slots mc ms ls C hR hlocs hl hc hs
  obtain ⟨q, hq⟩ := List.getElem?_of_mem (mw_pr_mem.mpr (show (a0 :: a1 :: a2 :: a3 :: a4 :: a5 :: a6 :: some (.int x) :: t)[7]? = some (some (.int x)) from rfl))
  exact lv_iinc C.1 C.2.1 hd hl.has hq rfl hn rfl (fun ls' h' => k p e s m args below meth c H locs cells slots mc ms ls' C hR hlocs (mw_lv.st1 (i := 7) (mw_pv (i := 6) rfl hp) h') hc hs)
theorem mw_iload8 {a0 a1 a2 a3 a4 a5 a6 a7 : Option Value} {x : Int32} {t : List (Option Value)} (hd : decode M.2.1 pc = .ok (.iload 8, 2)) (k : mw_W E M d Q X bc bs (pc + 2) (a0 :: a1 :: a2 :: a3 :: a4 :: a5 :: a6 :: a7 :: some (.int x) :: t) (.int x :: st) h) : mw_W E M d Q X bc bs pc (a0 :: a1 :: a2 :: a3 :: a4 :: a5 :: a6 :: a7 :: some (.int x) :: t) st h := by
  intro p e s m args below meth c H locs cells slots mc ms ls C hR hlocs hl hc hs
  exact lv_iload C.1 C.2.1 hd (hl.2.2 8 (.int x) rfl) (k p e s m args below meth c H locs cells slots mc ms ls C hR hlocs hl hc hs)
theorem mw_istore8 {a0 a1 a2 a3 a4 a5 a6 a7 : Option Value} {o : Option Value} {x : Int32} {t : List (Option Value)} (hd : decode M.2.1 pc = .ok (.istore 8, 2)) (hp : mw_c1 a7 = true) (hn : 8 < M.2.2.1) (k : mw_W E M d Q X bc bs (pc + 2) (a0 :: a1 :: a2 :: a3 :: a4 :: a5 :: a6 :: a7 :: some (.int x) :: t) st h) : mw_W E M d Q X bc bs pc (a0 :: a1 :: a2 :: a3 :: a4 :: a5 :: a6 :: a7 :: o :: t) (.int x :: st) h := by
  intro p e s m args below meth c H locs cells slots mc ms ls C hR hlocs hl hc hs
  exact lv_istore C.1 C.2.1 hd hl.has hn rfl (fun ls' h' => k p e s m args below meth c H locs cells slots mc ms ls' C hR hlocs (mw_lv.st1 (i := 8) (mw_pv (i := 7) rfl hp) h') hc hs)
theorem mw_lload8 {a0 a1 a2 a3 a4 a5 a6 a7 : Option Value} {x : Int64} {t : List (Option Value)} (hd : decode M.2.1 pc = .ok (.lload 8, 2)) (k : mw_W E M d Q X bc bs (pc + 2) (a0 :: a1 :: a2 :: a3 :: a4 :: a5 :: a6 :: a7 :: some (.long x) :: t) (.long x :: st) h) : mw_W E M d Q X bc bs pc (a0 :: a1 :: a2 :: a3 :: a4 :: a5 :: a6 :: a7 :: some (.long x) :: t) st h := by
  intro p e s m args below meth c H locs cells slots mc ms ls C hR hlocs hl hc hs
  exact lv_lload C.1 C.2.1 hd (hl.2.2 8 (.long x) rfl) (k p e s m args below meth c H locs cells slots mc ms ls C hR hlocs hl hc hs)
theorem mw_lstore8 {a0 a1 a2 a3 a4 a5 a6 a7 : Option Value} {o o2 : Option Value} {x : Int64} {t : List (Option Value)} (hd : decode M.2.1 pc = .ok (.lstore 8, 2)) (hp : mw_c1 a7 = true) (hn : 9 < M.2.2.1) (k : mw_W E M d Q X bc bs (pc + 2) (a0 :: a1 :: a2 :: a3 :: a4 :: a5 :: a6 :: a7 :: some (.long x) :: none :: t) st h) : mw_W E M d Q X bc bs pc (a0 :: a1 :: a2 :: a3 :: a4 :: a5 :: a6 :: a7 :: o :: o2 :: t) (.long x :: st) h := by
  intro p e s m args below meth c H locs cells slots mc ms ls C hR hlocs hl hc hs
  exact lv_lstore C.1 C.2.1 hd hl.has hn rfl (fun ls' h' => k p e s m args below meth c H locs cells slots mc ms ls' C hR hlocs (mw_lv.st2 (i := 8) (mw_pv (i := 7) rfl hp) h') hc hs)
theorem mw_aload8 {a0 a1 a2 a3 a4 a5 a6 a7 : Option Value} {x : Nat} {t : List (Option Value)} (hd : decode M.2.1 pc = .ok (.aload 8, 2)) (k : mw_W E M d Q X bc bs (pc + 2) (a0 :: a1 :: a2 :: a3 :: a4 :: a5 :: a6 :: a7 :: some (.ref x) :: t) (.ref x :: st) h) : mw_W E M d Q X bc bs pc (a0 :: a1 :: a2 :: a3 :: a4 :: a5 :: a6 :: a7 :: some (.ref x) :: t) st h := by
  intro p e s m args below meth c H locs cells slots mc ms ls C hR hlocs hl hc hs
  exact lv_aload C.1 C.2.1 hd (hl.2.2 8 (.ref x) rfl) (k p e s m args below meth c H locs cells slots mc ms ls C hR hlocs hl hc hs)
theorem mw_astore8 {a0 a1 a2 a3 a4 a5 a6 a7 : Option Value} {o : Option Value} {x : Nat} {t : List (Option Value)} (hd : decode M.2.1 pc = .ok (.astore 8, 2)) (hp : mw_c1 a7 = true) (hn : 8 < M.2.2.1) (k : mw_W E M d Q X bc bs (pc + 2) (a0 :: a1 :: a2 :: a3 :: a4 :: a5 :: a6 :: a7 :: some (.ref x) :: t) st h) : mw_W E M d Q X bc bs pc (a0 :: a1 :: a2 :: a3 :: a4 :: a5 :: a6 :: a7 :: o :: t) (.ref x :: st) h := by
  intro p e s m args below meth c H locs cells slots mc ms ls C hR hlocs hl hc hs
  exact lv_astore C.1 C.2.1 hd hl.has hn rfl (fun ls' h' => k p e s m args below meth c H locs cells slots mc ms ls' C hR hlocs (mw_lv.st1 (i := 8) (mw_pv (i := 7) rfl hp) h') hc hs)
theorem mw_iinc8 {a0 a1 a2 a3 a4 a5 a6 a7 : Option Value} {n : Int} {x : Int32} {t : List (Option Value)} (hd : decode M.2.1 pc = .ok (.iinc 8 n, 3)) (hp : mw_c1 a7 = true) (hn : 8 < M.2.2.1) (k : mw_W E M d Q X bc bs (pc + 3) (a0 :: a1 :: a2 :: a3 :: a4 :: a5 :: a6 :: a7 :: some (.int (x + Int32.ofInt n)) :: t) st h) : mw_W E M d Q X bc bs pc (a0 :: a1 :: a2 :: a3 :: a4 :: a5 :: a6 :: a7 :: some (.int x) :: t) st h := by
  intro p e s m args below meth c H locs cells slots mc ms ls C hR hlocs hl hc hs
  obtain ⟨q, hq⟩ := List.getElem?_of_mem (mw_pr_mem.mpr (show (a0 :: a1 :: a2 :: a3 :: a4 :: a5 :: a6 :: a7 :: some (.int x) :: t)[8]? = some (some (.int x)) from rfl))
  exact lv_iinc C.1 C.2.1 hd hl.has hq rfl hn rfl (fun ls' h' => k p e s m args below meth c H locs cells slots mc ms ls' C hR hlocs (mw_lv.st1 (i := 8) (mw_pv (i := 7) rfl hp) h') hc hs)
theorem mw_iload9 {a0 a1 a2 a3 a4 a5 a6 a7 a8 : Option Value} {x : Int32} {t : List (Option Value)} (hd : decode M.2.1 pc = .ok (.iload 9, 2)) (k : mw_W E M d Q X bc bs (pc + 2) (a0 :: a1 :: a2 :: a3 :: a4 :: a5 :: a6 :: a7 :: a8 :: some (.int x) :: t) (.int x :: st) h) : mw_W E M d Q X bc bs pc (a0 :: a1 :: a2 :: a3 :: a4 :: a5 :: a6 :: a7 :: a8 :: some (.int x) :: t) st h := by
  intro p e s m args below meth c H locs cells slots mc ms ls C hR hlocs hl hc hs
  exact lv_iload C.1 C.2.1 hd (hl.2.2 9 (.int x) rfl) (k p e s m args below meth c H locs cells slots mc ms ls C hR hlocs hl hc hs)
theorem mw_istore9 {a0 a1 a2 a3 a4 a5 a6 a7 a8 : Option Value} {o : Option Value} {x : Int32} {t : List (Option Value)} (hd : decode M.2.1 pc = .ok (.istore 9, 2)) (hp : mw_c1 a8 = true) (hn : 9 < M.2.2.1) (k : mw_W E M d Q X bc bs (pc + 2) (a0 :: a1 :: a2 :: a3 :: a4 :: a5 :: a6 :: a7 :: a8 :: some (.int x) :: t) st h) : mw_W E M d Q X bc bs pc (a0 :: a1 :: a2 :: a3 :: a4 :: a5 :: a6 :: a7 :: a8 :: o :: t) (.int x :: st) h := by
  intro p e s m args below meth c H locs cells slots mc ms ls C hR hlocs hl hc hs
  exact lv_istore C.1 C.2.1 hd hl.has hn rfl (fun ls' h' => k p e s m args below meth c H locs cells slots mc ms ls' C hR hlocs (mw_lv.st1 (i := 9) (mw_pv (i := 8) rfl hp) h') hc hs)
theorem mw_lload9 {a0 a1 a2 a3 a4 a5 a6 a7 a8 : Option Value} {x : Int64} {t : List (Option Value)} (hd : decode M.2.1 pc = .ok (.lload 9, 2)) (k : mw_W E M d Q X bc bs (pc + 2) (a0 :: a1 :: a2 :: a3 :: a4 :: a5 :: a6 :: a7 :: a8 :: some (.long x) :: t) (.long x :: st) h) : mw_W E M d Q X bc bs pc (a0 :: a1 :: a2 :: a3 :: a4 :: a5 :: a6 :: a7 :: a8 :: some (.long x) :: t) st h := by
  intro p e s m args below meth c H locs cells slots mc ms ls C hR hlocs hl hc hs
  exact lv_lload C.1 C.2.1 hd (hl.2.2 9 (.long x) rfl) (k p e s m args below meth c H locs cells slots mc ms ls C hR hlocs hl hc hs)
theorem mw_lstore9 {a0 a1 a2 a3 a4 a5 a6 a7 a8 : Option Value} {o o2 : Option Value} {x : Int64} {t : List (Option Value)} (hd : decode M.2.1 pc = .ok (.lstore 9, 2)) (hp : mw_c1 a8 = true) (hn : 10 < M.2.2.1) (k : mw_W E M d Q X bc bs (pc + 2) (a0 :: a1 :: a2 :: a3 :: a4 :: a5 :: a6 :: a7 :: a8 :: some (.long x) :: none :: t) st h) : mw_W E M d Q X bc bs pc (a0 :: a1 :: a2 :: a3 :: a4 :: a5 :: a6 :: a7 :: a8 :: o :: o2 :: t) (.long x :: st) h := by
  intro p e s m args below meth c H locs cells slots mc ms ls C hR hlocs hl hc hs
  exact lv_lstore C.1 C.2.1 hd hl.has hn rfl (fun ls' h' => k p e s m args below meth c H locs cells slots mc ms ls' C hR hlocs (mw_lv.st2 (i := 9) (mw_pv (i := 8) rfl hp) h') hc hs)
theorem mw_aload9 {a0 a1 a2 a3 a4 a5 a6 a7 a8 : Option Value} {x : Nat} {t : List (Option Value)} (hd : decode M.2.1 pc = .ok (.aload 9, 2)) (k : mw_W E M d Q X bc bs (pc + 2) (a0 :: a1 :: a2 :: a3 :: a4 :: a5 :: a6 :: a7 :: a8 :: some (.ref x) :: t) (.ref x :: st) h) : mw_W E M d Q X bc bs pc (a0 :: a1 :: a2 :: a3 :: a4 :: a5 :: a6 :: a7 :: a8 :: some (.ref x) :: t) st h := by
  intro p e s m args below meth c H locs cells slots mc ms ls C hR hlocs hl hc hs
  exact lv_aload C.1 C.2.1 hd (hl.2.2 9 (.ref x) rfl) (k p e s m args below meth c H locs cells slots mc ms ls C hR hlocs hl hc hs)
theorem mw_astore9 {a0 a1 a2 a3 a4 a5 a6 a7 a8 : Option Value} {o : Option Value} {x : Nat} {t : List (Option Value)} (hd : decode M.2.1 pc = .ok (.astore 9, 2)) (hp : mw_c1 a8 = true) (hn : 9 < M.2.2.1) (k : mw_W E M d Q X bc bs (pc + 2) (a0 :: a1 :: a2 :: a3 :: a4 :: a5 :: a6 :: a7 :: a8 :: some (.ref x) :: t) st h) : mw_W E M d Q X bc bs pc (a0 :: a1 :: a2 :: a3 :: a4 :: a5 :: a6 :: a7 :: a8 :: o :: t) (.ref x :: st) h := by
  intro p e s m args below meth c H locs cells slots mc ms ls C hR hlocs hl hc hs
  exact lv_astore C.1 C.2.1 hd hl.has hn rfl (fun ls' h' => k p e s m args below meth c H locs cells slots mc ms ls' C hR hlocs (mw_lv.st1 (i := 9) (mw_pv (i := 8) rfl hp) h') hc hs)
theorem mw_iinc9 {a0 a1 a2 a3 a4 a5 a6 a7 a8 : Option Value} {n : Int} {x : Int32} {t : List (Option Value)} (hd : decode M.2.1 pc = .ok (.iinc 9 n, 3)) (hp : mw_c1 a8 = true) (hn : 9 < M.2.2.1) (k : mw_W E M d Q X bc bs (pc + 3) (a0 :: a1 :: a2 :: a3 :: a4 :: a5 :: a6 :: a7 :: a8 :: some (.int (x + Int32.ofInt n)) :: t) st h) : mw_W E M d Q X bc bs pc (a0 :: a1 :: a2 :: a3 :: a4 :: a5 :: a6 :: a7 :: a8 :: some (.int x) :: t) st h := by
  intro p e s m args below meth c H locs cells slots mc ms ls C hR hlocs hl hc hs
  obtain ⟨q, hq⟩ := List.getElem?_of_mem (mw_pr_mem.mpr (show (a0 :: a1 :: a2 :: a3 :: a4 :: a5 :: a6 :: a7 :: a8 :: some (.int x) :: t)[9]? = some (some (.int x)) from rfl))
  exact lv_iinc C.1 C.2.1 hd hl.has hq rfl hn rfl (fun ls' h' => k p e s m args below meth c H locs cells slots mc ms ls' C hR hlocs (mw_lv.st1 (i := 9) (mw_pv (i := 8) rfl hp) h') hc hs)
theorem mw_iload10 {a0 a1 a2 a3 a4 a5 a6 a7 a8 a9 : Option Value} {x : Int32} {t : List (Option Value)} (hd : decode M.2.1 pc = .ok (.iload 10, 2)) (k : mw_W E M d Q X bc bs (pc + 2) (a0 :: a1 :: a2 :: a3 :: a4 :: a5 :: a6 :: a7 :: a8 :: a9 :: some (.int x) :: t) (.int x :: st) h) : mw_W E M d Q X bc bs pc (a0 :: a1 :: a2 :: a3 :: a4 :: a5 :: a6 :: a7 :: a8 :: a9 :: some (.int x) :: t) st h := by
  intro p e s m args below meth c H locs cells slots mc ms ls C hR hlocs hl hc hs
  exact lv_iload C.1 C.2.1 hd (hl.2.2 10 (.int x) rfl) (k p e s m args below meth c H locs cells slots mc ms ls C hR hlocs hl hc hs)
theorem mw_istore10 {a0 a1 a2 a3 a4 a5 a6 a7 a8 a9 : Option Value} {o : Option Value} {x : Int32} {t : List (Option Value)} (hd : decode M.2.1 pc = .ok (.istore 10, 2)) (hp : mw_c1 a9 = true) (hn : 10 < M.2.2.1) (k : mw_W E M d Q X bc bs (pc + 2) (a0 :: a1 :: a2 :: a3 :: a4 :: a5 :: a6 :: a7 :: a8 :: a9 :: some (.int x) :: t) st h) : mw_W E M d Q X bc bs pc (a0 :: a1 :: a2 :: a3 :: a4 :: a5 :: a6 :: a7 :: a8 :: a9 :: o :: t) (.int x :: st) h := by
  intro p e s m args below meth c H locs cells slots mc ms ls C hR hlocs hl hc hs
  exact lv_istore C.1 C.2.1 hd hl.has hn rfl (fun ls' h' => k p e s m args below meth c H locs cells slots mc ms ls' C hR hlocs (mw_lv.st1 (i := 10) (mw_pv (i := 9) rfl hp) h') hc hs)
theorem mw_lload10 {a0 a1 a2 a3 a4 a5 a6 a7 a8 a9 : Option Value} {x : Int64} {t : List (Option Value)} (hd : decode M.2.1 pc = .ok (.lload 10, 2)) (k : mw_W E M d Q X bc bs (pc + 2) (a0 :: a1 :: a2 :: a3 :: a4 :: a5 :: a6 :: a7 :: a8 :: a9 :: some (.long x) :: t) (.long x :: st) h) : mw_W E M d Q X bc bs pc (a0 :: a1 :: a2 :: a3 :: a4 :: a5 :: a6 :: a7 :: a8 :: a9 :: some (.long x) :: t) st h := by
  intro p e s m args below meth c H locs cells slots mc ms ls C hR hlocs hl hc hs
  exact lv_lload C.1 C.2.1 hd (hl.2.2 10 (.long x) rfl) (k p e s m args below meth c H locs cells slots mc ms ls C hR hlocs hl hc hs)
theorem mw_lstore10 {a0 a1 a2 a3 a4 a5 a6 a7 a8 a9 : Option Value} {o o2 : Option Value} {x : Int64} {t : List (Option Value)} (hd : decode M.2.1 pc = .ok (.lstore 10, 2)) (hp : mw_c1 a9 = true) (hn : 11 < M.2.2.1) (k : mw_W E M d Q X bc bs (pc + 2) (a0 :: a1 :: a2 :: a3 :: a4 :: a5 :: a6 :: a7 :: a8 :: a9 :: some (.long x) :: none :: t) st h) : mw_W E M d Q X bc bs pc (a0 :: a1 :: a2 :: a3 :: a4 :: a5 :: a6 :: a7 :: a8 :: a9 :: o :: o2 :: t) (.long x :: st) h := by
  intro p e s m args below meth c H locs cells slots mc ms ls C hR hlocs hl hc hs
  exact lv_lstore C.1 C.2.1 hd hl.has hn rfl (fun ls' h' => k p e s m args below meth c H locs cells slots mc ms ls' C hR hlocs (mw_lv.st2 (i := 10) (mw_pv (i := 9) rfl hp) h') hc hs)
theorem mw_aload10 {a0 a1 a2 a3 a4 a5 a6 a7 a8 a9 : Option Value} {x : Nat} {t : List (Option Value)} (hd : decode M.2.1 pc = .ok (.aload 10, 2)) (k : mw_W E M d Q X bc bs (pc + 2) (a0 :: a1 :: a2 :: a3 :: a4 :: a5 :: a6 :: a7 :: a8 :: a9 :: some (.ref x) :: t) (.ref x :: st) h) : mw_W E M d Q X bc bs pc (a0 :: a1 :: a2 :: a3 :: a4 :: a5 :: a6 :: a7 :: a8 :: a9 :: some (.ref x) :: t) st h := by
  intro p e s m args below meth c H locs cells slots mc ms ls C hR hlocs hl hc hs
  exact lv_aload C.1 C.2.1 hd (hl.2.2 10 (.ref x) rfl) (k p e s m args below meth c H locs cells slots mc ms ls C hR hlocs hl hc hs)
theorem mw_astore10 {a0 a1 a2 a3 a4 a5 a6 a7 a8 a9 : Option Value} {o : Option Value} {x : Nat} {t : List (Option Value)} (hd : decode M.2.1 pc = .ok (.astore 10, 2)) (hp : mw_c1 a9 = true) (hn : 10 < M.2.2.1) (k : mw_W E M d Q X bc bs (pc + 2) (a0 :: a1 :: a2 :: a3 :: a4 :: a5 :: a6 :: a7 :: a8 :: a9 :: some (.ref x) :: t) st h) : mw_W E M d Q X bc bs pc (a0 :: a1 :: a2 :: a3 :: a4 :: a5 :: a6 :: a7 :: a8 :: a9 :: o :: t) (.ref x :: st) h := by
  intro p e s m args below meth c H locs cells slots mc ms ls C hR hlocs hl hc hs
  exact lv_astore C.1 C.2.1 hd hl.has hn rfl (fun ls' h' => k p e s m args below meth c H locs cells slots mc ms ls' C hR hlocs (mw_lv.st1 (i := 10) (mw_pv (i := 9) rfl hp) h') hc hs)
theorem mw_iinc10 {a0 a1 a2 a3 a4 a5 a6 a7 a8 a9 : Option Value} {n : Int} {x : Int32} {t : List (Option Value)} (hd : decode M.2.1 pc = .ok (.iinc 10 n, 3)) (hp : mw_c1 a9 = true) (hn : 10 < M.2.2.1) (k : mw_W E M d Q X bc bs (pc + 3) (a0 :: a1 :: a2 :: a3 :: a4 :: a5 :: a6 :: a7 :: a8 :: a9 :: some (.int (x + Int32.ofInt n)) :: t) st h) : mw_W E M d Q X bc bs pc (a0 :: a1 :: a2 :: a3 :: a4 :: a5 :: a6 :: a7 :: a8 :: a9 :: some (.int x) :: t) st h := by
  intro p e s m args below meth c H locs cells slots mc ms ls C hR hlocs hl hc hs
  obtain ⟨q, hq⟩ := List.getElem?_of_mem (mw_pr_mem.mpr (show (a0 :: a1 :: a2 :: a3 :: a4 :: a5 :: a6 :: a7 :: a8 :: a9 :: some (.int x) :: t)[10]? = some (some (.int x)) from rfl))
  exact lv_iinc C.1 C.2.1 hd hl.has hq rfl hn rfl (fun ls' h' => k p e s m args below meth c H locs cells slots mc ms ls' C hR hlocs (mw_lv.st1 (i := 10) (mw_pv (i := 9) rfl hp) h') hc hs)
def mw_le : List (Option Value) → List (Option Value) → Prop
  | [], _ => True
  | none :: t', _ :: t => mw_le t' t
  | none :: t', [] => mw_le t' []
  | some v :: t', some w :: t => v = w ∧ mw_le t' t
  | some _ :: _, _ => False
theorem mw_le_at : ∀ (lo' lo : List (Option Value)), mw_le lo' lo → ∀ (i : Nat) (v : Value), lo'[i]? = some (some v) → lo[i]? = some (some v)
  | [], _, _, i, v, h => by simp at h
  | none :: t', [], hq, i, v, h => by
    cases i with
    | zero => simp at h
    | succ i => have := mw_le_at t' [] hq i v (by simpa using h); simp at this
  | none :: t', _ :: t, hq, i, v, h => by
    cases i with
    | zero => simp at h
    | succ i => simpa using mw_le_at t' t hq i v (by simpa using h)
  | some a :: t', [], hq, i, v, h => by simp [mw_le] at hq
  | some a :: t', none :: t, hq, i, v, h => by simp [mw_le] at hq
  | some a :: t', some b :: t, hq, i, v, h => by
    obtain ⟨rfl, hq⟩ := hq
    cases i with
    | zero => simpa using h
    | succ i => simpa using mw_le_at t' t hq i v (by simpa using h)
theorem mw_lo (lo' : List (Option Value)) (hq : mw_le lo' lo) (k : mw_W E M d Q X bc bs pc lo' st h) : mw_W E M d Q X bc bs pc lo st h := by
  intro p e s m args below meth c H locs cells slots mc ms ls C hR hlocs hl hc hs
  exact k p e s m args below meth c H locs cells slots mc ms ls C hR hlocs ⟨hl.1, hl.2.1, fun i v hi => hl.2.2 i v (mw_le_at lo' lo hq i v hi)⟩ hc hs
theorem mw_bud {bc1 bs1 : Nat} (h1 : bc1 ≤ bc) (h2 : bs1 ≤ bs) (k : mw_W E M d Q X bc1 bs1 pc lo st h) : mw_W E M d Q X bc bs pc lo st h := by
  intro p e s m args below meth c H locs cells slots mc ms ls C hR hlocs hl hc hs
  exact k p e s m args below meth c H locs cells slots mc ms ls C hR hlocs hl (by omega) (by omega)
theorem mw_post {Q1 : Option Value → mw_H → Prop} {X1 : Nat → mw_H → Prop} (k : mw_W E M d Q1 X1 bc bs pc lo st h) (hQ : ∀ v h', Q1 v h' → Q v h') (hX : ∀ k h', X1 k h' → X k h') : mw_W E M d Q X bc bs pc lo st h := by
  intro p e s m args below meth c H locs cells slots mc ms ls C hR hlocs hl hc hs
  refine mw_mono (k p e s m args below meth c H locs cells slots mc ms ls C hR hlocs hl hc hs) ?_
  rintro t ⟨o, b1, b2, ⟨h', hR', ho⟩, b4⟩
  refine ⟨o, b1, b2, ⟨h', hR', ?_⟩, b4⟩
  rcases ho with ⟨v, e1, e2⟩ | ⟨k, e1, e2⟩
  · exact Or.inl ⟨v, e1, hQ v h' e2⟩
  · exact Or.inr ⟨k, e1, hX k h' e2⟩
/-- ends -/
theorem mw_iret {v : Int32} {ty : FieldType} (hd : decode M.2.1 pc = .ok (.ireturn, 1)) (hr : M.2.2.2.1 = some ty) (hn : narrow ty (.int v) = .int v) (hq : Q (some (.int v)) h) : mw_W E M d Q X bc bs pc lo [.int v] h := by
  intro p e s m args below meth c H locs cells slots mc ms ls C hR hlocs hl hc hs
  obtain ⟨hx, hb, hr9, hml, hown, hts, hK, hZ, hlk, htab, hnm, hl9⟩ := C
  refine W.widen (k := mc) (n := ms) (by omega) (by omega) ?_
  refine mw_mono (W.zret (Qc := fun _ _ o t => mw_Q E Q X o t) (free := fun q => mw_b E ≤ q) hx hb (hr9.trans hr) hn (fun t ht _ => ⟨h, by rw [ht]; exact hR, Or.inl ⟨_, rfl, hq⟩⟩) hlocs hd (hlocks := hlk)) ?_
  rintro t ⟨o, b1, b2, b3, L, ⟨-, hW, hsb⟩, hL⟩
  exact ⟨o, b1, b2, b3, L, hW, hsb, hL⟩
theorem mw_lret {v : Int64} (hd : decode M.2.1 pc = .ok (.lreturn, 1)) (hr : M.2.2.2.1 = some .long) (hq : Q (some (.long v)) h) : mw_W E M d Q X bc bs pc lo [.long v] h := by
  intro p e s m args below meth c H locs cells slots mc ms ls C hR hlocs hl hc hs
  obtain ⟨hx, hb, hr9, hml, hown, hts, hK, hZ, hlk, htab, hnm, hl9⟩ := C
  refine W.widen (k := mc) (n := ms) (by omega) (by omega) ?_
  refine mw_mono (W.lret (Qc := fun _ _ o t => mw_Q E Q X o t) (free := fun q => mw_b E ≤ q) hx hb (hr9.trans hr) (fun t ht _ => ⟨h, by rw [ht]; exact hR, Or.inl ⟨_, rfl, hq⟩⟩) hlocs hd (hlocks := hlk)) ?_
  rintro t ⟨o, b1, b2, b3, L, ⟨-, hW, hsb⟩, hL⟩
  exact ⟨o, b1, b2, b3, L, hW, hsb, hL⟩
theorem mw_vret (hd : decode M.2.1 pc = .ok (.return_, 1)) (hr : M.2.2.2.1 = none) (hq : Q none h) : mw_W E M d Q X bc bs pc lo [] h := by
  intro p e s m args below meth c H locs cells slots mc ms ls C hR hlocs hl hc hs
  obtain ⟨hx, hb, hr9, hml, hown, hts, hK, hZ, hlk, htab, hnm, hl9⟩ := C
  refine W.widen (k := mc) (n := ms) (by omega) (by omega) ?_
  refine mw_mono (W.vret (Qc := fun _ _ o t => mw_Q E Q X o t) (free := fun q => mw_b E ≤ q) hx hb (hr9.trans hr) (fun t ht _ => ⟨h, by rw [ht]; exact hR, Or.inl ⟨_, rfl, hq⟩⟩) hlocs hd (hlocks := hlk)) ?_
  rintro t ⟨o, b1, b2, b3, L, ⟨-, hW, hsb⟩, hL⟩
  exact ⟨o, b1, b2, b3, L, hW, hsb, hL⟩
/-- out of a frame without a handler there -/
theorem mw_out {k : Nat} (hout : ∀ x ∈ tableOf M.2.2.2.2, covers x pc = false) (hx9 : X k h) : mw_T E M d Q X bc bs pc lo k h := by
  intro p e s m args below meth c locs cells slots mc ms ls st T C hR hlocs hl hc hs X0
  obtain ⟨hx, hb, hr9, hml, hown, hts, hK, hZ, hlk, htab, hnm, hl9⟩ := C
  obtain ⟨a1, a2, a3, a4, a5⟩ := X0.leaveThrown (mw_b E + k) (g := F0 m pc ls st) rfl rfl rfl (by rw [htab]; exact hout) hlk
  exact ⟨_, a1, _, a2, a3, ⟨h, hR, Or.inr ⟨k, rfl, hx9⟩⟩, locs, a4, a5.mono (by omega) (by omega), hlocs⟩
theorem mw_never {P : Prop} {k : Nat} {h' : mw_H} (hx : mw_no k h') : P := hx.elim
end MwRows
end
section
/-! The walker's rows that look into the heap. -/
section MwHeap
variable {E : mw_E} {M : mw_M} {d bc bs pc idx ci k a n i : Nat} {Q : Option Value → mw_H → Prop} {X : Nat → mw_H → Prop} {lo : List (Option Value)} {st : List Value} {h : mw_H} {f : Nat → Value} {v : Value} {x : Int32}
def mw_fl (own : String) (idx ci k : Nat) : Prop := ∃ (C : String) (T : u_T) (N : Nat), mw_cl[ci]? = some (C, T, N) ∧ k < N ∧ (∀ w ∈ u_ws C T N, w ∈ mw_tb) ∧ (T k).1 = C ∧ Cond.fieldLink own idx C (T k).2.1 (T k).2.2.1 ∈ mw_tb
theorem mw_getf (hw : mw_fl M.1.cls idx ci k) (hd : decode M.2.1 pc = .ok (.getfield idx, 3)) (ha : a < h.1) (ho : h.2 a = .inl (ci, f)) (hv : f k = v) (kk : mw_W E M d Q X bc bs (pc + 3) lo (v :: st) h) : mw_W E M d Q X bc bs pc lo (.ref (mw_b E + a) :: st) h := by
  intro p e s m args below meth c H locs cells slots mc ms ls C hR hlocs hl hc hs
  have K := kk p e s m args below meth c H locs cells slots mc ms ls C hR hlocs hl hc hs
  obtain ⟨hx, hb, hr9, hml, hown, hts, hK, hZ, hlk, htab, hnm, hl9⟩ := C
  obtain ⟨C9, T9, N9, hc9, hk9, hin, hown9, hlk9⟩ := hw
  have h1 := hR.2.2 a ha
  rw [ho] at h1
  obtain ⟨r, h2, cell, q1, q2, q3, q4⟩ := h1
  cases hc9.symm.trans h2
  obtain ⟨hS, hfc, kC, hkC, hkind⟩ := hK.1 ci _ hc9
  obtain ⟨cf, kf, fi, fd, hi, hsl⟩ := hS k hk9
  refine W.getf hx hb hown (hts _ hlk9) (by rw [← hown9]; exact hi) (u_facts hfc hkC (u_lays hts hin hk9) hi).1 q1 (by rw [q3]; exact fun h => by cases h) (v := v) ?_ rfl rfl hd K
  rw [hsl, q4 k hk9]
  exact congrArg some hv
def mw_fp (own : String) (idx ci k : Nat) (ty : FieldType) (fin : Bool) : Prop := ∃ (C : String) (T : u_T) (N : Nat) (ty0 : Nat → FieldType), mw_cl[ci]? = some (C, T, N) ∧ k < N ∧ (∀ w ∈ u_ws C T N, w ∈ mw_tb) ∧ (T k).1 = C ∧ Cond.fieldLink own idx C (T k).2.1 (T k).2.2.1 ∈ mw_tb ∧
  (∀ j, j < N → parseFieldDescriptor (T j).2.2.1 = some (ty0 j)) ∧ (∀ a, a < N → ∀ b, b < N → a ≠ b → (T a).2.1 ≠ (T b).2.1) ∧ ty0 k = ty ∧ (T k).2.2.2 = fin
theorem mw_putf {ty : FieldType} (hw : mw_fp M.1.cls idx ci k ty false) (hd : decode M.2.1 pc = .ok (.putfield idx, 3)) (ha : a < h.1) (ho : h.2 a = .inl (ci, f)) (hn : narrow ty v = v) (hfit : fits ty v = true) (kk : mw_W E M d Q X bc bs (pc + 3) lo st (h.1, va_up h.2 a (.inl (ci, updV f k v)))) : mw_W E M d Q X bc bs pc lo (v :: .ref (mw_b E + a) :: st) h := by
  intro p e s m args below meth c H locs cells slots mc ms ls C hR hlocs hl hc hs
  have C0 := C
  obtain ⟨hx, hb, hr9, hml, hown, hts, hK, hZ, hlk, htab, hnm, hl9⟩ := C
  obtain ⟨C9, T9, N9, ty0, hc9, hk9, hin, hown9, hlk9, hty, hne, hty9, hfin⟩ := hw
  have h1 := hR.2.2 a ha
  rw [ho] at h1
  obtain ⟨r, h2, cell, q1, q2, q3, q4⟩ := h1
  cases hc9.symm.trans h2
  have hap := va_apart (own := M.1.cls) hts hin ty0 hty hne hK hc9
  obtain ⟨hS, hfc, kC, hkC, hkind⟩ := hK.1 ci _ hc9
  obtain ⟨cf, kf, fi, fd, hi, hsl⟩ := hS k hk9
  have hlay := hts _ (hin _ (u_in_lay hk9))
  unfold u_lay at hlay
  rw [if_neg (by rw [hfin]; decide)] at hlay
  have hst := (u_facts hfc hkC (u_lays hts hin hk9) hi).1
  have h6 := u_store hfc hkC hkind hlay hi (by rw [hty k hk9, hty9]) hn hfit
  refine W.putK hx hb (f := fd) ⟨hown, hts _ hlk9, ⟨_, _, _, by rw [← hown9]; exact hi⟩, hst⟩ (by rw [q2]; exact h6) q1 q3 (by rw [hsl]; exact k2_hasslot (q4 k hk9)) rfl rfl hd fun H' e1 e2 e3 => ?_
  rw [hsl] at e1
  refine kk p e s m args below meth c H' _ cells slots mc ms ls C0 (hR.set _ ha e2 e3 ⟨_, hc9, _, e1, q2, q3, t_set q4 hap hk9 v⟩) (fun q hq => ?_) hl hc hs
  rcases List.mem_append.mp hq with h9 | h9
  · exact hlocs q h9
  · rw [List.mem_singleton] at h9
    subst h9
    exact Nat.le_add_right _ _
theorem mw_putF {ty : FieldType} (hw : mw_fp M.1.cls idx ci k ty true) (hC9 : ∃ r : vw_C, mw_cl[ci]? = some r ∧ r.1 = M.1.cls) (hi9 : M.1.name = "<init>") (hd : decode M.2.1 pc = .ok (.putfield idx, 3)) (ha : a < h.1) (ho : h.2 a = .inl (ci, f)) (hn : narrow ty v = v) (hfit : fits ty v = true) (kk : mw_W E M d Q X bc bs (pc + 3) lo st (h.1, va_up h.2 a (.inl (ci, updV f k v)))) : mw_W E M d Q X bc bs pc lo (v :: .ref (mw_b E + a) :: st) h := by
  intro p e s m args below meth c H locs cells slots mc ms ls C hR hlocs hl hc hs
  have C0 := C
  obtain ⟨hx, hb, hr9, hml, hown, hts, hK, hZ, hlk, htab, hnm, hl9⟩ := C
  obtain ⟨C9, T9, N9, ty0, hc9, hk9, hin, hown9, hlk9, hty, hne, hty9, hfin⟩ := hw
  obtain ⟨r9, hr8, hr7⟩ := hC9
  cases hc9.symm.trans hr8
  have h1 := hR.2.2 a ha
  rw [ho] at h1
  obtain ⟨r, h2, cell, q1, q2, q3, q4⟩ := h1
  cases hc9.symm.trans h2
  have hap := va_apart (own := M.1.cls) hts hin ty0 hty hne hK hc9
  obtain ⟨hS, hfc, kC, hkC, hkind⟩ := hK.1 ci _ hc9
  obtain ⟨cf, kf, fi, fd, hi, hsl⟩ := hS k hk9
  have hlay := hts _ (hin _ (u_in_lay hk9))
  unfold u_lay at hlay
  rw [if_pos hfin] at hlay
  have hst := (u_facts hfc hkC (u_lays hts hin hk9) hi).1
  have hcf : m.cls = cf := by
    obtain ⟨_, _, c', _, _, _, -, -, hf', -, -, -, hown2, -⟩ := Cond.laysFinal_spec hlay
    have e1 : c' = cf := by have := hi.symm.trans hf'; simp at this; exact this.1.symm
    rw [hown9] at hown2
    rw [← e1]
    exact Option.some.inj (hown.symm.trans (by rw [← hr7]; exact hown2))
  have h6 := u_fits hfc hkC hkind (Or.inr hlay) hi (by rw [hty k hk9, hty9]) hn hfit
  refine W.putFinK hx hb hown (hts _ hlk9) (by rw [← hown9]; exact hi) hst hcf (hnm.trans hi9) (by rw [q2]; exact h6) q1 q3 (by rw [hsl]; exact k2_hasslot (q4 k hk9)) rfl rfl hd fun H' e1 e2 e3 => ?_
  rw [hsl] at e1
  refine kk p e s m args below meth c H' _ cells slots mc ms ls C0 (hR.set _ ha e2 e3 ⟨_, hc9, _, e1, q2, q3, t_set q4 hap hk9 v⟩) (fun q hq => ?_) hl hc hs
  rcases List.mem_append.mp hq with h9 | h9
  · exact hlocs q h9
  · rw [List.mem_singleton] at h9
    subst h9
    exact Nat.le_add_right _ _
theorem mw_arr {t : Nat} {H : Heap} (hR : mw_R E h H) (ha : a < h.1) (ho : h.2 a = .inr (t, n, f)) : H[mw_b E + a]? = some (arrV (E.2.2.1 t) n f) := by
  have h1 := hR.2.2 a ha
  rw [ho] at h1
  exact h1
theorem mw_locs {locs : List Loc} (hlocs : ∀ q ∈ locs, mw_b E ≤ q.base) (a j : Nat) : ∀ q ∈ locs ++ [⟨mw_b E + a, j⟩], mw_b E ≤ q.base := by
  intro q hq
  rcases List.mem_append.mp hq with h9 | h9
  · exact hlocs q h9
  · rw [List.mem_singleton] at h9
    subst h9
    exact Nat.le_add_right _ _
theorem mw_ald {t : Nat} {ty : FieldType} (hty : ∀ E : mw_E, (mw_tys E)[t]? = some (E.2.2.1 t, ty)) (hr : ty.isReference = true) (hd : decode M.2.1 pc = .ok (.aaload, 1)) (ha : a < h.1) (ho : h.2 a = .inr (t, n, f)) (hi : i < n) (hn : n < 2 ^ 31) (hv : f i = v) (kk : mw_W E M d Q X bc bs (pc + 1) lo (v :: st) h) : mw_W E M d Q X bc bs pc lo (.int (nI i) :: .ref (mw_b E + a) :: st) h := by
  intro p e s m args below meth c H locs cells slots mc ms ls C hR hlocs hl hc hs
  have K := kk p e s m args below meth c H locs cells slots mc ms ls C hR hlocs hl hc hs
  exact W.aald C.1 C.2.1 (mw_arr hR ha ho) ((C.2.2.2.2.2.2.1.2 t _ (hty E)).1 n f) hr (fun h => by cases h) (by rw [arrV_size]; exact nI_in hi hn) (by rw [nI_clamp (by omega), arrV_read _ _ hi, hv]) rfl rfl hd K
theorem mw_iald (hd : decode M.2.1 pc = .ok (.iaload, 1)) (ha : a < h.1) (ho : h.2 a = .inr (0, n, f)) (hi : i < n) (hn : n < 2 ^ 31) (hv : f i = v) (kk : mw_W E M d Q X bc bs (pc + 1) lo (v :: st) h) : mw_W E M d Q X bc bs pc lo (.int (nI i) :: .ref (mw_b E + a) :: st) h := by
  intro p e s m args below meth c H locs cells slots mc ms ls C hR hlocs hl hc hs
  have K := kk p e s m args below meth c H locs cells slots mc ms ls C hR hlocs hl hc hs
  exact W.iald C.1 C.2.1 (mw_arr hR ha ho) ((C.2.2.2.2.2.2.1.2 0 _ rfl).1 n f) (fun h => by cases h) (by rw [arrV_size]; exact nI_in hi hn) (by rw [nI_clamp (by omega), arrV_read _ _ hi, hv]) rfl rfl hd K
theorem mw_zald (hd : decode M.2.1 pc = .ok (.baload, 1)) (ha : a < h.1) (ho : h.2 a = .inr (1, n, f)) (hi : i < n) (hn : n < 2 ^ 31) (hv : f i = v) (kk : mw_W E M d Q X bc bs (pc + 1) lo (v :: st) h) : mw_W E M d Q X bc bs pc lo (.int (nI i) :: .ref (mw_b E + a) :: st) h := by
  intro p e s m args below meth c H locs cells slots mc ms ls C hR hlocs hl hc hs
  have K := kk p e s m args below meth c H locs cells slots mc ms ls C hR hlocs hl hc hs
  exact W.zald C.1 C.2.1 (mw_arr hR ha ho) ((C.2.2.2.2.2.2.1.2 1 _ rfl).1 n f) (fun h => by cases h) (by rw [arrV_size]; exact nI_in hi hn) (by rw [nI_clamp (by omega), arrV_read _ _ hi, hv]) rfl rfl hd K
theorem mw_lald (hd : decode M.2.1 pc = .ok (.laload, 1)) (ha : a < h.1) (ho : h.2 a = .inr (4, n, f)) (hi : i < n) (hn : n < 2 ^ 31) (hv : f i = v) (kk : mw_W E M d Q X bc bs (pc + 1) lo (v :: st) h) : mw_W E M d Q X bc bs pc lo (.int (nI i) :: .ref (mw_b E + a) :: st) h := by
  intro p e s m args below meth c H locs cells slots mc ms ls C hR hlocs hl hc hs
  have K := kk p e s m args below meth c H locs cells slots mc ms ls C hR hlocs hl hc hs
  exact W.lald C.1 C.2.1 (mw_arr hR ha ho) ((C.2.2.2.2.2.2.1.2 4 _ rfl).1 n f) (fun h => by cases h) (by rw [arrV_size]; exact nI_in hi hn) (by rw [nI_clamp (by omega), arrV_read _ _ hi, hv]) rfl rfl hd K
theorem mw_alen {t : Nat} {ty : FieldType} (hty : ∀ E : mw_E, (mw_tys E)[t]? = some (E.2.2.1 t, ty)) (hd : decode M.2.1 pc = .ok (.arraylength, 1)) (ha : a < h.1) (ho : h.2 a = .inr (t, n, f)) (kk : mw_W E M d Q X bc bs (pc + 1) lo (.int (nI n) :: st) h) : mw_W E M d Q X bc bs pc lo (.ref (mw_b E + a) :: st) h := by
  intro p e s m args below meth c H locs cells slots mc ms ls C hR hlocs hl hc hs
  have K := kk p e s m args below meth c H locs cells slots mc ms ls C hR hlocs hl hc hs
  exact W.alen (n := nI n) C.1 C.2.1 (mw_arr hR ha ho) ((C.2.2.2.2.2.2.1.2 t _ (hty E)).1 n f) (by rw [arrV_size]; rfl) rfl rfl hd K
theorem mw_iast (hd : decode M.2.1 pc = .ok (.iastore, 1)) (ha : a < h.1) (ho : h.2 a = .inr (0, n, f)) (hi : i < n) (hn : n < 2 ^ 31) (kk : mw_W E M d Q X bc bs (pc + 1) lo st (h.1, va_up h.2 a (.inr (0, n, updV f i (.int x))))) : mw_W E M d Q X bc bs pc lo (.int x :: .int (nI i) :: .ref (mw_b E + a) :: st) h := by
  intro p e s m args below meth c H locs cells slots mc ms ls C hR hlocs hl hc hs
  refine W.iast C.1 C.2.1 (mw_arr hR ha ho) ((C.2.2.2.2.2.2.1.2 0 _ rfl).1 n f) (fun h => by cases h) (by rw [arrV_size]; exact nI_in hi hn) rfl rfl hd fun H' e1 e2 e3 => ?_
  rw [nI_clamp (by omega), arrV_store] at e1
  exact kk p e s m args below meth c H' _ cells slots mc ms ls C (hR.set _ ha e2 e3 e1) (mw_locs hlocs a _) hl hc hs
theorem mw_zast (hx9 : narrow .boolean (.int x) = .int x) (hd : decode M.2.1 pc = .ok (.bastore, 1)) (ha : a < h.1) (ho : h.2 a = .inr (1, n, f)) (hi : i < n) (hn : n < 2 ^ 31) (kk : mw_W E M d Q X bc bs (pc + 1) lo st (h.1, va_up h.2 a (.inr (1, n, updV f i (.int x))))) : mw_W E M d Q X bc bs pc lo (.int x :: .int (nI i) :: .ref (mw_b E + a) :: st) h := by
  intro p e s m args below meth c H locs cells slots mc ms ls C hR hlocs hl hc hs
  refine W.zast C.1 C.2.1 (mw_arr hR ha ho) ((C.2.2.2.2.2.2.1.2 1 _ rfl).1 n f) (fun h => by cases h) (by rw [arrV_size]; exact nI_in hi hn) rfl rfl hd fun H' e1 e2 e3 => ?_
  rw [hx9, nI_clamp (by omega), arrV_store] at e1
  exact kk p e s m args below meth c H' _ cells slots mc ms ls C (hR.set _ ha e2 e3 e1) (mw_locs hlocs a _) hl hc hs
theorem mw_last {x : Int64} (hd : decode M.2.1 pc = .ok (.lastore, 1)) (ha : a < h.1) (ho : h.2 a = .inr (4, n, f)) (hi : i < n) (hn : n < 2 ^ 31) (kk : mw_W E M d Q X bc bs (pc + 1) lo st (h.1, va_up h.2 a (.inr (4, n, updV f i (.long x))))) : mw_W E M d Q X bc bs pc lo (.long x :: .int (nI i) :: .ref (mw_b E + a) :: st) h := by
  intro p e s m args below meth c H locs cells slots mc ms ls C hR hlocs hl hc hs
  refine W.last C.1 C.2.1 (mw_arr hR ha ho) ((C.2.2.2.2.2.2.1.2 4 _ rfl).1 n f) (fun h => by cases h) (by rw [arrV_size]; exact nI_in hi hn) rfl rfl hd fun H' e1 e2 e3 => ?_
  rw [nI_clamp (by omega), arrV_store] at e1
  exact kk p e s m args below meth c H' _ cells slots mc ms ls C (hR.set _ ha e2 e3 e1) (mw_locs hlocs a _) hl hc hs
/-- a PlaceSet into its array -/
theorem mw_aast {a2 : Nat} {f2 : Nat → Value} (hc9 : ∃ r : vw_C, mw_cl[ci]? = some r ∧ r.1 = mw_PS) (hd : decode M.2.1 pc = .ok (.aastore, 1)) (ha : a < h.1) (ho : h.2 a = .inr (3, n, f)) (ha2 : a2 < h.1) (ho2 : h.2 a2 = .inl (ci, f2)) (hi : i < n) (hn : n < 2 ^ 31) (kk : mw_W E M d Q X bc bs (pc + 1) lo st (h.1, va_up h.2 a (.inr (3, n, updV f i (.ref (mw_b E + a2)))))) : mw_W E M d Q X bc bs pc lo (.ref (mw_b E + a2) :: .int (nI i) :: .ref (mw_b E + a) :: st) h := by
  intro p e s m args below meth c H locs cells slots mc ms ls C hR hlocs hl hc hs
  obtain ⟨r, hr, hr1⟩ := hc9
  have h1 := hR.2.2 a2 ha2
  rw [ho2] at h1
  obtain ⟨r', h2, cellV, g1, g2, g3, -⟩ := h1
  cases hr.symm.trans h2
  have hcls := (C.2.2.2.2.2.2.1.1 ci r hr).2
  obtain ⟨kA, comp, k1, k2, k3, -⟩ := (C.2.2.2.2.2.2.1.2 3 _ rfl).2
  have hcomp : comp = E.2.1.1 ci := Option.some.inj (k3.symm.trans (by rw [← hr1]; exact hcls.1))
  subst hcomp
  obtain ⟨kC, hkC, -⟩ := hcls.2
  refine W.aast C.1 C.2.1 (mw_arr hR ha ho) (fun q h => by cases h) (fun h => by cases h) k1 k2 rfl hkC ⟨nI_pos (by omega), by rw [arrV_size, nI_clamp (by omega)]; exact hi⟩ g1 (fun q h => by rw [g3] at h; cases h) (by rw [g2]; exact hkC) (by rw [g2]; exact va_assign hcls) rfl rfl hd fun H' e1 e2 e3 => ?_
  rw [nI_clamp (by omega), arrV_store] at e1
  exact kk p e s m args below meth c H' _ cells slots mc ms ls C (hR.set _ ha e2 e3 e1) (mw_locs hlocs a _) hl hc hs
/-- new cells -/
def mw_nw (own : String) (idx ci : Nat) (ty0 : Nat → FieldType) (N : Nat) : Prop := ∃ (C : String) (T : u_T), mw_cl[ci]? = some (C, T, N) ∧ (∀ w ∈ u_ws C T N, w ∈ mw_tb) ∧ (∀ j, j < N → parseFieldDescriptor (T j).2.2.1 = some (ty0 j)) ∧ Cond.classLink own idx C ∈ mw_tb ∧ Cond.instantiable C N ∈ mw_tb ∧ Cond.initialized C ∈ mw_tb
theorem mw_new {ty0 : Nat → FieldType} {N : Nat} (hw : mw_nw M.1.cls idx ci ty0 N) (hd : decode M.2.1 pc = .ok (.new idx, 3)) (hbc : 1 ≤ bc) (hbs : N ≤ bs) (kk : mw_W E M d Q X (bc - 1) (bs - N) (pc + 3) lo (.ref (mw_b E + h.1) :: st) (h.1 + 1, va_up h.2 h.1 (.inl (ci, fun j => defaultValue (ty0 j))))) : mw_W E M d Q X bc bs pc lo st h := by
  intro p e s m args below meth c H locs cells slots mc ms ls C hR hlocs hl hc hs
  have C0 := C
  obtain ⟨hx, hb, hr9, hml, hown, hts, hK, hZ, hlk, htab, hnm, hl9⟩ := C
  obtain ⟨C9, T9, hc9, hin, hty, hcl, hins, hini⟩ := hw
  have hKn := hK.1 ci _ hc9
  refine W.newcK hx hb hown (hts _ hcl) (hts _ hins) (hts _ hini) rfl hd (by show cells + 1 ≤ mc; omega) (by show slots + N ≤ ms; omega) hKn.2.1 (h := mw_b E + h.1) hR.1 fun H1 kC hkC e1 z1 o1 => ?_
  exact kk p e s m args below meth c H1 locs (cells + 1) (slots + N) mc ms ls C0 (hR.push _ (by rw [z1, hR.1]) (fun q hq => o1 q (by rw [← hR.1]; exact hq)) ⟨_, hc9, u_born ty0 hts hin hKn hkC e1 hty⟩) hlocs hl (by omega) (by omega)
theorem mw_newa {t N : Nat} {at9 : ArrayType} {nn : Int32} (hty : ∀ E : mw_E, (mw_tys E)[t]? = some (E.2.2.1 t, newarray.typeOf at9)) (hra : ∀ (U : State) (cA : ClassId), va_RA U cA (newarray.typeOf at9) → U.vm.findClass ("[" ++ (newarray.typeOf at9).toString) = some cA) (hw : Cond.arrayClass (newarray.typeOf at9) ∈ mw_tb) (hd : decode M.2.1 pc = .ok (.newarray at9, 2)) (hn : ¬ nn < 0) (hN : nn.toNatClampNeg = N) (hbytes : N * componentBytes (newarray.typeOf at9) ≤ 536870912) (hbc : 1 ≤ bc) (hbs : N ≤ bs)
    (kk : mw_W E M d Q X (bc - 1) (bs - N) (pc + 2) lo (.ref (mw_b E + h.1) :: st) (h.1 + 1, va_up h.2 h.1 (.inr (t, N, fun _ => defaultValue (newarray.typeOf at9))))) : mw_W E M d Q X bc bs pc lo (.int nn :: st) h := by
  intro p e s m args below meth c H locs cells slots mc ms ls C hR hlocs hl hc hs
  have C0 := C
  obtain ⟨hx, hb, hr9, hml, hown, hts, hK, hZ, hlk, htab, hnm, hl9⟩ := C
  subst hN
  refine W.newa hx hb (hts _ hw) (g := F0 m pc ls (.int nn :: st)) rfl hd rfl hn hbytes (by show cells + 1 ≤ mc; omega) (by show slots + _ ≤ ms; omega) fun cA kA comp h1 h2 h3 => ?_
  have hcA : cA = E.2.2.1 t := Option.some.inj (h1.symm.trans (hra s _ (hK.2 t _ (hty E)).2))
  subst hcA
  have hz := hR.1
  rw [hz]
  refine kk p e s m args below meth c _ locs (cells + 1) (slots + nn.toNatClampNeg) mc ms ls C0 (hR.push _ (by simp) (fun q hq => by simp [Array.getElem?_push, Nat.ne_of_lt hq]) ?_) hlocs hl (by omega) (by omega)
  show (H.push _)[mw_b E + h.1]? = some _
  rw [← hz, Array.getElem?_push_size, arrV_new]
theorem mw_anew {N : Nat} {nn : Int32} (hw : Cond.classLink M.1.cls idx mw_PS ∈ mw_tb ∧ Cond.arrayOver (.object mw_PS) ∈ mw_tb) (hd : decode M.2.1 pc = .ok (.anewarray idx, 3)) (hn : ¬ nn < 0) (hN : nn.toNatClampNeg = N) (hbytes : N * 4 ≤ 536870912) (hbc : 1 ≤ bc) (hbs : N ≤ bs)
    (kk : mw_W E M d Q X (bc - 1) (bs - N) (pc + 3) lo (.ref (mw_b E + h.1) :: st) (h.1 + 1, va_up h.2 h.1 (.inr (3, N, fun _ => .null)))) : mw_W E M d Q X bc bs pc lo (.int nn :: st) h := by
  intro p e s m args below meth c H locs cells slots mc ms ls C hR hlocs hl hc hs
  have C0 := C
  obtain ⟨hx, hb, hr9, hml, hown, hts, hK, hZ, hlk, htab, hnm, hl9⟩ := C
  subst hN
  refine W.anew hx hb hown (hts _ hw.1) (hts _ hw.2) (g := F0 m pc ls (.int nn :: st)) rfl hd rfl hn hbytes (by show cells + 1 ≤ mc; omega) (by show slots + _ ≤ ms; omega) fun cA kA comp h1 h2 h3 h4 => ?_
  obtain ⟨kA', comp', k1, k2, k3, k4⟩ := (hK.2 3 _ rfl).2
  have hcA : cA = E.2.2.1 3 := Option.some.inj (h1.symm.trans k4)
  subst hcA
  have hz := hR.1
  rw [hz]
  refine kk p e s m args below meth c _ locs (cells + 1) (slots + nn.toNatClampNeg) mc ms ls C0 (hR.push _ (by simp) (fun q hq => by simp [Array.getElem?_push, Nat.ne_of_lt hq]) ?_) hlocs hl (by omega) (by omega)
  show (H.push _)[mw_b E + h.1]? = some _
  rw [← hz, Array.getElem?_push_size, arrV_new]
/-- the call of Object's constructor -/
theorem mw_obj {a9 : Nat} (hw : Cond.methodLink M.1.cls idx Lib.objectInit ∈ mw_tb ∧ Cond.instanceMethod Lib.objectInit ∈ mw_tb ∧ Cond.code Lib.objectInit ⟨#[0xb1]⟩ 1 none ∈ mw_tb) (hd : decode M.2.1 pc = .ok (.invokespecial idx, 3)) (hdd : 1 ≤ d) (hst : (st.map fun v => v.category).sum ≤ 8) (kk : mw_W E M d Q X bc bs (pc + 3) lo st h) : mw_W E M d Q X bc bs pc lo (.ref a9 :: st) h := by
  intro p e s m args below meth c H locs cells slots mc ms ls C hR hlocs hl hc hs
  have K := kk p e s m args below meth c H locs cells slots mc ms ls C hR hlocs hl hc hs
  have hrm := lv_room (m := m) (pc := pc) (ls := ls) (rest := .ref a9 :: st) hst
  exact W.objInit C.1 C.2.1 C.2.2.2.2.1 (C.2.2.2.2.2.1 _ hw.1) (C.2.2.2.2.2.1 _ hw.2.1) (C.2.2.2.2.2.1 _ hw.2.2) (g := F0 m pc ls (.ref a9 :: st)) rfl (by rw [C.2.2.2.1]; exact hl.1) rfl hd hdd (by show _ ≤ 33 * d; omega) K
/-- the script -/
theorem mw_sld {b9 : Nat} (hb9 : b9 = E.2.2.2.2.2.1) (hlt : b9 < mw_b E) (hd : decode M.2.1 pc = .ok (.iaload, 1)) (hi : i < E.2.2.2.2.2.2.1) (hn : E.2.2.2.2.2.2.1 < 2 ^ 31) (kk : mw_W E M d Q X bc bs (pc + 1) lo (.int (E.2.2.2.2.2.2.2 i) :: st) h) : mw_W E M d Q X bc bs pc lo (.int (nI i) :: .ref b9 :: st) h := by
  intro p e s m args below meth c H locs cells slots mc ms ls C hR hlocs hl hc hs
  have K := kk p e s m args below meth c H locs cells slots mc ms ls C hR hlocs hl hc hs
  obtain ⟨scr, h1, h2, h3, h4, h5⟩ := C.2.2.2.2.2.2.2.1.2
  subst hb9
  exact W.iald C.1 C.2.1 (by rw [hR.2.1 _ hlt]; exact h1) h2 h3 (by rw [h4]; exact nI_in hi hn) (by rw [nI_clamp (by omega)]; exact h5 i hi) rfl rfl hd K
theorem mw_slen {b9 : Nat} (hb9 : b9 = E.2.2.2.2.2.1) (hlt : b9 < mw_b E) (hd : decode M.2.1 pc = .ok (.arraylength, 1)) (kk : mw_W E M d Q X bc bs (pc + 1) lo (.int (nI E.2.2.2.2.2.2.1) :: st) h) : mw_W E M d Q X bc bs pc lo (.ref b9 :: st) h := by
  intro p e s m args below meth c H locs cells slots mc ms ls C hR hlocs hl hc hs
  have K := kk p e s m args below meth c H locs cells slots mc ms ls C hR hlocs hl hc hs
  obtain ⟨scr, h1, h2, h3, h4, h5⟩ := C.2.2.2.2.2.2.2.1.2
  subst hb9
  exact W.alen (n := nI E.2.2.2.2.2.2.1) C.1 C.2.1 (by rw [hR.2.1 _ hlt]; exact h1) h2 (by rw [h4]; rfl) rfl rfl hd K
/-- only the fields that there are count -/
theorem mw_fix {f' : Nat → Value} {r : vw_C} (ho : h.2 a = .inl (ci, f)) (hr : mw_cl[ci]? = some r) (hf : ∀ j, j < r.2.2 → f j = f' j) (kk : mw_W E M d Q X bc bs pc lo st (h.1, va_up h.2 a (.inl (ci, f')))) : mw_W E M d Q X bc bs pc lo st h := by
  intro p e s m args below meth c H locs cells slots mc ms ls C hR hlocs hl hc hs
  refine kk p e s m args below meth c H locs cells slots mc ms ls C ⟨hR.1, hR.2.1, fun j hj => ?_⟩ hlocs hl hc hs
  have hj' : j < h.1 := hj
  show mw_at E j (va_up h.2 a (.inl (ci, f')) j) H
  by_cases e9 : j = a
  · subst e9
    rw [mw_up_s]
    have h1 := hR.2.2 j hj'
    rw [ho] at h1
    obtain ⟨r', h2, h3⟩ := h1
    cases hr.symm.trans h2
    exact ⟨r, hr, h3.to hf⟩
  · rw [mw_up_n _ _ e9]
    exact hR.2.2 j hj'
end MwHeap
end
section
/-! A new exception without words, thrown out of the method that makes it; and caught by a method's own handler. -/
section MwThrow
variable {p : Program} {l : Launch} {e : Env} {R : Room} {s : State} {m : MethodId} {args : Array Value} {below : List Frame} {meth : Method} {c : Code} {T : State} {locs : List Loc} {cells slots : Nat}
/-- the invocation seen as if it began in the heap that it has come to -/
theorem mw_rebase (X : Stand p l e R s m args below meth c T locs cells slots) {R' : Room} (hf : R'.frames ≤ R.frames) (hl : R'.locals ≤ R.locals) (hc : cells + R'.cells ≤ R.cells) (hs : slots + R'.slots ≤ R.slots) :
    Stand p l e R' ((T.setVm s.vm).setFrames (.invoking m args :: below)) m args below meth c T [] 0 0 := by
  obtain ⟨g₀, hg0⟩ := Option.isSome_iff_exists.mp X.here.top
  obtain ⟨r, hr⟩ := State.topJava?_eq_some.mp hg0
  have htop : (T.setVm s.vm).topJava?.isSome := X.here.top
  have hfr : ((T.setVm s.vm).setFrames (.invoking m args :: below)).frames = .invoking m args :: below := State.frames_setFrames _ (State.cur_lt_of_top htop)
  have hlim : e.platform.stackLimits (T.setVm s.vm).me = e.platform.stackLimits s.me := X.limits
  have hbyt : (T.setVm s.vm).me.stackBytes = s.me.stackBytes := X.bytes
  have hsz := X.heapSize
  have hus := X.used
  have hroom : ((T.setVm s.vm).setFrames (.invoking m args :: below)).hasRoom e.platform R' = true := by
    have h0 := X.room
    have hU : ((T.setVm s.vm).setFrames (.invoking m args :: below)).localsInUse = s.localsInUse := by
      rw [State.localsInUse_invoking hfr (meth := meth) (c := c) X.method X.code, State.localsInUse_invoking X.frames X.method X.code]
    simp only [State.hasRoom, Bool.and_eq_true, decide_eq_true_eq] at h0 ⊢
    obtain ⟨⟨⟨⟨h1, h2, h3, h4, h5, h6⟩, h7⟩, h8⟩, h9⟩ := h0
    rw [X.frames, List.length_cons] at h2 h3
    simp only [hfr, hU, List.length_cons, State.stackLimits_setFrames, State.stackBytes_setFrames, hlim, hbyt]
    have i1 : T.heap.size + R'.cells ≤ e.platform.maxCells := by omega
    have i2 : T.slotsUsed + R'.slots ≤ e.platform.maxSlots := by omega
    exact ⟨⟨⟨⟨by omega, by omega, by omega, by omega, by omega, h6⟩, i1⟩, i2⟩, X.book⟩
  have hsame : ((T.setVm s.vm).setFrames (.invoking m args :: below)).sameButNew (T.setVm ((T.setVm s.vm).setFrames (.invoking m args :: below)).vm) [] 0 0 := by
    have hn : List.drop T.heap.size T.heap.toList = [] := List.drop_eq_nil_of_le (Nat.le_of_eq Array.length_toList)
    refine ⟨?_, Nat.le_refl _, Nat.le_refl _, ?_, ?_, fun a c9 h9 => ⟨c9, h9, rfl, rfl, fun _ _ => rfl⟩⟩
    · have hr2 : (T.setVm s.vm).frames = .java g₀ :: r := hr
      obtain ⟨t, ht, -⟩ := State.frames_cons hr2
      show T.setVm s.vm = { ((T.setVm s.vm).setFrames (.invoking m args :: below)).setFrames (T.setVm s.vm).frames with heap := T.heap, slotsUsed := T.slotsUsed }
      rw [State.setFrames_setFrames, State.setFrames_self ht]
      rfl
    · show T.slotsUsed = T.slotsUsed + ((T.heap.toList.drop T.heap.size).map (·.slots.size)).sum
      rw [hn]
      rfl
    · show ((T.heap.toList.drop T.heap.size).map (·.slots.size)).sum ≤ 0
      rw [hn]
      exact Nat.le_refl _
  exact ⟨X.admits, X.cas, X.clock, hfr, hroom, X.hears, X.method, X.code, X.here, X.tail, X.warmed, by rw [State.stackLimits_setFrames]; rfl, by rw [State.stackBytes_setFrames]; rfl, hsame⟩
theorem mw_old {s U : State} {k n : Nat} (h : s.sameButNew U [] k n) : s.heap.size ≤ U.heap.size ∧ U.heap.size ≤ s.heap.size + k ∧ ∀ q : Nat, q < s.heap.size → U.heap[q]? = s.heap[q]? := by
  obtain ⟨-, h2, h3, -, -, h6⟩ := h
  refine ⟨h2, h3, fun q hq => ?_⟩
  obtain ⟨c9, e1, e2, -, e4⟩ := h6 q _ (Array.getElem?_eq_getElem hq)
  have hs : c9.slots = (s.heap[q]).slots := Array.ext_getElem? fun i => e4 i (fun hm => nomatch hm)
  rw [hs] at e2
  rw [e1, e2, Array.getElem?_eq_getElem hq]
end MwThrow
section MwThrow2
variable {E : mw_E} {M : mw_M} {d bc bs pc k : Nat} {Q : Option Value → mw_H → Prop} {X : Nat → mw_H → Prop} {lo : List (Option Value)} {st : List Value} {h : mw_H}
set_option maxHeartbeats 4000000 in
theorem mw_throw {cls : String} {names : List String} {T9 : u_T} {ik ic cx : Nat} (hcx : mw_cl[cx]? = some (cls, T9, 0)) (hcls : Bundle.fit cls = true) (hnames : ∀ n ∈ names, Bundle.fit n = true) (hw : ∀ w ∈ Bundle.ownAtoms0 M.1.cls ic cls names, w ∈ mw_tb ∨ w ∈ mw_zw) (hk : Cond.classLink M.1.cls ik cls ∈ mw_tb) (hini : Cond.initialized cls ∈ mw_tb)
    (d0 : decode M.2.1 pc = .ok (.new ik, 3)) (d3 : decode M.2.1 (pc + 3) = .ok (.dup, 1)) (d4 : decode M.2.1 (pc + 4) = .ok (.invokespecial ic, 3)) (d7 : decode M.2.1 (pc + 7) = .ok (.athrow, 1)) (hout : ∀ x ∈ tableOf M.2.2.2.2, covers x (pc + 7) = false)
    (hn9 : names.length = 2) (hdd : 6 ≤ d) (hst : (st.map fun v => v.category).sum ≤ 8) (hbc : 1 ≤ bc) (hbs : 6 ≤ bs) (hx9 : X h.1 (h.1 + 1, va_up h.2 h.1 (.inl (cx, fun _ => .null)))) : mw_W E M d Q X bc bs pc lo st h := by
  intro p e s m args below meth c H locs cells slots mc ms ls C hR hlocs hl hc hs T hT X0
  subst hT
  obtain ⟨hx, hb, hr9, hml, hown, hts, hK, hZ, hlk, htab, hnm, hl9⟩ := C
  have htr : e.platform.stackTraces = false := (show e.platform.stackTraces = E.1.stackTraces by rw [X0.admits.platform]).trans hl9
  have Y := mw_rebase X0 (R' := { frames := d, locals := 33 * d, cells := 1, slots := 6 }) (Nat.le_refl _) (Nat.le_refl _) (by show cells + 1 ≤ mc; omega) (by show slots + 6 ≤ ms; omega)
  obtain ⟨s', hs'⟩ : ∃ z, z = (T.setVm s.vm).setFrames (.invoking m args :: below) := ⟨_, rfl⟩
  rw [← hs'] at Y
  have hvm : s'.vm = s.vm := by rw [hs']; rfl
  have hhp : s'.heap = T.heap := by rw [hs']; rfl
  have hW0 : s.WarmedH s'.vm := by rw [hvm]; exact State.WarmedH.refl s
  have hall : ∀ w ∈ Bundle.ownAtoms0 M.1.cls ic cls names, w.before args s' = true := fun w hw9 => by
    rcases hw w hw9 with h1 | h1
    · exact mw_words hts hW0 h1
    · exact hZ.1 s' args hW0.alike (by rw [hhp]; exact hR.2.1) w h1
  have hown' : s'.vm.findClass M.1.cls = some m.cls := by rw [hvm]; exact hown
  have hins : (Cond.instantiable cls 6).before args s' = true := hall _ (by simp [Bundle.ownAtoms0])
  obtain ⟨vm₁, cX, kX, hfX, hkX, -, -, X₁, st1⟩ := Y.newCold hx (own := M.1.cls) (C := cls) (index := ik) (n := 6) hown' (mw_words hts hW0 hk) hins (mw_words hts hW0 hini)
    (g := F0 m pc ls st) rfl (by rw [hb]; exact d0) (Nat.le_refl _) (Nat.le_refl _)
  generalize hT1 : (T.setVm vm₁).pushCell { cls := cX, slots := kX.instanceTypes.map defaultValue, vm := .none } = T1 at X₁ st1
  have hcellA : T1.heap[T.heap.size]? = some (freshCell cX kX) := by rw [← hT1]; exact State.heap_pushCell_size _ _
  have hcat : (Value.ref T.heap.size).category = 1 := rfl
  have d3' : decode c.code (pc + 3) = .ok (.dup, 1) := by rw [hb]; exact d3
  have hrm := lv_room (m := m) (pc := pc) (ls := ls) (rest := st) hst
  obtain ⟨U, hsteps, hrun, hend, hW, hsame, ce, hce, hO⟩ := X₁.ctorThrow0 hx htr (own := M.1.cls) (cls := cls) (names := names) (ic := ic) hown' hcls hnames hall (fun x hx => nomatch hx) hfX hkX hcellA (by rw [hhp]; exact Nat.le_refl _)
    (g := { method := m, pc := pc + 4, locals := ls, stack := .ref T.heap.size :: .ref T.heap.size :: st, locked := none }) rfl (hl.1.trans hml.symm) rfl rfl (rest := st) rfl
    (by rw [hb]; exact d4) (by rw [hb]; exact d7) (by rw [htab]; exact hout) (by show names.length + 3 < d; omega)
    (by
      have hrm' : 2 * JFrame.monitorRoom { method := m, pc := pc + 4, locals := ls, stack := .ref T.heap.size :: .ref T.heap.size :: st, locked := none } + (st.map fun v => v.category).sum ≤ 8 := hrm
      show _ ≤ 33 * d
      simp only [List.map_cons, List.sum_cons, hcat, hn9]
      omega) hlk
  obtain ⟨f1, f2, f3⟩ := mw_old hsame
  rw [hhp] at f1 f2 f3
  have hz : U.heap.size = T.heap.size + 1 := by
    have h1 : T.heap.size < U.heap.size := (Array.getElem?_eq_some_iff.mp hce).1
    have h2 : U.heap.size ≤ T.heap.size + (0 + 1) := f2
    omega
  have hWs : s.WarmedH U.vm := State.WarmedH.trans hW0 hW
  have hcl : s.vm.findClass cls = some ce.cls := by
    have h9 := hO.cls
    rw [hvm] at h9
    exact h9
  have hsz := hR.1
  have hRU : mw_R E (h.1 + 1, va_up h.2 h.1 (.inl (cx, fun _ => .null))) U.heap := by
    refine hR.push _ hz f3 ⟨_, hcx, ce, ?_, ?_, hO.vm, fun k hk => absurd hk (Nat.not_lt_zero k)⟩
    · rw [← hsz]; exact hce
    · exact Option.some.inj (hcl.symm.trans (hK.1 cx _ hcx).2.1)
  have hfr : s.sameButNew ({ U with vm := s.vm } : State) locs mc ms := by
    subst hs'
    obtain ⟨e1, e2⟩ := hsame
    rw [State.setFrames_setFrames] at e1
    have h2 : (T.setVm s.vm).sameButNew ({ U with vm := s.vm } : State) [] (0 + 1) (0 + 6) := ⟨e1, e2⟩
    have h3 := X0.same.trans h2
    rw [List.append_nil] at h3
    exact h3.mono (by omega) (by omega)
  refine ⟨U, ?_, .threw T.heap.size, hrun, hend, ⟨_, hRU, Or.inr ⟨h.1, by rw [hsz], hx9⟩⟩, locs, hWs, hfr, hlocs⟩
  refine st1 _ ?_
  show Steps p.tables e below (T1.setTop { method := m, pc := pc + 3, locals := ls, stack := .ref T.heap.size :: st, locked := none }) _
  jvm_step X₁.here [X₁.here.top, hx, d3']
  exact ⟨hcat, hsteps⟩
end MwThrow2
end
section
/-! Calls by the number of arguments: with an exact end (value v0, or none), or with two ends. -/
section MwCallX
variable {E : mw_E} {M M' : mw_M} {d d' bc' bs' bc bs pc idx a ci : Nat} {h h2 : mw_H} {Q Q' : Option Value → mw_H → Prop} {X X' : Nat → mw_H → Prop} {lo : List (Option Value)} {st : List Value} {f : Nat → Value} {v0 : Value}
theorem mw_cS1 {x0 : Value} (hw : mw_lkS M M' idx 1) (hd : decode M.2.1 pc = .ok (.invokestatic idx, 3)) (hsl : (lg_sl [x0]).length ≤ M'.2.2.1) (hC : mw_Ct E M' d' bc' bs' [x0] h Q' X') (hdd : d' + 1 ≤ d) (hst : (st.map fun v => v.category).sum ≤ 8) (hbc : bc' ≤ bc) (hbs : bs' ≤ bs) (kr : ∀ v h', Q' v h' → mw_W E M d Q X (bc - bc') (bs - bs') (pc + 3) lo (v.toList ++ st) h') (kx : ∀ k h', X' k h' → mw_T E M d Q X (bc - bc') (bs - bs') pc lo k h') : mw_W E M d Q X bc bs pc lo (x0 :: st) h :=
  mw_callS (As := [x0]) hw hd rfl hsl hC hdd hst hbc hbs kr kx
theorem mw_cS1e {x0 : Value} (hw : mw_lkS M M' idx 1) (hd : decode M.2.1 pc = .ok (.invokestatic idx, 3)) (hsl : (lg_sl [x0]).length ≤ M'.2.2.1) (hC : mw_Ct E M' d' bc' bs' [x0] h (fun v h' => v = some v0 ∧ h' = h2) mw_no) (hdd : d' + 1 ≤ d) (hst : (st.map fun v => v.category).sum ≤ 8) (hbc : bc' ≤ bc) (hbs : bs' ≤ bs) (k : mw_W E M d Q X (bc - bc') (bs - bs') (pc + 3) lo (v0 :: st) h2) : mw_W E M d Q X bc bs pc lo (x0 :: st) h :=
  mw_callS (As := [x0]) hw hd rfl hsl hC hdd hst hbc hbs (by rintro v h' ⟨rfl, rfl⟩; exact k) (fun _ _ q => q.elim)
theorem mw_cS1v {x0 : Value} (hw : mw_lkS M M' idx 1) (hd : decode M.2.1 pc = .ok (.invokestatic idx, 3)) (hsl : (lg_sl [x0]).length ≤ M'.2.2.1) (hC : mw_Ct E M' d' bc' bs' [x0] h (fun v h' => v = none ∧ h' = h2) mw_no) (hdd : d' + 1 ≤ d) (hst : (st.map fun v => v.category).sum ≤ 8) (hbc : bc' ≤ bc) (hbs : bs' ≤ bs) (k : mw_W E M d Q X (bc - bc') (bs - bs') (pc + 3) lo st h2) : mw_W E M d Q X bc bs pc lo (x0 :: st) h :=
  mw_callS (As := [x0]) hw hd rfl hsl hC hdd hst hbc hbs (by rintro v h' ⟨rfl, rfl⟩; exact k) (fun _ _ q => q.elim)
theorem mw_cS2 {x0 x1 : Value} (hw : mw_lkS M M' idx 2) (hd : decode M.2.1 pc = .ok (.invokestatic idx, 3)) (hsl : (lg_sl [x0, x1]).length ≤ M'.2.2.1) (hC : mw_Ct E M' d' bc' bs' [x0, x1] h Q' X') (hdd : d' + 1 ≤ d) (hst : (st.map fun v => v.category).sum ≤ 8) (hbc : bc' ≤ bc) (hbs : bs' ≤ bs) (kr : ∀ v h', Q' v h' → mw_W E M d Q X (bc - bc') (bs - bs') (pc + 3) lo (v.toList ++ st) h') (kx : ∀ k h', X' k h' → mw_T E M d Q X (bc - bc') (bs - bs') pc lo k h') : mw_W E M d Q X bc bs pc lo (x1 :: x0 :: st) h :=
  mw_callS (As := [x0, x1]) hw hd rfl hsl hC hdd hst hbc hbs kr kx
theorem mw_cS2e {x0 x1 : Value} (hw : mw_lkS M M' idx 2) (hd : decode M.2.1 pc = .ok (.invokestatic idx, 3)) (hsl : (lg_sl [x0, x1]).length ≤ M'.2.2.1) (hC : mw_Ct E M' d' bc' bs' [x0, x1] h (fun v h' => v = some v0 ∧ h' = h2) mw_no) (hdd : d' + 1 ≤ d) (hst : (st.map fun v => v.category).sum ≤ 8) (hbc : bc' ≤ bc) (hbs : bs' ≤ bs) (k : mw_W E M d Q X (bc - bc') (bs - bs') (pc + 3) lo (v0 :: st) h2) : mw_W E M d Q X bc bs pc lo (x1 :: x0 :: st) h :=
  mw_callS (As := [x0, x1]) hw hd rfl hsl hC hdd hst hbc hbs (by rintro v h' ⟨rfl, rfl⟩; exact k) (fun _ _ q => q.elim)
theorem mw_cS2v {x0 x1 : Value} (hw : mw_lkS M M' idx 2) (hd : decode M.2.1 pc = .ok (.invokestatic idx, 3)) (hsl : (lg_sl [x0, x1]).length ≤ M'.2.2.1) (hC : mw_Ct E M' d' bc' bs' [x0, x1] h (fun v h' => v = none ∧ h' = h2) mw_no) (hdd : d' + 1 ≤ d) (hst : (st.map fun v => v.category).sum ≤ 8) (hbc : bc' ≤ bc) (hbs : bs' ≤ bs) (k : mw_W E M d Q X (bc - bc') (bs - bs') (pc + 3) lo st h2) : mw_W E M d Q X bc bs pc lo (x1 :: x0 :: st) h :=
  mw_callS (As := [x0, x1]) hw hd rfl hsl hC hdd hst hbc hbs (by rintro v h' ⟨rfl, rfl⟩; exact k) (fun _ _ q => q.elim)
theorem mw_cS3 {x0 x1 x2 : Value} (hw : mw_lkS M M' idx 3) (hd : decode M.2.1 pc = .ok (.invokestatic idx, 3)) (hsl : (lg_sl [x0, x1, x2]).length ≤ M'.2.2.1) (hC : mw_Ct E M' d' bc' bs' [x0, x1, x2] h Q' X') (hdd : d' + 1 ≤ d) (hst : (st.map fun v => v.category).sum ≤ 8) (hbc : bc' ≤ bc) (hbs : bs' ≤ bs) (kr : ∀ v h', Q' v h' → mw_W E M d Q X (bc - bc') (bs - bs') (pc + 3) lo (v.toList ++ st) h') (kx : ∀ k h', X' k h' → mw_T E M d Q X (bc - bc') (bs - bs') pc lo k h') : mw_W E M d Q X bc bs pc lo (x2 :: x1 :: x0 :: st) h :=
  mw_callS (As := [x0, x1, x2]) hw hd rfl hsl hC hdd hst hbc hbs kr kx
theorem mw_cS3e {x0 x1 x2 : Value} (hw : mw_lkS M M' idx 3) (hd : decode M.2.1 pc = .ok (.invokestatic idx, 3)) (hsl : (lg_sl [x0, x1, x2]).length ≤ M'.2.2.1) (hC : mw_Ct E M' d' bc' bs' [x0, x1, x2] h (fun v h' => v = some v0 ∧ h' = h2) mw_no) (hdd : d' + 1 ≤ d) (hst : (st.map fun v => v.category).sum ≤ 8) (hbc : bc' ≤ bc) (hbs : bs' ≤ bs) (k : mw_W E M d Q X (bc - bc') (bs - bs') (pc + 3) lo (v0 :: st) h2) : mw_W E M d Q X bc bs pc lo (x2 :: x1 :: x0 :: st) h :=
  mw_callS (As := [x0, x1, x2]) hw hd rfl hsl hC hdd hst hbc hbs (by rintro v h' ⟨rfl, rfl⟩; exact k) (fun _ _ q => q.elim)
theorem mw_cS3v {x0 x1 x2 : Value} (hw : mw_lkS M M' idx 3) (hd : decode M.2.1 pc = .ok (.invokestatic idx, 3)) (hsl : (lg_sl [x0, x1, x2]).length ≤ M'.2.2.1) (hC : mw_Ct E M' d' bc' bs' [x0, x1, x2] h (fun v h' => v = none ∧ h' = h2) mw_no) (hdd : d' + 1 ≤ d) (hst : (st.map fun v => v.category).sum ≤ 8) (hbc : bc' ≤ bc) (hbs : bs' ≤ bs) (k : mw_W E M d Q X (bc - bc') (bs - bs') (pc + 3) lo st h2) : mw_W E M d Q X bc bs pc lo (x2 :: x1 :: x0 :: st) h :=
  mw_callS (As := [x0, x1, x2]) hw hd rfl hsl hC hdd hst hbc hbs (by rintro v h' ⟨rfl, rfl⟩; exact k) (fun _ _ q => q.elim)
theorem mw_cS4 {x0 x1 x2 x3 : Value} (hw : mw_lkS M M' idx 4) (hd : decode M.2.1 pc = .ok (.invokestatic idx, 3)) (hsl : (lg_sl [x0, x1, x2, x3]).length ≤ M'.2.2.1) (hC : mw_Ct E M' d' bc' bs' [x0, x1, x2, x3] h Q' X') (hdd : d' + 1 ≤ d) (hst : (st.map fun v => v.category).sum ≤ 8) (hbc : bc' ≤ bc) (hbs : bs' ≤ bs) (kr : ∀ v h', Q' v h' → mw_W E M d Q X (bc - bc') (bs - bs') (pc + 3) lo (v.toList ++ st) h') (kx : ∀ k h', X' k h' → mw_T E M d Q X (bc - bc') (bs - bs') pc lo k h') : mw_W E M d Q X bc bs pc lo (x3 :: x2 :: x1 :: x0 :: st) h :=
  mw_callS (As := [x0, x1, x2, x3]) hw hd rfl hsl hC hdd hst hbc hbs kr kx
theorem mw_cS4e {x0 x1 x2 x3 : Value} (hw : mw_lkS M M' idx 4) (hd : decode M.2.1 pc = .ok (.invokestatic idx, 3)) (hsl : (lg_sl [x0, x1, x2, x3]).length ≤ M'.2.2.1) (hC : mw_Ct E M' d' bc' bs' [x0, x1, x2, x3] h (fun v h' => v = some v0 ∧ h' = h2) mw_no) (hdd : d' + 1 ≤ d) (hst : (st.map fun v => v.category).sum ≤ 8) (hbc : bc' ≤ bc) (hbs : bs' ≤ bs) (k : mw_W E M d Q X (bc - bc') (bs - bs') (pc + 3) lo (v0 :: st) h2) : mw_W E M d Q X bc bs pc lo (x3 :: x2 :: x1 :: x0 :: st) h :=
  mw_callS (As := [x0, x1, x2, x3]) hw hd rfl hsl hC hdd hst hbc hbs (by rintro v h' ⟨rfl, rfl⟩; exact k) (fun _ _ q => q.elim)
theorem mw_cS4v {x0 x1 x2 x3 : Value} (hw : mw_lkS M M' idx 4) (hd : decode M.2.1 pc = .ok (.invokestatic idx, 3)) (hsl : (lg_sl [x0, x1, x2, x3]).length ≤ M'.2.2.1) (hC : mw_Ct E M' d' bc' bs' [x0, x1, x2, x3] h (fun v h' => v = none ∧ h' = h2) mw_no) (hdd : d' + 1 ≤ d) (hst : (st.map fun v => v.category).sum ≤ 8) (hbc : bc' ≤ bc) (hbs : bs' ≤ bs) (k : mw_W E M d Q X (bc - bc') (bs - bs') (pc + 3) lo st h2) : mw_W E M d Q X bc bs pc lo (x3 :: x2 :: x1 :: x0 :: st) h :=
  mw_callS (As := [x0, x1, x2, x3]) hw hd rfl hsl hC hdd hst hbc hbs (by rintro v h' ⟨rfl, rfl⟩; exact k) (fun _ _ q => q.elim)
theorem mw_cS5 {x0 x1 x2 x3 x4 : Value} (hw : mw_lkS M M' idx 5) (hd : decode M.2.1 pc = .ok (.invokestatic idx, 3)) (hsl : (lg_sl [x0, x1, x2, x3, x4]).length ≤ M'.2.2.1) (hC : mw_Ct E M' d' bc' bs' [x0, x1, x2, x3, x4] h Q' X') (hdd : d' + 1 ≤ d) (hst : (st.map fun v => v.category).sum ≤ 8) (hbc : bc' ≤ bc) (hbs : bs' ≤ bs) (kr : ∀ v h', Q' v h' → mw_W E M d Q X (bc - bc') (bs - bs') (pc + 3) lo (v.toList ++ st) h') (kx : ∀ k h', X' k h' → mw_T E M d Q X (bc - bc') (bs - bs') pc lo k h') : mw_W E M d Q X bc bs pc lo (x4 :: x3 :: x2 :: x1 :: x0 :: st) h :=
  mw_callS (As := [x0, x1, x2, x3, x4]) hw hd rfl hsl hC hdd hst hbc hbs kr kx
theorem mw_cS5e {x0 x1 x2 x3 x4 : Value} (hw : mw_lkS M M' idx 5) (hd : decode M.2.1 pc = .ok (.invokestatic idx, 3)) (hsl : (lg_sl [x0, x1, x2, x3, x4]).length ≤ M'.2.2.1) (hC : mw_Ct E M' d' bc' bs' [x0, x1, x2, x3, x4] h (fun v h' => v = some v0 ∧ h' = h2) mw_no) (hdd : d' + 1 ≤ d) (hst : (st.map fun v => v.category).sum ≤ 8) (hbc : bc' ≤ bc) (hbs : bs' ≤ bs) (k : mw_W E M d Q X (bc - bc') (bs - bs') (pc + 3) lo (v0 :: st) h2) : mw_W E M d Q X bc bs pc lo (x4 :: x3 :: x2 :: x1 :: x0 :: st) h :=
  mw_callS (As := [x0, x1, x2, x3, x4]) hw hd rfl hsl hC hdd hst hbc hbs (by rintro v h' ⟨rfl, rfl⟩; exact k) (fun _ _ q => q.elim)
theorem mw_cS5v {x0 x1 x2 x3 x4 : Value} (hw : mw_lkS M M' idx 5) (hd : decode M.2.1 pc = .ok (.invokestatic idx, 3)) (hsl : (lg_sl [x0, x1, x2, x3, x4]).length ≤ M'.2.2.1) (hC : mw_Ct E M' d' bc' bs' [x0, x1, x2, x3, x4] h (fun v h' => v = none ∧ h' = h2) mw_no) (hdd : d' + 1 ≤ d) (hst : (st.map fun v => v.category).sum ≤ 8) (hbc : bc' ≤ bc) (hbs : bs' ≤ bs) (k : mw_W E M d Q X (bc - bc') (bs - bs') (pc + 3) lo st h2) : mw_W E M d Q X bc bs pc lo (x4 :: x3 :: x2 :: x1 :: x0 :: st) h :=
  mw_callS (As := [x0, x1, x2, x3, x4]) hw hd rfl hsl hC hdd hst hbc hbs (by rintro v h' ⟨rfl, rfl⟩; exact k) (fun _ _ q => q.elim)
theorem mw_cV0 (hw : mw_lkV M M' idx 0 ci) (hd : decode M.2.1 pc = .ok (.invokevirtual idx, 3)) (ha : a < h.1) (ho : h.2 a = .inl (ci, f)) (hsl : (lg_sl (.ref (mw_b E + a) :: [])).length ≤ M'.2.2.1) (hC : mw_Ct E M' d' bc' bs' (.ref (mw_b E + a) :: []) h Q' X') (hdd : d' + 1 ≤ d) (hst : (st.map fun v => v.category).sum ≤ 8) (hbc : bc' ≤ bc) (hbs : bs' ≤ bs) (kr : ∀ v h', Q' v h' → mw_W E M d Q X (bc - bc') (bs - bs') (pc + 3) lo (v.toList ++ st) h') (kx : ∀ k h', X' k h' → mw_T E M d Q X (bc - bc') (bs - bs') pc lo k h') : mw_W E M d Q X bc bs pc lo (.ref (mw_b E + a) :: st) h :=
  mw_callV (As := []) hw hd ha ho rfl hsl hC hdd hst hbc hbs kr kx
theorem mw_cV0e (hw : mw_lkV M M' idx 0 ci) (hd : decode M.2.1 pc = .ok (.invokevirtual idx, 3)) (ha : a < h.1) (ho : h.2 a = .inl (ci, f)) (hsl : (lg_sl (.ref (mw_b E + a) :: [])).length ≤ M'.2.2.1) (hC : mw_Ct E M' d' bc' bs' (.ref (mw_b E + a) :: []) h (fun v h' => v = some v0 ∧ h' = h2) mw_no) (hdd : d' + 1 ≤ d) (hst : (st.map fun v => v.category).sum ≤ 8) (hbc : bc' ≤ bc) (hbs : bs' ≤ bs) (k : mw_W E M d Q X (bc - bc') (bs - bs') (pc + 3) lo (v0 :: st) h2) : mw_W E M d Q X bc bs pc lo (.ref (mw_b E + a) :: st) h :=
  mw_callV (As := []) hw hd ha ho rfl hsl hC hdd hst hbc hbs (by rintro v h' ⟨rfl, rfl⟩; exact k) (fun _ _ q => q.elim)
theorem mw_cV0v (hw : mw_lkV M M' idx 0 ci) (hd : decode M.2.1 pc = .ok (.invokevirtual idx, 3)) (ha : a < h.1) (ho : h.2 a = .inl (ci, f)) (hsl : (lg_sl (.ref (mw_b E + a) :: [])).length ≤ M'.2.2.1) (hC : mw_Ct E M' d' bc' bs' (.ref (mw_b E + a) :: []) h (fun v h' => v = none ∧ h' = h2) mw_no) (hdd : d' + 1 ≤ d) (hst : (st.map fun v => v.category).sum ≤ 8) (hbc : bc' ≤ bc) (hbs : bs' ≤ bs) (k : mw_W E M d Q X (bc - bc') (bs - bs') (pc + 3) lo st h2) : mw_W E M d Q X bc bs pc lo (.ref (mw_b E + a) :: st) h :=
  mw_callV (As := []) hw hd ha ho rfl hsl hC hdd hst hbc hbs (by rintro v h' ⟨rfl, rfl⟩; exact k) (fun _ _ q => q.elim)
theorem mw_cV1 {x0 : Value} (hw : mw_lkV M M' idx 1 ci) (hd : decode M.2.1 pc = .ok (.invokevirtual idx, 3)) (ha : a < h.1) (ho : h.2 a = .inl (ci, f)) (hsl : (lg_sl (.ref (mw_b E + a) :: [x0])).length ≤ M'.2.2.1) (hC : mw_Ct E M' d' bc' bs' (.ref (mw_b E + a) :: [x0]) h Q' X') (hdd : d' + 1 ≤ d) (hst : (st.map fun v => v.category).sum ≤ 8) (hbc : bc' ≤ bc) (hbs : bs' ≤ bs) (kr : ∀ v h', Q' v h' → mw_W E M d Q X (bc - bc') (bs - bs') (pc + 3) lo (v.toList ++ st) h') (kx : ∀ k h', X' k h' → mw_T E M d Q X (bc - bc') (bs - bs') pc lo k h') : mw_W E M d Q X bc bs pc lo (x0 :: .ref (mw_b E + a) :: st) h :=
  mw_callV (As := [x0]) hw hd ha ho rfl hsl hC hdd hst hbc hbs kr kx
theorem mw_cV1e {x0 : Value} (hw : mw_lkV M M' idx 1 ci) (hd : decode M.2.1 pc = .ok (.invokevirtual idx, 3)) (ha : a < h.1) (ho : h.2 a = .inl (ci, f)) (hsl : (lg_sl (.ref (mw_b E + a) :: [x0])).length ≤ M'.2.2.1) (hC : mw_Ct E M' d' bc' bs' (.ref (mw_b E + a) :: [x0]) h (fun v h' => v = some v0 ∧ h' = h2) mw_no) (hdd : d' + 1 ≤ d) (hst : (st.map fun v => v.category).sum ≤ 8) (hbc : bc' ≤ bc) (hbs : bs' ≤ bs) (k : mw_W E M d Q X (bc - bc') (bs - bs') (pc + 3) lo (v0 :: st) h2) : mw_W E M d Q X bc bs pc lo (x0 :: .ref (mw_b E + a) :: st) h :=
  mw_callV (As := [x0]) hw hd ha ho rfl hsl hC hdd hst hbc hbs (by rintro v h' ⟨rfl, rfl⟩; exact k) (fun _ _ q => q.elim)
theorem mw_cV1v {x0 : Value} (hw : mw_lkV M M' idx 1 ci) (hd : decode M.2.1 pc = .ok (.invokevirtual idx, 3)) (ha : a < h.1) (ho : h.2 a = .inl (ci, f)) (hsl : (lg_sl (.ref (mw_b E + a) :: [x0])).length ≤ M'.2.2.1) (hC : mw_Ct E M' d' bc' bs' (.ref (mw_b E + a) :: [x0]) h (fun v h' => v = none ∧ h' = h2) mw_no) (hdd : d' + 1 ≤ d) (hst : (st.map fun v => v.category).sum ≤ 8) (hbc : bc' ≤ bc) (hbs : bs' ≤ bs) (k : mw_W E M d Q X (bc - bc') (bs - bs') (pc + 3) lo st h2) : mw_W E M d Q X bc bs pc lo (x0 :: .ref (mw_b E + a) :: st) h :=
  mw_callV (As := [x0]) hw hd ha ho rfl hsl hC hdd hst hbc hbs (by rintro v h' ⟨rfl, rfl⟩; exact k) (fun _ _ q => q.elim)
theorem mw_cV2 {x0 x1 : Value} (hw : mw_lkV M M' idx 2 ci) (hd : decode M.2.1 pc = .ok (.invokevirtual idx, 3)) (ha : a < h.1) (ho : h.2 a = .inl (ci, f)) (hsl : (lg_sl (.ref (mw_b E + a) :: [x0, x1])).length ≤ M'.2.2.1) (hC : mw_Ct E M' d' bc' bs' (.ref (mw_b E + a) :: [x0, x1]) h Q' X') (hdd : d' + 1 ≤ d) (hst : (st.map fun v => v.category).sum ≤ 8) (hbc : bc' ≤ bc) (hbs : bs' ≤ bs) (kr : ∀ v h', Q' v h' → mw_W E M d Q X (bc - bc') (bs - bs') (pc + 3) lo (v.toList ++ st) h') (kx : ∀ k h', X' k h' → mw_T E M d Q X (bc - bc') (bs - bs') pc lo k h') : mw_W E M d Q X bc bs pc lo (x1 :: x0 :: .ref (mw_b E + a) :: st) h :=
  mw_callV (As := [x0, x1]) hw hd ha ho rfl hsl hC hdd hst hbc hbs kr kx
theorem mw_cV2e {x0 x1 : Value} (hw : mw_lkV M M' idx 2 ci) (hd : decode M.2.1 pc = .ok (.invokevirtual idx, 3)) (ha : a < h.1) (ho : h.2 a = .inl (ci, f)) (hsl : (lg_sl (.ref (mw_b E + a) :: [x0, x1])).length ≤ M'.2.2.1) (hC : mw_Ct E M' d' bc' bs' (.ref (mw_b E + a) :: [x0, x1]) h (fun v h' => v = some v0 ∧ h' = h2) mw_no) (hdd : d' + 1 ≤ d) (hst : (st.map fun v => v.category).sum ≤ 8) (hbc : bc' ≤ bc) (hbs : bs' ≤ bs) (k : mw_W E M d Q X (bc - bc') (bs - bs') (pc + 3) lo (v0 :: st) h2) : mw_W E M d Q X bc bs pc lo (x1 :: x0 :: .ref (mw_b E + a) :: st) h :=
  mw_callV (As := [x0, x1]) hw hd ha ho rfl hsl hC hdd hst hbc hbs (by rintro v h' ⟨rfl, rfl⟩; exact k) (fun _ _ q => q.elim)
theorem mw_cV2v {x0 x1 : Value} (hw : mw_lkV M M' idx 2 ci) (hd : decode M.2.1 pc = .ok (.invokevirtual idx, 3)) (ha : a < h.1) (ho : h.2 a = .inl (ci, f)) (hsl : (lg_sl (.ref (mw_b E + a) :: [x0, x1])).length ≤ M'.2.2.1) (hC : mw_Ct E M' d' bc' bs' (.ref (mw_b E + a) :: [x0, x1]) h (fun v h' => v = none ∧ h' = h2) mw_no) (hdd : d' + 1 ≤ d) (hst : (st.map fun v => v.category).sum ≤ 8) (hbc : bc' ≤ bc) (hbs : bs' ≤ bs) (k : mw_W E M d Q X (bc - bc') (bs - bs') (pc + 3) lo st h2) : mw_W E M d Q X bc bs pc lo (x1 :: x0 :: .ref (mw_b E + a) :: st) h :=
  mw_callV (As := [x0, x1]) hw hd ha ho rfl hsl hC hdd hst hbc hbs (by rintro v h' ⟨rfl, rfl⟩; exact k) (fun _ _ q => q.elim)
theorem mw_cV3 {x0 x1 x2 : Value} (hw : mw_lkV M M' idx 3 ci) (hd : decode M.2.1 pc = .ok (.invokevirtual idx, 3)) (ha : a < h.1) (ho : h.2 a = .inl (ci, f)) (hsl : (lg_sl (.ref (mw_b E + a) :: [x0, x1, x2])).length ≤ M'.2.2.1) (hC : mw_Ct E M' d' bc' bs' (.ref (mw_b E + a) :: [x0, x1, x2]) h Q' X') (hdd : d' + 1 ≤ d) (hst : (st.map fun v => v.category).sum ≤ 8) (hbc : bc' ≤ bc) (hbs : bs' ≤ bs) (kr : ∀ v h', Q' v h' → mw_W E M d Q X (bc - bc') (bs - bs') (pc + 3) lo (v.toList ++ st) h') (kx : ∀ k h', X' k h' → mw_T E M d Q X (bc - bc') (bs - bs') pc lo k h') : mw_W E M d Q X bc bs pc lo (x2 :: x1 :: x0 :: .ref (mw_b E + a) :: st) h :=
  mw_callV (As := [x0, x1, x2]) hw hd ha ho rfl hsl hC hdd hst hbc hbs kr kx
theorem mw_cV3e {x0 x1 x2 : Value} (hw : mw_lkV M M' idx 3 ci) (hd : decode M.2.1 pc = .ok (.invokevirtual idx, 3)) (ha : a < h.1) (ho : h.2 a = .inl (ci, f)) (hsl : (lg_sl (.ref (mw_b E + a) :: [x0, x1, x2])).length ≤ M'.2.2.1) (hC : mw_Ct E M' d' bc' bs' (.ref (mw_b E + a) :: [x0, x1, x2]) h (fun v h' => v = some v0 ∧ h' = h2) mw_no) (hdd : d' + 1 ≤ d) (hst : (st.map fun v => v.category).sum ≤ 8) (hbc : bc' ≤ bc) (hbs : bs' ≤ bs) (k : mw_W E M d Q X (bc - bc') (bs - bs') (pc + 3) lo (v0 :: st) h2) : mw_W E M d Q X bc bs pc lo (x2 :: x1 :: x0 :: .ref (mw_b E + a) :: st) h :=
  mw_callV (As := [x0, x1, x2]) hw hd ha ho rfl hsl hC hdd hst hbc hbs (by rintro v h' ⟨rfl, rfl⟩; exact k) (fun _ _ q => q.elim)
theorem mw_cV3v {x0 x1 x2 : Value} (hw : mw_lkV M M' idx 3 ci) (hd : decode M.2.1 pc = .ok (.invokevirtual idx, 3)) (ha : a < h.1) (ho : h.2 a = .inl (ci, f)) (hsl : (lg_sl (.ref (mw_b E + a) :: [x0, x1, x2])).length ≤ M'.2.2.1) (hC : mw_Ct E M' d' bc' bs' (.ref (mw_b E + a) :: [x0, x1, x2]) h (fun v h' => v = none ∧ h' = h2) mw_no) (hdd : d' + 1 ≤ d) (hst : (st.map fun v => v.category).sum ≤ 8) (hbc : bc' ≤ bc) (hbs : bs' ≤ bs) (k : mw_W E M d Q X (bc - bc') (bs - bs') (pc + 3) lo st h2) : mw_W E M d Q X bc bs pc lo (x2 :: x1 :: x0 :: .ref (mw_b E + a) :: st) h :=
  mw_callV (As := [x0, x1, x2]) hw hd ha ho rfl hsl hC hdd hst hbc hbs (by rintro v h' ⟨rfl, rfl⟩; exact k) (fun _ _ q => q.elim)
theorem mw_cV4 {x0 x1 x2 x3 : Value} (hw : mw_lkV M M' idx 4 ci) (hd : decode M.2.1 pc = .ok (.invokevirtual idx, 3)) (ha : a < h.1) (ho : h.2 a = .inl (ci, f)) (hsl : (lg_sl (.ref (mw_b E + a) :: [x0, x1, x2, x3])).length ≤ M'.2.2.1) (hC : mw_Ct E M' d' bc' bs' (.ref (mw_b E + a) :: [x0, x1, x2, x3]) h Q' X') (hdd : d' + 1 ≤ d) (hst : (st.map fun v => v.category).sum ≤ 8) (hbc : bc' ≤ bc) (hbs : bs' ≤ bs) (kr : ∀ v h', Q' v h' → mw_W E M d Q X (bc - bc') (bs - bs') (pc + 3) lo (v.toList ++ st) h') (kx : ∀ k h', X' k h' → mw_T E M d Q X (bc - bc') (bs - bs') pc lo k h') : mw_W E M d Q X bc bs pc lo (x3 :: x2 :: x1 :: x0 :: .ref (mw_b E + a) :: st) h :=
  mw_callV (As := [x0, x1, x2, x3]) hw hd ha ho rfl hsl hC hdd hst hbc hbs kr kx
theorem mw_cV4e {x0 x1 x2 x3 : Value} (hw : mw_lkV M M' idx 4 ci) (hd : decode M.2.1 pc = .ok (.invokevirtual idx, 3)) (ha : a < h.1) (ho : h.2 a = .inl (ci, f)) (hsl : (lg_sl (.ref (mw_b E + a) :: [x0, x1, x2, x3])).length ≤ M'.2.2.1) (hC : mw_Ct E M' d' bc' bs' (.ref (mw_b E + a) :: [x0, x1, x2, x3]) h (fun v h' => v = some v0 ∧ h' = h2) mw_no) (hdd : d' + 1 ≤ d) (hst : (st.map fun v => v.category).sum ≤ 8) (hbc : bc' ≤ bc) (hbs : bs' ≤ bs) (k : mw_W E M d Q X (bc - bc') (bs - bs') (pc + 3) lo (v0 :: st) h2) : mw_W E M d Q X bc bs pc lo (x3 :: x2 :: x1 :: x0 :: .ref (mw_b E + a) :: st) h :=
  mw_callV (As := [x0, x1, x2, x3]) hw hd ha ho rfl hsl hC hdd hst hbc hbs (by rintro v h' ⟨rfl, rfl⟩; exact k) (fun _ _ q => q.elim)
theorem mw_cV4v {x0 x1 x2 x3 : Value} (hw : mw_lkV M M' idx 4 ci) (hd : decode M.2.1 pc = .ok (.invokevirtual idx, 3)) (ha : a < h.1) (ho : h.2 a = .inl (ci, f)) (hsl : (lg_sl (.ref (mw_b E + a) :: [x0, x1, x2, x3])).length ≤ M'.2.2.1) (hC : mw_Ct E M' d' bc' bs' (.ref (mw_b E + a) :: [x0, x1, x2, x3]) h (fun v h' => v = none ∧ h' = h2) mw_no) (hdd : d' + 1 ≤ d) (hst : (st.map fun v => v.category).sum ≤ 8) (hbc : bc' ≤ bc) (hbs : bs' ≤ bs) (k : mw_W E M d Q X (bc - bc') (bs - bs') (pc + 3) lo st h2) : mw_W E M d Q X bc bs pc lo (x3 :: x2 :: x1 :: x0 :: .ref (mw_b E + a) :: st) h :=
  mw_callV (As := [x0, x1, x2, x3]) hw hd ha ho rfl hsl hC hdd hst hbc hbs (by rintro v h' ⟨rfl, rfl⟩; exact k) (fun _ _ q => q.elim)
theorem mw_cI0 (hw : mw_lkI M M' idx 0) (hd : decode M.2.1 pc = .ok (.invokespecial idx, 3)) (hsl : (lg_sl (.ref (mw_b E + a) :: [])).length ≤ M'.2.2.1) (hC : mw_Ct E M' d' bc' bs' (.ref (mw_b E + a) :: []) h Q' X') (hdd : d' + 1 ≤ d) (hst : (st.map fun v => v.category).sum ≤ 8) (hbc : bc' ≤ bc) (hbs : bs' ≤ bs) (kr : ∀ v h', Q' v h' → mw_W E M d Q X (bc - bc') (bs - bs') (pc + 3) lo (v.toList ++ st) h') (kx : ∀ k h', X' k h' → mw_T E M d Q X (bc - bc') (bs - bs') pc lo k h') : mw_W E M d Q X bc bs pc lo (.ref (mw_b E + a) :: st) h :=
  mw_callI (As := []) hw hd rfl hsl hC hdd hst hbc hbs kr kx
theorem mw_cI0e (hw : mw_lkI M M' idx 0) (hd : decode M.2.1 pc = .ok (.invokespecial idx, 3)) (hsl : (lg_sl (.ref (mw_b E + a) :: [])).length ≤ M'.2.2.1) (hC : mw_Ct E M' d' bc' bs' (.ref (mw_b E + a) :: []) h (fun v h' => v = some v0 ∧ h' = h2) mw_no) (hdd : d' + 1 ≤ d) (hst : (st.map fun v => v.category).sum ≤ 8) (hbc : bc' ≤ bc) (hbs : bs' ≤ bs) (k : mw_W E M d Q X (bc - bc') (bs - bs') (pc + 3) lo (v0 :: st) h2) : mw_W E M d Q X bc bs pc lo (.ref (mw_b E + a) :: st) h :=
  mw_callI (As := []) hw hd rfl hsl hC hdd hst hbc hbs (by rintro v h' ⟨rfl, rfl⟩; exact k) (fun _ _ q => q.elim)
theorem mw_cI0v (hw : mw_lkI M M' idx 0) (hd : decode M.2.1 pc = .ok (.invokespecial idx, 3)) (hsl : (lg_sl (.ref (mw_b E + a) :: [])).length ≤ M'.2.2.1) (hC : mw_Ct E M' d' bc' bs' (.ref (mw_b E + a) :: []) h (fun v h' => v = none ∧ h' = h2) mw_no) (hdd : d' + 1 ≤ d) (hst : (st.map fun v => v.category).sum ≤ 8) (hbc : bc' ≤ bc) (hbs : bs' ≤ bs) (k : mw_W E M d Q X (bc - bc') (bs - bs') (pc + 3) lo st h2) : mw_W E M d Q X bc bs pc lo (.ref (mw_b E + a) :: st) h :=
  mw_callI (As := []) hw hd rfl hsl hC hdd hst hbc hbs (by rintro v h' ⟨rfl, rfl⟩; exact k) (fun _ _ q => q.elim)
theorem mw_topi {x y : Int32} (e : x = y) (k : mw_W E M d Q X bc bs pc lo (.int y :: st) h) : mw_W E M d Q X bc bs pc lo (.int x :: st) h := e ▸ k
theorem mw_topl {x y : Int64} (e : x = y) (k : mw_W E M d Q X bc bs pc lo (.long y :: st) h) : mw_W E M d Q X bc bs pc lo (.long x :: st) h := e ▸ k
theorem mw_heq {h3 : mw_H} (e : h = h3) (k : mw_W E M d Q X bc bs pc lo st h3) : mw_W E M d Q X bc bs pc lo st h := e ▸ k
end MwCallX
end
section
/-! A handler of the method's own catches what a call threw. -/
section MwCatch
variable {e : Env} {f : JFrame} {a : Addr} {x : ExceptionTableEntry} {t : List ExceptionTableEntry} {cT : ClassId} {cell : Cell} {pc : Nat} {vm' : Vm}
def mw_find (e : Env) (S : State) (f : JFrame) (a : Addr) (tab : List ExceptionTableEntry) (pc : Nat) (vm' : Vm) : Prop :=
  ∀ (Q : Handler → Pre) (E : CtlPost) (d : Bool) (acts : List Action), wp (findHandler.go f a tab) Q E e d acts S ↔ Q (.found pc) d acts (S.setVm vm')
theorem mw_hit {S : State} (hx : covers x f.pc = true) (h0 : x.catchType ≠ 0) (hl : S.vm.ClassLinks e.platform f.method.cls x.catchType cT) (hcell : S.heap[a]? = some cell) (hobj : ∀ k, cell.vm ≠ .statics k)
    (hk : ∃ k, S.vm.classes[cell.cls]? = some k) (hc : ∃ k, S.vm.classes[cT]? = some k) (hfit : S.vm.assignable cell.cls cT = true) : mw_find e S f a (x :: t) x.handlerPc (S.vm.noted f.method.cls x.catchType (.cls cT)) := by
  intro Q E d acts
  simp only [covers] at hx
  obtain ⟨ha, ht⟩ := (resolveClass_links e.toSetting hl).op (op := VmOp.resolveClass f.method.cls x.catchType) rfl
  have hal : S.vm.Alike (S.vm.noted f.method.cls x.catchType (.cls cT)) := (Vm.Alike.refl S.vm).noted _ _ _
  obtain ⟨k1, hk1⟩ := hk
  obtain ⟨k2, hk2⟩ := hc
  obtain ⟨k3, hk3, -⟩ := hal.2.2 _ _ hk1
  obtain ⟨k4, hk4, -⟩ := hal.2.2 _ _ hk2
  have hfit' : (S.vm.noted f.method.cls x.catchType (.cls cT)).assignable cell.cls cT = true := by rw [hal.assignable]; exact hfit
  simp [findHandler.go, hx, h0, ha, ht, hcell, hobj, hk3, hk4, hfit', VmOp.dirties, VmOp.acts]
theorem mw_pass {S : State} (hx : covers x f.pc = true) (h0 : x.catchType ≠ 0) (hl : S.vm.ClassLinks e.platform f.method.cls x.catchType cT) (hcell : S.heap[a]? = some cell) (hobj : ∀ k, cell.vm ≠ .statics k)
    (hk : ∃ k, S.vm.classes[cell.cls]? = some k) (hc : ∃ k, S.vm.classes[cT]? = some k) (hno : S.vm.assignable cell.cls cT = false)
    (hr : mw_find e (S.setVm (S.vm.noted f.method.cls x.catchType (.cls cT))) f a t pc vm') : mw_find e S f a (x :: t) pc vm' := by
  intro Q E d acts
  simp only [covers] at hx
  obtain ⟨ha, ht⟩ := (resolveClass_links e.toSetting hl).op (op := VmOp.resolveClass f.method.cls x.catchType) rfl
  have hal : S.vm.Alike (S.vm.noted f.method.cls x.catchType (.cls cT)) := (Vm.Alike.refl S.vm).noted _ _ _
  obtain ⟨k1, hk1⟩ := hk
  obtain ⟨k2, hk2⟩ := hc
  obtain ⟨k3, hk3, -⟩ := hal.2.2 _ _ hk1
  obtain ⟨k4, hk4, -⟩ := hal.2.2 _ _ hk2
  have hno' : (S.vm.noted f.method.cls x.catchType (.cls cT)).assignable cell.cls cT = false := by rw [hal.assignable]; exact hno
  have h2 := hr Q E d acts
  have h3 : (S.setVm (S.vm.noted f.method.cls x.catchType (.cls cT))).setVm vm' = S.setVm vm' := rfl
  rw [h3] at h2
  rw [← h2]
  simp [findHandler.go, hx, h0, ha, ht, hcell, hobj, hk3, hk4, hno', VmOp.dirties, VmOp.acts]
theorem mw_landed {tb : Tables} {s target : State} {g : JFrame} {c : Code} {below : List Frame} {meth : Method} (h : At s g.method c below) (hm : s.vm.method? g.method = some meth) (hc : meth.code = some c)
    (hfind : mw_find e ((s.setTop g).pushFrame (.throwing a)) g a c.exceptionTable.toList pc vm') (hrest : Steps tb e below ((s.setVm vm').setTop { g with pc := pc, stack := [.ref a] }) target) :
    Steps tb e below ((s.setTop g).pushFrame (.throwing a)) target := by
  obtain ⟨hgo, hw⟩ := h.throwing a
  refine Steps.head hgo hw ?_
  have hstep : (stepThrowing e ((s.setTop g).pushFrame (.throwing a)) a (.java g :: s.frames.tail)).Is ((((s.setTop g).pushFrame (.throwing a)).setVm vm').setFrames (.java { g with pc := pc, stack := [.ref a] } :: s.frames.tail)) [] := by
    simp only [stepThrowing, searchFrame, vmDo]
    generalize hr : Sem.go _ e false [] ((s.setTop g).pushFrame (.throwing a)) = res
    have hfn : ∀ (Q : Handler → Pre) (E : CtlPost) (d : Bool) (acts : List Action), wp (findHandler g a) Q E e d acts ((s.setTop g).pushFrame (.throwing a)) ↔ Q (.found pc) d acts (((s.setTop g).pushFrame (.throwing a)).setVm vm') := by
      intro Q E d acts
      rw [W.findHandler_eq (meth := meth) (code := c) (by simpa [State.pushFrame, State.setFrames] using hm) hc]
      exact hfind Q E d acts
    obtain ⟨as, rfl, ha⟩ := Sem.eq_ok_of hr (a := Handler.found pc) (s' := ((s.setTop g).pushFrame (.throwing a)).setVm vm') (acts' := []) (by simp [hfn _ _ _ _])
    exact ⟨rfl, ha⟩
  rw [stepThread_throwing (frames_entered h.top _), hstep.1]
  obtain ⟨g₀, hg⟩ := Option.isSome_iff_exists.mp h.top
  obtain ⟨r, hr⟩ := State.topJava?_eq_some.mp hg
  have hr' : (s.setVm vm').frames = .java g₀ :: r := hr
  have hsw : ∀ (u : State) (F G : List Frame), ((u.setFrames F).setVm vm').setFrames G = (u.setVm vm').setFrames G := fun u F G => by
    rw [show (u.setFrames F).setVm vm' = (u.setVm vm').setFrames F from rfl, State.setFrames_setFrames]
  rw [State.setTop_of_frames _ hr'] at hrest
  rw [hr, List.tail_cons, State.pushFrame, hsw, State.setTop_of_frames _ hr, hsw]
  exact hrest
end MwCatch
section MwCatch2
variable {E : mw_E} {M : mw_M} {d bc bs pc k : Nat} {Q : Option Value → mw_H → Prop} {X : Nat → mw_H → Prop} {lo : List (Option Value)} {h : mw_H} {cx : Nat} {f : Nat → Value}
/-- the first row catches -/
theorem mw_catch1 {x : ExceptionTableEntry} {t : List ExceptionTableEntry} {r : vw_C} {nm : String} (htab9 : tableOf M.2.2.2.2 = x :: t) (hk : k < h.1) (ho : h.2 k = .inl (cx, f)) (hr : mw_cl[cx]? = some r) (hx9 : covers x pc = true) (h0 : x.catchType ≠ 0) (hlk9 : Cond.classLink M.1.cls x.catchType nm ∈ mw_tb) (hcast : Cond.castable r.1 nm ∈ mw_tb)
    (kk : mw_W E M d Q X bc bs x.handlerPc lo [.ref (mw_b E + k)] h) : mw_T E M d Q X bc bs pc lo k h := by
  intro p e s m args below meth c locs cells slots mc ms ls st T C hR hlocs hl hc hs X0
  have C0 := C
  obtain ⟨hx, hb, hr9, hml, hown, hts, hK, hZ, hlk, htab, hnm, hl9⟩ := C
  have hpl : e.platform.magicAccessors = ({} : Platform).magicAccessors := by rw [X0.admits.platform]
  obtain ⟨cell, hcell, hobj, hcls⟩ := mw_recv hK hR hk ho hr
  obtain ⟨c3, c4, hc3, hc4, hasg⟩ := Cond.castable_spec (hts _ hcast)
  cases Option.some.inj (hc3.symm.trans hcls)
  obtain ⟨c5, hc5, hcl5⟩ := Cond.classLink_spec hown (hts _ hlk9) e.platform hpl
  cases Option.some.inj (hc4.symm.trans hc5)
  have hW := X0.warmed
  have hl5 := hW.classLinks hcl5
  obtain ⟨dk, _, _, kt, hd5, _, _, _, _, hkt, _, hopen⟩ := hcl5.here
  obtain ⟨kt', hkt', -⟩ := hW.alike.2.2 _ _ hkt
  have hkc : ∃ k, T.vm.classes[cell.cls]? = some k := by
    obtain ⟨kC, hkC, -⟩ := (hK.1 cx r hr).2.2
    have hcc : E.2.1.1 cx = cell.cls := Option.some.inj ((hK.1 cx r hr).2.1.symm.trans hcls)
    rw [hcc] at hkC
    obtain ⟨k', hk', -⟩ := hW.alike.2.2 _ _ hkC
    exact ⟨k', hk'⟩
  have hW' : s.WarmedH (T.vm.noted m.cls x.catchType (.cls c4)) := hW.noted hd5 hopen (State.rightAt_cls hcl5)
  have X1 := X0.noted hW'
  obtain ⟨t9, a1, b1⟩ := kk p e s m args below meth c T.heap locs cells slots mc ms ls C0 hR hlocs hl hc hs (T.setVm (T.vm.noted m.cls x.catchType (.cls c4))) rfl X1
  refine ⟨t9, ?_, b1⟩
  refine mw_landed (g := F0 m pc ls st) (pc := x.handlerPc) X0.here X0.method' X0.code ?_ a1
  rw [htab, htab9]
  exact mw_hit (S := (T.setTop (F0 m pc ls st)).pushFrame (.throwing (mw_b E + k))) hx9 h0 hl5 hcell (VmData.ne_statics_of hobj) hkc ⟨kt', hkt'⟩ (by rw [show ((T.setTop (F0 m pc ls st)).pushFrame (.throwing (mw_b E + k))).vm = T.vm from rfl, hW.alike.assignable]; exact hasg)
/-- the first row names another class, the second one catches -/
theorem mw_catch2 {x y : ExceptionTableEntry} {t : List ExceptionTableEntry} {r : vw_C} {nm nm1 : String} (htab9 : tableOf M.2.2.2.2 = y :: x :: t) (hk : k < h.1) (ho : h.2 k = .inl (cx, f)) (hr : mw_cl[cx]? = some r) (hy9 : covers y pc = true) (hy0 : y.catchType ≠ 0) (hlky : Cond.classLink M.1.cls y.catchType nm1 ∈ mw_tb)
    (hno : ∀ (args : Array Value) (s : State), (∀ w ∈ mw_tb, w.before args s = true) → va_Nc r.1 nm1 s) (hx9 : covers x pc = true) (h0 : x.catchType ≠ 0) (hlk9 : Cond.classLink M.1.cls x.catchType nm ∈ mw_tb) (hcast : Cond.castable r.1 nm ∈ mw_tb)
    (kk : mw_W E M d Q X bc bs x.handlerPc lo [.ref (mw_b E + k)] h) : mw_T E M d Q X bc bs pc lo k h := by
  intro p e s m args below meth c locs cells slots mc ms ls st T C hR hlocs hl hc hs X0
  have C0 := C
  obtain ⟨hx, hb, hr9, hml, hown, hts, hK, hZ, hlk, htab, hnm, hl9⟩ := C
  have hpl : e.platform.magicAccessors = ({} : Platform).magicAccessors := by rw [X0.admits.platform]
  obtain ⟨cell, hcell, hobj, hcls⟩ := mw_recv hK hR hk ho hr
  obtain ⟨c3, c4, hc3, hc4, hasg⟩ := Cond.castable_spec (hts _ hcast)
  cases Option.some.inj (hc3.symm.trans hcls)
  obtain ⟨c5, hc5, hcl5⟩ := Cond.classLink_spec hown (hts _ hlk9) e.platform hpl
  cases Option.some.inj (hc4.symm.trans hc5)
  obtain ⟨c6, c7, hc6, hc7, hno9⟩ := hno args s hts
  cases Option.some.inj (hc6.symm.trans hcls)
  obtain ⟨c8, hc8, hcl8⟩ := Cond.classLink_spec hown (hts _ hlky) e.platform hpl
  cases Option.some.inj (hc7.symm.trans hc8)
  have hW := X0.warmed
  obtain ⟨dk, _, _, kt, hd5, _, _, _, _, hkt, _, hopen⟩ := hcl5.here
  obtain ⟨dk8, _, _, kt8, hd8, _, _, _, _, hkt8, _, hopen8⟩ := hcl8.here
  obtain ⟨kt8', hkt8', -⟩ := hW.alike.2.2 _ _ hkt8
  have hkc : ∃ k, s.vm.classes[cell.cls]? = some k := by
    obtain ⟨kC, hkC, -⟩ := (hK.1 cx r hr).2.2
    have hcc : E.2.1.1 cx = cell.cls := Option.some.inj ((hK.1 cx r hr).2.1.symm.trans hcls)
    rw [hcc] at hkC
    exact ⟨kC, hkC⟩
  obtain ⟨kc, hkc⟩ := hkc
  obtain ⟨kc1, hkc1, -⟩ := hW.alike.2.2 _ _ hkc
  have hW1 : s.WarmedH (T.vm.noted m.cls y.catchType (.cls c7)) := hW.noted hd8 hopen8 (State.rightAt_cls hcl8)
  generalize hv1 : T.vm.noted m.cls y.catchType (.cls c7) = v1 at hW1
  obtain ⟨kt', hkt', -⟩ := hW1.alike.2.2 _ _ hkt
  obtain ⟨kc2, hkc2, -⟩ := hW1.alike.2.2 _ _ hkc
  have hl5 := hW1.classLinks hcl5
  have hW2 : s.WarmedH (v1.noted m.cls x.catchType (.cls c4)) := hW1.noted hd5 hopen (State.rightAt_cls hcl5)
  have X1 := X0.noted hW2
  obtain ⟨t9, a1, b1⟩ := kk p e s m args below meth c T.heap locs cells slots mc ms ls C0 hR hlocs hl hc hs (T.setVm (v1.noted m.cls x.catchType (.cls c4))) rfl X1
  refine ⟨t9, ?_, b1⟩
  refine mw_landed (g := F0 m pc ls st) (pc := x.handlerPc) X0.here X0.method' X0.code ?_ a1
  rw [htab, htab9]
  refine mw_pass (S := (T.setTop (F0 m pc ls st)).pushFrame (.throwing (mw_b E + k))) hy9 hy0 (hW.classLinks hcl8) hcell (VmData.ne_statics_of hobj) ⟨kc1, hkc1⟩ ⟨kt8', hkt8'⟩ (by rw [show ((T.setTop (F0 m pc ls st)).pushFrame (.throwing (mw_b E + k))).vm = T.vm from rfl, hW.alike.assignable]; exact hno9) ?_
  rw [show ((T.setTop (F0 m pc ls st)).pushFrame (.throwing (mw_b E + k))).vm.noted (F0 m pc ls st).method.cls y.catchType (.cls c7) = v1 from hv1]
  exact mw_hit (S := ((T.setTop (F0 m pc ls st)).pushFrame (.throwing (mw_b E + k))).setVm v1) hx9 h0 hl5 hcell (VmData.ne_statics_of hobj) ⟨kc2, hkc2⟩ ⟨kt', hkt'⟩ (by rw [show (((T.setTop (F0 m pc ls st)).pushFrame (.throwing (mw_b E + k))).setVm v1).vm = v1 from rfl, hW1.alike.assignable]; exact hasg)
end MwCatch2
end
section
/-! Pure rows: searches and counts below a bound; layers; what is reached. -/
def pu_fnd (f : Nat → Bool) : Nat → Nat
  | 0 => 0
  | n + 1 => if pu_fnd f n < n then pu_fnd f n else if f n = true then n else n + 1
theorem pu_fnd_le (f : Nat → Bool) (n : Nat) : pu_fnd f n ≤ n := by
  induction n with
  | zero => simp [pu_fnd]
  | succ n ih => simp only [pu_fnd]; split <;> (try split) <;> omega
theorem pu_fnd_lt {f : Nat → Bool} {n : Nat} (h : pu_fnd f n < n) : f (pu_fnd f n) = true := by
  induction n with
  | zero => omega
  | succ n ih =>
    simp only [pu_fnd] at h ⊢
    split
    · rename_i h1; exact ih h1
    · rename_i h1
      split
      · rename_i h2; exact h2
      · rename_i h2
        rw [if_neg h1, if_neg h2] at h
        omega
theorem pu_fnd_min {f : Nat → Bool} {n p : Nat} (h : p < pu_fnd f n) : f p = false := by
  induction n with
  | zero => simp [pu_fnd] at h
  | succ n ih =>
    simp only [pu_fnd] at h
    split at h
    · exact ih h
    · rename_i h1
      have hle := pu_fnd_le f n
      split at h
      · exact ih (by omega)
      · rename_i h2
        by_cases e : p = n
        · subst e; simpa using h2
        · exact ih (by omega)
theorem pu_fnd_eq {f : Nat → Bool} {n r : Nat} (hr : r < n) (h1 : f r = true) (h2 : ∀ p, p < r → f p = false) : pu_fnd f n = r := by
  have hle := pu_fnd_le f n
  rcases Nat.lt_trichotomy (pu_fnd f n) r with h | h | h
  · have h3 := pu_fnd_lt (f := f) (n := n) (by omega)
    rw [h2 _ h] at h3
    cases h3
  · exact h
  · have h3 := pu_fnd_min h
    rw [h1] at h3
    cases h3
theorem pu_fnd_none {f : Nat → Bool} {n : Nat} (h : ∀ p, p < n → f p = false) : pu_fnd f n = n := by
  have hle := pu_fnd_le f n
  by_cases e : pu_fnd f n < n
  · have h3 := pu_fnd_lt e
    rw [h _ e] at h3
    cases h3
  · omega
theorem pu_fnd_congr {f g : Nat → Bool} {n : Nat} (h : ∀ p, p < n → f p = g p) : pu_fnd f n = pu_fnd g n := by
  induction n with
  | zero => rfl
  | succ n ih =>
    simp only [pu_fnd]
    rw [ih (fun p hp => h p (by omega)), h n (by omega)]
def pu_cnt (f : Nat → Bool) : Nat → Nat
  | 0 => 0
  | n + 1 => pu_cnt f n + if f n = true then 1 else 0
theorem pu_cnt_le (f : Nat → Bool) (n : Nat) : pu_cnt f n ≤ n := by
  induction n with
  | zero => simp [pu_cnt]
  | succ n ih => simp only [pu_cnt]; split <;> omega
theorem pu_cnt_congr {f g : Nat → Bool} {n : Nat} (h : ∀ p, p < n → f p = g p) : pu_cnt f n = pu_cnt g n := by
  induction n with
  | zero => rfl
  | succ n ih =>
    simp only [pu_cnt]
    rw [ih (fun p hp => h p (by omega)), h n (by omega)]
theorem pu_cnt_mono {f g : Nat → Bool} {n : Nat} (h : ∀ p, p < n → f p = true → g p = true) : pu_cnt f n ≤ pu_cnt g n := by
  induction n with
  | zero => simp [pu_cnt]
  | succ n ih =>
    simp only [pu_cnt]
    have h1 := ih (fun p hp => h p (by omega))
    have h2 := h n (by omega)
    by_cases hf : f n = true
    · rw [if_pos hf, if_pos (h2 hf)]; omega
    · rw [if_neg hf]; split <;> omega
theorem pu_cnt_lt {f g : Nat → Bool} {n q : Nat} (h : ∀ p, p < n → f p = true → g p = true) (hq : q < n) (h1 : f q = false) (h2 : g q = true) : pu_cnt f n < pu_cnt g n := by
  induction n with
  | zero => omega
  | succ n ih =>
    simp only [pu_cnt]
    by_cases e : q = n
    · subst e
      have h3 := pu_cnt_mono (f := f) (g := g) (n := q) (fun p hp => h p (by omega))
      rw [if_neg (by rw [h1]; decide), if_pos h2]
      omega
    · have h3 := ih (fun p hp => h p (by omega)) (by omega)
      have h4 := h n (by omega)
      by_cases hf : f n = true
      · rw [if_pos hf, if_pos (h4 hf)]; omega
      · rw [if_neg hf]; split <;> omega
theorem pu_cnt_zero {f : Nat → Bool} {n : Nat} : pu_cnt f n = 0 ↔ ∀ p, p < n → f p = false := by
  induction n with
  | zero => simp [pu_cnt]
  | succ n ih =>
    simp only [pu_cnt]
    constructor
    · intro h p hp
      have h1 : pu_cnt f n = 0 := by omega
      by_cases e : p = n
      · subst e
        by_cases hf : f p = true
        · rw [if_pos hf] at h; omega
        · simpa using hf
      · exact ih.mp h1 p (by omega)
    · intro h
      rw [ih.mpr (fun p hp => h p (by omega)), h n (by omega)]
      simp
theorem pu_cnt_full {f : Nat → Bool} {n : Nat} (h : n ≤ pu_cnt f n) : ∀ p, p < n → f p = true := by
  induction n with
  | zero => intro p hp; omega
  | succ n ih =>
    intro p hp
    simp only [pu_cnt] at h
    have hle := pu_cnt_le f n
    by_cases hf : f n = true
    · rw [if_pos hf] at h
      by_cases e : p = n
      · subst e; exact hf
      · exact ih (by omega) p (by omega)
    · rw [if_neg hf] at h; omega
theorem pu_cnt_add {f g : Nat → Bool} {n q : Nat} (hq : q < n) (h1 : f q = false) (h2 : g q = true) (h : ∀ p, p < n → p ≠ q → g p = f p) : pu_cnt g n = pu_cnt f n + 1 := by
  induction n with
  | zero => omega
  | succ n ih =>
    simp only [pu_cnt]
    by_cases e : q = n
    · subst e
      rw [pu_cnt_congr (f := g) (g := f) (n := q) (fun p hp => h p (by omega) (by omega)), h1, h2]
      simp
    · rw [ih (by omega) (fun p hp hne => h p (by omega) hne), h n (by omega) (by omega)]
      omega
def pu_ex (f : Nat → Bool) : Nat → Bool
  | 0 => false
  | n + 1 => pu_ex f n || f n
theorem pu_ex_iff {f : Nat → Bool} {n : Nat} : pu_ex f n = true ↔ ∃ p, p < n ∧ f p = true := by
  induction n with
  | zero => simp [pu_ex]
  | succ n ih =>
    simp only [pu_ex, Bool.or_eq_true, ih]
    constructor
    · rintro (⟨p, h1, h2⟩ | h)
      · exact ⟨p, by omega, h2⟩
      · exact ⟨n, by omega, h⟩
    · rintro ⟨p, h1, h2⟩
      by_cases e : p = n
      · subst e; exact Or.inr h2
      · exact Or.inl ⟨p, by omega, h2⟩
theorem pu_ex_false {f : Nat → Bool} {n : Nat} : pu_ex f n = false ↔ ∀ p, p < n → f p = false := by
  constructor
  · intro h p hp
    cases hf : f p with
    | false => rfl
    | true => rw [pu_ex_iff.mpr ⟨p, hp, hf⟩] at h; cases h
  · intro h
    cases hf : pu_ex f n with
    | false => rfl
    | true =>
      obtain ⟨p, h1, h2⟩ := pu_ex_iff.mp hf
      rw [h p h1] at h2; cases h2
-- layers: what has been reached behind k steps, and what is new at the k-th
def bf_st (N : Nat) (w : Nat → Nat → Bool) (sh : Nat → Bool) (a : Nat) : Nat → (Nat → Bool) × (Nat → Bool)
  | 0 => (fun q => q == a && !sh a, fun q => q == a && !sh a)
  | k + 1 => (fun q => (bf_st N w sh a k).1 q || (pu_ex (fun p => (bf_st N w sh a k).2 p && w p q) N && !(bf_st N w sh a k).1 q && !sh q), fun q => pu_ex (fun p => (bf_st N w sh a k).2 p && w p q) N && !(bf_st N w sh a k).1 q && !sh q)
def bf_R (N : Nat) (w : Nat → Nat → Bool) (sh : Nat → Bool) (a k : Nat) : Nat → Bool := (bf_st N w sh a k).1
def bf_F (N : Nat) (w : Nat → Nat → Bool) (sh : Nat → Bool) (a k : Nat) : Nat → Bool := (bf_st N w sh a k).2
/-- reached from a without a place of sh -/
def bf_r (N : Nat) (w : Nat → Nat → Bool) (sh : Nat → Bool) (a : Nat) : Nat → Bool := bf_R N w sh a N
def bf_ok (N : Nat) (w : Nat → Nat → Bool) : Prop := ∀ p q, w p q = true → p < N ∧ q < N
section Bf
variable {N : Nat} {w : Nat → Nat → Bool} {sh : Nat → Bool} {a : Nat}
theorem bf_R0 (q : Nat) : bf_R N w sh a 0 q = (q == a && !sh a) := rfl
theorem bf_F0 (q : Nat) : bf_F N w sh a 0 q = (q == a && !sh a) := rfl
theorem bf_FS (k q : Nat) : bf_F N w sh a (k + 1) q = (pu_ex (fun p => bf_F N w sh a k p && w p q) N && !bf_R N w sh a k q && !sh q) := rfl
theorem bf_RS (k q : Nat) : bf_R N w sh a (k + 1) q = (bf_R N w sh a k q || bf_F N w sh a (k + 1) q) := rfl
theorem bf_FR {k q : Nat} (h : bf_F N w sh a k q = true) : bf_R N w sh a k q = true := by
  cases k with
  | zero => exact h
  | succ k => rw [bf_RS, h, Bool.or_true]
theorem bf_R_succ {k q : Nat} (h : bf_R N w sh a k q = true) : bf_R N w sh a (k + 1) q = true := by rw [bf_RS, h, Bool.true_or]
theorem bf_R_mono {j k q : Nat} (hjk : j ≤ k) (h : bf_R N w sh a j q = true) : bf_R N w sh a k q = true := by
  induction k with
  | zero => have : j = 0 := by omega
            subst this; exact h
  | succ k ih =>
    by_cases e : j = k + 1
    · subst e; exact h
    · exact bf_R_succ (ih (by omega))
theorem bf_R_F {k q : Nat} (h : bf_R N w sh a k q = true) : ∃ j, j ≤ k ∧ bf_F N w sh a j q = true := by
  induction k with
  | zero => exact ⟨0, Nat.le_refl _, h⟩
  | succ k ih =>
    rw [bf_RS, Bool.or_eq_true] at h
    rcases h with h | h
    · obtain ⟨j, h1, h2⟩ := ih h
      exact ⟨j, by omega, h2⟩
    · exact ⟨k + 1, Nat.le_refl _, h⟩
theorem bf_F_new {k q : Nat} (h : bf_F N w sh a (k + 1) q = true) : bf_R N w sh a k q = false := by
  rw [bf_FS] at h
  simp only [Bool.and_eq_true, Bool.not_eq_true'] at h
  exact h.1.2
theorem bf_F_inj {i j q : Nat} (hi : bf_F N w sh a i q = true) (hj : bf_F N w sh a j q = true) : i = j := by
  have key : ∀ i j, i < j → bf_F N w sh a i q = true → bf_F N w sh a j q = true → False := by
    intro i j hij h1 h2
    cases j with
    | zero => omega
    | succ j =>
      have h3 := bf_F_new h2
      rw [bf_R_mono (by omega) (bf_FR h1)] at h3
      cases h3
  rcases Nat.lt_trichotomy i j with h | h | h
  · exact (key i j h hi hj).elim
  · exact h
  · exact (key j i h hj hi).elim
theorem bf_F_lt (hw : bf_ok N w) (ha : a < N) {k q : Nat} (h : bf_F N w sh a k q = true) : q < N := by
  cases k with
  | zero =>
    rw [bf_F0] at h
    simp only [Bool.and_eq_true, beq_iff_eq] at h
    omega
  | succ k =>
    rw [bf_FS] at h
    simp only [Bool.and_eq_true] at h
    obtain ⟨p, h1, h2⟩ := pu_ex_iff.mp h.1.1
    simp only [Bool.and_eq_true] at h2
    exact (hw p q h2.2).2
theorem bf_F_sh {k q : Nat} (h : bf_F N w sh a k q = true) : sh q = false := by
  cases k with
  | zero =>
    rw [bf_F0] at h
    simp only [Bool.and_eq_true, beq_iff_eq, Bool.not_eq_true'] at h
    rw [h.1]; exact h.2
  | succ k =>
    rw [bf_FS] at h
    simp only [Bool.and_eq_true, Bool.not_eq_true'] at h
    exact h.2
theorem bf_F_empty {k : Nat} (h : ∀ q, bf_F N w sh a k q = false) : ∀ j, k ≤ j → ∀ q, bf_F N w sh a j q = false := by
  intro j hj
  induction j with
  | zero => have : k = 0 := by omega
            subst this; exact h
  | succ j ih =>
    by_cases e : k = j + 1
    · subst e; exact h
    · intro q
      have h1 := ih (by omega)
      rw [bf_FS]
      have : pu_ex (fun p => bf_F N w sh a j p && w p q) N = false := pu_ex_false.mpr (fun p _ => by rw [h1 p]; rfl)
      rw [this]; rfl
theorem bf_R_stop {k : Nat} (h : ∀ q, bf_F N w sh a (k + 1) q = false) : ∀ j, k ≤ j → ∀ q, bf_R N w sh a j q = bf_R N w sh a k q := by
  intro j hj
  induction j with
  | zero => have : k = 0 := by omega
            subst this; exact fun _ => rfl
  | succ j ih =>
    by_cases e : k = j + 1
    · subst e; exact fun _ => rfl
    · intro q
      rw [bf_RS, bf_F_empty h (j + 1) (by omega) q, Bool.or_false]
      exact ih (by omega) q
theorem bf_cnt (hw : bf_ok N w) (ha : a < N) {k q : Nat} (h : bf_F N w sh a k q = true) : k + 1 ≤ pu_cnt (bf_R N w sh a k) N := by
  induction k generalizing q with
  | zero =>
    have h1 : 0 < pu_cnt (bf_R N w sh a 0) N := by
      rcases Nat.eq_zero_or_pos (pu_cnt (bf_R N w sh a 0) N) with h0 | h0
      · have := pu_cnt_zero.mp h0 q (bf_F_lt hw ha h)
        rw [bf_FR h] at this; cases this
      · exact h0
    omega
  | succ k ih =>
    have h0 := h
    rw [bf_FS] at h0
    simp only [Bool.and_eq_true] at h0
    obtain ⟨p, h1, h2⟩ := pu_ex_iff.mp h0.1.1
    simp only [Bool.and_eq_true] at h2
    have h3 := ih h2.1
    have h4 := pu_cnt_lt (f := bf_R N w sh a k) (g := bf_R N w sh a (k + 1)) (n := N) (q := q) (fun p _ hp => bf_R_succ hp) (bf_F_lt hw ha h) (bf_F_new h) (bf_FR h)
    omega
theorem bf_F_bound (hw : bf_ok N w) (ha : a < N) {k q : Nat} (h : bf_F N w sh a k q = true) : k < N := by
  have h1 := bf_cnt hw ha h
  have h2 := pu_cnt_le (bf_R N w sh a k) N
  omega
theorem bf_r_iff (hw : bf_ok N w) (ha : a < N) {q : Nat} : bf_r N w sh a q = true ↔ ∃ k, k < N ∧ bf_F N w sh a k q = true := by
  constructor
  · intro h
    obtain ⟨j, h1, h2⟩ := bf_R_F h
    exact ⟨j, bf_F_bound hw ha h2, h2⟩
  · rintro ⟨k, h1, h2⟩
    exact bf_R_mono (by omega) (bf_FR h2)
theorem bf_r_lt (hw : bf_ok N w) (ha : a < N) {q : Nat} (h : bf_r N w sh a q = true) : q < N := by
  obtain ⟨k, -, h2⟩ := (bf_r_iff hw ha).mp h
  exact bf_F_lt hw ha h2
theorem bf_r_sh (hw : bf_ok N w) (ha : a < N) {q : Nat} (h : bf_r N w sh a q = true) : sh q = false := by
  obtain ⟨k, -, h2⟩ := (bf_r_iff hw ha).mp h
  exact bf_F_sh h2
theorem bf_r_start (h : sh a = false) : bf_r N w sh a a = true := bf_R_mono (Nat.zero_le _) (by rw [bf_R0, h]; simp)
theorem bf_r_step (hw : bf_ok N w) (ha : a < N) {p q : Nat} (hp : bf_r N w sh a p = true) (hpq : w p q = true) (hq : sh q = false) : bf_r N w sh a q = true := by
  obtain ⟨k, h1, h2⟩ := (bf_r_iff hw ha).mp hp
  by_cases h3 : bf_R N w sh a k q = true
  · exact bf_R_mono (by omega) h3
  · refine bf_R_mono (j := k + 1) (by omega) (bf_FR ?_)
    rw [bf_FS]
    have h4 : pu_ex (fun p => bf_F N w sh a k p && w p q) N = true := pu_ex_iff.mpr ⟨p, (hw p q hpq).1, by rw [h2, hpq]; rfl⟩
    simp only [Bool.not_eq_true] at h3
    rw [h4, h3, hq]; rfl
theorem bf_r_ind {P : Nat → Prop} (h0 : sh a = false → P a) (hs : ∀ p q, bf_r N w sh a p = true → P p → w p q = true → sh q = false → P q) (hw : bf_ok N w) (ha : a < N) {q : Nat} (h : bf_r N w sh a q = true) : P q := by
  have key : ∀ k q, bf_F N w sh a k q = true → P q := by
    intro k
    induction k with
    | zero =>
      intro q hq
      rw [bf_F0] at hq
      simp only [Bool.and_eq_true, beq_iff_eq, Bool.not_eq_true'] at hq
      rw [hq.1]; exact h0 hq.2
    | succ k ih =>
      intro q hq
      have h9 := bf_F_sh hq
      rw [bf_FS] at hq
      simp only [Bool.and_eq_true] at hq
      obtain ⟨p, h1, h2⟩ := pu_ex_iff.mp hq.1.1
      simp only [Bool.and_eq_true] at h2
      exact hs p q ((bf_r_iff hw ha).mpr ⟨k, bf_F_bound hw ha h2.1, h2.1⟩) (ih p h2.1) h2.2 h9
  obtain ⟨k, -, h2⟩ := (bf_r_iff hw ha).mp h
  exact key k q h2
/-- the number of ways, or none -/
def bf_d (N : Nat) (w : Nat → Nat → Bool) (sh : Nat → Bool) (a b : Nat) : Int32 := if bf_r N w sh a b = true then nI (pu_fnd (fun k => bf_F N w sh a k b) N) else -1
theorem bf_d_at (hw : bf_ok N w) (ha : a < N) {k b : Nat} (h : bf_F N w sh a k b = true) : bf_d N w sh a b = nI k := by
  have hk := bf_F_bound hw ha h
  have h1 : bf_r N w sh a b = true := (bf_r_iff hw ha).mpr ⟨k, hk, h⟩
  unfold bf_d
  rw [if_pos h1, pu_fnd_eq hk h (fun p hp => ?_)]
  cases hf : bf_F N w sh a p b with
  | false => rfl
  | true => have := bf_F_inj h hf; omega
theorem bf_d_no (hw : bf_ok N w) (ha : a < N) {b : Nat} (h : bf_r N w sh a b = false) : bf_d N w sh a b = -1 := by
  unfold bf_d
  rw [if_neg (by rw [h]; decide)]
end Bf
end
section
/-! Pure rows: circles, groups, gates. -/
def gp_no : Nat → Bool := fun _ => false
def gp_at (c : Nat) : Nat → Bool := fun q => q == c
def gp_T (N : Nat) (w : Nat → Nat → Bool) (a b : Nat) : Bool := bf_r N w gp_no a b
def gp_rev (w : Nat → Nat → Bool) : Nat → Nat → Bool := fun p q => w q p
section Gp
variable {N : Nat} {w : Nat → Nat → Bool} {a b c : Nat}
theorem gp_rev_ok (hw : bf_ok N w) : bf_ok N (gp_rev w) := fun p q h => (hw q p h).symm
theorem gp_refl (a : Nat) : gp_T N w a a = true := bf_r_start rfl
theorem gp_tail (hw : bf_ok N w) (ha : a < N) (h : gp_T N w a b = true) (hbc : w b c = true) : gp_T N w a c = true := bf_r_step hw ha h hbc rfl
theorem gp_lt (hw : bf_ok N w) (ha : a < N) (h : gp_T N w a b = true) : b < N := bf_r_lt hw ha h
theorem gp_trans (hw : bf_ok N w) (ha : a < N) (h1 : gp_T N w a b = true) (h2 : gp_T N w b c = true) : gp_T N w a c = true :=
  bf_r_ind (P := fun x => gp_T N w a x = true) (fun _ => h1) (fun p q _ hp hpq _ => gp_tail hw ha hp hpq) hw (gp_lt hw ha h1) h2
theorem gp_head (hw : bf_ok N w) (hab : w a b = true) (h : gp_T N w b c = true) : gp_T N w a c = true :=
  gp_trans hw (hw a b hab).1 (gp_tail hw (hw a b hab).1 (gp_refl a) hab) h
theorem gp_rev_T (hw : bf_ok N w) (ha : a < N) (hb : b < N) : gp_T N (gp_rev w) a b = gp_T N w b a := by
  have k1 : gp_T N (gp_rev w) a b = true → gp_T N w b a = true := fun h =>
    bf_r_ind (P := fun x => gp_T N w x a = true) (fun _ => gp_refl a) (fun p q _ hp hpq _ => gp_head hw hpq hp) (gp_rev_ok hw) ha h
  have k2 : gp_T N w b a = true → gp_T N (gp_rev w) a b = true := fun h =>
    bf_r_ind (P := fun x => gp_T N (gp_rev w) x b = true) (fun _ => gp_refl b) (fun p q _ hp hpq _ => gp_head (gp_rev_ok hw) (show gp_rev w q p = true from hpq) hp) hw hb h
  cases h1 : gp_T N (gp_rev w) a b <;> cases h2 : gp_T N w b a
  · rfl
  · rw [k2 h2] at h1; cases h1
  · rw [k1 h1] at h2; cases h2
  · rfl
/-- on a circle: reached from a, a place with a WAY to a -/
def gp_c (N : Nat) (w : Nat → Nat → Bool) (a : Nat) : Bool := pu_ex (fun q => gp_T N w a q && w q a) N
theorem gp_c_iff (hw : bf_ok N w) (ha : a < N) : gp_c N w a = true ↔ ∃ b, b < N ∧ w a b = true ∧ gp_T N w b a = true := by
  unfold gp_c
  rw [pu_ex_iff]
  constructor
  · rintro ⟨q, -, h⟩
    simp only [Bool.and_eq_true] at h
    have key : q = a ∨ ∃ b, w a b = true ∧ gp_T N w b q = true :=
      bf_r_ind (P := fun x => x = a ∨ ∃ b, w a b = true ∧ gp_T N w b x = true) (fun _ => Or.inl rfl) (fun p q _ hp hpq _ => by
        rcases hp with rfl | ⟨b, h1, h2⟩
        · exact Or.inr ⟨q, hpq, gp_refl q⟩
        · exact Or.inr ⟨b, h1, gp_tail hw (hw _ _ h1).2 h2 hpq⟩) hw ha h.1
    rcases key with rfl | ⟨b, h1, h2⟩
    · exact ⟨q, ha, h.2, gp_refl q⟩
    · exact ⟨b, (hw _ _ h1).2, h1, gp_tail hw (hw _ _ h1).2 h2 h.2⟩
  · rintro ⟨b, hb, h1, h2⟩
    have key : ∃ q, gp_T N w a q = true ∧ w q a = true :=
      bf_r_ind (P := fun x => ∃ q, gp_T N w a q = true ∧ w q x = true) (fun _ => ⟨a, gp_refl a, h1⟩) (fun p q _ hp hpq _ => by
        obtain ⟨z, h3, h4⟩ := hp
        exact ⟨p, gp_tail hw ha h3 h4, hpq⟩) hw hb h2
    obtain ⟨q, h3, h4⟩ := key
    exact ⟨q, (hw _ _ h4).1, by rw [h3, h4]; rfl⟩
/-- the group's least place -/
def gp_g (N : Nat) (w : Nat → Nat → Bool) (a : Nat) : Nat := pu_fnd (fun b => gp_T N w a b && gp_T N w b a) N
theorem gp_g_lt (ha : a < N) : gp_g N w a < N := by
  have h0 : (gp_T N w a a && gp_T N w a a) = true := by rw [gp_refl]; rfl
  rcases Nat.lt_or_ge (gp_g N w a) N with h | h
  · exact h
  · have h1 : a < gp_g N w a := by omega
    have h2 := pu_fnd_min (f := fun b => gp_T N w a b && gp_T N w b a) h1
    rw [h0] at h2; cases h2
-- gates
section Gate
def gp_A (N : Nat) (w : Nat → Nat → Bool) (a c x : Nat) : Bool := bf_r N w (gp_at c) a x
/-- c is a gate of b: another place, and b isn't reached with c shut -/
def gp_G (N : Nat) (w : Nat → Nat → Bool) (a b c : Nat) : Bool := !(c == b) && !gp_A N w a c b
theorem gp_at_f {c q : Nat} (h : q ≠ c) : gp_at c q = false := by simp [gp_at, h]
theorem gp_A_start {c : Nat} (h : a ≠ c) : gp_A N w a c a = true := bf_r_start (gp_at_f h)
theorem gp_A_step {c p q : Nat} (hw : bf_ok N w) (ha : a < N) (hp : gp_A N w a c p = true) (hpq : w p q = true) (hq : q ≠ c) : gp_A N w a c q = true := bf_r_step hw ha hp hpq (gp_at_f hq)
theorem gp_A_ne {c x : Nat} (hw : bf_ok N w) (ha : a < N) (h : gp_A N w a c x = true) : x ≠ c := by
  intro e
  have h1 := bf_r_sh hw ha h
  subst e
  simp [gp_at] at h1
theorem gp_A_self (hw : bf_ok N w) (ha : a < N) : ∀ x, gp_A N w a a x = false := by
  intro x
  cases h : gp_A N w a a x with
  | false => rfl
  | true =>
    have := bf_r_ind (P := fun _ => False) (fun h0 => by simp [gp_at] at h0) (fun _ _ _ hp _ _ => hp) hw ha h
    exact this.elim
theorem gp_tot {c d : Nat} (hw : bf_ok N w) (ha : a < N) (hb : gp_T N w a b = true) (hcd : c ≠ d) (hc : gp_A N w a c b = false) : gp_A N w a d c = true ∨ gp_A N w a c d = true := by
  rcases Bool.eq_false_or_eq_true (gp_A N w a d c) with h1 | h1
  · exact Or.inl h1
  rcases Bool.eq_false_or_eq_true (gp_A N w a c d) with h2 | h2
  · exact Or.inr h2
  exfalso
  have hac : a ≠ c := fun e => by
    subst e
    rw [gp_A_start hcd] at h1; cases h1
  have had : a ≠ d := fun e => by
    subst e
    rw [gp_A_start (fun e => hcd e.symm)] at h2; cases h2
  have key : gp_A N w a c b = true ∧ gp_A N w a d b = true :=
    bf_r_ind (P := fun x => gp_A N w a c x = true ∧ gp_A N w a d x = true) (fun _ => ⟨gp_A_start hac, gp_A_start had⟩) (fun p q _ hp hpq _ => by
      by_cases e1 : q = c
      · subst e1
        rw [gp_A_step hw ha hp.2 hpq hcd] at h1; cases h1
      · by_cases e2 : q = d
        · subst e2
          rw [gp_A_step hw ha hp.1 hpq e1] at h2; cases h2
        · exact ⟨gp_A_step hw ha hp.1 hpq e1, gp_A_step hw ha hp.2 hpq e2⟩) hw ha hb
  rw [hc] at key
  cases key.1
theorem gp_asym {c d : Nat} (hw : bf_ok N w) (ha : a < N) (hb : gp_T N w a b = true) (hcd : c ≠ d) (hc : gp_A N w a c b = false) (hd : gp_A N w a d b = false) (h1 : gp_A N w a d c = true) : gp_A N w a c d = false := by
  cases h2 : gp_A N w a c d with
  | false => rfl
  | true =>
    have key : gp_A N w a c b = true ∨ gp_A N w a d b = true :=
      bf_r_ind (P := fun x => gp_A N w a c x = true ∨ gp_A N w a d x = true) (fun _ => by
        by_cases e : a = c
        · subst e; exact Or.inr (gp_A_start hcd)
        · exact Or.inl (gp_A_start e)) (fun p q _ hp hpq _ => by
        rcases hp with hp | hp
        · by_cases e : q = c
          · subst e; exact Or.inr h1
          · exact Or.inl (gp_A_step hw ha hp hpq e)
        · by_cases e : q = d
          · subst e; exact Or.inl h2
          · exact Or.inr (gp_A_step hw ha hp hpq e)) hw ha hb
    rw [hc, hd] at key
    rcases key with h | h <;> cases h
/-- c isn't reached with d shut: what is reached with d shut is also reached with c shut -/
theorem gp_sub {c d : Nat} (hw : bf_ok N w) (ha : a < N) (h : gp_A N w a d c = false) {x : Nat} (hx : gp_A N w a d x = true) : gp_A N w a c x = true :=
  (bf_r_ind (P := fun x => gp_A N w a d x = true ∧ gp_A N w a c x = true) (fun h0 => by
    have hst : gp_A N w a d a = true := bf_r_start h0
    refine ⟨hst, gp_A_start (fun e => ?_)⟩
    subst e
    rw [hst] at h; cases h) (fun p q hp0 hp hpq hq => by
    have h1 : gp_A N w a d q = true := bf_r_step hw ha hp0 hpq hq
    refine ⟨h1, gp_A_step hw ha hp.2 hpq (fun e => ?_)⟩
    subst e
    rw [h1] at h; cases h) hw ha hx).2
def gp_n (N : Nat) (w : Nat → Nat → Bool) (a c : Nat) : Nat := pu_cnt (gp_A N w a c) N
theorem gp_grow {c d : Nat} (hw : bf_ok N w) (ha : a < N) (hb : gp_T N w a b = true) (hcd : c ≠ d) (hc : gp_A N w a c b = false) (h : gp_A N w a d c = false) : gp_n N w a d < gp_n N w a c := by
  have h1 : gp_A N w a c d = true := by
    rcases gp_tot hw ha hb hcd hc with h2 | h2
    · rw [h] at h2; cases h2
    · exact h2
  refine pu_cnt_lt (q := d) (fun p _ hp => gp_sub hw ha h hp) (bf_r_lt hw ha h1) ?_ h1
  cases h3 : gp_A N w a d d with
  | false => rfl
  | true => exact absurd rfl (gp_A_ne hw ha h3)
theorem gp_ne {c d : Nat} (hw : bf_ok N w) (ha : a < N) (hb : gp_T N w a b = true) (hcd : c ≠ d) (hc : gp_A N w a c b = false) (hd : gp_A N w a d b = false) : gp_n N w a c < gp_n N w a d ∨ gp_n N w a d < gp_n N w a c := by
  cases h : gp_A N w a d c with
  | false => exact Or.inr (gp_grow hw ha hb hcd hc h)
  | true => exact Or.inl (gp_grow hw ha hb (fun e => hcd e.symm) hd (gp_asym hw ha hb hcd hc hd h))
/-- the best of the gates below k -/
def gp_B (N : Nat) (w : Nat → Nat → Bool) (a b k g : Nat) : Prop := gp_G N w a b g = true ∧ ∀ c, c < k → gp_G N w a b c = true → c ≠ g → gp_n N w a c < gp_n N w a g
theorem gp_G_iff {c : Nat} : gp_G N w a b c = true ↔ c ≠ b ∧ gp_A N w a c b = false := by
  unfold gp_G
  simp
theorem gp_B_uniq {g g' : Nat} (h1 : g < N) (h2 : g' < N) (hg : gp_B N w a b N g) (hg' : gp_B N w a b N g') : g = g' := by
  rcases Nat.decEq g g' with e | e
  · have a1 := hg.2 g' h2 hg'.1 (fun z => e z.symm)
    have a2 := hg'.2 g h1 hg.1 e
    omega
  · exact e
theorem gp_B_keep {k g : Nat} (h : gp_B N w a b k g) (hk : gp_G N w a b k = true → k ≠ g → gp_n N w a k < gp_n N w a g) : gp_B N w a b (k + 1) g := by
  refine ⟨h.1, fun c hc hG hne => ?_⟩
  by_cases e : c = k
  · subst e; exact hk hG hne
  · exact h.2 c (by omega) hG hne
theorem gp_B_new {k g : Nat} (h : gp_B N w a b k g) (hG : gp_G N w a b k = true) (hk : gp_n N w a g < gp_n N w a k) : gp_B N w a b (k + 1) k := by
  refine ⟨hG, fun c hc hc2 hne => ?_⟩
  by_cases e : c = g
  · subst e; exact hk
  · have := h.2 c (by omega) hc2 e
    omega
theorem gp_B_first {k : Nat} (h : ∀ c, c < k → gp_G N w a b c = false) (hG : gp_G N w a b k = true) : gp_B N w a b (k + 1) k := by
  refine ⟨hG, fun c hc hc2 hne => ?_⟩
  rw [h c (by omega)] at hc2; cases hc2
/-- the reference's step: 'later than the last one' is 'greater' -/
theorem gp_B_step {k g : Nat} (hw : bf_ok N w) (ha : a < N) (hb : gp_T N w a b = true) (h : gp_B N w a b k g) (hG : gp_G N w a b k = true) (hne : k ≠ g) :
    (gp_A N w a g k = false → gp_n N w a g < gp_n N w a k) ∧ (gp_A N w a g k = true → gp_n N w a k < gp_n N w a g) := by
  obtain ⟨-, hk⟩ := gp_G_iff.mp hG
  obtain ⟨-, hg⟩ := gp_G_iff.mp h.1
  exact ⟨fun e => gp_grow hw ha hb hne hk e, fun e => gp_grow hw ha hb (fun z => hne z.symm) hg (gp_asym hw ha hb hne hk hg e)⟩
end Gate
end Gp
end
section
/-! Pure rows: the least order; longest ways; numbers of ways modulo. -/
def pu_max (f : Nat → Nat) : Nat → Nat
  | 0 => 0
  | n + 1 => max (pu_max f n) (f n)
theorem pu_max_congr {f g : Nat → Nat} {n : Nat} (h : ∀ p, p < n → f p = g p) : pu_max f n = pu_max g n := by
  induction n with
  | zero => rfl
  | succ n ih => simp only [pu_max]; rw [ih (fun p hp => h p (by omega)), h n (by omega)]
theorem pu_max_le {f : Nat → Nat} {n b : Nat} (h : ∀ p, p < n → f p ≤ b) : pu_max f n ≤ b := by
  induction n with
  | zero => simp [pu_max]
  | succ n ih =>
    simp only [pu_max]
    have h1 := ih (fun p hp => h p (by omega))
    have h2 := h n (by omega)
    omega
theorem pu_max_one {f g : Nat → Nat} {n p : Nat} (hp : p < n) (h0 : f p = 0) (h : ∀ q, q < n → q ≠ p → g q = f q) : pu_max g n = max (pu_max f n) (g p) := by
  induction n with
  | zero => omega
  | succ n ih =>
    simp only [pu_max]
    by_cases e : p = n
    · subst e
      rw [pu_max_congr (f := g) (g := f) (n := p) (fun q hq => h q (by omega) (by omega)), h0]
      omega
    · rw [ih (by omega) (fun q hq hne => h q (by omega) hne), h n (by omega) (fun z => e z.symm)]
      omega
def pu_sum (f : Nat → Nat) : Nat → Nat
  | 0 => 0
  | n + 1 => pu_sum f n + f n
theorem pu_sum_congr {f g : Nat → Nat} {n : Nat} (h : ∀ p, p < n → f p = g p) : pu_sum f n = pu_sum g n := by
  induction n with
  | zero => rfl
  | succ n ih => simp only [pu_sum]; rw [ih (fun p hp => h p (by omega)), h n (by omega)]
theorem pu_sum_one {f g : Nat → Nat} {n p : Nat} (hp : p < n) (h0 : f p = 0) (h : ∀ q, q < n → q ≠ p → g q = f q) : pu_sum g n = pu_sum f n + g p := by
  induction n with
  | zero => omega
  | succ n ih =>
    simp only [pu_sum]
    by_cases e : p = n
    · subst e
      rw [pu_sum_congr (f := g) (g := f) (n := p) (fun q hq => h q (by omega) (by omega)), h0]
      omega
    · rw [ih (by omega) (fun q hq hne => h q (by omega) hne), h n (by omega) (fun z => e z.symm)]
      omega
-- the order
def or_rdy (N : Nat) (w : Nat → Nat → Bool) (P : Nat → Bool) (p : Nat) : Bool := !P p && !pu_ex (fun q => w q p && !P q) N
def or_P (N : Nat) (w : Nat → Nat → Bool) : Nat → Nat → Bool
  | 0 => fun _ => false
  | i + 1 => fun p => or_P N w i p || p == pu_fnd (or_rdy N w (or_P N w i)) N
def or_ln (N : Nat) (w : Nat → Nat → Bool) (i : Nat) : Nat := pu_fnd (or_rdy N w (or_P N w i)) N
def or_ok (N : Nat) (w : Nat → Nat → Bool) (k : Nat) : Prop := ∀ i, i < k → or_ln N w i < N
def or_wt (N : Nat) (w : Nat → Nat → Bool) (P : Nat → Bool) (q : Nat) : Nat := pu_cnt (fun p => w p q && !P p) N
section Or
variable {N : Nat} {w : Nat → Nat → Bool}
theorem or_P0 (p : Nat) : or_P N w 0 p = false := rfl
theorem or_PS (i p : Nat) : or_P N w (i + 1) p = (or_P N w i p || p == or_ln N w i) := rfl
theorem or_rdy_iff {P : Nat → Bool} {p : Nat} (hw : bf_ok N w) : or_rdy N w P p = true ↔ P p = false ∧ ∀ q, w q p = true → P q = true := by
  unfold or_rdy
  simp only [Bool.and_eq_true, Bool.not_eq_true', pu_ex_false]
  constructor
  · rintro ⟨h1, h2⟩
    refine ⟨h1, fun q hq => ?_⟩
    have h3 := h2 q (hw q p hq).1
    rw [hq] at h3
    simpa using h3
  · rintro ⟨h1, h2⟩
    refine ⟨h1, fun q _ => ?_⟩
    cases hq : w q p with
    | false => rfl
    | true => rw [h2 q hq]; rfl
theorem or_rdy_wt {P : Nat → Bool} {p : Nat} : or_rdy N w P p = (!P p && decide (or_wt N w P p = 0)) := by
  unfold or_rdy or_wt
  congr 1
  cases h : pu_ex (fun q => w q p && !P q) N with
  | false => rw [pu_ex_false] at h; simp [pu_cnt_zero.mpr h]
  | true =>
    have : ¬ pu_cnt (fun q => w q p && !P q) N = 0 := fun h0 => by
      rw [pu_ex_false.mpr (pu_cnt_zero.mp h0)] at h; cases h
    simp [this]
theorem or_ln_rdy {i : Nat} (h : or_ln N w i < N) : or_rdy N w (or_P N w i) (or_ln N w i) = true := pu_fnd_lt h
theorem or_P_mono {i j p : Nat} (hij : i ≤ j) (h : or_P N w i p = true) : or_P N w j p = true := by
  induction j with
  | zero => have : i = 0 := by omega
            subst this; exact h
  | succ j ih =>
    by_cases e : i = j + 1
    · subst e; exact h
    · rw [or_PS, ih (by omega), Bool.true_or]
theorem or_P_ln {i j : Nat} (h : i < j) : or_P N w j (or_ln N w i) = true := or_P_mono (i := i + 1) (by omega) (by rw [or_PS]; simp)
theorem or_P_new {i : Nat} (hw : bf_ok N w) (h : or_ln N w i < N) : or_P N w i (or_ln N w i) = false := ((or_rdy_iff hw).mp (or_ln_rdy h)).1
theorem or_P_pre {i q r : Nat} (hw : bf_ok N w) (hq : or_P N w i q = true) (hr : w r q = true) : or_P N w i r = true := by
  induction i with
  | zero => cases hq
  | succ i ih =>
    rw [or_PS, Bool.or_eq_true] at hq
    rw [or_PS]
    rcases hq with hq | hq
    · rw [ih hq, Bool.true_or]
    · simp only [beq_iff_eq] at hq
      have hlt : or_ln N w i < N := by rw [← hq]; exact (hw r q hr).2
      have := ((or_rdy_iff hw).mp (or_ln_rdy hlt)).2 r (by rw [← hq]; exact hr)
      rw [this, Bool.true_or]
theorem or_P_from {i p : Nat} (h : or_P N w i p = true) : ∃ j, j < i ∧ or_ln N w j = p := by
  induction i with
  | zero => cases h
  | succ i ih =>
    rw [or_PS, Bool.or_eq_true] at h
    rcases h with h | h
    · obtain ⟨j, h1, h2⟩ := ih h
      exact ⟨j, by omega, h2⟩
    · simp only [beq_iff_eq] at h
      exact ⟨i, by omega, h.symm⟩
theorem or_cnt {k : Nat} (hw : bf_ok N w) (h : or_ok N w k) : pu_cnt (or_P N w k) N = k := by
  induction k with
  | zero => exact pu_cnt_zero.mpr (fun _ _ => rfl)
  | succ k ih =>
    have h1 := h k (by omega)
    rw [pu_cnt_add (f := or_P N w k) (q := or_ln N w k) h1 (or_P_new hw h1) (or_P_ln (by omega)) (fun p hp hne => by rw [or_PS]; simp [hne]), ih (fun i hi => h i (by omega))]
theorem or_all {p : Nat} (hw : bf_ok N w) (h : or_ok N w N) (hp : p < N) : or_P N w N p = true := pu_cnt_full (by rw [or_cnt hw h]; exact Nat.le_refl _) p hp
theorem or_le {k : Nat} (hw : bf_ok N w) (h : or_ok N w k) : k ≤ N := by
  have h1 := or_cnt hw h
  have h2 := pu_cnt_le (or_P N w k) N
  omega
theorem or_wt_step {i q : Nat} (hw : bf_ok N w) (h : or_ln N w i < N) : or_wt N w (or_P N w i) q = or_wt N w (or_P N w (i + 1)) q + if w (or_ln N w i) q = true then 1 else 0 := by
  have hn := or_P_new hw h
  unfold or_wt
  by_cases e : w (or_ln N w i) q = true
  · rw [if_pos e]
    exact pu_cnt_add (q := or_ln N w i) h (by rw [or_P_ln (Nat.lt_succ_self i)]; simp) (by rw [e, hn]; rfl) (fun p hp hne => by
      have hb : (p == or_ln N w i) = false := by simp [hne]
      rw [or_PS, hb, Bool.or_false])
  · rw [if_neg e, Nat.add_zero]
    refine pu_cnt_congr (fun p hp => ?_)
    by_cases e2 : p = or_ln N w i
    · subst e2
      simp only [Bool.not_eq_true] at e
      rw [e]; rfl
    · have hb : (p == or_ln N w i) = false := by simp [e2]
      rw [or_PS, hb, Bool.or_false]
/-- who is ready behind the next step -/
theorem or_rdy_step {i q : Nat} (hw : bf_ok N w) (h : or_ln N w i < N) :
    or_rdy N w (or_P N w (i + 1)) q = ((or_rdy N w (or_P N w i) q && !(q == or_ln N w i)) || (w (or_ln N w i) q && decide (or_wt N w (or_P N w (i + 1)) q = 0))) := by
  have hst := or_wt_step (q := q) hw h
  have hr := (or_rdy_iff hw).mp (or_ln_rdy h)
  rw [or_rdy_wt, or_rdy_wt, or_PS]
  by_cases e : w (or_ln N w i) q = true
  · rw [if_pos e] at hst
    have hne : ¬ q = or_ln N w i := fun z => by
      have := hr.2 (or_ln N w i) (by rw [z] at e; exact e)
      rw [hr.1] at this; cases this
    have hnp : or_P N w i q = false := by
      cases hp : or_P N w i q with
      | false => rfl
      | true =>
        have := or_P_pre hw hp e
        rw [hr.1] at this; cases this
    have h9 : ¬ or_wt N w (or_P N w i) q = 0 := by omega
    simp [e, hne, hnp, h9]
  · rw [if_neg e] at hst
    simp only [Bool.not_eq_true] at e
    rw [e, hst]
    simp only [Nat.add_zero, Bool.false_and, Bool.or_false]
    cases or_P N w i q <;> cases (q == or_ln N w i) <;> simp
-- the longest ways
def or_lv (N : Nat) (w : Nat → Nat → Bool) : Nat → Nat → Nat
  | 0 => fun _ => 0
  | i + 1 => fun p => if p = or_ln N w i then pu_max (fun q => if w q p = true then or_lv N w i q + 1 else 0) N else or_lv N w i p
theorem or_lvS (i p : Nat) : or_lv N w (i + 1) p = if p = or_ln N w i then pu_max (fun q => if w q p = true then or_lv N w i q + 1 else 0) N else or_lv N w i p := rfl
theorem or_lv_le (i p : Nat) : or_lv N w i p ≤ i := by
  induction i generalizing p with
  | zero => exact Nat.le_refl _
  | succ i ih =>
    rw [or_lvS]
    split
    · refine pu_max_le (fun q _ => ?_)
      split
      · have := ih q; omega
      · omega
    · have := ih p; omega
theorem or_lv_keep {i j p : Nat} (hw : bf_ok N w) (h : or_ok N w j) (hij : i ≤ j) (hp : or_P N w i p = true) : or_lv N w j p = or_lv N w i p := by
  induction j with
  | zero => have : i = 0 := by omega
            subst this; rfl
  | succ j ih =>
    by_cases e : i = j + 1
    · subst e; rfl
    · have hlt := h j (by omega)
      rw [or_lvS, if_neg, ih (fun k hk => h k (by omega)) (by omega)]
      intro z
      have h1 := or_P_mono (j := j) (by omega) hp
      rw [z, or_P_new hw hlt] at h1; cases h1
/-- what the class's row of numbers holds behind i steps -/
def or_tl (N : Nat) (w : Nat → Nat → Bool) (i q : Nat) : Nat := pu_max (fun r => if or_P N w i r = true ∧ w r q = true then or_lv N w i r + 1 else 0) N
theorem or_tl0 (q : Nat) : or_tl N w 0 q = 0 := by
  have : or_tl N w 0 q ≤ 0 := pu_max_le (fun r _ => by rw [if_neg (by rw [or_P0]; simp)]; exact Nat.le_refl _)
  omega
theorem or_tl_ln {i : Nat} (hw : bf_ok N w) (h : or_ln N w i < N) : or_tl N w i (or_ln N w i) = or_lv N w (i + 1) (or_ln N w i) := by
  have hr := (or_rdy_iff hw).mp (or_ln_rdy h)
  rw [or_lvS, if_pos rfl]
  unfold or_tl
  refine pu_max_congr (fun r _ => ?_)
  by_cases e : w r (or_ln N w i) = true
  · rw [if_pos ⟨hr.2 r e, e⟩, if_pos e]
  · rw [if_neg (fun z => e z.2), if_neg e]
theorem or_tl_step {i q : Nat} (hw : bf_ok N w) (h : or_ln N w i < N) : or_tl N w (i + 1) q = if w (or_ln N w i) q = true then max (or_tl N w i q) (or_tl N w i (or_ln N w i) + 1) else or_tl N w i q := by
  have hn := or_P_new hw h
  by_cases e : w (or_ln N w i) q = true
  · rw [if_pos e, or_tl_ln hw h]
    unfold or_tl
    rw [pu_max_one (f := fun r => if or_P N w i r = true ∧ w r q = true then or_lv N w i r + 1 else 0) (p := or_ln N w i) h (by rw [if_neg (by rw [hn]; simp)]) (fun r hr hne => by
      rw [or_PS, or_lvS, if_neg hne]
      simp [hne])]
    rw [if_pos ⟨or_P_ln (Nat.lt_succ_self i), e⟩]
  · rw [if_neg e]
    unfold or_tl
    refine pu_max_congr (fun r _ => ?_)
    by_cases e2 : r = or_ln N w i
    · subst e2
      rw [if_neg (fun z => e z.2), if_neg (fun z => e z.2)]
    · rw [or_PS, or_lvS, if_neg e2]
      simp [e2]
theorem or_tl_end {a : Nat} (hw : bf_ok N w) (h : or_ok N w N) (ha : a < N) : or_tl N w N a = or_lv N w N a := by
  obtain ⟨i, hi, rfl⟩ := or_P_from (or_all hw h ha)
  have hr := (or_rdy_iff hw).mp (or_ln_rdy (h i hi))
  rw [or_lv_keep hw h (i := i + 1) (by omega) (or_P_ln (Nat.lt_succ_self i)), ← or_tl_ln hw (h i hi)]
  unfold or_tl
  refine pu_max_congr (fun r hr9 => ?_)
  by_cases e : w r (or_ln N w i) = true
  · have h1 := hr.2 r e
    rw [if_pos ⟨or_all hw h hr9, e⟩, if_pos ⟨h1, e⟩, or_lv_keep hw h (by omega) h1]
  · rw [if_neg (fun z => e z.2), if_neg (fun z => e z.2)]
-- numbers of ways
def or_M : Nat := 1000003
def or_ps (N : Nat) (w : Nat → Nat → Bool) (a : Nat) : Nat → Nat → Nat
  | 0 => fun _ => 0
  | i + 1 => fun p => if p = or_ln N w i then ((if p = a then 1 else 0) + pu_sum (fun q => if w q p = true then or_ps N w a i q else 0) N) % or_M else or_ps N w a i p
variable {a : Nat}
theorem or_psS (i p : Nat) : or_ps N w a (i + 1) p = if p = or_ln N w i then ((if p = a then 1 else 0) + pu_sum (fun q => if w q p = true then or_ps N w a i q else 0) N) % or_M else or_ps N w a i p := rfl
theorem or_ps_lt (i p : Nat) : or_ps N w a i p < or_M := by
  induction i generalizing p with
  | zero => show 0 < 1000003; omega
  | succ i ih =>
    rw [or_psS]
    split
    · exact Nat.mod_lt _ (by show 0 < 1000003; omega)
    · exact ih p
theorem or_ps_keep {i j p : Nat} (hw : bf_ok N w) (h : or_ok N w j) (hij : i ≤ j) (hp : or_P N w i p = true) : or_ps N w a j p = or_ps N w a i p := by
  induction j with
  | zero => have : i = 0 := by omega
            subst this; rfl
  | succ j ih =>
    by_cases e : i = j + 1
    · subst e; rfl
    · have hlt := h j (by omega)
      rw [or_psS, if_neg, ih (fun k hk => h k (by omega)) (by omega)]
      intro z
      have h1 := or_P_mono (j := j) (by omega) hp
      rw [z, or_P_new hw hlt] at h1; cases h1
def or_tp (N : Nat) (w : Nat → Nat → Bool) (a i q : Nat) : Nat := ((if q = a then 1 else 0) + pu_sum (fun r => if or_P N w i r = true ∧ w r q = true then or_ps N w a i r else 0) N) % or_M
theorem or_tp0 (q : Nat) : or_tp N w a 0 q = if q = a then 1 else 0 := by
  have h0 : pu_sum (fun r => if or_P N w 0 r = true ∧ w r q = true then or_ps N w a 0 r else 0) N = 0 := by
    have : ∀ n, pu_sum (fun r => if or_P N w 0 r = true ∧ w r q = true then or_ps N w a 0 r else 0) n = 0 := by
      intro n
      induction n with
      | zero => rfl
      | succ n ih => simp only [pu_sum]; rw [ih, if_neg (by rw [or_P0]; simp)]
    exact this N
  unfold or_tp
  rw [h0]
  split <;> rfl
theorem or_tp_lt (i q : Nat) : or_tp N w a i q < or_M := Nat.mod_lt _ (by show 0 < 1000003; omega)
theorem or_tp_ln {i : Nat} (hw : bf_ok N w) (h : or_ln N w i < N) : or_tp N w a i (or_ln N w i) = or_ps N w a (i + 1) (or_ln N w i) := by
  have hr := (or_rdy_iff hw).mp (or_ln_rdy h)
  rw [or_psS, if_pos rfl]
  unfold or_tp
  congr 2
  refine pu_sum_congr (fun r _ => ?_)
  by_cases e : w r (or_ln N w i) = true
  · rw [if_pos ⟨hr.2 r e, e⟩, if_pos e]
  · rw [if_neg (fun z => e z.2), if_neg e]
theorem or_tp_step {i q : Nat} (hw : bf_ok N w) (h : or_ln N w i < N) : or_tp N w a (i + 1) q = if w (or_ln N w i) q = true then (or_tp N w a i q + or_tp N w a i (or_ln N w i)) % or_M else or_tp N w a i q := by
  have hn := or_P_new hw h
  by_cases e : w (or_ln N w i) q = true
  · rw [if_pos e, or_tp_ln hw h]
    unfold or_tp
    rw [pu_sum_one (f := fun r => if or_P N w i r = true ∧ w r q = true then or_ps N w a i r else 0) (p := or_ln N w i) h (by rw [if_neg (by rw [hn]; simp)]) (fun r hr hne => by
      rw [or_PS, or_psS, if_neg hne]
      simp [hne])]
    have hc : or_P N w (i + 1) (or_ln N w i) = true ∧ w (or_ln N w i) q = true := ⟨or_P_ln (Nat.lt_succ_self i), e⟩
    rw [if_pos hc, Nat.mod_add_mod, Nat.add_assoc]
  · rw [if_neg e]
    unfold or_tp
    congr 2
    refine pu_sum_congr (fun r _ => ?_)
    by_cases e2 : r = or_ln N w i
    · subst e2
      rw [if_neg (fun z => e z.2), if_neg (fun z => e z.2)]
    · rw [or_PS, or_psS, if_neg e2]
      simp [e2]
theorem or_tp_end {b : Nat} (hw : bf_ok N w) (h : or_ok N w N) (hb : b < N) : or_tp N w a N b = or_ps N w a N b := by
  obtain ⟨i, hi, rfl⟩ := or_P_from (or_all hw h hb)
  have hr := (or_rdy_iff hw).mp (or_ln_rdy (h i hi))
  rw [or_ps_keep hw h (i := i + 1) (by omega) (or_P_ln (Nat.lt_succ_self i)), ← or_tp_ln hw (h i hi)]
  unfold or_tp
  congr 2
  refine pu_sum_congr (fun r hr9 => ?_)
  by_cases e : w r (or_ln N w i) = true
  · have h1 := hr.2 r e
    rw [if_pos ⟨or_all hw h hr9, e⟩, if_pos ⟨h1, e⟩, or_ps_keep hw h (by omega) h1]
  · rw [if_neg (fun z => e z.2), if_neg (fun z => e z.2)]
end Or
end
section
/-! The family wb_ of kit/laws/BITS.to-paste (but its last row). -/
theorem wb_tb (n : Nat) : (lN n).toBitVec = BitVec.ofNat 64 n := rfl
theorem wb_inj {a b : Int64} (h : a.toBitVec = b.toBitVec) : a = b := Int64.toBitVec_inj.mp h
theorem wb_tn {n : Nat} (h : n < 2 ^ 64) : (lN n).toBitVec.toNat = n := by rw [wb_tb, BitVec.toNat_ofNat, Nat.mod_eq_of_lt h]
theorem wb_of (x : Int64) : ∃ n, n < 2 ^ 64 ∧ x = lN n := ⟨x.toBitVec.toNat, x.toBitVec.isLt, wb_inj (by rw [wb_tb]; simp)⟩
theorem wb_of32 (x : Int32) : ∃ n, n < 2 ^ 32 ∧ x = nI n := ⟨x.toBitVec.toNat, x.toBitVec.isLt, Int32.toBitVec_inj.mp (by show _ = BitVec.ofNat 32 _; simp)⟩
theorem wb_c : ∀ k, k < 64 → ((nI k).toInt64 &&& 63) = lN k := by decide +kernel
theorem wb_cu : ∀ k, k < 64 → ((nI k).toInt64.toUInt64 &&& Int64.toUInt64 63) = UInt64.ofNat k := by decide +kernel
theorem wb_sm : ∀ k, k < 64 → (BitVec.ofNat 64 k).smod 64 = BitVec.ofNat 64 k := by decide +kernel
theorem wb_pw {a b : Nat} (h : a ≤ b) : 2 ^ b = 2 ^ a * 2 ^ (b - a) := by rw [← Nat.pow_add]; congr 1; omega
theorem wb_lt2 {a b : Nat} (h : a < b) : 2 ^ a < 2 ^ b := Nat.pow_lt_pow_right (by decide) h
theorem wb_mod (n : Nat) : lN n = lN (n % 2 ^ 64) := wb_inj (by rw [wb_tb, wb_tb]; apply BitVec.eq_of_toNat_eq; rw [BitVec.toNat_ofNat, BitVec.toNat_ofNat, Nat.mod_mod])
theorem wb_shr {n k : Nat} (hn : n < 2 ^ 64) (hk : k < 64) : ((lN n).toUInt64 >>> ((nI k).toInt64.toUInt64 &&& Int64.toUInt64 63)).toInt64 = lN (n / 2 ^ k) := by
  rw [wb_cu k hk]
  apply wb_inj
  apply BitVec.eq_of_toNat_eq
  show ((lN n).toUInt64 >>> UInt64.ofNat k).toNat = (BitVec.ofNat 64 _).toNat
  have h1 : (UInt64.ofNat k).toNat = k := by
    show (BitVec.ofNat 64 k).toNat = k
    rw [BitVec.toNat_ofNat, Nat.mod_eq_of_lt (by omega)]
  have h2 : (lN n).toUInt64.toNat = n := wb_tn hn
  rw [UInt64.toNat_shiftRight, h1, h2, Nat.mod_eq_of_lt hk, Nat.shiftRight_eq_div_pow, BitVec.toNat_ofNat, Nat.mod_eq_of_lt (Nat.lt_of_le_of_lt (Nat.div_le_self _ _) hn)]
theorem wb_shl (n : Nat) {k : Nat} (hk : k < 64) : lN n <<< ((nI k).toInt64 &&& 63) = lN (n * 2 ^ k) := by
  rw [wb_c k hk]
  apply wb_inj
  rw [Int64.toBitVec_shiftLeft, wb_tb, wb_tb, wb_tb, wb_sm k hk]
  apply BitVec.eq_of_toNat_eq
  rw [BitVec.shiftLeft_eq', BitVec.toNat_shiftLeft, BitVec.toNat_ofNat, BitVec.toNat_ofNat, BitVec.toNat_ofNat, Nat.mod_eq_of_lt (show k < 2 ^ 64 by omega), Nat.shiftLeft_eq, Nat.mul_mod, Nat.mod_mod, ← Nat.mul_mod]
theorem wb_and {a b : Nat} (ha : a < 2 ^ 64) (hb : b < 2 ^ 64) : lN a &&& lN b = lN (a &&& b) := by
  apply wb_inj
  rw [Int64.toBitVec_and, wb_tb, wb_tb, wb_tb]
  apply BitVec.eq_of_toNat_eq
  rw [BitVec.toNat_and, BitVec.toNat_ofNat, BitVec.toNat_ofNat, BitVec.toNat_ofNat, Nat.mod_eq_of_lt ha, Nat.mod_eq_of_lt hb, Nat.mod_eq_of_lt (Nat.and_lt_two_pow _ hb)]
theorem wb_or {a b : Nat} (ha : a < 2 ^ 64) (hb : b < 2 ^ 64) : lN a ||| lN b = lN (a ||| b) := by
  apply wb_inj
  rw [Int64.toBitVec_or, wb_tb, wb_tb, wb_tb]
  apply BitVec.eq_of_toNat_eq
  rw [BitVec.toNat_or, BitVec.toNat_ofNat, BitVec.toNat_ofNat, BitVec.toNat_ofNat, Nat.mod_eq_of_lt ha, Nat.mod_eq_of_lt hb, Nat.mod_eq_of_lt (Nat.or_lt_two_pow ha hb)]
theorem wb_mask {n k : Nat} (hn : n < 2 ^ 64) (hk : k < 64) : lN n &&& lN (2 ^ k - 1) = lN (n % 2 ^ k) := by
  rw [wb_and hn (by have := wb_lt2 hk; omega), Nat.and_two_pow_sub_one_eq_mod]
theorem wb_a1 {n : Nat} (hn : n < 2 ^ 64) : lN n &&& 1 = lN (n % 2) := wb_mask (k := 1) hn (by decide)
theorem wb_bit {n k : Nat} (hn : n < 2 ^ 64) (hk : k < 64) : ((lN n).toUInt64 >>> ((nI k).toInt64.toUInt64 &&& Int64.toUInt64 63)).toInt64 &&& 1 = lN (n / 2 ^ k % 2) := by
  rw [wb_shr hn hk, wb_a1 (Nat.lt_of_le_of_lt (Nat.div_le_self _ _) hn)]
end
section
/-! Sets of places as two longs. -/
def bt_n (s : Nat → Bool) : Nat → Nat
  | 0 => 0
  | k + 1 => bt_n s k + if s k = true then 2 ^ k else 0
theorem bt_n_lt (s : Nat → Bool) (k : Nat) : bt_n s k < 2 ^ k := by
  induction k with
  | zero => simp [bt_n]
  | succ k ih =>
    simp only [bt_n]
    have : 2 ^ (k + 1) = 2 ^ k + 2 ^ k := by rw [Nat.pow_succ]; omega
    split <;> omega
theorem bt_n_test (s : Nat → Bool) (k i : Nat) : (bt_n s k).testBit i = (decide (i < k) && s i) := by
  induction k with
  | zero => simp [bt_n]
  | succ k ih =>
    simp only [bt_n]
    have hlt := bt_n_lt s k
    by_cases hk : s k = true
    · rw [if_pos hk, Nat.add_comm]
      rcases Nat.lt_trichotomy i k with h | h | h
      · rw [Nat.testBit_two_pow_add_gt h, ih]
        simp [h, Nat.lt_succ_of_lt h]
      · subst h
        rw [Nat.testBit_two_pow_add_eq, Nat.testBit_lt_two_pow hlt]
        simp [hk]
      · have h2 : 2 ^ k + bt_n s k < 2 ^ i := by
          have : 2 ^ (k + 1) ≤ 2 ^ i := Nat.pow_le_pow_right (by decide) h
          have h3 : 2 ^ (k + 1) = 2 ^ k + 2 ^ k := by rw [Nat.pow_succ]; omega
          omega
        rw [Nat.testBit_lt_two_pow h2]
        have : ¬ i < k + 1 := by omega
        simp [this]
    · rw [if_neg hk, Nat.add_zero, ih]
      rcases Nat.lt_trichotomy i k with h | h | h
      · simp [h, Nat.lt_succ_of_lt h]
      · subst h
        simp [hk]
      · have h1 : ¬ i < k + 1 := by omega
        have h2 : ¬ i < k := by omega
        simp [h1, h2]
def bt_lo (s : Nat → Bool) : Int64 := lN (bt_n s 64)
def bt_hi (s : Nat → Bool) : Int64 := lN (bt_n (fun i => s (64 + i)) 64)
theorem bt_get {s : Nat → Bool} {i : Nat} (hi : i < 64) : (bt_lo s).toBitVec.getLsbD i = s i := by
  have h := bt_n_lt s 64
  rw [bt_lo, wb_tb, BitVec.getLsbD_ofNat, bt_n_test]
  simp [hi]
theorem bt_hi_eq (s : Nat → Bool) : bt_hi s = bt_lo (fun i => s (64 + i)) := rfl
theorem bt_ext {x : Int64} {s : Nat → Bool} (h : ∀ i, i < 64 → x.toBitVec.getLsbD i = s i) : x = bt_lo s := by
  apply wb_inj
  apply BitVec.eq_of_getLsbD_eq
  intro i hi
  rw [h i hi, bt_get hi]
theorem bt_congr {s t : Nat → Bool} (h : ∀ i, i < 64 → s i = t i) : bt_lo s = bt_lo t := bt_ext (fun i hi => by rw [bt_get hi, h i hi])
theorem bt_or (s t : Nat → Bool) : bt_lo s ||| bt_lo t = bt_lo (fun i => s i || t i) := bt_ext (fun i hi => by
  rw [Int64.toBitVec_or, BitVec.getLsbD_or, bt_get hi, bt_get hi])
theorem bt_and (s t : Nat → Bool) : bt_lo s &&& bt_lo t = bt_lo (fun i => s i && t i) := bt_ext (fun i hi => by
  rw [Int64.toBitVec_and, BitVec.getLsbD_and, bt_get hi, bt_get hi])
theorem bt_m1 {i : Nat} (hi : i < 64) : (-1 : Int64).toBitVec.getLsbD i = true := by
  have : (-1 : Int64).toBitVec = BitVec.allOnes 64 := by decide
  rw [this, BitVec.getLsbD_allOnes]
  simp [hi]
theorem bt_not (t : Nat → Bool) : bt_lo t ^^^ (-1) = bt_lo (fun i => !t i) := bt_ext (fun i hi => by
  rw [Int64.toBitVec_xor, BitVec.getLsbD_xor, bt_get hi, bt_m1 hi]
  cases t i <;> rfl)
theorem bt_zero : bt_lo (fun _ => false) = 0 := (bt_ext (fun i hi => by
  show (0#64).getLsbD i = false
  simp)).symm
theorem bt_z (s : Nat → Bool) : bt_lo s = 0 ↔ ∀ i, i < 64 → s i = false := by
  constructor
  · intro h i hi
    rw [← bt_get (s := s) hi, h]
    show (0#64).getLsbD i = false
    simp
  · intro h
    rw [bt_congr h]
    exact bt_zero
theorem bt_neg {s : Nat → Bool} {i : Nat} (hi : i < 64) : (-(bt_lo s)).toBitVec.getLsbD i = (s i ^^ decide (∃ j, j < i ∧ s j = true)) := by
  rw [Int64.toBitVec_neg, BitVec.getLsbD_neg, bt_get hi]
  have : (∃ j, j < i ∧ (bt_lo s).toBitVec.getLsbD j = true) ↔ ∃ j, j < i ∧ s j = true := by
    constructor
    · rintro ⟨j, h1, h2⟩
      exact ⟨j, h1, by rw [bt_get (by omega)] at h2; exact h2⟩
    · rintro ⟨j, h1, h2⟩
      exact ⟨j, h1, by rw [bt_get (by omega)]; exact h2⟩
  simp only [hi, decide_true, Bool.true_and, this]
/-- the set of one place, by its int -/
def bt_one (p : Int32) : Nat → Bool := fun i => decide (p = nI i)
theorem bt_pow {k : Nat} (hk : k < 64) : lN (2 ^ k) = bt_lo (fun i => decide (i = k)) := bt_ext (fun i hi => by
  rw [wb_tb, BitVec.getLsbD_ofNat, Nat.testBit_two_pow]
  by_cases e : k = i
  · subst e; simp [hi]
  · have e2 : ¬ i = k := fun z => e z.symm
    simp [e, e2])
theorem bt_shl {k : Nat} (hk : k < 64) : (1 : Int64) <<< ((nI k).toInt64 &&& 63) = bt_lo (fun i => decide (i = k)) := by
  rw [← bt_pow hk]
  have h := wb_shl 1 hk
  rw [Nat.one_mul] at h
  exact h
/-- from f on -/
theorem bt_from {s : Nat → Bool} {f : Nat} (hf : f < 64) : bt_lo s &&& -(bt_lo (fun i => decide (i = f))) = bt_lo (fun i => s i && decide (f ≤ i)) := bt_ext (fun i hi => by
  rw [Int64.toBitVec_and, BitVec.getLsbD_and, bt_get hi, bt_neg hi]
  congr 1
  by_cases e : i = f
  · subst e
    have h1 : ¬ ∃ j, j < i ∧ decide (j = i) = true := by
      rintro ⟨j, h1, h2⟩
      simp at h2; omega
    simp [h1]
  · rcases Nat.lt_or_ge f i with h | h
    · have h1 : ∃ j, j < i ∧ decide (j = f) = true := ⟨f, h, by simp⟩
      have h2 : f ≤ i := by omega
      rw [decide_eq_true h1, decide_eq_true h2, decide_eq_false e]
      rfl
    · have h1 : ¬ ∃ j, j < i ∧ decide (j = f) = true := by
        rintro ⟨j, h1, h2⟩
        simp at h2; omega
      have h2 : ¬ f ≤ i := by omega
      rw [decide_eq_false h1, decide_eq_false h2, decide_eq_false e]
      rfl)
/-- the lowest set bit alone -/
theorem bt_low {s : Nat → Bool} {r : Nat} (hr : r < 64) (h1 : s r = true) (h2 : ∀ i, i < r → s i = false) : bt_lo s &&& -(bt_lo s) = lN (2 ^ r) := by
  rw [bt_pow hr]
  refine bt_ext (fun i hi => ?_)
  rw [Int64.toBitVec_and, BitVec.getLsbD_and, bt_get hi, bt_neg hi]
  rcases Nat.lt_trichotomy i r with h | h | h
  · have e : ¬ i = r := by omega
    rw [h2 i h]
    simp [e]
  · subst h
    have h3 : ¬ ∃ j, j < i ∧ s j = true := by
      rintro ⟨j, h3, h4⟩
      rw [h2 j h3] at h4; cases h4
    simp [h1, h3]
  · have h3 : ∃ j, j < i ∧ s j = true := ⟨r, h, h1⟩
    have e : ¬ i = r := by omega
    cases s i <;> simp [h3, e]
-- the number of set bits, byte by byte
def bc_5 : Nat → Nat
  | 0 => 0
  | k + 1 => 0x55 + 256 * bc_5 k
def bc_3 : Nat → Nat
  | 0 => 0
  | k + 1 => 0x33 + 256 * bc_3 k
def bc_f : Nat → Nat
  | 0 => 0
  | k + 1 => 0x0f + 256 * bc_f k
def bc_a (k n : Nat) : Nat := n - ((n / 2) &&& bc_5 k)
def bc_b (k n : Nat) : Nat := (bc_a k n &&& bc_3 k) + ((bc_a k n / 4) &&& bc_3 k)
def bc_c (k n : Nat) : Nat := (bc_b k n + bc_b k n / 16) &&& bc_f k
theorem bc_land {x m0 m1 : Nat} (hm : m0 < 256) : x &&& (m0 + 256 * m1) = ((x % 256) &&& m0) + 256 * ((x / 256) &&& m1) := by
  have h1 : (x &&& (m0 + 256 * m1)) % 2 ^ 8 = (x % 2 ^ 8) &&& ((m0 + 256 * m1) % 2 ^ 8) := Nat.and_mod_two_pow
  have h2 : (x &&& (m0 + 256 * m1)) / 2 ^ 8 = (x / 2 ^ 8) &&& ((m0 + 256 * m1) / 2 ^ 8) := Nat.and_div_two_pow
  have e1 : (m0 + 256 * m1) % 2 ^ 8 = m0 := by omega
  have e2 : (m0 + 256 * m1) / 2 ^ 8 = m1 := by omega
  rw [e1] at h1
  rw [e2] at h2
  have h3 := Nat.div_add_mod (x &&& (m0 + 256 * m1)) (2 ^ 8)
  rw [h1, h2] at h3
  have e3 : (2 : Nat) ^ 8 = 256 := rfl
  rw [e3] at h3
  omega
theorem bc_d1 : ∀ x, x < 256 → ∀ y, y < 2 → ((x / 2 + 128 * y) &&& 0x55) = ((x / 2) &&& 0x55) := by decide +kernel
theorem bc_d2 : ∀ x, x < 256 → ∀ y, y < 4 → ((x / 4 + 64 * y) &&& 0x33) = ((x / 4) &&& 0x33) := by decide +kernel
theorem bc_d3 : ∀ x, x < 256 → bc_a 1 x < 256 ∧ bc_b 1 x % 16 ≤ 4 ∧ bc_b 1 x / 16 ≤ 4 := by decide +kernel
theorem bc_d4 : ∀ x, x < 128 → ∀ y, y < 5 → ((x + 16 * y) &&& 0x0f) = (x &&& 0x0f) := by decide +kernel
theorem bc_d5 : ∀ x, x < 256 → bc_c 1 x = pu_cnt (fun i => x.testBit i) 8 := by decide +kernel
theorem bc_a_step (k x m : Nat) (hx : x < 256) : bc_a (k + 1) (x + 256 * m) = bc_a 1 x + 256 * bc_a k m := by
  unfold bc_a
  have h1 : (x + 256 * m) / 2 = x / 2 + 128 * m := by omega
  have h2 : (x / 2 + 128 * m) % 256 = x / 2 + 128 * (m % 2) := by omega
  have h3 : (x / 2 + 128 * m) / 256 = m / 2 := by omega
  have h4 : x / 2 &&& bc_5 1 = x / 2 &&& 0x55 := rfl
  rw [h1, bc_5, bc_land (by decide), h2, h3, bc_d1 x hx (m % 2) (by omega), h4]
  have h5 : x / 2 &&& 0x55 ≤ x / 2 := Nat.and_le_left
  have h6 : m / 2 &&& bc_5 k ≤ m / 2 := Nat.and_le_left
  omega
theorem bc_b_step (k x m : Nat) (hx : x < 256) : bc_b (k + 1) (x + 256 * m) = bc_b 1 x + 256 * bc_b k m := by
  unfold bc_b
  have ha := (bc_d3 x hx).1
  rw [bc_a_step k x m hx]
  generalize bc_a 1 x = u at ha ⊢
  generalize bc_a k m = v
  have h1 : (u + 256 * v) % 256 = u := by omega
  have h2 : (u + 256 * v) / 256 = v := by omega
  have h3 : (u + 256 * v) / 4 = u / 4 + 64 * v := by omega
  have h4 : (u / 4 + 64 * v) % 256 = u / 4 + 64 * (v % 4) := by omega
  have h5 : (u / 4 + 64 * v) / 256 = v / 4 := by omega
  have h6 : ∀ z, z &&& bc_3 1 = z &&& 0x33 := fun _ => rfl
  rw [h3, bc_3, bc_land (by decide), bc_land (by decide), h1, h2, h4, h5, bc_d2 u ha (v % 4) (by omega), h6, h6]
  omega
theorem bc_b_mod (k n : Nat) : bc_b k n % 16 ≤ 4 := by
  cases k with
  | zero => simp [bc_b, bc_3]
  | succ k =>
    have h := bc_b_step k (n % 256) (n / 256) (Nat.mod_lt _ (by decide))
    rw [show n % 256 + 256 * (n / 256) = n by omega] at h
    have h2 := bc_d3 (n % 256) (Nat.mod_lt _ (by decide))
    omega
theorem bc_c_step (k x m : Nat) (hx : x < 256) : bc_c (k + 1) (x + 256 * m) = bc_c 1 x + 256 * bc_c k m := by
  unfold bc_c
  obtain ⟨-, h1, h2⟩ := bc_d3 x hx
  have h3 := bc_b_mod k m
  rw [bc_b_step k x m hx]
  generalize bc_b 1 x = u at h1 h2 ⊢
  generalize bc_b k m = v at h3 ⊢
  have h4 : u + 256 * v + (u + 256 * v) / 16 = (u + u / 16 + 16 * (v % 16)) + 256 * (v + v / 16) := by omega
  have h5 : ((u + u / 16 + 16 * (v % 16)) + 256 * (v + v / 16)) % 256 = u + u / 16 + 16 * (v % 16) := by omega
  have h6 : ((u + u / 16 + 16 * (v % 16)) + 256 * (v + v / 16)) / 256 = v + v / 16 := by omega
  have h7 : ∀ z, z &&& bc_f 1 = z &&& 0x0f := fun _ => rfl
  rw [h4, bc_f, bc_land (by decide), h5, h6, bc_d4 (u + u / 16) (by omega) (v % 16) (by omega), h7]
theorem pu_cnt_split (f : Nat → Bool) (a b : Nat) : pu_cnt f (a + b) = pu_cnt f a + pu_cnt (fun i => f (a + i)) b := by
  induction b with
  | zero => rfl
  | succ b ih =>
    rw [← Nat.add_assoc]
    simp only [pu_cnt]
    rw [ih]
    omega
theorem bc_one (k n : Nat) : ∃ c, c ≤ 8 ∧ bc_c (k + 1) n = c + 256 * bc_c k (n / 256) ∧ pu_cnt (fun i => n.testBit i) (8 + 8 * k) = c + pu_cnt (fun i => (n / 256).testBit i) (8 * k) := by
  have hx : n % 256 < 256 := Nat.mod_lt _ (by decide)
  have h := bc_c_step k (n % 256) (n / 256) hx
  rw [show n % 256 + 256 * (n / 256) = n by omega, bc_d5 _ hx] at h
  refine ⟨_, pu_cnt_le _ 8, h, ?_⟩
  rw [pu_cnt_split]
  congr 1
  · refine pu_cnt_congr (fun i hi => ?_)
    rw [show (256 : Nat) = 2 ^ 8 from rfl, Nat.testBit_mod_two_pow]
    simp [hi]
  · refine pu_cnt_congr (fun i hi => ?_)
    rw [show (256 : Nat) = 2 ^ 8 from rfl, Nat.testBit_div_two_pow, Nat.add_comm]
theorem bc_c0 (n : Nat) : bc_c 0 n = 0 := by simp [bc_c, bc_f]
theorem bc_sum {c0 c1 c2 c3 c4 c5 c6 c7 r1 r2 r3 r4 r5 r6 r7 v : Nat} (h0 : c0 ≤ 8) (h1 : c1 ≤ 8) (h2 : c2 ≤ 8) (h3 : c3 ≤ 8) (h4 : c4 ≤ 8) (h5 : c5 ≤ 8) (h6 : c6 ≤ 8) (h7 : c7 ≤ 8)
    (hv : v = c0 + 256 * r1) (e1 : r1 = c1 + 256 * r2) (e2 : r2 = c2 + 256 * r3) (e3 : r3 = c3 + 256 * r4) (e4 : r4 = c4 + 256 * r5) (e5 : r5 = c5 + 256 * r6) (e6 : r6 = c6 + 256 * r7) (e7 : r7 = c7) :
    (v + v / 256 + (v + v / 256) / 65536 + (v + v / 256 + (v + v / 256) / 65536) / 4294967296) % 128 = c0 + (c1 + (c2 + (c3 + (c4 + (c5 + (c6 + c7)))))) := by
  have k1 : v / 256 = r1 := by clear e1 e2 e3 e4 e5 e6 e7; omega
  rw [k1]
  have k2 : (v + r1) / 65536 = r2 + r3 := by clear e3 e4 e5 e6 e7; omega
  rw [k2]
  have g1 : v = c0 + 256 * c1 + 65536 * c2 + 16777216 * c3 + 4294967296 * r4 := by clear e4 e5 e6 e7 k1 k2; omega
  have g2 : r1 = c1 + 256 * c2 + 65536 * c3 + 16777216 * c4 + 4294967296 * r5 := by clear hv e5 e6 e7 k1 k2 g1; omega
  have g3 : r2 = c2 + 256 * c3 + 65536 * c4 + 16777216 * c5 + 4294967296 * r6 := by clear hv e1 e6 e7 k1 k2 g1 g2; omega
  have g4 : r3 = c3 + 256 * c4 + 65536 * c5 + 16777216 * c6 + 4294967296 * r7 := by clear hv e1 e2 e7 k1 k2 g1 g2 g3; omega
  have k3 : (v + r1 + (r2 + r3)) / 4294967296 = r4 + r5 + (r6 + r7) := by
    clear hv e1 e2 e3 e4 e5 e6 e7 k1 k2
    rw [g1, g2, g3, g4]
    omega
  rw [k3]
  clear k1 k2 k3 g1 g2 g3 g4
  omega
theorem bc_end (n : Nat) : (bc_c 8 n + bc_c 8 n / 256 + (bc_c 8 n + bc_c 8 n / 256) / 65536 + (bc_c 8 n + bc_c 8 n / 256 + (bc_c 8 n + bc_c 8 n / 256) / 65536) / 4294967296) % 128 = pu_cnt (fun i => n.testBit i) 64 := by
  obtain ⟨c0, l0, a0, b0⟩ := bc_one 7 n
  obtain ⟨c1, l1, a1, b1⟩ := bc_one 6 (n / 256)
  obtain ⟨c2, l2, a2, b2⟩ := bc_one 5 (n / 256 / 256)
  obtain ⟨c3, l3, a3, b3⟩ := bc_one 4 (n / 256 / 256 / 256)
  obtain ⟨c4, l4, a4, b4⟩ := bc_one 3 (n / 256 / 256 / 256 / 256)
  obtain ⟨c5, l5, a5, b5⟩ := bc_one 2 (n / 256 / 256 / 256 / 256 / 256)
  obtain ⟨c6, l6, a6, b6⟩ := bc_one 1 (n / 256 / 256 / 256 / 256 / 256 / 256)
  obtain ⟨c7, l7, a7, b7⟩ := bc_one 0 (n / 256 / 256 / 256 / 256 / 256 / 256 / 256)
  rw [bc_c0] at a7
  have hz : pu_cnt (fun i => (n / 256 / 256 / 256 / 256 / 256 / 256 / 256 / 256).testBit i) (8 * 0) = 0 := rfl
  rw [hz] at b7
  have e0 : pu_cnt (fun i => n.testBit i) 64 = pu_cnt (fun i => n.testBit i) (8 + 8 * 7) := rfl
  have hb : pu_cnt (fun i => n.testBit i) 64 = c0 + (c1 + (c2 + (c3 + (c4 + (c5 + (c6 + c7)))))) := by
    rw [e0, b0, show 8 * 7 = 8 + 8 * 6 from rfl, b1, show 8 * 6 = 8 + 8 * 5 from rfl, b2, show 8 * 5 = 8 + 8 * 4 from rfl, b3, show 8 * 4 = 8 + 8 * 3 from rfl, b4, show 8 * 3 = 8 + 8 * 2 from rfl, b5, show 8 * 2 = 8 + 8 * 1 from rfl, b6, show 8 * 1 = 8 + 8 * 0 from rfl, b7, Nat.add_zero]
  rw [hb]
  exact bc_sum l0 l1 l2 l3 l4 l5 l6 l7 a0 a1 a2 a3 a4 a5 a6 (a7.trans (by omega))
-- on longs
theorem bc_le5 (k n : Nat) : bc_a k n ≤ n := Nat.sub_le _ _
theorem bc_m3 : bc_3 8 = 3689348814741910323 := by decide +kernel
theorem bc_m5 : bc_5 8 = 6148914691236517205 := by decide +kernel
theorem bc_mf : bc_f 8 = 1085102592571150095 := by decide +kernel
theorem bc_b_le (n : Nat) : bc_b 8 n ≤ 7378697629483820646 := by
  have h1 : bc_a 8 n &&& bc_3 8 ≤ bc_3 8 := Nat.and_le_right
  have h2 : (bc_a 8 n / 4) &&& bc_3 8 ≤ bc_3 8 := Nat.and_le_right
  unfold bc_b
  rw [bc_m3] at h1 h2 ⊢
  omega
theorem bc_c_le (n : Nat) : bc_c 8 n ≤ 1085102592571150095 := by
  have h1 : (bc_b 8 n + bc_b 8 n / 16) &&& bc_f 8 ≤ bc_f 8 := Nat.and_le_right
  unfold bc_c
  rw [bc_mf] at h1 ⊢
  exact h1
theorem bc_i1 {n : Nat} (hn : n < 2 ^ 64) : lN n - (((lN n).toUInt64 >>> ((nI 1).toInt64.toUInt64 &&& Int64.toUInt64 63)).toInt64 &&& 6148914691236517205) = lN (bc_a 8 n) := by
  have e : (6148914691236517205 : Int64) = lN (bc_5 8) := by rw [bc_m5]; rfl
  have h5 : bc_5 8 < 2 ^ 64 := by rw [bc_m5]; decide
  rw [e, wb_shr hn (by decide), wb_and (by omega) h5, Nat.pow_one, lN_sub]
  · rfl
  · exact Nat.le_trans Nat.and_le_left (Nat.div_le_self _ _)
theorem bc_i2 {n : Nat} (hn : n < 2 ^ 64) : (lN (bc_a 8 n) &&& 3689348814741910323) + (((lN (bc_a 8 n)).toUInt64 >>> ((nI 2).toInt64.toUInt64 &&& Int64.toUInt64 63)).toInt64 &&& 3689348814741910323) = lN (bc_b 8 n) := by
  have e : (3689348814741910323 : Int64) = lN (bc_3 8) := by rw [bc_m3]; rfl
  have h3 : bc_3 8 < 2 ^ 64 := by rw [bc_m3]; decide
  have ha := bc_le5 8 n
  rw [e, wb_shr (by omega) (by decide), wb_and (by omega) h3, wb_and (by omega) h3, lN_add]
  rfl
theorem bc_i3 (n : Nat) : (lN (bc_b 8 n) + ((lN (bc_b 8 n)).toUInt64 >>> ((nI 4).toInt64.toUInt64 &&& Int64.toUInt64 63)).toInt64) &&& 1085102592571150095 = lN (bc_c 8 n) := by
  have e : (1085102592571150095 : Int64) = lN (bc_f 8) := by rw [bc_mf]; rfl
  have hf : bc_f 8 < 2 ^ 64 := by rw [bc_mf]; decide
  have hb := bc_b_le n
  rw [e, wb_shr (by omega) (by decide), lN_add, wb_and (by omega) hf]
  rfl
theorem bc_i4 {v k : Nat} (hv : v < 2 ^ 64) (hk : k < 64) : lN v + ((lN v).toUInt64 >>> ((nI k).toInt64.toUInt64 &&& Int64.toUInt64 63)).toInt64 = lN (v + v / 2 ^ k) := by
  rw [wb_shr hv hk, lN_add]
theorem bc_i7 {s : Nat → Bool} : (lN (bc_c 8 (bt_n s 64) + bc_c 8 (bt_n s 64) / 2 ^ 8 + (bc_c 8 (bt_n s 64) + bc_c 8 (bt_n s 64) / 2 ^ 8) / 2 ^ 16 + (bc_c 8 (bt_n s 64) + bc_c 8 (bt_n s 64) / 2 ^ 8 + (bc_c 8 (bt_n s 64) + bc_c 8 (bt_n s 64) / 2 ^ 8) / 2 ^ 16) / 2 ^ 32)).toInt32 &&& nI 127 = nI (pu_cnt s 64) := by
  have hc := bc_c_le (bt_n s 64)
  have h := bc_end (bt_n s 64)
  rw [pu_cnt_congr (f := fun i => (bt_n s 64).testBit i) (g := s) (n := 64) (fun i hi => by rw [bt_n_test]; simp [hi])] at h
  rw [show (2 : Nat) ^ 8 = 256 from rfl, show (2 : Nat) ^ 16 = 65536 from rfl, show (2 : Nat) ^ 32 = 4294967296 from rfl]
  generalize bc_c 8 (bt_n s 64) = v at h hc ⊢
  rw [lN_i]
  generalize hq : v + v / 256 + (v + v / 256) / 65536 + (v + v / 256 + (v + v / 256) / 65536) / 4294967296 = q at h ⊢
  have e : nI q = nI (q % 2 ^ 32) := by
    apply Int32.toBitVec_inj.mp
    show BitVec.ofNat 32 q = BitVec.ofNat 32 (q % 2 ^ 32)
    apply BitVec.eq_of_toNat_eq
    rw [BitVec.toNat_ofNat, BitVec.toNat_ofNat, Nat.mod_mod]
  rw [e, pk_andN (m := nI 127) (Nat.mod_lt _ (by decide)) 7 (by decide), ← h]
  congr 1
  have : (2 : Nat) ^ 7 = 128 := rfl
  rw [this]
  omega
end
section
/-! Sets of places: one place by its int, the least from a place on. -/
theorem nI_inj {a b : Nat} (ha : a < 2 ^ 31) (hb : b < 2 ^ 31) (h : nI a = nI b) : a = b := (nI_eq ha hb).mp h
theorem bt_one_nI {j i : Nat} (hj : j < 2 ^ 31) (hi : i < 2 ^ 31) : bt_one (nI j) i = decide (i = j) := by
  unfold bt_one
  by_cases e : i = j
  · subst e; simp
  · have : ¬ nI j = nI i := fun z => e (nI_inj hj hi z).symm
    simp [e, this]
theorem bt_one_no {p : Int32} {i : Nat} (hi : i < 2 ^ 31) (hp : p < 0) : bt_one p i = false := by
  unfold bt_one
  have : ¬ p = nI i := fun z => by
    rw [z] at hp
    exact nI_pos hi hp
  simp [this]
def bt_m (s : Nat → Bool) (p : Int32) : Bool := pu_ex (fun i => s i && bt_one p i) 128
theorem bt_m_at {s : Nat → Bool} {j : Nat} (hj : j < 128) : bt_m s (nI j) = s j := by
  unfold bt_m
  cases hs : s j with
  | false =>
    refine pu_ex_false.mpr (fun i hi => ?_)
    rw [bt_one_nI (by omega) (by omega)]
    by_cases e : i = j
    · subst e; rw [hs]; rfl
    · simp [e]
  | true => exact pu_ex_iff.mpr ⟨j, hj, by rw [hs, bt_one_nI (by omega) (by omega)]; simp⟩
theorem bt_m_no {s : Nat → Bool} {p : Int32} (hp : p < 0) : bt_m s p = false := pu_ex_false.mpr (fun i hi => by rw [bt_one_no (by omega) hp, Bool.and_false])
/-- lowBit -/
theorem bt_l_in {p : Int32} (h0 : 0 ≤ p) (h1 : p < nI 64) : (1 : Int64) <<< (p.toInt64 &&& 63) = bt_lo (bt_one p) := by
  obtain ⟨k, hk, rfl⟩ := nI_of (x := p) (fun z => by
    rw [Int32.lt_iff_toInt_lt, Int32.toInt_zero] at z
    rw [Int32.le_iff_toInt_le, Int32.toInt_zero] at h0
    omega)
  have hk2 : k < 64 := (nI_ltI hk (by decide)).mp h1
  rw [bt_shl hk2]
  exact bt_congr (fun i hi => by rw [bt_one_nI hk (by omega)])
theorem bt_l_out {p : Int32} (h : ¬ (0 ≤ p ∧ p < nI 64)) : bt_lo (bt_one p) = 0 := (bt_z _).mpr (fun i hi => by
  unfold bt_one
  have : ¬ p = nI i := fun z => h ⟨by rw [z]; exact nI_pos' (by omega), by rw [z]; exact nI_lt hi (by decide)⟩
  simp [this])
/-- highBit -/
theorem bt_h_in {p : Int32} (h0 : nI 64 ≤ p) (h1 : p < nI 128) : (1 : Int64) <<< ((p - nI 64).toInt64 &&& 63) = bt_hi (bt_one p) := by
  obtain ⟨k, hk, rfl⟩ := nI_of (x := p) (fun z => by
    rw [Int32.lt_iff_toInt_lt, Int32.toInt_zero] at z
    rw [Int32.le_iff_toInt_le, nI_toInt (by decide)] at h0
    omega)
  have hk2 : k < 128 := (nI_ltI hk (by decide)).mp h1
  have hk3 : 64 ≤ k := (nI_leI (by decide) hk).mp h0
  rw [pk_sub hk3, bt_shl (by omega), bt_hi_eq]
  refine bt_congr (fun i hi => ?_)
  rw [bt_one_nI hk (by omega)]
  by_cases e : i = k - 64
  · subst e
    have : 64 + (k - 64) = k := by omega
    simp [this]
  · have : ¬ 64 + i = k := by omega
    simp [e, this]
theorem bt_h_out {p : Int32} (h : ¬ (nI 64 ≤ p ∧ p < nI 128)) : bt_hi (bt_one p) = 0 := by
  rw [bt_hi_eq]
  refine (bt_z _).mpr (fun i hi => ?_)
  unfold bt_one
  have : ¬ p = nI (64 + i) := fun z => h ⟨by rw [z]; exact nI_le (by omega) (by omega), by rw [z]; exact nI_lt (by omega) (by decide)⟩
  simp [this]
theorem bt_hand (s t : Nat → Bool) : bt_hi s &&& bt_hi t = bt_hi (fun i => s i && t i) := by rw [bt_hi_eq, bt_hi_eq, bt_hi_eq, bt_and]
theorem bt_hor (s t : Nat → Bool) : bt_hi s ||| bt_hi t = bt_hi (fun i => s i || t i) := by rw [bt_hi_eq, bt_hi_eq, bt_hi_eq, bt_or]
theorem bt_hnot (t : Nat → Bool) : bt_hi t ^^^ (-1) = bt_hi (fun i => !t i) := by rw [bt_hi_eq, bt_hi_eq, bt_not]
theorem bt_hz (s : Nat → Bool) : bt_hi s = 0 ↔ ∀ i, 64 ≤ i → i < 128 → s i = false := by
  rw [bt_hi_eq, bt_z]
  constructor
  · intro h i h1 h2
    have := h (i - 64) (by omega)
    rwa [show 64 + (i - 64) = i by omega] at this
  · intro h i hi
    exact h (64 + i) (by omega) (by omega)
theorem bt_hcongr {s t : Nat → Bool} (h : ∀ i, i < 128 → s i = t i) : bt_hi s = bt_hi t := by
  rw [bt_hi_eq, bt_hi_eq]
  exact bt_congr (fun i hi => h (64 + i) (by omega))
/-- an element in both -/
def bt_meet (s t : Nat → Bool) : Bool := pu_ex (fun i => s i && t i) 128
theorem bt_meet_no {s t : Nat → Bool} : bt_meet s t = false ↔ (bt_lo s &&& bt_lo t = 0 ∧ bt_hi s &&& bt_hi t = 0) := by
  rw [bt_and, bt_hand, bt_z, bt_hz]
  unfold bt_meet
  rw [pu_ex_false]
  constructor
  · intro h
    exact ⟨fun i hi => h i (by omega), fun i h1 h2 => h i h2⟩
  · rintro ⟨h1, h2⟩ i hi
    rcases Nat.lt_or_ge i 64 with h | h
    · exact h1 i h
    · exact h2 i h hi
theorem bt_m_meet (s : Nat → Bool) (p : Int32) : bt_m s p = bt_meet s (bt_one p) := rfl
theorem bt_empty {s : Nat → Bool} : pu_ex s 128 = false ↔ (bt_lo s = 0 ∧ bt_hi s = 0) := by
  rw [bt_z, bt_hz, pu_ex_false]
  constructor
  · intro h
    exact ⟨fun i hi => h i (by omega), fun i h1 h2 => h i h2⟩
  · rintro ⟨h1, h2⟩ i hi
    rcases Nat.lt_or_ge i 64 with h | h
    · exact h1 i h
    · exact h2 i h hi
theorem bt_size (s : Nat → Bool) : nI (pu_cnt s 64) + nI (pu_cnt (fun i => s (64 + i)) 64) = nI (pu_cnt s 128) := by
  rw [nI_add, ← pu_cnt_split s 64 64]
/-- the least place from f on, 128 if there is none -/
def bt_nx (s : Nat → Bool) (f : Nat) : Nat := pu_fnd (fun i => s i && decide (f ≤ i)) 128
theorem bt_r1 (r : Nat) : lN (2 ^ r) - 1 = lN (2 ^ r - 1) := by
  have : (1 : Int64) = lN 1 := rfl
  rw [this, lN_sub (Nat.one_le_two_pow)]
theorem bt_ones {r : Nat} (hr : r < 64) : lN (2 ^ r - 1) = bt_lo (fun i => decide (i < r)) := bt_ext (fun i hi => by
  rw [wb_tb, BitVec.getLsbD_ofNat, Nat.testBit_two_pow_sub_one]
  simp [hi])
theorem bt_cntlt {r : Nat} : ∀ n, r ≤ n → pu_cnt (fun i => decide (i < r)) n = r := by
  intro n hn
  induction n with
  | zero => have : r = 0 := by omega
            subst this; rfl
  | succ n ih =>
    simp only [pu_cnt]
    by_cases e : r = n + 1
    · have h1 : pu_cnt (fun i => decide (i < r)) n = n := by
        have h2 := pu_cnt_le (fun i => decide (i < r)) n
        have h3 : ∀ k, k ≤ n → pu_cnt (fun i => decide (i < r)) k = k := by
          intro k hk
          induction k with
          | zero => rfl
          | succ k ih2 =>
            simp only [pu_cnt]
            rw [ih2 (by omega), if_pos (by simp; omega)]
        exact h3 n (Nat.le_refl _)
      rw [h1, if_pos (by simp; omega)]
      exact e.symm
    · rw [ih (by omega), if_neg (by simp; omega)]
      omega
theorem bt_some {t : Nat → Bool} (h : ¬ bt_lo t = 0) : pu_fnd t 64 < 64 := by
  rcases Nat.lt_or_ge (pu_fnd t 64) 64 with h1 | h1
  · exact h1
  · exact absurd ((bt_z t).mpr (fun i hi => pu_fnd_min (n := 64) (by omega))) h
theorem bt_lowest {t : Nat → Bool} (h : ¬ bt_lo t = 0) : (bt_lo t &&& -(bt_lo t)) - 1 = bt_lo (fun i => decide (i < pu_fnd t 64)) := by
  have h1 := bt_some h
  rw [bt_low h1 (pu_fnd_lt h1) (fun i hi => pu_fnd_min hi), bt_r1, bt_ones h1]
theorem bt_nx_low {s : Nat → Bool} {f : Nat} (h : ¬ bt_lo (fun i => s i && decide (f ≤ i)) = 0) : bt_nx s f = pu_fnd (fun i => s i && decide (f ≤ i)) 64 := by
  have h1 := bt_some h
  exact pu_fnd_eq (by omega) (pu_fnd_lt h1) (fun p hp => pu_fnd_min hp)
theorem bt_nx_high {s : Nat → Bool} {f : Nat} (h0 : bt_lo (fun i => s i && decide (f ≤ i)) = 0) (h : ¬ bt_lo (fun i => s (64 + i) && decide (f ≤ 64 + i)) = 0) : bt_nx s f = 64 + pu_fnd (fun i => s (64 + i) && decide (f ≤ 64 + i)) 64 := by
  have h1 := bt_some h
  refine pu_fnd_eq (by omega) (pu_fnd_lt h1) (fun p hp => ?_)
  rcases Nat.lt_or_ge p 64 with h2 | h2
  · exact (bt_z _).mp h0 p h2
  · have := pu_fnd_min (f := fun i => s (64 + i) && decide (f ≤ 64 + i)) (n := 64) (p := p - 64) (by omega)
    rwa [show 64 + (p - 64) = p by omega] at this
theorem bt_nx_none {s : Nat → Bool} {f : Nat} (h0 : bt_lo (fun i => s i && decide (f ≤ i)) = 0) (h : bt_lo (fun i => s (64 + i) && decide (f ≤ 64 + i)) = 0) : bt_nx s f = 128 := by
  refine pu_fnd_none (fun p hp => ?_)
  rcases Nat.lt_or_ge p 64 with h2 | h2
  · exact (bt_z _).mp h0 p h2
  · have := (bt_z _).mp h (p - 64) (by omega)
    rwa [show 64 + (p - 64) = p by omega] at this
end
section
/-! Going over a set upwards. -/
theorem bt_nx_le (s : Nat → Bool) (f : Nat) : bt_nx s f ≤ 128 := pu_fnd_le _ _
theorem bt_nx_in {s : Nat → Bool} {f : Nat} (h : bt_nx s f < 128) : s (bt_nx s f) = true ∧ f ≤ bt_nx s f := by
  have h1 := pu_fnd_lt h
  simp only [Bool.and_eq_true, decide_eq_true_eq] at h1
  exact h1
theorem bt_nx_gap {s : Nat → Bool} {f i : Nat} (h1 : f ≤ i) (h2 : i < bt_nx s f) : s i = false := by
  have h := pu_fnd_min h2
  simpa [h1] using h
/-- a set below N: the next one is below N, or there is none -/
theorem bt_nx_N {s : Nat → Bool} {N f : Nat} (hs : ∀ i, s i = true → i < N) (h : N ≤ bt_nx s f) (hN : N ≤ 128) : bt_nx s f = 128 ∧ ∀ i, f ≤ i → s i = false := by
  have hle := bt_nx_le s f
  have e : bt_nx s f = 128 := by
    rcases Nat.lt_or_ge (bt_nx s f) 128 with h1 | h1
    · have := hs _ (bt_nx_in h1).1
      omega
    · omega
  refine ⟨e, fun i hi => ?_⟩
  rcases Nat.lt_or_ge i 128 with h1 | h1
  · exact bt_nx_gap hi (by omega)
  · cases hi2 : s i with
    | false => rfl
    | true => have := hs i hi2; omega
/-- what has been met below f -/
def bt_vis (s : Nat → Bool) (f : Nat) : Nat → Bool := fun i => s i && decide (i < f)
theorem bt_vis_0 (s : Nat → Bool) (i : Nat) : bt_vis s 0 i = false := by simp [bt_vis]
theorem bt_vis_step {s : Nat → Bool} {f : Nat} (h : bt_nx s f < 128) (i : Nat) : bt_vis s (bt_nx s f + 1) i = (bt_vis s f i || decide (i = bt_nx s f)) := by
  obtain ⟨h1, h2⟩ := bt_nx_in h
  unfold bt_vis
  by_cases e : i = bt_nx s f
  · have h3 : s i = true := by rw [e]; exact h1
    have h4 : i < bt_nx s f + 1 := by omega
    rw [h3, decide_eq_true h4, decide_eq_true e]
    cases decide (i < f) <;> rfl
  · by_cases h3 : i < f
    · have h4 : i < bt_nx s f + 1 := by omega
      simp [h3, h4, e]
    · by_cases h4 : i < bt_nx s f
      · rw [bt_nx_gap (by omega) h4]
        simp [e]
      · have h5 : ¬ i < bt_nx s f + 1 := by omega
        simp [h3, h5, e]
theorem bt_vis_end {s : Nat → Bool} {f : Nat} (h : ∀ i, f ≤ i → s i = false) (i : Nat) : bt_vis s f i = s i := by
  unfold bt_vis
  by_cases h1 : i < f
  · simp [h1]
  · rw [h i (by omega)]; rfl
theorem mw_down {P : Nat → Prop} (n : Nat) (h : ∀ i, i ≤ n → (i < n → P (i + 1)) → P i) : ∀ i, i ≤ n → P i := by
  have key : ∀ k i, i ≤ n → n - i = k → P i := by
    intro k
    induction k with
    | zero => intro i h1 h2; exact h i h1 (fun h3 => by omega)
    | succ k ih => intro i h1 h2; exact h i h1 (fun h3 => ih (i + 1) (by omega) (by omega))
  exact fun i hi => key (n - i) i hi rfl
theorem mw_sdown {P : Nat → Prop} (n : Nat) (h : ∀ i, i ≤ n → (∀ j, i < j → j ≤ n → P j) → P i) : ∀ i, i ≤ n → P i := by
  have key : ∀ k i, i ≤ n → n - i ≤ k → P i := by
    intro k
    induction k with
    | zero => intro i h1 h2; exact h i h1 (fun j h3 h4 => by omega)
    | succ k ih => intro i h1 h2; exact h i h1 (fun j h3 h4 => ih j h4 (by omega))
  exact fun i hi => key (n - i) i hi (Nat.le_refl _)
theorem pu_ex_or (f g : Nat → Bool) (n : Nat) : pu_ex (fun i => f i || g i) n = (pu_ex f n || pu_ex g n) := by
  induction n with
  | zero => rfl
  | succ n ih => simp only [pu_ex]; rw [ih]; cases pu_ex f n <;> cases pu_ex g n <;> cases f n <;> cases g n <;> rfl
theorem pu_ex_congr {f g : Nat → Bool} {n : Nat} (h : ∀ p, p < n → f p = g p) : pu_ex f n = pu_ex g n := by
  induction n with
  | zero => rfl
  | succ n ih => simp only [pu_ex]; rw [ih (fun p hp => h p (by omega)), h n (by omega)]
theorem pu_ex_one {g : Nat → Bool} {n k : Nat} (hk : k < n) : pu_ex (fun i => decide (i = k) && g i) n = g k := by
  cases h : g k with
  | true => exact pu_ex_iff.mpr ⟨k, hk, by simp [h]⟩
  | false =>
    refine pu_ex_false.mpr (fun p hp => ?_)
    by_cases e : p = k
    · subst e; simp [h]
    · simp [e]
end
section
/-! The class's cells, seen as a value: the number of places, the sets by number (out of i: 2 i; into i: 2 i + 1; reached 240, rim 241, fresh 242, kept 243), the rows (line 0, waiting 1, tally 2). -/
def ps_F (lo hi : Int64) : Nat → Value := fun k => if k = 0 then .long lo else if k = 1 then .long hi else .null
def ps_S (s : Nat → Bool) : Nat → Value := ps_F (bt_lo s) (bt_hi s)
theorem ps_F0 (lo hi : Int64) : ps_F lo hi 0 = .long lo := rfl
theorem ps_F1 (lo hi : Int64) : ps_F lo hi 1 = .long hi := rfl
theorem ps_U0 (lo hi x : Int64) : updV (ps_F lo hi) 0 (.long x) = ps_F x hi := by
  funext k
  unfold updV ps_F
  split <;> rfl
theorem ps_U1 (lo hi x : Int64) : updV (ps_F lo hi) 1 (.long x) = ps_F lo x := by
  funext k
  unfold updV ps_F
  by_cases e : k = 1
  · subst e; rfl
  · rw [if_neg e, if_neg e, if_neg e]
theorem mw_upup {α : Type} (f : Nat → α) (k : Nat) (u v : α) : va_up (va_up f k u) k v = va_up f k v := by
  funext j
  unfold va_up
  split <;> rfl
theorem mw_upid {α : Type} (f : Nat → α) (k : Nat) (u : α) (h : f k = u) : va_up f k u = f := by
  funext j
  unfold va_up
  split
  · rename_i e; rw [e, h]
  · rfl
abbrev ob_K : Type := Nat × (Nat → Nat → Bool) × (Nat → Nat → Int32)
def ob_F (b n : Nat) : Nat → Value := fun k => match k with
  | 0 => .int (nI n)
  | 1 => .ref (b + 1)
  | 2 => .ref (b + 2)
  | 3 => .ref (b + (3 + 240))
  | 4 => .ref (b + (3 + 241))
  | 5 => .ref (b + (3 + 242))
  | 6 => .ref (b + (3 + 243))
  | 7 => .ref (b + (247 + 0))
  | 8 => .ref (b + (247 + 1))
  | _ => .ref (b + (247 + 2))
def ob_o (b : Nat) (κ : ob_K) (k : Nat) : mw_O :=
  if k = 0 then .inl (1, ob_F b κ.1)
  else if k = 1 then .inr (3, 120, fun i => .ref (b + (3 + 2 * i)))
  else if k = 2 then .inr (3, 120, fun i => .ref (b + (3 + (2 * i + 1))))
  else if k < 247 then .inl (0, ps_S (κ.2.1 (k - 3)))
  else .inr (0, 120, fun i => .int (κ.2.2 (k - 247) i))
def ob_h (E : mw_E) (κ : ob_K) (n : Nat) (r : Nat → mw_O) : mw_H := (n, fun k => if k < 250 then ob_o (mw_b E) κ k else r k)
section ObView
variable {E : mw_E} {κ : ob_K} {n : Nat} {r : Nat → mw_O}
theorem ob_g0 : (ob_h E κ n r).2 0 = .inl (1, ob_F (mw_b E) κ.1) := rfl
theorem ob_g1 : (ob_h E κ n r).2 1 = .inr (3, 120, fun i => .ref (mw_b E + (3 + 2 * i))) := rfl
theorem ob_g2 : (ob_h E κ n r).2 2 = .inr (3, 120, fun i => .ref (mw_b E + (3 + (2 * i + 1)))) := rfl
theorem ob_gS {j : Nat} (hj : j < 244) : (ob_h E κ n r).2 (3 + j) = .inl (0, ps_S (κ.2.1 j)) := by
  show (if 3 + j < 250 then ob_o (mw_b E) κ (3 + j) else r (3 + j)) = _
  rw [if_pos (by omega)]
  unfold ob_o
  rw [if_neg (by omega), if_neg (by omega), if_neg (by omega), if_pos (by omega), show 3 + j - 3 = j by omega]
theorem ob_gR {j : Nat} (hj : j < 3) : (ob_h E κ n r).2 (247 + j) = .inr (0, 120, fun i => .int (κ.2.2 j i)) := by
  show (if 247 + j < 250 then ob_o (mw_b E) κ (247 + j) else r (247 + j)) = _
  rw [if_pos (by omega)]
  unfold ob_o
  rw [if_neg (by omega), if_neg (by omega), if_neg (by omega), if_neg (by omega), show 247 + j - 247 = j by omega]
theorem ob_pS {j : Nat} (hj : j < 244) (s : Nat → Bool) : ((ob_h E κ n r).1, va_up (ob_h E κ n r).2 (3 + j) (.inl (0, ps_S s))) = ob_h E (κ.1, va_up κ.2.1 j s, κ.2.2) n r := by
  refine Prod.ext rfl ?_
  funext k
  show va_up (fun k => if k < 250 then ob_o (mw_b E) κ k else r k) (3 + j) (.inl (0, ps_S s)) k = if k < 250 then ob_o (mw_b E) (κ.1, va_up κ.2.1 j s, κ.2.2) k else r k
  unfold va_up
  by_cases e : k = 3 + j
  · subst e
    rw [if_pos rfl, if_pos (by omega)]
    unfold ob_o
    rw [if_neg (by omega), if_neg (by omega), if_neg (by omega), if_pos (by omega)]
    show _ = Sum.inl (0, ps_S (if 3 + j - 3 = j then s else κ.2.1 (3 + j - 3)))
    rw [if_pos (by omega)]
  · rw [if_neg e]
    show (if k < 250 then ob_o (mw_b E) κ k else r k) = _
    by_cases h1 : k < 250
    · rw [if_pos h1, if_pos h1]
      unfold ob_o
      by_cases h2 : k < 247
      · by_cases h3 : k = 0
        · rw [if_pos h3, if_pos h3]
        · by_cases h4 : k = 1
          · rw [if_neg h3, if_neg h3, if_pos h4, if_pos h4]
          · by_cases h5 : k = 2
            · rw [if_neg h3, if_neg h3, if_neg h4, if_neg h4, if_pos h5, if_pos h5]
            · rw [if_neg h3, if_neg h3, if_neg h4, if_neg h4, if_neg h5, if_neg h5, if_pos h2, if_pos h2]
              show Sum.inl (0, ps_S (κ.2.1 (k - 3))) = Sum.inl (0, ps_S (if k - 3 = j then s else κ.2.1 (k - 3)))
              rw [if_neg (by omega)]
      · rw [if_neg (by omega), if_neg (by omega), if_neg (by omega), if_neg h2, if_neg (by omega), if_neg (by omega), if_neg (by omega), if_neg h2]
    · rw [if_neg h1, if_neg h1]
theorem ob_pR {j i : Nat} (hj : j < 3) (x : Int32) : ((ob_h E κ n r).1, va_up (ob_h E κ n r).2 (247 + j) (.inr (0, 120, updV (fun i => .int (κ.2.2 j i)) i (.int x)))) = ob_h E (κ.1, κ.2.1, va_up κ.2.2 j (va_up (κ.2.2 j) i x)) n r := by
  refine Prod.ext rfl ?_
  funext k
  show va_up (fun k => if k < 250 then ob_o (mw_b E) κ k else r k) (247 + j) _ k = if k < 250 then ob_o (mw_b E) (κ.1, κ.2.1, va_up κ.2.2 j (va_up (κ.2.2 j) i x)) k else r k
  unfold va_up
  by_cases e : k = 247 + j
  · subst e
    rw [if_pos rfl, if_pos (by omega)]
    unfold ob_o
    rw [if_neg (by omega), if_neg (by omega), if_neg (by omega), if_neg (by omega)]
    have e3 : 247 + j - 247 = j := by omega
    rw [e3]
    refine congrArg (fun g : Nat → Value => (Sum.inr (0, 120, g) : mw_O)) (funext fun q => ?_)
    show updV (fun i => Value.int (κ.2.2 j i)) i (.int x) q = Value.int ((if j = j then (fun q => if q = i then x else κ.2.2 j q) else κ.2.2 j) q)
    rw [if_pos rfl]
    unfold updV
    split
    · rename_i h; simp [h]
    · rename_i h; simp [h]
  · rw [if_neg e]
    show (if k < 250 then ob_o (mw_b E) κ k else r k) = _
    by_cases h1 : k < 250
    · rw [if_pos h1, if_pos h1]
      unfold ob_o
      by_cases h2 : k < 247
      · by_cases h3 : k = 0
        · rw [if_pos h3, if_pos h3]
        · by_cases h4 : k = 1
          · rw [if_neg h3, if_neg h3, if_pos h4, if_pos h4]
          · by_cases h5 : k = 2
            · rw [if_neg h3, if_neg h3, if_neg h4, if_neg h4, if_pos h5, if_pos h5]
            · rw [if_neg h3, if_neg h3, if_neg h4, if_neg h4, if_neg h5, if_neg h5, if_pos h2, if_pos h2]
      · rw [if_neg (by omega), if_neg (by omega), if_neg (by omega), if_neg h2, if_neg (by omega), if_neg (by omega), if_neg (by omega), if_neg h2]
        have hne : ¬ k - 247 = j := by omega
        generalize k - 247 = z at hne ⊢
        refine congrArg (fun g : Nat → Value => (Sum.inr (0, 120, g) : mw_O)) (funext fun q => ?_)
        show Value.int (κ.2.2 z q) = Value.int ((if z = j then (fun q => if q = i then x else κ.2.2 j q) else κ.2.2 z) q)
        rw [if_neg hne]
    · rw [if_neg h1, if_neg h1]
theorem ob_pN (m : Nat) : ((ob_h E κ n r).1, va_up (ob_h E κ n r).2 0 (.inl (1, updV (ob_F (mw_b E) κ.1) 0 (.int (nI m))))) = ob_h E (m, κ.2.1, κ.2.2) n r := by
  refine Prod.ext rfl ?_
  funext k
  show va_up (fun k => if k < 250 then ob_o (mw_b E) κ k else r k) 0 _ k = if k < 250 then ob_o (mw_b E) (m, κ.2.1, κ.2.2) k else r k
  unfold va_up
  by_cases e : k = 0
  · subst e
    rw [if_pos rfl, if_pos (by omega)]
    unfold ob_o
    rw [if_pos rfl]
    congr 2
    funext q
    unfold updV ob_F
    split
    · rename_i h; subst h; rfl
    · rename_i h
      match q with
      | 0 => exact absurd rfl h
      | 1 => rfl
      | 2 => rfl
      | 3 => rfl
      | 4 => rfl
      | 5 => rfl
      | 6 => rfl
      | 7 => rfl
      | 8 => rfl
      | _ + 9 => rfl
  · rw [if_neg e]
    show (if k < 250 then ob_o (mw_b E) κ k else r k) = _
    by_cases h1 : k < 250
    · rw [if_pos h1, if_pos h1]
      unfold ob_o
      rw [if_neg e, if_neg e]
    · rw [if_neg h1, if_neg h1]
end ObView
end
section
/-! The reference's cells, seen as a value: thrown, n, rows of booleans (way i: i; reached i: 120 + i; placed: 240), rows of ints (away 0, order 1, measure 2). They lie from 250 to 496. -/
abbrev md_K : Type := Int32 × Nat × (Nat → Nat → Bool) × (Nat → Nat → Int32)
def bI (x : Bool) : Int32 := if x = true then 1 else 0
def md_F (b : Nat) (t : Int32) (n : Nat) : Nat → Value := fun k => match k with
  | 0 => .int t
  | 1 => .int (nI n)
  | 2 => .ref (b + 251)
  | 3 => .ref (b + 372)
  | 4 => .ref (b + 373)
  | 5 => .ref (b + 494)
  | 6 => .ref (b + 495)
  | _ => .ref (b + 496)
def md_a (j : Nat) : Nat := if j < 120 then 252 + j else if j < 240 then 254 + j else 495
def md_i (j : Nat) : Nat := if j = 0 then 372 else if j = 1 then 494 else 496
def md_o (b : Nat) (μ : md_K) (k : Nat) : mw_O :=
  if k = 250 then .inl (2, md_F b μ.1 μ.2.1)
  else if k = 251 then .inr (2, 120, fun i => .ref (b + (252 + i)))
  else if k < 372 then .inr (1, 120, fun i => .int (bI (μ.2.2.1 (k - 252) i)))
  else if k = 372 then .inr (0, 120, fun i => .int (μ.2.2.2 0 i))
  else if k = 373 then .inr (2, 120, fun i => .ref (b + (374 + i)))
  else if k < 494 then .inr (1, 120, fun i => .int (bI (μ.2.2.1 (k - 254) i)))
  else if k = 494 then .inr (0, 120, fun i => .int (μ.2.2.2 1 i))
  else if k = 495 then .inr (1, 120, fun i => .int (bI (μ.2.2.1 240 i)))
  else .inr (0, 120, fun i => .int (μ.2.2.2 2 i))
def md_h (E : mw_E) (μ : md_K) (n : Nat) (r : Nat → mw_O) : mw_H := (n, fun k => if 250 ≤ k ∧ k < 497 then md_o (mw_b E) μ k else r k)
section MdView
variable {E : mw_E} {μ : md_K} {n : Nat} {r : Nat → mw_O}
theorem md_gF : (md_h E μ n r).2 250 = .inl (2, md_F (mw_b E) μ.1 μ.2.1) := rfl
theorem md_gW : (md_h E μ n r).2 251 = .inr (2, 120, fun i => .ref (mw_b E + (252 + i))) := rfl
theorem md_gD : (md_h E μ n r).2 373 = .inr (2, 120, fun i => .ref (mw_b E + (374 + i))) := rfl
theorem md_gI {j : Nat} (hj : j < 3) : (md_h E μ n r).2 (md_i j) = .inr (0, 120, fun i => .int (μ.2.2.2 j i)) := by
  match j, hj with
  | 0, _ => rfl
  | 1, _ => rfl
  | 2, _ => rfl
theorem md_gB {j : Nat} (hj : j < 241) : (md_h E μ n r).2 (md_a j) = .inr (1, 120, fun i => .int (bI (μ.2.2.1 j i))) := by
  unfold md_a
  show (if 250 ≤ _ ∧ _ < 497 then md_o (mw_b E) μ _ else r _) = _
  by_cases h1 : j < 120
  · rw [if_pos h1, if_pos (by omega)]
    unfold md_o
    rw [if_neg (by omega), if_neg (by omega), if_pos (by omega), show 252 + j - 252 = j by omega]
  · by_cases h2 : j < 240
    · rw [if_neg h1, if_pos h2, if_pos (by omega)]
      unfold md_o
      rw [if_neg (by omega), if_neg (by omega), if_neg (by omega), if_neg (by omega), if_neg (by omega), if_pos (by omega), show 254 + j - 254 = j by omega]
    · have e : j = 240 := by omega
      subst e
      rfl
end MdView
end
