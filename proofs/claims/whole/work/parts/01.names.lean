-- ===== PART A: goes FIRST, ahead of the names: the tables' words, and 'selects' of the private methods out of them =====
/-- a private method of a class that the tables say can be made, by its rows of tables_1 -/
def lw_okq (q : MethodName × Nat) : Prop := (q.1.cls ≠ "java/lang/invoke/MethodHandle" ∧ q.1.cls ≠ "java/lang/invoke/VarHandle") ∧ Cond.instantiable q.1.cls q.2 ∈ tables_1 ∧ Cond.privateMethod q.1 ∈ tables_1 ∧ Cond.instanceMethod q.1 ∈ tables_1
theorem lw_p0 : lw_okq (⟨"OrderBench", "isOnCircle", "(I)Z"⟩, 10) := ⟨⟨by decide +kernel, by decide +kernel⟩, List.mem_of_getElem? (i := 14) (by decide +kernel), List.mem_of_getElem? (i := 72) (by decide +kernel), List.mem_of_getElem? (i := 73) (by decide +kernel)⟩
theorem lw_p1 : lw_okq (⟨"OrderBench", "search", "([LOrderBench$PlaceSet;III)I"⟩, 10) := ⟨⟨by decide +kernel, by decide +kernel⟩, List.mem_of_getElem? (i := 14) (by decide +kernel), List.mem_of_getElem? (i := 76) (by decide +kernel), List.mem_of_getElem? (i := 77) (by decide +kernel)⟩
theorem lw_p2 : lw_okq (⟨"OrderBench", "moveRim", "([LOrderBench$PlaceSet;I)V"⟩, 10) := ⟨⟨by decide +kernel, by decide +kernel⟩, List.mem_of_getElem? (i := 14) (by decide +kernel), List.mem_of_getElem? (i := 98) (by decide +kernel), List.mem_of_getElem? (i := 99) (by decide +kernel)⟩
theorem lw_p3 : lw_okq (⟨"OrderBench", "leastOfGroup", "(I)I"⟩, 10) := ⟨⟨by decide +kernel, by decide +kernel⟩, List.mem_of_getElem? (i := 14) (by decide +kernel), List.mem_of_getElem? (i := 140) (by decide +kernel), List.mem_of_getElem? (i := 141) (by decide +kernel)⟩
theorem lw_p4 : lw_okq (⟨"OrderBench", "countWays", "()I"⟩, 10) := ⟨⟨by decide +kernel, by decide +kernel⟩, List.mem_of_getElem? (i := 14) (by decide +kernel), List.mem_of_getElem? (i := 152) (by decide +kernel), List.mem_of_getElem? (i := 153) (by decide +kernel)⟩
theorem lw_p5 : lw_okq (⟨"OrderBench", "countWithoutWayTo", "()I"⟩, 10) := ⟨⟨by decide +kernel, by decide +kernel⟩, List.mem_of_getElem? (i := 14) (by decide +kernel), List.mem_of_getElem? (i := 160) (by decide +kernel), List.mem_of_getElem? (i := 161) (by decide +kernel)⟩
theorem lw_p6 : lw_okq (⟨"OrderBench", "countOnCircles", "()I"⟩, 10) := ⟨⟨by decide +kernel, by decide +kernel⟩, List.mem_of_getElem? (i := 14) (by decide +kernel), List.mem_of_getElem? (i := 164) (by decide +kernel), List.mem_of_getElem? (i := 165) (by decide +kernel)⟩
theorem lw_p7 : lw_okq (⟨"java/lang/Throwable", "fillInStackTrace", "(I)Ljava/lang/Throwable;"⟩, 6) := ⟨⟨by decide +kernel, by decide +kernel⟩, List.mem_of_getElem? (i := 214) (by decide +kernel), List.mem_of_getElem? (i := 212) (by decide +kernel), List.mem_of_getElem? (i := 213) (by decide +kernel)⟩
theorem lw_p8 : lw_okq (⟨"OrderBench", "mustBePlace", "(I)V"⟩, 10) := ⟨⟨by decide +kernel, by decide +kernel⟩, List.mem_of_getElem? (i := 14) (by decide +kernel), List.mem_of_getElem? (i := 247) (by decide +kernel), List.mem_of_getElem? (i := 248) (by decide +kernel)⟩
theorem lw_p9 : lw_okq (⟨"OrderBench", "lineUp", "()V"⟩, 10) := ⟨⟨by decide +kernel, by decide +kernel⟩, List.mem_of_getElem? (i := 14) (by decide +kernel), List.mem_of_getElem? (i := 302) (by decide +kernel), List.mem_of_getElem? (i := 303) (by decide +kernel)⟩
theorem lw_p10 : lw_okq (⟨"OrderBench", "release", "(I)V"⟩, 10) := ⟨⟨by decide +kernel, by decide +kernel⟩, List.mem_of_getElem? (i := 14) (by decide +kernel), List.mem_of_getElem? (i := 321) (by decide +kernel), List.mem_of_getElem? (i := 322) (by decide +kernel)⟩
theorem lw_p11 : lw_okq (⟨"OrderBench", "tallyLongest", "()V"⟩, 10) := ⟨⟨by decide +kernel, by decide +kernel⟩, List.mem_of_getElem? (i := 14) (by decide +kernel), List.mem_of_getElem? (i := 332) (by decide +kernel), List.mem_of_getElem? (i := 333) (by decide +kernel)⟩
theorem lw_p12 : lw_okq (⟨"OrderBench", "tallyPaths", "(I)V"⟩, 10) := ⟨⟨by decide +kernel, by decide +kernel⟩, List.mem_of_getElem? (i := 14) (by decide +kernel), List.mem_of_getElem? (i := 349) (by decide +kernel), List.mem_of_getElem? (i := 350) (by decide +kernel)⟩
theorem lw_p13 : lw_okq (⟨"OrderBench", "lastGate", "(II)I"⟩, 10) := ⟨⟨by decide +kernel, by decide +kernel⟩, List.mem_of_getElem? (i := 14) (by decide +kernel), List.mem_of_getElem? (i := 361) (by decide +kernel), List.mem_of_getElem? (i := 362) (by decide +kernel)⟩
theorem lw_p14 : lw_okq (⟨"OrderBenchModel", "refuse", "(IZ)Z"⟩, 8) := ⟨⟨by decide +kernel, by decide +kernel⟩, List.mem_of_getElem? (i := 372) (by decide +kernel), List.mem_of_getElem? (i := 414) (by decide +kernel), List.mem_of_getElem? (i := 415) (by decide +kernel)⟩
theorem lw_p15 : lw_okq (⟨"OrderBenchModel", "set", "(IIZ)Z"⟩, 8) := ⟨⟨by decide +kernel, by decide +kernel⟩, List.mem_of_getElem? (i := 372) (by decide +kernel), List.mem_of_getElem? (i := 422) (by decide +kernel), List.mem_of_getElem? (i := 423) (by decide +kernel)⟩
def lw_privs_1 : List (MethodName × Nat) := [(⟨"OrderBench", "isOnCircle", "(I)Z"⟩, 10), (⟨"OrderBench", "search", "([LOrderBench$PlaceSet;III)I"⟩, 10), (⟨"OrderBench", "moveRim", "([LOrderBench$PlaceSet;I)V"⟩, 10), (⟨"OrderBench", "leastOfGroup", "(I)I"⟩, 10), (⟨"OrderBench", "countWays", "()I"⟩, 10), (⟨"OrderBench", "countWithoutWayTo", "()I"⟩, 10), (⟨"OrderBench", "countOnCircles", "()I"⟩, 10), (⟨"java/lang/Throwable", "fillInStackTrace", "(I)Ljava/lang/Throwable;"⟩, 6), (⟨"OrderBench", "mustBePlace", "(I)V"⟩, 10), (⟨"OrderBench", "lineUp", "()V"⟩, 10), (⟨"OrderBench", "release", "(I)V"⟩, 10), (⟨"OrderBench", "tallyLongest", "()V"⟩, 10), (⟨"OrderBench", "tallyPaths", "(I)V"⟩, 10), (⟨"OrderBench", "lastGate", "(II)I"⟩, 10), (⟨"OrderBenchModel", "refuse", "(IZ)Z"⟩, 8), (⟨"OrderBenchModel", "set", "(IIZ)Z"⟩, 8)]
theorem lw_r1 : ∀ q ∈ lw_privs_1, lw_okq q := List.forall_mem_cons.mpr ⟨lw_p0, List.forall_mem_cons.mpr ⟨lw_p1, List.forall_mem_cons.mpr ⟨lw_p2, List.forall_mem_cons.mpr ⟨lw_p3, List.forall_mem_cons.mpr ⟨lw_p4, List.forall_mem_cons.mpr ⟨lw_p5, List.forall_mem_cons.mpr ⟨lw_p6, List.forall_mem_cons.mpr ⟨lw_p7, List.forall_mem_cons.mpr ⟨lw_p8, List.forall_mem_cons.mpr ⟨lw_p9, List.forall_mem_cons.mpr ⟨lw_p10, List.forall_mem_cons.mpr ⟨lw_p11, List.forall_mem_cons.mpr ⟨lw_p12, List.forall_mem_cons.mpr ⟨lw_p13, List.forall_mem_cons.mpr ⟨lw_p14, List.forall_mem_cons.mpr ⟨lw_p15, fun _ h => absurd h List.not_mem_nil⟩⟩⟩⟩⟩⟩⟩⟩⟩⟩⟩⟩⟩⟩⟩⟩
theorem lw_p16 : lw_okq (⟨"OrderBenchModel", "none", "(I)Z"⟩, 8) := ⟨⟨by decide +kernel, by decide +kernel⟩, List.mem_of_getElem? (i := 372) (by decide +kernel), List.mem_of_getElem? (i := 426) (by decide +kernel), List.mem_of_getElem? (i := 427) (by decide +kernel)⟩
theorem lw_p17 : lw_okq (⟨"OrderBenchModel", "from", "(II)V"⟩, 8) := ⟨⟨by decide +kernel, by decide +kernel⟩, List.mem_of_getElem? (i := 372) (by decide +kernel), List.mem_of_getElem? (i := 438) (by decide +kernel), List.mem_of_getElem? (i := 439) (by decide +kernel)⟩
theorem lw_p18 : lw_okq (⟨"OrderBenchModel", "all", "()V"⟩, 8) := ⟨⟨by decide +kernel, by decide +kernel⟩, List.mem_of_getElem? (i := 372) (by decide +kernel), List.mem_of_getElem? (i := 450) (by decide +kernel), List.mem_of_getElem? (i := 451) (by decide +kernel)⟩
theorem lw_p19 : lw_okq (⟨"OrderBenchModel", "onCircle", "(I)Z"⟩, 8) := ⟨⟨by decide +kernel, by decide +kernel⟩, List.mem_of_getElem? (i := 372) (by decide +kernel), List.mem_of_getElem? (i := 454) (by decide +kernel), List.mem_of_getElem? (i := 455) (by decide +kernel)⟩
theorem lw_p20 : lw_okq (⟨"OrderBenchModel", "least", "(I)I"⟩, 8) := ⟨⟨by decide +kernel, by decide +kernel⟩, List.mem_of_getElem? (i := 372) (by decide +kernel), List.mem_of_getElem? (i := 462) (by decide +kernel), List.mem_of_getElem? (i := 463) (by decide +kernel)⟩
theorem lw_p21 : lw_okq (⟨"OrderBenchModel", "ordered", "()Z"⟩, 8) := ⟨⟨by decide +kernel, by decide +kernel⟩, List.mem_of_getElem? (i := 372) (by decide +kernel), List.mem_of_getElem? (i := 474) (by decide +kernel), List.mem_of_getElem? (i := 475) (by decide +kernel)⟩
theorem lw_p22 : lw_okq (⟨"OrderBenchModel", "ready", "(I)Z"⟩, 8) := ⟨⟨by decide +kernel, by decide +kernel⟩, List.mem_of_getElem? (i := 372) (by decide +kernel), List.mem_of_getElem? (i := 478) (by decide +kernel), List.mem_of_getElem? (i := 479) (by decide +kernel)⟩
theorem lw_p23 : lw_okq (⟨"OrderBenchModel", "always", "(III)Z"⟩, 8) := ⟨⟨by decide +kernel, by decide +kernel⟩, List.mem_of_getElem? (i := 372) (by decide +kernel), List.mem_of_getElem? (i := 496) (by decide +kernel), List.mem_of_getElem? (i := 497) (by decide +kernel)⟩
def lw_privs_2 : List (MethodName × Nat) := [(⟨"OrderBenchModel", "none", "(I)Z"⟩, 8), (⟨"OrderBenchModel", "from", "(II)V"⟩, 8), (⟨"OrderBenchModel", "all", "()V"⟩, 8), (⟨"OrderBenchModel", "onCircle", "(I)Z"⟩, 8), (⟨"OrderBenchModel", "least", "(I)I"⟩, 8), (⟨"OrderBenchModel", "ordered", "()Z"⟩, 8), (⟨"OrderBenchModel", "ready", "(I)Z"⟩, 8), (⟨"OrderBenchModel", "always", "(III)Z"⟩, 8)]
theorem lw_r2 : ∀ q ∈ lw_privs_2, lw_okq q := List.forall_mem_cons.mpr ⟨lw_p16, List.forall_mem_cons.mpr ⟨lw_p17, List.forall_mem_cons.mpr ⟨lw_p18, List.forall_mem_cons.mpr ⟨lw_p19, List.forall_mem_cons.mpr ⟨lw_p20, List.forall_mem_cons.mpr ⟨lw_p21, List.forall_mem_cons.mpr ⟨lw_p22, List.forall_mem_cons.mpr ⟨lw_p23, fun _ h => absurd h List.not_mem_nil⟩⟩⟩⟩⟩⟩⟩⟩
def lw_privs : List (MethodName × Nat) := lw_privs_1 ++ (lw_privs_2)
def lw_tbl : List Cond := k2_sels lw_privs ++ tables_1
theorem lw_privs_ok : ∀ q ∈ lw_privs, lw_okq q := by
  show ∀ q ∈ lw_privs_1 ++ (lw_privs_2), lw_okq q
  exact List.forall_mem_append.mpr ⟨lw_r1, lw_r2⟩

/-! Names: classes, fields in the order of the slots, methods (name, code, locals, answer, handlers). Written by a program. -/
def T_ps : u_T := fun k => match k with
  | 0 => ("OrderBench$PlaceSet", "low", "J", false)
  | _ => ("OrderBench$PlaceSet", "high", "J", false)
def ty_ps : Nat → FieldType := fun k => match k with
  | _ => .long
def T_ob : u_T := fun k => match k with
  | 0 => ("OrderBench", "size", "I", false)
  | 1 => ("OrderBench", "out", "[LOrderBench$PlaceSet;", true)
  | 2 => ("OrderBench", "into", "[LOrderBench$PlaceSet;", true)
  | 3 => ("OrderBench", "reached", "LOrderBench$PlaceSet;", true)
  | 4 => ("OrderBench", "rim", "LOrderBench$PlaceSet;", true)
  | 5 => ("OrderBench", "fresh", "LOrderBench$PlaceSet;", true)
  | 6 => ("OrderBench", "kept", "LOrderBench$PlaceSet;", true)
  | 7 => ("OrderBench", "line", "[I", true)
  | 8 => ("OrderBench", "waiting", "[I", true)
  | _ => ("OrderBench", "tally", "[I", true)
def ty_ob : Nat → FieldType := fun k => match k with
  | 0 => .int
  | 1 => .array (.object "OrderBench$PlaceSet")
  | 2 => .array (.object "OrderBench$PlaceSet")
  | 3 => .object "OrderBench$PlaceSet"
  | 4 => .object "OrderBench$PlaceSet"
  | 5 => .object "OrderBench$PlaceSet"
  | 6 => .object "OrderBench$PlaceSet"
  | 7 => .array .int
  | 8 => .array .int
  | _ => .array .int
def T_md : u_T := fun k => match k with
  | 0 => ("OrderBenchModel", "thrown", "I", false)
  | 1 => ("OrderBenchModel", "n", "I", false)
  | 2 => ("OrderBenchModel", "way", "[[Z", true)
  | 3 => ("OrderBenchModel", "away", "[I", true)
  | 4 => ("OrderBenchModel", "reached", "[[Z", true)
  | 5 => ("OrderBenchModel", "order", "[I", true)
  | 6 => ("OrderBenchModel", "placed", "[Z", true)
  | _ => ("OrderBenchModel", "measure", "[I", true)
def ty_md : Nat → FieldType := fun k => match k with
  | 0 => .int
  | 1 => .int
  | 2 => .array (.array .boolean)
  | 3 => .array .int
  | 4 => .array (.array .boolean)
  | 5 => .array .int
  | 6 => .array .boolean
  | _ => .array .int
def T_no : u_T := fun k => match k with
  | _ => ("", "", "", false)
def mw_PS : String := "OrderBench$PlaceSet"
def mw_cl : List vw_C := [("OrderBench$PlaceSet", T_ps, 2), ("OrderBench", T_ob, 10), ("OrderBenchModel", T_md, 8), ("java/util/NoSuchElementException", T_no, 0), ("java/lang/IllegalArgumentException", T_no, 0), ("java/lang/IllegalStateException", T_no, 0)]
abbrev mw_M : Type := MethodName × ByteArray × Nat × Option FieldType × List (Nat × Nat × Nat × Nat)
abbrev m_ob_init : mw_M := (⟨"OrderBench", "<init>", "()V"⟩, prog_1_method_1_code, 2, none, [])
abbrev m_ps_init : mw_M := (⟨"OrderBench$PlaceSet", "<init>", "()V"⟩, prog_2_method_1_code, 1, none, [])
abbrev m_ob_circle : mw_M := (⟨"OrderBench", "circle", "()I"⟩, prog_1_method_7_code, 2, (some .int), [])
abbrev m_ob_isOnCircle : mw_M := (⟨"OrderBench", "isOnCircle", "(I)Z"⟩, prog_1_method_19_code, 2, (some .boolean), [])
abbrev m_ob_search : mw_M := (⟨"OrderBench", "search", "([LOrderBench$PlaceSet;III)I"⟩, prog_1_method_17_code, 6, (some .int), [])
abbrev m_ps_clear : mw_M := (⟨"OrderBench$PlaceSet", "clear", "()V"⟩, prog_2_method_8_code, 1, none, [])
abbrev m_ps_add : mw_M := (⟨"OrderBench$PlaceSet", "add", "(I)V"⟩, prog_2_method_6_code, 2, none, [])
abbrev m_ps_lowBit : mw_M := (⟨"OrderBench$PlaceSet", "lowBit", "(I)J"⟩, prog_2_method_2_code, 1, (some .long), [])
abbrev m_ps_highBit : mw_M := (⟨"OrderBench$PlaceSet", "highBit", "(I)J"⟩, prog_2_method_3_code, 1, (some .long), [])
abbrev m_ps_has : mw_M := (⟨"OrderBench$PlaceSet", "has", "(I)Z"⟩, prog_2_method_5_code, 2, (some .boolean), [])
abbrev m_ob_moveRim : mw_M := (⟨"OrderBench", "moveRim", "([LOrderBench$PlaceSet;I)V"⟩, prog_1_method_18_code, 4, none, [])
abbrev m_ps_next : mw_M := (⟨"OrderBench$PlaceSet", "next", "(I)I"⟩, prog_2_method_15_code, 6, (some .int), [])
abbrev m_ps_lowest : mw_M := (⟨"OrderBench$PlaceSet", "lowest", "(J)I"⟩, prog_2_method_4_code, 2, (some .int), [])
abbrev m_jl_bitCount : mw_M := (⟨"java/lang/Long", "bitCount", "(J)I"⟩, prog_8_method_50_code, 2, (some .int), [])
abbrev m_ps_addAllOf : mw_M := (⟨"OrderBench$PlaceSet", "addAllOf", "(LOrderBench$PlaceSet;)V"⟩, prog_2_method_9_code, 2, none, [])
abbrev m_ps_removeAllOf : mw_M := (⟨"OrderBench$PlaceSet", "removeAllOf", "(LOrderBench$PlaceSet;)V"⟩, prog_2_method_10_code, 2, none, [])
abbrev m_ps_remove : mw_M := (⟨"OrderBench$PlaceSet", "remove", "(I)V"⟩, prog_2_method_7_code, 2, none, [])
abbrev m_ps_isEmpty : mw_M := (⟨"OrderBench$PlaceSet", "isEmpty", "()Z"⟩, prog_2_method_13_code, 1, (some .boolean), [])
abbrev m_ps_meets : mw_M := (⟨"OrderBench$PlaceSet", "meets", "(LOrderBench$PlaceSet;)Z"⟩, prog_2_method_12_code, 2, (some .boolean), [])
abbrev m_ob_groups : mw_M := (⟨"OrderBench", "groups", "()I"⟩, prog_1_method_9_code, 3, (some .int), [])
abbrev m_ob_leastOfGroup : mw_M := (⟨"OrderBench", "leastOfGroup", "(I)I"⟩, prog_1_method_20_code, 2, (some .int), [])
abbrev m_ps_keepAllOf : mw_M := (⟨"OrderBench$PlaceSet", "keepAllOf", "(LOrderBench$PlaceSet;)V"⟩, prog_2_method_11_code, 2, none, [])
abbrev m_ob_count : mw_M := (⟨"OrderBench", "count", "(I)I"⟩, prog_1_method_15_code, 2, (some .int), [])
abbrev m_ob_countWays : mw_M := (⟨"OrderBench", "countWays", "()I"⟩, prog_1_method_26_code, 3, (some .int), [])
abbrev m_ps_size : mw_M := (⟨"OrderBench$PlaceSet", "size", "()I"⟩, prog_2_method_14_code, 1, (some .int), [])
abbrev m_ob_countWithoutWayTo : mw_M := (⟨"OrderBench", "countWithoutWayTo", "()I"⟩, prog_1_method_27_code, 3, (some .int), [])
abbrev m_ob_countOnCircles : mw_M := (⟨"OrderBench", "countOnCircles", "()I"⟩, prog_1_method_28_code, 3, (some .int), [])
abbrev m_lw_places : mw_M := (⟨"OrderBenchLaw", "places", "(LOrderBench;I[J)I"⟩, method_3_code, 4, (some .int), [(0, 9, 12, 13)])
abbrev m_ob_places : mw_M := (⟨"OrderBench", "places", "(I)I"⟩, prog_1_method_2_code, 4, (some .int), [])
abbrev m_lw_way : mw_M := (⟨"OrderBenchLaw", "way", "(LOrderBench;II[J)I"⟩, method_4_code, 5, (some .int), [(0, 17, 20, 19)])
abbrev m_ob_way : mw_M := (⟨"OrderBench", "way", "(II)Z"⟩, prog_1_method_3_code, 4, (some .boolean), [])
abbrev m_ob_mustBePlace : mw_M := (⟨"OrderBench", "mustBePlace", "(I)V"⟩, prog_1_method_16_code, 2, none, [])
abbrev m_lw_drop : mw_M := (⟨"OrderBenchLaw", "drop", "(LOrderBench;II[J)I"⟩, method_5_code, 5, (some .int), [(0, 17, 20, 19)])
abbrev m_ob_drop : mw_M := (⟨"OrderBench", "drop", "(II)Z"⟩, prog_1_method_4_code, 4, (some .boolean), [])
abbrev m_lw_reaches : mw_M := (⟨"OrderBenchLaw", "reaches", "(LOrderBench;II[J)I"⟩, method_6_code, 5, (some .int), [(0, 17, 20, 19)])
abbrev m_ob_reaches : mw_M := (⟨"OrderBench", "reaches", "(II)Z"⟩, prog_1_method_5_code, 3, (some .boolean), [])
abbrev m_lw_far : mw_M := (⟨"OrderBenchLaw", "far", "(LOrderBench;II[J)I"⟩, method_7_code, 5, (some .int), [(0, 10, 13, 19)])
abbrev m_ob_far : mw_M := (⟨"OrderBench", "far", "(II)I"⟩, prog_1_method_6_code, 3, (some .int), [])
abbrev m_lw_group : mw_M := (⟨"OrderBenchLaw", "group", "(LOrderBench;I[J)I"⟩, method_8_code, 4, (some .int), [(0, 9, 12, 19)])
abbrev m_ob_group : mw_M := (⟨"OrderBench", "group", "(I)I"⟩, prog_1_method_8_code, 2, (some .int), [])
abbrev m_lw_order : mw_M := (⟨"OrderBenchLaw", "order", "(LOrderBench;I[J)I"⟩, method_9_code, 4, (some .int), [(0, 9, 12, 19), (0, 9, 15, 37)])
abbrev m_ob_order : mw_M := (⟨"OrderBench", "order", "(I)I"⟩, prog_1_method_10_code, 2, (some .int), [])
abbrev m_ob_lineUp : mw_M := (⟨"OrderBench", "lineUp", "()V"⟩, prog_1_method_22_code, 3, none, [])
abbrev m_ob_release : mw_M := (⟨"OrderBench", "release", "(I)V"⟩, prog_1_method_23_code, 3, none, [])
abbrev m_lw_level : mw_M := (⟨"OrderBenchLaw", "level", "(LOrderBench;I[J)I"⟩, method_10_code, 4, (some .int), [(0, 9, 12, 19), (0, 9, 15, 37)])
abbrev m_ob_level : mw_M := (⟨"OrderBench", "level", "(I)I"⟩, prog_1_method_11_code, 2, (some .int), [])
abbrev m_ob_tallyLongest : mw_M := (⟨"OrderBench", "tallyLongest", "()V"⟩, prog_1_method_24_code, 4, none, [])
abbrev m_ja_fill : mw_M := (⟨"java/util/Arrays", "fill", "([II)V"⟩, prog_12_method_103_code, 4, none, [])
abbrev m_jm_max : mw_M := (⟨"java/lang/Math", "max", "(II)I"⟩, prog_9_method_65_code, 2, (some .int), [])
abbrev m_lw_paths : mw_M := (⟨"OrderBenchLaw", "paths", "(LOrderBench;II[J)I"⟩, method_11_code, 5, (some .int), [(0, 10, 13, 19), (0, 10, 17, 37)])
abbrev m_ob_paths : mw_M := (⟨"OrderBench", "paths", "(II)I"⟩, prog_1_method_12_code, 3, (some .int), [])
abbrev m_ob_tallyPaths : mw_M := (⟨"OrderBench", "tallyPaths", "(I)V"⟩, prog_1_method_25_code, 5, none, [])
abbrev m_lw_gate : mw_M := (⟨"OrderBenchLaw", "gate", "(LOrderBench;II[J)I"⟩, method_12_code, 5, (some .int), [(0, 10, 13, 19)])
abbrev m_ob_gate : mw_M := (⟨"OrderBench", "gate", "(II)I"⟩, prog_1_method_13_code, 3, (some .int), [])
abbrev m_ob_lastGate : mw_M := (⟨"OrderBench", "lastGate", "(II)I"⟩, prog_1_method_21_code, 6, (some .int), [])
abbrev m_lw_all : mw_M := (⟨"OrderBenchLaw", "all", "(LOrderBench;III[J)I"⟩, method_13_code, 6, (some .int), [(0, 19, 22, 19)])
abbrev m_ob_all : mw_M := (⟨"OrderBench", "all", "(III)Z"⟩, prog_1_method_14_code, 4, (some .boolean), [])
abbrev m_md_init : mw_M := (⟨"OrderBenchModel", "<init>", "()V"⟩, prog_4_method_1_code, 1, none, [])
abbrev m_md_thrown : mw_M := (⟨"OrderBenchModel", "thrown", "()I"⟩, prog_4_method_2_code, 1, (some .int), [])
abbrev m_md_places : mw_M := (⟨"OrderBenchModel", "places", "(I)I"⟩, prog_4_method_5_code, 5, (some .int), [])
abbrev m_md_refuse : mw_M := (⟨"OrderBenchModel", "refuse", "(IZ)Z"⟩, prog_4_method_3_code, 3, (some .boolean), [])
abbrev m_md_way : mw_M := (⟨"OrderBenchModel", "way", "(II)Z"⟩, prog_4_method_7_code, 3, (some .boolean), [])
abbrev m_md_set : mw_M := (⟨"OrderBenchModel", "set", "(IIZ)Z"⟩, prog_4_method_6_code, 5, (some .boolean), [])
abbrev m_md_none : mw_M := (⟨"OrderBenchModel", "none", "(I)Z"⟩, prog_4_method_4_code, 2, (some .boolean), [])
abbrev m_md_drop : mw_M := (⟨"OrderBenchModel", "drop", "(II)Z"⟩, prog_4_method_8_code, 3, (some .boolean), [])
abbrev m_md_reaches : mw_M := (⟨"OrderBenchModel", "reaches", "(II)Z"⟩, prog_4_method_10_code, 3, (some .boolean), [])
abbrev m_md_from : mw_M := (⟨"OrderBenchModel", "from", "(II)V"⟩, prog_4_method_9_code, 7, none, [])
abbrev m_md_far : mw_M := (⟨"OrderBenchModel", "far", "(II)I"⟩, prog_4_method_11_code, 3, (some .int), [])
abbrev m_md_circle : mw_M := (⟨"OrderBenchModel", "circle", "()I"⟩, prog_4_method_14_code, 2, (some .int), [])
abbrev m_md_all0 : mw_M := (⟨"OrderBenchModel", "all", "()V"⟩, prog_4_method_12_code, 3, none, [])
abbrev m_md_onCircle : mw_M := (⟨"OrderBenchModel", "onCircle", "(I)Z"⟩, prog_4_method_13_code, 3, (some .boolean), [])
abbrev m_md_group : mw_M := (⟨"OrderBenchModel", "group", "(I)I"⟩, prog_4_method_16_code, 2, (some .int), [])
abbrev m_md_least : mw_M := (⟨"OrderBenchModel", "least", "(I)I"⟩, prog_4_method_15_code, 3, (some .int), [])
abbrev m_md_groups : mw_M := (⟨"OrderBenchModel", "groups", "()I"⟩, prog_4_method_17_code, 3, (some .int), [])
abbrev m_md_order : mw_M := (⟨"OrderBenchModel", "order", "(I)I"⟩, prog_4_method_20_code, 2, (some .int), [])
abbrev m_md_ordered : mw_M := (⟨"OrderBenchModel", "ordered", "()Z"⟩, prog_4_method_19_code, 3, (some .boolean), [])
abbrev m_md_ready : mw_M := (⟨"OrderBenchModel", "ready", "(I)Z"⟩, prog_4_method_18_code, 3, (some .boolean), [])
abbrev m_md_level : mw_M := (⟨"OrderBenchModel", "level", "(I)I"⟩, prog_4_method_21_code, 5, (some .int), [])
abbrev m_md_paths : mw_M := (⟨"OrderBenchModel", "paths", "(II)I"⟩, prog_4_method_22_code, 6, (some .int), [])
abbrev m_md_gate : mw_M := (⟨"OrderBenchModel", "gate", "(II)I"⟩, prog_4_method_24_code, 5, (some .int), [])
abbrev m_md_always : mw_M := (⟨"OrderBenchModel", "always", "(III)Z"⟩, prog_4_method_23_code, 4, (some .boolean), [])
abbrev m_md_all3 : mw_M := (⟨"OrderBenchModel", "all", "(III)Z"⟩, prog_4_method_25_code, 4, (some .boolean), [])
abbrev m_md_count : mw_M := (⟨"OrderBenchModel", "count", "(I)I"⟩, prog_4_method_26_code, 8, (some .int), [])
abbrev m_lw_law : mw_M := (⟨"OrderBenchLaw", "law", "([I)Z"⟩, code, 7, (some .boolean), [])
