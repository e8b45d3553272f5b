/-! A row for multianewarray with two dimensions. -/
section Multi
def mn_r (h0 i : Nat) : Nat → Value := fun j => if j < i then .ref (h0 + 1 + j) else .null
theorem mn_r0 (h0 : Nat) : mn_r h0 0 = fun _ => .null := by funext j; simp [mn_r]
theorem mn_rS (h0 i : Nat) : updV (mn_r h0 i) i (.ref (h0 + 1 + i)) = mn_r h0 (i + 1) := by
  funext j
  unfold updV mn_r
  by_cases e : j = i
  · subst e; simp
  · by_cases e2 : j < i
    · have e3 : j < i + 1 := by omega
      simp [e, e2, e3]
    · have e3 : ¬ j < i + 1 := by omega
      simp [e, e2, e3]
def mn_S (s : State) (c comp : ClassId) (N M : Nat) (dv : Value) : Nat → State
  | 0 => s.pushCell (arrV c N (mn_r s.heap.size 0))
  | i + 1 => ((mn_S s c comp N M dv i).pushCell (arrV comp M (fun _ => dv))).setCell s.heap.size (arrV c N (mn_r s.heap.size (i + 1)))
theorem mn_facts (s : State) (c comp : ClassId) (N M : Nat) (dv : Value) (i : Nat) : (mn_S s c comp N M dv i).heap.size = s.heap.size + 1 + i ∧ (mn_S s c comp N M dv i).heap[s.heap.size]? = some (arrV c N (mn_r s.heap.size i)) ∧ (∀ q, q < s.heap.size → (mn_S s c comp N M dv i).heap[q]? = s.heap[q]?) ∧ (∀ j, j < i → (mn_S s c comp N M dv i).heap[s.heap.size + 1 + j]? = some (arrV comp M (fun _ => dv))) ∧ (mn_S s c comp N M dv i).vm = s.vm ∧ (mn_S s c comp N M dv i).slotsUsed = s.slotsUsed + N + i * M := by
  induction i with
  | zero =>
    refine ⟨by simp [mn_S], by simp [mn_S], fun q hq => State.heap_pushCell_of_lt _ _ hq, fun j hj => by omega, rfl, ?_⟩
    show s.slotsUsed + (arrV c N _).slots.size = _
    rw [arrV_size]; simp
  | succ i ih =>
    obtain ⟨a1, a2, a3, a4, a5, a6⟩ := ih
    have hz : ((mn_S s c comp N M dv i).pushCell (arrV comp M (fun _ => dv))).heap.size = s.heap.size + 1 + i + 1 := by simp [a1]
    have hlt : s.heap.size < ((mn_S s c comp N M dv i).pushCell (arrV comp M (fun _ => dv))).heap.size := by omega
    refine ⟨?_, heapAt_setCell_self _ hlt, fun q hq => ?_, fun j hj => ?_, ?_, ?_⟩
    · show (State.setCell _ _ _).heap.size = _
      rw [size_setCell, hz]; omega
    · show (State.setCell _ _ _).heap[q]? = _
      rw [heapAt_setCell_ne _ (show s.heap.size ≠ q from by omega), State.heap_pushCell_of_lt _ _ (show q < (mn_S s c comp N M dv i).heap.size by rw [a1]; omega)]
      exact a3 q hq
    · show (State.setCell _ _ _).heap[_]? = _
      rw [heapAt_setCell_ne _ (show s.heap.size ≠ s.heap.size + 1 + j from by omega)]
      by_cases e : j = i
      · subst e
        rw [← a1]
        exact State.heap_pushCell_size _ _
      · rw [State.heap_pushCell_of_lt _ _ (show s.heap.size + 1 + j < (mn_S s c comp N M dv i).heap.size by rw [a1]; omega)]
        exact a4 j (by omega)
    · exact a5
    · show (mn_S s c comp N M dv i).slotsUsed + (arrV comp M _).slots.size = _
      rw [arrV_size, a6, Nat.succ_mul]; omega
theorem mn_top (s : State) (f : JFrame) (c comp : ClassId) (N M : Nat) (dv : Value) (i : Nat) : mn_S (s.setTop f) c comp N M dv i = (mn_S s c comp N M dv i).setTop f := by
  induction i with
  | zero => rfl
  | succ i ih => simp only [mn_S, ih, State.heap_setTop, State.pushCell_setTop, State.setCell_setTop]
theorem mn_tj (s : State) (c comp : ClassId) (N M : Nat) (dv : Value) (i : Nat) : (mn_S s c comp N M dv i).topJava? = s.topJava? := by
  induction i with
  | zero => rfl
  | succ i ih => exact ih
theorem mn_stand {p : Program} {l : Launch} {e : Env} {R : Room} {s : State} {m : MethodId} {args : Array Value} {below : List Frame} {meth : Method} {cd : Code} {T : State} {locs : List Loc} {cells slots : Nat} (X : Stand p l e R s m args below meth cd T locs cells slots) (c comp : ClassId) (N M : Nat) (dv : Value) (i : Nat) : ∃ L : List Loc, (∀ q ∈ L, q.base = T.heap.size) ∧ Stand p l e R s m args below meth cd (mn_S T c comp N M dv i) (locs ++ L) (cells + 1 + i) (slots + N + i * M) := by
  induction i with
  | zero =>
    have h := X.pushed (arrV c N (mn_r T.heap.size 0))
    rw [arrV_size] at h
    exact ⟨[], by simp, by simpa [mn_S] using h⟩
  | succ i ih =>
    obtain ⟨L, hL, X1⟩ := ih
    have f1 := mn_facts T c comp N M dv i
    have h2 := X1.pushed (arrV comp M (fun _ => dv))
    rw [arrV_size] at h2
    have hc : ((mn_S T c comp N M dv i).pushCell (arrV comp M (fun _ => dv))).heap[T.heap.size]? = some (arrV c N (mn_r T.heap.size i)) := by
      rw [State.heap_pushCell_of_lt _ _ (show T.heap.size < (mn_S T c comp N M dv i).heap.size by rw [f1.1]; omega)]; exact f1.2.1
    have h3 := h2.stored hc i (.ref (T.heap.size + 1 + i))
    rw [arrV_store, mn_rS] at h3
    refine ⟨L ++ [⟨T.heap.size, i⟩], fun q hq => ?_, ?_⟩
    · rcases List.mem_append.mp hq with h9 | h9
      · exact hL q h9
      · rw [List.mem_singleton] at h9; rw [h9]
    · rw [← List.append_assoc]
      have e1 : slots + N + (i + 1) * M = slots + N + i * M + M := by rw [Nat.succ_mul]; omega
      rw [e1]
      exact h3
theorem mn_wp {index : Nat} {s : State} {f : JFrame} {Q : Unit → Pre} {E : Control → List Action → State → Prop} {e : Env} {d : Bool} {acts : List Action} {c comp c2 : ClassId} {kA kB : Class} {x y : Int32} {N M : Nat} {rest : List Value} (hs : s.topJava?.isSome) (hr : s.vm.classReady f.method.cls index c) (hk : s.vm.classes[c]? = some kA) (hkind : kA.kind = .array comp (.array .boolean)) (hk2 : s.vm.classes[comp]? = some kB) (hkind2 : kB.kind = .array c2 .boolean) (hstack : f.stack = .int y :: .int x :: rest) (hx : ¬ x < 0) (hy : ¬ y < 0) (hx0 : ¬ x = 0) (hN : x.toNatClampNeg = N) (hM : y.toNatClampNeg = M)
    (hl1 : ¬ N > e.platform.arrayLengthLimit) (hh1 : ¬ N * componentBytes (.array .boolean) > e.platform.maxHeapBytes) (hl2 : ¬ M > e.platform.arrayLengthLimit) (hh2 : ¬ M * componentBytes .boolean > e.platform.maxHeapBytes) (hcells : s.heap.size + (1 + N) ≤ e.platform.maxCells) (hslots : s.slotsUsed + (N + N * M) ≤ e.platform.maxSlots)
    (hq : ∀ d' acts', Q () d' acts' ((mn_S s c comp N M (.int 0) N).setTop { f with stack := .ref s.heap.size :: rest })) : wp (Op.multianewarray.sem index 2) Q E e d acts (s.setTop f) := by
  simp only [Op.multianewarray.sem, wp_bind', W.resolveClassAt_ready (State.method?_setTop f hs) hr]
  simp only [popN, wp_bind', W.pop, wp_pure', State.topJava?_setTop' _ hs, Option.some.injEq, exists_eq_left', hstack, List.cons.injEq, exists_cons_eq, State.setTop_setTop, List.nil_append, List.cons_append, List.mapM_cons, List.mapM_nil]
  unfold Op.multianewarray.make
  simp only [hx, if_false, wp_bind', wp_pure', W.theClass, State.vm_setTop, hk, Option.some.injEq, exists_eq_left', hkind]
  have hb0 : ¬ (x == 0) = true := by simpa using hx0
  simp only [if_neg hb0, hN]
  generalize hf' : ({ method := f.method, pc := f.pc, locals := f.locals, stack := rest, locked := f.locked, entered := f.entered, monitorRoom := f.monitorRoom } : JFrame) = f'
  refine W.newArray_of (s := s.setTop f') hk hkind hl1 hh1 (by show s.heap.size < _; omega) (by show s.slotsUsed + N ≤ _; omega) rfl (fun acts1 => ?_)
  rw [wp_bind', Std.Legacy.Range.forIn_eq_forIn_range']
  have e0 : (s.setTop f').pushCell { cls := c, slots := Array.replicate N .null } = (mn_S s c comp N M (.int 0) 0).setTop f' := by
    rw [← mn_top]
    show _ = (s.setTop f').pushCell _
    rw [mn_r0, ← arrV_new]
  rw [e0]
  refine wp_forIn_inv (fun rs s' => ∃ i, i ≤ N ∧ rs = List.range' i (N - i) ∧ s' = (mn_S s c comp N M (.int 0) i).setTop f') _ _ ⟨0, Nat.zero_le _, by simp [Std.Legacy.Range.size], rfl⟩ ?_ ?_
  · rintro a rs s' d' acts' Q' ⟨i, hi, hl, rfl⟩ hQ'
    have hi2 : i < N := by
      rcases Nat.lt_or_ge i N with z | z
      · exact z
      · rw [show N - i = 0 by omega] at hl
        simp at hl
    rw [show N - i = (N - (i + 1)) + 1 by omega, List.range'_succ] at hl
    obtain ⟨rfl, rfl⟩ := List.cons.inj hl
    obtain ⟨a1, a2, a3, a4, a5, a6⟩ := mn_facts s c comp N M (.int 0) a
    unfold Op.multianewarray.make
    simp only [hy, if_false, wp_bind', wp_pure', W.theClass, State.vm_setTop, a5, hk2, Option.some.injEq, exists_eq_left', hkind2, hM]
    have hmul : (a + 1) * M ≤ N * M := Nat.mul_le_mul_right M hi2
    rw [Nat.succ_mul] at hmul
    refine W.newArray_of (s := (mn_S s c comp N M (.int 0) a).setTop f') (k := kB) (by rw [State.vm_setTop, a5]; exact hk2) hkind2 hl2 hh2 (by show (mn_S s c comp N M (.int 0) a).heap.size < _; rw [a1]; omega) (by show (mn_S s c comp N M (.int 0) a).slotsUsed + M ≤ _; rw [a6]; omega) rfl (fun acts2 => ?_)
    simp only [wp_bind', W.writeLoc, wp_pure']
    have hlt : s.heap.size < (mn_S s c comp N M (.int 0) a).heap.size := by rw [a1]; omega
    refine ⟨arrV c N (mn_r s.heap.size a), ?_, (by intro h; cases h), (by rw [arrV_size]; exact hi2), ?_, ?_⟩
    · show ((mn_S s c comp N M (.int 0) a).pushCell _).heap[s.heap.size]? = _
      rw [State.heap_pushCell_of_lt _ _ hlt]; exact a2
    · have hk9 : (mn_S s c comp N M (.int 0) a).vm.classes[c]? = some kA := by rw [a5]; exact hk
      simp [State.fitsSlot, State.slotType?, arrV, hk9, hkind, fits]
    · refine hQ' _ _ _ ⟨a + 1, hi2, rfl, ?_⟩
      have e2 : Array.size ((mn_S s c comp N M (.int 0) a).setTop f').heap = s.heap.size + 1 + a := a1
      rw [e2, arrV_store, mn_rS]
      have e3 : ({ cls := comp, slots := Array.replicate M (defaultValue FieldType.boolean) } : Cell) = arrV comp M (fun _ => .int 0) := arrV_new comp M _
      rw [e3]
      rfl
  · rintro s' d' acts' ⟨i, hi, hl, rfl⟩
    have hi2 : i = N := by
      rcases Nat.lt_or_ge i N with z | z
      · rw [show N - i = (N - (i + 1)) + 1 by omega, List.range'_succ] at hl
        cases hl
      · omega
    subst hi2
    simp only [wp_bind', wp_pure', W.mark, W.pushRef]
    refine ⟨f', State.topJava?_setTop' _ (by rw [mn_tj]; exact hs), ?_⟩
    rw [State.setTop_setTop]
    subst hf'
    exact hq _ _
theorem mn_cold {index c : Nat} {vm' : Vm} {s : State} {f : JFrame} {Q : Unit → Pre} {E : Control → List Action → State → Prop} {e : Env} {d : Bool} {acts : List Action} (hs : s.topJava?.isSome) (hg : (Jvm.resolveClass f.method.cls index).Gives e.toSetting s.vm (.ok c) vm') (hr : vm'.classReady f.method.cls index c) (hsz : vm'.classes.size ≤ s.vm.classes.size := by no_record) :
    wp (Op.multianewarray.sem index 2) Q E e d acts (s.setTop f) ↔ wp (Op.multianewarray.sem index 2) Q E e d acts ((s.setVm vm').setTop f) := by
  simp only [Op.multianewarray.sem, wp_bind']
  exact W.resolveClassAt_transfer (s := s.setTop f) (State.method?_setTop f hs) hg hr
theorem mn_W {p : Program} {l : Launch} {e : Env} {R : Room} {s : State} {m : MethodId} {args : Array Value} {below : List Frame} {meth : Method} {c : Code} {H : Heap} {locs : List Loc} {cells slots : Nat} {Q : State → Prop} {cc : ByteArray} (hexec : p.tables.exec = Jvm.exec) (hb : c.code = cc) {own : String} {index N M : Nat} {x y : Int32} (hown : s.vm.findClass own = some m.cls) (hclink : (Cond.classLink own index "[[Z").before args s = true) {cA comp c2 : ClassId} {kA kB : Class} (hcA : s.vm.findClass "[[Z" = some cA) (hkA : s.vm.classes[cA]? = some kA) (hkindA : kA.kind = .array comp (.array .boolean)) (hkB : s.vm.classes[comp]? = some kB) (hkindB : kB.kind = .array c2 .boolean)
    {g : JFrame} (hg : g.method = m) (hdg : decode cc g.pc = .ok (.multianewarray index 2, 4)) {rest : List Value} (hstack : g.stack = .int y :: .int x :: rest) (hx : ¬ x < 0) (hy : ¬ y < 0) (hx0 : ¬ x = 0) (hN : x.toNatClampNeg = N) (hM : y.toNatClampNeg = M) (hbN : N * 4 ≤ 536870912) (hbM : M * 4 ≤ 536870912) (hcells : cells + (1 + N) ≤ R.cells) (hslots : slots + (N + N * M) ≤ R.slots)
    (kk : ∀ (H' : Heap) (L : List Loc), (∀ q ∈ L, q.base = H.size) → H'.size = H.size + 1 + N → H'[H.size]? = some (arrV cA N (mn_r H.size N)) → (∀ q : Nat, q < H.size → H'[q]? = H[q]?) → (∀ j, j < N → H'[H.size + 1 + j]? = some (arrV comp M (fun _ => .int 0))) → W p l e R s m args below meth c H' (locs ++ L) (cells + 1 + N) (slots + N + N * M) Q { g with pc := g.pc + 4, stack := .ref H.size :: rest }) : W p l e R s m args below meth c H locs cells slots Q g := by
  intro T hT X
  subst hT; subst hb; subst hg
  have hpl : e.platform.magicAccessors = ({} : Platform).magicAccessors := by rw [X.admits.platform]
  obtain ⟨cc', hfcc, hcl⟩ := Cond.classLink_spec hown hclink e.platform hpl
  cases hcA.symm.trans hfcc
  obtain ⟨hg₁, hwarm₁, hready₁⟩ := State.classEntry (e := e) X.warmed hcl
  generalize T.vm.noted g.method.cls index (.cls cA) = vm₁ at hg₁ hwarm₁ hready₁
  have hal : s.vm.Alike vm₁ := hwarm₁.alike
  obtain ⟨kA₁, hkA₁, heA⟩ := hal.2.2 _ _ hkA
  obtain ⟨kB₁, hkB₁, heB⟩ := hal.2.2 _ _ hkB
  have hkindA₁ : kA₁.kind = .array comp (.array .boolean) := by rw [heA]; exact hkindA
  have hkindB₁ : kB₁.kind = .array c2 .boolean := by rw [heB]; exact hkindB
  obtain ⟨hr1, hr2⟩ := X.roomAbove hcells hslots
  obtain ⟨L, hL, XN⟩ := mn_stand (X.noted hwarm₁) cA comp N M (.int 0) N
  obtain ⟨a1, a2, a3, a4, a5, a6⟩ := mn_facts (T.setVm vm₁) cA comp N M (.int 0) N
  obtain ⟨t', b1, b2⟩ := kk _ L hL a1 a2 a3 a4 (mn_S (T.setVm vm₁) cA comp N M (.int 0) N) rfl XN
  refine ⟨t', ?_, b2⟩
  refine Steps.instr (c := _) (by simpa using X.here) ?_
  simp only [hdg, hexec, exec, wpRun]
  rw [mn_cold X.here.top hg₁ hready₁]
  have hl1 : ¬ N > e.platform.arrayLengthLimit := by rw [Launch.admits_arrayLengthLimit X.admits]; omega
  have hl2 : ¬ M > e.platform.arrayLengthLimit := by rw [Launch.admits_arrayLengthLimit X.admits]; omega
  have hh1 : ¬ N * componentBytes (.array .boolean) > e.platform.maxHeapBytes := by
    rw [Launch.admits_maxHeapBytes X.admits]; show ¬ N * 4 > 536870912; omega
  have hh2 : ¬ M * componentBytes .boolean > e.platform.maxHeapBytes := by
    rw [Launch.admits_maxHeapBytes X.admits]; show ¬ M * 1 > 536870912; omega
  refine mn_wp (s := T.setVm vm₁) (f := g) (kA := kA₁) (kB := kB₁) X.here.top hready₁ hkA₁ hkindA₁ hkB₁ hkindB₁ hstack hx hy hx0 hN hM hl1 hh1 hl2 hh2 hr1 hr2 (fun d' acts' acts2 => ?_)
  simpa [jvm, XN.here.top] using b1
theorem mw_mnew {E : mw_E} {M9 : mw_M} {d bc bs pc idx N M : Nat} {Q : Option Value → mw_H → Prop} {X : Nat → mw_H → Prop} {lo : List (Option Value)} {st : List Value} {h : mw_H} (hw : Cond.classLink M9.1.cls idx "[[Z" ∈ mw_tb) (hd : decode M9.2.1 pc = .ok (.multianewarray idx 2, 4)) (hN0 : 0 < N) (hN : N < 2 ^ 20) (hM : M < 2 ^ 20) (hbc : 1 + N ≤ bc) (hbs : N + N * M ≤ bs)
    (kk : mw_W E M9 d Q X (bc - (1 + N)) (bs - (N + N * M)) (pc + 4) lo (.ref (mw_b E + h.1) :: st) (h.1 + 1 + N, fun k => if k = h.1 then .inr (2, N, fun j => .ref (mw_b E + (h.1 + 1 + j))) else if h.1 < k then .inr (1, M, fun _ => .int 0) else h.2 k)) : mw_W E M9 d Q X bc bs pc lo (.int (nI M) :: .int (nI N) :: st) h := by
  intro p e s m args below meth c H locs cells slots mc ms ls C hR hlocs hl hc hs
  have C0 := C
  obtain ⟨hx, hb, hr9, hml, hown, hts, hK, hZ, hlk, htab, hnm, hl9⟩ := C
  have hover : (Cond.arrayOver (.array .boolean)).before args s = true := hZ.here (List.mem_of_getElem? (i := 2) rfl)
  obtain ⟨comp, cA, kA, hcomp, -, hkA, hkindA, hnameA⟩ := arrayOverA_spec hover
  have e1 : "[" ++ (FieldType.array .boolean).toString = "[[Z" := by decide +kernel
  have e2 : (FieldType.array .boolean).toString = "[" ++ FieldType.boolean.toString := by decide +kernel
  have hA2 : s.vm.findClass ("[" ++ (FieldType.array .boolean).toString) = some (E.2.2.1 2) := (hK.2 2 _ rfl).2
  have hA1 : s.vm.findClass ("[" ++ FieldType.boolean.toString) = some (E.2.2.1 1) := (hK.2 1 _ rfl).2
  have ecA : cA = E.2.2.1 2 := Option.some.inj (hnameA.symm.trans hA2)
  have ecomp : comp = E.2.2.1 1 := by rw [e2] at hcomp; exact Option.some.inj (hcomp.symm.trans hA1)
  obtain ⟨-, kB, hkB, c2, hkindB⟩ := (hK.2 1 _ rfl).1 0 (fun _ => .null)
  have hkB' : s.vm.classes[comp]? = some kB := by rw [ecomp]; exact hkB
  have hz := hR.1
  refine mn_W hx hb hown (hts _ hw) (by rw [← e1]; exact hnameA) hkA hkindA hkB' hkindB (g := F0 m pc ls (.int (nI M) :: .int (nI N) :: st)) rfl hd rfl (nI_pos (by omega)) (nI_pos (by omega)) (nI_ne0 hN0 (by omega)) (nI_clamp (by omega)) (nI_clamp (by omega)) (by omega) (by omega) (by show cells + _ ≤ mc; omega) (by show slots + _ ≤ ms; omega) (fun H' L hL s1 s2 s3 s4 => ?_)
  have hh : mw_R E (h.1 + 1 + N, fun k => if k = h.1 then .inr (2, N, fun j => .ref (mw_b E + (h.1 + 1 + j))) else if h.1 < k then .inr (1, M, fun _ => .int 0) else h.2 k) H' := by
    refine ⟨?_, fun q hq => ?_, fun k hk => ?_⟩
    · show H'.size = mw_b E + (h.1 + 1 + N)
      rw [s1, hz]; omega
    · rw [s3 q (by omega)]; exact hR.2.1 q hq
    · have hk9 : k < h.1 + 1 + N := hk
      show mw_at E k (if k = h.1 then _ else if h.1 < k then _ else h.2 k) H'
      by_cases z1 : k = h.1
      · rw [if_pos z1, z1]
        show H'[mw_b E + h.1]? = some (arrV (E.2.2.1 2) N _)
        rw [← hz, s2, ecA]
        refine congrArg some (arrV_sm _ (fun j hj => ?_))
        unfold mn_r
        rw [if_pos hj, hz]
        exact congrArg Value.ref (show mw_b E + h.1 + 1 + j = mw_b E + (h.1 + 1 + j) by omega)
      · rw [if_neg z1]
        by_cases z2 : h.1 < k
        · rw [if_pos z2]
          show H'[mw_b E + k]? = some (arrV (E.2.2.1 1) M _)
          have := s4 (k - (h.1 + 1)) (by omega)
          rw [hz, show mw_b E + h.1 + 1 + (k - (h.1 + 1)) = mw_b E + k by omega, ecomp] at this
          exact this
        · rw [if_neg z2]
          exact (hR.2.2 k (by omega)).kept (s3 _ (by omega))
  have K := kk p e s m args below meth c H' (locs ++ L) (cells + 1 + N) (slots + N + N * M) mc ms ls C0 hh (fun q hq => by
    rcases List.mem_append.mp hq with h9 | h9
    · exact hlocs q h9
    · rw [hL q h9, hz]; exact Nat.le_add_right _ _) hl (by omega) (by omega)
  rw [hz]
  exact K
end Multi
