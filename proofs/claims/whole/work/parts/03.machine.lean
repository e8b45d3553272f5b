/-! The walker of this claim: a judgement mw_W over a heap of pictures that lie from one address on, with two ends (returned, threw). A method's contract is mw_Ct. -/
abbrev mw_O : Type := (Nat × (Nat → Value)) ⊕ (Nat × Nat × (Nat → Value))
abbrev mw_H : Type := Nat × (Nat → mw_O)
abbrev mw_E : Type := Launch × va_G × (Nat → ClassId) × Nat × Heap × Nat × Nat × (Nat → Int32)
def mw_b (E : mw_E) : Nat := E.2.2.2.1
def mw_at (E : mw_E) (k : Nat) (o : mw_O) (H : Heap) : Prop := match o with
  | .inl c => ∃ r : vw_C, mw_cl[c.1]? = some r ∧ t_OB (mw_b E + k) (E.2.1.1 c.1) r.2.2 (E.2.1.2 c.1) H c.2
  | .inr a => H[mw_b E + k]? = some (arrV (E.2.2.1 a.1) a.2.1 a.2.2)
def mw_R (E : mw_E) (h : mw_H) (H : Heap) : Prop := H.size = mw_b E + h.1 ∧ (∀ q : Nat, q < mw_b E → H[q]? = E.2.2.2.2.1[q]?) ∧ ∀ k : Nat, k < h.1 → mw_at E k (h.2 k) H
theorem mw_at.kept {E : mw_E} {k : Nat} {o : mw_O} {H H1 : Heap} (h : mw_at E k o H) (hq : H1[mw_b E + k]? = H[mw_b E + k]?) : mw_at E k o H1 := by
  cases o with
  | inl c =>
    obtain ⟨r, h1, h2⟩ := h
    exact ⟨r, h1, h2.kept hq⟩
  | inr a => exact hq.trans h
theorem mw_up_s {α : Type} (f : Nat → α) (k : Nat) (v : α) : va_up f k v k = v := by simp [va_up]
theorem mw_up_n {α : Type} (f : Nat → α) {k j : Nat} (v : α) (h : j ≠ k) : va_up f k v j = f j := by simp [va_up, h]
theorem mw_R.set {E : mw_E} {h : mw_H} {H H1 : Heap} (hR : mw_R E h H) {k : Nat} (o : mw_O) (hk : k < h.1) (hz : H1.size = H.size) (hq : ∀ q : Nat, q ≠ mw_b E + k → H1[q]? = H[q]?) (ha : mw_at E k o H1) : mw_R E (h.1, va_up h.2 k o) H1 := by
  refine ⟨hz.trans hR.1, fun q h1 => (hq q (by omega)).trans (hR.2.1 q h1), fun j hj => ?_⟩
  show mw_at E j (va_up h.2 k o j) H1
  by_cases e : j = k
  · subst e
    rw [mw_up_s]
    exact ha
  · rw [mw_up_n _ _ e]
    exact (hR.2.2 j hj).kept (hq _ (by omega))
theorem mw_R.push {E : mw_E} {h : mw_H} {H H1 : Heap} (hR : mw_R E h H) (o : mw_O) (hz : H1.size = H.size + 1) (hq : ∀ q : Nat, q < H.size → H1[q]? = H[q]?) (ha : mw_at E h.1 o H1) : mw_R E (h.1 + 1, va_up h.2 h.1 o) H1 := by
  have h0 := hR.1
  refine ⟨by show H1.size = mw_b E + (h.1 + 1); omega, fun q h1 => (hq q (by omega)).trans (hR.2.1 q h1), fun j hj => ?_⟩
  show mw_at E j (va_up h.2 h.1 o j) H1
  have hj' : j < h.1 + 1 := hj
  by_cases e : j = h.1
  · subst e
    rw [mw_up_s]
    exact ha
  · rw [mw_up_n _ _ e]
    exact (hR.2.2 j (by omega)).kept (hq _ (by omega))
-- words
def mw_tb : List Cond := lw_tbl.filter goodWord
theorem mw_tb_in {w : Cond} (h : w ∈ lw_tbl) (hg : goodWord w = true) : w ∈ mw_tb := List.mem_filter.mpr ⟨h, hg⟩
theorem mw_words {args a' : Array Value} {s U : State} (hts : ∀ w ∈ mw_tb, w.before args s = true) (hW : s.WarmedH U.vm) {w : Cond} (hw : w ∈ mw_tb) : w.before a' U = true := word_at hW (good_of_word (List.mem_filter.mp hw).2) (hts w hw)
def mw_tys (E : mw_E) : List (ClassId × FieldType) := [(E.2.2.1 0, .int), (E.2.2.1 1, .boolean), (E.2.2.1 2, .array .boolean), (E.2.2.1 3, .object mw_PS), (E.2.2.1 4, .long)]
def mw_K (E : mw_E) (U : State) : Prop := va_K E.2.1 mw_cl (mw_tys E) U
theorem mw_K.moved {E : mw_E} {u U : State} (hvm : u.vm.Alike U.vm) (h : mw_K E u) : mw_K E U := va_K.moved hvm h
-- the four words of a throw that look into the heap
def mw_zw : List Cond := [.isRef (.static Bundle.tN "UNASSIGNED_STACK" Bundle.steD), .isRef (.static Bundle.tN "SUPPRESSED_SENTINEL" Bundle.listD), .laysStatic Bundle.tN "UNASSIGNED_STACK" Bundle.steD, .laysStatic Bundle.tN "SUPPRESSED_SENTINEL" Bundle.listD]
/-- words on the tables that aren't 'good' ones, but last -/
def mw_xw : List Cond := [.methodLinkNest "OrderBench" 22 ⟨"OrderBench$PlaceSet", "<init>", "()V"⟩ "OrderBench", .arrayOver (.object "OrderBench$PlaceSet"), .arrayOver (.array .boolean), .castable "java/lang/IllegalArgumentException" "java/lang/IllegalArgumentException", .castable "java/util/NoSuchElementException" "java/util/NoSuchElementException", .castable "java/lang/IllegalStateException" "java/lang/IllegalStateException", .not (.castable "java/lang/IllegalStateException" "java/util/NoSuchElementException"), .declares ⟨"java/lang/RuntimeException", "<init>", "()V"⟩, .declares ⟨"java/lang/Exception", "<init>", "()V"⟩, .declares ⟨"java/lang/Throwable", "<init>", "()V"⟩]
def mw_Z (E : mw_E) (U : State) : Prop := (∀ (s' : State) (args : Array Value), U.WarmedH s'.vm → (∀ q : Nat, q < mw_b E → s'.heap[q]? = E.2.2.2.2.1[q]?) → ∀ w ∈ mw_zw, w.before args s' = true) ∧
  (∀ (s' : State) (args : Array Value), U.WarmedH s'.vm → ∀ w ∈ mw_xw, w.before args s' = true) ∧ va_X E.2.2.2.2.2.1 E.2.2.2.2.2.2.1 E.2.2.2.2.2.2.2 U E.2.2.2.2.1
theorem mw_Z.moved {E : mw_E} {u U : State} (hW : u.WarmedH U.vm) (h : mw_Z E u) : mw_Z E U := ⟨fun s' args ha hq => h.1 s' args (State.WarmedH.trans hW ha) hq, fun s' args ha => h.2.1 s' args (State.WarmedH.trans hW ha), h.2.2.moved hW.alike⟩
theorem mw_Z.here {E : mw_E} {U : State} (h : mw_Z E U) {w : Cond} (hw : w ∈ mw_xw) {args : Array Value} : w.before args U = true := h.2.1 U args (State.WarmedH.refl U) w hw
-- methods: name, code, locals, answer, handlers
def mw_code (M : mw_M) : Cond := if M.2.2.2.2 = [] then .code M.1 M.2.1 M.2.2.1 M.2.2.2.1 else .codeWith M.1 M.2.1 M.2.2.1 M.2.2.2.1 M.2.2.2.2
theorem mw_code_named {M : mw_M} {args : Array Value} {s : State} (h : (mw_code M).before args s = true) : ∃ m, s.methodNamed? M.1 = some m := by
  unfold mw_code at h
  split at h
  · exact Cond.code_named h
  · obtain ⟨m, _, _, hn, -⟩ := Cond.codeWith_spec h
    exact ⟨m, hn⟩
theorem mw_code_spec {M : mw_M} {args : Array Value} {s : State} {m : MethodId} (hn : s.methodNamed? M.1 = some m) (h : (mw_code M).before args s = true) :
    ∃ meth c, s.vm.method? m = some meth ∧ meth.code = some c ∧ c.code = M.2.1 ∧ c.maxLocals = M.2.2.1 ∧ meth.sig.returnType = M.2.2.2.1 ∧ meth.locks = false ∧ c.exceptionTable.toList = tableOf M.2.2.2.2 ∧ parseMethodDescriptor M.1.desc = some meth.sig := by
  unfold mw_code at h
  split at h
  · rename_i he
    obtain ⟨meth, c, h1, h2, h3, h4, h5, h6, h7, h8⟩ := Cond.code_spec hn h
    refine ⟨meth, c, h1, h2, h3, h4, h5, h6, ?_, h8⟩
    rw [he]
    have h0 : c.exceptionTable.size = 0 := by simpa [Array.isEmpty] using h7
    exact List.eq_nil_of_length_eq_zero (by simpa using h0)
  · obtain ⟨m', meth, c, hn', h1, h2, h3, h4, h5, h6, h7, h8⟩ := Cond.codeWith_spec h
    cases hn.symm.trans hn'
    refine ⟨meth, c, h1, h2, h3, h4, h6, h7, ?_, h8⟩
    rw [← h5]
    exact (table_eq _).symm
def mw_C (E : mw_E) (M : mw_M) (p : Program) (s : State) (m : MethodId) (args : Array Value) (meth : Method) (c : Code) : Prop :=
  p.tables.exec = Jvm.exec ∧ c.code = M.2.1 ∧ meth.sig.returnType = M.2.2.2.1 ∧ c.maxLocals = M.2.2.1 ∧ s.vm.findClass M.1.cls = some m.cls ∧ (∀ w ∈ mw_tb, w.before args s = true) ∧ mw_K E s ∧ mw_Z E s ∧ meth.locks = false ∧ c.exceptionTable.toList = tableOf M.2.2.2.2 ∧ meth.name = M.1.name ∧ E.1.stackTraces = false
def mw_rm (d mc ms : Nat) : Room := { frames := d, cells := mc, slots := ms, locals := 33 * d }
-- locals
def mw_lv (ls : Array Slot) (nL : Nat) (lo : List (Option Value)) : Prop := ls.size = nL ∧ lv_wf ls ∧ ∀ (i : Nat) (v : Value), lo[i]? = some (some v) → ls[i]? = some (.val v)
def mw_pr (lo : List (Option Value)) : List (Nat × Value) := (List.range lo.length).filterMap (fun i => (lo[i]?.join).map (fun v => (i, v)))
theorem mw_pr_mem {lo : List (Option Value)} {i : Nat} {v : Value} : (i, v) ∈ mw_pr lo ↔ lo[i]? = some (some v) := by
  unfold mw_pr
  rw [List.mem_filterMap]
  constructor
  · rintro ⟨j, -, h⟩
    cases hj : lo[j]? with
    | none => simp [hj] at h
    | some o =>
      cases o with
      | none => simp [hj] at h
      | some w =>
        simp [hj] at h
        obtain ⟨rfl, rfl⟩ := h
        exact hj
  · intro h
    have hl : i < lo.length := (List.getElem?_eq_some_iff.mp h).1
    exact ⟨i, List.mem_range.mpr hl, by simp [h]⟩
theorem mw_lv.has {ls : Array Slot} {nL : Nat} {lo : List (Option Value)} (h : mw_lv ls nL lo) : lv_has ls nL (mw_pr lo) := ⟨h.1, h.2.1, fun q hq => h.2.2 q.1 q.2 (mw_pr_mem.mp hq)⟩
theorem mw_lv.st1 {ls' : Array Slot} {nL i : Nat} {lo : List (Option Value)} {v : Value} (hp : ∀ (j : Nat) (w : Value), j + 1 = i → lo[j]? = some (some w) → ¬ w.category = 2)
    (h' : lv_has ls' nL ((i, v) :: (mw_pr lo).filter (fun q => !(q.1 == i) && !(q.1 + 1 == i && q.2.category == 2)))) : mw_lv ls' nL (lo.set i (some v)) := by
  refine ⟨h'.1, h'.2.1, fun j w hj => ?_⟩
  by_cases e : j = i
  · subst e
    rw [List.getElem?_set] at hj
    split at hj
    · split at hj
      · cases hj
        exact h'.2.2 (j, v) List.mem_cons_self
      · cases hj
    · rename_i hne
      exact absurd rfl hne
  · rw [List.getElem?_set_ne (Ne.symm e)] at hj
    refine h'.2.2 (j, w) (List.mem_cons_of_mem _ (List.mem_filter.mpr ⟨mw_pr_mem.mpr hj, ?_⟩))
    simp only [Bool.and_eq_true, Bool.not_eq_true', beq_eq_false_iff_ne, ne_eq, Bool.and_eq_false_iff]
    refine ⟨e, ?_⟩
    by_cases e2 : j + 1 = i
    · exact Or.inr (hp j w e2 hj)
    · exact Or.inl e2
theorem mw_lv.st2 {ls' : Array Slot} {nL i : Nat} {lo : List (Option Value)} {v : Value} (hp : ∀ (j : Nat) (w : Value), j + 1 = i → lo[j]? = some (some w) → ¬ w.category = 2)
    (h' : lv_has ls' nL ((i, v) :: (mw_pr lo).filter (fun q => !(q.1 == i) && (!(q.1 == i + 1) && !(q.1 + 1 == i && q.2.category == 2))))) : mw_lv ls' nL ((lo.set i (some v)).set (i + 1) none) := by
  refine ⟨h'.1, h'.2.1, fun j w hj => ?_⟩
  by_cases e1 : j = i + 1
  · subst e1
    rw [List.getElem?_set] at hj
    split at hj
    · split at hj
      · cases hj
      · cases hj
    · rename_i hne
      exact absurd rfl hne
  · rw [List.getElem?_set_ne (Ne.symm e1)] at hj
    by_cases e : j = i
    · subst e
      rw [List.getElem?_set] at hj
      split at hj
      · split at hj
        · cases hj
          exact h'.2.2 (j, v) List.mem_cons_self
        · cases hj
      · rename_i hne
        exact absurd rfl hne
    · rw [List.getElem?_set_ne (Ne.symm e)] at hj
      refine h'.2.2 (j, w) (List.mem_cons_of_mem _ (List.mem_filter.mpr ⟨mw_pr_mem.mpr hj, ?_⟩))
      simp only [Bool.and_eq_true, Bool.not_eq_true', beq_eq_false_iff_ne, ne_eq, Bool.and_eq_false_iff]
      refine ⟨e, e1, ?_⟩
      by_cases e2 : j + 1 = i
      · exact Or.inr (hp j w e2 hj)
      · exact Or.inl e2
def mw_args (av : List Value) : List (Option Value) := av.flatMap fun v => if v.category = 2 then [some v, none] else [some v]
theorem mw_args_in (av : List Value) : ∀ (i0 i : Nat) (v : Value), (mw_args av)[i]? = some (some v) → (i0 + i, v) ∈ lv_args i0 av := by
  induction av with
  | nil => intro i0 i v h; simp [mw_args] at h
  | cons a t ih =>
    intro i0 i v h
    simp only [mw_args, List.flatMap_cons] at h
    by_cases hc : a.category = 2
    · simp only [hc, if_true] at h
      cases i with
      | zero => simp at h; subst h; simp [lv_args]
      | succ i =>
        cases i with
        | zero => simp at h
        | succ i =>
          have h2 : (mw_args t)[i]? = some (some v) := by simpa [mw_args] using h
          have := ih (i0 + 2) i v h2
          simp only [lv_args, hc, if_true]
          refine List.mem_cons_of_mem _ ?_
          rw [show i0 + (i + 1 + 1) = i0 + 2 + i by omega]
          exact this
    · simp only [hc, if_false] at h
      cases i with
      | zero => simp at h; subst h; simp [lv_args]
      | succ i =>
        have h2 : (mw_args t)[i]? = some (some v) := by simpa [mw_args] using h
        have := ih (i0 + 1) i v h2
        simp only [lv_args, hc, if_false]
        refine List.mem_cons_of_mem _ ?_
        rw [show i0 + (i + 1) = i0 + 1 + i by omega]
        exact this
theorem mw_lv.entry {ls : Array Slot} {n : Nat} {av : List Value} (h : lv_has ls n (lv_args 0 av)) : mw_lv ls n (mw_args av) :=
  ⟨h.1, h.2.1, fun i v hi => h.2.2 (i, v) (by have := mw_args_in av 0 i v hi; rwa [Nat.zero_add] at this)⟩
-- the judgement
def mw_Q (E : mw_E) (Q : Option Value → mw_H → Prop) (X : Nat → mw_H → Prop) (o : Outcome) (t : State) : Prop :=
  ∃ h : mw_H, mw_R E h t.heap ∧ ((∃ v, o = .returned v ∧ Q v h) ∨ ∃ k, o = .threw (mw_b E + k) ∧ X k h)
def mw_F (E : mw_E) (s t : State) (mc ms : Nat) : Prop := ∃ L : List Loc, s.WarmedH t.vm ∧ s.sameButNew ({ t with vm := s.vm } : State) L mc ms ∧ ∀ q ∈ L, mw_b E ≤ q.base
def mw_end (E : mw_E) (Q : Option Value → mw_H → Prop) (X : Nat → mw_H → Prop) (below : List Frame) (s : State) (mc ms : Nat) : State → Prop := fun t =>
  ∃ o, t.status = .running ∧ Ended t below o ∧ mw_Q E Q X o t ∧ mw_F E s t mc ms
def mw_W (E : mw_E) (M : mw_M) (d : Nat) (Q : Option Value → mw_H → Prop) (X : Nat → mw_H → Prop) (bc bs pc : Nat) (lo : List (Option Value)) (st : List Value) (h : mw_H) : Prop :=
  ∀ (p : Program) (e : Env) (s : State) (m : MethodId) (args : Array Value) (below : List Frame) (meth : Method) (c : Code) (H : Heap) (locs : List Loc) (cells slots mc ms : Nat) (ls : Array Slot),
    mw_C E M p s m args meth c → mw_R E h H → (∀ q ∈ locs, mw_b E ≤ q.base) → mw_lv ls M.2.2.1 lo → cells + bc ≤ mc → slots + bs ≤ ms →
    W p E.1 e (mw_rm d mc ms) s m args below meth c H locs cells slots (mw_end E Q X below s mc ms) (F0 m pc ls st)
/-- an object (offset k) is under way through a frame that stands at pc -/
def mw_T (E : mw_E) (M : mw_M) (d : Nat) (Q : Option Value → mw_H → Prop) (X : Nat → mw_H → Prop) (bc bs pc : Nat) (lo : List (Option Value)) (k : Nat) (h : mw_H) : Prop :=
  ∀ (p : Program) (e : Env) (s : State) (m : MethodId) (args : Array Value) (below : List Frame) (meth : Method) (c : Code) (locs : List Loc) (cells slots mc ms : Nat) (ls : Array Slot) (st : List Value) (T : State),
    mw_C E M p s m args meth c → mw_R E h T.heap → (∀ q ∈ locs, mw_b E ≤ q.base) → mw_lv ls M.2.2.1 lo → cells + bc ≤ mc → slots + bs ≤ ms →
    Stand p E.1 e (mw_rm d mc ms) s m args below meth c T locs cells slots → ∃ t, Steps p.tables e below ((T.setTop (F0 m pc ls st)).pushFrame (.throwing (mw_b E + k))) t ∧ mw_end E Q X below s mc ms t
def mw_Ct (E : mw_E) (M : mw_M) (d bc bs : Nat) (av : List Value) (h : mw_H) (Q : Option Value → mw_H → Prop) (X : Nat → mw_H → Prop) : Prop :=
  mw_W E M d Q X bc bs 0 (mw_args av) [] h
def mw_no : Nat → mw_H → Prop := fun _ _ => False
theorem mw_mono {p : Program} {l : Launch} {e : Env} {R : Room} {s : State} {m : MethodId} {args : Array Value} {below : List Frame} {meth : Method} {c : Code} {H : Heap} {locs : List Loc} {cells slots : Nat} {Q Q' : State → Prop} {g : JFrame} (w : W p l e R s m args below meth c H locs cells slots Q g) (h : ∀ t, Q t → Q' t) : W p l e R s m args below meth c H locs cells slots Q' g := by
  intro T hT X
  obtain ⟨t, a, b⟩ := w T hT X
  exact ⟨t, a, h t b⟩
set_option maxHeartbeats 1000000 in
theorem mw_met {E : mw_E} {M : mw_M} {d bc bs : Nat} {av : List Value} {h : mw_H} {Q : Option Value → mw_H → Prop} {X : Nat → mw_H → Prop} (hl9 : E.1.stackTraces = false) (hC : mw_Ct E M d bc bs av h Q X) (hy : plainFor M.1 = true) (ha : (lg_sl av).length ≤ M.2.2.1) :
    MetFree E.1 M.1 (headSpec (mw_code M :: mw_tb) (mw_rm d bc bs)) (fun a U => a = av.toArray ∧ mw_R E h U.heap ∧ mw_K E U ∧ mw_Z E U) (fun _ _ _ _ _ => True) (fun _ st o t => mw_Q E Q X o t ∧ mw_F E st t bc bs) := by
  refine MetFree.of_bodySF (code := M.2.1) (maxLocals := M.2.2.1) (ret := M.2.2.2.1) hy ?_ ?_
  · intro args s m hp hn
    obtain ⟨meth, c, h1, h2, h3, h4, h5, h6, -, -⟩ := mw_code_spec hn (atoms_spec (ws := mw_code M :: mw_tb) hp _ List.mem_cons_self)
    exact ⟨meth, c, h1, h2, h3, h4, h5, h6⟩
  · intro p e s m args below meth c s₁ B hml hP _
    obtain ⟨rfl, hR, hK, hZ⟩ := hP
    have hts := atoms_spec (ws := mw_code M :: mw_tb) B.pre
    obtain ⟨meth', c', h1, h2, -, -, -, -, hT, -⟩ := mw_code_spec B.named (hts _ List.mem_cons_self)
    have X₀ : Stand p E.1 e (mw_rm d bc bs) s m av.toArray below meth c s₁ [] 0 0 := Stand.of_body B
    cases B.method.symm.trans h1
    cases X₀.code.symm.trans h2
    have hh0 : s₁.heap = s.heap := by rw [B.state]; rfl
    have hl := lv_entry av (n := M.2.2.1) ha
    have w := hC p e s m av.toArray below meth c s.heap [] 0 0 bc bs _ ⟨B.exec, B.bytes, B.returns, hml, findClass_of_methodNamed B.named, fun w hw => hts w (List.mem_cons_of_mem _ hw), hK, hZ, B.notSynchronized, hT, (name_of_methodNamed B.named B.method).1, hl9⟩ hR (fun q hq => nomatch hq) (mw_lv.entry hl) (by omega) (by omega)
    obtain ⟨t, a1, o, b1, b2, b3⟩ := w s₁ hh0 X₀
    refine ⟨t, o, ?_, b1, b2, b3⟩
    rw [lg_entry_eq]
    exact a1
