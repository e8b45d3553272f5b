/-! What the start gives: the words that last, the classes, the room. -/
section Start
theorem wz_m {s s' : State} {args args' : Array Value} (hW : s.WarmedH s'.vm) {cls host : String} {x : MethodName} {index : Nat} (h : (Cond.methodLinkNest cls index x host).before args s = true) : (Cond.methodLinkNest cls index x host).before args' s' = true := by
  have h1 := Cond.onTables_warmH (T := s') (args' := args') hW (c := Cond.methodLinkNest cls index x host) rfl rfl h
  rwa [State.setVm_self] at h1
theorem wz_a {s s' : State} {args args' : Array Value} (hW : s.WarmedH s'.vm) {ty : FieldType} (h : (Cond.arrayOver ty).before args s = true) : (Cond.arrayOver ty).before args' s' = true := by
  have h1 : (Cond.arrayOver ty).before args (s.setVm s'.vm) = true := by rw [Cond.arrayOver_setVmC hW.alike]; exact h
  exact h1
theorem wz_d {s s' : State} {args args' : Array Value} (hW : s.WarmedH s'.vm) {x : MethodName} (h : (Cond.declares x).before args s = true) : (Cond.declares x).before args' s' = true := by
  have h1 : (Cond.declares x).before args (s.setVm s'.vm) = true := by rw [Cond.declares_setVm hW.alike]; exact h
  exact h1
theorem wz_c {s s' : State} {args args' : Array Value} (hW : s.WarmedH s'.vm) {a b : String} (h : (Cond.castable a b).before args s = true) : (Cond.castable a b).before args' s' = true := by
  have h1 : (Cond.castable a b).before args (s.setVm s'.vm) = true := by rw [Cond.castable_setVm hW.alike]; exact h
  exact h1
theorem wz_n {s s' : State} {args args' : Array Value} (hW : s.WarmedH s'.vm) {a b : String} (h : (Cond.not (.castable a b)).before args s = true) : (Cond.not (.castable a b)).before args' s' = true := by
  have h1 : (Cond.not (.castable a b)).before args (s.setVm s'.vm) = true := by
    simp only [Cond.before, Cond.holds, Cond.value, State.vm_setVm, hW.alike.findClass, hW.alike.assignable] at h ⊢
    exact h
  exact h1
theorem wz_s {s s' : State} {args args' : Array Value} {base : Nat} (hb : base = s.heap.size) (hW : s.WarmedH s'.vm) (hH : ∀ q : Nat, q < base → s'.heap[q]? = s.heap[q]?) {C n d : String} (h : (Cond.laysStatic C n d).before args s = true) : (Cond.laysStatic C n d).before args' s' = true ∧ ((Cond.isRef (.static C n d)).before args s = true → (Cond.isRef (.static C n d)).before args' s' = true) := by
  obtain ⟨c, k, i, f, a, cell, hc, hi, hst, ha, hcell, hs, hcls, hlt, hty⟩ := Cond.laysStatic_spec h
  obtain ⟨k', hi', hek⟩ := State.fieldFound?_setVm hW.alike hi
  have hal : a < s.heap.size := (Array.getElem?_eq_some_iff.mp hcell).1
  have hcell' : s'.heap[a]? = some cell := (hH a (by rw [hb]; exact hal)).trans hcell
  have hi2 : s'.fieldFound? C n d = some (c, k', i, f) := hi'
  have ha2 : k'.statics = some a := by rw [hek]; exact ha
  refine ⟨Cond.laysStatic_of (s := s') (by rw [hW.alike.findClass]; exact hc) hi2 hst ha2 hcell' hs hcls hlt (by rw [hek]; exact hty), fun hr => ?_⟩
  obtain ⟨u, hu⟩ := Cond.staticRefV hi hst ha hcell hs hr
  have he : (Term.static C n d).eval args' s' none [] s' = cell.slots[f.slot]? := by
    simp [Term.eval, State.fieldNamed?, hi2, hst, ha2, hcell', hs]
  simp only [Cond.before, Cond.holds, Cond.value]
  rw [he, hu]
  obtain ⟨v, hv⟩ := u
  cases v <;> simp [Value.isRef] at hv ⊢
theorem hr_le {s : State} {pl : Platform} {r r' : Room} (h : s.hasRoom pl r = true) (h1 : r'.frames ≤ r.frames) (h2 : r'.cells ≤ r.cells) (h3 : r'.slots ≤ r.slots) (h4 : r'.locals ≤ r.locals) : s.hasRoom pl r' = true := by
  simp only [State.hasRoom, Bool.and_eq_true, decide_eq_true_eq] at h ⊢
  obtain ⟨⟨⟨⟨a1, a2, a3, a4, a5, a6⟩, a7⟩, a8⟩, a9⟩ := h
  refine ⟨⟨⟨⟨?_, ?_, ?_, ?_, ?_, a6⟩, ?_⟩, ?_⟩, a9⟩ <;> omega
theorem ka_p {s : State} {args : Array Value} {ty : FieldType} (h : (Cond.arrayClass ty).before args s = true) (hty : ∀ C, ty ≠ .object C) : ∃ cA, ArrOfT s cA ty ∧ va_RA s cA ty := by
  obtain ⟨cA, kA, comp, hname, hk, hkind⟩ := Cond.arrayClass_spec h
  refine ⟨cA, fun n z => ⟨(fun q hq => nomatch hq), kA, hk, comp, hkind⟩, ?_⟩
  cases ty with
  | object C => exact absurd rfl (hty C)
  | _ => exact hname
theorem ka_a {s : State} {args : Array Value} {t : FieldType} (h : (Cond.arrayOver (.array t)).before args s = true) : ∃ cA, ArrOfT s cA (.array t) ∧ va_RA s cA (.array t) := by
  obtain ⟨comp, cA, kA, hcomp, -, hkA, hkindA, hnameA⟩ := arrayOverA_spec h
  exact ⟨cA, fun n z => ⟨(fun q hq => nomatch hq), kA, hkA, comp, hkindA⟩, hnameA⟩
end Start
