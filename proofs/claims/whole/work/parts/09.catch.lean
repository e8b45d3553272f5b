/-! A handler of the method's own catches what a call threw. -/
section MwCatch
variable {e : Env} {f : JFrame} {a : Addr} {x : ExceptionTableEntry} {t : List ExceptionTableEntry} {cT : ClassId} {cell : Cell} {pc : Nat} {vm' : Vm}
def mw_find (e : Env) (S : State) (f : JFrame) (a : Addr) (tab : List ExceptionTableEntry) (pc : Nat) (vm' : Vm) : Prop :=
  ∀ (Q : Handler → Pre) (E : CtlPost) (d : Bool) (acts : List Action), wp (findHandler.go f a tab) Q E e d acts S ↔ Q (.found pc) d acts (S.setVm vm')
theorem mw_hit {S : State} (hx : covers x f.pc = true) (h0 : x.catchType ≠ 0) (hl : S.vm.ClassLinks e.platform f.method.cls x.catchType cT) (hcell : S.heap[a]? = some cell) (hobj : ∀ k, cell.vm ≠ .statics k)
    (hk : ∃ k, S.vm.classes[cell.cls]? = some k) (hc : ∃ k, S.vm.classes[cT]? = some k) (hfit : S.vm.assignable cell.cls cT = true) : mw_find e S f a (x :: t) x.handlerPc (S.vm.noted f.method.cls x.catchType (.cls cT)) := by
  intro Q E d acts
  simp only [covers] at hx
  obtain ⟨ha, ht⟩ := (resolveClass_links e.toSetting hl).op (op := VmOp.resolveClass f.method.cls x.catchType) rfl
  have hal : S.vm.Alike (S.vm.noted f.method.cls x.catchType (.cls cT)) := (Vm.Alike.refl S.vm).noted _ _ _
  obtain ⟨k1, hk1⟩ := hk
  obtain ⟨k2, hk2⟩ := hc
  obtain ⟨k3, hk3, -⟩ := hal.2.2 _ _ hk1
  obtain ⟨k4, hk4, -⟩ := hal.2.2 _ _ hk2
  have hfit' : (S.vm.noted f.method.cls x.catchType (.cls cT)).assignable cell.cls cT = true := by rw [hal.assignable]; exact hfit
  simp [findHandler.go, hx, h0, ha, ht, hcell, hobj, hk3, hk4, hfit', VmOp.dirties, VmOp.acts]
theorem mw_pass {S : State} (hx : covers x f.pc = true) (h0 : x.catchType ≠ 0) (hl : S.vm.ClassLinks e.platform f.method.cls x.catchType cT) (hcell : S.heap[a]? = some cell) (hobj : ∀ k, cell.vm ≠ .statics k)
    (hk : ∃ k, S.vm.classes[cell.cls]? = some k) (hc : ∃ k, S.vm.classes[cT]? = some k) (hno : S.vm.assignable cell.cls cT = false)
    (hr : mw_find e (S.setVm (S.vm.noted f.method.cls x.catchType (.cls cT))) f a t pc vm') : mw_find e S f a (x :: t) pc vm' := by
  intro Q E d acts
  simp only [covers] at hx
  obtain ⟨ha, ht⟩ := (resolveClass_links e.toSetting hl).op (op := VmOp.resolveClass f.method.cls x.catchType) rfl
  have hal : S.vm.Alike (S.vm.noted f.method.cls x.catchType (.cls cT)) := (Vm.Alike.refl S.vm).noted _ _ _
  obtain ⟨k1, hk1⟩ := hk
  obtain ⟨k2, hk2⟩ := hc
  obtain ⟨k3, hk3, -⟩ := hal.2.2 _ _ hk1
  obtain ⟨k4, hk4, -⟩ := hal.2.2 _ _ hk2
  have hno' : (S.vm.noted f.method.cls x.catchType (.cls cT)).assignable cell.cls cT = false := by rw [hal.assignable]; exact hno
  have h2 := hr Q E d acts
  have h3 : (S.setVm (S.vm.noted f.method.cls x.catchType (.cls cT))).setVm vm' = S.setVm vm' := rfl
  rw [h3] at h2
  rw [← h2]
  simp [findHandler.go, hx, h0, ha, ht, hcell, hobj, hk3, hk4, hno', VmOp.dirties, VmOp.acts]
theorem mw_landed {tb : Tables} {s target : State} {g : JFrame} {c : Code} {below : List Frame} {meth : Method} (h : At s g.method c below) (hm : s.vm.method? g.method = some meth) (hc : meth.code = some c)
    (hfind : mw_find e ((s.setTop g).pushFrame (.throwing a)) g a c.exceptionTable.toList pc vm') (hrest : Steps tb e below ((s.setVm vm').setTop { g with pc := pc, stack := [.ref a] }) target) :
    Steps tb e below ((s.setTop g).pushFrame (.throwing a)) target := by
  obtain ⟨hgo, hw⟩ := h.throwing a
  refine Steps.head hgo hw ?_
  have hstep : (stepThrowing e ((s.setTop g).pushFrame (.throwing a)) a (.java g :: s.frames.tail)).Is ((((s.setTop g).pushFrame (.throwing a)).setVm vm').setFrames (.java { g with pc := pc, stack := [.ref a] } :: s.frames.tail)) [] := by
    simp only [stepThrowing, searchFrame, vmDo]
    generalize hr : Sem.go _ e false [] ((s.setTop g).pushFrame (.throwing a)) = res
    have hfn : ∀ (Q : Handler → Pre) (E : CtlPost) (d : Bool) (acts : List Action), wp (findHandler g a) Q E e d acts ((s.setTop g).pushFrame (.throwing a)) ↔ Q (.found pc) d acts (((s.setTop g).pushFrame (.throwing a)).setVm vm') := by
      intro Q E d acts
      rw [W.findHandler_eq (meth := meth) (code := c) (by simpa [State.pushFrame, State.setFrames] using hm) hc]
      exact hfind Q E d acts
    obtain ⟨as, rfl, ha⟩ := Sem.eq_ok_of hr (a := Handler.found pc) (s' := ((s.setTop g).pushFrame (.throwing a)).setVm vm') (acts' := []) (by simp [hfn _ _ _ _])
    exact ⟨rfl, ha⟩
  rw [stepThread_throwing (frames_entered h.top _), hstep.1]
  obtain ⟨g₀, hg⟩ := Option.isSome_iff_exists.mp h.top
  obtain ⟨r, hr⟩ := State.topJava?_eq_some.mp hg
  have hr' : (s.setVm vm').frames = .java g₀ :: r := hr
  have hsw : ∀ (u : State) (F G : List Frame), ((u.setFrames F).setVm vm').setFrames G = (u.setVm vm').setFrames G := fun u F G => by
    rw [show (u.setFrames F).setVm vm' = (u.setVm vm').setFrames F from rfl, State.setFrames_setFrames]
  rw [State.setTop_of_frames _ hr'] at hrest
  rw [hr, List.tail_cons, State.pushFrame, hsw, State.setTop_of_frames _ hr, hsw]
  exact hrest
end MwCatch
section MwCatch2
variable {E : mw_E} {M : mw_M} {d bc bs pc k : Nat} {Q : Option Value → mw_H → Prop} {X : Nat → mw_H → Prop} {lo : List (Option Value)} {h : mw_H} {cx : Nat} {f : Nat → Value}
/-- the first row catches -/
theorem mw_catch1 {x : ExceptionTableEntry} {t : List ExceptionTableEntry} {r : vw_C} {nm : String} (htab9 : tableOf M.2.2.2.2 = x :: t) (hk : k < h.1) (ho : h.2 k = .inl (cx, f)) (hr : mw_cl[cx]? = some r) (hx9 : covers x pc = true) (h0 : x.catchType ≠ 0) (hlk9 : Cond.classLink M.1.cls x.catchType nm ∈ mw_tb) (hcast : Cond.castable r.1 nm ∈ mw_xw)
    (kk : mw_W E M d Q X bc bs x.handlerPc lo [.ref (mw_b E + k)] h) : mw_T E M d Q X bc bs pc lo k h := by
  intro p e s m args below meth c locs cells slots mc ms ls st T C hR hlocs hl hc hs X0
  have C0 := C
  obtain ⟨hx, hb, hr9, hml, hown, hts, hK, hZ, hlk, htab, hnm, hl9⟩ := C
  have hpl : e.platform.magicAccessors = ({} : Platform).magicAccessors := by rw [X0.admits.platform]
  obtain ⟨cell, hcell, hobj, hcls⟩ := mw_recv hK hR hk ho hr
  obtain ⟨c3, c4, hc3, hc4, hasg⟩ := Cond.castable_spec (hZ.here (args := args) hcast)
  cases Option.some.inj (hc3.symm.trans hcls)
  obtain ⟨c5, hc5, hcl5⟩ := Cond.classLink_spec hown (hts _ hlk9) e.platform hpl
  cases Option.some.inj (hc4.symm.trans hc5)
  have hW := X0.warmed
  have hl5 := hW.classLinks hcl5
  obtain ⟨dk, _, _, kt, hd5, _, _, _, _, hkt, _, hopen⟩ := hcl5.here
  obtain ⟨kt', hkt', -⟩ := hW.alike.2.2 _ _ hkt
  have hkc : ∃ k, T.vm.classes[cell.cls]? = some k := by
    obtain ⟨kC, hkC, -⟩ := (hK.1 cx r hr).2.2
    have hcc : E.2.1.1 cx = cell.cls := Option.some.inj ((hK.1 cx r hr).2.1.symm.trans hcls)
    rw [hcc] at hkC
    obtain ⟨k', hk', -⟩ := hW.alike.2.2 _ _ hkC
    exact ⟨k', hk'⟩
  have hW' : s.WarmedH (T.vm.noted m.cls x.catchType (.cls c4)) := hW.noted hd5 hopen (State.rightAt_cls hcl5)
  have X1 := X0.noted hW'
  obtain ⟨t9, a1, b1⟩ := kk p e s m args below meth c T.heap locs cells slots mc ms ls C0 hR hlocs hl hc hs (T.setVm (T.vm.noted m.cls x.catchType (.cls c4))) rfl X1
  refine ⟨t9, ?_, b1⟩
  refine mw_landed (g := F0 m pc ls st) (pc := x.handlerPc) X0.here X0.method' X0.code ?_ a1
  rw [htab, htab9]
  exact mw_hit (S := (T.setTop (F0 m pc ls st)).pushFrame (.throwing (mw_b E + k))) hx9 h0 hl5 hcell (VmData.ne_statics_of hobj) hkc ⟨kt', hkt'⟩ (by rw [show ((T.setTop (F0 m pc ls st)).pushFrame (.throwing (mw_b E + k))).vm = T.vm from rfl, hW.alike.assignable]; exact hasg)
/-- the first row names another class, the second one catches -/
theorem mw_catch2 {x y : ExceptionTableEntry} {t : List ExceptionTableEntry} {r : vw_C} {nm nm1 : String} (htab9 : tableOf M.2.2.2.2 = y :: x :: t) (hk : k < h.1) (ho : h.2 k = .inl (cx, f)) (hr : mw_cl[cx]? = some r) (hy9 : covers y pc = true) (hy0 : y.catchType ≠ 0) (hlky : Cond.classLink M.1.cls y.catchType nm1 ∈ mw_tb)
    (hno : Cond.not (.castable r.1 nm1) ∈ mw_xw) (hx9 : covers x pc = true) (h0 : x.catchType ≠ 0) (hlk9 : Cond.classLink M.1.cls x.catchType nm ∈ mw_tb) (hcast : Cond.castable r.1 nm ∈ mw_xw)
    (kk : mw_W E M d Q X bc bs x.handlerPc lo [.ref (mw_b E + k)] h) : mw_T E M d Q X bc bs pc lo k h := by
  intro p e s m args below meth c locs cells slots mc ms ls st T C hR hlocs hl hc hs X0
  have C0 := C
  obtain ⟨hx, hb, hr9, hml, hown, hts, hK, hZ, hlk, htab, hnm, hl9⟩ := C
  have hpl : e.platform.magicAccessors = ({} : Platform).magicAccessors := by rw [X0.admits.platform]
  obtain ⟨cell, hcell, hobj, hcls⟩ := mw_recv hK hR hk ho hr
  obtain ⟨c3, c4, hc3, hc4, hasg⟩ := Cond.castable_spec (hZ.here (args := args) hcast)
  cases Option.some.inj (hc3.symm.trans hcls)
  obtain ⟨c5, hc5, hcl5⟩ := Cond.classLink_spec hown (hts _ hlk9) e.platform hpl
  cases Option.some.inj (hc4.symm.trans hc5)
  obtain ⟨c7, hc8, hcl8⟩ := Cond.classLink_spec hown (hts _ hlky) e.platform hpl
  have hno9 : s.vm.assignable cell.cls c7 = false := by
    have hv := Cond.holds_not_iff.mp (hZ.here (args := args) hno)
    simp only [Cond.value, hcls, hc8] at hv
    exact Option.some.inj hv
  have hW := X0.warmed
  obtain ⟨dk, _, _, kt, hd5, _, _, _, _, hkt, _, hopen⟩ := hcl5.here
  obtain ⟨dk8, _, _, kt8, hd8, _, _, _, _, hkt8, _, hopen8⟩ := hcl8.here
  obtain ⟨kt8', hkt8', -⟩ := hW.alike.2.2 _ _ hkt8
  have hkc : ∃ k, s.vm.classes[cell.cls]? = some k := by
    obtain ⟨kC, hkC, -⟩ := (hK.1 cx r hr).2.2
    have hcc : E.2.1.1 cx = cell.cls := Option.some.inj ((hK.1 cx r hr).2.1.symm.trans hcls)
    rw [hcc] at hkC
    exact ⟨kC, hkC⟩
  obtain ⟨kc, hkc⟩ := hkc
  obtain ⟨kc1, hkc1, -⟩ := hW.alike.2.2 _ _ hkc
  have hW1 : s.WarmedH (T.vm.noted m.cls y.catchType (.cls c7)) := hW.noted hd8 hopen8 (State.rightAt_cls hcl8)
  generalize hv1 : T.vm.noted m.cls y.catchType (.cls c7) = v1 at hW1
  obtain ⟨kt', hkt', -⟩ := hW1.alike.2.2 _ _ hkt
  obtain ⟨kc2, hkc2, -⟩ := hW1.alike.2.2 _ _ hkc
  have hl5 := hW1.classLinks hcl5
  have hW2 : s.WarmedH (v1.noted m.cls x.catchType (.cls c4)) := hW1.noted hd5 hopen (State.rightAt_cls hcl5)
  have X1 := X0.noted hW2
  obtain ⟨t9, a1, b1⟩ := kk p e s m args below meth c T.heap locs cells slots mc ms ls C0 hR hlocs hl hc hs (T.setVm (v1.noted m.cls x.catchType (.cls c4))) rfl X1
  refine ⟨t9, ?_, b1⟩
  refine mw_landed (g := F0 m pc ls st) (pc := x.handlerPc) X0.here X0.method' X0.code ?_ a1
  rw [htab, htab9]
  refine mw_pass (S := (T.setTop (F0 m pc ls st)).pushFrame (.throwing (mw_b E + k))) hy9 hy0 (hW.classLinks hcl8) hcell (VmData.ne_statics_of hobj) ⟨kc1, hkc1⟩ ⟨kt8', hkt8'⟩ (by rw [show ((T.setTop (F0 m pc ls st)).pushFrame (.throwing (mw_b E + k))).vm = T.vm from rfl, hW.alike.assignable]; exact hno9) ?_
  rw [show ((T.setTop (F0 m pc ls st)).pushFrame (.throwing (mw_b E + k))).vm.noted (F0 m pc ls st).method.cls y.catchType (.cls c7) = v1 from hv1]
  exact mw_hit (S := ((T.setTop (F0 m pc ls st)).pushFrame (.throwing (mw_b E + k))).setVm v1) hx9 h0 hl5 hcell (VmData.ne_statics_of hobj) ⟨kc2, hkc2⟩ ⟨kt', hkt'⟩ (by rw [show (((T.setTop (F0 m pc ls st)).pushFrame (.throwing (mw_b E + k))).setVm v1).vm = v1 from rfl, hW1.alike.assignable]; exact hasg)
end MwCatch2
