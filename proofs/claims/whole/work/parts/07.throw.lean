/-! A new exception without words, thrown out of the method that makes it; and caught by a method's own handler. -/
section MwThrow
variable {p : Program} {l : Launch} {e : Env} {R : Room} {s : State} {m : MethodId} {args : Array Value} {below : List Frame} {meth : Method} {c : Code} {T : State} {locs : List Loc} {cells slots : Nat}
/-- the invocation seen as if it began in the heap that it has come to -/
theorem mw_rebase (X : Stand p l e R s m args below meth c T locs cells slots) {R' : Room} (hf : R'.frames ≤ R.frames) (hl : R'.locals ≤ R.locals) (hc : cells + R'.cells ≤ R.cells) (hs : slots + R'.slots ≤ R.slots) :
    Stand p l e R' ((T.setVm s.vm).setFrames (.invoking m args :: below)) m args below meth c T [] 0 0 := by
  obtain ⟨g₀, hg0⟩ := Option.isSome_iff_exists.mp X.here.top
  obtain ⟨r, hr⟩ := State.topJava?_eq_some.mp hg0
  have htop : (T.setVm s.vm).topJava?.isSome := X.here.top
  have hfr : ((T.setVm s.vm).setFrames (.invoking m args :: below)).frames = .invoking m args :: below := State.frames_setFrames _ (State.cur_lt_of_top htop)
  have hlim : e.platform.stackLimits (T.setVm s.vm).me = e.platform.stackLimits s.me := X.limits
  have hbyt : (T.setVm s.vm).me.stackBytes = s.me.stackBytes := X.bytes
  have hsz := X.heapSize
  have hus := X.used
  have hroom : ((T.setVm s.vm).setFrames (.invoking m args :: below)).hasRoom e.platform R' = true := by
    have h0 := X.room
    have hU : ((T.setVm s.vm).setFrames (.invoking m args :: below)).localsInUse = s.localsInUse := by
      rw [State.localsInUse_invoking hfr (meth := meth) (c := c) X.method X.code, State.localsInUse_invoking X.frames X.method X.code]
    simp only [State.hasRoom, Bool.and_eq_true, decide_eq_true_eq] at h0 ⊢
    obtain ⟨⟨⟨⟨h1, h2, h3, h4, h5, h6⟩, h7⟩, h8⟩, h9⟩ := h0
    rw [X.frames, List.length_cons] at h2 h3
    simp only [hfr, hU, List.length_cons, State.stackLimits_setFrames, State.stackBytes_setFrames, hlim, hbyt]
    have i1 : T.heap.size + R'.cells ≤ e.platform.maxCells := by omega
    have i2 : T.slotsUsed + R'.slots ≤ e.platform.maxSlots := by omega
    exact ⟨⟨⟨⟨by omega, by omega, by omega, by omega, by omega, h6⟩, i1⟩, i2⟩, X.book⟩
  have hsame : ((T.setVm s.vm).setFrames (.invoking m args :: below)).sameButNew (T.setVm ((T.setVm s.vm).setFrames (.invoking m args :: below)).vm) [] 0 0 := by
    have hn : List.drop T.heap.size T.heap.toList = [] := List.drop_eq_nil_of_le (Nat.le_of_eq Array.length_toList)
    refine ⟨?_, Nat.le_refl _, Nat.le_refl _, ?_, ?_, fun a c9 h9 => ⟨c9, h9, rfl, rfl, fun _ _ => rfl⟩⟩
    · have hr2 : (T.setVm s.vm).frames = .java g₀ :: r := hr
      obtain ⟨t, ht, -⟩ := State.frames_cons hr2
      show T.setVm s.vm = { ((T.setVm s.vm).setFrames (.invoking m args :: below)).setFrames (T.setVm s.vm).frames with heap := T.heap, slotsUsed := T.slotsUsed }
      rw [State.setFrames_setFrames, State.setFrames_self ht]
      rfl
    · show T.slotsUsed = T.slotsUsed + ((T.heap.toList.drop T.heap.size).map (·.slots.size)).sum
      rw [hn]
      rfl
    · show ((T.heap.toList.drop T.heap.size).map (·.slots.size)).sum ≤ 0
      rw [hn]
      exact Nat.le_refl _
  exact ⟨X.admits, X.cas, X.clock, hfr, hroom, X.hears, X.method, X.code, X.here, X.tail, X.warmed, by rw [State.stackLimits_setFrames]; rfl, by rw [State.stackBytes_setFrames]; rfl, hsame⟩
theorem mw_old {s U : State} {k n : Nat} (h : s.sameButNew U [] k n) : s.heap.size ≤ U.heap.size ∧ U.heap.size ≤ s.heap.size + k ∧ ∀ q : Nat, q < s.heap.size → U.heap[q]? = s.heap[q]? := by
  obtain ⟨-, h2, h3, -, -, h6⟩ := h
  refine ⟨h2, h3, fun q hq => ?_⟩
  obtain ⟨c9, e1, e2, -, e4⟩ := h6 q _ (Array.getElem?_eq_getElem hq)
  have hs : c9.slots = (s.heap[q]).slots := Array.ext_getElem? fun i => e4 i (fun hm => nomatch hm)
  rw [hs] at e2
  rw [e1, e2, Array.getElem?_eq_getElem hq]
end MwThrow
section MwThrow2
variable {E : mw_E} {M : mw_M} {d bc bs pc k : Nat} {Q : Option Value → mw_H → Prop} {X : Nat → mw_H → Prop} {lo : List (Option Value)} {st : List Value} {h : mw_H}
set_option maxHeartbeats 4000000 in
theorem mw_throw {cls : String} {names : List String} {T9 : u_T} {ik ic cx : Nat} (hcx : mw_cl[cx]? = some (cls, T9, 0)) (hcls : Bundle.fit cls = true) (hnames : ∀ n ∈ names, Bundle.fit n = true) (hw : ∀ w ∈ Bundle.ownAtoms0 M.1.cls ic cls names, w ∈ mw_tb ∨ w ∈ mw_zw ∨ w ∈ mw_xw) (hk : Cond.classLink M.1.cls ik cls ∈ mw_tb) (hini : Cond.initialized cls ∈ mw_tb)
    (d0 : decode M.2.1 pc = .ok (.new ik, 3)) (d3 : decode M.2.1 (pc + 3) = .ok (.dup, 1)) (d4 : decode M.2.1 (pc + 4) = .ok (.invokespecial ic, 3)) (d7 : decode M.2.1 (pc + 7) = .ok (.athrow, 1)) (hout : ∀ x ∈ tableOf M.2.2.2.2, covers x (pc + 7) = false)
    (hn9 : names.length = 2) (hdd : 6 ≤ d) (hst : (st.map fun v => v.category).sum ≤ 8) (hbc : 1 ≤ bc) (hbs : 6 ≤ bs) (hx9 : X h.1 (h.1 + 1, va_up h.2 h.1 (.inl (cx, fun _ => .null)))) : mw_W E M d Q X bc bs pc lo st h := by
  intro p e s m args below meth c H locs cells slots mc ms ls C hR hlocs hl hc hs T hT X0
  subst hT
  obtain ⟨hx, hb, hr9, hml, hown, hts, hK, hZ, hlk, htab, hnm, hl9⟩ := C
  have htr : e.platform.stackTraces = false := (show e.platform.stackTraces = E.1.stackTraces by rw [X0.admits.platform]).trans hl9
  have Y := mw_rebase X0 (R' := { frames := d, locals := 33 * d, cells := 1, slots := 6 }) (Nat.le_refl _) (Nat.le_refl _) (by show cells + 1 ≤ mc; omega) (by show slots + 6 ≤ ms; omega)
  obtain ⟨s', hs'⟩ : ∃ z, z = (T.setVm s.vm).setFrames (.invoking m args :: below) := ⟨_, rfl⟩
  rw [← hs'] at Y
  have hvm : s'.vm = s.vm := by rw [hs']; rfl
  have hhp : s'.heap = T.heap := by rw [hs']; rfl
  have hW0 : s.WarmedH s'.vm := by rw [hvm]; exact State.WarmedH.refl s
  have hall : ∀ w ∈ Bundle.ownAtoms0 M.1.cls ic cls names, w.before args s' = true := fun w hw9 => by
    rcases hw w hw9 with h1 | h1 | h1
    · exact mw_words hts hW0 h1
    · exact hZ.1 s' args hW0 (by rw [hhp]; exact hR.2.1) w h1
    · exact hZ.2.1 s' args hW0 w h1
  have hown' : s'.vm.findClass M.1.cls = some m.cls := by rw [hvm]; exact hown
  have hins : (Cond.instantiable cls 6).before args s' = true := hall _ (by simp [Bundle.ownAtoms0])
  obtain ⟨vm₁, cX, kX, hfX, hkX, -, -, X₁, st1⟩ := Y.newCold hx (own := M.1.cls) (C := cls) (index := ik) (n := 6) hown' (mw_words hts hW0 hk) hins (mw_words hts hW0 hini)
    (g := F0 m pc ls st) rfl (by rw [hb]; exact d0) (Nat.le_refl _) (Nat.le_refl _)
  generalize hT1 : (T.setVm vm₁).pushCell { cls := cX, slots := kX.instanceTypes.map defaultValue, vm := .none } = T1 at X₁ st1
  have hcellA : T1.heap[T.heap.size]? = some (freshCell cX kX) := by rw [← hT1]; exact State.heap_pushCell_size _ _
  have hcat : (Value.ref T.heap.size).category = 1 := rfl
  have d3' : decode c.code (pc + 3) = .ok (.dup, 1) := by rw [hb]; exact d3
  have hrm := lv_room (m := m) (pc := pc) (ls := ls) (rest := st) hst
  obtain ⟨U, hsteps, hrun, hend, hW, hsame, ce, hce, hO⟩ := X₁.ctorThrow0 hx htr (own := M.1.cls) (cls := cls) (names := names) (ic := ic) hown' hcls hnames hall (fun x hx => nomatch hx) hfX hkX hcellA (by rw [hhp]; exact Nat.le_refl _)
    (g := { method := m, pc := pc + 4, locals := ls, stack := .ref T.heap.size :: .ref T.heap.size :: st, locked := none }) rfl (hl.1.trans hml.symm) rfl rfl (rest := st) rfl
    (by rw [hb]; exact d4) (by rw [hb]; exact d7) (by rw [htab]; exact hout) (by show names.length + 3 < d; omega)
    (by
      have hrm' : 2 * JFrame.monitorRoom { method := m, pc := pc + 4, locals := ls, stack := .ref T.heap.size :: .ref T.heap.size :: st, locked := none } + (st.map fun v => v.category).sum ≤ 8 := hrm
      show _ ≤ 33 * d
      simp only [List.map_cons, List.sum_cons, hcat, hn9]
      omega) hlk
  obtain ⟨f1, f2, f3⟩ := mw_old hsame
  rw [hhp] at f1 f2 f3
  have hz : U.heap.size = T.heap.size + 1 := by
    have h1 : T.heap.size < U.heap.size := (Array.getElem?_eq_some_iff.mp hce).1
    have h2 : U.heap.size ≤ T.heap.size + (0 + 1) := f2
    omega
  have hWs : s.WarmedH U.vm := State.WarmedH.trans hW0 hW
  have hcl : s.vm.findClass cls = some ce.cls := by
    have h9 := hO.cls
    rw [hvm] at h9
    exact h9
  have hsz := hR.1
  have hRU : mw_R E (h.1 + 1, va_up h.2 h.1 (.inl (cx, fun _ => .null))) U.heap := by
    refine hR.push _ hz f3 ⟨_, hcx, ce, ?_, ?_, hO.vm, fun k hk => absurd hk (Nat.not_lt_zero k)⟩
    · rw [← hsz]; exact hce
    · exact Option.some.inj (hcl.symm.trans (hK.1 cx _ hcx).2.1)
  have hfr : s.sameButNew ({ U with vm := s.vm } : State) locs mc ms := by
    subst hs'
    obtain ⟨e1, e2⟩ := hsame
    rw [State.setFrames_setFrames] at e1
    have h2 : (T.setVm s.vm).sameButNew ({ U with vm := s.vm } : State) [] (0 + 1) (0 + 6) := ⟨e1, e2⟩
    have h3 := X0.same.trans h2
    rw [List.append_nil] at h3
    exact h3.mono (by omega) (by omega)
  refine ⟨U, ?_, .threw T.heap.size, hrun, hend, ⟨_, hRU, Or.inr ⟨h.1, by rw [hsz], hx9⟩⟩, locs, hWs, hfr, hlocs⟩
  refine st1 _ ?_
  show Steps p.tables e below (T1.setTop { method := m, pc := pc + 3, locals := ls, stack := .ref T.heap.size :: st, locked := none }) _
  jvm_step X₁.here [X₁.here.top, hx, d3']
  exact ⟨hcat, hsteps⟩
end MwThrow2
