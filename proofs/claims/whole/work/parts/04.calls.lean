/-! Calls: a method's contract at a caller's point; both ends. -/
section MwCalls
variable {E : mw_E} {M M' : mw_M} {d d' bc' bs' mc ms : Nat} {av : List Value} {h : mw_H} {Q' : Option Value → mw_H → Prop} {X' : Nat → mw_H → Prop}
variable {p : Program} {e : Env} {s : State} {m : MethodId} {args : Array Value} {below : List Frame} {meth : Method} {c : Code} {T : State} {locs : List Loc} {cells slots : Nat}
/-- what comes behind a call: back with v, or with the note that an object is under way -/
def mw_aft (E : mw_E) (p : Program) (e : Env) (below : List Frame) (Q' : Option Value → mw_H → Prop) (X' : Nat → mw_H → Prop) (h' : mw_H) (S0 T' : State) (g : JFrame) (len : Nat) : Prop :=
  (∃ v, Q' v h' ∧ Steps p.tables e below S0 (T'.setTop { g with pc := g.pc + len, stack := v.toList ++ g.stack })) ∨ (∃ k, X' k h' ∧ Steps p.tables e below S0 ((T'.setTop g).pushFrame (.throwing (mw_b E + k))))
set_option maxHeartbeats 2000000 in
theorem mw_back (hM : MetFree E.1 M'.1 (headSpec (mw_code M' :: mw_tb) (mw_rm d' bc' bs')) (fun a U => a = av.toArray ∧ mw_R E h U.heap ∧ mw_K E U ∧ mw_Z E U) (fun _ _ _ _ _ => True) (fun _ st o t => mw_Q E Q' X' o t ∧ mw_F E st t bc' bs'))
    (X : Stand p E.1 e (mw_rm d mc ms) s m args below meth c T locs cells slots) (hts : ∀ w ∈ mw_tb, w.before args s = true) (hK : mw_K E s) (hZ : mw_Z E s) (hR : mw_R E h T.heap)
    (hcw : mw_code M' ∈ mw_tb) (hini : Cond.initialized M'.1.cls ∈ mw_tb) (hd : d' + 1 ≤ d) (hL : M'.2.2.1 ≤ 14) (hc : cells + bc' ≤ mc) (hs : slots + bs' ≤ ms)
    {g : JFrame} {ig : Instr} {len : Nat} (hg : g.method = m) (hsize : g.locals.size = c.maxLocals) (hdg : decode c.code g.pc = .ok (ig, len)) (hW : 2 * g.monitorRoom + (g.stack.map fun v => v.category).sum ≤ 8) {mk : MethodId} (hn : T.methodNamed? M'.1 = some mk) :
    ∃ (h' : mw_H) (T' : State) (L : List Loc), Stand p E.1 e (mw_rm d mc ms) s m args below meth c T' (locs ++ L) (cells + bc') (slots + bs') ∧ (∀ q ∈ L, mw_b E ≤ q.base) ∧ mw_R E h' T'.heap ∧ mw_aft E p e below Q' X' h' (doInvoke e (T.setTop g) [] mk av.toArray).1 T' g len := by
  obtain ⟨methY, cY, hmY, hcY, -, hlY, -, -, -, -⟩ := mw_code_spec (args := args) hn (mw_words hts X.warmed hcw)
  obtain ⟨kY, hkY, -⟩ := className_of_methodNamed hn
  have hinitY : kY.init = .initialized := Cond.initialized_spec (args := args) (findClass_of_methodNamed hn) hkY (mw_words hts X.warmed hini)
  have hAt : At T g.method c below := by rw [hg]; exact X.here
  have hpre : (headSpec (mw_code M' :: mw_tb) (mw_rm d' bc' bs')).pre.before av.toArray T = true := atoms_intro (fun w hw => by
    rcases List.mem_cons.mp hw with rfl | hw
    · exact mw_words hts X.warmed hcw
    · exact mw_words hts X.warmed hw)
  have happ : (headSpec (mw_code M' :: mw_tb) (mw_rm d' bc' bs')).appliesLoose M'.1 e.platform (T.calling g mk av.toArray) = true :=
    Spec.appliesLoose_calling (g := g) hAt hdg hn hkY hinitY
      (X.room_calling (g := g) (R' := mw_rm d' bc' bs') hsize hmY hcY hd (by rw [hlY]; show _ + (M'.2.2.1 + 11) + 33 * d' ≤ 33 * d; omega) hc hs) hpre
  obtain ⟨mid, hmid⟩ := hAt.above
  have hfr : (T.setTop g).frames = (.java g :: mid) ++ below := by rw [State.frames_setTop' g hAt.top, hmid]; rfl
  obtain ⟨o, s₂, hsteps, -, hend, hq⟩ := Steps.callFree hM p X.admits X.cas X.clock (acts := []) hfr happ ⟨rfl, hR, hK.moved X.warmed.alike, hZ.moved X.warmed⟩ trivial
  rw [State.frames_setTop' g hAt.top] at hend
  obtain ⟨⟨h', hR', ho⟩, L, hW₂, hsb, hL9⟩ := hq
  obtain ⟨e2, q2, q3, q4, q5, q6⟩ := hsb
  have hW' : T.WarmedH s₂.vm := hW₂
  have e3 : s₂ = ({ (T.calling g mk av.toArray).setFrames s₂.frames with heap := s₂.heap, slotsUsed := s₂.slotsUsed } : State).setVm s₂.vm := by
    have : s₂ = ({ s₂ with vm := (T.calling g mk av.toArray).vm } : State).setVm s₂.vm := rfl
    rw [show ({ s₂ with vm := (T.calling g mk av.toArray).vm } : State) = _ from e2] at this
    exact this
  obtain ⟨g₀, hg0⟩ := Option.isSome_iff_exists.mp hAt.top
  obtain ⟨r, hr⟩ := State.topJava?_eq_some.mp hg0
  have hr' : (({ T with heap := s₂.heap, slotsUsed := s₂.slotsUsed } : State).setVm s₂.vm).frames = .java g₀ :: r := hr
  have hsame : T.sameButNew ({ T with heap := s₂.heap, slotsUsed := s₂.slotsUsed } : State) L bc' bs' := by
    refine ⟨?_, q2, q3, q4, q5, q6⟩
    obtain ⟨t, ht, -⟩ := State.frames_cons hr
    show ({ T with heap := s₂.heap, slotsUsed := s₂.slotsUsed } : State) = { T.setFrames T.frames with heap := s₂.heap, slotsUsed := s₂.slotsUsed }
    rw [State.setFrames_self ht]
  refine ⟨h', ({ T with heap := s₂.heap, slotsUsed := s₂.slotsUsed } : State).setVm s₂.vm, L,
    ⟨X.admits, X.cas, X.clock, X.frames, X.room, X.hears, X.method, X.code, (X.here.setHeapUsed s₂.heap s₂.slotsUsed).setVm hW'.alike, X.tail, State.WarmedH.trans X.warmed hW', X.limits, X.bytes, X.same.trans (hsame.setVm s.vm)⟩, hL9, hR', ?_⟩
  rcases ho with ⟨v, rfl, hQ⟩ | ⟨k, rfl, hX⟩
  · refine Or.inl ⟨v, hQ, ?_⟩
    obtain ⟨c₂, i₂, len₂, hc₂, hd₂, hf₂⟩ := hend
    have hcc : c₂ = c := by
      have h1 : s₂.code? g.method = T.code? g.method := by
        rw [State.code?_eq, State.code?_eq, hW'.alike.method?]
      exact Option.some.inj (hc₂.symm.trans (h1.trans hAt.code))
    subst hcc
    have hlen : len₂ = len := by rw [hdg] at hd₂; cases hd₂; rfl
    subst hlen
    have hs₂ : s₂ = (({ T with heap := s₂.heap, slotsUsed := s₂.slotsUsed } : State).setVm s₂.vm).setTop { g with pc := g.pc + len₂, stack := v.toList ++ g.stack } := by
      refine e3.trans ?_
      rw [hf₂, State.calling_eq hAt.top, State.setFrames_setFrames, State.setTop_of_frames _ hr', hr]
      rfl
    rw [← hs₂]
    exact hsteps
  · refine Or.inr ⟨k, hX, ?_⟩
    have hf₂ : s₂.frames = .throwing (mw_b E + k) :: .java g :: T.frames.tail := hend
    have hs₂ : s₂ = ((({ T with heap := s₂.heap, slotsUsed := s₂.slotsUsed } : State).setVm s₂.vm).setTop g).pushFrame (.throwing (mw_b E + k)) := by
      refine e3.trans ?_
      rw [hf₂, State.calling_eq hAt.top, State.setFrames_setFrames, State.pushFrame, State.frames_setTop _ hr', State.setTop_of_frames _ hr', State.setFrames_setFrames, hr]
      rfl
    rw [← hs₂]
    exact hsteps
/-- the callee's side of a call, as the tables have it -/
def mw_cal (M' : mw_M) (n : Nat) : Prop := mw_code M' ∈ mw_tb ∧ Cond.initialized M'.1.cls ∈ mw_tb ∧ M'.2.2.1 ≤ 14 ∧ plainFor M'.1 = true ∧ (M'.1.cls ≠ "java/lang/invoke/MethodHandle" ∧ M'.1.cls ≠ "java/lang/invoke/VarHandle") ∧ (parseMethodDescriptor M'.1.desc).map (fun d => d.parameters.length) = some n
theorem mw_cal_len {n : Nat} (hw : mw_cal M' n) {sg : MethodDescriptor} (hp : parseMethodDescriptor M'.1.desc = some sg) : n = sg.parameters.length := by
  have h2 := hw.2.2.2.2.2
  rw [hp] at h2
  exact (Option.some.inj h2).symm
variable {Q : Option Value → mw_H → Prop} {X : Nat → mw_H → Prop} {bc bs pc idx : Nat} {lo : List (Option Value)} {st As : List Value}
/-- the joint end of all kinds of calls -/
theorem mw_join {p : Program} {e : Env} {s : State} {m : MethodId} {args : Array Value} {below : List Frame} {meth : Method} {c : Code} {locs : List Loc} {cells slots mc ms : Nat} {ls : Array Slot}
    (C : mw_C E M p s m args meth c) (hlocs : ∀ q ∈ locs, mw_b E ≤ q.base) (hl : mw_lv ls M.2.2.1 lo) (hc : cells + bc ≤ mc) (hs : slots + bs ≤ ms) (hbc : bc' ≤ bc) (hbs : bs' ≤ bs)
    {T1 : State} {mk : MethodId}
    (hb : ∃ (h' : mw_H) (T' : State) (L : List Loc), Stand p E.1 e (mw_rm d mc ms) s m args below meth c T' (locs ++ L) (cells + bc') (slots + bs') ∧ (∀ q ∈ L, mw_b E ≤ q.base) ∧ mw_R E h' T'.heap ∧ mw_aft E p e below Q' X' h' (doInvoke e (T1.setTop (F0 m pc ls st)) [] mk av.toArray).1 T' (F0 m pc ls st) 3)
    (kr : ∀ v h', Q' v h' → mw_W E M d Q X (bc - bc') (bs - bs') (pc + 3) lo (v.toList ++ st) h') (kx : ∀ k h', X' k h' → mw_T E M d Q X (bc - bc') (bs - bs') pc lo k h') :
    ∃ t, Steps p.tables e below (doInvoke e (T1.setTop (F0 m pc ls st)) [] mk av.toArray).1 t ∧ mw_end E Q X below s mc ms t := by
  obtain ⟨h', T', L, X1, hL, hR', ha⟩ := hb
  have hlocs' : ∀ q ∈ locs ++ L, mw_b E ≤ q.base := fun q hq => by
    rcases List.mem_append.mp hq with h1 | h1
    · exact hlocs q h1
    · exact hL q h1
  rcases ha with ⟨v, hQ, st1⟩ | ⟨k, hX, st1⟩
  · obtain ⟨t, a1, b1⟩ := kr v h' hQ p e s m args below meth c T'.heap (locs ++ L) (cells + bc') (slots + bs') mc ms ls C hR' hlocs' hl (by omega) (by omega) T' rfl X1
    exact ⟨t, st1.trans a1, b1⟩
  · obtain ⟨t, a1, b1⟩ := kx k h' hX p e s m args below meth c (locs ++ L) (cells + bc') (slots + bs') mc ms ls st T' C hR' hlocs' hl (by omega) (by omega) X1
    exact ⟨t, st1.trans a1, b1⟩
def mw_lkS (M M' : mw_M) (idx n : Nat) : Prop := mw_cal M' n ∧ Cond.methodLink M.1.cls idx M'.1 ∈ mw_tb ∧ Cond.static M'.1 ∈ mw_tb
set_option maxHeartbeats 2000000 in
theorem mw_callS {n : Nat} (hw : mw_lkS M M' idx n) (hd : decode M.2.1 pc = .ok (.invokestatic idx, 3)) (hn : As.length = n) (hsl : (lg_sl As).length ≤ M'.2.2.1) (hC : mw_Ct E M' d' bc' bs' As h Q' X') (hdd : d' + 1 ≤ d) (hst : (st.map fun v => v.category).sum ≤ 8) (hbc : bc' ≤ bc) (hbs : bs' ≤ bs)
    (kr : ∀ v h', Q' v h' → mw_W E M d Q X (bc - bc') (bs - bs') (pc + 3) lo (v.toList ++ st) h') (kx : ∀ k h', X' k h' → mw_T E M d Q X (bc - bc') (bs - bs') pc lo k h') :
    mw_W E M d Q X bc bs pc lo (As.reverse ++ st) h := by
  intro p e s m args below meth c H locs cells slots mc ms ls C hR hlocs hl hc hs T hT X0
  subst hT
  have C0 := C
  obtain ⟨hx, hb, hr, hml, hown, hts, hK, hZ, hlk, htab, hnm, hl9⟩ := C
  obtain ⟨hcal, hlink, hstat⟩ := hw
  obtain ⟨mk, hnamed⟩ := mw_code_named (hts _ hcal.1)
  obtain ⟨methM, cM, hmethM, -, -, -, -, -, -, hsigM⟩ := mw_code_spec hnamed (hts _ hcal.1)
  have hstatic : methM.isStatic = true := Cond.static_spec hnamed hmethM (hts _ hstat)
  obtain ⟨kP, hkP, -⟩ := className_of_methodNamed hnamed
  have hinitP : kP.init = .initialized := Cond.initialized_spec (findClass_of_methodNamed hnamed) hkP (hts _ hcal.2.1)
  obtain ⟨vm₁, X₁, hstep₁⟩ := X0.invokestatic hx hown (hts _ hlink) hnamed hmethM hstatic hkP hinitP hcal.2.2.2.2.1 (g := F0 m pc ls (As.reverse ++ st)) rfl (argsL := As) (rest := st) (hn.trans (mw_cal_len hcal hsigM)) rfl (by rw [hb]; exact hd)
  have hM := mw_met hl9 hC hcal.2.2.2.1 hsl
  have hB := mw_back hM X₁ hts hK hZ (by exact hR) hcal.1 hcal.2.1 hdd hcal.2.2.1 (Nat.le_trans (Nat.add_le_add_left hbc _) hc) (Nat.le_trans (Nat.add_le_add_left hbs _) hs) (g := F0 m pc ls st) rfl (hl.1.trans hml.symm) (by rw [hb]; exact hd) (lv_room hst) (X₁.named hnamed)
  obtain ⟨t, a1, b1⟩ := mw_join C0 hlocs hl hc hs hbc hbs hB kr kx
  exact ⟨t, hstep₁ _ (fun acts => by rw [doInvoke_state]; exact a1), b1⟩
def mw_lkV (M M' : mw_M) (idx n ci : Nat) : Prop := mw_cal M' n ∧ Cond.methodLink M.1.cls idx M'.1 ∈ mw_tb ∧ Cond.instanceMethod M'.1 ∈ mw_tb ∧ (∃ r : vw_C, mw_cl[ci]? = some r ∧ Cond.selects r.1 M'.1 M'.1 ∈ mw_tb)
theorem mw_recv {E : mw_E} {s : State} {h : mw_H} {H : Heap} {a ci : Nat} {f : Nat → Value} (hK : mw_K E s) (hR : mw_R E h H) (ha : a < h.1) (ho : h.2 a = .inl (ci, f)) {r : vw_C} (hr : mw_cl[ci]? = some r) : ∃ cell : Cell, H[mw_b E + a]? = some cell ∧ cell.vm.isStatics = false ∧ s.vm.findClass r.1 = some cell.cls := by
  have h1 := hR.2.2 a ha
  rw [ho] at h1
  obtain ⟨r', h2, cell, g1, g2, g3, -⟩ := h1
  cases hr.symm.trans h2
  exact ⟨cell, g1, by rw [g3]; rfl, by rw [g2]; exact (hK.1 ci r hr).2.1⟩
set_option maxHeartbeats 2000000 in
theorem mw_callV {n ci a : Nat} {f : Nat → Value} (hw : mw_lkV M M' idx n ci) (hd : decode M.2.1 pc = .ok (.invokevirtual idx, 3)) (ha : a < h.1) (ho : h.2 a = .inl (ci, f)) (hn : As.length = n) (hsl : (lg_sl (.ref (mw_b E + a) :: As)).length ≤ M'.2.2.1) (hC : mw_Ct E M' d' bc' bs' (.ref (mw_b E + a) :: As) h Q' X') (hdd : d' + 1 ≤ d) (hst : (st.map fun v => v.category).sum ≤ 8) (hbc : bc' ≤ bc) (hbs : bs' ≤ bs)
    (kr : ∀ v h', Q' v h' → mw_W E M d Q X (bc - bc') (bs - bs') (pc + 3) lo (v.toList ++ st) h') (kx : ∀ k h', X' k h' → mw_T E M d Q X (bc - bc') (bs - bs') pc lo k h') :
    mw_W E M d Q X bc bs pc lo (As.reverse ++ .ref (mw_b E + a) :: st) h := by
  intro p e s m args below meth c H locs cells slots mc ms ls C hR hlocs hl hc hs T hT X0
  subst hT
  have C0 := C
  obtain ⟨hx, hb, hr, hml, hown, hts, hK, hZ, hlk, htab, hnm, hl9⟩ := C
  obtain ⟨hcal, hlink, hinst, r, hr9, hsel⟩ := hw
  obtain ⟨cellB, hcell, hobj, hcls⟩ := mw_recv hK hR ha ho hr9
  obtain ⟨mk, methM, hnamed, hmethM, hstM, habM⟩ := Cond.instanceMethod_spec (hts _ hinst)
  obtain ⟨methM', cM, hmethM', -, -, -, -, -, -, hsigM⟩ := mw_code_spec hnamed (hts _ hcal.1)
  cases hmethM.symm.trans hmethM'
  obtain ⟨c2, r2, m2, q1, q2, q3, q4, kP, hkP, hkPi⟩ := Cond.selects_spec (hts _ hsel)
  cases hcls.symm.trans q1
  cases (State.methodFound?_of_named hnamed hcal.2.2.2.2.1).symm.trans q2
  cases hnamed.symm.trans q3
  have hselP : selectMethod e.platform s.vm cellB.cls mk = .method mk := by rw [Launch.admits_selectMethod X0.admits]; exact q4
  obtain ⟨vm₁, X₁, hstep₁⟩ := X0.invokevirtual hx hown (hts _ hlink) hnamed hmethM hstM hkP hkPi hcal.2.2.2.2.1 (a := mw_b E + a) (cell := cellB) hcell
    (fun z h => by rw [h] at hobj; cases hobj) hselP hmethM habM hkP hkPi (g := F0 m pc ls (As.reverse ++ .ref (mw_b E + a) :: st)) rfl (argsL := As) (rest := st) (hn.trans (mw_cal_len hcal hsigM)) rfl (by rw [hb]; exact hd)
  have hM := mw_met hl9 hC hcal.2.2.2.1 hsl
  have hB := mw_back hM X₁ hts hK hZ (by exact hR) hcal.1 hcal.2.1 hdd hcal.2.2.1 (Nat.le_trans (Nat.add_le_add_left hbc _) hc) (Nat.le_trans (Nat.add_le_add_left hbs _) hs) (g := F0 m pc ls st) rfl (hl.1.trans hml.symm) (by rw [hb]; exact hd) (lv_room hst) (X₁.named hnamed)
  obtain ⟨t, a1, b1⟩ := mw_join C0 hlocs hl hc hs hbc hbs hB kr kx
  exact ⟨t, hstep₁ _ (fun acts => by rw [doInvoke_state]; exact a1), b1⟩
def mw_lkI (M M' : mw_M) (idx n : Nat) : Prop := mw_cal M' n ∧ M'.1.name = "<init>" ∧ M'.2.2.2.1 = none ∧ M'.2.2.2.2 = [] ∧ Cond.instanceMethod M'.1 ∈ mw_tb ∧ ((Cond.methodLink M.1.cls idx M'.1 ∈ mw_tb) ∨ ∃ host : String, Cond.methodLinkNest M.1.cls idx M'.1 host ∈ mw_xw)
set_option maxHeartbeats 2000000 in
theorem mw_callI {n a : Nat} (hw : mw_lkI M M' idx n) (hd : decode M.2.1 pc = .ok (.invokespecial idx, 3)) (hn : As.length = n) (hsl : (lg_sl (.ref (mw_b E + a) :: As)).length ≤ M'.2.2.1) (hC : mw_Ct E M' d' bc' bs' (.ref (mw_b E + a) :: As) h Q' X') (hdd : d' + 1 ≤ d) (hst : (st.map fun v => v.category).sum ≤ 8) (hbc : bc' ≤ bc) (hbs : bs' ≤ bs)
    (kr : ∀ v h', Q' v h' → mw_W E M d Q X (bc - bc') (bs - bs') (pc + 3) lo (v.toList ++ st) h') (kx : ∀ k h', X' k h' → mw_T E M d Q X (bc - bc') (bs - bs') pc lo k h') :
    mw_W E M d Q X bc bs pc lo (As.reverse ++ .ref (mw_b E + a) :: st) h := by
  intro p e s m args below meth c H locs cells slots mc ms ls C hR hlocs hl hc hs T hT X0
  subst hT
  have C0 := C
  obtain ⟨hx, hb, hr, hml, hown, hts, hK, hZ, hlk, htab, hnm, hl9⟩ := C
  obtain ⟨hcal, hy1, hret, hno, hinst, hlink⟩ := hw
  have hpl : e.platform.magicAccessors = ({} : Platform).magicAccessors := by rw [X0.admits.platform]
  have hcode : (Cond.code M'.1 M'.2.1 M'.2.2.1 none).before args s = true := by
    have h1 := hts _ hcal.1
    unfold mw_code at h1
    rw [if_pos hno, hret] at h1
    exact h1
  have key : ∃ (mk : MethodId) (vm₁ : Vm), s.methodNamed? M'.1 = some mk ∧ s.WarmedH vm₁ ∧ ∀ target, (∀ acts, Steps p.tables e below (doInvoke e ((T.setVm vm₁).setTop (F0 m pc ls st)) acts mk (Value.ref (mw_b E + a) :: As).toArray).1 target) → Steps p.tables e below (T.setTop (F0 m pc ls (As.reverse ++ .ref (mw_b E + a) :: st))) target := by
    rcases hlink with hlink | ⟨host, hlink⟩
    · obtain ⟨mk, methM, cM, kP, vm₁, hnamed, hmethM, hcodeM, -, hlocalsM, -, hkP, -, hW₁, hstep₁⟩ := Steps.initColdArgs (e := e) X0.here hx X0.warmed hpl hown hy1 hcal.2.2.2.2.1 (hts _ hlink) (hts _ hinst) hcode (f := F0 m pc ls (As.reverse ++ .ref (mw_b E + a) :: st)) rfl (fun sg h => hn.trans (mw_cal_len hcal h)) rfl (by rw [hb]; exact hd)
      exact ⟨mk, vm₁, hnamed, hW₁, hstep₁⟩
    · obtain ⟨mk, methM, cM, kP, vm₁, hnamed, hmethM, hcodeM, -, hlocalsM, -, hkP, -, hW₁, hstep₁⟩ := Steps.initColdArgsNest (e := e) X0.here hx X0.warmed hpl hown hy1 hcal.2.2.2.2.1 (hZ.here hlink) (hts _ hinst) hcode (f := F0 m pc ls (As.reverse ++ .ref (mw_b E + a) :: st)) rfl (fun sg h => hn.trans (mw_cal_len hcal h)) rfl (by rw [hb]; exact hd)
      exact ⟨mk, vm₁, hnamed, hW₁, hstep₁⟩
  obtain ⟨mk, vm₁, hnamed, hW₁, hstep₁⟩ := key
  have X₁ := X0.noted hW₁
  have hM := mw_met hl9 hC hcal.2.2.2.1 hsl
  have hB := mw_back hM X₁ hts hK hZ (by exact hR) hcal.1 hcal.2.1 hdd hcal.2.2.1 (Nat.le_trans (Nat.add_le_add_left hbc _) hc) (Nat.le_trans (Nat.add_le_add_left hbs _) hs) (g := F0 m pc ls st) rfl (hl.1.trans hml.symm) (by rw [hb]; exact hd) (lv_room hst) (X₁.named hnamed)
  obtain ⟨t, a1, b1⟩ := mw_join C0 hlocs hl hc hs hbc hbs hB kr kx
  exact ⟨t, hstep₁ _ (fun acts => by rw [doInvoke_state]; exact a1), b1⟩
end MwCalls
