/-! THE CLAIM OUT OF ONE WALK OF THE LAW'S BODY. Your part is whole_start (and what it stands on); all else here is the same for every law, but numbers. -/
def R_law : String := "OrderBenchLaw"
def lw_P (b : Addr) (xs : List Int32) (args : Array Value) (s : State) : Prop := args = #[.ref b] ∧ s.IntsAt b xs ∧ xs.length ≤ 2048 ∧ (Jvm.Cond.and given_1 narrow_1).before args s = true
def lw_Q (_ : Array Value) (s : State) (o : Outcome) (t : State) : Prop := o = .returned (some (.int 1)) ∧ Framed s o t [] 601024 7293034
theorem lw_in {i : Nat} {w : Cond} (h : tables_1[i]? = some w) : w ∈ lw_tbl := List.mem_append_right _ (List.mem_of_getElem? h)
set_option maxRecDepth 100000 in
/-- the classes and the words, at the entry -/
theorem lw_E {l : Launch} {s : State} {b L : Nat} {xs : Nat → Int32} (hts : ∀ w ∈ lw_tbl, w.before #[Value.ref b] s = true) (hgv : (Jvm.Cond.and given_1 narrow_1).before #[Value.ref b] s = true) (hX : va_X b L xs s s.heap) : ∃ (D : va_G) (T : Nat → ClassId), mw_K (l, D, T, s.heap.size, s.heap, b, L, xs) s ∧ mw_Z (l, D, T, s.heap.size, s.heap, b, L, xs) s := by
  have hmt : ∀ w ∈ mw_tb, w.before #[Value.ref b] s = true := fun w hw => hts w (List.mem_filter.mp hw).1
  have hfl := flat_of_before _ hgv
  obtain ⟨c0, i0, k0⟩ := u_known hmt uw_ps (hmt _ tb_23)
  obtain ⟨c1, i1, k1⟩ := u_known hmt uw_ob (hmt _ tb_14)
  obtain ⟨c2, i2, k2⟩ := u_known hmt uw_md (hmt _ tb_372)
  obtain ⟨c3, i3, k3⟩ := u_known (C := "java/util/NoSuchElementException") (T := T_no) (N := 0) hmt (fun w hw => nomatch hw) (hmt _ tb_251)
  obtain ⟨c4, i4, k4⟩ := u_known (C := "java/lang/IllegalArgumentException") (T := T_no) (N := 0) hmt (fun w hw => nomatch hw) (hmt _ tb_176)
  obtain ⟨c5, i5, k5⟩ := u_known (C := "java/lang/IllegalStateException") (T := T_no) (N := 0) hmt (fun w hw => nomatch hw) (hmt _ tb_306)
  obtain ⟨t0, a0, b0⟩ := ka_p (hmt _ tb_66) (fun C h => nomatch h)
  obtain ⟨t1, a1, b1⟩ := ka_p (hmt _ tb_404) (fun C h => nomatch h)
  have hA : (Cond.arrayOver (.array .boolean)).before #[Value.ref b] s = true := hts _ (lw_in (i := 378) (by decide +kernel))
  have hP : (Cond.arrayOver (.object "OrderBench$PlaceSet")).before #[Value.ref b] s = true := hts _ (lw_in (i := 22) (by decide +kernel))
  obtain ⟨t2, a2, b2⟩ := ka_a hA
  obtain ⟨comp, t3, kA, p1, p2, p3, p4, p5⟩ := Cond.arrayOver_spec hP
  obtain ⟨t4, a4, b4⟩ := ka_p (hmt _ tb_507) (fun C h => nomatch h)
  refine ⟨(fun c => match c with | 0 => c0 | 1 => c1 | 2 => c2 | 3 => c3 | 4 => c4 | _ => c5, fun c => match c with | 0 => i0 | 1 => i1 | 2 => i2 | 3 => i3 | 4 => i4 | _ => i5), fun k => match k with | 0 => t0 | 1 => t1 | 2 => t2 | 3 => t3 | _ => t4, ⟨fun c q hq => ?_, fun k q hq => ?_⟩, ?_, ?_, hX⟩
  · match c, hq with
    | 0, hq => cases hq; exact k0
    | 1, hq => cases hq; exact k1
    | 2, hq => cases hq; exact k2
    | 3, hq => cases hq; exact k3
    | 4, hq => cases hq; exact k4
    | 5, hq => cases hq; exact k5
    | _ + 6, hq => exact nomatch hq
  · match k, hq with
    | 0, hq => cases hq; exact ⟨a0, b0⟩
    | 1, hq => cases hq; exact ⟨a1, b1⟩
    | 2, hq => cases hq; exact ⟨a2, b2⟩
    | 3, hq =>
      cases hq
      exact ⟨fun n z => ⟨(fun q hq => nomatch hq), kA, p3, comp, p4⟩, kA, comp, p3, p4, p1, p5⟩
    | 4, hq => cases hq; exact ⟨a4, b4⟩
    | _ + 5, hq => exact nomatch hq
  · intro s' args hW hH w hw
    have z1 := wz_s (args := #[Value.ref b]) (args' := args) rfl hW hH (C := Bundle.tN) (n := "UNASSIGNED_STACK") (d := Bundle.steD) (hts _ (lw_in (i := 202) (by decide +kernel)))
    have z2 := wz_s (args := #[Value.ref b]) (args' := args) rfl hW hH (C := Bundle.tN) (n := "SUPPRESSED_SENTINEL") (d := Bundle.listD) (hts _ (lw_in (i := 204) (by decide +kernel)))
    simp only [mw_zw, List.mem_cons, List.not_mem_nil, or_false] at hw
    rcases hw with rfl | rfl | rfl | rfl
    · exact z1.2 (hfl _ (by decide +kernel))
    · exact z2.2 (hfl _ (by decide +kernel))
    · exact z1.1
    · exact z2.1
  · intro s' args hW w hw
    simp only [mw_xw, List.mem_cons, List.not_mem_nil, or_false] at hw
    rcases hw with rfl | rfl | rfl | rfl | rfl | rfl | rfl | rfl | rfl | rfl
    · exact wz_m hW (hts _ (lw_in (i := 24) (by decide +kernel)))
    · exact wz_a hW hP
    · exact wz_a hW hA
    · exact wz_c hW (hts _ (lw_in (i := 177) (by decide +kernel)))
    · exact wz_c hW (hts _ (lw_in (i := 252) (by decide +kernel)))
    · exact wz_c hW (hts _ (lw_in (i := 307) (by decide +kernel)))
    · exact wz_n hW (hfl _ (by decide +kernel))
    · exact wz_d hW (hts _ (lw_in (i := 178) (by decide +kernel)))
    · exact wz_d hW (hts _ (lw_in (i := 180) (by decide +kernel)))
    · exact wz_d hW (hts _ (lw_in (i := 182) (by decide +kernel)))
set_option maxHeartbeats 4000000 in
theorem lw_walk (l : Launch) (hl9 : l.stackTraces = false) (b : Addr) (xs : List Int32) : MetFree l x (headSpec (Jvm.Cond.code x code maxLocals ret :: tables_1) room_1) (lw_P b xs) (fun _ _ _ _ _ => True) lw_Q := by
  refine MetFree.of_bodyS (code := code) (maxLocals := maxLocals) (ret := ret) (by decide) ?_ ?_
  · intro args s m h hn
    obtain ⟨meth, c, h1, h2, h3, h4, h5, h6, -, -⟩ := Cond.code_spec hn (atoms_spec (ws := Jvm.Cond.code x code maxLocals ret :: tables_1) h _ List.mem_cons_self)
    exact ⟨meth, c, h1, h2, h3, h4, h5, h6⟩
  · intro p e s m args below meth c s₁ B hml0 hP _
    obtain ⟨rfl, hx, hbd, hgv⟩ := hP
    obtain ⟨scr, harrAt, hlist, hof, hsmall⟩ := hx
    obtain ⟨hcb, hkn, -, -⟩ := State.arrayAt?_spec harrAt
    have hown : s.vm.findClass R_law = some m.cls := findClass_of_methodNamed B.named
    have hts0 : ∀ c ∈ (Jvm.Cond.code x code maxLocals ret :: tables_1), c.before #[Value.ref b] s = true := atoms_spec (ws := Jvm.Cond.code x code maxLocals ret :: tables_1) B.pre
    have hts : ∀ w ∈ lw_tbl, w.before #[Value.ref b] s = true := k2_hts_sels lw_privs (fun w hw => hts0 w (List.mem_cons_of_mem _ hw)) lw_privs_ok
    have hml : c.maxLocals = 7 := B.maxLocals_eq (hts0 _ List.mem_cons_self)
    have X₀ : Stand p l e room_1 s m #[Value.ref b] below meth c s₁ [] 0 0 := Stand.of_body B
    have hh0 : s₁.heap = s.heap := by rw [B.state]; rfl
    have hsz : scr.slots.size = xs.length := by rw [← Array.length_toList, hlist, List.length_map]
    have hval : ∀ j : Nat, j < xs.length → scr.slots[j]? = some (.int (xs.getD j 0)) := fun j hj => by
      rw [← Array.getElem?_toList, hlist]
      simp [hj]
    have hbl : b < s.heap.size := (Array.getElem?_eq_some_iff.mp hcb).1
    have hX : va_X b xs.length (fun j => xs.getD j 0) s s.heap := ⟨scr, hcb, hof, hkn, hsz, hval⟩
    obtain ⟨D, T, hK, hZ⟩ := lw_E (l := l) hts hgv hX
    have hE : lw_sL (l, D, T, s.heap.size, s.heap, b, xs.length, fun j => xs.getD j 0) = xs.length := rfl
    obtain ⟨meth', c', g1, g2, -, -, -, -, hT, -⟩ := mw_code_spec (M := m_lw_law) B.named (hts0 _ List.mem_cons_self)
    cases B.method.symm.trans g1
    cases X₀.code.symm.trans g2
    have hl := lv_entry ([Value.ref b] : List Value) (n := 7) (Nat.le_of_ble_eq_true rfl)
    have w := ct_law (E := (l, D, T, s.heap.size, s.heap, b, xs.length, fun j => xs.getD j 0)) (d := 11) (z := fun _ => ob_e 0) (by decide) hbl (by show xs.length < _; omega) p e s m #[Value.ref b] below meth c s.heap [] 0 0 (498 + xs.length) (30627 + 6 * xs.length) _ ⟨B.exec, B.bytes, B.returns, hml, hown, fun w hw => hts w (List.mem_filter.mp hw).1, hK, hZ, B.notSynchronized, hT, (name_of_methodNamed B.named B.method).1, hl9⟩ ⟨rfl, fun q _ => rfl, fun k hk => absurd hk (Nat.not_lt_zero k)⟩ (fun q hq => nomatch hq) (mw_lv.entry hl) (by rw [hE]; omega) (by rw [hE]; omega)
    have X1 : Stand p l e (mw_rm 11 (498 + xs.length) (30627 + 6 * xs.length)) s m #[Value.ref b] below meth c s₁ [] 0 0 := { X₀ with room := hr_le X₀.room (Nat.le_refl 11) (show 498 + xs.length ≤ 601024 by omega) (show 30627 + 6 * xs.length ≤ 7293034 by omega) (show 33 * 11 ≤ 380 by decide) }
    obtain ⟨t, a1, o, b1, b2, ⟨h9, -, hQ⟩, L9, hW9, hs9, hL9⟩ := w s₁ hh0 X1
    rcases hQ with ⟨v, rfl, hv⟩ | ⟨k, -, hk⟩
    · have hv2 : v = some (.int 1) := hv
      subst hv2
      refine ⟨t, _, ?_, b1, b2, rfl, ⟨_, rfl⟩, hW9, hs9.weaken (fun y hy hlt => absurd hlt (Nat.not_lt.mpr (hL9 y hy))) (by omega) (by omega)⟩
      have e9 := lg_entry_eq m ([Value.ref b] : List Value) 7
      rw [show maxLocals = 7 from rfl]
      rw [show (#[Value.ref b] : Array Value) = ([Value.ref b] : List Value).toArray from rfl, e9]
      exact a1
    · exact hk.elim
theorem lw_pre_spec {args : Array Value} {s : State} (h : (Jvm.Cond.and given_1 narrow_1).before args s = true) (hr : rest_1_c.before args s = true) : ∃ (b : Addr) (xs : List Int32), lw_P b xs args s := by
  have hs := flat_of_before _ h
  have hq := flat_of_before _ hr
  have hc : (Cond.count 1).before args s = true := hs _ (by decide +kernel)
  have harr : (Cond.arrayOf (.arg 0) .int).before args s = true := hs _ (by decide +kernel)
  have hle : (Cond.le (.length (.arg 0)) (.int 2048)).before args s = true := hs _ (by decide +kernel)
  have hlen : (Cond.isInt (.length (.arg 0))).before args s = true := hq _ (by decide +kernel)
  have hall : (Cond.all (.arg 0) (.isInt (.elem (.arg 0) (.index 0)))).before args s = true := hq _ (by decide +kernel)
  obtain ⟨b, xs, hb, hx⟩ := State.ints_of_pre rfl harr hlen hall
  have hsm : xs.length < 2 ^ 31 := hx.choose_spec.2.2.2
  have hev : (Term.length (.arg 0)).eval args s none [] s = some (.int xs.length.toInt32) := hx.length_eval hb
  have hv := Cond.le_ints hev (show (Term.int 2048).eval args s none [] s = some (.int 2048) from rfl)
  have hd : xs.length.toInt32 ≤ 2048 := by
    simpa [Cond.before, Cond.holds, hv] using hle
  have hN : xs.length ≤ 2048 := (Int32.ofNat_le_ofNat hsm (by decide)).mp (show Int32.ofNat xs.length ≤ Int32.ofNat 2048 from hd)
  exact ⟨b, xs, Cond.one_arg hc (show args[0]? = some (.ref b) from hb), hx, hN, h⟩
theorem lw_comes (l : Launch) (hl9 : l.stackTraces = false) : Comes l x (Jvm.Cond.code x code maxLocals ret :: tables_1) room_1 (fun tb e args s => Calls_1 tb e args s ∧ rest_1 tb e args s ∧ Pre_1 tb e args s)
    (fun _ _ args s o t => lw_Q args s o t) := by
  intro p e ha hc hk s m args below hf hfit hheap happ hpre
  obtain ⟨b, xs, hP⟩ := lw_pre_spec hpre.2.2 hpre.2.1
  obtain ⟨k, o, h1, h2, h3, hQ⟩ := lw_walk l hl9 b xs p e ha hc hk s m args below hf ((Spec.applies_iff_loose hf).mp happ).1 hP trivial
  exact ⟨k, o, h1, h2, h3, hQ⟩
theorem lw_frame {s t : State} {o : Outcome} {args : Array Value} (h : Framed s o t [] 601024 7293034) :
    Framed s o t (fieldLocs frame_1_writes args s ++ arrayLocs frame_1_arrays args s ++ staticLocs frame_1_statics s) 601024 7293034 := h
theorem lw_limb (L : Cond) (hL : ∀ (args : Array Value) (s t : State), L.after args s (.returned (some (.int 1))) t = true) :
    ArmFor flags0 classFile x code maxLocals ret World_1 tables_1 room_1 Calls_1 rest_1 Pre_1
      (fun tb e a s o t => postC L tb e a s o t ∧ Framed s o t (fieldLocs frame_1_writes a s ++ arrayLocs frame_1_arrays a s ++ staticLocs frame_1_statics s) 601024 7293034) := by
  intro l hfl _ _ p e ha hc hk s m args below hf hfit hheap happ hpre
  have hl9 : l.stackTraces = false := by
    unfold Launch.stackTraces
    rw [hfl]
    decide +kernel
  obtain ⟨k, o, h1, h2, h3, rfl, hF⟩ := lw_comes l hl9 p e ha hc hk s m args below hf hfit hheap happ hpre
  exact ⟨k, _, h1, h2, h3, hL args s _, lw_frame hF⟩
theorem i_vc : Claimed_1_1 ∧ Claimed_1_2 := ⟨lw_limb limb_1_1 (fun args s t => by simp [limb_1_1, Cond.after, Cond.holds, Cond.value]), lw_limb limb_1_2 (fun args s t => Cond.after_iff.mpr (by
  first | (rw [show limb_1_2 = Cond.eq .result (.int 1) from rfl, Cond.eq_ints (x := 1) (y := 1) rfl rfl]; simp; done) | (simp [limb_1_2, Cond.value, Term.eval]; done)))⟩
