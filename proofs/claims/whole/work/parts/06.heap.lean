/-! The walker's rows that look into the heap. -/
section MwHeap
variable {E : mw_E} {M : mw_M} {d bc bs pc idx ci k a n i : Nat} {Q : Option Value → mw_H → Prop} {X : Nat → mw_H → Prop} {lo : List (Option Value)} {st : List Value} {h : mw_H} {f : Nat → Value} {v : Value} {x : Int32}
def mw_fl (own : String) (idx ci k : Nat) : Prop := ∃ (C : String) (T : u_T) (N : Nat), mw_cl[ci]? = some (C, T, N) ∧ k < N ∧ (∀ w ∈ u_ws C T N, w ∈ mw_tb) ∧ (T k).1 = C ∧ Cond.fieldLink own idx C (T k).2.1 (T k).2.2.1 ∈ mw_tb
theorem mw_getf (hw : mw_fl M.1.cls idx ci k) (hd : decode M.2.1 pc = .ok (.getfield idx, 3)) (ha : a < h.1) (ho : h.2 a = .inl (ci, f)) (hv : f k = v) (kk : mw_W E M d Q X bc bs (pc + 3) lo (v :: st) h) : mw_W E M d Q X bc bs pc lo (.ref (mw_b E + a) :: st) h := by
  intro p e s m args below meth c H locs cells slots mc ms ls C hR hlocs hl hc hs
  have K := kk p e s m args below meth c H locs cells slots mc ms ls C hR hlocs hl hc hs
  obtain ⟨hx, hb, hr9, hml, hown, hts, hK, hZ, hlk, htab, hnm, hl9⟩ := C
  obtain ⟨C9, T9, N9, hc9, hk9, hin, hown9, hlk9⟩ := hw
  have h1 := hR.2.2 a ha
  rw [ho] at h1
  obtain ⟨r, h2, cell, q1, q2, q3, q4⟩ := h1
  cases hc9.symm.trans h2
  obtain ⟨hS, hfc, kC, hkC, hkind⟩ := hK.1 ci _ hc9
  obtain ⟨cf, kf, fi, fd, hi, hsl⟩ := hS k hk9
  refine W.getf hx hb hown (hts _ hlk9) (by rw [← hown9]; exact hi) (u_facts hfc hkC (u_lays hts hin hk9) hi).1 q1 (by rw [q3]; exact fun h => by cases h) (v := v) ?_ rfl rfl hd K
  rw [hsl, q4 k hk9]
  exact congrArg some hv
def mw_fp (own : String) (idx ci k : Nat) (ty : FieldType) (fin : Bool) : Prop := ∃ (C : String) (T : u_T) (N : Nat) (ty0 : Nat → FieldType), mw_cl[ci]? = some (C, T, N) ∧ k < N ∧ (∀ w ∈ u_ws C T N, w ∈ mw_tb) ∧ (T k).1 = C ∧ Cond.fieldLink own idx C (T k).2.1 (T k).2.2.1 ∈ mw_tb ∧
  (∀ j, j < N → parseFieldDescriptor (T j).2.2.1 = some (ty0 j)) ∧ (∀ a, a < N → ∀ b, b < N → a ≠ b → (T a).2.1 ≠ (T b).2.1) ∧ ty0 k = ty ∧ (T k).2.2.2 = fin
theorem mw_putf {ty : FieldType} (hw : mw_fp M.1.cls idx ci k ty false) (hd : decode M.2.1 pc = .ok (.putfield idx, 3)) (ha : a < h.1) (ho : h.2 a = .inl (ci, f)) (hn : narrow ty v = v) (hfit : fits ty v = true) (kk : mw_W E M d Q X bc bs (pc + 3) lo st (h.1, va_up h.2 a (.inl (ci, updV f k v)))) : mw_W E M d Q X bc bs pc lo (v :: .ref (mw_b E + a) :: st) h := by
  intro p e s m args below meth c H locs cells slots mc ms ls C hR hlocs hl hc hs
  have C0 := C
  obtain ⟨hx, hb, hr9, hml, hown, hts, hK, hZ, hlk, htab, hnm, hl9⟩ := C
  obtain ⟨C9, T9, N9, ty0, hc9, hk9, hin, hown9, hlk9, hty, hne, hty9, hfin⟩ := hw
  have h1 := hR.2.2 a ha
  rw [ho] at h1
  obtain ⟨r, h2, cell, q1, q2, q3, q4⟩ := h1
  cases hc9.symm.trans h2
  have hap := va_apart (own := M.1.cls) hts hin ty0 hty hne hK hc9
  obtain ⟨hS, hfc, kC, hkC, hkind⟩ := hK.1 ci _ hc9
  obtain ⟨cf, kf, fi, fd, hi, hsl⟩ := hS k hk9
  have hlay := hts _ (hin _ (u_in_lay hk9))
  unfold u_lay at hlay
  rw [if_neg (by rw [hfin]; decide)] at hlay
  have hst := (u_facts hfc hkC (u_lays hts hin hk9) hi).1
  have h6 := u_store hfc hkC hkind hlay hi (by rw [hty k hk9, hty9]) hn hfit
  refine W.putK hx hb (f := fd) ⟨hown, hts _ hlk9, ⟨_, _, _, by rw [← hown9]; exact hi⟩, hst⟩ (by rw [q2]; exact h6) q1 q3 (by rw [hsl]; exact k2_hasslot (q4 k hk9)) rfl rfl hd fun H' e1 e2 e3 => ?_
  rw [hsl] at e1
  refine kk p e s m args below meth c H' _ cells slots mc ms ls C0 (hR.set _ ha e2 e3 ⟨_, hc9, _, e1, q2, q3, t_set q4 hap hk9 v⟩) (fun q hq => ?_) hl hc hs
  rcases List.mem_append.mp hq with h9 | h9
  · exact hlocs q h9
  · rw [List.mem_singleton] at h9
    subst h9
    exact Nat.le_add_right _ _
theorem mw_putF {ty : FieldType} (hw : mw_fp M.1.cls idx ci k ty true) (hC9 : ∃ r : vw_C, mw_cl[ci]? = some r ∧ r.1 = M.1.cls) (hi9 : M.1.name = "<init>") (hd : decode M.2.1 pc = .ok (.putfield idx, 3)) (ha : a < h.1) (ho : h.2 a = .inl (ci, f)) (hn : narrow ty v = v) (hfit : fits ty v = true) (kk : mw_W E M d Q X bc bs (pc + 3) lo st (h.1, va_up h.2 a (.inl (ci, updV f k v)))) : mw_W E M d Q X bc bs pc lo (v :: .ref (mw_b E + a) :: st) h := by
  intro p e s m args below meth c H locs cells slots mc ms ls C hR hlocs hl hc hs
  have C0 := C
  obtain ⟨hx, hb, hr9, hml, hown, hts, hK, hZ, hlk, htab, hnm, hl9⟩ := C
  obtain ⟨C9, T9, N9, ty0, hc9, hk9, hin, hown9, hlk9, hty, hne, hty9, hfin⟩ := hw
  obtain ⟨r9, hr8, hr7⟩ := hC9
  cases hc9.symm.trans hr8
  have h1 := hR.2.2 a ha
  rw [ho] at h1
  obtain ⟨r, h2, cell, q1, q2, q3, q4⟩ := h1
  cases hc9.symm.trans h2
  have hap := va_apart (own := M.1.cls) hts hin ty0 hty hne hK hc9
  obtain ⟨hS, hfc, kC, hkC, hkind⟩ := hK.1 ci _ hc9
  obtain ⟨cf, kf, fi, fd, hi, hsl⟩ := hS k hk9
  have hlay := hts _ (hin _ (u_in_lay hk9))
  unfold u_lay at hlay
  rw [if_pos hfin] at hlay
  have hst := (u_facts hfc hkC (u_lays hts hin hk9) hi).1
  have hcf : m.cls = cf := by
    obtain ⟨_, _, c', _, _, _, -, -, hf', -, -, -, hown2, -⟩ := Cond.laysFinal_spec hlay
    have e1 : c' = cf := by have := hi.symm.trans hf'; simp at this; exact this.1.symm
    rw [hown9] at hown2
    rw [← e1]
    exact Option.some.inj (hown.symm.trans (by rw [← hr7]; exact hown2))
  have h6 := u_fits hfc hkC hkind (Or.inr hlay) hi (by rw [hty k hk9, hty9]) hn hfit
  refine W.putFinK hx hb hown (hts _ hlk9) (by rw [← hown9]; exact hi) hst hcf (hnm.trans hi9) (by rw [q2]; exact h6) q1 q3 (by rw [hsl]; exact k2_hasslot (q4 k hk9)) rfl rfl hd fun H' e1 e2 e3 => ?_
  rw [hsl] at e1
  refine kk p e s m args below meth c H' _ cells slots mc ms ls C0 (hR.set _ ha e2 e3 ⟨_, hc9, _, e1, q2, q3, t_set q4 hap hk9 v⟩) (fun q hq => ?_) hl hc hs
  rcases List.mem_append.mp hq with h9 | h9
  · exact hlocs q h9
  · rw [List.mem_singleton] at h9
    subst h9
    exact Nat.le_add_right _ _
theorem mw_arr {t : Nat} {H : Heap} (hR : mw_R E h H) (ha : a < h.1) (ho : h.2 a = .inr (t, n, f)) : H[mw_b E + a]? = some (arrV (E.2.2.1 t) n f) := by
  have h1 := hR.2.2 a ha
  rw [ho] at h1
  exact h1
theorem mw_locs {locs : List Loc} (hlocs : ∀ q ∈ locs, mw_b E ≤ q.base) (a j : Nat) : ∀ q ∈ locs ++ [⟨mw_b E + a, j⟩], mw_b E ≤ q.base := by
  intro q hq
  rcases List.mem_append.mp hq with h9 | h9
  · exact hlocs q h9
  · rw [List.mem_singleton] at h9
    subst h9
    exact Nat.le_add_right _ _
theorem mw_ald {t : Nat} {ty : FieldType} (hty : ∀ E : mw_E, (mw_tys E)[t]? = some (E.2.2.1 t, ty)) (hr : ty.isReference = true) (hd : decode M.2.1 pc = .ok (.aaload, 1)) (ha : a < h.1) (ho : h.2 a = .inr (t, n, f)) (hi : i < n) (hn : n < 2 ^ 31) (hv : f i = v) (kk : mw_W E M d Q X bc bs (pc + 1) lo (v :: st) h) : mw_W E M d Q X bc bs pc lo (.int (nI i) :: .ref (mw_b E + a) :: st) h := by
  intro p e s m args below meth c H locs cells slots mc ms ls C hR hlocs hl hc hs
  have K := kk p e s m args below meth c H locs cells slots mc ms ls C hR hlocs hl hc hs
  exact W.aald C.1 C.2.1 (mw_arr hR ha ho) ((C.2.2.2.2.2.2.1.2 t _ (hty E)).1 n f) hr (fun h => by cases h) (by rw [arrV_size]; exact nI_in hi hn) (by rw [nI_clamp (by omega), arrV_read _ _ hi, hv]) rfl rfl hd K
theorem mw_iald (hd : decode M.2.1 pc = .ok (.iaload, 1)) (ha : a < h.1) (ho : h.2 a = .inr (0, n, f)) (hi : i < n) (hn : n < 2 ^ 31) (hv : f i = v) (kk : mw_W E M d Q X bc bs (pc + 1) lo (v :: st) h) : mw_W E M d Q X bc bs pc lo (.int (nI i) :: .ref (mw_b E + a) :: st) h := by
  intro p e s m args below meth c H locs cells slots mc ms ls C hR hlocs hl hc hs
  have K := kk p e s m args below meth c H locs cells slots mc ms ls C hR hlocs hl hc hs
  exact W.iald C.1 C.2.1 (mw_arr hR ha ho) ((C.2.2.2.2.2.2.1.2 0 _ rfl).1 n f) (fun h => by cases h) (by rw [arrV_size]; exact nI_in hi hn) (by rw [nI_clamp (by omega), arrV_read _ _ hi, hv]) rfl rfl hd K
theorem mw_zald (hd : decode M.2.1 pc = .ok (.baload, 1)) (ha : a < h.1) (ho : h.2 a = .inr (1, n, f)) (hi : i < n) (hn : n < 2 ^ 31) (hv : f i = v) (kk : mw_W E M d Q X bc bs (pc + 1) lo (v :: st) h) : mw_W E M d Q X bc bs pc lo (.int (nI i) :: .ref (mw_b E + a) :: st) h := by
  intro p e s m args below meth c H locs cells slots mc ms ls C hR hlocs hl hc hs
  have K := kk p e s m args below meth c H locs cells slots mc ms ls C hR hlocs hl hc hs
  exact W.zald C.1 C.2.1 (mw_arr hR ha ho) ((C.2.2.2.2.2.2.1.2 1 _ rfl).1 n f) (fun h => by cases h) (by rw [arrV_size]; exact nI_in hi hn) (by rw [nI_clamp (by omega), arrV_read _ _ hi, hv]) rfl rfl hd K
theorem mw_lald (hd : decode M.2.1 pc = .ok (.laload, 1)) (ha : a < h.1) (ho : h.2 a = .inr (4, n, f)) (hi : i < n) (hn : n < 2 ^ 31) (hv : f i = v) (kk : mw_W E M d Q X bc bs (pc + 1) lo (v :: st) h) : mw_W E M d Q X bc bs pc lo (.int (nI i) :: .ref (mw_b E + a) :: st) h := by
  intro p e s m args below meth c H locs cells slots mc ms ls C hR hlocs hl hc hs
  have K := kk p e s m args below meth c H locs cells slots mc ms ls C hR hlocs hl hc hs
  exact W.lald C.1 C.2.1 (mw_arr hR ha ho) ((C.2.2.2.2.2.2.1.2 4 _ rfl).1 n f) (fun h => by cases h) (by rw [arrV_size]; exact nI_in hi hn) (by rw [nI_clamp (by omega), arrV_read _ _ hi, hv]) rfl rfl hd K
theorem mw_alen {t : Nat} {ty : FieldType} (hty : ∀ E : mw_E, (mw_tys E)[t]? = some (E.2.2.1 t, ty)) (hd : decode M.2.1 pc = .ok (.arraylength, 1)) (ha : a < h.1) (ho : h.2 a = .inr (t, n, f)) (kk : mw_W E M d Q X bc bs (pc + 1) lo (.int (nI n) :: st) h) : mw_W E M d Q X bc bs pc lo (.ref (mw_b E + a) :: st) h := by
  intro p e s m args below meth c H locs cells slots mc ms ls C hR hlocs hl hc hs
  have K := kk p e s m args below meth c H locs cells slots mc ms ls C hR hlocs hl hc hs
  exact W.alen (n := nI n) C.1 C.2.1 (mw_arr hR ha ho) ((C.2.2.2.2.2.2.1.2 t _ (hty E)).1 n f) (by rw [arrV_size]; rfl) rfl rfl hd K
theorem mw_iast (hd : decode M.2.1 pc = .ok (.iastore, 1)) (ha : a < h.1) (ho : h.2 a = .inr (0, n, f)) (hi : i < n) (hn : n < 2 ^ 31) (kk : mw_W E M d Q X bc bs (pc + 1) lo st (h.1, va_up h.2 a (.inr (0, n, updV f i (.int x))))) : mw_W E M d Q X bc bs pc lo (.int x :: .int (nI i) :: .ref (mw_b E + a) :: st) h := by
  intro p e s m args below meth c H locs cells slots mc ms ls C hR hlocs hl hc hs
  refine W.iast C.1 C.2.1 (mw_arr hR ha ho) ((C.2.2.2.2.2.2.1.2 0 _ rfl).1 n f) (fun h => by cases h) (by rw [arrV_size]; exact nI_in hi hn) rfl rfl hd fun H' e1 e2 e3 => ?_
  rw [nI_clamp (by omega), arrV_store] at e1
  exact kk p e s m args below meth c H' _ cells slots mc ms ls C (hR.set _ ha e2 e3 e1) (mw_locs hlocs a _) hl hc hs
theorem mw_zast (hx9 : narrow .boolean (.int x) = .int x) (hd : decode M.2.1 pc = .ok (.bastore, 1)) (ha : a < h.1) (ho : h.2 a = .inr (1, n, f)) (hi : i < n) (hn : n < 2 ^ 31) (kk : mw_W E M d Q X bc bs (pc + 1) lo st (h.1, va_up h.2 a (.inr (1, n, updV f i (.int x))))) : mw_W E M d Q X bc bs pc lo (.int x :: .int (nI i) :: .ref (mw_b E + a) :: st) h := by
  intro p e s m args below meth c H locs cells slots mc ms ls C hR hlocs hl hc hs
  refine W.zast C.1 C.2.1 (mw_arr hR ha ho) ((C.2.2.2.2.2.2.1.2 1 _ rfl).1 n f) (fun h => by cases h) (by rw [arrV_size]; exact nI_in hi hn) rfl rfl hd fun H' e1 e2 e3 => ?_
  rw [hx9, nI_clamp (by omega), arrV_store] at e1
  exact kk p e s m args below meth c H' _ cells slots mc ms ls C (hR.set _ ha e2 e3 e1) (mw_locs hlocs a _) hl hc hs
theorem mw_last {x : Int64} (hd : decode M.2.1 pc = .ok (.lastore, 1)) (ha : a < h.1) (ho : h.2 a = .inr (4, n, f)) (hi : i < n) (hn : n < 2 ^ 31) (kk : mw_W E M d Q X bc bs (pc + 1) lo st (h.1, va_up h.2 a (.inr (4, n, updV f i (.long x))))) : mw_W E M d Q X bc bs pc lo (.long x :: .int (nI i) :: .ref (mw_b E + a) :: st) h := by
  intro p e s m args below meth c H locs cells slots mc ms ls C hR hlocs hl hc hs
  refine W.last C.1 C.2.1 (mw_arr hR ha ho) ((C.2.2.2.2.2.2.1.2 4 _ rfl).1 n f) (fun h => by cases h) (by rw [arrV_size]; exact nI_in hi hn) rfl rfl hd fun H' e1 e2 e3 => ?_
  rw [nI_clamp (by omega), arrV_store] at e1
  exact kk p e s m args below meth c H' _ cells slots mc ms ls C (hR.set _ ha e2 e3 e1) (mw_locs hlocs a _) hl hc hs
/-- a PlaceSet into its array -/
theorem mw_aast {a2 : Nat} {f2 : Nat → Value} (hc9 : ∃ r : vw_C, mw_cl[ci]? = some r ∧ r.1 = mw_PS) (hd : decode M.2.1 pc = .ok (.aastore, 1)) (ha : a < h.1) (ho : h.2 a = .inr (3, n, f)) (ha2 : a2 < h.1) (ho2 : h.2 a2 = .inl (ci, f2)) (hi : i < n) (hn : n < 2 ^ 31) (kk : mw_W E M d Q X bc bs (pc + 1) lo st (h.1, va_up h.2 a (.inr (3, n, updV f i (.ref (mw_b E + a2)))))) : mw_W E M d Q X bc bs pc lo (.ref (mw_b E + a2) :: .int (nI i) :: .ref (mw_b E + a) :: st) h := by
  intro p e s m args below meth c H locs cells slots mc ms ls C hR hlocs hl hc hs
  obtain ⟨r, hr, hr1⟩ := hc9
  have h1 := hR.2.2 a2 ha2
  rw [ho2] at h1
  obtain ⟨r', h2, cellV, g1, g2, g3, -⟩ := h1
  cases hr.symm.trans h2
  have hcls := (C.2.2.2.2.2.2.1.1 ci r hr).2
  obtain ⟨kA, comp, k1, k2, k3, -⟩ := (C.2.2.2.2.2.2.1.2 3 _ rfl).2
  have hcomp : comp = E.2.1.1 ci := Option.some.inj (k3.symm.trans (by rw [← hr1]; exact hcls.1))
  subst hcomp
  obtain ⟨kC, hkC, -⟩ := hcls.2
  refine W.aast C.1 C.2.1 (mw_arr hR ha ho) (fun q h => by cases h) (fun h => by cases h) k1 k2 rfl hkC ⟨nI_pos (by omega), by rw [arrV_size, nI_clamp (by omega)]; exact hi⟩ g1 (fun q h => by rw [g3] at h; cases h) (by rw [g2]; exact hkC) (by rw [g2]; exact va_assign hcls) rfl rfl hd fun H' e1 e2 e3 => ?_
  rw [nI_clamp (by omega), arrV_store] at e1
  exact kk p e s m args below meth c H' _ cells slots mc ms ls C (hR.set _ ha e2 e3 e1) (mw_locs hlocs a _) hl hc hs
/-- new cells -/
def mw_nw (own : String) (idx ci : Nat) (ty0 : Nat → FieldType) (N : Nat) : Prop := ∃ (C : String) (T : u_T), mw_cl[ci]? = some (C, T, N) ∧ (∀ w ∈ u_ws C T N, w ∈ mw_tb) ∧ (∀ j, j < N → parseFieldDescriptor (T j).2.2.1 = some (ty0 j)) ∧ Cond.classLink own idx C ∈ mw_tb ∧ Cond.instantiable C N ∈ mw_tb ∧ Cond.initialized C ∈ mw_tb
theorem mw_new {ty0 : Nat → FieldType} {N : Nat} (hw : mw_nw M.1.cls idx ci ty0 N) (hd : decode M.2.1 pc = .ok (.new idx, 3)) (hbc : 1 ≤ bc) (hbs : N ≤ bs) (kk : mw_W E M d Q X (bc - 1) (bs - N) (pc + 3) lo (.ref (mw_b E + h.1) :: st) (h.1 + 1, va_up h.2 h.1 (.inl (ci, fun j => defaultValue (ty0 j))))) : mw_W E M d Q X bc bs pc lo st h := by
  intro p e s m args below meth c H locs cells slots mc ms ls C hR hlocs hl hc hs
  have C0 := C
  obtain ⟨hx, hb, hr9, hml, hown, hts, hK, hZ, hlk, htab, hnm, hl9⟩ := C
  obtain ⟨C9, T9, hc9, hin, hty, hcl, hins, hini⟩ := hw
  have hKn := hK.1 ci _ hc9
  refine W.newcK hx hb hown (hts _ hcl) (hts _ hins) (hts _ hini) rfl hd (by show cells + 1 ≤ mc; omega) (by show slots + N ≤ ms; omega) hKn.2.1 (h := mw_b E + h.1) hR.1 fun H1 kC hkC e1 z1 o1 => ?_
  exact kk p e s m args below meth c H1 locs (cells + 1) (slots + N) mc ms ls C0 (hR.push _ (by rw [z1, hR.1]) (fun q hq => o1 q (by rw [← hR.1]; exact hq)) ⟨_, hc9, u_born ty0 hts hin hKn hkC e1 hty⟩) hlocs hl (by omega) (by omega)
theorem mw_newa {t N : Nat} {at9 : ArrayType} {nn : Int32} (hty : ∀ E : mw_E, (mw_tys E)[t]? = some (E.2.2.1 t, newarray.typeOf at9)) (hra : ∀ (U : State) (cA : ClassId), va_RA U cA (newarray.typeOf at9) → U.vm.findClass ("[" ++ (newarray.typeOf at9).toString) = some cA) (hw : Cond.arrayClass (newarray.typeOf at9) ∈ mw_tb) (hd : decode M.2.1 pc = .ok (.newarray at9, 2)) (hn : ¬ nn < 0) (hN : nn.toNatClampNeg = N) (hbytes : N * componentBytes (newarray.typeOf at9) ≤ 536870912) (hbc : 1 ≤ bc) (hbs : N ≤ bs)
    (kk : mw_W E M d Q X (bc - 1) (bs - N) (pc + 2) lo (.ref (mw_b E + h.1) :: st) (h.1 + 1, va_up h.2 h.1 (.inr (t, N, fun _ => defaultValue (newarray.typeOf at9))))) : mw_W E M d Q X bc bs pc lo (.int nn :: st) h := by
  intro p e s m args below meth c H locs cells slots mc ms ls C hR hlocs hl hc hs
  have C0 := C
  obtain ⟨hx, hb, hr9, hml, hown, hts, hK, hZ, hlk, htab, hnm, hl9⟩ := C
  subst hN
  refine W.newa hx hb (hts _ hw) (g := F0 m pc ls (.int nn :: st)) rfl hd rfl hn hbytes (by show cells + 1 ≤ mc; omega) (by show slots + _ ≤ ms; omega) fun cA kA comp h1 h2 h3 => ?_
  have hcA : cA = E.2.2.1 t := Option.some.inj (h1.symm.trans (hra s _ (hK.2 t _ (hty E)).2))
  subst hcA
  have hz := hR.1
  rw [hz]
  refine kk p e s m args below meth c _ locs (cells + 1) (slots + nn.toNatClampNeg) mc ms ls C0 (hR.push _ (by simp) (fun q hq => by simp [Array.getElem?_push, Nat.ne_of_lt hq]) ?_) hlocs hl (by omega) (by omega)
  show (H.push _)[mw_b E + h.1]? = some _
  rw [← hz, Array.getElem?_push_size, arrV_new]
theorem mw_anew {N : Nat} {nn : Int32} (hw : Cond.classLink M.1.cls idx mw_PS ∈ mw_tb ∧ Cond.arrayOver (.object mw_PS) ∈ mw_xw) (hd : decode M.2.1 pc = .ok (.anewarray idx, 3)) (hn : ¬ nn < 0) (hN : nn.toNatClampNeg = N) (hbytes : N * 4 ≤ 536870912) (hbc : 1 ≤ bc) (hbs : N ≤ bs)
    (kk : mw_W E M d Q X (bc - 1) (bs - N) (pc + 3) lo (.ref (mw_b E + h.1) :: st) (h.1 + 1, va_up h.2 h.1 (.inr (3, N, fun _ => .null)))) : mw_W E M d Q X bc bs pc lo (.int nn :: st) h := by
  intro p e s m args below meth c H locs cells slots mc ms ls C hR hlocs hl hc hs
  have C0 := C
  obtain ⟨hx, hb, hr9, hml, hown, hts, hK, hZ, hlk, htab, hnm, hl9⟩ := C
  subst hN
  refine W.anew hx hb hown (hts _ hw.1) (hZ.here hw.2) (g := F0 m pc ls (.int nn :: st)) rfl hd rfl hn hbytes (by show cells + 1 ≤ mc; omega) (by show slots + _ ≤ ms; omega) fun cA kA comp h1 h2 h3 h4 => ?_
  obtain ⟨kA', comp', k1, k2, k3, k4⟩ := (hK.2 3 _ rfl).2
  have hcA : cA = E.2.2.1 3 := Option.some.inj (h1.symm.trans k4)
  subst hcA
  have hz := hR.1
  rw [hz]
  refine kk p e s m args below meth c _ locs (cells + 1) (slots + nn.toNatClampNeg) mc ms ls C0 (hR.push _ (by simp) (fun q hq => by simp [Array.getElem?_push, Nat.ne_of_lt hq]) ?_) hlocs hl (by omega) (by omega)
  show (H.push _)[mw_b E + h.1]? = some _
  rw [← hz, Array.getElem?_push_size, arrV_new]
/-- the call of Object's constructor -/
theorem mw_obj {a9 : Nat} (hw : Cond.methodLink M.1.cls idx Lib.objectInit ∈ mw_tb ∧ Cond.instanceMethod Lib.objectInit ∈ mw_tb ∧ Cond.code Lib.objectInit ⟨#[0xb1]⟩ 1 none ∈ mw_tb) (hd : decode M.2.1 pc = .ok (.invokespecial idx, 3)) (hdd : 1 ≤ d) (hst : (st.map fun v => v.category).sum ≤ 8) (kk : mw_W E M d Q X bc bs (pc + 3) lo st h) : mw_W E M d Q X bc bs pc lo (.ref a9 :: st) h := by
  intro p e s m args below meth c H locs cells slots mc ms ls C hR hlocs hl hc hs
  have K := kk p e s m args below meth c H locs cells slots mc ms ls C hR hlocs hl hc hs
  have hrm := lv_room (m := m) (pc := pc) (ls := ls) (rest := .ref a9 :: st) hst
  exact W.objInit C.1 C.2.1 C.2.2.2.2.1 (C.2.2.2.2.2.1 _ hw.1) (C.2.2.2.2.2.1 _ hw.2.1) (C.2.2.2.2.2.1 _ hw.2.2) (g := F0 m pc ls (.ref a9 :: st)) rfl (by rw [C.2.2.2.1]; exact hl.1) rfl hd hdd (by show _ ≤ 33 * d; omega) K
/-- the script -/
theorem mw_sld {b9 : Nat} (hb9 : b9 = E.2.2.2.2.2.1) (hlt : b9 < mw_b E) (hd : decode M.2.1 pc = .ok (.iaload, 1)) (hi : i < E.2.2.2.2.2.2.1) (hn : E.2.2.2.2.2.2.1 < 2 ^ 31) (kk : mw_W E M d Q X bc bs (pc + 1) lo (.int (E.2.2.2.2.2.2.2 i) :: st) h) : mw_W E M d Q X bc bs pc lo (.int (nI i) :: .ref b9 :: st) h := by
  intro p e s m args below meth c H locs cells slots mc ms ls C hR hlocs hl hc hs
  have K := kk p e s m args below meth c H locs cells slots mc ms ls C hR hlocs hl hc hs
  obtain ⟨scr, h1, h2, h3, h4, h5⟩ := C.2.2.2.2.2.2.2.1.2.2
  subst hb9
  exact W.iald C.1 C.2.1 (by rw [hR.2.1 _ hlt]; exact h1) h2 h3 (by rw [h4]; exact nI_in hi hn) (by rw [nI_clamp (by omega)]; exact h5 i hi) rfl rfl hd K
theorem mw_slen {b9 : Nat} (hb9 : b9 = E.2.2.2.2.2.1) (hlt : b9 < mw_b E) (hd : decode M.2.1 pc = .ok (.arraylength, 1)) (kk : mw_W E M d Q X bc bs (pc + 1) lo (.int (nI E.2.2.2.2.2.2.1) :: st) h) : mw_W E M d Q X bc bs pc lo (.ref b9 :: st) h := by
  intro p e s m args below meth c H locs cells slots mc ms ls C hR hlocs hl hc hs
  have K := kk p e s m args below meth c H locs cells slots mc ms ls C hR hlocs hl hc hs
  obtain ⟨scr, h1, h2, h3, h4, h5⟩ := C.2.2.2.2.2.2.2.1.2.2
  subst hb9
  exact W.alen (n := nI E.2.2.2.2.2.2.1) C.1 C.2.1 (by rw [hR.2.1 _ hlt]; exact h1) h2 (by rw [h4]; rfl) rfl rfl hd K
/-- only the fields that there are count -/
theorem mw_fix {f' : Nat → Value} {r : vw_C} (ho : h.2 a = .inl (ci, f)) (hr : mw_cl[ci]? = some r) (hf : ∀ j, j < r.2.2 → f j = f' j) (kk : mw_W E M d Q X bc bs pc lo st (h.1, va_up h.2 a (.inl (ci, f')))) : mw_W E M d Q X bc bs pc lo st h := by
  intro p e s m args below meth c H locs cells slots mc ms ls C hR hlocs hl hc hs
  refine kk p e s m args below meth c H locs cells slots mc ms ls C ⟨hR.1, hR.2.1, fun j hj => ?_⟩ hlocs hl hc hs
  have hj' : j < h.1 := hj
  show mw_at E j (va_up h.2 a (.inl (ci, f')) j) H
  by_cases e9 : j = a
  · subst e9
    rw [mw_up_s]
    have h1 := hR.2.2 j hj'
    rw [ho] at h1
    obtain ⟨r', h2, h3⟩ := h1
    cases hr.symm.trans h2
    exact ⟨r, hr, h3.to hf⟩
  · rw [mw_up_n _ _ e9]
    exact hR.2.2 j hj'
end MwHeap
