/-! OrderBench's constructor. -/
/-- two pictures of the same cell -/
def mw_sm (o o' : mw_O) : Prop := o = o' ∨ (∃ ci f f' r, o = .inl (ci, f) ∧ o' = .inl (ci, f') ∧ mw_cl[ci]? = some r ∧ ∀ j, j < r.2.2 → f j = f' j) ∨ ∃ t n f f', o = .inr (t, n, f) ∧ o' = .inr (t, n, f') ∧ ∀ j, j < n → f j = f' j
theorem arrV_sm (cI : ClassId) {N : Nat} {f f' : Nat → Value} (h : ∀ j, j < N → f j = f' j) : arrV cI N f = arrV cI N f' := by
  unfold arrV
  have e : (fun j : Fin N => f j.val) = fun j : Fin N => f' j.val := funext (fun j => h j.val j.isLt)
  rw [e]
section Ext
variable {E : mw_E} {M : mw_M} {d bc bs pc n : Nat} {Q : Option Value → mw_H → Prop} {X : Nat → mw_H → Prop} {lo : List (Option Value)} {st : List Value} {f g : Nat → mw_O}
theorem mw_ext (hs : ∀ k, k < n → mw_sm (f k) (g k)) (kk : mw_W E M d Q X bc bs pc lo st (n, g)) : mw_W E M d Q X bc bs pc lo st (n, f) := by
  intro p e s m args below meth c H locs cells slots mc ms ls C hR hlocs hl hc hs9
  refine kk p e s m args below meth c H locs cells slots mc ms ls C ⟨hR.1, hR.2.1, fun j hj => ?_⟩ hlocs hl hc hs9
  have h1 : mw_at E j (f j) H := hR.2.2 j hj
  show mw_at E j (g j) H
  rcases hs j hj with h | ⟨ci, f1, f2, r, e1, e2, hr, hf⟩ | ⟨t, n9, f1, f2, e1, e2, hf⟩
  · rw [← h]; exact h1
  · rw [e1] at h1
    rw [e2]
    obtain ⟨r', h2, h3⟩ := h1
    cases hr.symm.trans h2
    exact ⟨r, hr, h3.to hf⟩
  · rw [e1] at h1
    rw [e2]
    have h2 : H[mw_b E + j]? = some (arrV (E.2.2.1 t) n9 f1) := h1
    show H[mw_b E + j]? = some (arrV (E.2.2.1 t) n9 f2)
    rw [h2, arrV_sm _ hf]
theorem mw_ext1 {o : mw_O} (hs : mw_sm o (g n)) (hg : ∀ k, k < n → f k = g k) (kk : mw_W E M d Q X bc bs pc lo st (n + 1, g)) : mw_W E M d Q X bc bs pc lo st (n + 1, va_up f n o) :=
  mw_ext (fun k hk => by
    by_cases e : k = n
    · rw [e, mw_up_s]; exact hs
    · rw [mw_up_n _ _ e]; exact Or.inl (hg k (by omega))) kk
end Ext
theorem nw_ps : mw_nw "OrderBench" 13 0 ty_ps 2 := ⟨"OrderBench$PlaceSet", T_ps, rfl, uw_ps, tp_ps, tb_21, tb_23, tb_2⟩
theorem ps_dflt : ∀ j, j < 2 → defaultValue (ty_ps j) = ps_S (fun _ => false) j := by
  intro j hj
  have e1 : bt_lo (fun _ => false) = 0 := bt_zero
  have e2 : bt_hi (fun _ => false) = 0 := bt_zero
  unfold ps_S
  rw [e1, e2]
  match j, hj with
  | 0, _ => rfl
  | 1, _ => rfl
def oi (F A1 A2 : Nat → Value) : Nat → mw_O := fun k => if k = 0 then .inl (1, F) else if k = 1 then .inr (3, 120, A1) else if k = 2 then .inr (3, 120, A2) else if k < 247 then .inl (0, ps_S (fun _ => false)) else .inr (0, 120, fun _ => .int (nI 0))
theorem oi_p0 (F A1 A2 F' : Nat → Value) : va_up (oi F A1 A2) 0 (.inl (1, F')) = oi F' A1 A2 := by
  funext k
  unfold va_up oi
  by_cases e : k = 0 <;> simp [e]
theorem oi_p1 (F A1 A2 A' : Nat → Value) : va_up (oi F A1 A2) 1 (.inr (3, 120, A')) = oi F A' A2 := by
  funext k
  unfold va_up oi
  by_cases e : k = 1
  · subst e; rfl
  · simp [e]
theorem oi_p2 (F A1 A2 A' : Nat → Value) : va_up (oi F A1 A2) 2 (.inr (3, 120, A')) = oi F A1 A' := by
  funext k
  unfold va_up oi
  by_cases e : k = 2
  · subst e; rfl
  · simp [e]
theorem oi_s {F A1 A2 : Nat → Value} {k : Nat} (h1 : 3 ≤ k) (h2 : k < 247) : oi F A1 A2 k = .inl (0, ps_S (fun _ => false)) := by
  unfold oi
  rw [if_neg (by omega), if_neg (by omega), if_neg (by omega), if_pos h2]
theorem oi_r {F A1 A2 : Nat → Value} {k : Nat} (h1 : 247 ≤ k) : oi F A1 A2 k = .inr (0, 120, fun _ => .int (nI 0)) := by
  unfold oi
  rw [if_neg (by omega), if_neg (by omega), if_neg (by omega), if_neg (by omega)]
section ObInit
variable {E : mw_E} {d bc bs pc n : Nat} {Q : Option Value → mw_H → Prop} {X : Nat → mw_H → Prop} {lo : List (Option Value)} {st : List Value} {F A1 A2 : Nat → Value}
theorem oi_new (hd1 : decode m_ob_init.2.1 pc = .ok (.new 13, 3)) (hd2 : decode m_ob_init.2.1 (pc + 3) = .ok (.dup, 1)) (hd3 : decode m_ob_init.2.1 (pc + 3 + 1) = .ok (.invokespecial 22, 3)) (h3 : 3 ≤ n) (h4 : n < 247) (hbc : 1 ≤ bc) (hbs : 2 ≤ bs) (hd : 2 ≤ d) (hst : ((.ref (mw_b E + n) :: st).map fun v => v.category).sum ≤ 8) (k : mw_W E m_ob_init d Q X (bc - 1) (bs - 2) (pc + 3 + 1 + 3) lo (.ref (mw_b E + n) :: st) (n + 1, oi F A1 A2)) : mw_W E m_ob_init d Q X bc bs pc lo st (n, oi F A1 A2) := by
  refine mw_new nw_ps hd1 hbc hbs ?_
  refine mw_ext1 (f := oi F A1 A2) (g := oi F A1 A2) (Or.inr (Or.inl ⟨0, _, _, _, rfl, oi_s h3 h4, rfl, ps_dflt⟩)) (fun _ _ => rfl) ?_
  refine mw_dup hd2 rfl ?_
  refine mw_cI0v (d' := d - 1) lk_ob_init_ps_init hd3 (Nat.le_of_ble_eq_true rfl) (ct_psinit (by omega) _) (by omega) hst (Nat.zero_le _) (Nat.zero_le _) ?_
  exact k
theorem oi_newi (hd1 : decode m_ob_init.2.1 pc = .ok (.newarray .int, 2)) (h3 : 247 ≤ n) (hbc : 1 ≤ bc) (hbs : 120 ≤ bs) (k : mw_W E m_ob_init d Q X (bc - 1) (bs - 120) (pc + 2) lo (.ref (mw_b E + n) :: st) (n + 1, oi F A1 A2)) : mw_W E m_ob_init d Q X bc bs pc lo (.int (nI 120) :: st) (n, oi F A1 A2) := by
  refine mw_newa (t := 0) (N := 120) (at9 := .int) (fun _ => rfl) (fun _ _ h => va_nm_int h) tb_66 hd1 (nI_pos (by decide)) (nI_clamp (by decide)) (by decide) hbc hbs ?_
  refine mw_ext1 (f := oi F A1 A2) (g := oi F A1 A2) (Or.inr (Or.inr ⟨0, 120, _, _, rfl, oi_r h3, fun _ _ => ?_⟩)) (fun _ _ => rfl) k
  show Value.int 0 = _
  rw [nI_0]
/-- the ways' sets as far as k -/
def oi_A (b o k : Nat) : Nat → Value := fun i => if i < k then .ref (b + (3 + (2 * i + o))) else .null
theorem oi_A0 (b o : Nat) : oi_A b o 0 = fun _ => .null := by funext i; simp [oi_A]
theorem oi_AS (b o k : Nat) : updV (oi_A b o k) k (.ref (b + (3 + (2 * k + o)))) = oi_A b o (k + 1) := by
  funext i
  unfold updV oi_A
  by_cases e : i = k
  · subst e; simp
  · by_cases e2 : i < k
    · have e3 : i < k + 1 := by omega
      simp [e, e2, e3]
    · have e3 : ¬ i < k + 1 := by omega
      simp [e, e2, e3]
def ob_K0 : ob_K := (10, fun _ _ => false, fun _ _ => nI 0)
theorem ct_obinit {f : Nat → mw_O} {F0 : Nat → Value} {r : Nat → mw_O} (hd : 3 ≤ d) (hf : f 0 = .inl (1, F0)) : mw_Ct E m_ob_init d 249 1088 [.ref (mw_b E + 0)] (1, f) (fun v h' => v = none ∧ h' = ob_h E ob_K0 250 r) mw_no := by
  show mw_W E m_ob_init d _ _ 249 1088 0 [some (.ref (mw_b E + 0))] [] (1, f)
  refine mw_ext (g := oi F0 (fun _ => .null) (fun _ => .null)) (fun k hk => by
    have e : k = 0 := by omega
    subst e
    exact Or.inl hf) ?_
  refine mw_lo [some (.ref (mw_b E + 0)), none] (by simp [mw_le]) ?_
  refine mw_aload0 d_ob_init_0 ?_
  refine mw_obj ⟨ol_ob, ob9, oc9⟩ d_ob_init_1 (by omega) (Nat.le_of_ble_eq_true rfl) ?_
  refine mw_aload0 d_ob_init_4 ?_
  refine mw_bipush (v := nI 10) d_ob_init_5 (by decide) ?_
  refine mw_putf (k := 0) (a := 0) fp_ob_size d_ob_init_7 (Nat.le_of_ble_eq_true rfl) rfl rfl rfl ?_
  rw [oi_p0]
  refine mw_aload0 d_ob_init_10 ?_
  refine mw_bipush (v := nI 120) d_ob_init_11 (by decide) ?_
  refine mw_anew (N := 120) ⟨tb_21, List.mem_of_getElem? (i := 1) rfl⟩ d_ob_init_13 (nI_pos (by decide)) (nI_clamp (by decide)) (by decide) (by decide) (by decide) ?_
  refine mw_ext1 (g := oi _ (fun _ => .null) (fun _ => .null)) (Or.inl rfl) (fun _ _ => rfl) ?_
  refine mw_putF (k := 1) (a := 0) fp_ob_out ⟨_, rfl, rfl⟩ rfl d_ob_init_16 (Nat.le_of_ble_eq_true rfl) rfl rfl rfl ?_
  rw [oi_p0]
  refine mw_aload0 d_ob_init_19 ?_
  refine mw_bipush (v := nI 120) d_ob_init_20 (by decide) ?_
  refine mw_anew (N := 120) ⟨tb_21, List.mem_of_getElem? (i := 1) rfl⟩ d_ob_init_22 (nI_pos (by decide)) (nI_clamp (by decide)) (by decide) (by decide) (by decide) ?_
  refine mw_ext1 (g := oi _ (fun _ => .null) (fun _ => .null)) (Or.inl rfl) (fun _ _ => rfl) ?_
  refine mw_putF (k := 2) (a := 0) fp_ob_into ⟨_, rfl, rfl⟩ rfl d_ob_init_25 (Nat.le_of_ble_eq_true rfl) rfl rfl rfl ?_
  rw [oi_p0]
  generalize hF : updV (updV (updV F0 0 (.int (nI 10))) 1 _) 2 _ = F1
  have f1 : F1 1 = .ref (mw_b E + 1) := by rw [← hF]; rfl
  have f2 : F1 2 = .ref (mw_b E + 2) := by rw [← hF]; rfl
  have key : ∀ k, k ≤ 120 → mw_W E m_ob_init d (fun v h' => v = none ∧ h' = ob_h E ob_K0 250 r) mw_no (247 - 2 * k) (848 - 4 * k) 30 [some (.ref (mw_b E + 0)), some (.int (nI k))] [] (3 + 2 * k, oi F1 (oi_A (mw_b E) 0 k) (oi_A (mw_b E) 1 k)) := by
    refine mw_down 120 (fun k hk ih => ?_)
    refine mw_iload1 d_ob_init_30 ?_
    refine mw_bipush (v := nI 120) d_ob_init_31 (by decide) ?_
    refine mw_icmp_ge (tgt := 68) d_ob_init_33 (by decide) (fun hc => ?_) (fun hc => ?_)
    · have e : k = 120 := by
        have := (nI_leI (by decide) (by omega)).mp hc
        omega
      subst e
      refine mw_aload0 d_ob_init_68 ?_
      refine oi_new d_ob_init_69 d_ob_init_72 d_ob_init_73 (by omega) (by omega) (by decide) (by decide) (by omega) (Nat.le_of_ble_eq_true rfl) ?_
      refine mw_putF (k := 3) (a := 0) fp_ob_reached ⟨_, rfl, rfl⟩ rfl d_ob_init_76 (Nat.le_of_ble_eq_true rfl) rfl rfl rfl ?_
      rw [oi_p0]
      refine mw_aload0 d_ob_init_79 ?_
      refine oi_new d_ob_init_80 d_ob_init_83 d_ob_init_84 (Nat.le_of_ble_eq_true rfl) (Nat.le_of_ble_eq_true rfl) (Nat.le_of_ble_eq_true rfl) (Nat.le_of_ble_eq_true rfl) (by omega) (Nat.le_of_ble_eq_true rfl) ?_
      refine mw_putF (k := 4) (a := 0) fp_ob_rim ⟨_, rfl, rfl⟩ rfl d_ob_init_87 (Nat.le_of_ble_eq_true rfl) rfl rfl rfl ?_
      rw [oi_p0]
      refine mw_aload0 d_ob_init_90 ?_
      refine oi_new d_ob_init_91 d_ob_init_94 d_ob_init_95 (Nat.le_of_ble_eq_true rfl) (Nat.le_of_ble_eq_true rfl) (Nat.le_of_ble_eq_true rfl) (Nat.le_of_ble_eq_true rfl) (by omega) (Nat.le_of_ble_eq_true rfl) ?_
      refine mw_putF (k := 5) (a := 0) fp_ob_fresh ⟨_, rfl, rfl⟩ rfl d_ob_init_98 (Nat.le_of_ble_eq_true rfl) rfl rfl rfl ?_
      rw [oi_p0]
      refine mw_aload0 d_ob_init_101 ?_
      refine oi_new d_ob_init_102 d_ob_init_105 d_ob_init_106 (Nat.le_of_ble_eq_true rfl) (Nat.le_of_ble_eq_true rfl) (Nat.le_of_ble_eq_true rfl) (Nat.le_of_ble_eq_true rfl) (by omega) (Nat.le_of_ble_eq_true rfl) ?_
      refine mw_putF (k := 6) (a := 0) fp_ob_kept ⟨_, rfl, rfl⟩ rfl d_ob_init_109 (Nat.le_of_ble_eq_true rfl) rfl rfl rfl ?_
      rw [oi_p0]
      refine mw_aload0 d_ob_init_112 ?_
      refine mw_bipush (v := nI 120) d_ob_init_113 (by decide) ?_
      refine oi_newi d_ob_init_115 (Nat.le_of_ble_eq_true rfl) (Nat.le_of_ble_eq_true rfl) (Nat.le_of_ble_eq_true rfl) ?_
      refine mw_putF (k := 7) (a := 0) fp_ob_line ⟨_, rfl, rfl⟩ rfl d_ob_init_117 (Nat.le_of_ble_eq_true rfl) rfl rfl rfl ?_
      rw [oi_p0]
      refine mw_aload0 d_ob_init_120 ?_
      refine mw_bipush (v := nI 120) d_ob_init_121 (by decide) ?_
      refine oi_newi d_ob_init_123 (Nat.le_of_ble_eq_true rfl) (Nat.le_of_ble_eq_true rfl) (Nat.le_of_ble_eq_true rfl) ?_
      refine mw_putF (k := 8) (a := 0) fp_ob_waiting ⟨_, rfl, rfl⟩ rfl d_ob_init_125 (Nat.le_of_ble_eq_true rfl) rfl rfl rfl ?_
      rw [oi_p0]
      refine mw_aload0 d_ob_init_128 ?_
      refine mw_bipush (v := nI 120) d_ob_init_129 (by decide) ?_
      refine oi_newi d_ob_init_131 (Nat.le_of_ble_eq_true rfl) (Nat.le_of_ble_eq_true rfl) (Nat.le_of_ble_eq_true rfl) ?_
      refine mw_putF (k := 9) (a := 0) fp_ob_tally ⟨_, rfl, rfl⟩ rfl d_ob_init_133 (Nat.le_of_ble_eq_true rfl) rfl rfl rfl ?_
      rw [oi_p0]
      refine mw_ext (g := (ob_h E ob_K0 250 r).2) (fun k hk => ?_) (mw_vret d_ob_init_136 rfl ⟨rfl, rfl⟩)
      have hk250 : k < 250 := hk
      show mw_sm _ (if k < 250 then ob_o (mw_b E) ob_K0 k else r k)
      rw [if_pos hk250]
      unfold oi ob_o
      by_cases h0 : k = 0
      · rw [if_pos h0, if_pos h0]
        refine Or.inr (Or.inl ⟨1, _, _, _, rfl, rfl, rfl, fun j hj => ?_⟩)
        subst hF
        have hj10 : j < 10 := hj
        match j, hj10 with
        | 0, _ => rfl
        | 1, _ => rfl
        | 2, _ => rfl
        | 3, _ => rfl
        | 4, _ => rfl
        | 5, _ => rfl
        | 6, _ => rfl
        | 7, _ => rfl
        | 8, _ => rfl
        | 9, _ => rfl
      · rw [if_neg h0, if_neg h0]
        by_cases h1 : k = 1
        · rw [if_pos h1, if_pos h1]
          refine Or.inr (Or.inr ⟨3, 120, _, _, rfl, rfl, fun j hj => ?_⟩)
          unfold oi_A
          rw [if_pos hj]
        · rw [if_neg h1, if_neg h1]
          by_cases h2 : k = 2
          · rw [if_pos h2, if_pos h2]
            refine Or.inr (Or.inr ⟨3, 120, _, _, rfl, rfl, fun j hj => ?_⟩)
            unfold oi_A
            rw [if_pos hj]
          · rw [if_neg h2, if_neg h2]
            by_cases h3 : k < 247
            · rw [if_pos h3, if_pos h3]
              exact Or.inl rfl
            · rw [if_neg h3, if_neg h3]
              exact Or.inl rfl
    · have hlt : k < 120 := by
        rcases Nat.lt_or_ge k 120 with z | z
        · exact z
        · exact absurd (nI_le z (by omega)) hc
      refine mw_aload0 d_ob_init_36 ?_
      refine mw_getf (k := 1) (a := 0) fl_ob_out d_ob_init_37 (by show 0 < 3 + 2 * k; omega) rfl f1 ?_
      refine mw_iload1 d_ob_init_40 ?_
      refine oi_new d_ob_init_41 d_ob_init_44 d_ob_init_45 (by omega) (by omega) (by omega) (by omega) (by omega) (Nat.le_of_ble_eq_true rfl) ?_
      refine mw_aast (a := 1) (a2 := 3 + 2 * k) (ci := 0) ⟨_, rfl, rfl⟩ d_ob_init_48 (by show 1 < 3 + 2 * k + 1; omega) rfl (by show 3 + 2 * k < 3 + 2 * k + 1; omega) (oi_s (by omega) (by omega)) hlt (by decide) ?_
      rw [oi_p1]
      refine mw_aload0 d_ob_init_49 ?_
      refine mw_getf (k := 2) (a := 0) fl_ob_into d_ob_init_50 (by show 0 < 3 + 2 * k + 1; omega) rfl f2 ?_
      refine mw_iload1 d_ob_init_53 ?_
      refine oi_new (n := 3 + 2 * k + 1) d_ob_init_54 d_ob_init_57 d_ob_init_58 (by omega) (by omega) (by omega) (by omega) (by omega) (Nat.le_of_ble_eq_true rfl) ?_
      refine mw_aast (a := 2) (a2 := 3 + 2 * k + 1) (ci := 0) ⟨_, rfl, rfl⟩ d_ob_init_61 (by show 2 < 3 + 2 * k + 1 + 1; omega) rfl (by show 3 + 2 * k + 1 < 3 + 2 * k + 1 + 1; omega) (oi_s (F := F1) (k := 3 + 2 * k + 1) (by omega) (by omega)) hlt (by decide) ?_
      rw [oi_p2]
      refine mw_inc1 d_ob_init_62 rfl (Nat.le_of_ble_eq_true rfl) ?_
      refine mw_goto (tgt := 30) d_ob_init_65 (by decide) ?_
      have h9 := ih hlt
      rw [← oi_AS, ← oi_AS] at h9
      exact mw_bud (by omega) (by omega) h9
  refine mw_iconst (v := nI 0) d_ob_init_28 (by decide) ?_
  refine mw_istore1 d_ob_init_29 rfl (Nat.le_of_ble_eq_true rfl) ?_
  have h9 := key 0 (by decide)
  rw [oi_A0, oi_A0] at h9
  exact h9
end ObInit
