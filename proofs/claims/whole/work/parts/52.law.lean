/-! The law's loop, and the law. -/
theorem nI_sub4 {L i : Nat} (hL : L < 2 ^ 31) (hi : i < 2 ^ 31) (h : ¬ nI L - nI 4 < nI i) : i + 4 ≤ L := by
  rcases Nat.lt_or_ge L 4 with z | z
  · exfalso
    refine h ?_
    have e : (nI L - nI 4).toInt < 0 := by
      match L, z with
      | 0, _ => decide
      | 1, _ => decide
      | 2, _ => decide
      | 3, _ => decide
    rw [Int32.lt_iff_toInt_lt, nI_toInt hi]
    omega
  · have e : nI L - nI 4 = nI (L - 4) := by
      have e2 : nI L = nI (L - 4) + nI 4 := by rw [nI_add, show L - 4 + 4 = L by omega]
      rw [e2]
      exact Int32.add_sub_cancel _ _
    rw [e] at h
    rcases Nat.lt_or_ge (L - 4) i with z2 | z2
    · exact absurd (nI_lt z2 hi) h
    · omega
theorem nw_ob : mw_nw "OrderBenchLaw" 8 1 ty_ob 10 := ⟨"OrderBench", T_ob, rfl, uw_ob, tp_ob, tb_13, tb_14, tb_1⟩
theorem nw_md : mw_nw "OrderBenchLaw" 53 2 ty_md 8 := ⟨"OrderBenchModel", T_md, rfl, uw_md, tp_md, tb_371, tb_372, tb_3⟩
section Law2
variable {E : mw_E} {d : Nat}
theorem lw_loop (hd : 10 ≤ d) (hlt : lw_sB E < mw_b E) (hL : lw_sL E < 2 ^ 31) : ∀ i, i ≤ lw_sL E → ∀ κ μ w n r g, lw_J E κ μ w n r g → ∀ bc bs, lw_sL E - i ≤ bc → 6 * (lw_sL E - i) ≤ bs → mw_W E m_lw_law d lw_Qe mw_no bc bs 23 (lw_L E i none none) [] (ob_h E κ n r) := by
  refine mw_sdown (lw_sL E) (fun i hi ih κ μ w n r g hJ bc bs hbc hbs => ?_)
  show mw_W E m_lw_law d lw_Qe mw_no bc bs 23 [some (.ref (lw_sB E)), some (.ref (mw_b E + 0)), some (.ref (mw_b E + 250)), some (.ref (mw_b E + 497)), some (.int (nI i)), none, none] [] (ob_h E κ n r)
  refine mw_iload4 d_lw_law_23 ?_
  refine mw_aload0 d_lw_law_25 ?_
  refine mw_slen rfl hlt d_lw_law_26 ?_
  show mw_W E m_lw_law d lw_Qe mw_no bc bs _ _ [.int (nI (lw_sL E)), .int (nI i)] _
  refine mw_iconst (v := nI 4) d_lw_law_27 (by decide) ?_
  refine mw_isub d_lw_law_28 ?_
  refine mw_icmp_gt (tgt := 905) d_lw_law_29 (by decide) (fun hc => ?_) (fun hc => ?_)
  · refine mw_iconst (v := nI 1) d_lw_law_905 (by decide) ?_
    exact mw_iret d_lw_law_906 rfl nb1 rfl
  · have hi4 := nI_sub4 hL (by omega) hc
    have hK : lw_K E d i := by
      intro κ μ w n r g hJ bc bs a b h1 h2
      show mw_W E m_lw_law d lw_Qe mw_no bc bs 899 [some (.ref (lw_sB E)), some (.ref (mw_b E + 0)), some (.ref (mw_b E + 250)), some (.ref (mw_b E + 497)), some (.int (nI i)), a, b] [] (ob_h E κ n r)
      refine mw_lo [some (.ref (lw_sB E)), some (.ref (mw_b E + 0)), some (.ref (mw_b E + 250)), some (.ref (mw_b E + 497)), some (.int (nI i)), none, none] (by simp [mw_le]) ?_
      refine mw_iinc4 d_lw_law_899 rfl (Nat.le_of_ble_eq_true rfl) ?_
      rw [show nI i + Int32.ofInt 4 = nI (i + 4) from nI_add i 4]
      refine mw_goto (tgt := 23) d_lw_law_902 (by decide) ?_
      exact ih (i + 4) (by omega) (by omega) κ μ w n r g hJ bc bs h1 h2
    refine mw_aload0 d_lw_law_32 ?_
    refine mw_iload4 d_lw_law_33 ?_
    refine lw_rd hlt hL (by omega) d_lw_law_35 ?_
    refine mw_bipush (v := nI 15) d_lw_law_36 (by decide) ?_
    refine mw_iand d_lw_law_38 ?_
    generalize lw_sX E i &&& nI 15 = x
    have hdef : (x.toInt < 0 ∨ 13 < x.toInt) → mw_W E m_lw_law d lw_Qe mw_no bc bs 39 [some (.ref (lw_sB E)), some (.ref (mw_b E + 0)), some (.ref (mw_b E + 250)), some (.ref (mw_b E + 497)), some (.int (nI i)), none, none] [.int x] (ob_h E κ n r) := by
      intro h
      refine mw_tabOut (tgt := 899) d_lw_law_39 h (by decide) ?_
      exact hK κ μ w n r g hJ bc bs none none (by omega) (by omega)
    rcases pk_ix x (n := 14) (by decide) with h | h | ⟨j, hj, rfl⟩
    · refine hdef (Or.inl ?_)
      rw [Int32.lt_iff_toInt_lt, Int32.toInt_zero] at h
      exact h
    · refine hdef (Or.inr ?_)
      rw [Int32.le_iff_toInt_le, nI_toInt (by decide)] at h
      omega
    · match j, hj with
      | 0, _ =>
        refine mw_tabIn (tgt := 108) (off := 69) d_lw_law_39 (by decide) (by decide) (by decide) (by decide) ?_
        exact lc_places hd hlt hL hi4 hJ hK hbc hbs
      | 1, _ =>
        refine mw_tabIn (tgt := 164) (off := 125) d_lw_law_39 (by decide) (by decide) (by decide) (by decide) ?_
        exact lc_way hd hlt hL hi4 hJ hK hbc hbs
      | 2, _ =>
        refine mw_tabIn (tgt := 239) (off := 200) d_lw_law_39 (by decide) (by decide) (by decide) (by decide) ?_
        exact lc_drop hd hlt hL hi4 hJ hK hbc hbs
      | 3, _ =>
        refine mw_tabIn (tgt := 314) (off := 275) d_lw_law_39 (by decide) (by decide) (by decide) (by decide) ?_
        exact lc_reaches hd hlt hL hi4 hJ hK hbc hbs
      | 4, _ =>
        refine mw_tabIn (tgt := 389) (off := 350) d_lw_law_39 (by decide) (by decide) (by decide) (by decide) ?_
        exact lc_far hd hlt hL hi4 hJ hK hbc hbs
      | 5, _ =>
        refine mw_tabIn (tgt := 457) (off := 418) d_lw_law_39 (by decide) (by decide) (by decide) (by decide) ?_
        exact lc_circle hd hlt hL hi4 hJ hK hbc hbs
      | 6, _ =>
        refine mw_tabIn (tgt := 470) (off := 431) d_lw_law_39 (by decide) (by decide) (by decide) (by decide) ?_
        exact lc_group hd hlt hL hi4 hJ hK hbc hbs
      | 7, _ =>
        refine mw_tabIn (tgt := 526) (off := 487) d_lw_law_39 (by decide) (by decide) (by decide) (by decide) ?_
        exact lc_groups hd hlt hL hi4 hJ hK hbc hbs
      | 8, _ =>
        refine mw_tabIn (tgt := 539) (off := 500) d_lw_law_39 (by decide) (by decide) (by decide) (by decide) ?_
        exact lc_order hd hlt hL hi4 hJ hK hbc hbs
      | 9, _ =>
        refine mw_tabIn (tgt := 595) (off := 556) d_lw_law_39 (by decide) (by decide) (by decide) (by decide) ?_
        exact lc_level hd hlt hL hi4 hJ hK hbc hbs
      | 10, _ =>
        refine mw_tabIn (tgt := 651) (off := 612) d_lw_law_39 (by decide) (by decide) (by decide) (by decide) ?_
        exact lc_paths hd hlt hL hi4 hJ hK hbc hbs
      | 11, _ =>
        refine mw_tabIn (tgt := 719) (off := 680) d_lw_law_39 (by decide) (by decide) (by decide) (by decide) ?_
        exact lc_gate hd hlt hL hi4 hJ hK hbc hbs
      | 12, _ =>
        refine mw_tabIn (tgt := 787) (off := 748) d_lw_law_39 (by decide) (by decide) (by decide) (by decide) ?_
        exact lc_all hd hlt hL hi4 hJ hK hbc hbs
      | 13, _ =>
        refine mw_tabIn (tgt := 874) (off := 835) d_lw_law_39 (by decide) (by decide) (by decide) (by decide) ?_
        exact lc_count hd hlt hL hi4 hJ hK hbc hbs
def lw_r0 (E : mw_E) : Nat → mw_O := fun k => if 250 ≤ k ∧ k < 497 then md_o (mw_b E) md_K0 k else .inr (4, 1, fun _ => .long 0)
theorem lw_J0 : lw_J E ob_K0 md_K0 (fun _ _ => false) 498 (lw_r0 E) (fun _ => .long 0) := by
  refine ⟨⟨fun p q z => Bool.noConfusion z, by decide, by decide, fun p _ i => rfl, fun p _ i => rfl⟩, ⟨fun p q z => Bool.noConfusion z, by decide, by decide, fun p q _ _ => rfl⟩, rfl, Nat.le_refl _, fun k h1 h2 => ?_, ?_⟩
  · unfold lw_r0
    rw [if_pos ⟨h1, h2⟩]
  · unfold lw_r0
    rw [if_neg (by decide)]
theorem ct_law {z : Nat → mw_O} (hd : 10 ≤ d) (hlt : lw_sB E < mw_b E) (hL : lw_sL E < 2 ^ 31) : mw_Ct E m_lw_law d (498 + lw_sL E) (30627 + 6 * lw_sL E) [.ref (lw_sB E)] (0, z) lw_Qe mw_no := by
  show mw_W E m_lw_law d lw_Qe mw_no (498 + lw_sL E) (30627 + 6 * lw_sL E) 0 [some (.ref (lw_sB E))] [] (0, z)
  refine mw_lo [some (.ref (lw_sB E)), none, none, none, none, none, none] (by simp [mw_le]) ?_
  refine mw_new nw_ob d_lw_law_0 (by omega) (by omega) ?_
  refine mw_dup d_lw_law_3 rfl ?_
  refine mw_cI0v (d' := d - 1) (a := 0) lk_lw_law_ob_init d_lw_law_4 (Nat.le_of_ble_eq_true rfl) (ct_obinit (r := z) (by omega) (mw_up_s _ _ _)) (by omega) (Nat.le_of_ble_eq_true rfl) (by omega) (by omega) ?_
  refine mw_astore1 d_lw_law_7 rfl (Nat.le_of_ble_eq_true rfl) ?_
  refine mw_new nw_md d_lw_law_8 (by omega) (by omega) ?_
  refine mw_dup d_lw_law_11 rfl ?_
  refine mw_cI0v (d' := d - 1) (a := 250) lk_lw_law_md_init d_lw_law_12 (Nat.le_of_ble_eq_true rfl) (ct_mdinit (by omega) (mw_up_s _ _ _)) (by omega) (Nat.le_of_ble_eq_true rfl) (by omega) (by omega) ?_
  refine mw_astore2 d_lw_law_15 rfl (Nat.le_of_ble_eq_true rfl) ?_
  refine mw_iconst (v := nI 1) d_lw_law_16 (by decide) ?_
  refine mw_newa (t := 4) (N := 1) (at9 := .long) (fun _ => rfl) (fun _ _ h => va_nm_long h) tb_507 d_lw_law_17 (nI_pos (by decide)) (nI_clamp (by decide)) (by decide) (by omega) (by omega) ?_
  refine mw_ext1 (n := 497) (g := (ob_h E ob_K0 498 (lw_r0 E)).2) (Or.inl rfl) (fun k hk => ?_) ?_
  · show (if 250 ≤ k ∧ k < 497 then md_o (mw_b E) md_K0 k else va_up (ob_h E ob_K0 250 z).2 250 _ k) = if k < 250 then ob_o (mw_b E) ob_K0 k else lw_r0 E k
    by_cases h1 : k < 250
    · rw [if_neg (show ¬ (250 ≤ k ∧ k < 497) by omega), if_pos h1, mw_up_n _ _ (show k ≠ 250 by omega)]
      show (if k < 250 then ob_o (mw_b E) ob_K0 k else z k) = _
      rw [if_pos h1]
    · rw [if_pos (show 250 ≤ k ∧ k < 497 by omega), if_neg h1]
      unfold lw_r0
      rw [if_pos (show 250 ≤ k ∧ k < 497 by omega)]
  refine mw_astore3 d_lw_law_19 rfl (Nat.le_of_ble_eq_true rfl) ?_
  refine mw_iconst (v := nI 0) d_lw_law_20 (by decide) ?_
  refine mw_istore4 d_lw_law_21 rfl (Nat.le_of_ble_eq_true rfl) ?_
  exact lw_loop hd hlt hL 0 (Nat.zero_le _) _ _ _ _ _ _ lw_J0 _ _ (by omega) (by omega)
end Law2
