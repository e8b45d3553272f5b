/-! OrderBench: tallyPaths, order, level, paths. -/
section Paths
variable {E : mw_E} {d n : Nat} {κ : ob_K} {r : Nat → mw_O} {w : Nat → Nat → Bool}
theorem ct_tallyPaths {a : Nat} (hd : 3 ≤ d) (hn : 250 ≤ n) (hI : ob_I κ w) (ha : a < κ.1) {κ0 : ob_K} (h0 : or_laid κ κ0 w) (hok : or_ok κ.1 w κ.1) : mw_Ct E m_ob_tallyPaths d 0 0 [.ref (mw_b E + 0), .int (nI a)] (ob_h E κ0 n r) (fun v h' => v = none ∧ ∃ κ', h' = ob_h E κ' n r ∧ or_row κ κ' w (or_tp κ.1 w a κ.1)) mw_no := by
  show mw_W E m_ob_tallyPaths d _ _ 0 0 0 [some (.ref (mw_b E + 0)), some (.int (nI a))] [] (ob_h E κ0 n r)
  have h3 := hI.2.2.1
  have hw := hI.1
  have key : ∀ i, i ≤ κ.1 → ∀ κ' x2 x3, or_row κ κ' w (or_tp κ.1 w a i) → mw_W E m_ob_tallyPaths d (fun v h' => v = none ∧ ∃ κ', h' = ob_h E κ' n r ∧ or_row κ κ' w (or_tp κ.1 w a κ.1)) mw_no 0 0 17 [some (.ref (mw_b E + 0)), some (.int (nI a)), some (.int (nI i)), x2, x3] [] (ob_h E κ' n r) := by
    refine mw_down κ.1 (fun i hi ih κ' x2 x3 hrow => ?_)
    have hN := hrow.1.1.1
    refine mw_lo [some (.ref (mw_b E + 0)), some (.int (nI a)), some (.int (nI i)), none, none] (by simp [mw_le]) ?_
    refine mw_iload2 d_ob_tallyPaths_17 ?_
    refine mw_aload0 d_ob_tallyPaths_18 ?_
    refine gf_ob_size d_ob_tallyPaths_19 hn rfl ?_
    refine mw_icmp_ge (tgt := 101) d_ob_tallyPaths_22 (by decide) (fun hc => ?_) (fun hc => ?_)
    · rw [hN] at hc
      have e : i = κ.1 := by
        have := (nI_leI (by omega) (by omega)).mp hc
        omega
      subst e
      exact mw_vret d_ob_tallyPaths_101 rfl ⟨rfl, κ', rfl, hrow⟩
    · have hlt : i < κ.1 := by
        rcases Nat.lt_or_ge i κ.1 with z | z
        · exact z
        · rw [hN] at hc; exact absurd (nI_le z (by omega)) hc
      have hl := hok i hlt
      have hslf := or_self hw hl
      generalize hp : or_ln κ.1 w i = p at hl hslf
      have hF : ∀ i, w p i = true → i < κ.1 := fun i hi => (hw p i hi).2
      have hs : ∀ κ1, ob_keep κ κ1 → κ1.2.1 (2 * p + 0) = w p := fun κ1 hk => by
        rw [hk.2 _ (by omega)]
        exact funext (fun i => hI.2.2.2.1 p hl i)
      have inner : ∀ f, f ≤ 128 → ∀ κ', or_row κ κ' w (or_go (w p) (or_tp κ.1 w a i) (fun q => (or_tp κ.1 w a i q + or_tp κ.1 w a i p) % or_M) f) → mw_W E m_ob_tallyPaths d (fun v h' => v = none ∧ ∃ κ', h' = ob_h E κ' n r ∧ or_row κ κ' w (or_tp κ.1 w a κ.1)) mw_no 0 0 44 [some (.ref (mw_b E + 0)), some (.int (nI a)), some (.int (nI i)), some (.int (nI p)), some (.int (nI (bt_nx (w p) f)))] [] (ob_h E κ' n r) := by
        refine mw_sdown 128 (fun f hf ih2 κ' hrow => ?_)
        have hN := hrow.1.1.1
        have hle := bt_nx_le (w p) f
        refine mw_iload4 d_ob_tallyPaths_44 ?_
        refine mw_aload0 d_ob_tallyPaths_46 ?_
        refine gf_ob_size d_ob_tallyPaths_47 hn rfl ?_
        refine mw_icmp_ge (tgt := 95) d_ob_tallyPaths_50 (by decide) (fun hc2 => ?_) (fun hc2 => ?_)
        · rw [hN] at hc2
          have hge : κ.1 ≤ bt_nx (w p) f := (nI_leI (by omega) (by omega)).mp hc2
          obtain ⟨-, hall⟩ := bt_nx_N hF hge (by omega)
          rw [or_go_end hall] at hrow
          refine mw_inc2 d_ob_tallyPaths_95 rfl (Nat.le_of_ble_eq_true rfl) ?_
          refine mw_goto (tgt := 17) d_ob_tallyPaths_98 (by decide) ?_
          refine ih hlt κ' _ _ ⟨hrow.1, fun q hq => ?_⟩
          rw [hrow.2 q hq, or_tp_step hw (by rw [hp]; exact hl), hp]
        · have hq : bt_nx (w p) f < κ.1 := by
            rcases Nat.lt_or_ge (bt_nx (w p) f) κ.1 with z | z
            · exact z
            · rw [hN] at hc2; exact absurd (nI_le z (by omega)) hc2
          have h128 : bt_nx (w p) f < 128 := by omega
          have b1 : or_tp κ.1 w a i (bt_nx (w p) f) < 1000003 := or_tp_lt i (bt_nx (w p) f)
          have b2 : or_tp κ.1 w a i p < 1000003 := or_tp_lt i p
          refine mw_aload0 d_ob_tallyPaths_53 ?_
          refine gf_ob_tally d_ob_tallyPaths_54 hn rfl ?_
          refine mw_iload4 d_ob_tallyPaths_57 ?_
          refine mw_aload0 d_ob_tallyPaths_59 ?_
          refine gf_ob_tally d_ob_tallyPaths_60 hn rfl ?_
          refine mw_iload4 d_ob_tallyPaths_63 ?_
          refine ob_il (j := 2) (by omega) (by omega) d_ob_tallyPaths_65 hn ?_
          rw [hrow.2 _ hq, (or_go_at h128).2]
          refine mw_aload0 d_ob_tallyPaths_66 ?_
          refine gf_ob_tally d_ob_tallyPaths_67 hn rfl ?_
          refine mw_iload3 d_ob_tallyPaths_70 ?_
          refine ob_il (j := 2) (by omega) (by omega) d_ob_tallyPaths_71 hn ?_
          rw [hrow.2 _ hl, or_go_no hslf]
          refine mw_iadd d_ob_tallyPaths_72 ?_
          refine mw_ldc d_ob_tallyPaths_73 tb_352 ?_
          refine mw_irem d_ob_tallyPaths_75 (by decide) ?_
          rw [nI_add]
          refine mw_topi (nI_rem (m := 1000003) (by omega) (by decide)) ?_
          refine ob_is (j := 2) (by omega) (by omega) d_ob_tallyPaths_76 hn ?_
          have hrow2 := or_row_up (q := bt_nx (w p) f) hrow (t' := or_go (w p) (or_tp κ.1 w a i) (fun q => (or_tp κ.1 w a i q + or_tp κ.1 w a i p) % or_M) (bt_nx (w p) f + 1)) (fun j hj => or_go_ne h128 hj)
          rw [(or_go_at h128).1] at hrow2
          refine mw_aload0 d_ob_tallyPaths_77 ?_
          refine gf_ob_out d_ob_tallyPaths_78 hn rfl ?_
          refine mw_iload3 d_ob_tallyPaths_81 ?_
          refine ob_al (o := 0) (by omega) (by omega) d_ob_tallyPaths_82 hn ?_
          refine mw_iload4 d_ob_tallyPaths_83 ?_
          refine mw_iconst (v := nI 1) d_ob_tallyPaths_85 (by decide) ?_
          refine mw_iadd d_ob_tallyPaths_86 ?_
          refine mw_topi (nI_1 _) ?_
          refine mw_cV1e lk_ob_tallyPaths_ps_next d_ob_tallyPaths_87 (ob_lt hn (by omega)) (ob_gS (by omega)) (Nat.le_of_ble_eq_true rfl) (oc_next (d := d - 1) (by omega) hn (by omega) (by omega)) (by omega) (Nat.le_of_ble_eq_true rfl) (Nat.zero_le _) (Nat.zero_le _) ?_
          refine mw_topi (congrArg (fun s => nI (bt_nx s _)) (hs _ hrow2.1.1)) ?_
          refine mw_istore4 d_ob_tallyPaths_90 rfl (Nat.le_of_ble_eq_true rfl) ?_
          refine mw_goto (tgt := 44) d_ob_tallyPaths_92 (by decide) ?_
          exact mw_bud (Nat.zero_le _) (Nat.zero_le _) (ih2 _ (by have := (bt_nx_in h128).2; omega) (by omega) _ hrow2)
      refine mw_aload0 d_ob_tallyPaths_25 ?_
      refine gf_ob_line d_ob_tallyPaths_26 hn rfl ?_
      refine mw_iload2 d_ob_tallyPaths_29 ?_
      refine ob_il (j := 0) (by omega) (by omega) d_ob_tallyPaths_30 hn ?_
      rw [hrow.1.2 i hlt, hp]
      refine mw_istore3 d_ob_tallyPaths_31 rfl (Nat.le_of_ble_eq_true rfl) ?_
      refine mw_aload0 d_ob_tallyPaths_32 ?_
      refine gf_ob_out d_ob_tallyPaths_33 hn rfl ?_
      refine mw_iload3 d_ob_tallyPaths_36 ?_
      refine ob_al (o := 0) (by omega) (by omega) d_ob_tallyPaths_37 hn ?_
      refine mw_iconst (v := nI 0) d_ob_tallyPaths_38 (by decide) ?_
      refine mw_cV1e lk_ob_tallyPaths_ps_next d_ob_tallyPaths_39 (ob_lt hn (by omega)) (ob_gS (by omega)) (Nat.le_of_ble_eq_true rfl) (oc_next (d := d - 1) (f := 0) (by omega) hn (by omega) (by omega)) (by omega) (Nat.le_of_ble_eq_true rfl) (Nat.zero_le _) (Nat.zero_le _) ?_
      refine mw_topi (congrArg (fun s => nI (bt_nx s _)) (hs _ hrow.1.1)) ?_
      refine mw_istore4 d_ob_tallyPaths_42 rfl (Nat.le_of_ble_eq_true rfl) ?_
      exact mw_bud (Nat.zero_le _) (Nat.zero_le _) (inner 0 (by omega) κ' (by rw [or_go0]; exact hrow))
  refine mw_lo [some (.ref (mw_b E + 0)), some (.int (nI a)), none, none, none] (by simp [mw_le]) ?_
  refine mw_aload0 d_ob_tallyPaths_0 ?_
  refine gf_ob_tally d_ob_tallyPaths_1 hn rfl ?_
  refine mw_iconst (v := nI 0) d_ob_tallyPaths_4 (by decide) ?_
  refine mw_cS2 (d' := d - 1) lk_ob_tallyPaths_ja_fill d_ob_tallyPaths_5 (Nat.le_of_ble_eq_true rfl) (ct_fill hn) (by omega) (Nat.le_of_ble_eq_true rfl) (Nat.zero_le _) (Nat.zero_le _) ?_ (fun _ _ q => q.elim)
  rintro v h' ⟨rfl, R, rfl, hR⟩
  show mw_W E m_ob_tallyPaths d _ _ _ _ _ _ [] _
  refine mw_aload0 d_ob_tallyPaths_8 ?_
  refine gf_ob_tally d_ob_tallyPaths_9 hn rfl ?_
  refine mw_iload1 d_ob_tallyPaths_12 ?_
  refine mw_iconst (v := nI 1) d_ob_tallyPaths_13 (by decide) ?_
  refine ob_is (j := 2) (by omega) (by omega) d_ob_tallyPaths_14 hn ?_
  refine mw_iconst (v := nI 0) d_ob_tallyPaths_15 (by decide) ?_
  refine mw_istore2 d_ob_tallyPaths_16 rfl (Nat.le_of_ble_eq_true rfl) ?_
  refine mw_bud (Nat.zero_le _) (Nat.zero_le _) (key 0 (by omega) _ _ _ ⟨⟨⟨h0.1.1, h0.1.2⟩, fun j hj => ?_⟩, fun q hq => ?_⟩)
  · rw [ob_r2n _ _ _ _ (show (0 : Nat) ≠ 2 by decide), ob_r2n _ _ _ _ (show (0 : Nat) ≠ 2 by decide)]; exact h0.2 j hj
  · rw [ob_r2, ob_r2, or_tp0]
    by_cases e : q = a
    · rw [e, mw_up_s, if_pos rfl]
    · rw [mw_up_n _ _ e, hR q (by omega), if_neg e]
/-- an answer where there is THE ORDER -/
def ob_Qo (E : mw_E) (κ : ob_K) (n : Nat) (r : Nat → mw_O) (w : Nat → Nat → Bool) (v0 : Option Value) : Option Value → mw_H → Prop := fun v h' => or_ok κ.1 w κ.1 ∧ ob_Q E κ n r v0 v h'
theorem ob_line {M : mw_M} {bc bs pc idx : Nat} {Q : Option Value → mw_H → Prop} {lo : List (Option Value)} {st : List Value} (hwk : mw_lkV M m_ob_lineUp idx 0 1) (hd9 : decode M.2.1 pc = .ok (.invokevirtual idx, 3)) (hn : 250 ≤ n) (hI : ob_I κ w) (htab : M.2.2.2.2 = []) (hd : 7 ≤ d) (hbc : 1 ≤ bc) (hbs : 6 ≤ bs) (hst : (st.map fun v => v.category).sum ≤ 8) (k : or_ok κ.1 w κ.1 → ∀ κ', or_laid κ κ' w → mw_W E M d Q (ob_XL E κ n r w) (bc - 1) (bs - 6) (pc + 3) lo st (ob_h E κ' n r)) : mw_W E M d Q (ob_XL E κ n r w) bc bs pc lo (.ref (mw_b E + 0) :: st) (ob_h E κ n r) := by
  refine mw_cV0 (d' := d - 1) hwk hd9 (ob_lt hn (by decide)) ob_g0 (Nat.le_of_ble_eq_true rfl) (ct_lineUp (by omega) hn hI) (by omega) hst hbc hbs ?_ ?_
  · rintro v h' ⟨rfl, hok, κ', rfl, hk, hl⟩
    exact k hok κ' ⟨hk, hl⟩
  · intro x h' hx
    exact mw_out (by rw [htab]; exact fun x hx => nomatch hx) hx
theorem ct_order {i : Nat} (hd : 7 ≤ d) (hn : 250 ≤ n) (hI : ob_I κ w) (hi : i < κ.1) : mw_Ct E m_ob_order d 1 6 [.ref (mw_b E + 0), .int (nI i)] (ob_h E κ n r) (ob_Qo E κ n r w (some (.int (nI (or_ln κ.1 w i))))) (ob_XL E κ n r w) := by
  show mw_W E m_ob_order d _ _ 1 6 0 [some (.ref (mw_b E + 0)), some (.int (nI i))] [] (ob_h E κ n r)
  have h3 := hI.2.2.1
  refine mw_aload0 d_ob_order_0 ?_
  refine mw_iload1 d_ob_order_1 ?_
  refine ob_must lk_ob_order_ob_mustBePlace d_ob_order_2 hn h3 hi (by omega) (Nat.le_of_ble_eq_true rfl) ?_
  refine mw_aload0 d_ob_order_5 ?_
  refine ob_line lk_ob_order_ob_lineUp d_ob_order_6 hn hI rfl hd (Nat.le_refl _) (Nat.le_refl _) (Nat.le_of_ble_eq_true rfl) (fun hok κ' hl => ?_)
  refine mw_aload0 d_ob_order_9 ?_
  refine gf_ob_line d_ob_order_10 hn rfl ?_
  refine mw_iload1 d_ob_order_13 ?_
  refine ob_il (j := 0) (by omega) (by omega) d_ob_order_14 hn ?_
  rw [hl.2 i hi]
  exact mw_iret d_ob_order_15 rfl rfl ⟨hok, rfl, κ', rfl, hl.1⟩
theorem ct_level {i : Nat} (hd : 7 ≤ d) (hn : 250 ≤ n) (hI : ob_I κ w) (hi : i < κ.1) : mw_Ct E m_ob_level d 1 6 [.ref (mw_b E + 0), .int (nI i)] (ob_h E κ n r) (ob_Qo E κ n r w (some (.int (nI (or_lv κ.1 w κ.1 i))))) (ob_XL E κ n r w) := by
  show mw_W E m_ob_level d _ _ 1 6 0 [some (.ref (mw_b E + 0)), some (.int (nI i))] [] (ob_h E κ n r)
  have h3 := hI.2.2.1
  refine mw_aload0 d_ob_level_0 ?_
  refine mw_iload1 d_ob_level_1 ?_
  refine ob_must lk_ob_level_ob_mustBePlace d_ob_level_2 hn h3 hi (by omega) (Nat.le_of_ble_eq_true rfl) ?_
  refine mw_aload0 d_ob_level_5 ?_
  refine ob_line lk_ob_level_ob_lineUp d_ob_level_6 hn hI rfl hd (Nat.le_refl _) (Nat.le_refl _) (Nat.le_of_ble_eq_true rfl) (fun hok κ' hl => ?_)
  refine mw_aload0 d_ob_level_9 ?_
  refine mw_cV0 (d' := d - 1) lk_ob_level_ob_tallyLongest d_ob_level_10 (ob_lt hn (by decide)) ob_g0 (Nat.le_of_ble_eq_true rfl) (ct_tallyLongest (by omega) hn hI hl hok) (by omega) (Nat.le_of_ble_eq_true rfl) (Nat.zero_le _) (Nat.zero_le _) ?_ (fun _ _ q => q.elim)
  rintro v h' ⟨rfl, κ2, rfl, hrow⟩
  show mw_W E m_ob_level d _ _ _ _ _ _ [] _
  refine mw_aload0 d_ob_level_13 ?_
  refine gf_ob_tally d_ob_level_14 hn rfl ?_
  refine mw_iload1 d_ob_level_17 ?_
  refine ob_il (j := 2) (by omega) (by omega) d_ob_level_18 hn ?_
  rw [hrow.2 i hi, or_tl_end hI.1 hok hi]
  exact mw_iret d_ob_level_19 rfl rfl ⟨hok, rfl, κ2, rfl, hrow.1.1⟩
theorem ct_paths {a b : Nat} (hd : 7 ≤ d) (hn : 250 ≤ n) (hI : ob_I κ w) (ha : a < κ.1) (hb : b < κ.1) : mw_Ct E m_ob_paths d 1 6 [.ref (mw_b E + 0), .int (nI a), .int (nI b)] (ob_h E κ n r) (ob_Qo E κ n r w (some (.int (nI (or_ps κ.1 w a κ.1 b))))) (ob_XL E κ n r w) := by
  show mw_W E m_ob_paths d _ _ 1 6 0 [some (.ref (mw_b E + 0)), some (.int (nI a)), some (.int (nI b))] [] (ob_h E κ n r)
  have h3 := hI.2.2.1
  refine mw_aload0 d_ob_paths_0 ?_
  refine mw_iload1 d_ob_paths_1 ?_
  refine ob_must lk_ob_paths_ob_mustBePlace d_ob_paths_2 hn h3 ha (by omega) (Nat.le_of_ble_eq_true rfl) ?_
  refine mw_aload0 d_ob_paths_5 ?_
  refine mw_iload2 d_ob_paths_6 ?_
  refine ob_must lk_ob_paths_ob_mustBePlace d_ob_paths_7 hn h3 hb (by omega) (Nat.le_of_ble_eq_true rfl) ?_
  refine mw_aload0 d_ob_paths_10 ?_
  refine ob_line lk_ob_paths_ob_lineUp d_ob_paths_11 hn hI rfl hd (Nat.le_refl _) (Nat.le_refl _) (Nat.le_of_ble_eq_true rfl) (fun hok κ' hl => ?_)
  refine mw_aload0 d_ob_paths_14 ?_
  refine mw_iload1 d_ob_paths_15 ?_
  refine mw_cV1 (d' := d - 1) lk_ob_paths_ob_tallyPaths d_ob_paths_16 (ob_lt hn (by decide)) ob_g0 (Nat.le_of_ble_eq_true rfl) (ct_tallyPaths (by omega) hn hI ha hl hok) (by omega) (Nat.le_of_ble_eq_true rfl) (Nat.zero_le _) (Nat.zero_le _) ?_ (fun _ _ q => q.elim)
  rintro v h' ⟨rfl, κ2, rfl, hrow⟩
  show mw_W E m_ob_paths d _ _ _ _ _ _ [] _
  refine mw_aload0 d_ob_paths_19 ?_
  refine gf_ob_tally d_ob_paths_20 hn rfl ?_
  refine mw_iload2 d_ob_paths_23 ?_
  refine ob_il (j := 2) (by omega) (by omega) d_ob_paths_24 hn ?_
  rw [hrow.2 b hb, or_tp_end hI.1 hok hb]
  exact mw_iret d_ob_paths_25 rfl rfl ⟨hok, rfl, κ2, rfl, hrow.1.1⟩
end Paths
