/-! OrderBench: release and lineUp. -/
theorem ob_r2 (N : Nat) (S : Nat → Nat → Bool) (R : Nat → Nat → Int32) (j : Nat) (x : Nat → Int32) : ((N, S, va_up R j x) : ob_K).2.2 j = x := mw_up_s _ _ _
theorem ob_r2n (N : Nat) (S : Nat → Nat → Bool) (R : Nat → Nat → Int32) {i j : Nat} (x : Nat → Int32) (h : i ≠ j) : ((N, S, va_up R j x) : ob_K).2.2 i = R i := mw_up_n _ _ h
theorem ob_s2 (N : Nat) (S : Nat → Nat → Bool) (R : Nat → Nat → Int32) (j : Nat) (x : Nat → Bool) : ((N, va_up S j x, R) : ob_K).2.1 j = x := mw_up_s _ _ _
theorem ob_s2n (N : Nat) (S : Nat → Nat → Bool) (R : Nat → Nat → Int32) {i j : Nat} (x : Nat → Bool) (h : i ≠ j) : ((N, va_up S j x, R) : ob_K).2.1 i = S i := mw_up_n _ _ h
def or_rel (κ κ' : ob_K) (s : Nat → Bool) : Prop := κ'.1 = κ.1 ∧ (∀ j, j ≠ 241 → κ'.2.1 j = κ.2.1 j) ∧ κ'.2.2 0 = κ.2.2 0 ∧ (∀ q, κ'.2.2 1 q = if s q = true then κ.2.2 1 q - nI 1 else κ.2.2 1 q) ∧ ∀ q, q < 128 → κ'.2.1 241 q = (κ.2.1 241 q || (s q && decide (κ'.2.2 1 q = nI 0)))
theorem or_rel0 (κ : ob_K) (s : Nat → Bool) : or_rel κ κ (bt_vis s 0) := by
  refine ⟨rfl, fun _ _ => rfl, rfl, fun q => ?_, fun q _ => ?_⟩
  · rw [bt_vis_0]; rfl
  · rw [bt_vis_0]; simp
theorem or_rel_step {κ κ' : ob_K} {s : Nat → Bool} {f : Nat} {S2 : Nat → Nat → Bool} {x : Int32} (h : or_rel κ κ' (bt_vis s f)) (hq : bt_nx s f < 128) (hx : x = κ'.2.2 1 (bt_nx s f) - nI 1) (hS : ∀ j, j ≠ 241 → S2 j = κ'.2.1 j) (h2 : ∀ i, i < 128 → S2 241 i = (κ'.2.1 241 i || (decide (i = bt_nx s f) && decide (x = nI 0)))) : or_rel κ (κ'.1, S2, va_up κ'.2.2 1 (va_up (κ'.2.2 1) (bt_nx s f) x)) (bt_vis s (bt_nx s f + 1)) := by
  obtain ⟨a1, a2, a3, a4, a5⟩ := h
  have hv : bt_vis s f (bt_nx s f) = false := by
    have := (bt_nx_in hq).2
    unfold bt_vis
    rw [decide_eq_false (by omega), Bool.and_false]
  refine ⟨a1, fun j hj => (hS j hj).trans (a2 j hj), ?_, fun q => ?_, fun q hq9 => ?_⟩
  · rw [ob_r2n _ _ _ _ (by decide)]; exact a3
  · rw [ob_r2, bt_vis_step hq]
    by_cases e : q = bt_nx s f
    · rw [e, mw_up_s, hx, a4, hv]
      simp
    · rw [mw_up_n _ _ e, a4, decide_eq_false e, Bool.or_false]
  · rw [ob_r2]
    show S2 241 q = _
    rw [bt_vis_step hq, h2 q hq9, a5 q hq9]
    by_cases e : q = bt_nx s f
    · rw [e, mw_up_s, hv]
      simp
    · rw [mw_up_n _ _ e, decide_eq_false e]
      simp
section Line
variable {E : mw_E} {d n : Nat} {κ : ob_K} {r : Nat → mw_O} {w : Nat → Nat → Bool}
theorem ct_release {p : Nat} (hd : 3 ≤ d) (hn : 250 ≤ n) (hI : ob_I κ w) (hp : p < κ.1) : mw_Ct E m_ob_release d 0 0 [.ref (mw_b E + 0), .int (nI p)] (ob_h E κ n r) (fun v h' => v = none ∧ ∃ κ', h' = ob_h E κ' n r ∧ or_rel κ κ' (w p)) mw_no := by
  show mw_W E m_ob_release d _ _ 0 0 0 [some (.ref (mw_b E + 0)), some (.int (nI p))] [] (ob_h E κ n r)
  refine mw_lo [some (.ref (mw_b E + 0)), some (.int (nI p)), none] (by simp [mw_le]) ?_
  have h3 := hI.2.2.1
  have hs : κ.2.1 (2 * p + 0) = w p := funext (fun i => hI.2.2.2.1 p hp i)
  have hF : ∀ i, w p i = true → i < κ.1 := fun i hi => (hI.1 p i hi).2
  have key : ∀ f, f ≤ 128 → ∀ κ', or_rel κ κ' (bt_vis (w p) f) → mw_W E m_ob_release d (fun v h' => v = none ∧ ∃ κ', h' = ob_h E κ' n r ∧ or_rel κ κ' (w p)) mw_no 0 0 11 [some (.ref (mw_b E + 0)), some (.int (nI p)), some (.int (nI (bt_nx (w p) f)))] [] (ob_h E κ' n r) := by
    refine mw_sdown 128 (fun f hf ih κ' hrel => ?_)
    have hN := hrel.1
    have hle := bt_nx_le (w p) f
    refine mw_iload2 d_ob_release_11 ?_
    refine mw_aload0 d_ob_release_12 ?_
    refine gf_ob_size d_ob_release_13 hn rfl ?_
    refine mw_icmp_ge (tgt := 62) d_ob_release_16 (by decide) (fun hc => ?_) (fun hc => ?_)
    · rw [hN] at hc
      have hge : κ.1 ≤ bt_nx (w p) f := (nI_leI (by omega) (by omega)).mp hc
      obtain ⟨-, hall⟩ := bt_nx_N hF hge (by omega)
      refine mw_vret d_ob_release_62 rfl ⟨rfl, κ', rfl, ?_⟩
      have e : bt_vis (w p) f = w p := funext (bt_vis_end hall)
      rw [e] at hrel
      exact hrel
    · have hlt : bt_nx (w p) f < κ.1 := by
        rcases Nat.lt_or_ge (bt_nx (w p) f) κ.1 with z | z
        · exact z
        · rw [hN] at hc; exact absurd (nI_le z (by omega)) hc
      have h128 : bt_nx (w p) f < 128 := by omega
      have k46 : ∀ S2 bc bs, or_rel κ (κ'.1, S2, va_up κ'.2.2 1 (va_up (κ'.2.2 1) (bt_nx (w p) f) (κ'.2.2 1 (bt_nx (w p) f) - nI 1))) (bt_vis (w p) (bt_nx (w p) f + 1)) → mw_W E m_ob_release d (fun v h' => v = none ∧ ∃ κ', h' = ob_h E κ' n r ∧ or_rel κ κ' (w p)) mw_no bc bs 46 [some (.ref (mw_b E + 0)), some (.int (nI p)), some (.int (nI (bt_nx (w p) f)))] [] (ob_h E (κ'.1, S2, va_up κ'.2.2 1 (va_up (κ'.2.2 1) (bt_nx (w p) f) (κ'.2.2 1 (bt_nx (w p) f) - nI 1))) n r) := by
        intro S2 bc bs hrel2
        have e2 : S2 (2 * p + 0) = w p := by rw [← hs]; exact hrel2.2.1 (2 * p + 0) (by omega)
        refine mw_aload0 d_ob_release_46 ?_
        refine gf_ob_out d_ob_release_47 hn rfl ?_
        refine mw_iload1 d_ob_release_50 ?_
        refine ob_al (o := 0) (by omega) (by omega) d_ob_release_51 hn ?_
        refine mw_iload2 d_ob_release_52 ?_
        refine mw_iconst (v := nI 1) d_ob_release_53 (by decide) ?_
        refine mw_iadd d_ob_release_54 ?_
        refine mw_topi (nI_1 _) ?_
        refine mw_cV1e lk_ob_release_ps_next d_ob_release_55 (ob_lt hn (by omega)) (ob_gS (by omega)) (Nat.le_of_ble_eq_true rfl) (oc_next (d := d - 1) (by omega) hn (by omega) (by omega)) (by omega) (Nat.le_of_ble_eq_true rfl) (Nat.zero_le _) (Nat.zero_le _) ?_
        refine mw_topi (congrArg (fun s => nI (bt_nx s _)) e2) ?_
        refine mw_istore2 d_ob_release_58 rfl (Nat.le_of_ble_eq_true rfl) ?_
        refine mw_goto (tgt := 11) d_ob_release_59 (by decide) ?_
        exact mw_bud (Nat.zero_le _) (Nat.zero_le _) (ih _ (by have := (bt_nx_in h128).2; omega) (by omega) _ hrel2)
      refine mw_aload0 d_ob_release_19 ?_
      refine gf_ob_waiting d_ob_release_20 hn rfl ?_
      refine mw_iload2 d_ob_release_23 ?_
      refine mw_dup2 d_ob_release_24 rfl rfl ?_
      refine ob_il (j := 1) (by omega) (by omega) d_ob_release_25 hn ?_
      refine mw_iconst (v := nI 1) d_ob_release_26 (by decide) ?_
      refine mw_isub d_ob_release_27 ?_
      refine ob_is (j := 1) (by omega) (by omega) d_ob_release_28 hn ?_
      refine mw_aload0 d_ob_release_29 ?_
      refine gf_ob_waiting d_ob_release_30 hn rfl ?_
      refine mw_iload2 d_ob_release_33 ?_
      refine ob_il (j := 1) (by omega) (by omega) d_ob_release_34 hn ?_
      rw [ob_r2, mw_up_s]
      refine mw_if_ne (tgt := 46) d_ob_release_35 (by decide) (fun hc2 => ?_) (fun hc2 => ?_)
      · refine k46 κ'.2.1 _ _ (or_rel_step hrel h128 rfl (fun _ _ => rfl) (fun i hi => ?_))
        rw [decide_eq_false (p := _ = nI 0) hc2, Bool.and_false, Bool.or_false]
      · refine mw_aload0 d_ob_release_38 ?_
        refine gf_ob_rim d_ob_release_39 hn rfl ?_
        refine mw_iload2 d_ob_release_42 ?_
        refine mw_cV1v lk_ob_release_ps_add d_ob_release_43 (ob_lt hn (by omega)) (ob_gS (by omega)) (Nat.le_of_ble_eq_true rfl) (oc_add (d := d - 1) (by omega) hn (by omega) _) (by omega) (Nat.le_of_ble_eq_true rfl) (Nat.zero_le _) (Nat.zero_le _) ?_
        refine k46 (va_up κ'.2.1 241 (fun i => κ'.2.1 241 i || bt_one (nI (bt_nx (w p) f)) i)) _ _ (or_rel_step hrel h128 rfl (fun j hj => mw_up_n _ _ hj) (fun i hi => ?_))
        rw [mw_up_s, bt_one_nI (by omega) (by omega), decide_eq_true (p := _ = nI 0) hc2, Bool.and_true]
  refine mw_aload0 d_ob_release_0 ?_
  refine gf_ob_out d_ob_release_1 hn rfl ?_
  refine mw_iload1 d_ob_release_4 ?_
  refine ob_al (o := 0) (by omega) (by omega) d_ob_release_5 hn ?_
  refine mw_iconst (v := nI 0) d_ob_release_6 (by decide) ?_
  refine mw_cV1e lk_ob_release_ps_next d_ob_release_7 (ob_lt hn (by omega)) (ob_gS (by omega)) (Nat.le_of_ble_eq_true rfl) (oc_next (d := d - 1) (f := 0) (by omega) hn (by omega) (by omega)) (by omega) (Nat.le_of_ble_eq_true rfl) (Nat.zero_le _) (Nat.zero_le _) ?_
  rw [hs]
  refine mw_istore2 d_ob_release_10 rfl (Nat.le_of_ble_eq_true rfl) ?_
  exact mw_bud (Nat.zero_le _) (Nat.zero_le _) (key 0 (by omega) κ (or_rel0 κ (w p)))
/-- the line as far as i -/
def or_lin (κ κ' : ob_K) (w : Nat → Nat → Bool) (i : Nat) : Prop := κ'.1 = κ.1 ∧ (∀ j, j ≠ 241 → κ'.2.1 j = κ.2.1 j) ∧ (∀ j, j < i → κ'.2.2 0 j = nI (or_ln κ.1 w j)) ∧ (∀ q, q < κ.1 → κ'.2.2 1 q = nI (or_wt κ.1 w (or_P κ.1 w i) q)) ∧ ∀ q, q < 128 → κ'.2.1 241 q = (decide (q < κ.1) && or_rdy κ.1 w (or_P κ.1 w i) q)
theorem or_lin_step {κ' κ2 κ3 : ob_K} {i : Nat} (hI : ob_I κ w) (h : or_lin κ κ' w i) (hl : or_ln κ.1 w i < κ.1) (h1 : κ2.1 = κ'.1) (h2 : ∀ j, j ≠ 241 → κ2.2.1 j = κ'.2.1 j) (h4 : ∀ q, q < 128 → κ2.2.1 241 q = (κ'.2.1 241 q && !decide (q = or_ln κ.1 w i))) (h5 : κ2.2.2 0 = va_up (κ'.2.2 0) i (nI (or_ln κ.1 w i))) (h6 : κ2.2.2 1 = κ'.2.2 1) (hr : or_rel κ2 κ3 (w (or_ln κ.1 w i))) : or_lin κ κ3 w (i + 1) := by
  obtain ⟨a1, a2, a3, a4, a5⟩ := h
  obtain ⟨b1, b2, b3, b4, b5⟩ := hr
  have hw := hI.1
  have h120 := hI.2.2.1
  have hwt : ∀ q, q < κ.1 → κ3.2.2 1 q = nI (or_wt κ.1 w (or_P κ.1 w (i + 1)) q) := fun q hq => by
    rw [b4, h6, a4 q hq, or_wt_step hw hl]
    by_cases e : w (or_ln κ.1 w i) q = true
    · rw [if_pos e, if_pos e]
      exact nI_pred _
    · rw [if_neg e, if_neg e]; rfl
  refine ⟨b1.trans (h1.trans a1), fun j hj => (b2 j hj).trans ((h2 j hj).trans (a2 j hj)), fun j hj => ?_, hwt, fun q hq => ?_⟩
  · rw [b3, h5]
    by_cases e : j = i
    · rw [e, mw_up_s]
    · rw [mw_up_n _ _ e]; exact a3 j (by omega)
  · rw [b5 q hq, h4 q hq, a5 q hq]
    by_cases e : q < κ.1
    · rw [hwt q e, decide_eq_true e, or_rdy_step hw hl]
      have hb : or_wt κ.1 w (or_P κ.1 w (i + 1)) q ≤ κ.1 := pu_cnt_le _ _
      have e2 : decide (nI (or_wt κ.1 w (or_P κ.1 w (i + 1)) q) = nI 0) = decide (or_wt κ.1 w (or_P κ.1 w (i + 1)) q = 0) := decide_eq_decide.mpr (nI_eq (by omega) (by omega))
      rw [e2]
      simp only [Bool.true_and, Bool.beq_eq_decide_eq]
    · have e2 : w (or_ln κ.1 w i) q = false := by
        cases z : w (or_ln κ.1 w i) q with
        | false => rfl
        | true => exact absurd (hw _ _ z).2 e
      rw [decide_eq_false e, e2]
      simp
def ob_QL (E : mw_E) (κ : ob_K) (n : Nat) (r : Nat → mw_O) (w : Nat → Nat → Bool) : Option Value → mw_H → Prop := fun v h' => v = none ∧ or_ok κ.1 w κ.1 ∧ ∃ κ', h' = ob_h E κ' n r ∧ ob_keep κ κ' ∧ ∀ j, j < κ.1 → κ'.2.2 0 j = nI (or_ln κ.1 w j)
def ob_XL (E : mw_E) (κ : ob_K) (n : Nat) (r : Nat → mw_O) (w : Nat → Nat → Bool) : Nat → mw_H → Prop := fun k h' => ¬ or_ok κ.1 w κ.1 ∧ ob_X E κ n r 5 k h'
theorem ct_lineUp (hd : 6 ≤ d) (hn : 250 ≤ n) (hI : ob_I κ w) : mw_Ct E m_ob_lineUp d 1 6 [.ref (mw_b E + 0)] (ob_h E κ n r) (ob_QL E κ n r w) (ob_XL E κ n r w) := by
  show mw_W E m_ob_lineUp d _ _ 1 6 0 [some (.ref (mw_b E + 0))] [] (ob_h E κ n r)
  have h3 := hI.2.2.1
  have hw := hI.1
  have key2 : ∀ i, i ≤ κ.1 → ∀ κ' x2, or_ok κ.1 w i → or_lin κ κ' w i → mw_W E m_ob_lineUp d (ob_QL E κ n r w) (ob_XL E κ n r w) 1 6 57 [some (.ref (mw_b E + 0)), some (.int (nI i)), x2] [] (ob_h E κ' n r) := by
    refine mw_down κ.1 (fun i hi ih κ' x2 hok hlin => ?_)
    have hN := hlin.1
    refine mw_iload1 d_ob_lineUp_57 ?_
    refine mw_aload0 d_ob_lineUp_58 ?_
    refine gf_ob_size d_ob_lineUp_59 hn rfl ?_
    refine mw_icmp_ge (tgt := 116) d_ob_lineUp_62 (by decide) (fun hc => ?_) (fun hc => ?_)
    · rw [hN] at hc
      have e : i = κ.1 := by
        have := (nI_leI (by omega) (by omega)).mp hc
        omega
      subst e
      exact mw_vret d_ob_lineUp_116 rfl ⟨rfl, hok, κ', rfl, ⟨hN, fun j hj => hlin.2.1 j (by omega)⟩, hlin.2.2.1⟩
    · have hlt : i < κ.1 := by
        rcases Nat.lt_or_ge i κ.1 with z | z
        · exact z
        · rw [hN] at hc; exact absurd (nI_le z (by omega)) hc
      have hle := bt_nx_le (κ'.2.1 241) 0
      refine mw_aload0 d_ob_lineUp_65 ?_
      refine gf_ob_rim d_ob_lineUp_66 hn rfl ?_
      refine mw_iconst (v := nI 0) d_ob_lineUp_69 (by decide) ?_
      refine mw_cV1e lk_ob_lineUp_ps_next d_ob_lineUp_70 (ob_lt hn (by omega)) (ob_gS (by omega)) (Nat.le_of_ble_eq_true rfl) (oc_next (d := d - 1) (f := 0) (by omega) hn (by omega) (by omega)) (by omega) (Nat.le_of_ble_eq_true rfl) (Nat.zero_le _) (Nat.zero_le _) ?_
      refine mw_lo [some (.ref (mw_b E + 0)), some (.int (nI i)), none] (by simp [mw_le]) ?_
      refine mw_istore2 d_ob_lineUp_73 rfl (Nat.le_of_ble_eq_true rfl) ?_
      refine mw_iload2 d_ob_lineUp_74 ?_
      refine mw_aload0 d_ob_lineUp_75 ?_
      refine gf_ob_size d_ob_lineUp_76 hn rfl ?_
      refine mw_icmp_lt (tgt := 90) d_ob_lineUp_79 (by decide) (fun hc2 => ?_) (fun hc2 => ?_)
      · rw [hN] at hc2
        have hp := (nI_ltI (by omega) (by omega)).mp hc2
        have hr := (bt_nx_in (s := κ'.2.1 241) (f := 0) (by omega)).1
        rw [hlin.2.2.2.2 _ (by omega)] at hr
        have e : or_ln κ.1 w i = bt_nx (κ'.2.1 241) 0 := pu_fnd_eq hp (by simp at hr; exact hr.2) (fun q hq => by
          have := bt_nx_gap (s := κ'.2.1 241) (f := 0) (Nat.zero_le q) hq
          rw [hlin.2.2.2.2 q (by omega), decide_eq_true (show q < κ.1 by omega)] at this
          simpa using this)
        rw [← e]
        rw [← e] at hp
        have hok2 : or_ok κ.1 w (i + 1) := fun j hj => by
          by_cases z : j = i
          · rw [z]; exact hp
          · exact hok j (by omega)
        refine mw_aload0 d_ob_lineUp_90 ?_
        refine gf_ob_rim d_ob_lineUp_91 hn rfl ?_
        refine mw_iload2 d_ob_lineUp_94 ?_
        refine mw_cV1v lk_ob_lineUp_ps_remove d_ob_lineUp_95 (ob_lt hn (by omega)) (ob_gS (by omega)) (Nat.le_of_ble_eq_true rfl) (oc_remove (d := d - 1) (by omega) hn (by omega) _) (by omega) (Nat.le_of_ble_eq_true rfl) (Nat.zero_le _) (Nat.zero_le _) ?_
        refine mw_aload0 d_ob_lineUp_98 ?_
        refine gf_ob_line d_ob_lineUp_99 hn rfl ?_
        refine mw_iload1 d_ob_lineUp_102 ?_
        refine mw_iload2 d_ob_lineUp_103 ?_
        refine ob_is (j := 0) (by omega) (by omega) d_ob_lineUp_104 hn ?_
        refine mw_aload0 d_ob_lineUp_105 ?_
        refine mw_iload2 d_ob_lineUp_106 ?_
        have hI2 : ob_I (κ'.1, va_up κ'.2.1 241 (fun j => κ'.2.1 241 j && !bt_one (nI (or_ln κ.1 w i)) j), va_up κ'.2.2 0 (va_up (κ'.2.2 0) i (nI (or_ln κ.1 w i)))) w := hI.keep ⟨hN, fun j hj => by
          rw [ob_s2n _ _ _ _ (by omega)]; exact hlin.2.1 j (by omega)⟩
        refine mw_cV1 (d' := d - 1) lk_ob_lineUp_ob_release d_ob_lineUp_107 (ob_lt hn (by decide)) ob_g0 (Nat.le_of_ble_eq_true rfl) (ct_release (w := w) (by omega) hn hI2 (by show _ < κ'.1; omega)) (by omega) (Nat.le_of_ble_eq_true rfl) (Nat.zero_le _) (Nat.zero_le _) ?_ (fun _ _ q => q.elim)
        rintro v h' ⟨rfl, κ3, rfl, hrel⟩
        show mw_W E m_ob_lineUp d _ _ _ _ _ _ [] _
        refine mw_inc1 d_ob_lineUp_110 rfl (Nat.le_of_ble_eq_true rfl) ?_
        refine mw_goto (tgt := 57) d_ob_lineUp_113 (by decide) ?_
        refine ih hlt κ3 _ hok2 (or_lin_step (κ2 := (κ'.1, va_up κ'.2.1 241 (fun j => κ'.2.1 241 j && !bt_one (nI (or_ln κ.1 w i)) j), va_up κ'.2.2 0 (va_up (κ'.2.2 0) i (nI (or_ln κ.1 w i))))) hI hlin hp rfl (fun j hj => mw_up_n _ _ hj) (fun q hq => ?_) (ob_r2 _ _ _ _ _) (ob_r2n _ _ _ _ (show (1 : Nat) ≠ 0 by decide)) hrel)
        rw [ob_s2, bt_one_nI (by omega) (by omega)]
      · have hno : ¬ or_ok κ.1 w κ.1 := fun z => by
          have hl := z i hlt
          have hr := or_ln_rdy hl
          have : κ'.2.1 241 (or_ln κ.1 w i) = true := by
            rw [hlin.2.2.2.2 _ (by omega), decide_eq_true hl, hr]; rfl
          rw [hN] at hc2
          have hge : κ.1 ≤ bt_nx (κ'.2.1 241) 0 := by
            rcases Nat.lt_or_ge (bt_nx (κ'.2.1 241) 0) κ.1 with z | z
            · exact absurd (nI_lt z (by omega)) hc2
            · exact z
          rw [bt_nx_gap (s := κ'.2.1 241) (f := 0) (Nat.zero_le _) (by omega)] at this
          cases this
        refine mw_throw (cx := 5) (T9 := T_no) rfl (by decide +kernel) (by decide +kernel) ow_is tb_305 tb_10 d_ob_lineUp_82 d_ob_lineUp_85 d_ob_lineUp_86 d_ob_lineUp_89 (fun x hx => nomatch hx) rfl (by omega) (Nat.le_of_ble_eq_true rfl) (Nat.le_refl _) (Nat.le_refl _) ?_
        exact ⟨hno, rfl, κ', ob_exc hn 5, hN, fun j hj => hlin.2.1 j (by omega)⟩
  have key1 : ∀ k, k ≤ κ.1 → ∀ κ', (κ'.1 = κ.1 ∧ (∀ j, j ≠ 241 → κ'.2.1 j = κ.2.1 j) ∧ (∀ q, q < k → κ'.2.2 1 q = nI (or_wt κ.1 w (or_P κ.1 w 0) q)) ∧ ∀ q, q < 128 → κ'.2.1 241 q = (decide (q < k) && or_rdy κ.1 w (or_P κ.1 w 0) q)) → mw_W E m_ob_lineUp d (ob_QL E κ n r w) (ob_XL E κ n r w) 1 6 9 [some (.ref (mw_b E + 0)), some (.int (nI k)), none] [] (ob_h E κ' n r) := by
    refine mw_down κ.1 (fun k hk ih κ' hinv => ?_)
    have hN := hinv.1
    refine mw_iload1 d_ob_lineUp_9 ?_
    refine mw_aload0 d_ob_lineUp_10 ?_
    refine gf_ob_size d_ob_lineUp_11 hn rfl ?_
    refine mw_icmp_ge (tgt := 55) d_ob_lineUp_14 (by decide) (fun hc => ?_) (fun hc => ?_)
    · rw [hN] at hc
      have e : k = κ.1 := by
        have := (nI_leI (by omega) (by omega)).mp hc
        omega
      subst e
      refine mw_iconst (v := nI 0) d_ob_lineUp_55 (by decide) ?_
      refine mw_istore1 d_ob_lineUp_56 rfl (Nat.le_of_ble_eq_true rfl) ?_
      exact key2 0 (by omega) κ' _ (fun j hj => by omega) ⟨hN, hinv.2.1, fun j hj => by omega, hinv.2.2.1, hinv.2.2.2⟩
    · have hlt : k < κ.1 := by
        rcases Nat.lt_or_ge k κ.1 with z | z
        · exact z
        · rw [hN] at hc; exact absurd (nI_le z (by omega)) hc
      have hsz : pu_cnt (κ'.2.1 (2 * k + 1)) 128 = or_wt κ.1 w (or_P κ.1 w 0) k := by
        rw [hinv.2.1 (2 * k + 1) (by omega)]
        have e : κ.2.1 (2 * k + 1) = fun p => w p k := funext (fun i => hI.2.2.2.2 k hlt i)
        rw [e, pu_cnt_N (fun i hi => (hw i k hi).1) 128 (by omega)]
        unfold or_wt
        exact pu_cnt_congr (fun p hp => by rw [or_P0]; simp)
      have hwb : or_wt κ.1 w (or_P κ.1 w 0) k ≤ κ.1 := pu_cnt_le _ _
      have hrd : or_rdy κ.1 w (or_P κ.1 w 0) k = decide (or_wt κ.1 w (or_P κ.1 w 0) k = 0) := by rw [or_rdy_wt, or_P0]; rfl
      have k49 : ∀ S2, (∀ j, j ≠ 241 → S2 j = κ'.2.1 j) → (∀ q, q < 128 → S2 241 q = (κ'.2.1 241 q || (decide (q = k) && or_rdy κ.1 w (or_P κ.1 w 0) k))) → mw_W E m_ob_lineUp d (ob_QL E κ n r w) (ob_XL E κ n r w) 1 6 49 [some (.ref (mw_b E + 0)), some (.int (nI k)), none] [] (ob_h E (κ'.1, S2, va_up κ'.2.2 1 (va_up (κ'.2.2 1) k (nI (or_wt κ.1 w (or_P κ.1 w 0) k)))) n r) := by
        intro S2 hS hS2
        refine mw_inc1 d_ob_lineUp_49 rfl (Nat.le_of_ble_eq_true rfl) ?_
        refine mw_goto (tgt := 9) d_ob_lineUp_52 (by decide) ?_
        refine ih hlt _ ⟨hN, fun j hj => (hS j hj).trans (hinv.2.1 j hj), fun q hq => ?_, fun q hq => ?_⟩
        · rw [ob_r2]
          by_cases e : q = k
          · rw [e, mw_up_s]
          · rw [mw_up_n _ _ e]; exact hinv.2.2.1 q (by omega)
        · show S2 241 q = _
          rw [hS2 q hq, hinv.2.2.2 q hq]
          by_cases e : q = k
          · subst e; simp
          · by_cases e2 : q < k
            · have e3 : q < k + 1 := by omega
              simp [e, e2, e3]
            · have e3 : ¬ q < k + 1 := by omega
              simp [e, e2, e3]
      refine mw_aload0 d_ob_lineUp_17 ?_
      refine gf_ob_waiting d_ob_lineUp_18 hn rfl ?_
      refine mw_iload1 d_ob_lineUp_21 ?_
      refine mw_aload0 d_ob_lineUp_22 ?_
      refine gf_ob_into d_ob_lineUp_23 hn rfl ?_
      refine mw_iload1 d_ob_lineUp_26 ?_
      refine ob_al (o := 1) (by omega) (by omega) d_ob_lineUp_27 hn ?_
      refine mw_cV0e lk_ob_lineUp_ps_size d_ob_lineUp_28 (ob_lt hn (by omega)) (ob_gS (by omega)) (Nat.le_of_ble_eq_true rfl) (oc_size (d := d - 1) (by omega) hn (by omega)) (by omega) (Nat.le_of_ble_eq_true rfl) (Nat.zero_le _) (Nat.zero_le _) ?_
      rw [hsz]
      refine ob_is (j := 1) (by omega) (by omega) d_ob_lineUp_31 hn ?_
      refine mw_aload0 d_ob_lineUp_32 ?_
      refine gf_ob_waiting d_ob_lineUp_33 hn rfl ?_
      refine mw_iload1 d_ob_lineUp_36 ?_
      refine ob_il (j := 1) (by omega) (by omega) d_ob_lineUp_37 hn ?_
      rw [ob_r2, mw_up_s]
      refine mw_if_ne (tgt := 49) d_ob_lineUp_38 (by decide) (fun hc2 => ?_) (fun hc2 => ?_)
      · refine k49 κ'.2.1 (fun _ _ => rfl) (fun q hq => ?_)
        have e9 : ¬ or_wt κ.1 w (or_P κ.1 w 0) k = 0 := fun z => hc2 (by rw [z]; rfl)
        rw [hrd, decide_eq_false e9, Bool.and_false, Bool.or_false]
      · refine mw_aload0 d_ob_lineUp_41 ?_
        refine gf_ob_rim d_ob_lineUp_42 hn rfl ?_
        refine mw_iload1 d_ob_lineUp_45 ?_
        refine mw_cV1v lk_ob_lineUp_ps_add d_ob_lineUp_46 (ob_lt hn (by omega)) (ob_gS (by omega)) (Nat.le_of_ble_eq_true rfl) (oc_add (d := d - 1) (by omega) hn (by omega) _) (by omega) (Nat.le_of_ble_eq_true rfl) (Nat.zero_le _) (Nat.zero_le _) ?_
        refine k49 (va_up κ'.2.1 241 (fun i => κ'.2.1 241 i || bt_one (nI k) i)) (fun j hj => mw_up_n _ _ hj) (fun q hq => ?_)
        have e0 : or_wt κ.1 w (or_P κ.1 w 0) k = 0 := (nI_eq (by omega) (by omega)).mp (hc2.trans nI_0.symm)
        rw [mw_up_s, bt_one_nI (by omega) (by omega), hrd, decide_eq_true e0, Bool.and_true]
  refine mw_lo [some (.ref (mw_b E + 0)), none, none] (by simp [mw_le]) ?_
  refine mw_aload0 d_ob_lineUp_0 ?_
  refine gf_ob_rim d_ob_lineUp_1 hn rfl ?_
  refine mw_cV0v lk_ob_lineUp_ps_clear d_ob_lineUp_4 (ob_lt hn (by omega)) (ob_gS (by omega)) (Nat.le_of_ble_eq_true rfl) (oc_clear (d := d - 1) hn (by omega)) (by omega) (Nat.le_of_ble_eq_true rfl) (Nat.zero_le _) (Nat.zero_le _) ?_
  refine mw_iconst (v := nI 0) d_ob_lineUp_7 (by decide) ?_
  refine mw_istore1 d_ob_lineUp_8 rfl (Nat.le_of_ble_eq_true rfl) ?_
  refine key1 0 (by omega) _ ⟨rfl, fun j hj => mw_up_n _ _ hj, fun q hq => by omega, fun q hq => ?_⟩
  rw [ob_s2]
  simp
end Line
