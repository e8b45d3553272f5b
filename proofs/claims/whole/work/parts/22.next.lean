/-! PlaceSet.next. -/
theorem nx_l1 {s : Nat → Bool} {f : Nat} (hf : f < 64) : bt_lo s &&& -(bt_lo (bt_one (nI f))) = bt_lo (fun i => s i && decide (f ≤ i)) := by
  rw [bt_congr (s := bt_one (nI f)) (t := fun i => decide (i = f)) (fun i hi => bt_one_nI (by omega) (by omega))]
  exact bt_from hf
theorem nx_l2 {s : Nat → Bool} {f : Nat} (hf : 64 ≤ f) : (0 : Int64) = bt_lo (fun i => s i && decide (f ≤ i)) := by
  refine ((bt_z _).mpr (fun i hi => ?_)).symm
  have : ¬ f ≤ i := by omega
  simp [this]
theorem nx_h1 {s : Nat → Bool} {f : Nat} (hf : f < 64) : bt_hi s = bt_lo (fun i => s (64 + i) && decide (f ≤ 64 + i)) := by
  rw [bt_hi_eq]
  refine bt_congr (fun i hi => ?_)
  have : f ≤ 64 + i := by omega
  simp [this]
theorem nx_h2 {s : Nat → Bool} {f : Nat} (hf : 64 ≤ f) (hf2 : f ≤ 128) : bt_hi s &&& -(bt_hi (bt_one (nI f))) = bt_lo (fun i => s (64 + i) && decide (f ≤ 64 + i)) := by
  by_cases e : f = 128
  · subst e
    have h1 : bt_hi (bt_one (nI 128)) = 0 := bt_h_out (fun z => absurd z.2 (nI_nlt (Nat.le_refl _) (by decide)))
    rw [h1]
    have h2 : bt_lo (fun i => s (64 + i) && decide (128 ≤ 64 + i)) = 0 := (bt_z _).mpr (fun i hi => by
      have : ¬ 128 ≤ 64 + i := by omega
      simp [this])
    rw [h2]
    have h3 : -(0 : Int64) = 0 := by decide
    rw [h3]
    have h4 : (0 : Int64) = bt_hi (fun _ => false) := bt_zero.symm
    rw [h4, bt_hand]
    exact bt_hcongr (fun i _ => Bool.and_false _)
  · rw [bt_hi_eq, bt_hi_eq, bt_congr (s := fun i => bt_one (nI f) (64 + i)) (t := fun i => decide (i = f - 64)) (fun i hi => by
      rw [bt_one_nI (by omega) (by omega)]
      by_cases e2 : i = f - 64
      · have : 64 + i = f := by omega
        rw [decide_eq_true e2, decide_eq_true this]
      · have : ¬ 64 + i = f := by omega
        rw [decide_eq_false e2, decide_eq_false this])]
    rw [bt_from (by omega)]
    refine bt_congr (fun i hi => ?_)
    by_cases e2 : f - 64 ≤ i
    · have : f ≤ 64 + i := by omega
      rw [decide_eq_true e2, decide_eq_true this]
    · have : ¬ f ≤ 64 + i := by omega
      rw [decide_eq_false e2, decide_eq_false this]
theorem ct_next {E : mw_E} {d : Nat} {h : mw_H} {a : Nat} {s : Nat → Bool} {f : Nat} (hd : 2 ≤ d) (hf : f ≤ 128) (ha : a < h.1) (ho : h.2 a = .inl (0, ps_S s)) : mw_Ct E m_ps_next d 0 0 [.ref (mw_b E + a), .int (nI f)] h (fun v h' => v = some (.int (nI (bt_nx s f))) ∧ h' = h) mw_no := by
  show mw_W E m_ps_next d _ _ 0 0 0 [some (.ref (mw_b E + a)), some (.int (nI f))] [] h
  refine mw_lo [some (.ref (mw_b E + a)), some (.int (nI f)), none, none, none, none] (by simp [mw_le]) ?_
  -- the high half
  have k55 : bt_lo (fun i => s i && decide (f ≤ i)) = 0 → ∀ bc bs x, mw_W E m_ps_next d (fun v h' => v = some (.int (nI (bt_nx s f))) ∧ h' = h) mw_no bc bs 55 [some (.ref (mw_b E + a)), some (.int (nI f)), x, none, none, none] [.long (bt_lo (fun i => s (64 + i) && decide (f ≤ 64 + i)))] h := by
    intro h0 bc bs x
    refine mw_lstore4 d_ps_next_55 rfl (Nat.le_of_ble_eq_true rfl) ?_
    refine mw_lload4 d_ps_next_57 ?_
    refine mw_lconst (v := 0) d_ps_next_59 rfl ?_
    refine mw_lcmp d_ps_next_60 ?_
    refine mw_if_eq (tgt := 75) d_ps_next_61 (by decide) (fun hc => ?_) (fun hc => ?_)
    · refine mw_sipush (v := nI 128) d_ps_next_75 (by decide) ?_
      exact mw_iret d_ps_next_78 rfl rfl ⟨by rw [bt_nx_none h0 ((lc0 _ _).mp hc)], rfl⟩
    · refine mw_bipush (v := nI 64) d_ps_next_64 (by decide) ?_
      refine mw_lload4 d_ps_next_66 ?_
      have hne : ¬ bt_lo (fun i => s (64 + i) && decide (f ≤ 64 + i)) = 0 := fun z => hc ((lc0 _ _).mpr z)
      refine mw_cS1e lk_ps_next_ps_lowest d_ps_next_68  (Nat.le_of_ble_eq_true rfl) (ct_lowest (d := d - 1) (by omega) (fun i => s (64 + i) && decide (f ≤ 64 + i)) hne) (by omega) (Nat.le_of_ble_eq_true rfl) (Nat.zero_le _) (Nat.zero_le _) ?_
      refine mw_iadd d_ps_next_71 ?_
      refine mw_goto (tgt := 78) d_ps_next_72 (by decide) ?_
      exact mw_iret d_ps_next_78 rfl rfl ⟨by rw [nI_add, bt_nx_high h0 hne], rfl⟩
  have k20 : ∀ bc bs, mw_W E m_ps_next d (fun v h' => v = some (.int (nI (bt_nx s f))) ∧ h' = h) mw_no bc bs 20 [some (.ref (mw_b E + a)), some (.int (nI f)), none, none, none, none] [.long (bt_lo (fun i => s i && decide (f ≤ i)))] h := by
    intro bc bs
    refine mw_lstore2 d_ps_next_20 rfl (Nat.le_of_ble_eq_true rfl) ?_
    refine mw_lload2 d_ps_next_21 ?_
    refine mw_lconst (v := 0) d_ps_next_22 rfl ?_
    refine mw_lcmp d_ps_next_23 ?_
    refine mw_if_eq (tgt := 32) d_ps_next_24 (by decide) (fun hc => ?_) (fun hc => ?_)
    · have h0 := (lc0 _ _).mp hc
      refine mw_iload1 d_ps_next_32 ?_
      refine mw_bipush (v := nI 64) d_ps_next_33 (by decide) ?_
      refine mw_icmp_ge (tgt := 45) d_ps_next_35 (by decide) (fun hc2 => ?_) (fun hc2 => ?_)
      · have h64 : 64 ≤ f := (nI_leI (by decide) (by omega)).mp hc2
        refine mw_aload0 d_ps_next_45 ?_
        refine gf_ps_high d_ps_next_46 ha ho rfl ?_
        refine mw_iload1 d_ps_next_49 ?_
        refine mw_cS1e lk_ps_next_ps_highBit d_ps_next_50  (Nat.le_of_ble_eq_true rfl) (ct_highBit (d := d - 1) (nI f)) (by omega) (Nat.le_of_ble_eq_true rfl) (Nat.zero_le _) (Nat.zero_le _) ?_
        refine mw_lneg d_ps_next_53 ?_
        refine mw_land d_ps_next_54 ?_
        refine mw_topl (nx_h2 h64 hf) ?_
        exact k55 h0 _ _ _
      · have h64 : f < 64 := by
          rcases Nat.lt_or_ge f 64 with z | z
          · exact z
          · exact absurd (nI_le z (by omega)) hc2
        refine mw_aload0 d_ps_next_38 ?_
        refine gf_ps_high d_ps_next_39 ha ho rfl ?_
        refine mw_goto (tgt := 55) d_ps_next_42 (by decide) ?_
        refine mw_topl (nx_h1 h64) ?_
        exact k55 h0 _ _ _
    · refine mw_lload2 d_ps_next_27 ?_
      have hne : ¬ bt_lo (fun i => s i && decide (f ≤ i)) = 0 := fun z => hc ((lc0 _ _).mpr z)
      refine mw_cS1e lk_ps_next_ps_lowest d_ps_next_28  (Nat.le_of_ble_eq_true rfl) (ct_lowest (d := d - 1) (by omega) (fun i => s i && decide (f ≤ i)) hne) (by omega) (Nat.le_of_ble_eq_true rfl) (Nat.zero_le _) (Nat.zero_le _) ?_
      exact mw_iret d_ps_next_31 rfl rfl ⟨by rw [bt_nx_low hne], rfl⟩
  refine mw_iload1 d_ps_next_0 ?_
  refine mw_bipush (v := nI 64) d_ps_next_1 (by decide) ?_
  refine mw_icmp_ge (tgt := 19) d_ps_next_3 (by decide) (fun hc => ?_) (fun hc => ?_)
  · have h64 : 64 ≤ f := (nI_leI (by decide) (by omega)).mp hc
    refine mw_lconst (v := 0) d_ps_next_19 rfl ?_
    refine mw_topl (nx_l2 (s := s) h64) ?_
    exact k20 _ _
  · have h64 : f < 64 := by
      rcases Nat.lt_or_ge f 64 with z | z
      · exact z
      · exact absurd (nI_le z (by omega)) hc
    refine mw_aload0 d_ps_next_6 ?_
    refine gf_ps_low d_ps_next_7 ha ho rfl ?_
    refine mw_iload1 d_ps_next_10 ?_
    refine mw_cS1e lk_ps_next_ps_lowBit d_ps_next_11  (Nat.le_of_ble_eq_true rfl) (ct_lowBit (d := d - 1) (nI f)) (by omega) (Nat.le_of_ble_eq_true rfl) (Nat.zero_le _) (Nat.zero_le _) ?_
    refine mw_lneg d_ps_next_14 ?_
    refine mw_land d_ps_next_15 ?_
    refine mw_goto (tgt := 20) d_ps_next_16 (by decide) ?_
    refine mw_topl (nx_l1 h64) ?_
    exact k20 _ _
