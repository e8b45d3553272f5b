/-! OrderBench: counts, circle, groups, the check of a place, the last gate. -/
section Cnt
variable {E : mw_E} {d n : Nat} {κ : ob_K} {r : Nat → mw_O} {w : Nat → Nat → Bool}
theorem pu_fnd_S {f : Nat → Bool} {k : Nat} (h : ∀ p, p < k → f p = false) (hk : f k = false) : ∀ p, p < k + 1 → f p = false := fun p hp => by
  by_cases e : p = k
  · subst e; exact hk
  · exact h p (by omega)
theorem ct_circle (hd : 6 ≤ d) (hn : 250 ≤ n) (hI : ob_I κ w) : mw_Ct E m_ob_circle d 0 0 [.ref (mw_b E + 0)] (ob_h E κ n r) (ob_Q E κ n r (some (.int (if pu_fnd (gp_c κ.1 w) κ.1 < κ.1 then nI (pu_fnd (gp_c κ.1 w) κ.1) else -1)))) mw_no := by
  show mw_W E m_ob_circle d _ _ 0 0 0 [some (.ref (mw_b E + 0))] [] (ob_h E κ n r)
  refine mw_lo [some (.ref (mw_b E + 0)), none] (by simp [mw_le]) ?_
  have h3 := hI.2.2.1
  have key : ∀ k, k ≤ κ.1 → (∀ p, p < k → gp_c κ.1 w p = false) → ∀ κ', ob_keep κ κ' → mw_W E m_ob_circle d (ob_Q E κ n r (some (.int (if pu_fnd (gp_c κ.1 w) κ.1 < κ.1 then nI (pu_fnd (gp_c κ.1 w) κ.1) else -1)))) mw_no 0 0 2 [some (.ref (mw_b E + 0)), some (.int (nI k))] [] (ob_h E κ' n r) := by
    refine mw_down κ.1 (fun k hk ih hno κ' hkp => ?_)
    have hN := hkp.1
    refine mw_iload1 d_ob_circle_2 ?_
    refine mw_aload0 d_ob_circle_3 ?_
    refine gf_ob_size d_ob_circle_4 hn rfl ?_
    refine mw_icmp_ge (tgt := 26) d_ob_circle_7 (by decide) (fun hc => ?_) (fun hc => ?_)
    · rw [hN] at hc
      have e : k = κ.1 := by
        have := (nI_leI (by omega) (by omega)).mp hc
        omega
      have e2 : pu_fnd (gp_c κ.1 w) κ.1 = κ.1 := pu_fnd_none (fun p hp => hno p (by omega))
      refine mw_iconst (v := (-1)) d_ob_circle_26 (by decide) ?_
      refine mw_iret d_ob_circle_27 rfl rfl ⟨?_, κ', rfl, hkp⟩
      rw [e2, if_neg (Nat.lt_irrefl _)]
    · have hlt : k < κ.1 := by
        rcases Nat.lt_or_ge k κ.1 with z | z
        · exact z
        · rw [hN] at hc; exact absurd (nI_le z (by omega)) hc
      refine mw_aload0 d_ob_circle_10 ?_
      refine mw_iload1 d_ob_circle_11 ?_
      refine mw_cV1k lk_ob_circle_ob_isOnCircle d_ob_circle_12 hn (Nat.le_of_ble_eq_true rfl) (ct_isOnCircle (d := d - 1) (by omega) hn (hI.keep hkp) (by omega)) (by omega) (Nat.le_of_ble_eq_true rfl) (Nat.zero_le _) (Nat.zero_le _) ?_
      intro κ1 hk1
      rw [hN]
      cases hm : gp_c κ.1 w k with
      | true =>
        refine mw_if_eq (tgt := 20) d_ob_circle_15 (by decide) (fun hc2 => absurd hc2 (by decide)) (fun hc2 => ?_)
        refine mw_iload1 d_ob_circle_18 ?_
        have e2 : pu_fnd (gp_c κ.1 w) κ.1 = k := pu_fnd_eq hlt hm hno
        refine mw_iret d_ob_circle_19 rfl rfl ⟨?_, κ1, rfl, hkp.trans hk1⟩
        rw [e2, if_pos hlt]
      | false =>
        refine mw_if_eq (tgt := 20) d_ob_circle_15 (by decide) (fun hc2 => ?_) (fun hc2 => absurd (show bI false = 0 by decide) hc2)
        refine mw_inc1 d_ob_circle_20 rfl (Nat.le_of_ble_eq_true rfl) ?_
        refine mw_goto (tgt := 2) d_ob_circle_23 (by decide) ?_
        exact mw_bud (Nat.zero_le _) (Nat.zero_le _) (ih hlt (pu_fnd_S hno hm) κ1 (hkp.trans hk1))
  refine mw_iconst (v := nI 0) d_ob_circle_0 (by decide) ?_
  refine mw_istore1 d_ob_circle_1 rfl (Nat.le_of_ble_eq_true rfl) ?_
  exact key 0 (by omega) (fun p hp => by omega) κ (ob_keep.refl κ)
theorem pu_cnt_S (f : Nat → Bool) (k : Nat) : pu_cnt f (k + 1) = pu_cnt f k + if f k = true then 1 else 0 := rfl
theorem ct_groups (hd : 6 ≤ d) (hn : 250 ≤ n) (hI : ob_I κ w) : mw_Ct E m_ob_groups d 0 0 [.ref (mw_b E + 0)] (ob_h E κ n r) (ob_Q E κ n r (some (.int (nI (pu_cnt (fun p => decide (gp_g κ.1 w p = p)) κ.1))))) mw_no := by
  show mw_W E m_ob_groups d _ _ 0 0 0 [some (.ref (mw_b E + 0))] [] (ob_h E κ n r)
  refine mw_lo [some (.ref (mw_b E + 0)), none, none] (by simp [mw_le]) ?_
  have h3 := hI.2.2.1
  have key : ∀ k, k ≤ κ.1 → ∀ κ', ob_keep κ κ' → mw_W E m_ob_groups d (ob_Q E κ n r (some (.int (nI (pu_cnt (fun p => decide (gp_g κ.1 w p = p)) κ.1))))) mw_no 0 0 4 [some (.ref (mw_b E + 0)), some (.int (nI (pu_cnt (fun p => decide (gp_g κ.1 w p = p)) k))), some (.int (nI k))] [] (ob_h E κ' n r) := by
    refine mw_down κ.1 (fun k hk ih κ' hkp => ?_)
    have hN := hkp.1
    refine mw_iload2 d_ob_groups_4 ?_
    refine mw_aload0 d_ob_groups_5 ?_
    refine gf_ob_size d_ob_groups_6 hn rfl ?_
    refine mw_icmp_ge (tgt := 30) d_ob_groups_9 (by decide) (fun hc => ?_) (fun hc => ?_)
    · rw [hN] at hc
      have e : k = κ.1 := by
        have := (nI_leI (by omega) (by omega)).mp hc
        omega
      refine mw_iload1 d_ob_groups_30 ?_
      exact mw_iret d_ob_groups_31 rfl rfl ⟨by rw [e], κ', rfl, hkp⟩
    · have hlt : k < κ.1 := by
        rcases Nat.lt_or_ge k κ.1 with z | z
        · exact z
        · rw [hN] at hc; exact absurd (nI_le z (by omega)) hc
      refine mw_aload0 d_ob_groups_12 ?_
      refine mw_iload2 d_ob_groups_13 ?_
      refine mw_cV1k lk_ob_groups_ob_leastOfGroup d_ob_groups_14 hn (Nat.le_of_ble_eq_true rfl) (ct_leastOfGroup (d := d - 1) (by omega) hn (hI.keep hkp) (by omega)) (by omega) (Nat.le_of_ble_eq_true rfl) (Nat.zero_le _) (Nat.zero_le _) ?_
      intro κ1 hk1
      rw [hN]
      have hgl := gp_g_lt (N := κ.1) (w := w) hlt
      have hih := ih hlt κ1 (hkp.trans hk1)
      rw [pu_cnt_S] at hih
      refine mw_iload2 d_ob_groups_17 ?_
      refine mw_icmp_ne (tgt := 24) d_ob_groups_18 (by decide) (fun hc2 => ?_) (fun hc2 => ?_)
      · rw [if_neg (by
          intro z
          exact hc2 (congrArg nI (of_decide_eq_true z))), Nat.add_zero] at hih
        refine mw_inc2 d_ob_groups_24 rfl (Nat.le_of_ble_eq_true rfl) ?_
        refine mw_goto (tgt := 4) d_ob_groups_27 (by decide) ?_
        exact mw_bud (Nat.zero_le _) (Nat.zero_le _) hih
      · rw [if_pos (decide_eq_true (nI_inj (by omega) (by omega) hc2))] at hih
        refine mw_inc1 d_ob_groups_21 rfl (Nat.le_of_ble_eq_true rfl) ?_
        refine mw_inc2 d_ob_groups_24 rfl (Nat.le_of_ble_eq_true rfl) ?_
        refine mw_goto (tgt := 4) d_ob_groups_27 (by decide) ?_
        exact mw_bud (Nat.zero_le _) (Nat.zero_le _) hih
  refine mw_iconst (v := nI 0) d_ob_groups_0 (by decide) ?_
  refine mw_istore1 d_ob_groups_1 rfl (Nat.le_of_ble_eq_true rfl) ?_
  refine mw_iconst (v := nI 0) d_ob_groups_2 (by decide) ?_
  refine mw_istore2 d_ob_groups_3 rfl (Nat.le_of_ble_eq_true rfl) ?_
  exact key 0 (by omega) κ (ob_keep.refl κ)
theorem ct_countOnCircles (hd : 6 ≤ d) (hn : 250 ≤ n) (hI : ob_I κ w) : mw_Ct E m_ob_countOnCircles d 0 0 [.ref (mw_b E + 0)] (ob_h E κ n r) (ob_Q E κ n r (some (.int (nI (pu_cnt (gp_c κ.1 w) κ.1))))) mw_no := by
  show mw_W E m_ob_countOnCircles d _ _ 0 0 0 [some (.ref (mw_b E + 0))] [] (ob_h E κ n r)
  refine mw_lo [some (.ref (mw_b E + 0)), none, none] (by simp [mw_le]) ?_
  have h3 := hI.2.2.1
  have key : ∀ k, k ≤ κ.1 → ∀ κ', ob_keep κ κ' → mw_W E m_ob_countOnCircles d (ob_Q E κ n r (some (.int (nI (pu_cnt (gp_c κ.1 w) κ.1))))) mw_no 0 0 4 [some (.ref (mw_b E + 0)), some (.int (nI (pu_cnt (gp_c κ.1 w) k))), some (.int (nI k))] [] (ob_h E κ' n r) := by
    refine mw_down κ.1 (fun k hk ih κ' hkp => ?_)
    have hN := hkp.1
    refine mw_iload2 d_ob_countOnCircles_4 ?_
    refine mw_aload0 d_ob_countOnCircles_5 ?_
    refine gf_ob_size d_ob_countOnCircles_6 hn rfl ?_
    refine mw_icmp_ge (tgt := 29) d_ob_countOnCircles_9 (by decide) (fun hc => ?_) (fun hc => ?_)
    · rw [hN] at hc
      have e : k = κ.1 := by
        have := (nI_leI (by omega) (by omega)).mp hc
        omega
      refine mw_iload1 d_ob_countOnCircles_29 ?_
      exact mw_iret d_ob_countOnCircles_30 rfl rfl ⟨by rw [e], κ', rfl, hkp⟩
    · have hlt : k < κ.1 := by
        rcases Nat.lt_or_ge k κ.1 with z | z
        · exact z
        · rw [hN] at hc; exact absurd (nI_le z (by omega)) hc
      refine mw_aload0 d_ob_countOnCircles_12 ?_
      refine mw_iload2 d_ob_countOnCircles_13 ?_
      refine mw_cV1k lk_ob_countOnCircles_ob_isOnCircle d_ob_countOnCircles_14 hn (Nat.le_of_ble_eq_true rfl) (ct_isOnCircle (d := d - 1) (by omega) hn (hI.keep hkp) (by omega)) (by omega) (Nat.le_of_ble_eq_true rfl) (Nat.zero_le _) (Nat.zero_le _) ?_
      intro κ1 hk1
      rw [hN]
      have hih := ih hlt κ1 (hkp.trans hk1)
      rw [pu_cnt_S] at hih
      cases hm : gp_c κ.1 w k with
      | true =>
        refine mw_if_eq (tgt := 23) d_ob_countOnCircles_17 (by decide) (fun hc2 => absurd hc2 (by decide)) (fun hc2 => ?_)
        rw [if_pos hm] at hih
        refine mw_inc1 d_ob_countOnCircles_20 rfl (Nat.le_of_ble_eq_true rfl) ?_
        refine mw_inc2 d_ob_countOnCircles_23 rfl (Nat.le_of_ble_eq_true rfl) ?_
        refine mw_goto (tgt := 4) d_ob_countOnCircles_26 (by decide) ?_
        exact mw_bud (Nat.zero_le _) (Nat.zero_le _) hih
      | false =>
        refine mw_if_eq (tgt := 23) d_ob_countOnCircles_17 (by decide) (fun hc2 => ?_) (fun hc2 => absurd (show bI false = 0 by decide) hc2)
        rw [if_neg (by rw [hm]; decide), Nat.add_zero] at hih
        refine mw_inc2 d_ob_countOnCircles_23 rfl (Nat.le_of_ble_eq_true rfl) ?_
        refine mw_goto (tgt := 4) d_ob_countOnCircles_26 (by decide) ?_
        exact mw_bud (Nat.zero_le _) (Nat.zero_le _) hih
  refine mw_iconst (v := nI 0) d_ob_countOnCircles_0 (by decide) ?_
  refine mw_istore1 d_ob_countOnCircles_1 rfl (Nat.le_of_ble_eq_true rfl) ?_
  refine mw_iconst (v := nI 0) d_ob_countOnCircles_2 (by decide) ?_
  refine mw_istore2 d_ob_countOnCircles_3 rfl (Nat.le_of_ble_eq_true rfl) ?_
  exact key 0 (by omega) κ (ob_keep.refl κ)
theorem ct_countWays (hd : 2 ≤ d) (hn : 250 ≤ n) (hI : ob_I κ w) : mw_Ct E m_ob_countWays d 0 0 [.ref (mw_b E + 0)] (ob_h E κ n r) (ob_Q E κ n r (some (.int (nI (pu_sum (fun p => pu_cnt (w p) κ.1) κ.1))))) mw_no := by
  show mw_W E m_ob_countWays d _ _ 0 0 0 [some (.ref (mw_b E + 0))] [] (ob_h E κ n r)
  refine mw_lo [some (.ref (mw_b E + 0)), none, none] (by simp [mw_le]) ?_
  have h3 := hI.2.2.1
  have key : ∀ k, k ≤ κ.1 → mw_W E m_ob_countWays d (ob_Q E κ n r (some (.int (nI (pu_sum (fun p => pu_cnt (w p) κ.1) κ.1))))) mw_no 0 0 4 [some (.ref (mw_b E + 0)), some (.int (nI (pu_sum (fun p => pu_cnt (w p) κ.1) k))), some (.int (nI k))] [] (ob_h E κ n r) := by
    refine mw_down κ.1 (fun k hk ih => ?_)
    refine mw_iload2 d_ob_countWays_4 ?_
    refine mw_aload0 d_ob_countWays_5 ?_
    refine gf_ob_size d_ob_countWays_6 hn rfl ?_
    refine mw_icmp_ge (tgt := 30) d_ob_countWays_9 (by decide) (fun hc => ?_) (fun hc => ?_)
    · have e : k = κ.1 := by
        have := (nI_leI (by omega) (by omega)).mp hc
        omega
      refine mw_iload1 d_ob_countWays_30 ?_
      exact mw_iret d_ob_countWays_31 rfl rfl ⟨by rw [e], κ, rfl, ob_keep.refl κ⟩
    · have hlt : k < κ.1 := by
        rcases Nat.lt_or_ge k κ.1 with z | z
        · exact z
        · exact absurd (nI_le z (by omega)) hc
      refine mw_iload1 d_ob_countWays_12 ?_
      refine mw_aload0 d_ob_countWays_13 ?_
      refine gf_ob_out d_ob_countWays_14 hn rfl ?_
      refine mw_iload2 d_ob_countWays_17 ?_
      refine ob_al (o := 0) (by omega) (by omega) d_ob_countWays_18 hn ?_
      refine mw_cV0e lk_ob_countWays_ps_size d_ob_countWays_19 (ob_lt hn (by omega)) (ob_gS (by omega)) (Nat.le_of_ble_eq_true rfl) (oc_size (d := d - 1) (by omega) hn (by omega)) (by omega) (Nat.le_of_ble_eq_true rfl) (Nat.zero_le _) (Nat.zero_le _) ?_
      refine mw_iadd d_ob_countWays_22 ?_
      have e : pu_cnt (κ.2.1 (2 * k + 0)) 128 = pu_cnt (w k) κ.1 := by
        have e2 : κ.2.1 (2 * k + 0) = w k := funext (hI.2.2.2.1 k hlt)
        rw [e2]
        exact pu_cnt_N (fun i hi => (hI.1 k i hi).2) 128 (by omega)
      rw [e, nI_add]
      refine mw_istore1 d_ob_countWays_23 rfl (Nat.le_of_ble_eq_true rfl) ?_
      refine mw_inc2 d_ob_countWays_24 rfl (Nat.le_of_ble_eq_true rfl) ?_
      refine mw_goto (tgt := 4) d_ob_countWays_27 (by decide) ?_
      exact mw_bud (Nat.zero_le _) (Nat.zero_le _) (ih hlt)
  refine mw_iconst (v := nI 0) d_ob_countWays_0 (by decide) ?_
  refine mw_istore1 d_ob_countWays_1 rfl (Nat.le_of_ble_eq_true rfl) ?_
  refine mw_iconst (v := nI 0) d_ob_countWays_2 (by decide) ?_
  refine mw_istore2 d_ob_countWays_3 rfl (Nat.le_of_ble_eq_true rfl) ?_
  exact key 0 (by omega)
theorem ct_countWithoutWayTo (hd : 2 ≤ d) (hn : 250 ≤ n) (hI : ob_I κ w) : mw_Ct E m_ob_countWithoutWayTo d 0 0 [.ref (mw_b E + 0)] (ob_h E κ n r) (ob_Q E κ n r (some (.int (nI (pu_cnt (fun p => !pu_ex (fun q => w q p) κ.1) κ.1))))) mw_no := by
  show mw_W E m_ob_countWithoutWayTo d _ _ 0 0 0 [some (.ref (mw_b E + 0))] [] (ob_h E κ n r)
  refine mw_lo [some (.ref (mw_b E + 0)), none, none] (by simp [mw_le]) ?_
  have h3 := hI.2.2.1
  have key : ∀ k, k ≤ κ.1 → mw_W E m_ob_countWithoutWayTo d (ob_Q E κ n r (some (.int (nI (pu_cnt (fun p => !pu_ex (fun q => w q p) κ.1) κ.1))))) mw_no 0 0 4 [some (.ref (mw_b E + 0)), some (.int (nI (pu_cnt (fun p => !pu_ex (fun q => w q p) κ.1) k))), some (.int (nI k))] [] (ob_h E κ n r) := by
    refine mw_down κ.1 (fun k hk ih => ?_)
    refine mw_iload2 d_ob_countWithoutWayTo_4 ?_
    refine mw_aload0 d_ob_countWithoutWayTo_5 ?_
    refine gf_ob_size d_ob_countWithoutWayTo_6 hn rfl ?_
    refine mw_icmp_ge (tgt := 33) d_ob_countWithoutWayTo_9 (by decide) (fun hc => ?_) (fun hc => ?_)
    · have e : k = κ.1 := by
        have := (nI_leI (by omega) (by omega)).mp hc
        omega
      refine mw_iload1 d_ob_countWithoutWayTo_33 ?_
      exact mw_iret d_ob_countWithoutWayTo_34 rfl rfl ⟨by rw [e], κ, rfl, ob_keep.refl κ⟩
    · have hlt : k < κ.1 := by
        rcases Nat.lt_or_ge k κ.1 with z | z
        · exact z
        · exact absurd (nI_le z (by omega)) hc
      have hih := ih hlt
      rw [pu_cnt_S] at hih
      refine mw_aload0 d_ob_countWithoutWayTo_12 ?_
      refine gf_ob_into d_ob_countWithoutWayTo_13 hn rfl ?_
      refine mw_iload2 d_ob_countWithoutWayTo_16 ?_
      refine ob_al (o := 1) (by omega) (by omega) d_ob_countWithoutWayTo_17 hn ?_
      refine mw_cV0e lk_ob_countWithoutWayTo_ps_isEmpty d_ob_countWithoutWayTo_18 (ob_lt hn (by omega)) (ob_gS (by omega)) (Nat.le_of_ble_eq_true rfl) (oc_isEmpty (d := d - 1) hn (by omega)) (by omega) (Nat.le_of_ble_eq_true rfl) (Nat.zero_le _) (Nat.zero_le _) ?_
      have e : pu_ex (κ.2.1 (2 * k + 1)) 128 = pu_ex (fun q => w q k) κ.1 := by
        have e2 : κ.2.1 (2 * k + 1) = fun q => w q k := funext (hI.2.2.2.2 k hlt)
        rw [e2]
        exact pu_ex_N (by omega) (fun i hi => (hI.1 i k hi).1)
      rw [e]
      cases hm : pu_ex (fun q => w q k) κ.1 with
      | false =>
        refine mw_if_eq (tgt := 27) d_ob_countWithoutWayTo_21 (by decide) (fun hc2 => absurd hc2 (by decide)) (fun hc2 => ?_)
        rw [if_pos (by rw [hm]; rfl)] at hih
        refine mw_inc1 d_ob_countWithoutWayTo_24 rfl (Nat.le_of_ble_eq_true rfl) ?_
        refine mw_inc2 d_ob_countWithoutWayTo_27 rfl (Nat.le_of_ble_eq_true rfl) ?_
        refine mw_goto (tgt := 4) d_ob_countWithoutWayTo_30 (by decide) ?_
        exact mw_bud (Nat.zero_le _) (Nat.zero_le _) hih
      | true =>
        refine mw_if_eq (tgt := 27) d_ob_countWithoutWayTo_21 (by decide) (fun hc2 => ?_) (fun hc2 => absurd (show bI (!true) = 0 by decide) hc2)
        rw [if_neg (by rw [hm]; decide), Nat.add_zero] at hih
        refine mw_inc2 d_ob_countWithoutWayTo_27 rfl (Nat.le_of_ble_eq_true rfl) ?_
        refine mw_goto (tgt := 4) d_ob_countWithoutWayTo_30 (by decide) ?_
        exact mw_bud (Nat.zero_le _) (Nat.zero_le _) hih
  refine mw_iconst (v := nI 0) d_ob_countWithoutWayTo_0 (by decide) ?_
  refine mw_istore1 d_ob_countWithoutWayTo_1 rfl (Nat.le_of_ble_eq_true rfl) ?_
  refine mw_iconst (v := nI 0) d_ob_countWithoutWayTo_2 (by decide) ?_
  refine mw_istore2 d_ob_countWithoutWayTo_3 rfl (Nat.le_of_ble_eq_true rfl) ?_
  exact key 0 (by omega)
end Cnt
