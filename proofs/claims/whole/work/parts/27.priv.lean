/-! OrderBench's private methods over search. -/
theorem pu_ex_N {f : Nat → Bool} {N : Nat} (hN : N ≤ 128) (h : ∀ i, f i = true → i < N) : pu_ex f 128 = pu_ex f N := by
  cases e : pu_ex f N with
  | true =>
    obtain ⟨p, h1, h2⟩ := pu_ex_iff.mp e
    exact pu_ex_iff.mpr ⟨p, by omega, h2⟩
  | false =>
    refine pu_ex_false.mpr (fun p hp => ?_)
    cases e2 : f p with
    | false => rfl
    | true =>
      have := pu_ex_false.mp e p (h p e2)
      rw [e2] at this; cases this
theorem pu_cnt_N {f : Nat → Bool} {N : Nat} (h : ∀ i, f i = true → i < N) : ∀ m, N ≤ m → pu_cnt f m = pu_cnt f N := by
  intro m hm
  induction m with
  | zero => have : N = 0 := by omega
            subst this; rfl
  | succ m ih =>
    by_cases e : N = m + 1
    · subst e; rfl
    · simp only [pu_cnt]
      rw [ih (by omega), if_neg (fun z => by have := h m z; omega)]
      rfl
section Priv
variable {E : mw_E} {d n : Nat} {κ : ob_K} {r : Nat → mw_O} {w : Nat → Nat → Bool}
theorem ct_isOnCircle {p : Nat} (hd : 5 ≤ d) (hn : 250 ≤ n) (hI : ob_I κ w) (hp : p < κ.1) : mw_Ct E m_ob_isOnCircle d 0 0 [.ref (mw_b E + 0), .int (nI p)] (ob_h E κ n r) (ob_Q E κ n r (some (.int (bI (gp_c κ.1 w p))))) mw_no := by
  show mw_W E m_ob_isOnCircle d _ _ 0 0 0 [some (.ref (mw_b E + 0)), some (.int (nI p))] [] (ob_h E κ n r)
  obtain ⟨h1, h2, h3, h4, h5⟩ := id hI
  refine mw_aload0 d_ob_isOnCircle_0 ?_
  refine mw_aload0 d_ob_isOnCircle_1 ?_
  refine gf_ob_out d_ob_isOnCircle_2 hn rfl ?_
  refine mw_iload1 d_ob_isOnCircle_5 ?_
  refine mw_iconst (v := (-1)) d_ob_isOnCircle_6 (by decide) ?_
  refine mw_iconst (v := (-1)) d_ob_isOnCircle_7 (by decide) ?_
  refine mw_cV4 lk_ob_isOnCircle_ob_search d_ob_isOnCircle_8 (ob_lt hn (by decide)) ob_g0 (Nat.le_of_ble_eq_true rfl) (ct_search (d := d - 1) (o := 0) (og := none) (os := none) (by omega) (by omega) hn h3 h1 h4 hp (fun g z => by cases z) (fun g z => by cases z)) (by omega) (Nat.le_of_ble_eq_true rfl) (Nat.zero_le _) (Nat.zero_le _) ?_ (fun _ _ q => q.elim)
  rintro v h' ⟨rfl, κ1, rfl, hk, hr⟩
  have hr := hr rfl
  have hI1 := hI.keep hk.ob
  have hN1 : κ1.1 = κ.1 := hk.1
  show mw_W E m_ob_isOnCircle d _ _ _ _ _ _ (Value.int _ :: []) _
  refine mw_pop d_ob_isOnCircle_11 rfl ?_
  refine mw_aload0 d_ob_isOnCircle_12 ?_
  refine gf_ob_reached d_ob_isOnCircle_13 hn rfl ?_
  refine mw_aload0 d_ob_isOnCircle_16 ?_
  refine gf_ob_into d_ob_isOnCircle_17 hn rfl ?_
  refine mw_iload1 d_ob_isOnCircle_20 ?_
  refine ob_al (o := 1) (by omega) (by omega) d_ob_isOnCircle_21 hn ?_
  refine mw_cV1e lk_ob_isOnCircle_ps_meets d_ob_isOnCircle_22 (ob_lt hn (by omega)) (ob_gS (by omega)) (Nat.le_of_ble_eq_true rfl) (oc_meets (d := d - 1) hn (by omega) (by omega)) (by omega) (Nat.le_of_ble_eq_true rfl) (Nat.zero_le _) (Nat.zero_le _) ?_
  refine mw_iret d_ob_isOnCircle_25 rfl (nbI _) ⟨?_, κ1, rfl, hk.ob⟩
  have e : bt_meet (κ1.2.1 240) (κ1.2.1 (2 * p + 1)) = gp_c κ.1 w p := by
    rw [hr]
    unfold bt_meet gp_c
    have e2 : (fun i => bf_r κ.1 w (gl_s none) p i && κ1.2.1 (2 * p + 1) i) = fun i => gp_T κ.1 w p i && w i p := by
      funext i
      rw [hI1.2.2.2.2 p (by omega) i]
      rfl
    rw [e2]
    refine pu_ex_N (by omega) (fun i hi => ?_)
    simp only [Bool.and_eq_true] at hi
    exact gp_lt h1 hp hi.1
  rw [e]
theorem ct_leastOfGroup {a : Nat} (hd : 5 ≤ d) (hn : 250 ≤ n) (hI : ob_I κ w) (ha : a < κ.1) : mw_Ct E m_ob_leastOfGroup d 0 0 [.ref (mw_b E + 0), .int (nI a)] (ob_h E κ n r) (ob_Q E κ n r (some (.int (nI (gp_g κ.1 w a))))) mw_no := by
  show mw_W E m_ob_leastOfGroup d _ _ 0 0 0 [some (.ref (mw_b E + 0)), some (.int (nI a))] [] (ob_h E κ n r)
  obtain ⟨h1, h2, h3, h4, h5⟩ := id hI
  refine mw_aload0 d_ob_leastOfGroup_0 ?_
  refine mw_aload0 d_ob_leastOfGroup_1 ?_
  refine gf_ob_out d_ob_leastOfGroup_2 hn rfl ?_
  refine mw_iload1 d_ob_leastOfGroup_5 ?_
  refine mw_iconst (v := (-1)) d_ob_leastOfGroup_6 (by decide) ?_
  refine mw_iconst (v := (-1)) d_ob_leastOfGroup_7 (by decide) ?_
  refine mw_cV4 lk_ob_leastOfGroup_ob_search d_ob_leastOfGroup_8 (ob_lt hn (by decide)) ob_g0 (Nat.le_of_ble_eq_true rfl) (ct_search (d := d - 1) (o := 0) (og := none) (os := none) (by omega) (by omega) hn h3 h1 h4 ha (fun g z => by cases z) (fun g z => by cases z)) (by omega) (Nat.le_of_ble_eq_true rfl) (Nat.zero_le _) (Nat.zero_le _) ?_ (fun _ _ q => q.elim)
  rintro v h' ⟨rfl, κ1, rfl, hk, hr⟩
  have hr := hr rfl
  have hN1 : κ1.1 = κ.1 := hk.1
  show mw_W E m_ob_leastOfGroup d _ _ _ _ _ _ (Value.int _ :: []) _
  refine mw_pop d_ob_leastOfGroup_11 rfl ?_
  refine mw_aload0 d_ob_leastOfGroup_12 ?_
  refine gf_ob_kept d_ob_leastOfGroup_13 hn rfl ?_
  refine mw_cV0v lk_ob_leastOfGroup_ps_clear d_ob_leastOfGroup_16 (ob_lt hn (by omega)) (ob_gS (by omega)) (Nat.le_of_ble_eq_true rfl) (oc_clear (d := d - 1) hn (by omega)) (by omega) (Nat.le_of_ble_eq_true rfl) (Nat.zero_le _) (Nat.zero_le _) ?_
  refine mw_aload0 d_ob_leastOfGroup_19 ?_
  refine gf_ob_kept d_ob_leastOfGroup_20 hn rfl ?_
  refine mw_aload0 d_ob_leastOfGroup_23 ?_
  refine gf_ob_reached d_ob_leastOfGroup_24 hn rfl ?_
  refine mw_cV1v lk_ob_leastOfGroup_ps_addAllOf d_ob_leastOfGroup_27 (ob_lt hn (by omega)) (ob_gS (by omega)) (Nat.le_of_ble_eq_true rfl) (oc_addAllOf (d := d - 1) hn (by omega) (by omega) (by omega)) (by omega) (Nat.le_of_ble_eq_true rfl) (Nat.zero_le _) (Nat.zero_le _) ?_
  generalize hκ2 : ((κ1.1, va_up (κ1.1, va_up κ1.2.1 243 (fun _ => false), κ1.2.2).2.1 243 (fun i => (κ1.1, va_up κ1.2.1 243 (fun _ => false), κ1.2.2).2.1 243 i || (κ1.1, va_up κ1.2.1 243 (fun _ => false), κ1.2.2).2.1 240 i), κ1.2.2) : ob_K) = κ2
  have hk2 : ob_keep κ κ2 := by
    subst hκ2
    refine ⟨hN1, fun j hj => ?_⟩
    have e1 : j ≠ 243 := by omega
    simp only [va_up, if_neg e1]
    exact hk.ob.2 j hj
  have hs2 : κ2.2.1 243 = bf_r κ.1 w (gl_s none) a := by
    subst hκ2
    funext i
    simp [va_up, hr]
  have hN2 : κ2.1 = κ.1 := hk2.1
  have hI2 := hI.keep hk2
  refine mw_aload0 d_ob_leastOfGroup_30 ?_
  refine mw_aload0 d_ob_leastOfGroup_31 ?_
  refine gf_ob_into d_ob_leastOfGroup_32 hn rfl ?_
  refine mw_iload1 d_ob_leastOfGroup_35 ?_
  refine mw_iconst (v := (-1)) d_ob_leastOfGroup_36 (by decide) ?_
  refine mw_iconst (v := (-1)) d_ob_leastOfGroup_37 (by decide) ?_
  refine mw_cV4 lk_ob_leastOfGroup_ob_search d_ob_leastOfGroup_38 (ob_lt hn (by decide)) ob_g0 (Nat.le_of_ble_eq_true rfl) (ct_search (d := d - 1) (o := 1) (og := none) (os := none) (w := gp_rev w) (by omega) (by omega) hn (by omega) (gp_rev_ok hI2.1) hI2.2.2.2.2 (by omega) (fun g z => by cases z) (fun g z => by cases z)) (by omega) (Nat.le_of_ble_eq_true rfl) (Nat.zero_le _) (Nat.zero_le _) ?_ (fun _ _ q => q.elim)
  rintro v h' ⟨rfl, κ3, rfl, hk3, hr3⟩
  have hr3 := hr3 rfl
  have hN3 : κ3.1 = κ.1 := hk3.1.trans hN2
  have hs3 : κ3.2.1 243 = bf_r κ.1 w (gl_s none) a := (hk3.2.2 243 (by omega) (by omega) (by omega)).trans hs2
  show mw_W E m_ob_leastOfGroup d _ _ _ _ _ _ (Value.int _ :: []) _
  refine mw_pop d_ob_leastOfGroup_41 rfl ?_
  refine mw_aload0 d_ob_leastOfGroup_42 ?_
  refine gf_ob_kept d_ob_leastOfGroup_43 hn rfl ?_
  refine mw_aload0 d_ob_leastOfGroup_46 ?_
  refine gf_ob_reached d_ob_leastOfGroup_47 hn rfl ?_
  refine mw_cV1v lk_ob_leastOfGroup_ps_keepAllOf d_ob_leastOfGroup_50 (ob_lt hn (by omega)) (ob_gS (by omega)) (Nat.le_of_ble_eq_true rfl) (oc_keepAllOf (d := d - 1) hn (by omega) (by omega) (by omega)) (by omega) (Nat.le_of_ble_eq_true rfl) (Nat.zero_le _) (Nat.zero_le _) ?_
  refine mw_aload0 d_ob_leastOfGroup_53 ?_
  refine gf_ob_kept d_ob_leastOfGroup_54 hn rfl ?_
  refine mw_iconst (v := nI 0) d_ob_leastOfGroup_57 (by decide) ?_
  refine mw_cV1e lk_ob_leastOfGroup_ps_next d_ob_leastOfGroup_58 (ob_lt hn (by omega)) (ob_gS (by omega)) (Nat.le_of_ble_eq_true rfl) (oc_next (d := d - 1) (f := 0) (by omega) hn (by omega) (by omega)) (by omega) (Nat.le_of_ble_eq_true rfl) (Nat.zero_le _) (Nat.zero_le _) ?_
  refine mw_iret d_ob_leastOfGroup_61 rfl rfl ⟨?_, _, rfl, ⟨hN3, fun j hj => ?_⟩⟩
  · have e : bt_nx (va_up κ3.2.1 243 (fun i => κ3.2.1 243 i && κ3.2.1 240 i) 243) 0 = gp_g κ.1 w a := by
      rw [mw_up_s, hs3, hr3, hN2]
      have hlt := gp_g_lt (N := κ.1) (w := w) ha
      refine pu_fnd_eq (by omega) ?_ (fun p hp => ?_)
      · have h9 := pu_fnd_lt (f := fun b => gp_T κ.1 w a b && gp_T κ.1 w b a) hlt
        simp only [Bool.and_eq_true] at h9
        have h8 : bf_r κ.1 (gp_rev w) (gl_s none) a (gp_g κ.1 w a) = true := (gp_rev_T h1 ha hlt).trans h9.2
        show (bf_r κ.1 w (gl_s none) a (gp_g κ.1 w a) && bf_r κ.1 (gp_rev w) (gl_s none) a (gp_g κ.1 w a) && decide (0 ≤ gp_g κ.1 w a)) = true
        rw [show bf_r κ.1 w (gl_s none) a (gp_g κ.1 w a) = true from h9.1, h8]
        simp
      · have h9 := pu_fnd_min (f := fun b => gp_T κ.1 w a b && gp_T κ.1 w b a) hp
        have h8 : bf_r κ.1 (gp_rev w) (gl_s none) a p = gp_T κ.1 w p a := gp_rev_T h1 ha (by omega)
        show (bf_r κ.1 w (gl_s none) a p && bf_r κ.1 (gp_rev w) (gl_s none) a p && decide (0 ≤ p)) = false
        rw [h8]
        show (gp_T κ.1 w a p && gp_T κ.1 w p a && decide (0 ≤ p)) = false
        rw [h9]
        rfl
    exact congrArg (fun z => some (Value.int (nI z))) e
  · have e1 : j ≠ 243 := by omega
    show va_up κ3.2.1 243 _ j = κ.2.1 j
    rw [mw_up_n _ _ e1]
    exact ((hk2.trans hk3.ob).2 j hj)
end Priv
