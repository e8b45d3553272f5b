/-! The reference: all, onCircle, circle, least, group, groups, always, all of three, gate, count. -/
section MCirc
variable {E : mw_E} {d n : Nat} {μ : md_K} {r : Nat → mw_O} {w : Nat → Nat → Bool}
def md_Rd (μ : md_K) (w : Nat → Nat → Bool) : Prop := ∀ a b, a < μ.2.1 → b < μ.2.1 → μ.2.2.1 (120 + a) b = gp_T μ.2.1 w a b
def md_Ra (μ μ' : md_K) (w : Nat → Nat → Bool) (k : Nat) : Prop := md_keep μ μ' ∧ μ'.1 = μ.1 ∧ ∀ a b, a < k → b < μ.2.1 → μ'.2.2.1 (120 + a) b = gp_T μ.2.1 w a b
theorem ct_mdall0 (hd : 1 ≤ d) (hn : 497 ≤ n) (hI : md_I μ w) : mw_Ct E m_md_all0 d 0 0 [.ref (mw_b E + 250)] (md_h E μ n r) (fun v h' => v = none ∧ ∃ μ', h' = md_h E μ' n r ∧ md_keep μ μ' ∧ μ'.1 = μ.1 ∧ md_Rd μ' w) mw_no := by
  show mw_W E m_md_all0 d _ _ 0 0 0 [some (.ref (mw_b E + 250))] [] (md_h E μ n r)
  refine mw_lo [some (.ref (mw_b E + 250)), none, none] (by simp [mw_le]) ?_
  have h120 := hI.2.2.1
  generalize hQ : (fun (v : Option Value) (h' : mw_H) => v = none ∧ ∃ μ', h' = md_h E μ' n r ∧ md_keep μ μ' ∧ μ'.1 = μ.1 ∧ md_Rd μ' w) = Q
  have kb : ∀ k, k < μ.2.1 → (∀ μ', md_Ra μ μ' w (k + 1) → mw_W E m_md_all0 d Q mw_no 0 0 54 [some (.ref (mw_b E + 250)), some (.int (nI k)), none] [] (md_h E μ' n r)) → ∀ b, b ≤ μ.2.1 → ∀ μ', md_Ra μ μ' w k → (∀ q, q < b → μ'.2.2.1 (120 + k) q = gp_T μ.2.1 w k q) → (∀ q, q < μ.2.1 → μ'.2.2.2 0 q = bf_d μ.2.1 w gp_no k q) → mw_W E m_md_all0 d Q mw_no 0 0 18 [some (.ref (mw_b E + 250)), some (.int (nI k)), some (.int (nI b))] [] (md_h E μ' n r) := by
    intro k hk kout
    refine mw_down μ.2.1 (fun b hb ih μ' hRa hrow haw => ?_)
    have hN := hRa.1.1
    refine mw_iload2 d_md_all0_18 ?_
    refine mw_aload0 d_md_all0_19 ?_
    refine gf_md_n d_md_all0_20 hn rfl ?_
    rw [hN]
    refine mw_icmp_ge (tgt := 54) d_md_all0_23 (by decide) (fun hc => ?_) (fun hc => ?_)
    · have e := nI_geE hb (by omega) hc
      refine mw_lo [some (.ref (mw_b E + 250)), some (.int (nI k)), none] (by simp [mw_le]) ?_
      refine kout μ' ⟨hRa.1, hRa.2.1, fun a q ha hq => ?_⟩
      by_cases z : a = k
      · rw [z]; exact hrow q (by omega)
      · exact hRa.2.2 a q (by omega) hq
    · have hlt := nI_geN hb (by omega) hc
      have hg : bf_d μ.2.1 w gp_no k b < 0 ↔ gp_T μ.2.1 w k b = false := mf_ge hI.1 hk (by omega)
      have k47 : mw_W E m_md_all0 d Q mw_no 0 0 47 [some (.ref (mw_b E + 250)), some (.int (nI k)), some (.int (nI b))] [.int (bI (gp_T μ.2.1 w k b)), .int (nI b), .ref (mw_b E + md_a (120 + k))] (md_h E μ' n r) := by
        refine md_bs (by omega) (by omega) d_md_all0_47 hn ?_
        refine mw_inc2 d_md_all0_48 rfl (Nat.le_of_ble_eq_true rfl) ?_
        refine mw_goto (tgt := 18) d_md_all0_51 (by decide) ?_
        refine ih hlt _ ⟨⟨hN, fun j hj => ?_⟩, hRa.2.1, fun a q ha hq => ?_⟩ (fun q hq => ?_) haw
        · show va_up μ'.2.2.1 (120 + k) _ j = _
          rw [mw_up_n _ _ (show j ≠ 120 + k by omega)]; exact hRa.1.2 j hj
        · show va_up μ'.2.2.1 (120 + k) _ (120 + a) q = _
          rw [mw_up_n _ _ (show 120 + a ≠ 120 + k by omega)]; exact hRa.2.2 a q ha hq
        · show va_up μ'.2.2.1 (120 + k) (va_up (μ'.2.2.1 (120 + k)) b (gp_T μ.2.1 w k b)) (120 + k) q = _
          rw [mw_up_s]
          by_cases z : q = b
          · rw [z, mw_up_s]
          · rw [mw_up_n _ _ z]; exact hrow q (by omega)
      refine mw_aload0 d_md_all0_26 ?_
      refine gf_md_reached d_md_all0_27 hn rfl ?_
      refine mw_iload1 d_md_all0_30 ?_
      refine md_rl (by omega) d_md_all0_31 hn ?_
      refine mw_iload2 d_md_all0_32 ?_
      refine mw_aload0 d_md_all0_33 ?_
      refine gf_md_away d_md_all0_34 hn rfl ?_
      refine mw_iload2 d_md_all0_37 ?_
      refine md_il (j := 0) (by omega) (by omega) d_md_all0_38 hn ?_
      rw [haw b hlt]
      refine mw_if_lt (tgt := 46) d_md_all0_39 (by decide) (fun hc2 => ?_) (fun hc2 => ?_)
      · rw [hg.mp hc2] at k47
        refine mw_iconst (v := nI 0) d_md_all0_46 (by decide) ?_
        exact k47
      · have e : gp_T μ.2.1 w k b = true := by
          cases e : gp_T μ.2.1 w k b with
          | true => rfl
          | false => exact absurd (hg.mpr e) hc2
        rw [e] at k47
        refine mw_iconst (v := nI 1) d_md_all0_42 (by decide) ?_
        refine mw_goto (tgt := 47) d_md_all0_43 (by decide) ?_
        exact k47
  have ka : ∀ k, k ≤ μ.2.1 → ∀ μ', md_Ra μ μ' w k → mw_W E m_md_all0 d Q mw_no 0 0 2 [some (.ref (mw_b E + 250)), some (.int (nI k)), none] [] (md_h E μ' n r) := by
    refine mw_down μ.2.1 (fun k hk ih μ' hRa => ?_)
    have hN := hRa.1.1
    refine mw_iload1 d_md_all0_2 ?_
    refine mw_aload0 d_md_all0_3 ?_
    refine gf_md_n d_md_all0_4 hn rfl ?_
    rw [hN]
    refine mw_icmp_ge (tgt := 60) d_md_all0_7 (by decide) (fun hc => ?_) (fun hc => ?_)
    · have e := nI_geE hk (by omega) hc
      subst hQ
      refine mw_vret d_md_all0_60 rfl ⟨rfl, μ', rfl, hRa.1, hRa.2.1, fun a b ha hb => ?_⟩
      rw [hN] at ha hb ⊢
      exact hRa.2.2 a b (by omega) hb
    · have hlt := nI_geN hk (by omega) hc
      have hI' := hI.keep hRa.1
      refine mw_aload0 d_md_all0_10 ?_
      refine mw_iload1 d_md_all0_11 ?_
      refine mw_iconst (v := (-1)) d_md_all0_12 (by decide) ?_
      refine mw_cV2 (d' := d - 1) lk_md_all0_md_from d_md_all0_13 (md_lt hn (by decide)) md_gF (Nat.le_of_ble_eq_true rfl) (ct_from (w := w) (os := none) hn hI' (by rw [hN]; exact hlt) gl_ok0) (by omega) (Nat.le_of_ble_eq_true rfl) (Nat.zero_le _) (Nat.zero_le _) ?_ (fun _ _ q => q.elim)
      rintro v h' ⟨rfl, R, rfl, hR⟩
      show mw_W E m_md_all0 d _ _ _ _ _ _ [] _
      rw [hN] at hR
      refine mw_iconst (v := nI 0) d_md_all0_16 (by decide) ?_
      refine mw_istore2 d_md_all0_17 rfl (Nat.le_of_ble_eq_true rfl) ?_
      refine mw_bud (Nat.zero_le _) (Nat.zero_le _) (kb k hlt (fun μ2 h2 => ?_) 0 (Nat.zero_le _) _ ⟨hRa.1.trans (md_keep_R _ R), hRa.2.1, hRa.2.2⟩ (fun q hq => by omega) (fun q hq => ?_))
      · refine mw_inc1 d_md_all0_54 rfl (Nat.le_of_ble_eq_true rfl) ?_
        refine mw_goto (tgt := 2) d_md_all0_57 (by decide) ?_
        exact ih hlt μ2 h2
      · rw [md_R0g]; exact hR q hq
  refine mw_iconst (v := nI 0) d_md_all0_0 (by decide) ?_
  refine mw_istore1 d_md_all0_1 rfl (Nat.le_of_ble_eq_true rfl) ?_
  exact ka 0 (Nat.zero_le _) μ ⟨md_keep.refl μ, rfl, fun a b ha => by omega⟩
theorem ct_mdonCircle {a : Nat} (hn : 497 ≤ n) (hI : md_I μ w) (hR : md_Rd μ w) (ha : a < μ.2.1) : mw_Ct E m_md_onCircle d 0 0 [.ref (mw_b E + 250), .int (nI a)] (md_h E μ n r) (fun v h' => v = some (.int (bI (gp_c μ.2.1 w a))) ∧ h' = md_h E μ n r) mw_no := by
  show mw_W E m_md_onCircle d _ _ 0 0 0 [some (.ref (mw_b E + 250)), some (.int (nI a))] [] (md_h E μ n r)
  refine mw_lo [some (.ref (mw_b E + 250)), some (.int (nI a)), none] (by simp [mw_le]) ?_
  obtain ⟨hw, h1, h120, hway⟩ := hI
  have key : ∀ b, b ≤ μ.2.1 → (∀ q, q < b → ¬ (w a q = true ∧ gp_T μ.2.1 w q a = true)) → mw_W E m_md_onCircle d (fun v h' => v = some (.int (bI (gp_c μ.2.1 w a))) ∧ h' = md_h E μ n r) mw_no 0 0 2 [some (.ref (mw_b E + 250)), some (.int (nI a)), some (.int (nI b))] [] (md_h E μ n r) := by
    refine mw_down μ.2.1 (fun b hb ih hno => ?_)
    refine mw_iload2 d_md_onCircle_2 ?_
    refine mw_aload0 d_md_onCircle_3 ?_
    refine gf_md_n d_md_onCircle_4 hn rfl ?_
    refine mw_icmp_ge (tgt := 40) d_md_onCircle_7 (by decide) (fun hc => ?_) (fun hc => ?_)
    · have e := nI_geE hb (by omega) hc
      refine mw_iconst (v := nI 0) d_md_onCircle_40 (by decide) ?_
      refine mw_iret d_md_onCircle_41 rfl nb0 ⟨?_, rfl⟩
      cases e2 : gp_c μ.2.1 w a with
      | false => rfl
      | true =>
        obtain ⟨q, hq, h3, h4⟩ := (gp_c_iff hw ha).mp e2
        exact absurd ⟨h3, h4⟩ (hno q (by omega))
    · have hlt := nI_geN hb (by omega) hc
      have k34 : ¬ (w a b = true ∧ gp_T μ.2.1 w b a = true) → mw_W E m_md_onCircle d (fun v h' => v = some (.int (bI (gp_c μ.2.1 w a))) ∧ h' = md_h E μ n r) mw_no 0 0 34 [some (.ref (mw_b E + 250)), some (.int (nI a)), some (.int (nI b))] [] (md_h E μ n r) := by
        intro hn2
        refine mw_inc2 d_md_onCircle_34 rfl (Nat.le_of_ble_eq_true rfl) ?_
        refine mw_goto (tgt := 2) d_md_onCircle_37 (by decide) ?_
        refine ih hlt (fun q hq => ?_)
        by_cases z : q = b
        · rw [z]; exact hn2
        · exact hno q (by omega)
      refine mw_aload0 d_md_onCircle_10 ?_
      refine gf_md_way d_md_onCircle_11 hn rfl ?_
      refine mw_iload1 d_md_onCircle_14 ?_
      refine md_wl (by omega) d_md_onCircle_15 hn ?_
      refine mw_iload2 d_md_onCircle_16 ?_
      refine md_bl (by omega) (by omega) d_md_onCircle_17 hn ?_
      rw [hway a b ha hlt]
      refine mw_if_eq (tgt := 34) d_md_onCircle_18 (by decide) (fun hc2 => k34 (fun z => by rw [bI_0 hc2] at z; exact Bool.noConfusion z.1)) (fun hc2 => ?_)
      refine mw_aload0 d_md_onCircle_21 ?_
      refine gf_md_reached d_md_onCircle_22 hn rfl ?_
      refine mw_iload2 d_md_onCircle_25 ?_
      refine md_rl (by omega) d_md_onCircle_26 hn ?_
      refine mw_iload1 d_md_onCircle_27 ?_
      refine md_bl (by omega) (by omega) d_md_onCircle_28 hn ?_
      rw [hR b a hlt ha]
      refine mw_if_eq (tgt := 34) d_md_onCircle_29 (by decide) (fun hc3 => k34 (fun z => by rw [bI_0 hc3] at z; exact Bool.noConfusion z.2)) (fun hc3 => ?_)
      refine mw_iconst (v := nI 1) d_md_onCircle_32 (by decide) ?_
      exact mw_iret d_md_onCircle_33 rfl nb1 ⟨by rw [(gp_c_iff hw ha).mpr ⟨b, hlt, bI_n hc2, bI_n hc3⟩]; rfl, rfl⟩
  refine mw_iconst (v := nI 0) d_md_onCircle_0 (by decide) ?_
  refine mw_istore2 d_md_onCircle_1 rfl (Nat.le_of_ble_eq_true rfl) ?_
  exact key 0 (Nat.zero_le _) (fun q hq => by omega)
theorem md_all {M : mw_M} {bc bs pc idx : Nat} {Q : Option Value → mw_H → Prop} {X : Nat → mw_H → Prop} {lo : List (Option Value)} {st : List Value} (hwk : mw_lkV M m_md_all0 idx 0 2) (hd9 : decode M.2.1 pc = .ok (.invokevirtual idx, 3)) (hn : 497 ≤ n) (hI : md_I μ w) (hd : 2 ≤ d) (hst : (st.map fun v => v.category).sum ≤ 8) (k : ∀ μ', md_keep μ μ' → μ'.1 = μ.1 → md_Rd μ' w → mw_W E M d Q X bc bs (pc + 3) lo st (md_h E μ' n r)) : mw_W E M d Q X bc bs pc lo (.ref (mw_b E + 250) :: st) (md_h E μ n r) := by
  refine mw_cV0 (d' := d - 1) hwk hd9 (md_lt hn (by decide)) md_gF (Nat.le_of_ble_eq_true rfl) (ct_mdall0 (by omega) hn hI) (by omega) hst (Nat.zero_le _) (Nat.zero_le _) ?_ (fun _ _ q => q.elim)
  rintro v h' ⟨rfl, μ', rfl, h1, h2, h3⟩
  exact k μ' h1 h2 h3
theorem ct_mdcircle (hd : 2 ≤ d) (hn : 497 ≤ n) (hI : md_I μ w) : mw_Ct E m_md_circle d 0 0 [.ref (mw_b E + 250)] (md_h E μ n r) (md_Q E μ n r (nI 0) (if pu_fnd (gp_c μ.2.1 w) μ.2.1 < μ.2.1 then nI (pu_fnd (gp_c μ.2.1 w) μ.2.1) else -1)) mw_no := by
  show mw_W E m_md_circle d _ _ 0 0 0 [some (.ref (mw_b E + 250))] [] (md_h E μ n r)
  refine mw_lo [some (.ref (mw_b E + 250)), none] (by simp [mw_le]) ?_
  have h120 := hI.2.2.1
  refine mw_aload0 d_md_circle_0 ?_
  refine mw_iconst (v := nI 0) d_md_circle_1 (by decide) ?_
  refine pf_md_thrown d_md_circle_2 hn rfl ?_
  refine mw_aload0 d_md_circle_5 ?_
  refine md_all lk_md_circle_md_all0 d_md_circle_6 hn (hI.keep (md_keep_t μ _)) hd (Nat.le_of_ble_eq_true rfl) (fun μ1 hk1 ht hRd => ?_)
  have hk : md_keep μ μ1 := (md_keep_t μ _).trans hk1
  have hI1 := hI.keep hk
  have hN := hk.1
  have key : ∀ b, b ≤ μ.2.1 → (∀ q, q < b → gp_c μ.2.1 w q = false) → mw_W E m_md_circle d (md_Q E μ n r (nI 0) (if pu_fnd (gp_c μ.2.1 w) μ.2.1 < μ.2.1 then nI (pu_fnd (gp_c μ.2.1 w) μ.2.1) else -1)) mw_no 0 0 11 [some (.ref (mw_b E + 250)), some (.int (nI b))] [] (md_h E μ1 n r) := by
    refine mw_down μ.2.1 (fun b hb ih hno => ?_)
    refine mw_iload1 d_md_circle_11 ?_
    refine mw_aload0 d_md_circle_12 ?_
    refine gf_md_n d_md_circle_13 hn rfl ?_
    rw [hN]
    refine mw_icmp_ge (tgt := 35) d_md_circle_16 (by decide) (fun hc => ?_) (fun hc => ?_)
    · have e := nI_geE hb (by omega) hc
      have e2 : pu_fnd (gp_c μ.2.1 w) μ.2.1 = μ.2.1 := pu_fnd_none (fun p hp => hno p (by omega))
      refine mw_iconst (v := (-1)) d_md_circle_35 (by decide) ?_
      exact mw_iret d_md_circle_36 rfl rfl ⟨by rw [e2, if_neg (by omega)], μ1, rfl, hk, ht⟩
    · have hlt := nI_geN hb (by omega) hc
      refine mw_aload0 d_md_circle_19 ?_
      refine mw_iload1 d_md_circle_20 ?_
      refine mw_cV1e lk_md_circle_md_onCircle d_md_circle_21 (md_lt hn (by decide)) md_gF (Nat.le_of_ble_eq_true rfl) (ct_mdonCircle (d := d - 1) hn hI1 hRd (by rw [hN]; exact hlt)) (by omega) (Nat.le_of_ble_eq_true rfl) (Nat.zero_le _) (Nat.zero_le _) ?_
      rw [hN]
      refine mw_if_eq (tgt := 29) d_md_circle_24 (by decide) (fun hc2 => ?_) (fun hc2 => ?_)
      · refine mw_inc1 d_md_circle_29 rfl (Nat.le_of_ble_eq_true rfl) ?_
        refine mw_goto (tgt := 11) d_md_circle_32 (by decide) ?_
        exact mw_bud (Nat.zero_le _) (Nat.zero_le _) (ih hlt (pu_fnd_S hno (bI_0 hc2)))
      · have e2 : pu_fnd (gp_c μ.2.1 w) μ.2.1 = b := pu_fnd_eq hlt (bI_n hc2) hno
        refine mw_iload1 d_md_circle_27 ?_
        exact mw_iret d_md_circle_28 rfl rfl ⟨by rw [e2, if_pos hlt], μ1, rfl, hk, ht⟩
  refine mw_iconst (v := nI 0) d_md_circle_9 (by decide) ?_
  refine mw_istore1 d_md_circle_10 rfl (Nat.le_of_ble_eq_true rfl) ?_
  exact mw_bud (Nat.zero_le _) (Nat.zero_le _) (key 0 (Nat.zero_le _) (fun q hq => by omega))
theorem ct_mdleast {a : Nat} (hn : 497 ≤ n) (hI : md_I μ w) (hR : md_Rd μ w) (ha : a < μ.2.1) : mw_Ct E m_md_least d 0 0 [.ref (mw_b E + 250), .int (nI a)] (md_h E μ n r) (fun v h' => v = some (.int (nI (gp_g μ.2.1 w a))) ∧ h' = md_h E μ n r) mw_no := by
  show mw_W E m_md_least d _ _ 0 0 0 [some (.ref (mw_b E + 250)), some (.int (nI a))] [] (md_h E μ n r)
  refine mw_lo [some (.ref (mw_b E + 250)), some (.int (nI a)), none] (by simp [mw_le]) ?_
  obtain ⟨hw, h1, h120, hway⟩ := hI
  have hgl := gp_g_lt (w := w) ha
  have hgt : (gp_T μ.2.1 w a (gp_g μ.2.1 w a) && gp_T μ.2.1 w (gp_g μ.2.1 w a) a) = true := pu_fnd_lt (f := fun b => gp_T μ.2.1 w a b && gp_T μ.2.1 w b a) hgl
  have key : ∀ b, b ≤ gp_g μ.2.1 w a → mw_W E m_md_least d (fun v h' => v = some (.int (nI (gp_g μ.2.1 w a))) ∧ h' = md_h E μ n r) mw_no 0 0 2 [some (.ref (mw_b E + 250)), some (.int (nI a)), some (.int (nI b))] [] (md_h E μ n r) := by
    refine mw_down (gp_g μ.2.1 w a) (fun b hb ih => ?_)
    have k24 : (gp_T μ.2.1 w a b && gp_T μ.2.1 w b a) = false → mw_W E m_md_least d (fun v h' => v = some (.int (nI (gp_g μ.2.1 w a))) ∧ h' = md_h E μ n r) mw_no 0 0 24 [some (.ref (mw_b E + 250)), some (.int (nI a)), some (.int (nI b))] [] (md_h E μ n r) := by
      intro hf
      have hlt : b < gp_g μ.2.1 w a := by
        rcases Nat.lt_or_ge b (gp_g μ.2.1 w a) with z | z
        · exact z
        · have e : b = gp_g μ.2.1 w a := by omega
          rw [e, hgt] at hf; cases hf
      refine mw_inc2 d_md_least_24 rfl (Nat.le_of_ble_eq_true rfl) ?_
      refine mw_goto (tgt := 2) d_md_least_27 (by decide) ?_
      exact ih hlt
    refine mw_aload0 d_md_least_2 ?_
    refine gf_md_reached d_md_least_3 hn rfl ?_
    refine mw_iload1 d_md_least_6 ?_
    refine md_rl (by omega) d_md_least_7 hn ?_
    refine mw_iload2 d_md_least_8 ?_
    refine md_bl (by omega) (by omega) d_md_least_9 hn ?_
    rw [hR a b ha (by omega)]
    refine mw_if_eq (tgt := 24) d_md_least_10 (by decide) (fun hc => k24 (by rw [bI_0 hc]; rfl)) (fun hc => ?_)
    refine mw_aload0 d_md_least_13 ?_
    refine gf_md_reached d_md_least_14 hn rfl ?_
    refine mw_iload2 d_md_least_17 ?_
    refine md_rl (by omega) d_md_least_18 hn ?_
    refine mw_iload1 d_md_least_19 ?_
    refine md_bl (by omega) (by omega) d_md_least_20 hn ?_
    rw [hR b a (by omega) ha]
    refine mw_if_ne (tgt := 30) d_md_least_21 (by decide) (fun hc2 => ?_) (fun hc2 => k24 (by rw [bI_0 hc2, Bool.and_false]))
    have e : gp_g μ.2.1 w a = b := pu_fnd_eq (by omega) (by rw [bI_n hc, bI_n hc2]; rfl) (fun p hp => pu_fnd_min (f := fun b => gp_T μ.2.1 w a b && gp_T μ.2.1 w b a) (show p < gp_g μ.2.1 w a by omega))
    refine mw_iload2 d_md_least_30 ?_
    exact mw_iret d_md_least_31 rfl rfl ⟨by rw [e], rfl⟩
  refine mw_iconst (v := nI 0) d_md_least_0 (by decide) ?_
  refine mw_istore2 d_md_least_1 rfl (Nat.le_of_ble_eq_true rfl) ?_
  exact key 0 (Nat.zero_le _)
theorem ct_mdgroupX {x : Int32} (hd : 2 ≤ d) (hn : 497 ≤ n) (hN : μ.2.1 ≤ 120) (hx : ¬ ob_in μ.2.1 x) : mw_Ct E m_md_group d 0 0 [.ref (mw_b E + 250), .int x] (md_h E μ n r) (md_Q E μ n r (nI 1) (nI 0)) mw_no := by
  show mw_W E m_md_group d _ _ 0 0 0 [some (.ref (mw_b E + 250)), some (.int x)] [] (md_h E μ n r)
  refine mw_aload0 d_md_group_0 ?_
  refine mw_iload1 d_md_group_1 ?_
  refine mw_cV1e lk_md_group_md_none d_md_group_2 (md_lt hn (by decide)) md_gF (Nat.le_of_ble_eq_true rfl) (ct_mdnoneX (d := d - 1) (by omega) hn hN hx) (by omega) (Nat.le_of_ble_eq_true rfl) (Nat.zero_le _) (Nat.zero_le _) ?_
  refine mw_if_eq (tgt := 10) d_md_group_5 (by decide) (fun hc => absurd hc bI_t0) (fun hc => ?_)
  refine mw_iconst (v := nI 0) d_md_group_8 (by decide) ?_
  exact mw_iret d_md_group_9 rfl rfl ⟨rfl, _, rfl, md_keep_t μ _, rfl⟩
theorem ct_mdgroup {a : Nat} (hd : 2 ≤ d) (hn : 497 ≤ n) (hI : md_I μ w) (ha : a < μ.2.1) : mw_Ct E m_md_group d 0 0 [.ref (mw_b E + 250), .int (nI a)] (md_h E μ n r) (md_Q E μ n r (nI 0) (nI (gp_g μ.2.1 w a))) mw_no := by
  show mw_W E m_md_group d _ _ 0 0 0 [some (.ref (mw_b E + 250)), some (.int (nI a))] [] (md_h E μ n r)
  refine mw_aload0 d_md_group_0 ?_
  refine mw_iload1 d_md_group_1 ?_
  refine mw_cV1e lk_md_group_md_none d_md_group_2 (md_lt hn (by decide)) md_gF (Nat.le_of_ble_eq_true rfl) (ct_mdnone (d := d - 1) (by omega) hn hI.2.2.1 ha) (by omega) (Nat.le_of_ble_eq_true rfl) (Nat.zero_le _) (Nat.zero_le _) ?_
  refine mw_if_eq (tgt := 10) d_md_group_5 (by decide) (fun hc => ?_) (fun hc => absurd bI_f0 hc)
  refine mw_aload0 d_md_group_10 ?_
  refine md_all lk_md_group_md_all0 d_md_group_11 hn (hI.keep (md_keep_t μ _)) hd (Nat.le_of_ble_eq_true rfl) (fun μ1 hk1 ht hRd => ?_)
  have hk : md_keep μ μ1 := (md_keep_t μ _).trans hk1
  refine mw_aload0 d_md_group_14 ?_
  refine mw_iload1 d_md_group_15 ?_
  refine mw_cV1e lk_md_group_md_least d_md_group_16 (md_lt hn (by decide)) md_gF (Nat.le_of_ble_eq_true rfl) (ct_mdleast (d := d - 1) hn (hI.keep hk) hRd (by rw [hk.1]; exact ha)) (by omega) (Nat.le_of_ble_eq_true rfl) (Nat.zero_le _) (Nat.zero_le _) ?_
  rw [hk.1]
  exact mw_iret d_md_group_19 rfl rfl ⟨rfl, μ1, rfl, hk, ht⟩
theorem ct_mdgroups (hd : 2 ≤ d) (hn : 497 ≤ n) (hI : md_I μ w) : mw_Ct E m_md_groups d 0 0 [.ref (mw_b E + 250)] (md_h E μ n r) (md_Q E μ n r (nI 0) (nI (pu_cnt (fun p => decide (gp_g μ.2.1 w p = p)) μ.2.1))) mw_no := by
  show mw_W E m_md_groups d _ _ 0 0 0 [some (.ref (mw_b E + 250))] [] (md_h E μ n r)
  refine mw_lo [some (.ref (mw_b E + 250)), none, none] (by simp [mw_le]) ?_
  have h120 := hI.2.2.1
  refine mw_aload0 d_md_groups_0 ?_
  refine mw_iconst (v := nI 0) d_md_groups_1 (by decide) ?_
  refine pf_md_thrown d_md_groups_2 hn rfl ?_
  refine mw_aload0 d_md_groups_5 ?_
  refine md_all lk_md_groups_md_all0 d_md_groups_6 hn (hI.keep (md_keep_t μ _)) hd (Nat.le_of_ble_eq_true rfl) (fun μ1 hk1 ht hRd => ?_)
  have hk : md_keep μ μ1 := (md_keep_t μ _).trans hk1
  have hI1 := hI.keep hk
  have hN := hk.1
  have key : ∀ b, b ≤ μ.2.1 → mw_W E m_md_groups d (md_Q E μ n r (nI 0) (nI (pu_cnt (fun p => decide (gp_g μ.2.1 w p = p)) μ.2.1))) mw_no 0 0 13 [some (.ref (mw_b E + 250)), some (.int (nI (pu_cnt (fun p => decide (gp_g μ.2.1 w p = p)) b))), some (.int (nI b))] [] (md_h E μ1 n r) := by
    refine mw_down μ.2.1 (fun b hb ih => ?_)
    refine mw_iload2 d_md_groups_13 ?_
    refine mw_aload0 d_md_groups_14 ?_
    refine gf_md_n d_md_groups_15 hn rfl ?_
    rw [hN]
    refine mw_icmp_ge (tgt := 39) d_md_groups_18 (by decide) (fun hc => ?_) (fun hc => ?_)
    · have e := nI_geE hb (by omega) hc
      subst e
      refine mw_iload1 d_md_groups_39 ?_
      exact mw_iret d_md_groups_40 rfl rfl ⟨rfl, μ1, rfl, hk, ht⟩
    · have hlt := nI_geN hb (by omega) hc
      have hS := pu_cnt_S (fun p => decide (gp_g μ.2.1 w p = p)) b
      have hgl := gp_g_lt (w := w) hlt
      have h9 := ih hlt
      refine mw_aload0 d_md_groups_21 ?_
      refine mw_iload2 d_md_groups_22 ?_
      refine mw_cV1e lk_md_groups_md_least d_md_groups_23 (md_lt hn (by decide)) md_gF (Nat.le_of_ble_eq_true rfl) (ct_mdleast (d := d - 1) hn hI1 hRd (by rw [hN]; exact hlt)) (by omega) (Nat.le_of_ble_eq_true rfl) (Nat.zero_le _) (Nat.zero_le _) ?_
      rw [hN]
      refine mw_iload2 d_md_groups_26 ?_
      refine mw_icmp_ne (tgt := 33) d_md_groups_27 (by decide) (fun hc2 => ?_) (fun hc2 => ?_)
      · have e : ¬ gp_g μ.2.1 w b = b := fun z => hc2 (by rw [z])
        rw [hS, if_neg (by simpa using e)] at h9
        refine mw_inc2 d_md_groups_33 rfl (Nat.le_of_ble_eq_true rfl) ?_
        refine mw_goto (tgt := 13) d_md_groups_36 (by decide) ?_
        exact mw_bud (Nat.zero_le _) (Nat.zero_le _) h9
      · have e : gp_g μ.2.1 w b = b := nI_inj (by omega) (by omega) hc2
        rw [hS, if_pos (by simpa using e)] at h9
        refine mw_inc1 d_md_groups_30 rfl (Nat.le_of_ble_eq_true rfl) ?_
        refine mw_inc2 d_md_groups_33 rfl (Nat.le_of_ble_eq_true rfl) ?_
        refine mw_goto (tgt := 13) d_md_groups_36 (by decide) ?_
        exact mw_bud (Nat.zero_le _) (Nat.zero_le _) h9
  refine mw_iconst (v := nI 0) d_md_groups_9 (by decide) ?_
  refine mw_istore1 d_md_groups_10 rfl (Nat.le_of_ble_eq_true rfl) ?_
  refine mw_iconst (v := nI 0) d_md_groups_11 (by decide) ?_
  refine mw_istore2 d_md_groups_12 rfl (Nat.le_of_ble_eq_true rfl) ?_
  exact mw_bud (Nat.zero_le _) (Nat.zero_le _) (key 0 (Nat.zero_le _))
theorem ct_mdalways {a b c : Nat} (hd : 1 ≤ d) (hn : 497 ≤ n) (hI : md_I μ w) (ha : a < μ.2.1) (hb : b < μ.2.1) (hc : c < μ.2.1) : mw_Ct E m_md_always d 0 0 [.ref (mw_b E + 250), .int (nI a), .int (nI b), .int (nI c)] (md_h E μ n r) (fun v h' => v = some (.int (bI (!gp_A μ.2.1 w a c b))) ∧ ∃ R, h' = md_h E (md_R0 μ R) n r) mw_no := by
  show mw_W E m_md_always d _ _ 0 0 0 [some (.ref (mw_b E + 250)), some (.int (nI a)), some (.int (nI b)), some (.int (nI c))] [] (md_h E μ n r)
  have h120 := hI.2.2.1
  refine mw_aload0 d_md_always_0 ?_
  refine mw_iload1 d_md_always_1 ?_
  refine mw_iload3 d_md_always_2 ?_
  refine mw_cV2 (d' := d - 1) lk_md_always_md_from d_md_always_3 (md_lt hn (by decide)) md_gF (Nat.le_of_ble_eq_true rfl) (ct_from (w := w) (os := some c) hn hI ha (gl_ok1 hc)) (by omega) (Nat.le_of_ble_eq_true rfl) (Nat.zero_le _) (Nat.zero_le _) ?_ (fun _ _ q => q.elim)
  rintro v h' ⟨rfl, R, rfl, hR⟩
  show mw_W E m_md_always d _ _ _ _ _ _ [] _
  have hg : bf_d μ.2.1 w (gl_s (some c)) a b < 0 ↔ gp_A μ.2.1 w a c b = false := mf_ge hI.1 ha (by omega)
  refine mw_aload0 d_md_always_6 ?_
  refine gf_md_away d_md_always_7 hn rfl ?_
  refine mw_iload2 d_md_always_10 ?_
  refine md_il (j := 0) (by omega) (by omega) d_md_always_11 hn ?_
  rw [md_R0g, hR b hb]
  refine mw_if_ge (tgt := 19) d_md_always_12 (by decide) (fun hc2 => ?_) (fun hc2 => ?_)
  · have e : gp_A μ.2.1 w a c b = true := by
      cases e : gp_A μ.2.1 w a c b with
      | true => rfl
      | false =>
        have h9 := hg.mpr e
        rw [Int32.lt_iff_toInt_lt] at h9
        rw [Int32.le_iff_toInt_le] at hc2
        omega
    refine mw_iconst (v := nI 0) d_md_always_19 (by decide) ?_
    exact mw_iret d_md_always_20 rfl nb0 ⟨by rw [e]; rfl, R, rfl⟩
  · have e : gp_A μ.2.1 w a c b = false := hg.mp (by
      rw [Int32.le_iff_toInt_le] at hc2
      rw [Int32.lt_iff_toInt_lt]
      omega)
    refine mw_iconst (v := nI 1) d_md_always_15 (by decide) ?_
    refine mw_goto (tgt := 20) d_md_always_16 (by decide) ?_
    exact mw_iret d_md_always_20 rfl nb1 ⟨by rw [e]; rfl, R, rfl⟩
theorem ct_mdall3X {x y z : Int32} (hd : 2 ≤ d) (hn : 497 ≤ n) (hN : μ.2.1 ≤ 120) (hx : ¬ (ob_in μ.2.1 x ∧ ob_in μ.2.1 y ∧ ob_in μ.2.1 z)) : mw_Ct E m_md_all3 d 0 0 [.ref (mw_b E + 250), .int x, .int y, .int z] (md_h E μ n r) (md_Q E μ n r (nI 1) (nI 0)) mw_no := by
  show mw_W E m_md_all3 d _ _ 0 0 0 [some (.ref (mw_b E + 250)), some (.int x), some (.int y), some (.int z)] [] (md_h E μ n r)
  have k24 : ∀ bc bs, mw_W E m_md_all3 d (md_Q E μ n r (nI 1) (nI 0)) mw_no bc bs 24 [some (.ref (mw_b E + 250)), some (.int x), some (.int y), some (.int z)] [] (md_h E (nI 1, μ.2) n r) := by
    intro bc bs
    refine mw_iconst (v := nI 0) d_md_all3_24 (by decide) ?_
    exact mw_iret d_md_all3_25 rfl nb0 ⟨rfl, _, rfl, md_keep_t μ _, rfl⟩
  refine mw_aload0 d_md_all3_0 ?_
  refine mw_iload1 d_md_all3_1 ?_
  by_cases h1 : ob_in μ.2.1 x
  · obtain ⟨p, hp, rfl⟩ := h1
    refine mw_cV1e lk_md_all3_md_none d_md_all3_2 (md_lt hn (by decide)) md_gF (Nat.le_of_ble_eq_true rfl) (ct_mdnone (d := d - 1) (by omega) hn hN hp) (by omega) (Nat.le_of_ble_eq_true rfl) (Nat.zero_le _) (Nat.zero_le _) ?_
    refine mw_if_ne (tgt := 24) d_md_all3_5 (by decide) (fun hc => absurd bI_f0 hc) (fun hc => ?_)
    refine mw_aload0 d_md_all3_8 ?_
    refine mw_iload2 d_md_all3_9 ?_
    by_cases h2 : ob_in μ.2.1 y
    · obtain ⟨q, hq, rfl⟩ := h2
      refine mw_cV1e lk_md_all3_md_none d_md_all3_10 (md_lt hn (by decide)) md_gF (Nat.le_of_ble_eq_true rfl) (ct_mdnone (d := d - 1) (μ := (nI 0, μ.2)) (by omega) hn hN hq) (by omega) (Nat.le_of_ble_eq_true rfl) (Nat.zero_le _) (Nat.zero_le _) ?_
      refine mw_if_ne (tgt := 24) d_md_all3_13 (by decide) (fun hc => absurd bI_f0 hc) (fun hc => ?_)
      refine mw_aload0 d_md_all3_16 ?_
      refine mw_iload3 d_md_all3_17 ?_
      refine mw_cV1e lk_md_all3_md_none d_md_all3_18 (md_lt hn (by decide)) md_gF (Nat.le_of_ble_eq_true rfl) (ct_mdnoneX (d := d - 1) (μ := (nI 0, μ.2)) (by omega) hn hN (fun z => hx ⟨⟨p, hp, rfl⟩, ⟨q, hq, rfl⟩, z⟩)) (by omega) (Nat.le_of_ble_eq_true rfl) (Nat.zero_le _) (Nat.zero_le _) ?_
      refine mw_if_eq (tgt := 26) d_md_all3_21 (by decide) (fun hc => absurd hc bI_t0) (fun hc => k24 _ _)
    · refine mw_cV1e lk_md_all3_md_none d_md_all3_10 (md_lt hn (by decide)) md_gF (Nat.le_of_ble_eq_true rfl) (ct_mdnoneX (d := d - 1) (μ := (nI 0, μ.2)) (by omega) hn hN h2) (by omega) (Nat.le_of_ble_eq_true rfl) (Nat.zero_le _) (Nat.zero_le _) ?_
      refine mw_if_ne (tgt := 24) d_md_all3_13 (by decide) (fun hc => k24 _ _) (fun hc => absurd hc bI_t0)
  · refine mw_cV1e lk_md_all3_md_none d_md_all3_2 (md_lt hn (by decide)) md_gF (Nat.le_of_ble_eq_true rfl) (ct_mdnoneX (d := d - 1) (by omega) hn hN h1) (by omega) (Nat.le_of_ble_eq_true rfl) (Nat.zero_le _) (Nat.zero_le _) ?_
    refine mw_if_ne (tgt := 24) d_md_all3_5 (by decide) (fun hc => k24 _ _) (fun hc => absurd hc bI_t0)
theorem ct_mdall3 {a b c : Nat} (hd : 2 ≤ d) (hn : 497 ≤ n) (hI : md_I μ w) (ha : a < μ.2.1) (hb : b < μ.2.1) (hc9 : c < μ.2.1) : mw_Ct E m_md_all3 d 0 0 [.ref (mw_b E + 250), .int (nI a), .int (nI b), .int (nI c)] (md_h E μ n r) (md_Q E μ n r (nI 0) (bI (!gp_A μ.2.1 w a c b))) mw_no := by
  show mw_W E m_md_all3 d _ _ 0 0 0 [some (.ref (mw_b E + 250)), some (.int (nI a)), some (.int (nI b)), some (.int (nI c))] [] (md_h E μ n r)
  have h120 := hI.2.2.1
  refine mw_aload0 d_md_all3_0 ?_
  refine mw_iload1 d_md_all3_1 ?_
  refine mw_cV1e lk_md_all3_md_none d_md_all3_2 (md_lt hn (by decide)) md_gF (Nat.le_of_ble_eq_true rfl) (ct_mdnone (d := d - 1) (by omega) hn h120 ha) (by omega) (Nat.le_of_ble_eq_true rfl) (Nat.zero_le _) (Nat.zero_le _) ?_
  refine mw_if_ne (tgt := 24) d_md_all3_5 (by decide) (fun hc => absurd bI_f0 hc) (fun hc => ?_)
  refine mw_aload0 d_md_all3_8 ?_
  refine mw_iload2 d_md_all3_9 ?_
  refine mw_cV1e lk_md_all3_md_none d_md_all3_10 (md_lt hn (by decide)) md_gF (Nat.le_of_ble_eq_true rfl) (ct_mdnone (d := d - 1) (μ := (nI 0, μ.2)) (by omega) hn h120 hb) (by omega) (Nat.le_of_ble_eq_true rfl) (Nat.zero_le _) (Nat.zero_le _) ?_
  refine mw_if_ne (tgt := 24) d_md_all3_13 (by decide) (fun hc => absurd bI_f0 hc) (fun hc => ?_)
  refine mw_aload0 d_md_all3_16 ?_
  refine mw_iload3 d_md_all3_17 ?_
  refine mw_cV1e lk_md_all3_md_none d_md_all3_18 (md_lt hn (by decide)) md_gF (Nat.le_of_ble_eq_true rfl) (ct_mdnone (d := d - 1) (μ := (nI 0, μ.2)) (by omega) hn h120 hc9) (by omega) (Nat.le_of_ble_eq_true rfl) (Nat.zero_le _) (Nat.zero_le _) ?_
  refine mw_if_eq (tgt := 26) d_md_all3_21 (by decide) (fun hc => ?_) (fun hc => absurd bI_f0 hc)
  refine mw_aload0 d_md_all3_26 ?_
  refine mw_iload1 d_md_all3_27 ?_
  refine mw_iload2 d_md_all3_28 ?_
  refine mw_iload3 d_md_all3_29 ?_
  refine mw_cV3 (d' := d - 1) lk_md_all3_md_always d_md_all3_30 (md_lt hn (by decide)) md_gF (Nat.le_of_ble_eq_true rfl) (ct_mdalways (w := w) (μ := (nI 0, μ.2)) (by omega) hn (hI.keep (md_keep_t μ _)) ha hb hc9) (by omega) (Nat.le_of_ble_eq_true rfl) (Nat.zero_le _) (Nat.zero_le _) ?_ (fun _ _ q => q.elim)
  rintro v h' ⟨rfl, R, rfl⟩
  show mw_W E m_md_all3 d _ _ _ _ _ _ (Value.int _ :: []) _
  exact mw_iret d_md_all3_33 rfl (nbI _) ⟨rfl, _, rfl, (md_keep_t μ _).trans (md_keep_R _ R), rfl⟩
end MCirc
