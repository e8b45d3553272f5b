/-! The reference: ready, ordered, order, level, paths. -/
section MOrd
variable {E : mw_E} {d n : Nat} {μ : md_K} {r : Nat → mw_O} {w : Nat → Nat → Bool}
theorem ct_mdready {p : Nat} {P : Nat → Bool} (hn : 497 ≤ n) (hI : md_I μ w) (hP : ∀ q, q < μ.2.1 → μ.2.2.1 240 q = P q) (hp : p < μ.2.1) : mw_Ct E m_md_ready d 0 0 [.ref (mw_b E + 250), .int (nI p)] (md_h E μ n r) (fun v h' => v = some (.int (bI (or_rdy μ.2.1 w P p))) ∧ h' = md_h E μ n r) mw_no := by
  show mw_W E m_md_ready d _ _ 0 0 0 [some (.ref (mw_b E + 250)), some (.int (nI p))] [] (md_h E μ n r)
  refine mw_lo [some (.ref (mw_b E + 250)), some (.int (nI p)), none] (by simp [mw_le]) ?_
  obtain ⟨hw, h1, h120, hway⟩ := hI
  refine mw_aload0 d_md_ready_0 ?_
  refine gf_md_placed d_md_ready_1 hn rfl ?_
  refine mw_iload1 d_md_ready_4 ?_
  refine md_bl (by omega) (by omega) d_md_ready_5 hn ?_
  rw [hP p hp]
  refine mw_if_eq (tgt := 11) d_md_ready_6 (by decide) (fun hc => ?_) (fun hc => ?_)
  rotate_left
  · refine mw_iconst (v := nI 0) d_md_ready_9 (by decide) ?_
    exact mw_iret d_md_ready_10 rfl nb0 ⟨by unfold or_rdy; rw [bI_n hc]; rfl, rfl⟩
  have hPp := bI_0 hc
  have key : ∀ b, b ≤ μ.2.1 → (∀ q, q < b → (w q p && !P q) = false) → mw_W E m_md_ready d (fun v h' => v = some (.int (bI (or_rdy μ.2.1 w P p))) ∧ h' = md_h E μ n r) mw_no 0 0 13 [some (.ref (mw_b E + 250)), some (.int (nI p)), some (.int (nI b))] [] (md_h E μ n r) := by
    refine mw_down μ.2.1 (fun b hb ih hno => ?_)
    refine mw_iload2 d_md_ready_13 ?_
    refine mw_aload0 d_md_ready_14 ?_
    refine gf_md_n d_md_ready_15 hn rfl ?_
    refine mw_icmp_ge (tgt := 49) d_md_ready_18 (by decide) (fun hc => ?_) (fun hc => ?_)
    · have e := nI_geE hb (by omega) hc
      refine mw_iconst (v := nI 1) d_md_ready_49 (by decide) ?_
      refine mw_iret d_md_ready_50 rfl nb1 ⟨?_, rfl⟩
      unfold or_rdy
      rw [hPp, pu_ex_false.mpr (fun q hq => hno q (by omega))]; rfl
    · have hlt := nI_geN hb (by omega) hc
      have k43 : (w b p && !P b) = false → mw_W E m_md_ready d (fun v h' => v = some (.int (bI (or_rdy μ.2.1 w P p))) ∧ h' = md_h E μ n r) mw_no 0 0 43 [some (.ref (mw_b E + 250)), some (.int (nI p)), some (.int (nI b))] [] (md_h E μ n r) := by
        intro hz
        refine mw_inc2 d_md_ready_43 rfl (Nat.le_of_ble_eq_true rfl) ?_
        refine mw_goto (tgt := 13) d_md_ready_46 (by decide) ?_
        refine ih hlt (fun q hq => ?_)
        by_cases z : q = b
        · rw [z]; exact hz
        · exact hno q (by omega)
      refine mw_aload0 d_md_ready_21 ?_
      refine gf_md_way d_md_ready_22 hn rfl ?_
      refine mw_iload2 d_md_ready_25 ?_
      refine md_wl (by omega) d_md_ready_26 hn ?_
      refine mw_iload1 d_md_ready_27 ?_
      refine md_bl (by omega) (by omega) d_md_ready_28 hn ?_
      rw [hway b p hlt hp]
      refine mw_if_eq (tgt := 43) d_md_ready_29 (by decide) (fun hc2 => k43 (by rw [bI_0 hc2]; rfl)) (fun hc2 => ?_)
      refine mw_aload0 d_md_ready_32 ?_
      refine gf_md_placed d_md_ready_33 hn rfl ?_
      refine mw_iload2 d_md_ready_36 ?_
      refine md_bl (by omega) (by omega) d_md_ready_37 hn ?_
      rw [hP b hlt]
      refine mw_if_ne (tgt := 43) d_md_ready_38 (by decide) (fun hc3 => k43 (by rw [bI_n hc3]; simp)) (fun hc3 => ?_)
      refine mw_iconst (v := nI 0) d_md_ready_41 (by decide) ?_
      refine mw_iret d_md_ready_42 rfl nb0 ⟨?_, rfl⟩
      unfold or_rdy
      rw [pu_ex_iff.mpr ⟨b, hlt, by rw [bI_n hc2, bI_0 hc3]; rfl⟩]; simp; rfl
  refine mw_iconst (v := nI 0) d_md_ready_11 (by decide) ?_
  refine mw_istore2 d_md_ready_12 rfl (Nat.le_of_ble_eq_true rfl) ?_
  exact key 0 (Nat.zero_le _) (fun q hq => by omega)
def md_O (μ μ' : md_K) (w : Nat → Nat → Bool) (i : Nat) : Prop := md_keep μ μ' ∧ μ'.1 = μ.1 ∧ (∀ q, q < μ.2.1 → μ'.2.2.1 240 q = or_P μ.2.1 w i q) ∧ ∀ j, j < i → μ'.2.2.2 1 j = nI (or_ln μ.2.1 w j)
theorem ct_mdordered (hd : 1 ≤ d) (hn : 497 ≤ n) (hI : md_I μ w) : mw_Ct E m_md_ordered d 0 0 [.ref (mw_b E + 250)] (md_h E μ n r) (fun v h' => ∃ o : Bool, v = some (.int (bI o)) ∧ ∃ μ', h' = md_h E μ' n r ∧ md_keep μ μ' ∧ μ'.1 = μ.1 ∧ (o = true → or_ok μ.2.1 w μ.2.1 ∧ ∀ j, j < μ.2.1 → μ'.2.2.2 1 j = nI (or_ln μ.2.1 w j)) ∧ (o = false → ¬ or_ok μ.2.1 w μ.2.1)) mw_no := by
  show mw_W E m_md_ordered d _ _ 0 0 0 [some (.ref (mw_b E + 250))] [] (md_h E μ n r)
  refine mw_lo [some (.ref (mw_b E + 250)), none, none] (by simp [mw_le]) ?_
  have h120 := hI.2.2.1
  have hw := hI.1
  generalize hQ : (fun (v : Option Value) (h' : mw_H) => ∃ o : Bool, v = some (.int (bI o)) ∧ ∃ μ', h' = md_h E μ' n r ∧ md_keep μ μ' ∧ μ'.1 = μ.1 ∧ (o = true → or_ok μ.2.1 w μ.2.1 ∧ ∀ j, j < μ.2.1 → μ'.2.2.2 1 j = nI (or_ln μ.2.1 w j)) ∧ (o = false → ¬ or_ok μ.2.1 w μ.2.1)) = Q
  have ki : ∀ i, i ≤ μ.2.1 → ∀ μ', or_ok μ.2.1 w i → md_O μ μ' w i → mw_W E m_md_ordered d Q mw_no 0 0 25 [some (.ref (mw_b E + 250)), some (.int (nI i)), none] [] (md_h E μ' n r) := by
    refine mw_down μ.2.1 (fun i hi ih μ' hok hO => ?_)
    have hN := hO.1.1
    have hI' := hI.keep hO.1
    refine mw_iload1 d_md_ordered_25 ?_
    refine mw_aload0 d_md_ordered_26 ?_
    refine gf_md_n d_md_ordered_27 hn rfl ?_
    rw [hN]
    refine mw_icmp_ge (tgt := 87) d_md_ordered_30 (by decide) (fun hc => ?_) (fun hc => ?_)
    · have e := nI_geE hi (by omega) hc
      subst e
      subst hQ
      refine mw_iconst (v := nI 1) d_md_ordered_87 (by decide) ?_
      exact mw_iret d_md_ordered_88 rfl nb1 ⟨true, rfl, μ', rfl, hO.1, hO.2.1, fun _ => ⟨hok, hO.2.2.2⟩, fun z => Bool.noConfusion z⟩
    · have hlt := nI_geN hi (by omega) hc
      have k57 : ∀ p bc bs, p ≤ μ.2.1 → (∀ c, c < p → or_rdy μ.2.1 w (or_P μ.2.1 w i) c = false) → (p < μ.2.1 → or_rdy μ.2.1 w (or_P μ.2.1 w i) p = true) → mw_W E m_md_ordered d Q mw_no bc bs 57 [some (.ref (mw_b E + 250)), some (.int (nI i)), some (.int (nI p))] [] (md_h E μ' n r) := by
        intro p bc bs hp hno hyes
        refine mw_iload2 d_md_ordered_57 ?_
        refine mw_aload0 d_md_ordered_58 ?_
        refine gf_md_n d_md_ordered_59 hn rfl ?_
        rw [hN]
        refine mw_icmp_ne (tgt := 67) d_md_ordered_62 (by decide) (fun hc2 => ?_) (fun hc2 => ?_)
        · have hpl : p < μ.2.1 := by
            rcases Nat.lt_or_ge p μ.2.1 with z | z
            · exact z
            · exact absurd (by rw [show p = μ.2.1 by omega]) hc2
          have e : or_ln μ.2.1 w i = p := pu_fnd_eq hpl (hyes hpl) hno
          refine mw_aload0 d_md_ordered_67 ?_
          refine gf_md_placed d_md_ordered_68 hn rfl ?_
          refine mw_iload2 d_md_ordered_71 ?_
          refine mw_iconst (v := nI 1) d_md_ordered_72 (by decide) ?_
          refine md_bs (x := true) (by omega) (by omega) d_md_ordered_73 hn ?_
          refine mw_aload0 d_md_ordered_74 ?_
          refine gf_md_order d_md_ordered_75 hn rfl ?_
          refine mw_iload1 d_md_ordered_78 ?_
          refine mw_iload2 d_md_ordered_79 ?_
          refine md_is (j := 1) (by omega) (by omega) d_md_ordered_80 hn ?_
          refine mw_inc1 d_md_ordered_81 rfl (Nat.le_of_ble_eq_true rfl) ?_
          refine mw_goto (tgt := 25) d_md_ordered_84 (by decide) ?_
          refine mw_lo [some (.ref (mw_b E + 250)), some (.int (nI (i + 1))), none] (by simp [mw_le]) ?_
          refine mw_bud (Nat.zero_le _) (Nat.zero_le _) (ih hlt _ (fun j hj => ?_) ⟨⟨hN, fun j hj => ?_⟩, hO.2.1, fun q hq => ?_, fun j hj => ?_⟩)
          · by_cases z : j = i
            · rw [z, e]; exact hpl
            · exact hok j (by omega)
          · show va_up μ'.2.2.1 240 _ j = _
            rw [mw_up_n _ _ (show j ≠ 240 by omega)]; exact hO.1.2 j hj
          · show va_up μ'.2.2.1 240 (va_up (μ'.2.2.1 240) p true) 240 q = _
            rw [mw_up_s, or_PS, e]
            by_cases z : q = p
            · rw [z, mw_up_s]; simp
            · rw [mw_up_n _ _ z, hO.2.2.1 q hq]; simp [z]
          · show va_up μ'.2.2.2 1 (va_up (μ'.2.2.2 1) i (nI p)) 1 j = _
            rw [mw_up_s]
            by_cases z : j = i
            · rw [z, mw_up_s, e]
            · rw [mw_up_n _ _ z]; exact hO.2.2.2 j (by omega)
        · have e : p = μ.2.1 := nI_inj (by omega) (by omega) hc2
          subst hQ
          refine mw_iconst (v := nI 0) d_md_ordered_65 (by decide) ?_
          refine mw_iret d_md_ordered_66 rfl nb0 ⟨false, rfl, μ', rfl, hO.1, hO.2.1, fun z => Bool.noConfusion z, fun _ z => ?_⟩
          have h9 := z i hlt
          have h8 := or_ln_rdy h9
          rw [hno _ (by omega)] at h8; cases h8
      have kp : ∀ p, p ≤ μ.2.1 → (∀ c, c < p → or_rdy μ.2.1 w (or_P μ.2.1 w i) c = false) → mw_W E m_md_ordered d Q mw_no 0 0 35 [some (.ref (mw_b E + 250)), some (.int (nI i)), some (.int (nI p))] [] (md_h E μ' n r) := by
        refine mw_down μ.2.1 (fun p hp ih2 hno => ?_)
        refine mw_iload2 d_md_ordered_35 ?_
        refine mw_aload0 d_md_ordered_36 ?_
        refine gf_md_n d_md_ordered_37 hn rfl ?_
        rw [hN]
        refine mw_icmp_ge (tgt := 57) d_md_ordered_40 (by decide) (fun hc2 => ?_) (fun hc2 => ?_)
        · have e := nI_geE hp (by omega) hc2
          exact k57 p _ _ hp hno (fun z => by omega)
        · have hpl := nI_geN hp (by omega) hc2
          refine mw_aload0 d_md_ordered_43 ?_
          refine mw_iload2 d_md_ordered_44 ?_
          refine mw_cV1e lk_md_ordered_md_ready d_md_ordered_45 (md_lt hn (by decide)) md_gF (Nat.le_of_ble_eq_true rfl) (ct_mdready (d := d - 1) (P := or_P μ.2.1 w i) hn hI' (fun q hq => hO.2.2.1 q (by rw [← hN]; exact hq)) (by rw [hN]; exact hpl)) (by omega) (Nat.le_of_ble_eq_true rfl) (Nat.zero_le _) (Nat.zero_le _) ?_
          rw [hN]
          refine mw_if_ne (tgt := 57) d_md_ordered_48 (by decide) (fun hc3 => ?_) (fun hc3 => ?_)
          · exact k57 p _ _ hp hno (fun _ => bI_n hc3)
          · refine mw_inc2 d_md_ordered_51 rfl (Nat.le_of_ble_eq_true rfl) ?_
            refine mw_goto (tgt := 35) d_md_ordered_54 (by decide) ?_
            exact mw_bud (Nat.zero_le _) (Nat.zero_le _) (ih2 hpl (pu_fnd_S hno (bI_0 hc3)))
      refine mw_iconst (v := nI 0) d_md_ordered_33 (by decide) ?_
      refine mw_istore2 d_md_ordered_34 rfl (Nat.le_of_ble_eq_true rfl) ?_
      exact kp 0 (Nat.zero_le _) (fun c hc => by omega)
  have k0 : ∀ k, k ≤ μ.2.1 → ∀ μ', md_keep μ μ' → μ'.1 = μ.1 → (∀ q, q < k → μ'.2.2.1 240 q = false) → mw_W E m_md_ordered d Q mw_no 0 0 2 [some (.ref (mw_b E + 250)), some (.int (nI k)), none] [] (md_h E μ' n r) := by
    refine mw_down μ.2.1 (fun k hk ih μ' hkp ht hz => ?_)
    have hN := hkp.1
    refine mw_iload1 d_md_ordered_2 ?_
    refine mw_aload0 d_md_ordered_3 ?_
    refine gf_md_n d_md_ordered_4 hn rfl ?_
    rw [hN]
    refine mw_icmp_ge (tgt := 23) d_md_ordered_7 (by decide) (fun hc => ?_) (fun hc => ?_)
    · have e := nI_geE hk (by omega) hc
      refine mw_iconst (v := nI 0) d_md_ordered_23 (by decide) ?_
      refine mw_istore1 d_md_ordered_24 rfl (Nat.le_of_ble_eq_true rfl) ?_
      exact ki 0 (Nat.zero_le _) μ' (fun j hj => by omega) ⟨hkp, ht, fun q hq => by rw [hz q (by omega)]; rfl, fun j hj => by omega⟩
    · have hlt := nI_geN hk (by omega) hc
      refine mw_aload0 d_md_ordered_10 ?_
      refine gf_md_placed d_md_ordered_11 hn rfl ?_
      refine mw_iload1 d_md_ordered_14 ?_
      refine mw_iconst (v := nI 0) d_md_ordered_15 (by decide) ?_
      refine md_bs (x := false) (by omega) (by omega) d_md_ordered_16 hn ?_
      refine mw_inc1 d_md_ordered_17 rfl (Nat.le_of_ble_eq_true rfl) ?_
      refine mw_goto (tgt := 2) d_md_ordered_20 (by decide) ?_
      refine ih hlt _ ⟨hN, fun j hj => ?_⟩ ht (fun q hq => ?_)
      · show va_up μ'.2.2.1 240 _ j = _
        rw [mw_up_n _ _ (show j ≠ 240 by omega)]; exact hkp.2 j hj
      · show va_up μ'.2.2.1 240 (va_up (μ'.2.2.1 240) k false) 240 q = _
        rw [mw_up_s]
        by_cases z : q = k
        · rw [z, mw_up_s]
        · rw [mw_up_n _ _ z]; exact hz q (by omega)
  refine mw_iconst (v := nI 0) d_md_ordered_0 (by decide) ?_
  refine mw_istore1 d_md_ordered_1 rfl (Nat.le_of_ble_eq_true rfl) ?_
  exact k0 0 (Nat.zero_le _) μ (md_keep.refl μ) rfl (fun q hq => by omega)
def md_Qo (E : mw_E) (μ : md_K) (n : Nat) (r : Nat → mw_O) (w : Nat → Nat → Bool) (v0 : Int32) : Option Value → mw_H → Prop := fun v h' => (or_ok μ.2.1 w μ.2.1 ∧ md_Q E μ n r (nI 0) v0 v h') ∨ (¬ or_ok μ.2.1 w μ.2.1 ∧ md_Q E μ n r (nI 2) (nI 0) v h')
theorem ct_mdorderX {x : Int32} (hd : 2 ≤ d) (hn : 497 ≤ n) (hN : μ.2.1 ≤ 120) (hx : ¬ ob_in μ.2.1 x) : mw_Ct E m_md_order d 0 0 [.ref (mw_b E + 250), .int x] (md_h E μ n r) (md_Q E μ n r (nI 1) (nI 0)) mw_no := by
  show mw_W E m_md_order d _ _ 0 0 0 [some (.ref (mw_b E + 250)), some (.int x)] [] (md_h E μ n r)
  refine mw_aload0 d_md_order_0 ?_
  refine mw_iload1 d_md_order_1 ?_
  refine mw_cV1e lk_md_order_md_none d_md_order_2 (md_lt hn (by decide)) md_gF (Nat.le_of_ble_eq_true rfl) (ct_mdnoneX (d := d - 1) (by omega) hn hN hx) (by omega) (Nat.le_of_ble_eq_true rfl) (Nat.zero_le _) (Nat.zero_le _) ?_
  refine mw_if_ne (tgt := 28) d_md_order_5 (by decide) (fun hc => ?_) (fun hc => absurd hc bI_t0)
  refine mw_iconst (v := nI 0) d_md_order_28 (by decide) ?_
  exact mw_iret d_md_order_29 rfl rfl ⟨rfl, _, rfl, md_keep_t μ _, rfl⟩
theorem ct_mdlevelX {x : Int32} (hd : 2 ≤ d) (hn : 497 ≤ n) (hN : μ.2.1 ≤ 120) (hx : ¬ ob_in μ.2.1 x) : mw_Ct E m_md_level d 0 0 [.ref (mw_b E + 250), .int x] (md_h E μ n r) (md_Q E μ n r (nI 1) (nI 0)) mw_no := by
  show mw_W E m_md_level d _ _ 0 0 0 [some (.ref (mw_b E + 250)), some (.int x)] [] (md_h E μ n r)
  refine mw_aload0 d_md_level_0 ?_
  refine mw_iload1 d_md_level_1 ?_
  refine mw_cV1e lk_md_level_md_none d_md_level_2 (md_lt hn (by decide)) md_gF (Nat.le_of_ble_eq_true rfl) (ct_mdnoneX (d := d - 1) (by omega) hn hN hx) (by omega) (Nat.le_of_ble_eq_true rfl) (Nat.zero_le _) (Nat.zero_le _) ?_
  refine mw_if_ne (tgt := 28) d_md_level_5 (by decide) (fun hc => ?_) (fun hc => absurd hc bI_t0)
  refine mw_iconst (v := nI 0) d_md_level_28 (by decide) ?_
  exact mw_iret d_md_level_29 rfl rfl ⟨rfl, _, rfl, md_keep_t μ _, rfl⟩
theorem ct_mdorder {a : Nat} (hd : 2 ≤ d) (hn : 497 ≤ n) (hI : md_I μ w) (ha : a < μ.2.1) : mw_Ct E m_md_order d 0 0 [.ref (mw_b E + 250), .int (nI a)] (md_h E μ n r) (md_Qo E μ n r w (nI (or_ln μ.2.1 w a))) mw_no := by
  show mw_W E m_md_order d _ _ 0 0 0 [some (.ref (mw_b E + 250)), some (.int (nI a))] [] (md_h E μ n r)
  have h120 := hI.2.2.1
  have hI0 : md_I (nI 0, μ.2) w := hI.keep (md_keep_t μ _)
  refine mw_aload0 d_md_order_0 ?_
  refine mw_iload1 d_md_order_1 ?_
  refine mw_cV1e lk_md_order_md_none d_md_order_2 (md_lt hn (by decide)) md_gF (Nat.le_of_ble_eq_true rfl) (ct_mdnone (d := d - 1) (by omega) hn h120 ha) (by omega) (Nat.le_of_ble_eq_true rfl) (Nat.zero_le _) (Nat.zero_le _) ?_
  refine mw_if_ne (tgt := 28) d_md_order_5 (by decide) (fun hc => absurd bI_f0 hc) (fun hc => ?_)
  refine mw_aload0 d_md_order_8 ?_
  refine mw_iconst (v := nI 2) d_md_order_9 (by decide) ?_
  refine mw_aload0 d_md_order_10 ?_
  refine mw_cV0 (d' := d - 1) lk_md_order_md_ordered d_md_order_11 (md_lt hn (by decide)) md_gF (Nat.le_of_ble_eq_true rfl) (ct_mdordered (w := w) (μ := (nI 0, μ.2)) (by omega) hn hI0) (by omega) (Nat.le_of_ble_eq_true rfl) (Nat.zero_le _) (Nat.zero_le _) ?_ (fun _ _ q => q.elim)
  rintro v h' ⟨o, rfl, μ1, rfl, hk1, ht1, hyes, hno⟩
  show mw_W E m_md_order d _ _ _ _ _ _ (Value.int _ :: _) _
  have hk : md_keep μ μ1 := (md_keep_t μ _).trans hk1
  have hN : μ1.2.1 = μ.2.1 := hk.1
  refine mw_if_ne (tgt := 21) d_md_order_14 (by decide) (fun hc => ?_) (fun hc => ?_)
  rotate_left
  · refine mw_iconst (v := nI 1) d_md_order_17 (by decide) ?_
    refine mw_goto (tgt := 22) d_md_order_18 (by decide) ?_
    refine mw_cV2e lk_md_order_md_refuse d_md_order_22 (md_lt hn (by decide)) md_gF (Nat.le_of_ble_eq_true rfl) (ct_mdrefuse (d := d - 1) (μ := μ1) (x := true) hn) (by omega) (Nat.le_of_ble_eq_true rfl) (Nat.zero_le _) (Nat.zero_le _) ?_
    refine mw_if_eq (tgt := 30) d_md_order_25 (by decide) (fun hc9 => absurd hc9 bI_t0) (fun hc9 => ?_)
    refine mw_iconst (v := nI 0) d_md_order_28 (by decide) ?_
    exact mw_iret d_md_order_29 rfl rfl (Or.inr ⟨hno (bI_0 hc), rfl, _, rfl, hk.trans (md_keep_t μ1 _), rfl⟩)
  have hyes2 : or_ok μ.2.1 w μ.2.1 ∧ ∀ j, j < μ.2.1 → μ1.2.2.2 1 j = nI (or_ln μ.2.1 w j) := hyes (bI_n hc)
  obtain ⟨hok, hord⟩ := hyes2
  refine mw_iconst (v := nI 0) d_md_order_21 (by decide) ?_
  refine mw_cV2e lk_md_order_md_refuse d_md_order_22 (md_lt hn (by decide)) md_gF (Nat.le_of_ble_eq_true rfl) (ct_mdrefuse (d := d - 1) (μ := μ1) (x := false) hn) (by omega) (Nat.le_of_ble_eq_true rfl) (Nat.zero_le _) (Nat.zero_le _) ?_
  refine mw_if_eq (tgt := 30) d_md_order_25 (by decide) (fun hc => ?_) (fun hc => absurd bI_f0 hc)
  have ht : μ1.1 = nI 0 := ht1
  refine mw_aload0 d_md_order_30 ?_
  refine gf_md_order d_md_order_31 hn rfl ?_
  refine mw_iload1 d_md_order_34 ?_
  refine md_il (j := 1) (by omega) (by omega) d_md_order_35 hn ?_
  rw [show (if false = true then nI 2 else μ1.1, μ1.2).2.2.2 1 a = nI (or_ln μ.2.1 w a) from hord a ha]
  exact mw_iret d_md_order_36 rfl rfl (Or.inl ⟨hok, rfl, μ1, rfl, hk, ht⟩)
def md_mk (μ μ' : md_K) (w : Nat → Nat → Bool) (f : Nat → Nat → Nat) (i : Nat) : Prop := md_keep μ μ' ∧ μ'.1 = nI 0 ∧ (∀ j, j < μ.2.1 → μ'.2.2.2 1 j = nI (or_ln μ.2.1 w j)) ∧ ∀ q, q < μ.2.1 → or_P μ.2.1 w i q = true → μ'.2.2.2 2 q = nI (f i q)
def md_M2 (μ : md_K) (R : Nat → Int32) : md_K := (μ.1, μ.2.1, μ.2.2.1, va_up μ.2.2.2 2 R)
theorem md_M2s (μ : md_K) (R : Nat → Int32) (i : Nat) (x : Int32) : md_h E ((md_M2 μ R).1, (md_M2 μ R).2.1, (md_M2 μ R).2.2.1, va_up (md_M2 μ R).2.2.2 2 (va_up ((md_M2 μ R).2.2.2 2) i x)) n r = md_h E (md_M2 μ (va_up R i x)) n r := by
  have e : va_up (va_up μ.2.2.2 2 R) 2 (va_up (va_up μ.2.2.2 2 R 2) i x) = va_up μ.2.2.2 2 (va_up R i x) := by rw [mw_up_s, mw_upup]
  show md_h E (μ.1, μ.2.1, μ.2.2.1, va_up (va_up μ.2.2.2 2 R) 2 (va_up (va_up μ.2.2.2 2 R 2) i x)) n r = _
  rw [e]
  rfl
theorem md_M2g (μ : md_K) (R : Nat → Int32) (i : Nat) : (md_M2 μ R).2.2.2 2 i = R i := by
  show va_up μ.2.2.2 2 R 2 i = R i
  rw [mw_up_s]
theorem md_mk_S {μ' : md_K} {f : Nat → Nat → Nat} {i : Nat} {R : Nat → Int32} (h : md_mk μ μ' w f i) (hw : bf_ok μ.2.1 w) (hl : or_ln μ.2.1 w i < μ.2.1) (hf : ∀ q, q ≠ or_ln μ.2.1 w i → f (i + 1) q = f i q) (hR : R (or_ln μ.2.1 w i) = nI (f (i + 1) (or_ln μ.2.1 w i))) (hR2 : ∀ q, q < μ.2.1 → q ≠ or_ln μ.2.1 w i → R q = μ'.2.2.2 2 q) : md_mk μ (md_M2 μ' R) w f (i + 1) := by
  refine ⟨⟨h.1.1, h.1.2⟩, h.2.1, fun j hj => ?_, fun q hq hP => ?_⟩
  · show va_up μ'.2.2.2 2 R 1 j = _
    rw [mw_up_n _ _ (show (1 : Nat) ≠ 2 by decide)]; exact h.2.2.1 j hj
  · rw [md_M2g]
    by_cases z : q = or_ln μ.2.1 w i
    · rw [z, hR]
    · rw [hR2 q hq z, hf q z]
      refine h.2.2.2 q hq ?_
      rw [or_PS] at hP
      simpa [z] using hP
theorem ct_mdlevel {a : Nat} (hd : 2 ≤ d) (hn : 497 ≤ n) (hI : md_I μ w) (ha : a < μ.2.1) : mw_Ct E m_md_level d 0 0 [.ref (mw_b E + 250), .int (nI a)] (md_h E μ n r) (md_Qo E μ n r w (nI (or_lv μ.2.1 w μ.2.1 a))) mw_no := by
  show mw_W E m_md_level d _ _ 0 0 0 [some (.ref (mw_b E + 250)), some (.int (nI a))] [] (md_h E μ n r)
  refine mw_lo [some (.ref (mw_b E + 250)), some (.int (nI a)), none, none, none] (by simp [mw_le]) ?_
  have h120 := hI.2.2.1
  have hw := hI.1
  have hI0 : md_I (nI 0, μ.2) w := hI.keep (md_keep_t μ _)
  refine mw_aload0 d_md_level_0 ?_
  refine mw_iload1 d_md_level_1 ?_
  refine mw_cV1e lk_md_level_md_none d_md_level_2 (md_lt hn (by decide)) md_gF (Nat.le_of_ble_eq_true rfl) (ct_mdnone (d := d - 1) (by omega) hn h120 ha) (by omega) (Nat.le_of_ble_eq_true rfl) (Nat.zero_le _) (Nat.zero_le _) ?_
  refine mw_if_ne (tgt := 28) d_md_level_5 (by decide) (fun hc => absurd bI_f0 hc) (fun hc => ?_)
  refine mw_aload0 d_md_level_8 ?_
  refine mw_iconst (v := nI 2) d_md_level_9 (by decide) ?_
  refine mw_aload0 d_md_level_10 ?_
  refine mw_cV0 (d' := d - 1) lk_md_level_md_ordered d_md_level_11 (md_lt hn (by decide)) md_gF (Nat.le_of_ble_eq_true rfl) (ct_mdordered (w := w) (μ := (nI 0, μ.2)) (by omega) hn hI0) (by omega) (Nat.le_of_ble_eq_true rfl) (Nat.zero_le _) (Nat.zero_le _) ?_ (fun _ _ q => q.elim)
  rintro v h' ⟨o, rfl, μ1, rfl, hk1, ht1, hyes, hno⟩
  show mw_W E m_md_level d _ _ _ _ _ _ (Value.int _ :: _) _
  have hk : md_keep μ μ1 := (md_keep_t μ _).trans hk1
  have hN : μ1.2.1 = μ.2.1 := hk.1
  refine mw_if_ne (tgt := 21) d_md_level_14 (by decide) (fun hc => ?_) (fun hc => ?_)
  rotate_left
  · refine mw_iconst (v := nI 1) d_md_level_17 (by decide) ?_
    refine mw_goto (tgt := 22) d_md_level_18 (by decide) ?_
    refine mw_cV2e lk_md_level_md_refuse d_md_level_22 (md_lt hn (by decide)) md_gF (Nat.le_of_ble_eq_true rfl) (ct_mdrefuse (d := d - 1) (μ := μ1) (x := true) hn) (by omega) (Nat.le_of_ble_eq_true rfl) (Nat.zero_le _) (Nat.zero_le _) ?_
    refine mw_if_eq (tgt := 30) d_md_level_25 (by decide) (fun hc9 => absurd hc9 bI_t0) (fun hc9 => ?_)
    refine mw_iconst (v := nI 0) d_md_level_28 (by decide) ?_
    exact mw_iret d_md_level_29 rfl rfl (Or.inr ⟨hno (bI_0 hc), rfl, _, rfl, hk.trans (md_keep_t μ1 _), rfl⟩)
  have hyes2 : or_ok μ.2.1 w μ.2.1 ∧ ∀ j, j < μ.2.1 → μ1.2.2.2 1 j = nI (or_ln μ.2.1 w j) := hyes (bI_n hc)
  obtain ⟨hok, hord⟩ := hyes2
  refine mw_iconst (v := nI 0) d_md_level_21 (by decide) ?_
  refine mw_cV2e lk_md_level_md_refuse d_md_level_22 (md_lt hn (by decide)) md_gF (Nat.le_of_ble_eq_true rfl) (ct_mdrefuse (d := d - 1) (μ := μ1) (x := false) hn) (by omega) (Nat.le_of_ble_eq_true rfl) (Nat.zero_le _) (Nat.zero_le _) ?_
  refine mw_if_eq (tgt := 30) d_md_level_25 (by decide) (fun hc => ?_) (fun hc => absurd bI_f0 hc)
  have ht : μ1.1 = nI 0 := ht1
  have ki : ∀ i, i ≤ μ.2.1 → ∀ μ', md_mk μ μ' w (or_lv μ.2.1 w) i → mw_W E m_md_level d (md_Qo E μ n r w (nI (or_lv μ.2.1 w μ.2.1 a))) mw_no 0 0 32 [some (.ref (mw_b E + 250)), some (.int (nI a)), some (.int (nI i)), none, none] [] (md_h E μ' n r) := by
    refine mw_down μ.2.1 (fun i hi ih μ' hmk => ?_)
    have hN := hmk.1.1
    have hI' := hI.keep hmk.1
    refine mw_iload2 d_md_level_32 ?_
    refine mw_aload0 d_md_level_33 ?_
    refine gf_md_n d_md_level_34 hn rfl ?_
    rw [hN]
    refine mw_icmp_ge (tgt := 114) d_md_level_37 (by decide) (fun hc => ?_) (fun hc => ?_)
    · have e := nI_geE hi (by omega) hc
      subst e
      refine mw_aload0 d_md_level_114 ?_
      refine gf_md_measure d_md_level_115 hn rfl ?_
      refine mw_iload1 d_md_level_118 ?_
      refine md_il (j := 2) (by omega) (by omega) d_md_level_119 hn ?_
      rw [hmk.2.2.2 a ha (or_all hw hok ha)]
      exact mw_iret d_md_level_120 rfl rfl (Or.inl ⟨hok, rfl, μ', rfl, hmk.1, hmk.2.1⟩)
    · have hlt := nI_geN hi (by omega) hc
      have hl := hok i hlt
      have hrd := (or_rdy_iff hw).mp (or_ln_rdy hl)
      have hslf := or_self hw hl
      have hsp : ∀ q, q ≠ or_ln μ.2.1 w i → or_lv μ.2.1 w (i + 1) q = or_lv μ.2.1 w i q := fun q hq => by rw [or_lvS, if_neg hq]
      have hse : or_lv μ.2.1 w (i + 1) (or_ln μ.2.1 w i) = pu_max (fun q => if w q (or_ln μ.2.1 w i) = true then or_lv μ.2.1 w i q + 1 else 0) μ.2.1 := by rw [or_lvS, if_pos rfl]
      have hstep := fun R => md_mk_S (R := R) hmk hw hl hsp
      have hord9 := hmk.2.2.1 i hlt
      rw [hse] at hstep
      generalize hp : or_ln μ.2.1 w i = p at hl hrd hslf hsp hse hstep hord9
      have hway : ∀ q, q < μ.2.1 → μ'.2.2.1 q p = w q p := fun q hq => hI'.2.2.2 q p (by rw [hN]; exact hq) (by rw [hN]; exact hl)
      have kb : ∀ b, b ≤ μ.2.1 → ∀ R, R p = nI (pu_max (fun q => if w q p = true then or_lv μ.2.1 w i q + 1 else 0) b) → (∀ q, q < μ.2.1 → q ≠ p → R q = μ'.2.2.2 2 q) → mw_W E m_md_level d (md_Qo E μ n r w (nI (or_lv μ.2.1 w μ.2.1 a))) mw_no 0 0 57 [some (.ref (mw_b E + 250)), some (.int (nI a)), some (.int (nI i)), some (.int (nI p)), some (.int (nI b))] [] (md_h E (md_M2 μ' R) n r) := by
        refine mw_down μ.2.1 (fun b hb ih2 R hRp hRq => ?_)
        refine mw_iload4 d_md_level_57 ?_
        refine mw_aload0 d_md_level_59 ?_
        refine gf_md_n d_md_level_60 hn rfl ?_
        rw [show (md_M2 μ' R).2.1 = μ.2.1 from hN]
        refine mw_icmp_ge (tgt := 108) d_md_level_63 (by decide) (fun hc2 => ?_) (fun hc2 => ?_)
        · have e := nI_geE hb (by omega) hc2
          refine mw_inc2 d_md_level_108 rfl (Nat.le_of_ble_eq_true rfl) ?_
          refine mw_goto (tgt := 32) d_md_level_111 (by decide) ?_
          refine mw_lo [some (.ref (mw_b E + 250)), some (.int (nI a)), some (.int (nI (i + 1))), none, none] (by simp [mw_le]) ?_
          exact ih hlt _ (hstep R (by rw [hRp, e]) hRq)
        · have hbl := nI_geN hb (by omega) hc2
          have hSx : pu_max (fun q => if w q p = true then or_lv μ.2.1 w i q + 1 else 0) (b + 1) = max (pu_max (fun q => if w q p = true then or_lv μ.2.1 w i q + 1 else 0) b) (if w b p = true then or_lv μ.2.1 w i b + 1 else 0) := rfl
          refine mw_aload0 d_md_level_66 ?_
          refine gf_md_way d_md_level_67 hn rfl ?_
          refine mw_iload4 d_md_level_70 ?_
          refine md_wl (by omega) d_md_level_72 hn ?_
          refine mw_iload3 d_md_level_73 ?_
          refine md_bl (by omega) (by omega) d_md_level_74 hn ?_
          rw [show (md_M2 μ' R).2.2.1 b p = w b p from hway b hbl]
          refine mw_if_eq (tgt := 102) d_md_level_75 (by decide) (fun hc3 => ?_) (fun hc3 => ?_)
          · refine mw_inc4 d_md_level_102 rfl (Nat.le_of_ble_eq_true rfl) ?_
            refine mw_goto (tgt := 57) d_md_level_105 (by decide) ?_
            refine ih2 hbl R ?_ hRq
            rw [hRp, hSx, if_neg (by rw [bI_0 hc3]; decide), Nat.max_eq_left (Nat.zero_le _)]
          · have hbp := bI_n hc3
            have hne : b ≠ p := fun z => by rw [z, hslf] at hbp; cases hbp
            have hm := hmk.2.2.2 b hbl (hrd.2 b hbp)
            have hlv := or_lv_le (N := μ.2.1) (w := w) i b
            have hmx : pu_max (fun q => if w q p = true then or_lv μ.2.1 w i q + 1 else 0) b ≤ i + 1 := pu_max_le (fun q _ => by
              split
              · have := or_lv_le (N := μ.2.1) (w := w) i q
                omega
              · omega)
            refine mw_aload0 d_md_level_78 ?_
            refine gf_md_measure d_md_level_79 hn rfl ?_
            refine mw_iload3 d_md_level_82 ?_
            refine mw_aload0 d_md_level_83 ?_
            refine gf_md_measure d_md_level_84 hn rfl ?_
            refine mw_iload3 d_md_level_87 ?_
            refine md_il (j := 2) (by omega) (by omega) d_md_level_88 hn ?_
            rw [md_M2g, hRp]
            refine mw_aload0 d_md_level_89 ?_
            refine gf_md_measure d_md_level_90 hn rfl ?_
            refine mw_iload4 d_md_level_93 ?_
            refine md_il (j := 2) (by omega) (by omega) d_md_level_95 hn ?_
            rw [md_M2g, hRq b hbl hne, hm]
            refine mw_iconst (v := nI 1) d_md_level_96 (by decide) ?_
            refine mw_iadd d_md_level_97 ?_
            refine mw_topi (nI_1 _) ?_
            refine mw_cS2e lk_md_level_jm_max d_md_level_98  (Nat.le_of_ble_eq_true rfl) (ct_max (d := d - 1) (by omega) (by omega)) (by omega) (Nat.le_of_ble_eq_true rfl) (Nat.zero_le _) (Nat.zero_le _) ?_
            refine md_is (j := 2) (by omega) (by omega) d_md_level_101 hn ?_
            rw [md_M2s]
            refine mw_inc4 d_md_level_102 rfl (Nat.le_of_ble_eq_true rfl) ?_
            refine mw_goto (tgt := 57) d_md_level_105 (by decide) ?_
            refine mw_bud (Nat.zero_le _) (Nat.zero_le _) (ih2 hbl _ ?_ (fun q hq hqp => ?_))
            · rw [mw_up_s, hSx, if_pos hbp]
            · rw [mw_up_n _ _ hqp]; exact hRq q hq hqp
      refine mw_aload0 d_md_level_40 ?_
      refine gf_md_order d_md_level_41 hn rfl ?_
      refine mw_iload2 d_md_level_44 ?_
      refine md_il (j := 1) (by omega) (by omega) d_md_level_45 hn ?_
      rw [hord9]
      refine mw_istore3 d_md_level_46 rfl (Nat.le_of_ble_eq_true rfl) ?_
      refine mw_aload0 d_md_level_47 ?_
      refine gf_md_measure d_md_level_48 hn rfl ?_
      refine mw_iload3 d_md_level_51 ?_
      refine mw_iconst (v := nI 0) d_md_level_52 (by decide) ?_
      refine md_is (j := 2) (by omega) (by omega) d_md_level_53 hn ?_
      refine mw_iconst (v := nI 0) d_md_level_54 (by decide) ?_
      refine mw_istore4 d_md_level_55 rfl (Nat.le_of_ble_eq_true rfl) ?_
      refine kb 0 (Nat.zero_le _) (va_up (μ'.2.2.2 2) p (nI 0)) (mw_up_s _ _ _) (fun q _ hqp => mw_up_n _ _ hqp)
  refine mw_iconst (v := nI 0) d_md_level_30 (by decide) ?_
  refine mw_istore2 d_md_level_31 rfl (Nat.le_of_ble_eq_true rfl) ?_
  exact mw_bud (Nat.zero_le _) (Nat.zero_le _) (ki 0 (Nat.zero_le _) μ1 ⟨hk, ht, hord, fun q _ z => by rw [or_P0] at z; cases z⟩)
theorem ct_mdpathsX {x y : Int32} (hd : 2 ≤ d) (hn : 497 ≤ n) (hN : μ.2.1 ≤ 120) (hx : ¬ (ob_in μ.2.1 x ∧ ob_in μ.2.1 y)) : mw_Ct E m_md_paths d 0 0 [.ref (mw_b E + 250), .int x, .int y] (md_h E μ n r) (md_Q E μ n r (nI 1) (nI 0)) mw_no := by
  show mw_W E m_md_paths d _ _ 0 0 0 [some (.ref (mw_b E + 250)), some (.int x), some (.int y)] [] (md_h E μ n r)
  have k36 : ∀ bc bs, mw_W E m_md_paths d (md_Q E μ n r (nI 1) (nI 0)) mw_no bc bs 36 [some (.ref (mw_b E + 250)), some (.int x), some (.int y)] [] (md_h E (nI 1, μ.2) n r) := by
    intro bc bs
    refine mw_iconst (v := nI 0) d_md_paths_36 (by decide) ?_
    exact mw_iret d_md_paths_37 rfl rfl ⟨rfl, _, rfl, md_keep_t μ _, rfl⟩
  refine mw_aload0 d_md_paths_0 ?_
  refine mw_iload1 d_md_paths_1 ?_
  by_cases h1 : ob_in μ.2.1 x
  · obtain ⟨p, hp, rfl⟩ := h1
    refine mw_cV1e lk_md_paths_md_none d_md_paths_2 (md_lt hn (by decide)) md_gF (Nat.le_of_ble_eq_true rfl) (ct_mdnone (d := d - 1) (by omega) hn hN hp) (by omega) (Nat.le_of_ble_eq_true rfl) (Nat.zero_le _) (Nat.zero_le _) ?_
    refine mw_if_ne (tgt := 36) d_md_paths_5 (by decide) (fun hc => absurd bI_f0 hc) (fun hc => ?_)
    refine mw_aload0 d_md_paths_8 ?_
    refine mw_iload2 d_md_paths_9 ?_
    refine mw_cV1e lk_md_paths_md_none d_md_paths_10 (md_lt hn (by decide)) md_gF (Nat.le_of_ble_eq_true rfl) (ct_mdnoneX (d := d - 1) (μ := (nI 0, μ.2)) (by omega) hn hN (fun z => hx ⟨⟨p, hp, rfl⟩, z⟩)) (by omega) (Nat.le_of_ble_eq_true rfl) (Nat.zero_le _) (Nat.zero_le _) ?_
    refine mw_if_ne (tgt := 36) d_md_paths_13 (by decide) (fun hc => k36 _ _) (fun hc => absurd hc bI_t0)
  · refine mw_cV1e lk_md_paths_md_none d_md_paths_2 (md_lt hn (by decide)) md_gF (Nat.le_of_ble_eq_true rfl) (ct_mdnoneX (d := d - 1) (by omega) hn hN h1) (by omega) (Nat.le_of_ble_eq_true rfl) (Nat.zero_le _) (Nat.zero_le _) ?_
    refine mw_if_ne (tgt := 36) d_md_paths_5 (by decide) (fun hc => k36 _ _) (fun hc => absurd hc bI_t0)
theorem ct_mdpaths {a b : Nat} (hd : 2 ≤ d) (hn : 497 ≤ n) (hI : md_I μ w) (ha : a < μ.2.1) (hb : b < μ.2.1) : mw_Ct E m_md_paths d 0 0 [.ref (mw_b E + 250), .int (nI a), .int (nI b)] (md_h E μ n r) (md_Qo E μ n r w (nI (or_ps μ.2.1 w a μ.2.1 b))) mw_no := by
  show mw_W E m_md_paths d _ _ 0 0 0 [some (.ref (mw_b E + 250)), some (.int (nI a)), some (.int (nI b))] [] (md_h E μ n r)
  refine mw_lo [some (.ref (mw_b E + 250)), some (.int (nI a)), some (.int (nI b)), none, none, none] (by simp [mw_le]) ?_
  have h120 := hI.2.2.1
  have hw := hI.1
  have hI0 : md_I (nI 0, μ.2) w := hI.keep (md_keep_t μ _)
  refine mw_aload0 d_md_paths_0 ?_
  refine mw_iload1 d_md_paths_1 ?_
  refine mw_cV1e lk_md_paths_md_none d_md_paths_2 (md_lt hn (by decide)) md_gF (Nat.le_of_ble_eq_true rfl) (ct_mdnone (d := d - 1) (by omega) hn h120 ha) (by omega) (Nat.le_of_ble_eq_true rfl) (Nat.zero_le _) (Nat.zero_le _) ?_
  refine mw_if_ne (tgt := 36) d_md_paths_5 (by decide) (fun hc => absurd bI_f0 hc) (fun hc => ?_)
  refine mw_aload0 d_md_paths_8 ?_
  refine mw_iload2 d_md_paths_9 ?_
  refine mw_cV1e lk_md_paths_md_none d_md_paths_10 (md_lt hn (by decide)) md_gF (Nat.le_of_ble_eq_true rfl) (ct_mdnone (d := d - 1) (μ := (nI 0, μ.2)) (by omega) hn h120 hb) (by omega) (Nat.le_of_ble_eq_true rfl) (Nat.zero_le _) (Nat.zero_le _) ?_
  refine mw_if_ne (tgt := 36) d_md_paths_13 (by decide) (fun hc => absurd bI_f0 hc) (fun hc => ?_)
  refine mw_aload0 d_md_paths_16 ?_
  refine mw_iconst (v := nI 2) d_md_paths_17 (by decide) ?_
  refine mw_aload0 d_md_paths_18 ?_
  refine mw_cV0 (d' := d - 1) lk_md_paths_md_ordered d_md_paths_19 (md_lt hn (by decide)) md_gF (Nat.le_of_ble_eq_true rfl) (ct_mdordered (w := w) (μ := (nI 0, μ.2)) (by omega) hn hI0) (by omega) (Nat.le_of_ble_eq_true rfl) (Nat.zero_le _) (Nat.zero_le _) ?_ (fun _ _ q => q.elim)
  rintro v h' ⟨o, rfl, μ1, rfl, hk1, ht1, hyes, hno⟩
  show mw_W E m_md_paths d _ _ _ _ _ _ (Value.int _ :: _) _
  have hk : md_keep μ μ1 := (md_keep_t μ _).trans hk1
  have hN : μ1.2.1 = μ.2.1 := hk.1
  refine mw_if_ne (tgt := 29) d_md_paths_22 (by decide) (fun hc => ?_) (fun hc => ?_)
  rotate_left
  · refine mw_iconst (v := nI 1) d_md_paths_25 (by decide) ?_
    refine mw_goto (tgt := 30) d_md_paths_26 (by decide) ?_
    refine mw_cV2e lk_md_paths_md_refuse d_md_paths_30 (md_lt hn (by decide)) md_gF (Nat.le_of_ble_eq_true rfl) (ct_mdrefuse (d := d - 1) (μ := μ1) (x := true) hn) (by omega) (Nat.le_of_ble_eq_true rfl) (Nat.zero_le _) (Nat.zero_le _) ?_
    refine mw_if_eq (tgt := 38) d_md_paths_33 (by decide) (fun hc9 => absurd hc9 bI_t0) (fun hc9 => ?_)
    refine mw_iconst (v := nI 0) d_md_paths_36 (by decide) ?_
    exact mw_iret d_md_paths_37 rfl rfl (Or.inr ⟨hno (bI_0 hc), rfl, _, rfl, hk.trans (md_keep_t μ1 _), rfl⟩)
  have hyes2 : or_ok μ.2.1 w μ.2.1 ∧ ∀ j, j < μ.2.1 → μ1.2.2.2 1 j = nI (or_ln μ.2.1 w j) := hyes (bI_n hc)
  obtain ⟨hok, hord⟩ := hyes2
  refine mw_iconst (v := nI 0) d_md_paths_29 (by decide) ?_
  refine mw_cV2e lk_md_paths_md_refuse d_md_paths_30 (md_lt hn (by decide)) md_gF (Nat.le_of_ble_eq_true rfl) (ct_mdrefuse (d := d - 1) (μ := μ1) (x := false) hn) (by omega) (Nat.le_of_ble_eq_true rfl) (Nat.zero_le _) (Nat.zero_le _) ?_
  refine mw_if_eq (tgt := 38) d_md_paths_33 (by decide) (fun hc => ?_) (fun hc => absurd bI_f0 hc)
  have ht : μ1.1 = nI 0 := ht1
  have ki : ∀ i, i ≤ μ.2.1 → ∀ μ', md_mk μ μ' w (or_ps μ.2.1 w a) i → mw_W E m_md_paths d (md_Qo E μ n r w (nI (or_ps μ.2.1 w a μ.2.1 b))) mw_no 0 0 40 [some (.ref (mw_b E + 250)), some (.int (nI a)), some (.int (nI b)), some (.int (nI i)), none, none] [] (md_h E μ' n r) := by
    refine mw_down μ.2.1 (fun i hi ih μ' hmk => ?_)
    have hN := hmk.1.1
    have hI' := hI.keep hmk.1
    refine mw_iload3 d_md_paths_40 ?_
    refine mw_aload0 d_md_paths_41 ?_
    refine gf_md_n d_md_paths_42 hn rfl ?_
    rw [hN]
    refine mw_icmp_ge (tgt := 136) d_md_paths_45 (by decide) (fun hc => ?_) (fun hc => ?_)
    · have e := nI_geE hi (by omega) hc
      subst e
      refine mw_aload0 d_md_paths_136 ?_
      refine gf_md_measure d_md_paths_137 hn rfl ?_
      refine mw_iload2 d_md_paths_140 ?_
      refine md_il (j := 2) (by omega) (by omega) d_md_paths_141 hn ?_
      rw [hmk.2.2.2 b hb (or_all hw hok hb)]
      exact mw_iret d_md_paths_142 rfl rfl (Or.inl ⟨hok, rfl, μ', rfl, hmk.1, hmk.2.1⟩)
    · have hlt := nI_geN hi (by omega) hc
      have hl := hok i hlt
      have hrd := (or_rdy_iff hw).mp (or_ln_rdy hl)
      have hslf := or_self hw hl
      have hsp : ∀ q, q ≠ or_ln μ.2.1 w i → or_ps μ.2.1 w a (i + 1) q = or_ps μ.2.1 w a i q := fun q hq => by rw [or_psS, if_neg hq]
      have hse : or_ps μ.2.1 w a (i + 1) (or_ln μ.2.1 w i) = ((if or_ln μ.2.1 w i = a then 1 else 0) + pu_sum (fun q => if w q (or_ln μ.2.1 w i) = true then or_ps μ.2.1 w a i q else 0) μ.2.1) % or_M := by rw [or_psS, if_pos rfl]
      have hstep := fun R => md_mk_S (R := R) hmk hw hl hsp
      have hord9 := hmk.2.2.1 i hlt
      rw [hse] at hstep
      generalize hp : or_ln μ.2.1 w i = p at hl hrd hslf hsp hse hstep hord9
      have hway : ∀ q, q < μ.2.1 → μ'.2.2.1 q p = w q p := fun q hq => hI'.2.2.2 q p (by rw [hN]; exact hq) (by rw [hN]; exact hl)
      have kb : ∀ c, c ≤ μ.2.1 → ∀ R, R p = nI (((if p = a then 1 else 0) + pu_sum (fun q => if w q p = true then or_ps μ.2.1 w a i q else 0) c) % or_M) → (∀ q, q < μ.2.1 → q ≠ p → R q = μ'.2.2.2 2 q) → mw_W E m_md_paths d (md_Qo E μ n r w (nI (or_ps μ.2.1 w a μ.2.1 b))) mw_no 0 0 77 [some (.ref (mw_b E + 250)), some (.int (nI a)), some (.int (nI b)), some (.int (nI i)), some (.int (nI p)), some (.int (nI c))] [] (md_h E (md_M2 μ' R) n r) := by
        refine mw_down μ.2.1 (fun c hc9 ih2 R hRp hRq => ?_)
        refine mw_iload5 d_md_paths_77 ?_
        refine mw_aload0 d_md_paths_79 ?_
        refine gf_md_n d_md_paths_80 hn rfl ?_
        rw [show (md_M2 μ' R).2.1 = μ.2.1 from hN]
        refine mw_icmp_ge (tgt := 130) d_md_paths_83 (by decide) (fun hc2 => ?_) (fun hc2 => ?_)
        · have e := nI_geE hc9 (by omega) hc2
          refine mw_inc3 d_md_paths_130 rfl (Nat.le_of_ble_eq_true rfl) ?_
          refine mw_goto (tgt := 40) d_md_paths_133 (by decide) ?_
          refine mw_lo [some (.ref (mw_b E + 250)), some (.int (nI a)), some (.int (nI b)), some (.int (nI (i + 1))), none, none] (by simp [mw_le]) ?_
          exact ih hlt _ (hstep R (by rw [hRp, e]) hRq)
        · have hbl := nI_geN hc9 (by omega) hc2
          have hSx : pu_sum (fun q => if w q p = true then or_ps μ.2.1 w a i q else 0) (c + 1) = pu_sum (fun q => if w q p = true then or_ps μ.2.1 w a i q else 0) c + (if w c p = true then or_ps μ.2.1 w a i c else 0) := rfl
          refine mw_aload0 d_md_paths_86 ?_
          refine gf_md_way d_md_paths_87 hn rfl ?_
          refine mw_iload5 d_md_paths_90 ?_
          refine md_wl (by omega) d_md_paths_92 hn ?_
          refine mw_iload4 d_md_paths_93 ?_
          refine md_bl (by omega) (by omega) d_md_paths_95 hn ?_
          rw [show (md_M2 μ' R).2.2.1 c p = w c p from hway c hbl]
          refine mw_if_eq (tgt := 124) d_md_paths_96 (by decide) (fun hc3 => ?_) (fun hc3 => ?_)
          · refine mw_inc5 d_md_paths_124 rfl (Nat.le_of_ble_eq_true rfl) ?_
            refine mw_goto (tgt := 77) d_md_paths_127 (by decide) ?_
            refine ih2 hbl R ?_ hRq
            rw [hRp, hSx, if_neg (c := w c p = true) (by rw [bI_0 hc3]; decide)]; rfl
          · have hbp := bI_n hc3
            have hne : c ≠ p := fun z => by rw [z, hslf] at hbp; cases hbp
            have hm := hmk.2.2.2 c hbl (hrd.2 c hbp)
            have hlv : or_ps μ.2.1 w a i c < 1000003 := or_ps_lt i c
            have hmx : ((if p = a then 1 else 0) + pu_sum (fun q => if w q p = true then or_ps μ.2.1 w a i q else 0) c) % or_M < 1000003 := Nat.mod_lt _ (by decide)
            refine mw_aload0 d_md_paths_99 ?_
            refine gf_md_measure d_md_paths_100 hn rfl ?_
            refine mw_iload4 d_md_paths_103 ?_
            refine mw_aload0 d_md_paths_105 ?_
            refine gf_md_measure d_md_paths_106 hn rfl ?_
            refine mw_iload4 d_md_paths_109 ?_
            refine md_il (j := 2) (by omega) (by omega) d_md_paths_111 hn ?_
            rw [md_M2g, hRp]
            refine mw_aload0 d_md_paths_112 ?_
            refine gf_md_measure d_md_paths_113 hn rfl ?_
            refine mw_iload5 d_md_paths_116 ?_
            refine md_il (j := 2) (by omega) (by omega) d_md_paths_118 hn ?_
            rw [md_M2g, hRq c hbl hne, hm]
            refine mw_iadd d_md_paths_119 ?_
            refine mw_ldc d_md_paths_120 tb_490 ?_
            refine mw_irem d_md_paths_122 (by decide) ?_
            rw [nI_add]
            refine mw_topi (nI_rem (m := 1000003) (by omega) (by decide)) ?_
            refine md_is (j := 2) (by omega) (by omega) d_md_paths_123 hn ?_
            rw [md_M2s]
            refine mw_inc5 d_md_paths_124 rfl (Nat.le_of_ble_eq_true rfl) ?_
            refine mw_goto (tgt := 77) d_md_paths_127 (by decide) ?_
            refine ih2 hbl _ ?_ (fun q hq hqp => ?_)
            · rw [mw_up_s, hSx, if_pos hbp, ← Nat.add_assoc]
              exact congrArg nI (Nat.mod_add_mod _ or_M _)
            · rw [mw_up_n _ _ hqp]; exact hRq q hq hqp
      have k73 : ∀ x, x = nI (((if p = a then 1 else 0) + pu_sum (fun q => if w q p = true then or_ps μ.2.1 w a i q else 0) 0) % or_M) → mw_W E m_md_paths d (md_Qo E μ n r w (nI (or_ps μ.2.1 w a μ.2.1 b))) mw_no 0 0 73 [some (.ref (mw_b E + 250)), some (.int (nI a)), some (.int (nI b)), some (.int (nI i)), some (.int (nI p)), none] [.int x, .int (nI p), .ref (mw_b E + md_i 2)] (md_h E μ' n r) := by
        intro x hx
        refine md_is (j := 2) (by omega) (by omega) d_md_paths_73 hn ?_
        refine mw_iconst (v := nI 0) d_md_paths_74 (by decide) ?_
        refine mw_istore5 d_md_paths_75 rfl (Nat.le_of_ble_eq_true rfl) ?_
        exact kb 0 (Nat.zero_le _) (va_up (μ'.2.2.2 2) p x) ((mw_up_s _ _ _).trans hx) (fun q _ hqp => mw_up_n _ _ hqp)
      refine mw_aload0 d_md_paths_48 ?_
      refine gf_md_order d_md_paths_49 hn rfl ?_
      refine mw_iload3 d_md_paths_52 ?_
      refine md_il (j := 1) (by omega) (by omega) d_md_paths_53 hn ?_
      rw [hord9]
      refine mw_istore4 d_md_paths_54 rfl (Nat.le_of_ble_eq_true rfl) ?_
      refine mw_aload0 d_md_paths_56 ?_
      refine gf_md_measure d_md_paths_57 hn rfl ?_
      refine mw_iload4 d_md_paths_60 ?_
      refine mw_iload4 d_md_paths_62 ?_
      refine mw_iload1 d_md_paths_64 ?_
      refine mw_icmp_ne (tgt := 72) d_md_paths_65 (by decide) (fun hc4 => ?_) (fun hc4 => ?_)
      · refine mw_iconst (v := nI 0) d_md_paths_72 (by decide) ?_
        refine k73 _ ?_
        rw [if_neg (fun z => hc4 (by rw [z]))]; rfl
      · refine mw_iconst (v := nI 1) d_md_paths_68 (by decide) ?_
        refine mw_goto (tgt := 73) d_md_paths_69 (by decide) ?_
        refine k73 _ ?_
        rw [if_pos (nI_inj (by omega) (by omega) hc4)]; rfl
  refine mw_iconst (v := nI 0) d_md_paths_38 (by decide) ?_
  refine mw_istore3 d_md_paths_39 rfl (Nat.le_of_ble_eq_true rfl) ?_
  exact mw_bud (Nat.zero_le _) (Nat.zero_le _) (ki 0 (Nat.zero_le _) μ1 ⟨hk, ht, hord, fun q _ z => by rw [or_P0] at z; cases z⟩)
end MOrd
