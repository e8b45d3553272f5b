/-! The reference: places, way, drop, reaches, far, circles, groups. -/
theorem bI_f0 : bI false = 0 := by decide
theorem bI_t0 : ¬ bI true = 0 := by decide
section MPub
variable {E : mw_E} {d n : Nat} {μ : md_K} {r : Nat → mw_O} {w : Nat → Nat → Bool}
def md_keep (μ μ' : md_K) : Prop := μ'.2.1 = μ.2.1 ∧ ∀ j, j < 120 → μ'.2.2.1 j = μ.2.2.1 j
theorem md_keep.refl (μ : md_K) : md_keep μ μ := ⟨rfl, fun _ _ => rfl⟩
theorem md_keep_t (μ : md_K) (t : Int32) : md_keep μ (t, μ.2) := ⟨rfl, fun _ _ => rfl⟩
theorem md_keep_R (μ : md_K) (R : Nat → Int32) : md_keep μ (md_R0 μ R) := ⟨rfl, fun _ _ => rfl⟩
theorem md_keep.trans {μ μ1 μ2 : md_K} (h1 : md_keep μ μ1) (h2 : md_keep μ1 μ2) : md_keep μ μ2 := ⟨h2.1.trans h1.1, fun j hj => (h2.2 j hj).trans (h1.2 j hj)⟩
theorem md_I.keep {μ μ' : md_K} (h : md_I μ w) (hk : md_keep μ μ') : md_I μ' w := by
  obtain ⟨h1, h2, h3, h4⟩ := h
  refine ⟨hk.1 ▸ h1, hk.1 ▸ h2, hk.1 ▸ h3, fun p q hp hq => ?_⟩
  rw [hk.1] at hp hq
  rw [hk.2 p (by omega)]
  exact h4 p q hp hq
def md_Q (E : mw_E) (μ : md_K) (n : Nat) (r : Nat → mw_O) (t v0 : Int32) : Option Value → mw_H → Prop := fun v h' => v = some (.int v0) ∧ ∃ μ', h' = md_h E μ' n r ∧ md_keep μ μ' ∧ μ'.1 = t
theorem mf_ge {N a q : Nat} {sh : Nat → Bool} (hw : bf_ok N w) (ha : a < N) (hN : N < 2 ^ 31) : bf_d N w sh a q < 0 ↔ bf_r N w sh a q = false := by
  constructor
  · intro h
    cases e : bf_r N w sh a q with
    | false => rfl
    | true =>
      obtain ⟨k, hk, hF⟩ := (bf_r_iff hw ha).mp e
      rw [bf_d_at hw ha hF] at h
      exact absurd h (nI_pos (by omega))
  · intro h
    rw [bf_d_no hw ha h]
    decide
theorem ct_mdreachesX {x y : Int32} (hd : 2 ≤ d) (hn : 497 ≤ n) (hN : μ.2.1 ≤ 120) (hx : ¬ (ob_in μ.2.1 x ∧ ob_in μ.2.1 y)) : mw_Ct E m_md_reaches d 0 0 [.ref (mw_b E + 250), .int x, .int y] (md_h E μ n r) (md_Q E μ n r (nI 1) (nI 0)) mw_no := by
  show mw_W E m_md_reaches d _ _ 0 0 0 [some (.ref (mw_b E + 250)), some (.int x), some (.int y)] [] (md_h E μ n r)
  have k16 : ∀ bc bs, mw_W E m_md_reaches d (md_Q E μ n r (nI 1) (nI 0)) mw_no bc bs 16 [some (.ref (mw_b E + 250)), some (.int x), some (.int y)] [] (md_h E (nI 1, μ.2) n r) := by
    intro bc bs
    refine mw_iconst (v := nI 0) d_md_reaches_16 (by decide) ?_
    exact mw_iret d_md_reaches_17 rfl nb0 ⟨rfl, _, rfl, md_keep_t μ _, rfl⟩
  refine mw_aload0 d_md_reaches_0 ?_
  refine mw_iload1 d_md_reaches_1 ?_
  by_cases h1 : ob_in μ.2.1 x
  · obtain ⟨p, hp, rfl⟩ := h1
    refine mw_cV1e lk_md_reaches_md_none d_md_reaches_2 (md_lt hn (by decide)) md_gF (Nat.le_of_ble_eq_true rfl) (ct_mdnone (d := d - 1) (by omega) hn hN hp) (by omega) (Nat.le_of_ble_eq_true rfl) (Nat.zero_le _) (Nat.zero_le _) ?_
    refine mw_if_ne (tgt := 16) d_md_reaches_5 (by decide) (fun hc => absurd bI_f0 hc) (fun hc => ?_)
    refine mw_aload0 d_md_reaches_8 ?_
    refine mw_iload2 d_md_reaches_9 ?_
    refine mw_cV1e lk_md_reaches_md_none d_md_reaches_10 (md_lt hn (by decide)) md_gF (Nat.le_of_ble_eq_true rfl) (ct_mdnoneX (d := d - 1) (μ := (nI 0, μ.2)) (by omega) hn hN (fun z => hx ⟨⟨p, hp, rfl⟩, z⟩)) (by omega) (Nat.le_of_ble_eq_true rfl) (Nat.zero_le _) (Nat.zero_le _) ?_
    refine mw_if_eq (tgt := 18) d_md_reaches_13 (by decide) (fun hc => absurd hc bI_t0) (fun hc => k16 _ _)
  · refine mw_cV1e lk_md_reaches_md_none d_md_reaches_2 (md_lt hn (by decide)) md_gF (Nat.le_of_ble_eq_true rfl) (ct_mdnoneX (d := d - 1) (by omega) hn hN h1) (by omega) (Nat.le_of_ble_eq_true rfl) (Nat.zero_le _) (Nat.zero_le _) ?_
    refine mw_if_ne (tgt := 16) d_md_reaches_5 (by decide) (fun hc => k16 _ _) (fun hc => absurd hc bI_t0)
theorem ct_mdfarX {x y : Int32} (hd : 2 ≤ d) (hn : 497 ≤ n) (hN : μ.2.1 ≤ 120) (hx : ¬ (ob_in μ.2.1 x ∧ ob_in μ.2.1 y)) : mw_Ct E m_md_far d 0 0 [.ref (mw_b E + 250), .int x, .int y] (md_h E μ n r) (md_Q E μ n r (nI 1) (nI 0)) mw_no := by
  show mw_W E m_md_far d _ _ 0 0 0 [some (.ref (mw_b E + 250)), some (.int x), some (.int y)] [] (md_h E μ n r)
  have k16 : ∀ bc bs, mw_W E m_md_far d (md_Q E μ n r (nI 1) (nI 0)) mw_no bc bs 16 [some (.ref (mw_b E + 250)), some (.int x), some (.int y)] [] (md_h E (nI 1, μ.2) n r) := by
    intro bc bs
    refine mw_iconst (v := nI 0) d_md_far_16 (by decide) ?_
    exact mw_iret d_md_far_17 rfl rfl ⟨rfl, _, rfl, md_keep_t μ _, rfl⟩
  refine mw_aload0 d_md_far_0 ?_
  refine mw_iload1 d_md_far_1 ?_
  by_cases h1 : ob_in μ.2.1 x
  · obtain ⟨p, hp, rfl⟩ := h1
    refine mw_cV1e lk_md_far_md_none d_md_far_2 (md_lt hn (by decide)) md_gF (Nat.le_of_ble_eq_true rfl) (ct_mdnone (d := d - 1) (by omega) hn hN hp) (by omega) (Nat.le_of_ble_eq_true rfl) (Nat.zero_le _) (Nat.zero_le _) ?_
    refine mw_if_ne (tgt := 16) d_md_far_5 (by decide) (fun hc => absurd bI_f0 hc) (fun hc => ?_)
    refine mw_aload0 d_md_far_8 ?_
    refine mw_iload2 d_md_far_9 ?_
    refine mw_cV1e lk_md_far_md_none d_md_far_10 (md_lt hn (by decide)) md_gF (Nat.le_of_ble_eq_true rfl) (ct_mdnoneX (d := d - 1) (μ := (nI 0, μ.2)) (by omega) hn hN (fun z => hx ⟨⟨p, hp, rfl⟩, z⟩)) (by omega) (Nat.le_of_ble_eq_true rfl) (Nat.zero_le _) (Nat.zero_le _) ?_
    refine mw_if_eq (tgt := 18) d_md_far_13 (by decide) (fun hc => absurd hc bI_t0) (fun hc => k16 _ _)
  · refine mw_cV1e lk_md_far_md_none d_md_far_2 (md_lt hn (by decide)) md_gF (Nat.le_of_ble_eq_true rfl) (ct_mdnoneX (d := d - 1) (by omega) hn hN h1) (by omega) (Nat.le_of_ble_eq_true rfl) (Nat.zero_le _) (Nat.zero_le _) ?_
    refine mw_if_ne (tgt := 16) d_md_far_5 (by decide) (fun hc => k16 _ _) (fun hc => absurd hc bI_t0)
theorem ct_mdsetX {x y : Int32} {z : Int32} (hd : 2 ≤ d) (hn : 497 ≤ n) (hN : μ.2.1 ≤ 120) (hx : ¬ (ob_in μ.2.1 x ∧ ob_in μ.2.1 y)) : mw_Ct E m_md_set d 0 0 [.ref (mw_b E + 250), .int x, .int y, .int z] (md_h E μ n r) (md_Q E μ n r (nI 1) (nI 0)) mw_no := by
  show mw_W E m_md_set d _ _ 0 0 0 [some (.ref (mw_b E + 250)), some (.int x), some (.int y), some (.int z)] [] (md_h E μ n r)
  have k16 : ∀ bc bs, mw_W E m_md_set d (md_Q E μ n r (nI 1) (nI 0)) mw_no bc bs 16 [some (.ref (mw_b E + 250)), some (.int x), some (.int y), some (.int z)] [] (md_h E (nI 1, μ.2) n r) := by
    intro bc bs
    refine mw_iconst (v := nI 0) d_md_set_16 (by decide) ?_
    exact mw_iret d_md_set_17 rfl nb0 ⟨rfl, _, rfl, md_keep_t μ _, rfl⟩
  refine mw_aload0 d_md_set_0 ?_
  refine mw_iload1 d_md_set_1 ?_
  by_cases h1 : ob_in μ.2.1 x
  · obtain ⟨p, hp, rfl⟩ := h1
    refine mw_cV1e lk_md_set_md_none d_md_set_2 (md_lt hn (by decide)) md_gF (Nat.le_of_ble_eq_true rfl) (ct_mdnone (d := d - 1) (by omega) hn hN hp) (by omega) (Nat.le_of_ble_eq_true rfl) (Nat.zero_le _) (Nat.zero_le _) ?_
    refine mw_if_ne (tgt := 16) d_md_set_5 (by decide) (fun hc => absurd bI_f0 hc) (fun hc => ?_)
    refine mw_aload0 d_md_set_8 ?_
    refine mw_iload2 d_md_set_9 ?_
    refine mw_cV1e lk_md_set_md_none d_md_set_10 (md_lt hn (by decide)) md_gF (Nat.le_of_ble_eq_true rfl) (ct_mdnoneX (d := d - 1) (μ := (nI 0, μ.2)) (by omega) hn hN (fun z => hx ⟨⟨p, hp, rfl⟩, z⟩)) (by omega) (Nat.le_of_ble_eq_true rfl) (Nat.zero_le _) (Nat.zero_le _) ?_
    refine mw_if_eq (tgt := 18) d_md_set_13 (by decide) (fun hc => absurd hc bI_t0) (fun hc => k16 _ _)
  · refine mw_cV1e lk_md_set_md_none d_md_set_2 (md_lt hn (by decide)) md_gF (Nat.le_of_ble_eq_true rfl) (ct_mdnoneX (d := d - 1) (by omega) hn hN h1) (by omega) (Nat.le_of_ble_eq_true rfl) (Nat.zero_le _) (Nat.zero_le _) ?_
    refine mw_if_ne (tgt := 16) d_md_set_5 (by decide) (fun hc => k16 _ _) (fun hc => absurd hc bI_t0)
theorem ct_mdgateX {x y : Int32} (hd : 2 ≤ d) (hn : 497 ≤ n) (hN : μ.2.1 ≤ 120) (hx : ¬ (ob_in μ.2.1 x ∧ ob_in μ.2.1 y)) : mw_Ct E m_md_gate d 0 0 [.ref (mw_b E + 250), .int x, .int y] (md_h E μ n r) (md_Q E μ n r (nI 1) (nI 0)) mw_no := by
  show mw_W E m_md_gate d _ _ 0 0 0 [some (.ref (mw_b E + 250)), some (.int x), some (.int y)] [] (md_h E μ n r)
  have k16 : ∀ bc bs, mw_W E m_md_gate d (md_Q E μ n r (nI 1) (nI 0)) mw_no bc bs 16 [some (.ref (mw_b E + 250)), some (.int x), some (.int y)] [] (md_h E (nI 1, μ.2) n r) := by
    intro bc bs
    refine mw_iconst (v := nI 0) d_md_gate_16 (by decide) ?_
    exact mw_iret d_md_gate_17 rfl rfl ⟨rfl, _, rfl, md_keep_t μ _, rfl⟩
  refine mw_aload0 d_md_gate_0 ?_
  refine mw_iload1 d_md_gate_1 ?_
  by_cases h1 : ob_in μ.2.1 x
  · obtain ⟨p, hp, rfl⟩ := h1
    refine mw_cV1e lk_md_gate_md_none d_md_gate_2 (md_lt hn (by decide)) md_gF (Nat.le_of_ble_eq_true rfl) (ct_mdnone (d := d - 1) (by omega) hn hN hp) (by omega) (Nat.le_of_ble_eq_true rfl) (Nat.zero_le _) (Nat.zero_le _) ?_
    refine mw_if_ne (tgt := 16) d_md_gate_5 (by decide) (fun hc => absurd bI_f0 hc) (fun hc => ?_)
    refine mw_aload0 d_md_gate_8 ?_
    refine mw_iload2 d_md_gate_9 ?_
    refine mw_cV1e lk_md_gate_md_none d_md_gate_10 (md_lt hn (by decide)) md_gF (Nat.le_of_ble_eq_true rfl) (ct_mdnoneX (d := d - 1) (μ := (nI 0, μ.2)) (by omega) hn hN (fun z => hx ⟨⟨p, hp, rfl⟩, z⟩)) (by omega) (Nat.le_of_ble_eq_true rfl) (Nat.zero_le _) (Nat.zero_le _) ?_
    refine mw_if_eq (tgt := 18) d_md_gate_13 (by decide) (fun hc => absurd hc bI_t0) (fun hc => k16 _ _)
  · refine mw_cV1e lk_md_gate_md_none d_md_gate_2 (md_lt hn (by decide)) md_gF (Nat.le_of_ble_eq_true rfl) (ct_mdnoneX (d := d - 1) (by omega) hn hN h1) (by omega) (Nat.le_of_ble_eq_true rfl) (Nat.zero_le _) (Nat.zero_le _) ?_
    refine mw_if_ne (tgt := 16) d_md_gate_5 (by decide) (fun hc => k16 _ _) (fun hc => absurd hc bI_t0)
theorem ct_mdwayX {x y : Int32} (hd : 3 ≤ d) (hn : 497 ≤ n) (hN : μ.2.1 ≤ 120) (hx : ¬ (ob_in μ.2.1 x ∧ ob_in μ.2.1 y)) : mw_Ct E m_md_way d 0 0 [.ref (mw_b E + 250), .int x, .int y] (md_h E μ n r) (md_Q E μ n r (nI 1) (nI 0)) mw_no := by
  show mw_W E m_md_way d _ _ 0 0 0 [some (.ref (mw_b E + 250)), some (.int x), some (.int y)] [] (md_h E μ n r)
  refine mw_aload0 d_md_way_0 ?_
  refine mw_iload1 d_md_way_1 ?_
  refine mw_iload2 d_md_way_2 ?_
  refine mw_iconst (v := nI 1) d_md_way_3 (by decide) ?_
  refine mw_cV3 (d' := d - 1) lk_md_way_md_set d_md_way_4 (md_lt hn (by decide)) md_gF (Nat.le_of_ble_eq_true rfl) (ct_mdsetX (by omega) hn hN hx) (by omega) (Nat.le_of_ble_eq_true rfl) (Nat.zero_le _) (Nat.zero_le _) ?_ (fun _ _ q => q.elim)
  rintro v h' ⟨rfl, μ', rfl, hk, ht⟩
  show mw_W E m_md_way d _ _ _ _ _ _ (Value.int _ :: []) _
  exact mw_iret d_md_way_7 rfl nb0 ⟨rfl, μ', rfl, hk, ht⟩
theorem ct_mddropX {x y : Int32} (hd : 3 ≤ d) (hn : 497 ≤ n) (hN : μ.2.1 ≤ 120) (hx : ¬ (ob_in μ.2.1 x ∧ ob_in μ.2.1 y)) : mw_Ct E m_md_drop d 0 0 [.ref (mw_b E + 250), .int x, .int y] (md_h E μ n r) (md_Q E μ n r (nI 1) (nI 0)) mw_no := by
  show mw_W E m_md_drop d _ _ 0 0 0 [some (.ref (mw_b E + 250)), some (.int x), some (.int y)] [] (md_h E μ n r)
  refine mw_aload0 d_md_drop_0 ?_
  refine mw_iload1 d_md_drop_1 ?_
  refine mw_iload2 d_md_drop_2 ?_
  refine mw_iconst (v := nI 0) d_md_drop_3 (by decide) ?_
  refine mw_cV3 (d' := d - 1) lk_md_drop_md_set d_md_drop_4 (md_lt hn (by decide)) md_gF (Nat.le_of_ble_eq_true rfl) (ct_mdsetX (by omega) hn hN hx) (by omega) (Nat.le_of_ble_eq_true rfl) (Nat.zero_le _) (Nat.zero_le _) ?_ (fun _ _ q => q.elim)
  rintro v h' ⟨rfl, μ', rfl, hk, ht⟩
  show mw_W E m_md_drop d _ _ _ _ _ _ (Value.int _ :: []) _
  exact mw_iret d_md_drop_7 rfl nb0 ⟨rfl, μ', rfl, hk, ht⟩
def md_QS (E : mw_E) (μ : md_K) (n : Nat) (r : Nat → mw_O) (w' : Nat → Nat → Bool) (v0 : Int32) : Option Value → mw_H → Prop := fun v h' => v = some (.int v0) ∧ ∃ μ', h' = md_h E μ' n r ∧ μ'.2.1 = μ.2.1 ∧ μ'.1 = nI 0 ∧ md_I μ' w'
theorem ct_mdset {a b : Nat} {x : Bool} (hd : 2 ≤ d) (hn : 497 ≤ n) (hI : md_I μ w) (ha : a < μ.2.1) (hb : b < μ.2.1) : mw_Ct E m_md_set d 0 0 [.ref (mw_b E + 250), .int (nI a), .int (nI b), .int (bI x)] (md_h E μ n r) (md_QS E μ n r (gw_set w a b x) (bI (w a b))) mw_no := by
  show mw_W E m_md_set d _ _ 0 0 0 [some (.ref (mw_b E + 250)), some (.int (nI a)), some (.int (nI b)), some (.int (bI x))] [] (md_h E μ n r)
  refine mw_lo [some (.ref (mw_b E + 250)), some (.int (nI a)), some (.int (nI b)), some (.int (bI x)), none] (by simp [mw_le]) ?_
  obtain ⟨hw, h1, h120, hway⟩ := hI
  refine mw_aload0 d_md_set_0 ?_
  refine mw_iload1 d_md_set_1 ?_
  refine mw_cV1e lk_md_set_md_none d_md_set_2 (md_lt hn (by decide)) md_gF (Nat.le_of_ble_eq_true rfl) (ct_mdnone (d := d - 1) (by omega) hn h120 ha) (by omega) (Nat.le_of_ble_eq_true rfl) (Nat.zero_le _) (Nat.zero_le _) ?_
  refine mw_if_ne (tgt := 16) d_md_set_5 (by decide) (fun hc => absurd bI_f0 hc) (fun hc => ?_)
  refine mw_aload0 d_md_set_8 ?_
  refine mw_iload2 d_md_set_9 ?_
  refine mw_cV1e lk_md_set_md_none d_md_set_10 (md_lt hn (by decide)) md_gF (Nat.le_of_ble_eq_true rfl) (ct_mdnone (d := d - 1) (μ := (nI 0, μ.2)) (by omega) hn h120 hb) (by omega) (Nat.le_of_ble_eq_true rfl) (Nat.zero_le _) (Nat.zero_le _) ?_
  refine mw_if_eq (tgt := 18) d_md_set_13 (by decide) (fun hc => ?_) (fun hc => absurd bI_f0 hc)
  refine mw_aload0 d_md_set_18 ?_
  refine gf_md_way d_md_set_19 hn rfl ?_
  refine mw_iload1 d_md_set_22 ?_
  refine md_wl (by omega) d_md_set_23 hn ?_
  refine mw_iload2 d_md_set_24 ?_
  refine md_bl (by omega) (by omega) d_md_set_25 hn ?_
  rw [hway a b ha hb]
  refine mw_istore4 d_md_set_26 rfl (Nat.le_of_ble_eq_true rfl) ?_
  refine mw_aload0 d_md_set_28 ?_
  refine gf_md_way d_md_set_29 hn rfl ?_
  refine mw_iload1 d_md_set_32 ?_
  refine md_wl (by omega) d_md_set_33 hn ?_
  refine mw_iload2 d_md_set_34 ?_
  refine mw_iload3 d_md_set_35 ?_
  refine md_bs (by omega) (by omega) d_md_set_36 hn ?_
  refine mw_iload4 d_md_set_37 ?_
  refine mw_iret d_md_set_39 rfl (nbI _) ⟨rfl, _, rfl, rfl, rfl, ?_, h1, h120, fun p q hp hq => ?_⟩
  · intro p q h
    unfold gw_set at h
    split at h
    · rename_i z; rw [z.1, z.2]; exact ⟨ha, hb⟩
    · exact hw p q h
  · show va_up μ.2.2.1 a (va_up (μ.2.2.1 a) b x) p q = gw_set w a b x p q
    unfold gw_set
    by_cases e1 : p = a
    · subst e1
      rw [mw_up_s]
      by_cases e2 : q = b
      · subst e2; rw [mw_up_s, if_pos ⟨rfl, rfl⟩]
      · rw [mw_up_n _ _ e2, if_neg (fun z => e2 z.2)]; exact hway p q hp hq
    · rw [mw_up_n _ _ e1, if_neg (fun z => e1 z.1)]; exact hway p q hp hq
theorem ct_mdway {a b : Nat} (hd : 3 ≤ d) (hn : 497 ≤ n) (hI : md_I μ w) (ha : a < μ.2.1) (hb : b < μ.2.1) : mw_Ct E m_md_way d 0 0 [.ref (mw_b E + 250), .int (nI a), .int (nI b)] (md_h E μ n r) (md_QS E μ n r (gw_set w a b true) (bI (w a b))) mw_no := by
  show mw_W E m_md_way d _ _ 0 0 0 [some (.ref (mw_b E + 250)), some (.int (nI a)), some (.int (nI b))] [] (md_h E μ n r)
  refine mw_aload0 d_md_way_0 ?_
  refine mw_iload1 d_md_way_1 ?_
  refine mw_iload2 d_md_way_2 ?_
  refine mw_iconst (v := nI 1) d_md_way_3 (by decide) ?_
  refine mw_cV3 (d' := d - 1) lk_md_way_md_set d_md_way_4 (md_lt hn (by decide)) md_gF (Nat.le_of_ble_eq_true rfl) (ct_mdset (x := true) (by omega) hn hI ha hb) (by omega) (Nat.le_of_ble_eq_true rfl) (Nat.zero_le _) (Nat.zero_le _) ?_ (fun _ _ q => q.elim)
  rintro v h' ⟨rfl, μ', rfl, hk⟩
  show mw_W E m_md_way d _ _ _ _ _ _ (Value.int _ :: []) _
  exact mw_iret d_md_way_7 rfl (nbI _) ⟨rfl, μ', rfl, hk⟩
theorem ct_mddrop {a b : Nat} (hd : 3 ≤ d) (hn : 497 ≤ n) (hI : md_I μ w) (ha : a < μ.2.1) (hb : b < μ.2.1) : mw_Ct E m_md_drop d 0 0 [.ref (mw_b E + 250), .int (nI a), .int (nI b)] (md_h E μ n r) (md_QS E μ n r (gw_set w a b false) (bI (w a b))) mw_no := by
  show mw_W E m_md_drop d _ _ 0 0 0 [some (.ref (mw_b E + 250)), some (.int (nI a)), some (.int (nI b))] [] (md_h E μ n r)
  refine mw_aload0 d_md_drop_0 ?_
  refine mw_iload1 d_md_drop_1 ?_
  refine mw_iload2 d_md_drop_2 ?_
  refine mw_iconst (v := nI 0) d_md_drop_3 (by decide) ?_
  refine mw_cV3 (d' := d - 1) lk_md_drop_md_set d_md_drop_4 (md_lt hn (by decide)) md_gF (Nat.le_of_ble_eq_true rfl) (ct_mdset (x := false) (by omega) hn hI ha hb) (by omega) (Nat.le_of_ble_eq_true rfl) (Nat.zero_le _) (Nat.zero_le _) ?_ (fun _ _ q => q.elim)
  rintro v h' ⟨rfl, μ', rfl, hk⟩
  show mw_W E m_md_drop d _ _ _ _ _ _ (Value.int _ :: []) _
  exact mw_iret d_md_drop_7 rfl (nbI _) ⟨rfl, μ', rfl, hk⟩
theorem ct_mdreaches {a b : Nat} (hd : 2 ≤ d) (hn : 497 ≤ n) (hI : md_I μ w) (ha : a < μ.2.1) (hb : b < μ.2.1) : mw_Ct E m_md_reaches d 0 0 [.ref (mw_b E + 250), .int (nI a), .int (nI b)] (md_h E μ n r) (md_Q E μ n r (nI 0) (bI (gp_T μ.2.1 w a b))) mw_no := by
  show mw_W E m_md_reaches d _ _ 0 0 0 [some (.ref (mw_b E + 250)), some (.int (nI a)), some (.int (nI b))] [] (md_h E μ n r)
  have h120 := hI.2.2.1
  have hI0 : md_I (nI 0, μ.2) w := hI.keep (md_keep_t μ _)
  refine mw_aload0 d_md_reaches_0 ?_
  refine mw_iload1 d_md_reaches_1 ?_
  refine mw_cV1e lk_md_reaches_md_none d_md_reaches_2 (md_lt hn (by decide)) md_gF (Nat.le_of_ble_eq_true rfl) (ct_mdnone (d := d - 1) (by omega) hn h120 ha) (by omega) (Nat.le_of_ble_eq_true rfl) (Nat.zero_le _) (Nat.zero_le _) ?_
  refine mw_if_ne (tgt := 16) d_md_reaches_5 (by decide) (fun hc => absurd bI_f0 hc) (fun hc => ?_)
  refine mw_aload0 d_md_reaches_8 ?_
  refine mw_iload2 d_md_reaches_9 ?_
  refine mw_cV1e lk_md_reaches_md_none d_md_reaches_10 (md_lt hn (by decide)) md_gF (Nat.le_of_ble_eq_true rfl) (ct_mdnone (d := d - 1) (μ := (nI 0, μ.2)) (by omega) hn h120 hb) (by omega) (Nat.le_of_ble_eq_true rfl) (Nat.zero_le _) (Nat.zero_le _) ?_
  refine mw_if_eq (tgt := 18) d_md_reaches_13 (by decide) (fun hc => ?_) (fun hc => absurd bI_f0 hc)
  refine mw_aload0 d_md_reaches_18 ?_
  refine mw_iload1 d_md_reaches_19 ?_
  refine mw_iconst (v := (-1)) d_md_reaches_20 (by decide) ?_
  refine mw_cV2 (d' := d - 1) lk_md_reaches_md_from d_md_reaches_21 (md_lt hn (by decide)) md_gF (Nat.le_of_ble_eq_true rfl) (ct_from (w := w) (μ := (nI 0, μ.2)) (os := none) hn hI0 ha gl_ok0) (by omega) (Nat.le_of_ble_eq_true rfl) (Nat.zero_le _) (Nat.zero_le _) ?_ (fun _ _ q => q.elim)
  rintro v h' ⟨rfl, R, rfl, hR⟩
  show mw_W E m_md_reaches d _ _ _ _ _ _ [] _
  refine mw_aload0 d_md_reaches_24 ?_
  refine gf_md_away d_md_reaches_25 hn rfl ?_
  refine mw_iload2 d_md_reaches_28 ?_
  refine md_il (j := 0) (by omega) (by omega) d_md_reaches_29 hn ?_
  rw [md_R0g, hR b hb]
  have hg : bf_d μ.2.1 w (gl_s none) a b < 0 ↔ gp_T μ.2.1 w a b = false := mf_ge hI.1 ha (by omega)
  refine mw_if_lt (tgt := 37) d_md_reaches_30 (by decide) (fun hc => ?_) (fun hc => ?_)
  · refine mw_iconst (v := nI 0) d_md_reaches_37 (by decide) ?_
    exact mw_iret d_md_reaches_38 rfl nb0 ⟨by rw [hg.mp hc]; rfl, _, rfl, (md_keep_t μ _).trans (md_keep_R _ R), rfl⟩
  · refine mw_iconst (v := nI 1) d_md_reaches_33 (by decide) ?_
    refine mw_goto (tgt := 38) d_md_reaches_34 (by decide) ?_
    have e : gp_T μ.2.1 w a b = true := by
      cases e : gp_T μ.2.1 w a b with
      | true => rfl
      | false => exact absurd (hg.mpr e) hc
    exact mw_iret d_md_reaches_38 rfl nb1 ⟨by rw [e]; rfl, _, rfl, (md_keep_t μ _).trans (md_keep_R _ R), rfl⟩
theorem ct_mdfar {a b : Nat} (hd : 2 ≤ d) (hn : 497 ≤ n) (hI : md_I μ w) (ha : a < μ.2.1) (hb : b < μ.2.1) : mw_Ct E m_md_far d 0 0 [.ref (mw_b E + 250), .int (nI a), .int (nI b)] (md_h E μ n r) (md_Q E μ n r (nI 0) (bf_d μ.2.1 w gp_no a b)) mw_no := by
  show mw_W E m_md_far d _ _ 0 0 0 [some (.ref (mw_b E + 250)), some (.int (nI a)), some (.int (nI b))] [] (md_h E μ n r)
  have h120 := hI.2.2.1
  have hI0 : md_I (nI 0, μ.2) w := hI.keep (md_keep_t μ _)
  refine mw_aload0 d_md_far_0 ?_
  refine mw_iload1 d_md_far_1 ?_
  refine mw_cV1e lk_md_far_md_none d_md_far_2 (md_lt hn (by decide)) md_gF (Nat.le_of_ble_eq_true rfl) (ct_mdnone (d := d - 1) (by omega) hn h120 ha) (by omega) (Nat.le_of_ble_eq_true rfl) (Nat.zero_le _) (Nat.zero_le _) ?_
  refine mw_if_ne (tgt := 16) d_md_far_5 (by decide) (fun hc => absurd bI_f0 hc) (fun hc => ?_)
  refine mw_aload0 d_md_far_8 ?_
  refine mw_iload2 d_md_far_9 ?_
  refine mw_cV1e lk_md_far_md_none d_md_far_10 (md_lt hn (by decide)) md_gF (Nat.le_of_ble_eq_true rfl) (ct_mdnone (d := d - 1) (μ := (nI 0, μ.2)) (by omega) hn h120 hb) (by omega) (Nat.le_of_ble_eq_true rfl) (Nat.zero_le _) (Nat.zero_le _) ?_
  refine mw_if_eq (tgt := 18) d_md_far_13 (by decide) (fun hc => ?_) (fun hc => absurd bI_f0 hc)
  refine mw_aload0 d_md_far_18 ?_
  refine mw_iload1 d_md_far_19 ?_
  refine mw_iconst (v := (-1)) d_md_far_20 (by decide) ?_
  refine mw_cV2 (d' := d - 1) lk_md_far_md_from d_md_far_21 (md_lt hn (by decide)) md_gF (Nat.le_of_ble_eq_true rfl) (ct_from (w := w) (μ := (nI 0, μ.2)) (os := none) hn hI0 ha gl_ok0) (by omega) (Nat.le_of_ble_eq_true rfl) (Nat.zero_le _) (Nat.zero_le _) ?_ (fun _ _ q => q.elim)
  rintro v h' ⟨rfl, R, rfl, hR⟩
  show mw_W E m_md_far d _ _ _ _ _ _ [] _
  refine mw_aload0 d_md_far_24 ?_
  refine gf_md_away d_md_far_25 hn rfl ?_
  refine mw_iload2 d_md_far_28 ?_
  refine md_il (j := 0) (by omega) (by omega) d_md_far_29 hn ?_
  rw [md_R0g, hR b hb]
  exact mw_iret d_md_far_30 rfl rfl ⟨rfl, _, rfl, (md_keep_t μ _).trans (md_keep_R _ R), rfl⟩
theorem ct_mdplacesX {x : Int32} (hd : 1 ≤ d) (hn : 497 ≤ n) (hx : ¬ ∃ m, 1 ≤ m ∧ m ≤ 120 ∧ x = nI m) : mw_Ct E m_md_places d 0 0 [.ref (mw_b E + 250), .int x] (md_h E μ n r) (md_Q E μ n r (nI 1) (nI 0)) mw_no := by
  show mw_W E m_md_places d _ _ 0 0 0 [some (.ref (mw_b E + 250)), some (.int x)] [] (md_h E μ n r)
  have k18 : mw_W E m_md_places d (md_Q E μ n r (nI 1) (nI 0)) mw_no 0 0 18 [some (.ref (mw_b E + 250)), some (.int x)] [.int (nI 1), .ref (mw_b E + 250)] (md_h E (nI 0, μ.2) n r) := by
    refine mw_iconst (v := nI 1) d_md_places_18 (by decide) ?_
    refine mw_goto (tgt := 23) d_md_places_19 (by decide) ?_
    refine mw_cV2e lk_md_places_md_refuse d_md_places_23 (md_lt hn (by decide)) md_gF (Nat.le_of_ble_eq_true rfl) (ct_mdrefuse (d := d - 1) (x := true) hn) (by omega) (Nat.le_of_ble_eq_true rfl) (Nat.zero_le _) (Nat.zero_le _) ?_
    refine mw_if_eq (tgt := 31) d_md_places_26 (by decide) (fun hc => absurd hc bI_t0) (fun hc => ?_)
    refine mw_iconst (v := nI 0) d_md_places_29 (by decide) ?_
    exact mw_iret d_md_places_30 rfl rfl ⟨rfl, _, rfl, md_keep_t μ _, rfl⟩
  refine mw_aload0 d_md_places_0 ?_
  refine mw_iconst (v := nI 0) d_md_places_1 (by decide) ?_
  refine pf_md_thrown d_md_places_2 hn rfl ?_
  refine mw_aload0 d_md_places_5 ?_
  refine mw_iconst (v := nI 1) d_md_places_6 (by decide) ?_
  refine mw_iload1 d_md_places_7 ?_
  refine mw_iconst (v := nI 1) d_md_places_8 (by decide) ?_
  refine mw_icmp_lt (tgt := 18) d_md_places_9 (by decide) (fun hc => k18) (fun hc => ?_)
  refine mw_iload1 d_md_places_12 ?_
  refine mw_bipush (v := nI 120) d_md_places_13 (by decide) ?_
  refine mw_icmp_le (tgt := 22) d_md_places_15 (by decide) (fun hc2 => ?_) (fun hc2 => k18)
  exfalso
  rw [Int32.lt_iff_toInt_lt, nI_toInt (by decide)] at hc
  obtain ⟨j, hj, rfl⟩ := nI_of (x := x) (fun z => by
    rw [Int32.lt_iff_toInt_lt, Int32.toInt_zero] at z
    omega)
  rw [nI_toInt hj] at hc
  exact hx ⟨j, by omega, (nI_leI hj (by decide)).mp hc2, rfl⟩
def md_B0 (μ : md_K) (B : Nat → Nat → Bool) : md_K := (μ.1, μ.2.1, B, μ.2.2.2)
theorem ct_mdplaces {m : Nat} (hd : 1 ≤ d) (hn : 497 ≤ n) (h1 : 1 ≤ m) (h2 : m ≤ 120) : mw_Ct E m_md_places d 0 0 [.ref (mw_b E + 250), .int (nI m)] (md_h E μ n r) (fun v h' => v = some (.int (nI μ.2.1)) ∧ ∃ μ', h' = md_h E μ' n r ∧ μ'.2.1 = m ∧ μ'.1 = nI 0 ∧ md_I μ' (fun _ _ => false)) mw_no := by
  show mw_W E m_md_places d _ _ 0 0 0 [some (.ref (mw_b E + 250)), some (.int (nI m))] [] (md_h E μ n r)
  refine mw_lo [some (.ref (mw_b E + 250)), some (.int (nI m)), none, none, none] (by simp [mw_le]) ?_
  generalize hQ : (fun (v : Option Value) (h' : mw_H) => v = some (.int (nI μ.2.1)) ∧ ∃ μ', h' = md_h E μ' n r ∧ μ'.2.1 = m ∧ μ'.1 = nI 0 ∧ md_I μ' (fun _ _ => false)) = Q
  generalize hv : nI μ.2.1 = was at hQ
  have kb : ∀ a, a < 120 → (∀ B, (∀ p, p < a + 1 → ∀ q, q < 120 → B p q = false) → mw_W E m_md_places d Q mw_no 0 0 75 [some (.ref (mw_b E + 250)), some (.int (nI m)), some (.int was), some (.int (nI a)), none] [] (md_h E (nI 0, m, B, μ.2.2.2) n r)) → ∀ b, b ≤ 120 → ∀ B, (∀ p, p < a → ∀ q, q < 120 → B p q = false) → (∀ q, q < b → B a q = false) → mw_W E m_md_places d Q mw_no 0 0 52 [some (.ref (mw_b E + 250)), some (.int (nI m)), some (.int was), some (.int (nI a)), some (.int (nI b))] [] (md_h E (nI 0, m, B, μ.2.2.2) n r) := by
    intro a ha kout
    refine mw_down 120 (fun b hb ih B hB hBa => ?_)
    refine mw_iload4 d_md_places_52 ?_
    refine mw_bipush (v := nI 120) d_md_places_54 (by decide) ?_
    refine mw_icmp_ge (tgt := 75) d_md_places_56 (by decide) (fun hc => ?_) (fun hc => ?_)
    · have e := nI_geE hb (by decide) hc
      refine mw_lo [some (.ref (mw_b E + 250)), some (.int (nI m)), some (.int was), some (.int (nI a)), none] (by simp [mw_le]) ?_
      refine kout B (fun p hp q hq => ?_)
      by_cases z : p = a
      · rw [z]; exact hBa q (by omega)
      · exact hB p (by omega) q hq
    · have hlt := nI_geN hb (by decide) hc
      refine mw_aload0 d_md_places_59 ?_
      refine gf_md_way d_md_places_60 hn rfl ?_
      refine mw_iload3 d_md_places_63 ?_
      refine md_wl ha d_md_places_64 hn ?_
      refine mw_iload4 d_md_places_65 ?_
      refine mw_iconst (v := nI 0) d_md_places_67 (by decide) ?_
      refine md_bs (x := false) (by omega) hlt d_md_places_68 hn ?_
      refine mw_inc4 d_md_places_69 rfl (Nat.le_of_ble_eq_true rfl) ?_
      refine mw_goto (tgt := 52) d_md_places_72 (by decide) ?_
      refine ih hlt (va_up B a (va_up (B a) b false)) (fun p hp q hq => ?_) (fun q hq => ?_)
      · rw [mw_up_n _ _ (show p ≠ a by omega)]; exact hB p hp q hq
      · rw [mw_up_s]
        by_cases z : q = b
        · rw [z, mw_up_s]
        · rw [mw_up_n _ _ z]; exact hBa q (by omega)
  have ka : ∀ a, a ≤ 120 → ∀ B, (∀ p, p < a → ∀ q, q < 120 → B p q = false) → mw_W E m_md_places d Q mw_no 0 0 43 [some (.ref (mw_b E + 250)), some (.int (nI m)), some (.int was), some (.int (nI a)), none] [] (md_h E (nI 0, m, B, μ.2.2.2) n r) := by
    refine mw_down 120 (fun a ha ih B hB => ?_)
    refine mw_iload3 d_md_places_43 ?_
    refine mw_bipush (v := nI 120) d_md_places_44 (by decide) ?_
    refine mw_icmp_ge (tgt := 81) d_md_places_46 (by decide) (fun hc => ?_) (fun hc => ?_)
    · have e := nI_geE ha (by decide) hc
      refine mw_iload2 d_md_places_81 ?_
      subst hQ
      refine mw_iret d_md_places_82 rfl rfl ⟨rfl, _, rfl, rfl, rfl, fun p q z => Bool.noConfusion z, h1, h2, fun p q hp hq => hB p ?_ q ?_⟩
      · have : p < m := hp
        omega
      · have : q < m := hq
        omega
    · have hlt := nI_geN ha (by decide) hc
      refine mw_iconst (v := nI 0) d_md_places_49 (by decide) ?_
      refine mw_istore4 d_md_places_50 rfl (Nat.le_of_ble_eq_true rfl) ?_
      refine kb a hlt (fun B hB => ?_) 0 (Nat.zero_le _) B hB (fun q hq => by omega)
      refine mw_inc3 d_md_places_75 rfl (Nat.le_of_ble_eq_true rfl) ?_
      refine mw_goto (tgt := 43) d_md_places_78 (by decide) ?_
      exact ih hlt B hB
  refine mw_aload0 d_md_places_0 ?_
  refine mw_iconst (v := nI 0) d_md_places_1 (by decide) ?_
  refine pf_md_thrown d_md_places_2 hn rfl ?_
  refine mw_aload0 d_md_places_5 ?_
  refine mw_iconst (v := nI 1) d_md_places_6 (by decide) ?_
  refine mw_iload1 d_md_places_7 ?_
  refine mw_iconst (v := nI 1) d_md_places_8 (by decide) ?_
  refine mw_icmp_lt (tgt := 18) d_md_places_9 (by decide) (fun hc => absurd hc (nI_nlt (by omega) (by omega))) (fun hc => ?_)
  refine mw_iload1 d_md_places_12 ?_
  refine mw_bipush (v := nI 120) d_md_places_13 (by decide) ?_
  refine mw_icmp_le (tgt := 22) d_md_places_15 (by decide) (fun hc2 => ?_) (fun hc2 => absurd (nI_le h2 (by decide)) hc2)
  refine mw_iconst (v := nI 0) d_md_places_22 (by decide) ?_
  refine mw_cV2e lk_md_places_md_refuse d_md_places_23 (md_lt hn (by decide)) md_gF (Nat.le_of_ble_eq_true rfl) (ct_mdrefuse (d := d - 1) (x := false) hn) (by omega) (Nat.le_of_ble_eq_true rfl) (Nat.zero_le _) (Nat.zero_le _) ?_
  refine mw_if_eq (tgt := 31) d_md_places_26 (by decide) (fun hc => ?_) (fun hc => absurd bI_f0 hc)
  refine mw_aload0 d_md_places_31 ?_
  refine gf_md_n d_md_places_32 hn rfl ?_
  refine mw_topi hv ?_
  refine mw_istore2 d_md_places_35 rfl (Nat.le_of_ble_eq_true rfl) ?_
  refine mw_aload0 d_md_places_36 ?_
  refine mw_iload1 d_md_places_37 ?_
  refine pf_md_n d_md_places_38 hn rfl ?_
  refine mw_iconst (v := nI 0) d_md_places_41 (by decide) ?_
  refine mw_istore3 d_md_places_42 rfl (Nat.le_of_ble_eq_true rfl) ?_
  exact ka 0 (Nat.zero_le _) _ (fun p hp => by omega)
end MPub
