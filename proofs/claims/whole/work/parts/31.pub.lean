/-! OrderBench's public methods: refused places; way, drop, reaches, far, group, all. -/
theorem cg2 {α β γ : Type} (f : α → β → γ) {a a' : α} {b b' : β} (h1 : a = a') (h2 : b = b') : f a b = f a' b' := by subst h1; subst h2; rfl
section Pub
variable {E : mw_E} {d n : Nat} {κ : ob_K} {r : Nat → mw_O} {w : Nat → Nat → Bool}
def ob_in (N : Nat) (x : Int32) : Prop := ∃ p, p < N ∧ x = nI p
theorem ct_wayX {x y : Int32} (hd : 7 ≤ d) (hn : 250 ≤ n) (hN : κ.1 ≤ 120) (hx : ¬ (ob_in κ.1 x ∧ ob_in κ.1 y)) : mw_Ct E m_ob_way d 1 6 [.ref (mw_b E + 0), .int x, .int y] (ob_h E κ n r) ob_no (ob_X E κ n r 3) := by
  show mw_W E m_ob_way d _ _ 1 6 0 [some (.ref (mw_b E + 0)), some (.int x), some (.int y)] [] (ob_h E κ n r)
  refine mw_aload0 d_ob_way_0 ?_
  refine mw_iload1 d_ob_way_1 ?_
  by_cases hx : ob_in κ.1 x
  rotate_left
  · exact ob_mustX lk_ob_way_ob_mustBePlace d_ob_way_2 hn hN hx (ob_keep.refl κ) rfl hd (Nat.le_of_ble_eq_true rfl) (Nat.le_of_ble_eq_true rfl) (Nat.le_of_ble_eq_true rfl)
  obtain ⟨p0, hp0, rfl⟩ := hx
  refine ob_must lk_ob_way_ob_mustBePlace d_ob_way_2 hn hN hp0 (by omega) (Nat.le_of_ble_eq_true rfl) ?_
  refine mw_aload0 d_ob_way_5 ?_
  refine mw_iload2 d_ob_way_6 ?_
  exact ob_mustX lk_ob_way_ob_mustBePlace d_ob_way_7 hn hN (fun q => hx ⟨⟨p0, hp0, rfl⟩, q⟩) (ob_keep.refl κ) rfl hd (Nat.le_of_ble_eq_true rfl) (Nat.le_of_ble_eq_true rfl) (Nat.le_of_ble_eq_true rfl)
theorem ct_dropX {x y : Int32} (hd : 7 ≤ d) (hn : 250 ≤ n) (hN : κ.1 ≤ 120) (hx : ¬ (ob_in κ.1 x ∧ ob_in κ.1 y)) : mw_Ct E m_ob_drop d 1 6 [.ref (mw_b E + 0), .int x, .int y] (ob_h E κ n r) ob_no (ob_X E κ n r 3) := by
  show mw_W E m_ob_drop d _ _ 1 6 0 [some (.ref (mw_b E + 0)), some (.int x), some (.int y)] [] (ob_h E κ n r)
  refine mw_aload0 d_ob_drop_0 ?_
  refine mw_iload1 d_ob_drop_1 ?_
  by_cases hx : ob_in κ.1 x
  rotate_left
  · exact ob_mustX lk_ob_drop_ob_mustBePlace d_ob_drop_2 hn hN hx (ob_keep.refl κ) rfl hd (Nat.le_of_ble_eq_true rfl) (Nat.le_of_ble_eq_true rfl) (Nat.le_of_ble_eq_true rfl)
  obtain ⟨p0, hp0, rfl⟩ := hx
  refine ob_must lk_ob_drop_ob_mustBePlace d_ob_drop_2 hn hN hp0 (by omega) (Nat.le_of_ble_eq_true rfl) ?_
  refine mw_aload0 d_ob_drop_5 ?_
  refine mw_iload2 d_ob_drop_6 ?_
  exact ob_mustX lk_ob_drop_ob_mustBePlace d_ob_drop_7 hn hN (fun q => hx ⟨⟨p0, hp0, rfl⟩, q⟩) (ob_keep.refl κ) rfl hd (Nat.le_of_ble_eq_true rfl) (Nat.le_of_ble_eq_true rfl) (Nat.le_of_ble_eq_true rfl)
theorem ct_reachesX {x y : Int32} (hd : 7 ≤ d) (hn : 250 ≤ n) (hN : κ.1 ≤ 120) (hx : ¬ (ob_in κ.1 x ∧ ob_in κ.1 y)) : mw_Ct E m_ob_reaches d 1 6 [.ref (mw_b E + 0), .int x, .int y] (ob_h E κ n r) ob_no (ob_X E κ n r 3) := by
  show mw_W E m_ob_reaches d _ _ 1 6 0 [some (.ref (mw_b E + 0)), some (.int x), some (.int y)] [] (ob_h E κ n r)
  refine mw_aload0 d_ob_reaches_0 ?_
  refine mw_iload1 d_ob_reaches_1 ?_
  by_cases hx : ob_in κ.1 x
  rotate_left
  · exact ob_mustX lk_ob_reaches_ob_mustBePlace d_ob_reaches_2 hn hN hx (ob_keep.refl κ) rfl hd (Nat.le_of_ble_eq_true rfl) (Nat.le_of_ble_eq_true rfl) (Nat.le_of_ble_eq_true rfl)
  obtain ⟨p0, hp0, rfl⟩ := hx
  refine ob_must lk_ob_reaches_ob_mustBePlace d_ob_reaches_2 hn hN hp0 (by omega) (Nat.le_of_ble_eq_true rfl) ?_
  refine mw_aload0 d_ob_reaches_5 ?_
  refine mw_iload2 d_ob_reaches_6 ?_
  exact ob_mustX lk_ob_reaches_ob_mustBePlace d_ob_reaches_7 hn hN (fun q => hx ⟨⟨p0, hp0, rfl⟩, q⟩) (ob_keep.refl κ) rfl hd (Nat.le_of_ble_eq_true rfl) (Nat.le_of_ble_eq_true rfl) (Nat.le_of_ble_eq_true rfl)
theorem ct_farX {x y : Int32} (hd : 7 ≤ d) (hn : 250 ≤ n) (hN : κ.1 ≤ 120) (hx : ¬ (ob_in κ.1 x ∧ ob_in κ.1 y)) : mw_Ct E m_ob_far d 1 6 [.ref (mw_b E + 0), .int x, .int y] (ob_h E κ n r) ob_no (ob_X E κ n r 3) := by
  show mw_W E m_ob_far d _ _ 1 6 0 [some (.ref (mw_b E + 0)), some (.int x), some (.int y)] [] (ob_h E κ n r)
  refine mw_aload0 d_ob_far_0 ?_
  refine mw_iload1 d_ob_far_1 ?_
  by_cases hx : ob_in κ.1 x
  rotate_left
  · exact ob_mustX lk_ob_far_ob_mustBePlace d_ob_far_2 hn hN hx (ob_keep.refl κ) rfl hd (Nat.le_of_ble_eq_true rfl) (Nat.le_of_ble_eq_true rfl) (Nat.le_of_ble_eq_true rfl)
  obtain ⟨p0, hp0, rfl⟩ := hx
  refine ob_must lk_ob_far_ob_mustBePlace d_ob_far_2 hn hN hp0 (by omega) (Nat.le_of_ble_eq_true rfl) ?_
  refine mw_aload0 d_ob_far_5 ?_
  refine mw_iload2 d_ob_far_6 ?_
  exact ob_mustX lk_ob_far_ob_mustBePlace d_ob_far_7 hn hN (fun q => hx ⟨⟨p0, hp0, rfl⟩, q⟩) (ob_keep.refl κ) rfl hd (Nat.le_of_ble_eq_true rfl) (Nat.le_of_ble_eq_true rfl) (Nat.le_of_ble_eq_true rfl)
theorem ct_pathsX {x y : Int32} (hd : 7 ≤ d) (hn : 250 ≤ n) (hN : κ.1 ≤ 120) (hx : ¬ (ob_in κ.1 x ∧ ob_in κ.1 y)) : mw_Ct E m_ob_paths d 1 6 [.ref (mw_b E + 0), .int x, .int y] (ob_h E κ n r) ob_no (ob_X E κ n r 3) := by
  show mw_W E m_ob_paths d _ _ 1 6 0 [some (.ref (mw_b E + 0)), some (.int x), some (.int y)] [] (ob_h E κ n r)
  refine mw_aload0 d_ob_paths_0 ?_
  refine mw_iload1 d_ob_paths_1 ?_
  by_cases hx : ob_in κ.1 x
  rotate_left
  · exact ob_mustX lk_ob_paths_ob_mustBePlace d_ob_paths_2 hn hN hx (ob_keep.refl κ) rfl hd (Nat.le_of_ble_eq_true rfl) (Nat.le_of_ble_eq_true rfl) (Nat.le_of_ble_eq_true rfl)
  obtain ⟨p0, hp0, rfl⟩ := hx
  refine ob_must lk_ob_paths_ob_mustBePlace d_ob_paths_2 hn hN hp0 (by omega) (Nat.le_of_ble_eq_true rfl) ?_
  refine mw_aload0 d_ob_paths_5 ?_
  refine mw_iload2 d_ob_paths_6 ?_
  exact ob_mustX lk_ob_paths_ob_mustBePlace d_ob_paths_7 hn hN (fun q => hx ⟨⟨p0, hp0, rfl⟩, q⟩) (ob_keep.refl κ) rfl hd (Nat.le_of_ble_eq_true rfl) (Nat.le_of_ble_eq_true rfl) (Nat.le_of_ble_eq_true rfl)
theorem ct_gateX {x y : Int32} (hd : 7 ≤ d) (hn : 250 ≤ n) (hN : κ.1 ≤ 120) (hx : ¬ (ob_in κ.1 x ∧ ob_in κ.1 y)) : mw_Ct E m_ob_gate d 1 6 [.ref (mw_b E + 0), .int x, .int y] (ob_h E κ n r) ob_no (ob_X E κ n r 3) := by
  show mw_W E m_ob_gate d _ _ 1 6 0 [some (.ref (mw_b E + 0)), some (.int x), some (.int y)] [] (ob_h E κ n r)
  refine mw_aload0 d_ob_gate_0 ?_
  refine mw_iload1 d_ob_gate_1 ?_
  by_cases hx : ob_in κ.1 x
  rotate_left
  · exact ob_mustX lk_ob_gate_ob_mustBePlace d_ob_gate_2 hn hN hx (ob_keep.refl κ) rfl hd (Nat.le_of_ble_eq_true rfl) (Nat.le_of_ble_eq_true rfl) (Nat.le_of_ble_eq_true rfl)
  obtain ⟨p0, hp0, rfl⟩ := hx
  refine ob_must lk_ob_gate_ob_mustBePlace d_ob_gate_2 hn hN hp0 (by omega) (Nat.le_of_ble_eq_true rfl) ?_
  refine mw_aload0 d_ob_gate_5 ?_
  refine mw_iload2 d_ob_gate_6 ?_
  exact ob_mustX lk_ob_gate_ob_mustBePlace d_ob_gate_7 hn hN (fun q => hx ⟨⟨p0, hp0, rfl⟩, q⟩) (ob_keep.refl κ) rfl hd (Nat.le_of_ble_eq_true rfl) (Nat.le_of_ble_eq_true rfl) (Nat.le_of_ble_eq_true rfl)
theorem ct_groupX {x : Int32} (hd : 7 ≤ d) (hn : 250 ≤ n) (hN : κ.1 ≤ 120) (hx : ¬ (ob_in κ.1 x)) : mw_Ct E m_ob_group d 1 6 [.ref (mw_b E + 0), .int x] (ob_h E κ n r) ob_no (ob_X E κ n r 3) := by
  show mw_W E m_ob_group d _ _ 1 6 0 [some (.ref (mw_b E + 0)), some (.int x)] [] (ob_h E κ n r)
  refine mw_aload0 d_ob_group_0 ?_
  refine mw_iload1 d_ob_group_1 ?_
  exact ob_mustX lk_ob_group_ob_mustBePlace d_ob_group_2 hn hN (fun q => hx q) (ob_keep.refl κ) rfl hd (Nat.le_of_ble_eq_true rfl) (Nat.le_of_ble_eq_true rfl) (Nat.le_of_ble_eq_true rfl)
theorem ct_orderX {x : Int32} (hd : 7 ≤ d) (hn : 250 ≤ n) (hN : κ.1 ≤ 120) (hx : ¬ (ob_in κ.1 x)) : mw_Ct E m_ob_order d 1 6 [.ref (mw_b E + 0), .int x] (ob_h E κ n r) ob_no (ob_X E κ n r 3) := by
  show mw_W E m_ob_order d _ _ 1 6 0 [some (.ref (mw_b E + 0)), some (.int x)] [] (ob_h E κ n r)
  refine mw_aload0 d_ob_order_0 ?_
  refine mw_iload1 d_ob_order_1 ?_
  exact ob_mustX lk_ob_order_ob_mustBePlace d_ob_order_2 hn hN (fun q => hx q) (ob_keep.refl κ) rfl hd (Nat.le_of_ble_eq_true rfl) (Nat.le_of_ble_eq_true rfl) (Nat.le_of_ble_eq_true rfl)
theorem ct_levelX {x : Int32} (hd : 7 ≤ d) (hn : 250 ≤ n) (hN : κ.1 ≤ 120) (hx : ¬ (ob_in κ.1 x)) : mw_Ct E m_ob_level d 1 6 [.ref (mw_b E + 0), .int x] (ob_h E κ n r) ob_no (ob_X E κ n r 3) := by
  show mw_W E m_ob_level d _ _ 1 6 0 [some (.ref (mw_b E + 0)), some (.int x)] [] (ob_h E κ n r)
  refine mw_aload0 d_ob_level_0 ?_
  refine mw_iload1 d_ob_level_1 ?_
  exact ob_mustX lk_ob_level_ob_mustBePlace d_ob_level_2 hn hN (fun q => hx q) (ob_keep.refl κ) rfl hd (Nat.le_of_ble_eq_true rfl) (Nat.le_of_ble_eq_true rfl) (Nat.le_of_ble_eq_true rfl)
theorem ct_allX {x y z : Int32} (hd : 7 ≤ d) (hn : 250 ≤ n) (hN : κ.1 ≤ 120) (hx : ¬ (ob_in κ.1 x ∧ ob_in κ.1 y ∧ ob_in κ.1 z)) : mw_Ct E m_ob_all d 1 6 [.ref (mw_b E + 0), .int x, .int y, .int z] (ob_h E κ n r) ob_no (ob_X E κ n r 3) := by
  show mw_W E m_ob_all d _ _ 1 6 0 [some (.ref (mw_b E + 0)), some (.int x), some (.int y), some (.int z)] [] (ob_h E κ n r)
  refine mw_aload0 d_ob_all_0 ?_
  refine mw_iload1 d_ob_all_1 ?_
  by_cases hx : ob_in κ.1 x
  rotate_left
  · exact ob_mustX lk_ob_all_ob_mustBePlace d_ob_all_2 hn hN hx (ob_keep.refl κ) rfl hd (Nat.le_of_ble_eq_true rfl) (Nat.le_of_ble_eq_true rfl) (Nat.le_of_ble_eq_true rfl)
  obtain ⟨p0, hp0, rfl⟩ := hx
  refine ob_must lk_ob_all_ob_mustBePlace d_ob_all_2 hn hN hp0 (by omega) (Nat.le_of_ble_eq_true rfl) ?_
  refine mw_aload0 d_ob_all_5 ?_
  refine mw_iload2 d_ob_all_6 ?_
  by_cases hy : ob_in κ.1 y
  rotate_left
  · exact ob_mustX lk_ob_all_ob_mustBePlace d_ob_all_7 hn hN hy (ob_keep.refl κ) rfl hd (Nat.le_of_ble_eq_true rfl) (Nat.le_of_ble_eq_true rfl) (Nat.le_of_ble_eq_true rfl)
  obtain ⟨p1, hp1, rfl⟩ := hy
  refine ob_must lk_ob_all_ob_mustBePlace d_ob_all_7 hn hN hp1 (by omega) (Nat.le_of_ble_eq_true rfl) ?_
  refine mw_aload0 d_ob_all_10 ?_
  refine mw_iload3 d_ob_all_11 ?_
  exact ob_mustX lk_ob_all_ob_mustBePlace d_ob_all_12 hn hN (fun q => hx ⟨⟨p0, hp0, rfl⟩, ⟨p1, hp1, rfl⟩, q⟩) (ob_keep.refl κ) rfl hd (Nat.le_of_ble_eq_true rfl) (Nat.le_of_ble_eq_true rfl) (Nat.le_of_ble_eq_true rfl)
def gw_set (w : Nat → Nat → Bool) (a b : Nat) (v : Bool) : Nat → Nat → Bool := fun p q => if p = a ∧ q = b then v else w p q
theorem gw_ok {N a b : Nat} {v : Bool} (hw : bf_ok N w) (ha : a < N) (hb : b < N) : bf_ok N (gw_set w a b v) := by
  intro p q h
  unfold gw_set at h
  split at h
  · rename_i e; omega
  · exact hw p q h
/-- both sets written -/
def gw_k (κ : ob_K) (w : Nat → Nat → Bool) (a b : Nat) : ob_K := (κ.1, va_up (va_up κ.2.1 (2 * a + 0) (w a)) (2 * b + 1) (fun i => w i b), κ.2.2)
theorem gw_I {a b : Nat} {v : Bool} (hI : ob_I κ w) (ha : a < κ.1) (hb : b < κ.1) : ob_I (gw_k κ (gw_set w a b v) a b) (gw_set w a b v) := by
  obtain ⟨h1, h2, h3, h4, h5⟩ := hI
  refine ⟨gw_ok h1 ha hb, h2, h3, fun p hp i => ?_, fun p hp i => ?_⟩
  · show va_up (va_up κ.2.1 (2 * a + 0) (gw_set w a b v a)) (2 * b + 1) (fun i => gw_set w a b v i b) (2 * p + 0) i = gw_set w a b v p i
    rw [mw_up_n _ _ (show 2 * p + 0 ≠ 2 * b + 1 by omega)]
    by_cases e : p = a
    · subst e; rw [mw_up_s]
    · rw [mw_up_n _ _ (show 2 * p + 0 ≠ 2 * a + 0 by omega), h4 p hp i]
      unfold gw_set
      rw [if_neg (fun z => e z.1)]
  · show va_up (va_up κ.2.1 (2 * a + 0) (gw_set w a b v a)) (2 * b + 1) (fun i => gw_set w a b v i b) (2 * p + 1) i = gw_set w a b v i p
    by_cases e : p = b
    · subst e; rw [mw_up_s]
    · rw [mw_up_n _ _ (show 2 * p + 1 ≠ 2 * b + 1 by omega), mw_up_n _ _ (show 2 * p + 1 ≠ 2 * a + 0 by omega), h5 p hp i]
      unfold gw_set
      rw [if_neg (fun z => e z.2)]
      rfl
def gw_Q (E : mw_E) (κ : ob_K) (n : Nat) (r : Nat → mw_O) (w' : Nat → Nat → Bool) (v0 : Int32) : Option Value → mw_H → Prop := fun v h' => v = some (.int v0) ∧ ∃ κ', h' = ob_h E κ' n r ∧ κ'.1 = κ.1 ∧ ob_I κ' w'
theorem ct_way {a b : Nat} (hd : 2 ≤ d) (hn : 250 ≤ n) (hI : ob_I κ w) (ha : a < κ.1) (hb : b < κ.1) : mw_Ct E m_ob_way d 0 0 [.ref (mw_b E + 0), .int (nI a), .int (nI b)] (ob_h E κ n r) (gw_Q E κ n r (gw_set w a b true) (bI (w a b))) mw_no := by
  show mw_W E m_ob_way d _ _ 0 0 0 [some (.ref (mw_b E + 0)), some (.int (nI a)), some (.int (nI b))] [] (ob_h E κ n r)
  refine mw_lo [some (.ref (mw_b E + 0)), some (.int (nI a)), some (.int (nI b)), none] (by simp [mw_le]) ?_
  obtain ⟨h1, h2, h3, h4, h5⟩ := id hI
  refine mw_aload0 d_ob_way_0 ?_
  refine mw_iload1 d_ob_way_1 ?_
  refine ob_must lk_ob_way_ob_mustBePlace d_ob_way_2 hn h3 ha (by omega) (Nat.le_of_ble_eq_true rfl) ?_
  refine mw_aload0 d_ob_way_5 ?_
  refine mw_iload2 d_ob_way_6 ?_
  refine ob_must lk_ob_way_ob_mustBePlace d_ob_way_7 hn h3 hb (by omega) (Nat.le_of_ble_eq_true rfl) ?_
  refine mw_aload0 d_ob_way_10 ?_
  refine gf_ob_out d_ob_way_11 hn rfl ?_
  refine mw_iload1 d_ob_way_14 ?_
  refine ob_al (o := 0) (by omega) (by omega) d_ob_way_15 hn ?_
  refine mw_iload2 d_ob_way_16 ?_
  refine mw_cV1e lk_ob_way_ps_has d_ob_way_17 (ob_lt hn (by omega)) (ob_gS (by omega)) (Nat.le_of_ble_eq_true rfl) (oc_has (d := d - 1) (by omega) hn (by omega) (nI b)) (by omega) (Nat.le_of_ble_eq_true rfl) (Nat.zero_le _) (Nat.zero_le _) ?_
  refine mw_topi (show bI (bt_m (κ.2.1 (2 * a + 0)) (nI b)) = bI (w a b) by rw [bt_m_at (by omega), h4 a ha b]) ?_
  refine mw_istore3 d_ob_way_20 rfl (Nat.le_of_ble_eq_true rfl) ?_
  refine mw_aload0 d_ob_way_21 ?_
  refine gf_ob_out d_ob_way_22 hn rfl ?_
  refine mw_iload1 d_ob_way_25 ?_
  refine ob_al (o := 0) (by omega) (by omega) d_ob_way_26 hn ?_
  refine mw_iload2 d_ob_way_27 ?_
  refine mw_cV1v lk_ob_way_ps_add d_ob_way_28 (ob_lt hn (by omega)) (ob_gS (by omega)) (Nat.le_of_ble_eq_true rfl) (oc_add (d := d - 1) (by omega) hn (by omega) (nI b)) (by omega) (Nat.le_of_ble_eq_true rfl) (Nat.zero_le _) (Nat.zero_le _) ?_
  refine mw_aload0 d_ob_way_31 ?_
  refine gf_ob_into d_ob_way_32 hn rfl ?_
  refine mw_iload2 d_ob_way_35 ?_
  refine ob_al (o := 1) (by omega) (by omega) d_ob_way_36 hn ?_
  refine mw_iload1 d_ob_way_37 ?_
  refine mw_cV1v lk_ob_way_ps_add d_ob_way_38 (ob_lt hn (by omega)) (ob_gS (by omega)) (Nat.le_of_ble_eq_true rfl) (oc_add (d := d - 1) (by omega) hn (by omega) (nI a)) (by omega) (Nat.le_of_ble_eq_true rfl) (Nat.zero_le _) (Nat.zero_le _) ?_
  refine mw_iload3 d_ob_way_41 ?_
  refine mw_iret d_ob_way_42 rfl (nbI _) ⟨rfl, gw_k κ (gw_set w a b true) a b, ?_, rfl, gw_I hI ha hb⟩
  refine ob_ext (κ := κ) (fun j hj i hi => ?_)
  show va_up (va_up κ.2.1 (2 * a + 0) _) (2 * b + 1) _ j i = va_up (va_up κ.2.1 (2 * a + 0) (gw_set w a b true a)) (2 * b + 1) (fun i => gw_set w a b true i b) j i
  by_cases e1 : j = 2 * b + 1
  · subst e1
    rw [mw_up_s, mw_up_s]
    have e2 : va_up κ.2.1 (2 * a + 0) (fun i => κ.2.1 (2 * a + 0) i || bt_one (nI b) i) (2 * b + 1) i = w i b := by
      rw [mw_up_n _ _ (show 2 * b + 1 ≠ 2 * a + 0 by omega), h5 b hb i]
      rfl
    refine Eq.trans (cg2 (fun u v => u || v) e2 (bt_one_nI (show a < 2 ^ 31 by omega) (show i < 2 ^ 31 by omega))) ?_
    unfold gw_set
    by_cases e : i = a
    · subst e; simp
    · simp [e]
  · rw [mw_up_n _ _ e1, mw_up_n _ _ e1]
    by_cases e3 : j = 2 * a + 0
    · subst e3
      rw [mw_up_s, mw_up_s]
      show (κ.2.1 (2 * a + 0) i || bt_one (nI b) i) = _
      rw [h4 a ha i, bt_one_nI (by omega) (by omega)]
      unfold gw_set
      by_cases e : i = b
      · subst e; simp
      · simp [e]
    · rw [mw_up_n _ _ e3, mw_up_n _ _ e3]
theorem ct_drop {a b : Nat} (hd : 2 ≤ d) (hn : 250 ≤ n) (hI : ob_I κ w) (ha : a < κ.1) (hb : b < κ.1) : mw_Ct E m_ob_drop d 0 0 [.ref (mw_b E + 0), .int (nI a), .int (nI b)] (ob_h E κ n r) (gw_Q E κ n r (gw_set w a b false) (bI (w a b))) mw_no := by
  show mw_W E m_ob_drop d _ _ 0 0 0 [some (.ref (mw_b E + 0)), some (.int (nI a)), some (.int (nI b))] [] (ob_h E κ n r)
  refine mw_lo [some (.ref (mw_b E + 0)), some (.int (nI a)), some (.int (nI b)), none] (by simp [mw_le]) ?_
  obtain ⟨h1, h2, h3, h4, h5⟩ := id hI
  refine mw_aload0 d_ob_drop_0 ?_
  refine mw_iload1 d_ob_drop_1 ?_
  refine ob_must lk_ob_drop_ob_mustBePlace d_ob_drop_2 hn h3 ha (by omega) (Nat.le_of_ble_eq_true rfl) ?_
  refine mw_aload0 d_ob_drop_5 ?_
  refine mw_iload2 d_ob_drop_6 ?_
  refine ob_must lk_ob_drop_ob_mustBePlace d_ob_drop_7 hn h3 hb (by omega) (Nat.le_of_ble_eq_true rfl) ?_
  refine mw_aload0 d_ob_drop_10 ?_
  refine gf_ob_out d_ob_drop_11 hn rfl ?_
  refine mw_iload1 d_ob_drop_14 ?_
  refine ob_al (o := 0) (by omega) (by omega) d_ob_drop_15 hn ?_
  refine mw_iload2 d_ob_drop_16 ?_
  refine mw_cV1e lk_ob_drop_ps_has d_ob_drop_17 (ob_lt hn (by omega)) (ob_gS (by omega)) (Nat.le_of_ble_eq_true rfl) (oc_has (d := d - 1) (by omega) hn (by omega) (nI b)) (by omega) (Nat.le_of_ble_eq_true rfl) (Nat.zero_le _) (Nat.zero_le _) ?_
  refine mw_topi (show bI (bt_m (κ.2.1 (2 * a + 0)) (nI b)) = bI (w a b) by rw [bt_m_at (by omega), h4 a ha b]) ?_
  refine mw_istore3 d_ob_drop_20 rfl (Nat.le_of_ble_eq_true rfl) ?_
  refine mw_aload0 d_ob_drop_21 ?_
  refine gf_ob_out d_ob_drop_22 hn rfl ?_
  refine mw_iload1 d_ob_drop_25 ?_
  refine ob_al (o := 0) (by omega) (by omega) d_ob_drop_26 hn ?_
  refine mw_iload2 d_ob_drop_27 ?_
  refine mw_cV1v lk_ob_drop_ps_remove d_ob_drop_28 (ob_lt hn (by omega)) (ob_gS (by omega)) (Nat.le_of_ble_eq_true rfl) (oc_remove (d := d - 1) (by omega) hn (by omega) (nI b)) (by omega) (Nat.le_of_ble_eq_true rfl) (Nat.zero_le _) (Nat.zero_le _) ?_
  refine mw_aload0 d_ob_drop_31 ?_
  refine gf_ob_into d_ob_drop_32 hn rfl ?_
  refine mw_iload2 d_ob_drop_35 ?_
  refine ob_al (o := 1) (by omega) (by omega) d_ob_drop_36 hn ?_
  refine mw_iload1 d_ob_drop_37 ?_
  refine mw_cV1v lk_ob_drop_ps_remove d_ob_drop_38 (ob_lt hn (by omega)) (ob_gS (by omega)) (Nat.le_of_ble_eq_true rfl) (oc_remove (d := d - 1) (by omega) hn (by omega) (nI a)) (by omega) (Nat.le_of_ble_eq_true rfl) (Nat.zero_le _) (Nat.zero_le _) ?_
  refine mw_iload3 d_ob_drop_41 ?_
  refine mw_iret d_ob_drop_42 rfl (nbI _) ⟨rfl, gw_k κ (gw_set w a b false) a b, ?_, rfl, gw_I hI ha hb⟩
  refine ob_ext (κ := κ) (fun j hj i hi => ?_)
  show va_up (va_up κ.2.1 (2 * a + 0) _) (2 * b + 1) _ j i = va_up (va_up κ.2.1 (2 * a + 0) (gw_set w a b false a)) (2 * b + 1) (fun i => gw_set w a b false i b) j i
  by_cases e1 : j = 2 * b + 1
  · subst e1
    rw [mw_up_s, mw_up_s]
    have e2 : va_up κ.2.1 (2 * a + 0) (fun i => κ.2.1 (2 * a + 0) i && !bt_one (nI b) i) (2 * b + 1) i = w i b := by
      rw [mw_up_n _ _ (show 2 * b + 1 ≠ 2 * a + 0 by omega), h5 b hb i]
      rfl
    refine Eq.trans (cg2 (fun u v => u && !v) e2 (bt_one_nI (show a < 2 ^ 31 by omega) (show i < 2 ^ 31 by omega))) ?_
    unfold gw_set
    by_cases e : i = a
    · subst e; simp
    · simp [e]
  · rw [mw_up_n _ _ e1, mw_up_n _ _ e1]
    by_cases e3 : j = 2 * a + 0
    · subst e3
      rw [mw_up_s, mw_up_s]
      show (κ.2.1 (2 * a + 0) i && !bt_one (nI b) i) = _
      rw [h4 a ha i, bt_one_nI (by omega) (by omega)]
      unfold gw_set
      by_cases e : i = b
      · subst e; simp
      · simp [e]
    · rw [mw_up_n _ _ e3, mw_up_n _ _ e3]
/-- the call of search in the middle of a public method -/
theorem ob_srch {M : mw_M} {bc bs pc idx a : Nat} {Q : Option Value → mw_H → Prop} {X : Nat → mw_H → Prop} {lo : List (Option Value)} {st : List Value} {og os : Option Nat} (hw : mw_lkV M m_ob_search idx 4 1) (hd9 : decode M.2.1 pc = .ok (.invokevirtual idx, 3)) (hd : 5 ≤ d) (hn : 250 ≤ n) (hI : ob_I κ w) (ha : a < κ.1) (hg : gl_ok κ.1 og) (hs : gl_ok κ.1 os) (hst : (st.map fun v => v.category).sum ≤ 8)
    (k : ∀ κ', sr_keep κ κ' → (gl_r κ.1 w (gl_s os) a og = -1 → κ'.2.1 240 = bf_r κ.1 w (gl_s os) a) → mw_W E M d Q X bc bs (pc + 3) lo (.int (gl_r κ.1 w (gl_s os) a og) :: st) (ob_h E κ' n r)) :
    mw_W E M d Q X bc bs pc lo (.int (gl_v os) :: .int (gl_v og) :: .int (nI a) :: .ref (mw_b E + (1 + 0)) :: .ref (mw_b E + 0) :: st) (ob_h E κ n r) := by
  refine mw_cV4 (d' := d - 1) hw hd9 (ob_lt hn (by decide)) ob_g0 (Nat.le_of_ble_eq_true rfl) (ct_search (o := 0) (by omega) (by omega) hn hI.2.2.1 hI.1 hI.2.2.2.1 ha hg hs) (by omega) hst (Nat.zero_le _) (Nat.zero_le _) ?_ (fun _ _ q => q.elim)
  rintro v h' ⟨rfl, κ1, rfl, hk, hr⟩
  exact k κ1 hk hr
theorem gl_ok1 {N g : Nat} (h : g < N) : gl_ok N (some g) := fun x e => by cases e; exact h
theorem gl_ok0 {N : Nat} : gl_ok N none := fun x e => by cases e
theorem bf_d_ne {N a b : Nat} {sh : Nat → Bool} (hw : bf_ok N w) (ha : a < N) (hN : N ≤ 120) : bf_d N w sh a b = -1 ↔ bf_r N w sh a b = false := by
  constructor
  · intro h
    cases e : bf_r N w sh a b with
    | false => rfl
    | true =>
      obtain ⟨k, h1, h2⟩ := (bf_r_iff hw ha).mp e
      rw [bf_d_at hw ha h2] at h
      exact absurd h (nI_m1 (by omega))
  · exact bf_d_no hw ha
theorem ct_reaches {a b : Nat} (hd : 5 ≤ d) (hn : 250 ≤ n) (hI : ob_I κ w) (ha : a < κ.1) (hb : b < κ.1) : mw_Ct E m_ob_reaches d 0 0 [.ref (mw_b E + 0), .int (nI a), .int (nI b)] (ob_h E κ n r) (ob_Q E κ n r (some (.int (bI (gp_T κ.1 w a b))))) mw_no := by
  show mw_W E m_ob_reaches d _ _ 0 0 0 [some (.ref (mw_b E + 0)), some (.int (nI a)), some (.int (nI b))] [] (ob_h E κ n r)
  have h3 := hI.2.2.1
  refine mw_aload0 d_ob_reaches_0 ?_
  refine mw_iload1 d_ob_reaches_1 ?_
  refine ob_must lk_ob_reaches_ob_mustBePlace d_ob_reaches_2 hn h3 ha (by omega) (Nat.le_of_ble_eq_true rfl) ?_
  refine mw_aload0 d_ob_reaches_5 ?_
  refine mw_iload2 d_ob_reaches_6 ?_
  refine ob_must lk_ob_reaches_ob_mustBePlace d_ob_reaches_7 hn h3 hb (by omega) (Nat.le_of_ble_eq_true rfl) ?_
  refine mw_aload0 d_ob_reaches_10 ?_
  refine mw_aload0 d_ob_reaches_11 ?_
  refine gf_ob_out d_ob_reaches_12 hn rfl ?_
  refine mw_iload1 d_ob_reaches_15 ?_
  refine mw_iload2 d_ob_reaches_16 ?_
  refine mw_iconst (v := (-1)) d_ob_reaches_17 (by decide) ?_
  refine ob_srch (og := some b) (os := none) lk_ob_reaches_ob_search d_ob_reaches_18 (by omega) hn hI ha (gl_ok1 hb) gl_ok0 (Nat.le_of_ble_eq_true rfl) (fun κ1 hk _ => ?_)
  have hdn : bf_d κ.1 w (gl_s none) a b = -1 ↔ gp_T κ.1 w a b = false := bf_d_ne hI.1 ha h3
  refine mw_iconst (v := (-1)) d_ob_reaches_21 (by decide) ?_
  refine mw_icmp_eq (tgt := 29) d_ob_reaches_22 (by decide) (fun hc => ?_) (fun hc => ?_)
  · refine mw_iconst (v := nI 0) d_ob_reaches_29 (by decide) ?_
    exact mw_iret d_ob_reaches_30 rfl nb0 ⟨by rw [bI_f (hdn.mp hc)], κ1, rfl, hk.ob⟩
  · refine mw_iconst (v := nI 1) d_ob_reaches_25 (by decide) ?_
    refine mw_goto (tgt := 30) d_ob_reaches_26 (by decide) ?_
    refine mw_iret d_ob_reaches_30 rfl nb1 ⟨?_, κ1, rfl, hk.ob⟩
    cases e : gp_T κ.1 w a b with
    | true => rfl
    | false => exact absurd (hdn.mpr e) hc
theorem ct_far {a b : Nat} (hd : 5 ≤ d) (hn : 250 ≤ n) (hI : ob_I κ w) (ha : a < κ.1) (hb : b < κ.1) : mw_Ct E m_ob_far d 0 0 [.ref (mw_b E + 0), .int (nI a), .int (nI b)] (ob_h E κ n r) (ob_Q E κ n r (some (.int (bf_d κ.1 w gp_no a b)))) mw_no := by
  show mw_W E m_ob_far d _ _ 0 0 0 [some (.ref (mw_b E + 0)), some (.int (nI a)), some (.int (nI b))] [] (ob_h E κ n r)
  have h3 := hI.2.2.1
  refine mw_aload0 d_ob_far_0 ?_
  refine mw_iload1 d_ob_far_1 ?_
  refine ob_must lk_ob_far_ob_mustBePlace d_ob_far_2 hn h3 ha (by omega) (Nat.le_of_ble_eq_true rfl) ?_
  refine mw_aload0 d_ob_far_5 ?_
  refine mw_iload2 d_ob_far_6 ?_
  refine ob_must lk_ob_far_ob_mustBePlace d_ob_far_7 hn h3 hb (by omega) (Nat.le_of_ble_eq_true rfl) ?_
  refine mw_aload0 d_ob_far_10 ?_
  refine mw_aload0 d_ob_far_11 ?_
  refine gf_ob_out d_ob_far_12 hn rfl ?_
  refine mw_iload1 d_ob_far_15 ?_
  refine mw_iload2 d_ob_far_16 ?_
  refine mw_iconst (v := (-1)) d_ob_far_17 (by decide) ?_
  refine ob_srch (og := some b) (os := none) lk_ob_far_ob_search d_ob_far_18 (by omega) hn hI ha (gl_ok1 hb) gl_ok0 (Nat.le_of_ble_eq_true rfl) (fun κ1 hk _ => ?_)
  exact mw_iret d_ob_far_21 rfl rfl ⟨rfl, κ1, rfl, hk.ob⟩
theorem ct_group {a : Nat} (hd : 6 ≤ d) (hn : 250 ≤ n) (hI : ob_I κ w) (ha : a < κ.1) : mw_Ct E m_ob_group d 0 0 [.ref (mw_b E + 0), .int (nI a)] (ob_h E κ n r) (ob_Q E κ n r (some (.int (nI (gp_g κ.1 w a))))) mw_no := by
  show mw_W E m_ob_group d _ _ 0 0 0 [some (.ref (mw_b E + 0)), some (.int (nI a))] [] (ob_h E κ n r)
  have h3 := hI.2.2.1
  refine mw_aload0 d_ob_group_0 ?_
  refine mw_iload1 d_ob_group_1 ?_
  refine ob_must lk_ob_group_ob_mustBePlace d_ob_group_2 hn h3 ha (by omega) (Nat.le_of_ble_eq_true rfl) ?_
  refine mw_aload0 d_ob_group_5 ?_
  refine mw_iload1 d_ob_group_6 ?_
  refine mw_cV1k lk_ob_group_ob_leastOfGroup d_ob_group_7 hn (Nat.le_of_ble_eq_true rfl) (ct_leastOfGroup (d := d - 1) (by omega) hn hI ha) (by omega) (Nat.le_of_ble_eq_true rfl) (Nat.zero_le _) (Nat.zero_le _) ?_
  intro κ1 hk1
  exact mw_iret d_ob_group_10 rfl rfl ⟨rfl, κ1, rfl, hk1⟩
theorem ct_all {a b c : Nat} (hd : 5 ≤ d) (hn : 250 ≤ n) (hI : ob_I κ w) (ha : a < κ.1) (hb : b < κ.1) (hc : c < κ.1) : mw_Ct E m_ob_all d 0 0 [.ref (mw_b E + 0), .int (nI a), .int (nI b), .int (nI c)] (ob_h E κ n r) (ob_Q E κ n r (some (.int (bI (!gp_A κ.1 w a c b))))) mw_no := by
  show mw_W E m_ob_all d _ _ 0 0 0 [some (.ref (mw_b E + 0)), some (.int (nI a)), some (.int (nI b)), some (.int (nI c))] [] (ob_h E κ n r)
  have h3 := hI.2.2.1
  refine mw_aload0 d_ob_all_0 ?_
  refine mw_iload1 d_ob_all_1 ?_
  refine ob_must lk_ob_all_ob_mustBePlace d_ob_all_2 hn h3 ha (by omega) (Nat.le_of_ble_eq_true rfl) ?_
  refine mw_aload0 d_ob_all_5 ?_
  refine mw_iload2 d_ob_all_6 ?_
  refine ob_must lk_ob_all_ob_mustBePlace d_ob_all_7 hn h3 hb (by omega) (Nat.le_of_ble_eq_true rfl) ?_
  refine mw_aload0 d_ob_all_10 ?_
  refine mw_iload3 d_ob_all_11 ?_
  refine ob_must lk_ob_all_ob_mustBePlace d_ob_all_12 hn h3 hc (by omega) (Nat.le_of_ble_eq_true rfl) ?_
  refine mw_aload0 d_ob_all_15 ?_
  refine mw_aload0 d_ob_all_16 ?_
  refine gf_ob_out d_ob_all_17 hn rfl ?_
  refine mw_iload1 d_ob_all_20 ?_
  refine mw_iload2 d_ob_all_21 ?_
  refine mw_iload3 d_ob_all_22 ?_
  refine ob_srch (og := some b) (os := some c) lk_ob_all_ob_search d_ob_all_23 (by omega) hn hI ha (gl_ok1 hb) (gl_ok1 hc) (Nat.le_of_ble_eq_true rfl) (fun κ1 hk _ => ?_)
  have hdn : bf_d κ.1 w (gl_s (some c)) a b = -1 ↔ gp_A κ.1 w a c b = false := bf_d_ne hI.1 ha h3
  refine mw_iconst (v := (-1)) d_ob_all_26 (by decide) ?_
  refine mw_icmp_ne (tgt := 34) d_ob_all_27 (by decide) (fun hc2 => ?_) (fun hc2 => ?_)
  · refine mw_iconst (v := nI 0) d_ob_all_34 (by decide) ?_
    refine mw_iret d_ob_all_35 rfl nb0 ⟨?_, κ1, rfl, hk.ob⟩
    cases e : gp_A κ.1 w a c b with
    | true => rfl
    | false => exact absurd (hdn.mpr e) hc2
  · refine mw_iconst (v := nI 1) d_ob_all_30 (by decide) ?_
    refine mw_goto (tgt := 35) d_ob_all_31 (by decide) ?_
    exact mw_iret d_ob_all_35 rfl nb1 ⟨by rw [hdn.mp hc2]; rfl, κ1, rfl, hk.ob⟩
end Pub
