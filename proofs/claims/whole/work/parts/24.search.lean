/-! OrderBench.moveRim and OrderBench.search. -/
/-- what moveRim makes of the rim F, the reached ones R, the ways S, the int of a shut place -/
def sr_G (N : Nat) (F R : Nat → Bool) (S : Nat → Nat → Bool) (o : Nat) (shut : Int32) : Nat → Bool := fun i => (pu_ex (fun p => F p && S (2 * p + o) i) N && !R i) && !bt_one shut i
def sr_U (N : Nat) (F : Nat → Bool) (S : Nat → Nat → Bool) (o f : Nat) : Nat → Bool := fun i => pu_ex (fun p => bt_vis F f p && S (2 * p + o) i) N
theorem sr_U0 (N : Nat) (F : Nat → Bool) (S : Nat → Nat → Bool) (o : Nat) : sr_U N F S o 0 = fun _ => false := by
  funext i
  exact pu_ex_false.mpr (fun p _ => by rw [bt_vis_0]; rfl)
theorem sr_US {N : Nat} {F : Nat → Bool} {S : Nat → Nat → Bool} {o f : Nat} (h : bt_nx F f < N) (hN : N ≤ 128) : (fun i => sr_U N F S o f i || S (2 * bt_nx F f + o) i) = sr_U N F S o (bt_nx F f + 1) := by
  funext i
  have e : ∀ p, (bt_vis F (bt_nx F f + 1) p && S (2 * p + o) i) = ((bt_vis F f p && S (2 * p + o) i) || (decide (p = bt_nx F f) && S (2 * p + o) i)) := fun p => by
    rw [bt_vis_step (by omega)]
    cases bt_vis F f p <;> cases decide (p = bt_nx F f) <;> cases S (2 * p + o) i <;> rfl
  show _ = pu_ex (fun p => bt_vis F (bt_nx F f + 1) p && S (2 * p + o) i) N
  rw [pu_ex_congr (fun p _ => e p), pu_ex_or, pu_ex_one (g := fun p => S (2 * p + o) i) h]
  rfl
theorem sr_UE {N : Nat} {F : Nat → Bool} {S : Nat → Nat → Bool} {o f : Nat} (h : ∀ i, f ≤ i → F i = false) : sr_U N F S o f = fun i => pu_ex (fun p => F p && S (2 * p + o) i) N := by
  funext i
  exact pu_ex_congr (fun p _ => by rw [bt_vis_end h])
section Sr
variable {E : mw_E} {d n : Nat} {κ : ob_K} {r : Nat → mw_O}
/-- sets other than the scratch ones stay -/
def sr_keep (κ κ' : ob_K) : Prop := κ'.1 = κ.1 ∧ κ'.2.2 = κ.2.2 ∧ ∀ j, j ≠ 240 → j ≠ 241 → j ≠ 242 → κ'.2.1 j = κ.2.1 j
theorem ct_moveRim {o : Nat} {shut : Int32} (hd : 3 ≤ d) (ho : o < 2) (hn : 250 ≤ n) (hN : κ.1 ≤ 120) (hF : ∀ i, κ.2.1 241 i = true → i < κ.1) :
    mw_Ct E m_ob_moveRim d 0 0 [.ref (mw_b E + 0), .ref (mw_b E + (1 + o)), .int shut] (ob_h E κ n r)
      (fun v h' => v = none ∧ ∃ κ', h' = ob_h E κ' n r ∧ sr_keep κ κ' ∧ κ'.2.1 241 = sr_G κ.1 (κ.2.1 241) (κ.2.1 240) κ.2.1 o shut ∧ κ'.2.1 240 = fun i => κ.2.1 240 i || sr_G κ.1 (κ.2.1 241) (κ.2.1 240) κ.2.1 o shut i) mw_no := by
  show mw_W E m_ob_moveRim d _ _ 0 0 0 [some (.ref (mw_b E + 0)), some (.ref (mw_b E + (1 + o))), some (.int shut)] [] (ob_h E κ n r)
  refine mw_lo [some (.ref (mw_b E + 0)), some (.ref (mw_b E + (1 + o))), some (.int shut), none] (by simp [mw_le]) ?_
  refine mw_aload0 d_ob_moveRim_0 ?_
  refine gf_ob_fresh d_ob_moveRim_1 hn rfl ?_
  refine mw_cV0v lk_ob_moveRim_ps_clear d_ob_moveRim_4 (ob_lt hn (by omega)) (ob_gS (by omega)) (Nat.le_of_ble_eq_true rfl) (oc_clear (d := d - 1) hn (by omega)) (by omega) (Nat.le_of_ble_eq_true rfl) (Nat.zero_le _) (Nat.zero_le _) ?_
  refine mw_aload0 d_ob_moveRim_7 ?_
  refine gf_ob_rim d_ob_moveRim_8 hn rfl ?_
  refine mw_iconst (v := nI 0) d_ob_moveRim_11 (by decide) ?_
  refine mw_cV1e lk_ob_moveRim_ps_next d_ob_moveRim_12 (ob_lt hn (by omega)) (ob_gS (by omega)) (Nat.le_of_ble_eq_true rfl) (oc_next (d := d - 1) (f := 0) (by omega) hn (by omega) (by omega)) (by omega) (Nat.le_of_ble_eq_true rfl) (Nat.zero_le _) (Nat.zero_le _) ?_
  refine mw_istore3 d_ob_moveRim_15 rfl (Nat.le_of_ble_eq_true rfl) ?_
  rw [← sr_U0 κ.1 (κ.2.1 241) κ.2.1 o]
  generalize hQ : (fun (v : Option Value) (h' : mw_H) => v = none ∧ ∃ κ', h' = ob_h E κ' n r ∧ sr_keep κ κ' ∧ κ'.2.1 241 = sr_G κ.1 (κ.2.1 241) (κ.2.1 240) κ.2.1 o shut ∧ κ'.2.1 240 = fun i => κ.2.1 240 i || sr_G κ.1 (κ.2.1 241) (κ.2.1 240) κ.2.1 o shut i) = Q
  have key : ∀ f, f ≤ 128 → mw_W E m_ob_moveRim d Q mw_no 0 0 16 [some (.ref (mw_b E + 0)), some (.ref (mw_b E + (1 + o))), some (.int shut), some (.int (nI (bt_nx (κ.2.1 241) f)))] [] (ob_h E (κ.1, va_up κ.2.1 242 (sr_U κ.1 (κ.2.1 241) κ.2.1 o f), κ.2.2) n r) := by
    refine mw_sdown 128 (fun f hf ih => ?_)
    have hle := bt_nx_le (κ.2.1 241) f
    refine mw_iload3 d_ob_moveRim_16 ?_
    refine mw_aload0 d_ob_moveRim_17 ?_
    refine gf_ob_size d_ob_moveRim_18 hn rfl ?_
    refine mw_icmp_ge (tgt := 48) d_ob_moveRim_21 (by decide) (fun hc => ?_) (fun hc => ?_)
    · have hge : κ.1 ≤ bt_nx (κ.2.1 241) f := (nI_leI (by omega) (by omega)).mp hc
      obtain ⟨-, hall⟩ := bt_nx_N hF hge (by omega)
      rw [sr_UE hall]
      refine mw_aload0 d_ob_moveRim_48 ?_
      refine gf_ob_fresh d_ob_moveRim_49 hn rfl ?_
      refine mw_aload0 d_ob_moveRim_52 ?_
      refine gf_ob_reached d_ob_moveRim_53 hn rfl ?_
      refine mw_cV1v lk_ob_moveRim_ps_removeAllOf d_ob_moveRim_56 (ob_lt hn (by omega)) (ob_gS (by omega)) (Nat.le_of_ble_eq_true rfl) (oc_removeAllOf (d := d - 1) hn (by omega) (by omega) (by omega)) (by omega) (Nat.le_of_ble_eq_true rfl) (Nat.zero_le _) (Nat.zero_le _) ?_
      refine mw_aload0 d_ob_moveRim_59 ?_
      refine gf_ob_fresh d_ob_moveRim_60 hn rfl ?_
      refine mw_iload2 d_ob_moveRim_63 ?_
      refine mw_cV1v lk_ob_moveRim_ps_remove d_ob_moveRim_64 (ob_lt hn (by omega)) (ob_gS (by omega)) (Nat.le_of_ble_eq_true rfl) (oc_remove (d := d - 1) (by omega) hn (by omega) shut) (by omega) (Nat.le_of_ble_eq_true rfl) (Nat.zero_le _) (Nat.zero_le _) ?_
      refine mw_aload0 d_ob_moveRim_67 ?_
      refine gf_ob_reached d_ob_moveRim_68 hn rfl ?_
      refine mw_aload0 d_ob_moveRim_71 ?_
      refine gf_ob_fresh d_ob_moveRim_72 hn rfl ?_
      refine mw_cV1v lk_ob_moveRim_ps_addAllOf d_ob_moveRim_75 (ob_lt hn (by omega)) (ob_gS (by omega)) (Nat.le_of_ble_eq_true rfl) (oc_addAllOf (d := d - 1) hn (by omega) (by omega) (by omega)) (by omega) (Nat.le_of_ble_eq_true rfl) (Nat.zero_le _) (Nat.zero_le _) ?_
      refine mw_aload0 d_ob_moveRim_78 ?_
      refine gf_ob_rim d_ob_moveRim_79 hn rfl ?_
      refine mw_cV0v lk_ob_moveRim_ps_clear d_ob_moveRim_82 (ob_lt hn (by omega)) (ob_gS (by omega)) (Nat.le_of_ble_eq_true rfl) (oc_clear (d := d - 1) hn (by omega)) (by omega) (Nat.le_of_ble_eq_true rfl) (Nat.zero_le _) (Nat.zero_le _) ?_
      refine mw_aload0 d_ob_moveRim_85 ?_
      refine gf_ob_rim d_ob_moveRim_86 hn rfl ?_
      refine mw_aload0 d_ob_moveRim_89 ?_
      refine gf_ob_fresh d_ob_moveRim_90 hn rfl ?_
      refine mw_cV1v lk_ob_moveRim_ps_addAllOf d_ob_moveRim_93 (ob_lt hn (by omega)) (ob_gS (by omega)) (Nat.le_of_ble_eq_true rfl) (oc_addAllOf (d := d - 1) hn (by omega) (by omega) (by omega)) (by omega) (Nat.le_of_ble_eq_true rfl) (Nat.zero_le _) (Nat.zero_le _) ?_
      subst hQ
      refine mw_vret d_ob_moveRim_96 rfl ⟨rfl, _, rfl, ⟨rfl, rfl, fun j h1 h2 h3 => ?_⟩, ?_, ?_⟩
      · simp [va_up, h1, h2, h3]
      · funext i
        simp [va_up, sr_G]
      · funext i
        simp [va_up, sr_G]
    · have hlt : bt_nx (κ.2.1 241) f < κ.1 := by
        rcases Nat.lt_or_ge (bt_nx (κ.2.1 241) f) κ.1 with z | z
        · exact z
        · exact absurd (nI_le z (by omega)) hc
      refine mw_aload0 d_ob_moveRim_24 ?_
      refine gf_ob_fresh d_ob_moveRim_25 hn rfl ?_
      refine mw_aload1 d_ob_moveRim_28 ?_
      refine mw_iload3 d_ob_moveRim_29 ?_
      refine ob_al ho (by omega) d_ob_moveRim_30 hn ?_
      refine mw_cV1v lk_ob_moveRim_ps_addAllOf d_ob_moveRim_31 (ob_lt hn (by omega)) (ob_gS (by omega)) (Nat.le_of_ble_eq_true rfl) (oc_addAllOf (d := d - 1) hn (by omega) (by omega) (by omega)) (by omega) (Nat.le_of_ble_eq_true rfl) (Nat.zero_le _) (Nat.zero_le _) ?_
      refine mw_aload0 d_ob_moveRim_34 ?_
      refine gf_ob_rim d_ob_moveRim_35 hn rfl ?_
      refine mw_iload3 d_ob_moveRim_38 ?_
      refine mw_iconst (v := nI 1) d_ob_moveRim_39 (by decide) ?_
      refine mw_iadd d_ob_moveRim_40 ?_
      refine mw_topi (nI_1 _) ?_
      refine mw_cV1e lk_ob_moveRim_ps_next d_ob_moveRim_41 (ob_lt hn (by omega)) (ob_gS (by omega)) (Nat.le_of_ble_eq_true rfl) (oc_next (d := d - 1) (by omega) hn (by omega) (by omega)) (by omega) (Nat.le_of_ble_eq_true rfl) (Nat.zero_le _) (Nat.zero_le _) ?_
      refine mw_istore3 d_ob_moveRim_44 rfl (Nat.le_of_ble_eq_true rfl) ?_
      refine mw_goto (tgt := 16) d_ob_moveRim_45 (by decide) ?_
      have hih := ih (bt_nx (κ.2.1 241) f + 1) (by have := (bt_nx_in (s := κ.2.1 241) (f := f) (by omega)).2; omega) (by omega)
      rw [← sr_US (o := o) hlt (by omega)] at hih
      refine mw_bud (Nat.zero_le _) (Nat.zero_le _) ?_
      have e : va_up (va_up κ.2.1 242 (sr_U κ.1 (κ.2.1 241) κ.2.1 o f)) 242 (fun i => va_up κ.2.1 242 (sr_U κ.1 (κ.2.1 241) κ.2.1 o f) 242 i || va_up κ.2.1 242 (sr_U κ.1 (κ.2.1 241) κ.2.1 o f) (2 * bt_nx (κ.2.1 241) f + o) i) = va_up κ.2.1 242 (fun i => sr_U κ.1 (κ.2.1 241) κ.2.1 o f i || κ.2.1 (2 * bt_nx (κ.2.1 241) f + o) i) := by
        rw [mw_upup, mw_up_s, mw_up_n _ _ (show 2 * bt_nx (κ.2.1 241) f + o ≠ 242 by omega)]
      rw [e]
      exact hih
  exact mw_bud (Nat.zero_le _) (Nat.zero_le _) (key 0 (by omega))
end Sr
