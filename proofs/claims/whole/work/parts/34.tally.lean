/-! OrderBench: tallyLongest, tallyPaths, order, level, paths. -/
theorem nI_max {a b : Nat} (ha : a < 2 ^ 31) (hb : b < 2 ^ 31) : (if nI a < nI b then nI b else nI a) = nI (max a b) := by
  by_cases h : a < b
  · rw [if_pos (nI_lt h hb), Nat.max_eq_right (by omega)]
  · rw [if_neg (fun z => h ((nI_ltI ha hb).mp z)), Nat.max_eq_left (by omega)]
theorem nI_div {a b : Nat} (ha : a < 2 ^ 31) (hb : b < 2 ^ 31) : nI a / nI b = nI (a / b) := by
  have h1 : a / b ≤ a := Nat.div_le_self a b
  refine Int32.toInt_inj.mp ?_
  rw [Int32.toInt_div, nI_toInt ha, nI_toInt hb, nI_toInt (by omega), ← Int.ofNat_tdiv]
  generalize a / b = e at h1 ⊢
  exact Int.bmod_eq_of_le (by omega) (by omega)
theorem nI_rem {a m : Nat} (ha : a < 2 ^ 31) (hm : m < 2 ^ 31) : nI a - nI a / nI m * nI m = nI (a % m) := by
  rw [nI_div ha hm]
  have h1 : nI (a / m) * nI m = nI (a / m * m) := (Int32.ofNat_mul (a / m) m).symm
  have h2 : nI a = nI (a % m) + nI (a / m * m) := by
    rw [nI_add]
    congr 1
    have := Nat.mod_add_div a m
    rw [Nat.mul_comm] at this
    exact this.symm
  rw [h1, h2]
  exact Int32.add_sub_cancel _ _
section Tally
variable {E : mw_E} {d n : Nat} {κ : ob_K} {r : Nat → mw_O} {w : Nat → Nat → Bool}
theorem ct_max {a b : Nat} {h : mw_H} (ha : a < 2 ^ 31) (hb : b < 2 ^ 31) : mw_Ct E m_jm_max d 0 0 [.int (nI a), .int (nI b)] h (fun v h' => v = some (.int (nI (max a b))) ∧ h' = h) mw_no := by
  show mw_W E m_jm_max d _ _ 0 0 0 [some (.int (nI a)), some (.int (nI b))] [] h
  refine mw_iload0 d_jm_max_0 ?_
  refine mw_iload1 d_jm_max_1 ?_
  refine mw_icmp_lt (tgt := 9) d_jm_max_2 (by decide) (fun hc => ?_) (fun hc => ?_)
  · have e : b = max a b := by
      have := (nI_ltI ha hb).mp hc
      omega
    refine mw_iload1 d_jm_max_9 ?_
    exact mw_iret d_jm_max_10 rfl rfl ⟨by rw [← e], rfl⟩
  · have e : a = max a b := by
      rcases Nat.lt_or_ge a b with z | z
      · exact absurd (nI_lt z hb) hc
      · omega
    refine mw_iload0 d_jm_max_5 ?_
    refine mw_goto (tgt := 10) d_jm_max_6 (by decide) ?_
    exact mw_iret d_jm_max_10 rfl rfl ⟨by rw [← e], rfl⟩
theorem ct_fill (hn : 250 ≤ n) : mw_Ct E m_ja_fill d 0 0 [.ref (mw_b E + (247 + 2)), .int (nI 0)] (ob_h E κ n r) (fun v h' => v = none ∧ ∃ R, h' = ob_h E (κ.1, κ.2.1, va_up κ.2.2 2 R) n r ∧ ∀ i, i < 120 → R i = nI 0) mw_no := by
  show mw_W E m_ja_fill d _ _ 0 0 0 [some (.ref (mw_b E + (247 + 2))), some (.int (nI 0))] [] (ob_h E κ n r)
  refine mw_lo [some (.ref (mw_b E + (247 + 2))), some (.int (nI 0)), none, none] (by simp [mw_le]) ?_
  have key : ∀ k, k ≤ 120 → ∀ R, (∀ i, i < k → R i = nI 0) → mw_W E m_ja_fill d (fun v h' => v = none ∧ ∃ R, h' = ob_h E (κ.1, κ.2.1, va_up κ.2.2 2 R) n r ∧ ∀ i, i < 120 → R i = nI 0) mw_no 0 0 5 [some (.ref (mw_b E + (247 + 2))), some (.int (nI 0)), some (.int (nI k)), some (.int (nI 120))] [] (ob_h E (κ.1, κ.2.1, va_up κ.2.2 2 R) n r) := by
    refine mw_down 120 (fun k hk ih R hR => ?_)
    refine mw_iload2 d_ja_fill_5 ?_
    refine mw_iload3 d_ja_fill_6 ?_
    refine mw_icmp_ge (tgt := 20) d_ja_fill_7 (by decide) (fun hc => ?_) (fun hc => ?_)
    · have e : k = 120 := by
        have := (nI_leI (by decide) (by omega)).mp hc
        omega
      exact mw_vret d_ja_fill_20 rfl ⟨rfl, R, rfl, fun i hi => hR i (by omega)⟩
    · have hlt : k < 120 := by
        rcases Nat.lt_or_ge k 120 with z | z
        · exact z
        · exact absurd (nI_le z (by omega)) hc
      refine mw_aload0 d_ja_fill_10 ?_
      refine mw_iload2 d_ja_fill_11 ?_
      refine mw_iload1 d_ja_fill_12 ?_
      refine ob_is (j := 2) (by omega) (by omega) d_ja_fill_13 hn ?_
      rw [ob_r2, mw_upup]
      refine mw_inc2 d_ja_fill_14 rfl (Nat.le_of_ble_eq_true rfl) ?_
      refine mw_goto (tgt := 5) d_ja_fill_17 (by decide) ?_
      refine ih hlt _ (fun i hi => ?_)
      by_cases e : i = k
      · rw [e, mw_up_s]
      · rw [mw_up_n _ _ e]; exact hR i (by omega)
  refine mw_iconst (v := nI 0) d_ja_fill_0 (by decide) ?_
  refine mw_istore2 d_ja_fill_1 rfl (Nat.le_of_ble_eq_true rfl) ?_
  refine mw_aload0 d_ja_fill_2 ?_
  refine mw_alen (t := 0) (fun _ => rfl) d_ja_fill_3 (ob_lt hn (by decide)) (ob_gR (by decide)) ?_
  refine mw_istore3 d_ja_fill_4 rfl (Nat.le_of_ble_eq_true rfl) ?_
  have h0 := key 0 (by omega) (κ.2.2 2) (fun i hi => by omega)
  rw [mw_upid κ.2.2 2 _ rfl] at h0
  exact h0
/-- a line that is laid, and the ways -/
def or_laid (κ κ' : ob_K) (w : Nat → Nat → Bool) : Prop := ob_keep κ κ' ∧ ∀ j, j < κ.1 → κ'.2.2 0 j = nI (or_ln κ.1 w j)
def or_row (κ κ' : ob_K) (w : Nat → Nat → Bool) (t : Nat → Nat) : Prop := or_laid κ κ' w ∧ ∀ q, q < κ.1 → κ'.2.2 2 q = nI (t q)
theorem or_row_up {κ' : ob_K} {t t' : Nat → Nat} {q : Nat} (h : or_row κ κ' w t) (ht : ∀ i, i ≠ q → t' i = t i) : or_row κ (κ'.1, κ'.2.1, va_up κ'.2.2 2 (va_up (κ'.2.2 2) q (nI (t' q)))) w t' := by
  obtain ⟨⟨h1, h2⟩, h3⟩ := h
  refine ⟨⟨⟨h1.1, h1.2⟩, fun j hj => ?_⟩, fun i hi => ?_⟩
  · rw [ob_r2n _ _ _ _ (show (0 : Nat) ≠ 2 by decide)]; exact h2 j hj
  · rw [ob_r2]
    by_cases e : i = q
    · rw [e, mw_up_s]
    · rw [mw_up_n _ _ e, ht i e]; exact h3 i hi
theorem or_self {N i : Nat} (hw : bf_ok N w) (h : or_ln N w i < N) : w (or_ln N w i) (or_ln N w i) = false := by
  cases e : w (or_ln N w i) (or_ln N w i) with
  | false => rfl
  | true =>
    have h1 := (or_rdy_iff hw).mp (or_ln_rdy h)
    have h2 := h1.2 _ e
    rw [h1.1] at h2; cases h2
/-- one place's ways gone over: what each of them becomes -/
def or_go (s : Nat → Bool) (t g : Nat → Nat) (f : Nat) : Nat → Nat := fun q => if bt_vis s f q = true then g q else t q
theorem or_go0 (s : Nat → Bool) (t g : Nat → Nat) : or_go s t g 0 = t := by
  funext q
  unfold or_go
  rw [bt_vis_0]; rfl
theorem or_go_end {s : Nat → Bool} {t g : Nat → Nat} {f : Nat} (h : ∀ i, f ≤ i → s i = false) : or_go s t g f = fun q => if s q = true then g q else t q := by
  funext q
  unfold or_go
  rw [bt_vis_end h]
theorem or_go_at {s : Nat → Bool} {t g : Nat → Nat} {f : Nat} (h : bt_nx s f < 128) : or_go s t g (bt_nx s f + 1) (bt_nx s f) = g (bt_nx s f) ∧ or_go s t g f (bt_nx s f) = t (bt_nx s f) := by
  have h2 := bt_nx_in h
  unfold or_go
  refine ⟨?_, ?_⟩
  · rw [bt_vis_step h]; simp
  · unfold bt_vis
    rw [decide_eq_false (by omega), Bool.and_false]; rfl
theorem or_go_ne {s : Nat → Bool} {t g : Nat → Nat} {f i : Nat} (h : bt_nx s f < 128) (hi : i ≠ bt_nx s f) : or_go s t g (bt_nx s f + 1) i = or_go s t g f i := by
  unfold or_go
  rw [bt_vis_step h, decide_eq_false hi, Bool.or_false]
theorem or_go_no {s : Nat → Bool} {t g : Nat → Nat} {f i : Nat} (h : s i = false) : or_go s t g f i = t i := by
  unfold or_go bt_vis
  rw [h]; rfl
theorem or_tl_le (N i q : Nat) : or_tl N w i q ≤ i + 1 := pu_max_le (fun p _ => by
  split
  · have := or_lv_le (N := N) (w := w) i p
    omega
  · omega)
theorem ct_tallyLongest (hd : 3 ≤ d) (hn : 250 ≤ n) (hI : ob_I κ w) {κ0 : ob_K} (h0 : or_laid κ κ0 w) (hok : or_ok κ.1 w κ.1) : mw_Ct E m_ob_tallyLongest d 0 0 [.ref (mw_b E + 0)] (ob_h E κ0 n r) (fun v h' => v = none ∧ ∃ κ', h' = ob_h E κ' n r ∧ or_row κ κ' w (or_tl κ.1 w κ.1)) mw_no := by
  show mw_W E m_ob_tallyLongest d _ _ 0 0 0 [some (.ref (mw_b E + 0))] [] (ob_h E κ0 n r)
  have h3 := hI.2.2.1
  have hw := hI.1
  have key : ∀ i, i ≤ κ.1 → ∀ κ' x2 x3, or_row κ κ' w (or_tl κ.1 w i) → mw_W E m_ob_tallyLongest d (fun v h' => v = none ∧ ∃ κ', h' = ob_h E κ' n r ∧ or_row κ κ' w (or_tl κ.1 w κ.1)) mw_no 0 0 10 [some (.ref (mw_b E + 0)), some (.int (nI i)), x2, x3] [] (ob_h E κ' n r) := by
    refine mw_down κ.1 (fun i hi ih κ' x2 x3 hrow => ?_)
    have hN := hrow.1.1.1
    refine mw_lo [some (.ref (mw_b E + 0)), some (.int (nI i)), none, none] (by simp [mw_le]) ?_
    refine mw_iload1 d_ob_tallyLongest_10 ?_
    refine mw_aload0 d_ob_tallyLongest_11 ?_
    refine gf_ob_size d_ob_tallyLongest_12 hn rfl ?_
    refine mw_icmp_ge (tgt := 89) d_ob_tallyLongest_15 (by decide) (fun hc => ?_) (fun hc => ?_)
    · rw [hN] at hc
      have e : i = κ.1 := by
        have := (nI_leI (by omega) (by omega)).mp hc
        omega
      subst e
      exact mw_vret d_ob_tallyLongest_89 rfl ⟨rfl, κ', rfl, hrow⟩
    · have hlt : i < κ.1 := by
        rcases Nat.lt_or_ge i κ.1 with z | z
        · exact z
        · rw [hN] at hc; exact absurd (nI_le z (by omega)) hc
      have hl := hok i hlt
      have hslf := or_self hw hl
      generalize hp : or_ln κ.1 w i = p at hl hslf
      have hF : ∀ i, w p i = true → i < κ.1 := fun i hi => (hw p i hi).2
      have hs : ∀ κ1, ob_keep κ κ1 → κ1.2.1 (2 * p + 0) = w p := fun κ1 hk => by
        rw [hk.2 _ (by omega)]
        exact funext (fun i => hI.2.2.2.1 p hl i)
      have inner : ∀ f, f ≤ 128 → ∀ κ', or_row κ κ' w (or_go (w p) (or_tl κ.1 w i) (fun q => max (or_tl κ.1 w i q) (or_tl κ.1 w i p + 1)) f) → mw_W E m_ob_tallyLongest d (fun v h' => v = none ∧ ∃ κ', h' = ob_h E κ' n r ∧ or_row κ κ' w (or_tl κ.1 w κ.1)) mw_no 0 0 36 [some (.ref (mw_b E + 0)), some (.int (nI i)), some (.int (nI p)), some (.int (nI (bt_nx (w p) f)))] [] (ob_h E κ' n r) := by
        refine mw_sdown 128 (fun f hf ih2 κ' hrow => ?_)
        have hN := hrow.1.1.1
        have hle := bt_nx_le (w p) f
        refine mw_iload3 d_ob_tallyLongest_36 ?_
        refine mw_aload0 d_ob_tallyLongest_37 ?_
        refine gf_ob_size d_ob_tallyLongest_38 hn rfl ?_
        refine mw_icmp_ge (tgt := 83) d_ob_tallyLongest_41 (by decide) (fun hc2 => ?_) (fun hc2 => ?_)
        · rw [hN] at hc2
          have hge : κ.1 ≤ bt_nx (w p) f := (nI_leI (by omega) (by omega)).mp hc2
          obtain ⟨-, hall⟩ := bt_nx_N hF hge (by omega)
          rw [or_go_end hall] at hrow
          refine mw_inc1 d_ob_tallyLongest_83 rfl (Nat.le_of_ble_eq_true rfl) ?_
          refine mw_goto (tgt := 10) d_ob_tallyLongest_86 (by decide) ?_
          refine ih hlt κ' _ _ ⟨hrow.1, fun q hq => ?_⟩
          rw [hrow.2 q hq, or_tl_step hw (by rw [hp]; exact hl), hp]
        · have hq : bt_nx (w p) f < κ.1 := by
            rcases Nat.lt_or_ge (bt_nx (w p) f) κ.1 with z | z
            · exact z
            · rw [hN] at hc2; exact absurd (nI_le z (by omega)) hc2
          have h128 : bt_nx (w p) f < 128 := by omega
          have b1 := or_tl_le (w := w) κ.1 i (bt_nx (w p) f)
          have b2 := or_tl_le (w := w) κ.1 i p
          refine mw_aload0 d_ob_tallyLongest_44 ?_
          refine gf_ob_tally d_ob_tallyLongest_45 hn rfl ?_
          refine mw_iload3 d_ob_tallyLongest_48 ?_
          refine mw_aload0 d_ob_tallyLongest_49 ?_
          refine gf_ob_tally d_ob_tallyLongest_50 hn rfl ?_
          refine mw_iload3 d_ob_tallyLongest_53 ?_
          refine ob_il (j := 2) (by omega) (by omega) d_ob_tallyLongest_54 hn ?_
          rw [hrow.2 _ hq, (or_go_at h128).2]
          refine mw_aload0 d_ob_tallyLongest_55 ?_
          refine gf_ob_tally d_ob_tallyLongest_56 hn rfl ?_
          refine mw_iload2 d_ob_tallyLongest_59 ?_
          refine ob_il (j := 2) (by omega) (by omega) d_ob_tallyLongest_60 hn ?_
          rw [hrow.2 _ hl, or_go_no hslf]
          refine mw_iconst (v := nI 1) d_ob_tallyLongest_61 (by decide) ?_
          refine mw_iadd d_ob_tallyLongest_62 ?_
          refine mw_topi (nI_1 _) ?_
          refine mw_cS2e lk_ob_tallyLongest_jm_max d_ob_tallyLongest_63  (Nat.le_of_ble_eq_true rfl) (ct_max (d := d - 1) (by omega) (by omega)) (by omega) (Nat.le_of_ble_eq_true rfl) (Nat.zero_le _) (Nat.zero_le _) ?_
          refine ob_is (j := 2) (by omega) (by omega) d_ob_tallyLongest_66 hn ?_
          have hrow2 := or_row_up (q := bt_nx (w p) f) hrow (t' := or_go (w p) (or_tl κ.1 w i) (fun q => max (or_tl κ.1 w i q) (or_tl κ.1 w i p + 1)) (bt_nx (w p) f + 1)) (fun j hj => or_go_ne h128 hj)
          rw [(or_go_at h128).1] at hrow2
          refine mw_aload0 d_ob_tallyLongest_67 ?_
          refine gf_ob_out d_ob_tallyLongest_68 hn rfl ?_
          refine mw_iload2 d_ob_tallyLongest_71 ?_
          refine ob_al (o := 0) (by omega) (by omega) d_ob_tallyLongest_72 hn ?_
          refine mw_iload3 d_ob_tallyLongest_73 ?_
          refine mw_iconst (v := nI 1) d_ob_tallyLongest_74 (by decide) ?_
          refine mw_iadd d_ob_tallyLongest_75 ?_
          refine mw_topi (nI_1 _) ?_
          refine mw_cV1e lk_ob_tallyLongest_ps_next d_ob_tallyLongest_76 (ob_lt hn (by omega)) (ob_gS (by omega)) (Nat.le_of_ble_eq_true rfl) (oc_next (d := d - 1) (by omega) hn (by omega) (by omega)) (by omega) (Nat.le_of_ble_eq_true rfl) (Nat.zero_le _) (Nat.zero_le _) ?_
          refine mw_topi (congrArg (fun s => nI (bt_nx s _)) (hs _ hrow2.1.1)) ?_
          refine mw_istore3 d_ob_tallyLongest_79 rfl (Nat.le_of_ble_eq_true rfl) ?_
          refine mw_goto (tgt := 36) d_ob_tallyLongest_80 (by decide) ?_
          exact mw_bud (Nat.zero_le _) (Nat.zero_le _) (ih2 _ (by have := (bt_nx_in h128).2; omega) (by omega) _ hrow2)
      refine mw_aload0 d_ob_tallyLongest_18 ?_
      refine gf_ob_line d_ob_tallyLongest_19 hn rfl ?_
      refine mw_iload1 d_ob_tallyLongest_22 ?_
      refine ob_il (j := 0) (by omega) (by omega) d_ob_tallyLongest_23 hn ?_
      rw [hrow.1.2 i hlt, hp]
      refine mw_istore2 d_ob_tallyLongest_24 rfl (Nat.le_of_ble_eq_true rfl) ?_
      refine mw_aload0 d_ob_tallyLongest_25 ?_
      refine gf_ob_out d_ob_tallyLongest_26 hn rfl ?_
      refine mw_iload2 d_ob_tallyLongest_29 ?_
      refine ob_al (o := 0) (by omega) (by omega) d_ob_tallyLongest_30 hn ?_
      refine mw_iconst (v := nI 0) d_ob_tallyLongest_31 (by decide) ?_
      refine mw_cV1e lk_ob_tallyLongest_ps_next d_ob_tallyLongest_32 (ob_lt hn (by omega)) (ob_gS (by omega)) (Nat.le_of_ble_eq_true rfl) (oc_next (d := d - 1) (f := 0) (by omega) hn (by omega) (by omega)) (by omega) (Nat.le_of_ble_eq_true rfl) (Nat.zero_le _) (Nat.zero_le _) ?_
      refine mw_topi (congrArg (fun s => nI (bt_nx s _)) (hs _ hrow.1.1)) ?_
      refine mw_istore3 d_ob_tallyLongest_35 rfl (Nat.le_of_ble_eq_true rfl) ?_
      exact mw_bud (Nat.zero_le _) (Nat.zero_le _) (inner 0 (by omega) κ' (by rw [or_go0]; exact hrow))
  refine mw_lo [some (.ref (mw_b E + 0)), none, none, none] (by simp [mw_le]) ?_
  refine mw_aload0 d_ob_tallyLongest_0 ?_
  refine gf_ob_tally d_ob_tallyLongest_1 hn rfl ?_
  refine mw_iconst (v := nI 0) d_ob_tallyLongest_4 (by decide) ?_
  refine mw_cS2 (d' := d - 1) lk_ob_tallyLongest_ja_fill d_ob_tallyLongest_5 (Nat.le_of_ble_eq_true rfl) (ct_fill hn) (by omega) (Nat.le_of_ble_eq_true rfl) (Nat.zero_le _) (Nat.zero_le _) ?_ (fun _ _ q => q.elim)
  rintro v h' ⟨rfl, R, rfl, hR⟩
  show mw_W E m_ob_tallyLongest d _ _ _ _ _ _ [] _
  refine mw_iconst (v := nI 0) d_ob_tallyLongest_8 (by decide) ?_
  refine mw_istore1 d_ob_tallyLongest_9 rfl (Nat.le_of_ble_eq_true rfl) ?_
  refine mw_bud (Nat.zero_le _) (Nat.zero_le _) (key 0 (by omega) _ _ _ ⟨⟨⟨h0.1.1, h0.1.2⟩, fun j hj => ?_⟩, fun q hq => ?_⟩)
  · rw [ob_r2n _ _ _ _ (show (0 : Nat) ≠ 2 by decide)]; exact h0.2 j hj
  · rw [ob_r2, hR q (by omega), or_tl0]
end Tally
