/-! OrderBench: gate, count, places. -/
section Pub2
variable {E : mw_E} {d n : Nat} {κ : ob_K} {r : Nat → mw_O} {w : Nat → Nat → Bool}
/-- what gate must answer -/
def gt_R (N : Nat) (w : Nat → Nat → Bool) (a b : Nat) (x : Int32) : Prop := if a = b ∨ gp_T N w a b = false then x = -1 else ∃ g, g < N ∧ gp_B N w a b N g ∧ x = nI g
theorem gt_R_uniq {N a b : Nat} {x y : Int32} (hx : gt_R N w a b x) (hy : gt_R N w a b y) : x = y := by
  unfold gt_R at hx hy
  split at hx
  · rename_i h; rw [if_pos h] at hy; rw [hx, hy]
  · rename_i h
    rw [if_neg h] at hy
    obtain ⟨g, h1, h2, rfl⟩ := hx
    obtain ⟨g', h3, h4, rfl⟩ := hy
    rw [gp_B_uniq h1 h3 h2 h4]
def gt_inv (N : Nat) (w : Nat → Nat → Bool) (a b k : Nat) (last most : Int32) : Prop := ((∀ c, c < k → gp_G N w a b c = false) ∧ last = -1 ∧ most = -1) ∨ ∃ g, g < k ∧ gp_B N w a b k g ∧ last = nI g ∧ most = nI (gp_n N w a g)
theorem gt_skip {N a b k : Nat} {last most : Int32} (h : gt_inv N w a b k last most) (hG : gp_G N w a b k = false) : gt_inv N w a b (k + 1) last most := by
  rcases h with ⟨h1, h2, h3⟩ | ⟨g, h1, h2, h3⟩
  · exact Or.inl ⟨pu_fnd_S h1 hG, h2, h3⟩
  · exact Or.inr ⟨g, by omega, gp_B_keep h2 (fun z => by rw [hG] at z; cases z), h3⟩
theorem ct_lastGate {a b : Nat} (hd : 5 ≤ d) (hn : 250 ≤ n) (hI : ob_I κ w) (ha : a < κ.1) (hb : b < κ.1) (hab : ¬ a = b) (hT : gp_T κ.1 w a b = true) : mw_Ct E m_ob_lastGate d 0 0 [.ref (mw_b E + 0), .int (nI a), .int (nI b)] (ob_h E κ n r) (fun v h' => ∃ x, v = some (.int x) ∧ gt_R κ.1 w a b x ∧ ∃ κ', h' = ob_h E κ' n r ∧ ob_keep κ κ') mw_no := by
  show mw_W E m_ob_lastGate d _ _ 0 0 0 [some (.ref (mw_b E + 0)), some (.int (nI a)), some (.int (nI b))] [] (ob_h E κ n r)
  refine mw_lo [some (.ref (mw_b E + 0)), some (.int (nI a)), some (.int (nI b)), none, none, none] (by simp [mw_le]) ?_
  have h3 := hI.2.2.1
  have key : ∀ k, k ≤ κ.1 → ∀ last most κ', ob_keep κ κ' → gt_inv κ.1 w a b k last most → mw_W E m_ob_lastGate d (fun v h' => ∃ x, v = some (.int x) ∧ gt_R κ.1 w a b x ∧ ∃ κ', h' = ob_h E κ' n r ∧ ob_keep κ κ') mw_no 0 0 8 [some (.ref (mw_b E + 0)), some (.int (nI a)), some (.int (nI b)), some (.int last), some (.int most), some (.int (nI k))] [] (ob_h E κ' n r) := by
    refine mw_down κ.1 (fun k hk ih last most κ' hkp hinv => ?_)
    have hN := hkp.1
    refine mw_iload5 d_ob_lastGate_8 ?_
    refine mw_aload0 d_ob_lastGate_10 ?_
    refine gf_ob_size d_ob_lastGate_11 hn rfl ?_
    refine mw_icmp_ge (tgt := 69) d_ob_lastGate_14 (by decide) (fun hc => ?_) (fun hc => ?_)
    · rw [hN] at hc
      have e : k = κ.1 := by
        have := (nI_leI (by omega) (by omega)).mp hc
        omega
      subst e
      refine mw_iload3 d_ob_lastGate_69 ?_
      refine mw_iret d_ob_lastGate_70 rfl rfl ⟨last, rfl, ?_, κ', rfl, hkp⟩
      unfold gt_R
      rw [if_neg (fun z => by rcases z with z | z; exact hab z; rw [hT] at z; cases z)]
      rcases hinv with ⟨h1, -, -⟩ | ⟨g, h1, h2, h4, -⟩
      · have : gp_G κ.1 w a b a = true := gp_G_iff.mpr ⟨hab, gp_A_self hI.1 ha b⟩
        rw [h1 a ha] at this; cases this
      · exact ⟨g, h1, h2, h4⟩
    · have hlt : k < κ.1 := by
        rcases Nat.lt_or_ge k κ.1 with z | z
        · exact z
        · rw [hN] at hc; exact absurd (nI_le z (by omega)) hc
      have k63 : ∀ last most κ' bc bs, ob_keep κ κ' → gt_inv κ.1 w a b (k + 1) last most → mw_W E m_ob_lastGate d (fun v h' => ∃ x, v = some (.int x) ∧ gt_R κ.1 w a b x ∧ ∃ κ', h' = ob_h E κ' n r ∧ ob_keep κ κ') mw_no bc bs 63 [some (.ref (mw_b E + 0)), some (.int (nI a)), some (.int (nI b)), some (.int last), some (.int most), some (.int (nI k))] [] (ob_h E κ' n r) := by
        intro last most κ' bc bs hkp hinv
        refine mw_inc5 d_ob_lastGate_63 rfl (Nat.le_of_ble_eq_true rfl) ?_
        refine mw_goto (tgt := 8) d_ob_lastGate_66 (by decide) ?_
        exact mw_bud (Nat.zero_le _) (Nat.zero_le _) (ih hlt last most κ' hkp hinv)
      refine mw_iload5 d_ob_lastGate_17 ?_
      refine mw_iload2 d_ob_lastGate_19 ?_
      refine mw_icmp_eq (tgt := 63) d_ob_lastGate_20 (by decide) (fun hc2 => ?_) (fun hc2 => ?_)
      · have e : k = b := nI_inj (by omega) (by omega) hc2
        subst e
        refine k63 _ _ _ _ _ hkp (gt_skip hinv ?_)
        simp [gp_G]
      · have hkb : ¬ k = b := fun z => hc2 (by rw [z])
        refine mw_aload0 d_ob_lastGate_23 ?_
        refine mw_aload0 d_ob_lastGate_24 ?_
        refine gf_ob_out d_ob_lastGate_25 hn rfl ?_
        refine mw_iload1 d_ob_lastGate_28 ?_
        refine mw_iload2 d_ob_lastGate_29 ?_
        refine mw_iload5 d_ob_lastGate_30 ?_
        refine ob_srch (og := some b) (os := some k) lk_ob_lastGate_ob_search d_ob_lastGate_32 (by omega) hn (hI.keep hkp) (by omega) (gl_ok1 (by omega)) (gl_ok1 (by omega)) (Nat.le_of_ble_eq_true rfl) (fun κ1 hk1 hr1 => ?_)
        rw [hN] at hr1 ⊢
        have hk2 := hkp.trans hk1.ob
        have hdn : bf_d κ.1 w (gl_s (some k)) a b = -1 ↔ gp_A κ.1 w a k b = false := bf_d_ne hI.1 ha h3
        refine mw_iconst (v := (-1)) d_ob_lastGate_35 (by decide) ?_
        refine mw_icmp_ne (tgt := 63) d_ob_lastGate_36 (by decide) (fun hc3 => ?_) (fun hc3 => ?_)
        · refine k63 _ _ _ _ _ hk2 (gt_skip hinv ?_)
          cases e : gp_A κ.1 w a k b with
          | true => simp [gp_G, e]
          | false => exact absurd (hdn.mpr e) hc3
        · have hA : gp_A κ.1 w a k b = false := hdn.mp hc3
          have hG : gp_G κ.1 w a b k = true := gp_G_iff.mpr ⟨hkb, hA⟩
          have hr2 : κ1.2.1 240 = gp_A κ.1 w a k := hr1 hc3
          have hcn : pu_cnt (κ1.2.1 240) 128 = gp_n κ.1 w a k := by
            rw [hr2]
            exact pu_cnt_N (fun i hi => bf_r_lt hI.1 ha hi) 128 (by omega)
          have hnb : gp_n κ.1 w a k ≤ 120 := Nat.le_trans (pu_cnt_le _ _) h3
          refine mw_aload0 d_ob_lastGate_39 ?_
          refine gf_ob_reached d_ob_lastGate_40 hn rfl ?_
          refine mw_cV0e lk_ob_lastGate_ps_size d_ob_lastGate_43 (ob_lt hn (by omega)) (ob_gS (by omega)) (Nat.le_of_ble_eq_true rfl) (oc_size (d := d - 1) (by omega) hn (by omega)) (by omega) (Nat.le_of_ble_eq_true rfl) (Nat.zero_le _) (Nat.zero_le _) ?_
          rw [hcn]
          refine mw_iload4 d_ob_lastGate_46 ?_
          refine mw_icmp_le (tgt := 63) d_ob_lastGate_48 (by decide) (fun hc4 => ?_) (fun hc4 => ?_)
          · refine k63 _ _ _ _ _ hk2 ?_
            rcases hinv with ⟨h1, h2, h4⟩ | ⟨g, h1, h2, h4, h5⟩
            · rw [h4] at hc4
              rw [Int32.le_iff_toInt_le, nI_toInt (by omega)] at hc4
              have : (-1 : Int32).toInt = -1 := by decide
              omega
            · subst h4
              rw [h5] at hc4
              have hgn : gp_n κ.1 w a g ≤ 120 := Nat.le_trans (pu_cnt_le _ _) h3
              have hle := (nI_leI (by omega) (by omega)).mp hc4
              refine Or.inr ⟨g, by omega, gp_B_keep h2 (fun _ hne => ?_), rfl, h5⟩
              rcases gp_ne hI.1 ha hT hne hA (gp_G_iff.mp h2.1).2 with z | z
              · exact z
              · omega
          · refine mw_aload0 d_ob_lastGate_51 ?_
            refine gf_ob_reached d_ob_lastGate_52 hn rfl ?_
            refine mw_cV0e lk_ob_lastGate_ps_size d_ob_lastGate_55 (ob_lt hn (by omega)) (ob_gS (by omega)) (Nat.le_of_ble_eq_true rfl) (oc_size (d := d - 1) (by omega) hn (by omega)) (by omega) (Nat.le_of_ble_eq_true rfl) (Nat.zero_le _) (Nat.zero_le _) ?_
            rw [hcn]
            refine mw_istore4 d_ob_lastGate_58 rfl (Nat.le_of_ble_eq_true rfl) ?_
            refine mw_iload5 d_ob_lastGate_60 ?_
            refine mw_istore3 d_ob_lastGate_62 rfl (Nat.le_of_ble_eq_true rfl) ?_
            refine k63 _ _ _ _ _ hk2 ?_
            rcases hinv with ⟨h1, h2, h4⟩ | ⟨g, h1, h2, h4, h5⟩
            · exact Or.inr ⟨k, by omega, gp_B_first h1 hG, rfl, rfl⟩
            · rw [h5] at hc4
              have hgn : gp_n κ.1 w a g ≤ 120 := Nat.le_trans (pu_cnt_le _ _) h3
              refine Or.inr ⟨k, by omega, gp_B_new h2 hG ?_, rfl, rfl⟩
              rcases Nat.lt_or_ge (gp_n κ.1 w a g) (gp_n κ.1 w a k) with z | z
              · exact z
              · exact absurd (nI_le z (by omega)) hc4
  refine mw_iconst (v := (-1)) d_ob_lastGate_0 (by decide) ?_
  refine mw_istore3 d_ob_lastGate_1 rfl (Nat.le_of_ble_eq_true rfl) ?_
  refine mw_iconst (v := (-1)) d_ob_lastGate_2 (by decide) ?_
  refine mw_istore4 d_ob_lastGate_3 rfl (Nat.le_of_ble_eq_true rfl) ?_
  refine mw_iconst (v := nI 0) d_ob_lastGate_5 (by decide) ?_
  refine mw_istore5 d_ob_lastGate_6 rfl (Nat.le_of_ble_eq_true rfl) ?_
  exact key 0 (by omega) _ _ κ (ob_keep.refl κ) (Or.inl ⟨fun c hc => by omega, rfl, rfl⟩)
theorem ct_gate {a b : Nat} (hd : 6 ≤ d) (hn : 250 ≤ n) (hI : ob_I κ w) (ha : a < κ.1) (hb : b < κ.1) : mw_Ct E m_ob_gate d 0 0 [.ref (mw_b E + 0), .int (nI a), .int (nI b)] (ob_h E κ n r) (fun v h' => ∃ x, v = some (.int x) ∧ gt_R κ.1 w a b x ∧ ∃ κ', h' = ob_h E κ' n r ∧ ob_keep κ κ') mw_no := by
  show mw_W E m_ob_gate d _ _ 0 0 0 [some (.ref (mw_b E + 0)), some (.int (nI a)), some (.int (nI b))] [] (ob_h E κ n r)
  have h3 := hI.2.2.1
  refine mw_aload0 d_ob_gate_0 ?_
  refine mw_iload1 d_ob_gate_1 ?_
  refine ob_must lk_ob_gate_ob_mustBePlace d_ob_gate_2 hn h3 ha (by omega) (Nat.le_of_ble_eq_true rfl) ?_
  refine mw_aload0 d_ob_gate_5 ?_
  refine mw_iload2 d_ob_gate_6 ?_
  refine ob_must lk_ob_gate_ob_mustBePlace d_ob_gate_7 hn h3 hb (by omega) (Nat.le_of_ble_eq_true rfl) ?_
  have k30 : (a = b ∨ gp_T κ.1 w a b = false) → ∀ κ' bc bs, ob_keep κ κ' → mw_W E m_ob_gate d (fun v h' => ∃ x, v = some (.int x) ∧ gt_R κ.1 w a b x ∧ ∃ κ', h' = ob_h E κ' n r ∧ ob_keep κ κ') mw_no bc bs 30 [some (.ref (mw_b E + 0)), some (.int (nI a)), some (.int (nI b))] [] (ob_h E κ' n r) := by
    intro hz κ' bc bs hkp
    refine mw_iconst (v := (-1)) d_ob_gate_30 (by decide) ?_
    refine mw_iret d_ob_gate_31 rfl rfl ⟨-1, rfl, ?_, κ', rfl, hkp⟩
    unfold gt_R
    rw [if_pos hz]
  refine mw_iload1 d_ob_gate_10 ?_
  refine mw_iload2 d_ob_gate_11 ?_
  refine mw_icmp_eq (tgt := 30) d_ob_gate_12 (by decide) (fun hc => k30 (Or.inl (nI_inj (by omega) (by omega) hc)) _ _ _ (ob_keep.refl κ)) (fun hc => ?_)
  refine mw_aload0 d_ob_gate_15 ?_
  refine mw_aload0 d_ob_gate_16 ?_
  refine gf_ob_out d_ob_gate_17 hn rfl ?_
  refine mw_iload1 d_ob_gate_20 ?_
  refine mw_iload2 d_ob_gate_21 ?_
  refine mw_iconst (v := (-1)) d_ob_gate_22 (by decide) ?_
  refine ob_srch (og := some b) (os := none) lk_ob_gate_ob_search d_ob_gate_23 (by omega) hn hI ha (gl_ok1 hb) gl_ok0 (Nat.le_of_ble_eq_true rfl) (fun κ1 hk _ => ?_)
  have hdn : bf_d κ.1 w (gl_s none) a b = -1 ↔ gp_T κ.1 w a b = false := bf_d_ne hI.1 ha h3
  refine mw_iconst (v := (-1)) d_ob_gate_26 (by decide) ?_
  refine mw_icmp_ne (tgt := 32) d_ob_gate_27 (by decide) (fun hc2 => ?_) (fun hc2 => k30 (Or.inr (hdn.mp hc2)) _ _ _ hk.ob)
  have hN := hk.ob.1
  have hTt : gp_T κ.1 w a b = true := by
    cases e : gp_T κ.1 w a b with
    | true => rfl
    | false => exact absurd (hdn.mpr e) hc2
  refine mw_aload0 d_ob_gate_32 ?_
  refine mw_iload1 d_ob_gate_33 ?_
  refine mw_iload2 d_ob_gate_34 ?_
  refine mw_cV2 (d' := d - 1) lk_ob_gate_ob_lastGate d_ob_gate_35 (ob_lt hn (by decide)) ob_g0 (Nat.le_of_ble_eq_true rfl) (ct_lastGate (w := w) (by omega) hn (hI.keep hk.ob) (by omega) (by omega) (fun z => hc (by rw [z])) (by rw [hN]; exact hTt)) (by omega) (Nat.le_of_ble_eq_true rfl) (Nat.zero_le _) (Nat.zero_le _) ?_ (fun _ _ q => q.elim)
  rintro v h' ⟨x, rfl, hx, κ2, rfl, hk2⟩
  rw [hN] at hx
  show mw_W E m_ob_gate d _ _ _ _ _ _ (Value.int _ :: []) _
  exact mw_iret d_ob_gate_38 rfl rfl ⟨x, rfl, hx, κ2, rfl, hk.ob.trans hk2⟩
/-- what count must answer -/
def ob_c (N : Nat) (w : Nat → Nat → Bool) (x : Int32) : Int32 := if x = nI 0 then nI N else if x = nI 1 then nI (pu_sum (fun p => pu_cnt (w p) N) N) else if x = nI 2 then nI (pu_cnt (fun p => !pu_ex (fun q => w q p) N) N) else if x = nI 3 then nI (pu_cnt (gp_c N w) N) else -1
theorem ct_count {x : Int32} (hd : 7 ≤ d) (hn : 250 ≤ n) (hI : ob_I κ w) : mw_Ct E m_ob_count d 0 0 [.ref (mw_b E + 0), .int x] (ob_h E κ n r) (ob_Q E κ n r (some (.int (ob_c κ.1 w x)))) mw_no := by
  show mw_W E m_ob_count d _ _ 0 0 0 [some (.ref (mw_b E + 0)), some (.int x)] [] (ob_h E κ n r)
  refine mw_iload1 d_ob_count_0 ?_
  have hout : (x.toInt < 0 ∨ 3 < x.toInt) → mw_W E m_ob_count d (ob_Q E κ n r (some (.int (ob_c κ.1 w x)))) mw_no 0 0 1 [some (.ref (mw_b E + 0)), some (.int x)] [.int x] (ob_h E κ n r) := by
    intro h
    refine mw_tabOut (tgt := 52) d_ob_count_1 h (by decide) ?_
    refine mw_iconst (v := (-1)) d_ob_count_52 (by decide) ?_
    refine mw_iret d_ob_count_53 rfl rfl ⟨?_, κ, rfl, ob_keep.refl κ⟩
    have hne : ∀ j, j < 4 → ¬ x = nI j := fun j hj z => by
      rw [z, nI_toInt (by omega)] at h
      omega
    unfold ob_c
    rw [if_neg (hne 0 (by decide)), if_neg (hne 1 (by decide)), if_neg (hne 2 (by decide)), if_neg (hne 3 (by decide))]
  rcases pk_ix x (n := 4) (by decide) with h | h | ⟨j, hj, rfl⟩
  · refine hout (Or.inl ?_)
    rw [Int32.lt_iff_toInt_lt, Int32.toInt_zero] at h
    exact h
  · refine hout (Or.inr ?_)
    rw [Int32.le_iff_toInt_le, nI_toInt (by decide)] at h
    omega
  · match j, hj with
    | 0, _ =>
      refine mw_tabIn (tgt := 32) (off := 31) d_ob_count_1 (by decide) (by decide) (by decide) (by decide) ?_
      refine mw_aload0 d_ob_count_32 ?_
      refine gf_ob_size d_ob_count_33 hn rfl ?_
      exact mw_iret d_ob_count_36 rfl rfl ⟨rfl, κ, rfl, ob_keep.refl κ⟩
    | 1, _ =>
      refine mw_tabIn (tgt := 37) (off := 36) d_ob_count_1 (by decide) (by decide) (by decide) (by decide) ?_
      refine mw_aload0 d_ob_count_37 ?_
      refine mw_cV0k lk_ob_count_ob_countWays d_ob_count_38 hn (Nat.le_of_ble_eq_true rfl) (ct_countWays (d := d - 1) (by omega) hn hI) (by omega) (Nat.le_of_ble_eq_true rfl) (Nat.zero_le _) (Nat.zero_le _) ?_
      intro κ1 hk1
      exact mw_iret d_ob_count_41 rfl rfl ⟨rfl, κ1, rfl, hk1⟩
    | 2, _ =>
      refine mw_tabIn (tgt := 42) (off := 41) d_ob_count_1 (by decide) (by decide) (by decide) (by decide) ?_
      refine mw_aload0 d_ob_count_42 ?_
      refine mw_cV0k lk_ob_count_ob_countWithoutWayTo d_ob_count_43 hn (Nat.le_of_ble_eq_true rfl) (ct_countWithoutWayTo (d := d - 1) (by omega) hn hI) (by omega) (Nat.le_of_ble_eq_true rfl) (Nat.zero_le _) (Nat.zero_le _) ?_
      intro κ1 hk1
      exact mw_iret d_ob_count_46 rfl rfl ⟨rfl, κ1, rfl, hk1⟩
    | 3, _ =>
      refine mw_tabIn (tgt := 47) (off := 46) d_ob_count_1 (by decide) (by decide) (by decide) (by decide) ?_
      refine mw_aload0 d_ob_count_47 ?_
      refine mw_cV0k lk_ob_count_ob_countOnCircles d_ob_count_48 hn (Nat.le_of_ble_eq_true rfl) (ct_countOnCircles (d := d - 1) (by omega) hn hI) (by omega) (Nat.le_of_ble_eq_true rfl) (Nat.zero_le _) (Nat.zero_le _) ?_
      intro κ1 hk1
      exact mw_iret d_ob_count_51 rfl rfl ⟨rfl, κ1, rfl, hk1⟩
theorem ct_placesX {x : Int32} (hd : 6 ≤ d) (hn : 250 ≤ n) (hx : ¬ ∃ m, 1 ≤ m ∧ m ≤ 120 ∧ x = nI m) : mw_Ct E m_ob_places d 1 6 [.ref (mw_b E + 0), .int x] (ob_h E κ n r) ob_no (ob_X E κ n r 4) := by
  show mw_W E m_ob_places d _ _ 1 6 0 [some (.ref (mw_b E + 0)), some (.int x)] [] (ob_h E κ n r)
  have key : mw_W E m_ob_places d ob_no (ob_X E κ n r 4) 1 6 11 [some (.ref (mw_b E + 0)), some (.int x)] [] (ob_h E κ n r) := by
    refine mw_throw (cx := 4) (T9 := T_no) rfl (by decide +kernel) (by decide +kernel) ow_ia tb_175 tb_7 d_ob_places_11 d_ob_places_14 d_ob_places_15 d_ob_places_18 (fun x hx => nomatch hx) rfl (by omega) (Nat.le_of_ble_eq_true rfl) (Nat.le_refl _) (Nat.le_refl _) ?_
    exact ⟨rfl, κ, ob_exc hn 4, ob_keep.refl κ⟩
  refine mw_iload1 d_ob_places_0 ?_
  refine mw_iconst (v := nI 1) d_ob_places_1 (by decide) ?_
  refine mw_icmp_lt (tgt := 11) d_ob_places_2 (by decide) (fun hc => key) (fun hc => ?_)
  refine mw_iload1 d_ob_places_5 ?_
  refine mw_bipush (v := nI 120) d_ob_places_6 (by decide) ?_
  refine mw_icmp_le (tgt := 19) d_ob_places_8 (by decide) (fun hc2 => ?_) (fun hc2 => key)
  exfalso
  rw [Int32.lt_iff_toInt_lt, nI_toInt (by decide)] at hc
  obtain ⟨j, hj, rfl⟩ := nI_of (x := x) (fun z => by
    rw [Int32.lt_iff_toInt_lt, Int32.toInt_zero] at z
    omega)
  rw [nI_toInt hj] at hc
  exact hx ⟨j, by omega, (nI_leI hj (by decide)).mp hc2, rfl⟩
theorem ct_places {m : Nat} (hd : 1 ≤ d) (hn : 250 ≤ n) (h1 : 1 ≤ m) (h2 : m ≤ 120) : mw_Ct E m_ob_places d 0 0 [.ref (mw_b E + 0), .int (nI m)] (ob_h E κ n r) (fun v h' => v = some (.int (nI κ.1)) ∧ ∃ κ', h' = ob_h E κ' n r ∧ κ'.1 = m ∧ ob_I κ' (fun _ _ => false)) mw_no := by
  show mw_W E m_ob_places d _ _ 0 0 0 [some (.ref (mw_b E + 0)), some (.int (nI m))] [] (ob_h E κ n r)
  refine mw_lo [some (.ref (mw_b E + 0)), some (.int (nI m)), none, none] (by simp [mw_le]) ?_
  have key : ∀ k, k ≤ 120 → ∀ κ', κ'.1 = m → (∀ j, j < 2 * k → κ'.2.1 j = fun _ => false) → mw_W E m_ob_places d (fun v h' => v = some (.int (nI κ.1)) ∧ ∃ κ', h' = ob_h E κ' n r ∧ κ'.1 = m ∧ ob_I κ' (fun _ _ => false)) mw_no 0 0 31 [some (.ref (mw_b E + 0)), some (.int (nI m)), some (.int (nI κ.1)), some (.int (nI k))] [] (ob_h E κ' n r) := by
    refine mw_down 120 (fun k hk ih κ' hm hem => ?_)
    refine mw_iload3 d_ob_places_31 ?_
    refine mw_bipush (v := nI 120) d_ob_places_32 (by decide) ?_
    refine mw_icmp_ge (tgt := 61) d_ob_places_34 (by decide) (fun hc => ?_) (fun hc => ?_)
    · have e : k = 120 := by
        have := (nI_leI (by decide) (by omega)).mp hc
        omega
      refine mw_iload2 d_ob_places_61 ?_
      have hI : ob_I κ' (fun _ _ => false) := by
        refine ⟨fun p q z => Bool.noConfusion z, by omega, by omega, fun p hp i => ?_, fun p hp i => ?_⟩
        · rw [hem (2 * p + 0) (by omega)]
        · rw [hem (2 * p + 1) (by omega)]; rfl
      exact mw_iret d_ob_places_62 rfl rfl ⟨rfl, κ', rfl, hm, hI⟩
    · have hlt : k < 120 := by
        rcases Nat.lt_or_ge k 120 with z | z
        · exact z
        · exact absurd (nI_le z (by omega)) hc
      refine mw_aload0 d_ob_places_37 ?_
      refine gf_ob_out d_ob_places_38 hn rfl ?_
      refine mw_iload3 d_ob_places_41 ?_
      refine ob_al (o := 0) (by omega) (by omega) d_ob_places_42 hn ?_
      refine mw_cV0v lk_ob_places_ps_clear d_ob_places_43 (ob_lt hn (by omega)) (ob_gS (by omega)) (Nat.le_of_ble_eq_true rfl) (oc_clear (d := d - 1) hn (by omega)) (by omega) (Nat.le_of_ble_eq_true rfl) (Nat.zero_le _) (Nat.zero_le _) ?_
      refine mw_aload0 d_ob_places_46 ?_
      refine gf_ob_into d_ob_places_47 hn rfl ?_
      refine mw_iload3 d_ob_places_50 ?_
      refine ob_al (o := 1) (by omega) (by omega) d_ob_places_51 hn ?_
      refine mw_cV0v lk_ob_places_ps_clear d_ob_places_52 (ob_lt hn (by omega)) (ob_gS (by omega)) (Nat.le_of_ble_eq_true rfl) (oc_clear (d := d - 1) hn (by omega)) (by omega) (Nat.le_of_ble_eq_true rfl) (Nat.zero_le _) (Nat.zero_le _) ?_
      refine mw_inc3 d_ob_places_55 rfl (Nat.le_of_ble_eq_true rfl) ?_
      refine mw_goto (tgt := 31) d_ob_places_58 (by decide) ?_
      refine mw_bud (Nat.zero_le _) (Nat.zero_le _) (ih hlt _ hm (fun j hj => ?_))
      show va_up (va_up κ'.2.1 (2 * k + 0) (fun _ => false)) (2 * k + 1) (fun _ => false) j = fun _ => false
      by_cases e1 : j = 2 * k + 1
      · rw [e1, mw_up_s]
      · rw [mw_up_n _ _ e1]
        by_cases e2 : j = 2 * k + 0
        · rw [e2, mw_up_s]
        · rw [mw_up_n _ _ e2]
          exact hem j (by omega)
  refine mw_iload1 d_ob_places_0 ?_
  refine mw_iconst (v := nI 1) d_ob_places_1 (by decide) ?_
  refine mw_icmp_lt (tgt := 11) d_ob_places_2 (by decide) (fun hc => absurd hc (nI_nlt (by omega) (by omega))) (fun hc => ?_)
  refine mw_iload1 d_ob_places_5 ?_
  refine mw_bipush (v := nI 120) d_ob_places_6 (by decide) ?_
  refine mw_icmp_le (tgt := 19) d_ob_places_8 (by decide) (fun hc2 => ?_) (fun hc2 => absurd (nI_le h2 (by decide)) hc2)
  refine mw_aload0 d_ob_places_19 ?_
  refine gf_ob_size d_ob_places_20 hn rfl ?_
  refine mw_istore2 d_ob_places_23 rfl (Nat.le_of_ble_eq_true rfl) ?_
  refine mw_aload0 d_ob_places_24 ?_
  refine mw_iload1 d_ob_places_25 ?_
  refine mw_putf (k := 0) fp_ob_size d_ob_places_26 (ob_lt hn (by decide)) ob_g0 rfl rfl ?_
  rw [ob_pN]
  refine mw_iconst (v := nI 0) d_ob_places_29 (by decide) ?_
  refine mw_istore3 d_ob_places_30 rfl (Nat.le_of_ble_eq_true rfl) ?_
  exact key 0 (by omega) _ rfl (fun j hj => by omega)
end Pub2
