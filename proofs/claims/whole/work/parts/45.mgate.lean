/-! The reference: gate and count. -/
section MGate
variable {E : mw_E} {d n : Nat} {μ : md_K} {r : Nat → mw_O} {w : Nat → Nat → Bool}
theorem ct_mdgate {a b : Nat} (hd : 2 ≤ d) (hn : 497 ≤ n) (hI : md_I μ w) (ha : a < μ.2.1) (hb : b < μ.2.1) : mw_Ct E m_md_gate d 0 0 [.ref (mw_b E + 250), .int (nI a), .int (nI b)] (md_h E μ n r) (fun v h' => ∃ x, v = some (.int x) ∧ gt_R μ.2.1 w a b x ∧ ∃ μ', h' = md_h E μ' n r ∧ md_keep μ μ' ∧ μ'.1 = nI 0) mw_no := by
  show mw_W E m_md_gate d _ _ 0 0 0 [some (.ref (mw_b E + 250)), some (.int (nI a)), some (.int (nI b))] [] (md_h E μ n r)
  refine mw_lo [some (.ref (mw_b E + 250)), some (.int (nI a)), some (.int (nI b)), none, none] (by simp [mw_le]) ?_
  have h120 := hI.2.2.1
  have hw := hI.1
  have hI0 : md_I (nI 0, μ.2) w := hI.keep (md_keep_t μ _)
  generalize hQ : (fun (v : Option Value) (h' : mw_H) => ∃ x, v = some (.int x) ∧ gt_R μ.2.1 w a b x ∧ ∃ μ', h' = md_h E μ' n r ∧ md_keep μ μ' ∧ μ'.1 = nI 0) = Q
  refine mw_aload0 d_md_gate_0 ?_
  refine mw_iload1 d_md_gate_1 ?_
  refine mw_cV1e lk_md_gate_md_none d_md_gate_2 (md_lt hn (by decide)) md_gF (Nat.le_of_ble_eq_true rfl) (ct_mdnone (d := d - 1) (by omega) hn h120 ha) (by omega) (Nat.le_of_ble_eq_true rfl) (Nat.zero_le _) (Nat.zero_le _) ?_
  refine mw_if_ne (tgt := 16) d_md_gate_5 (by decide) (fun hc => absurd bI_f0 hc) (fun hc => ?_)
  refine mw_aload0 d_md_gate_8 ?_
  refine mw_iload2 d_md_gate_9 ?_
  refine mw_cV1e lk_md_gate_md_none d_md_gate_10 (md_lt hn (by decide)) md_gF (Nat.le_of_ble_eq_true rfl) (ct_mdnone (d := d - 1) (μ := (nI 0, μ.2)) (by omega) hn h120 hb) (by omega) (Nat.le_of_ble_eq_true rfl) (Nat.zero_le _) (Nat.zero_le _) ?_
  refine mw_if_eq (tgt := 18) d_md_gate_13 (by decide) (fun hc => ?_) (fun hc => absurd bI_f0 hc)
  refine mw_aload0 d_md_gate_18 ?_
  refine mw_iload1 d_md_gate_19 ?_
  refine mw_iconst (v := (-1)) d_md_gate_20 (by decide) ?_
  refine mw_cV2 (d' := d - 1) lk_md_gate_md_from d_md_gate_21 (md_lt hn (by decide)) md_gF (Nat.le_of_ble_eq_true rfl) (ct_from (w := w) (μ := (nI 0, μ.2)) (os := none) hn hI0 ha gl_ok0) (by omega) (Nat.le_of_ble_eq_true rfl) (Nat.zero_le _) (Nat.zero_le _) ?_ (fun _ _ q => q.elim)
  rintro v h' ⟨rfl, R, rfl, hR⟩
  show mw_W E m_md_gate d _ _ _ _ _ _ [] _
  have hg : bf_d μ.2.1 w (gl_s none) a b < 0 ↔ gp_T μ.2.1 w a b = false := mf_ge hw ha (by omega)
  have k38 : (a = b ∨ gp_T μ.2.1 w a b = false) → ∀ bc bs, mw_W E m_md_gate d Q mw_no bc bs 38 [some (.ref (mw_b E + 250)), some (.int (nI a)), some (.int (nI b)), none, none] [] (md_h E (md_R0 (nI 0, μ.2) R) n r) := by
    intro hz bc bs
    refine mw_iconst (v := (-1)) d_md_gate_38 (by decide) ?_
    subst hQ
    refine mw_iret d_md_gate_39 rfl rfl ⟨-1, rfl, ?_, _, rfl, (md_keep_t μ _).trans (md_keep_R _ R), rfl⟩
    unfold gt_R
    rw [if_pos hz]
  refine mw_iload1 d_md_gate_24 ?_
  refine mw_iload2 d_md_gate_25 ?_
  refine mw_icmp_eq (tgt := 38) d_md_gate_26 (by decide) (fun hc2 => k38 (Or.inl (nI_inj (by omega) (by omega) hc2)) _ _) (fun hc2 => ?_)
  have hab : ¬ a = b := fun z => hc2 (by rw [z])
  refine mw_aload0 d_md_gate_29 ?_
  refine gf_md_away d_md_gate_30 hn rfl ?_
  refine mw_iload2 d_md_gate_33 ?_
  refine md_il (j := 0) (by omega) (by omega) d_md_gate_34 hn ?_
  rw [md_R0g, hR b hb]
  refine mw_if_ge (tgt := 40) d_md_gate_35 (by decide) (fun hc3 => ?_) (fun hc3 => ?_)
  rotate_left
  · refine k38 (Or.inr (hg.mp ?_)) _ _
    rw [Int32.le_iff_toInt_le] at hc3
    rw [Int32.lt_iff_toInt_lt]
    exact Int.not_le.mp hc3
  have hT : gp_T μ.2.1 w a b = true := by
    cases e : gp_T μ.2.1 w a b with
    | true => rfl
    | false =>
      have h9 := hg.mpr e
      rw [Int32.lt_iff_toInt_lt] at h9
      rw [Int32.le_iff_toInt_le] at hc3
      exact absurd h9 (Int.not_lt.mpr hc3)
  have key : ∀ k, k ≤ μ.2.1 → ∀ g μ', g < μ.2.1 → gp_B μ.2.1 w a b k g → md_keep μ μ' → μ'.1 = nI 0 → mw_W E m_md_gate d Q mw_no 0 0 45 [some (.ref (mw_b E + 250)), some (.int (nI a)), some (.int (nI b)), some (.int (nI g)), some (.int (nI k))] [] (md_h E μ' n r) := by
    refine mw_down μ.2.1 (fun k hk ih g μ' hg9 hB hkp ht => ?_)
    have hN := hkp.1
    refine mw_iload4 d_md_gate_45 ?_
    refine mw_aload0 d_md_gate_47 ?_
    refine gf_md_n d_md_gate_48 hn rfl ?_
    rw [hN]
    refine mw_icmp_ge (tgt := 97) d_md_gate_51 (by decide) (fun hc => ?_) (fun hc => ?_)
    · have e := nI_geE hk (by omega) hc
      subst e
      refine mw_iload3 d_md_gate_97 ?_
      subst hQ
      refine mw_iret d_md_gate_98 rfl rfl ⟨nI g, rfl, ?_, μ', rfl, hkp, ht⟩
      unfold gt_R
      rw [if_neg (fun z => by rcases z with z | z; exact hab z; rw [hT] at z; cases z)]
      exact ⟨g, hg9, hB, rfl⟩
    · have hlt := nI_geN hk (by omega) hc
      have k91 : ∀ g μ' bc bs, g < μ.2.1 → gp_B μ.2.1 w a b (k + 1) g → md_keep μ μ' → μ'.1 = nI 0 → mw_W E m_md_gate d Q mw_no bc bs 91 [some (.ref (mw_b E + 250)), some (.int (nI a)), some (.int (nI b)), some (.int (nI g)), some (.int (nI k))] [] (md_h E μ' n r) := by
        intro g μ' bc bs h1 h2 h3 h4
        refine mw_inc4 d_md_gate_91 rfl (Nat.le_of_ble_eq_true rfl) ?_
        refine mw_goto (tgt := 45) d_md_gate_94 (by decide) ?_
        exact mw_bud (Nat.zero_le _) (Nat.zero_le _) (ih hlt g μ' h1 h2 h3 h4)
      refine mw_iload4 d_md_gate_54 ?_
      refine mw_iload2 d_md_gate_56 ?_
      refine mw_icmp_eq (tgt := 91) d_md_gate_57 (by decide) (fun hc4 => ?_) (fun hc4 => ?_)
      · have e : k = b := nI_inj (by omega) (by omega) hc4
        exact k91 g μ' _ _ hg9 (gp_B_keep hB (fun z => by simp [gp_G, e] at z)) hkp ht
      · have hkb : ¬ k = b := fun z => hc4 (by rw [z])
        refine mw_iload4 d_md_gate_60 ?_
        refine mw_iload3 d_md_gate_62 ?_
        refine mw_icmp_eq (tgt := 91) d_md_gate_63 (by decide) (fun hc5 => ?_) (fun hc5 => ?_)
        · have e : k = g := nI_inj (by omega) (by omega) hc5
          exact k91 g μ' _ _ hg9 (gp_B_keep hB (fun _ z => absurd e z)) hkp ht
        · have hkg : ¬ k = g := fun z => hc5 (by rw [z])
          refine mw_aload0 d_md_gate_66 ?_
          refine mw_iload1 d_md_gate_67 ?_
          refine mw_iload2 d_md_gate_68 ?_
          refine mw_iload4 d_md_gate_69 ?_
          refine mw_cV3 (d' := d - 1) lk_md_gate_md_always d_md_gate_71 (md_lt hn (by decide)) md_gF (Nat.le_of_ble_eq_true rfl) (ct_mdalways (w := w) (by omega) hn (hI.keep hkp) (by rw [hN]; exact ha) (by rw [hN]; exact hb) (by rw [hN]; exact hlt)) (by omega) (Nat.le_of_ble_eq_true rfl) (Nat.zero_le _) (Nat.zero_le _) ?_ (fun _ _ q => q.elim)
          rintro v h' ⟨rfl, R1, rfl⟩
          show mw_W E m_md_gate d _ _ _ _ _ _ (Value.int _ :: []) _
          rw [hN]
          have hk1 : md_keep μ (md_R0 μ' R1) := hkp.trans (md_keep_R μ' R1)
          refine mw_if_eq (tgt := 91) d_md_gate_74 (by decide) (fun hc6 => ?_) (fun hc6 => ?_)
          · refine k91 g _ _ _ hg9 (gp_B_keep hB (fun z => ?_)) hk1 ht
            have h1 := bI_0 hc6
            have h2 := (gp_G_iff.mp z).2
            rw [h2] at h1; cases h1
          · have hA : gp_A μ.2.1 w a k b = false := by simpa using bI_n hc6
            have hG : gp_G μ.2.1 w a b k = true := gp_G_iff.mpr ⟨hkb, hA⟩
            have hst := gp_B_step hw ha hT hB hG hkg
            have hN1 : (md_R0 μ' R1).2.1 = μ.2.1 := hN
            refine mw_aload0 d_md_gate_77 ?_
            refine mw_iload1 d_md_gate_78 ?_
            refine mw_iload4 d_md_gate_79 ?_
            refine mw_iload3 d_md_gate_81 ?_
            refine mw_cV3 (d' := d - 1) lk_md_gate_md_always d_md_gate_82 (md_lt hn (by decide)) md_gF (Nat.le_of_ble_eq_true rfl) (ct_mdalways (w := w) (by omega) hn (hI.keep hk1) (by rw [hN1]; exact ha) (by rw [hN1]; exact hlt) (by rw [hN1]; exact hg9)) (by omega) (Nat.le_of_ble_eq_true rfl) (Nat.zero_le _) (Nat.zero_le _) ?_ (fun _ _ q => q.elim)
            rintro v h' ⟨rfl, R2, rfl⟩
            show mw_W E m_md_gate d _ _ _ _ _ _ (Value.int _ :: []) _
            rw [hN1]
            have hk2 : md_keep μ (md_R0 (md_R0 μ' R1) R2) := hk1.trans (md_keep_R _ R2)
            refine mw_if_eq (tgt := 91) d_md_gate_85 (by decide) (fun hc7 => ?_) (fun hc7 => ?_)
            · have h1 : gp_A μ.2.1 w a g k = true := by simpa using bI_0 hc7
              exact k91 g _ _ _ hg9 (gp_B_keep hB (fun _ _ => hst.2 h1)) hk2 ht
            · have h1 : gp_A μ.2.1 w a g k = false := by simpa using bI_n hc7
              refine mw_iload4 d_md_gate_88 ?_
              refine mw_istore3 d_md_gate_90 rfl (Nat.le_of_ble_eq_true rfl) ?_
              exact k91 k _ _ _ hlt (gp_B_new hB hG (hst.1 h1)) hk2 ht
  refine mw_iload1 d_md_gate_40 ?_
  refine mw_istore3 d_md_gate_41 rfl (Nat.le_of_ble_eq_true rfl) ?_
  refine mw_iconst (v := nI 0) d_md_gate_42 (by decide) ?_
  refine mw_istore4 d_md_gate_43 rfl (Nat.le_of_ble_eq_true rfl) ?_
  exact mw_bud (Nat.zero_le _) (Nat.zero_le _) (key 0 (Nat.zero_le _) a _ ha ⟨gp_G_iff.mpr ⟨hab, gp_A_self hw ha b⟩, fun c hc => by omega⟩ ((md_keep_t μ _).trans (md_keep_R _ R)) rfl)
theorem ct_mdcount {x : Int32} (hd : 2 ≤ d) (hn : 497 ≤ n) (hI : md_I μ w) : mw_Ct E m_md_count d 0 0 [.ref (mw_b E + 250), .int x] (md_h E μ n r) (md_Q E μ n r (nI 0) (ob_c μ.2.1 w x)) mw_no := by
  show mw_W E m_md_count d _ _ 0 0 0 [some (.ref (mw_b E + 250)), some (.int x)] [] (md_h E μ n r)
  refine mw_lo [some (.ref (mw_b E + 250)), some (.int x), none, none, none, none, none, none] (by simp [mw_le]) ?_
  have h120 := hI.2.2.1
  have hw := hI.1
  refine mw_aload0 d_md_count_0 ?_
  refine mw_iconst (v := nI 0) d_md_count_1 (by decide) ?_
  refine pf_md_thrown d_md_count_2 hn rfl ?_
  refine mw_iconst (v := nI 0) d_md_count_5 (by decide) ?_
  refine mw_istore2 d_md_count_6 rfl (Nat.le_of_ble_eq_true rfl) ?_
  refine mw_iconst (v := nI 0) d_md_count_7 (by decide) ?_
  refine mw_istore3 d_md_count_8 rfl (Nat.le_of_ble_eq_true rfl) ?_
  refine mw_iconst (v := nI 0) d_md_count_9 (by decide) ?_
  refine mw_istore4 d_md_count_10 rfl (Nat.le_of_ble_eq_true rfl) ?_
  refine mw_aload0 d_md_count_12 ?_
  refine md_all lk_md_count_md_all0 d_md_count_13 hn (hI.keep (md_keep_t μ _)) hd (Nat.le_of_ble_eq_true rfl) (fun μ1 hk1 ht hRd => ?_)
  have hk : md_keep μ μ1 := (md_keep_t μ _).trans hk1
  have hI1 := hI.keep hk
  have hN := hk.1
  have hway : ∀ p q, p < μ.2.1 → q < μ.2.1 → μ1.2.2.1 p q = w p q := fun p q hp hq => hI1.2.2.2 p q (by rw [hN]; exact hp) (by rw [hN]; exact hq)
  generalize hQ : md_Q E μ n r (nI 0) (ob_c μ.2.1 w x) = Q
  have kb : ∀ a, a < μ.2.1 → ∀ W f c, (mw_W E m_md_count d Q mw_no 0 0 81 [some (.ref (mw_b E + 250)), some (.int x), some (.int (nI (W + pu_cnt (w a) μ.2.1))), some (.int f), some (.int c), some (.int (nI a)), some (.int (nI (pu_cnt (fun q => w q a) μ.2.1))), none] [] (md_h E μ1 n r)) → ∀ b, b ≤ μ.2.1 → mw_W E m_md_count d Q mw_no 0 0 34 [some (.ref (mw_b E + 250)), some (.int x), some (.int (nI (W + pu_cnt (w a) b))), some (.int f), some (.int c), some (.int (nI a)), some (.int (nI (pu_cnt (fun q => w q a) b))), some (.int (nI b))] [] (md_h E μ1 n r) := by
    intro a ha W f c kout
    refine mw_down μ.2.1 (fun b hb ih => ?_)
    refine mw_iload7 d_md_count_34 ?_
    refine mw_aload0 d_md_count_36 ?_
    refine gf_md_n d_md_count_37 hn rfl ?_
    rw [hN]
    refine mw_icmp_ge (tgt := 81) d_md_count_40 (by decide) (fun hc => ?_) (fun hc => ?_)
    · have e := nI_geE hb (by omega) hc
      rw [e]
      refine mw_lo [some (.ref (mw_b E + 250)), some (.int x), some (.int (nI (W + pu_cnt (w a) μ.2.1))), some (.int f), some (.int c), some (.int (nI a)), some (.int (nI (pu_cnt (fun q => w q a) μ.2.1))), none] (by simp [mw_le]) kout
    · have hlt := nI_geN hb (by omega) hc
      have h9 := ih hlt
      rw [pu_cnt_S, pu_cnt_S] at h9
      have k59 : ∀ t, t = W + (pu_cnt (w a) b + if w a b = true then 1 else 0) → mw_W E m_md_count d Q mw_no 0 0 59 [some (.ref (mw_b E + 250)), some (.int x), some (.int (nI t)), some (.int f), some (.int c), some (.int (nI a)), some (.int (nI (pu_cnt (fun q => w q a) b))), some (.int (nI b))] [] (md_h E μ1 n r) := by
        intro t ht9
        subst ht9
        refine mw_aload0 d_md_count_59 ?_
        refine gf_md_way d_md_count_60 hn rfl ?_
        refine mw_iload7 d_md_count_63 ?_
        refine md_wl (by omega) d_md_count_65 hn ?_
        refine mw_iload5 d_md_count_66 ?_
        refine md_bl (by omega) (by omega) d_md_count_68 hn ?_
        rw [hway b a hlt ha]
        refine mw_if_eq (tgt := 75) d_md_count_69 (by decide) (fun hc2 => ?_) (fun hc2 => ?_)
        · rw [if_neg (c := w b a = true) (by rw [bI_0 hc2]; decide)] at h9
          refine mw_inc7 d_md_count_75 rfl (Nat.le_of_ble_eq_true rfl) ?_
          refine mw_goto (tgt := 34) d_md_count_78 (by decide) ?_
          exact h9
        · rw [if_pos (c := w b a = true) (bI_n hc2)] at h9
          refine mw_inc6 d_md_count_72 rfl (Nat.le_of_ble_eq_true rfl) ?_
          refine mw_inc7 d_md_count_75 rfl (Nat.le_of_ble_eq_true rfl) ?_
          refine mw_goto (tgt := 34) d_md_count_78 (by decide) ?_
          exact h9
      refine mw_aload0 d_md_count_43 ?_
      refine gf_md_way d_md_count_44 hn rfl ?_
      refine mw_iload5 d_md_count_47 ?_
      refine md_wl (by omega) d_md_count_49 hn ?_
      refine mw_iload7 d_md_count_50 ?_
      refine md_bl (by omega) (by omega) d_md_count_52 hn ?_
      rw [hway a b ha hlt]
      refine mw_if_eq (tgt := 59) d_md_count_53 (by decide) (fun hc2 => ?_) (fun hc2 => ?_)
      · exact k59 _ (by rw [if_neg (by rw [bI_0 hc2]; decide)]; omega)
      · refine mw_inc2 d_md_count_56 rfl (Nat.le_of_ble_eq_true rfl) ?_
        exact k59 _ (by rw [if_pos (bI_n hc2)]; omega)
  have ka : ∀ a, a ≤ μ.2.1 → mw_W E m_md_count d Q mw_no 0 0 19 [some (.ref (mw_b E + 250)), some (.int x), some (.int (nI (pu_sum (fun p => pu_cnt (w p) μ.2.1) a))), some (.int (nI (pu_cnt (fun p => !pu_ex (fun q => w q p) μ.2.1) a))), some (.int (nI (pu_cnt (gp_c μ.2.1 w) a))), some (.int (nI a)), none, none] [] (md_h E μ1 n r) := by
    refine mw_down μ.2.1 (fun a ha ih => ?_)
    refine mw_iload5 d_md_count_19 ?_
    refine mw_aload0 d_md_count_21 ?_
    refine gf_md_n d_md_count_22 hn rfl ?_
    rw [hN]
    refine mw_icmp_ge (tgt := 107) d_md_count_25 (by decide) (fun hc => ?_) (fun hc => ?_)
    · have e := nI_geE ha (by omega) hc
      subst e
      subst hQ
      have kend : ∀ v0, v0 = ob_c μ.2.1 w x → mw_W E m_md_count d (md_Q E μ n r (nI 0) (ob_c μ.2.1 w x)) mw_no 0 0 147 [some (.ref (mw_b E + 250)), some (.int x), some (.int (nI (pu_sum (fun p => pu_cnt (w p) μ.2.1) μ.2.1))), some (.int (nI (pu_cnt (fun p => !pu_ex (fun q => w q p) μ.2.1) μ.2.1))), some (.int (nI (pu_cnt (gp_c μ.2.1 w) μ.2.1))), some (.int (nI μ.2.1)), none, none] [.int v0] (md_h E μ1 n r) := by
        intro v0 hv
        subst hv
        exact mw_iret d_md_count_147 rfl rfl ⟨rfl, μ1, rfl, hk, ht⟩
      have hx0 : x = 0 ↔ x = nI 0 := by rw [nI_0]
      refine mw_iload1 d_md_count_107 ?_
      refine mw_if_ne (tgt := 118) d_md_count_108 (by decide) (fun hc2 => ?_) (fun hc2 => ?_)
      · refine mw_iload1 d_md_count_118 ?_
        refine mw_iconst (v := nI 1) d_md_count_119 (by decide) ?_
        refine mw_icmp_ne (tgt := 127) d_md_count_120 (by decide) (fun hc3 => ?_) (fun hc3 => ?_)
        · refine mw_iload1 d_md_count_127 ?_
          refine mw_iconst (v := nI 2) d_md_count_128 (by decide) ?_
          refine mw_icmp_ne (tgt := 136) d_md_count_129 (by decide) (fun hc4 => ?_) (fun hc4 => ?_)
          · refine mw_iload1 d_md_count_136 ?_
            refine mw_iconst (v := nI 3) d_md_count_137 (by decide) ?_
            refine mw_icmp_ne (tgt := 146) d_md_count_138 (by decide) (fun hc5 => ?_) (fun hc5 => ?_)
            · refine mw_iconst (v := (-1)) d_md_count_146 (by decide) ?_
              refine kend _ ?_
              unfold ob_c
              rw [if_neg (fun z => hc2 (hx0.mpr z)), if_neg hc3, if_neg hc4, if_neg hc5]
            · refine mw_iload4 d_md_count_141 ?_
              refine mw_goto (tgt := 147) d_md_count_143 (by decide) ?_
              refine kend _ ?_
              unfold ob_c
              rw [if_neg (fun z => hc2 (hx0.mpr z)), if_neg hc3, if_neg hc4, if_pos hc5]
          · refine mw_iload3 d_md_count_132 ?_
            refine mw_goto (tgt := 147) d_md_count_133 (by decide) ?_
            refine kend _ ?_
            unfold ob_c
            rw [if_neg (fun z => hc2 (hx0.mpr z)), if_neg hc3, if_pos hc4]
        · refine mw_iload2 d_md_count_123 ?_
          refine mw_goto (tgt := 147) d_md_count_124 (by decide) ?_
          refine kend _ ?_
          unfold ob_c
          rw [if_neg (fun z => hc2 (hx0.mpr z)), if_pos hc3]
      · refine mw_aload0 d_md_count_111 ?_
        refine gf_md_n d_md_count_112 hn rfl ?_
        rw [hN]
        refine mw_goto (tgt := 147) d_md_count_115 (by decide) ?_
        refine kend _ ?_
        unfold ob_c
        rw [if_pos (hx0.mp hc2)]
    · have hlt := nI_geN ha (by omega) hc
      have h9 := ih hlt
      rw [pu_cnt_S (gp_c μ.2.1 w), pu_cnt_S (fun p => !pu_ex (fun q => w q p) μ.2.1)] at h9
      have hto : pu_cnt (fun q => w q a) μ.2.1 ≤ μ.2.1 := pu_cnt_le _ _
      have k89 : ∀ f, f = (pu_cnt (fun p => !pu_ex (fun q => w q p) μ.2.1) a + if (!pu_ex (fun q => w q a) μ.2.1) = true then 1 else 0) → mw_W E m_md_count d Q mw_no 0 0 89 [some (.ref (mw_b E + 250)), some (.int x), some (.int (nI (pu_sum (fun p => pu_cnt (w p) μ.2.1) a + pu_cnt (w a) μ.2.1))), some (.int (nI f)), some (.int (nI (pu_cnt (gp_c μ.2.1 w) a))), some (.int (nI a)), none, none] [] (md_h E μ1 n r) := by
        intro f hf
        subst hf
        refine mw_aload0 d_md_count_89 ?_
        refine mw_iload5 d_md_count_90 ?_
        refine mw_cV1e lk_md_count_md_onCircle d_md_count_92 (md_lt hn (by decide)) md_gF (Nat.le_of_ble_eq_true rfl) (ct_mdonCircle (d := d - 1) hn hI1 hRd (by rw [hN]; exact hlt)) (by omega) (Nat.le_of_ble_eq_true rfl) (Nat.zero_le _) (Nat.zero_le _) ?_
        rw [hN]
        refine mw_if_eq (tgt := 101) d_md_count_95 (by decide) (fun hc2 => ?_) (fun hc2 => ?_)
        · rw [if_neg (c := gp_c μ.2.1 w a = true) (by rw [bI_0 hc2]; decide)] at h9
          refine mw_inc5 d_md_count_101 rfl (Nat.le_of_ble_eq_true rfl) ?_
          refine mw_goto (tgt := 19) d_md_count_104 (by decide) ?_
          exact mw_bud (Nat.zero_le _) (Nat.zero_le _) h9
        · rw [if_pos (c := gp_c μ.2.1 w a = true) (bI_n hc2)] at h9
          refine mw_inc4 d_md_count_98 rfl (Nat.le_of_ble_eq_true rfl) ?_
          refine mw_inc5 d_md_count_101 rfl (Nat.le_of_ble_eq_true rfl) ?_
          refine mw_goto (tgt := 19) d_md_count_104 (by decide) ?_
          exact mw_bud (Nat.zero_le _) (Nat.zero_le _) h9
      refine mw_iconst (v := nI 0) d_md_count_28 (by decide) ?_
      refine mw_istore6 d_md_count_29 rfl (Nat.le_of_ble_eq_true rfl) ?_
      refine mw_iconst (v := nI 0) d_md_count_31 (by decide) ?_
      refine mw_istore7 d_md_count_32 rfl (Nat.le_of_ble_eq_true rfl) ?_
      refine kb a hlt _ _ _ ?_ 0 (Nat.zero_le _)
      refine mw_iload6 d_md_count_81 ?_
      refine mw_if_ne (tgt := 89) d_md_count_83 (by decide) (fun hc2 => ?_) (fun hc2 => ?_)
      · refine mw_lo [some (.ref (mw_b E + 250)), some (.int x), some (.int (nI (pu_sum (fun p => pu_cnt (w p) μ.2.1) a + pu_cnt (w a) μ.2.1))), some (.int (nI (pu_cnt (fun p => !pu_ex (fun q => w q p) μ.2.1) a))), some (.int (nI (pu_cnt (gp_c μ.2.1 w) a))), some (.int (nI a)), none, none] (by simp [mw_le]) (k89 _ ?_)
        have e : pu_ex (fun q => w q a) μ.2.1 = true := by
          cases e : pu_ex (fun q => w q a) μ.2.1 with
          | true => rfl
          | false => exact absurd (by rw [pu_cnt_zero.mpr (pu_ex_false.mp e)]; exact nI_0) hc2
        rw [e]; rfl
      · have e0 : pu_cnt (fun q => w q a) μ.2.1 = 0 := (nI_eq (by omega) (by omega)).mp (hc2.trans nI_0.symm)
        have e : pu_ex (fun q => w q a) μ.2.1 = false := pu_ex_false.mpr (pu_cnt_zero.mp e0)
        refine mw_inc3 d_md_count_86 rfl (Nat.le_of_ble_eq_true rfl) ?_
        refine mw_lo [some (.ref (mw_b E + 250)), some (.int x), some (.int (nI (pu_sum (fun p => pu_cnt (w p) μ.2.1) a + pu_cnt (w a) μ.2.1))), some (.int (nI (pu_cnt (fun p => !pu_ex (fun q => w q p) μ.2.1) a + 1))), some (.int (nI (pu_cnt (gp_c μ.2.1 w) a))), some (.int (nI a)), none, none] (by simp [mw_le]) (k89 _ ?_)
        rw [e]; rfl
  refine mw_iconst (v := nI 0) d_md_count_16 (by decide) ?_
  refine mw_istore5 d_md_count_17 rfl (Nat.le_of_ble_eq_true rfl) ?_
  exact mw_bud (Nat.zero_le _) (Nat.zero_le _) (ka 0 (Nat.zero_le _))
end MGate
