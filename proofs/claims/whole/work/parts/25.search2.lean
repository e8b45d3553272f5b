/-! OrderBench.search. -/
/-- an int that names a place, or none -/
def gl_v (o : Option Nat) : Int32 := match o with | some g => nI g | none => -1
def gl_m (s : Nat → Bool) (o : Option Nat) : Bool := match o with | some g => s g | none => false
def gl_s (o : Option Nat) : Nat → Bool := match o with | some c => gp_at c | none => gp_no
def gl_ok (N : Nat) (o : Option Nat) : Prop := ∀ g, o = some g → g < N
def gl_r (N : Nat) (w : Nat → Nat → Bool) (sh : Nat → Bool) (a : Nat) (o : Option Nat) : Int32 := match o with | some g => bf_d N w sh a g | none => -1
theorem nI_m1 {k : Nat} (hk : k < 2 ^ 31) : ¬ nI k = -1 := by
  intro h
  have h1 := nI_toInt hk
  rw [h] at h1
  have h2 : (-1 : Int32).toInt = -1 := by decide
  omega
theorem gl_bm {N : Nat} {s : Nat → Bool} {o : Option Nat} (hN : N ≤ 120) (ho : gl_ok N o) : bt_m s (gl_v o) = gl_m s o := by
  cases o with
  | none => exact bt_m_no (by decide)
  | some g => exact bt_m_at (by have := ho g rfl; omega)
theorem gl_bs {N : Nat} {o : Option Nat} (hN : N ≤ 120) (ho : gl_ok N o) {i : Nat} (hi : i < 128) : bt_one (gl_v o) i = gl_s o i := by
  cases o with
  | none => exact bt_one_no (by omega) (by decide)
  | some g =>
    have := ho g rfl
    show bt_one (nI g) i = (i == g)
    rw [bt_one_nI (by omega) (by omega)]
    by_cases e : i = g
    · subst e; simp
    · simp [e]
theorem gl_eq {N a : Nat} {o : Option Nat} (hN : N ≤ 120) (ho : gl_ok N o) (ha : a < N) : nI a = gl_v o ↔ gl_s o a = true := by
  cases o with
  | none =>
    constructor
    · intro h; exact absurd h (nI_m1 (by omega))
    · intro h; cases h
  | some g =>
    have := ho g rfl
    show nI a = nI g ↔ (a == g) = true
    rw [nI_eq (by omega) (by omega)]
    simp
theorem gl_r_no {N : Nat} {w : Nat → Nat → Bool} {sh : Nat → Bool} {a : Nat} {o : Option Nat} (hw : bf_ok N w) (ha : a < N) (h : ∀ j, j < N → gl_m (bf_F N w sh a j) o = false) : gl_r N w sh a o = -1 := by
  cases o with
  | none => rfl
  | some g =>
    refine bf_d_no hw ha ?_
    cases e : bf_r N w sh a g with
    | false => rfl
    | true =>
      obtain ⟨k, h1, h2⟩ := (bf_r_iff hw ha).mp e
      have := h k h1
      rw [show gl_m (bf_F N w sh a k) (some g) = bf_F N w sh a k g from rfl, h2] at this
      cases this
theorem gl_r_at {N : Nat} {w : Nat → Nat → Bool} {sh : Nat → Bool} {a k : Nat} {o : Option Nat} (hw : bf_ok N w) (ha : a < N) (h : gl_m (bf_F N w sh a k) o = true) : gl_r N w sh a o = nI k ∧ k < N := by
  cases o with
  | none => cases h
  | some g => exact ⟨bf_d_at hw ha h, bf_F_bound hw ha h⟩
/-- the sets of the class hold the ways (o = 0: out; o = 1: into, the ways turned) -/
def sr_W (κ : ob_K) (o : Nat) (w : Nat → Nat → Bool) : Prop := ∀ p, p < κ.1 → ∀ i, κ.2.1 (2 * p + o) i = w p i
theorem sr_W.keep {κ κ' : ob_K} {o : Nat} {w : Nat → Nat → Bool} (h : sr_W κ o w) (hN : κ.1 ≤ 119 ∨ κ.1 ≤ 120) (ho : o < 2) (hk : sr_keep κ κ') : sr_W κ' o w := by
  intro p hp i
  rw [hk.1] at hp
  rw [hk.2.2 (2 * p + o) (by omega) (by omega) (by omega)]
  exact h p hp i
theorem sr_keep.refl (κ : ob_K) : sr_keep κ κ := ⟨rfl, rfl, fun _ _ _ _ => rfl⟩
theorem sr_keep.trans {κ κ1 κ2 : ob_K} (h1 : sr_keep κ κ1) (h2 : sr_keep κ1 κ2) : sr_keep κ κ2 := ⟨h2.1.trans h1.1, h2.2.1.trans h1.2.1, fun j a b c => (h2.2.2 j a b c).trans (h1.2.2 j a b c)⟩
section Sr2
variable {E : mw_E} {d n : Nat} {κ : ob_K} {r : Nat → mw_O} {w : Nat → Nat → Bool}
def sr_Q (E : mw_E) (κ : ob_K) (n : Nat) (r : Nat → mw_O) (w : Nat → Nat → Bool) (a : Nat) (og os : Option Nat) : Option Value → mw_H → Prop := fun v h' =>
  v = some (.int (gl_r κ.1 w (gl_s os) a og)) ∧ ∃ κ', h' = ob_h E κ' n r ∧ sr_keep κ κ' ∧ (gl_r κ.1 w (gl_s os) a og = -1 → κ'.2.1 240 = bf_r κ.1 w (gl_s os) a)
theorem ct_search {o a : Nat} {og os : Option Nat} (hd : 4 ≤ d) (ho : o < 2) (hn : 250 ≤ n) (hN : κ.1 ≤ 120) (hw : bf_ok κ.1 w) (hS : sr_W κ o w) (ha : a < κ.1) (hg : gl_ok κ.1 og) (hs : gl_ok κ.1 os) :
    mw_Ct E m_ob_search d 0 0 [.ref (mw_b E + 0), .ref (mw_b E + (1 + o)), .int (nI a), .int (gl_v og), .int (gl_v os)] (ob_h E κ n r) (sr_Q E κ n r w a og os) mw_no := by
  show mw_W E m_ob_search d _ _ 0 0 0 [some (.ref (mw_b E + 0)), some (.ref (mw_b E + (1 + o))), some (.int (nI a)), some (.int (gl_v og)), some (.int (gl_v os))] [] (ob_h E κ n r)
  refine mw_lo [some (.ref (mw_b E + 0)), some (.ref (mw_b E + (1 + o))), some (.int (nI a)), some (.int (gl_v og)), some (.int (gl_v os)), none] (by simp [mw_le]) ?_
  -- the loop
  have key : ∀ k, k ≤ κ.1 → ∀ κ', sr_keep κ κ' → κ'.2.1 240 = bf_R κ.1 w (gl_s os) a k → κ'.2.1 241 = bf_F κ.1 w (gl_s os) a k → (∀ j, j < k → gl_m (bf_F κ.1 w (gl_s os) a j) og = false) →
      mw_W E m_ob_search d (sr_Q E κ n r w a og os) mw_no 0 0 41 [some (.ref (mw_b E + 0)), some (.ref (mw_b E + (1 + o))), some (.int (nI a)), some (.int (gl_v og)), some (.int (gl_v os)), some (.int (nI k))] [] (ob_h E κ' n r) := by
    refine mw_down κ.1 (fun k hk ih κ' hkp hR hF hno => ?_)
    have hk1 : κ'.1 = κ.1 := hkp.1
    refine mw_iload5 d_ob_search_41 ?_
    refine mw_aload0 d_ob_search_43 ?_
    refine gf_ob_size d_ob_search_44 hn rfl ?_
    refine mw_icmp_ge (tgt := 89) d_ob_search_47 (by decide) (fun hc => ?_) (fun hc => ?_)
    · rw [hk1] at hc
      have e : k = κ.1 := by
        have := (nI_leI (by omega) (by omega)).mp hc
        omega
      have hres : gl_r κ.1 w (gl_s os) a og = -1 := gl_r_no hw ha (fun j hj => hno j (by omega))
      refine mw_iconst (v := (-1)) d_ob_search_89 (by decide) ?_
      refine mw_iret d_ob_search_90 rfl rfl ⟨by rw [hres], κ', rfl, hkp, fun _ => ?_⟩
      rw [hR, e]
      rfl
    · have hlt : k < κ.1 := by
        rcases Nat.lt_or_ge k κ.1 with z | z
        · exact z
        · rw [hk1] at hc; exact absurd (nI_le z (by omega)) hc
      refine mw_aload0 d_ob_search_50 ?_
      refine gf_ob_rim d_ob_search_51 hn rfl ?_
      refine mw_iload3 d_ob_search_54 ?_
      refine mw_cV1e lk_ob_search_ps_has d_ob_search_55 (ob_lt hn (by omega)) (ob_gS (by omega)) (Nat.le_of_ble_eq_true rfl) (oc_has (d := d - 1) (by omega) hn (by omega) (gl_v og)) (by omega) (Nat.le_of_ble_eq_true rfl) (Nat.zero_le _) (Nat.zero_le _) ?_
      refine mw_topi (show bI (bt_m (κ'.2.1 241) (gl_v og)) = bI (gl_m (bf_F κ.1 w (gl_s os) a k) og) by rw [gl_bm hN hg, hF]) ?_
      cases hm : gl_m (bf_F κ.1 w (gl_s os) a k) og with
      | true =>
        refine mw_if_eq (tgt := 64) d_ob_search_58 (by decide) (fun hc2 => absurd hc2 (by decide)) (fun hc2 => ?_)
        refine mw_iload5 d_ob_search_61 ?_
        obtain ⟨e1, e2⟩ := gl_r_at hw ha hm
        refine mw_iret d_ob_search_63 rfl rfl ⟨by rw [e1], κ', rfl, hkp, fun z => ?_⟩
        rw [e1] at z
        exact absurd z (nI_m1 (by omega))
      | false =>
        refine mw_if_eq (tgt := 64) d_ob_search_58 (by decide) (fun hc2 => ?_) (fun hc2 => absurd (show bI false = 0 by decide) hc2)
        refine mw_aload0 d_ob_search_64 ?_
        refine mw_aload1 d_ob_search_65 ?_
        refine mw_iload4 d_ob_search_66 ?_
        refine mw_cV2 lk_ob_search_ob_moveRim d_ob_search_68 (ob_lt hn (by decide)) ob_g0 (Nat.le_of_ble_eq_true rfl) (ct_moveRim (d := d - 1) (by omega) ho hn (by omega) (fun i hi => by rw [hF] at hi; rw [hk1]; exact bf_F_lt hw ha hi)) (by omega) (Nat.le_of_ble_eq_true rfl) (Nat.zero_le _) (Nat.zero_le _) ?_ (fun _ _ q => q.elim)
        rintro v h' ⟨rfl, κ1, rfl, hk2, hF1, hR1⟩
        have hkp1 := hkp.trans hk2
        have hk11 : κ1.1 = κ.1 := hkp1.1
        have hG : ∀ i, i < 128 → sr_G κ'.1 (κ'.2.1 241) (κ'.2.1 240) κ'.2.1 o (gl_v os) i = bf_F κ.1 w (gl_s os) a (k + 1) i := by
          intro i hi
          unfold sr_G
          rw [bf_FS, hF, hR, hk1, gl_bs hN hs hi]
          congr 2
          refine pu_ex_congr (fun p hp => ?_)
          rw [hkp.2.2 (2 * p + o) (by omega) (by omega) (by omega), hS p hp i]
        have hext : ob_h E κ1 n r = ob_h E (κ1.1, va_up (va_up κ1.2.1 241 (bf_F κ.1 w (gl_s os) a (k + 1))) 240 (bf_R κ.1 w (gl_s os) a (k + 1)), κ1.2.2) n r := by
          refine ob_ext (κ := κ1) (S := κ1.2.1) (fun j hj i hi => ?_)
          unfold va_up
          by_cases e1 : j = 240
          · rw [if_pos e1, e1, hR1]
            show (κ'.2.1 240 i || sr_G κ'.1 (κ'.2.1 241) (κ'.2.1 240) κ'.2.1 o (gl_v os) i) = _
            rw [bf_RS, hG i hi, hR]
          · rw [if_neg e1]
            by_cases e2 : j = 241
            · rw [if_pos e2, e2, hF1, hG i hi]
            · rw [if_neg e2]
        rw [hext]
        generalize hκ2 : ((κ1.1, va_up (va_up κ1.2.1 241 (bf_F κ.1 w (gl_s os) a (k + 1))) 240 (bf_R κ.1 w (gl_s os) a (k + 1)), κ1.2.2) : ob_K) = κ2
        have hkp2 : sr_keep κ κ2 := by
          subst hκ2
          refine ⟨hk11, hkp1.2.1, fun j h1 h2 h3 => ?_⟩
          show va_up (va_up κ1.2.1 241 _) 240 _ j = κ.2.1 j
          rw [mw_up_n _ _ h1, mw_up_n _ _ h2]
          exact hkp1.2.2 j h1 h2 h3
        have hR2 : κ2.2.1 240 = bf_R κ.1 w (gl_s os) a (k + 1) := by
          subst hκ2
          exact mw_up_s (va_up κ1.2.1 241 (bf_F κ.1 w (gl_s os) a (k + 1))) 240 (bf_R κ.1 w (gl_s os) a (k + 1))
        have hF2 : κ2.2.1 241 = bf_F κ.1 w (gl_s os) a (k + 1) := by
          subst hκ2
          exact (mw_up_n (va_up κ1.2.1 241 (bf_F κ.1 w (gl_s os) a (k + 1))) (bf_R κ.1 w (gl_s os) a (k + 1)) (show 241 ≠ 240 by decide)).trans (mw_up_s _ _ _)
        have hno2 : ∀ j, j < k + 1 → gl_m (bf_F κ.1 w (gl_s os) a j) og = false := fun j hj => by
          by_cases e : j = k
          · subst e; exact hm
          · exact hno j (by omega)
        show mw_W E m_ob_search d _ _ _ _ _ _ [] _
        refine mw_aload0 d_ob_search_71 ?_
        refine gf_ob_rim d_ob_search_72 hn rfl ?_
        refine mw_cV0e lk_ob_search_ps_isEmpty d_ob_search_75 (ob_lt hn (by omega)) (ob_gS (by omega)) (Nat.le_of_ble_eq_true rfl) (oc_isEmpty (d := d - 1) hn (by omega)) (by omega) (Nat.le_of_ble_eq_true rfl) (Nat.zero_le _) (Nat.zero_le _) ?_
        rw [hF2]
        cases hem : pu_ex (bf_F κ.1 w (gl_s os) a (k + 1)) 128 with
        | false =>
          refine mw_if_eq (tgt := 83) d_ob_search_78 (by decide) (fun hc3 => absurd hc3 (by decide)) (fun hc3 => ?_)
          have hall : ∀ q, bf_F κ.1 w (gl_s os) a (k + 1) q = false := fun q => by
            cases hq : bf_F κ.1 w (gl_s os) a (k + 1) q with
            | false => rfl
            | true =>
              have hlt9 := bf_F_lt hw ha hq
              have := pu_ex_false.mp hem q (by omega)
              rw [hq] at this; cases this
          have hres : gl_r κ.1 w (gl_s os) a og = -1 := gl_r_no hw ha (fun j hj => by
            rcases Nat.lt_or_ge j (k + 1) with z | z
            · exact hno2 j z
            · cases og with
              | none => rfl
              | some g => exact bf_F_empty hall j z g)
          refine mw_iconst (v := (-1)) d_ob_search_81 (by decide) ?_
          refine mw_iret d_ob_search_82 rfl rfl ⟨by rw [hres], κ2, rfl, hkp2, fun _ => ?_⟩
          rw [hR2]
          funext q
          show bf_R κ.1 w (gl_s os) a (k + 1) q = bf_R κ.1 w (gl_s os) a κ.1 q
          rw [bf_R_stop hall κ.1 (by omega) q, bf_R_stop hall (k + 1) (by omega) q]
        | true =>
          refine mw_if_eq (tgt := 83) d_ob_search_78 (by decide) (fun hc3 => ?_) (fun hc3 => absurd (show bI (!true) = 0 by decide) hc3)
          refine mw_inc5 d_ob_search_83 rfl (Nat.le_of_ble_eq_true rfl) ?_
          refine mw_goto (tgt := 41) d_ob_search_86 (by decide) ?_
          exact mw_bud (Nat.zero_le _) (Nat.zero_le _) (ih hlt κ2 hkp2 hR2 hF2 hno2)
  refine mw_aload0 d_ob_search_0 ?_
  refine gf_ob_reached d_ob_search_1 hn rfl ?_
  refine mw_cV0v lk_ob_search_ps_clear d_ob_search_4 (ob_lt hn (by omega)) (ob_gS (by omega)) (Nat.le_of_ble_eq_true rfl) (oc_clear (d := d - 1) hn (by omega)) (by omega) (Nat.le_of_ble_eq_true rfl) (Nat.zero_le _) (Nat.zero_le _) ?_
  refine mw_iload2 d_ob_search_7 ?_
  refine mw_iload4 d_ob_search_8 ?_
  refine mw_icmp_ne (tgt := 15) d_ob_search_10 (by decide) (fun hc => ?_) (fun hc => ?_)
  · have hsa : gl_s os a = false := by
      cases e : gl_s os a with
      | false => rfl
      | true => exact absurd ((gl_eq hN hs ha).mpr e) hc
    refine mw_aload0 d_ob_search_15 ?_
    refine gf_ob_reached d_ob_search_16 hn rfl ?_
    refine mw_iload2 d_ob_search_19 ?_
    refine mw_cV1v lk_ob_search_ps_add d_ob_search_20 (ob_lt hn (by omega)) (ob_gS (by omega)) (Nat.le_of_ble_eq_true rfl) (oc_add (d := d - 1) (by omega) hn (by omega) (nI a)) (by omega) (Nat.le_of_ble_eq_true rfl) (Nat.zero_le _) (Nat.zero_le _) ?_
    refine mw_aload0 d_ob_search_23 ?_
    refine gf_ob_rim d_ob_search_24 hn rfl ?_
    refine mw_cV0v lk_ob_search_ps_clear d_ob_search_27 (ob_lt hn (by omega)) (ob_gS (by omega)) (Nat.le_of_ble_eq_true rfl) (oc_clear (d := d - 1) hn (by omega)) (by omega) (Nat.le_of_ble_eq_true rfl) (Nat.zero_le _) (Nat.zero_le _) ?_
    refine mw_aload0 d_ob_search_30 ?_
    refine gf_ob_rim d_ob_search_31 hn rfl ?_
    refine mw_iload2 d_ob_search_34 ?_
    refine mw_cV1v lk_ob_search_ps_add d_ob_search_35 (ob_lt hn (by omega)) (ob_gS (by omega)) (Nat.le_of_ble_eq_true rfl) (oc_add (d := d - 1) (by omega) hn (by omega) (nI a)) (by omega) (Nat.le_of_ble_eq_true rfl) (Nat.zero_le _) (Nat.zero_le _) ?_
    refine mw_iconst (v := nI 0) d_ob_search_38 (by decide) ?_
    refine mw_istore5 d_ob_search_39 rfl (Nat.le_of_ble_eq_true rfl) ?_
    have h0 : ∀ i, i < 128 → (false || bt_one (nI a) i) = (i == a && !gl_s os a) := fun i hi => by
      rw [bt_one_nI (by omega) (by omega), hsa]
      by_cases e : i = a
      · subst e; simp
      · simp [e]
    have hext : ∀ S : Nat → Nat → Bool, S = va_up (va_up (va_up (va_up κ.2.1 240 (fun _ => false)) 240 (fun i => false || bt_one (nI a) i)) 241 (fun _ => false)) 241 (fun i => false || bt_one (nI a) i) → ob_h E (κ.1, S, κ.2.2) n r = ob_h E (κ.1, va_up (va_up κ.2.1 241 (bf_F κ.1 w (gl_s os) a 0)) 240 (bf_R κ.1 w (gl_s os) a 0), κ.2.2) n r := by
      rintro S rfl
      refine ob_ext (fun j hj i hi => ?_)
      unfold va_up
      by_cases e1 : j = 240
      · have e2 : ¬ j = 241 := by omega
        rw [if_neg e2, if_neg e2, if_pos e1, if_pos e1]
        exact h0 i hi
      · by_cases e2 : j = 241
        · rw [if_pos e2, if_neg e1, if_pos e2]
          exact h0 i hi
        · rw [if_neg e2, if_neg e2, if_neg e1, if_neg e1, if_neg e1, if_neg e2]
    refine mw_heq (hext _ ?_) ?_
    · simp only [mw_upup, mw_up_s]
    refine mw_bud (Nat.zero_le _) (Nat.zero_le _) (key 0 (by omega) _ ⟨rfl, rfl, fun j h1 h2 h3 => ?_⟩ ?_ ?_ (fun j hj => by omega))
    · show va_up (va_up κ.2.1 241 _) 240 _ j = κ.2.1 j
      rw [mw_up_n _ _ h1, mw_up_n _ _ h2]
    · exact mw_up_s (va_up κ.2.1 241 (bf_F κ.1 w (gl_s os) a 0)) 240 (bf_R κ.1 w (gl_s os) a 0)
    · exact (mw_up_n (va_up κ.2.1 241 (bf_F κ.1 w (gl_s os) a 0)) (bf_R κ.1 w (gl_s os) a 0) (show 241 ≠ 240 by decide)).trans (mw_up_s _ _ _)
  · have hsa := (gl_eq hN hs ha).mp hc
    have hall : ∀ q, bf_F κ.1 w (gl_s os) a 0 q = false := fun q => by
      rw [bf_F0, hsa]
      simp
    have hres : gl_r κ.1 w (gl_s os) a og = -1 := gl_r_no hw ha (fun j hj => by
      cases og with
      | none => rfl
      | some g => exact bf_F_empty hall j (by omega) g)
    refine mw_iconst (v := (-1)) d_ob_search_13 (by decide) ?_
    refine mw_iret d_ob_search_14 rfl rfl ⟨by rw [hres], _, rfl, ⟨rfl, rfl, fun j h1 h2 h3 => mw_up_n _ _ h1⟩, fun _ => ?_⟩
    show va_up κ.2.1 240 _ 240 = _
    rw [mw_up_s]
    funext q
    cases e : bf_r κ.1 w (gl_s os) a q with
    | false => rfl
    | true =>
      obtain ⟨k, -, h2⟩ := (bf_r_iff hw ha).mp e
      rw [bf_F_empty hall k (by omega) q] at h2
      cases h2
end Sr2
