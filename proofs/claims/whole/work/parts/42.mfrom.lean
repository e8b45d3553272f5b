/-! The reference: refuse, none, thrown, from. -/
theorem nI_geE {k N : Nat} (hk : k ≤ N) (hN : N < 2 ^ 31) (h : nI N ≤ nI k) : k = N := by
  have := (nI_leI hN (by omega)).mp h
  omega
theorem nI_geN {k N : Nat} (hk : k ≤ N) (hN : N < 2 ^ 31) (h : ¬ nI N ≤ nI k) : k < N := by
  rcases Nat.lt_or_ge k N with z | z
  · exact z
  · exact absurd (nI_le z (by omega)) h
theorem bI_0 {x : Bool} (h : bI x = 0) : x = false := by
  cases x with
  | false => rfl
  | true => exact absurd h (by decide)
theorem bI_n {x : Bool} (h : ¬ bI x = 0) : x = true := by
  cases x with
  | true => rfl
  | false => exact absurd (by decide : bI false = 0) h
section Mf
variable {N : Nat} {w : Nat → Nat → Bool} {sh : Nat → Bool} {a : Nat}
def mf_st (N : Nat) (w : Nat → Nat → Bool) (sh : Nat → Bool) (a k p q : Nat) : Int32 := if bf_R N w sh a k q = true then bf_d N w sh a q else if (pu_ex (fun p' => bf_F N w sh a k p' && w p' q) p && !sh q) = true then nI (k + 1) else -1
theorem mf_0 (k q : Nat) : mf_st N w sh a k 0 q = if bf_R N w sh a k q = true then bf_d N w sh a q else -1 := by
  unfold mf_st
  rfl
theorem mf_init (hw : bf_ok N w) (ha : a < N) (q : Nat) : mf_st N w sh a 0 0 q = if q = a ∧ sh a = false then nI 0 else -1 := by
  rw [mf_0, bf_R0]
  by_cases h : q = a ∧ sh a = false
  · have h1 : (q == a && !sh a) = true := by simp [h.1, h.2]
    rw [if_pos h, if_pos h1]
    exact bf_d_at hw ha (by rw [bf_F0]; exact h1)
  · have h1 : ¬ (q == a && !sh a) = true := by simpa using h
    rw [if_neg h, if_neg h1]
theorem mf_end (hw : bf_ok N w) (ha : a < N) (k q : Nat) : mf_st N w sh a k N q = mf_st N w sh a (k + 1) 0 q := by
  rw [mf_0]
  unfold mf_st
  by_cases h : bf_R N w sh a k q = true
  · rw [if_pos h, if_pos (bf_R_succ h)]
  · rw [if_neg h]
    have hR : bf_R N w sh a (k + 1) q = bf_F N w sh a (k + 1) q := by
      rw [bf_RS]
      simp only [Bool.not_eq_true] at h
      rw [h, Bool.false_or]
    have hF : bf_F N w sh a (k + 1) q = (pu_ex (fun p' => bf_F N w sh a k p' && w p' q) N && !sh q) := by
      rw [bf_FS]
      simp only [Bool.not_eq_true] at h
      rw [h]; simp
    rw [hR, hF]
    by_cases h2 : (pu_ex (fun p' => bf_F N w sh a k p' && w p' q) N && !sh q) = true
    · rw [if_pos h2, if_pos h2]
      exact (bf_d_at hw ha (by rw [hF]; exact h2)).symm
    · rw [if_neg h2, if_neg h2]
theorem mf_d (hw : bf_ok N w) (ha : a < N) {k q : Nat} (h : bf_R N w sh a k q = true) : ∃ j, j ≤ k ∧ j < N ∧ bf_F N w sh a j q = true ∧ bf_d N w sh a q = nI j := by
  obtain ⟨j, hj, hF⟩ := bf_R_F h
  exact ⟨j, hj, bf_F_bound hw ha hF, hF, bf_d_at hw ha hF⟩
theorem mf_is (hw : bf_ok N w) (ha : a < N) {k p q : Nat} (hk : k < 2 ^ 30) : mf_st N w sh a k p q = nI k ↔ bf_F N w sh a k q = true := by
  unfold mf_st
  by_cases h : bf_R N w sh a k q = true
  · rw [if_pos h]
    obtain ⟨j, hj, -, hF, hd⟩ := mf_d hw ha h
    rw [hd]
    constructor
    · intro z
      have : j = k := nI_inj (by omega) (by omega) z
      rw [← this]; exact hF
    · intro z
      rw [bf_F_inj hF z]
  · rw [if_neg h]
    have hF : ¬ bf_F N w sh a k q = true := fun z => h (bf_FR z)
    constructor
    · intro z
      split at z
      · have : k + 1 = k := nI_inj (by omega) (by omega) z
        omega
      · exact absurd z.symm (nI_m1 (by omega))
    · intro z; exact absurd z hF
theorem mf_skip1 {k p q : Nat} (h : (bf_F N w sh a k p && w p q) = false) : mf_st N w sh a k (p + 1) q = mf_st N w sh a k p q := by
  unfold mf_st
  simp only [pu_ex, h, Bool.or_false]
theorem mf_skip2 {k p q : Nat} (h : sh q = true) : mf_st N w sh a k (p + 1) q = mf_st N w sh a k p q := by
  unfold mf_st
  simp only [h, Bool.not_true, Bool.and_false]
theorem mf_skip3 {k p q : Nat} (h : ¬ mf_st N w sh a k p q < 0) : mf_st N w sh a k (p + 1) q = mf_st N w sh a k p q := by
  unfold mf_st at h ⊢
  by_cases h1 : bf_R N w sh a k q = true
  · rw [if_pos h1, if_pos h1]
  · rw [if_neg h1] at h
    rw [if_neg h1, if_neg h1]
    by_cases h2 : (pu_ex (fun p' => bf_F N w sh a k p' && w p' q) p && !sh q) = true
    · have h3 : (pu_ex (fun p' => bf_F N w sh a k p' && w p' q) (p + 1) && !sh q) = true := by
        simp only [Bool.and_eq_true] at h2 ⊢
        exact ⟨by simp only [pu_ex, h2.1, Bool.true_or], h2.2⟩
      rw [if_pos h2, if_pos h3]
    · rw [if_neg h2] at h
      exact absurd (by decide) h
theorem mf_set (hw : bf_ok N w) (ha : a < N) (hN : N < 2 ^ 31) {k p q : Nat} (hF : bf_F N w sh a k p = true) (hpq : w p q = true) (hs : sh q = false) (h : mf_st N w sh a k p q < 0) : mf_st N w sh a k (p + 1) q = nI (k + 1) ∧ bf_F N w sh a (k + 1) q = true := by
  have hR : bf_R N w sh a k q = false := by
    cases e : bf_R N w sh a k q with
    | false => rfl
    | true =>
      obtain ⟨j, hj, hjN, -, hd⟩ := mf_d hw ha e
      unfold mf_st at h
      rw [if_pos e, hd] at h
      exact absurd h (nI_pos (by omega))
  have hex : pu_ex (fun p' => bf_F N w sh a k p' && w p' q) (p + 1) = true := by
    simp only [pu_ex, hF, hpq, Bool.and_self, Bool.or_true]
  refine ⟨?_, ?_⟩
  · unfold mf_st
    rw [if_neg (by rw [hR]; decide), if_pos (by rw [hex, hs]; rfl)]
  · rw [bf_FS, hR, hs, pu_ex_iff.mpr ⟨p, (hw p q hpq).1, by rw [hF, hpq]; rfl⟩]; rfl
theorem mf_last (hw : bf_ok N w) (ha : a < N) (hN : N < 2 ^ 31) {k : Nat} (hk : k < N) (h : ∀ q, q < N → bf_R N w sh a k q = false → mf_st N w sh a k N q = -1) {q : Nat} (hq : q < N) : mf_st N w sh a (k + 1) 0 q = bf_d N w sh a q := by
  have hF : ∀ q, bf_F N w sh a (k + 1) q = false := fun q => by
    cases e : bf_F N w sh a (k + 1) q with
    | false => rfl
    | true =>
      have hq := bf_F_lt hw ha e
      have h1 := h q hq (bf_F_new e)
      rw [mf_end hw ha, mf_0, if_pos (bf_FR e), bf_d_at hw ha e] at h1
      exact absurd h1 (nI_m1 (by have := bf_F_bound hw ha e; omega))
  rw [mf_0]
  by_cases h1 : bf_R N w sh a (k + 1) q = true
  · rw [if_pos h1]
  · rw [if_neg h1]
    refine (bf_d_no hw ha ?_).symm
    show bf_R N w sh a N q = false
    rw [bf_R_stop hF N (by omega) q]
    cases e : bf_R N w sh a k q with
    | false => rfl
    | true => exact absurd (bf_R_succ e) h1
end Mf
section MFrom
variable {E : mw_E} {d n : Nat} {μ : md_K} {r : Nat → mw_O} {w : Nat → Nat → Bool}
def md_I (μ : md_K) (w : Nat → Nat → Bool) : Prop := bf_ok μ.2.1 w ∧ 1 ≤ μ.2.1 ∧ μ.2.1 ≤ 120 ∧ ∀ p q, p < μ.2.1 → q < μ.2.1 → μ.2.2.1 p q = w p q
theorem ct_mdthrown (hn : 497 ≤ n) : mw_Ct E m_md_thrown d 0 0 [.ref (mw_b E + 250)] (md_h E μ n r) (fun v h' => v = some (.int μ.1) ∧ h' = md_h E μ n r) mw_no := by
  show mw_W E m_md_thrown d _ _ 0 0 0 [some (.ref (mw_b E + 250))] [] (md_h E μ n r)
  refine mw_aload0 d_md_thrown_0 ?_
  refine gf_md_thrown d_md_thrown_1 hn rfl ?_
  exact mw_iret d_md_thrown_4 rfl rfl ⟨rfl, rfl⟩
theorem ct_mdrefuse {t : Int32} {x : Bool} (hn : 497 ≤ n) : mw_Ct E m_md_refuse d 0 0 [.ref (mw_b E + 250), .int t, .int (bI x)] (md_h E μ n r) (fun v h' => v = some (.int (bI x)) ∧ h' = md_h E (if x = true then t else μ.1, μ.2) n r) mw_no := by
  show mw_W E m_md_refuse d _ _ 0 0 0 [some (.ref (mw_b E + 250)), some (.int t), some (.int (bI x))] [] (md_h E μ n r)
  refine mw_iload2 d_md_refuse_0 ?_
  refine mw_if_eq (tgt := 9) d_md_refuse_1 (by decide) (fun hc => ?_) (fun hc => ?_)
  · have e := bI_0 hc
    subst e
    refine mw_iload2 d_md_refuse_9 ?_
    exact mw_iret d_md_refuse_10 rfl (nbI _) ⟨rfl, rfl⟩
  · have e := bI_n hc
    subst e
    refine mw_aload0 d_md_refuse_4 ?_
    refine mw_iload1 d_md_refuse_5 ?_
    refine pf_md_thrown d_md_refuse_6 hn rfl ?_
    refine mw_iload2 d_md_refuse_9 ?_
    exact mw_iret d_md_refuse_10 rfl (nbI _) ⟨rfl, rfl⟩
theorem ct_mdnone {p : Nat} (hd : 1 ≤ d) (hn : 497 ≤ n) (hN : μ.2.1 ≤ 120) (hp : p < μ.2.1) : mw_Ct E m_md_none d 0 0 [.ref (mw_b E + 250), .int (nI p)] (md_h E μ n r) (fun v h' => v = some (.int (bI false)) ∧ h' = md_h E (nI 0, μ.2) n r) mw_no := by
  show mw_W E m_md_none d _ _ 0 0 0 [some (.ref (mw_b E + 250)), some (.int (nI p))] [] (md_h E μ n r)
  refine mw_aload0 d_md_none_0 ?_
  refine mw_iconst (v := nI 0) d_md_none_1 (by decide) ?_
  refine pf_md_thrown d_md_none_2 hn rfl ?_
  refine mw_aload0 d_md_none_5 ?_
  refine mw_iconst (v := nI 1) d_md_none_6 (by decide) ?_
  refine mw_iload1 d_md_none_7 ?_
  refine mw_if_lt (tgt := 19) d_md_none_8 (by decide) (fun hc => absurd hc (nI_pos (by omega))) (fun hc => ?_)
  refine mw_iload1 d_md_none_11 ?_
  refine mw_aload0 d_md_none_12 ?_
  refine gf_md_n d_md_none_13 hn rfl ?_
  refine mw_icmp_lt (tgt := 23) d_md_none_16 (by decide) (fun hc2 => ?_) (fun hc2 => absurd (nI_lt hp (by omega)) hc2)
  refine mw_iconst (v := nI 0) d_md_none_23 (by decide) ?_
  refine mw_cV2e lk_md_none_md_refuse d_md_none_24 (md_lt hn (by decide)) md_gF (Nat.le_of_ble_eq_true rfl) (ct_mdrefuse (d := d - 1) (x := false) hn) (by omega) (Nat.le_of_ble_eq_true rfl) (Nat.zero_le _) (Nat.zero_le _) ?_
  exact mw_iret d_md_none_27 rfl (nbI _) ⟨rfl, rfl⟩
theorem ct_mdnoneX {x : Int32} (hd : 1 ≤ d) (hn : 497 ≤ n) (hN : μ.2.1 ≤ 120) (hx : ¬ ob_in μ.2.1 x) : mw_Ct E m_md_none d 0 0 [.ref (mw_b E + 250), .int x] (md_h E μ n r) (fun v h' => v = some (.int (bI true)) ∧ h' = md_h E (nI 1, μ.2) n r) mw_no := by
  show mw_W E m_md_none d _ _ 0 0 0 [some (.ref (mw_b E + 250)), some (.int x)] [] (md_h E μ n r)
  refine mw_aload0 d_md_none_0 ?_
  refine mw_iconst (v := nI 0) d_md_none_1 (by decide) ?_
  refine pf_md_thrown d_md_none_2 hn rfl ?_
  refine mw_aload0 d_md_none_5 ?_
  refine mw_iconst (v := nI 1) d_md_none_6 (by decide) ?_
  refine mw_iload1 d_md_none_7 ?_
  have k19 : mw_W E m_md_none d (fun v h' => v = some (.int (bI true)) ∧ h' = md_h E (nI 1, μ.2) n r) mw_no 0 0 19 [some (.ref (mw_b E + 250)), some (.int x)] [.int (nI 1), .ref (mw_b E + 250)] (md_h E (nI 0, μ.2) n r) := by
    refine mw_iconst (v := nI 1) d_md_none_19 (by decide) ?_
    refine mw_goto (tgt := 24) d_md_none_20 (by decide) ?_
    refine mw_cV2e lk_md_none_md_refuse d_md_none_24 (md_lt hn (by decide)) md_gF (Nat.le_of_ble_eq_true rfl) (ct_mdrefuse (d := d - 1) (x := true) hn) (by omega) (Nat.le_of_ble_eq_true rfl) (Nat.zero_le _) (Nat.zero_le _) ?_
    exact mw_iret d_md_none_27 rfl (nbI _) ⟨rfl, rfl⟩
  refine mw_if_lt (tgt := 19) d_md_none_8 (by decide) (fun hc => k19) (fun hc => ?_)
  refine mw_iload1 d_md_none_11 ?_
  refine mw_aload0 d_md_none_12 ?_
  refine gf_md_n d_md_none_13 hn rfl ?_
  refine mw_icmp_lt (tgt := 23) d_md_none_16 (by decide) (fun hc2 => ?_) (fun hc2 => k19)
  exfalso
  obtain ⟨j, hj, rfl⟩ := nI_of hc
  exact hx ⟨j, (nI_ltI hj (by show μ.2.1 < _; omega)).mp hc2, rfl⟩
def md_R0 (μ : md_K) (R : Nat → Int32) : md_K := (μ.1, μ.2.1, μ.2.2.1, va_up μ.2.2.2 0 R)
theorem md_R0s (μ : md_K) (R : Nat → Int32) (i : Nat) (x : Int32) : md_h E ((md_R0 μ R).1, (md_R0 μ R).2.1, (md_R0 μ R).2.2.1, va_up (md_R0 μ R).2.2.2 0 (va_up ((md_R0 μ R).2.2.2 0) i x)) n r = md_h E (md_R0 μ (va_up R i x)) n r := by
  have e : va_up (va_up μ.2.2.2 0 R) 0 (va_up (va_up μ.2.2.2 0 R 0) i x) = va_up μ.2.2.2 0 (va_up R i x) := by rw [mw_up_s, mw_upup]
  show md_h E (μ.1, μ.2.1, μ.2.2.1, va_up (va_up μ.2.2.2 0 R) 0 (va_up (va_up μ.2.2.2 0 R 0) i x)) n r = _
  rw [e]
  rfl
theorem md_R0g (μ : md_K) (R : Nat → Int32) (i : Nat) : (md_R0 μ R).2.2.2 0 i = R i := by
  show va_up μ.2.2.2 0 R 0 i = R i
  rw [mw_up_s]
theorem ct_from {a : Nat} {os : Option Nat} (hn : 497 ≤ n) (hI : md_I μ w) (ha : a < μ.2.1) (hos : gl_ok μ.2.1 os) : mw_Ct E m_md_from d 0 0 [.ref (mw_b E + 250), .int (nI a), .int (gl_v os)] (md_h E μ n r) (fun v h' => v = none ∧ ∃ R, h' = md_h E (md_R0 μ R) n r ∧ ∀ q, q < μ.2.1 → R q = bf_d μ.2.1 w (gl_s os) a q) mw_no := by
  show mw_W E m_md_from d _ _ 0 0 0 [some (.ref (mw_b E + 250)), some (.int (nI a)), some (.int (gl_v os))] [] (md_h E μ n r)
  refine mw_lo [some (.ref (mw_b E + 250)), some (.int (nI a)), some (.int (gl_v os)), none, none, none, none] (by simp [mw_le]) ?_
  obtain ⟨hw, h1, h120, hway⟩ := hI
  generalize hQ : (fun (v : Option Value) (h' : mw_H) => v = none ∧ ∃ R, h' = md_h E (md_R0 μ R) n r ∧ ∀ q, q < μ.2.1 → R q = bf_d μ.2.1 w (gl_s os) a q) = Q
  generalize hsh : gl_s os = sh at hQ
  -- a place's ways gone over
  have kq : ∀ k, k < μ.2.1 → ∀ p, p < μ.2.1 → bf_F μ.2.1 w sh a k p = true → (∀ m R, ((m = true → ∃ q, bf_F μ.2.1 w sh a (k + 1) q = true) ∧ (m = false → ∀ q, q < μ.2.1 → bf_R μ.2.1 w sh a k q = false → R q = -1) ∧ ∀ q, q < μ.2.1 → R q = mf_st μ.2.1 w sh a k (p + 1) q) → mw_W E m_md_from d Q mw_no 0 0 138 [some (.ref (mw_b E + 250)), some (.int (nI a)), some (.int (gl_v os)), some (.int (bI m)), some (.int (nI k)), some (.int (nI p)), none] [] (md_h E (md_R0 μ R) n r)) →
      ∀ q, q ≤ μ.2.1 → ∀ m R, ((m = true → ∃ q, bf_F μ.2.1 w sh a (k + 1) q = true) ∧ (m = false → ∀ q, q < μ.2.1 → bf_R μ.2.1 w sh a k q = false → R q = -1) ∧ ∀ q', q' < μ.2.1 → R q' = if q' < q then mf_st μ.2.1 w sh a k (p + 1) q' else mf_st μ.2.1 w sh a k p q') → mw_W E m_md_from d Q mw_no 0 0 78 [some (.ref (mw_b E + 250)), some (.int (nI a)), some (.int (gl_v os)), some (.int (bI m)), some (.int (nI k)), some (.int (nI p)), some (.int (nI q))] [] (md_h E (md_R0 μ R) n r) := by
    intro k hk p hp hF kout
    refine mw_down μ.2.1 (fun q hq ih m R hR => ?_)
    refine mw_iload6 d_md_from_78 ?_
    refine mw_aload0 d_md_from_80 ?_
    refine gf_md_n d_md_from_81 hn rfl ?_
    refine mw_icmp_ge (tgt := 138) d_md_from_84 (by decide) (fun hc => ?_) (fun hc => ?_)
    · have e := nI_geE hq (by omega) hc
      refine mw_lo [some (.ref (mw_b E + 250)), some (.int (nI a)), some (.int (gl_v os)), some (.int (bI m)), some (.int (nI k)), some (.int (nI p)), none] (by simp [mw_le]) ?_
      refine kout m R ⟨hR.1, hR.2.1, fun q' hq' => ?_⟩
      rw [hR.2.2 q' hq', if_pos (by omega)]
    · have hlt : q < μ.2.1 := nI_geN hq (by omega) hc
      have hcur := hR.2.2 q hlt
      rw [if_neg (by omega)] at hcur
      have k132 : mf_st μ.2.1 w sh a k (p + 1) q = mf_st μ.2.1 w sh a k p q → mw_W E m_md_from d Q mw_no 0 0 132 [some (.ref (mw_b E + 250)), some (.int (nI a)), some (.int (gl_v os)), some (.int (bI m)), some (.int (nI k)), some (.int (nI p)), some (.int (nI q))] [] (md_h E (md_R0 μ R) n r) := by
        intro heq
        refine mw_inc6 d_md_from_132 rfl (Nat.le_of_ble_eq_true rfl) ?_
        refine mw_goto (tgt := 78) d_md_from_135 (by decide) ?_
        refine ih hlt m R ⟨hR.1, hR.2.1, fun q' hq' => ?_⟩
        rw [hR.2.2 q' hq']
        by_cases z : q' = q
        · rw [z, if_neg (by omega), if_pos (by omega), heq]
        · by_cases z2 : q' < q
          · rw [if_pos z2, if_pos (by omega)]
          · rw [if_neg z2, if_neg (by omega)]
      refine mw_aload0 d_md_from_87 ?_
      refine gf_md_way d_md_from_88 hn rfl ?_
      refine mw_iload5 d_md_from_91 ?_
      refine md_wl (by omega) d_md_from_93 hn ?_
      refine mw_iload6 d_md_from_94 ?_
      refine md_bl (by omega) (by omega) d_md_from_96 hn ?_
      rw [show (md_R0 μ R).2.2.1 p q = w p q from hway p q hp hlt]
      refine mw_if_eq (tgt := 132) d_md_from_97 (by decide) (fun hc2 => ?_) (fun hc2 => ?_)
      · exact k132 (mf_skip1 (by rw [bI_0 hc2, Bool.and_false]))
      · have hpq := bI_n hc2
        refine mw_iload6 d_md_from_100 ?_
        refine mw_iload2 d_md_from_102 ?_
        refine mw_icmp_eq (tgt := 132) d_md_from_103 (by decide) (fun hc3 => ?_) (fun hc3 => ?_)
        · exact k132 (mf_skip2 (by rw [← hsh]; exact (gl_eq h120 hos hlt).mp hc3))
        · have hs : sh q = false := by
            cases e : sh q with
            | false => rfl
            | true => exact absurd ((gl_eq h120 hos hlt).mpr (by rw [hsh]; exact e)) hc3
          refine mw_aload0 d_md_from_106 ?_
          refine gf_md_away d_md_from_107 hn rfl ?_
          refine mw_iload6 d_md_from_110 ?_
          refine md_il (j := 0) (by omega) (by omega) d_md_from_112 hn ?_
          rw [md_R0g, hcur]
          refine mw_if_lt (tgt := 119) d_md_from_113 (by decide) (fun hc4 => ?_) (fun hc4 => ?_)
          · have hset := mf_set hw ha (by omega) hF hpq hs hc4
            refine mw_aload0 d_md_from_119 ?_
            refine gf_md_away d_md_from_120 hn rfl ?_
            refine mw_iload6 d_md_from_123 ?_
            refine mw_iload4 d_md_from_125 ?_
            refine mw_iconst (v := nI 1) d_md_from_127 (by decide) ?_
            refine mw_iadd d_md_from_128 ?_
            refine mw_topi (nI_1 _) ?_
            refine md_is (j := 0) (by omega) (by omega) d_md_from_129 hn ?_
            rw [md_R0s]
            refine mw_iconst (v := nI 1) d_md_from_130 (by decide) ?_
            refine mw_istore3 d_md_from_131 rfl (Nat.le_of_ble_eq_true rfl) ?_
            refine mw_inc6 d_md_from_132 rfl (Nat.le_of_ble_eq_true rfl) ?_
            refine mw_goto (tgt := 78) d_md_from_135 (by decide) ?_
            refine ih hlt true _ ⟨fun _ => ⟨q, hset.2⟩, fun z => Bool.noConfusion z, fun q' hq' => ?_⟩
            by_cases z : q' = q
            · rw [z, mw_up_s, if_pos (by omega), hset.1]
            · rw [mw_up_n _ _ z, hR.2.2 q' hq']
              by_cases z2 : q' < q
              · rw [if_pos z2, if_pos (by omega)]
              · rw [if_neg z2, if_neg (by omega)]
          · refine mw_goto (tgt := 132) d_md_from_116 (by decide) ?_
            exact k132 (mf_skip3 hc4)
  -- a step
  have kp : ∀ k, k < μ.2.1 → (∀ m R, ((m = true → k + 1 < μ.2.1) ∧ (m = false → ∀ q, q < μ.2.1 → R q = bf_d μ.2.1 w sh a q) ∧ ∀ q, q < μ.2.1 → R q = mf_st μ.2.1 w sh a (k + 1) 0 q) → mw_W E m_md_from d Q mw_no 0 0 42 [some (.ref (mw_b E + 250)), some (.int (nI a)), some (.int (gl_v os)), some (.int (bI m)), some (.int (nI (k + 1))), none, none] [] (md_h E (md_R0 μ R) n r)) →
      ∀ p, p ≤ μ.2.1 → ∀ m R, ((m = true → ∃ q, bf_F μ.2.1 w sh a (k + 1) q = true) ∧ (m = false → ∀ q, q < μ.2.1 → bf_R μ.2.1 w sh a k q = false → R q = -1) ∧ ∀ q, q < μ.2.1 → R q = mf_st μ.2.1 w sh a k p q) → mw_W E m_md_from d Q mw_no 0 0 51 [some (.ref (mw_b E + 250)), some (.int (nI a)), some (.int (gl_v os)), some (.int (bI m)), some (.int (nI k)), some (.int (nI p)), none] [] (md_h E (md_R0 μ R) n r) := by
    intro k hk kout
    refine mw_down μ.2.1 (fun p hp ih m R hR => ?_)
    refine mw_iload5 d_md_from_51 ?_
    refine mw_aload0 d_md_from_53 ?_
    refine gf_md_n d_md_from_54 hn rfl ?_
    refine mw_icmp_ge (tgt := 144) d_md_from_57 (by decide) (fun hc => ?_) (fun hc => ?_)
    · have e := nI_geE hp (by omega) hc
      refine mw_inc4 d_md_from_144 rfl (Nat.le_of_ble_eq_true rfl) ?_
      refine mw_goto (tgt := 42) d_md_from_147 (by decide) ?_
      refine mw_lo [some (.ref (mw_b E + 250)), some (.int (nI a)), some (.int (gl_v os)), some (.int (bI m)), some (.int (nI (k + 1))), none, none] (by simp [mw_le]) ?_
      refine kout m R ⟨fun hm => ?_, fun hm q hq => ?_, fun q hq => ?_⟩
      · obtain ⟨q, hq⟩ := hR.1 hm
        exact bf_F_bound hw ha hq
      · rw [hR.2.2 q hq, e, mf_end hw ha]
        refine mf_last hw ha (by omega) hk (fun q hq hr => ?_) hq
        rw [← hR.2.1 hm q hq hr, hR.2.2 q hq, e]
      · rw [hR.2.2 q hq, e, mf_end hw ha]
    · have hlt : p < μ.2.1 := nI_geN hp (by omega) hc
      have k138 : ∀ m R, ((m = true → ∃ q, bf_F μ.2.1 w sh a (k + 1) q = true) ∧ (m = false → ∀ q, q < μ.2.1 → bf_R μ.2.1 w sh a k q = false → R q = -1) ∧ ∀ q, q < μ.2.1 → R q = mf_st μ.2.1 w sh a k (p + 1) q) → mw_W E m_md_from d Q mw_no 0 0 138 [some (.ref (mw_b E + 250)), some (.int (nI a)), some (.int (gl_v os)), some (.int (bI m)), some (.int (nI k)), some (.int (nI p)), none] [] (md_h E (md_R0 μ R) n r) := by
        intro m R hR
        refine mw_inc5 d_md_from_138 rfl (Nat.le_of_ble_eq_true rfl) ?_
        refine mw_goto (tgt := 51) d_md_from_141 (by decide) ?_
        exact ih hlt m R hR
      refine mw_aload0 d_md_from_60 ?_
      refine gf_md_away d_md_from_61 hn rfl ?_
      refine mw_iload5 d_md_from_64 ?_
      refine md_il (j := 0) (by omega) (by omega) d_md_from_66 hn ?_
      rw [md_R0g, hR.2.2 p hlt]
      refine mw_iload4 d_md_from_67 ?_
      refine mw_icmp_eq (tgt := 75) d_md_from_69 (by decide) (fun hc2 => ?_) (fun hc2 => ?_)
      · have hF := (mf_is hw ha (by omega)).mp hc2
        refine mw_iconst (v := nI 0) d_md_from_75 (by decide) ?_
        refine mw_istore6 d_md_from_76 rfl (Nat.le_of_ble_eq_true rfl) ?_
        refine kq k hk p hlt hF k138 0 (Nat.zero_le _) m R ⟨hR.1, hR.2.1, fun q' hq' => ?_⟩
        rw [if_neg (by omega)]; exact hR.2.2 q' hq'
      · have hF : bf_F μ.2.1 w sh a k p = false := by
          cases e : bf_F μ.2.1 w sh a k p with
          | false => rfl
          | true => exact absurd ((mf_is hw ha (by omega)).mpr e) hc2
        refine mw_goto (tgt := 138) d_md_from_72 (by decide) ?_
        refine k138 m R ⟨hR.1, hR.2.1, fun q hq => ?_⟩
        rw [hR.2.2 q hq, mf_skip1 (by rw [hF]; rfl)]
  have ks : ∀ k, k ≤ μ.2.1 → ∀ m R, ((m = true → k < μ.2.1) ∧ (m = false → ∀ q, q < μ.2.1 → R q = bf_d μ.2.1 w sh a q) ∧ ∀ q, q < μ.2.1 → R q = mf_st μ.2.1 w sh a k 0 q) → mw_W E m_md_from d Q mw_no 0 0 42 [some (.ref (mw_b E + 250)), some (.int (nI a)), some (.int (gl_v os)), some (.int (bI m)), some (.int (nI k)), none, none] [] (md_h E (md_R0 μ R) n r) := by
    refine mw_down μ.2.1 (fun k hk ih m R hR => ?_)
    refine mw_iload3 d_md_from_42 ?_
    refine mw_if_eq (tgt := 150) d_md_from_43 (by decide) (fun hc => ?_) (fun hc => ?_)
    · subst hQ
      exact mw_vret d_md_from_150 rfl ⟨rfl, R, rfl, hR.2.1 (bI_0 hc)⟩
    · have hlt := hR.1 (bI_n hc)
      refine mw_iconst (v := nI 0) d_md_from_46 (by decide) ?_
      refine mw_istore3 d_md_from_47 rfl (Nat.le_of_ble_eq_true rfl) ?_
      refine mw_iconst (v := nI 0) d_md_from_48 (by decide) ?_
      refine mw_istore5 d_md_from_49 rfl (Nat.le_of_ble_eq_true rfl) ?_
      refine kp k hlt (ih hlt) 0 (Nat.zero_le _) false R ⟨fun z => Bool.noConfusion z, fun _ q hq hr => ?_, hR.2.2⟩
      rw [hR.2.2 q hq, mf_0, if_neg (by rw [hr]; decide)]
  have k0 : ∀ p, p ≤ μ.2.1 → ∀ R, (∀ q, q < p → R q = mf_st μ.2.1 w sh a 0 0 q) → mw_W E m_md_from d Q mw_no 0 0 2 [some (.ref (mw_b E + 250)), some (.int (nI a)), some (.int (gl_v os)), some (.int (nI p)), none, none, none] [] (md_h E (md_R0 μ R) n r) := by
    refine mw_down μ.2.1 (fun p hp ih R hR => ?_)
    refine mw_iload3 d_md_from_2 ?_
    refine mw_aload0 d_md_from_3 ?_
    refine gf_md_n d_md_from_4 hn rfl ?_
    refine mw_icmp_ge (tgt := 37) d_md_from_7 (by decide) (fun hc => ?_) (fun hc => ?_)
    · have e := nI_geE hp (by omega) hc
      refine mw_iconst (v := nI 1) d_md_from_37 (by decide) ?_
      refine mw_istore3 d_md_from_38 rfl (Nat.le_of_ble_eq_true rfl) ?_
      refine mw_iconst (v := nI 0) d_md_from_39 (by decide) ?_
      refine mw_istore4 d_md_from_40 rfl (Nat.le_of_ble_eq_true rfl) ?_
      exact ks 0 (by omega) true R ⟨fun _ => by omega, fun z => Bool.noConfusion z, fun q hq => hR q (by omega)⟩
    · have hlt : p < μ.2.1 := nI_geN hp (by omega) hc
      have k30 : ∀ x, x = mf_st μ.2.1 w sh a 0 0 p → mw_W E m_md_from d Q mw_no 0 0 30 [some (.ref (mw_b E + 250)), some (.int (nI a)), some (.int (gl_v os)), some (.int (nI p)), none, none, none] [.int x, .int (nI p), .ref (mw_b E + md_i 0)] (md_h E (md_R0 μ R) n r) := by
        intro x hx
        refine md_is (j := 0) (by omega) (by omega) d_md_from_30 hn ?_
        rw [md_R0s]
        refine mw_inc3 d_md_from_31 rfl (Nat.le_of_ble_eq_true rfl) ?_
        refine mw_goto (tgt := 2) d_md_from_34 (by decide) ?_
        refine ih hlt _ (fun q hq => ?_)
        by_cases z : q = p
        · rw [z, mw_up_s, hx]
        · rw [mw_up_n _ _ z]; exact hR q (by omega)
      have hin := mf_init (sh := sh) hw ha p
      refine mw_aload0 d_md_from_10 ?_
      refine gf_md_away d_md_from_11 hn rfl ?_
      refine mw_iload3 d_md_from_14 ?_
      refine mw_iload3 d_md_from_15 ?_
      refine mw_iload1 d_md_from_16 ?_
      refine mw_icmp_ne (tgt := 29) d_md_from_17 (by decide) (fun hc2 => ?_) (fun hc2 => ?_)
      · refine mw_iconst (v := (-1)) d_md_from_29 (by decide) ?_
        refine k30 _ ?_
        rw [hin, if_neg (fun z => hc2 (by rw [z.1]))]
      · have e : p = a := nI_inj (by omega) (by omega) hc2
        refine mw_iload1 d_md_from_20 ?_
        refine mw_iload2 d_md_from_21 ?_
        refine mw_icmp_eq (tgt := 29) d_md_from_22 (by decide) (fun hc3 => ?_) (fun hc3 => ?_)
        · refine mw_iconst (v := (-1)) d_md_from_29 (by decide) ?_
          refine k30 _ ?_
          have hs : sh a = true := by rw [← hsh]; exact (gl_eq h120 hos ha).mp hc3
          rw [hin, if_neg (fun z => by rw [hs] at z; exact Bool.noConfusion z.2)]
        · refine mw_iconst (v := nI 0) d_md_from_25 (by decide) ?_
          refine mw_goto (tgt := 30) d_md_from_26 (by decide) ?_
          refine k30 _ ?_
          have hs : sh a = false := by
            cases e : sh a with
            | false => rfl
            | true => exact absurd ((gl_eq h120 hos ha).mpr (by rw [hsh]; exact e)) hc3
          rw [hin, if_pos ⟨e, hs⟩]
  refine mw_iconst (v := nI 0) d_md_from_0 (by decide) ?_
  refine mw_istore3 d_md_from_1 rfl (Nat.le_of_ble_eq_true rfl) ?_
  have h9 := k0 0 (Nat.zero_le _) (μ.2.2.2 0) (fun q hq => by omega)
  have e9 : md_h E (md_R0 μ (μ.2.2.2 0)) n r = md_h E μ n r := by
    unfold md_R0
    rw [mw_upid μ.2.2.2 0 _ rfl]
  rw [e9] at h9
  exact h9
end MFrom
