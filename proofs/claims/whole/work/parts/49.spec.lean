/-! What each call must answer; both sides answer it. -/
abbrev so_S : Type := Nat × (Nat → Nat → Bool)
abbrev so_O : Type := Int32 → Int32 → so_S → Prop
def lw_R (E : mw_E) (n : Nat) (r : Nat → mw_O) (cv : Int32 → Int64) (O : so_O) : Option Value → mw_H → Prop := fun v h' => ∃ t a s κ' n' r9 g', v = some (.int t) ∧ O t a s ∧ h' = ob_h E κ' n' r9 ∧ κ'.1 = s.1 ∧ ob_I κ' s.2 ∧ n ≤ n' ∧ n' ≤ n + 1 ∧ (∀ k, k < 497 → r9 k = r k) ∧ r9 497 = .inr (4, 1, g') ∧ (t = nI 0 → g' 0 = .long (cv a))
def md_R (E : mw_E) (n : Nat) (r : Nat → mw_O) (O : so_O) : Option Value → mw_H → Prop := fun v h' => ∃ t b s μ', v = some (.int b) ∧ O t b s ∧ h' = md_h E μ' n r ∧ μ'.1 = t ∧ μ'.2.1 = s.1 ∧ md_I μ' s.2
def so_F (O : so_O) : Prop := ∀ t a s t' a' s', O t a s → O t' a' s' → t = t' ∧ s = s' ∧ (t = nI 0 → a = a')
section So
variable {E : mw_E} {d n : Nat} {κ : ob_K} {μ : md_K} {r : Nat → mw_O} {g : Nat → Value} {w : Nat → Nat → Bool} {Qx : Int32 → ob_K → Prop} {Px : Nat → Prop} {cv : Int32 → Int64} {O : so_O}
theorem lw_cd_n (c : Nat) : ¬ lw_cd c = nI 0 := by
  unfold lw_cd
  split <;> decide
theorem lw_conv (hn : 498 ≤ n) (hg : r 497 = .inr (4, 1, g)) (hI : ob_I κ w) (h1 : ∀ a κ', Qx a κ' → ∃ s, O (nI 0) a s ∧ κ'.1 = s.1 ∧ ob_I κ' s.2) (h2 : ∀ c, Px c → O (lw_cd c) 0 (κ.1, w)) {v : Option Value} {h' : mw_H} (h : lw_G E κ n r g cv Qx Px v h') : lw_R E n r cv O v h' := by
  rcases h with ⟨a, κ', rfl, rfl, hq⟩ | ⟨c, κ', hc, rfl, rfl, hk⟩
  · obtain ⟨s, hO, e1, e2⟩ := h1 a κ' hq
    exact ⟨nI 0, a, s, κ', n, _, _, rfl, hO, rfl, e1, e2, Nat.le_refl _, Nat.le_succ _, fun k hk => mw_up_n _ _ (by omega), mw_up_s _ _ _, fun _ => rfl⟩
  · exact ⟨lw_cd c, 0, (κ.1, w), κ', n + 1, _, g, rfl, h2 c hc, rfl, hk.1, hI.keep hk, Nat.le_succ _, Nat.le_refl _, fun k hk9 => mw_up_n _ _ (by omega), (mw_up_n _ _ (by omega)).trans hg, fun z => absurd z (lw_cd_n c)⟩
theorem md_conv {t v0 : Int32} (hI : md_I μ w) (hO : O t v0 (μ.2.1, w)) {v : Option Value} {h' : mw_H} (h : md_Q E μ n r t v0 v h') : md_R E n r O v h' := by
  obtain ⟨rfl, μ', rfl, hk, ht⟩ := h
  exact ⟨t, v0, (μ.2.1, w), μ', rfl, hO, rfl, ht, hk.1, hI.keep hk⟩
theorem so_inj {N : Nat} {p q : Nat} (hN : N ≤ 120) (hp : p < N) (hq : q < N) (h : nI p = nI q) : p = q := nI_inj (by omega) (by omega) h
def so_way (N : Nat) (w : Nat → Nat → Bool) (x y : Int32) : so_O := fun t v s => (∀ a b, a < N → b < N → x = nI a → y = nI b → t = nI 0 ∧ v = bI (w a b) ∧ s = (N, gw_set w a b true)) ∧ (¬ (ob_in N x ∧ ob_in N y) → t = nI 1 ∧ s = (N, w))
theorem so_wayF {N : Nat} (w : Nat → Nat → Bool) (x y : Int32) : so_F (so_way N w x y) := by
  intro t v s t' v' s' h h'
  by_cases hx : ob_in N x ∧ ob_in N y
  · obtain ⟨⟨a, ha, rfl⟩, b, hb, rfl⟩ := hx
    have h1 := h.1 a b ha hb rfl rfl
    have h2 := h'.1 a b ha hb rfl rfl
    exact ⟨h1.1.trans h2.1.symm, h1.2.2.trans h2.2.2.symm, fun _ => h1.2.1.trans h2.2.1.symm⟩
  · have h1 := h.2 hx
    have h2 := h'.2 hx
    exact ⟨h1.1.trans h2.1.symm, h1.2.trans h2.2.symm, fun z => absurd (h1.1.symm.trans z) (by decide)⟩
def so_drop (N : Nat) (w : Nat → Nat → Bool) (x y : Int32) : so_O := fun t v s => (∀ a b, a < N → b < N → x = nI a → y = nI b → t = nI 0 ∧ v = bI (w a b) ∧ s = (N, gw_set w a b false)) ∧ (¬ (ob_in N x ∧ ob_in N y) → t = nI 1 ∧ s = (N, w))
theorem so_dropF {N : Nat} (w : Nat → Nat → Bool) (x y : Int32) : so_F (so_drop N w x y) := by
  intro t v s t' v' s' h h'
  by_cases hx : ob_in N x ∧ ob_in N y
  · obtain ⟨⟨a, ha, rfl⟩, b, hb, rfl⟩ := hx
    have h1 := h.1 a b ha hb rfl rfl
    have h2 := h'.1 a b ha hb rfl rfl
    exact ⟨h1.1.trans h2.1.symm, h1.2.2.trans h2.2.2.symm, fun _ => h1.2.1.trans h2.2.1.symm⟩
  · have h1 := h.2 hx
    have h2 := h'.2 hx
    exact ⟨h1.1.trans h2.1.symm, h1.2.trans h2.2.symm, fun z => absurd (h1.1.symm.trans z) (by decide)⟩
def so_reaches (N : Nat) (w : Nat → Nat → Bool) (x y : Int32) : so_O := fun t v s => (∀ a b, a < N → b < N → x = nI a → y = nI b → t = nI 0 ∧ v = bI (gp_T N w a b) ∧ s = (N, w)) ∧ (¬ (ob_in N x ∧ ob_in N y) → t = nI 1 ∧ s = (N, w))
theorem so_reachesF {N : Nat} (w : Nat → Nat → Bool) (x y : Int32) : so_F (so_reaches N w x y) := by
  intro t v s t' v' s' h h'
  by_cases hx : ob_in N x ∧ ob_in N y
  · obtain ⟨⟨a, ha, rfl⟩, b, hb, rfl⟩ := hx
    have h1 := h.1 a b ha hb rfl rfl
    have h2 := h'.1 a b ha hb rfl rfl
    exact ⟨h1.1.trans h2.1.symm, h1.2.2.trans h2.2.2.symm, fun _ => h1.2.1.trans h2.2.1.symm⟩
  · have h1 := h.2 hx
    have h2 := h'.2 hx
    exact ⟨h1.1.trans h2.1.symm, h1.2.trans h2.2.symm, fun z => absurd (h1.1.symm.trans z) (by decide)⟩
def so_far (N : Nat) (w : Nat → Nat → Bool) (x y : Int32) : so_O := fun t v s => (∀ a b, a < N → b < N → x = nI a → y = nI b → t = nI 0 ∧ v = bf_d N w gp_no a b ∧ s = (N, w)) ∧ (¬ (ob_in N x ∧ ob_in N y) → t = nI 1 ∧ s = (N, w))
theorem so_farF {N : Nat} (w : Nat → Nat → Bool) (x y : Int32) : so_F (so_far N w x y) := by
  intro t v s t' v' s' h h'
  by_cases hx : ob_in N x ∧ ob_in N y
  · obtain ⟨⟨a, ha, rfl⟩, b, hb, rfl⟩ := hx
    have h1 := h.1 a b ha hb rfl rfl
    have h2 := h'.1 a b ha hb rfl rfl
    exact ⟨h1.1.trans h2.1.symm, h1.2.2.trans h2.2.2.symm, fun _ => h1.2.1.trans h2.2.1.symm⟩
  · have h1 := h.2 hx
    have h2 := h'.2 hx
    exact ⟨h1.1.trans h2.1.symm, h1.2.trans h2.2.symm, fun z => absurd (h1.1.symm.trans z) (by decide)⟩
def so_group (N : Nat) (w : Nat → Nat → Bool) (x : Int32) : so_O := fun t v s => (∀ a, a < N → x = nI a → t = nI 0 ∧ v = nI (gp_g N w a) ∧ s = (N, w)) ∧ (¬ ob_in N x → t = nI 1 ∧ s = (N, w))
theorem so_groupF {N : Nat} (w : Nat → Nat → Bool) (x : Int32) : so_F (so_group N w x) := by
  intro t v s t' v' s' h h'
  by_cases hx : ob_in N x
  · obtain ⟨a, ha, rfl⟩ := hx
    have h1 := h.1 a ha rfl
    have h2 := h'.1 a ha rfl
    exact ⟨h1.1.trans h2.1.symm, h1.2.2.trans h2.2.2.symm, fun _ => h1.2.1.trans h2.2.1.symm⟩
  · have h1 := h.2 hx
    have h2 := h'.2 hx
    exact ⟨h1.1.trans h2.1.symm, h1.2.trans h2.2.symm, fun z => absurd (h1.1.symm.trans z) (by decide)⟩
def so_order (N : Nat) (w : Nat → Nat → Bool) (x : Int32) : so_O := fun t v s => (∀ a, a < N → x = nI a → ((or_ok N w N → t = nI 0 ∧ v = nI (or_ln N w a) ∧ s = (N, w)) ∧ (¬ or_ok N w N → t = nI 2 ∧ s = (N, w)))) ∧ (¬ ob_in N x → t = nI 1 ∧ s = (N, w))
theorem so_orderF {N : Nat} (w : Nat → Nat → Bool) (x : Int32) : so_F (so_order N w x) := by
  intro t v s t' v' s' h h'
  by_cases hx : ob_in N x
  · obtain ⟨a, ha, rfl⟩ := hx
    have h1 := h.1 a ha rfl
    have h2 := h'.1 a ha rfl
    by_cases ho : or_ok N w N
    · have g1 := h1.1 ho
      have g2 := h2.1 ho
      exact ⟨g1.1.trans g2.1.symm, g1.2.2.trans g2.2.2.symm, fun _ => g1.2.1.trans g2.2.1.symm⟩
    · have g1 := h1.2 ho
      have g2 := h2.2 ho
      exact ⟨g1.1.trans g2.1.symm, g1.2.trans g2.2.symm, fun z => absurd (g1.1.symm.trans z) (by decide)⟩
  · have h1 := h.2 hx
    have h2 := h'.2 hx
    exact ⟨h1.1.trans h2.1.symm, h1.2.trans h2.2.symm, fun z => absurd (h1.1.symm.trans z) (by decide)⟩
def so_level (N : Nat) (w : Nat → Nat → Bool) (x : Int32) : so_O := fun t v s => (∀ a, a < N → x = nI a → ((or_ok N w N → t = nI 0 ∧ v = nI (or_lv N w N a) ∧ s = (N, w)) ∧ (¬ or_ok N w N → t = nI 2 ∧ s = (N, w)))) ∧ (¬ ob_in N x → t = nI 1 ∧ s = (N, w))
theorem so_levelF {N : Nat} (w : Nat → Nat → Bool) (x : Int32) : so_F (so_level N w x) := by
  intro t v s t' v' s' h h'
  by_cases hx : ob_in N x
  · obtain ⟨a, ha, rfl⟩ := hx
    have h1 := h.1 a ha rfl
    have h2 := h'.1 a ha rfl
    by_cases ho : or_ok N w N
    · have g1 := h1.1 ho
      have g2 := h2.1 ho
      exact ⟨g1.1.trans g2.1.symm, g1.2.2.trans g2.2.2.symm, fun _ => g1.2.1.trans g2.2.1.symm⟩
    · have g1 := h1.2 ho
      have g2 := h2.2 ho
      exact ⟨g1.1.trans g2.1.symm, g1.2.trans g2.2.symm, fun z => absurd (g1.1.symm.trans z) (by decide)⟩
  · have h1 := h.2 hx
    have h2 := h'.2 hx
    exact ⟨h1.1.trans h2.1.symm, h1.2.trans h2.2.symm, fun z => absurd (h1.1.symm.trans z) (by decide)⟩
def so_paths (N : Nat) (w : Nat → Nat → Bool) (x y : Int32) : so_O := fun t v s => (∀ a b, a < N → b < N → x = nI a → y = nI b → ((or_ok N w N → t = nI 0 ∧ v = nI (or_ps N w a N b) ∧ s = (N, w)) ∧ (¬ or_ok N w N → t = nI 2 ∧ s = (N, w)))) ∧ (¬ (ob_in N x ∧ ob_in N y) → t = nI 1 ∧ s = (N, w))
theorem so_pathsF {N : Nat} (w : Nat → Nat → Bool) (x y : Int32) : so_F (so_paths N w x y) := by
  intro t v s t' v' s' h h'
  by_cases hx : ob_in N x ∧ ob_in N y
  · obtain ⟨⟨a, ha, rfl⟩, b, hb, rfl⟩ := hx
    have h1 := h.1 a b ha hb rfl rfl
    have h2 := h'.1 a b ha hb rfl rfl
    by_cases ho : or_ok N w N
    · have g1 := h1.1 ho
      have g2 := h2.1 ho
      exact ⟨g1.1.trans g2.1.symm, g1.2.2.trans g2.2.2.symm, fun _ => g1.2.1.trans g2.2.1.symm⟩
    · have g1 := h1.2 ho
      have g2 := h2.2 ho
      exact ⟨g1.1.trans g2.1.symm, g1.2.trans g2.2.symm, fun z => absurd (g1.1.symm.trans z) (by decide)⟩
  · have h1 := h.2 hx
    have h2 := h'.2 hx
    exact ⟨h1.1.trans h2.1.symm, h1.2.trans h2.2.symm, fun z => absurd (h1.1.symm.trans z) (by decide)⟩
def so_gate (N : Nat) (w : Nat → Nat → Bool) (x y : Int32) : so_O := fun t v s => (∀ a b, a < N → b < N → x = nI a → y = nI b → t = nI 0 ∧ gt_R N w a b v ∧ s = (N, w)) ∧ (¬ (ob_in N x ∧ ob_in N y) → t = nI 1 ∧ s = (N, w))
theorem so_gateF {N : Nat} (w : Nat → Nat → Bool) (x y : Int32) : so_F (so_gate N w x y) := by
  intro t v s t' v' s' h h'
  by_cases hx : ob_in N x ∧ ob_in N y
  · obtain ⟨⟨a, ha, rfl⟩, b, hb, rfl⟩ := hx
    have h1 := h.1 a b ha hb rfl rfl
    have h2 := h'.1 a b ha hb rfl rfl
    exact ⟨h1.1.trans h2.1.symm, h1.2.2.trans h2.2.2.symm, fun _ => gt_R_uniq h1.2.1 h2.2.1⟩
  · have h1 := h.2 hx
    have h2 := h'.2 hx
    exact ⟨h1.1.trans h2.1.symm, h1.2.trans h2.2.symm, fun z => absurd (h1.1.symm.trans z) (by decide)⟩
def so_all (N : Nat) (w : Nat → Nat → Bool) (x y z : Int32) : so_O := fun t v s => (∀ a b c, a < N → b < N → c < N → x = nI a → y = nI b → z = nI c → t = nI 0 ∧ v = bI (!gp_A N w a c b) ∧ s = (N, w)) ∧ (¬ (ob_in N x ∧ ob_in N y ∧ ob_in N z) → t = nI 1 ∧ s = (N, w))
theorem so_allF {N : Nat} (w : Nat → Nat → Bool) (x y z : Int32) : so_F (so_all N w x y z) := by
  intro t v s t' v' s' h h'
  by_cases hx : ob_in N x ∧ ob_in N y ∧ ob_in N z
  · obtain ⟨⟨a, ha, rfl⟩, ⟨b, hb, rfl⟩, c, hc, rfl⟩ := hx
    have h1 := h.1 a b c ha hb hc rfl rfl rfl
    have h2 := h'.1 a b c ha hb hc rfl rfl rfl
    exact ⟨h1.1.trans h2.1.symm, h1.2.2.trans h2.2.2.symm, fun _ => h1.2.1.trans h2.2.1.symm⟩
  · have h1 := h.2 hx
    have h2 := h'.2 hx
    exact ⟨h1.1.trans h2.1.symm, h1.2.trans h2.2.symm, fun z => absurd (h1.1.symm.trans z) (by decide)⟩
def so_places (N : Nat) (w : Nat → Nat → Bool) (x : Int32) : so_O := fun t v s => (∀ m, 1 ≤ m → m ≤ 120 → x = nI m → t = nI 0 ∧ v = nI N ∧ s = (m, fun _ _ => false)) ∧ ((¬ ∃ m, 1 ≤ m ∧ m ≤ 120 ∧ x = nI m) → t = nI 1 ∧ s = (N, w))
theorem so_placesF {N : Nat} (w : Nat → Nat → Bool) (x : Int32) : so_F (so_places N w x) := by
  intro t v s t' v' s' h h'
  by_cases hx : ∃ m, 1 ≤ m ∧ m ≤ 120 ∧ x = nI m
  · obtain ⟨m, m1, m2, rfl⟩ := hx
    have h1 := h.1 m m1 m2 rfl
    have h2 := h'.1 m m1 m2 rfl
    exact ⟨h1.1.trans h2.1.symm, h1.2.2.trans h2.2.2.symm, fun _ => h1.2.1.trans h2.2.1.symm⟩
  · have h1 := h.2 hx
    have h2 := h'.2 hx
    exact ⟨h1.1.trans h2.1.symm, h1.2.trans h2.2.symm, fun z => absurd (h1.1.symm.trans z) (by decide)⟩
theorem la_way {x y : Int32} (hd : 9 ≤ d) (hn : 498 ≤ n) (hg : r 497 = .inr (4, 1, g)) (hI : ob_I κ w) : mw_Ct E m_lw_way d 1 6 [.ref (mw_b E + 0), .int x, .int y, .ref (mw_b E + 497)] (ob_h E κ n r) (lw_R E n r lw_b (so_way κ.1 w x y)) mw_no := by
  have h120 := hI.2.2.1
  by_cases hx : ob_in κ.1 x ∧ ob_in κ.1 y
  · obtain ⟨⟨a, ha, rfl⟩, b, hb, rfl⟩ := hx
    refine mw_CtQ (lg_way (Qx := fun a9 κ' => a9 = bI (w a b) ∧ κ'.1 = κ.1 ∧ ob_I κ' (gw_set w a b true)) (Px := fun _ => False) (by omega) hn hg (fun c hc => hc.elim) (mw_CtQ (ct_way (by omega) (by omega) hI ha hb) (Nat.zero_le _) (Nat.zero_le _) (fun v h' h => ?_) (fun _ _ h => h.elim))) (Nat.le_refl _) (Nat.le_refl _) (fun v h' h => lw_conv hn hg hI (fun a9 κ' hq => ⟨(κ.1, gw_set w a b true), ⟨fun a' b' ha' hb' e1 e2 => by have z1 := so_inj h120 ha ha' e1; subst z1; have z2 := so_inj h120 hb hb' e2; subst z2; exact ⟨rfl, hq.1, rfl⟩, fun z => absurd ⟨⟨a, ha, rfl⟩, b, hb, rfl⟩ z⟩, hq.2.1, hq.2.2⟩) (fun c hc => hc.elim) h) (fun _ _ h => h)
    obtain ⟨rfl, κ', rfl, e1, e2⟩ := h
    exact ⟨_, κ', rfl, rfl, rfl, e1, e2⟩
  · exact mw_CtQ (lg_way (Qx := fun _ _ => False) (Px := fun c => c = 3) (by omega) hn hg (fun c hc => hc) (mw_CtQ (ct_wayX (by omega) (by omega) h120 hx) (Nat.le_refl _) (Nat.le_refl _) (fun _ _ h => h.elim) (fun k h' h => ⟨3, rfl, h⟩))) (Nat.le_refl _) (Nat.le_refl _) (fun v h' h => lw_conv hn hg hI (fun _ _ hq => hq.elim) (fun c hc => ⟨fun a b ha hb e1 e2 => absurd ⟨⟨a, ha, e1⟩, b, hb, e2⟩ hx, fun _ => ⟨by rw [hc]; rfl, rfl⟩⟩) h) (fun _ _ h => h)
theorem lm_way {x y : Int32} (hd : 3 ≤ d) (hn : 497 ≤ n) (hI : md_I μ w) : mw_Ct E m_md_way d 0 0 [.ref (mw_b E + 250), .int x, .int y] (md_h E μ n r) (md_R E n r (so_way μ.2.1 w x y)) mw_no := by
  have h120 := hI.2.2.1
  by_cases hx : ob_in μ.2.1 x ∧ ob_in μ.2.1 y
  · obtain ⟨⟨a, ha, rfl⟩, b, hb, rfl⟩ := hx
    refine mw_CtQ (ct_mdway (by omega) hn hI ha hb) (Nat.le_refl _) (Nat.le_refl _) (fun v h' h => ?_) (fun _ _ h => h)
    obtain ⟨rfl, μ', rfl, e1, e2, e3⟩ := h
    exact ⟨nI 0, _, (μ.2.1, gw_set w a b true), μ', rfl, ⟨fun a' b' ha' hb' e1 e2 => by have z1 := so_inj h120 ha ha' e1; subst z1; have z2 := so_inj h120 hb hb' e2; subst z2; exact ⟨rfl, rfl, rfl⟩, fun z => absurd ⟨⟨a, ha, rfl⟩, b, hb, rfl⟩ z⟩, rfl, e2, e1, e3⟩
  · exact mw_CtQ (ct_mdwayX (by omega) hn h120 hx) (Nat.le_refl _) (Nat.le_refl _) (fun v h' h => md_conv hI ⟨fun a b ha hb e1 e2 => absurd ⟨⟨a, ha, e1⟩, b, hb, e2⟩ hx, fun _ => ⟨rfl, rfl⟩⟩ h) (fun _ _ h => h)
theorem la_drop {x y : Int32} (hd : 9 ≤ d) (hn : 498 ≤ n) (hg : r 497 = .inr (4, 1, g)) (hI : ob_I κ w) : mw_Ct E m_lw_drop d 1 6 [.ref (mw_b E + 0), .int x, .int y, .ref (mw_b E + 497)] (ob_h E κ n r) (lw_R E n r lw_b (so_drop κ.1 w x y)) mw_no := by
  have h120 := hI.2.2.1
  by_cases hx : ob_in κ.1 x ∧ ob_in κ.1 y
  · obtain ⟨⟨a, ha, rfl⟩, b, hb, rfl⟩ := hx
    refine mw_CtQ (lg_drop (Qx := fun a9 κ' => a9 = bI (w a b) ∧ κ'.1 = κ.1 ∧ ob_I κ' (gw_set w a b false)) (Px := fun _ => False) (by omega) hn hg (fun c hc => hc.elim) (mw_CtQ (ct_drop (by omega) (by omega) hI ha hb) (Nat.zero_le _) (Nat.zero_le _) (fun v h' h => ?_) (fun _ _ h => h.elim))) (Nat.le_refl _) (Nat.le_refl _) (fun v h' h => lw_conv hn hg hI (fun a9 κ' hq => ⟨(κ.1, gw_set w a b false), ⟨fun a' b' ha' hb' e1 e2 => by have z1 := so_inj h120 ha ha' e1; subst z1; have z2 := so_inj h120 hb hb' e2; subst z2; exact ⟨rfl, hq.1, rfl⟩, fun z => absurd ⟨⟨a, ha, rfl⟩, b, hb, rfl⟩ z⟩, hq.2.1, hq.2.2⟩) (fun c hc => hc.elim) h) (fun _ _ h => h)
    obtain ⟨rfl, κ', rfl, e1, e2⟩ := h
    exact ⟨_, κ', rfl, rfl, rfl, e1, e2⟩
  · exact mw_CtQ (lg_drop (Qx := fun _ _ => False) (Px := fun c => c = 3) (by omega) hn hg (fun c hc => hc) (mw_CtQ (ct_dropX (by omega) (by omega) h120 hx) (Nat.le_refl _) (Nat.le_refl _) (fun _ _ h => h.elim) (fun k h' h => ⟨3, rfl, h⟩))) (Nat.le_refl _) (Nat.le_refl _) (fun v h' h => lw_conv hn hg hI (fun _ _ hq => hq.elim) (fun c hc => ⟨fun a b ha hb e1 e2 => absurd ⟨⟨a, ha, e1⟩, b, hb, e2⟩ hx, fun _ => ⟨by rw [hc]; rfl, rfl⟩⟩) h) (fun _ _ h => h)
theorem lm_drop {x y : Int32} (hd : 3 ≤ d) (hn : 497 ≤ n) (hI : md_I μ w) : mw_Ct E m_md_drop d 0 0 [.ref (mw_b E + 250), .int x, .int y] (md_h E μ n r) (md_R E n r (so_drop μ.2.1 w x y)) mw_no := by
  have h120 := hI.2.2.1
  by_cases hx : ob_in μ.2.1 x ∧ ob_in μ.2.1 y
  · obtain ⟨⟨a, ha, rfl⟩, b, hb, rfl⟩ := hx
    refine mw_CtQ (ct_mddrop (by omega) hn hI ha hb) (Nat.le_refl _) (Nat.le_refl _) (fun v h' h => ?_) (fun _ _ h => h)
    obtain ⟨rfl, μ', rfl, e1, e2, e3⟩ := h
    exact ⟨nI 0, _, (μ.2.1, gw_set w a b false), μ', rfl, ⟨fun a' b' ha' hb' e1 e2 => by have z1 := so_inj h120 ha ha' e1; subst z1; have z2 := so_inj h120 hb hb' e2; subst z2; exact ⟨rfl, rfl, rfl⟩, fun z => absurd ⟨⟨a, ha, rfl⟩, b, hb, rfl⟩ z⟩, rfl, e2, e1, e3⟩
  · exact mw_CtQ (ct_mddropX (by omega) hn h120 hx) (Nat.le_refl _) (Nat.le_refl _) (fun v h' h => md_conv hI ⟨fun a b ha hb e1 e2 => absurd ⟨⟨a, ha, e1⟩, b, hb, e2⟩ hx, fun _ => ⟨rfl, rfl⟩⟩ h) (fun _ _ h => h)
theorem la_reaches {x y : Int32} (hd : 9 ≤ d) (hn : 498 ≤ n) (hg : r 497 = .inr (4, 1, g)) (hI : ob_I κ w) : mw_Ct E m_lw_reaches d 1 6 [.ref (mw_b E + 0), .int x, .int y, .ref (mw_b E + 497)] (ob_h E κ n r) (lw_R E n r lw_b (so_reaches κ.1 w x y)) mw_no := by
  have h120 := hI.2.2.1
  by_cases hx : ob_in κ.1 x ∧ ob_in κ.1 y
  · obtain ⟨⟨a, ha, rfl⟩, b, hb, rfl⟩ := hx
    refine mw_CtQ (lg_reaches (Qx := fun a9 κ' => a9 = bI (gp_T κ.1 w a b) ∧ ob_keep κ κ') (Px := fun _ => False) (by omega) hn hg (fun c hc => hc.elim) (mw_CtQ (ct_reaches (by omega) (by omega) hI ha hb) (Nat.zero_le _) (Nat.zero_le _) (fun v h' h => ?_) (fun _ _ h => h.elim))) (Nat.le_refl _) (Nat.le_refl _) (fun v h' h => lw_conv hn hg hI (fun a9 κ' hq => ⟨(κ.1, w), ⟨fun a' b' ha' hb' e1 e2 => by have z1 := so_inj h120 ha ha' e1; subst z1; have z2 := so_inj h120 hb hb' e2; subst z2; exact ⟨rfl, hq.1, rfl⟩, fun z => absurd ⟨⟨a, ha, rfl⟩, b, hb, rfl⟩ z⟩, hq.2.1, hI.keep hq.2⟩) (fun c hc => hc.elim) h) (fun _ _ h => h)
    obtain ⟨rfl, κ', rfl, hk⟩ := h
    exact ⟨_, κ', rfl, rfl, rfl, hk⟩
  · exact mw_CtQ (lg_reaches (Qx := fun _ _ => False) (Px := fun c => c = 3) (by omega) hn hg (fun c hc => hc) (mw_CtQ (ct_reachesX (by omega) (by omega) h120 hx) (Nat.le_refl _) (Nat.le_refl _) (fun _ _ h => h.elim) (fun k h' h => ⟨3, rfl, h⟩))) (Nat.le_refl _) (Nat.le_refl _) (fun v h' h => lw_conv hn hg hI (fun _ _ hq => hq.elim) (fun c hc => ⟨fun a b ha hb e1 e2 => absurd ⟨⟨a, ha, e1⟩, b, hb, e2⟩ hx, fun _ => ⟨by rw [hc]; rfl, rfl⟩⟩) h) (fun _ _ h => h)
theorem lm_reaches {x y : Int32} (hd : 3 ≤ d) (hn : 497 ≤ n) (hI : md_I μ w) : mw_Ct E m_md_reaches d 0 0 [.ref (mw_b E + 250), .int x, .int y] (md_h E μ n r) (md_R E n r (so_reaches μ.2.1 w x y)) mw_no := by
  have h120 := hI.2.2.1
  by_cases hx : ob_in μ.2.1 x ∧ ob_in μ.2.1 y
  · obtain ⟨⟨a, ha, rfl⟩, b, hb, rfl⟩ := hx
    exact mw_CtQ (ct_mdreaches (by omega) hn hI ha hb) (Nat.le_refl _) (Nat.le_refl _) (fun v h' h => md_conv hI ⟨fun a' b' ha' hb' e1 e2 => by have z1 := so_inj h120 ha ha' e1; subst z1; have z2 := so_inj h120 hb hb' e2; subst z2; exact ⟨rfl, rfl, rfl⟩, fun z => absurd ⟨⟨a, ha, rfl⟩, b, hb, rfl⟩ z⟩ h) (fun _ _ h => h)
  · exact mw_CtQ (ct_mdreachesX (by omega) hn h120 hx) (Nat.le_refl _) (Nat.le_refl _) (fun v h' h => md_conv hI ⟨fun a b ha hb e1 e2 => absurd ⟨⟨a, ha, e1⟩, b, hb, e2⟩ hx, fun _ => ⟨rfl, rfl⟩⟩ h) (fun _ _ h => h)
theorem la_far {x y : Int32} (hd : 9 ≤ d) (hn : 498 ≤ n) (hg : r 497 = .inr (4, 1, g)) (hI : ob_I κ w) : mw_Ct E m_lw_far d 1 6 [.ref (mw_b E + 0), .int x, .int y, .ref (mw_b E + 497)] (ob_h E κ n r) (lw_R E n r lw_i (so_far κ.1 w x y)) mw_no := by
  have h120 := hI.2.2.1
  by_cases hx : ob_in κ.1 x ∧ ob_in κ.1 y
  · obtain ⟨⟨a, ha, rfl⟩, b, hb, rfl⟩ := hx
    refine mw_CtQ (lg_far (Qx := fun a9 κ' => a9 = bf_d κ.1 w gp_no a b ∧ ob_keep κ κ') (Px := fun _ => False) (by omega) hn hg (fun c hc => hc.elim) (mw_CtQ (ct_far (by omega) (by omega) hI ha hb) (Nat.zero_le _) (Nat.zero_le _) (fun v h' h => ?_) (fun _ _ h => h.elim))) (Nat.le_refl _) (Nat.le_refl _) (fun v h' h => lw_conv hn hg hI (fun a9 κ' hq => ⟨(κ.1, w), ⟨fun a' b' ha' hb' e1 e2 => by have z1 := so_inj h120 ha ha' e1; subst z1; have z2 := so_inj h120 hb hb' e2; subst z2; exact ⟨rfl, hq.1, rfl⟩, fun z => absurd ⟨⟨a, ha, rfl⟩, b, hb, rfl⟩ z⟩, hq.2.1, hI.keep hq.2⟩) (fun c hc => hc.elim) h) (fun _ _ h => h)
    obtain ⟨rfl, κ', rfl, hk⟩ := h
    exact ⟨_, κ', rfl, rfl, rfl, hk⟩
  · exact mw_CtQ (lg_far (Qx := fun _ _ => False) (Px := fun c => c = 3) (by omega) hn hg (fun c hc => hc) (mw_CtQ (ct_farX (by omega) (by omega) h120 hx) (Nat.le_refl _) (Nat.le_refl _) (fun _ _ h => h.elim) (fun k h' h => ⟨3, rfl, h⟩))) (Nat.le_refl _) (Nat.le_refl _) (fun v h' h => lw_conv hn hg hI (fun _ _ hq => hq.elim) (fun c hc => ⟨fun a b ha hb e1 e2 => absurd ⟨⟨a, ha, e1⟩, b, hb, e2⟩ hx, fun _ => ⟨by rw [hc]; rfl, rfl⟩⟩) h) (fun _ _ h => h)
theorem lm_far {x y : Int32} (hd : 3 ≤ d) (hn : 497 ≤ n) (hI : md_I μ w) : mw_Ct E m_md_far d 0 0 [.ref (mw_b E + 250), .int x, .int y] (md_h E μ n r) (md_R E n r (so_far μ.2.1 w x y)) mw_no := by
  have h120 := hI.2.2.1
  by_cases hx : ob_in μ.2.1 x ∧ ob_in μ.2.1 y
  · obtain ⟨⟨a, ha, rfl⟩, b, hb, rfl⟩ := hx
    exact mw_CtQ (ct_mdfar (by omega) hn hI ha hb) (Nat.le_refl _) (Nat.le_refl _) (fun v h' h => md_conv hI ⟨fun a' b' ha' hb' e1 e2 => by have z1 := so_inj h120 ha ha' e1; subst z1; have z2 := so_inj h120 hb hb' e2; subst z2; exact ⟨rfl, rfl, rfl⟩, fun z => absurd ⟨⟨a, ha, rfl⟩, b, hb, rfl⟩ z⟩ h) (fun _ _ h => h)
  · exact mw_CtQ (ct_mdfarX (by omega) hn h120 hx) (Nat.le_refl _) (Nat.le_refl _) (fun v h' h => md_conv hI ⟨fun a b ha hb e1 e2 => absurd ⟨⟨a, ha, e1⟩, b, hb, e2⟩ hx, fun _ => ⟨rfl, rfl⟩⟩ h) (fun _ _ h => h)
theorem la_group {x : Int32} (hd : 9 ≤ d) (hn : 498 ≤ n) (hg : r 497 = .inr (4, 1, g)) (hI : ob_I κ w) : mw_Ct E m_lw_group d 1 6 [.ref (mw_b E + 0), .int x, .ref (mw_b E + 497)] (ob_h E κ n r) (lw_R E n r lw_i (so_group κ.1 w x)) mw_no := by
  have h120 := hI.2.2.1
  by_cases hx : ob_in κ.1 x
  · obtain ⟨a, ha, rfl⟩ := hx
    refine mw_CtQ (lg_group (Qx := fun a9 κ' => a9 = nI (gp_g κ.1 w a) ∧ ob_keep κ κ') (Px := fun _ => False) (by omega) hn hg (fun c hc => hc.elim) (mw_CtQ (ct_group (by omega) (by omega) hI ha) (Nat.zero_le _) (Nat.zero_le _) (fun v h' h => ?_) (fun _ _ h => h.elim))) (Nat.le_refl _) (Nat.le_refl _) (fun v h' h => lw_conv hn hg hI (fun a9 κ' hq => ⟨(κ.1, w), ⟨fun a' ha' e1 => by have z1 := so_inj h120 ha ha' e1; subst z1; exact ⟨rfl, hq.1, rfl⟩, fun z => absurd ⟨a, ha, rfl⟩ z⟩, hq.2.1, hI.keep hq.2⟩) (fun c hc => hc.elim) h) (fun _ _ h => h)
    obtain ⟨rfl, κ', rfl, hk⟩ := h
    exact ⟨_, κ', rfl, rfl, rfl, hk⟩
  · exact mw_CtQ (lg_group (Qx := fun _ _ => False) (Px := fun c => c = 3) (by omega) hn hg (fun c hc => hc) (mw_CtQ (ct_groupX (by omega) (by omega) h120 hx) (Nat.le_refl _) (Nat.le_refl _) (fun _ _ h => h.elim) (fun k h' h => ⟨3, rfl, h⟩))) (Nat.le_refl _) (Nat.le_refl _) (fun v h' h => lw_conv hn hg hI (fun _ _ hq => hq.elim) (fun c hc => ⟨fun a ha e1 => absurd ⟨a, ha, e1⟩ hx, fun _ => ⟨by rw [hc]; rfl, rfl⟩⟩) h) (fun _ _ h => h)
theorem lm_group {x : Int32} (hd : 3 ≤ d) (hn : 497 ≤ n) (hI : md_I μ w) : mw_Ct E m_md_group d 0 0 [.ref (mw_b E + 250), .int x] (md_h E μ n r) (md_R E n r (so_group μ.2.1 w x)) mw_no := by
  have h120 := hI.2.2.1
  by_cases hx : ob_in μ.2.1 x
  · obtain ⟨a, ha, rfl⟩ := hx
    exact mw_CtQ (ct_mdgroup (by omega) hn hI ha) (Nat.le_refl _) (Nat.le_refl _) (fun v h' h => md_conv hI ⟨fun a' ha' e1 => by have z1 := so_inj h120 ha ha' e1; subst z1; exact ⟨rfl, rfl, rfl⟩, fun z => absurd ⟨a, ha, rfl⟩ z⟩ h) (fun _ _ h => h)
  · exact mw_CtQ (ct_mdgroupX (by omega) hn h120 hx) (Nat.le_refl _) (Nat.le_refl _) (fun v h' h => md_conv hI ⟨fun a ha e1 => absurd ⟨a, ha, e1⟩ hx, fun _ => ⟨rfl, rfl⟩⟩ h) (fun _ _ h => h)
theorem la_order {x : Int32} (hd : 9 ≤ d) (hn : 498 ≤ n) (hg : r 497 = .inr (4, 1, g)) (hI : ob_I κ w) : mw_Ct E m_lw_order d 1 6 [.ref (mw_b E + 0), .int x, .ref (mw_b E + 497)] (ob_h E κ n r) (lw_R E n r lw_i (so_order κ.1 w x)) mw_no := by
  have h120 := hI.2.2.1
  by_cases hx : ob_in κ.1 x
  · obtain ⟨a, ha, rfl⟩ := hx
    refine mw_CtQ (lg_order (Qx := fun a9 κ' => a9 = nI (or_ln κ.1 w a) ∧ or_ok κ.1 w κ.1 ∧ ob_keep κ κ') (Px := fun c => c = 5 ∧ ¬ or_ok κ.1 w κ.1) (by omega) hn hg (fun c hc => Or.inr hc.1) (mw_CtQ (ct_order (by omega) (by omega) hI ha) (Nat.le_refl _) (Nat.le_refl _) (fun v h' h => ?_) (fun k h' h => ⟨5, ⟨rfl, h.1⟩, h.2⟩))) (Nat.le_refl _) (Nat.le_refl _) (fun v h' h => lw_conv hn hg hI (fun a9 κ' hq => ⟨(κ.1, w), ⟨fun a' ha' e1 => by have z1 := so_inj h120 ha ha' e1; subst z1; exact ⟨fun _ => ⟨rfl, hq.1, rfl⟩, fun z => absurd hq.2.1 z⟩, fun z => absurd ⟨a, ha, rfl⟩ z⟩, hq.2.2.1, hI.keep hq.2.2⟩) (fun c hc => ⟨fun a' ha' e1 => ⟨fun z => absurd z hc.2, fun _ => ⟨by rw [hc.1]; rfl, rfl⟩⟩, fun z => absurd ⟨a, ha, rfl⟩ z⟩) h) (fun _ _ h => h)
    obtain ⟨hok, rfl, κ', rfl, hk⟩ := h
    exact ⟨_, κ', rfl, rfl, rfl, hok, hk⟩
  · exact mw_CtQ (lg_order (Qx := fun _ _ => False) (Px := fun c => c = 3) (by omega) hn hg (fun c hc => Or.inl hc) (mw_CtQ (ct_orderX (by omega) (by omega) h120 hx) (Nat.le_refl _) (Nat.le_refl _) (fun _ _ h => h.elim) (fun k h' h => ⟨3, rfl, h⟩))) (Nat.le_refl _) (Nat.le_refl _) (fun v h' h => lw_conv hn hg hI (fun _ _ hq => hq.elim) (fun c hc => ⟨fun a ha e1 => absurd ⟨a, ha, e1⟩ hx, fun _ => ⟨by rw [hc]; rfl, rfl⟩⟩) h) (fun _ _ h => h)
theorem lm_order {x : Int32} (hd : 3 ≤ d) (hn : 497 ≤ n) (hI : md_I μ w) : mw_Ct E m_md_order d 0 0 [.ref (mw_b E + 250), .int x] (md_h E μ n r) (md_R E n r (so_order μ.2.1 w x)) mw_no := by
  have h120 := hI.2.2.1
  by_cases hx : ob_in μ.2.1 x
  · obtain ⟨a, ha, rfl⟩ := hx
    refine mw_CtQ (ct_mdorder (by omega) hn hI ha) (Nat.le_refl _) (Nat.le_refl _) (fun v h' h => ?_) (fun _ _ h => h)
    rcases h with ⟨hok, h⟩ | ⟨hno, h⟩
    · exact md_conv hI ⟨fun a' ha' e1 => by have z1 := so_inj h120 ha ha' e1; subst z1; exact ⟨fun _ => ⟨rfl, rfl, rfl⟩, fun z => absurd hok z⟩, fun z => absurd ⟨a, ha, rfl⟩ z⟩ h
    · exact md_conv hI ⟨fun a' ha' e1 => ⟨fun z => absurd z hno, fun _ => ⟨rfl, rfl⟩⟩, fun z => absurd ⟨a, ha, rfl⟩ z⟩ h
  · exact mw_CtQ (ct_mdorderX (by omega) hn h120 hx) (Nat.le_refl _) (Nat.le_refl _) (fun v h' h => md_conv hI ⟨fun a ha e1 => absurd ⟨a, ha, e1⟩ hx, fun _ => ⟨rfl, rfl⟩⟩ h) (fun _ _ h => h)
theorem la_level {x : Int32} (hd : 9 ≤ d) (hn : 498 ≤ n) (hg : r 497 = .inr (4, 1, g)) (hI : ob_I κ w) : mw_Ct E m_lw_level d 1 6 [.ref (mw_b E + 0), .int x, .ref (mw_b E + 497)] (ob_h E κ n r) (lw_R E n r lw_i (so_level κ.1 w x)) mw_no := by
  have h120 := hI.2.2.1
  by_cases hx : ob_in κ.1 x
  · obtain ⟨a, ha, rfl⟩ := hx
    refine mw_CtQ (lg_level (Qx := fun a9 κ' => a9 = nI (or_lv κ.1 w κ.1 a) ∧ or_ok κ.1 w κ.1 ∧ ob_keep κ κ') (Px := fun c => c = 5 ∧ ¬ or_ok κ.1 w κ.1) (by omega) hn hg (fun c hc => Or.inr hc.1) (mw_CtQ (ct_level (by omega) (by omega) hI ha) (Nat.le_refl _) (Nat.le_refl _) (fun v h' h => ?_) (fun k h' h => ⟨5, ⟨rfl, h.1⟩, h.2⟩))) (Nat.le_refl _) (Nat.le_refl _) (fun v h' h => lw_conv hn hg hI (fun a9 κ' hq => ⟨(κ.1, w), ⟨fun a' ha' e1 => by have z1 := so_inj h120 ha ha' e1; subst z1; exact ⟨fun _ => ⟨rfl, hq.1, rfl⟩, fun z => absurd hq.2.1 z⟩, fun z => absurd ⟨a, ha, rfl⟩ z⟩, hq.2.2.1, hI.keep hq.2.2⟩) (fun c hc => ⟨fun a' ha' e1 => ⟨fun z => absurd z hc.2, fun _ => ⟨by rw [hc.1]; rfl, rfl⟩⟩, fun z => absurd ⟨a, ha, rfl⟩ z⟩) h) (fun _ _ h => h)
    obtain ⟨hok, rfl, κ', rfl, hk⟩ := h
    exact ⟨_, κ', rfl, rfl, rfl, hok, hk⟩
  · exact mw_CtQ (lg_level (Qx := fun _ _ => False) (Px := fun c => c = 3) (by omega) hn hg (fun c hc => Or.inl hc) (mw_CtQ (ct_levelX (by omega) (by omega) h120 hx) (Nat.le_refl _) (Nat.le_refl _) (fun _ _ h => h.elim) (fun k h' h => ⟨3, rfl, h⟩))) (Nat.le_refl _) (Nat.le_refl _) (fun v h' h => lw_conv hn hg hI (fun _ _ hq => hq.elim) (fun c hc => ⟨fun a ha e1 => absurd ⟨a, ha, e1⟩ hx, fun _ => ⟨by rw [hc]; rfl, rfl⟩⟩) h) (fun _ _ h => h)
theorem lm_level {x : Int32} (hd : 3 ≤ d) (hn : 497 ≤ n) (hI : md_I μ w) : mw_Ct E m_md_level d 0 0 [.ref (mw_b E + 250), .int x] (md_h E μ n r) (md_R E n r (so_level μ.2.1 w x)) mw_no := by
  have h120 := hI.2.2.1
  by_cases hx : ob_in μ.2.1 x
  · obtain ⟨a, ha, rfl⟩ := hx
    refine mw_CtQ (ct_mdlevel (by omega) hn hI ha) (Nat.le_refl _) (Nat.le_refl _) (fun v h' h => ?_) (fun _ _ h => h)
    rcases h with ⟨hok, h⟩ | ⟨hno, h⟩
    · exact md_conv hI ⟨fun a' ha' e1 => by have z1 := so_inj h120 ha ha' e1; subst z1; exact ⟨fun _ => ⟨rfl, rfl, rfl⟩, fun z => absurd hok z⟩, fun z => absurd ⟨a, ha, rfl⟩ z⟩ h
    · exact md_conv hI ⟨fun a' ha' e1 => ⟨fun z => absurd z hno, fun _ => ⟨rfl, rfl⟩⟩, fun z => absurd ⟨a, ha, rfl⟩ z⟩ h
  · exact mw_CtQ (ct_mdlevelX (by omega) hn h120 hx) (Nat.le_refl _) (Nat.le_refl _) (fun v h' h => md_conv hI ⟨fun a ha e1 => absurd ⟨a, ha, e1⟩ hx, fun _ => ⟨rfl, rfl⟩⟩ h) (fun _ _ h => h)
theorem la_paths {x y : Int32} (hd : 9 ≤ d) (hn : 498 ≤ n) (hg : r 497 = .inr (4, 1, g)) (hI : ob_I κ w) : mw_Ct E m_lw_paths d 1 6 [.ref (mw_b E + 0), .int x, .int y, .ref (mw_b E + 497)] (ob_h E κ n r) (lw_R E n r lw_i (so_paths κ.1 w x y)) mw_no := by
  have h120 := hI.2.2.1
  by_cases hx : ob_in κ.1 x ∧ ob_in κ.1 y
  · obtain ⟨⟨a, ha, rfl⟩, b, hb, rfl⟩ := hx
    refine mw_CtQ (lg_paths (Qx := fun a9 κ' => a9 = nI (or_ps κ.1 w a κ.1 b) ∧ or_ok κ.1 w κ.1 ∧ ob_keep κ κ') (Px := fun c => c = 5 ∧ ¬ or_ok κ.1 w κ.1) (by omega) hn hg (fun c hc => Or.inr hc.1) (mw_CtQ (ct_paths (by omega) (by omega) hI ha hb) (Nat.le_refl _) (Nat.le_refl _) (fun v h' h => ?_) (fun k h' h => ⟨5, ⟨rfl, h.1⟩, h.2⟩))) (Nat.le_refl _) (Nat.le_refl _) (fun v h' h => lw_conv hn hg hI (fun a9 κ' hq => ⟨(κ.1, w), ⟨fun a' b' ha' hb' e1 e2 => by have z1 := so_inj h120 ha ha' e1; subst z1; have z2 := so_inj h120 hb hb' e2; subst z2; exact ⟨fun _ => ⟨rfl, hq.1, rfl⟩, fun z => absurd hq.2.1 z⟩, fun z => absurd ⟨⟨a, ha, rfl⟩, b, hb, rfl⟩ z⟩, hq.2.2.1, hI.keep hq.2.2⟩) (fun c hc => ⟨fun a' b' ha' hb' e1 e2 => ⟨fun z => absurd z hc.2, fun _ => ⟨by rw [hc.1]; rfl, rfl⟩⟩, fun z => absurd ⟨⟨a, ha, rfl⟩, b, hb, rfl⟩ z⟩) h) (fun _ _ h => h)
    obtain ⟨hok, rfl, κ', rfl, hk⟩ := h
    exact ⟨_, κ', rfl, rfl, rfl, hok, hk⟩
  · exact mw_CtQ (lg_paths (Qx := fun _ _ => False) (Px := fun c => c = 3) (by omega) hn hg (fun c hc => Or.inl hc) (mw_CtQ (ct_pathsX (by omega) (by omega) h120 hx) (Nat.le_refl _) (Nat.le_refl _) (fun _ _ h => h.elim) (fun k h' h => ⟨3, rfl, h⟩))) (Nat.le_refl _) (Nat.le_refl _) (fun v h' h => lw_conv hn hg hI (fun _ _ hq => hq.elim) (fun c hc => ⟨fun a b ha hb e1 e2 => absurd ⟨⟨a, ha, e1⟩, b, hb, e2⟩ hx, fun _ => ⟨by rw [hc]; rfl, rfl⟩⟩) h) (fun _ _ h => h)
theorem lm_paths {x y : Int32} (hd : 3 ≤ d) (hn : 497 ≤ n) (hI : md_I μ w) : mw_Ct E m_md_paths d 0 0 [.ref (mw_b E + 250), .int x, .int y] (md_h E μ n r) (md_R E n r (so_paths μ.2.1 w x y)) mw_no := by
  have h120 := hI.2.2.1
  by_cases hx : ob_in μ.2.1 x ∧ ob_in μ.2.1 y
  · obtain ⟨⟨a, ha, rfl⟩, b, hb, rfl⟩ := hx
    refine mw_CtQ (ct_mdpaths (by omega) hn hI ha hb) (Nat.le_refl _) (Nat.le_refl _) (fun v h' h => ?_) (fun _ _ h => h)
    rcases h with ⟨hok, h⟩ | ⟨hno, h⟩
    · exact md_conv hI ⟨fun a' b' ha' hb' e1 e2 => by have z1 := so_inj h120 ha ha' e1; subst z1; have z2 := so_inj h120 hb hb' e2; subst z2; exact ⟨fun _ => ⟨rfl, rfl, rfl⟩, fun z => absurd hok z⟩, fun z => absurd ⟨⟨a, ha, rfl⟩, b, hb, rfl⟩ z⟩ h
    · exact md_conv hI ⟨fun a' b' ha' hb' e1 e2 => ⟨fun z => absurd z hno, fun _ => ⟨rfl, rfl⟩⟩, fun z => absurd ⟨⟨a, ha, rfl⟩, b, hb, rfl⟩ z⟩ h
  · exact mw_CtQ (ct_mdpathsX (by omega) hn h120 hx) (Nat.le_refl _) (Nat.le_refl _) (fun v h' h => md_conv hI ⟨fun a b ha hb e1 e2 => absurd ⟨⟨a, ha, e1⟩, b, hb, e2⟩ hx, fun _ => ⟨rfl, rfl⟩⟩ h) (fun _ _ h => h)
theorem la_gate {x y : Int32} (hd : 9 ≤ d) (hn : 498 ≤ n) (hg : r 497 = .inr (4, 1, g)) (hI : ob_I κ w) : mw_Ct E m_lw_gate d 1 6 [.ref (mw_b E + 0), .int x, .int y, .ref (mw_b E + 497)] (ob_h E κ n r) (lw_R E n r lw_i (so_gate κ.1 w x y)) mw_no := by
  have h120 := hI.2.2.1
  by_cases hx : ob_in κ.1 x ∧ ob_in κ.1 y
  · obtain ⟨⟨a, ha, rfl⟩, b, hb, rfl⟩ := hx
    refine mw_CtQ (lg_gate (Qx := fun a9 κ' => gt_R κ.1 w a b a9 ∧ ob_keep κ κ') (Px := fun _ => False) (by omega) hn hg (fun c hc => hc.elim) (mw_CtQ (ct_gate (by omega) (by omega) hI ha hb) (Nat.zero_le _) (Nat.zero_le _) (fun v h' h => ?_) (fun _ _ h => h.elim))) (Nat.le_refl _) (Nat.le_refl _) (fun v h' h => lw_conv hn hg hI (fun a9 κ' hq => ⟨(κ.1, w), ⟨fun a' b' ha' hb' e1 e2 => by have z1 := so_inj h120 ha ha' e1; subst z1; have z2 := so_inj h120 hb hb' e2; subst z2; exact ⟨rfl, hq.1, rfl⟩, fun z => absurd ⟨⟨a, ha, rfl⟩, b, hb, rfl⟩ z⟩, hq.2.1, hI.keep hq.2⟩) (fun c hc => hc.elim) h) (fun _ _ h => h)
    obtain ⟨x9, rfl, hx9, κ', rfl, hk⟩ := h
    exact ⟨x9, κ', rfl, rfl, hx9, hk⟩
  · exact mw_CtQ (lg_gate (Qx := fun _ _ => False) (Px := fun c => c = 3) (by omega) hn hg (fun c hc => hc) (mw_CtQ (ct_gateX (by omega) (by omega) h120 hx) (Nat.le_refl _) (Nat.le_refl _) (fun _ _ h => h.elim) (fun k h' h => ⟨3, rfl, h⟩))) (Nat.le_refl _) (Nat.le_refl _) (fun v h' h => lw_conv hn hg hI (fun _ _ hq => hq.elim) (fun c hc => ⟨fun a b ha hb e1 e2 => absurd ⟨⟨a, ha, e1⟩, b, hb, e2⟩ hx, fun _ => ⟨by rw [hc]; rfl, rfl⟩⟩) h) (fun _ _ h => h)
theorem lm_gate {x y : Int32} (hd : 3 ≤ d) (hn : 497 ≤ n) (hI : md_I μ w) : mw_Ct E m_md_gate d 0 0 [.ref (mw_b E + 250), .int x, .int y] (md_h E μ n r) (md_R E n r (so_gate μ.2.1 w x y)) mw_no := by
  have h120 := hI.2.2.1
  by_cases hx : ob_in μ.2.1 x ∧ ob_in μ.2.1 y
  · obtain ⟨⟨a, ha, rfl⟩, b, hb, rfl⟩ := hx
    refine mw_CtQ (ct_mdgate (by omega) hn hI ha hb) (Nat.le_refl _) (Nat.le_refl _) (fun v h' h => ?_) (fun _ _ h => h)
    obtain ⟨x9, rfl, hx9, μ', rfl, hk, ht⟩ := h
    exact ⟨nI 0, x9, (μ.2.1, w), μ', rfl, ⟨fun a' b' ha' hb' e1 e2 => by have z1 := so_inj h120 ha ha' e1; subst z1; have z2 := so_inj h120 hb hb' e2; subst z2; exact ⟨rfl, hx9, rfl⟩, fun z => absurd ⟨⟨a, ha, rfl⟩, b, hb, rfl⟩ z⟩, rfl, ht, hk.1, hI.keep hk⟩
  · exact mw_CtQ (ct_mdgateX (by omega) hn h120 hx) (Nat.le_refl _) (Nat.le_refl _) (fun v h' h => md_conv hI ⟨fun a b ha hb e1 e2 => absurd ⟨⟨a, ha, e1⟩, b, hb, e2⟩ hx, fun _ => ⟨rfl, rfl⟩⟩ h) (fun _ _ h => h)
theorem la_all {x y z : Int32} (hd : 9 ≤ d) (hn : 498 ≤ n) (hg : r 497 = .inr (4, 1, g)) (hI : ob_I κ w) : mw_Ct E m_lw_all d 1 6 [.ref (mw_b E + 0), .int x, .int y, .int z, .ref (mw_b E + 497)] (ob_h E κ n r) (lw_R E n r lw_b (so_all κ.1 w x y z)) mw_no := by
  have h120 := hI.2.2.1
  by_cases hx : ob_in κ.1 x ∧ ob_in κ.1 y ∧ ob_in κ.1 z
  · obtain ⟨⟨a, ha, rfl⟩, ⟨b, hb, rfl⟩, c, hc, rfl⟩ := hx
    refine mw_CtQ (lg_all (Qx := fun a9 κ' => a9 = bI (!gp_A κ.1 w a c b) ∧ ob_keep κ κ') (Px := fun _ => False) (by omega) hn hg (fun c hc => hc.elim) (mw_CtQ (ct_all (by omega) (by omega) hI ha hb hc) (Nat.zero_le _) (Nat.zero_le _) (fun v h' h => ?_) (fun _ _ h => h.elim))) (Nat.le_refl _) (Nat.le_refl _) (fun v h' h => lw_conv hn hg hI (fun a9 κ' hq => ⟨(κ.1, w), ⟨fun a' b' c' ha' hb' hc' e1 e2 e3 => by have z1 := so_inj h120 ha ha' e1; subst z1; have z2 := so_inj h120 hb hb' e2; subst z2; have z3 := so_inj h120 hc hc' e3; subst z3; exact ⟨rfl, hq.1, rfl⟩, fun z => absurd ⟨⟨a, ha, rfl⟩, ⟨b, hb, rfl⟩, c, hc, rfl⟩ z⟩, hq.2.1, hI.keep hq.2⟩) (fun c hc => hc.elim) h) (fun _ _ h => h)
    obtain ⟨rfl, κ', rfl, hk⟩ := h
    exact ⟨_, κ', rfl, rfl, rfl, hk⟩
  · exact mw_CtQ (lg_all (Qx := fun _ _ => False) (Px := fun c => c = 3) (by omega) hn hg (fun c hc => hc) (mw_CtQ (ct_allX (by omega) (by omega) h120 hx) (Nat.le_refl _) (Nat.le_refl _) (fun _ _ h => h.elim) (fun k h' h => ⟨3, rfl, h⟩))) (Nat.le_refl _) (Nat.le_refl _) (fun v h' h => lw_conv hn hg hI (fun _ _ hq => hq.elim) (fun c hc => ⟨fun a b c ha hb hc e1 e2 e3 => absurd ⟨⟨a, ha, e1⟩, ⟨b, hb, e2⟩, c, hc, e3⟩ hx, fun _ => ⟨by rw [hc]; rfl, rfl⟩⟩) h) (fun _ _ h => h)
theorem lm_all {x y z : Int32} (hd : 3 ≤ d) (hn : 497 ≤ n) (hI : md_I μ w) : mw_Ct E m_md_all3 d 0 0 [.ref (mw_b E + 250), .int x, .int y, .int z] (md_h E μ n r) (md_R E n r (so_all μ.2.1 w x y z)) mw_no := by
  have h120 := hI.2.2.1
  by_cases hx : ob_in μ.2.1 x ∧ ob_in μ.2.1 y ∧ ob_in μ.2.1 z
  · obtain ⟨⟨a, ha, rfl⟩, ⟨b, hb, rfl⟩, c, hc, rfl⟩ := hx
    exact mw_CtQ (ct_mdall3 (by omega) hn hI ha hb hc) (Nat.le_refl _) (Nat.le_refl _) (fun v h' h => md_conv hI ⟨fun a' b' c' ha' hb' hc' e1 e2 e3 => by have z1 := so_inj h120 ha ha' e1; subst z1; have z2 := so_inj h120 hb hb' e2; subst z2; have z3 := so_inj h120 hc hc' e3; subst z3; exact ⟨rfl, rfl, rfl⟩, fun z => absurd ⟨⟨a, ha, rfl⟩, ⟨b, hb, rfl⟩, c, hc, rfl⟩ z⟩ h) (fun _ _ h => h)
  · exact mw_CtQ (ct_mdall3X (by omega) hn h120 hx) (Nat.le_refl _) (Nat.le_refl _) (fun v h' h => md_conv hI ⟨fun a b c ha hb hc e1 e2 e3 => absurd ⟨⟨a, ha, e1⟩, ⟨b, hb, e2⟩, c, hc, e3⟩ hx, fun _ => ⟨rfl, rfl⟩⟩ h) (fun _ _ h => h)
theorem la_places {x : Int32} (hd : 9 ≤ d) (hn : 498 ≤ n) (hg : r 497 = .inr (4, 1, g)) (hI : ob_I κ w) : mw_Ct E m_lw_places d 1 6 [.ref (mw_b E + 0), .int x, .ref (mw_b E + 497)] (ob_h E κ n r) (lw_R E n r lw_i (so_places κ.1 w x)) mw_no := by
  by_cases hx : ∃ m, 1 ≤ m ∧ m ≤ 120 ∧ x = nI m
  · obtain ⟨m, m1, m2, rfl⟩ := hx
    refine mw_CtQ (lg_places (Qx := fun a9 κ' => a9 = nI κ.1 ∧ κ'.1 = m ∧ ob_I κ' (fun _ _ => false)) (Px := fun _ => False) (by omega) hn hg (fun c hc => hc.elim) (mw_CtQ (ct_places (by omega) (by omega) m1 m2) (Nat.zero_le _) (Nat.zero_le _) (fun v h' h => ?_) (fun _ _ h => h.elim))) (Nat.le_refl _) (Nat.le_refl _) (fun v h' h => lw_conv hn hg hI (fun a9 κ' hq => ⟨(m, fun _ _ => false), ⟨fun m' m1' m2' e => by have z := nI_inj (by omega) (by omega) e; subst z; exact ⟨rfl, hq.1, rfl⟩, fun z => absurd ⟨m, m1, m2, rfl⟩ z⟩, hq.2.1, hq.2.2⟩) (fun c hc => hc.elim) h) (fun _ _ h => h)
    obtain ⟨rfl, κ', rfl, e1, e2⟩ := h
    exact ⟨_, κ', rfl, rfl, rfl, e1, e2⟩
  · exact mw_CtQ (lg_places (Qx := fun _ _ => False) (Px := fun c => c = 4) (by omega) hn hg (fun c hc => hc) (mw_CtQ (ct_placesX (by omega) (by omega) hx) (Nat.le_refl _) (Nat.le_refl _) (fun _ _ h => h.elim) (fun k h' h => ⟨4, rfl, h⟩))) (Nat.le_refl _) (Nat.le_refl _) (fun v h' h => lw_conv hn hg hI (fun _ _ hq => hq.elim) (fun c hc => ⟨fun m m1 m2 e => absurd ⟨m, m1, m2, e⟩ hx, fun _ => ⟨by rw [hc]; rfl, rfl⟩⟩) h) (fun _ _ h => h)
theorem lm_places {x : Int32} (hd : 3 ≤ d) (hn : 497 ≤ n) (hI : md_I μ w) : mw_Ct E m_md_places d 0 0 [.ref (mw_b E + 250), .int x] (md_h E μ n r) (md_R E n r (so_places μ.2.1 w x)) mw_no := by
  by_cases hx : ∃ m, 1 ≤ m ∧ m ≤ 120 ∧ x = nI m
  · obtain ⟨m, m1, m2, rfl⟩ := hx
    refine mw_CtQ (ct_mdplaces (by omega) hn m1 m2) (Nat.le_refl _) (Nat.le_refl _) (fun v h' h => ?_) (fun _ _ h => h)
    obtain ⟨rfl, μ', rfl, e1, e2, e3⟩ := h
    exact ⟨nI 0, _, (m, fun _ _ => false), μ', rfl, ⟨fun m' m1' m2' e => by have z := nI_inj (by omega) (by omega) e; subst z; exact ⟨rfl, rfl, rfl⟩, fun z => absurd ⟨m, m1, m2, rfl⟩ z⟩, rfl, e2, e1, e3⟩
  · exact mw_CtQ (ct_mdplacesX (by omega) hn hx) (Nat.le_refl _) (Nat.le_refl _) (fun v h' h => md_conv hI ⟨fun m m1 m2 e => absurd ⟨m, m1, m2, e⟩ hx, fun _ => ⟨rfl, rfl⟩⟩ h) (fun _ _ h => h)
end So
