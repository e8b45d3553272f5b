/-! OrderBench.mustBePlace; what comes of a refused place. -/
theorem mw_ow {own : String} {ic : Nat} {cls : String} {names : List String} (h : (Bundle.ownAtoms0 own ic cls names).all (fun w => (decide (w ∈ lw_tbl) && goodWord w) || (decide (w ∈ mw_zw) || decide (w ∈ mw_xw))) = true) : ∀ w ∈ Bundle.ownAtoms0 own ic cls names, w ∈ mw_tb ∨ w ∈ mw_zw ∨ w ∈ mw_xw := by
  intro w hw
  have h1 := List.all_eq_true.mp h w hw
  simp only [Bool.or_eq_true, Bool.and_eq_true, decide_eq_true_eq] at h1
  rcases h1 with ⟨h1, h2⟩ | h1 | h1
  · exact Or.inl (mw_tb_in h1 h2)
  · exact Or.inr (Or.inl h1)
  · exact Or.inr (Or.inr h1)
set_option maxRecDepth 100000 in
theorem ow_ns : ∀ w ∈ Bundle.ownAtoms0 "OrderBench" 102 "java/util/NoSuchElementException" ["java/lang/RuntimeException", "java/lang/Exception"], w ∈ mw_tb ∨ w ∈ mw_zw ∨ w ∈ mw_xw := mw_ow (by decide +kernel)
set_option maxRecDepth 100000 in
theorem ow_ia : ∀ w ∈ Bundle.ownAtoms0 "OrderBench" 48 "java/lang/IllegalArgumentException" ["java/lang/RuntimeException", "java/lang/Exception"], w ∈ mw_tb ∨ w ∈ mw_zw ∨ w ∈ mw_xw := mw_ow (by decide +kernel)
set_option maxRecDepth 100000 in
theorem ow_is : ∀ w ∈ Bundle.ownAtoms0 "OrderBench" 132 "java/lang/IllegalStateException" ["java/lang/RuntimeException", "java/lang/Exception"], w ∈ mw_tb ∨ w ∈ mw_zw ∨ w ∈ mw_xw := mw_ow (by decide +kernel)
section Must
variable {E : mw_E} {d n : Nat} {κ : ob_K} {r : Nat → mw_O}
def ob_e (cx : Nat) : mw_O := .inl (cx, fun _ => .null)
theorem ob_exc (hn : 250 ≤ n) (cx : Nat) : ((ob_h E κ n r).1 + 1, va_up (ob_h E κ n r).2 (ob_h E κ n r).1 (.inl (cx, fun _ => .null))) = ob_h E κ (n + 1) (va_up r n (ob_e cx)) := by
  refine Prod.ext rfl ?_
  funext k
  show va_up (fun k => if k < 250 then ob_o (mw_b E) κ k else r k) n (.inl (cx, fun _ => .null)) k = if k < 250 then ob_o (mw_b E) κ k else va_up r n (ob_e cx) k
  unfold va_up
  by_cases e : k = n
  · have h1 : ¬ k < 250 := by omega
    rw [if_pos e, if_neg h1, if_pos e]
    rfl
  · rw [if_neg e]
    by_cases h1 : k < 250
    · rw [if_pos h1]; show (if k < 250 then ob_o (mw_b E) κ k else r k) = _; rw [if_pos h1]
    · rw [if_neg h1, if_neg e]; show (if k < 250 then ob_o (mw_b E) κ k else r k) = _; rw [if_neg h1]
def ob_X (E : mw_E) (κ : ob_K) (n : Nat) (r : Nat → mw_O) (cx : Nat) : Nat → mw_H → Prop := fun k h' => k = n ∧ ∃ κ', h' = ob_h E κ' (n + 1) (va_up r n (ob_e cx)) ∧ ob_keep κ κ'
def ob_no : Option Value → mw_H → Prop := fun _ _ => False
theorem ct_must {p : Nat} (hn : 250 ≤ n) (hN : κ.1 ≤ 120) (hp : p < κ.1) : mw_Ct E m_ob_mustBePlace d 0 0 [.ref (mw_b E + 0), .int (nI p)] (ob_h E κ n r) (fun v h' => v = none ∧ h' = ob_h E κ n r) mw_no := by
  show mw_W E m_ob_mustBePlace d _ _ 0 0 0 [some (.ref (mw_b E + 0)), some (.int (nI p))] [] (ob_h E κ n r)
  refine mw_iload1 d_ob_mustBePlace_0 ?_
  refine mw_if_lt (tgt := 12) d_ob_mustBePlace_1 (by decide) (fun hc => absurd hc (nI_pos (by omega))) (fun hc => ?_)
  refine mw_iload1 d_ob_mustBePlace_4 ?_
  refine mw_aload0 d_ob_mustBePlace_5 ?_
  refine gf_ob_size d_ob_mustBePlace_6 hn rfl ?_
  refine mw_icmp_lt (tgt := 20) d_ob_mustBePlace_9 (by decide) (fun hc2 => ?_) (fun hc2 => absurd (nI_lt hp (by omega)) hc2)
  exact mw_vret d_ob_mustBePlace_20 rfl ⟨rfl, rfl⟩
theorem ct_mustX {x : Int32} (hd : 6 ≤ d) (hn : 250 ≤ n) (hN : κ.1 ≤ 120) (hx : ¬ ∃ p, p < κ.1 ∧ x = nI p) : mw_Ct E m_ob_mustBePlace d 1 6 [.ref (mw_b E + 0), .int x] (ob_h E κ n r) ob_no (ob_X E κ n r 3) := by
  show mw_W E m_ob_mustBePlace d _ _ 1 6 0 [some (.ref (mw_b E + 0)), some (.int x)] [] (ob_h E κ n r)
  have key : mw_W E m_ob_mustBePlace d ob_no (ob_X E κ n r 3) 1 6 12 [some (.ref (mw_b E + 0)), some (.int x)] [] (ob_h E κ n r) := by
    refine mw_throw (cx := 3) (T9 := T_no) rfl (by decide +kernel) (by decide +kernel) ow_ns tb_250 tb_8 d_ob_mustBePlace_12 d_ob_mustBePlace_15 d_ob_mustBePlace_16 d_ob_mustBePlace_19 (fun x hx => nomatch hx) rfl (by omega) (Nat.le_of_ble_eq_true rfl) (Nat.le_refl _) (Nat.le_refl _) ?_
    exact ⟨rfl, κ, ob_exc hn 3, ob_keep.refl κ⟩
  refine mw_iload1 d_ob_mustBePlace_0 ?_
  refine mw_if_lt (tgt := 12) d_ob_mustBePlace_1 (by decide) (fun hc => key) (fun hc => ?_)
  refine mw_iload1 d_ob_mustBePlace_4 ?_
  refine mw_aload0 d_ob_mustBePlace_5 ?_
  refine gf_ob_size d_ob_mustBePlace_6 hn rfl ?_
  refine mw_icmp_lt (tgt := 20) d_ob_mustBePlace_9 (by decide) (fun hc2 => ?_) (fun hc2 => key)
  exfalso
  obtain ⟨j, hj, rfl⟩ := nI_of hc
  exact hx ⟨j, (nI_ltI hj (by omega)).mp hc2, rfl⟩
variable {M : mw_M} {bc bs pc idx : Nat} {Q : Option Value → mw_H → Prop} {X : Nat → mw_H → Prop} {lo : List (Option Value)} {st : List Value}
theorem ob_must {p : Nat} (hw : mw_lkV M m_ob_mustBePlace idx 1 1) (hd9 : decode M.2.1 pc = .ok (.invokevirtual idx, 3)) (hn : 250 ≤ n) (hN : κ.1 ≤ 120) (hp : p < κ.1) (hd : 1 ≤ d) (hst : (st.map fun v => v.category).sum ≤ 8) (k : mw_W E M d Q X bc bs (pc + 3) lo st (ob_h E κ n r)) : mw_W E M d Q X bc bs pc lo (.int (nI p) :: .ref (mw_b E + 0) :: st) (ob_h E κ n r) :=
  mw_cV1v (d' := d - 1) hw hd9 (ob_lt hn (by decide)) ob_g0 (Nat.le_of_ble_eq_true rfl) (ct_must hn hN hp) (by omega) hst (Nat.zero_le _) (Nat.zero_le _) k
/-- a call that only throws, in a method without handlers -/
theorem ob_mustX {x : Int32} {κ0 : ob_K} (hw : mw_lkV M m_ob_mustBePlace idx 1 1) (hd9 : decode M.2.1 pc = .ok (.invokevirtual idx, 3)) (hn : 250 ≤ n) (hN : κ.1 ≤ 120) (hx : ¬ ∃ p, p < κ.1 ∧ x = nI p) (hk : ob_keep κ0 κ) (htab : M.2.2.2.2 = []) (hd : 7 ≤ d) (hbc : 1 ≤ bc) (hbs : 6 ≤ bs) (hst : (st.map fun v => v.category).sum ≤ 8) : mw_W E M d Q (ob_X E κ0 n r 3) bc bs pc lo (.int x :: .ref (mw_b E + 0) :: st) (ob_h E κ n r) := by
  refine mw_cV1 (d' := d - 1) hw hd9 (ob_lt hn (by decide)) ob_g0 (Nat.le_of_ble_eq_true rfl) (ct_mustX (by omega) hn hN hx) (by omega) hst hbc hbs (fun _ _ q => q.elim) ?_
  rintro k h' ⟨rfl, κ', rfl, hk'⟩
  exact mw_out (by rw [htab]; exact fun x hx => nomatch hx) ⟨rfl, κ', rfl, hk.trans hk'⟩
end Must
