/-! OrderBench: its fields, arrays and sets, as the walker's rows. -/
section ObRows
variable {E : mw_E} {M : mw_M} {d bc bs pc n : Nat} {Q : Option Value → mw_H → Prop} {X : Nat → mw_H → Prop} {lo : List (Option Value)} {st : List Value} {κ : ob_K} {r : Nat → mw_O}
theorem ob_lt {j : Nat} (hn : 250 ≤ n) (hj : j < 250) : j < (ob_h E κ n r).1 := by show j < n; omega
theorem gf_ob_size (hd : decode M.2.1 pc = .ok (.getfield 9, 3)) (hn : 250 ≤ n) (hM : M.1.cls = "OrderBench") (k : mw_W E M d Q X bc bs (pc + 3) lo (.int (nI κ.1) :: st) (ob_h E κ n r)) : mw_W E M d Q X bc bs pc lo (.ref (mw_b E + 0) :: st) (ob_h E κ n r) :=
  mw_getf (k := 0) (hM ▸ fl_ob_size) hd (ob_lt hn (by decide)) ob_g0 rfl k
theorem gf_ob_out (hd : decode M.2.1 pc = .ok (.getfield 15, 3)) (hn : 250 ≤ n) (hM : M.1.cls = "OrderBench") (k : mw_W E M d Q X bc bs (pc + 3) lo (.ref (mw_b E + (1 + 0)) :: st) (ob_h E κ n r)) : mw_W E M d Q X bc bs pc lo (.ref (mw_b E + 0) :: st) (ob_h E κ n r) :=
  mw_getf (k := 1) (hM ▸ fl_ob_out) hd (ob_lt hn (by decide)) ob_g0 rfl k
theorem gf_ob_into (hd : decode M.2.1 pc = .ok (.getfield 19, 3)) (hn : 250 ≤ n) (hM : M.1.cls = "OrderBench") (k : mw_W E M d Q X bc bs (pc + 3) lo (.ref (mw_b E + (1 + 1)) :: st) (ob_h E κ n r)) : mw_W E M d Q X bc bs pc lo (.ref (mw_b E + 0) :: st) (ob_h E κ n r) :=
  mw_getf (k := 2) (hM ▸ fl_ob_into) hd (ob_lt hn (by decide)) ob_g0 rfl k
theorem gf_ob_reached (hd : decode M.2.1 pc = .ok (.getfield 23, 3)) (hn : 250 ≤ n) (hM : M.1.cls = "OrderBench") (k : mw_W E M d Q X bc bs (pc + 3) lo (.ref (mw_b E + (3 + 240)) :: st) (ob_h E κ n r)) : mw_W E M d Q X bc bs pc lo (.ref (mw_b E + 0) :: st) (ob_h E κ n r) :=
  mw_getf (k := 3) (hM ▸ fl_ob_reached) hd (ob_lt hn (by decide)) ob_g0 rfl k
theorem gf_ob_rim (hd : decode M.2.1 pc = .ok (.getfield 27, 3)) (hn : 250 ≤ n) (hM : M.1.cls = "OrderBench") (k : mw_W E M d Q X bc bs (pc + 3) lo (.ref (mw_b E + (3 + 241)) :: st) (ob_h E κ n r)) : mw_W E M d Q X bc bs pc lo (.ref (mw_b E + 0) :: st) (ob_h E κ n r) :=
  mw_getf (k := 4) (hM ▸ fl_ob_rim) hd (ob_lt hn (by decide)) ob_g0 rfl k
theorem gf_ob_fresh (hd : decode M.2.1 pc = .ok (.getfield 30, 3)) (hn : 250 ≤ n) (hM : M.1.cls = "OrderBench") (k : mw_W E M d Q X bc bs (pc + 3) lo (.ref (mw_b E + (3 + 242)) :: st) (ob_h E κ n r)) : mw_W E M d Q X bc bs pc lo (.ref (mw_b E + 0) :: st) (ob_h E κ n r) :=
  mw_getf (k := 5) (hM ▸ fl_ob_fresh) hd (ob_lt hn (by decide)) ob_g0 rfl k
theorem gf_ob_kept (hd : decode M.2.1 pc = .ok (.getfield 33, 3)) (hn : 250 ≤ n) (hM : M.1.cls = "OrderBench") (k : mw_W E M d Q X bc bs (pc + 3) lo (.ref (mw_b E + (3 + 243)) :: st) (ob_h E κ n r)) : mw_W E M d Q X bc bs pc lo (.ref (mw_b E + 0) :: st) (ob_h E κ n r) :=
  mw_getf (k := 6) (hM ▸ fl_ob_kept) hd (ob_lt hn (by decide)) ob_g0 rfl k
theorem gf_ob_line (hd : decode M.2.1 pc = .ok (.getfield 36, 3)) (hn : 250 ≤ n) (hM : M.1.cls = "OrderBench") (k : mw_W E M d Q X bc bs (pc + 3) lo (.ref (mw_b E + (247 + 0)) :: st) (ob_h E κ n r)) : mw_W E M d Q X bc bs pc lo (.ref (mw_b E + 0) :: st) (ob_h E κ n r) :=
  mw_getf (k := 7) (hM ▸ fl_ob_line) hd (ob_lt hn (by decide)) ob_g0 rfl k
theorem gf_ob_waiting (hd : decode M.2.1 pc = .ok (.getfield 40, 3)) (hn : 250 ≤ n) (hM : M.1.cls = "OrderBench") (k : mw_W E M d Q X bc bs (pc + 3) lo (.ref (mw_b E + (247 + 1)) :: st) (ob_h E κ n r)) : mw_W E M d Q X bc bs pc lo (.ref (mw_b E + 0) :: st) (ob_h E κ n r) :=
  mw_getf (k := 8) (hM ▸ fl_ob_waiting) hd (ob_lt hn (by decide)) ob_g0 rfl k
theorem gf_ob_tally (hd : decode M.2.1 pc = .ok (.getfield 43, 3)) (hn : 250 ≤ n) (hM : M.1.cls = "OrderBench") (k : mw_W E M d Q X bc bs (pc + 3) lo (.ref (mw_b E + (247 + 2)) :: st) (ob_h E κ n r)) : mw_W E M d Q X bc bs pc lo (.ref (mw_b E + 0) :: st) (ob_h E κ n r) :=
  mw_getf (k := 9) (hM ▸ fl_ob_tally) hd (ob_lt hn (by decide)) ob_g0 rfl k
theorem ob_al {o p : Nat} (ho : o < 2) (hp : p < 120) (hd : decode M.2.1 pc = .ok (.aaload, 1)) (hn : 250 ≤ n) (k : mw_W E M d Q X bc bs (pc + 1) lo (.ref (mw_b E + (3 + (2 * p + o))) :: st) (ob_h E κ n r)) : mw_W E M d Q X bc bs pc lo (.int (nI p) :: .ref (mw_b E + (1 + o)) :: st) (ob_h E κ n r) :=
  mw_ald (t := 3) (fun _ => rfl) rfl hd (ob_lt hn (by omega)) (ob_gW ho) hp (by decide) rfl k
theorem ob_il {j i : Nat} (hj : j < 3) (hi : i < 120) (hd : decode M.2.1 pc = .ok (.iaload, 1)) (hn : 250 ≤ n) (k : mw_W E M d Q X bc bs (pc + 1) lo (.int (κ.2.2 j i) :: st) (ob_h E κ n r)) : mw_W E M d Q X bc bs pc lo (.int (nI i) :: .ref (mw_b E + (247 + j)) :: st) (ob_h E κ n r) :=
  mw_iald hd (ob_lt hn (by omega)) (ob_gR hj) hi (by decide) rfl k
theorem ob_is {j i : Nat} {x : Int32} (hj : j < 3) (hi : i < 120) (hd : decode M.2.1 pc = .ok (.iastore, 1)) (hn : 250 ≤ n) (k : mw_W E M d Q X bc bs (pc + 1) lo st (ob_h E (κ.1, κ.2.1, va_up κ.2.2 j (va_up (κ.2.2 j) i x)) n r)) : mw_W E M d Q X bc bs pc lo (.int x :: .int (nI i) :: .ref (mw_b E + (247 + j)) :: st) (ob_h E κ n r) :=
  mw_iast hd (ob_lt hn (by omega)) (ob_gR hj) hi (by decide) (by rw [ob_pR hj]; exact k)
/-- a set in its cell -/
theorem ps_ext {s t : Nat → Bool} (h : ∀ i, i < 128 → s i = t i) : ps_S s = ps_S t := by
  unfold ps_S
  rw [bt_congr (fun i hi => h i (by omega)), bt_hcongr h]
/-- what counts of the sets: places below 128 -/
theorem ob_ext {S S' : Nat → Nat → Bool} (h : ∀ j, j < 244 → ∀ i, i < 128 → S j i = S' j i) : ob_h E (κ.1, S, κ.2.2) n r = ob_h E (κ.1, S', κ.2.2) n r := by
  refine Prod.ext rfl ?_
  funext k
  show (if k < 250 then ob_o (mw_b E) (κ.1, S, κ.2.2) k else r k) = if k < 250 then ob_o (mw_b E) (κ.1, S', κ.2.2) k else r k
  by_cases h1 : k < 250
  · rw [if_pos h1, if_pos h1]
    unfold ob_o
    by_cases h3 : k = 0
    · rw [if_pos h3, if_pos h3]
    · by_cases h4 : k = 1
      · rw [if_neg h3, if_neg h3, if_pos h4, if_pos h4]
      · by_cases h5 : k = 2
        · rw [if_neg h3, if_neg h3, if_neg h4, if_neg h4, if_pos h5, if_pos h5]
        · by_cases h2 : k < 247
          · rw [if_neg h3, if_neg h3, if_neg h4, if_neg h4, if_neg h5, if_neg h5, if_pos h2, if_pos h2]
            show Sum.inl (0, ps_S (S (k - 3))) = Sum.inl (0, ps_S (S' (k - 3)))
            rw [ps_ext (h (k - 3) (by omega))]
          · rw [if_neg h3, if_neg h3, if_neg h4, if_neg h4, if_neg h5, if_neg h5, if_neg h2, if_neg h2]
  · rw [if_neg h1, if_neg h1]
variable {j j2 : Nat}
theorem oc_clear (hn : 250 ≤ n) (hj : j < 244) : mw_Ct E m_ps_clear d 0 0 [.ref (mw_b E + (3 + j))] (ob_h E κ n r) (fun v h' => v = none ∧ h' = ob_h E (κ.1, va_up κ.2.1 j (fun _ => false), κ.2.2) n r) mw_no := by
  have h := ct_clear (E := E) (d := d) (ob_lt (E := E) (κ := κ) (r := r) hn (j := 3 + j) (by omega)) (ob_gS hj)
  rw [ob_pS hj] at h
  exact h
theorem oc_add (hd : 1 ≤ d) (hn : 250 ≤ n) (hj : j < 244) (p : Int32) : mw_Ct E m_ps_add d 0 0 [.ref (mw_b E + (3 + j)), .int p] (ob_h E κ n r) (fun v h' => v = none ∧ h' = ob_h E (κ.1, va_up κ.2.1 j (fun i => κ.2.1 j i || bt_one p i), κ.2.2) n r) mw_no := by
  have h := ct_add (E := E) hd p (ob_lt (E := E) (κ := κ) (r := r) hn (j := 3 + j) (by omega)) (ob_gS hj)
  rw [ob_pS hj] at h
  exact h
theorem oc_remove (hd : 1 ≤ d) (hn : 250 ≤ n) (hj : j < 244) (p : Int32) : mw_Ct E m_ps_remove d 0 0 [.ref (mw_b E + (3 + j)), .int p] (ob_h E κ n r) (fun v h' => v = none ∧ h' = ob_h E (κ.1, va_up κ.2.1 j (fun i => κ.2.1 j i && !bt_one p i), κ.2.2) n r) mw_no := by
  have h := ct_remove (E := E) hd p (ob_lt (E := E) (κ := κ) (r := r) hn (j := 3 + j) (by omega)) (ob_gS hj)
  rw [ob_pS hj] at h
  exact h
theorem oc_addAllOf (hn : 250 ≤ n) (hj : j < 244) (hj2 : j2 < 244) (hne : j2 ≠ j) : mw_Ct E m_ps_addAllOf d 0 0 [.ref (mw_b E + (3 + j)), .ref (mw_b E + (3 + j2))] (ob_h E κ n r) (fun v h' => v = none ∧ h' = ob_h E (κ.1, va_up κ.2.1 j (fun i => κ.2.1 j i || κ.2.1 j2 i), κ.2.2) n r) mw_no := by
  have h := ct_addAllOf (E := E) (d := d) (κ.2.1 j) (κ.2.1 j2) (show 3 + j2 ≠ 3 + j by omega) (ob_lt (E := E) (κ := κ) (r := r) hn (j := 3 + j) (by omega)) (ob_gS hj) (ob_lt (E := E) (κ := κ) (r := r) hn (j := 3 + j2) (by omega)) (ob_gS hj2)
  rw [ob_pS hj] at h
  exact h
theorem oc_removeAllOf (hn : 250 ≤ n) (hj : j < 244) (hj2 : j2 < 244) (hne : j2 ≠ j) : mw_Ct E m_ps_removeAllOf d 0 0 [.ref (mw_b E + (3 + j)), .ref (mw_b E + (3 + j2))] (ob_h E κ n r) (fun v h' => v = none ∧ h' = ob_h E (κ.1, va_up κ.2.1 j (fun i => κ.2.1 j i && !κ.2.1 j2 i), κ.2.2) n r) mw_no := by
  have h := ct_removeAllOf (E := E) (d := d) (κ.2.1 j) (κ.2.1 j2) (show 3 + j2 ≠ 3 + j by omega) (ob_lt (E := E) (κ := κ) (r := r) hn (j := 3 + j) (by omega)) (ob_gS hj) (ob_lt (E := E) (κ := κ) (r := r) hn (j := 3 + j2) (by omega)) (ob_gS hj2)
  rw [ob_pS hj] at h
  exact h
theorem oc_keepAllOf (hn : 250 ≤ n) (hj : j < 244) (hj2 : j2 < 244) (hne : j2 ≠ j) : mw_Ct E m_ps_keepAllOf d 0 0 [.ref (mw_b E + (3 + j)), .ref (mw_b E + (3 + j2))] (ob_h E κ n r) (fun v h' => v = none ∧ h' = ob_h E (κ.1, va_up κ.2.1 j (fun i => κ.2.1 j i && κ.2.1 j2 i), κ.2.2) n r) mw_no := by
  have h := ct_keepAllOf (E := E) (d := d) (κ.2.1 j) (κ.2.1 j2) (show 3 + j2 ≠ 3 + j by omega) (ob_lt (E := E) (κ := κ) (r := r) hn (j := 3 + j) (by omega)) (ob_gS hj) (ob_lt (E := E) (κ := κ) (r := r) hn (j := 3 + j2) (by omega)) (ob_gS hj2)
  rw [ob_pS hj] at h
  exact h
theorem oc_has (hd : 1 ≤ d) (hn : 250 ≤ n) (hj : j < 244) (p : Int32) : mw_Ct E m_ps_has d 0 0 [.ref (mw_b E + (3 + j)), .int p] (ob_h E κ n r) (fun v h' => v = some (.int (bI (bt_m (κ.2.1 j) p))) ∧ h' = ob_h E κ n r) mw_no :=
  ct_has hd p (ob_lt hn (by omega)) (ob_gS hj)
theorem oc_meets (hn : 250 ≤ n) (hj : j < 244) (hj2 : j2 < 244) : mw_Ct E m_ps_meets d 0 0 [.ref (mw_b E + (3 + j)), .ref (mw_b E + (3 + j2))] (ob_h E κ n r) (fun v h' => v = some (.int (bI (bt_meet (κ.2.1 j) (κ.2.1 j2)))) ∧ h' = ob_h E κ n r) mw_no :=
  ct_meets _ _ (ob_lt hn (by omega)) (ob_gS hj) (ob_lt hn (by omega)) (ob_gS hj2)
theorem oc_isEmpty (hn : 250 ≤ n) (hj : j < 244) : mw_Ct E m_ps_isEmpty d 0 0 [.ref (mw_b E + (3 + j))] (ob_h E κ n r) (fun v h' => v = some (.int (bI (!pu_ex (κ.2.1 j) 128))) ∧ h' = ob_h E κ n r) mw_no :=
  ct_isEmpty _ (ob_lt hn (by omega)) (ob_gS hj)
theorem oc_size (hd : 1 ≤ d) (hn : 250 ≤ n) (hj : j < 244) : mw_Ct E m_ps_size d 0 0 [.ref (mw_b E + (3 + j))] (ob_h E κ n r) (fun v h' => v = some (.int (nI (pu_cnt (κ.2.1 j) 128))) ∧ h' = ob_h E κ n r) mw_no :=
  ct_size hd _ (ob_lt hn (by omega)) (ob_gS hj)
theorem oc_next {f : Nat} (hd : 2 ≤ d) (hn : 250 ≤ n) (hj : j < 244) (hf : f ≤ 128) : mw_Ct E m_ps_next d 0 0 [.ref (mw_b E + (3 + j)), .int (nI f)] (ob_h E κ n r) (fun v h' => v = some (.int (nI (bt_nx (κ.2.1 j) f))) ∧ h' = ob_h E κ n r) mw_no :=
  ct_next hd hf (ob_lt hn (by omega)) (ob_gS hj)
end ObRows
