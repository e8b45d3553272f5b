/-! The law's helpers. -/
theorem mw_CtQ {E : mw_E} {M : mw_M} {d bc bs bc' bs' : Nat} {av : List Value} {h : mw_H} {Q Q' : Option Value → mw_H → Prop} {X X' : Nat → mw_H → Prop} (k : mw_Ct E M d bc bs av h Q X) (h1 : bc ≤ bc') (h2 : bs ≤ bs') (hQ : ∀ v h', Q v h' → Q' v h') (hX : ∀ k h', X k h' → X' k h') : mw_Ct E M d bc' bs' av h Q' X' := mw_post (mw_bud h1 h2 k) hQ hX
section Lg
variable {E : mw_E} {d n : Nat} {κ : ob_K} {r : Nat → mw_O} {g : Nat → Value} {Qx : Int32 → ob_K → Prop} {Px : Nat → Prop}
def ob_G (E : mw_E) (n : Nat) (r : Nat → mw_O) (Qx : Int32 → ob_K → Prop) : Option Value → mw_H → Prop := fun v h' => ∃ a κ', v = some (.int a) ∧ h' = ob_h E κ' n r ∧ Qx a κ'
def ob_GX (E : mw_E) (κ : ob_K) (n : Nat) (r : Nat → mw_O) (Px : Nat → Prop) : Nat → mw_H → Prop := fun k h' => ∃ c, Px c ∧ ob_X E κ n r c k h'
def lw_cd (c : Nat) : Int32 := if c = 5 then nI 2 else nI 1
def lw_G (E : mw_E) (κ : ob_K) (n : Nat) (r : Nat → mw_O) (g : Nat → Value) (cv : Int32 → Int64) (Qx : Int32 → ob_K → Prop) (Px : Nat → Prop) : Option Value → mw_H → Prop := fun v h' => (∃ a κ', v = some (.int (nI 0)) ∧ h' = ob_h E κ' n (va_up r 497 (.inr (4, 1, updV g 0 (.long (cv a))))) ∧ Qx a κ') ∨ ∃ c κ', Px c ∧ v = some (.int (lw_cd c)) ∧ h' = ob_h E κ' (n + 1) (va_up r n (ob_e c)) ∧ ob_keep κ κ'
def lw_b (a : Int32) : Int64 := if a = 0 then 0 else 1
def lw_i (a : Int32) : Int64 := a.toInt64
theorem ob_up {j : Nat} (hj : 250 ≤ j) (o : mw_O) : ((ob_h E κ n r).1, va_up (ob_h E κ n r).2 j o) = ob_h E κ n (va_up r j o) := by
  refine Prod.ext rfl ?_
  funext k
  show va_up (fun k => if k < 250 then ob_o (mw_b E) κ k else r k) j o k = if k < 250 then ob_o (mw_b E) κ k else va_up r j o k
  by_cases e : k = j
  · subst e
    rw [mw_up_s, if_neg (by omega), mw_up_s]
  · rw [mw_up_n _ _ e, mw_up_n _ _ e]
theorem ob_at {j : Nat} (hj : 250 ≤ j) : (ob_h E κ n r).2 j = r j := by
  show (if j < 250 then ob_o (mw_b E) κ j else r j) = r j
  rw [if_neg (by omega)]
theorem lw_st {M : mw_M} {bc bs pc : Nat} {Q : Option Value → mw_H → Prop} {X : Nat → mw_H → Prop} {lo : List (Option Value)} {st : List Value} {x : Int64} (hd : decode M.2.1 pc = .ok (.lastore, 1)) (hn : 498 ≤ n) (hg : r 497 = .inr (4, 1, g)) (k : mw_W E M d Q X bc bs (pc + 1) lo st (ob_h E κ n (va_up r 497 (.inr (4, 1, updV g 0 (.long x)))))) : mw_W E M d Q X bc bs pc lo (.long x :: .int (nI 0) :: .ref (mw_b E + 497) :: st) (ob_h E κ n r) :=
  mw_last (i := 0) hd (show 497 < n by omega) ((ob_at (by decide)).trans hg) (by decide) (by decide) (by rw [ob_up (by decide)]; exact k)
theorem lg_places {x : Int32} (hd : 1 ≤ d) (hn : 498 ≤ n) (hg : r 497 = .inr (4, 1, g)) (hP : ∀ c, Px c → c = 4) (hC : mw_Ct E m_ob_places (d - 1) 1 6 [.ref (mw_b E + 0), .int x] (ob_h E κ n r) (ob_G E n r Qx) (ob_GX E κ n r Px)) : mw_Ct E m_lw_places d 1 6 [.ref (mw_b E + 0), .int x, .ref (mw_b E + 497)] (ob_h E κ n r) (lw_G E κ n r g lw_i Qx Px) mw_no := by
  show mw_W E m_lw_places d _ _ 1 6 0 [some (.ref (mw_b E + 0)), some (.int x), some (.ref (mw_b E + 497))] [] (ob_h E κ n r)
  refine mw_lo [some (.ref (mw_b E + 0)), some (.int x), some (.ref (mw_b E + 497)), none] (by simp [mw_le]) ?_
  refine mw_aload2 d_lw_places_0 ?_
  refine mw_iconst (v := nI 0) d_lw_places_1 (by decide) ?_
  refine mw_aload0 d_lw_places_2 ?_
  refine mw_iload1 d_lw_places_3 ?_
  refine mw_cV1 (d' := d - 1) lk_lw_places_ob_places d_lw_places_4 (ob_lt (by omega) (by decide)) ob_g0 (Nat.le_of_ble_eq_true rfl) hC (by omega) (Nat.le_of_ble_eq_true rfl) (Nat.le_refl _) (Nat.le_refl _) ?_ ?_
  · rintro v h' ⟨a, κ', rfl, rfl, hq⟩
    show mw_W E m_lw_places d _ _ _ _ _ _ (Value.int _ :: _) _
    refine mw_i2l d_lw_places_7 ?_
    refine lw_st d_lw_places_8 hn hg ?_
    refine mw_goto (tgt := 15) d_lw_places_9 (by decide) ?_
    refine mw_iconst (v := nI 0) d_lw_places_15 (by decide) ?_
    exact mw_iret d_lw_places_16 rfl rfl (Or.inl ⟨a, κ', rfl, rfl, hq⟩)
  · rintro k h' ⟨c, hc, rfl, κ', rfl, hk⟩
    cases hP c hc
    refine mw_catch1 (cx := 4) (nm := "java/lang/IllegalArgumentException") rfl (show k < k + 1 by omega) ((ob_at (by omega)).trans (mw_up_s _ _ _)) rfl (by decide) (by decide) tb_170 (List.mem_of_getElem? (i := 3) rfl) ?_
    refine mw_astore3 d_lw_places_12 rfl (Nat.le_of_ble_eq_true rfl) ?_
    refine mw_iconst (v := nI 1) d_lw_places_13 (by decide) ?_
    exact mw_iret d_lw_places_14 rfl rfl (Or.inr ⟨4, κ', hc, rfl, rfl, hk⟩)
theorem lg_way {x y : Int32} (hd : 1 ≤ d) (hn : 498 ≤ n) (hg : r 497 = .inr (4, 1, g)) (hP : ∀ c, Px c → c = 3) (hC : mw_Ct E m_ob_way (d - 1) 1 6 [.ref (mw_b E + 0), .int x, .int y] (ob_h E κ n r) (ob_G E n r Qx) (ob_GX E κ n r Px)) : mw_Ct E m_lw_way d 1 6 [.ref (mw_b E + 0), .int x, .int y, .ref (mw_b E + 497)] (ob_h E κ n r) (lw_G E κ n r g lw_b Qx Px) mw_no := by
  show mw_W E m_lw_way d _ _ 1 6 0 [some (.ref (mw_b E + 0)), some (.int x), some (.int y), some (.ref (mw_b E + 497))] [] (ob_h E κ n r)
  refine mw_lo [some (.ref (mw_b E + 0)), some (.int x), some (.int y), some (.ref (mw_b E + 497)), none] (by simp [mw_le]) ?_
  refine mw_aload3 d_lw_way_0 ?_
  refine mw_iconst (v := nI 0) d_lw_way_1 (by decide) ?_
  refine mw_aload0 d_lw_way_2 ?_
  refine mw_iload1 d_lw_way_3 ?_
  refine mw_iload2 d_lw_way_4 ?_
  refine mw_cV2 (d' := d - 1) lk_lw_way_ob_way d_lw_way_5 (ob_lt (by omega) (by decide)) ob_g0 (Nat.le_of_ble_eq_true rfl) hC (by omega) (Nat.le_of_ble_eq_true rfl) (Nat.le_refl _) (Nat.le_refl _) ?_ ?_
  · rintro v h' ⟨a, κ', rfl, rfl, hq⟩
    show mw_W E m_lw_way d _ _ _ _ _ _ (Value.int _ :: _) _
    refine mw_if_eq (tgt := 15) d_lw_way_8 (by decide) (fun hc => ?_) (fun hc => ?_)
    · refine mw_lconst (v := 0) d_lw_way_15 rfl ?_
      refine lw_st d_lw_way_16 hn hg ?_
      refine mw_goto (tgt := 24) d_lw_way_17 (by decide) ?_
      refine mw_iconst (v := nI 0) d_lw_way_24 (by decide) ?_
      exact mw_iret d_lw_way_25 rfl rfl (Or.inl ⟨a, κ', rfl, by rw [lw_b, if_pos hc], hq⟩)
    · refine mw_lconst (v := 1) d_lw_way_11 rfl ?_
      refine mw_goto (tgt := 16) d_lw_way_12 (by decide) ?_
      refine lw_st d_lw_way_16 hn hg ?_
      refine mw_goto (tgt := 24) d_lw_way_17 (by decide) ?_
      refine mw_iconst (v := nI 0) d_lw_way_24 (by decide) ?_
      exact mw_iret d_lw_way_25 rfl rfl (Or.inl ⟨a, κ', rfl, by rw [lw_b, if_neg hc], hq⟩)
  · rintro k h' ⟨c, hc, rfl, κ', rfl, hk⟩
    cases hP c hc
    refine mw_catch1 (cx := 3) (nm := "java/util/NoSuchElementException") rfl (show k < k + 1 by omega) ((ob_at (by omega)).trans (mw_up_s _ _ _)) rfl (by decide) (by decide) tb_241 (List.mem_of_getElem? (i := 4) rfl) ?_
    refine mw_astore4 d_lw_way_20 rfl (Nat.le_of_ble_eq_true rfl) ?_
    refine mw_iconst (v := nI 1) d_lw_way_22 (by decide) ?_
    exact mw_iret d_lw_way_23 rfl rfl (Or.inr ⟨3, κ', hc, rfl, rfl, hk⟩)
theorem lg_drop {x y : Int32} (hd : 1 ≤ d) (hn : 498 ≤ n) (hg : r 497 = .inr (4, 1, g)) (hP : ∀ c, Px c → c = 3) (hC : mw_Ct E m_ob_drop (d - 1) 1 6 [.ref (mw_b E + 0), .int x, .int y] (ob_h E κ n r) (ob_G E n r Qx) (ob_GX E κ n r Px)) : mw_Ct E m_lw_drop d 1 6 [.ref (mw_b E + 0), .int x, .int y, .ref (mw_b E + 497)] (ob_h E κ n r) (lw_G E κ n r g lw_b Qx Px) mw_no := by
  show mw_W E m_lw_drop d _ _ 1 6 0 [some (.ref (mw_b E + 0)), some (.int x), some (.int y), some (.ref (mw_b E + 497))] [] (ob_h E κ n r)
  refine mw_lo [some (.ref (mw_b E + 0)), some (.int x), some (.int y), some (.ref (mw_b E + 497)), none] (by simp [mw_le]) ?_
  refine mw_aload3 d_lw_drop_0 ?_
  refine mw_iconst (v := nI 0) d_lw_drop_1 (by decide) ?_
  refine mw_aload0 d_lw_drop_2 ?_
  refine mw_iload1 d_lw_drop_3 ?_
  refine mw_iload2 d_lw_drop_4 ?_
  refine mw_cV2 (d' := d - 1) lk_lw_drop_ob_drop d_lw_drop_5 (ob_lt (by omega) (by decide)) ob_g0 (Nat.le_of_ble_eq_true rfl) hC (by omega) (Nat.le_of_ble_eq_true rfl) (Nat.le_refl _) (Nat.le_refl _) ?_ ?_
  · rintro v h' ⟨a, κ', rfl, rfl, hq⟩
    show mw_W E m_lw_drop d _ _ _ _ _ _ (Value.int _ :: _) _
    refine mw_if_eq (tgt := 15) d_lw_drop_8 (by decide) (fun hc => ?_) (fun hc => ?_)
    · refine mw_lconst (v := 0) d_lw_drop_15 rfl ?_
      refine lw_st d_lw_drop_16 hn hg ?_
      refine mw_goto (tgt := 24) d_lw_drop_17 (by decide) ?_
      refine mw_iconst (v := nI 0) d_lw_drop_24 (by decide) ?_
      exact mw_iret d_lw_drop_25 rfl rfl (Or.inl ⟨a, κ', rfl, by rw [lw_b, if_pos hc], hq⟩)
    · refine mw_lconst (v := 1) d_lw_drop_11 rfl ?_
      refine mw_goto (tgt := 16) d_lw_drop_12 (by decide) ?_
      refine lw_st d_lw_drop_16 hn hg ?_
      refine mw_goto (tgt := 24) d_lw_drop_17 (by decide) ?_
      refine mw_iconst (v := nI 0) d_lw_drop_24 (by decide) ?_
      exact mw_iret d_lw_drop_25 rfl rfl (Or.inl ⟨a, κ', rfl, by rw [lw_b, if_neg hc], hq⟩)
  · rintro k h' ⟨c, hc, rfl, κ', rfl, hk⟩
    cases hP c hc
    refine mw_catch1 (cx := 3) (nm := "java/util/NoSuchElementException") rfl (show k < k + 1 by omega) ((ob_at (by omega)).trans (mw_up_s _ _ _)) rfl (by decide) (by decide) tb_241 (List.mem_of_getElem? (i := 4) rfl) ?_
    refine mw_astore4 d_lw_drop_20 rfl (Nat.le_of_ble_eq_true rfl) ?_
    refine mw_iconst (v := nI 1) d_lw_drop_22 (by decide) ?_
    exact mw_iret d_lw_drop_23 rfl rfl (Or.inr ⟨3, κ', hc, rfl, rfl, hk⟩)
theorem lg_reaches {x y : Int32} (hd : 1 ≤ d) (hn : 498 ≤ n) (hg : r 497 = .inr (4, 1, g)) (hP : ∀ c, Px c → c = 3) (hC : mw_Ct E m_ob_reaches (d - 1) 1 6 [.ref (mw_b E + 0), .int x, .int y] (ob_h E κ n r) (ob_G E n r Qx) (ob_GX E κ n r Px)) : mw_Ct E m_lw_reaches d 1 6 [.ref (mw_b E + 0), .int x, .int y, .ref (mw_b E + 497)] (ob_h E κ n r) (lw_G E κ n r g lw_b Qx Px) mw_no := by
  show mw_W E m_lw_reaches d _ _ 1 6 0 [some (.ref (mw_b E + 0)), some (.int x), some (.int y), some (.ref (mw_b E + 497))] [] (ob_h E κ n r)
  refine mw_lo [some (.ref (mw_b E + 0)), some (.int x), some (.int y), some (.ref (mw_b E + 497)), none] (by simp [mw_le]) ?_
  refine mw_aload3 d_lw_reaches_0 ?_
  refine mw_iconst (v := nI 0) d_lw_reaches_1 (by decide) ?_
  refine mw_aload0 d_lw_reaches_2 ?_
  refine mw_iload1 d_lw_reaches_3 ?_
  refine mw_iload2 d_lw_reaches_4 ?_
  refine mw_cV2 (d' := d - 1) lk_lw_reaches_ob_reaches d_lw_reaches_5 (ob_lt (by omega) (by decide)) ob_g0 (Nat.le_of_ble_eq_true rfl) hC (by omega) (Nat.le_of_ble_eq_true rfl) (Nat.le_refl _) (Nat.le_refl _) ?_ ?_
  · rintro v h' ⟨a, κ', rfl, rfl, hq⟩
    show mw_W E m_lw_reaches d _ _ _ _ _ _ (Value.int _ :: _) _
    refine mw_if_eq (tgt := 15) d_lw_reaches_8 (by decide) (fun hc => ?_) (fun hc => ?_)
    · refine mw_lconst (v := 0) d_lw_reaches_15 rfl ?_
      refine lw_st d_lw_reaches_16 hn hg ?_
      refine mw_goto (tgt := 24) d_lw_reaches_17 (by decide) ?_
      refine mw_iconst (v := nI 0) d_lw_reaches_24 (by decide) ?_
      exact mw_iret d_lw_reaches_25 rfl rfl (Or.inl ⟨a, κ', rfl, by rw [lw_b, if_pos hc], hq⟩)
    · refine mw_lconst (v := 1) d_lw_reaches_11 rfl ?_
      refine mw_goto (tgt := 16) d_lw_reaches_12 (by decide) ?_
      refine lw_st d_lw_reaches_16 hn hg ?_
      refine mw_goto (tgt := 24) d_lw_reaches_17 (by decide) ?_
      refine mw_iconst (v := nI 0) d_lw_reaches_24 (by decide) ?_
      exact mw_iret d_lw_reaches_25 rfl rfl (Or.inl ⟨a, κ', rfl, by rw [lw_b, if_neg hc], hq⟩)
  · rintro k h' ⟨c, hc, rfl, κ', rfl, hk⟩
    cases hP c hc
    refine mw_catch1 (cx := 3) (nm := "java/util/NoSuchElementException") rfl (show k < k + 1 by omega) ((ob_at (by omega)).trans (mw_up_s _ _ _)) rfl (by decide) (by decide) tb_241 (List.mem_of_getElem? (i := 4) rfl) ?_
    refine mw_astore4 d_lw_reaches_20 rfl (Nat.le_of_ble_eq_true rfl) ?_
    refine mw_iconst (v := nI 1) d_lw_reaches_22 (by decide) ?_
    exact mw_iret d_lw_reaches_23 rfl rfl (Or.inr ⟨3, κ', hc, rfl, rfl, hk⟩)
theorem lg_far {x y : Int32} (hd : 1 ≤ d) (hn : 498 ≤ n) (hg : r 497 = .inr (4, 1, g)) (hP : ∀ c, Px c → c = 3) (hC : mw_Ct E m_ob_far (d - 1) 1 6 [.ref (mw_b E + 0), .int x, .int y] (ob_h E κ n r) (ob_G E n r Qx) (ob_GX E κ n r Px)) : mw_Ct E m_lw_far d 1 6 [.ref (mw_b E + 0), .int x, .int y, .ref (mw_b E + 497)] (ob_h E κ n r) (lw_G E κ n r g lw_i Qx Px) mw_no := by
  show mw_W E m_lw_far d _ _ 1 6 0 [some (.ref (mw_b E + 0)), some (.int x), some (.int y), some (.ref (mw_b E + 497))] [] (ob_h E κ n r)
  refine mw_lo [some (.ref (mw_b E + 0)), some (.int x), some (.int y), some (.ref (mw_b E + 497)), none] (by simp [mw_le]) ?_
  refine mw_aload3 d_lw_far_0 ?_
  refine mw_iconst (v := nI 0) d_lw_far_1 (by decide) ?_
  refine mw_aload0 d_lw_far_2 ?_
  refine mw_iload1 d_lw_far_3 ?_
  refine mw_iload2 d_lw_far_4 ?_
  refine mw_cV2 (d' := d - 1) lk_lw_far_ob_far d_lw_far_5 (ob_lt (by omega) (by decide)) ob_g0 (Nat.le_of_ble_eq_true rfl) hC (by omega) (Nat.le_of_ble_eq_true rfl) (Nat.le_refl _) (Nat.le_refl _) ?_ ?_
  · rintro v h' ⟨a, κ', rfl, rfl, hq⟩
    show mw_W E m_lw_far d _ _ _ _ _ _ (Value.int _ :: _) _
    refine mw_i2l d_lw_far_8 ?_
    refine lw_st d_lw_far_9 hn hg ?_
    refine mw_goto (tgt := 17) d_lw_far_10 (by decide) ?_
    refine mw_iconst (v := nI 0) d_lw_far_17 (by decide) ?_
    exact mw_iret d_lw_far_18 rfl rfl (Or.inl ⟨a, κ', rfl, rfl, hq⟩)
  · rintro k h' ⟨c, hc, rfl, κ', rfl, hk⟩
    cases hP c hc
    refine mw_catch1 (cx := 3) (nm := "java/util/NoSuchElementException") rfl (show k < k + 1 by omega) ((ob_at (by omega)).trans (mw_up_s _ _ _)) rfl (by decide) (by decide) tb_241 (List.mem_of_getElem? (i := 4) rfl) ?_
    refine mw_astore4 d_lw_far_13 rfl (Nat.le_of_ble_eq_true rfl) ?_
    refine mw_iconst (v := nI 1) d_lw_far_15 (by decide) ?_
    exact mw_iret d_lw_far_16 rfl rfl (Or.inr ⟨3, κ', hc, rfl, rfl, hk⟩)
theorem lg_group {x : Int32} (hd : 1 ≤ d) (hn : 498 ≤ n) (hg : r 497 = .inr (4, 1, g)) (hP : ∀ c, Px c → c = 3) (hC : mw_Ct E m_ob_group (d - 1) 1 6 [.ref (mw_b E + 0), .int x] (ob_h E κ n r) (ob_G E n r Qx) (ob_GX E κ n r Px)) : mw_Ct E m_lw_group d 1 6 [.ref (mw_b E + 0), .int x, .ref (mw_b E + 497)] (ob_h E κ n r) (lw_G E κ n r g lw_i Qx Px) mw_no := by
  show mw_W E m_lw_group d _ _ 1 6 0 [some (.ref (mw_b E + 0)), some (.int x), some (.ref (mw_b E + 497))] [] (ob_h E κ n r)
  refine mw_lo [some (.ref (mw_b E + 0)), some (.int x), some (.ref (mw_b E + 497)), none] (by simp [mw_le]) ?_
  refine mw_aload2 d_lw_group_0 ?_
  refine mw_iconst (v := nI 0) d_lw_group_1 (by decide) ?_
  refine mw_aload0 d_lw_group_2 ?_
  refine mw_iload1 d_lw_group_3 ?_
  refine mw_cV1 (d' := d - 1) lk_lw_group_ob_group d_lw_group_4 (ob_lt (by omega) (by decide)) ob_g0 (Nat.le_of_ble_eq_true rfl) hC (by omega) (Nat.le_of_ble_eq_true rfl) (Nat.le_refl _) (Nat.le_refl _) ?_ ?_
  · rintro v h' ⟨a, κ', rfl, rfl, hq⟩
    show mw_W E m_lw_group d _ _ _ _ _ _ (Value.int _ :: _) _
    refine mw_i2l d_lw_group_7 ?_
    refine lw_st d_lw_group_8 hn hg ?_
    refine mw_goto (tgt := 15) d_lw_group_9 (by decide) ?_
    refine mw_iconst (v := nI 0) d_lw_group_15 (by decide) ?_
    exact mw_iret d_lw_group_16 rfl rfl (Or.inl ⟨a, κ', rfl, rfl, hq⟩)
  · rintro k h' ⟨c, hc, rfl, κ', rfl, hk⟩
    cases hP c hc
    refine mw_catch1 (cx := 3) (nm := "java/util/NoSuchElementException") rfl (show k < k + 1 by omega) ((ob_at (by omega)).trans (mw_up_s _ _ _)) rfl (by decide) (by decide) tb_241 (List.mem_of_getElem? (i := 4) rfl) ?_
    refine mw_astore3 d_lw_group_12 rfl (Nat.le_of_ble_eq_true rfl) ?_
    refine mw_iconst (v := nI 1) d_lw_group_13 (by decide) ?_
    exact mw_iret d_lw_group_14 rfl rfl (Or.inr ⟨3, κ', hc, rfl, rfl, hk⟩)
theorem lg_order {x : Int32} (hd : 1 ≤ d) (hn : 498 ≤ n) (hg : r 497 = .inr (4, 1, g)) (hP : ∀ c, Px c → c = 3 ∨ c = 5) (hC : mw_Ct E m_ob_order (d - 1) 1 6 [.ref (mw_b E + 0), .int x] (ob_h E κ n r) (ob_G E n r Qx) (ob_GX E κ n r Px)) : mw_Ct E m_lw_order d 1 6 [.ref (mw_b E + 0), .int x, .ref (mw_b E + 497)] (ob_h E κ n r) (lw_G E κ n r g lw_i Qx Px) mw_no := by
  show mw_W E m_lw_order d _ _ 1 6 0 [some (.ref (mw_b E + 0)), some (.int x), some (.ref (mw_b E + 497))] [] (ob_h E κ n r)
  refine mw_lo [some (.ref (mw_b E + 0)), some (.int x), some (.ref (mw_b E + 497)), none] (by simp [mw_le]) ?_
  refine mw_aload2 d_lw_order_0 ?_
  refine mw_iconst (v := nI 0) d_lw_order_1 (by decide) ?_
  refine mw_aload0 d_lw_order_2 ?_
  refine mw_iload1 d_lw_order_3 ?_
  refine mw_cV1 (d' := d - 1) lk_lw_order_ob_order d_lw_order_4 (ob_lt (by omega) (by decide)) ob_g0 (Nat.le_of_ble_eq_true rfl) hC (by omega) (Nat.le_of_ble_eq_true rfl) (Nat.le_refl _) (Nat.le_refl _) ?_ ?_
  · rintro v h' ⟨a, κ', rfl, rfl, hq⟩
    show mw_W E m_lw_order d _ _ _ _ _ _ (Value.int _ :: _) _
    refine mw_i2l d_lw_order_7 ?_
    refine lw_st d_lw_order_8 hn hg ?_
    refine mw_goto (tgt := 18) d_lw_order_9 (by decide) ?_
    refine mw_iconst (v := nI 0) d_lw_order_18 (by decide) ?_
    exact mw_iret d_lw_order_19 rfl rfl (Or.inl ⟨a, κ', rfl, rfl, hq⟩)
  · rintro k h' ⟨c, hc, rfl, κ', rfl, hk⟩
    rcases hP c hc with rfl | rfl
    · skip
      refine mw_catch1 (cx := 3) (nm := "java/util/NoSuchElementException") rfl (show k < k + 1 by omega) ((ob_at (by omega)).trans (mw_up_s _ _ _)) rfl (by decide) (by decide) tb_241 (List.mem_of_getElem? (i := 4) rfl) ?_
      refine mw_astore3 d_lw_order_12 rfl (Nat.le_of_ble_eq_true rfl) ?_
      refine mw_iconst (v := nI 1) d_lw_order_13 (by decide) ?_
      exact mw_iret d_lw_order_14 rfl rfl (Or.inr ⟨3, κ', hc, rfl, rfl, hk⟩)
    · skip
      refine mw_catch2 (cx := 5) (nm := "java/lang/IllegalStateException") (nm1 := "java/util/NoSuchElementException") rfl (show k < k + 1 by omega) ((ob_at (by omega)).trans (mw_up_s _ _ _)) rfl (by decide) (by decide) tb_241 (List.mem_of_getElem? (i := 6) rfl) (by decide) (by decide) tb_296 (List.mem_of_getElem? (i := 5) rfl) ?_
      refine mw_astore3 d_lw_order_15 rfl (Nat.le_of_ble_eq_true rfl) ?_
      refine mw_iconst (v := nI 2) d_lw_order_16 (by decide) ?_
      exact mw_iret d_lw_order_17 rfl rfl (Or.inr ⟨5, κ', hc, rfl, rfl, hk⟩)
theorem lg_level {x : Int32} (hd : 1 ≤ d) (hn : 498 ≤ n) (hg : r 497 = .inr (4, 1, g)) (hP : ∀ c, Px c → c = 3 ∨ c = 5) (hC : mw_Ct E m_ob_level (d - 1) 1 6 [.ref (mw_b E + 0), .int x] (ob_h E κ n r) (ob_G E n r Qx) (ob_GX E κ n r Px)) : mw_Ct E m_lw_level d 1 6 [.ref (mw_b E + 0), .int x, .ref (mw_b E + 497)] (ob_h E κ n r) (lw_G E κ n r g lw_i Qx Px) mw_no := by
  show mw_W E m_lw_level d _ _ 1 6 0 [some (.ref (mw_b E + 0)), some (.int x), some (.ref (mw_b E + 497))] [] (ob_h E κ n r)
  refine mw_lo [some (.ref (mw_b E + 0)), some (.int x), some (.ref (mw_b E + 497)), none] (by simp [mw_le]) ?_
  refine mw_aload2 d_lw_level_0 ?_
  refine mw_iconst (v := nI 0) d_lw_level_1 (by decide) ?_
  refine mw_aload0 d_lw_level_2 ?_
  refine mw_iload1 d_lw_level_3 ?_
  refine mw_cV1 (d' := d - 1) lk_lw_level_ob_level d_lw_level_4 (ob_lt (by omega) (by decide)) ob_g0 (Nat.le_of_ble_eq_true rfl) hC (by omega) (Nat.le_of_ble_eq_true rfl) (Nat.le_refl _) (Nat.le_refl _) ?_ ?_
  · rintro v h' ⟨a, κ', rfl, rfl, hq⟩
    show mw_W E m_lw_level d _ _ _ _ _ _ (Value.int _ :: _) _
    refine mw_i2l d_lw_level_7 ?_
    refine lw_st d_lw_level_8 hn hg ?_
    refine mw_goto (tgt := 18) d_lw_level_9 (by decide) ?_
    refine mw_iconst (v := nI 0) d_lw_level_18 (by decide) ?_
    exact mw_iret d_lw_level_19 rfl rfl (Or.inl ⟨a, κ', rfl, rfl, hq⟩)
  · rintro k h' ⟨c, hc, rfl, κ', rfl, hk⟩
    rcases hP c hc with rfl | rfl
    · skip
      refine mw_catch1 (cx := 3) (nm := "java/util/NoSuchElementException") rfl (show k < k + 1 by omega) ((ob_at (by omega)).trans (mw_up_s _ _ _)) rfl (by decide) (by decide) tb_241 (List.mem_of_getElem? (i := 4) rfl) ?_
      refine mw_astore3 d_lw_level_12 rfl (Nat.le_of_ble_eq_true rfl) ?_
      refine mw_iconst (v := nI 1) d_lw_level_13 (by decide) ?_
      exact mw_iret d_lw_level_14 rfl rfl (Or.inr ⟨3, κ', hc, rfl, rfl, hk⟩)
    · skip
      refine mw_catch2 (cx := 5) (nm := "java/lang/IllegalStateException") (nm1 := "java/util/NoSuchElementException") rfl (show k < k + 1 by omega) ((ob_at (by omega)).trans (mw_up_s _ _ _)) rfl (by decide) (by decide) tb_241 (List.mem_of_getElem? (i := 6) rfl) (by decide) (by decide) tb_296 (List.mem_of_getElem? (i := 5) rfl) ?_
      refine mw_astore3 d_lw_level_15 rfl (Nat.le_of_ble_eq_true rfl) ?_
      refine mw_iconst (v := nI 2) d_lw_level_16 (by decide) ?_
      exact mw_iret d_lw_level_17 rfl rfl (Or.inr ⟨5, κ', hc, rfl, rfl, hk⟩)
theorem lg_paths {x y : Int32} (hd : 1 ≤ d) (hn : 498 ≤ n) (hg : r 497 = .inr (4, 1, g)) (hP : ∀ c, Px c → c = 3 ∨ c = 5) (hC : mw_Ct E m_ob_paths (d - 1) 1 6 [.ref (mw_b E + 0), .int x, .int y] (ob_h E κ n r) (ob_G E n r Qx) (ob_GX E κ n r Px)) : mw_Ct E m_lw_paths d 1 6 [.ref (mw_b E + 0), .int x, .int y, .ref (mw_b E + 497)] (ob_h E κ n r) (lw_G E κ n r g lw_i Qx Px) mw_no := by
  show mw_W E m_lw_paths d _ _ 1 6 0 [some (.ref (mw_b E + 0)), some (.int x), some (.int y), some (.ref (mw_b E + 497))] [] (ob_h E κ n r)
  refine mw_lo [some (.ref (mw_b E + 0)), some (.int x), some (.int y), some (.ref (mw_b E + 497)), none] (by simp [mw_le]) ?_
  refine mw_aload3 d_lw_paths_0 ?_
  refine mw_iconst (v := nI 0) d_lw_paths_1 (by decide) ?_
  refine mw_aload0 d_lw_paths_2 ?_
  refine mw_iload1 d_lw_paths_3 ?_
  refine mw_iload2 d_lw_paths_4 ?_
  refine mw_cV2 (d' := d - 1) lk_lw_paths_ob_paths d_lw_paths_5 (ob_lt (by omega) (by decide)) ob_g0 (Nat.le_of_ble_eq_true rfl) hC (by omega) (Nat.le_of_ble_eq_true rfl) (Nat.le_refl _) (Nat.le_refl _) ?_ ?_
  · rintro v h' ⟨a, κ', rfl, rfl, hq⟩
    show mw_W E m_lw_paths d _ _ _ _ _ _ (Value.int _ :: _) _
    refine mw_i2l d_lw_paths_8 ?_
    refine lw_st d_lw_paths_9 hn hg ?_
    refine mw_goto (tgt := 21) d_lw_paths_10 (by decide) ?_
    refine mw_iconst (v := nI 0) d_lw_paths_21 (by decide) ?_
    exact mw_iret d_lw_paths_22 rfl rfl (Or.inl ⟨a, κ', rfl, rfl, hq⟩)
  · rintro k h' ⟨c, hc, rfl, κ', rfl, hk⟩
    rcases hP c hc with rfl | rfl
    · skip
      refine mw_catch1 (cx := 3) (nm := "java/util/NoSuchElementException") rfl (show k < k + 1 by omega) ((ob_at (by omega)).trans (mw_up_s _ _ _)) rfl (by decide) (by decide) tb_241 (List.mem_of_getElem? (i := 4) rfl) ?_
      refine mw_astore4 d_lw_paths_13 rfl (Nat.le_of_ble_eq_true rfl) ?_
      refine mw_iconst (v := nI 1) d_lw_paths_15 (by decide) ?_
      exact mw_iret d_lw_paths_16 rfl rfl (Or.inr ⟨3, κ', hc, rfl, rfl, hk⟩)
    · skip
      refine mw_catch2 (cx := 5) (nm := "java/lang/IllegalStateException") (nm1 := "java/util/NoSuchElementException") rfl (show k < k + 1 by omega) ((ob_at (by omega)).trans (mw_up_s _ _ _)) rfl (by decide) (by decide) tb_241 (List.mem_of_getElem? (i := 6) rfl) (by decide) (by decide) tb_296 (List.mem_of_getElem? (i := 5) rfl) ?_
      refine mw_astore4 d_lw_paths_17 rfl (Nat.le_of_ble_eq_true rfl) ?_
      refine mw_iconst (v := nI 2) d_lw_paths_19 (by decide) ?_
      exact mw_iret d_lw_paths_20 rfl rfl (Or.inr ⟨5, κ', hc, rfl, rfl, hk⟩)
theorem lg_gate {x y : Int32} (hd : 1 ≤ d) (hn : 498 ≤ n) (hg : r 497 = .inr (4, 1, g)) (hP : ∀ c, Px c → c = 3) (hC : mw_Ct E m_ob_gate (d - 1) 1 6 [.ref (mw_b E + 0), .int x, .int y] (ob_h E κ n r) (ob_G E n r Qx) (ob_GX E κ n r Px)) : mw_Ct E m_lw_gate d 1 6 [.ref (mw_b E + 0), .int x, .int y, .ref (mw_b E + 497)] (ob_h E κ n r) (lw_G E κ n r g lw_i Qx Px) mw_no := by
  show mw_W E m_lw_gate d _ _ 1 6 0 [some (.ref (mw_b E + 0)), some (.int x), some (.int y), some (.ref (mw_b E + 497))] [] (ob_h E κ n r)
  refine mw_lo [some (.ref (mw_b E + 0)), some (.int x), some (.int y), some (.ref (mw_b E + 497)), none] (by simp [mw_le]) ?_
  refine mw_aload3 d_lw_gate_0 ?_
  refine mw_iconst (v := nI 0) d_lw_gate_1 (by decide) ?_
  refine mw_aload0 d_lw_gate_2 ?_
  refine mw_iload1 d_lw_gate_3 ?_
  refine mw_iload2 d_lw_gate_4 ?_
  refine mw_cV2 (d' := d - 1) lk_lw_gate_ob_gate d_lw_gate_5 (ob_lt (by omega) (by decide)) ob_g0 (Nat.le_of_ble_eq_true rfl) hC (by omega) (Nat.le_of_ble_eq_true rfl) (Nat.le_refl _) (Nat.le_refl _) ?_ ?_
  · rintro v h' ⟨a, κ', rfl, rfl, hq⟩
    show mw_W E m_lw_gate d _ _ _ _ _ _ (Value.int _ :: _) _
    refine mw_i2l d_lw_gate_8 ?_
    refine lw_st d_lw_gate_9 hn hg ?_
    refine mw_goto (tgt := 17) d_lw_gate_10 (by decide) ?_
    refine mw_iconst (v := nI 0) d_lw_gate_17 (by decide) ?_
    exact mw_iret d_lw_gate_18 rfl rfl (Or.inl ⟨a, κ', rfl, rfl, hq⟩)
  · rintro k h' ⟨c, hc, rfl, κ', rfl, hk⟩
    cases hP c hc
    refine mw_catch1 (cx := 3) (nm := "java/util/NoSuchElementException") rfl (show k < k + 1 by omega) ((ob_at (by omega)).trans (mw_up_s _ _ _)) rfl (by decide) (by decide) tb_241 (List.mem_of_getElem? (i := 4) rfl) ?_
    refine mw_astore4 d_lw_gate_13 rfl (Nat.le_of_ble_eq_true rfl) ?_
    refine mw_iconst (v := nI 1) d_lw_gate_15 (by decide) ?_
    exact mw_iret d_lw_gate_16 rfl rfl (Or.inr ⟨3, κ', hc, rfl, rfl, hk⟩)
theorem lg_all {x y z : Int32} (hd : 1 ≤ d) (hn : 498 ≤ n) (hg : r 497 = .inr (4, 1, g)) (hP : ∀ c, Px c → c = 3) (hC : mw_Ct E m_ob_all (d - 1) 1 6 [.ref (mw_b E + 0), .int x, .int y, .int z] (ob_h E κ n r) (ob_G E n r Qx) (ob_GX E κ n r Px)) : mw_Ct E m_lw_all d 1 6 [.ref (mw_b E + 0), .int x, .int y, .int z, .ref (mw_b E + 497)] (ob_h E κ n r) (lw_G E κ n r g lw_b Qx Px) mw_no := by
  show mw_W E m_lw_all d _ _ 1 6 0 [some (.ref (mw_b E + 0)), some (.int x), some (.int y), some (.int z), some (.ref (mw_b E + 497))] [] (ob_h E κ n r)
  refine mw_lo [some (.ref (mw_b E + 0)), some (.int x), some (.int y), some (.int z), some (.ref (mw_b E + 497)), none] (by simp [mw_le]) ?_
  refine mw_aload4 d_lw_all_0 ?_
  refine mw_iconst (v := nI 0) d_lw_all_2 (by decide) ?_
  refine mw_aload0 d_lw_all_3 ?_
  refine mw_iload1 d_lw_all_4 ?_
  refine mw_iload2 d_lw_all_5 ?_
  refine mw_iload3 d_lw_all_6 ?_
  refine mw_cV3 (d' := d - 1) lk_lw_all_ob_all d_lw_all_7 (ob_lt (by omega) (by decide)) ob_g0 (Nat.le_of_ble_eq_true rfl) hC (by omega) (Nat.le_of_ble_eq_true rfl) (Nat.le_refl _) (Nat.le_refl _) ?_ ?_
  · rintro v h' ⟨a, κ', rfl, rfl, hq⟩
    show mw_W E m_lw_all d _ _ _ _ _ _ (Value.int _ :: _) _
    refine mw_if_eq (tgt := 17) d_lw_all_10 (by decide) (fun hc => ?_) (fun hc => ?_)
    · refine mw_lconst (v := 0) d_lw_all_17 rfl ?_
      refine lw_st d_lw_all_18 hn hg ?_
      refine mw_goto (tgt := 26) d_lw_all_19 (by decide) ?_
      refine mw_iconst (v := nI 0) d_lw_all_26 (by decide) ?_
      exact mw_iret d_lw_all_27 rfl rfl (Or.inl ⟨a, κ', rfl, by rw [lw_b, if_pos hc], hq⟩)
    · refine mw_lconst (v := 1) d_lw_all_13 rfl ?_
      refine mw_goto (tgt := 18) d_lw_all_14 (by decide) ?_
      refine lw_st d_lw_all_18 hn hg ?_
      refine mw_goto (tgt := 26) d_lw_all_19 (by decide) ?_
      refine mw_iconst (v := nI 0) d_lw_all_26 (by decide) ?_
      exact mw_iret d_lw_all_27 rfl rfl (Or.inl ⟨a, κ', rfl, by rw [lw_b, if_neg hc], hq⟩)
  · rintro k h' ⟨c, hc, rfl, κ', rfl, hk⟩
    cases hP c hc
    refine mw_catch1 (cx := 3) (nm := "java/util/NoSuchElementException") rfl (show k < k + 1 by omega) ((ob_at (by omega)).trans (mw_up_s _ _ _)) rfl (by decide) (by decide) tb_241 (List.mem_of_getElem? (i := 4) rfl) ?_
    refine mw_astore5 d_lw_all_22 rfl (Nat.le_of_ble_eq_true rfl) ?_
    refine mw_iconst (v := nI 1) d_lw_all_24 (by decide) ?_
    exact mw_iret d_lw_all_25 rfl rfl (Or.inr ⟨3, κ', hc, rfl, rfl, hk⟩)
end Lg
