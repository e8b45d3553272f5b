/-! PlaceSet's methods: contracts on a cell that holds a set of places. -/
section Ps
variable {E : mw_E} {d : Nat} {h : mw_H} {a : Nat} {s : Nat → Bool}
theorem gf_ps_low {M : mw_M} {d bc bs pc a : Nat} {Q : Option Value → mw_H → Prop} {X : Nat → mw_H → Prop} {lo : List (Option Value)} {st : List Value} {h : mw_H} {lw hg : Int64} (hd : decode M.2.1 pc = .ok (.getfield 15, 3)) (ha : a < h.1) (ho : h.2 a = .inl (0, ps_F lw hg)) (hM : M.1.cls = "OrderBench$PlaceSet") (k : mw_W E M d Q X bc bs (pc + 3) lo (.long lw :: st) h) : mw_W E M d Q X bc bs pc lo (.ref (mw_b E + a) :: st) h :=
  mw_getf (k := 0) (hM ▸ fl_ps_low) hd ha ho rfl k
theorem gf_ps_high {M : mw_M} {d bc bs pc a : Nat} {Q : Option Value → mw_H → Prop} {X : Nat → mw_H → Prop} {lo : List (Option Value)} {st : List Value} {h : mw_H} {lw hg : Int64} (hd : decode M.2.1 pc = .ok (.getfield 23, 3)) (ha : a < h.1) (ho : h.2 a = .inl (0, ps_F lw hg)) (hM : M.1.cls = "OrderBench$PlaceSet") (k : mw_W E M d Q X bc bs (pc + 3) lo (.long hg :: st) h) : mw_W E M d Q X bc bs pc lo (.ref (mw_b E + a) :: st) h :=
  mw_getf (k := 1) (hM ▸ fl_ps_high) hd ha ho rfl k
theorem pf_ps_low {M : mw_M} {d bc bs pc a : Nat} {Q : Option Value → mw_H → Prop} {X : Nat → mw_H → Prop} {lo : List (Option Value)} {st : List Value} {h : mw_H} {lw hg x : Int64} (hd : decode M.2.1 pc = .ok (.putfield 15, 3)) (ha : a < h.1) (ho : h.2 a = .inl (0, ps_F lw hg)) (hM : M.1.cls = "OrderBench$PlaceSet") (k : mw_W E M d Q X bc bs (pc + 3) lo st (h.1, va_up h.2 a (.inl (0, ps_F x hg)))) : mw_W E M d Q X bc bs pc lo (.long x :: .ref (mw_b E + a) :: st) h :=
  mw_putf (hM ▸ fp_ps_low) hd ha ho rfl rfl (by rw [ps_U0]; exact k)
theorem pf_ps_high {M : mw_M} {d bc bs pc a : Nat} {Q : Option Value → mw_H → Prop} {X : Nat → mw_H → Prop} {lo : List (Option Value)} {st : List Value} {h : mw_H} {lw hg x : Int64} (hd : decode M.2.1 pc = .ok (.putfield 23, 3)) (ha : a < h.1) (ho : h.2 a = .inl (0, ps_F lw hg)) (hM : M.1.cls = "OrderBench$PlaceSet") (k : mw_W E M d Q X bc bs (pc + 3) lo st (h.1, va_up h.2 a (.inl (0, ps_F lw x)))) : mw_W E M d Q X bc bs pc lo (.long x :: .ref (mw_b E + a) :: st) h :=
  mw_putf (hM ▸ fp_ps_high) hd ha ho rfl rfl (by rw [ps_U1]; exact k)
theorem ct_lowBit (p : Int32) : mw_Ct E m_ps_lowBit d 0 0 [.int p] h (fun v h' => v = some (.long (bt_lo (bt_one p))) ∧ h' = h) mw_no := by
  show mw_W E m_ps_lowBit d _ _ 0 0 0 [some (.int p)] [] h
  have key : ¬ (0 ≤ p ∧ p < nI 64) → mw_W E m_ps_lowBit d (fun v h' => v = some (.long (bt_lo (bt_one p))) ∧ h' = h) mw_no 0 0 16 [some (.int p)] [] h := by
    intro hn
    refine mw_lconst (v := 0) d_ps_lowBit_16 rfl ?_
    exact mw_lret d_ps_lowBit_17 rfl ⟨by rw [bt_l_out hn], rfl⟩
  refine mw_iload0 d_ps_lowBit_0 ?_
  refine mw_if_lt (tgt := 16) d_ps_lowBit_1 (by decide) (fun hc => key (fun z => ?_)) (fun hc => ?_)
  · rw [Int32.lt_iff_toInt_lt] at hc
    have := z.1
    rw [Int32.le_iff_toInt_le] at this
    omega
  refine mw_iload0 d_ps_lowBit_4 ?_
  refine mw_bipush (v := nI 64) d_ps_lowBit_5 (by decide) ?_
  refine mw_icmp_ge (tgt := 16) d_ps_lowBit_7 (by decide) (fun hc2 => key (fun z => ?_)) (fun hc2 => ?_)
  · have := z.2
    rw [Int32.lt_iff_toInt_lt] at this
    rw [Int32.le_iff_toInt_le] at hc2
    omega
  refine mw_lconst (v := 1) d_ps_lowBit_10 rfl ?_
  refine mw_iload0 d_ps_lowBit_11 ?_
  refine mw_lshl d_ps_lowBit_12 ?_
  refine mw_goto (tgt := 17) d_ps_lowBit_13 (by decide) ?_
  have e1 : 0 ≤ p := by
    rw [Int32.lt_iff_toInt_lt] at hc
    rw [Int32.le_iff_toInt_le]
    omega
  have e2 : p < nI 64 := by
    rw [Int32.le_iff_toInt_le] at hc2
    rw [Int32.lt_iff_toInt_lt]
    omega
  exact mw_lret d_ps_lowBit_17 rfl ⟨by rw [bt_l_in e1 e2], rfl⟩
theorem ct_highBit (p : Int32) : mw_Ct E m_ps_highBit d 0 0 [.int p] h (fun v h' => v = some (.long (bt_hi (bt_one p))) ∧ h' = h) mw_no := by
  show mw_W E m_ps_highBit d _ _ 0 0 0 [some (.int p)] [] h
  have key : ¬ (nI 64 ≤ p ∧ p < nI 128) → mw_W E m_ps_highBit d (fun v h' => v = some (.long (bt_hi (bt_one p))) ∧ h' = h) mw_no 0 0 22 [some (.int p)] [] h := by
    intro hn
    refine mw_lconst (v := 0) d_ps_highBit_22 rfl ?_
    exact mw_lret d_ps_highBit_23 rfl ⟨by rw [bt_h_out hn], rfl⟩
  refine mw_iload0 d_ps_highBit_0 ?_
  refine mw_bipush (v := nI 64) d_ps_highBit_1 (by decide) ?_
  refine mw_icmp_lt (tgt := 22) d_ps_highBit_3 (by decide) (fun hc => key (fun z => ?_)) (fun hc => ?_)
  · rw [Int32.lt_iff_toInt_lt] at hc
    have := z.1
    rw [Int32.le_iff_toInt_le] at this
    omega
  refine mw_iload0 d_ps_highBit_6 ?_
  refine mw_sipush (v := nI 128) d_ps_highBit_7 (by decide) ?_
  refine mw_icmp_ge (tgt := 22) d_ps_highBit_10 (by decide) (fun hc2 => key (fun z => ?_)) (fun hc2 => ?_)
  · have := z.2
    rw [Int32.lt_iff_toInt_lt] at this
    rw [Int32.le_iff_toInt_le] at hc2
    omega
  refine mw_lconst (v := 1) d_ps_highBit_13 rfl ?_
  refine mw_iload0 d_ps_highBit_14 ?_
  refine mw_bipush (v := nI 64) d_ps_highBit_15 (by decide) ?_
  refine mw_isub d_ps_highBit_17 ?_
  refine mw_lshl d_ps_highBit_18 ?_
  refine mw_goto (tgt := 23) d_ps_highBit_19 (by decide) ?_
  have e1 : nI 64 ≤ p := by
    rw [Int32.lt_iff_toInt_lt] at hc
    rw [Int32.le_iff_toInt_le]
    omega
  have e2 : p < nI 128 := by
    rw [Int32.le_iff_toInt_le] at hc2
    rw [Int32.lt_iff_toInt_lt]
    omega
  exact mw_lret d_ps_highBit_23 rfl ⟨by rw [bt_h_in e1 e2], rfl⟩
theorem ct_bitCount (s : Nat → Bool) : mw_Ct E m_jl_bitCount d 0 0 [.long (bt_lo s)] h (fun v h' => v = some (.int (nI (pu_cnt s 64))) ∧ h' = h) mw_no := by
  show mw_W E m_jl_bitCount d _ _ 0 0 0 [some (.long (lN (bt_n s 64))), none] [] h
  have hn := bt_n_lt s 64
  have hc := bc_c_le (bt_n s 64)
  refine mw_lload0 d_jl_bitCount_0 ?_
  refine mw_lload0 d_jl_bitCount_1 ?_
  refine mw_iconst (v := nI 1) d_jl_bitCount_2 (by decide) ?_
  refine mw_lushr d_jl_bitCount_3 ?_
  refine mw_ldc2 d_jl_bitCount_4 tb_111 ?_
  refine mw_land d_jl_bitCount_7 ?_
  refine mw_lsub d_jl_bitCount_8 ?_
  refine mw_topl (bc_i1 hn) ?_
  refine mw_lstore0 d_jl_bitCount_9 (Nat.le_of_ble_eq_true rfl) ?_
  refine mw_lload0 d_jl_bitCount_10 ?_
  refine mw_ldc2 d_jl_bitCount_11 tb_112 ?_
  refine mw_land d_jl_bitCount_14 ?_
  refine mw_lload0 d_jl_bitCount_15 ?_
  refine mw_iconst (v := nI 2) d_jl_bitCount_16 (by decide) ?_
  refine mw_lushr d_jl_bitCount_17 ?_
  refine mw_ldc2 d_jl_bitCount_18 tb_112 ?_
  refine mw_land d_jl_bitCount_21 ?_
  refine mw_ladd d_jl_bitCount_22 ?_
  refine mw_topl (bc_i2 hn) ?_
  refine mw_lstore0 d_jl_bitCount_23 (Nat.le_of_ble_eq_true rfl) ?_
  refine mw_lload0 d_jl_bitCount_24 ?_
  refine mw_lload0 d_jl_bitCount_25 ?_
  refine mw_iconst (v := nI 4) d_jl_bitCount_26 (by decide) ?_
  refine mw_lushr d_jl_bitCount_27 ?_
  refine mw_ladd d_jl_bitCount_28 ?_
  refine mw_ldc2 d_jl_bitCount_29 tb_113 ?_
  refine mw_land d_jl_bitCount_32 ?_
  refine mw_topl (bc_i3 (bt_n s 64)) ?_
  refine mw_lstore0 d_jl_bitCount_33 (Nat.le_of_ble_eq_true rfl) ?_
  refine mw_lload0 d_jl_bitCount_34 ?_
  refine mw_lload0 d_jl_bitCount_35 ?_
  refine mw_bipush (v := nI 8) d_jl_bitCount_36 (by decide) ?_
  refine mw_lushr d_jl_bitCount_38 ?_
  refine mw_ladd d_jl_bitCount_39 ?_
  refine mw_topl (bc_i4 (k := 8) (by omega) (by decide)) ?_
  refine mw_lstore0 d_jl_bitCount_40 (Nat.le_of_ble_eq_true rfl) ?_
  refine mw_lload0 d_jl_bitCount_41 ?_
  refine mw_lload0 d_jl_bitCount_42 ?_
  refine mw_bipush (v := nI 16) d_jl_bitCount_43 (by decide) ?_
  refine mw_lushr d_jl_bitCount_45 ?_
  refine mw_ladd d_jl_bitCount_46 ?_
  refine mw_topl (bc_i4 (k := 16) (by omega) (by decide)) ?_
  refine mw_lstore0 d_jl_bitCount_47 (Nat.le_of_ble_eq_true rfl) ?_
  refine mw_lload0 d_jl_bitCount_48 ?_
  refine mw_lload0 d_jl_bitCount_49 ?_
  refine mw_bipush (v := nI 32) d_jl_bitCount_50 (by decide) ?_
  refine mw_lushr d_jl_bitCount_52 ?_
  refine mw_ladd d_jl_bitCount_53 ?_
  refine mw_topl (bc_i4 (k := 32) (by omega) (by decide)) ?_
  refine mw_lstore0 d_jl_bitCount_54 (Nat.le_of_ble_eq_true rfl) ?_
  refine mw_lload0 d_jl_bitCount_55 ?_
  refine mw_l2i d_jl_bitCount_56 ?_
  refine mw_bipush (v := nI 127) d_jl_bitCount_57 (by decide) ?_
  refine mw_iand d_jl_bitCount_59 ?_
  exact mw_iret d_jl_bitCount_60 rfl rfl ⟨by rw [bc_i7], rfl⟩
theorem ct_lowest (hd : 1 ≤ d) (t : Nat → Bool) (ht : ¬ bt_lo t = 0) : mw_Ct E m_ps_lowest d 0 0 [.long (bt_lo t)] h (fun v h' => v = some (.int (nI (pu_fnd t 64))) ∧ h' = h) mw_no := by
  show mw_W E m_ps_lowest d _ _ 0 0 0 [some (.long (bt_lo t)), none] [] h
  refine mw_lload0 d_ps_lowest_0 ?_
  refine mw_lload0 d_ps_lowest_1 ?_
  refine mw_lneg d_ps_lowest_2 ?_
  refine mw_land d_ps_lowest_3 ?_
  refine mw_lconst (v := 1) d_ps_lowest_4 rfl ?_
  refine mw_lsub d_ps_lowest_5 ?_
  refine mw_topl (bt_lowest ht) ?_
  refine mw_cS1e lk_ps_lowest_jl_bitCount d_ps_lowest_6  (Nat.le_of_ble_eq_true rfl) (ct_bitCount (d := d - 1) (fun i => decide (i < pu_fnd t 64))) (by omega) (Nat.le_of_ble_eq_true rfl) (Nat.zero_le _) (Nat.zero_le _) ?_
  have hlt := bt_some ht
  exact mw_iret d_ps_lowest_9 rfl rfl ⟨by rw [bt_cntlt 64 (by omega)], rfl⟩
theorem ct_has (hd : 1 ≤ d) (p : Int32) (ha : a < h.1) (ho : h.2 a = .inl (0, ps_S s)) : mw_Ct E m_ps_has d 0 0 [.ref (mw_b E + a), .int p] h (fun v h' => v = some (.int (bI (bt_m s p))) ∧ h' = h) mw_no := by
  show mw_W E m_ps_has d _ _ 0 0 0 [some (.ref (mw_b E + a)), some (.int p)] [] h
  have yes : bt_m s p = true → ∀ bc bs, mw_W E m_ps_has d (fun v h' => v = some (.int (bI (bt_m s p))) ∧ h' = h) mw_no bc bs 28 [some (.ref (mw_b E + a)), some (.int p)] [] h := by
    intro e bc bs
    refine mw_iconst (v := nI 1) d_ps_has_28 (by decide) ?_
    refine mw_goto (tgt := 33) d_ps_has_29 (by decide) ?_
    exact mw_iret d_ps_has_33 rfl nb1 ⟨by rw [bI_t e], rfl⟩
  have hm : bt_m s p = false ↔ _ := bt_meet_no (s := s) (t := bt_one p)
  refine mw_aload0 d_ps_has_0 ?_
  refine gf_ps_low d_ps_has_1 ha ho rfl ?_
  refine mw_iload1 d_ps_has_4 ?_
  refine mw_cS1e lk_ps_has_ps_lowBit d_ps_has_5  (Nat.le_of_ble_eq_true rfl) (ct_lowBit (d := d - 1) p) (by omega) (Nat.le_of_ble_eq_true rfl) (Nat.zero_le _) (Nat.zero_le _) ?_
  refine mw_land d_ps_has_8 ?_
  refine mw_lconst (v := 0) d_ps_has_9 rfl ?_
  refine mw_lcmp d_ps_has_10 ?_
  refine mw_if_ne (tgt := 28) d_ps_has_11 (by decide) (fun hc => yes ?_ _ _) (fun hc => ?_)
  · cases e : bt_m s p with
    | true => rfl
    | false => exact absurd ((lc0 _ _).mpr (hm.mp e).1) hc
  refine mw_aload0 d_ps_has_14 ?_
  refine gf_ps_high d_ps_has_15 ha ho rfl ?_
  refine mw_iload1 d_ps_has_18 ?_
  refine mw_cS1e lk_ps_has_ps_highBit d_ps_has_19  (Nat.le_of_ble_eq_true rfl) (ct_highBit (d := d - 1) p) (by omega) (Nat.le_of_ble_eq_true rfl) (Nat.zero_le _) (Nat.zero_le _) ?_
  refine mw_land d_ps_has_22 ?_
  refine mw_lconst (v := 0) d_ps_has_23 rfl ?_
  refine mw_lcmp d_ps_has_24 ?_
  refine mw_if_eq (tgt := 32) d_ps_has_25 (by decide) (fun hc2 => ?_) (fun hc2 => yes ?_ _ _)
  · refine mw_iconst (v := nI 0) d_ps_has_32 (by decide) ?_
    have e : bt_m s p = false := hm.mpr ⟨(lc0 _ _).mp hc, (lc0 _ _).mp hc2⟩
    exact mw_iret d_ps_has_33 rfl nb0 ⟨by rw [bI_f e], rfl⟩
  · cases e : bt_m s p with
    | true => rfl
    | false => exact absurd ((lc0 _ _).mpr (hm.mp e).2) hc2
theorem ct_meets (s t : Nat → Bool) {a2 : Nat} (ha : a < h.1) (ho : h.2 a = .inl (0, ps_S s)) (ha2 : a2 < h.1) (ho2 : h.2 a2 = .inl (0, ps_S t)) : mw_Ct E m_ps_meets d 0 0 [.ref (mw_b E + a), .ref (mw_b E + a2)] h (fun v h' => v = some (.int (bI (bt_meet s t))) ∧ h' = h) mw_no := by
  show mw_W E m_ps_meets d _ _ 0 0 0 [some (.ref (mw_b E + a)), some (.ref (mw_b E + a2))] [] h
  have yes : bt_meet s t = true → ∀ bc bs, mw_W E m_ps_meets d (fun v h' => v = some (.int (bI (bt_meet s t))) ∧ h' = h) mw_no bc bs 28 [some (.ref (mw_b E + a)), some (.ref (mw_b E + a2))] [] h := by
    intro e bc bs
    refine mw_iconst (v := nI 1) d_ps_meets_28 (by decide) ?_
    refine mw_goto (tgt := 33) d_ps_meets_29 (by decide) ?_
    exact mw_iret d_ps_meets_33 rfl nb1 ⟨by rw [bI_t e], rfl⟩
  have hm : bt_meet s t = false ↔ _ := bt_meet_no (s := s) (t := t)
  refine mw_aload0 d_ps_meets_0 ?_
  refine gf_ps_low d_ps_meets_1 ha ho rfl ?_
  refine mw_aload1 d_ps_meets_4 ?_
  refine gf_ps_low d_ps_meets_5 ha2 ho2 rfl ?_
  refine mw_land d_ps_meets_8 ?_
  refine mw_lconst (v := 0) d_ps_meets_9 rfl ?_
  refine mw_lcmp d_ps_meets_10 ?_
  refine mw_if_ne (tgt := 28) d_ps_meets_11 (by decide) (fun hc => yes ?_ _ _) (fun hc => ?_)
  · cases e : bt_meet s t with
    | true => rfl
    | false => exact absurd ((lc0 _ _).mpr (hm.mp e).1) hc
  refine mw_aload0 d_ps_meets_14 ?_
  refine gf_ps_high d_ps_meets_15 ha ho rfl ?_
  refine mw_aload1 d_ps_meets_18 ?_
  refine gf_ps_high d_ps_meets_19 ha2 ho2 rfl ?_
  refine mw_land d_ps_meets_22 ?_
  refine mw_lconst (v := 0) d_ps_meets_23 rfl ?_
  refine mw_lcmp d_ps_meets_24 ?_
  refine mw_if_eq (tgt := 32) d_ps_meets_25 (by decide) (fun hc2 => ?_) (fun hc2 => yes ?_ _ _)
  · refine mw_iconst (v := nI 0) d_ps_meets_32 (by decide) ?_
    have e : bt_meet s t = false := hm.mpr ⟨(lc0 _ _).mp hc, (lc0 _ _).mp hc2⟩
    exact mw_iret d_ps_meets_33 rfl nb0 ⟨by rw [bI_f e], rfl⟩
  · cases e : bt_meet s t with
    | true => rfl
    | false => exact absurd ((lc0 _ _).mpr (hm.mp e).2) hc2
theorem ct_isEmpty (s : Nat → Bool) (ha : a < h.1) (ho : h.2 a = .inl (0, ps_S s)) : mw_Ct E m_ps_isEmpty d 0 0 [.ref (mw_b E + a)] h (fun v h' => v = some (.int (bI (!pu_ex s 128))) ∧ h' = h) mw_no := by
  show mw_W E m_ps_isEmpty d _ _ 0 0 0 [some (.ref (mw_b E + a))] [] h
  have no : pu_ex s 128 = true → ∀ bc bs, mw_W E m_ps_isEmpty d (fun v h' => v = some (.int (bI (!pu_ex s 128))) ∧ h' = h) mw_no bc bs 22 [some (.ref (mw_b E + a))] [] h := by
    intro e bc bs
    refine mw_iconst (v := nI 0) d_ps_isEmpty_22 (by decide) ?_
    exact mw_iret d_ps_isEmpty_23 rfl nb0 ⟨by rw [e]; rfl, rfl⟩
  have hm : pu_ex s 128 = false ↔ _ := bt_empty (s := s)
  refine mw_aload0 d_ps_isEmpty_0 ?_
  refine gf_ps_low d_ps_isEmpty_1 ha ho rfl ?_
  refine mw_lconst (v := 0) d_ps_isEmpty_4 rfl ?_
  refine mw_lcmp d_ps_isEmpty_5 ?_
  refine mw_if_ne (tgt := 22) d_ps_isEmpty_6 (by decide) (fun hc => no ?_ _ _) (fun hc => ?_)
  · cases e : pu_ex s 128 with
    | true => rfl
    | false => exact absurd ((lc0 _ _).mpr (hm.mp e).1) hc
  refine mw_aload0 d_ps_isEmpty_9 ?_
  refine gf_ps_high d_ps_isEmpty_10 ha ho rfl ?_
  refine mw_lconst (v := 0) d_ps_isEmpty_13 rfl ?_
  refine mw_lcmp d_ps_isEmpty_14 ?_
  refine mw_if_ne (tgt := 22) d_ps_isEmpty_15 (by decide) (fun hc2 => no ?_ _ _) (fun hc2 => ?_)
  · cases e : pu_ex s 128 with
    | true => rfl
    | false => exact absurd ((lc0 _ _).mpr (hm.mp e).2) hc2
  refine mw_iconst (v := nI 1) d_ps_isEmpty_18 (by decide) ?_
  refine mw_goto (tgt := 23) d_ps_isEmpty_19 (by decide) ?_
  have e : pu_ex s 128 = false := hm.mpr ⟨(lc0 _ _).mp hc, (lc0 _ _).mp hc2⟩
  exact mw_iret d_ps_isEmpty_23 rfl nb1 ⟨by rw [e]; rfl, rfl⟩
theorem ct_size (hd : 1 ≤ d) (s : Nat → Bool) (ha : a < h.1) (ho : h.2 a = .inl (0, ps_S s)) : mw_Ct E m_ps_size d 0 0 [.ref (mw_b E + a)] h (fun v h' => v = some (.int (nI (pu_cnt s 128))) ∧ h' = h) mw_no := by
  show mw_W E m_ps_size d _ _ 0 0 0 [some (.ref (mw_b E + a))] [] h
  refine mw_aload0 d_ps_size_0 ?_
  refine gf_ps_low d_ps_size_1 ha ho rfl ?_
  refine mw_cS1e lk_ps_size_jl_bitCount d_ps_size_4  (Nat.le_of_ble_eq_true rfl) (ct_bitCount (d := d - 1) s) (by omega) (Nat.le_of_ble_eq_true rfl) (Nat.zero_le _) (Nat.zero_le _) ?_
  refine mw_aload0 d_ps_size_7 ?_
  refine gf_ps_high d_ps_size_8 ha ho rfl ?_
  refine mw_cS1e lk_ps_size_jl_bitCount d_ps_size_11  (Nat.le_of_ble_eq_true rfl) (ct_bitCount (d := d - 1) (fun i => s (64 + i))) (by omega) (Nat.le_of_ble_eq_true rfl) (Nat.zero_le _) (Nat.zero_le _) ?_
  refine mw_iadd d_ps_size_14 ?_
  exact mw_iret d_ps_size_15 rfl rfl ⟨by rw [bt_size], rfl⟩
end Ps
section Ps2
variable {E : mw_E} {d : Nat} {h : mw_H} {a : Nat} {s : Nat → Bool}
/-- two writes into one cell -/
theorem ps_two {α : Type} (n : Nat) (f : Nat → α) (a : Nat) (u v : α) : ((n, va_up f a u).1, va_up (n, va_up f a u).2 a v) = (n, va_up f a v) := by
  show (n, va_up (va_up f a u) a v) = _
  rw [mw_upup]
theorem ct_add (hd : 1 ≤ d) (p : Int32) (ha : a < h.1) (ho : h.2 a = .inl (0, ps_S s)) : mw_Ct E m_ps_add d 0 0 [.ref (mw_b E + a), .int p] h (fun v h' => v = none ∧ h' = (h.1, va_up h.2 a (.inl (0, ps_S (fun i => s i || bt_one p i))))) mw_no := by
  show mw_W E m_ps_add d _ _ 0 0 0 [some (.ref (mw_b E + a)), some (.int p)] [] h
  refine mw_aload0 d_ps_add_0 ?_
  refine mw_dup d_ps_add_1 rfl ?_
  refine gf_ps_low d_ps_add_2 ha ho rfl ?_
  refine mw_iload1 d_ps_add_5 ?_
  refine mw_cS1e lk_ps_add_ps_lowBit d_ps_add_6  (Nat.le_of_ble_eq_true rfl) (ct_lowBit (d := d - 1) p) (by omega) (Nat.le_of_ble_eq_true rfl) (Nat.zero_le _) (Nat.zero_le _) ?_
  refine mw_lor d_ps_add_9 ?_
  refine mw_topl (bt_or s (bt_one p)) ?_
  refine pf_ps_low d_ps_add_10 ha ho rfl ?_
  refine mw_aload0 d_ps_add_13 ?_
  refine mw_dup d_ps_add_14 rfl ?_
  refine gf_ps_high d_ps_add_15 ha (mw_up_s _ _ _) rfl ?_
  refine mw_iload1 d_ps_add_18 ?_
  refine mw_cS1e lk_ps_add_ps_highBit d_ps_add_19  (Nat.le_of_ble_eq_true rfl) (ct_highBit (d := d - 1) p) (by omega) (Nat.le_of_ble_eq_true rfl) (Nat.zero_le _) (Nat.zero_le _) ?_
  refine mw_lor d_ps_add_22 ?_
  refine mw_topl (bt_hor s (bt_one p)) ?_
  refine pf_ps_high d_ps_add_23 ha (mw_up_s _ _ _) rfl ?_
  exact mw_vret d_ps_add_26 rfl ⟨rfl, ps_two _ _ _ _ _⟩
theorem ct_remove (hd : 1 ≤ d) (p : Int32) (ha : a < h.1) (ho : h.2 a = .inl (0, ps_S s)) : mw_Ct E m_ps_remove d 0 0 [.ref (mw_b E + a), .int p] h (fun v h' => v = none ∧ h' = (h.1, va_up h.2 a (.inl (0, ps_S (fun i => s i && !bt_one p i))))) mw_no := by
  show mw_W E m_ps_remove d _ _ 0 0 0 [some (.ref (mw_b E + a)), some (.int p)] [] h
  refine mw_aload0 d_ps_remove_0 ?_
  refine mw_dup d_ps_remove_1 rfl ?_
  refine gf_ps_low d_ps_remove_2 ha ho rfl ?_
  refine mw_iload1 d_ps_remove_5 ?_
  refine mw_cS1e lk_ps_remove_ps_lowBit d_ps_remove_6  (Nat.le_of_ble_eq_true rfl) (ct_lowBit (d := d - 1) p) (by omega) (Nat.le_of_ble_eq_true rfl) (Nat.zero_le _) (Nat.zero_le _) ?_
  refine mw_ldc2 d_ps_remove_9 tb_122 ?_
  refine mw_lxor d_ps_remove_12 ?_
  refine mw_topl (bt_not (bt_one p)) ?_
  refine mw_land d_ps_remove_13 ?_
  refine mw_topl (bt_and s (fun i => !bt_one p i)) ?_
  refine pf_ps_low d_ps_remove_14 ha ho rfl ?_
  refine mw_aload0 d_ps_remove_17 ?_
  refine mw_dup d_ps_remove_18 rfl ?_
  refine gf_ps_high d_ps_remove_19 ha (mw_up_s _ _ _) rfl ?_
  refine mw_iload1 d_ps_remove_22 ?_
  refine mw_cS1e lk_ps_remove_ps_highBit d_ps_remove_23  (Nat.le_of_ble_eq_true rfl) (ct_highBit (d := d - 1) p) (by omega) (Nat.le_of_ble_eq_true rfl) (Nat.zero_le _) (Nat.zero_le _) ?_
  refine mw_ldc2 d_ps_remove_26 tb_122 ?_
  refine mw_lxor d_ps_remove_29 ?_
  refine mw_topl (bt_hnot (bt_one p)) ?_
  refine mw_land d_ps_remove_30 ?_
  refine mw_topl (bt_hand s (fun i => !bt_one p i)) ?_
  refine pf_ps_high d_ps_remove_31 ha (mw_up_s _ _ _) rfl ?_
  exact mw_vret d_ps_remove_34 rfl ⟨rfl, ps_two _ _ _ _ _⟩
theorem ct_clear (ha : a < h.1) (ho : h.2 a = .inl (0, ps_S s)) : mw_Ct E m_ps_clear d 0 0 [.ref (mw_b E + a)] h (fun v h' => v = none ∧ h' = (h.1, va_up h.2 a (.inl (0, ps_S (fun _ => false))))) mw_no := by
  show mw_W E m_ps_clear d _ _ 0 0 0 [some (.ref (mw_b E + a))] [] h
  refine mw_aload0 d_ps_clear_0 ?_
  refine mw_lconst (v := 0) d_ps_clear_1 rfl ?_
  refine mw_topl bt_zero.symm ?_
  refine pf_ps_low d_ps_clear_2 ha ho rfl ?_
  refine mw_aload0 d_ps_clear_5 ?_
  refine mw_lconst (v := 0) d_ps_clear_6 rfl ?_
  refine mw_topl (show (0 : Int64) = bt_hi (fun _ => false) from bt_zero.symm) ?_
  refine pf_ps_high d_ps_clear_7 ha (mw_up_s _ _ _) rfl ?_
  exact mw_vret d_ps_clear_10 rfl ⟨rfl, ps_two _ _ _ _ _⟩
theorem ct_addAllOf (s t : Nat → Bool) {a2 : Nat} (hne : a2 ≠ a) (ha : a < h.1) (ho : h.2 a = .inl (0, ps_S s)) (ha2 : a2 < h.1) (ho2 : h.2 a2 = .inl (0, ps_S t)) : mw_Ct E m_ps_addAllOf d 0 0 [.ref (mw_b E + a), .ref (mw_b E + a2)] h (fun v h' => v = none ∧ h' = (h.1, va_up h.2 a (.inl (0, ps_S (fun i => s i || t i))))) mw_no := by
  show mw_W E m_ps_addAllOf d _ _ 0 0 0 [some (.ref (mw_b E + a)), some (.ref (mw_b E + a2))] [] h
  refine mw_aload0 d_ps_addAllOf_0 ?_
  refine mw_dup d_ps_addAllOf_1 rfl ?_
  refine gf_ps_low d_ps_addAllOf_2 ha ho rfl ?_
  refine mw_aload1 d_ps_addAllOf_5 ?_
  refine gf_ps_low d_ps_addAllOf_6 ha2 ho2 rfl ?_
  refine mw_lor d_ps_addAllOf_9 ?_
  refine mw_topl (bt_or s t) ?_
  refine pf_ps_low d_ps_addAllOf_10 ha ho rfl ?_
  refine mw_aload0 d_ps_addAllOf_13 ?_
  refine mw_dup d_ps_addAllOf_14 rfl ?_
  refine gf_ps_high d_ps_addAllOf_15 ha (mw_up_s _ _ _) rfl ?_
  refine mw_aload1 d_ps_addAllOf_18 ?_
  refine gf_ps_high d_ps_addAllOf_19 ha2 ((mw_up_n _ _ hne).trans ho2) rfl ?_
  refine mw_lor d_ps_addAllOf_22 ?_
  refine mw_topl (bt_hor s t) ?_
  refine pf_ps_high d_ps_addAllOf_23 ha (mw_up_s _ _ _) rfl ?_
  exact mw_vret d_ps_addAllOf_26 rfl ⟨rfl, ps_two _ _ _ _ _⟩
theorem ct_removeAllOf (s t : Nat → Bool) {a2 : Nat} (hne : a2 ≠ a) (ha : a < h.1) (ho : h.2 a = .inl (0, ps_S s)) (ha2 : a2 < h.1) (ho2 : h.2 a2 = .inl (0, ps_S t)) : mw_Ct E m_ps_removeAllOf d 0 0 [.ref (mw_b E + a), .ref (mw_b E + a2)] h (fun v h' => v = none ∧ h' = (h.1, va_up h.2 a (.inl (0, ps_S (fun i => s i && !t i))))) mw_no := by
  show mw_W E m_ps_removeAllOf d _ _ 0 0 0 [some (.ref (mw_b E + a)), some (.ref (mw_b E + a2))] [] h
  refine mw_aload0 d_ps_removeAllOf_0 ?_
  refine mw_aload0 d_ps_removeAllOf_1 ?_
  refine gf_ps_low d_ps_removeAllOf_2 ha ho rfl ?_
  refine mw_aload1 d_ps_removeAllOf_5 ?_
  refine gf_ps_low d_ps_removeAllOf_6 ha2 ho2 rfl ?_
  refine mw_ldc2 d_ps_removeAllOf_9 tb_122 ?_
  refine mw_lxor d_ps_removeAllOf_12 ?_
  refine mw_topl (bt_not t) ?_
  refine mw_land d_ps_removeAllOf_13 ?_
  refine mw_topl (bt_and s (fun i => !t i)) ?_
  refine pf_ps_low d_ps_removeAllOf_14 ha ho rfl ?_
  refine mw_aload0 d_ps_removeAllOf_17 ?_
  refine mw_aload0 d_ps_removeAllOf_18 ?_
  refine gf_ps_high d_ps_removeAllOf_19 ha (mw_up_s _ _ _) rfl ?_
  refine mw_aload1 d_ps_removeAllOf_22 ?_
  refine gf_ps_high d_ps_removeAllOf_23 ha2 ((mw_up_n _ _ hne).trans ho2) rfl ?_
  refine mw_ldc2 d_ps_removeAllOf_26 tb_122 ?_
  refine mw_lxor d_ps_removeAllOf_29 ?_
  refine mw_topl (bt_hnot t) ?_
  refine mw_land d_ps_removeAllOf_30 ?_
  refine mw_topl (bt_hand s (fun i => !t i)) ?_
  refine pf_ps_high d_ps_removeAllOf_31 ha (mw_up_s _ _ _) rfl ?_
  exact mw_vret d_ps_removeAllOf_34 rfl ⟨rfl, ps_two _ _ _ _ _⟩
theorem ct_keepAllOf (s t : Nat → Bool) {a2 : Nat} (hne : a2 ≠ a) (ha : a < h.1) (ho : h.2 a = .inl (0, ps_S s)) (ha2 : a2 < h.1) (ho2 : h.2 a2 = .inl (0, ps_S t)) : mw_Ct E m_ps_keepAllOf d 0 0 [.ref (mw_b E + a), .ref (mw_b E + a2)] h (fun v h' => v = none ∧ h' = (h.1, va_up h.2 a (.inl (0, ps_S (fun i => s i && t i))))) mw_no := by
  show mw_W E m_ps_keepAllOf d _ _ 0 0 0 [some (.ref (mw_b E + a)), some (.ref (mw_b E + a2))] [] h
  refine mw_aload0 d_ps_keepAllOf_0 ?_
  refine mw_dup d_ps_keepAllOf_1 rfl ?_
  refine gf_ps_low d_ps_keepAllOf_2 ha ho rfl ?_
  refine mw_aload1 d_ps_keepAllOf_5 ?_
  refine gf_ps_low d_ps_keepAllOf_6 ha2 ho2 rfl ?_
  refine mw_land d_ps_keepAllOf_9 ?_
  refine mw_topl (bt_and s t) ?_
  refine pf_ps_low d_ps_keepAllOf_10 ha ho rfl ?_
  refine mw_aload0 d_ps_keepAllOf_13 ?_
  refine mw_dup d_ps_keepAllOf_14 rfl ?_
  refine gf_ps_high d_ps_keepAllOf_15 ha (mw_up_s _ _ _) rfl ?_
  refine mw_aload1 d_ps_keepAllOf_18 ?_
  refine gf_ps_high d_ps_keepAllOf_19 ha2 ((mw_up_n _ _ hne).trans ho2) rfl ?_
  refine mw_land d_ps_keepAllOf_22 ?_
  refine mw_topl (bt_hand s t) ?_
  refine pf_ps_high d_ps_keepAllOf_23 ha (mw_up_s _ _ _) rfl ?_
  exact mw_vret d_ps_keepAllOf_26 rfl ⟨rfl, ps_two _ _ _ _ _⟩
theorem ct_psinit (hd : 1 ≤ d) (a9 : Nat) : mw_Ct E m_ps_init d 0 0 [.ref a9] h (fun v h' => v = none ∧ h' = h) mw_no := by
  show mw_W E m_ps_init d _ _ 0 0 0 [some (.ref a9)] [] h
  refine mw_aload0 d_ps_init_0 ?_
  refine mw_obj ⟨ol_ps, ob9, oc9⟩ d_ps_init_1 (by omega) (Nat.le_of_ble_eq_true rfl) ?_
  exact mw_vret d_ps_init_4 rfl ⟨rfl, rfl⟩
end Ps2
