/-! The reference's constructor. -/
def md_K0 : md_K := (nI 0, 10, fun _ _ => false, fun _ _ => nI 0)
def mi (b : Nat) (F : Nat → Value) (f : Nat → mw_O) : Nat → mw_O := fun k => if k < 250 then f k else if k = 250 then .inl (2, F) else md_o b md_K0 k
theorem mi_p (b : Nat) (F F' : Nat → Value) (f : Nat → mw_O) : va_up (mi b F f) 250 (.inl (2, F')) = mi b F' f := by
  funext k
  unfold va_up mi
  by_cases e : k = 250
  · subst e; rfl
  · simp [e]
theorem mi_o {b : Nat} {F : Nat → Value} {f : Nat → mw_O} {k : Nat} (h : 250 < k) : mi b F f k = md_o b md_K0 k := by
  unfold mi
  rw [if_neg (by omega), if_neg (by omega)]
section MInit
variable {E : mw_E} {d bc bs pc n : Nat} {Q : Option Value → mw_H → Prop} {X : Nat → mw_H → Prop} {lo : List (Option Value)} {st : List Value} {F : Nat → Value} {f : Nat → mw_O}
theorem mi_newi (hd1 : decode m_md_init.2.1 pc = .ok (.newarray .int, 2)) (h3 : 250 < n) (ho : md_o (mw_b E) md_K0 n = .inr (0, 120, fun _ => .int (nI 0))) (hbc : 1 ≤ bc) (hbs : 120 ≤ bs) (k : mw_W E m_md_init d Q X (bc - 1) (bs - 120) (pc + 2) lo (.ref (mw_b E + n) :: st) (n + 1, mi (mw_b E) F f)) : mw_W E m_md_init d Q X bc bs pc lo (.int (nI 120) :: st) (n, mi (mw_b E) F f) := by
  refine mw_newa (t := 0) (N := 120) (at9 := .int) (fun _ => rfl) (fun _ _ h => va_nm_int h) tb_66 hd1 (nI_pos (by decide)) (nI_clamp (by decide)) (by decide) hbc hbs ?_
  refine mw_ext1 (f := mi (mw_b E) F f) (g := mi (mw_b E) F f) (Or.inr (Or.inr ⟨0, 120, _, _, rfl, (mi_o h3).trans ho, fun _ _ => ?_⟩)) (fun _ _ => rfl) k
  show Value.int 0 = _
  rw [nI_0]
theorem mi_newz (hd1 : decode m_md_init.2.1 pc = .ok (.newarray .boolean, 2)) (h3 : 250 < n) (ho : md_o (mw_b E) md_K0 n = .inr (1, 120, fun _ => .int (bI false))) (hbc : 1 ≤ bc) (hbs : 120 ≤ bs) (k : mw_W E m_md_init d Q X (bc - 1) (bs - 120) (pc + 2) lo (.ref (mw_b E + n) :: st) (n + 1, mi (mw_b E) F f)) : mw_W E m_md_init d Q X bc bs pc lo (.int (nI 120) :: st) (n, mi (mw_b E) F f) := by
  refine mw_newa (t := 1) (N := 120) (at9 := .boolean) (fun _ => rfl) (fun _ _ h => va_nm_boolean h) tb_404 hd1 (nI_pos (by decide)) (nI_clamp (by decide)) (by decide) hbc hbs ?_
  refine mw_ext1 (f := mi (mw_b E) F f) (g := mi (mw_b E) F f) (Or.inr (Or.inr ⟨1, 120, _, _, rfl, (mi_o h3).trans ho, fun _ _ => ?_⟩)) (fun _ _ => rfl) k
  show Value.int 0 = _
  rw [bI_f0]
theorem mi_newm (hd1 : decode m_md_init.2.1 pc = .ok (.multianewarray 16 2, 4)) (h3 : 250 < n) (ho : md_o (mw_b E) md_K0 n = .inr (2, 120, fun i => .ref (mw_b E + (n + 1 + i)))) (ho2 : ∀ k, n < k → k < n + 121 → md_o (mw_b E) md_K0 k = .inr (1, 120, fun _ => .int (bI false))) (hbc : 121 ≤ bc) (hbs : 14520 ≤ bs) (k : mw_W E m_md_init d Q X (bc - 121) (bs - 14520) (pc + 4) lo (.ref (mw_b E + n) :: st) (n + 121, mi (mw_b E) F f)) : mw_W E m_md_init d Q X bc bs pc lo (.int (nI 120) :: .int (nI 120) :: st) (n, mi (mw_b E) F f) := by
  refine mw_mnew (N := 120) (M := 120) tb_377 hd1 (by decide) (by decide) (by decide) hbc hbs ?_
  refine mw_ext (g := mi (mw_b E) F f) (fun k hk => ?_) k
  have hk9 : k < n + 121 := hk
  show mw_sm (if k = n then _ else if n < k then _ else mi (mw_b E) F f k) _
  by_cases z1 : k = n
  · rw [if_pos z1, z1]
    exact Or.inl (by rw [mi_o h3, ho])
  · rw [if_neg z1]
    by_cases z2 : n < k
    · rw [if_pos z2]
      refine Or.inr (Or.inr ⟨1, 120, _, _, rfl, (mi_o (by omega)).trans (ho2 k z2 hk9), fun _ _ => ?_⟩)
      rw [bI_f0]
    · rw [if_neg z2]
      exact Or.inl rfl
theorem md_o_w {b k : Nat} (h1 : 251 < k) (h2 : k < 372) : md_o b md_K0 k = .inr (1, 120, fun _ => .int (bI false)) := by
  unfold md_o
  rw [if_neg (by omega), if_neg (by omega), if_pos h2]
  rfl
theorem md_o_d {b k : Nat} (h1 : 373 < k) (h2 : k < 494) : md_o b md_K0 k = .inr (1, 120, fun _ => .int (bI false)) := by
  unfold md_o
  rw [if_neg (by omega), if_neg (by omega), if_neg (by omega), if_neg (by omega), if_neg (by omega), if_pos h2]
  rfl
theorem ct_mdinit {F0 : Nat → Value} (hd : 2 ≤ d) (hf : f 250 = .inl (2, F0)) : mw_Ct E m_md_init d 246 29520 [.ref (mw_b E + 250)] (251, f) (fun v h' => v = none ∧ h' = md_h E md_K0 497 f) mw_no := by
  show mw_W E m_md_init d _ _ 246 29520 0 [some (.ref (mw_b E + 250))] [] (251, f)
  refine mw_ext (g := mi (mw_b E) F0 f) (fun k hk => by
    unfold mi
    by_cases z : k < 250
    · rw [if_pos z]; exact Or.inl rfl
    · have e : k = 250 := by omega
      rw [if_neg z, if_pos e, e]; exact Or.inl hf) ?_
  refine mw_aload0 d_md_init_0 ?_
  refine mw_obj ⟨ol_md, ob9, oc9⟩ d_md_init_1 (by omega) (Nat.le_of_ble_eq_true rfl) ?_
  refine mw_aload0 d_md_init_4 ?_
  refine mw_iconst (v := nI 0) d_md_init_5 (by decide) ?_
  refine mw_putf (k := 0) (a := 250) fp_md_thrown d_md_init_6 (Nat.le_of_ble_eq_true rfl) rfl rfl rfl ?_
  rw [mi_p]
  refine mw_aload0 d_md_init_9 ?_
  refine mw_bipush (v := nI 10) d_md_init_10 (by decide) ?_
  refine mw_putf (k := 1) (a := 250) fp_md_n d_md_init_12 (Nat.le_of_ble_eq_true rfl) rfl rfl rfl ?_
  rw [mi_p]
  refine mw_aload0 d_md_init_15 ?_
  refine mw_bipush (v := nI 120) d_md_init_16 (by decide) ?_
  refine mw_bipush (v := nI 120) d_md_init_18 (by decide) ?_
  refine mi_newm (n := 251) d_md_init_20 (by decide) rfl (fun k h1 h2 => md_o_w h1 h2) (by decide) (by decide) ?_
  refine mw_putF (k := 2) (a := 250) fp_md_way ⟨_, rfl, rfl⟩ rfl d_md_init_24 (Nat.le_of_ble_eq_true rfl) rfl rfl rfl ?_
  rw [mi_p]
  refine mw_aload0 d_md_init_27 ?_
  refine mw_bipush (v := nI 120) d_md_init_28 (by decide) ?_
  refine mi_newi (n := 372) d_md_init_30 (by decide) rfl (by decide) (by decide) ?_
  refine mw_putF (k := 3) (a := 250) fp_md_away ⟨_, rfl, rfl⟩ rfl d_md_init_32 (Nat.le_of_ble_eq_true rfl) rfl rfl rfl ?_
  rw [mi_p]
  refine mw_aload0 d_md_init_35 ?_
  refine mw_bipush (v := nI 120) d_md_init_36 (by decide) ?_
  refine mw_bipush (v := nI 120) d_md_init_38 (by decide) ?_
  refine mi_newm (n := 373) d_md_init_40 (by decide) rfl (fun k h1 h2 => md_o_d h1 h2) (by decide) (by decide) ?_
  refine mw_putF (k := 4) (a := 250) fp_md_reached ⟨_, rfl, rfl⟩ rfl d_md_init_44 (Nat.le_of_ble_eq_true rfl) rfl rfl rfl ?_
  rw [mi_p]
  refine mw_aload0 d_md_init_47 ?_
  refine mw_bipush (v := nI 120) d_md_init_48 (by decide) ?_
  refine mi_newi (n := 494) d_md_init_50 (by decide) rfl (by decide) (by decide) ?_
  refine mw_putF (k := 5) (a := 250) fp_md_order ⟨_, rfl, rfl⟩ rfl d_md_init_52 (Nat.le_of_ble_eq_true rfl) rfl rfl rfl ?_
  rw [mi_p]
  refine mw_aload0 d_md_init_55 ?_
  refine mw_bipush (v := nI 120) d_md_init_56 (by decide) ?_
  refine mi_newz (n := 495) d_md_init_58 (by decide) rfl (by decide) (by decide) ?_
  refine mw_putF (k := 6) (a := 250) fp_md_placed ⟨_, rfl, rfl⟩ rfl d_md_init_60 (Nat.le_of_ble_eq_true rfl) rfl rfl rfl ?_
  rw [mi_p]
  refine mw_aload0 d_md_init_63 ?_
  refine mw_bipush (v := nI 120) d_md_init_64 (by decide) ?_
  refine mi_newi (n := 496) d_md_init_66 (by decide) rfl (by decide) (by decide) ?_
  refine mw_putF (k := 7) (a := 250) fp_md_measure ⟨_, rfl, rfl⟩ rfl d_md_init_68 (Nat.le_of_ble_eq_true rfl) rfl rfl rfl ?_
  rw [mi_p]
  refine mw_ext (g := (md_h E md_K0 497 f).2) (fun k hk => ?_) (mw_vret d_md_init_71 rfl ⟨rfl, rfl⟩)
  have hk497 : k < 497 := hk
  show mw_sm _ (if 250 ≤ k ∧ k < 497 then md_o (mw_b E) md_K0 k else f k)
  unfold mi
  by_cases z : k < 250
  · rw [if_pos z, if_neg (show ¬ (250 ≤ k ∧ k < 497) by omega)]; exact Or.inl rfl
  · rw [if_neg z, if_pos (show 250 ≤ k ∧ k < 497 by omega)]
    by_cases z2 : k = 250
    · rw [if_pos z2]
      refine Or.inr (Or.inl ⟨2, _, md_F (mw_b E) (nI 0) 10, _, rfl, by rw [z2]; rfl, rfl, fun j hj => ?_⟩)
      have hj8 : j < 8 := hj
      match j, hj8 with
      | 0, _ => rfl
      | 1, _ => rfl
      | 2, _ => rfl
      | 3, _ => rfl
      | 4, _ => rfl
      | 5, _ => rfl
      | 6, _ => rfl
      | 7, _ => rfl
    · rw [if_neg z2]; exact Or.inl rfl
end MInit
