/-! The law's body: one call on both sides. -/
def lw_sB (E : mw_E) : Nat := E.2.2.2.2.2.1
def lw_sL (E : mw_E) : Nat := E.2.2.2.2.2.2.1
def lw_sX (E : mw_E) (i : Nat) : Int32 := E.2.2.2.2.2.2.2 i
def lw_J (E : mw_E) (κ : ob_K) (μ : md_K) (w : Nat → Nat → Bool) (n : Nat) (r : Nat → mw_O) (g : Nat → Value) : Prop := ob_I κ w ∧ md_I μ w ∧ μ.2.1 = κ.1 ∧ 498 ≤ n ∧ (∀ k, 250 ≤ k → k < 497 → r k = md_o (mw_b E) μ k) ∧ r 497 = .inr (4, 1, g)
def lw_om (E : mw_E) (κ : ob_K) (r : Nat → mw_O) : Nat → mw_O := fun k => if k < 250 then ob_o (mw_b E) κ k else r k
def lw_mo (E : mw_E) (μ : md_K) (r : Nat → mw_O) : Nat → mw_O := fun k => if 250 ≤ k ∧ k < 497 then md_o (mw_b E) μ k else r k
theorem lh_md {E : mw_E} {κ : ob_K} {μ : md_K} {n : Nat} {r : Nat → mw_O} (h : ∀ k, 250 ≤ k → k < 497 → r k = md_o (mw_b E) μ k) : ob_h E κ n r = md_h E μ n (lw_om E κ r) := by
  refine Prod.ext rfl ?_
  funext k
  show (if k < 250 then ob_o (mw_b E) κ k else r k) = if 250 ≤ k ∧ k < 497 then md_o (mw_b E) μ k else (if k < 250 then ob_o (mw_b E) κ k else r k)
  by_cases z : 250 ≤ k ∧ k < 497
  · rw [if_pos z, if_neg (by omega)]; exact h k z.1 z.2
  · rw [if_neg z]
theorem lh_ob {E : mw_E} {κ : ob_K} {μ : md_K} {n : Nat} {r : Nat → mw_O} : md_h E μ n (lw_om E κ r) = ob_h E κ n (lw_mo E μ r) := by
  refine Prod.ext rfl ?_
  funext k
  show (if 250 ≤ k ∧ k < 497 then md_o (mw_b E) μ k else (if k < 250 then ob_o (mw_b E) κ k else r k)) = if k < 250 then ob_o (mw_b E) κ k else (if 250 ≤ k ∧ k < 497 then md_o (mw_b E) μ k else r k)
  by_cases z : 250 ≤ k ∧ k < 497
  · rw [if_pos z, if_neg (by omega), if_pos z]
  · rw [if_neg z, if_neg z]
theorem lw_mo_in {E : mw_E} {μ : md_K} {r : Nat → mw_O} : ∀ k, 250 ≤ k → k < 497 → lw_mo E μ r k = md_o (mw_b E) μ k := fun k h1 h2 => by
  unfold lw_mo
  rw [if_pos ⟨h1, h2⟩]
theorem lw_mo_497 {E : mw_E} {μ : md_K} {r : Nat → mw_O} : lw_mo E μ r 497 = r 497 := by
  unfold lw_mo
  rw [if_neg (by decide)]
def lw_L (E : mw_E) (i : Nat) (a b : Option Value) : List (Option Value) := [some (.ref (lw_sB E)), some (.ref (mw_b E + 0)), some (.ref (mw_b E + 250)), some (.ref (mw_b E + 497)), some (.int (nI i)), a, b]
def lw_Qe : Option Value → mw_H → Prop := fun v _ => v = some (.int (nI 1))
/-- what the loop's end takes -/
def lw_K (E : mw_E) (d i : Nat) : Prop := ∀ κ μ w n r g, lw_J E κ μ w n r g → ∀ bc bs a b, lw_sL E - (i + 4) ≤ bc → 6 * (lw_sL E - (i + 4)) ≤ bs → mw_W E m_lw_law d lw_Qe mw_no bc bs 899 (lw_L E i a b) [] (ob_h E κ n r)
section Law
variable {E : mw_E} {d n i bc bs : Nat} {κ : ob_K} {μ : md_K} {r : Nat → mw_O} {g : Nat → Value} {w : Nat → Nat → Bool}
theorem lw_rd {M : mw_M} {Q : Option Value → mw_H → Prop} {X : Nat → mw_H → Prop} {pc i : Nat} {lo : List (Option Value)} {st : List Value} {h : mw_H} (hlt : lw_sB E < mw_b E) (hL : lw_sL E < 2 ^ 31) (hi : i < lw_sL E) (hd : decode M.2.1 pc = .ok (.iaload, 1)) (k : mw_W E M d Q X bc bs (pc + 1) lo (.int (lw_sX E i) :: st) h) : mw_W E M d Q X bc bs pc lo (.int (nI i) :: .ref (lw_sB E) :: st) h := mw_sld rfl hlt hd hi hL k
theorem lc_places (hd : 10 ≤ d) (hlt : lw_sB E < mw_b E) (hL : lw_sL E < 2 ^ 31) (hi : i + 4 ≤ lw_sL E) (hJ : lw_J E κ μ w n r g) (hK : lw_K E d i) (hbc : lw_sL E - i ≤ bc) (hbs : 6 * (lw_sL E - i) ≤ bs) : mw_W E m_lw_law d lw_Qe mw_no bc bs 108 (lw_L E i none none) [] (ob_h E κ n r) := by
  obtain ⟨hI, hmI, hN, hn, hr, hg⟩ := hJ
  show mw_W E m_lw_law d lw_Qe mw_no bc bs 108 [some (.ref (lw_sB E)), some (.ref (mw_b E + 0)), some (.ref (mw_b E + 250)), some (.ref (mw_b E + 497)), some (.int (nI i)), none, none] [] (ob_h E κ n r)
  refine mw_aload1 d_lw_law_108 ?_
  refine mw_aload0 d_lw_law_109 ?_
  refine mw_iload4 d_lw_law_110 ?_
  refine mw_iconst (v := nI 1) d_lw_law_112 (by decide) ?_
  refine mw_iadd d_lw_law_113 ?_
  refine mw_topi (nI_add _ _) ?_
  refine lw_rd hlt hL (by omega) d_lw_law_114 ?_
  refine mw_aload3 d_lw_law_115 ?_
  refine mw_cS3 (d' := d - 1) lk_lw_law_lw_places d_lw_law_116 (Nat.le_of_ble_eq_true rfl) (la_places (w := w) (by omega) hn hg hI) (by omega) (Nat.le_of_ble_eq_true rfl) (by omega) (by omega) ?_ (fun _ _ q => q.elim)
  rintro v h' ⟨t, a, s, κ', n', r9, g', rfl, hO, rfl, e1, hI', hn1, hn2, hr9, hg', hval⟩
  show mw_W E m_lw_law d _ _ _ _ _ _ (Value.int _ :: []) _
  refine mw_istore5 d_lw_law_119 rfl (Nat.le_of_ble_eq_true rfl) ?_
  refine mw_aload2 d_lw_law_121 ?_
  refine mw_aload0 d_lw_law_122 ?_
  refine mw_iload4 d_lw_law_123 ?_
  refine mw_iconst (v := nI 1) d_lw_law_125 (by decide) ?_
  refine mw_iadd d_lw_law_126 ?_
  refine mw_topi (nI_add _ _) ?_
  refine lw_rd hlt hL (by omega) d_lw_law_127 ?_
  refine mw_heq (lh_md (fun k h1 h2 => (hr9 k h2).trans (hr k h1 h2))) ?_
  refine mw_cV1 (d' := d - 1) lk_lw_law_md_places d_lw_law_128 (md_lt (by omega) (by decide)) md_gF (Nat.le_of_ble_eq_true rfl) (lm_places (w := w) (by omega) (by omega) hmI) (by omega) (Nat.le_of_ble_eq_true rfl) (Nat.zero_le _) (Nat.zero_le _) ?_ (fun _ _ q => q.elim)
  rintro v h' ⟨t2, b2, s2, μ', rfl, hO2, rfl, f1, f2, f3⟩
  show mw_W E m_lw_law d _ _ _ _ _ _ (Value.int _ :: []) _
  rw [hN] at hO2
  obtain ⟨z1, z2, z3⟩ := so_placesF w (lw_sX E (i + 1)) _ _ _ _ _ _ hO hO2
  subst z2
  refine mw_istore6 d_lw_law_131 rfl (Nat.le_of_ble_eq_true rfl) ?_
  refine mw_aload2 d_lw_law_133 ?_
  refine mw_cV0e (d' := d - 1) lk_lw_law_md_thrown d_lw_law_134 (md_lt (by omega) (by decide)) md_gF (Nat.le_of_ble_eq_true rfl) (ct_mdthrown (by omega)) (by omega) (Nat.le_of_ble_eq_true rfl) (Nat.zero_le _) (Nat.zero_le _) ?_
  refine mw_heq lh_ob ?_
  have hJ' : lw_J E κ' μ' s.2 n' (lw_mo E μ' r9) g' := ⟨hI', f3, f2.trans e1.symm, by omega, lw_mo_in, lw_mo_497.trans hg'⟩
  refine mw_iload5 d_lw_law_137 ?_
  refine mw_icmp_eq (tgt := 144) d_lw_law_139 (by decide) (fun hc => ?_) (fun hc => absurd (f1.trans z1.symm) hc)
  refine mw_iload5 d_lw_law_144 ?_
  refine mw_if_ne (tgt := 161) d_lw_law_146 (by decide) (fun hc2 => ?_) (fun hc2 => ?_)
  · skip
    refine mw_goto (tgt := 899) d_lw_law_161 (by decide) ?_
    exact hK κ' μ' s.2 n' _ g' hJ' _ _ _ _ (by omega) (by omega)
  · have et : t = nI 0 := hc2.trans nI_0.symm
    have ea := z3 et
    subst ea
    refine mw_aload3 d_lw_law_149 ?_
    refine mw_iconst (v := nI 0) d_lw_law_150 (by decide) ?_
    refine mw_lald (a := 497) (i := 0) d_lw_law_151 (show 497 < n' by omega) ((ob_at (by decide)).trans (lw_mo_497.trans hg')) (by decide) (by decide) (hval et) ?_
    refine mw_iload6 d_lw_law_152 ?_
    refine mw_i2l d_lw_law_154 ?_
    refine mw_lcmp d_lw_law_155 ?_
    refine mw_if_eq (tgt := 161) d_lw_law_156 (by decide) (fun hc3 => ?_) (fun hc3 => absurd ((lc0 _ _).mpr rfl) hc3)
    refine mw_goto (tgt := 899) d_lw_law_161 (by decide) ?_
    exact hK κ' μ' s.2 n' _ g' hJ' _ _ _ _ (by omega) (by omega)
theorem lc_way (hd : 10 ≤ d) (hlt : lw_sB E < mw_b E) (hL : lw_sL E < 2 ^ 31) (hi : i + 4 ≤ lw_sL E) (hJ : lw_J E κ μ w n r g) (hK : lw_K E d i) (hbc : lw_sL E - i ≤ bc) (hbs : 6 * (lw_sL E - i) ≤ bs) : mw_W E m_lw_law d lw_Qe mw_no bc bs 164 (lw_L E i none none) [] (ob_h E κ n r) := by
  obtain ⟨hI, hmI, hN, hn, hr, hg⟩ := hJ
  show mw_W E m_lw_law d lw_Qe mw_no bc bs 164 [some (.ref (lw_sB E)), some (.ref (mw_b E + 0)), some (.ref (mw_b E + 250)), some (.ref (mw_b E + 497)), some (.int (nI i)), none, none] [] (ob_h E κ n r)
  refine mw_aload1 d_lw_law_164 ?_
  refine mw_aload0 d_lw_law_165 ?_
  refine mw_iload4 d_lw_law_166 ?_
  refine mw_iconst (v := nI 1) d_lw_law_168 (by decide) ?_
  refine mw_iadd d_lw_law_169 ?_
  refine mw_topi (nI_add _ _) ?_
  refine lw_rd hlt hL (by omega) d_lw_law_170 ?_
  refine mw_aload0 d_lw_law_171 ?_
  refine mw_iload4 d_lw_law_172 ?_
  refine mw_iconst (v := nI 2) d_lw_law_174 (by decide) ?_
  refine mw_iadd d_lw_law_175 ?_
  refine mw_topi (nI_add _ _) ?_
  refine lw_rd hlt hL (by omega) d_lw_law_176 ?_
  refine mw_aload3 d_lw_law_177 ?_
  refine mw_cS4 (d' := d - 1) lk_lw_law_lw_way d_lw_law_178 (Nat.le_of_ble_eq_true rfl) (la_way (w := w) (by omega) hn hg hI) (by omega) (Nat.le_of_ble_eq_true rfl) (by omega) (by omega) ?_ (fun _ _ q => q.elim)
  rintro v h' ⟨t, a, s, κ', n', r9, g', rfl, hO, rfl, e1, hI', hn1, hn2, hr9, hg', hval⟩
  show mw_W E m_lw_law d _ _ _ _ _ _ (Value.int _ :: []) _
  refine mw_istore5 d_lw_law_181 rfl (Nat.le_of_ble_eq_true rfl) ?_
  refine mw_aload2 d_lw_law_183 ?_
  refine mw_aload0 d_lw_law_184 ?_
  refine mw_iload4 d_lw_law_185 ?_
  refine mw_iconst (v := nI 1) d_lw_law_187 (by decide) ?_
  refine mw_iadd d_lw_law_188 ?_
  refine mw_topi (nI_add _ _) ?_
  refine lw_rd hlt hL (by omega) d_lw_law_189 ?_
  refine mw_aload0 d_lw_law_190 ?_
  refine mw_iload4 d_lw_law_191 ?_
  refine mw_iconst (v := nI 2) d_lw_law_193 (by decide) ?_
  refine mw_iadd d_lw_law_194 ?_
  refine mw_topi (nI_add _ _) ?_
  refine lw_rd hlt hL (by omega) d_lw_law_195 ?_
  refine mw_heq (lh_md (fun k h1 h2 => (hr9 k h2).trans (hr k h1 h2))) ?_
  refine mw_cV2 (d' := d - 1) lk_lw_law_md_way d_lw_law_196 (md_lt (by omega) (by decide)) md_gF (Nat.le_of_ble_eq_true rfl) (lm_way (w := w) (by omega) (by omega) hmI) (by omega) (Nat.le_of_ble_eq_true rfl) (Nat.zero_le _) (Nat.zero_le _) ?_ (fun _ _ q => q.elim)
  rintro v h' ⟨t2, b2, s2, μ', rfl, hO2, rfl, f1, f2, f3⟩
  show mw_W E m_lw_law d _ _ _ _ _ _ (Value.int _ :: []) _
  rw [hN] at hO2
  obtain ⟨z1, z2, z3⟩ := so_wayF w (lw_sX E (i + 1)) (lw_sX E (i + 2)) _ _ _ _ _ _ hO hO2
  subst z2
  refine mw_istore6 d_lw_law_199 rfl (Nat.le_of_ble_eq_true rfl) ?_
  refine mw_aload2 d_lw_law_201 ?_
  refine mw_cV0e (d' := d - 1) lk_lw_law_md_thrown d_lw_law_202 (md_lt (by omega) (by decide)) md_gF (Nat.le_of_ble_eq_true rfl) (ct_mdthrown (by omega)) (by omega) (Nat.le_of_ble_eq_true rfl) (Nat.zero_le _) (Nat.zero_le _) ?_
  refine mw_heq lh_ob ?_
  have hJ' : lw_J E κ' μ' s.2 n' (lw_mo E μ' r9) g' := ⟨hI', f3, f2.trans e1.symm, by omega, lw_mo_in, lw_mo_497.trans hg'⟩
  refine mw_iload5 d_lw_law_205 ?_
  refine mw_icmp_eq (tgt := 212) d_lw_law_207 (by decide) (fun hc => ?_) (fun hc => absurd (f1.trans z1.symm) hc)
  refine mw_iload5 d_lw_law_212 ?_
  refine mw_if_ne (tgt := 236) d_lw_law_214 (by decide) (fun hc2 => ?_) (fun hc2 => ?_)
  · skip
    refine mw_goto (tgt := 899) d_lw_law_236 (by decide) ?_
    exact hK κ' μ' s.2 n' _ g' hJ' _ _ _ _ (by omega) (by omega)
  · have et : t = nI 0 := hc2.trans nI_0.symm
    have ea := z3 et
    subst ea
    refine mw_aload3 d_lw_law_217 ?_
    refine mw_iconst (v := nI 0) d_lw_law_218 (by decide) ?_
    refine mw_lald (a := 497) (i := 0) d_lw_law_219 (show 497 < n' by omega) ((ob_at (by decide)).trans (lw_mo_497.trans hg')) (by decide) (by decide) (hval et) ?_
    refine mw_iload6 d_lw_law_220 ?_
    refine mw_if_eq (tgt := 229) d_lw_law_222 (by decide) (fun hc4 => ?_) (fun hc4 => ?_)
    · refine mw_lconst (v := 0) d_lw_law_229 rfl ?_
      refine mw_lcmp d_lw_law_230 ?_
      refine mw_if_eq (tgt := 236) d_lw_law_231 (by decide) (fun hc3 => ?_) (fun hc3 => absurd ((lc0 _ _).mpr (by rw [lw_b, if_pos hc4])) hc3)
      refine mw_goto (tgt := 899) d_lw_law_236 (by decide) ?_
      exact hK κ' μ' s.2 n' _ g' hJ' _ _ _ _ (by omega) (by omega)
    · refine mw_lconst (v := 1) d_lw_law_225 rfl ?_
      refine mw_goto (tgt := 230) d_lw_law_226 (by decide) ?_
      refine mw_lcmp d_lw_law_230 ?_
      refine mw_if_eq (tgt := 236) d_lw_law_231 (by decide) (fun hc3 => ?_) (fun hc3 => absurd ((lc0 _ _).mpr (by rw [lw_b, if_neg hc4])) hc3)
      refine mw_goto (tgt := 899) d_lw_law_236 (by decide) ?_
      exact hK κ' μ' s.2 n' _ g' hJ' _ _ _ _ (by omega) (by omega)
theorem lc_drop (hd : 10 ≤ d) (hlt : lw_sB E < mw_b E) (hL : lw_sL E < 2 ^ 31) (hi : i + 4 ≤ lw_sL E) (hJ : lw_J E κ μ w n r g) (hK : lw_K E d i) (hbc : lw_sL E - i ≤ bc) (hbs : 6 * (lw_sL E - i) ≤ bs) : mw_W E m_lw_law d lw_Qe mw_no bc bs 239 (lw_L E i none none) [] (ob_h E κ n r) := by
  obtain ⟨hI, hmI, hN, hn, hr, hg⟩ := hJ
  show mw_W E m_lw_law d lw_Qe mw_no bc bs 239 [some (.ref (lw_sB E)), some (.ref (mw_b E + 0)), some (.ref (mw_b E + 250)), some (.ref (mw_b E + 497)), some (.int (nI i)), none, none] [] (ob_h E κ n r)
  refine mw_aload1 d_lw_law_239 ?_
  refine mw_aload0 d_lw_law_240 ?_
  refine mw_iload4 d_lw_law_241 ?_
  refine mw_iconst (v := nI 1) d_lw_law_243 (by decide) ?_
  refine mw_iadd d_lw_law_244 ?_
  refine mw_topi (nI_add _ _) ?_
  refine lw_rd hlt hL (by omega) d_lw_law_245 ?_
  refine mw_aload0 d_lw_law_246 ?_
  refine mw_iload4 d_lw_law_247 ?_
  refine mw_iconst (v := nI 2) d_lw_law_249 (by decide) ?_
  refine mw_iadd d_lw_law_250 ?_
  refine mw_topi (nI_add _ _) ?_
  refine lw_rd hlt hL (by omega) d_lw_law_251 ?_
  refine mw_aload3 d_lw_law_252 ?_
  refine mw_cS4 (d' := d - 1) lk_lw_law_lw_drop d_lw_law_253 (Nat.le_of_ble_eq_true rfl) (la_drop (w := w) (by omega) hn hg hI) (by omega) (Nat.le_of_ble_eq_true rfl) (by omega) (by omega) ?_ (fun _ _ q => q.elim)
  rintro v h' ⟨t, a, s, κ', n', r9, g', rfl, hO, rfl, e1, hI', hn1, hn2, hr9, hg', hval⟩
  show mw_W E m_lw_law d _ _ _ _ _ _ (Value.int _ :: []) _
  refine mw_istore5 d_lw_law_256 rfl (Nat.le_of_ble_eq_true rfl) ?_
  refine mw_aload2 d_lw_law_258 ?_
  refine mw_aload0 d_lw_law_259 ?_
  refine mw_iload4 d_lw_law_260 ?_
  refine mw_iconst (v := nI 1) d_lw_law_262 (by decide) ?_
  refine mw_iadd d_lw_law_263 ?_
  refine mw_topi (nI_add _ _) ?_
  refine lw_rd hlt hL (by omega) d_lw_law_264 ?_
  refine mw_aload0 d_lw_law_265 ?_
  refine mw_iload4 d_lw_law_266 ?_
  refine mw_iconst (v := nI 2) d_lw_law_268 (by decide) ?_
  refine mw_iadd d_lw_law_269 ?_
  refine mw_topi (nI_add _ _) ?_
  refine lw_rd hlt hL (by omega) d_lw_law_270 ?_
  refine mw_heq (lh_md (fun k h1 h2 => (hr9 k h2).trans (hr k h1 h2))) ?_
  refine mw_cV2 (d' := d - 1) lk_lw_law_md_drop d_lw_law_271 (md_lt (by omega) (by decide)) md_gF (Nat.le_of_ble_eq_true rfl) (lm_drop (w := w) (by omega) (by omega) hmI) (by omega) (Nat.le_of_ble_eq_true rfl) (Nat.zero_le _) (Nat.zero_le _) ?_ (fun _ _ q => q.elim)
  rintro v h' ⟨t2, b2, s2, μ', rfl, hO2, rfl, f1, f2, f3⟩
  show mw_W E m_lw_law d _ _ _ _ _ _ (Value.int _ :: []) _
  rw [hN] at hO2
  obtain ⟨z1, z2, z3⟩ := so_dropF w (lw_sX E (i + 1)) (lw_sX E (i + 2)) _ _ _ _ _ _ hO hO2
  subst z2
  refine mw_istore6 d_lw_law_274 rfl (Nat.le_of_ble_eq_true rfl) ?_
  refine mw_aload2 d_lw_law_276 ?_
  refine mw_cV0e (d' := d - 1) lk_lw_law_md_thrown d_lw_law_277 (md_lt (by omega) (by decide)) md_gF (Nat.le_of_ble_eq_true rfl) (ct_mdthrown (by omega)) (by omega) (Nat.le_of_ble_eq_true rfl) (Nat.zero_le _) (Nat.zero_le _) ?_
  refine mw_heq lh_ob ?_
  have hJ' : lw_J E κ' μ' s.2 n' (lw_mo E μ' r9) g' := ⟨hI', f3, f2.trans e1.symm, by omega, lw_mo_in, lw_mo_497.trans hg'⟩
  refine mw_iload5 d_lw_law_280 ?_
  refine mw_icmp_eq (tgt := 287) d_lw_law_282 (by decide) (fun hc => ?_) (fun hc => absurd (f1.trans z1.symm) hc)
  refine mw_iload5 d_lw_law_287 ?_
  refine mw_if_ne (tgt := 311) d_lw_law_289 (by decide) (fun hc2 => ?_) (fun hc2 => ?_)
  · skip
    refine mw_goto (tgt := 899) d_lw_law_311 (by decide) ?_
    exact hK κ' μ' s.2 n' _ g' hJ' _ _ _ _ (by omega) (by omega)
  · have et : t = nI 0 := hc2.trans nI_0.symm
    have ea := z3 et
    subst ea
    refine mw_aload3 d_lw_law_292 ?_
    refine mw_iconst (v := nI 0) d_lw_law_293 (by decide) ?_
    refine mw_lald (a := 497) (i := 0) d_lw_law_294 (show 497 < n' by omega) ((ob_at (by decide)).trans (lw_mo_497.trans hg')) (by decide) (by decide) (hval et) ?_
    refine mw_iload6 d_lw_law_295 ?_
    refine mw_if_eq (tgt := 304) d_lw_law_297 (by decide) (fun hc4 => ?_) (fun hc4 => ?_)
    · refine mw_lconst (v := 0) d_lw_law_304 rfl ?_
      refine mw_lcmp d_lw_law_305 ?_
      refine mw_if_eq (tgt := 311) d_lw_law_306 (by decide) (fun hc3 => ?_) (fun hc3 => absurd ((lc0 _ _).mpr (by rw [lw_b, if_pos hc4])) hc3)
      refine mw_goto (tgt := 899) d_lw_law_311 (by decide) ?_
      exact hK κ' μ' s.2 n' _ g' hJ' _ _ _ _ (by omega) (by omega)
    · refine mw_lconst (v := 1) d_lw_law_300 rfl ?_
      refine mw_goto (tgt := 305) d_lw_law_301 (by decide) ?_
      refine mw_lcmp d_lw_law_305 ?_
      refine mw_if_eq (tgt := 311) d_lw_law_306 (by decide) (fun hc3 => ?_) (fun hc3 => absurd ((lc0 _ _).mpr (by rw [lw_b, if_neg hc4])) hc3)
      refine mw_goto (tgt := 899) d_lw_law_311 (by decide) ?_
      exact hK κ' μ' s.2 n' _ g' hJ' _ _ _ _ (by omega) (by omega)
theorem lc_reaches (hd : 10 ≤ d) (hlt : lw_sB E < mw_b E) (hL : lw_sL E < 2 ^ 31) (hi : i + 4 ≤ lw_sL E) (hJ : lw_J E κ μ w n r g) (hK : lw_K E d i) (hbc : lw_sL E - i ≤ bc) (hbs : 6 * (lw_sL E - i) ≤ bs) : mw_W E m_lw_law d lw_Qe mw_no bc bs 314 (lw_L E i none none) [] (ob_h E κ n r) := by
  obtain ⟨hI, hmI, hN, hn, hr, hg⟩ := hJ
  show mw_W E m_lw_law d lw_Qe mw_no bc bs 314 [some (.ref (lw_sB E)), some (.ref (mw_b E + 0)), some (.ref (mw_b E + 250)), some (.ref (mw_b E + 497)), some (.int (nI i)), none, none] [] (ob_h E κ n r)
  refine mw_aload1 d_lw_law_314 ?_
  refine mw_aload0 d_lw_law_315 ?_
  refine mw_iload4 d_lw_law_316 ?_
  refine mw_iconst (v := nI 1) d_lw_law_318 (by decide) ?_
  refine mw_iadd d_lw_law_319 ?_
  refine mw_topi (nI_add _ _) ?_
  refine lw_rd hlt hL (by omega) d_lw_law_320 ?_
  refine mw_aload0 d_lw_law_321 ?_
  refine mw_iload4 d_lw_law_322 ?_
  refine mw_iconst (v := nI 2) d_lw_law_324 (by decide) ?_
  refine mw_iadd d_lw_law_325 ?_
  refine mw_topi (nI_add _ _) ?_
  refine lw_rd hlt hL (by omega) d_lw_law_326 ?_
  refine mw_aload3 d_lw_law_327 ?_
  refine mw_cS4 (d' := d - 1) lk_lw_law_lw_reaches d_lw_law_328 (Nat.le_of_ble_eq_true rfl) (la_reaches (w := w) (by omega) hn hg hI) (by omega) (Nat.le_of_ble_eq_true rfl) (by omega) (by omega) ?_ (fun _ _ q => q.elim)
  rintro v h' ⟨t, a, s, κ', n', r9, g', rfl, hO, rfl, e1, hI', hn1, hn2, hr9, hg', hval⟩
  show mw_W E m_lw_law d _ _ _ _ _ _ (Value.int _ :: []) _
  refine mw_istore5 d_lw_law_331 rfl (Nat.le_of_ble_eq_true rfl) ?_
  refine mw_aload2 d_lw_law_333 ?_
  refine mw_aload0 d_lw_law_334 ?_
  refine mw_iload4 d_lw_law_335 ?_
  refine mw_iconst (v := nI 1) d_lw_law_337 (by decide) ?_
  refine mw_iadd d_lw_law_338 ?_
  refine mw_topi (nI_add _ _) ?_
  refine lw_rd hlt hL (by omega) d_lw_law_339 ?_
  refine mw_aload0 d_lw_law_340 ?_
  refine mw_iload4 d_lw_law_341 ?_
  refine mw_iconst (v := nI 2) d_lw_law_343 (by decide) ?_
  refine mw_iadd d_lw_law_344 ?_
  refine mw_topi (nI_add _ _) ?_
  refine lw_rd hlt hL (by omega) d_lw_law_345 ?_
  refine mw_heq (lh_md (fun k h1 h2 => (hr9 k h2).trans (hr k h1 h2))) ?_
  refine mw_cV2 (d' := d - 1) lk_lw_law_md_reaches d_lw_law_346 (md_lt (by omega) (by decide)) md_gF (Nat.le_of_ble_eq_true rfl) (lm_reaches (w := w) (by omega) (by omega) hmI) (by omega) (Nat.le_of_ble_eq_true rfl) (Nat.zero_le _) (Nat.zero_le _) ?_ (fun _ _ q => q.elim)
  rintro v h' ⟨t2, b2, s2, μ', rfl, hO2, rfl, f1, f2, f3⟩
  show mw_W E m_lw_law d _ _ _ _ _ _ (Value.int _ :: []) _
  rw [hN] at hO2
  obtain ⟨z1, z2, z3⟩ := so_reachesF w (lw_sX E (i + 1)) (lw_sX E (i + 2)) _ _ _ _ _ _ hO hO2
  subst z2
  refine mw_istore6 d_lw_law_349 rfl (Nat.le_of_ble_eq_true rfl) ?_
  refine mw_aload2 d_lw_law_351 ?_
  refine mw_cV0e (d' := d - 1) lk_lw_law_md_thrown d_lw_law_352 (md_lt (by omega) (by decide)) md_gF (Nat.le_of_ble_eq_true rfl) (ct_mdthrown (by omega)) (by omega) (Nat.le_of_ble_eq_true rfl) (Nat.zero_le _) (Nat.zero_le _) ?_
  refine mw_heq lh_ob ?_
  have hJ' : lw_J E κ' μ' s.2 n' (lw_mo E μ' r9) g' := ⟨hI', f3, f2.trans e1.symm, by omega, lw_mo_in, lw_mo_497.trans hg'⟩
  refine mw_iload5 d_lw_law_355 ?_
  refine mw_icmp_eq (tgt := 362) d_lw_law_357 (by decide) (fun hc => ?_) (fun hc => absurd (f1.trans z1.symm) hc)
  refine mw_iload5 d_lw_law_362 ?_
  refine mw_if_ne (tgt := 386) d_lw_law_364 (by decide) (fun hc2 => ?_) (fun hc2 => ?_)
  · skip
    refine mw_goto (tgt := 899) d_lw_law_386 (by decide) ?_
    exact hK κ' μ' s.2 n' _ g' hJ' _ _ _ _ (by omega) (by omega)
  · have et : t = nI 0 := hc2.trans nI_0.symm
    have ea := z3 et
    subst ea
    refine mw_aload3 d_lw_law_367 ?_
    refine mw_iconst (v := nI 0) d_lw_law_368 (by decide) ?_
    refine mw_lald (a := 497) (i := 0) d_lw_law_369 (show 497 < n' by omega) ((ob_at (by decide)).trans (lw_mo_497.trans hg')) (by decide) (by decide) (hval et) ?_
    refine mw_iload6 d_lw_law_370 ?_
    refine mw_if_eq (tgt := 379) d_lw_law_372 (by decide) (fun hc4 => ?_) (fun hc4 => ?_)
    · refine mw_lconst (v := 0) d_lw_law_379 rfl ?_
      refine mw_lcmp d_lw_law_380 ?_
      refine mw_if_eq (tgt := 386) d_lw_law_381 (by decide) (fun hc3 => ?_) (fun hc3 => absurd ((lc0 _ _).mpr (by rw [lw_b, if_pos hc4])) hc3)
      refine mw_goto (tgt := 899) d_lw_law_386 (by decide) ?_
      exact hK κ' μ' s.2 n' _ g' hJ' _ _ _ _ (by omega) (by omega)
    · refine mw_lconst (v := 1) d_lw_law_375 rfl ?_
      refine mw_goto (tgt := 380) d_lw_law_376 (by decide) ?_
      refine mw_lcmp d_lw_law_380 ?_
      refine mw_if_eq (tgt := 386) d_lw_law_381 (by decide) (fun hc3 => ?_) (fun hc3 => absurd ((lc0 _ _).mpr (by rw [lw_b, if_neg hc4])) hc3)
      refine mw_goto (tgt := 899) d_lw_law_386 (by decide) ?_
      exact hK κ' μ' s.2 n' _ g' hJ' _ _ _ _ (by omega) (by omega)
theorem lc_far (hd : 10 ≤ d) (hlt : lw_sB E < mw_b E) (hL : lw_sL E < 2 ^ 31) (hi : i + 4 ≤ lw_sL E) (hJ : lw_J E κ μ w n r g) (hK : lw_K E d i) (hbc : lw_sL E - i ≤ bc) (hbs : 6 * (lw_sL E - i) ≤ bs) : mw_W E m_lw_law d lw_Qe mw_no bc bs 389 (lw_L E i none none) [] (ob_h E κ n r) := by
  obtain ⟨hI, hmI, hN, hn, hr, hg⟩ := hJ
  show mw_W E m_lw_law d lw_Qe mw_no bc bs 389 [some (.ref (lw_sB E)), some (.ref (mw_b E + 0)), some (.ref (mw_b E + 250)), some (.ref (mw_b E + 497)), some (.int (nI i)), none, none] [] (ob_h E κ n r)
  refine mw_aload1 d_lw_law_389 ?_
  refine mw_aload0 d_lw_law_390 ?_
  refine mw_iload4 d_lw_law_391 ?_
  refine mw_iconst (v := nI 1) d_lw_law_393 (by decide) ?_
  refine mw_iadd d_lw_law_394 ?_
  refine mw_topi (nI_add _ _) ?_
  refine lw_rd hlt hL (by omega) d_lw_law_395 ?_
  refine mw_aload0 d_lw_law_396 ?_
  refine mw_iload4 d_lw_law_397 ?_
  refine mw_iconst (v := nI 2) d_lw_law_399 (by decide) ?_
  refine mw_iadd d_lw_law_400 ?_
  refine mw_topi (nI_add _ _) ?_
  refine lw_rd hlt hL (by omega) d_lw_law_401 ?_
  refine mw_aload3 d_lw_law_402 ?_
  refine mw_cS4 (d' := d - 1) lk_lw_law_lw_far d_lw_law_403 (Nat.le_of_ble_eq_true rfl) (la_far (w := w) (by omega) hn hg hI) (by omega) (Nat.le_of_ble_eq_true rfl) (by omega) (by omega) ?_ (fun _ _ q => q.elim)
  rintro v h' ⟨t, a, s, κ', n', r9, g', rfl, hO, rfl, e1, hI', hn1, hn2, hr9, hg', hval⟩
  show mw_W E m_lw_law d _ _ _ _ _ _ (Value.int _ :: []) _
  refine mw_istore5 d_lw_law_406 rfl (Nat.le_of_ble_eq_true rfl) ?_
  refine mw_aload2 d_lw_law_408 ?_
  refine mw_aload0 d_lw_law_409 ?_
  refine mw_iload4 d_lw_law_410 ?_
  refine mw_iconst (v := nI 1) d_lw_law_412 (by decide) ?_
  refine mw_iadd d_lw_law_413 ?_
  refine mw_topi (nI_add _ _) ?_
  refine lw_rd hlt hL (by omega) d_lw_law_414 ?_
  refine mw_aload0 d_lw_law_415 ?_
  refine mw_iload4 d_lw_law_416 ?_
  refine mw_iconst (v := nI 2) d_lw_law_418 (by decide) ?_
  refine mw_iadd d_lw_law_419 ?_
  refine mw_topi (nI_add _ _) ?_
  refine lw_rd hlt hL (by omega) d_lw_law_420 ?_
  refine mw_heq (lh_md (fun k h1 h2 => (hr9 k h2).trans (hr k h1 h2))) ?_
  refine mw_cV2 (d' := d - 1) lk_lw_law_md_far d_lw_law_421 (md_lt (by omega) (by decide)) md_gF (Nat.le_of_ble_eq_true rfl) (lm_far (w := w) (by omega) (by omega) hmI) (by omega) (Nat.le_of_ble_eq_true rfl) (Nat.zero_le _) (Nat.zero_le _) ?_ (fun _ _ q => q.elim)
  rintro v h' ⟨t2, b2, s2, μ', rfl, hO2, rfl, f1, f2, f3⟩
  show mw_W E m_lw_law d _ _ _ _ _ _ (Value.int _ :: []) _
  rw [hN] at hO2
  obtain ⟨z1, z2, z3⟩ := so_farF w (lw_sX E (i + 1)) (lw_sX E (i + 2)) _ _ _ _ _ _ hO hO2
  subst z2
  refine mw_istore6 d_lw_law_424 rfl (Nat.le_of_ble_eq_true rfl) ?_
  refine mw_aload2 d_lw_law_426 ?_
  refine mw_cV0e (d' := d - 1) lk_lw_law_md_thrown d_lw_law_427 (md_lt (by omega) (by decide)) md_gF (Nat.le_of_ble_eq_true rfl) (ct_mdthrown (by omega)) (by omega) (Nat.le_of_ble_eq_true rfl) (Nat.zero_le _) (Nat.zero_le _) ?_
  refine mw_heq lh_ob ?_
  have hJ' : lw_J E κ' μ' s.2 n' (lw_mo E μ' r9) g' := ⟨hI', f3, f2.trans e1.symm, by omega, lw_mo_in, lw_mo_497.trans hg'⟩
  refine mw_iload5 d_lw_law_430 ?_
  refine mw_icmp_eq (tgt := 437) d_lw_law_432 (by decide) (fun hc => ?_) (fun hc => absurd (f1.trans z1.symm) hc)
  refine mw_iload5 d_lw_law_437 ?_
  refine mw_if_ne (tgt := 454) d_lw_law_439 (by decide) (fun hc2 => ?_) (fun hc2 => ?_)
  · skip
    refine mw_goto (tgt := 899) d_lw_law_454 (by decide) ?_
    exact hK κ' μ' s.2 n' _ g' hJ' _ _ _ _ (by omega) (by omega)
  · have et : t = nI 0 := hc2.trans nI_0.symm
    have ea := z3 et
    subst ea
    refine mw_aload3 d_lw_law_442 ?_
    refine mw_iconst (v := nI 0) d_lw_law_443 (by decide) ?_
    refine mw_lald (a := 497) (i := 0) d_lw_law_444 (show 497 < n' by omega) ((ob_at (by decide)).trans (lw_mo_497.trans hg')) (by decide) (by decide) (hval et) ?_
    refine mw_iload6 d_lw_law_445 ?_
    refine mw_i2l d_lw_law_447 ?_
    refine mw_lcmp d_lw_law_448 ?_
    refine mw_if_eq (tgt := 454) d_lw_law_449 (by decide) (fun hc3 => ?_) (fun hc3 => absurd ((lc0 _ _).mpr rfl) hc3)
    refine mw_goto (tgt := 899) d_lw_law_454 (by decide) ?_
    exact hK κ' μ' s.2 n' _ g' hJ' _ _ _ _ (by omega) (by omega)
theorem lc_group (hd : 10 ≤ d) (hlt : lw_sB E < mw_b E) (hL : lw_sL E < 2 ^ 31) (hi : i + 4 ≤ lw_sL E) (hJ : lw_J E κ μ w n r g) (hK : lw_K E d i) (hbc : lw_sL E - i ≤ bc) (hbs : 6 * (lw_sL E - i) ≤ bs) : mw_W E m_lw_law d lw_Qe mw_no bc bs 470 (lw_L E i none none) [] (ob_h E κ n r) := by
  obtain ⟨hI, hmI, hN, hn, hr, hg⟩ := hJ
  show mw_W E m_lw_law d lw_Qe mw_no bc bs 470 [some (.ref (lw_sB E)), some (.ref (mw_b E + 0)), some (.ref (mw_b E + 250)), some (.ref (mw_b E + 497)), some (.int (nI i)), none, none] [] (ob_h E κ n r)
  refine mw_aload1 d_lw_law_470 ?_
  refine mw_aload0 d_lw_law_471 ?_
  refine mw_iload4 d_lw_law_472 ?_
  refine mw_iconst (v := nI 1) d_lw_law_474 (by decide) ?_
  refine mw_iadd d_lw_law_475 ?_
  refine mw_topi (nI_add _ _) ?_
  refine lw_rd hlt hL (by omega) d_lw_law_476 ?_
  refine mw_aload3 d_lw_law_477 ?_
  refine mw_cS3 (d' := d - 1) lk_lw_law_lw_group d_lw_law_478 (Nat.le_of_ble_eq_true rfl) (la_group (w := w) (by omega) hn hg hI) (by omega) (Nat.le_of_ble_eq_true rfl) (by omega) (by omega) ?_ (fun _ _ q => q.elim)
  rintro v h' ⟨t, a, s, κ', n', r9, g', rfl, hO, rfl, e1, hI', hn1, hn2, hr9, hg', hval⟩
  show mw_W E m_lw_law d _ _ _ _ _ _ (Value.int _ :: []) _
  refine mw_istore5 d_lw_law_481 rfl (Nat.le_of_ble_eq_true rfl) ?_
  refine mw_aload2 d_lw_law_483 ?_
  refine mw_aload0 d_lw_law_484 ?_
  refine mw_iload4 d_lw_law_485 ?_
  refine mw_iconst (v := nI 1) d_lw_law_487 (by decide) ?_
  refine mw_iadd d_lw_law_488 ?_
  refine mw_topi (nI_add _ _) ?_
  refine lw_rd hlt hL (by omega) d_lw_law_489 ?_
  refine mw_heq (lh_md (fun k h1 h2 => (hr9 k h2).trans (hr k h1 h2))) ?_
  refine mw_cV1 (d' := d - 1) lk_lw_law_md_group d_lw_law_490 (md_lt (by omega) (by decide)) md_gF (Nat.le_of_ble_eq_true rfl) (lm_group (w := w) (by omega) (by omega) hmI) (by omega) (Nat.le_of_ble_eq_true rfl) (Nat.zero_le _) (Nat.zero_le _) ?_ (fun _ _ q => q.elim)
  rintro v h' ⟨t2, b2, s2, μ', rfl, hO2, rfl, f1, f2, f3⟩
  show mw_W E m_lw_law d _ _ _ _ _ _ (Value.int _ :: []) _
  rw [hN] at hO2
  obtain ⟨z1, z2, z3⟩ := so_groupF w (lw_sX E (i + 1)) _ _ _ _ _ _ hO hO2
  subst z2
  refine mw_istore6 d_lw_law_493 rfl (Nat.le_of_ble_eq_true rfl) ?_
  refine mw_aload2 d_lw_law_495 ?_
  refine mw_cV0e (d' := d - 1) lk_lw_law_md_thrown d_lw_law_496 (md_lt (by omega) (by decide)) md_gF (Nat.le_of_ble_eq_true rfl) (ct_mdthrown (by omega)) (by omega) (Nat.le_of_ble_eq_true rfl) (Nat.zero_le _) (Nat.zero_le _) ?_
  refine mw_heq lh_ob ?_
  have hJ' : lw_J E κ' μ' s.2 n' (lw_mo E μ' r9) g' := ⟨hI', f3, f2.trans e1.symm, by omega, lw_mo_in, lw_mo_497.trans hg'⟩
  refine mw_iload5 d_lw_law_499 ?_
  refine mw_icmp_eq (tgt := 506) d_lw_law_501 (by decide) (fun hc => ?_) (fun hc => absurd (f1.trans z1.symm) hc)
  refine mw_iload5 d_lw_law_506 ?_
  refine mw_if_ne (tgt := 523) d_lw_law_508 (by decide) (fun hc2 => ?_) (fun hc2 => ?_)
  · skip
    refine mw_goto (tgt := 899) d_lw_law_523 (by decide) ?_
    exact hK κ' μ' s.2 n' _ g' hJ' _ _ _ _ (by omega) (by omega)
  · have et : t = nI 0 := hc2.trans nI_0.symm
    have ea := z3 et
    subst ea
    refine mw_aload3 d_lw_law_511 ?_
    refine mw_iconst (v := nI 0) d_lw_law_512 (by decide) ?_
    refine mw_lald (a := 497) (i := 0) d_lw_law_513 (show 497 < n' by omega) ((ob_at (by decide)).trans (lw_mo_497.trans hg')) (by decide) (by decide) (hval et) ?_
    refine mw_iload6 d_lw_law_514 ?_
    refine mw_i2l d_lw_law_516 ?_
    refine mw_lcmp d_lw_law_517 ?_
    refine mw_if_eq (tgt := 523) d_lw_law_518 (by decide) (fun hc3 => ?_) (fun hc3 => absurd ((lc0 _ _).mpr rfl) hc3)
    refine mw_goto (tgt := 899) d_lw_law_523 (by decide) ?_
    exact hK κ' μ' s.2 n' _ g' hJ' _ _ _ _ (by omega) (by omega)
theorem lc_order (hd : 10 ≤ d) (hlt : lw_sB E < mw_b E) (hL : lw_sL E < 2 ^ 31) (hi : i + 4 ≤ lw_sL E) (hJ : lw_J E κ μ w n r g) (hK : lw_K E d i) (hbc : lw_sL E - i ≤ bc) (hbs : 6 * (lw_sL E - i) ≤ bs) : mw_W E m_lw_law d lw_Qe mw_no bc bs 539 (lw_L E i none none) [] (ob_h E κ n r) := by
  obtain ⟨hI, hmI, hN, hn, hr, hg⟩ := hJ
  show mw_W E m_lw_law d lw_Qe mw_no bc bs 539 [some (.ref (lw_sB E)), some (.ref (mw_b E + 0)), some (.ref (mw_b E + 250)), some (.ref (mw_b E + 497)), some (.int (nI i)), none, none] [] (ob_h E κ n r)
  refine mw_aload1 d_lw_law_539 ?_
  refine mw_aload0 d_lw_law_540 ?_
  refine mw_iload4 d_lw_law_541 ?_
  refine mw_iconst (v := nI 1) d_lw_law_543 (by decide) ?_
  refine mw_iadd d_lw_law_544 ?_
  refine mw_topi (nI_add _ _) ?_
  refine lw_rd hlt hL (by omega) d_lw_law_545 ?_
  refine mw_aload3 d_lw_law_546 ?_
  refine mw_cS3 (d' := d - 1) lk_lw_law_lw_order d_lw_law_547 (Nat.le_of_ble_eq_true rfl) (la_order (w := w) (by omega) hn hg hI) (by omega) (Nat.le_of_ble_eq_true rfl) (by omega) (by omega) ?_ (fun _ _ q => q.elim)
  rintro v h' ⟨t, a, s, κ', n', r9, g', rfl, hO, rfl, e1, hI', hn1, hn2, hr9, hg', hval⟩
  show mw_W E m_lw_law d _ _ _ _ _ _ (Value.int _ :: []) _
  refine mw_istore5 d_lw_law_550 rfl (Nat.le_of_ble_eq_true rfl) ?_
  refine mw_aload2 d_lw_law_552 ?_
  refine mw_aload0 d_lw_law_553 ?_
  refine mw_iload4 d_lw_law_554 ?_
  refine mw_iconst (v := nI 1) d_lw_law_556 (by decide) ?_
  refine mw_iadd d_lw_law_557 ?_
  refine mw_topi (nI_add _ _) ?_
  refine lw_rd hlt hL (by omega) d_lw_law_558 ?_
  refine mw_heq (lh_md (fun k h1 h2 => (hr9 k h2).trans (hr k h1 h2))) ?_
  refine mw_cV1 (d' := d - 1) lk_lw_law_md_order d_lw_law_559 (md_lt (by omega) (by decide)) md_gF (Nat.le_of_ble_eq_true rfl) (lm_order (w := w) (by omega) (by omega) hmI) (by omega) (Nat.le_of_ble_eq_true rfl) (Nat.zero_le _) (Nat.zero_le _) ?_ (fun _ _ q => q.elim)
  rintro v h' ⟨t2, b2, s2, μ', rfl, hO2, rfl, f1, f2, f3⟩
  show mw_W E m_lw_law d _ _ _ _ _ _ (Value.int _ :: []) _
  rw [hN] at hO2
  obtain ⟨z1, z2, z3⟩ := so_orderF w (lw_sX E (i + 1)) _ _ _ _ _ _ hO hO2
  subst z2
  refine mw_istore6 d_lw_law_562 rfl (Nat.le_of_ble_eq_true rfl) ?_
  refine mw_aload2 d_lw_law_564 ?_
  refine mw_cV0e (d' := d - 1) lk_lw_law_md_thrown d_lw_law_565 (md_lt (by omega) (by decide)) md_gF (Nat.le_of_ble_eq_true rfl) (ct_mdthrown (by omega)) (by omega) (Nat.le_of_ble_eq_true rfl) (Nat.zero_le _) (Nat.zero_le _) ?_
  refine mw_heq lh_ob ?_
  have hJ' : lw_J E κ' μ' s.2 n' (lw_mo E μ' r9) g' := ⟨hI', f3, f2.trans e1.symm, by omega, lw_mo_in, lw_mo_497.trans hg'⟩
  refine mw_iload5 d_lw_law_568 ?_
  refine mw_icmp_eq (tgt := 575) d_lw_law_570 (by decide) (fun hc => ?_) (fun hc => absurd (f1.trans z1.symm) hc)
  refine mw_iload5 d_lw_law_575 ?_
  refine mw_if_ne (tgt := 592) d_lw_law_577 (by decide) (fun hc2 => ?_) (fun hc2 => ?_)
  · skip
    refine mw_goto (tgt := 899) d_lw_law_592 (by decide) ?_
    exact hK κ' μ' s.2 n' _ g' hJ' _ _ _ _ (by omega) (by omega)
  · have et : t = nI 0 := hc2.trans nI_0.symm
    have ea := z3 et
    subst ea
    refine mw_aload3 d_lw_law_580 ?_
    refine mw_iconst (v := nI 0) d_lw_law_581 (by decide) ?_
    refine mw_lald (a := 497) (i := 0) d_lw_law_582 (show 497 < n' by omega) ((ob_at (by decide)).trans (lw_mo_497.trans hg')) (by decide) (by decide) (hval et) ?_
    refine mw_iload6 d_lw_law_583 ?_
    refine mw_i2l d_lw_law_585 ?_
    refine mw_lcmp d_lw_law_586 ?_
    refine mw_if_eq (tgt := 592) d_lw_law_587 (by decide) (fun hc3 => ?_) (fun hc3 => absurd ((lc0 _ _).mpr rfl) hc3)
    refine mw_goto (tgt := 899) d_lw_law_592 (by decide) ?_
    exact hK κ' μ' s.2 n' _ g' hJ' _ _ _ _ (by omega) (by omega)
theorem lc_level (hd : 10 ≤ d) (hlt : lw_sB E < mw_b E) (hL : lw_sL E < 2 ^ 31) (hi : i + 4 ≤ lw_sL E) (hJ : lw_J E κ μ w n r g) (hK : lw_K E d i) (hbc : lw_sL E - i ≤ bc) (hbs : 6 * (lw_sL E - i) ≤ bs) : mw_W E m_lw_law d lw_Qe mw_no bc bs 595 (lw_L E i none none) [] (ob_h E κ n r) := by
  obtain ⟨hI, hmI, hN, hn, hr, hg⟩ := hJ
  show mw_W E m_lw_law d lw_Qe mw_no bc bs 595 [some (.ref (lw_sB E)), some (.ref (mw_b E + 0)), some (.ref (mw_b E + 250)), some (.ref (mw_b E + 497)), some (.int (nI i)), none, none] [] (ob_h E κ n r)
  refine mw_aload1 d_lw_law_595 ?_
  refine mw_aload0 d_lw_law_596 ?_
  refine mw_iload4 d_lw_law_597 ?_
  refine mw_iconst (v := nI 1) d_lw_law_599 (by decide) ?_
  refine mw_iadd d_lw_law_600 ?_
  refine mw_topi (nI_add _ _) ?_
  refine lw_rd hlt hL (by omega) d_lw_law_601 ?_
  refine mw_aload3 d_lw_law_602 ?_
  refine mw_cS3 (d' := d - 1) lk_lw_law_lw_level d_lw_law_603 (Nat.le_of_ble_eq_true rfl) (la_level (w := w) (by omega) hn hg hI) (by omega) (Nat.le_of_ble_eq_true rfl) (by omega) (by omega) ?_ (fun _ _ q => q.elim)
  rintro v h' ⟨t, a, s, κ', n', r9, g', rfl, hO, rfl, e1, hI', hn1, hn2, hr9, hg', hval⟩
  show mw_W E m_lw_law d _ _ _ _ _ _ (Value.int _ :: []) _
  refine mw_istore5 d_lw_law_606 rfl (Nat.le_of_ble_eq_true rfl) ?_
  refine mw_aload2 d_lw_law_608 ?_
  refine mw_aload0 d_lw_law_609 ?_
  refine mw_iload4 d_lw_law_610 ?_
  refine mw_iconst (v := nI 1) d_lw_law_612 (by decide) ?_
  refine mw_iadd d_lw_law_613 ?_
  refine mw_topi (nI_add _ _) ?_
  refine lw_rd hlt hL (by omega) d_lw_law_614 ?_
  refine mw_heq (lh_md (fun k h1 h2 => (hr9 k h2).trans (hr k h1 h2))) ?_
  refine mw_cV1 (d' := d - 1) lk_lw_law_md_level d_lw_law_615 (md_lt (by omega) (by decide)) md_gF (Nat.le_of_ble_eq_true rfl) (lm_level (w := w) (by omega) (by omega) hmI) (by omega) (Nat.le_of_ble_eq_true rfl) (Nat.zero_le _) (Nat.zero_le _) ?_ (fun _ _ q => q.elim)
  rintro v h' ⟨t2, b2, s2, μ', rfl, hO2, rfl, f1, f2, f3⟩
  show mw_W E m_lw_law d _ _ _ _ _ _ (Value.int _ :: []) _
  rw [hN] at hO2
  obtain ⟨z1, z2, z3⟩ := so_levelF w (lw_sX E (i + 1)) _ _ _ _ _ _ hO hO2
  subst z2
  refine mw_istore6 d_lw_law_618 rfl (Nat.le_of_ble_eq_true rfl) ?_
  refine mw_aload2 d_lw_law_620 ?_
  refine mw_cV0e (d' := d - 1) lk_lw_law_md_thrown d_lw_law_621 (md_lt (by omega) (by decide)) md_gF (Nat.le_of_ble_eq_true rfl) (ct_mdthrown (by omega)) (by omega) (Nat.le_of_ble_eq_true rfl) (Nat.zero_le _) (Nat.zero_le _) ?_
  refine mw_heq lh_ob ?_
  have hJ' : lw_J E κ' μ' s.2 n' (lw_mo E μ' r9) g' := ⟨hI', f3, f2.trans e1.symm, by omega, lw_mo_in, lw_mo_497.trans hg'⟩
  refine mw_iload5 d_lw_law_624 ?_
  refine mw_icmp_eq (tgt := 631) d_lw_law_626 (by decide) (fun hc => ?_) (fun hc => absurd (f1.trans z1.symm) hc)
  refine mw_iload5 d_lw_law_631 ?_
  refine mw_if_ne (tgt := 648) d_lw_law_633 (by decide) (fun hc2 => ?_) (fun hc2 => ?_)
  · skip
    refine mw_goto (tgt := 899) d_lw_law_648 (by decide) ?_
    exact hK κ' μ' s.2 n' _ g' hJ' _ _ _ _ (by omega) (by omega)
  · have et : t = nI 0 := hc2.trans nI_0.symm
    have ea := z3 et
    subst ea
    refine mw_aload3 d_lw_law_636 ?_
    refine mw_iconst (v := nI 0) d_lw_law_637 (by decide) ?_
    refine mw_lald (a := 497) (i := 0) d_lw_law_638 (show 497 < n' by omega) ((ob_at (by decide)).trans (lw_mo_497.trans hg')) (by decide) (by decide) (hval et) ?_
    refine mw_iload6 d_lw_law_639 ?_
    refine mw_i2l d_lw_law_641 ?_
    refine mw_lcmp d_lw_law_642 ?_
    refine mw_if_eq (tgt := 648) d_lw_law_643 (by decide) (fun hc3 => ?_) (fun hc3 => absurd ((lc0 _ _).mpr rfl) hc3)
    refine mw_goto (tgt := 899) d_lw_law_648 (by decide) ?_
    exact hK κ' μ' s.2 n' _ g' hJ' _ _ _ _ (by omega) (by omega)
theorem lc_paths (hd : 10 ≤ d) (hlt : lw_sB E < mw_b E) (hL : lw_sL E < 2 ^ 31) (hi : i + 4 ≤ lw_sL E) (hJ : lw_J E κ μ w n r g) (hK : lw_K E d i) (hbc : lw_sL E - i ≤ bc) (hbs : 6 * (lw_sL E - i) ≤ bs) : mw_W E m_lw_law d lw_Qe mw_no bc bs 651 (lw_L E i none none) [] (ob_h E κ n r) := by
  obtain ⟨hI, hmI, hN, hn, hr, hg⟩ := hJ
  show mw_W E m_lw_law d lw_Qe mw_no bc bs 651 [some (.ref (lw_sB E)), some (.ref (mw_b E + 0)), some (.ref (mw_b E + 250)), some (.ref (mw_b E + 497)), some (.int (nI i)), none, none] [] (ob_h E κ n r)
  refine mw_aload1 d_lw_law_651 ?_
  refine mw_aload0 d_lw_law_652 ?_
  refine mw_iload4 d_lw_law_653 ?_
  refine mw_iconst (v := nI 1) d_lw_law_655 (by decide) ?_
  refine mw_iadd d_lw_law_656 ?_
  refine mw_topi (nI_add _ _) ?_
  refine lw_rd hlt hL (by omega) d_lw_law_657 ?_
  refine mw_aload0 d_lw_law_658 ?_
  refine mw_iload4 d_lw_law_659 ?_
  refine mw_iconst (v := nI 2) d_lw_law_661 (by decide) ?_
  refine mw_iadd d_lw_law_662 ?_
  refine mw_topi (nI_add _ _) ?_
  refine lw_rd hlt hL (by omega) d_lw_law_663 ?_
  refine mw_aload3 d_lw_law_664 ?_
  refine mw_cS4 (d' := d - 1) lk_lw_law_lw_paths d_lw_law_665 (Nat.le_of_ble_eq_true rfl) (la_paths (w := w) (by omega) hn hg hI) (by omega) (Nat.le_of_ble_eq_true rfl) (by omega) (by omega) ?_ (fun _ _ q => q.elim)
  rintro v h' ⟨t, a, s, κ', n', r9, g', rfl, hO, rfl, e1, hI', hn1, hn2, hr9, hg', hval⟩
  show mw_W E m_lw_law d _ _ _ _ _ _ (Value.int _ :: []) _
  refine mw_istore5 d_lw_law_668 rfl (Nat.le_of_ble_eq_true rfl) ?_
  refine mw_aload2 d_lw_law_670 ?_
  refine mw_aload0 d_lw_law_671 ?_
  refine mw_iload4 d_lw_law_672 ?_
  refine mw_iconst (v := nI 1) d_lw_law_674 (by decide) ?_
  refine mw_iadd d_lw_law_675 ?_
  refine mw_topi (nI_add _ _) ?_
  refine lw_rd hlt hL (by omega) d_lw_law_676 ?_
  refine mw_aload0 d_lw_law_677 ?_
  refine mw_iload4 d_lw_law_678 ?_
  refine mw_iconst (v := nI 2) d_lw_law_680 (by decide) ?_
  refine mw_iadd d_lw_law_681 ?_
  refine mw_topi (nI_add _ _) ?_
  refine lw_rd hlt hL (by omega) d_lw_law_682 ?_
  refine mw_heq (lh_md (fun k h1 h2 => (hr9 k h2).trans (hr k h1 h2))) ?_
  refine mw_cV2 (d' := d - 1) lk_lw_law_md_paths d_lw_law_683 (md_lt (by omega) (by decide)) md_gF (Nat.le_of_ble_eq_true rfl) (lm_paths (w := w) (by omega) (by omega) hmI) (by omega) (Nat.le_of_ble_eq_true rfl) (Nat.zero_le _) (Nat.zero_le _) ?_ (fun _ _ q => q.elim)
  rintro v h' ⟨t2, b2, s2, μ', rfl, hO2, rfl, f1, f2, f3⟩
  show mw_W E m_lw_law d _ _ _ _ _ _ (Value.int _ :: []) _
  rw [hN] at hO2
  obtain ⟨z1, z2, z3⟩ := so_pathsF w (lw_sX E (i + 1)) (lw_sX E (i + 2)) _ _ _ _ _ _ hO hO2
  subst z2
  refine mw_istore6 d_lw_law_686 rfl (Nat.le_of_ble_eq_true rfl) ?_
  refine mw_aload2 d_lw_law_688 ?_
  refine mw_cV0e (d' := d - 1) lk_lw_law_md_thrown d_lw_law_689 (md_lt (by omega) (by decide)) md_gF (Nat.le_of_ble_eq_true rfl) (ct_mdthrown (by omega)) (by omega) (Nat.le_of_ble_eq_true rfl) (Nat.zero_le _) (Nat.zero_le _) ?_
  refine mw_heq lh_ob ?_
  have hJ' : lw_J E κ' μ' s.2 n' (lw_mo E μ' r9) g' := ⟨hI', f3, f2.trans e1.symm, by omega, lw_mo_in, lw_mo_497.trans hg'⟩
  refine mw_iload5 d_lw_law_692 ?_
  refine mw_icmp_eq (tgt := 699) d_lw_law_694 (by decide) (fun hc => ?_) (fun hc => absurd (f1.trans z1.symm) hc)
  refine mw_iload5 d_lw_law_699 ?_
  refine mw_if_ne (tgt := 716) d_lw_law_701 (by decide) (fun hc2 => ?_) (fun hc2 => ?_)
  · skip
    refine mw_goto (tgt := 899) d_lw_law_716 (by decide) ?_
    exact hK κ' μ' s.2 n' _ g' hJ' _ _ _ _ (by omega) (by omega)
  · have et : t = nI 0 := hc2.trans nI_0.symm
    have ea := z3 et
    subst ea
    refine mw_aload3 d_lw_law_704 ?_
    refine mw_iconst (v := nI 0) d_lw_law_705 (by decide) ?_
    refine mw_lald (a := 497) (i := 0) d_lw_law_706 (show 497 < n' by omega) ((ob_at (by decide)).trans (lw_mo_497.trans hg')) (by decide) (by decide) (hval et) ?_
    refine mw_iload6 d_lw_law_707 ?_
    refine mw_i2l d_lw_law_709 ?_
    refine mw_lcmp d_lw_law_710 ?_
    refine mw_if_eq (tgt := 716) d_lw_law_711 (by decide) (fun hc3 => ?_) (fun hc3 => absurd ((lc0 _ _).mpr rfl) hc3)
    refine mw_goto (tgt := 899) d_lw_law_716 (by decide) ?_
    exact hK κ' μ' s.2 n' _ g' hJ' _ _ _ _ (by omega) (by omega)
theorem lc_gate (hd : 10 ≤ d) (hlt : lw_sB E < mw_b E) (hL : lw_sL E < 2 ^ 31) (hi : i + 4 ≤ lw_sL E) (hJ : lw_J E κ μ w n r g) (hK : lw_K E d i) (hbc : lw_sL E - i ≤ bc) (hbs : 6 * (lw_sL E - i) ≤ bs) : mw_W E m_lw_law d lw_Qe mw_no bc bs 719 (lw_L E i none none) [] (ob_h E κ n r) := by
  obtain ⟨hI, hmI, hN, hn, hr, hg⟩ := hJ
  show mw_W E m_lw_law d lw_Qe mw_no bc bs 719 [some (.ref (lw_sB E)), some (.ref (mw_b E + 0)), some (.ref (mw_b E + 250)), some (.ref (mw_b E + 497)), some (.int (nI i)), none, none] [] (ob_h E κ n r)
  refine mw_aload1 d_lw_law_719 ?_
  refine mw_aload0 d_lw_law_720 ?_
  refine mw_iload4 d_lw_law_721 ?_
  refine mw_iconst (v := nI 1) d_lw_law_723 (by decide) ?_
  refine mw_iadd d_lw_law_724 ?_
  refine mw_topi (nI_add _ _) ?_
  refine lw_rd hlt hL (by omega) d_lw_law_725 ?_
  refine mw_aload0 d_lw_law_726 ?_
  refine mw_iload4 d_lw_law_727 ?_
  refine mw_iconst (v := nI 2) d_lw_law_729 (by decide) ?_
  refine mw_iadd d_lw_law_730 ?_
  refine mw_topi (nI_add _ _) ?_
  refine lw_rd hlt hL (by omega) d_lw_law_731 ?_
  refine mw_aload3 d_lw_law_732 ?_
  refine mw_cS4 (d' := d - 1) lk_lw_law_lw_gate d_lw_law_733 (Nat.le_of_ble_eq_true rfl) (la_gate (w := w) (by omega) hn hg hI) (by omega) (Nat.le_of_ble_eq_true rfl) (by omega) (by omega) ?_ (fun _ _ q => q.elim)
  rintro v h' ⟨t, a, s, κ', n', r9, g', rfl, hO, rfl, e1, hI', hn1, hn2, hr9, hg', hval⟩
  show mw_W E m_lw_law d _ _ _ _ _ _ (Value.int _ :: []) _
  refine mw_istore5 d_lw_law_736 rfl (Nat.le_of_ble_eq_true rfl) ?_
  refine mw_aload2 d_lw_law_738 ?_
  refine mw_aload0 d_lw_law_739 ?_
  refine mw_iload4 d_lw_law_740 ?_
  refine mw_iconst (v := nI 1) d_lw_law_742 (by decide) ?_
  refine mw_iadd d_lw_law_743 ?_
  refine mw_topi (nI_add _ _) ?_
  refine lw_rd hlt hL (by omega) d_lw_law_744 ?_
  refine mw_aload0 d_lw_law_745 ?_
  refine mw_iload4 d_lw_law_746 ?_
  refine mw_iconst (v := nI 2) d_lw_law_748 (by decide) ?_
  refine mw_iadd d_lw_law_749 ?_
  refine mw_topi (nI_add _ _) ?_
  refine lw_rd hlt hL (by omega) d_lw_law_750 ?_
  refine mw_heq (lh_md (fun k h1 h2 => (hr9 k h2).trans (hr k h1 h2))) ?_
  refine mw_cV2 (d' := d - 1) lk_lw_law_md_gate d_lw_law_751 (md_lt (by omega) (by decide)) md_gF (Nat.le_of_ble_eq_true rfl) (lm_gate (w := w) (by omega) (by omega) hmI) (by omega) (Nat.le_of_ble_eq_true rfl) (Nat.zero_le _) (Nat.zero_le _) ?_ (fun _ _ q => q.elim)
  rintro v h' ⟨t2, b2, s2, μ', rfl, hO2, rfl, f1, f2, f3⟩
  show mw_W E m_lw_law d _ _ _ _ _ _ (Value.int _ :: []) _
  rw [hN] at hO2
  obtain ⟨z1, z2, z3⟩ := so_gateF w (lw_sX E (i + 1)) (lw_sX E (i + 2)) _ _ _ _ _ _ hO hO2
  subst z2
  refine mw_istore6 d_lw_law_754 rfl (Nat.le_of_ble_eq_true rfl) ?_
  refine mw_aload2 d_lw_law_756 ?_
  refine mw_cV0e (d' := d - 1) lk_lw_law_md_thrown d_lw_law_757 (md_lt (by omega) (by decide)) md_gF (Nat.le_of_ble_eq_true rfl) (ct_mdthrown (by omega)) (by omega) (Nat.le_of_ble_eq_true rfl) (Nat.zero_le _) (Nat.zero_le _) ?_
  refine mw_heq lh_ob ?_
  have hJ' : lw_J E κ' μ' s.2 n' (lw_mo E μ' r9) g' := ⟨hI', f3, f2.trans e1.symm, by omega, lw_mo_in, lw_mo_497.trans hg'⟩
  refine mw_iload5 d_lw_law_760 ?_
  refine mw_icmp_eq (tgt := 767) d_lw_law_762 (by decide) (fun hc => ?_) (fun hc => absurd (f1.trans z1.symm) hc)
  refine mw_iload5 d_lw_law_767 ?_
  refine mw_if_ne (tgt := 784) d_lw_law_769 (by decide) (fun hc2 => ?_) (fun hc2 => ?_)
  · skip
    refine mw_goto (tgt := 899) d_lw_law_784 (by decide) ?_
    exact hK κ' μ' s.2 n' _ g' hJ' _ _ _ _ (by omega) (by omega)
  · have et : t = nI 0 := hc2.trans nI_0.symm
    have ea := z3 et
    subst ea
    refine mw_aload3 d_lw_law_772 ?_
    refine mw_iconst (v := nI 0) d_lw_law_773 (by decide) ?_
    refine mw_lald (a := 497) (i := 0) d_lw_law_774 (show 497 < n' by omega) ((ob_at (by decide)).trans (lw_mo_497.trans hg')) (by decide) (by decide) (hval et) ?_
    refine mw_iload6 d_lw_law_775 ?_
    refine mw_i2l d_lw_law_777 ?_
    refine mw_lcmp d_lw_law_778 ?_
    refine mw_if_eq (tgt := 784) d_lw_law_779 (by decide) (fun hc3 => ?_) (fun hc3 => absurd ((lc0 _ _).mpr rfl) hc3)
    refine mw_goto (tgt := 899) d_lw_law_784 (by decide) ?_
    exact hK κ' μ' s.2 n' _ g' hJ' _ _ _ _ (by omega) (by omega)
theorem lc_all (hd : 10 ≤ d) (hlt : lw_sB E < mw_b E) (hL : lw_sL E < 2 ^ 31) (hi : i + 4 ≤ lw_sL E) (hJ : lw_J E κ μ w n r g) (hK : lw_K E d i) (hbc : lw_sL E - i ≤ bc) (hbs : 6 * (lw_sL E - i) ≤ bs) : mw_W E m_lw_law d lw_Qe mw_no bc bs 787 (lw_L E i none none) [] (ob_h E κ n r) := by
  obtain ⟨hI, hmI, hN, hn, hr, hg⟩ := hJ
  show mw_W E m_lw_law d lw_Qe mw_no bc bs 787 [some (.ref (lw_sB E)), some (.ref (mw_b E + 0)), some (.ref (mw_b E + 250)), some (.ref (mw_b E + 497)), some (.int (nI i)), none, none] [] (ob_h E κ n r)
  refine mw_aload1 d_lw_law_787 ?_
  refine mw_aload0 d_lw_law_788 ?_
  refine mw_iload4 d_lw_law_789 ?_
  refine mw_iconst (v := nI 1) d_lw_law_791 (by decide) ?_
  refine mw_iadd d_lw_law_792 ?_
  refine mw_topi (nI_add _ _) ?_
  refine lw_rd hlt hL (by omega) d_lw_law_793 ?_
  refine mw_aload0 d_lw_law_794 ?_
  refine mw_iload4 d_lw_law_795 ?_
  refine mw_iconst (v := nI 2) d_lw_law_797 (by decide) ?_
  refine mw_iadd d_lw_law_798 ?_
  refine mw_topi (nI_add _ _) ?_
  refine lw_rd hlt hL (by omega) d_lw_law_799 ?_
  refine mw_aload0 d_lw_law_800 ?_
  refine mw_iload4 d_lw_law_801 ?_
  refine mw_iconst (v := nI 3) d_lw_law_803 (by decide) ?_
  refine mw_iadd d_lw_law_804 ?_
  refine mw_topi (nI_add _ _) ?_
  refine lw_rd hlt hL (by omega) d_lw_law_805 ?_
  refine mw_aload3 d_lw_law_806 ?_
  refine mw_cS5 (d' := d - 1) lk_lw_law_lw_all d_lw_law_807 (Nat.le_of_ble_eq_true rfl) (la_all (w := w) (by omega) hn hg hI) (by omega) (Nat.le_of_ble_eq_true rfl) (by omega) (by omega) ?_ (fun _ _ q => q.elim)
  rintro v h' ⟨t, a, s, κ', n', r9, g', rfl, hO, rfl, e1, hI', hn1, hn2, hr9, hg', hval⟩
  show mw_W E m_lw_law d _ _ _ _ _ _ (Value.int _ :: []) _
  refine mw_istore5 d_lw_law_810 rfl (Nat.le_of_ble_eq_true rfl) ?_
  refine mw_aload2 d_lw_law_812 ?_
  refine mw_aload0 d_lw_law_813 ?_
  refine mw_iload4 d_lw_law_814 ?_
  refine mw_iconst (v := nI 1) d_lw_law_816 (by decide) ?_
  refine mw_iadd d_lw_law_817 ?_
  refine mw_topi (nI_add _ _) ?_
  refine lw_rd hlt hL (by omega) d_lw_law_818 ?_
  refine mw_aload0 d_lw_law_819 ?_
  refine mw_iload4 d_lw_law_820 ?_
  refine mw_iconst (v := nI 2) d_lw_law_822 (by decide) ?_
  refine mw_iadd d_lw_law_823 ?_
  refine mw_topi (nI_add _ _) ?_
  refine lw_rd hlt hL (by omega) d_lw_law_824 ?_
  refine mw_aload0 d_lw_law_825 ?_
  refine mw_iload4 d_lw_law_826 ?_
  refine mw_iconst (v := nI 3) d_lw_law_828 (by decide) ?_
  refine mw_iadd d_lw_law_829 ?_
  refine mw_topi (nI_add _ _) ?_
  refine lw_rd hlt hL (by omega) d_lw_law_830 ?_
  refine mw_heq (lh_md (fun k h1 h2 => (hr9 k h2).trans (hr k h1 h2))) ?_
  refine mw_cV3 (d' := d - 1) lk_lw_law_md_all3 d_lw_law_831 (md_lt (by omega) (by decide)) md_gF (Nat.le_of_ble_eq_true rfl) (lm_all (w := w) (by omega) (by omega) hmI) (by omega) (Nat.le_of_ble_eq_true rfl) (Nat.zero_le _) (Nat.zero_le _) ?_ (fun _ _ q => q.elim)
  rintro v h' ⟨t2, b2, s2, μ', rfl, hO2, rfl, f1, f2, f3⟩
  show mw_W E m_lw_law d _ _ _ _ _ _ (Value.int _ :: []) _
  rw [hN] at hO2
  obtain ⟨z1, z2, z3⟩ := so_allF w (lw_sX E (i + 1)) (lw_sX E (i + 2)) (lw_sX E (i + 3)) _ _ _ _ _ _ hO hO2
  subst z2
  refine mw_istore6 d_lw_law_834 rfl (Nat.le_of_ble_eq_true rfl) ?_
  refine mw_aload2 d_lw_law_836 ?_
  refine mw_cV0e (d' := d - 1) lk_lw_law_md_thrown d_lw_law_837 (md_lt (by omega) (by decide)) md_gF (Nat.le_of_ble_eq_true rfl) (ct_mdthrown (by omega)) (by omega) (Nat.le_of_ble_eq_true rfl) (Nat.zero_le _) (Nat.zero_le _) ?_
  refine mw_heq lh_ob ?_
  have hJ' : lw_J E κ' μ' s.2 n' (lw_mo E μ' r9) g' := ⟨hI', f3, f2.trans e1.symm, by omega, lw_mo_in, lw_mo_497.trans hg'⟩
  refine mw_iload5 d_lw_law_840 ?_
  refine mw_icmp_eq (tgt := 847) d_lw_law_842 (by decide) (fun hc => ?_) (fun hc => absurd (f1.trans z1.symm) hc)
  refine mw_iload5 d_lw_law_847 ?_
  refine mw_if_ne (tgt := 871) d_lw_law_849 (by decide) (fun hc2 => ?_) (fun hc2 => ?_)
  · skip
    refine mw_goto (tgt := 899) d_lw_law_871 (by decide) ?_
    exact hK κ' μ' s.2 n' _ g' hJ' _ _ _ _ (by omega) (by omega)
  · have et : t = nI 0 := hc2.trans nI_0.symm
    have ea := z3 et
    subst ea
    refine mw_aload3 d_lw_law_852 ?_
    refine mw_iconst (v := nI 0) d_lw_law_853 (by decide) ?_
    refine mw_lald (a := 497) (i := 0) d_lw_law_854 (show 497 < n' by omega) ((ob_at (by decide)).trans (lw_mo_497.trans hg')) (by decide) (by decide) (hval et) ?_
    refine mw_iload6 d_lw_law_855 ?_
    refine mw_if_eq (tgt := 864) d_lw_law_857 (by decide) (fun hc4 => ?_) (fun hc4 => ?_)
    · refine mw_lconst (v := 0) d_lw_law_864 rfl ?_
      refine mw_lcmp d_lw_law_865 ?_
      refine mw_if_eq (tgt := 871) d_lw_law_866 (by decide) (fun hc3 => ?_) (fun hc3 => absurd ((lc0 _ _).mpr (by rw [lw_b, if_pos hc4])) hc3)
      refine mw_goto (tgt := 899) d_lw_law_871 (by decide) ?_
      exact hK κ' μ' s.2 n' _ g' hJ' _ _ _ _ (by omega) (by omega)
    · refine mw_lconst (v := 1) d_lw_law_860 rfl ?_
      refine mw_goto (tgt := 865) d_lw_law_861 (by decide) ?_
      refine mw_lcmp d_lw_law_865 ?_
      refine mw_if_eq (tgt := 871) d_lw_law_866 (by decide) (fun hc3 => ?_) (fun hc3 => absurd ((lc0 _ _).mpr (by rw [lw_b, if_neg hc4])) hc3)
      refine mw_goto (tgt := 899) d_lw_law_871 (by decide) ?_
      exact hK κ' μ' s.2 n' _ g' hJ' _ _ _ _ (by omega) (by omega)
theorem lc_circle (hd : 10 ≤ d) (hlt : lw_sB E < mw_b E) (hL : lw_sL E < 2 ^ 31) (hi : i + 4 ≤ lw_sL E) (hJ : lw_J E κ μ w n r g) (hK : lw_K E d i) (hbc : lw_sL E - i ≤ bc) (hbs : 6 * (lw_sL E - i) ≤ bs) : mw_W E m_lw_law d lw_Qe mw_no bc bs 457 (lw_L E i none none) [] (ob_h E κ n r) := by
  obtain ⟨hI, hmI, hN, hn, hr, hg⟩ := hJ
  show mw_W E m_lw_law d lw_Qe mw_no bc bs 457 [some (.ref (lw_sB E)), some (.ref (mw_b E + 0)), some (.ref (mw_b E + 250)), some (.ref (mw_b E + 497)), some (.int (nI i)), none, none] [] (ob_h E κ n r)
  refine mw_aload1 d_lw_law_457 ?_
  refine mw_cV0 (d' := d - 1) lk_lw_law_ob_circle d_lw_law_458 (ob_lt (by omega) (by decide)) ob_g0 (Nat.le_of_ble_eq_true rfl) (ct_circle (w := w) (by omega) (by omega) hI) (by omega) (Nat.le_of_ble_eq_true rfl) (Nat.zero_le _) (Nat.zero_le _) ?_ (fun _ _ q => q.elim)
  rintro v h' ⟨rfl, κ', rfl, hk⟩
  show mw_W E m_lw_law d _ _ _ _ _ _ (Value.int _ :: []) _
  refine mw_aload2 d_lw_law_461 ?_
  refine mw_heq (lh_md hr) ?_
  refine mw_cV0 (d' := d - 1) lk_lw_law_md_circle d_lw_law_462 (md_lt (by omega) (by decide)) md_gF (Nat.le_of_ble_eq_true rfl) (ct_mdcircle (w := w) (by omega) (by omega) hmI) (by omega) (Nat.le_of_ble_eq_true rfl) (Nat.zero_le _) (Nat.zero_le _) ?_ (fun _ _ q => q.elim)
  rintro v h' ⟨rfl, μ', rfl, hkm, -⟩
  show mw_W E m_lw_law d _ _ _ _ _ _ (Value.int _ :: Value.int _ :: []) _
  refine mw_heq lh_ob ?_
  refine mw_icmp_eq (tgt := 899) d_lw_law_465 (by decide) (fun hc => ?_) (fun hc => absurd (by rw [hN]) hc)
  exact hK κ' μ' w n _ g ⟨hI.keep hk, hmI.keep hkm, hkm.1.trans (hN.trans hk.1.symm), hn, lw_mo_in, lw_mo_497.trans hg⟩ _ _ _ _ (by omega) (by omega)
theorem lc_groups (hd : 10 ≤ d) (hlt : lw_sB E < mw_b E) (hL : lw_sL E < 2 ^ 31) (hi : i + 4 ≤ lw_sL E) (hJ : lw_J E κ μ w n r g) (hK : lw_K E d i) (hbc : lw_sL E - i ≤ bc) (hbs : 6 * (lw_sL E - i) ≤ bs) : mw_W E m_lw_law d lw_Qe mw_no bc bs 526 (lw_L E i none none) [] (ob_h E κ n r) := by
  obtain ⟨hI, hmI, hN, hn, hr, hg⟩ := hJ
  show mw_W E m_lw_law d lw_Qe mw_no bc bs 526 [some (.ref (lw_sB E)), some (.ref (mw_b E + 0)), some (.ref (mw_b E + 250)), some (.ref (mw_b E + 497)), some (.int (nI i)), none, none] [] (ob_h E κ n r)
  refine mw_aload1 d_lw_law_526 ?_
  refine mw_cV0 (d' := d - 1) lk_lw_law_ob_groups d_lw_law_527 (ob_lt (by omega) (by decide)) ob_g0 (Nat.le_of_ble_eq_true rfl) (ct_groups (w := w) (by omega) (by omega) hI) (by omega) (Nat.le_of_ble_eq_true rfl) (Nat.zero_le _) (Nat.zero_le _) ?_ (fun _ _ q => q.elim)
  rintro v h' ⟨rfl, κ', rfl, hk⟩
  show mw_W E m_lw_law d _ _ _ _ _ _ (Value.int _ :: []) _
  refine mw_aload2 d_lw_law_530 ?_
  refine mw_heq (lh_md hr) ?_
  refine mw_cV0 (d' := d - 1) lk_lw_law_md_groups d_lw_law_531 (md_lt (by omega) (by decide)) md_gF (Nat.le_of_ble_eq_true rfl) (ct_mdgroups (w := w) (by omega) (by omega) hmI) (by omega) (Nat.le_of_ble_eq_true rfl) (Nat.zero_le _) (Nat.zero_le _) ?_ (fun _ _ q => q.elim)
  rintro v h' ⟨rfl, μ', rfl, hkm, -⟩
  show mw_W E m_lw_law d _ _ _ _ _ _ (Value.int _ :: Value.int _ :: []) _
  refine mw_heq lh_ob ?_
  refine mw_icmp_eq (tgt := 899) d_lw_law_534 (by decide) (fun hc => ?_) (fun hc => absurd (by rw [hN]) hc)
  exact hK κ' μ' w n _ g ⟨hI.keep hk, hmI.keep hkm, hkm.1.trans (hN.trans hk.1.symm), hn, lw_mo_in, lw_mo_497.trans hg⟩ _ _ _ _ (by omega) (by omega)
theorem lc_count (hd : 10 ≤ d) (hlt : lw_sB E < mw_b E) (hL : lw_sL E < 2 ^ 31) (hi : i + 4 ≤ lw_sL E) (hJ : lw_J E κ μ w n r g) (hK : lw_K E d i) (hbc : lw_sL E - i ≤ bc) (hbs : 6 * (lw_sL E - i) ≤ bs) : mw_W E m_lw_law d lw_Qe mw_no bc bs 874 (lw_L E i none none) [] (ob_h E κ n r) := by
  obtain ⟨hI, hmI, hN, hn, hr, hg⟩ := hJ
  show mw_W E m_lw_law d lw_Qe mw_no bc bs 874 [some (.ref (lw_sB E)), some (.ref (mw_b E + 0)), some (.ref (mw_b E + 250)), some (.ref (mw_b E + 497)), some (.int (nI i)), none, none] [] (ob_h E κ n r)
  refine mw_aload1 d_lw_law_874 ?_
  refine mw_aload0 d_lw_law_875 ?_
  refine mw_iload4 d_lw_law_876 ?_
  refine mw_iconst (v := nI 1) d_lw_law_878 (by decide) ?_
  refine mw_iadd d_lw_law_879 ?_
  refine mw_topi (nI_add _ _) ?_
  refine lw_rd hlt hL (by omega) d_lw_law_880 ?_
  refine mw_cV1 (d' := d - 1) lk_lw_law_ob_count d_lw_law_881 (ob_lt (by omega) (by decide)) ob_g0 (Nat.le_of_ble_eq_true rfl) (ct_count (w := w) (by omega) (by omega) hI) (by omega) (Nat.le_of_ble_eq_true rfl) (Nat.zero_le _) (Nat.zero_le _) ?_ (fun _ _ q => q.elim)
  rintro v h' ⟨rfl, κ', rfl, hk⟩
  show mw_W E m_lw_law d _ _ _ _ _ _ (Value.int _ :: []) _
  refine mw_aload2 d_lw_law_884 ?_
  refine mw_aload0 d_lw_law_885 ?_
  refine mw_iload4 d_lw_law_886 ?_
  refine mw_iconst (v := nI 1) d_lw_law_888 (by decide) ?_
  refine mw_iadd d_lw_law_889 ?_
  refine mw_topi (nI_add _ _) ?_
  refine lw_rd hlt hL (by omega) d_lw_law_890 ?_
  refine mw_heq (lh_md hr) ?_
  refine mw_cV1 (d' := d - 1) lk_lw_law_md_count d_lw_law_891 (md_lt (by omega) (by decide)) md_gF (Nat.le_of_ble_eq_true rfl) (ct_mdcount (w := w) (by omega) (by omega) hmI) (by omega) (Nat.le_of_ble_eq_true rfl) (Nat.zero_le _) (Nat.zero_le _) ?_ (fun _ _ q => q.elim)
  rintro v h' ⟨rfl, μ', rfl, hkm, -⟩
  show mw_W E m_lw_law d _ _ _ _ _ _ (Value.int _ :: Value.int _ :: []) _
  refine mw_heq lh_ob ?_
  refine mw_icmp_eq (tgt := 899) d_lw_law_894 (by decide) (fun hc => ?_) (fun hc => absurd (by rw [hN]) hc)
  exact hK κ' μ' w n _ g ⟨hI.keep hk, hmI.keep hkm, hkm.1.trans (hN.trans hk.1.symm), hn, lw_mo_in, lw_mo_497.trans hg⟩ _ _ _ _ (by omega) (by omega)
end Law
