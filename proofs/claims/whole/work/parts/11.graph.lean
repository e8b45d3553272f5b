/-! Pure rows: circles, groups, gates. -/
def gp_no : Nat → Bool := fun _ => false
def gp_at (c : Nat) : Nat → Bool := fun q => q == c
def gp_T (N : Nat) (w : Nat → Nat → Bool) (a b : Nat) : Bool := bf_r N w gp_no a b
def gp_rev (w : Nat → Nat → Bool) : Nat → Nat → Bool := fun p q => w q p
section Gp
variable {N : Nat} {w : Nat → Nat → Bool} {a b c : Nat}
theorem gp_rev_ok (hw : bf_ok N w) : bf_ok N (gp_rev w) := fun p q h => (hw q p h).symm
theorem gp_refl (a : Nat) : gp_T N w a a = true := bf_r_start rfl
theorem gp_tail (hw : bf_ok N w) (ha : a < N) (h : gp_T N w a b = true) (hbc : w b c = true) : gp_T N w a c = true := bf_r_step hw ha h hbc rfl
theorem gp_lt (hw : bf_ok N w) (ha : a < N) (h : gp_T N w a b = true) : b < N := bf_r_lt hw ha h
theorem gp_trans (hw : bf_ok N w) (ha : a < N) (h1 : gp_T N w a b = true) (h2 : gp_T N w b c = true) : gp_T N w a c = true :=
  bf_r_ind (P := fun x => gp_T N w a x = true) (fun _ => h1) (fun p q _ hp hpq _ => gp_tail hw ha hp hpq) hw (gp_lt hw ha h1) h2
theorem gp_head (hw : bf_ok N w) (hab : w a b = true) (h : gp_T N w b c = true) : gp_T N w a c = true :=
  gp_trans hw (hw a b hab).1 (gp_tail hw (hw a b hab).1 (gp_refl a) hab) h
theorem gp_rev_T (hw : bf_ok N w) (ha : a < N) (hb : b < N) : gp_T N (gp_rev w) a b = gp_T N w b a := by
  have k1 : gp_T N (gp_rev w) a b = true → gp_T N w b a = true := fun h =>
    bf_r_ind (P := fun x => gp_T N w x a = true) (fun _ => gp_refl a) (fun p q _ hp hpq _ => gp_head hw hpq hp) (gp_rev_ok hw) ha h
  have k2 : gp_T N w b a = true → gp_T N (gp_rev w) a b = true := fun h =>
    bf_r_ind (P := fun x => gp_T N (gp_rev w) x b = true) (fun _ => gp_refl b) (fun p q _ hp hpq _ => gp_head (gp_rev_ok hw) (show gp_rev w q p = true from hpq) hp) hw hb h
  cases h1 : gp_T N (gp_rev w) a b <;> cases h2 : gp_T N w b a
  · rfl
  · rw [k2 h2] at h1; cases h1
  · rw [k1 h1] at h2; cases h2
  · rfl
/-- on a circle: reached from a, a place with a WAY to a -/
def gp_c (N : Nat) (w : Nat → Nat → Bool) (a : Nat) : Bool := pu_ex (fun q => gp_T N w a q && w q a) N
theorem gp_c_iff (hw : bf_ok N w) (ha : a < N) : gp_c N w a = true ↔ ∃ b, b < N ∧ w a b = true ∧ gp_T N w b a = true := by
  unfold gp_c
  rw [pu_ex_iff]
  constructor
  · rintro ⟨q, -, h⟩
    simp only [Bool.and_eq_true] at h
    have key : q = a ∨ ∃ b, w a b = true ∧ gp_T N w b q = true :=
      bf_r_ind (P := fun x => x = a ∨ ∃ b, w a b = true ∧ gp_T N w b x = true) (fun _ => Or.inl rfl) (fun p q _ hp hpq _ => by
        rcases hp with rfl | ⟨b, h1, h2⟩
        · exact Or.inr ⟨q, hpq, gp_refl q⟩
        · exact Or.inr ⟨b, h1, gp_tail hw (hw _ _ h1).2 h2 hpq⟩) hw ha h.1
    rcases key with rfl | ⟨b, h1, h2⟩
    · exact ⟨q, ha, h.2, gp_refl q⟩
    · exact ⟨b, (hw _ _ h1).2, h1, gp_tail hw (hw _ _ h1).2 h2 h.2⟩
  · rintro ⟨b, hb, h1, h2⟩
    have key : ∃ q, gp_T N w a q = true ∧ w q a = true :=
      bf_r_ind (P := fun x => ∃ q, gp_T N w a q = true ∧ w q x = true) (fun _ => ⟨a, gp_refl a, h1⟩) (fun p q _ hp hpq _ => by
        obtain ⟨z, h3, h4⟩ := hp
        exact ⟨p, gp_tail hw ha h3 h4, hpq⟩) hw hb h2
    obtain ⟨q, h3, h4⟩ := key
    exact ⟨q, (hw _ _ h4).1, by rw [h3, h4]; rfl⟩
/-- the group's least place -/
def gp_g (N : Nat) (w : Nat → Nat → Bool) (a : Nat) : Nat := pu_fnd (fun b => gp_T N w a b && gp_T N w b a) N
theorem gp_g_lt (ha : a < N) : gp_g N w a < N := by
  have h0 : (gp_T N w a a && gp_T N w a a) = true := by rw [gp_refl]; rfl
  rcases Nat.lt_or_ge (gp_g N w a) N with h | h
  · exact h
  · have h1 : a < gp_g N w a := by omega
    have h2 := pu_fnd_min (f := fun b => gp_T N w a b && gp_T N w b a) h1
    rw [h0] at h2; cases h2
-- gates
section Gate
def gp_A (N : Nat) (w : Nat → Nat → Bool) (a c x : Nat) : Bool := bf_r N w (gp_at c) a x
/-- c is a gate of b: another place, and b isn't reached with c shut -/
def gp_G (N : Nat) (w : Nat → Nat → Bool) (a b c : Nat) : Bool := !(c == b) && !gp_A N w a c b
theorem gp_at_f {c q : Nat} (h : q ≠ c) : gp_at c q = false := by simp [gp_at, h]
theorem gp_A_start {c : Nat} (h : a ≠ c) : gp_A N w a c a = true := bf_r_start (gp_at_f h)
theorem gp_A_step {c p q : Nat} (hw : bf_ok N w) (ha : a < N) (hp : gp_A N w a c p = true) (hpq : w p q = true) (hq : q ≠ c) : gp_A N w a c q = true := bf_r_step hw ha hp hpq (gp_at_f hq)
theorem gp_A_ne {c x : Nat} (hw : bf_ok N w) (ha : a < N) (h : gp_A N w a c x = true) : x ≠ c := by
  intro e
  have h1 := bf_r_sh hw ha h
  subst e
  simp [gp_at] at h1
theorem gp_A_self (hw : bf_ok N w) (ha : a < N) : ∀ x, gp_A N w a a x = false := by
  intro x
  cases h : gp_A N w a a x with
  | false => rfl
  | true =>
    have := bf_r_ind (P := fun _ => False) (fun h0 => by simp [gp_at] at h0) (fun _ _ _ hp _ _ => hp) hw ha h
    exact this.elim
theorem gp_tot {c d : Nat} (hw : bf_ok N w) (ha : a < N) (hb : gp_T N w a b = true) (hcd : c ≠ d) (hc : gp_A N w a c b = false) : gp_A N w a d c = true ∨ gp_A N w a c d = true := by
  rcases Bool.eq_false_or_eq_true (gp_A N w a d c) with h1 | h1
  · exact Or.inl h1
  rcases Bool.eq_false_or_eq_true (gp_A N w a c d) with h2 | h2
  · exact Or.inr h2
  exfalso
  have hac : a ≠ c := fun e => by
    subst e
    rw [gp_A_start hcd] at h1; cases h1
  have had : a ≠ d := fun e => by
    subst e
    rw [gp_A_start (fun e => hcd e.symm)] at h2; cases h2
  have key : gp_A N w a c b = true ∧ gp_A N w a d b = true :=
    bf_r_ind (P := fun x => gp_A N w a c x = true ∧ gp_A N w a d x = true) (fun _ => ⟨gp_A_start hac, gp_A_start had⟩) (fun p q _ hp hpq _ => by
      by_cases e1 : q = c
      · subst e1
        rw [gp_A_step hw ha hp.2 hpq hcd] at h1; cases h1
      · by_cases e2 : q = d
        · subst e2
          rw [gp_A_step hw ha hp.1 hpq e1] at h2; cases h2
        · exact ⟨gp_A_step hw ha hp.1 hpq e1, gp_A_step hw ha hp.2 hpq e2⟩) hw ha hb
  rw [hc] at key
  cases key.1
theorem gp_asym {c d : Nat} (hw : bf_ok N w) (ha : a < N) (hb : gp_T N w a b = true) (hcd : c ≠ d) (hc : gp_A N w a c b = false) (hd : gp_A N w a d b = false) (h1 : gp_A N w a d c = true) : gp_A N w a c d = false := by
  cases h2 : gp_A N w a c d with
  | false => rfl
  | true =>
    have key : gp_A N w a c b = true ∨ gp_A N w a d b = true :=
      bf_r_ind (P := fun x => gp_A N w a c x = true ∨ gp_A N w a d x = true) (fun _ => by
        by_cases e : a = c
        · subst e; exact Or.inr (gp_A_start hcd)
        · exact Or.inl (gp_A_start e)) (fun p q _ hp hpq _ => by
        rcases hp with hp | hp
        · by_cases e : q = c
          · subst e; exact Or.inr h1
          · exact Or.inl (gp_A_step hw ha hp hpq e)
        · by_cases e : q = d
          · subst e; exact Or.inl h2
          · exact Or.inr (gp_A_step hw ha hp hpq e)) hw ha hb
    rw [hc, hd] at key
    rcases key with h | h <;> cases h
/-- c isn't reached with d shut: what is reached with d shut is also reached with c shut -/
theorem gp_sub {c d : Nat} (hw : bf_ok N w) (ha : a < N) (h : gp_A N w a d c = false) {x : Nat} (hx : gp_A N w a d x = true) : gp_A N w a c x = true :=
  (bf_r_ind (P := fun x => gp_A N w a d x = true ∧ gp_A N w a c x = true) (fun h0 => by
    have hst : gp_A N w a d a = true := bf_r_start h0
    refine ⟨hst, gp_A_start (fun e => ?_)⟩
    subst e
    rw [hst] at h; cases h) (fun p q hp0 hp hpq hq => by
    have h1 : gp_A N w a d q = true := bf_r_step hw ha hp0 hpq hq
    refine ⟨h1, gp_A_step hw ha hp.2 hpq (fun e => ?_)⟩
    subst e
    rw [h1] at h; cases h) hw ha hx).2
def gp_n (N : Nat) (w : Nat → Nat → Bool) (a c : Nat) : Nat := pu_cnt (gp_A N w a c) N
theorem gp_grow {c d : Nat} (hw : bf_ok N w) (ha : a < N) (hb : gp_T N w a b = true) (hcd : c ≠ d) (hc : gp_A N w a c b = false) (h : gp_A N w a d c = false) : gp_n N w a d < gp_n N w a c := by
  have h1 : gp_A N w a c d = true := by
    rcases gp_tot hw ha hb hcd hc with h2 | h2
    · rw [h] at h2; cases h2
    · exact h2
  refine pu_cnt_lt (q := d) (fun p _ hp => gp_sub hw ha h hp) (bf_r_lt hw ha h1) ?_ h1
  cases h3 : gp_A N w a d d with
  | false => rfl
  | true => exact absurd rfl (gp_A_ne hw ha h3)
theorem gp_ne {c d : Nat} (hw : bf_ok N w) (ha : a < N) (hb : gp_T N w a b = true) (hcd : c ≠ d) (hc : gp_A N w a c b = false) (hd : gp_A N w a d b = false) : gp_n N w a c < gp_n N w a d ∨ gp_n N w a d < gp_n N w a c := by
  cases h : gp_A N w a d c with
  | false => exact Or.inr (gp_grow hw ha hb hcd hc h)
  | true => exact Or.inl (gp_grow hw ha hb (fun e => hcd e.symm) hd (gp_asym hw ha hb hcd hc hd h))
/-- the best of the gates below k -/
def gp_B (N : Nat) (w : Nat → Nat → Bool) (a b k g : Nat) : Prop := gp_G N w a b g = true ∧ ∀ c, c < k → gp_G N w a b c = true → c ≠ g → gp_n N w a c < gp_n N w a g
theorem gp_G_iff {c : Nat} : gp_G N w a b c = true ↔ c ≠ b ∧ gp_A N w a c b = false := by
  unfold gp_G
  simp
theorem gp_B_uniq {g g' : Nat} (h1 : g < N) (h2 : g' < N) (hg : gp_B N w a b N g) (hg' : gp_B N w a b N g') : g = g' := by
  rcases Nat.decEq g g' with e | e
  · have a1 := hg.2 g' h2 hg'.1 (fun z => e z.symm)
    have a2 := hg'.2 g h1 hg.1 e
    omega
  · exact e
theorem gp_B_keep {k g : Nat} (h : gp_B N w a b k g) (hk : gp_G N w a b k = true → k ≠ g → gp_n N w a k < gp_n N w a g) : gp_B N w a b (k + 1) g := by
  refine ⟨h.1, fun c hc hG hne => ?_⟩
  by_cases e : c = k
  · subst e; exact hk hG hne
  · exact h.2 c (by omega) hG hne
theorem gp_B_new {k g : Nat} (h : gp_B N w a b k g) (hG : gp_G N w a b k = true) (hk : gp_n N w a g < gp_n N w a k) : gp_B N w a b (k + 1) k := by
  refine ⟨hG, fun c hc hc2 hne => ?_⟩
  by_cases e : c = g
  · subst e; exact hk
  · have := h.2 c (by omega) hc2 e
    omega
theorem gp_B_first {k : Nat} (h : ∀ c, c < k → gp_G N w a b c = false) (hG : gp_G N w a b k = true) : gp_B N w a b (k + 1) k := by
  refine ⟨hG, fun c hc hc2 hne => ?_⟩
  rw [h c (by omega)] at hc2; cases hc2
/-- the reference's step: 'later than the last one' is 'greater' -/
theorem gp_B_step {k g : Nat} (hw : bf_ok N w) (ha : a < N) (hb : gp_T N w a b = true) (h : gp_B N w a b k g) (hG : gp_G N w a b k = true) (hne : k ≠ g) :
    (gp_A N w a g k = false → gp_n N w a g < gp_n N w a k) ∧ (gp_A N w a g k = true → gp_n N w a k < gp_n N w a g) := by
  obtain ⟨-, hk⟩ := gp_G_iff.mp hG
  obtain ⟨-, hg⟩ := gp_G_iff.mp h.1
  exact ⟨fun e => gp_grow hw ha hb hne hk e, fun e => gp_grow hw ha hb (fun z => hne z.symm) hg (gp_asym hw ha hb hne hk hg e)⟩
end Gate
end Gp
