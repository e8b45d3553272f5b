/-! Pure rows: the least order; longest ways; numbers of ways modulo. -/
def pu_max (f : Nat → Nat) : Nat → Nat
  | 0 => 0
  | n + 1 => max (pu_max f n) (f n)
theorem pu_max_congr {f g : Nat → Nat} {n : Nat} (h : ∀ p, p < n → f p = g p) : pu_max f n = pu_max g n := by
  induction n with
  | zero => rfl
  | succ n ih => simp only [pu_max]; rw [ih (fun p hp => h p (by omega)), h n (by omega)]
theorem pu_max_le {f : Nat → Nat} {n b : Nat} (h : ∀ p, p < n → f p ≤ b) : pu_max f n ≤ b := by
  induction n with
  | zero => simp [pu_max]
  | succ n ih =>
    simp only [pu_max]
    have h1 := ih (fun p hp => h p (by omega))
    have h2 := h n (by omega)
    omega
theorem pu_max_one {f g : Nat → Nat} {n p : Nat} (hp : p < n) (h0 : f p = 0) (h : ∀ q, q < n → q ≠ p → g q = f q) : pu_max g n = max (pu_max f n) (g p) := by
  induction n with
  | zero => omega
  | succ n ih =>
    simp only [pu_max]
    by_cases e : p = n
    · subst e
      rw [pu_max_congr (f := g) (g := f) (n := p) (fun q hq => h q (by omega) (by omega)), h0]
      omega
    · rw [ih (by omega) (fun q hq hne => h q (by omega) hne), h n (by omega) (fun z => e z.symm)]
      omega
def pu_sum (f : Nat → Nat) : Nat → Nat
  | 0 => 0
  | n + 1 => pu_sum f n + f n
theorem pu_sum_congr {f g : Nat → Nat} {n : Nat} (h : ∀ p, p < n → f p = g p) : pu_sum f n = pu_sum g n := by
  induction n with
  | zero => rfl
  | succ n ih => simp only [pu_sum]; rw [ih (fun p hp => h p (by omega)), h n (by omega)]
theorem pu_sum_one {f g : Nat → Nat} {n p : Nat} (hp : p < n) (h0 : f p = 0) (h : ∀ q, q < n → q ≠ p → g q = f q) : pu_sum g n = pu_sum f n + g p := by
  induction n with
  | zero => omega
  | succ n ih =>
    simp only [pu_sum]
    by_cases e : p = n
    · subst e
      rw [pu_sum_congr (f := g) (g := f) (n := p) (fun q hq => h q (by omega) (by omega)), h0]
      omega
    · rw [ih (by omega) (fun q hq hne => h q (by omega) hne), h n (by omega) (fun z => e z.symm)]
      omega
-- the order
def or_rdy (N : Nat) (w : Nat → Nat → Bool) (P : Nat → Bool) (p : Nat) : Bool := !P p && !pu_ex (fun q => w q p && !P q) N
def or_P (N : Nat) (w : Nat → Nat → Bool) : Nat → Nat → Bool
  | 0 => fun _ => false
  | i + 1 => fun p => or_P N w i p || p == pu_fnd (or_rdy N w (or_P N w i)) N
def or_ln (N : Nat) (w : Nat → Nat → Bool) (i : Nat) : Nat := pu_fnd (or_rdy N w (or_P N w i)) N
def or_ok (N : Nat) (w : Nat → Nat → Bool) (k : Nat) : Prop := ∀ i, i < k → or_ln N w i < N
def or_wt (N : Nat) (w : Nat → Nat → Bool) (P : Nat → Bool) (q : Nat) : Nat := pu_cnt (fun p => w p q && !P p) N
section Or
variable {N : Nat} {w : Nat → Nat → Bool}
theorem or_P0 (p : Nat) : or_P N w 0 p = false := rfl
theorem or_PS (i p : Nat) : or_P N w (i + 1) p = (or_P N w i p || p == or_ln N w i) := rfl
theorem or_rdy_iff {P : Nat → Bool} {p : Nat} (hw : bf_ok N w) : or_rdy N w P p = true ↔ P p = false ∧ ∀ q, w q p = true → P q = true := by
  unfold or_rdy
  simp only [Bool.and_eq_true, Bool.not_eq_true', pu_ex_false]
  constructor
  · rintro ⟨h1, h2⟩
    refine ⟨h1, fun q hq => ?_⟩
    have h3 := h2 q (hw q p hq).1
    rw [hq] at h3
    simpa using h3
  · rintro ⟨h1, h2⟩
    refine ⟨h1, fun q _ => ?_⟩
    cases hq : w q p with
    | false => rfl
    | true => rw [h2 q hq]; rfl
theorem or_rdy_wt {P : Nat → Bool} {p : Nat} : or_rdy N w P p = (!P p && decide (or_wt N w P p = 0)) := by
  unfold or_rdy or_wt
  congr 1
  cases h : pu_ex (fun q => w q p && !P q) N with
  | false => rw [pu_ex_false] at h; simp [pu_cnt_zero.mpr h]
  | true =>
    have : ¬ pu_cnt (fun q => w q p && !P q) N = 0 := fun h0 => by
      rw [pu_ex_false.mpr (pu_cnt_zero.mp h0)] at h; cases h
    simp [this]
theorem or_ln_rdy {i : Nat} (h : or_ln N w i < N) : or_rdy N w (or_P N w i) (or_ln N w i) = true := pu_fnd_lt h
theorem or_P_mono {i j p : Nat} (hij : i ≤ j) (h : or_P N w i p = true) : or_P N w j p = true := by
  induction j with
  | zero => have : i = 0 := by omega
            subst this; exact h
  | succ j ih =>
    by_cases e : i = j + 1
    · subst e; exact h
    · rw [or_PS, ih (by omega), Bool.true_or]
theorem or_P_ln {i j : Nat} (h : i < j) : or_P N w j (or_ln N w i) = true := or_P_mono (i := i + 1) (by omega) (by rw [or_PS]; simp)
theorem or_P_new {i : Nat} (hw : bf_ok N w) (h : or_ln N w i < N) : or_P N w i (or_ln N w i) = false := ((or_rdy_iff hw).mp (or_ln_rdy h)).1
theorem or_P_pre {i q r : Nat} (hw : bf_ok N w) (hq : or_P N w i q = true) (hr : w r q = true) : or_P N w i r = true := by
  induction i with
  | zero => cases hq
  | succ i ih =>
    rw [or_PS, Bool.or_eq_true] at hq
    rw [or_PS]
    rcases hq with hq | hq
    · rw [ih hq, Bool.true_or]
    · simp only [beq_iff_eq] at hq
      have hlt : or_ln N w i < N := by rw [← hq]; exact (hw r q hr).2
      have := ((or_rdy_iff hw).mp (or_ln_rdy hlt)).2 r (by rw [← hq]; exact hr)
      rw [this, Bool.true_or]
theorem or_P_from {i p : Nat} (h : or_P N w i p = true) : ∃ j, j < i ∧ or_ln N w j = p := by
  induction i with
  | zero => cases h
  | succ i ih =>
    rw [or_PS, Bool.or_eq_true] at h
    rcases h with h | h
    · obtain ⟨j, h1, h2⟩ := ih h
      exact ⟨j, by omega, h2⟩
    · simp only [beq_iff_eq] at h
      exact ⟨i, by omega, h.symm⟩
theorem or_cnt {k : Nat} (hw : bf_ok N w) (h : or_ok N w k) : pu_cnt (or_P N w k) N = k := by
  induction k with
  | zero => exact pu_cnt_zero.mpr (fun _ _ => rfl)
  | succ k ih =>
    have h1 := h k (by omega)
    rw [pu_cnt_add (f := or_P N w k) (q := or_ln N w k) h1 (or_P_new hw h1) (or_P_ln (by omega)) (fun p hp hne => by rw [or_PS]; simp [hne]), ih (fun i hi => h i (by omega))]
theorem or_all {p : Nat} (hw : bf_ok N w) (h : or_ok N w N) (hp : p < N) : or_P N w N p = true := pu_cnt_full (by rw [or_cnt hw h]; exact Nat.le_refl _) p hp
theorem or_le {k : Nat} (hw : bf_ok N w) (h : or_ok N w k) : k ≤ N := by
  have h1 := or_cnt hw h
  have h2 := pu_cnt_le (or_P N w k) N
  omega
theorem or_wt_step {i q : Nat} (hw : bf_ok N w) (h : or_ln N w i < N) : or_wt N w (or_P N w i) q = or_wt N w (or_P N w (i + 1)) q + if w (or_ln N w i) q = true then 1 else 0 := by
  have hn := or_P_new hw h
  unfold or_wt
  by_cases e : w (or_ln N w i) q = true
  · rw [if_pos e]
    exact pu_cnt_add (q := or_ln N w i) h (by rw [or_P_ln (Nat.lt_succ_self i)]; simp) (by rw [e, hn]; rfl) (fun p hp hne => by
      have hb : (p == or_ln N w i) = false := by simp [hne]
      rw [or_PS, hb, Bool.or_false])
  · rw [if_neg e, Nat.add_zero]
    refine pu_cnt_congr (fun p hp => ?_)
    by_cases e2 : p = or_ln N w i
    · subst e2
      simp only [Bool.not_eq_true] at e
      rw [e]; rfl
    · have hb : (p == or_ln N w i) = false := by simp [e2]
      rw [or_PS, hb, Bool.or_false]
/-- who is ready behind the next step -/
theorem or_rdy_step {i q : Nat} (hw : bf_ok N w) (h : or_ln N w i < N) :
    or_rdy N w (or_P N w (i + 1)) q = ((or_rdy N w (or_P N w i) q && !(q == or_ln N w i)) || (w (or_ln N w i) q && decide (or_wt N w (or_P N w (i + 1)) q = 0))) := by
  have hst := or_wt_step (q := q) hw h
  have hr := (or_rdy_iff hw).mp (or_ln_rdy h)
  rw [or_rdy_wt, or_rdy_wt, or_PS]
  by_cases e : w (or_ln N w i) q = true
  · rw [if_pos e] at hst
    have hne : ¬ q = or_ln N w i := fun z => by
      have := hr.2 (or_ln N w i) (by rw [z] at e; exact e)
      rw [hr.1] at this; cases this
    have hnp : or_P N w i q = false := by
      cases hp : or_P N w i q with
      | false => rfl
      | true =>
        have := or_P_pre hw hp e
        rw [hr.1] at this; cases this
    have h9 : ¬ or_wt N w (or_P N w i) q = 0 := by omega
    simp [e, hne, hnp, h9]
  · rw [if_neg e] at hst
    simp only [Bool.not_eq_true] at e
    rw [e, hst]
    simp only [Nat.add_zero, Bool.false_and, Bool.or_false]
    cases or_P N w i q <;> cases (q == or_ln N w i) <;> simp
-- the longest ways
def or_lv (N : Nat) (w : Nat → Nat → Bool) : Nat → Nat → Nat
  | 0 => fun _ => 0
  | i + 1 => fun p => if p = or_ln N w i then pu_max (fun q => if w q p = true then or_lv N w i q + 1 else 0) N else or_lv N w i p
theorem or_lvS (i p : Nat) : or_lv N w (i + 1) p = if p = or_ln N w i then pu_max (fun q => if w q p = true then or_lv N w i q + 1 else 0) N else or_lv N w i p := rfl
theorem or_lv_le (i p : Nat) : or_lv N w i p ≤ i := by
  induction i generalizing p with
  | zero => exact Nat.le_refl _
  | succ i ih =>
    rw [or_lvS]
    split
    · refine pu_max_le (fun q _ => ?_)
      split
      · have := ih q; omega
      · omega
    · have := ih p; omega
theorem or_lv_keep {i j p : Nat} (hw : bf_ok N w) (h : or_ok N w j) (hij : i ≤ j) (hp : or_P N w i p = true) : or_lv N w j p = or_lv N w i p := by
  induction j with
  | zero => have : i = 0 := by omega
            subst this; rfl
  | succ j ih =>
    by_cases e : i = j + 1
    · subst e; rfl
    · have hlt := h j (by omega)
      rw [or_lvS, if_neg, ih (fun k hk => h k (by omega)) (by omega)]
      intro z
      have h1 := or_P_mono (j := j) (by omega) hp
      rw [z, or_P_new hw hlt] at h1; cases h1
/-- what the class's row of numbers holds behind i steps -/
def or_tl (N : Nat) (w : Nat → Nat → Bool) (i q : Nat) : Nat := pu_max (fun r => if or_P N w i r = true ∧ w r q = true then or_lv N w i r + 1 else 0) N
theorem or_tl0 (q : Nat) : or_tl N w 0 q = 0 := by
  have : or_tl N w 0 q ≤ 0 := pu_max_le (fun r _ => by rw [if_neg (by rw [or_P0]; simp)]; exact Nat.le_refl _)
  omega
theorem or_tl_ln {i : Nat} (hw : bf_ok N w) (h : or_ln N w i < N) : or_tl N w i (or_ln N w i) = or_lv N w (i + 1) (or_ln N w i) := by
  have hr := (or_rdy_iff hw).mp (or_ln_rdy h)
  rw [or_lvS, if_pos rfl]
  unfold or_tl
  refine pu_max_congr (fun r _ => ?_)
  by_cases e : w r (or_ln N w i) = true
  · rw [if_pos ⟨hr.2 r e, e⟩, if_pos e]
  · rw [if_neg (fun z => e z.2), if_neg e]
theorem or_tl_step {i q : Nat} (hw : bf_ok N w) (h : or_ln N w i < N) : or_tl N w (i + 1) q = if w (or_ln N w i) q = true then max (or_tl N w i q) (or_tl N w i (or_ln N w i) + 1) else or_tl N w i q := by
  have hn := or_P_new hw h
  by_cases e : w (or_ln N w i) q = true
  · rw [if_pos e, or_tl_ln hw h]
    unfold or_tl
    rw [pu_max_one (f := fun r => if or_P N w i r = true ∧ w r q = true then or_lv N w i r + 1 else 0) (p := or_ln N w i) h (by rw [if_neg (by rw [hn]; simp)]) (fun r hr hne => by
      rw [or_PS, or_lvS, if_neg hne]
      simp [hne])]
    rw [if_pos ⟨or_P_ln (Nat.lt_succ_self i), e⟩]
  · rw [if_neg e]
    unfold or_tl
    refine pu_max_congr (fun r _ => ?_)
    by_cases e2 : r = or_ln N w i
    · subst e2
      rw [if_neg (fun z => e z.2), if_neg (fun z => e z.2)]
    · rw [or_PS, or_lvS, if_neg e2]
      simp [e2]
theorem or_tl_end {a : Nat} (hw : bf_ok N w) (h : or_ok N w N) (ha : a < N) : or_tl N w N a = or_lv N w N a := by
  obtain ⟨i, hi, rfl⟩ := or_P_from (or_all hw h ha)
  have hr := (or_rdy_iff hw).mp (or_ln_rdy (h i hi))
  rw [or_lv_keep hw h (i := i + 1) (by omega) (or_P_ln (Nat.lt_succ_self i)), ← or_tl_ln hw (h i hi)]
  unfold or_tl
  refine pu_max_congr (fun r hr9 => ?_)
  by_cases e : w r (or_ln N w i) = true
  · have h1 := hr.2 r e
    rw [if_pos ⟨or_all hw h hr9, e⟩, if_pos ⟨h1, e⟩, or_lv_keep hw h (by omega) h1]
  · rw [if_neg (fun z => e z.2), if_neg (fun z => e z.2)]
-- numbers of ways
def or_M : Nat := 1000003
def or_ps (N : Nat) (w : Nat → Nat → Bool) (a : Nat) : Nat → Nat → Nat
  | 0 => fun _ => 0
  | i + 1 => fun p => if p = or_ln N w i then ((if p = a then 1 else 0) + pu_sum (fun q => if w q p = true then or_ps N w a i q else 0) N) % or_M else or_ps N w a i p
variable {a : Nat}
theorem or_psS (i p : Nat) : or_ps N w a (i + 1) p = if p = or_ln N w i then ((if p = a then 1 else 0) + pu_sum (fun q => if w q p = true then or_ps N w a i q else 0) N) % or_M else or_ps N w a i p := rfl
theorem or_ps_lt (i p : Nat) : or_ps N w a i p < or_M := by
  induction i generalizing p with
  | zero => show 0 < 1000003; omega
  | succ i ih =>
    rw [or_psS]
    split
    · exact Nat.mod_lt _ (by show 0 < 1000003; omega)
    · exact ih p
theorem or_ps_keep {i j p : Nat} (hw : bf_ok N w) (h : or_ok N w j) (hij : i ≤ j) (hp : or_P N w i p = true) : or_ps N w a j p = or_ps N w a i p := by
  induction j with
  | zero => have : i = 0 := by omega
            subst this; rfl
  | succ j ih =>
    by_cases e : i = j + 1
    · subst e; rfl
    · have hlt := h j (by omega)
      rw [or_psS, if_neg, ih (fun k hk => h k (by omega)) (by omega)]
      intro z
      have h1 := or_P_mono (j := j) (by omega) hp
      rw [z, or_P_new hw hlt] at h1; cases h1
def or_tp (N : Nat) (w : Nat → Nat → Bool) (a i q : Nat) : Nat := ((if q = a then 1 else 0) + pu_sum (fun r => if or_P N w i r = true ∧ w r q = true then or_ps N w a i r else 0) N) % or_M
theorem or_tp0 (q : Nat) : or_tp N w a 0 q = if q = a then 1 else 0 := by
  have h0 : pu_sum (fun r => if or_P N w 0 r = true ∧ w r q = true then or_ps N w a 0 r else 0) N = 0 := by
    have : ∀ n, pu_sum (fun r => if or_P N w 0 r = true ∧ w r q = true then or_ps N w a 0 r else 0) n = 0 := by
      intro n
      induction n with
      | zero => rfl
      | succ n ih => simp only [pu_sum]; rw [ih, if_neg (by rw [or_P0]; simp)]
    exact this N
  unfold or_tp
  rw [h0]
  split <;> rfl
theorem or_tp_lt (i q : Nat) : or_tp N w a i q < or_M := Nat.mod_lt _ (by show 0 < 1000003; omega)
theorem or_tp_ln {i : Nat} (hw : bf_ok N w) (h : or_ln N w i < N) : or_tp N w a i (or_ln N w i) = or_ps N w a (i + 1) (or_ln N w i) := by
  have hr := (or_rdy_iff hw).mp (or_ln_rdy h)
  rw [or_psS, if_pos rfl]
  unfold or_tp
  congr 2
  refine pu_sum_congr (fun r _ => ?_)
  by_cases e : w r (or_ln N w i) = true
  · rw [if_pos ⟨hr.2 r e, e⟩, if_pos e]
  · rw [if_neg (fun z => e z.2), if_neg e]
theorem or_tp_step {i q : Nat} (hw : bf_ok N w) (h : or_ln N w i < N) : or_tp N w a (i + 1) q = if w (or_ln N w i) q = true then (or_tp N w a i q + or_tp N w a i (or_ln N w i)) % or_M else or_tp N w a i q := by
  have hn := or_P_new hw h
  by_cases e : w (or_ln N w i) q = true
  · rw [if_pos e, or_tp_ln hw h]
    unfold or_tp
    rw [pu_sum_one (f := fun r => if or_P N w i r = true ∧ w r q = true then or_ps N w a i r else 0) (p := or_ln N w i) h (by rw [if_neg (by rw [hn]; simp)]) (fun r hr hne => by
      rw [or_PS, or_psS, if_neg hne]
      simp [hne])]
    have hc : or_P N w (i + 1) (or_ln N w i) = true ∧ w (or_ln N w i) q = true := ⟨or_P_ln (Nat.lt_succ_self i), e⟩
    rw [if_pos hc, Nat.mod_add_mod, Nat.add_assoc]
  · rw [if_neg e]
    unfold or_tp
    congr 2
    refine pu_sum_congr (fun r _ => ?_)
    by_cases e2 : r = or_ln N w i
    · subst e2
      rw [if_neg (fun z => e z.2), if_neg (fun z => e z.2)]
    · rw [or_PS, or_psS, if_neg e2]
      simp [e2]
theorem or_tp_end {b : Nat} (hw : bf_ok N w) (h : or_ok N w N) (hb : b < N) : or_tp N w a N b = or_ps N w a N b := by
  obtain ⟨i, hi, rfl⟩ := or_P_from (or_all hw h hb)
  have hr := (or_rdy_iff hw).mp (or_ln_rdy (h i hi))
  rw [or_ps_keep hw h (i := i + 1) (by omega) (or_P_ln (Nat.lt_succ_self i)), ← or_tp_ln hw (h i hi)]
  unfold or_tp
  congr 2
  refine pu_sum_congr (fun r hr9 => ?_)
  by_cases e : w r (or_ln N w i) = true
  · have h1 := hr.2 r e
    rw [if_pos ⟨or_all hw h hr9, e⟩, if_pos ⟨h1, e⟩, or_ps_keep hw h (by omega) h1]
  · rw [if_neg (fun z => e z.2), if_neg (fun z => e z.2)]
end Or
