/-! Pure rows: searches and counts below a bound; layers; what is reached. -/
def pu_fnd (f : Nat → Bool) : Nat → Nat
  | 0 => 0
  | n + 1 => if pu_fnd f n < n then pu_fnd f n else if f n = true then n else n + 1
theorem pu_fnd_le (f : Nat → Bool) (n : Nat) : pu_fnd f n ≤ n := by
  induction n with
  | zero => simp [pu_fnd]
  | succ n ih => simp only [pu_fnd]; split <;> (try split) <;> omega
theorem pu_fnd_lt {f : Nat → Bool} {n : Nat} (h : pu_fnd f n < n) : f (pu_fnd f n) = true := by
  induction n with
  | zero => omega
  | succ n ih =>
    simp only [pu_fnd] at h ⊢
    split
    · rename_i h1; exact ih h1
    · rename_i h1
      split
      · rename_i h2; exact h2
      · rename_i h2
        rw [if_neg h1, if_neg h2] at h
        omega
theorem pu_fnd_min {f : Nat → Bool} {n p : Nat} (h : p < pu_fnd f n) : f p = false := by
  induction n with
  | zero => simp [pu_fnd] at h
  | succ n ih =>
    simp only [pu_fnd] at h
    split at h
    · exact ih h
    · rename_i h1
      have hle := pu_fnd_le f n
      split at h
      · exact ih (by omega)
      · rename_i h2
        by_cases e : p = n
        · subst e; simpa using h2
        · exact ih (by omega)
theorem pu_fnd_eq {f : Nat → Bool} {n r : Nat} (hr : r < n) (h1 : f r = true) (h2 : ∀ p, p < r → f p = false) : pu_fnd f n = r := by
  have hle := pu_fnd_le f n
  rcases Nat.lt_trichotomy (pu_fnd f n) r with h | h | h
  · have h3 := pu_fnd_lt (f := f) (n := n) (by omega)
    rw [h2 _ h] at h3
    cases h3
  · exact h
  · have h3 := pu_fnd_min h
    rw [h1] at h3
    cases h3
theorem pu_fnd_none {f : Nat → Bool} {n : Nat} (h : ∀ p, p < n → f p = false) : pu_fnd f n = n := by
  have hle := pu_fnd_le f n
  by_cases e : pu_fnd f n < n
  · have h3 := pu_fnd_lt e
    rw [h _ e] at h3
    cases h3
  · omega
theorem pu_fnd_congr {f g : Nat → Bool} {n : Nat} (h : ∀ p, p < n → f p = g p) : pu_fnd f n = pu_fnd g n := by
  induction n with
  | zero => rfl
  | succ n ih =>
    simp only [pu_fnd]
    rw [ih (fun p hp => h p (by omega)), h n (by omega)]
def pu_cnt (f : Nat → Bool) : Nat → Nat
  | 0 => 0
  | n + 1 => pu_cnt f n + if f n = true then 1 else 0
theorem pu_cnt_le (f : Nat → Bool) (n : Nat) : pu_cnt f n ≤ n := by
  induction n with
  | zero => simp [pu_cnt]
  | succ n ih => simp only [pu_cnt]; split <;> omega
theorem pu_cnt_congr {f g : Nat → Bool} {n : Nat} (h : ∀ p, p < n → f p = g p) : pu_cnt f n = pu_cnt g n := by
  induction n with
  | zero => rfl
  | succ n ih =>
    simp only [pu_cnt]
    rw [ih (fun p hp => h p (by omega)), h n (by omega)]
theorem pu_cnt_mono {f g : Nat → Bool} {n : Nat} (h : ∀ p, p < n → f p = true → g p = true) : pu_cnt f n ≤ pu_cnt g n := by
  induction n with
  | zero => simp [pu_cnt]
  | succ n ih =>
    simp only [pu_cnt]
    have h1 := ih (fun p hp => h p (by omega))
    have h2 := h n (by omega)
    by_cases hf : f n = true
    · rw [if_pos hf, if_pos (h2 hf)]; omega
    · rw [if_neg hf]; split <;> omega
theorem pu_cnt_lt {f g : Nat → Bool} {n q : Nat} (h : ∀ p, p < n → f p = true → g p = true) (hq : q < n) (h1 : f q = false) (h2 : g q = true) : pu_cnt f n < pu_cnt g n := by
  induction n with
  | zero => omega
  | succ n ih =>
    simp only [pu_cnt]
    by_cases e : q = n
    · subst e
      have h3 := pu_cnt_mono (f := f) (g := g) (n := q) (fun p hp => h p (by omega))
      rw [if_neg (by rw [h1]; decide), if_pos h2]
      omega
    · have h3 := ih (fun p hp => h p (by omega)) (by omega)
      have h4 := h n (by omega)
      by_cases hf : f n = true
      · rw [if_pos hf, if_pos (h4 hf)]; omega
      · rw [if_neg hf]; split <;> omega
theorem pu_cnt_zero {f : Nat → Bool} {n : Nat} : pu_cnt f n = 0 ↔ ∀ p, p < n → f p = false := by
  induction n with
  | zero => simp [pu_cnt]
  | succ n ih =>
    simp only [pu_cnt]
    constructor
    · intro h p hp
      have h1 : pu_cnt f n = 0 := by omega
      by_cases e : p = n
      · subst e
        by_cases hf : f p = true
        · rw [if_pos hf] at h; omega
        · simpa using hf
      · exact ih.mp h1 p (by omega)
    · intro h
      rw [ih.mpr (fun p hp => h p (by omega)), h n (by omega)]
      simp
theorem pu_cnt_full {f : Nat → Bool} {n : Nat} (h : n ≤ pu_cnt f n) : ∀ p, p < n → f p = true := by
  induction n with
  | zero => intro p hp; omega
  | succ n ih =>
    intro p hp
    simp only [pu_cnt] at h
    have hle := pu_cnt_le f n
    by_cases hf : f n = true
    · rw [if_pos hf] at h
      by_cases e : p = n
      · subst e; exact hf
      · exact ih (by omega) p (by omega)
    · rw [if_neg hf] at h; omega
theorem pu_cnt_add {f g : Nat → Bool} {n q : Nat} (hq : q < n) (h1 : f q = false) (h2 : g q = true) (h : ∀ p, p < n → p ≠ q → g p = f p) : pu_cnt g n = pu_cnt f n + 1 := by
  induction n with
  | zero => omega
  | succ n ih =>
    simp only [pu_cnt]
    by_cases e : q = n
    · subst e
      rw [pu_cnt_congr (f := g) (g := f) (n := q) (fun p hp => h p (by omega) (by omega)), h1, h2]
      simp
    · rw [ih (by omega) (fun p hp hne => h p (by omega) hne), h n (by omega) (by omega)]
      omega
def pu_ex (f : Nat → Bool) : Nat → Bool
  | 0 => false
  | n + 1 => pu_ex f n || f n
theorem pu_ex_iff {f : Nat → Bool} {n : Nat} : pu_ex f n = true ↔ ∃ p, p < n ∧ f p = true := by
  induction n with
  | zero => simp [pu_ex]
  | succ n ih =>
    simp only [pu_ex, Bool.or_eq_true, ih]
    constructor
    · rintro (⟨p, h1, h2⟩ | h)
      · exact ⟨p, by omega, h2⟩
      · exact ⟨n, by omega, h⟩
    · rintro ⟨p, h1, h2⟩
      by_cases e : p = n
      · subst e; exact Or.inr h2
      · exact Or.inl ⟨p, by omega, h2⟩
theorem pu_ex_false {f : Nat → Bool} {n : Nat} : pu_ex f n = false ↔ ∀ p, p < n → f p = false := by
  constructor
  · intro h p hp
    cases hf : f p with
    | false => rfl
    | true => rw [pu_ex_iff.mpr ⟨p, hp, hf⟩] at h; cases h
  · intro h
    cases hf : pu_ex f n with
    | false => rfl
    | true =>
      obtain ⟨p, h1, h2⟩ := pu_ex_iff.mp hf
      rw [h p h1] at h2; cases h2
-- layers: what has been reached behind k steps, and what is new at the k-th
def bf_st (N : Nat) (w : Nat → Nat → Bool) (sh : Nat → Bool) (a : Nat) : Nat → (Nat → Bool) × (Nat → Bool)
  | 0 => (fun q => q == a && !sh a, fun q => q == a && !sh a)
  | k + 1 => (fun q => (bf_st N w sh a k).1 q || (pu_ex (fun p => (bf_st N w sh a k).2 p && w p q) N && !(bf_st N w sh a k).1 q && !sh q), fun q => pu_ex (fun p => (bf_st N w sh a k).2 p && w p q) N && !(bf_st N w sh a k).1 q && !sh q)
def bf_R (N : Nat) (w : Nat → Nat → Bool) (sh : Nat → Bool) (a k : Nat) : Nat → Bool := (bf_st N w sh a k).1
def bf_F (N : Nat) (w : Nat → Nat → Bool) (sh : Nat → Bool) (a k : Nat) : Nat → Bool := (bf_st N w sh a k).2
/-- reached from a without a place of sh -/
def bf_r (N : Nat) (w : Nat → Nat → Bool) (sh : Nat → Bool) (a : Nat) : Nat → Bool := bf_R N w sh a N
def bf_ok (N : Nat) (w : Nat → Nat → Bool) : Prop := ∀ p q, w p q = true → p < N ∧ q < N
section Bf
variable {N : Nat} {w : Nat → Nat → Bool} {sh : Nat → Bool} {a : Nat}
theorem bf_R0 (q : Nat) : bf_R N w sh a 0 q = (q == a && !sh a) := rfl
theorem bf_F0 (q : Nat) : bf_F N w sh a 0 q = (q == a && !sh a) := rfl
theorem bf_FS (k q : Nat) : bf_F N w sh a (k + 1) q = (pu_ex (fun p => bf_F N w sh a k p && w p q) N && !bf_R N w sh a k q && !sh q) := rfl
theorem bf_RS (k q : Nat) : bf_R N w sh a (k + 1) q = (bf_R N w sh a k q || bf_F N w sh a (k + 1) q) := rfl
theorem bf_FR {k q : Nat} (h : bf_F N w sh a k q = true) : bf_R N w sh a k q = true := by
  cases k with
  | zero => exact h
  | succ k => rw [bf_RS, h, Bool.or_true]
theorem bf_R_succ {k q : Nat} (h : bf_R N w sh a k q = true) : bf_R N w sh a (k + 1) q = true := by rw [bf_RS, h, Bool.true_or]
theorem bf_R_mono {j k q : Nat} (hjk : j ≤ k) (h : bf_R N w sh a j q = true) : bf_R N w sh a k q = true := by
  induction k with
  | zero => have : j = 0 := by omega
            subst this; exact h
  | succ k ih =>
    by_cases e : j = k + 1
    · subst e; exact h
    · exact bf_R_succ (ih (by omega))
theorem bf_R_F {k q : Nat} (h : bf_R N w sh a k q = true) : ∃ j, j ≤ k ∧ bf_F N w sh a j q = true := by
  induction k with
  | zero => exact ⟨0, Nat.le_refl _, h⟩
  | succ k ih =>
    rw [bf_RS, Bool.or_eq_true] at h
    rcases h with h | h
    · obtain ⟨j, h1, h2⟩ := ih h
      exact ⟨j, by omega, h2⟩
    · exact ⟨k + 1, Nat.le_refl _, h⟩
theorem bf_F_new {k q : Nat} (h : bf_F N w sh a (k + 1) q = true) : bf_R N w sh a k q = false := by
  rw [bf_FS] at h
  simp only [Bool.and_eq_true, Bool.not_eq_true'] at h
  exact h.1.2
theorem bf_F_inj {i j q : Nat} (hi : bf_F N w sh a i q = true) (hj : bf_F N w sh a j q = true) : i = j := by
  have key : ∀ i j, i < j → bf_F N w sh a i q = true → bf_F N w sh a j q = true → False := by
    intro i j hij h1 h2
    cases j with
    | zero => omega
    | succ j =>
      have h3 := bf_F_new h2
      rw [bf_R_mono (by omega) (bf_FR h1)] at h3
      cases h3
  rcases Nat.lt_trichotomy i j with h | h | h
  · exact (key i j h hi hj).elim
  · exact h
  · exact (key j i h hj hi).elim
theorem bf_F_lt (hw : bf_ok N w) (ha : a < N) {k q : Nat} (h : bf_F N w sh a k q = true) : q < N := by
  cases k with
  | zero =>
    rw [bf_F0] at h
    simp only [Bool.and_eq_true, beq_iff_eq] at h
    omega
  | succ k =>
    rw [bf_FS] at h
    simp only [Bool.and_eq_true] at h
    obtain ⟨p, h1, h2⟩ := pu_ex_iff.mp h.1.1
    simp only [Bool.and_eq_true] at h2
    exact (hw p q h2.2).2
theorem bf_F_sh {k q : Nat} (h : bf_F N w sh a k q = true) : sh q = false := by
  cases k with
  | zero =>
    rw [bf_F0] at h
    simp only [Bool.and_eq_true, beq_iff_eq, Bool.not_eq_true'] at h
    rw [h.1]; exact h.2
  | succ k =>
    rw [bf_FS] at h
    simp only [Bool.and_eq_true, Bool.not_eq_true'] at h
    exact h.2
theorem bf_F_empty {k : Nat} (h : ∀ q, bf_F N w sh a k q = false) : ∀ j, k ≤ j → ∀ q, bf_F N w sh a j q = false := by
  intro j hj
  induction j with
  | zero => have : k = 0 := by omega
            subst this; exact h
  | succ j ih =>
    by_cases e : k = j + 1
    · subst e; exact h
    · intro q
      have h1 := ih (by omega)
      rw [bf_FS]
      have : pu_ex (fun p => bf_F N w sh a j p && w p q) N = false := pu_ex_false.mpr (fun p _ => by rw [h1 p]; rfl)
      rw [this]; rfl
theorem bf_R_stop {k : Nat} (h : ∀ q, bf_F N w sh a (k + 1) q = false) : ∀ j, k ≤ j → ∀ q, bf_R N w sh a j q = bf_R N w sh a k q := by
  intro j hj
  induction j with
  | zero => have : k = 0 := by omega
            subst this; exact fun _ => rfl
  | succ j ih =>
    by_cases e : k = j + 1
    · subst e; exact fun _ => rfl
    · intro q
      rw [bf_RS, bf_F_empty h (j + 1) (by omega) q, Bool.or_false]
      exact ih (by omega) q
theorem bf_cnt (hw : bf_ok N w) (ha : a < N) {k q : Nat} (h : bf_F N w sh a k q = true) : k + 1 ≤ pu_cnt (bf_R N w sh a k) N := by
  induction k generalizing q with
  | zero =>
    have h1 : 0 < pu_cnt (bf_R N w sh a 0) N := by
      rcases Nat.eq_zero_or_pos (pu_cnt (bf_R N w sh a 0) N) with h0 | h0
      · have := pu_cnt_zero.mp h0 q (bf_F_lt hw ha h)
        rw [bf_FR h] at this; cases this
      · exact h0
    omega
  | succ k ih =>
    have h0 := h
    rw [bf_FS] at h0
    simp only [Bool.and_eq_true] at h0
    obtain ⟨p, h1, h2⟩ := pu_ex_iff.mp h0.1.1
    simp only [Bool.and_eq_true] at h2
    have h3 := ih h2.1
    have h4 := pu_cnt_lt (f := bf_R N w sh a k) (g := bf_R N w sh a (k + 1)) (n := N) (q := q) (fun p _ hp => bf_R_succ hp) (bf_F_lt hw ha h) (bf_F_new h) (bf_FR h)
    omega
theorem bf_F_bound (hw : bf_ok N w) (ha : a < N) {k q : Nat} (h : bf_F N w sh a k q = true) : k < N := by
  have h1 := bf_cnt hw ha h
  have h2 := pu_cnt_le (bf_R N w sh a k) N
  omega
theorem bf_r_iff (hw : bf_ok N w) (ha : a < N) {q : Nat} : bf_r N w sh a q = true ↔ ∃ k, k < N ∧ bf_F N w sh a k q = true := by
  constructor
  · intro h
    obtain ⟨j, h1, h2⟩ := bf_R_F h
    exact ⟨j, bf_F_bound hw ha h2, h2⟩
  · rintro ⟨k, h1, h2⟩
    exact bf_R_mono (by omega) (bf_FR h2)
theorem bf_r_lt (hw : bf_ok N w) (ha : a < N) {q : Nat} (h : bf_r N w sh a q = true) : q < N := by
  obtain ⟨k, -, h2⟩ := (bf_r_iff hw ha).mp h
  exact bf_F_lt hw ha h2
theorem bf_r_sh (hw : bf_ok N w) (ha : a < N) {q : Nat} (h : bf_r N w sh a q = true) : sh q = false := by
  obtain ⟨k, -, h2⟩ := (bf_r_iff hw ha).mp h
  exact bf_F_sh h2
theorem bf_r_start (h : sh a = false) : bf_r N w sh a a = true := bf_R_mono (Nat.zero_le _) (by rw [bf_R0, h]; simp)
theorem bf_r_step (hw : bf_ok N w) (ha : a < N) {p q : Nat} (hp : bf_r N w sh a p = true) (hpq : w p q = true) (hq : sh q = false) : bf_r N w sh a q = true := by
  obtain ⟨k, h1, h2⟩ := (bf_r_iff hw ha).mp hp
  by_cases h3 : bf_R N w sh a k q = true
  · exact bf_R_mono (by omega) h3
  · refine bf_R_mono (j := k + 1) (by omega) (bf_FR ?_)
    rw [bf_FS]
    have h4 : pu_ex (fun p => bf_F N w sh a k p && w p q) N = true := pu_ex_iff.mpr ⟨p, (hw p q hpq).1, by rw [h2, hpq]; rfl⟩
    simp only [Bool.not_eq_true] at h3
    rw [h4, h3, hq]; rfl
theorem bf_r_ind {P : Nat → Prop} (h0 : sh a = false → P a) (hs : ∀ p q, bf_r N w sh a p = true → P p → w p q = true → sh q = false → P q) (hw : bf_ok N w) (ha : a < N) {q : Nat} (h : bf_r N w sh a q = true) : P q := by
  have key : ∀ k q, bf_F N w sh a k q = true → P q := by
    intro k
    induction k with
    | zero =>
      intro q hq
      rw [bf_F0] at hq
      simp only [Bool.and_eq_true, beq_iff_eq, Bool.not_eq_true'] at hq
      rw [hq.1]; exact h0 hq.2
    | succ k ih =>
      intro q hq
      have h9 := bf_F_sh hq
      rw [bf_FS] at hq
      simp only [Bool.and_eq_true] at hq
      obtain ⟨p, h1, h2⟩ := pu_ex_iff.mp hq.1.1
      simp only [Bool.and_eq_true] at h2
      exact hs p q ((bf_r_iff hw ha).mpr ⟨k, bf_F_bound hw ha h2.1, h2.1⟩) (ih p h2.1) h2.2 h9
  obtain ⟨k, -, h2⟩ := (bf_r_iff hw ha).mp h
  exact key k q h2
/-- the number of ways, or none -/
def bf_d (N : Nat) (w : Nat → Nat → Bool) (sh : Nat → Bool) (a b : Nat) : Int32 := if bf_r N w sh a b = true then nI (pu_fnd (fun k => bf_F N w sh a k b) N) else -1
theorem bf_d_at (hw : bf_ok N w) (ha : a < N) {k b : Nat} (h : bf_F N w sh a k b = true) : bf_d N w sh a b = nI k := by
  have hk := bf_F_bound hw ha h
  have h1 : bf_r N w sh a b = true := (bf_r_iff hw ha).mpr ⟨k, hk, h⟩
  unfold bf_d
  rw [if_pos h1, pu_fnd_eq hk h (fun p hp => ?_)]
  cases hf : bf_F N w sh a p b with
  | false => rfl
  | true => have := bf_F_inj h hf; omega
theorem bf_d_no (hw : bf_ok N w) (ha : a < N) {b : Nat} (h : bf_r N w sh a b = false) : bf_d N w sh a b = -1 := by
  unfold bf_d
  rw [if_neg (by rw [h]; decide)]
end Bf
