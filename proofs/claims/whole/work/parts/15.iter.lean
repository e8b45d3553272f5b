/-! Going over a set upwards. -/
theorem bt_nx_le (s : Nat → Bool) (f : Nat) : bt_nx s f ≤ 128 := pu_fnd_le _ _
theorem bt_nx_in {s : Nat → Bool} {f : Nat} (h : bt_nx s f < 128) : s (bt_nx s f) = true ∧ f ≤ bt_nx s f := by
  have h1 := pu_fnd_lt h
  simp only [Bool.and_eq_true, decide_eq_true_eq] at h1
  exact h1
theorem bt_nx_gap {s : Nat → Bool} {f i : Nat} (h1 : f ≤ i) (h2 : i < bt_nx s f) : s i = false := by
  have h := pu_fnd_min h2
  simpa [h1] using h
/-- a set below N: the next one is below N, or there is none -/
theorem bt_nx_N {s : Nat → Bool} {N f : Nat} (hs : ∀ i, s i = true → i < N) (h : N ≤ bt_nx s f) (hN : N ≤ 128) : bt_nx s f = 128 ∧ ∀ i, f ≤ i → s i = false := by
  have hle := bt_nx_le s f
  have e : bt_nx s f = 128 := by
    rcases Nat.lt_or_ge (bt_nx s f) 128 with h1 | h1
    · have := hs _ (bt_nx_in h1).1
      omega
    · omega
  refine ⟨e, fun i hi => ?_⟩
  rcases Nat.lt_or_ge i 128 with h1 | h1
  · exact bt_nx_gap hi (by omega)
  · cases hi2 : s i with
    | false => rfl
    | true => have := hs i hi2; omega
/-- what has been met below f -/
def bt_vis (s : Nat → Bool) (f : Nat) : Nat → Bool := fun i => s i && decide (i < f)
theorem bt_vis_0 (s : Nat → Bool) (i : Nat) : bt_vis s 0 i = false := by simp [bt_vis]
theorem bt_vis_step {s : Nat → Bool} {f : Nat} (h : bt_nx s f < 128) (i : Nat) : bt_vis s (bt_nx s f + 1) i = (bt_vis s f i || decide (i = bt_nx s f)) := by
  obtain ⟨h1, h2⟩ := bt_nx_in h
  unfold bt_vis
  by_cases e : i = bt_nx s f
  · have h3 : s i = true := by rw [e]; exact h1
    have h4 : i < bt_nx s f + 1 := by omega
    rw [h3, decide_eq_true h4, decide_eq_true e]
    cases decide (i < f) <;> rfl
  · by_cases h3 : i < f
    · have h4 : i < bt_nx s f + 1 := by omega
      simp [h3, h4, e]
    · by_cases h4 : i < bt_nx s f
      · rw [bt_nx_gap (by omega) h4]
        simp [e]
      · have h5 : ¬ i < bt_nx s f + 1 := by omega
        simp [h3, h5, e]
theorem bt_vis_end {s : Nat → Bool} {f : Nat} (h : ∀ i, f ≤ i → s i = false) (i : Nat) : bt_vis s f i = s i := by
  unfold bt_vis
  by_cases h1 : i < f
  · simp [h1]
  · rw [h i (by omega)]; rfl
theorem mw_down {P : Nat → Prop} (n : Nat) (h : ∀ i, i ≤ n → (i < n → P (i + 1)) → P i) : ∀ i, i ≤ n → P i := by
  have key : ∀ k i, i ≤ n → n - i = k → P i := by
    intro k
    induction k with
    | zero => intro i h1 h2; exact h i h1 (fun h3 => by omega)
    | succ k ih => intro i h1 h2; exact h i h1 (fun h3 => ih (i + 1) (by omega) (by omega))
  exact fun i hi => key (n - i) i hi rfl
theorem mw_sdown {P : Nat → Prop} (n : Nat) (h : ∀ i, i ≤ n → (∀ j, i < j → j ≤ n → P j) → P i) : ∀ i, i ≤ n → P i := by
  have key : ∀ k i, i ≤ n → n - i ≤ k → P i := by
    intro k
    induction k with
    | zero => intro i h1 h2; exact h i h1 (fun j h3 h4 => by omega)
    | succ k ih => intro i h1 h2; exact h i h1 (fun j h3 h4 => ih j h4 (by omega))
  exact fun i hi => key (n - i) i hi (Nat.le_refl _)
theorem pu_ex_or (f g : Nat → Bool) (n : Nat) : pu_ex (fun i => f i || g i) n = (pu_ex f n || pu_ex g n) := by
  induction n with
  | zero => rfl
  | succ n ih => simp only [pu_ex]; rw [ih]; cases pu_ex f n <;> cases pu_ex g n <;> cases f n <;> cases g n <;> rfl
theorem pu_ex_congr {f g : Nat → Bool} {n : Nat} (h : ∀ p, p < n → f p = g p) : pu_ex f n = pu_ex g n := by
  induction n with
  | zero => rfl
  | succ n ih => simp only [pu_ex]; rw [ih (fun p hp => h p (by omega)), h n (by omega)]
theorem pu_ex_one {g : Nat → Bool} {n k : Nat} (hk : k < n) : pu_ex (fun i => decide (i = k) && g i) n = g k := by
  cases h : g k with
  | true => exact pu_ex_iff.mpr ⟨k, hk, by simp [h]⟩
  | false =>
    refine pu_ex_false.mpr (fun p hp => ?_)
    by_cases e : p = k
    · subst e; simp [h]
    · simp [e]
