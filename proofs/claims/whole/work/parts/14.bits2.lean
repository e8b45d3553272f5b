/-! Sets of places: one place by its int, the least from a place on. -/
theorem nI_inj {a b : Nat} (ha : a < 2 ^ 31) (hb : b < 2 ^ 31) (h : nI a = nI b) : a = b := (nI_eq ha hb).mp h
theorem bt_one_nI {j i : Nat} (hj : j < 2 ^ 31) (hi : i < 2 ^ 31) : bt_one (nI j) i = decide (i = j) := by
  unfold bt_one
  by_cases e : i = j
  · subst e; simp
  · have : ¬ nI j = nI i := fun z => e (nI_inj hj hi z).symm
    simp [e, this]
theorem bt_one_no {p : Int32} {i : Nat} (hi : i < 2 ^ 31) (hp : p < 0) : bt_one p i = false := by
  unfold bt_one
  have : ¬ p = nI i := fun z => by
    rw [z] at hp
    exact nI_pos hi hp
  simp [this]
def bt_m (s : Nat → Bool) (p : Int32) : Bool := pu_ex (fun i => s i && bt_one p i) 128
theorem bt_m_at {s : Nat → Bool} {j : Nat} (hj : j < 128) : bt_m s (nI j) = s j := by
  unfold bt_m
  cases hs : s j with
  | false =>
    refine pu_ex_false.mpr (fun i hi => ?_)
    rw [bt_one_nI (by omega) (by omega)]
    by_cases e : i = j
    · subst e; rw [hs]; rfl
    · simp [e]
  | true => exact pu_ex_iff.mpr ⟨j, hj, by rw [hs, bt_one_nI (by omega) (by omega)]; simp⟩
theorem bt_m_no {s : Nat → Bool} {p : Int32} (hp : p < 0) : bt_m s p = false := pu_ex_false.mpr (fun i hi => by rw [bt_one_no (by omega) hp, Bool.and_false])
/-- lowBit -/
theorem bt_l_in {p : Int32} (h0 : 0 ≤ p) (h1 : p < nI 64) : (1 : Int64) <<< (p.toInt64 &&& 63) = bt_lo (bt_one p) := by
  obtain ⟨k, hk, rfl⟩ := nI_of (x := p) (fun z => by
    rw [Int32.lt_iff_toInt_lt, Int32.toInt_zero] at z
    rw [Int32.le_iff_toInt_le, Int32.toInt_zero] at h0
    omega)
  have hk2 : k < 64 := (nI_ltI hk (by decide)).mp h1
  rw [bt_shl hk2]
  exact bt_congr (fun i hi => by rw [bt_one_nI hk (by omega)])
theorem bt_l_out {p : Int32} (h : ¬ (0 ≤ p ∧ p < nI 64)) : bt_lo (bt_one p) = 0 := (bt_z _).mpr (fun i hi => by
  unfold bt_one
  have : ¬ p = nI i := fun z => h ⟨by rw [z]; exact nI_pos' (by omega), by rw [z]; exact nI_lt hi (by decide)⟩
  simp [this])
/-- highBit -/
theorem bt_h_in {p : Int32} (h0 : nI 64 ≤ p) (h1 : p < nI 128) : (1 : Int64) <<< ((p - nI 64).toInt64 &&& 63) = bt_hi (bt_one p) := by
  obtain ⟨k, hk, rfl⟩ := nI_of (x := p) (fun z => by
    rw [Int32.lt_iff_toInt_lt, Int32.toInt_zero] at z
    rw [Int32.le_iff_toInt_le, nI_toInt (by decide)] at h0
    omega)
  have hk2 : k < 128 := (nI_ltI hk (by decide)).mp h1
  have hk3 : 64 ≤ k := (nI_leI (by decide) hk).mp h0
  rw [pk_sub hk3, bt_shl (by omega), bt_hi_eq]
  refine bt_congr (fun i hi => ?_)
  rw [bt_one_nI hk (by omega)]
  by_cases e : i = k - 64
  · subst e
    have : 64 + (k - 64) = k := by omega
    simp [this]
  · have : ¬ 64 + i = k := by omega
    simp [e, this]
theorem bt_h_out {p : Int32} (h : ¬ (nI 64 ≤ p ∧ p < nI 128)) : bt_hi (bt_one p) = 0 := by
  rw [bt_hi_eq]
  refine (bt_z _).mpr (fun i hi => ?_)
  unfold bt_one
  have : ¬ p = nI (64 + i) := fun z => h ⟨by rw [z]; exact nI_le (by omega) (by omega), by rw [z]; exact nI_lt (by omega) (by decide)⟩
  simp [this]
theorem bt_hand (s t : Nat → Bool) : bt_hi s &&& bt_hi t = bt_hi (fun i => s i && t i) := by rw [bt_hi_eq, bt_hi_eq, bt_hi_eq, bt_and]
theorem bt_hor (s t : Nat → Bool) : bt_hi s ||| bt_hi t = bt_hi (fun i => s i || t i) := by rw [bt_hi_eq, bt_hi_eq, bt_hi_eq, bt_or]
theorem bt_hnot (t : Nat → Bool) : bt_hi t ^^^ (-1) = bt_hi (fun i => !t i) := by rw [bt_hi_eq, bt_hi_eq, bt_not]
theorem bt_hz (s : Nat → Bool) : bt_hi s = 0 ↔ ∀ i, 64 ≤ i → i < 128 → s i = false := by
  rw [bt_hi_eq, bt_z]
  constructor
  · intro h i h1 h2
    have := h (i - 64) (by omega)
    rwa [show 64 + (i - 64) = i by omega] at this
  · intro h i hi
    exact h (64 + i) (by omega) (by omega)
theorem bt_hcongr {s t : Nat → Bool} (h : ∀ i, i < 128 → s i = t i) : bt_hi s = bt_hi t := by
  rw [bt_hi_eq, bt_hi_eq]
  exact bt_congr (fun i hi => h (64 + i) (by omega))
/-- an element in both -/
def bt_meet (s t : Nat → Bool) : Bool := pu_ex (fun i => s i && t i) 128
theorem bt_meet_no {s t : Nat → Bool} : bt_meet s t = false ↔ (bt_lo s &&& bt_lo t = 0 ∧ bt_hi s &&& bt_hi t = 0) := by
  rw [bt_and, bt_hand, bt_z, bt_hz]
  unfold bt_meet
  rw [pu_ex_false]
  constructor
  · intro h
    exact ⟨fun i hi => h i (by omega), fun i h1 h2 => h i h2⟩
  · rintro ⟨h1, h2⟩ i hi
    rcases Nat.lt_or_ge i 64 with h | h
    · exact h1 i h
    · exact h2 i h hi
theorem bt_m_meet (s : Nat → Bool) (p : Int32) : bt_m s p = bt_meet s (bt_one p) := rfl
theorem bt_empty {s : Nat → Bool} : pu_ex s 128 = false ↔ (bt_lo s = 0 ∧ bt_hi s = 0) := by
  rw [bt_z, bt_hz, pu_ex_false]
  constructor
  · intro h
    exact ⟨fun i hi => h i (by omega), fun i h1 h2 => h i h2⟩
  · rintro ⟨h1, h2⟩ i hi
    rcases Nat.lt_or_ge i 64 with h | h
    · exact h1 i h
    · exact h2 i h hi
theorem bt_size (s : Nat → Bool) : nI (pu_cnt s 64) + nI (pu_cnt (fun i => s (64 + i)) 64) = nI (pu_cnt s 128) := by
  rw [nI_add, ← pu_cnt_split s 64 64]
/-- the least place from f on, 128 if there is none -/
def bt_nx (s : Nat → Bool) (f : Nat) : Nat := pu_fnd (fun i => s i && decide (f ≤ i)) 128
theorem bt_r1 (r : Nat) : lN (2 ^ r) - 1 = lN (2 ^ r - 1) := by
  have : (1 : Int64) = lN 1 := rfl
  rw [this, lN_sub (Nat.one_le_two_pow)]
theorem bt_ones {r : Nat} (hr : r < 64) : lN (2 ^ r - 1) = bt_lo (fun i => decide (i < r)) := bt_ext (fun i hi => by
  rw [wb_tb, BitVec.getLsbD_ofNat, Nat.testBit_two_pow_sub_one]
  simp [hi])
theorem bt_cntlt {r : Nat} : ∀ n, r ≤ n → pu_cnt (fun i => decide (i < r)) n = r := by
  intro n hn
  induction n with
  | zero => have : r = 0 := by omega
            subst this; rfl
  | succ n ih =>
    simp only [pu_cnt]
    by_cases e : r = n + 1
    · have h1 : pu_cnt (fun i => decide (i < r)) n = n := by
        have h2 := pu_cnt_le (fun i => decide (i < r)) n
        have h3 : ∀ k, k ≤ n → pu_cnt (fun i => decide (i < r)) k = k := by
          intro k hk
          induction k with
          | zero => rfl
          | succ k ih2 =>
            simp only [pu_cnt]
            rw [ih2 (by omega), if_pos (by simp; omega)]
        exact h3 n (Nat.le_refl _)
      rw [h1, if_pos (by simp; omega)]
      exact e.symm
    · rw [ih (by omega), if_neg (by simp; omega)]
      omega
theorem bt_some {t : Nat → Bool} (h : ¬ bt_lo t = 0) : pu_fnd t 64 < 64 := by
  rcases Nat.lt_or_ge (pu_fnd t 64) 64 with h1 | h1
  · exact h1
  · exact absurd ((bt_z t).mpr (fun i hi => pu_fnd_min (n := 64) (by omega))) h
theorem bt_lowest {t : Nat → Bool} (h : ¬ bt_lo t = 0) : (bt_lo t &&& -(bt_lo t)) - 1 = bt_lo (fun i => decide (i < pu_fnd t 64)) := by
  have h1 := bt_some h
  rw [bt_low h1 (pu_fnd_lt h1) (fun i hi => pu_fnd_min hi), bt_r1, bt_ones h1]
theorem bt_nx_low {s : Nat → Bool} {f : Nat} (h : ¬ bt_lo (fun i => s i && decide (f ≤ i)) = 0) : bt_nx s f = pu_fnd (fun i => s i && decide (f ≤ i)) 64 := by
  have h1 := bt_some h
  exact pu_fnd_eq (by omega) (pu_fnd_lt h1) (fun p hp => pu_fnd_min hp)
theorem bt_nx_high {s : Nat → Bool} {f : Nat} (h0 : bt_lo (fun i => s i && decide (f ≤ i)) = 0) (h : ¬ bt_lo (fun i => s (64 + i) && decide (f ≤ 64 + i)) = 0) : bt_nx s f = 64 + pu_fnd (fun i => s (64 + i) && decide (f ≤ 64 + i)) 64 := by
  have h1 := bt_some h
  refine pu_fnd_eq (by omega) (pu_fnd_lt h1) (fun p hp => ?_)
  rcases Nat.lt_or_ge p 64 with h2 | h2
  · exact (bt_z _).mp h0 p h2
  · have := pu_fnd_min (f := fun i => s (64 + i) && decide (f ≤ 64 + i)) (n := 64) (p := p - 64) (by omega)
    rwa [show 64 + (p - 64) = p by omega] at this
theorem bt_nx_none {s : Nat → Bool} {f : Nat} (h0 : bt_lo (fun i => s i && decide (f ≤ i)) = 0) (h : bt_lo (fun i => s (64 + i) && decide (f ≤ 64 + i)) = 0) : bt_nx s f = 128 := by
  refine pu_fnd_none (fun p hp => ?_)
  rcases Nat.lt_or_ge p 64 with h2 | h2
  · exact (bt_z _).mp h0 p h2
  · have := (bt_z _).mp h (p - 64) (by omega)
    rwa [show 64 + (p - 64) = p by omega] at this
