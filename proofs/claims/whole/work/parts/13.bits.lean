/-! Sets of places as two longs. -/
def bt_n (s : Nat → Bool) : Nat → Nat
  | 0 => 0
  | k + 1 => bt_n s k + if s k = true then 2 ^ k else 0
theorem bt_n_lt (s : Nat → Bool) (k : Nat) : bt_n s k < 2 ^ k := by
  induction k with
  | zero => simp [bt_n]
  | succ k ih =>
    simp only [bt_n]
    have : 2 ^ (k + 1) = 2 ^ k + 2 ^ k := by rw [Nat.pow_succ]; omega
    split <;> omega
theorem bt_n_test (s : Nat → Bool) (k i : Nat) : (bt_n s k).testBit i = (decide (i < k) && s i) := by
  induction k with
  | zero => simp [bt_n]
  | succ k ih =>
    simp only [bt_n]
    have hlt := bt_n_lt s k
    by_cases hk : s k = true
    · rw [if_pos hk, Nat.add_comm]
      rcases Nat.lt_trichotomy i k with h | h | h
      · rw [Nat.testBit_two_pow_add_gt h, ih]
        simp [h, Nat.lt_succ_of_lt h]
      · subst h
        rw [Nat.testBit_two_pow_add_eq, Nat.testBit_lt_two_pow hlt]
        simp [hk]
      · have h2 : 2 ^ k + bt_n s k < 2 ^ i := by
          have : 2 ^ (k + 1) ≤ 2 ^ i := Nat.pow_le_pow_right (by decide) h
          have h3 : 2 ^ (k + 1) = 2 ^ k + 2 ^ k := by rw [Nat.pow_succ]; omega
          omega
        rw [Nat.testBit_lt_two_pow h2]
        have : ¬ i < k + 1 := by omega
        simp [this]
    · rw [if_neg hk, Nat.add_zero, ih]
      rcases Nat.lt_trichotomy i k with h | h | h
      · simp [h, Nat.lt_succ_of_lt h]
      · subst h
        simp [hk]
      · have h1 : ¬ i < k + 1 := by omega
        have h2 : ¬ i < k := by omega
        simp [h1, h2]
def bt_lo (s : Nat → Bool) : Int64 := lN (bt_n s 64)
def bt_hi (s : Nat → Bool) : Int64 := lN (bt_n (fun i => s (64 + i)) 64)
theorem bt_get {s : Nat → Bool} {i : Nat} (hi : i < 64) : (bt_lo s).toBitVec.getLsbD i = s i := by
  have h := bt_n_lt s 64
  rw [bt_lo, wb_tb, BitVec.getLsbD_ofNat, bt_n_test]
  simp [hi]
theorem bt_hi_eq (s : Nat → Bool) : bt_hi s = bt_lo (fun i => s (64 + i)) := rfl
theorem bt_ext {x : Int64} {s : Nat → Bool} (h : ∀ i, i < 64 → x.toBitVec.getLsbD i = s i) : x = bt_lo s := by
  apply wb_inj
  apply BitVec.eq_of_getLsbD_eq
  intro i hi
  rw [h i hi, bt_get hi]
theorem bt_congr {s t : Nat → Bool} (h : ∀ i, i < 64 → s i = t i) : bt_lo s = bt_lo t := bt_ext (fun i hi => by rw [bt_get hi, h i hi])
theorem bt_or (s t : Nat → Bool) : bt_lo s ||| bt_lo t = bt_lo (fun i => s i || t i) := bt_ext (fun i hi => by
  rw [Int64.toBitVec_or, BitVec.getLsbD_or, bt_get hi, bt_get hi])
theorem bt_and (s t : Nat → Bool) : bt_lo s &&& bt_lo t = bt_lo (fun i => s i && t i) := bt_ext (fun i hi => by
  rw [Int64.toBitVec_and, BitVec.getLsbD_and, bt_get hi, bt_get hi])
theorem bt_m1 {i : Nat} (hi : i < 64) : (-1 : Int64).toBitVec.getLsbD i = true := by
  have : (-1 : Int64).toBitVec = BitVec.allOnes 64 := by decide
  rw [this, BitVec.getLsbD_allOnes]
  simp [hi]
theorem bt_not (t : Nat → Bool) : bt_lo t ^^^ (-1) = bt_lo (fun i => !t i) := bt_ext (fun i hi => by
  rw [Int64.toBitVec_xor, BitVec.getLsbD_xor, bt_get hi, bt_m1 hi]
  cases t i <;> rfl)
theorem bt_zero : bt_lo (fun _ => false) = 0 := (bt_ext (fun i hi => by
  show (0#64).getLsbD i = false
  simp)).symm
theorem bt_z (s : Nat → Bool) : bt_lo s = 0 ↔ ∀ i, i < 64 → s i = false := by
  constructor
  · intro h i hi
    rw [← bt_get (s := s) hi, h]
    show (0#64).getLsbD i = false
    simp
  · intro h
    rw [bt_congr h]
    exact bt_zero
theorem bt_neg {s : Nat → Bool} {i : Nat} (hi : i < 64) : (-(bt_lo s)).toBitVec.getLsbD i = (s i ^^ decide (∃ j, j < i ∧ s j = true)) := by
  rw [Int64.toBitVec_neg, BitVec.getLsbD_neg, bt_get hi]
  have : (∃ j, j < i ∧ (bt_lo s).toBitVec.getLsbD j = true) ↔ ∃ j, j < i ∧ s j = true := by
    constructor
    · rintro ⟨j, h1, h2⟩
      exact ⟨j, h1, by rw [bt_get (by omega)] at h2; exact h2⟩
    · rintro ⟨j, h1, h2⟩
      exact ⟨j, h1, by rw [bt_get (by omega)]; exact h2⟩
  simp only [hi, decide_true, Bool.true_and, this]
/-- the set of one place, by its int -/
def bt_one (p : Int32) : Nat → Bool := fun i => decide (p = nI i)
theorem bt_pow {k : Nat} (hk : k < 64) : lN (2 ^ k) = bt_lo (fun i => decide (i = k)) := bt_ext (fun i hi => by
  rw [wb_tb, BitVec.getLsbD_ofNat, Nat.testBit_two_pow]
  by_cases e : k = i
  · subst e; simp [hi]
  · have e2 : ¬ i = k := fun z => e z.symm
    simp [e, e2])
theorem bt_shl {k : Nat} (hk : k < 64) : (1 : Int64) <<< ((nI k).toInt64 &&& 63) = bt_lo (fun i => decide (i = k)) := by
  rw [← bt_pow hk]
  have h := wb_shl 1 hk
  rw [Nat.one_mul] at h
  exact h
/-- from f on -/
theorem bt_from {s : Nat → Bool} {f : Nat} (hf : f < 64) : bt_lo s &&& -(bt_lo (fun i => decide (i = f))) = bt_lo (fun i => s i && decide (f ≤ i)) := bt_ext (fun i hi => by
  rw [Int64.toBitVec_and, BitVec.getLsbD_and, bt_get hi, bt_neg hi]
  congr 1
  by_cases e : i = f
  · subst e
    have h1 : ¬ ∃ j, j < i ∧ decide (j = i) = true := by
      rintro ⟨j, h1, h2⟩
      simp at h2; omega
    simp [h1]
  · rcases Nat.lt_or_ge f i with h | h
    · have h1 : ∃ j, j < i ∧ decide (j = f) = true := ⟨f, h, by simp⟩
      have h2 : f ≤ i := by omega
      rw [decide_eq_true h1, decide_eq_true h2, decide_eq_false e]
      rfl
    · have h1 : ¬ ∃ j, j < i ∧ decide (j = f) = true := by
        rintro ⟨j, h1, h2⟩
        simp at h2; omega
      have h2 : ¬ f ≤ i := by omega
      rw [decide_eq_false h1, decide_eq_false h2, decide_eq_false e]
      rfl)
/-- the lowest set bit alone -/
theorem bt_low {s : Nat → Bool} {r : Nat} (hr : r < 64) (h1 : s r = true) (h2 : ∀ i, i < r → s i = false) : bt_lo s &&& -(bt_lo s) = lN (2 ^ r) := by
  rw [bt_pow hr]
  refine bt_ext (fun i hi => ?_)
  rw [Int64.toBitVec_and, BitVec.getLsbD_and, bt_get hi, bt_neg hi]
  rcases Nat.lt_trichotomy i r with h | h | h
  · have e : ¬ i = r := by omega
    rw [h2 i h]
    simp [e]
  · subst h
    have h3 : ¬ ∃ j, j < i ∧ s j = true := by
      rintro ⟨j, h3, h4⟩
      rw [h2 j h3] at h4; cases h4
    simp [h1, h3]
  · have h3 : ∃ j, j < i ∧ s j = true := ⟨r, h, h1⟩
    have e : ¬ i = r := by omega
    cases s i <;> simp [h3, e]
-- the number of set bits, byte by byte
def bc_5 : Nat → Nat
  | 0 => 0
  | k + 1 => 0x55 + 256 * bc_5 k
def bc_3 : Nat → Nat
  | 0 => 0
  | k + 1 => 0x33 + 256 * bc_3 k
def bc_f : Nat → Nat
  | 0 => 0
  | k + 1 => 0x0f + 256 * bc_f k
def bc_a (k n : Nat) : Nat := n - ((n / 2) &&& bc_5 k)
def bc_b (k n : Nat) : Nat := (bc_a k n &&& bc_3 k) + ((bc_a k n / 4) &&& bc_3 k)
def bc_c (k n : Nat) : Nat := (bc_b k n + bc_b k n / 16) &&& bc_f k
theorem bc_land {x m0 m1 : Nat} (hm : m0 < 256) : x &&& (m0 + 256 * m1) = ((x % 256) &&& m0) + 256 * ((x / 256) &&& m1) := by
  have h1 : (x &&& (m0 + 256 * m1)) % 2 ^ 8 = (x % 2 ^ 8) &&& ((m0 + 256 * m1) % 2 ^ 8) := Nat.and_mod_two_pow
  have h2 : (x &&& (m0 + 256 * m1)) / 2 ^ 8 = (x / 2 ^ 8) &&& ((m0 + 256 * m1) / 2 ^ 8) := Nat.and_div_two_pow
  have e1 : (m0 + 256 * m1) % 2 ^ 8 = m0 := by omega
  have e2 : (m0 + 256 * m1) / 2 ^ 8 = m1 := by omega
  rw [e1] at h1
  rw [e2] at h2
  have h3 := Nat.div_add_mod (x &&& (m0 + 256 * m1)) (2 ^ 8)
  rw [h1, h2] at h3
  have e3 : (2 : Nat) ^ 8 = 256 := rfl
  rw [e3] at h3
  omega
theorem bc_d1 : ∀ x, x < 256 → ∀ y, y < 2 → ((x / 2 + 128 * y) &&& 0x55) = ((x / 2) &&& 0x55) := by decide +kernel
theorem bc_d2 : ∀ x, x < 256 → ∀ y, y < 4 → ((x / 4 + 64 * y) &&& 0x33) = ((x / 4) &&& 0x33) := by decide +kernel
theorem bc_d3 : ∀ x, x < 256 → bc_a 1 x < 256 ∧ bc_b 1 x % 16 ≤ 4 ∧ bc_b 1 x / 16 ≤ 4 := by decide +kernel
theorem bc_d4 : ∀ x, x < 128 → ∀ y, y < 5 → ((x + 16 * y) &&& 0x0f) = (x &&& 0x0f) := by decide +kernel
theorem bc_d5 : ∀ x, x < 256 → bc_c 1 x = pu_cnt (fun i => x.testBit i) 8 := by decide +kernel
theorem bc_a_step (k x m : Nat) (hx : x < 256) : bc_a (k + 1) (x + 256 * m) = bc_a 1 x + 256 * bc_a k m := by
  unfold bc_a
  have h1 : (x + 256 * m) / 2 = x / 2 + 128 * m := by omega
  have h2 : (x / 2 + 128 * m) % 256 = x / 2 + 128 * (m % 2) := by omega
  have h3 : (x / 2 + 128 * m) / 256 = m / 2 := by omega
  have h4 : x / 2 &&& bc_5 1 = x / 2 &&& 0x55 := rfl
  rw [h1, bc_5, bc_land (by decide), h2, h3, bc_d1 x hx (m % 2) (by omega), h4]
  have h5 : x / 2 &&& 0x55 ≤ x / 2 := Nat.and_le_left
  have h6 : m / 2 &&& bc_5 k ≤ m / 2 := Nat.and_le_left
  omega
theorem bc_b_step (k x m : Nat) (hx : x < 256) : bc_b (k + 1) (x + 256 * m) = bc_b 1 x + 256 * bc_b k m := by
  unfold bc_b
  have ha := (bc_d3 x hx).1
  rw [bc_a_step k x m hx]
  generalize bc_a 1 x = u at ha ⊢
  generalize bc_a k m = v
  have h1 : (u + 256 * v) % 256 = u := by omega
  have h2 : (u + 256 * v) / 256 = v := by omega
  have h3 : (u + 256 * v) / 4 = u / 4 + 64 * v := by omega
  have h4 : (u / 4 + 64 * v) % 256 = u / 4 + 64 * (v % 4) := by omega
  have h5 : (u / 4 + 64 * v) / 256 = v / 4 := by omega
  have h6 : ∀ z, z &&& bc_3 1 = z &&& 0x33 := fun _ => rfl
  rw [h3, bc_3, bc_land (by decide), bc_land (by decide), h1, h2, h4, h5, bc_d2 u ha (v % 4) (by omega), h6, h6]
  omega
theorem bc_b_mod (k n : Nat) : bc_b k n % 16 ≤ 4 := by
  cases k with
  | zero => simp [bc_b, bc_3]
  | succ k =>
    have h := bc_b_step k (n % 256) (n / 256) (Nat.mod_lt _ (by decide))
    rw [show n % 256 + 256 * (n / 256) = n by omega] at h
    have h2 := bc_d3 (n % 256) (Nat.mod_lt _ (by decide))
    omega
theorem bc_c_step (k x m : Nat) (hx : x < 256) : bc_c (k + 1) (x + 256 * m) = bc_c 1 x + 256 * bc_c k m := by
  unfold bc_c
  obtain ⟨-, h1, h2⟩ := bc_d3 x hx
  have h3 := bc_b_mod k m
  rw [bc_b_step k x m hx]
  generalize bc_b 1 x = u at h1 h2 ⊢
  generalize bc_b k m = v at h3 ⊢
  have h4 : u + 256 * v + (u + 256 * v) / 16 = (u + u / 16 + 16 * (v % 16)) + 256 * (v + v / 16) := by omega
  have h5 : ((u + u / 16 + 16 * (v % 16)) + 256 * (v + v / 16)) % 256 = u + u / 16 + 16 * (v % 16) := by omega
  have h6 : ((u + u / 16 + 16 * (v % 16)) + 256 * (v + v / 16)) / 256 = v + v / 16 := by omega
  have h7 : ∀ z, z &&& bc_f 1 = z &&& 0x0f := fun _ => rfl
  rw [h4, bc_f, bc_land (by decide), h5, h6, bc_d4 (u + u / 16) (by omega) (v % 16) (by omega), h7]
theorem pu_cnt_split (f : Nat → Bool) (a b : Nat) : pu_cnt f (a + b) = pu_cnt f a + pu_cnt (fun i => f (a + i)) b := by
  induction b with
  | zero => rfl
  | succ b ih =>
    rw [← Nat.add_assoc]
    simp only [pu_cnt]
    rw [ih]
    omega
theorem bc_one (k n : Nat) : ∃ c, c ≤ 8 ∧ bc_c (k + 1) n = c + 256 * bc_c k (n / 256) ∧ pu_cnt (fun i => n.testBit i) (8 + 8 * k) = c + pu_cnt (fun i => (n / 256).testBit i) (8 * k) := by
  have hx : n % 256 < 256 := Nat.mod_lt _ (by decide)
  have h := bc_c_step k (n % 256) (n / 256) hx
  rw [show n % 256 + 256 * (n / 256) = n by omega, bc_d5 _ hx] at h
  refine ⟨_, pu_cnt_le _ 8, h, ?_⟩
  rw [pu_cnt_split]
  congr 1
  · refine pu_cnt_congr (fun i hi => ?_)
    rw [show (256 : Nat) = 2 ^ 8 from rfl, Nat.testBit_mod_two_pow]
    simp [hi]
  · refine pu_cnt_congr (fun i hi => ?_)
    rw [show (256 : Nat) = 2 ^ 8 from rfl, Nat.testBit_div_two_pow, Nat.add_comm]
theorem bc_c0 (n : Nat) : bc_c 0 n = 0 := by simp [bc_c, bc_f]
theorem bc_sum {c0 c1 c2 c3 c4 c5 c6 c7 r1 r2 r3 r4 r5 r6 r7 v : Nat} (h0 : c0 ≤ 8) (h1 : c1 ≤ 8) (h2 : c2 ≤ 8) (h3 : c3 ≤ 8) (h4 : c4 ≤ 8) (h5 : c5 ≤ 8) (h6 : c6 ≤ 8) (h7 : c7 ≤ 8)
    (hv : v = c0 + 256 * r1) (e1 : r1 = c1 + 256 * r2) (e2 : r2 = c2 + 256 * r3) (e3 : r3 = c3 + 256 * r4) (e4 : r4 = c4 + 256 * r5) (e5 : r5 = c5 + 256 * r6) (e6 : r6 = c6 + 256 * r7) (e7 : r7 = c7) :
    (v + v / 256 + (v + v / 256) / 65536 + (v + v / 256 + (v + v / 256) / 65536) / 4294967296) % 128 = c0 + (c1 + (c2 + (c3 + (c4 + (c5 + (c6 + c7)))))) := by
  have k1 : v / 256 = r1 := by clear e1 e2 e3 e4 e5 e6 e7; omega
  rw [k1]
  have k2 : (v + r1) / 65536 = r2 + r3 := by clear e3 e4 e5 e6 e7; omega
  rw [k2]
  have g1 : v = c0 + 256 * c1 + 65536 * c2 + 16777216 * c3 + 4294967296 * r4 := by clear e4 e5 e6 e7 k1 k2; omega
  have g2 : r1 = c1 + 256 * c2 + 65536 * c3 + 16777216 * c4 + 4294967296 * r5 := by clear hv e5 e6 e7 k1 k2 g1; omega
  have g3 : r2 = c2 + 256 * c3 + 65536 * c4 + 16777216 * c5 + 4294967296 * r6 := by clear hv e1 e6 e7 k1 k2 g1 g2; omega
  have g4 : r3 = c3 + 256 * c4 + 65536 * c5 + 16777216 * c6 + 4294967296 * r7 := by clear hv e1 e2 e7 k1 k2 g1 g2 g3; omega
  have k3 : (v + r1 + (r2 + r3)) / 4294967296 = r4 + r5 + (r6 + r7) := by
    clear hv e1 e2 e3 e4 e5 e6 e7 k1 k2
    rw [g1, g2, g3, g4]
    omega
  rw [k3]
  clear k1 k2 k3 g1 g2 g3 g4
  omega
theorem bc_end (n : Nat) : (bc_c 8 n + bc_c 8 n / 256 + (bc_c 8 n + bc_c 8 n / 256) / 65536 + (bc_c 8 n + bc_c 8 n / 256 + (bc_c 8 n + bc_c 8 n / 256) / 65536) / 4294967296) % 128 = pu_cnt (fun i => n.testBit i) 64 := by
  obtain ⟨c0, l0, a0, b0⟩ := bc_one 7 n
  obtain ⟨c1, l1, a1, b1⟩ := bc_one 6 (n / 256)
  obtain ⟨c2, l2, a2, b2⟩ := bc_one 5 (n / 256 / 256)
  obtain ⟨c3, l3, a3, b3⟩ := bc_one 4 (n / 256 / 256 / 256)
  obtain ⟨c4, l4, a4, b4⟩ := bc_one 3 (n / 256 / 256 / 256 / 256)
  obtain ⟨c5, l5, a5, b5⟩ := bc_one 2 (n / 256 / 256 / 256 / 256 / 256)
  obtain ⟨c6, l6, a6, b6⟩ := bc_one 1 (n / 256 / 256 / 256 / 256 / 256 / 256)
  obtain ⟨c7, l7, a7, b7⟩ := bc_one 0 (n / 256 / 256 / 256 / 256 / 256 / 256 / 256)
  rw [bc_c0] at a7
  have hz : pu_cnt (fun i => (n / 256 / 256 / 256 / 256 / 256 / 256 / 256 / 256).testBit i) (8 * 0) = 0 := rfl
  rw [hz] at b7
  have e0 : pu_cnt (fun i => n.testBit i) 64 = pu_cnt (fun i => n.testBit i) (8 + 8 * 7) := rfl
  have hb : pu_cnt (fun i => n.testBit i) 64 = c0 + (c1 + (c2 + (c3 + (c4 + (c5 + (c6 + c7)))))) := by
    rw [e0, b0, show 8 * 7 = 8 + 8 * 6 from rfl, b1, show 8 * 6 = 8 + 8 * 5 from rfl, b2, show 8 * 5 = 8 + 8 * 4 from rfl, b3, show 8 * 4 = 8 + 8 * 3 from rfl, b4, show 8 * 3 = 8 + 8 * 2 from rfl, b5, show 8 * 2 = 8 + 8 * 1 from rfl, b6, show 8 * 1 = 8 + 8 * 0 from rfl, b7, Nat.add_zero]
  rw [hb]
  exact bc_sum l0 l1 l2 l3 l4 l5 l6 l7 a0 a1 a2 a3 a4 a5 a6 (a7.trans (by omega))
-- on longs
theorem bc_le5 (k n : Nat) : bc_a k n ≤ n := Nat.sub_le _ _
theorem bc_m3 : bc_3 8 = 3689348814741910323 := by decide +kernel
theorem bc_m5 : bc_5 8 = 6148914691236517205 := by decide +kernel
theorem bc_mf : bc_f 8 = 1085102592571150095 := by decide +kernel
theorem bc_b_le (n : Nat) : bc_b 8 n ≤ 7378697629483820646 := by
  have h1 : bc_a 8 n &&& bc_3 8 ≤ bc_3 8 := Nat.and_le_right
  have h2 : (bc_a 8 n / 4) &&& bc_3 8 ≤ bc_3 8 := Nat.and_le_right
  unfold bc_b
  rw [bc_m3] at h1 h2 ⊢
  omega
theorem bc_c_le (n : Nat) : bc_c 8 n ≤ 1085102592571150095 := by
  have h1 : (bc_b 8 n + bc_b 8 n / 16) &&& bc_f 8 ≤ bc_f 8 := Nat.and_le_right
  unfold bc_c
  rw [bc_mf] at h1 ⊢
  exact h1
theorem bc_i1 {n : Nat} (hn : n < 2 ^ 64) : lN n - (((lN n).toUInt64 >>> ((nI 1).toInt64.toUInt64 &&& Int64.toUInt64 63)).toInt64 &&& 6148914691236517205) = lN (bc_a 8 n) := by
  have e : (6148914691236517205 : Int64) = lN (bc_5 8) := by rw [bc_m5]; rfl
  have h5 : bc_5 8 < 2 ^ 64 := by rw [bc_m5]; decide
  rw [e, wb_shr hn (by decide), wb_and (by omega) h5, Nat.pow_one, lN_sub]
  · rfl
  · exact Nat.le_trans Nat.and_le_left (Nat.div_le_self _ _)
theorem bc_i2 {n : Nat} (hn : n < 2 ^ 64) : (lN (bc_a 8 n) &&& 3689348814741910323) + (((lN (bc_a 8 n)).toUInt64 >>> ((nI 2).toInt64.toUInt64 &&& Int64.toUInt64 63)).toInt64 &&& 3689348814741910323) = lN (bc_b 8 n) := by
  have e : (3689348814741910323 : Int64) = lN (bc_3 8) := by rw [bc_m3]; rfl
  have h3 : bc_3 8 < 2 ^ 64 := by rw [bc_m3]; decide
  have ha := bc_le5 8 n
  rw [e, wb_shr (by omega) (by decide), wb_and (by omega) h3, wb_and (by omega) h3, lN_add]
  rfl
theorem bc_i3 (n : Nat) : (lN (bc_b 8 n) + ((lN (bc_b 8 n)).toUInt64 >>> ((nI 4).toInt64.toUInt64 &&& Int64.toUInt64 63)).toInt64) &&& 1085102592571150095 = lN (bc_c 8 n) := by
  have e : (1085102592571150095 : Int64) = lN (bc_f 8) := by rw [bc_mf]; rfl
  have hf : bc_f 8 < 2 ^ 64 := by rw [bc_mf]; decide
  have hb := bc_b_le n
  rw [e, wb_shr (by omega) (by decide), lN_add, wb_and (by omega) hf]
  rfl
theorem bc_i4 {v k : Nat} (hv : v < 2 ^ 64) (hk : k < 64) : lN v + ((lN v).toUInt64 >>> ((nI k).toInt64.toUInt64 &&& Int64.toUInt64 63)).toInt64 = lN (v + v / 2 ^ k) := by
  rw [wb_shr hv hk, lN_add]
theorem bc_i7 {s : Nat → Bool} : (lN (bc_c 8 (bt_n s 64) + bc_c 8 (bt_n s 64) / 2 ^ 8 + (bc_c 8 (bt_n s 64) + bc_c 8 (bt_n s 64) / 2 ^ 8) / 2 ^ 16 + (bc_c 8 (bt_n s 64) + bc_c 8 (bt_n s 64) / 2 ^ 8 + (bc_c 8 (bt_n s 64) + bc_c 8 (bt_n s 64) / 2 ^ 8) / 2 ^ 16) / 2 ^ 32)).toInt32 &&& nI 127 = nI (pu_cnt s 64) := by
  have hc := bc_c_le (bt_n s 64)
  have h := bc_end (bt_n s 64)
  rw [pu_cnt_congr (f := fun i => (bt_n s 64).testBit i) (g := s) (n := 64) (fun i hi => by rw [bt_n_test]; simp [hi])] at h
  rw [show (2 : Nat) ^ 8 = 256 from rfl, show (2 : Nat) ^ 16 = 65536 from rfl, show (2 : Nat) ^ 32 = 4294967296 from rfl]
  generalize bc_c 8 (bt_n s 64) = v at h hc ⊢
  rw [lN_i]
  generalize hq : v + v / 256 + (v + v / 256) / 65536 + (v + v / 256 + (v + v / 256) / 65536) / 4294967296 = q at h ⊢
  have e : nI q = nI (q % 2 ^ 32) := by
    apply Int32.toBitVec_inj.mp
    show BitVec.ofNat 32 q = BitVec.ofNat 32 (q % 2 ^ 32)
    apply BitVec.eq_of_toNat_eq
    rw [BitVec.toNat_ofNat, BitVec.toNat_ofNat, Nat.mod_mod]
  rw [e, pk_andN (m := nI 127) (Nat.mod_lt _ (by decide)) 7 (by decide), ← h]
  congr 1
  have : (2 : Nat) ^ 7 = 128 := rfl
  rw [this]
  omega
