/-! The reference's cells, seen as a value: thrown, n, rows of booleans (way i: i; reached i: 120 + i; placed: 240), rows of ints (away 0, order 1, measure 2). They lie from 250 to 496. -/
abbrev md_K : Type := Int32 × Nat × (Nat → Nat → Bool) × (Nat → Nat → Int32)
def bI (x : Bool) : Int32 := if x = true then 1 else 0
def md_F (b : Nat) (t : Int32) (n : Nat) : Nat → Value := fun k => match k with
  | 0 => .int t
  | 1 => .int (nI n)
  | 2 => .ref (b + 251)
  | 3 => .ref (b + 372)
  | 4 => .ref (b + 373)
  | 5 => .ref (b + 494)
  | 6 => .ref (b + 495)
  | _ => .ref (b + 496)
def md_a (j : Nat) : Nat := if j < 120 then 252 + j else if j < 240 then 254 + j else 495
def md_i (j : Nat) : Nat := if j = 0 then 372 else if j = 1 then 494 else 496
def md_o (b : Nat) (μ : md_K) (k : Nat) : mw_O :=
  if k = 250 then .inl (2, md_F b μ.1 μ.2.1)
  else if k = 251 then .inr (2, 120, fun i => .ref (b + (252 + i)))
  else if k < 372 then .inr (1, 120, fun i => .int (bI (μ.2.2.1 (k - 252) i)))
  else if k = 372 then .inr (0, 120, fun i => .int (μ.2.2.2 0 i))
  else if k = 373 then .inr (2, 120, fun i => .ref (b + (374 + i)))
  else if k < 494 then .inr (1, 120, fun i => .int (bI (μ.2.2.1 (k - 254) i)))
  else if k = 494 then .inr (0, 120, fun i => .int (μ.2.2.2 1 i))
  else if k = 495 then .inr (1, 120, fun i => .int (bI (μ.2.2.1 240 i)))
  else .inr (0, 120, fun i => .int (μ.2.2.2 2 i))
def md_h (E : mw_E) (μ : md_K) (n : Nat) (r : Nat → mw_O) : mw_H := (n, fun k => if 250 ≤ k ∧ k < 497 then md_o (mw_b E) μ k else r k)
section MdView
variable {E : mw_E} {μ : md_K} {n : Nat} {r : Nat → mw_O}
theorem md_gF : (md_h E μ n r).2 250 = .inl (2, md_F (mw_b E) μ.1 μ.2.1) := rfl
theorem md_gW : (md_h E μ n r).2 251 = .inr (2, 120, fun i => .ref (mw_b E + (252 + i))) := rfl
theorem md_gD : (md_h E μ n r).2 373 = .inr (2, 120, fun i => .ref (mw_b E + (374 + i))) := rfl
theorem md_gI {j : Nat} (hj : j < 3) : (md_h E μ n r).2 (md_i j) = .inr (0, 120, fun i => .int (μ.2.2.2 j i)) := by
  match j, hj with
  | 0, _ => rfl
  | 1, _ => rfl
  | 2, _ => rfl
theorem md_gB {j : Nat} (hj : j < 241) : (md_h E μ n r).2 (md_a j) = .inr (1, 120, fun i => .int (bI (μ.2.2.1 j i))) := by
  unfold md_a
  show (if 250 ≤ _ ∧ _ < 497 then md_o (mw_b E) μ _ else r _) = _
  by_cases h1 : j < 120
  · rw [if_pos h1, if_pos (by omega)]
    unfold md_o
    rw [if_neg (by omega), if_neg (by omega), if_pos (by omega), show 252 + j - 252 = j by omega]
  · by_cases h2 : j < 240
    · rw [if_neg h1, if_pos h2, if_pos (by omega)]
      unfold md_o
      rw [if_neg (by omega), if_neg (by omega), if_neg (by omega), if_neg (by omega), if_neg (by omega), if_pos (by omega), show 254 + j - 254 = j by omega]
    · have e : j = 240 := by omega
      subst e
      rfl
end MdView
