/-! The class's cells, seen as a value: the number of places, the sets by number (out of i: 2 i; into i: 2 i + 1; reached 240, rim 241, fresh 242, kept 243), the rows (line 0, waiting 1, tally 2). -/
def ps_F (lo hi : Int64) : Nat → Value := fun k => if k = 0 then .long lo else if k = 1 then .long hi else .null
def ps_S (s : Nat → Bool) : Nat → Value := ps_F (bt_lo s) (bt_hi s)
theorem ps_F0 (lo hi : Int64) : ps_F lo hi 0 = .long lo := rfl
theorem ps_F1 (lo hi : Int64) : ps_F lo hi 1 = .long hi := rfl
theorem ps_U0 (lo hi x : Int64) : updV (ps_F lo hi) 0 (.long x) = ps_F x hi := by
  funext k
  unfold updV ps_F
  split <;> rfl
theorem ps_U1 (lo hi x : Int64) : updV (ps_F lo hi) 1 (.long x) = ps_F lo x := by
  funext k
  unfold updV ps_F
  by_cases e : k = 1
  · subst e; rfl
  · rw [if_neg e, if_neg e, if_neg e]
theorem mw_upup {α : Type} (f : Nat → α) (k : Nat) (u v : α) : va_up (va_up f k u) k v = va_up f k v := by
  funext j
  unfold va_up
  split <;> rfl
theorem mw_upid {α : Type} (f : Nat → α) (k : Nat) (u : α) (h : f k = u) : va_up f k u = f := by
  funext j
  unfold va_up
  split
  · rename_i e; rw [e, h]
  · rfl
abbrev ob_K : Type := Nat × (Nat → Nat → Bool) × (Nat → Nat → Int32)
def ob_F (b n : Nat) : Nat → Value := fun k => match k with
  | 0 => .int (nI n)
  | 1 => .ref (b + (1 + 0))
  | 2 => .ref (b + (1 + 1))
  | 3 => .ref (b + (3 + 240))
  | 4 => .ref (b + (3 + 241))
  | 5 => .ref (b + (3 + 242))
  | 6 => .ref (b + (3 + 243))
  | 7 => .ref (b + (247 + 0))
  | 8 => .ref (b + (247 + 1))
  | _ => .ref (b + (247 + 2))
def ob_o (b : Nat) (κ : ob_K) (k : Nat) : mw_O :=
  if k = 0 then .inl (1, ob_F b κ.1)
  else if k = 1 then .inr (3, 120, fun i => .ref (b + (3 + (2 * i + 0))))
  else if k = 2 then .inr (3, 120, fun i => .ref (b + (3 + (2 * i + 1))))
  else if k < 247 then .inl (0, ps_S (κ.2.1 (k - 3)))
  else .inr (0, 120, fun i => .int (κ.2.2 (k - 247) i))
def ob_h (E : mw_E) (κ : ob_K) (n : Nat) (r : Nat → mw_O) : mw_H := (n, fun k => if k < 250 then ob_o (mw_b E) κ k else r k)
section ObView
variable {E : mw_E} {κ : ob_K} {n : Nat} {r : Nat → mw_O}
theorem ob_g0 : (ob_h E κ n r).2 0 = .inl (1, ob_F (mw_b E) κ.1) := rfl
theorem ob_g1 : (ob_h E κ n r).2 1 = .inr (3, 120, fun i => .ref (mw_b E + (3 + (2 * i + 0)))) := rfl
theorem ob_gW {o : Nat} (ho : o < 2) : (ob_h E κ n r).2 (1 + o) = .inr (3, 120, fun i => .ref (mw_b E + (3 + (2 * i + o)))) := by
  match o, ho with
  | 0, _ => rfl
  | 1, _ => rfl
theorem ob_g2 : (ob_h E κ n r).2 2 = .inr (3, 120, fun i => .ref (mw_b E + (3 + (2 * i + 1)))) := rfl
theorem ob_gS {j : Nat} (hj : j < 244) : (ob_h E κ n r).2 (3 + j) = .inl (0, ps_S (κ.2.1 j)) := by
  show (if 3 + j < 250 then ob_o (mw_b E) κ (3 + j) else r (3 + j)) = _
  rw [if_pos (by omega)]
  unfold ob_o
  rw [if_neg (by omega), if_neg (by omega), if_neg (by omega), if_pos (by omega), show 3 + j - 3 = j by omega]
theorem ob_gR {j : Nat} (hj : j < 3) : (ob_h E κ n r).2 (247 + j) = .inr (0, 120, fun i => .int (κ.2.2 j i)) := by
  show (if 247 + j < 250 then ob_o (mw_b E) κ (247 + j) else r (247 + j)) = _
  rw [if_pos (by omega)]
  unfold ob_o
  rw [if_neg (by omega), if_neg (by omega), if_neg (by omega), if_neg (by omega), show 247 + j - 247 = j by omega]
theorem ob_pS {j : Nat} (hj : j < 244) (s : Nat → Bool) : ((ob_h E κ n r).1, va_up (ob_h E κ n r).2 (3 + j) (.inl (0, ps_S s))) = ob_h E (κ.1, va_up κ.2.1 j s, κ.2.2) n r := by
  refine Prod.ext rfl ?_
  funext k
  show va_up (fun k => if k < 250 then ob_o (mw_b E) κ k else r k) (3 + j) (.inl (0, ps_S s)) k = if k < 250 then ob_o (mw_b E) (κ.1, va_up κ.2.1 j s, κ.2.2) k else r k
  unfold va_up
  by_cases e : k = 3 + j
  · subst e
    rw [if_pos rfl, if_pos (by omega)]
    unfold ob_o
    rw [if_neg (by omega), if_neg (by omega), if_neg (by omega), if_pos (by omega)]
    show _ = Sum.inl (0, ps_S (if 3 + j - 3 = j then s else κ.2.1 (3 + j - 3)))
    rw [if_pos (by omega)]
  · rw [if_neg e]
    show (if k < 250 then ob_o (mw_b E) κ k else r k) = _
    by_cases h1 : k < 250
    · rw [if_pos h1, if_pos h1]
      unfold ob_o
      by_cases h2 : k < 247
      · by_cases h3 : k = 0
        · rw [if_pos h3, if_pos h3]
        · by_cases h4 : k = 1
          · rw [if_neg h3, if_neg h3, if_pos h4, if_pos h4]
          · by_cases h5 : k = 2
            · rw [if_neg h3, if_neg h3, if_neg h4, if_neg h4, if_pos h5, if_pos h5]
            · rw [if_neg h3, if_neg h3, if_neg h4, if_neg h4, if_neg h5, if_neg h5, if_pos h2, if_pos h2]
              show Sum.inl (0, ps_S (κ.2.1 (k - 3))) = Sum.inl (0, ps_S (if k - 3 = j then s else κ.2.1 (k - 3)))
              rw [if_neg (by omega)]
      · rw [if_neg (by omega), if_neg (by omega), if_neg (by omega), if_neg h2, if_neg (by omega), if_neg (by omega), if_neg (by omega), if_neg h2]
    · rw [if_neg h1, if_neg h1]
theorem ob_pR {j i : Nat} (hj : j < 3) (x : Int32) : ((ob_h E κ n r).1, va_up (ob_h E κ n r).2 (247 + j) (.inr (0, 120, updV (fun i => .int (κ.2.2 j i)) i (.int x)))) = ob_h E (κ.1, κ.2.1, va_up κ.2.2 j (va_up (κ.2.2 j) i x)) n r := by
  refine Prod.ext rfl ?_
  funext k
  show va_up (fun k => if k < 250 then ob_o (mw_b E) κ k else r k) (247 + j) _ k = if k < 250 then ob_o (mw_b E) (κ.1, κ.2.1, va_up κ.2.2 j (va_up (κ.2.2 j) i x)) k else r k
  unfold va_up
  by_cases e : k = 247 + j
  · subst e
    rw [if_pos rfl, if_pos (by omega)]
    unfold ob_o
    rw [if_neg (by omega), if_neg (by omega), if_neg (by omega), if_neg (by omega)]
    have e3 : 247 + j - 247 = j := by omega
    rw [e3]
    refine congrArg (fun g : Nat → Value => (Sum.inr (0, 120, g) : mw_O)) (funext fun q => ?_)
    show updV (fun i => Value.int (κ.2.2 j i)) i (.int x) q = Value.int ((if j = j then (fun q => if q = i then x else κ.2.2 j q) else κ.2.2 j) q)
    rw [if_pos rfl]
    unfold updV
    split
    · rename_i h; simp [h]
    · rename_i h; simp [h]
  · rw [if_neg e]
    show (if k < 250 then ob_o (mw_b E) κ k else r k) = _
    by_cases h1 : k < 250
    · rw [if_pos h1, if_pos h1]
      unfold ob_o
      by_cases h2 : k < 247
      · by_cases h3 : k = 0
        · rw [if_pos h3, if_pos h3]
        · by_cases h4 : k = 1
          · rw [if_neg h3, if_neg h3, if_pos h4, if_pos h4]
          · by_cases h5 : k = 2
            · rw [if_neg h3, if_neg h3, if_neg h4, if_neg h4, if_pos h5, if_pos h5]
            · rw [if_neg h3, if_neg h3, if_neg h4, if_neg h4, if_neg h5, if_neg h5, if_pos h2, if_pos h2]
      · rw [if_neg (by omega), if_neg (by omega), if_neg (by omega), if_neg h2, if_neg (by omega), if_neg (by omega), if_neg (by omega), if_neg h2]
        have hne : ¬ k - 247 = j := by omega
        generalize k - 247 = z at hne ⊢
        refine congrArg (fun g : Nat → Value => (Sum.inr (0, 120, g) : mw_O)) (funext fun q => ?_)
        show Value.int (κ.2.2 z q) = Value.int ((if z = j then (fun q => if q = i then x else κ.2.2 j q) else κ.2.2 z) q)
        rw [if_neg hne]
    · rw [if_neg h1, if_neg h1]
theorem ob_pN (m : Nat) : ((ob_h E κ n r).1, va_up (ob_h E κ n r).2 0 (.inl (1, updV (ob_F (mw_b E) κ.1) 0 (.int (nI m))))) = ob_h E (m, κ.2.1, κ.2.2) n r := by
  refine Prod.ext rfl ?_
  funext k
  show va_up (fun k => if k < 250 then ob_o (mw_b E) κ k else r k) 0 _ k = if k < 250 then ob_o (mw_b E) (m, κ.2.1, κ.2.2) k else r k
  unfold va_up
  by_cases e : k = 0
  · subst e
    rw [if_pos rfl, if_pos (by omega)]
    unfold ob_o
    rw [if_pos rfl]
    congr 2
    funext q
    unfold updV ob_F
    split
    · rename_i h; subst h; rfl
    · rename_i h
      match q with
      | 0 => exact absurd rfl h
      | 1 => rfl
      | 2 => rfl
      | 3 => rfl
      | 4 => rfl
      | 5 => rfl
      | 6 => rfl
      | 7 => rfl
      | 8 => rfl
      | _ + 9 => rfl
  · rw [if_neg e]
    show (if k < 250 then ob_o (mw_b E) κ k else r k) = _
    by_cases h1 : k < 250
    · rw [if_pos h1, if_pos h1]
      unfold ob_o
      rw [if_neg e, if_neg e]
    · rw [if_neg h1, if_neg h1]
end ObView
