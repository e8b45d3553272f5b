/-! Small derived rows. -/
def bI (x : Bool) : Int32 := if x = true then nI 1 else nI 0
theorem bI_t {x : Bool} (h : x = true) : nI 1 = bI x := by rw [h]; rfl
theorem bI_f {x : Bool} (h : x = false) : nI 0 = bI x := by rw [h]; rfl
theorem lc0 (x y : Int64) : lg_cmp x y = 0 ↔ x = y := by
  unfold lg_cmp
  by_cases h1 : x > y
  · rw [if_pos h1]
    constructor
    · intro h; exact absurd h (by decide)
    · intro h; subst h; exact absurd h1 (by simp)
  · rw [if_neg h1]
    by_cases h2 : x = y
    · rw [if_pos h2]; simp [h2]
    · rw [if_neg h2]
      constructor
      · intro h; exact absurd h (by decide)
      · intro h; exact absurd h h2
theorem nb0 : narrow .boolean (.int (nI 0)) = .int (nI 0) := by first | rfl | decide
theorem nb1 : narrow .boolean (.int (nI 1)) = .int (nI 1) := by first | rfl | decide
theorem nbI (x : Bool) : narrow .boolean (.int (bI x)) = .int (bI x) := by
  unfold bI
  split
  · exact nb1
  · exact nb0
theorem nI_inc (i : Nat) : nI i + Int32.ofInt 1 = nI (i + 1) := nI_1 i
section MwInc
variable {E : mw_E} {M : mw_M} {d bc bs pc : Nat} {Q : Option Value → mw_H → Prop} {X : Nat → mw_H → Prop} {st : List Value} {h : mw_H}
theorem mw_inc0 {i : Nat} {t : List (Option Value)} (hd : decode M.2.1 pc = .ok (.iinc 0 1, 3)) (hn : 0 < M.2.2.1) (k : mw_W E M d Q X bc bs (pc + 3) (some (.int (nI (i + 1))) :: t) st h) : mw_W E M d Q X bc bs pc (some (.int (nI i)) :: t) st h :=
  mw_iinc0 hd hn (nI_inc i ▸ k)
theorem mw_inc1 {a0 : Option Value} {i : Nat} {t : List (Option Value)} (hd : decode M.2.1 pc = .ok (.iinc 1 1, 3)) (hp : mw_c1 a0 = true) (hn : 1 < M.2.2.1) (k : mw_W E M d Q X bc bs (pc + 3) (a0 :: some (.int (nI (i + 1))) :: t) st h) : mw_W E M d Q X bc bs pc (a0 :: some (.int (nI i)) :: t) st h :=
  mw_iinc1 hd hp hn (nI_inc i ▸ k)
theorem mw_inc2 {a0 a1 : Option Value} {i : Nat} {t : List (Option Value)} (hd : decode M.2.1 pc = .ok (.iinc 2 1, 3)) (hp : mw_c1 a1 = true) (hn : 2 < M.2.2.1) (k : mw_W E M d Q X bc bs (pc + 3) (a0 :: a1 :: some (.int (nI (i + 1))) :: t) st h) : mw_W E M d Q X bc bs pc (a0 :: a1 :: some (.int (nI i)) :: t) st h :=
  mw_iinc2 hd hp hn (nI_inc i ▸ k)
theorem mw_inc3 {a0 a1 a2 : Option Value} {i : Nat} {t : List (Option Value)} (hd : decode M.2.1 pc = .ok (.iinc 3 1, 3)) (hp : mw_c1 a2 = true) (hn : 3 < M.2.2.1) (k : mw_W E M d Q X bc bs (pc + 3) (a0 :: a1 :: a2 :: some (.int (nI (i + 1))) :: t) st h) : mw_W E M d Q X bc bs pc (a0 :: a1 :: a2 :: some (.int (nI i)) :: t) st h :=
  mw_iinc3 hd hp hn (nI_inc i ▸ k)
theorem mw_inc4 {a0 a1 a2 a3 : Option Value} {i : Nat} {t : List (Option Value)} (hd : decode M.2.1 pc = .ok (.iinc 4 1, 3)) (hp : mw_c1 a3 = true) (hn : 4 < M.2.2.1) (k : mw_W E M d Q X bc bs (pc + 3) (a0 :: a1 :: a2 :: a3 :: some (.int (nI (i + 1))) :: t) st h) : mw_W E M d Q X bc bs pc (a0 :: a1 :: a2 :: a3 :: some (.int (nI i)) :: t) st h :=
  mw_iinc4 hd hp hn (nI_inc i ▸ k)
theorem mw_inc5 {a0 a1 a2 a3 a4 : Option Value} {i : Nat} {t : List (Option Value)} (hd : decode M.2.1 pc = .ok (.iinc 5 1, 3)) (hp : mw_c1 a4 = true) (hn : 5 < M.2.2.1) (k : mw_W E M d Q X bc bs (pc + 3) (a0 :: a1 :: a2 :: a3 :: a4 :: some (.int (nI (i + 1))) :: t) st h) : mw_W E M d Q X bc bs pc (a0 :: a1 :: a2 :: a3 :: a4 :: some (.int (nI i)) :: t) st h :=
  mw_iinc5 hd hp hn (nI_inc i ▸ k)
theorem mw_inc6 {a0 a1 a2 a3 a4 a5 : Option Value} {i : Nat} {t : List (Option Value)} (hd : decode M.2.1 pc = .ok (.iinc 6 1, 3)) (hp : mw_c1 a5 = true) (hn : 6 < M.2.2.1) (k : mw_W E M d Q X bc bs (pc + 3) (a0 :: a1 :: a2 :: a3 :: a4 :: a5 :: some (.int (nI (i + 1))) :: t) st h) : mw_W E M d Q X bc bs pc (a0 :: a1 :: a2 :: a3 :: a4 :: a5 :: some (.int (nI i)) :: t) st h :=
  mw_iinc6 hd hp hn (nI_inc i ▸ k)
theorem mw_inc7 {a0 a1 a2 a3 a4 a5 a6 : Option Value} {i : Nat} {t : List (Option Value)} (hd : decode M.2.1 pc = .ok (.iinc 7 1, 3)) (hp : mw_c1 a6 = true) (hn : 7 < M.2.2.1) (k : mw_W E M d Q X bc bs (pc + 3) (a0 :: a1 :: a2 :: a3 :: a4 :: a5 :: a6 :: some (.int (nI (i + 1))) :: t) st h) : mw_W E M d Q X bc bs pc (a0 :: a1 :: a2 :: a3 :: a4 :: a5 :: a6 :: some (.int (nI i)) :: t) st h :=
  mw_iinc7 hd hp hn (nI_inc i ▸ k)
theorem mw_inc8 {a0 a1 a2 a3 a4 a5 a6 a7 : Option Value} {i : Nat} {t : List (Option Value)} (hd : decode M.2.1 pc = .ok (.iinc 8 1, 3)) (hp : mw_c1 a7 = true) (hn : 8 < M.2.2.1) (k : mw_W E M d Q X bc bs (pc + 3) (a0 :: a1 :: a2 :: a3 :: a4 :: a5 :: a6 :: a7 :: some (.int (nI (i + 1))) :: t) st h) : mw_W E M d Q X bc bs pc (a0 :: a1 :: a2 :: a3 :: a4 :: a5 :: a6 :: a7 :: some (.int (nI i)) :: t) st h :=
  mw_iinc8 hd hp hn (nI_inc i ▸ k)
theorem mw_inc9 {a0 a1 a2 a3 a4 a5 a6 a7 a8 : Option Value} {i : Nat} {t : List (Option Value)} (hd : decode M.2.1 pc = .ok (.iinc 9 1, 3)) (hp : mw_c1 a8 = true) (hn : 9 < M.2.2.1) (k : mw_W E M d Q X bc bs (pc + 3) (a0 :: a1 :: a2 :: a3 :: a4 :: a5 :: a6 :: a7 :: a8 :: some (.int (nI (i + 1))) :: t) st h) : mw_W E M d Q X bc bs pc (a0 :: a1 :: a2 :: a3 :: a4 :: a5 :: a6 :: a7 :: a8 :: some (.int (nI i)) :: t) st h :=
  mw_iinc9 hd hp hn (nI_inc i ▸ k)
theorem mw_inc10 {a0 a1 a2 a3 a4 a5 a6 a7 a8 a9 : Option Value} {i : Nat} {t : List (Option Value)} (hd : decode M.2.1 pc = .ok (.iinc 10 1, 3)) (hp : mw_c1 a9 = true) (hn : 10 < M.2.2.1) (k : mw_W E M d Q X bc bs (pc + 3) (a0 :: a1 :: a2 :: a3 :: a4 :: a5 :: a6 :: a7 :: a8 :: a9 :: some (.int (nI (i + 1))) :: t) st h) : mw_W E M d Q X bc bs pc (a0 :: a1 :: a2 :: a3 :: a4 :: a5 :: a6 :: a7 :: a8 :: a9 :: some (.int (nI i)) :: t) st h :=
  mw_iinc10 hd hp hn (nI_inc i ▸ k)
end MwInc
