/-! The walker's rows, an instruction each (written by a program). -/
section MwRows
variable {E : mw_E} {M : mw_M} {d bc bs pc : Nat} {Q : Option Value → mw_H → Prop} {X : Nat → mw_H → Prop} {lo : List (Option Value)} {st : List Value} {h : mw_H}
theorem mw_iconst {n : Int} {v : Int32} (hd : decode M.2.1 pc = .ok (.iconst n, 1)) (hv : Int32.ofInt n = v) (k : mw_W E M d Q X bc bs (pc + 1) lo (.int v :: st) h) : mw_W E M d Q X bc bs pc lo st h := by
  intro p e s m args below meth c H locs cells slots mc ms ls C hR hlocs hl hc hs
  exact lv_iconst C.1 C.2.1 hd hv (k p e s m args below meth c H locs cells slots mc ms ls C hR hlocs hl hc hs)
theorem mw_bipush {n : Int} {v : Int32} (hd : decode M.2.1 pc = .ok (.bipush n, 2)) (hv : (Int8.ofInt n).toInt32 = v) (k : mw_W E M d Q X bc bs (pc + 2) lo (.int v :: st) h) : mw_W E M d Q X bc bs pc lo st h := by
  intro p e s m args below meth c H locs cells slots mc ms ls C hR hlocs hl hc hs
  exact lv_bipush C.1 C.2.1 hd hv (k p e s m args below meth c H locs cells slots mc ms ls C hR hlocs hl hc hs)
theorem mw_sipush {n : Int} {v : Int32} (hd : decode M.2.1 pc = .ok (.sipush n, 3)) (hv : (Int16.ofInt n).toInt32 = v) (k : mw_W E M d Q X bc bs (pc + 3) lo (.int v :: st) h) : mw_W E M d Q X bc bs pc lo st h := by
  intro p e s m args below meth c H locs cells slots mc ms ls C hR hlocs hl hc hs
  exact lv_sipush C.1 C.2.1 hd hv (k p e s m args below meth c H locs cells slots mc ms ls C hR hlocs hl hc hs)
theorem mw_lconst {n : Fin 2} {v : Int64} (hd : decode M.2.1 pc = .ok (.lconst n, 1)) (hv : Int64.ofNat (n : Nat) = v) (k : mw_W E M d Q X bc bs (pc + 1) lo (.long v :: st) h) : mw_W E M d Q X bc bs pc lo st h := by
  intro p e s m args below meth c H locs cells slots mc ms ls C hR hlocs hl hc hs
  exact lv_lconst C.1 C.2.1 hd hv (k p e s m args below meth c H locs cells slots mc ms ls C hR hlocs hl hc hs)
theorem mw_iadd {x y : Int32} (hd : decode M.2.1 pc = .ok (.iadd, 1)) (k : mw_W E M d Q X bc bs (pc + 1) lo (.int (x + y) :: st) h) : mw_W E M d Q X bc bs pc lo (.int y :: .int x :: st) h := by
  intro p e s m args below meth c H locs cells slots mc ms ls C hR hlocs hl hc hs
  exact lv_iadd C.1 C.2.1 hd (k p e s m args below meth c H locs cells slots mc ms ls C hR hlocs hl hc hs)
theorem mw_isub {x y : Int32} (hd : decode M.2.1 pc = .ok (.isub, 1)) (k : mw_W E M d Q X bc bs (pc + 1) lo (.int (x - y) :: st) h) : mw_W E M d Q X bc bs pc lo (.int y :: .int x :: st) h := by
  intro p e s m args below meth c H locs cells slots mc ms ls C hR hlocs hl hc hs
  exact lv_isub C.1 C.2.1 hd (k p e s m args below meth c H locs cells slots mc ms ls C hR hlocs hl hc hs)
theorem mw_imul {x y : Int32} (hd : decode M.2.1 pc = .ok (.imul, 1)) (k : mw_W E M d Q X bc bs (pc + 1) lo (.int (x * y) :: st) h) : mw_W E M d Q X bc bs pc lo (.int y :: .int x :: st) h := by
  intro p e s m args below meth c H locs cells slots mc ms ls C hR hlocs hl hc hs
  exact lv_imul C.1 C.2.1 hd (k p e s m args below meth c H locs cells slots mc ms ls C hR hlocs hl hc hs)
theorem mw_iand {x y : Int32} (hd : decode M.2.1 pc = .ok (.iand, 1)) (k : mw_W E M d Q X bc bs (pc + 1) lo (.int (x &&& y) :: st) h) : mw_W E M d Q X bc bs pc lo (.int y :: .int x :: st) h := by
  intro p e s m args below meth c H locs cells slots mc ms ls C hR hlocs hl hc hs
  exact lv_iand C.1 C.2.1 hd (k p e s m args below meth c H locs cells slots mc ms ls C hR hlocs hl hc hs)
theorem mw_ior {x y : Int32} (hd : decode M.2.1 pc = .ok (.ior, 1)) (k : mw_W E M d Q X bc bs (pc + 1) lo (.int (x ||| y) :: st) h) : mw_W E M d Q X bc bs pc lo (.int y :: .int x :: st) h := by
  intro p e s m args below meth c H locs cells slots mc ms ls C hR hlocs hl hc hs
  exact lv_ior C.1 C.2.1 hd (k p e s m args below meth c H locs cells slots mc ms ls C hR hlocs hl hc hs)
theorem mw_ixor {x y : Int32} (hd : decode M.2.1 pc = .ok (.ixor, 1)) (k : mw_W E M d Q X bc bs (pc + 1) lo (.int (x ^^^ y) :: st) h) : mw_W E M d Q X bc bs pc lo (.int y :: .int x :: st) h := by
  intro p e s m args below meth c H locs cells slots mc ms ls C hR hlocs hl hc hs
  exact lv_ixor C.1 C.2.1 hd (k p e s m args below meth c H locs cells slots mc ms ls C hR hlocs hl hc hs)
theorem mw_ladd {x y : Int64} (hd : decode M.2.1 pc = .ok (.ladd, 1)) (k : mw_W E M d Q X bc bs (pc + 1) lo (.long (x + y) :: st) h) : mw_W E M d Q X bc bs pc lo (.long y :: .long x :: st) h := by
  intro p e s m args below meth c H locs cells slots mc ms ls C hR hlocs hl hc hs
  exact lv_ladd C.1 C.2.1 hd (k p e s m args below meth c H locs cells slots mc ms ls C hR hlocs hl hc hs)
theorem mw_lsub {x y : Int64} (hd : decode M.2.1 pc = .ok (.lsub, 1)) (k : mw_W E M d Q X bc bs (pc + 1) lo (.long (x - y) :: st) h) : mw_W E M d Q X bc bs pc lo (.long y :: .long x :: st) h := by
  intro p e s m args below meth c H locs cells slots mc ms ls C hR hlocs hl hc hs
  exact lv_lsub C.1 C.2.1 hd (k p e s m args below meth c H locs cells slots mc ms ls C hR hlocs hl hc hs)
theorem mw_lmul {x y : Int64} (hd : decode M.2.1 pc = .ok (.lmul, 1)) (k : mw_W E M d Q X bc bs (pc + 1) lo (.long (x * y) :: st) h) : mw_W E M d Q X bc bs pc lo (.long y :: .long x :: st) h := by
  intro p e s m args below meth c H locs cells slots mc ms ls C hR hlocs hl hc hs
  exact lv_lmul C.1 C.2.1 hd (k p e s m args below meth c H locs cells slots mc ms ls C hR hlocs hl hc hs)
theorem mw_land {x y : Int64} (hd : decode M.2.1 pc = .ok (.land, 1)) (k : mw_W E M d Q X bc bs (pc + 1) lo (.long (x &&& y) :: st) h) : mw_W E M d Q X bc bs pc lo (.long y :: .long x :: st) h := by
  intro p e s m args below meth c H locs cells slots mc ms ls C hR hlocs hl hc hs
  exact lv_land C.1 C.2.1 hd (k p e s m args below meth c H locs cells slots mc ms ls C hR hlocs hl hc hs)
theorem mw_lor {x y : Int64} (hd : decode M.2.1 pc = .ok (.lor, 1)) (k : mw_W E M d Q X bc bs (pc + 1) lo (.long (x ||| y) :: st) h) : mw_W E M d Q X bc bs pc lo (.long y :: .long x :: st) h := by
  intro p e s m args below meth c H locs cells slots mc ms ls C hR hlocs hl hc hs
  exact lv_lor C.1 C.2.1 hd (k p e s m args below meth c H locs cells slots mc ms ls C hR hlocs hl hc hs)
theorem mw_lxor {x y : Int64} (hd : decode M.2.1 pc = .ok (.lxor, 1)) (k : mw_W E M d Q X bc bs (pc + 1) lo (.long (x ^^^ y) :: st) h) : mw_W E M d Q X bc bs pc lo (.long y :: .long x :: st) h := by
  intro p e s m args below meth c H locs cells slots mc ms ls C hR hlocs hl hc hs
  exact lv_lxor C.1 C.2.1 hd (k p e s m args below meth c H locs cells slots mc ms ls C hR hlocs hl hc hs)
theorem mw_irem {x y : Int32} (hd : decode M.2.1 pc = .ok (.irem, 1)) (hne : ¬ y = 0) (k : mw_W E M d Q X bc bs (pc + 1) lo (.int (x - x / y * y) :: st) h) : mw_W E M d Q X bc bs pc lo (.int y :: .int x :: st) h := by
  intro p e s m args below meth c H locs cells slots mc ms ls C hR hlocs hl hc hs
  exact lv_irem C.1 C.2.1 hd hne (k p e s m args below meth c H locs cells slots mc ms ls C hR hlocs hl hc hs)
theorem mw_ineg {x : Int32} (hd : decode M.2.1 pc = .ok (.ineg, 1)) (k : mw_W E M d Q X bc bs (pc + 1) lo (.int (-x) :: st) h) : mw_W E M d Q X bc bs pc lo (.int x :: st) h := by
  intro p e s m args below meth c H locs cells slots mc ms ls C hR hlocs hl hc hs
  exact lv_ineg C.1 C.2.1 hd (k p e s m args below meth c H locs cells slots mc ms ls C hR hlocs hl hc hs)
theorem mw_lneg {x : Int64} (hd : decode M.2.1 pc = .ok (.lneg, 1)) (k : mw_W E M d Q X bc bs (pc + 1) lo (.long (-x) :: st) h) : mw_W E M d Q X bc bs pc lo (.long x :: st) h := by
  intro p e s m args below meth c H locs cells slots mc ms ls C hR hlocs hl hc hs
  exact lv_lneg C.1 C.2.1 hd (k p e s m args below meth c H locs cells slots mc ms ls C hR hlocs hl hc hs)
theorem mw_i2l {x : Int32} (hd : decode M.2.1 pc = .ok (.i2l, 1)) (k : mw_W E M d Q X bc bs (pc + 1) lo (.long x.toInt64 :: st) h) : mw_W E M d Q X bc bs pc lo (.int x :: st) h := by
  intro p e s m args below meth c H locs cells slots mc ms ls C hR hlocs hl hc hs
  exact lv_i2l C.1 C.2.1 hd rfl (k p e s m args below meth c H locs cells slots mc ms ls C hR hlocs hl hc hs)
theorem mw_l2i {x : Int64} (hd : decode M.2.1 pc = .ok (.l2i, 1)) (k : mw_W E M d Q X bc bs (pc + 1) lo (.int x.toInt32 :: st) h) : mw_W E M d Q X bc bs pc lo (.long x :: st) h := by
  intro p e s m args below meth c H locs cells slots mc ms ls C hR hlocs hl hc hs
  exact lv_l2i C.1 C.2.1 hd rfl (k p e s m args below meth c H locs cells slots mc ms ls C hR hlocs hl hc hs)
theorem mw_lushr {x : Int64} {y : Int32} (hd : decode M.2.1 pc = .ok (.lushr, 1)) (k : mw_W E M d Q X bc bs (pc + 1) lo (.long ((x.toUInt64 >>> (y.toInt64.toUInt64 &&& Int64.toUInt64 63)).toInt64) :: st) h) : mw_W E M d Q X bc bs pc lo (.int y :: .long x :: st) h := by
  intro p e s m args below meth c H locs cells slots mc ms ls C hR hlocs hl hc hs
  exact lv_lushr C.1 C.2.1 hd rfl (k p e s m args below meth c H locs cells slots mc ms ls C hR hlocs hl hc hs)
theorem mw_lshl {x : Int64} {y : Int32} (hd : decode M.2.1 pc = .ok (.lshl, 1)) (k : mw_W E M d Q X bc bs (pc + 1) lo (.long (x <<< (y.toInt64 &&& 63)) :: st) h) : mw_W E M d Q X bc bs pc lo (.int y :: .long x :: st) h := by
  intro p e s m args below meth c H locs cells slots mc ms ls C hR hlocs hl hc hs
  exact lv_lshl C.1 C.2.1 hd rfl (k p e s m args below meth c H locs cells slots mc ms ls C hR hlocs hl hc hs)
theorem mw_dup {va : Value} (hd : decode M.2.1 pc = .ok (.dup, 1)) (hva : va.category = 1) (k : mw_W E M d Q X bc bs (pc + 1) lo (va :: va :: st) h) : mw_W E M d Q X bc bs pc lo (va :: st) h := by
  intro p e s m args below meth c H locs cells slots mc ms ls C hR hlocs hl hc hs
  exact lv_dup C.1 C.2.1 hd hva (k p e s m args below meth c H locs cells slots mc ms ls C hR hlocs hl hc hs)
theorem mw_pop {va : Value} (hd : decode M.2.1 pc = .ok (.pop, 1)) (hva : va.category = 1) (k : mw_W E M d Q X bc bs (pc + 1) lo st h) : mw_W E M d Q X bc bs pc lo (va :: st) h := by
  intro p e s m args below meth c H locs cells slots mc ms ls C hR hlocs hl hc hs
  exact lv_pop C.1 C.2.1 hd hva (k p e s m args below meth c H locs cells slots mc ms ls C hR hlocs hl hc hs)
theorem mw_dup2 {va vb : Value} (hd : decode M.2.1 pc = .ok (.dup2, 1)) (hva : va.category = 1) (hvb : vb.category = 1) (k : mw_W E M d Q X bc bs (pc + 1) lo (va :: vb :: va :: vb :: st) h) : mw_W E M d Q X bc bs pc lo (va :: vb :: st) h := by
  intro p e s m args below meth c H locs cells slots mc ms ls C hR hlocs hl hc hs
  exact lv_dup2_11 C.1 C.2.1 hd hva hvb (k p e s m args below meth c H locs cells slots mc ms ls C hR hlocs hl hc hs)
theorem mw_dup2L {va : Value} (hd : decode M.2.1 pc = .ok (.dup2, 1)) (hva : va.category = 2) (k : mw_W E M d Q X bc bs (pc + 1) lo (va :: va :: st) h) : mw_W E M d Q X bc bs pc lo (va :: st) h := by
  intro p e s m args below meth c H locs cells slots mc ms ls C hR hlocs hl hc hs
  exact lv_dup2_2 C.1 C.2.1 hd hva (k p e s m args below meth c H locs cells slots mc ms ls C hR hlocs hl hc hs)
theorem mw_dup_x1 {va vb : Value} (hd : decode M.2.1 pc = .ok (.dup_x1, 1)) (hva : va.category = 1) (hvb : vb.category = 1) (k : mw_W E M d Q X bc bs (pc + 1) lo (va :: vb :: va :: st) h) : mw_W E M d Q X bc bs pc lo (va :: vb :: st) h := by
  intro p e s m args below meth c H locs cells slots mc ms ls C hR hlocs hl hc hs
  exact lv_dup_x1 C.1 C.2.1 hd hva hvb (k p e s m args below meth c H locs cells slots mc ms ls C hR hlocs hl hc hs)
theorem mw_lcmp {x y : Int64} (hd : decode M.2.1 pc = .ok (.lcmp, 1)) (k : mw_W E M d Q X bc bs (pc + 1) lo (.int (lg_cmp x y) :: st) h) : mw_W E M d Q X bc bs pc lo (.long y :: .long x :: st) h := by
  intro p e s m args below meth c H locs cells slots mc ms ls C hR hlocs hl hc hs
  exact W.lcmp C.1 C.2.1 hd (k p e s m args below meth c H locs cells slots mc ms ls C hR hlocs hl hc hs)
theorem mw_ldc {idx : Nat} {v : Int32} (hd : decode M.2.1 pc = .ok (.ldc idx, 2)) (hw : Cond.constant M.1.cls idx v ∈ mw_tb) (k : mw_W E M d Q X bc bs (pc + 2) lo (.int v :: st) h) : mw_W E M d Q X bc bs pc lo st h := by
  intro p e s m args below meth c H locs cells slots mc ms ls C hR hlocs hl hc hs
  exact lv_ldc C.1 C.2.1 C.2.2.2.2.1 (C.2.2.2.2.2.1 _ hw) hd (k p e s m args below meth c H locs cells slots mc ms ls C hR hlocs hl hc hs)
theorem mw_ldc2 {idx : Nat} {v : Int64} (hd : decode M.2.1 pc = .ok (.ldc2_w idx, 3)) (hw : Cond.constantLong M.1.cls idx v ∈ mw_tb) (k : mw_W E M d Q X bc bs (pc + 3) lo (.long v :: st) h) : mw_W E M d Q X bc bs pc lo st h := by
  intro p e s m args below meth c H locs cells slots mc ms ls C hR hlocs hl hc hs
  exact lv_ldc2 C.1 C.2.1 C.2.2.2.2.1 (C.2.2.2.2.2.1 _ hw) hd (k p e s m args below meth c H locs cells slots mc ms ls C hR hlocs hl hc hs)
theorem mw_goto {off : Int} {tgt : Nat} (hd : decode M.2.1 pc = .ok (.goto off, 3)) (ht : (pc : Int) + off = (tgt : Int)) (k : mw_W E M d Q X bc bs tgt lo st h) : mw_W E M d Q X bc bs pc lo st h := by
  intro p e s m args below meth c H locs cells slots mc ms ls C hR hlocs hl hc hs
  exact lv_goto C.1 C.2.1 hd ht (k p e s m args below meth c H locs cells slots mc ms ls C hR hlocs hl hc hs)
theorem mw_if_eq {x : Int32} {off : Int} {tgt : Nat} (hd : decode M.2.1 pc = .ok (.ifCond .eq off, 3)) (ht : (pc : Int) + off = (tgt : Int)) (kt : x = 0 → mw_W E M d Q X bc bs tgt lo st h) (kf : ¬ x = 0 → mw_W E M d Q X bc bs (pc + 3) lo st h) : mw_W E M d Q X bc bs pc lo (.int x :: st) h := by
  intro p e s m args below meth c H locs cells slots mc ms ls C hR hlocs hl hc hs
  exact lv_if_eq C.1 C.2.1 hd ht (fun q => kt q p e s m args below meth c H locs cells slots mc ms ls C hR hlocs hl hc hs) (fun q => kf q p e s m args below meth c H locs cells slots mc ms ls C hR hlocs hl hc hs)
theorem mw_icmp_eq {x y : Int32} {off : Int} {tgt : Nat} (hd : decode M.2.1 pc = .ok (.if_icmp .eq off, 3)) (ht : (pc : Int) + off = (tgt : Int)) (kt : x = y → mw_W E M d Q X bc bs tgt lo st h) (kf : ¬ x = y → mw_W E M d Q X bc bs (pc + 3) lo st h) : mw_W E M d Q X bc bs pc lo (.int y :: .int x :: st) h := by
  intro p e s m args below meth c H locs cells slots mc ms ls C hR hlocs hl hc hs
  exact lv_icmp_eq C.1 C.2.1 hd ht (fun q => kt q p e s m args below meth c H locs cells slots mc ms ls C hR hlocs hl hc hs) (fun q => kf q p e s m args below meth c H locs cells slots mc ms ls C hR hlocs hl hc hs)
theorem mw_if_ne {x : Int32} {off : Int} {tgt : Nat} (hd : decode M.2.1 pc = .ok (.ifCond .ne off, 3)) (ht : (pc : Int) + off = (tgt : Int)) (kt : ¬ x = 0 → mw_W E M d Q X bc bs tgt lo st h) (kf : x = 0 → mw_W E M d Q X bc bs (pc + 3) lo st h) : mw_W E M d Q X bc bs pc lo (.int x :: st) h := by
  intro p e s m args below meth c H locs cells slots mc ms ls C hR hlocs hl hc hs
  exact lv_if_ne C.1 C.2.1 hd ht (fun q => kt q p e s m args below meth c H locs cells slots mc ms ls C hR hlocs hl hc hs) (fun q => kf q p e s m args below meth c H locs cells slots mc ms ls C hR hlocs hl hc hs)
theorem mw_icmp_ne {x y : Int32} {off : Int} {tgt : Nat} (hd : decode M.2.1 pc = .ok (.if_icmp .ne off, 3)) (ht : (pc : Int) + off = (tgt : Int)) (kt : ¬ x = y → mw_W E M d Q X bc bs tgt lo st h) (kf : x = y → mw_W E M d Q X bc bs (pc + 3) lo st h) : mw_W E M d Q X bc bs pc lo (.int y :: .int x :: st) h := by
  intro p e s m args below meth c H locs cells slots mc ms ls C hR hlocs hl hc hs
  exact lv_icmp_ne C.1 C.2.1 hd ht (fun q => kt q p e s m args below meth c H locs cells slots mc ms ls C hR hlocs hl hc hs) (fun q => kf q p e s m args below meth c H locs cells slots mc ms ls C hR hlocs hl hc hs)
theorem mw_if_lt {x : Int32} {off : Int} {tgt : Nat} (hd : decode M.2.1 pc = .ok (.ifCond .lt off, 3)) (ht : (pc : Int) + off = (tgt : Int)) (kt : x < 0 → mw_W E M d Q X bc bs tgt lo st h) (kf : ¬ x < 0 → mw_W E M d Q X bc bs (pc + 3) lo st h) : mw_W E M d Q X bc bs pc lo (.int x :: st) h := by
  intro p e s m args below meth c H locs cells slots mc ms ls C hR hlocs hl hc hs
  exact lv_if_lt C.1 C.2.1 hd ht (fun q => kt q p e s m args below meth c H locs cells slots mc ms ls C hR hlocs hl hc hs) (fun q => kf q p e s m args below meth c H locs cells slots mc ms ls C hR hlocs hl hc hs)
theorem mw_icmp_lt {x y : Int32} {off : Int} {tgt : Nat} (hd : decode M.2.1 pc = .ok (.if_icmp .lt off, 3)) (ht : (pc : Int) + off = (tgt : Int)) (kt : x < y → mw_W E M d Q X bc bs tgt lo st h) (kf : ¬ x < y → mw_W E M d Q X bc bs (pc + 3) lo st h) : mw_W E M d Q X bc bs pc lo (.int y :: .int x :: st) h := by
  intro p e s m args below meth c H locs cells slots mc ms ls C hR hlocs hl hc hs
  exact lv_icmp_lt C.1 C.2.1 hd ht (fun q => kt q p e s m args below meth c H locs cells slots mc ms ls C hR hlocs hl hc hs) (fun q => kf q p e s m args below meth c H locs cells slots mc ms ls C hR hlocs hl hc hs)
theorem mw_if_ge {x : Int32} {off : Int} {tgt : Nat} (hd : decode M.2.1 pc = .ok (.ifCond .ge off, 3)) (ht : (pc : Int) + off = (tgt : Int)) (kt : 0 ≤ x → mw_W E M d Q X bc bs tgt lo st h) (kf : ¬ 0 ≤ x → mw_W E M d Q X bc bs (pc + 3) lo st h) : mw_W E M d Q X bc bs pc lo (.int x :: st) h := by
  intro p e s m args below meth c H locs cells slots mc ms ls C hR hlocs hl hc hs
  exact lv_if_ge C.1 C.2.1 hd ht (fun q => kt q p e s m args below meth c H locs cells slots mc ms ls C hR hlocs hl hc hs) (fun q => kf q p e s m args below meth c H locs cells slots mc ms ls C hR hlocs hl hc hs)
theorem mw_icmp_ge {x y : Int32} {off : Int} {tgt : Nat} (hd : decode M.2.1 pc = .ok (.if_icmp .ge off, 3)) (ht : (pc : Int) + off = (tgt : Int)) (kt : y ≤ x → mw_W E M d Q X bc bs tgt lo st h) (kf : ¬ y ≤ x → mw_W E M d Q X bc bs (pc + 3) lo st h) : mw_W E M d Q X bc bs pc lo (.int y :: .int x :: st) h := by
  intro p e s m args below meth c H locs cells slots mc ms ls C hR hlocs hl hc hs
  exact lv_icmp_ge C.1 C.2.1 hd ht (fun q => kt q p e s m args below meth c H locs cells slots mc ms ls C hR hlocs hl hc hs) (fun q => kf q p e s m args below meth c H locs cells slots mc ms ls C hR hlocs hl hc hs)
theorem mw_if_gt {x : Int32} {off : Int} {tgt : Nat} (hd : decode M.2.1 pc = .ok (.ifCond .gt off, 3)) (ht : (pc : Int) + off = (tgt : Int)) (kt : 0 < x → mw_W E M d Q X bc bs tgt lo st h) (kf : ¬ 0 < x → mw_W E M d Q X bc bs (pc + 3) lo st h) : mw_W E M d Q X bc bs pc lo (.int x :: st) h := by
  intro p e s m args below meth c H locs cells slots mc ms ls C hR hlocs hl hc hs
  exact lv_if_gt C.1 C.2.1 hd ht (fun q => kt q p e s m args below meth c H locs cells slots mc ms ls C hR hlocs hl hc hs) (fun q => kf q p e s m args below meth c H locs cells slots mc ms ls C hR hlocs hl hc hs)
theorem mw_icmp_gt {x y : Int32} {off : Int} {tgt : Nat} (hd : decode M.2.1 pc = .ok (.if_icmp .gt off, 3)) (ht : (pc : Int) + off = (tgt : Int)) (kt : y < x → mw_W E M d Q X bc bs tgt lo st h) (kf : ¬ y < x → mw_W E M d Q X bc bs (pc + 3) lo st h) : mw_W E M d Q X bc bs pc lo (.int y :: .int x :: st) h := by
  intro p e s m args below meth c H locs cells slots mc ms ls C hR hlocs hl hc hs
  exact lv_icmp_gt C.1 C.2.1 hd ht (fun q => kt q p e s m args below meth c H locs cells slots mc ms ls C hR hlocs hl hc hs) (fun q => kf q p e s m args below meth c H locs cells slots mc ms ls C hR hlocs hl hc hs)
theorem mw_if_le {x : Int32} {off : Int} {tgt : Nat} (hd : decode M.2.1 pc = .ok (.ifCond .le off, 3)) (ht : (pc : Int) + off = (tgt : Int)) (kt : x ≤ 0 → mw_W E M d Q X bc bs tgt lo st h) (kf : ¬ x ≤ 0 → mw_W E M d Q X bc bs (pc + 3) lo st h) : mw_W E M d Q X bc bs pc lo (.int x :: st) h := by
  intro p e s m args below meth c H locs cells slots mc ms ls C hR hlocs hl hc hs
  exact lv_if_le C.1 C.2.1 hd ht (fun q => kt q p e s m args below meth c H locs cells slots mc ms ls C hR hlocs hl hc hs) (fun q => kf q p e s m args below meth c H locs cells slots mc ms ls C hR hlocs hl hc hs)
theorem mw_icmp_le {x y : Int32} {off : Int} {tgt : Nat} (hd : decode M.2.1 pc = .ok (.if_icmp .le off, 3)) (ht : (pc : Int) + off = (tgt : Int)) (kt : x ≤ y → mw_W E M d Q X bc bs tgt lo st h) (kf : ¬ x ≤ y → mw_W E M d Q X bc bs (pc + 3) lo st h) : mw_W E M d Q X bc bs pc lo (.int y :: .int x :: st) h := by
  intro p e s m args below meth c H locs cells slots mc ms ls C hR hlocs hl hc hs
  exact lv_icmp_le C.1 C.2.1 hd ht (fun q => kt q p e s m args below meth c H locs cells slots mc ms ls C hR hlocs hl hc hs) (fun q => kf q p e s m args below meth c H locs cells slots mc ms ls C hR hlocs hl hc hs)
theorem mw_tabIn {dflt a b : Int} {offs : Array Int} {len : Nat} {x : Int32} {off : Int} {tgt : Nat} (hd : decode M.2.1 pc = .ok (.tableswitch dflt a b offs, len)) (h1 : ¬ x.toInt < a) (h2 : ¬ b < x.toInt) (ho : offs[(x.toInt - a).toNat]? = some off) (ht : (pc : Int) + off = (tgt : Int)) (k : mw_W E M d Q X bc bs tgt lo st h) : mw_W E M d Q X bc bs pc lo (.int x :: st) h := by
  intro p e s m args below meth c H locs cells slots mc ms ls C hR hlocs hl hc hs
  exact lv_tableIn C.1 C.2.1 hd h1 h2 ho ht (k p e s m args below meth c H locs cells slots mc ms ls C hR hlocs hl hc hs)
theorem mw_tabOut {dflt a b : Int} {offs : Array Int} {len : Nat} {x : Int32} {tgt : Nat} (hd : decode M.2.1 pc = .ok (.tableswitch dflt a b offs, len)) (h1 : x.toInt < a ∨ b < x.toInt) (ht : (pc : Int) + dflt = (tgt : Int)) (k : mw_W E M d Q X bc bs tgt lo st h) : mw_W E M d Q X bc bs pc lo (.int x :: st) h := by
  intro p e s m args below meth c H locs cells slots mc ms ls C hR hlocs hl hc hs
  exact lv_tableOut C.1 C.2.1 hd h1 ht (k p e s m args below meth c H locs cells slots mc ms ls C hR hlocs hl hc hs)
/-- no long just below -/
def mw_c1 (o : Option Value) : Bool := match o with | some (.long _) => false | some (.double _) => false | _ => true
theorem mw_c1_spec {o : Option Value} (h : mw_c1 o = true) {w : Value} (e : o = some w) : ¬ w.category = 2 := by
  subst e
  cases w <;> simp_all [mw_c1, Value.category]
theorem mw_pv {lo : List (Option Value)} {i : Nat} {o : Option Value} (hlo : lo[i]? = some o) (hp : mw_c1 o = true) : ∀ (j : Nat) (w : Value), j + 1 = i + 1 → lo[j]? = some (some w) → ¬ w.category = 2 := by
  intro j w e1 e2
  obtain rfl : j = i := by omega
  rw [hlo] at e2
  exact mw_c1_spec hp (Option.some.inj e2)
theorem mw_iload0 {x : Int32} {t : List (Option Value)} (hd : decode M.2.1 pc = .ok (.iload_n 0, 1)) (k : mw_W E M d Q X bc bs (pc + 1) (some (.int x) :: t) (.int x :: st) h) : mw_W E M d Q X bc bs pc (some (.int x) :: t) st h := by
  intro p e s m args below meth c H locs cells slots mc ms ls C hR hlocs hl hc hs
  exact lv_iload_n C.1 C.2.1 hd rfl (hl.2.2 0 (.int x) rfl) (k p e s m args below meth c H locs cells slots mc ms ls C hR hlocs hl hc hs)
theorem mw_istore0 {o : Option Value} {x : Int32} {t : List (Option Value)} (hd : decode M.2.1 pc = .ok (.istore_n 0, 1)) (hn : 0 < M.2.2.1) (k : mw_W E M d Q X bc bs (pc + 1) (some (.int x) :: t) st h) : mw_W E M d Q X bc bs pc (o :: t) (.int x :: st) h := by
  intro p e s m args below meth c H locs cells slots mc ms ls C hR hlocs hl hc hs
  exact lv_istore_n C.1 C.2.1 hd rfl hl.has hn rfl (fun ls' h' => k p e s m args below meth c H locs cells slots mc ms ls' C hR hlocs (mw_lv.st1 (i := 0) (fun j w e1 e2 => absurd e1 (Nat.succ_ne_zero j)) h') hc hs)
theorem mw_lload0 {x : Int64} {t : List (Option Value)} (hd : decode M.2.1 pc = .ok (.lload_n 0, 1)) (k : mw_W E M d Q X bc bs (pc + 1) (some (.long x) :: t) (.long x :: st) h) : mw_W E M d Q X bc bs pc (some (.long x) :: t) st h := by
  intro p e s m args below meth c H locs cells slots mc ms ls C hR hlocs hl hc hs
  exact lv_lload_n C.1 C.2.1 hd rfl (hl.2.2 0 (.long x) rfl) (k p e s m args below meth c H locs cells slots mc ms ls C hR hlocs hl hc hs)
theorem mw_lstore0 {o o2 : Option Value} {x : Int64} {t : List (Option Value)} (hd : decode M.2.1 pc = .ok (.lstore_n 0, 1)) (hn : 1 < M.2.2.1) (k : mw_W E M d Q X bc bs (pc + 1) (some (.long x) :: none :: t) st h) : mw_W E M d Q X bc bs pc (o :: o2 :: t) (.long x :: st) h := by
  intro p e s m args below meth c H locs cells slots mc ms ls C hR hlocs hl hc hs
  exact lv_lstore_n C.1 C.2.1 hd rfl hl.has hn rfl (fun ls' h' => k p e s m args below meth c H locs cells slots mc ms ls' C hR hlocs (mw_lv.st2 (i := 0) (fun j w e1 e2 => absurd e1 (Nat.succ_ne_zero j)) h') hc hs)
theorem mw_aload0 {x : Nat} {t : List (Option Value)} (hd : decode M.2.1 pc = .ok (.aload_n 0, 1)) (k : mw_W E M d Q X bc bs (pc + 1) (some (.ref x) :: t) (.ref x :: st) h) : mw_W E M d Q X bc bs pc (some (.ref x) :: t) st h := by
  intro p e s m args below meth c H locs cells slots mc ms ls C hR hlocs hl hc hs
  exact lv_aload_n C.1 C.2.1 hd rfl (hl.2.2 0 (.ref x) rfl) (k p e s m args below meth c H locs cells slots mc ms ls C hR hlocs hl hc hs)
theorem mw_astore0 {o : Option Value} {x : Nat} {t : List (Option Value)} (hd : decode M.2.1 pc = .ok (.astore_n 0, 1)) (hn : 0 < M.2.2.1) (k : mw_W E M d Q X bc bs (pc + 1) (some (.ref x) :: t) st h) : mw_W E M d Q X bc bs pc (o :: t) (.ref x :: st) h := by
  intro p e s m args below meth c H locs cells slots mc ms ls C hR hlocs hl hc hs
  exact lv_astore_n C.1 C.2.1 hd rfl hl.has hn rfl (fun ls' h' => k p e s m args below meth c H locs cells slots mc ms ls' C hR hlocs (mw_lv.st1 (i := 0) (fun j w e1 e2 => absurd e1 (Nat.succ_ne_zero j)) h') hc hs)
theorem mw_iinc0 {n : Int} {x : Int32} {t : List (Option Value)} (hd : decode M.2.1 pc = .ok (.iinc 0 n, 3)) (hn : 0 < M.2.2.1) (k : mw_W E M d Q X bc bs (pc + 3) (some (.int (x + Int32.ofInt n)) :: t) st h) : mw_W E M d Q X bc bs pc (some (.int x) :: t) st h := by
  intro p e s m args below meth c H locs cells slots mc ms ls C hR hlocs hl hc hs
  obtain ⟨q, hq⟩ := List.getElem?_of_mem (mw_pr_mem.mpr (show (some (.int x) :: t)[0]? = some (some (.int x)) from rfl))
  exact lv_iinc C.1 C.2.1 hd hl.has hq rfl hn rfl (fun ls' h' => k p e s m args below meth c H locs cells slots mc ms ls' C hR hlocs (mw_lv.st1 (i := 0) (fun j w e1 e2 => absurd e1 (Nat.succ_ne_zero j)) h') hc hs)
theorem mw_iload1 {a0 : Option Value} {x : Int32} {t : List (Option Value)} (hd : decode M.2.1 pc = .ok (.iload_n 1, 1)) (k : mw_W E M d Q X bc bs (pc + 1) (a0 :: some (.int x) :: t) (.int x :: st) h) : mw_W E M d Q X bc bs pc (a0 :: some (.int x) :: t) st h := by
  intro p e s m args below meth c H locs cells slots mc ms ls C hR hlocs hl hc hs
  exact lv_iload_n C.1 C.2.1 hd rfl (hl.2.2 1 (.int x) rfl) (k p e s m args below meth c H locs cells slots mc ms ls C hR hlocs hl hc hs)
theorem mw_istore1 {a0 : Option Value} {o : Option Value} {x : Int32} {t : List (Option Value)} (hd : decode M.2.1 pc = .ok (.istore_n 1, 1)) (hp : mw_c1 a0 = true) (hn : 1 < M.2.2.1) (k : mw_W E M d Q X bc bs (pc + 1) (a0 :: some (.int x) :: t) st h) : mw_W E M d Q X bc bs pc (a0 :: o :: t) (.int x :: st) h := by
  intro p e s m args below meth c H locs cells slots mc ms ls C hR hlocs hl hc hs
  exact lv_istore_n C.1 C.2.1 hd rfl hl.has hn rfl (fun ls' h' => k p e s m args below meth c H locs cells slots mc ms ls' C hR hlocs (mw_lv.st1 (i := 1) (mw_pv (i := 0) rfl hp) h') hc hs)
theorem mw_lload1 {a0 : Option Value} {x : Int64} {t : List (Option Value)} (hd : decode M.2.1 pc = .ok (.lload_n 1, 1)) (k : mw_W E M d Q X bc bs (pc + 1) (a0 :: some (.long x) :: t) (.long x :: st) h) : mw_W E M d Q X bc bs pc (a0 :: some (.long x) :: t) st h := by
  intro p e s m args below meth c H locs cells slots mc ms ls C hR hlocs hl hc hs
  exact lv_lload_n C.1 C.2.1 hd rfl (hl.2.2 1 (.long x) rfl) (k p e s m args below meth c H locs cells slots mc ms ls C hR hlocs hl hc hs)
theorem mw_lstore1 {a0 : Option Value} {o o2 : Option Value} {x : Int64} {t : List (Option Value)} (hd : decode M.2.1 pc = .ok (.lstore_n 1, 1)) (hp : mw_c1 a0 = true) (hn : 2 < M.2.2.1) (k : mw_W E M d Q X bc bs (pc + 1) (a0 :: some (.long x) :: none :: t) st h) : mw_W E M d Q X bc bs pc (a0 :: o :: o2 :: t) (.long x :: st) h := by
  intro p e s m args below meth c H locs cells slots mc ms ls C hR hlocs hl hc hs
  exact lv_lstore_n C.1 C.2.1 hd rfl hl.has hn rfl (fun ls' h' => k p e s m args below meth c H locs cells slots mc ms ls' C hR hlocs (mw_lv.st2 (i := 1) (mw_pv (i := 0) rfl hp) h') hc hs)
theorem mw_aload1 {a0 : Option Value} {x : Nat} {t : List (Option Value)} (hd : decode M.2.1 pc = .ok (.aload_n 1, 1)) (k : mw_W E M d Q X bc bs (pc + 1) (a0 :: some (.ref x) :: t) (.ref x :: st) h) : mw_W E M d Q X bc bs pc (a0 :: some (.ref x) :: t) st h := by
  intro p e s m args below meth c H locs cells slots mc ms ls C hR hlocs hl hc hs
  exact lv_aload_n C.1 C.2.1 hd rfl (hl.2.2 1 (.ref x) rfl) (k p e s m args below meth c H locs cells slots mc ms ls C hR hlocs hl hc hs)
theorem mw_astore1 {a0 : Option Value} {o : Option Value} {x : Nat} {t : List (Option Value)} (hd : decode M.2.1 pc = .ok (.astore_n 1, 1)) (hp : mw_c1 a0 = true) (hn : 1 < M.2.2.1) (k : mw_W E M d Q X bc bs (pc + 1) (a0 :: some (.ref x) :: t) st h) : mw_W E M d Q X bc bs pc (a0 :: o :: t) (.ref x :: st) h := by
  intro p e s m args below meth c H locs cells slots mc ms ls C hR hlocs hl hc hs
  exact lv_astore_n C.1 C.2.1 hd rfl hl.has hn rfl (fun ls' h' => k p e s m args below meth c H locs cells slots mc ms ls' C hR hlocs (mw_lv.st1 (i := 1) (mw_pv (i := 0) rfl hp) h') hc hs)
theorem mw_iinc1 {a0 : Option Value} {n : Int} {x : Int32} {t : List (Option Value)} (hd : decode M.2.1 pc = .ok (.iinc 1 n, 3)) (hp : mw_c1 a0 = true) (hn : 1 < M.2.2.1) (k : mw_W E M d Q X bc bs (pc + 3) (a0 :: some (.int (x + Int32.ofInt n)) :: t) st h) : mw_W E M d Q X bc bs pc (a0 :: some (.int x) :: t) st h := by
  intro p e s m args below meth c H locs cells slots mc ms ls C hR hlocs hl hc hs
  obtain ⟨q, hq⟩ := List.getElem?_of_mem (mw_pr_mem.mpr (show (a0 :: some (.int x) :: t)[1]? = some (some (.int x)) from rfl))
  exact lv_iinc C.1 C.2.1 hd hl.has hq rfl hn rfl (fun ls' h' => k p e s m args below meth c H locs cells slots mc ms ls' C hR hlocs (mw_lv.st1 (i := 1) (mw_pv (i := 0) rfl hp) h') hc hs)
theorem mw_iload2 {a0 a1 : Option Value} {x : Int32} {t : List (Option Value)} (hd : decode M.2.1 pc = .ok (.iload_n 2, 1)) (k : mw_W E M d Q X bc bs (pc + 1) (a0 :: a1 :: some (.int x) :: t) (.int x :: st) h) : mw_W E M d Q X bc bs pc (a0 :: a1 :: some (.int x) :: t) st h := by
  intro p e s m args below meth c H locs cells slots mc ms ls C hR hlocs hl hc hs
  exact lv_iload_n C.1 C.2.1 hd rfl (hl.2.2 2 (.int x) rfl) (k p e s m args below meth c H locs cells slots mc ms ls C hR hlocs hl hc hs)
theorem mw_istore2 {a0 a1 : Option Value} {o : Option Value} {x : Int32} {t : List (Option Value)} (hd : decode M.2.1 pc = .ok (.istore_n 2, 1)) (hp : mw_c1 a1 = true) (hn : 2 < M.2.2.1) (k : mw_W E M d Q X bc bs (pc + 1) (a0 :: a1 :: some (.int x) :: t) st h) : mw_W E M d Q X bc bs pc (a0 :: a1 :: o :: t) (.int x :: st) h := by
  intro p e s m args below meth c H locs cells slots mc ms ls C hR hlocs hl hc hs
  exact lv_istore_n C.1 C.2.1 hd rfl hl.has hn rfl (fun ls' h' => k p e s m args below meth c H locs cells slots mc ms ls' C hR hlocs (mw_lv.st1 (i := 2) (mw_pv (i := 1) rfl hp) h') hc hs)
theorem mw_lload2 {a0 a1 : Option Value} {x : Int64} {t : List (Option Value)} (hd : decode M.2.1 pc = .ok (.lload_n 2, 1)) (k : mw_W E M d Q X bc bs (pc + 1) (a0 :: a1 :: some (.long x) :: t) (.long x :: st) h) : mw_W E M d Q X bc bs pc (a0 :: a1 :: some (.long x) :: t) st h := by
  intro p e s m args below meth c H locs cells slots mc ms ls C hR hlocs hl hc hs
  exact lv_lload_n C.1 C.2.1 hd rfl (hl.2.2 2 (.long x) rfl) (k p e s m args below meth c H locs cells slots mc ms ls C hR hlocs hl hc hs)
theorem mw_lstore2 {a0 a1 : Option Value} {o o2 : Option Value} {x : Int64} {t : List (Option Value)} (hd : decode M.2.1 pc = .ok (.lstore_n 2, 1)) (hp : mw_c1 a1 = true) (hn : 3 < M.2.2.1) (k : mw_W E M d Q X bc bs (pc + 1) (a0 :: a1 :: some (.long x) :: none :: t) st h) : mw_W E M d Q X bc bs pc (a0 :: a1 :: o :: o2 :: t) (.long x :: st) h := by
  intro p e s m args below meth c H locs cells slots mc ms ls C hR hlocs hl hc hs
  exact lv_lstore_n C.1 C.2.1 hd rfl hl.has hn rfl (fun ls' h' => k p e s m args below meth c H locs cells slots mc ms ls' C hR hlocs (mw_lv.st2 (i := 2) (mw_pv (i := 1) rfl hp) h') hc hs)
theorem mw_aload2 {a0 a1 : Option Value} {x : Nat} {t : List (Option Value)} (hd : decode M.2.1 pc = .ok (.aload_n 2, 1)) (k : mw_W E M d Q X bc bs (pc + 1) (a0 :: a1 :: some (.ref x) :: t) (.ref x :: st) h) : mw_W E M d Q X bc bs pc (a0 :: a1 :: some (.ref x) :: t) st h := by
  intro p e s m args below meth c H locs cells slots mc ms ls C hR hlocs hl hc hs
  exact lv_aload_n C.1 C.2.1 hd rfl (hl.2.2 2 (.ref x) rfl) (k p e s m args below meth c H locs cells slots mc ms ls C hR hlocs hl hc hs)
theorem mw_astore2 {a0 a1 : Option Value} {o : Option Value} {x : Nat} {t : List (Option Value)} (hd : decode M.2.1 pc = .ok (.astore_n 2, 1)) (hp : mw_c1 a1 = true) (hn : 2 < M.2.2.1) (k : mw_W E M d Q X bc bs (pc + 1) (a0 :: a1 :: some (.ref x) :: t) st h) : mw_W E M d Q X bc bs pc (a0 :: a1 :: o :: t) (.ref x :: st) h := by
  intro p e s m args below meth c H locs cells slots mc ms ls C hR hlocs hl hc hs
  exact lv_astore_n C.1 C.2.1 hd rfl hl.has hn rfl (fun ls' h' => k p e s m args below meth c H locs cells slots mc ms ls' C hR hlocs (mw_lv.st1 (i := 2) (mw_pv (i := 1) rfl hp) h') hc hs)
theorem mw_iinc2 {a0 a1 : Option Value} {n : Int} {x : Int32} {t : List (Option Value)} (hd : decode M.2.1 pc = .ok (.iinc 2 n, 3)) (hp : mw_c1 a1 = true) (hn : 2 < M.2.2.1) (k : mw_W E M d Q X bc bs (pc + 3) (a0 :: a1 :: some (.int (x + Int32.ofInt n)) :: t) st h) : mw_W E M d Q X bc bs pc (a0 :: a1 :: some (.int x) :: t) st h := by
  intro p e s m args below meth c H locs cells slots mc ms ls C hR hlocs hl hc hs
  obtain ⟨q, hq⟩ := List.getElem?_of_mem (mw_pr_mem.mpr (show (a0 :: a1 :: some (.int x) :: t)[2]? = some (some (.int x)) from rfl))
  exact lv_iinc C.1 C.2.1 hd hl.has hq rfl hn rfl (fun ls' h' => k p e s m args below meth c H locs cells slots mc ms ls' C hR hlocs (mw_lv.st1 (i := 2) (mw_pv (i := 1) rfl hp) h') hc hs)
theorem mw_iload3 {a0 a1 a2 : Option Value} {x : Int32} {t : List (Option Value)} (hd : decode M.2.1 pc = .ok (.iload_n 3, 1)) (k : mw_W E M d Q X bc bs (pc + 1) (a0 :: a1 :: a2 :: some (.int x) :: t) (.int x :: st) h) : mw_W E M d Q X bc bs pc (a0 :: a1 :: a2 :: some (.int x) :: t) st h := by
  intro p e s m args below meth c H locs cells slots mc ms ls C hR hlocs hl hc hs
  exact lv_iload_n C.1 C.2.1 hd rfl (hl.2.2 3 (.int x) rfl) (k p e s m args below meth c H locs cells slots mc ms ls C hR hlocs hl hc hs)
theorem mw_istore3 {a0 a1 a2 : Option Value} {o : Option Value} {x : Int32} {t : List (Option Value)} (hd : decode M.2.1 pc = .ok (.istore_n 3, 1)) (hp : mw_c1 a2 = true) (hn : 3 < M.2.2.1) (k : mw_W E M d Q X bc bs (pc + 1) (a0 :: a1 :: a2 :: some (.int x) :: t) st h) : mw_W E M d Q X bc bs pc (a0 :: a1 :: a2 :: o :: t) (.int x :: st) h := by
  intro p e s m args below meth c H locs cells slots mc ms ls C hR hlocs hl hc hs
  exact lv_istore_n C.1 C.2.1 hd rfl hl.has hn rfl (fun ls' h' => k p e s m args below meth c H locs cells slots mc ms ls' C hR hlocs (mw_lv.st1 (i := 3) (mw_pv (i := 2) rfl hp) h') hc hs)
theorem mw_lload3 {a0 a1 a2 : Option Value} {x : Int64} {t : List (Option Value)} (hd : decode M.2.1 pc = .ok (.lload_n 3, 1)) (k : mw_W E M d Q X bc bs (pc + 1) (a0 :: a1 :: a2 :: some (.long x) :: t) (.long x :: st) h) : mw_W E M d Q X bc bs pc (a0 :: a1 :: a2 :: some (.long x) :: t) st h := by
  intro p e s m args below meth c H locs cells slots mc ms ls C hR hlocs hl hc hs
  exact lv_lload_n C.1 C.2.1 hd rfl (hl.2.2 3 (.long x) rfl) (k p e s m args below meth c H locs cells slots mc ms ls C hR hlocs hl hc hs)
theorem mw_lstore3 {a0 a1 a2 : Option Value} {o o2 : Option Value} {x : Int64} {t : List (Option Value)} (hd : decode M.2.1 pc = .ok (.lstore_n 3, 1)) (hp : mw_c1 a2 = true) (hn : 4 < M.2.2.1) (k : mw_W E M d Q X bc bs (pc + 1) (a0 :: a1 :: a2 :: some (.long x) :: none :: t) st h) : mw_W E M d Q X bc bs pc (a0 :: a1 :: a2 :: o :: o2 :: t) (.long x :: st) h := by
  intro p e s m args below meth c H locs cells slots mc ms ls C hR hlocs hl hc hs
  exact lv_lstore_n C.1 C.2.1 hd rfl hl.has hn rfl (fun ls' h' => k p e s m args below meth c H locs cells slots mc ms ls' C hR hlocs (mw_lv.st2 (i := 3) (mw_pv (i := 2) rfl hp) h') hc hs)
theorem mw_aload3 {a0 a1 a2 : Option Value} {x : Nat} {t : List (Option Value)} (hd : decode M.2.1 pc = .ok (.aload_n 3, 1)) (k : mw_W E M d Q X bc bs (pc + 1) (a0 :: a1 :: a2 :: some (.ref x) :: t) (.ref x :: st) h) : mw_W E M d Q X bc bs pc (a0 :: a1 :: a2 :: some (.ref x) :: t) st h := by
  intro p e s m args below meth c H locs cells slots mc ms ls C hR hlocs hl hc hs
  exact lv_aload_n C.1 C.2.1 hd rfl (hl.2.2 3 (.ref x) rfl) (k p e s m args below meth c H locs cells slots mc ms ls C hR hlocs hl hc hs)
theorem mw_astore3 {a0 a1 a2 : Option Value} {o : Option Value} {x : Nat} {t : List (Option Value)} (hd : decode M.2.1 pc = .ok (.astore_n 3, 1)) (hp : mw_c1 a2 = true) (hn : 3 < M.2.2.1) (k : mw_W E M d Q X bc bs (pc + 1) (a0 :: a1 :: a2 :: some (.ref x) :: t) st h) : mw_W E M d Q X bc bs pc (a0 :: a1 :: a2 :: o :: t) (.ref x :: st) h := by
  intro p e s m args below meth c H locs cells slots mc ms ls C hR hlocs hl hc hs
  exact lv_astore_n C.1 C.2.1 hd rfl hl.has hn rfl (fun ls' h' => k p e s m args below meth c H locs cells slots mc ms ls' C hR hlocs (mw_lv.st1 (i := 3) (mw_pv (i := 2) rfl hp) h') hc hs)
theorem mw_iinc3 {a0 a1 a2 : Option Value} {n : Int} {x : Int32} {t : List (Option Value)} (hd : decode M.2.1 pc = .ok (.iinc 3 n, 3)) (hp : mw_c1 a2 = true) (hn : 3 < M.2.2.1) (k : mw_W E M d Q X bc bs (pc + 3) (a0 :: a1 :: a2 :: some (.int (x + Int32.ofInt n)) :: t) st h) : mw_W E M d Q X bc bs pc (a0 :: a1 :: a2 :: some (.int x) :: t) st h := by
  intro p e s m args below meth c H locs cells slots mc ms ls C hR hlocs hl hc hs
  obtain ⟨q, hq⟩ := List.getElem?_of_mem (mw_pr_mem.mpr (show (a0 :: a1 :: a2 :: some (.int x) :: t)[3]? = some (some (.int x)) from rfl))
  exact lv_iinc C.1 C.2.1 hd hl.has hq rfl hn rfl (fun ls' h' => k p e s m args below meth c H locs cells slots mc ms ls' C hR hlocs (mw_lv.st1 (i := 3) (mw_pv (i := 2) rfl hp) h') hc hs)
theorem mw_iload4 {a0 a1 a2 a3 : Option Value} {x : Int32} {t : List (Option Value)} (hd : decode M.2.1 pc = .ok (.iload 4, 2)) (k : mw_W E M d Q X bc bs (pc + 2) (a0 :: a1 :: a2 :: a3 :: some (.int x) :: t) (.int x :: st) h) : mw_W E M d Q X bc bs pc (a0 :: a1 :: a2 :: a3 :: some (.int x) :: t) st h := by
  intro p e s m args below meth c H locs cells slots mc ms ls C hR hlocs hl hc hs
  exact lv_iload C.1 C.2.1 hd (hl.2.2 4 (.int x) rfl) (k p e s m args below meth c H locs cells slots mc ms ls C hR hlocs hl hc hs)
theorem mw_istore4 {a0 a1 a2 a3 : Option Value} {o : Option Value} {x : Int32} {t : List (Option Value)} (hd : decode M.2.1 pc = .ok (.istore 4, 2)) (hp : mw_c1 a3 = true) (hn : 4 < M.2.2.1) (k : mw_W E M d Q X bc bs (pc + 2) (a0 :: a1 :: a2 :: a3 :: some (.int x) :: t) st h) : mw_W E M d Q X bc bs pc (a0 :: a1 :: a2 :: a3 :: o :: t) (.int x :: st) h := by
  intro p e s m args below meth c H locs cells slots mc ms ls C hR hlocs hl hc hs
  exact lv_istore C.1 C.2.1 hd hl.has hn rfl (fun ls' h' => k p e s m args below meth c H locs cells slots mc ms ls' C hR hlocs (mw_lv.st1 (i := 4) (mw_pv (i := 3) rfl hp) h') hc hs)
theorem mw_lload4 {a0 a1 a2 a3 : Option Value} {x : Int64} {t : List (Option Value)} (hd : decode M.2.1 pc = .ok (.lload 4, 2)) (k : mw_W E M d Q X bc bs (pc + 2) (a0 :: a1 :: a2 :: a3 :: some (.long x) :: t) (.long x :: st) h) : mw_W E M d Q X bc bs pc (a0 :: a1 :: a2 :: a3 :: some (.long x) :: t) st h := by
  intro p e s m args below meth c H locs cells slots mc ms ls C hR hlocs hl hc hs
  exact lv_lload C.1 C.2.1 hd (hl.2.2 4 (.long x) rfl) (k p e s m args below meth c H locs cells slots mc ms ls C hR hlocs hl hc hs)
theorem mw_lstore4 {a0 a1 a2 a3 : Option Value} {o o2 : Option Value} {x : Int64} {t : List (Option Value)} (hd : decode M.2.1 pc = .ok (.lstore 4, 2)) (hp : mw_c1 a3 = true) (hn : 5 < M.2.2.1) (k : mw_W E M d Q X bc bs (pc + 2) (a0 :: a1 :: a2 :: a3 :: some (.long x) :: none :: t) st h) : mw_W E M d Q X bc bs pc (a0 :: a1 :: a2 :: a3 :: o :: o2 :: t) (.long x :: st) h := by
  intro p e s m args below meth c H locs cells slots mc ms ls C hR hlocs hl hc hs
  exact lv_lstore C.1 C.2.1 hd hl.has hn rfl (fun ls' h' => k p e s m args below meth c H locs cells slots mc ms ls' C hR hlocs (mw_lv.st2 (i := 4) (mw_pv (i := 3) rfl hp) h') hc hs)
theorem mw_aload4 {a0 a1 a2 a3 : Option Value} {x : Nat} {t : List (Option Value)} (hd : decode M.2.1 pc = .ok (.aload 4, 2)) (k : mw_W E M d Q X bc bs (pc + 2) (a0 :: a1 :: a2 :: a3 :: some (.ref x) :: t) (.ref x :: st) h) : mw_W E M d Q X bc bs pc (a0 :: a1 :: a2 :: a3 :: some (.ref x) :: t) st h := by
  intro p e s m args below meth c H locs cells slots mc ms ls C hR hlocs hl hc hs
  exact lv_aload C.1 C.2.1 hd (hl.2.2 4 (.ref x) rfl) (k p e s m args below meth c H locs cells slots mc ms ls C hR hlocs hl hc hs)
theorem mw_astore4 {a0 a1 a2 a3 : Option Value} {o : Option Value} {x : Nat} {t : List (Option Value)} (hd : decode M.2.1 pc = .ok (.astore 4, 2)) (hp : mw_c1 a3 = true) (hn : 4 < M.2.2.1) (k : mw_W E M d Q X bc bs (pc + 2) (a0 :: a1 :: a2 :: a3 :: some (.ref x) :: t) st h) : mw_W E M d Q X bc bs pc (a0 :: a1 :: a2 :: a3 :: o :: t) (.ref x :: st) h := by
  intro p e s m args below meth c H locs cells slots mc ms ls C hR hlocs hl hc hs
  exact lv_astore C.1 C.2.1 hd hl.has hn rfl (fun ls' h' => k p e s m args below meth c H locs cells slots mc ms ls' C hR hlocs (mw_lv.st1 (i := 4) (mw_pv (i := 3) rfl hp) h') hc hs)
theorem mw_iinc4 {a0 a1 a2 a3 : Option Value} {n : Int} {x : Int32} {t : List (Option Value)} (hd : decode M.2.1 pc = .ok (.iinc 4 n, 3)) (hp : mw_c1 a3 = true) (hn : 4 < M.2.2.1) (k : mw_W E M d Q X bc bs (pc + 3) (a0 :: a1 :: a2 :: a3 :: some (.int (x + Int32.ofInt n)) :: t) st h) : mw_W E M d Q X bc bs pc (a0 :: a1 :: a2 :: a3 :: some (.int x) :: t) st h := by
  intro p e s m args below meth c H locs cells slots mc ms ls C hR hlocs hl hc hs
  obtain ⟨q, hq⟩ := List.getElem?_of_mem (mw_pr_mem.mpr (show (a0 :: a1 :: a2 :: a3 :: some (.int x) :: t)[4]? = some (some (.int x)) from rfl))
  exact lv_iinc C.1 C.2.1 hd hl.has hq rfl hn rfl (fun ls' h' => k p e s m args below meth c H locs cells slots mc ms ls' C hR hlocs (mw_lv.st1 (i := 4) (mw_pv (i := 3) rfl hp) h') hc hs)
theorem mw_iload5 {a0 a1 a2 a3 a4 : Option Value} {x : Int32} {t : List (Option Value)} (hd : decode M.2.1 pc = .ok (.iload 5, 2)) (k : mw_W E M d Q X bc bs (pc + 2) (a0 :: a1 :: a2 :: a3 :: a4 :: some (.int x) :: t) (.int x :: st) h) : mw_W E M d Q X bc bs pc (a0 :: a1 :: a2 :: a3 :: a4 :: some (.int x) :: t) st h := by
  intro p e s m args below meth c H locs cells slots mc ms ls C hR hlocs hl hc hs
  exact lv_iload C.1 C.2.1 hd (hl.2.2 5 (.int x) rfl) (k p e s m args below meth c H locs cells slots mc ms ls C hR hlocs hl hc hs)
theorem mw_istore5 {a0 a1 a2 a3 a4 : Option Value} {o : Option Value} {x : Int32} {t : List (Option Value)} (hd : decode M.2.1 pc = .ok (.istore 5, 2)) (hp : mw_c1 a4 = true) (hn : 5 < M.2.2.1) (k : mw_W E M d Q X bc bs (pc + 2) (a0 :: a1 :: a2 :: a3 :: a4 :: some (.int x) :: t) st h) : mw_W E M d Q X bc bs pc (a0 :: a1 :: a2 :: a3 :: a4 :: o :: t) (.int x :: st) h := by
  intro p e s m args below meth c H locs cells slots mc ms ls C hR hlocs hl hc hs
  exact lv_istore C.1 C.2.1 hd hl.has hn rfl (fun ls' h' => k p e s m args below meth c H locs cells slots mc ms ls' C hR hlocs (mw_lv.st1 (i := 5) (mw_pv (i := 4) rfl hp) h') hc hs)
theorem mw_lload5 {a0 a1 a2 a3 a4 : Option Value} {x : Int64} {t : List (Option Value)} (hd : decode M.2.1 pc = .ok (.lload 5, 2)) (k : mw_W E M d Q X bc bs (pc + 2) (a0 :: a1 :: a2 :: a3 :: a4 :: some (.long x) :: t) (.long x :: st) h) : mw_W E M d Q X bc bs pc (a0 :: a1 :: a2 :: a3 :: a4 :: some (.long x) :: t) st h := by
  intro p e s m args below meth c H locs cells slots mc ms ls C hR hlocs hl hc hs
  exact lv_lload C.1 C.2.1 hd (hl.2.2 5 (.long x) rfl) (k p e s m args below meth c H locs cells slots mc ms ls C hR hlocs hl hc hs)
theorem mw_lstore5 {a0 a1 a2 a3 a4 : Option Value} {o o2 : Option Value} {x : Int64} {t : List (Option Value)} (hd : decode M.2.1 pc = .ok (.lstore 5, 2)) (hp : mw_c1 a4 = true) (hn : 6 < M.2.2.1) (k : mw_W E M d Q X bc bs (pc + 2) (a0 :: a1 :: a2 :: a3 :: a4 :: some (.long x) :: none :: t) st h) : mw_W E M d Q X bc bs pc (a0 :: a1 :: a2 :: a3 :: a4 :: o :: o2 :: t) (.long x :: st) h := by
  intro p e s m args below meth c H locs cells slots mc ms ls C hR hlocs hl hc hs
  exact lv_lstore C.1 C.2.1 hd hl.has hn rfl (fun ls' h' => k p e s m args below meth c H locs cells slots mc ms ls' C hR hlocs (mw_lv.st2 (i := 5) (mw_pv (i := 4) rfl hp) h') hc hs)
theorem mw_aload5 {a0 a1 a2 a3 a4 : Option Value} {x : Nat} {t : List (Option Value)} (hd : decode M.2.1 pc = .ok (.aload 5, 2)) (k : mw_W E M d Q X bc bs (pc + 2) (a0 :: a1 :: a2 :: a3 :: a4 :: some (.ref x) :: t) (.ref x :: st) h) : mw_W E M d Q X bc bs pc (a0 :: a1 :: a2 :: a3 :: a4 :: some (.ref x) :: t) st h := by
  intro p e s m args below meth c H locs cells slots mc ms ls C hR hlocs hl hc hs
  exact lv_aload C.1 C.2.1 hd (hl.2.2 5 (.ref x) rfl) (k p e s m args below meth c H locs cells slots mc ms ls C hR hlocs hl hc hs)
theorem mw_astore5 {a0 a1 a2 a3 a4 : Option Value} {o : Option Value} {x : Nat} {t : List (Option Value)} (hd : decode M.2.1 pc = .ok (.astore 5, 2)) (hp : mw_c1 a4 = true) (hn : 5 < M.2.2.1) (k : mw_W E M d Q X bc bs (pc + 2) (a0 :: a1 :: a2 :: a3 :: a4 :: some (.ref x) :: t) st h) : mw_W E M d Q X bc bs pc (a0 :: a1 :: a2 :: a3 :: a4 :: o :: t) (.ref x :: st) h := by
  intro p e s m args below meth c H locs cells slots mc ms ls C hR hlocs hl hc hs
  exact lv_astore C.1 C.2.1 hd hl.has hn rfl (fun ls' h' => k p e s m args below meth c H locs cells slots mc ms ls' C hR hlocs (mw_lv.st1 (i := 5) (mw_pv (i := 4) rfl hp) h') hc hs)
theorem mw_iinc5 {a0 a1 a2 a3 a4 : Option Value} {n : Int} {x : Int32} {t : List (Option Value)} (hd : decode M.2.1 pc = .ok (.iinc 5 n, 3)) (hp : mw_c1 a4 = true) (hn : 5 < M.2.2.1) (k : mw_W E M d Q X bc bs (pc + 3) (a0 :: a1 :: a2 :: a3 :: a4 :: some (.int (x + Int32.ofInt n)) :: t) st h) : mw_W E M d Q X bc bs pc (a0 :: a1 :: a2 :: a3 :: a4 :: some (.int x) :: t) st h := by
  intro p e s m args below meth c H locs cells slots mc ms ls C hR hlocs hl hc hs
  obtain ⟨q, hq⟩ := List.getElem?_of_mem (mw_pr_mem.mpr (show (a0 :: a1 :: a2 :: a3 :: a4 :: some (.int x) :: t)[5]? = some (some (.int x)) from rfl))
  exact lv_iinc C.1 C.2.1 hd hl.has hq rfl hn rfl (fun ls' h' => k p e s m args below meth c H locs cells slots mc ms ls' C hR hlocs (mw_lv.st1 (i := 5) (mw_pv (i := 4) rfl hp) h') hc hs)
theorem mw_iload6 {a0 a1 a2 a3 a4 a5 : Option Value} {x : Int32} {t : List (Option Value)} (hd : decode M.2.1 pc = .ok (.iload 6, 2)) (k : mw_W E M d Q X bc bs (pc + 2) (a0 :: a1 :: a2 :: a3 :: a4 :: a5 :: some (.int x) :: t) (.int x :: st) h) : mw_W E M d Q X bc bs pc (a0 :: a1 :: a2 :: a3 :: a4 :: a5 :: some (.int x) :: t) st h := by
  intro p e s m args below meth c H locs cells slots mc ms ls C hR hlocs hl hc hs
  exact lv_iload C.1 C.2.1 hd (hl.2.2 6 (.int x) rfl) (k p e s m args below meth c H locs cells slots mc ms ls C hR hlocs hl hc hs)
theorem mw_istore6 {a0 a1 a2 a3 a4 a5 : Option Value} {o : Option Value} {x : Int32} {t : List (Option Value)} (hd : decode M.2.1 pc = .ok (.istore 6, 2)) (hp : mw_c1 a5 = true) (hn : 6 < M.2.2.1) (k : mw_W E M d Q X bc bs (pc + 2) (a0 :: a1 :: a2 :: a3 :: a4 :: a5 :: some (.int x) :: t) st h) : mw_W E M d Q X bc bs pc (a0 :: a1 :: a2 :: a3 :: a4 :: a5 :: o :: t) (.int x :: st) h := by
  intro p e s m args below meth c H locs cells slots mc ms ls C hR hlocs hl hc hs
  exact lv_istore C.1 C.2.1 hd hl.has hn rfl (fun ls' h' => k p e s m args below meth c H locs cells slots mc ms ls' C hR hlocs (mw_lv.st1 (i := 6) (mw_pv (i := 5) rfl hp) h') hc hs)
theorem mw_lload6 {a0 a1 a2 a3 a4 a5 : Option Value} {x : Int64} {t : List (Option Value)} (hd : decode M.2.1 pc = .ok (.lload 6, 2)) (k : mw_W E M d Q X bc bs (pc + 2) (a0 :: a1 :: a2 :: a3 :: a4 :: a5 :: some (.long x) :: t) (.long x :: st) h) : mw_W E M d Q X bc bs pc (a0 :: a1 :: a2 :: a3 :: a4 :: a5 :: some (.long x) :: t) st h := by
  intro p e s m args below meth c H locs cells slots mc ms ls C hR hlocs hl hc hs
  exact lv_lload C.1 C.2.1 hd (hl.2.2 6 (.long x) rfl) (k p e s m args below meth c H locs cells slots mc ms ls C hR hlocs hl hc hs)
theorem mw_lstore6 {a0 a1 a2 a3 a4 a5 : Option Value} {o o2 : Option Value} {x : Int64} {t : List (Option Value)} (hd : decode M.2.1 pc = .ok (.lstore 6, 2)) (hp : mw_c1 a5 = true) (hn : 7 < M.2.2.1) (k : mw_W E M d Q X bc bs (pc + 2) (a0 :: a1 :: a2 :: a3 :: a4 :: a5 :: some (.long x) :: none :: t) st h) : mw_W E M d Q X bc bs pc (a0 :: a1 :: a2 :: a3 :: a4 :: a5 :: o :: o2 :: t) (.long x :: st) h := by
  intro p e s m args below meth c H locs cells slots mc ms ls C hR hlocs hl hc hs
  exact lv_lstore C.1 C.2.1 hd hl.has hn rfl (fun ls' h' => k p e s m args below meth c H locs cells slots mc ms ls' C hR hlocs (mw_lv.st2 (i := 6) (mw_pv (i := 5) rfl hp) h') hc hs)
theorem mw_aload6 {a0 a1 a2 a3 a4 a5 : Option Value} {x : Nat} {t : List (Option Value)} (hd : decode M.2.1 pc = .ok (.aload 6, 2)) (k : mw_W E M d Q X bc bs (pc + 2) (a0 :: a1 :: a2 :: a3 :: a4 :: a5 :: some (.ref x) :: t) (.ref x :: st) h) : mw_W E M d Q X bc bs pc (a0 :: a1 :: a2 :: a3 :: a4 :: a5 :: some (.ref x) :: t) st h := by
  intro p e s m args below meth c H locs cells slots mc ms ls C hR hlocs hl hc hs
  exact lv_aload C.1 C.2.1 hd (hl.2.2 6 (.ref x) rfl) (k p e s m args below meth c H locs cells slots mc ms ls C hR hlocs hl hc hs)
theorem mw_astore6 {a0 a1 a2 a3 a4 a5 : Option Value} {o : Option Value} {x : Nat} {t : List (Option Value)} (hd : decode M.2.1 pc = .ok (.astore 6, 2)) (hp : mw_c1 a5 = true) (hn : 6 < M.2.2.1) (k : mw_W E M d Q X bc bs (pc + 2) (a0 :: a1 :: a2 :: a3 :: a4 :: a5 :: some (.ref x) :: t) st h) : mw_W E M d Q X bc bs pc (a0 :: a1 :: a2 :: a3 :: a4 :: a5 :: o :: t) (.ref x :: st) h := by
  intro p e s m args below meth c H locs cells slots mc ms ls C hR hlocs hl hc hs
  exact lv_astore C.1 C.2.1 hd hl.has hn rfl (fun ls' h' => k p e s m args below meth c H locs cells slots mc ms ls' C hR hlocs (mw_lv.st1 (i := 6) (mw_pv (i := 5) rfl hp) h') hc hs)
theorem mw_iinc6 {a0 a1 a2 a3 a4 a5 : Option Value} {n : Int} {x : Int32} {t : List (Option Value)} (hd : decode M.2.1 pc = .ok (.iinc 6 n, 3)) (hp : mw_c1 a5 = true) (hn : 6 < M.2.2.1) (k : mw_W E M d Q X bc bs (pc + 3) (a0 :: a1 :: a2 :: a3 :: a4 :: a5 :: some (.int (x + Int32.ofInt n)) :: t) st h) : mw_W E M d Q X bc bs pc (a0 :: a1 :: a2 :: a3 :: a4 :: a5 :: some (.int x) :: t) st h := by
  intro p e s m args below meth c H locs cells slots mc ms ls C hR hlocs hl hc hs
  obtain ⟨q, hq⟩ := List.getElem?_of_mem (mw_pr_mem.mpr (show (a0 :: a1 :: a2 :: a3 :: a4 :: a5 :: some (.int x) :: t)[6]? = some (some (.int x)) from rfl))
  exact lv_iinc C.1 C.2.1 hd hl.has hq rfl hn rfl (fun ls' h' => k p e s m args below meth c H locs cells slots mc ms ls' C hR hlocs (mw_lv.st1 (i := 6) (mw_pv (i := 5) rfl hp) h') hc hs)
theorem mw_iload7 {a0 a1 a2 a3 a4 a5 a6 : Option Value} {x : Int32} {t : List (Option Value)} (hd : decode M.2.1 pc = .ok (.iload 7, 2)) (k : mw_W E M d Q X bc bs (pc + 2) (a0 :: a1 :: a2 :: a3 :: a4 :: a5 :: a6 :: some (.int x) :: t) (.int x :: st) h) : mw_W E M d Q X bc bs pc (a0 :: a1 :: a2 :: a3 :: a4 :: a5 :: a6 :: some (.int x) :: t) st h := by
  intro p e s m args below meth c H locs cells slots mc ms ls C hR hlocs hl hc hs
  exact lv_iload C.1 C.2.1 hd (hl.2.2 7 (.int x) rfl) (k p e s m args below meth c H locs cells slots mc ms ls C hR hlocs hl hc hs)
theorem mw_istore7 {a0 a1 a2 a3 a4 a5 a6 : Option Value} {o : Option Value} {x : Int32} {t : List (Option Value)} (hd : decode M.2.1 pc = .ok (.istore 7, 2)) (hp : mw_c1 a6 = true) (hn : 7 < M.2.2.1) (k : mw_W E M d Q X bc bs (pc + 2) (a0 :: a1 :: a2 :: a3 :: a4 :: a5 :: a6 :: some (.int x) :: t) st h) : mw_W E M d Q X bc bs pc (a0 :: a1 :: a2 :: a3 :: a4 :: a5 :: a6 :: o :: t) (.int x :: st) h := by
  intro p e s m args below meth c H locs cells slots mc ms ls C hR hlocs hl hc hs
  exact lv_istore C.1 C.2.1 hd hl.has hn rfl (fun ls' h' => k p e s m args below meth c H locs cells slots mc ms ls' C hR hlocs (mw_lv.st1 (i := 7) (mw_pv (i := 6) rfl hp) h') hc hs)
theorem mw_lload7 {a0 a1 a2 a3 a4 a5 a6 : Option Value} {x : Int64} {t : List (Option Value)} (hd : decode M.2.1 pc = .ok (.lload 7, 2)) (k : mw_W E M d Q X bc bs (pc + 2) (a0 :: a1 :: a2 :: a3 :: a4 :: a5 :: a6 :: some (.long x) :: t) (.long x :: st) h) : mw_W E M d Q X bc bs pc (a0 :: a1 :: a2 :: a3 :: a4 :: a5 :: a6 :: some (.long x) :: t) st h := by
  intro p e s m args below meth c H locs cells slots mc ms ls C hR hlocs hl hc hs
  exact lv_lload C.1 C.2.1 hd (hl.2.2 7 (.long x) rfl) (k p e s m args below meth c H locs cells slots mc ms ls C hR hlocs hl hc hs)
theorem mw_lstore7 {a0 a1 a2 a3 a4 a5 a6 : Option Value} {o o2 : Option Value} {x : Int64} {t : List (Option Value)} (hd : decode M.2.1 pc = .ok (.lstore 7, 2)) (hp : mw_c1 a6 = true) (hn : 8 < M.2.2.1) (k : mw_W E M d Q X bc bs (pc + 2) (a0 :: a1 :: a2 :: a3 :: a4 :: a5 :: a6 :: some (.long x) :: none :: t) st h) : mw_W E M d Q X bc bs pc (a0 :: a1 :: a2 :: a3 :: a4 :: a5 :: a6 :: o :: o2 :: t) (.long x :: st) h := by
  intro p e s m args below meth c H locs cells slots mc ms ls C hR hlocs hl hc hs
  exact lv_lstore C.1 C.2.1 hd hl.has hn rfl (fun ls' h' => k p e s m args below meth c H locs cells slots mc ms ls' C hR hlocs (mw_lv.st2 (i := 7) (mw_pv (i := 6) rfl hp) h') hc hs)
theorem mw_aload7 {a0 a1 a2 a3 a4 a5 a6 : Option Value} {x : Nat} {t : List (Option Value)} (hd : decode M.2.1 pc = .ok (.aload 7, 2)) (k : mw_W E M d Q X bc bs (pc + 2) (a0 :: a1 :: a2 :: a3 :: a4 :: a5 :: a6 :: some (.ref x) :: t) (.ref x :: st) h) : mw_W E M d Q X bc bs pc (a0 :: a1 :: a2 :: a3 :: a4 :: a5 :: a6 :: some (.ref x) :: t) st h := by
  intro p e s m args below meth c H locs cells slots mc ms ls C hR hlocs hl hc hs
  exact lv_aload C.1 C.2.1 hd (hl.2.2 7 (.ref x) rfl) (k p e s m args below meth c H locs cells slots mc ms ls C hR hlocs hl hc hs)
theorem mw_astore7 {a0 a1 a2 a3 a4 a5 a6 : Option Value} {o : Option Value} {x : Nat} {t : List (Option Value)} (hd : decode M.2.1 pc = .ok (.astore 7, 2)) (hp : mw_c1 a6 = true) (hn : 7 < M.2.2.1) (k : mw_W E M d Q X bc bs (pc + 2) (a0 :: a1 :: a2 :: a3 :: a4 :: a5 :: a6 :: some (.ref x) :: t) st h) : mw_W E M d Q X bc bs pc (a0 :: a1 :: a2 :: a3 :: a4 :: a5 :: a6 :: o :: t) (.ref x :: st) h := by
  intro p e s m args below meth c H locs cells slots mc ms ls C hR hlocs hl hc hs
  exact lv_astore C.1 C.2.1 hd hl.has hn rfl (fun ls' h' => k p e s m args below meth c H locs cells slots mc ms ls' C hR hlocs (mw_lv.st1 (i := 7) (mw_pv (i := 6) rfl hp) h') hc hs)
theorem mw_iinc7 {a0 a1 a2 a3 a4 a5 a6 : Option Value} {n : Int} {x : Int32} {t : List (Option Value)} (hd : decode M.2.1 pc = .ok (.iinc 7 n, 3)) (hp : mw_c1 a6 = true) (hn : 7 < M.2.2.1) (k : mw_W E M d Q X bc bs (pc + 3) (a0 :: a1 :: a2 :: a3 :: a4 :: a5 :: a6 :: some (.int (x + Int32.ofInt n)) :: t) st h) : mw_W E M d Q X bc bs pc (a0 :: a1 :: a2 :: a3 :: a4 :: a5 :: a6 :: some (.int x) :: t) st h := by
  intro p e s m args below meth c H locs cells slots mc ms ls C hR hlocs hl hc hs
  obtain ⟨q, hq⟩ := List.getElem?_of_mem (mw_pr_mem.mpr (show (a0 :: a1 :: a2 :: a3 :: a4 :: a5 :: a6 :: some (.int x) :: t)[7]? = some (some (.int x)) from rfl))
  exact lv_iinc C.1 C.2.1 hd hl.has hq rfl hn rfl (fun ls' h' => k p e s m args below meth c H locs cells slots mc ms ls' C hR hlocs (mw_lv.st1 (i := 7) (mw_pv (i := 6) rfl hp) h') hc hs)
theorem mw_iload8 {a0 a1 a2 a3 a4 a5 a6 a7 : Option Value} {x : Int32} {t : List (Option Value)} (hd : decode M.2.1 pc = .ok (.iload 8, 2)) (k : mw_W E M d Q X bc bs (pc + 2) (a0 :: a1 :: a2 :: a3 :: a4 :: a5 :: a6 :: a7 :: some (.int x) :: t) (.int x :: st) h) : mw_W E M d Q X bc bs pc (a0 :: a1 :: a2 :: a3 :: a4 :: a5 :: a6 :: a7 :: some (.int x) :: t) st h := by
  intro p e s m args below meth c H locs cells slots mc ms ls C hR hlocs hl hc hs
  exact lv_iload C.1 C.2.1 hd (hl.2.2 8 (.int x) rfl) (k p e s m args below meth c H locs cells slots mc ms ls C hR hlocs hl hc hs)
theorem mw_istore8 {a0 a1 a2 a3 a4 a5 a6 a7 : Option Value} {o : Option Value} {x : Int32} {t : List (Option Value)} (hd : decode M.2.1 pc = .ok (.istore 8, 2)) (hp : mw_c1 a7 = true) (hn : 8 < M.2.2.1) (k : mw_W E M d Q X bc bs (pc + 2) (a0 :: a1 :: a2 :: a3 :: a4 :: a5 :: a6 :: a7 :: some (.int x) :: t) st h) : mw_W E M d Q X bc bs pc (a0 :: a1 :: a2 :: a3 :: a4 :: a5 :: a6 :: a7 :: o :: t) (.int x :: st) h := by
  intro p e s m args below meth c H locs cells slots mc ms ls C hR hlocs hl hc hs
  exact lv_istore C.1 C.2.1 hd hl.has hn rfl (fun ls' h' => k p e s m args below meth c H locs cells slots mc ms ls' C hR hlocs (mw_lv.st1 (i := 8) (mw_pv (i := 7) rfl hp) h') hc hs)
theorem mw_lload8 {a0 a1 a2 a3 a4 a5 a6 a7 : Option Value} {x : Int64} {t : List (Option Value)} (hd : decode M.2.1 pc = .ok (.lload 8, 2)) (k : mw_W E M d Q X bc bs (pc + 2) (a0 :: a1 :: a2 :: a3 :: a4 :: a5 :: a6 :: a7 :: some (.long x) :: t) (.long x :: st) h) : mw_W E M d Q X bc bs pc (a0 :: a1 :: a2 :: a3 :: a4 :: a5 :: a6 :: a7 :: some (.long x) :: t) st h := by
  intro p e s m args below meth c H locs cells slots mc ms ls C hR hlocs hl hc hs
  exact lv_lload C.1 C.2.1 hd (hl.2.2 8 (.long x) rfl) (k p e s m args below meth c H locs cells slots mc ms ls C hR hlocs hl hc hs)
theorem mw_lstore8 {a0 a1 a2 a3 a4 a5 a6 a7 : Option Value} {o o2 : Option Value} {x : Int64} {t : List (Option Value)} (hd : decode M.2.1 pc = .ok (.lstore 8, 2)) (hp : mw_c1 a7 = true) (hn : 9 < M.2.2.1) (k : mw_W E M d Q X bc bs (pc + 2) (a0 :: a1 :: a2 :: a3 :: a4 :: a5 :: a6 :: a7 :: some (.long x) :: none :: t) st h) : mw_W E M d Q X bc bs pc (a0 :: a1 :: a2 :: a3 :: a4 :: a5 :: a6 :: a7 :: o :: o2 :: t) (.long x :: st) h := by
  intro p e s m args below meth c H locs cells slots mc ms ls C hR hlocs hl hc hs
  exact lv_lstore C.1 C.2.1 hd hl.has hn rfl (fun ls' h' => k p e s m args below meth c H locs cells slots mc ms ls' C hR hlocs (mw_lv.st2 (i := 8) (mw_pv (i := 7) rfl hp) h') hc hs)
theorem mw_aload8 {a0 a1 a2 a3 a4 a5 a6 a7 : Option Value} {x : Nat} {t : List (Option Value)} (hd : decode M.2.1 pc = .ok (.aload 8, 2)) (k : mw_W E M d Q X bc bs (pc + 2) (a0 :: a1 :: a2 :: a3 :: a4 :: a5 :: a6 :: a7 :: some (.ref x) :: t) (.ref x :: st) h) : mw_W E M d Q X bc bs pc (a0 :: a1 :: a2 :: a3 :: a4 :: a5 :: a6 :: a7 :: some (.ref x) :: t) st h := by
  intro p e s m args below meth c H locs cells slots mc ms ls C hR hlocs hl hc hs
  exact lv_aload C.1 C.2.1 hd (hl.2.2 8 (.ref x) rfl) (k p e s m args below meth c H locs cells slots mc ms ls C hR hlocs hl hc hs)
theorem mw_astore8 {a0 a1 a2 a3 a4 a5 a6 a7 : Option Value} {o : Option Value} {x : Nat} {t : List (Option Value)} (hd : decode M.2.1 pc = .ok (.astore 8, 2)) (hp : mw_c1 a7 = true) (hn : 8 < M.2.2.1) (k : mw_W E M d Q X bc bs (pc + 2) (a0 :: a1 :: a2 :: a3 :: a4 :: a5 :: a6 :: a7 :: some (.ref x) :: t) st h) : mw_W E M d Q X bc bs pc (a0 :: a1 :: a2 :: a3 :: a4 :: a5 :: a6 :: a7 :: o :: t) (.ref x :: st) h := by
  intro p e s m args below meth c H locs cells slots mc ms ls C hR hlocs hl hc hs
  exact lv_astore C.1 C.2.1 hd hl.has hn rfl (fun ls' h' => k p e s m args below meth c H locs cells slots mc ms ls' C hR hlocs (mw_lv.st1 (i := 8) (mw_pv (i := 7) rfl hp) h') hc hs)
theorem mw_iinc8 {a0 a1 a2 a3 a4 a5 a6 a7 : Option Value} {n : Int} {x : Int32} {t : List (Option Value)} (hd : decode M.2.1 pc = .ok (.iinc 8 n, 3)) (hp : mw_c1 a7 = true) (hn : 8 < M.2.2.1) (k : mw_W E M d Q X bc bs (pc + 3) (a0 :: a1 :: a2 :: a3 :: a4 :: a5 :: a6 :: a7 :: some (.int (x + Int32.ofInt n)) :: t) st h) : mw_W E M d Q X bc bs pc (a0 :: a1 :: a2 :: a3 :: a4 :: a5 :: a6 :: a7 :: some (.int x) :: t) st h := by
  intro p e s m args below meth c H locs cells slots mc ms ls C hR hlocs hl hc hs
  obtain ⟨q, hq⟩ := List.getElem?_of_mem (mw_pr_mem.mpr (show (a0 :: a1 :: a2 :: a3 :: a4 :: a5 :: a6 :: a7 :: some (.int x) :: t)[8]? = some (some (.int x)) from rfl))
  exact lv_iinc C.1 C.2.1 hd hl.has hq rfl hn rfl (fun ls' h' => k p e s m args below meth c H locs cells slots mc ms ls' C hR hlocs (mw_lv.st1 (i := 8) (mw_pv (i := 7) rfl hp) h') hc hs)
theorem mw_iload9 {a0 a1 a2 a3 a4 a5 a6 a7 a8 : Option Value} {x : Int32} {t : List (Option Value)} (hd : decode M.2.1 pc = .ok (.iload 9, 2)) (k : mw_W E M d Q X bc bs (pc + 2) (a0 :: a1 :: a2 :: a3 :: a4 :: a5 :: a6 :: a7 :: a8 :: some (.int x) :: t) (.int x :: st) h) : mw_W E M d Q X bc bs pc (a0 :: a1 :: a2 :: a3 :: a4 :: a5 :: a6 :: a7 :: a8 :: some (.int x) :: t) st h := by
  intro p e s m args below meth c H locs cells slots mc ms ls C hR hlocs hl hc hs
  exact lv_iload C.1 C.2.1 hd (hl.2.2 9 (.int x) rfl) (k p e s m args below meth c H locs cells slots mc ms ls C hR hlocs hl hc hs)
theorem mw_istore9 {a0 a1 a2 a3 a4 a5 a6 a7 a8 : Option Value} {o : Option Value} {x : Int32} {t : List (Option Value)} (hd : decode M.2.1 pc = .ok (.istore 9, 2)) (hp : mw_c1 a8 = true) (hn : 9 < M.2.2.1) (k : mw_W E M d Q X bc bs (pc + 2) (a0 :: a1 :: a2 :: a3 :: a4 :: a5 :: a6 :: a7 :: a8 :: some (.int x) :: t) st h) : mw_W E M d Q X bc bs pc (a0 :: a1 :: a2 :: a3 :: a4 :: a5 :: a6 :: a7 :: a8 :: o :: t) (.int x :: st) h := by
  intro p e s m args below meth c H locs cells slots mc ms ls C hR hlocs hl hc hs
  exact lv_istore C.1 C.2.1 hd hl.has hn rfl (fun ls' h' => k p e s m args below meth c H locs cells slots mc ms ls' C hR hlocs (mw_lv.st1 (i := 9) (mw_pv (i := 8) rfl hp) h') hc hs)
theorem mw_lload9 {a0 a1 a2 a3 a4 a5 a6 a7 a8 : Option Value} {x : Int64} {t : List (Option Value)} (hd : decode M.2.1 pc = .ok (.lload 9, 2)) (k : mw_W E M d Q X bc bs (pc + 2) (a0 :: a1 :: a2 :: a3 :: a4 :: a5 :: a6 :: a7 :: a8 :: some (.long x) :: t) (.long x :: st) h) : mw_W E M d Q X bc bs pc (a0 :: a1 :: a2 :: a3 :: a4 :: a5 :: a6 :: a7 :: a8 :: some (.long x) :: t) st h := by
  intro p e s m args below meth c H locs cells slots mc ms ls C hR hlocs hl hc hs
  exact lv_lload C.1 C.2.1 hd (hl.2.2 9 (.long x) rfl) (k p e s m args below meth c H locs cells slots mc ms ls C hR hlocs hl hc hs)
theorem mw_lstore9 {a0 a1 a2 a3 a4 a5 a6 a7 a8 : Option Value} {o o2 : Option Value} {x : Int64} {t : List (Option Value)} (hd : decode M.2.1 pc = .ok (.lstore 9, 2)) (hp : mw_c1 a8 = true) (hn : 10 < M.2.2.1) (k : mw_W E M d Q X bc bs (pc + 2) (a0 :: a1 :: a2 :: a3 :: a4 :: a5 :: a6 :: a7 :: a8 :: some (.long x) :: none :: t) st h) : mw_W E M d Q X bc bs pc (a0 :: a1 :: a2 :: a3 :: a4 :: a5 :: a6 :: a7 :: a8 :: o :: o2 :: t) (.long x :: st) h := by
  intro p e s m args below meth c H locs cells slots mc ms ls C hR hlocs hl hc hs
  exact lv_lstore C.1 C.2.1 hd hl.has hn rfl (fun ls' h' => k p e s m args below meth c H locs cells slots mc ms ls' C hR hlocs (mw_lv.st2 (i := 9) (mw_pv (i := 8) rfl hp) h') hc hs)
theorem mw_aload9 {a0 a1 a2 a3 a4 a5 a6 a7 a8 : Option Value} {x : Nat} {t : List (Option Value)} (hd : decode M.2.1 pc = .ok (.aload 9, 2)) (k : mw_W E M d Q X bc bs (pc + 2) (a0 :: a1 :: a2 :: a3 :: a4 :: a5 :: a6 :: a7 :: a8 :: some (.ref x) :: t) (.ref x :: st) h) : mw_W E M d Q X bc bs pc (a0 :: a1 :: a2 :: a3 :: a4 :: a5 :: a6 :: a7 :: a8 :: some (.ref x) :: t) st h := by
  intro p e s m args below meth c H locs cells slots mc ms ls C hR hlocs hl hc hs
  exact lv_aload C.1 C.2.1 hd (hl.2.2 9 (.ref x) rfl) (k p e s m args below meth c H locs cells slots mc ms ls C hR hlocs hl hc hs)
theorem mw_astore9 {a0 a1 a2 a3 a4 a5 a6 a7 a8 : Option Value} {o : Option Value} {x : Nat} {t : List (Option Value)} (hd : decode M.2.1 pc = .ok (.astore 9, 2)) (hp : mw_c1 a8 = true) (hn : 9 < M.2.2.1) (k : mw_W E M d Q X bc bs (pc + 2) (a0 :: a1 :: a2 :: a3 :: a4 :: a5 :: a6 :: a7 :: a8 :: some (.ref x) :: t) st h) : mw_W E M d Q X bc bs pc (a0 :: a1 :: a2 :: a3 :: a4 :: a5 :: a6 :: a7 :: a8 :: o :: t) (.ref x :: st) h := by
  intro p e s m args below meth c H locs cells slots mc ms ls C hR hlocs hl hc hs
  exact lv_astore C.1 C.2.1 hd hl.has hn rfl (fun ls' h' => k p e s m args below meth c H locs cells slots mc ms ls' C hR hlocs (mw_lv.st1 (i := 9) (mw_pv (i := 8) rfl hp) h') hc hs)
theorem mw_iinc9 {a0 a1 a2 a3 a4 a5 a6 a7 a8 : Option Value} {n : Int} {x : Int32} {t : List (Option Value)} (hd : decode M.2.1 pc = .ok (.iinc 9 n, 3)) (hp : mw_c1 a8 = true) (hn : 9 < M.2.2.1) (k : mw_W E M d Q X bc bs (pc + 3) (a0 :: a1 :: a2 :: a3 :: a4 :: a5 :: a6 :: a7 :: a8 :: some (.int (x + Int32.ofInt n)) :: t) st h) : mw_W E M d Q X bc bs pc (a0 :: a1 :: a2 :: a3 :: a4 :: a5 :: a6 :: a7 :: a8 :: some (.int x) :: t) st h := by
  intro p e s m args below meth c H locs cells slots mc ms ls C hR hlocs hl hc hs
  obtain ⟨q, hq⟩ := List.getElem?_of_mem (mw_pr_mem.mpr (show (a0 :: a1 :: a2 :: a3 :: a4 :: a5 :: a6 :: a7 :: a8 :: some (.int x) :: t)[9]? = some (some (.int x)) from rfl))
  exact lv_iinc C.1 C.2.1 hd hl.has hq rfl hn rfl (fun ls' h' => k p e s m args below meth c H locs cells slots mc ms ls' C hR hlocs (mw_lv.st1 (i := 9) (mw_pv (i := 8) rfl hp) h') hc hs)
theorem mw_iload10 {a0 a1 a2 a3 a4 a5 a6 a7 a8 a9 : Option Value} {x : Int32} {t : List (Option Value)} (hd : decode M.2.1 pc = .ok (.iload 10, 2)) (k : mw_W E M d Q X bc bs (pc + 2) (a0 :: a1 :: a2 :: a3 :: a4 :: a5 :: a6 :: a7 :: a8 :: a9 :: some (.int x) :: t) (.int x :: st) h) : mw_W E M d Q X bc bs pc (a0 :: a1 :: a2 :: a3 :: a4 :: a5 :: a6 :: a7 :: a8 :: a9 :: some (.int x) :: t) st h := by
  intro p e s m args below meth c H locs cells slots mc ms ls C hR hlocs hl hc hs
  exact lv_iload C.1 C.2.1 hd (hl.2.2 10 (.int x) rfl) (k p e s m args below meth c H locs cells slots mc ms ls C hR hlocs hl hc hs)
theorem mw_istore10 {a0 a1 a2 a3 a4 a5 a6 a7 a8 a9 : Option Value} {o : Option Value} {x : Int32} {t : List (Option Value)} (hd : decode M.2.1 pc = .ok (.istore 10, 2)) (hp : mw_c1 a9 = true) (hn : 10 < M.2.2.1) (k : mw_W E M d Q X bc bs (pc + 2) (a0 :: a1 :: a2 :: a3 :: a4 :: a5 :: a6 :: a7 :: a8 :: a9 :: some (.int x) :: t) st h) : mw_W E M d Q X bc bs pc (a0 :: a1 :: a2 :: a3 :: a4 :: a5 :: a6 :: a7 :: a8 :: a9 :: o :: t) (.int x :: st) h := by
  intro p e s m args below meth c H locs cells slots mc ms ls C hR hlocs hl hc hs
  exact lv_istore C.1 C.2.1 hd hl.has hn rfl (fun ls' h' => k p e s m args below meth c H locs cells slots mc ms ls' C hR hlocs (mw_lv.st1 (i := 10) (mw_pv (i := 9) rfl hp) h') hc hs)
theorem mw_lload10 {a0 a1 a2 a3 a4 a5 a6 a7 a8 a9 : Option Value} {x : Int64} {t : List (Option Value)} (hd : decode M.2.1 pc = .ok (.lload 10, 2)) (k : mw_W E M d Q X bc bs (pc + 2) (a0 :: a1 :: a2 :: a3 :: a4 :: a5 :: a6 :: a7 :: a8 :: a9 :: some (.long x) :: t) (.long x :: st) h) : mw_W E M d Q X bc bs pc (a0 :: a1 :: a2 :: a3 :: a4 :: a5 :: a6 :: a7 :: a8 :: a9 :: some (.long x) :: t) st h := by
  intro p e s m args below meth c H locs cells slots mc ms ls C hR hlocs hl hc hs
  exact lv_lload C.1 C.2.1 hd (hl.2.2 10 (.long x) rfl) (k p e s m args below meth c H locs cells slots mc ms ls C hR hlocs hl hc hs)
theorem mw_lstore10 {a0 a1 a2 a3 a4 a5 a6 a7 a8 a9 : Option Value} {o o2 : Option Value} {x : Int64} {t : List (Option Value)} (hd : decode M.2.1 pc = .ok (.lstore 10, 2)) (hp : mw_c1 a9 = true) (hn : 11 < M.2.2.1) (k : mw_W E M d Q X bc bs (pc + 2) (a0 :: a1 :: a2 :: a3 :: a4 :: a5 :: a6 :: a7 :: a8 :: a9 :: some (.long x) :: none :: t) st h) : mw_W E M d Q X bc bs pc (a0 :: a1 :: a2 :: a3 :: a4 :: a5 :: a6 :: a7 :: a8 :: a9 :: o :: o2 :: t) (.long x :: st) h := by
  intro p e s m args below meth c H locs cells slots mc ms ls C hR hlocs hl hc hs
  exact lv_lstore C.1 C.2.1 hd hl.has hn rfl (fun ls' h' => k p e s m args below meth c H locs cells slots mc ms ls' C hR hlocs (mw_lv.st2 (i := 10) (mw_pv (i := 9) rfl hp) h') hc hs)
theorem mw_aload10 {a0 a1 a2 a3 a4 a5 a6 a7 a8 a9 : Option Value} {x : Nat} {t : List (Option Value)} (hd : decode M.2.1 pc = .ok (.aload 10, 2)) (k : mw_W E M d Q X bc bs (pc + 2) (a0 :: a1 :: a2 :: a3 :: a4 :: a5 :: a6 :: a7 :: a8 :: a9 :: some (.ref x) :: t) (.ref x :: st) h) : mw_W E M d Q X bc bs pc (a0 :: a1 :: a2 :: a3 :: a4 :: a5 :: a6 :: a7 :: a8 :: a9 :: some (.ref x) :: t) st h := by
  intro p e s m args below meth c H locs cells slots mc ms ls C hR hlocs hl hc hs
  exact lv_aload C.1 C.2.1 hd (hl.2.2 10 (.ref x) rfl) (k p e s m args below meth c H locs cells slots mc ms ls C hR hlocs hl hc hs)
theorem mw_astore10 {a0 a1 a2 a3 a4 a5 a6 a7 a8 a9 : Option Value} {o : Option Value} {x : Nat} {t : List (Option Value)} (hd : decode M.2.1 pc = .ok (.astore 10, 2)) (hp : mw_c1 a9 = true) (hn : 10 < M.2.2.1) (k : mw_W E M d Q X bc bs (pc + 2) (a0 :: a1 :: a2 :: a3 :: a4 :: a5 :: a6 :: a7 :: a8 :: a9 :: some (.ref x) :: t) st h) : mw_W E M d Q X bc bs pc (a0 :: a1 :: a2 :: a3 :: a4 :: a5 :: a6 :: a7 :: a8 :: a9 :: o :: t) (.ref x :: st) h := by
  intro p e s m args below meth c H locs cells slots mc ms ls C hR hlocs hl hc hs
  exact lv_astore C.1 C.2.1 hd hl.has hn rfl (fun ls' h' => k p e s m args below meth c H locs cells slots mc ms ls' C hR hlocs (mw_lv.st1 (i := 10) (mw_pv (i := 9) rfl hp) h') hc hs)
theorem mw_iinc10 {a0 a1 a2 a3 a4 a5 a6 a7 a8 a9 : Option Value} {n : Int} {x : Int32} {t : List (Option Value)} (hd : decode M.2.1 pc = .ok (.iinc 10 n, 3)) (hp : mw_c1 a9 = true) (hn : 10 < M.2.2.1) (k : mw_W E M d Q X bc bs (pc + 3) (a0 :: a1 :: a2 :: a3 :: a4 :: a5 :: a6 :: a7 :: a8 :: a9 :: some (.int (x + Int32.ofInt n)) :: t) st h) : mw_W E M d Q X bc bs pc (a0 :: a1 :: a2 :: a3 :: a4 :: a5 :: a6 :: a7 :: a8 :: a9 :: some (.int x) :: t) st h := by
  intro p e s m args below meth c H locs cells slots mc ms ls C hR hlocs hl hc hs
  obtain ⟨q, hq⟩ := List.getElem?_of_mem (mw_pr_mem.mpr (show (a0 :: a1 :: a2 :: a3 :: a4 :: a5 :: a6 :: a7 :: a8 :: a9 :: some (.int x) :: t)[10]? = some (some (.int x)) from rfl))
  exact lv_iinc C.1 C.2.1 hd hl.has hq rfl hn rfl (fun ls' h' => k p e s m args below meth c H locs cells slots mc ms ls' C hR hlocs (mw_lv.st1 (i := 10) (mw_pv (i := 9) rfl hp) h') hc hs)
def mw_le : List (Option Value) → List (Option Value) → Prop
  | [], _ => True
  | none :: t', _ :: t => mw_le t' t
  | none :: t', [] => mw_le t' []
  | some v :: t', some w :: t => v = w ∧ mw_le t' t
  | some _ :: _, _ => False
theorem mw_le_at : ∀ (lo' lo : List (Option Value)), mw_le lo' lo → ∀ (i : Nat) (v : Value), lo'[i]? = some (some v) → lo[i]? = some (some v)
  | [], _, _, i, v, h => by simp at h
  | none :: t', [], hq, i, v, h => by
    cases i with
    | zero => simp at h
    | succ i => have := mw_le_at t' [] hq i v (by simpa using h); simp at this
  | none :: t', _ :: t, hq, i, v, h => by
    cases i with
    | zero => simp at h
    | succ i => simpa using mw_le_at t' t hq i v (by simpa using h)
  | some a :: t', [], hq, i, v, h => by simp [mw_le] at hq
  | some a :: t', none :: t, hq, i, v, h => by simp [mw_le] at hq
  | some a :: t', some b :: t, hq, i, v, h => by
    obtain ⟨rfl, hq⟩ := hq
    cases i with
    | zero => simpa using h
    | succ i => simpa using mw_le_at t' t hq i v (by simpa using h)
theorem mw_lo (lo' : List (Option Value)) (hq : mw_le lo' lo) (k : mw_W E M d Q X bc bs pc lo' st h) : mw_W E M d Q X bc bs pc lo st h := by
  intro p e s m args below meth c H locs cells slots mc ms ls C hR hlocs hl hc hs
  exact k p e s m args below meth c H locs cells slots mc ms ls C hR hlocs ⟨hl.1, hl.2.1, fun i v hi => hl.2.2 i v (mw_le_at lo' lo hq i v hi)⟩ hc hs
theorem mw_bud {bc1 bs1 : Nat} (h1 : bc1 ≤ bc) (h2 : bs1 ≤ bs) (k : mw_W E M d Q X bc1 bs1 pc lo st h) : mw_W E M d Q X bc bs pc lo st h := by
  intro p e s m args below meth c H locs cells slots mc ms ls C hR hlocs hl hc hs
  exact k p e s m args below meth c H locs cells slots mc ms ls C hR hlocs hl (by omega) (by omega)
theorem mw_post {Q1 : Option Value → mw_H → Prop} {X1 : Nat → mw_H → Prop} (k : mw_W E M d Q1 X1 bc bs pc lo st h) (hQ : ∀ v h', Q1 v h' → Q v h') (hX : ∀ k h', X1 k h' → X k h') : mw_W E M d Q X bc bs pc lo st h := by
  intro p e s m args below meth c H locs cells slots mc ms ls C hR hlocs hl hc hs
  refine mw_mono (k p e s m args below meth c H locs cells slots mc ms ls C hR hlocs hl hc hs) ?_
  rintro t ⟨o, b1, b2, ⟨h', hR', ho⟩, b4⟩
  refine ⟨o, b1, b2, ⟨h', hR', ?_⟩, b4⟩
  rcases ho with ⟨v, e1, e2⟩ | ⟨k, e1, e2⟩
  · exact Or.inl ⟨v, e1, hQ v h' e2⟩
  · exact Or.inr ⟨k, e1, hX k h' e2⟩
/-- ends -/
theorem mw_iret {v : Int32} {ty : FieldType} (hd : decode M.2.1 pc = .ok (.ireturn, 1)) (hr : M.2.2.2.1 = some ty) (hn : narrow ty (.int v) = .int v) (hq : Q (some (.int v)) h) : mw_W E M d Q X bc bs pc lo [.int v] h := by
  intro p e s m args below meth c H locs cells slots mc ms ls C hR hlocs hl hc hs
  obtain ⟨hx, hb, hr9, hml, hown, hts, hK, hZ, hlk, htab, hnm, hl9⟩ := C
  refine W.widen (k := mc) (n := ms) (by omega) (by omega) ?_
  refine mw_mono (W.zret (Qc := fun _ _ o t => mw_Q E Q X o t) (free := fun q => mw_b E ≤ q) hx hb (hr9.trans hr) hn (fun t ht _ => ⟨h, by rw [ht]; exact hR, Or.inl ⟨_, rfl, hq⟩⟩) hlocs hd (hlocks := hlk)) ?_
  rintro t ⟨o, b1, b2, b3, L, ⟨-, hW, hsb⟩, hL⟩
  exact ⟨o, b1, b2, b3, L, hW, hsb, hL⟩
theorem mw_lret {v : Int64} (hd : decode M.2.1 pc = .ok (.lreturn, 1)) (hr : M.2.2.2.1 = some .long) (hq : Q (some (.long v)) h) : mw_W E M d Q X bc bs pc lo [.long v] h := by
  intro p e s m args below meth c H locs cells slots mc ms ls C hR hlocs hl hc hs
  obtain ⟨hx, hb, hr9, hml, hown, hts, hK, hZ, hlk, htab, hnm, hl9⟩ := C
  refine W.widen (k := mc) (n := ms) (by omega) (by omega) ?_
  refine mw_mono (W.lret (Qc := fun _ _ o t => mw_Q E Q X o t) (free := fun q => mw_b E ≤ q) hx hb (hr9.trans hr) (fun t ht _ => ⟨h, by rw [ht]; exact hR, Or.inl ⟨_, rfl, hq⟩⟩) hlocs hd (hlocks := hlk)) ?_
  rintro t ⟨o, b1, b2, b3, L, ⟨-, hW, hsb⟩, hL⟩
  exact ⟨o, b1, b2, b3, L, hW, hsb, hL⟩
theorem mw_vret (hd : decode M.2.1 pc = .ok (.return_, 1)) (hr : M.2.2.2.1 = none) (hq : Q none h) : mw_W E M d Q X bc bs pc lo [] h := by
  intro p e s m args below meth c H locs cells slots mc ms ls C hR hlocs hl hc hs
  obtain ⟨hx, hb, hr9, hml, hown, hts, hK, hZ, hlk, htab, hnm, hl9⟩ := C
  refine W.widen (k := mc) (n := ms) (by omega) (by omega) ?_
  refine mw_mono (W.vret (Qc := fun _ _ o t => mw_Q E Q X o t) (free := fun q => mw_b E ≤ q) hx hb (hr9.trans hr) (fun t ht _ => ⟨h, by rw [ht]; exact hR, Or.inl ⟨_, rfl, hq⟩⟩) hlocs hd (hlocks := hlk)) ?_
  rintro t ⟨o, b1, b2, b3, L, ⟨-, hW, hsb⟩, hL⟩
  exact ⟨o, b1, b2, b3, L, hW, hsb, hL⟩
/-- out of a frame without a handler there -/
theorem mw_out {k : Nat} (hout : ∀ x ∈ tableOf M.2.2.2.2, covers x pc = false) (hx9 : X k h) : mw_T E M d Q X bc bs pc lo k h := by
  intro p e s m args below meth c locs cells slots mc ms ls st T C hR hlocs hl hc hs X0
  obtain ⟨hx, hb, hr9, hml, hown, hts, hK, hZ, hlk, htab, hnm, hl9⟩ := C
  obtain ⟨a1, a2, a3, a4, a5⟩ := X0.leaveThrown (mw_b E + k) (g := F0 m pc ls st) rfl rfl rfl (by rw [htab]; exact hout) hlk
  exact ⟨_, a1, _, a2, a3, ⟨h, hR, Or.inr ⟨k, rfl, hx9⟩⟩, locs, a4, a5.mono (by omega) (by omega), hlocs⟩
theorem mw_never {P : Prop} {k : Nat} {h' : mw_H} (hx : mw_no k h') : P := hx.elim
end MwRows
