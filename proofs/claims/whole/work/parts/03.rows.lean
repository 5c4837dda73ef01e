/-! ===== part 03: a row an instruction, over the small machine ===== -/
section MMR
variable {l : Launch} {M : mm_M} {R : Room} {cs ss : Nat} {S : mm_Sh} {E : mm_E} {pc : Nat} {lv : List (Nat × Value)} {stk : List Value} {I : mm_I} {J : mm_J}
theorem mm_sub (lv' : List (Nat × Value)) (h : mm_subP lv lv') (k : mm_W l M R cs ss S E pc lv' stk I J) : mm_W l M R cs ss S E pc lv stk I J := by
  intro p e s m args below meth c D cA ad H locs ls X hP hS hl
  obtain ⟨l0, h0, h1⟩ := hl
  exact k p e s m args below meth c D cA ad H locs ls X hP hS ⟨l0, h0, fun i v hi => h1 i v (mm_subP_look h i v hi)⟩
theorem mm_eq {lv' : List (Nat × Value)} {stk' : List Value} {I' : mm_I} {J' : mm_J} {pc' : Nat} (hp : pc = pc') (h1 : lv = lv') (h2 : stk = stk') (h3 : I = I') (h4 : J = J') (k : mm_W l M R cs ss S E pc' lv' stk' I' J') : mm_W l M R cs ss S E pc lv stk I J := by
  subst hp; subst h1; subst h2; subst h3; subst h4; exact k

theorem mm_iconst {n : Int} {v : Int32} (hd : decode (mm_cc M) pc = .ok (.iconst n, 1)) (hv : Int32.ofInt n = v) (k : mm_W l M R cs ss S E (pc + 1) lv (.int v :: stk) I J) : mm_W l M R cs ss S E pc lv (stk) I J := by
  intro p e s m args below meth c D cA ad H locs ls X hP hS hl
  exact lv_iconst X.1 X.2.1 hd hv (k p e s m args below meth c D cA ad H locs ls X hP hS hl)

theorem mm_bipush {n : Int} {v : Int32} (hd : decode (mm_cc M) pc = .ok (.bipush n, 2)) (hv : (Int8.ofInt n).toInt32 = v) (k : mm_W l M R cs ss S E (pc + 2) lv (.int v :: stk) I J) : mm_W l M R cs ss S E pc lv (stk) I J := by
  intro p e s m args below meth c D cA ad H locs ls X hP hS hl
  exact lv_bipush X.1 X.2.1 hd hv (k p e s m args below meth c D cA ad H locs ls X hP hS hl)

theorem mm_sipush {n : Int} {v : Int32} (hd : decode (mm_cc M) pc = .ok (.sipush n, 3)) (hv : (Int16.ofInt n).toInt32 = v) (k : mm_W l M R cs ss S E (pc + 3) lv (.int v :: stk) I J) : mm_W l M R cs ss S E pc lv (stk) I J := by
  intro p e s m args below meth c D cA ad H locs ls X hP hS hl
  exact lv_sipush X.1 X.2.1 hd hv (k p e s m args below meth c D cA ad H locs ls X hP hS hl)

theorem mm_lconst {n : Fin 2} {v : Int64} (hd : decode (mm_cc M) pc = .ok (.lconst n, 1)) (hv : Int64.ofNat (n : Nat) = v) (k : mm_W l M R cs ss S E (pc + 1) lv (.long v :: stk) I J) : mm_W l M R cs ss S E pc lv (stk) I J := by
  intro p e s m args below meth c D cA ad H locs ls X hP hS hl
  exact lv_lconst X.1 X.2.1 hd hv (k p e s m args below meth c D cA ad H locs ls X hP hS hl)

theorem mm_iload_n {n : Fin 4} {x : Int32} (hd : decode (mm_cc M) pc = .ok (.iload_n n, 1)) (hx : mm_look lv (n : Nat) = some (.int x)) (k : mm_W l M R cs ss S E (pc + 1) lv (.int x :: stk) I J) : mm_W l M R cs ss S E pc lv (stk) I J := by
  intro p e s m args below meth c D cA ad H locs ls X hP hS hl
  exact lv_iload_n X.1 X.2.1 hd rfl (hl.at hx) (k p e s m args below meth c D cA ad H locs ls X hP hS hl)

theorem mm_iload {n : Nat} {x : Int32} (hd : decode (mm_cc M) pc = .ok (.iload n, 2)) (hx : mm_look lv n = some (.int x)) (k : mm_W l M R cs ss S E (pc + 2) lv (.int x :: stk) I J) : mm_W l M R cs ss S E pc lv (stk) I J := by
  intro p e s m args below meth c D cA ad H locs ls X hP hS hl
  exact lv_iload X.1 X.2.1 hd (hl.at hx) (k p e s m args below meth c D cA ad H locs ls X hP hS hl)

theorem mm_lload_n {n : Fin 4} {x : Int64} (hd : decode (mm_cc M) pc = .ok (.lload_n n, 1)) (hx : mm_look lv (n : Nat) = some (.long x)) (k : mm_W l M R cs ss S E (pc + 1) lv (.long x :: stk) I J) : mm_W l M R cs ss S E pc lv (stk) I J := by
  intro p e s m args below meth c D cA ad H locs ls X hP hS hl
  exact lv_lload_n X.1 X.2.1 hd rfl (hl.at hx) (k p e s m args below meth c D cA ad H locs ls X hP hS hl)

theorem mm_lload {n : Nat} {x : Int64} (hd : decode (mm_cc M) pc = .ok (.lload n, 2)) (hx : mm_look lv n = some (.long x)) (k : mm_W l M R cs ss S E (pc + 2) lv (.long x :: stk) I J) : mm_W l M R cs ss S E pc lv (stk) I J := by
  intro p e s m args below meth c D cA ad H locs ls X hP hS hl
  exact lv_lload X.1 X.2.1 hd (hl.at hx) (k p e s m args below meth c D cA ad H locs ls X hP hS hl)

theorem mm_aload_n {n : Fin 4} {x : Nat} (hd : decode (mm_cc M) pc = .ok (.aload_n n, 1)) (hx : mm_look lv (n : Nat) = some (.ref x)) (k : mm_W l M R cs ss S E (pc + 1) lv (.ref x :: stk) I J) : mm_W l M R cs ss S E pc lv (stk) I J := by
  intro p e s m args below meth c D cA ad H locs ls X hP hS hl
  exact lv_aload_n X.1 X.2.1 hd rfl (hl.at hx) (k p e s m args below meth c D cA ad H locs ls X hP hS hl)

theorem mm_aload {n : Nat} {x : Nat} (hd : decode (mm_cc M) pc = .ok (.aload n, 2)) (hx : mm_look lv n = some (.ref x)) (k : mm_W l M R cs ss S E (pc + 2) lv (.ref x :: stk) I J) : mm_W l M R cs ss S E pc lv (stk) I J := by
  intro p e s m args below meth c D cA ad H locs ls X hP hS hl
  exact lv_aload X.1 X.2.1 hd (hl.at hx) (k p e s m args below meth c D cA ad H locs ls X hP hS hl)

theorem mm_iadd {x y : Int32} (hd : decode (mm_cc M) pc = .ok (.iadd, 1)) (k : mm_W l M R cs ss S E (pc + 1) lv (.int (x + y) :: stk) I J) : mm_W l M R cs ss S E pc lv (.int y :: .int x :: stk) I J := by
  intro p e s m args below meth c D cA ad H locs ls X hP hS hl
  exact lv_iadd X.1 X.2.1 hd (k p e s m args below meth c D cA ad H locs ls X hP hS hl)

theorem mm_isub {x y : Int32} (hd : decode (mm_cc M) pc = .ok (.isub, 1)) (k : mm_W l M R cs ss S E (pc + 1) lv (.int (x - y) :: stk) I J) : mm_W l M R cs ss S E pc lv (.int y :: .int x :: stk) I J := by
  intro p e s m args below meth c D cA ad H locs ls X hP hS hl
  exact lv_isub X.1 X.2.1 hd (k p e s m args below meth c D cA ad H locs ls X hP hS hl)

theorem mm_imul {x y : Int32} (hd : decode (mm_cc M) pc = .ok (.imul, 1)) (k : mm_W l M R cs ss S E (pc + 1) lv (.int (x * y) :: stk) I J) : mm_W l M R cs ss S E pc lv (.int y :: .int x :: stk) I J := by
  intro p e s m args below meth c D cA ad H locs ls X hP hS hl
  exact lv_imul X.1 X.2.1 hd (k p e s m args below meth c D cA ad H locs ls X hP hS hl)

theorem mm_iand {x y : Int32} (hd : decode (mm_cc M) pc = .ok (.iand, 1)) (k : mm_W l M R cs ss S E (pc + 1) lv (.int (x &&& y) :: stk) I J) : mm_W l M R cs ss S E pc lv (.int y :: .int x :: stk) I J := by
  intro p e s m args below meth c D cA ad H locs ls X hP hS hl
  exact lv_iand X.1 X.2.1 hd (k p e s m args below meth c D cA ad H locs ls X hP hS hl)

theorem mm_ior {x y : Int32} (hd : decode (mm_cc M) pc = .ok (.ior, 1)) (k : mm_W l M R cs ss S E (pc + 1) lv (.int (x ||| y) :: stk) I J) : mm_W l M R cs ss S E pc lv (.int y :: .int x :: stk) I J := by
  intro p e s m args below meth c D cA ad H locs ls X hP hS hl
  exact lv_ior X.1 X.2.1 hd (k p e s m args below meth c D cA ad H locs ls X hP hS hl)

theorem mm_ixor {x y : Int32} (hd : decode (mm_cc M) pc = .ok (.ixor, 1)) (k : mm_W l M R cs ss S E (pc + 1) lv (.int (x ^^^ y) :: stk) I J) : mm_W l M R cs ss S E pc lv (.int y :: .int x :: stk) I J := by
  intro p e s m args below meth c D cA ad H locs ls X hP hS hl
  exact lv_ixor X.1 X.2.1 hd (k p e s m args below meth c D cA ad H locs ls X hP hS hl)

theorem mm_ishl {x y : Int32} (hd : decode (mm_cc M) pc = .ok (.ishl, 1)) (k : mm_W l M R cs ss S E (pc + 1) lv (.int (x <<< (y &&& 31)) :: stk) I J) : mm_W l M R cs ss S E pc lv (.int y :: .int x :: stk) I J := by
  intro p e s m args below meth c D cA ad H locs ls X hP hS hl
  exact lv_ishl X.1 X.2.1 hd (k p e s m args below meth c D cA ad H locs ls X hP hS hl)

theorem mm_ishr {x y : Int32} (hd : decode (mm_cc M) pc = .ok (.ishr, 1)) (k : mm_W l M R cs ss S E (pc + 1) lv (.int (x >>> (y &&& 31)) :: stk) I J) : mm_W l M R cs ss S E pc lv (.int y :: .int x :: stk) I J := by
  intro p e s m args below meth c D cA ad H locs ls X hP hS hl
  exact lv_ishr X.1 X.2.1 hd (k p e s m args below meth c D cA ad H locs ls X hP hS hl)

theorem mm_iushr {x y : Int32} (hd : decode (mm_cc M) pc = .ok (.iushr, 1)) (k : mm_W l M R cs ss S E (pc + 1) lv (.int ((x.toUInt32 >>> (y.toUInt32 &&& Int32.toUInt32 31)).toInt32) :: stk) I J) : mm_W l M R cs ss S E pc lv (.int y :: .int x :: stk) I J := by
  intro p e s m args below meth c D cA ad H locs ls X hP hS hl
  exact lv_iushr X.1 X.2.1 hd rfl (k p e s m args below meth c D cA ad H locs ls X hP hS hl)

theorem mm_idiv {x y : Int32} (hd : decode (mm_cc M) pc = .ok (.idiv, 1)) (hne : ¬ y = 0) (k : mm_W l M R cs ss S E (pc + 1) lv (.int (x / y) :: stk) I J) : mm_W l M R cs ss S E pc lv (.int y :: .int x :: stk) I J := by
  intro p e s m args below meth c D cA ad H locs ls X hP hS hl
  exact lv_idiv X.1 X.2.1 hd hne (k p e s m args below meth c D cA ad H locs ls X hP hS hl)

theorem mm_irem {x y : Int32} (hd : decode (mm_cc M) pc = .ok (.irem, 1)) (hne : ¬ y = 0) (k : mm_W l M R cs ss S E (pc + 1) lv (.int (x - x / y * y) :: stk) I J) : mm_W l M R cs ss S E pc lv (.int y :: .int x :: stk) I J := by
  intro p e s m args below meth c D cA ad H locs ls X hP hS hl
  exact lv_irem X.1 X.2.1 hd hne (k p e s m args below meth c D cA ad H locs ls X hP hS hl)

theorem mm_ineg {x : Int32} (hd : decode (mm_cc M) pc = .ok (.ineg, 1)) (k : mm_W l M R cs ss S E (pc + 1) lv (.int (-x) :: stk) I J) : mm_W l M R cs ss S E pc lv (.int x :: stk) I J := by
  intro p e s m args below meth c D cA ad H locs ls X hP hS hl
  exact lv_ineg X.1 X.2.1 hd (k p e s m args below meth c D cA ad H locs ls X hP hS hl)

theorem mm_ladd {x y : Int64} (hd : decode (mm_cc M) pc = .ok (.ladd, 1)) (k : mm_W l M R cs ss S E (pc + 1) lv (.long (x + y) :: stk) I J) : mm_W l M R cs ss S E pc lv (.long y :: .long x :: stk) I J := by
  intro p e s m args below meth c D cA ad H locs ls X hP hS hl
  exact lv_ladd X.1 X.2.1 hd (k p e s m args below meth c D cA ad H locs ls X hP hS hl)

theorem mm_lsub {x y : Int64} (hd : decode (mm_cc M) pc = .ok (.lsub, 1)) (k : mm_W l M R cs ss S E (pc + 1) lv (.long (x - y) :: stk) I J) : mm_W l M R cs ss S E pc lv (.long y :: .long x :: stk) I J := by
  intro p e s m args below meth c D cA ad H locs ls X hP hS hl
  exact lv_lsub X.1 X.2.1 hd (k p e s m args below meth c D cA ad H locs ls X hP hS hl)

theorem mm_lmul {x y : Int64} (hd : decode (mm_cc M) pc = .ok (.lmul, 1)) (k : mm_W l M R cs ss S E (pc + 1) lv (.long (x * y) :: stk) I J) : mm_W l M R cs ss S E pc lv (.long y :: .long x :: stk) I J := by
  intro p e s m args below meth c D cA ad H locs ls X hP hS hl
  exact lv_lmul X.1 X.2.1 hd (k p e s m args below meth c D cA ad H locs ls X hP hS hl)

theorem mm_land {x y : Int64} (hd : decode (mm_cc M) pc = .ok (.land, 1)) (k : mm_W l M R cs ss S E (pc + 1) lv (.long (x &&& y) :: stk) I J) : mm_W l M R cs ss S E pc lv (.long y :: .long x :: stk) I J := by
  intro p e s m args below meth c D cA ad H locs ls X hP hS hl
  exact lv_land X.1 X.2.1 hd (k p e s m args below meth c D cA ad H locs ls X hP hS hl)

theorem mm_lor {x y : Int64} (hd : decode (mm_cc M) pc = .ok (.lor, 1)) (k : mm_W l M R cs ss S E (pc + 1) lv (.long (x ||| y) :: stk) I J) : mm_W l M R cs ss S E pc lv (.long y :: .long x :: stk) I J := by
  intro p e s m args below meth c D cA ad H locs ls X hP hS hl
  exact lv_lor X.1 X.2.1 hd (k p e s m args below meth c D cA ad H locs ls X hP hS hl)

theorem mm_lxor {x y : Int64} (hd : decode (mm_cc M) pc = .ok (.lxor, 1)) (k : mm_W l M R cs ss S E (pc + 1) lv (.long (x ^^^ y) :: stk) I J) : mm_W l M R cs ss S E pc lv (.long y :: .long x :: stk) I J := by
  intro p e s m args below meth c D cA ad H locs ls X hP hS hl
  exact lv_lxor X.1 X.2.1 hd (k p e s m args below meth c D cA ad H locs ls X hP hS hl)

theorem mm_lrem {x y : Int64} (hd : decode (mm_cc M) pc = .ok (.lrem, 1)) (hne : ¬ y = 0) (k : mm_W l M R cs ss S E (pc + 1) lv (.long (x - x / y * y) :: stk) I J) : mm_W l M R cs ss S E pc lv (.long y :: .long x :: stk) I J := by
  intro p e s m args below meth c D cA ad H locs ls X hP hS hl
  exact lv_lrem X.1 X.2.1 hd hne (k p e s m args below meth c D cA ad H locs ls X hP hS hl)

theorem mm_i2l {x : Int32} (hd : decode (mm_cc M) pc = .ok (.i2l, 1)) (k : mm_W l M R cs ss S E (pc + 1) lv (.long (x.toInt64) :: stk) I J) : mm_W l M R cs ss S E pc lv (.int x :: stk) I J := by
  intro p e s m args below meth c D cA ad H locs ls X hP hS hl
  exact lv_i2l X.1 X.2.1 hd rfl (k p e s m args below meth c D cA ad H locs ls X hP hS hl)

theorem mm_l2i {x : Int64} (hd : decode (mm_cc M) pc = .ok (.l2i, 1)) (k : mm_W l M R cs ss S E (pc + 1) lv (.int (x.toInt32) :: stk) I J) : mm_W l M R cs ss S E pc lv (.long x :: stk) I J := by
  intro p e s m args below meth c D cA ad H locs ls X hP hS hl
  exact lv_l2i X.1 X.2.1 hd rfl (k p e s m args below meth c D cA ad H locs ls X hP hS hl)

theorem mm_lshl {x : Int64} {y : Int32} (hd : decode (mm_cc M) pc = .ok (.lshl, 1)) (k : mm_W l M R cs ss S E (pc + 1) lv (.long (x <<< (y.toInt64 &&& 63)) :: stk) I J) : mm_W l M R cs ss S E pc lv (.int y :: .long x :: stk) I J := by
  intro p e s m args below meth c D cA ad H locs ls X hP hS hl
  exact lv_lshl X.1 X.2.1 hd rfl (k p e s m args below meth c D cA ad H locs ls X hP hS hl)

theorem mm_lshr {x : Int64} {y : Int32} (hd : decode (mm_cc M) pc = .ok (.lshr, 1)) (k : mm_W l M R cs ss S E (pc + 1) lv (.long (x >>> (y.toInt64 &&& 63)) :: stk) I J) : mm_W l M R cs ss S E pc lv (.int y :: .long x :: stk) I J := by
  intro p e s m args below meth c D cA ad H locs ls X hP hS hl
  exact lv_lshr X.1 X.2.1 hd rfl (k p e s m args below meth c D cA ad H locs ls X hP hS hl)

theorem mm_lushr {x : Int64} {y : Int32} (hd : decode (mm_cc M) pc = .ok (.lushr, 1)) (k : mm_W l M R cs ss S E (pc + 1) lv (.long ((x.toUInt64 >>> (y.toInt64.toUInt64 &&& Int64.toUInt64 63)).toInt64) :: stk) I J) : mm_W l M R cs ss S E pc lv (.int y :: .long x :: stk) I J := by
  intro p e s m args below meth c D cA ad H locs ls X hP hS hl
  exact lv_lushr X.1 X.2.1 hd rfl (k p e s m args below meth c D cA ad H locs ls X hP hS hl)

theorem mm_lcmp {x y : Int64} (hd : decode (mm_cc M) pc = .ok (.lcmp, 1)) (k : mm_W l M R cs ss S E (pc + 1) lv (.int (lg_cmp x y) :: stk) I J) : mm_W l M R cs ss S E pc lv (.long y :: .long x :: stk) I J := by
  intro p e s m args below meth c D cA ad H locs ls X hP hS hl
  exact W.lcmp X.1 X.2.1 hd (k p e s m args below meth c D cA ad H locs ls X hP hS hl)

theorem mm_dup {v : Value} (hd : decode (mm_cc M) pc = .ok (.dup, 1)) (hv : v.category = 1) (k : mm_W l M R cs ss S E (pc + 1) lv (v :: v :: stk) I J) : mm_W l M R cs ss S E pc lv (v :: stk) I J := by
  intro p e s m args below meth c D cA ad H locs ls X hP hS hl
  exact lv_dup X.1 X.2.1 hd ((mm_v_cat ad v).trans hv) (k p e s m args below meth c D cA ad H locs ls X hP hS hl)

theorem mm_pop {v : Value} (hd : decode (mm_cc M) pc = .ok (.pop, 1)) (hv : v.category = 1) (k : mm_W l M R cs ss S E (pc + 1) lv (stk) I J) : mm_W l M R cs ss S E pc lv (v :: stk) I J := by
  intro p e s m args below meth c D cA ad H locs ls X hP hS hl
  exact lv_pop X.1 X.2.1 hd ((mm_v_cat ad v).trans hv) (k p e s m args below meth c D cA ad H locs ls X hP hS hl)

theorem mm_dup2 {u v : Value} (hd : decode (mm_cc M) pc = .ok (.dup2, 1)) (hu : u.category = 1) (hv : v.category = 1) (k : mm_W l M R cs ss S E (pc + 1) lv (u :: v :: u :: v :: stk) I J) : mm_W l M R cs ss S E pc lv (u :: v :: stk) I J := by
  intro p e s m args below meth c D cA ad H locs ls X hP hS hl
  exact lv_dup2_11 X.1 X.2.1 hd ((mm_v_cat ad _).trans hu) ((mm_v_cat ad _).trans hv) (k p e s m args below meth c D cA ad H locs ls X hP hS hl)

theorem mm_ldc {q : Nat} {v : Int32} (hd : decode (mm_cc M) pc = .ok (.ldc q, 2)) (hc : Cond.constant (mm_own M) q v ∈ mm_GW) (k : mm_W l M R cs ss S E (pc + 2) lv (.int v :: stk) I J) : mm_W l M R cs ss S E pc lv (stk) I J := by
  intro p e s m args below meth c D cA ad H locs ls X hP hS hl
  exact lv_ldc X.1 X.2.1 X.2.2.2.1 (X.2.2.2.2.1 _ hc) hd (k p e s m args below meth c D cA ad H locs ls X hP hS hl)

theorem mm_ldcw {q : Nat} {v : Int32} (hd : decode (mm_cc M) pc = .ok (.ldc_w q, 3)) (hc : Cond.constant (mm_own M) q v ∈ mm_GW) (k : mm_W l M R cs ss S E (pc + 3) lv (.int v :: stk) I J) : mm_W l M R cs ss S E pc lv (stk) I J := by
  intro p e s m args below meth c D cA ad H locs ls X hP hS hl
  exact lv_ldcw X.1 X.2.1 X.2.2.2.1 (X.2.2.2.2.1 _ hc) hd (k p e s m args below meth c D cA ad H locs ls X hP hS hl)

theorem mm_ldc2 {q : Nat} {v : Int64} (hd : decode (mm_cc M) pc = .ok (.ldc2_w q, 3)) (hc : Cond.constantLong (mm_own M) q v ∈ mm_GW) (k : mm_W l M R cs ss S E (pc + 3) lv (.long v :: stk) I J) : mm_W l M R cs ss S E pc lv (stk) I J := by
  intro p e s m args below meth c D cA ad H locs ls X hP hS hl
  exact lv_ldc2 X.1 X.2.1 X.2.2.2.1 (X.2.2.2.2.1 _ hc) hd (k p e s m args below meth c D cA ad H locs ls X hP hS hl)

theorem mm_ldcS {q i : Nat} {tx : String} (hd : decode (mm_cc M) pc = .ok (.ldc q, 2)) (hc : (mm_own M, q, tx, i) ∈ mm_sR) (k : mm_W l M R cs ss S E (pc + 2) lv (.ref (1000000 + i) :: stk) I J) : mm_W l M R cs ss S E pc lv (stk) I J := by
  intro p e s m args below meth c D cA ad H locs ls X hP hS hl
  exact va_ldcS X.1 X.2.1 X.2.2.2.1 (X.2.2.2.2.2.2.2.2.1.2.1 _ hc) hd (k p e s m args below meth c D cA ad H locs ls X hP hS hl)

theorem mm_istore_n {n : Fin 4} {x : Int32} (hd : decode (mm_cc M) pc = .ok (.istore_n n, 1)) (hn : Nat.blt (n : Nat) (mm_nL M) = true) (hf : mm_free lv (n : Nat) = true) (k : mm_W l M R cs ss S E (pc + 1) (((n : Nat), .int x) :: lv) stk I J) : mm_W l M R cs ss S E pc lv (.int x :: stk) I J := by
  intro p e s m args below meth c D cA ad H locs ls X hP hS hl
  obtain ⟨l0, h0, h1⟩ := hl
  exact lv_istore_n X.1 X.2.1 hd rfl h0 (Nat.blt_eq.mp hn) rfl (fun ls' h' => k p e s m args below meth c D cA ad H locs ls' X hP hS ⟨_, h', mm_has_st1 h1 hf⟩)

theorem mm_istore {n : Nat} {x : Int32} (hd : decode (mm_cc M) pc = .ok (.istore n, 2)) (hn : Nat.blt n (mm_nL M) = true) (hf : mm_free lv n = true) (k : mm_W l M R cs ss S E (pc + 2) ((n, .int x) :: lv) stk I J) : mm_W l M R cs ss S E pc lv (.int x :: stk) I J := by
  intro p e s m args below meth c D cA ad H locs ls X hP hS hl
  obtain ⟨l0, h0, h1⟩ := hl
  exact lv_istore X.1 X.2.1 hd h0 (Nat.blt_eq.mp hn) rfl (fun ls' h' => k p e s m args below meth c D cA ad H locs ls' X hP hS ⟨_, h', mm_has_st1 h1 hf⟩)

theorem mm_astore_n {n : Fin 4} {x : Nat} (hd : decode (mm_cc M) pc = .ok (.astore_n n, 1)) (hn : Nat.blt (n : Nat) (mm_nL M) = true) (hf : mm_free lv (n : Nat) = true) (k : mm_W l M R cs ss S E (pc + 1) (((n : Nat), .ref x) :: lv) stk I J) : mm_W l M R cs ss S E pc lv (.ref x :: stk) I J := by
  intro p e s m args below meth c D cA ad H locs ls X hP hS hl
  obtain ⟨l0, h0, h1⟩ := hl
  exact lv_astore_n X.1 X.2.1 hd rfl h0 (Nat.blt_eq.mp hn) rfl (fun ls' h' => k p e s m args below meth c D cA ad H locs ls' X hP hS ⟨_, h', mm_has_st1 h1 hf⟩)

theorem mm_astore {n : Nat} {x : Nat} (hd : decode (mm_cc M) pc = .ok (.astore n, 2)) (hn : Nat.blt n (mm_nL M) = true) (hf : mm_free lv n = true) (k : mm_W l M R cs ss S E (pc + 2) ((n, .ref x) :: lv) stk I J) : mm_W l M R cs ss S E pc lv (.ref x :: stk) I J := by
  intro p e s m args below meth c D cA ad H locs ls X hP hS hl
  obtain ⟨l0, h0, h1⟩ := hl
  exact lv_astore X.1 X.2.1 hd h0 (Nat.blt_eq.mp hn) rfl (fun ls' h' => k p e s m args below meth c D cA ad H locs ls' X hP hS ⟨_, h', mm_has_st1 h1 hf⟩)

theorem mm_look_filter {lv : List (Nat × Value)} {P : Nat × Value → Bool} : ∀ {i : Nat} {v : Value}, (∀ w, P (i, w) = true) → mm_look (lv.filter P) i = mm_look lv i := by
  intro i v hP
  induction lv with
  | nil => rfl
  | cons q t ih =>
    by_cases e : q.1 = i
    · have hq : P q = true := by have := hP q.2; rw [← e] at this; exact this
      rw [List.filter_cons_of_pos hq]
      obtain ⟨a, b⟩ := q
      cases e
      rw [mm_look_hit, mm_look_hit]
    · have h2 : mm_look (q :: t) i = mm_look t i := mm_look_miss e
      rw [h2]
      cases hq : P q with
      | true =>
        rw [List.filter_cons_of_pos hq]
        exact (mm_look_miss e).trans ih
      | false =>
        rw [List.filter_cons_of_neg (by simp [hq])]
        exact ih
theorem mm_look_gone {lv : List (Nat × Value)} {P : Nat × Value → Bool} {i : Nat} {v : Value} (hP : ∀ w, P (i, w) = false) : mm_look (lv.filter P) i = none := by
  induction lv with
  | nil => rfl
  | cons q t ih =>
    by_cases e : q.1 = i
    · have hq : P q = false := by have := hP q.2; rw [← e] at this; exact this
      rw [List.filter_cons_of_neg (by simp [hq])]
      exact ih
    · cases hq : P q with
      | true =>
        rw [List.filter_cons_of_pos hq]
        exact (mm_look_miss e).trans ih
      | false =>
        rw [List.filter_cons_of_neg (by simp [hq])]
        exact ih
def mm_drop (lv : List (Nat × Value)) (i : Nat) : List (Nat × Value) := lv.filter (fun q => !(Nat.beq q.1 i))
theorem mm_has_st2 {ad : Nat → Nat} {lv l0 : List (Nat × Value)} {i : Nat} {x : Value} (h1 : ∀ i v, mm_look lv i = some v → (i, mm_v ad v) ∈ l0) (hf : mm_free lv i = true) : ∀ j v, mm_look ((i, x) :: mm_drop lv (i + 1)) j = some v → (j, mm_v ad v) ∈ (i, mm_v ad x) :: l0.filter (fun q => !(q.1 == i) && (!(q.1 == i + 1) && !(q.1 + 1 == i && q.2.category == 2))) := by
  intro j v hj
  by_cases e : i = j
  · subst e
    rw [mm_look_hit] at hj
    cases hj
    exact List.mem_cons_self
  · rw [mm_look_miss e] at hj
    by_cases e0 : j = i + 1
    · subst e0
      have : mm_look (mm_drop lv (i + 1)) (i + 1) = none := mm_look_gone (v := v) (fun w => by show (!(Nat.beq (i + 1) (i + 1))) = false; rw [Nat.beq_refl]; rfl)
      rw [this] at hj
      cases hj
    · have hj2 : mm_look lv j = some v := by
        rw [← hj]
        refine (mm_look_filter (v := v) (fun w => ?_)).symm
        show (!(Nat.beq j (i + 1))) = true
        cases hb : Nat.beq j (i + 1) with
        | false => rfl
        | true => exact absurd (Nat.eq_of_beq_eq_true hb) e0
      refine List.mem_cons_of_mem _ (List.mem_filter.mpr ⟨h1 j v hj2, ?_⟩)
      have e1 : (j == i) = false := by simpa using fun q : j = i => e q.symm
      have e4 : (j == i + 1) = false := by simpa using e0
      by_cases e2 : j + 1 = i
      · subst e2
        have hf' : (match mm_look lv j with | some (.long _) => false | some (.double _) => false | _ => true) = true := hf
        rw [hj2] at hf'
        have : (mm_v ad v).category = 1 := by
          rw [mm_v_cat]
          cases v <;> first | rfl | cases hf'
        simp [this, e4]
      · have e3 : (j + 1 == i) = false := by simpa using e2
        simp [e1, e3, e4]

theorem mm_lstore_n {n : Fin 4} {x : Int64} (hd : decode (mm_cc M) pc = .ok (.lstore_n n, 1)) (hn : Nat.blt ((n : Nat) + 1) (mm_nL M) = true) (hf : mm_free lv (n : Nat) = true) (k : mm_W l M R cs ss S E (pc + 1) (((n : Nat), .long x) :: mm_drop lv ((n : Nat) + 1)) stk I J) : mm_W l M R cs ss S E pc lv (.long x :: stk) I J := by
  intro p e s m args below meth c D cA ad H locs ls X hP hS hl
  obtain ⟨l0, h0, h1⟩ := hl
  exact lv_lstore_n X.1 X.2.1 hd rfl h0 (Nat.blt_eq.mp hn) rfl (fun ls' h' => k p e s m args below meth c D cA ad H locs ls' X hP hS ⟨_, h', mm_has_st2 h1 hf⟩)

theorem mm_lstore {n : Nat} {x : Int64} (hd : decode (mm_cc M) pc = .ok (.lstore n, 2)) (hn : Nat.blt (n + 1) (mm_nL M) = true) (hf : mm_free lv n = true) (k : mm_W l M R cs ss S E (pc + 2) ((n, .long x) :: mm_drop lv (n + 1)) stk I J) : mm_W l M R cs ss S E pc lv (.long x :: stk) I J := by
  intro p e s m args below meth c D cA ad H locs ls X hP hS hl
  obtain ⟨l0, h0, h1⟩ := hl
  exact lv_lstore X.1 X.2.1 hd h0 (Nat.blt_eq.mp hn) rfl (fun ls' h' => k p e s m args below meth c D cA ad H locs ls' X hP hS ⟨_, h', mm_has_st2 h1 hf⟩)

theorem mm_iinc {i : Nat} {n : Int} {x v : Int32} (hd : decode (mm_cc M) pc = .ok (.iinc i n, 3)) (hn : Nat.blt i (mm_nL M) = true) (hx : mm_look lv i = some (.int x)) (hf : mm_free lv i = true) (hv : x + Int32.ofInt n = v) (k : mm_W l M R cs ss S E (pc + 3) ((i, .int v) :: lv) stk I J) : mm_W l M R cs ss S E pc lv stk I J := by
  intro p e s m args below meth c D cA ad H locs ls X hP hS hl
  obtain ⟨l0, h0, h1⟩ := hl
  obtain ⟨kk, hk⟩ := List.getElem?_of_mem (h1 i _ hx)
  exact lv_iinc X.1 X.2.1 hd h0 hk hv (Nat.blt_eq.mp hn) rfl (fun ls' h' => k p e s m args below meth c D cA ad H locs ls' X hP hS ⟨_, h', mm_has_st1 h1 hf⟩)

theorem mm_goto {off : Int} {tgt : Nat} (hd : decode (mm_cc M) pc = .ok (.goto off, 3)) (ht : (pc : Int) + off = (tgt : Int)) (k : mm_W l M R cs ss S E tgt lv stk I J) : mm_W l M R cs ss S E pc lv stk I J := by
  intro p e s m args below meth c D cA ad H locs ls X hP hS hl
  exact lv_goto X.1 X.2.1 hd ht (k p e s m args below meth c D cA ad H locs ls X hP hS hl)

theorem mm_if_eq {x : Int32} {off : Int} {tgt : Nat} (hd : decode (mm_cc M) pc = .ok (.ifCond .eq off, 3)) (ht : (pc : Int) + off = (tgt : Int)) (kt : x = 0 → mm_W l M R cs ss S E tgt lv stk I J) (kf : ¬ x = 0 → mm_W l M R cs ss S E (pc + 3) lv stk I J) : mm_W l M R cs ss S E pc lv (.int x :: stk) I J := by
  intro p e s m args below meth c D cA ad H locs ls X hP hS hl
  exact lv_if_eq X.1 X.2.1 hd ht (fun q => kt q p e s m args below meth c D cA ad H locs ls X hP hS hl) (fun q => kf q p e s m args below meth c D cA ad H locs ls X hP hS hl)

theorem mm_if_ne {x : Int32} {off : Int} {tgt : Nat} (hd : decode (mm_cc M) pc = .ok (.ifCond .ne off, 3)) (ht : (pc : Int) + off = (tgt : Int)) (kt : ¬ x = 0 → mm_W l M R cs ss S E tgt lv stk I J) (kf : x = 0 → mm_W l M R cs ss S E (pc + 3) lv stk I J) : mm_W l M R cs ss S E pc lv (.int x :: stk) I J := by
  intro p e s m args below meth c D cA ad H locs ls X hP hS hl
  exact lv_if_ne X.1 X.2.1 hd ht (fun q => kt q p e s m args below meth c D cA ad H locs ls X hP hS hl) (fun q => kf q p e s m args below meth c D cA ad H locs ls X hP hS hl)

theorem mm_if_lt {x : Int32} {off : Int} {tgt : Nat} (hd : decode (mm_cc M) pc = .ok (.ifCond .lt off, 3)) (ht : (pc : Int) + off = (tgt : Int)) (kt : x < 0 → mm_W l M R cs ss S E tgt lv stk I J) (kf : ¬ x < 0 → mm_W l M R cs ss S E (pc + 3) lv stk I J) : mm_W l M R cs ss S E pc lv (.int x :: stk) I J := by
  intro p e s m args below meth c D cA ad H locs ls X hP hS hl
  exact lv_if_lt X.1 X.2.1 hd ht (fun q => kt q p e s m args below meth c D cA ad H locs ls X hP hS hl) (fun q => kf q p e s m args below meth c D cA ad H locs ls X hP hS hl)

theorem mm_if_ge {x : Int32} {off : Int} {tgt : Nat} (hd : decode (mm_cc M) pc = .ok (.ifCond .ge off, 3)) (ht : (pc : Int) + off = (tgt : Int)) (kt : 0 ≤ x → mm_W l M R cs ss S E tgt lv stk I J) (kf : ¬ 0 ≤ x → mm_W l M R cs ss S E (pc + 3) lv stk I J) : mm_W l M R cs ss S E pc lv (.int x :: stk) I J := by
  intro p e s m args below meth c D cA ad H locs ls X hP hS hl
  exact lv_if_ge X.1 X.2.1 hd ht (fun q => kt q p e s m args below meth c D cA ad H locs ls X hP hS hl) (fun q => kf q p e s m args below meth c D cA ad H locs ls X hP hS hl)

theorem mm_if_gt {x : Int32} {off : Int} {tgt : Nat} (hd : decode (mm_cc M) pc = .ok (.ifCond .gt off, 3)) (ht : (pc : Int) + off = (tgt : Int)) (kt : 0 < x → mm_W l M R cs ss S E tgt lv stk I J) (kf : ¬ 0 < x → mm_W l M R cs ss S E (pc + 3) lv stk I J) : mm_W l M R cs ss S E pc lv (.int x :: stk) I J := by
  intro p e s m args below meth c D cA ad H locs ls X hP hS hl
  exact lv_if_gt X.1 X.2.1 hd ht (fun q => kt q p e s m args below meth c D cA ad H locs ls X hP hS hl) (fun q => kf q p e s m args below meth c D cA ad H locs ls X hP hS hl)

theorem mm_if_le {x : Int32} {off : Int} {tgt : Nat} (hd : decode (mm_cc M) pc = .ok (.ifCond .le off, 3)) (ht : (pc : Int) + off = (tgt : Int)) (kt : x ≤ 0 → mm_W l M R cs ss S E tgt lv stk I J) (kf : ¬ x ≤ 0 → mm_W l M R cs ss S E (pc + 3) lv stk I J) : mm_W l M R cs ss S E pc lv (.int x :: stk) I J := by
  intro p e s m args below meth c D cA ad H locs ls X hP hS hl
  exact lv_if_le X.1 X.2.1 hd ht (fun q => kt q p e s m args below meth c D cA ad H locs ls X hP hS hl) (fun q => kf q p e s m args below meth c D cA ad H locs ls X hP hS hl)

theorem mm_icmp_eq {x y : Int32} {off : Int} {tgt : Nat} (hd : decode (mm_cc M) pc = .ok (.if_icmp .eq off, 3)) (ht : (pc : Int) + off = (tgt : Int)) (kt : x = y → mm_W l M R cs ss S E tgt lv stk I J) (kf : ¬ x = y → mm_W l M R cs ss S E (pc + 3) lv stk I J) : mm_W l M R cs ss S E pc lv (.int y :: .int x :: stk) I J := by
  intro p e s m args below meth c D cA ad H locs ls X hP hS hl
  exact lv_icmp_eq X.1 X.2.1 hd ht (fun q => kt q p e s m args below meth c D cA ad H locs ls X hP hS hl) (fun q => kf q p e s m args below meth c D cA ad H locs ls X hP hS hl)

theorem mm_icmp_ne {x y : Int32} {off : Int} {tgt : Nat} (hd : decode (mm_cc M) pc = .ok (.if_icmp .ne off, 3)) (ht : (pc : Int) + off = (tgt : Int)) (kt : ¬ x = y → mm_W l M R cs ss S E tgt lv stk I J) (kf : x = y → mm_W l M R cs ss S E (pc + 3) lv stk I J) : mm_W l M R cs ss S E pc lv (.int y :: .int x :: stk) I J := by
  intro p e s m args below meth c D cA ad H locs ls X hP hS hl
  exact lv_icmp_ne X.1 X.2.1 hd ht (fun q => kt q p e s m args below meth c D cA ad H locs ls X hP hS hl) (fun q => kf q p e s m args below meth c D cA ad H locs ls X hP hS hl)

theorem mm_icmp_lt {x y : Int32} {off : Int} {tgt : Nat} (hd : decode (mm_cc M) pc = .ok (.if_icmp .lt off, 3)) (ht : (pc : Int) + off = (tgt : Int)) (kt : x < y → mm_W l M R cs ss S E tgt lv stk I J) (kf : ¬ x < y → mm_W l M R cs ss S E (pc + 3) lv stk I J) : mm_W l M R cs ss S E pc lv (.int y :: .int x :: stk) I J := by
  intro p e s m args below meth c D cA ad H locs ls X hP hS hl
  exact lv_icmp_lt X.1 X.2.1 hd ht (fun q => kt q p e s m args below meth c D cA ad H locs ls X hP hS hl) (fun q => kf q p e s m args below meth c D cA ad H locs ls X hP hS hl)

theorem mm_icmp_ge {x y : Int32} {off : Int} {tgt : Nat} (hd : decode (mm_cc M) pc = .ok (.if_icmp .ge off, 3)) (ht : (pc : Int) + off = (tgt : Int)) (kt : y ≤ x → mm_W l M R cs ss S E tgt lv stk I J) (kf : ¬ y ≤ x → mm_W l M R cs ss S E (pc + 3) lv stk I J) : mm_W l M R cs ss S E pc lv (.int y :: .int x :: stk) I J := by
  intro p e s m args below meth c D cA ad H locs ls X hP hS hl
  exact lv_icmp_ge X.1 X.2.1 hd ht (fun q => kt q p e s m args below meth c D cA ad H locs ls X hP hS hl) (fun q => kf q p e s m args below meth c D cA ad H locs ls X hP hS hl)

theorem mm_icmp_gt {x y : Int32} {off : Int} {tgt : Nat} (hd : decode (mm_cc M) pc = .ok (.if_icmp .gt off, 3)) (ht : (pc : Int) + off = (tgt : Int)) (kt : y < x → mm_W l M R cs ss S E tgt lv stk I J) (kf : ¬ y < x → mm_W l M R cs ss S E (pc + 3) lv stk I J) : mm_W l M R cs ss S E pc lv (.int y :: .int x :: stk) I J := by
  intro p e s m args below meth c D cA ad H locs ls X hP hS hl
  exact lv_icmp_gt X.1 X.2.1 hd ht (fun q => kt q p e s m args below meth c D cA ad H locs ls X hP hS hl) (fun q => kf q p e s m args below meth c D cA ad H locs ls X hP hS hl)

theorem mm_icmp_le {x y : Int32} {off : Int} {tgt : Nat} (hd : decode (mm_cc M) pc = .ok (.if_icmp .le off, 3)) (ht : (pc : Int) + off = (tgt : Int)) (kt : x ≤ y → mm_W l M R cs ss S E tgt lv stk I J) (kf : ¬ x ≤ y → mm_W l M R cs ss S E (pc + 3) lv stk I J) : mm_W l M R cs ss S E pc lv (.int y :: .int x :: stk) I J := by
  intro p e s m args below meth c D cA ad H locs ls X hP hS hl
  exact lv_icmp_le X.1 X.2.1 hd ht (fun q => kt q p e s m args below meth c D cA ad H locs ls X hP hS hl) (fun q => kf q p e s m args below meth c D cA ad H locs ls X hP hS hl)

theorem mm_tabOut {dflt lo hi : Int} {offs : Array Int} {len : Nat} {x : Int32} {tgt : Nat} (hd : decode (mm_cc M) pc = .ok (.tableswitch dflt lo hi offs, len)) (h : x.toInt < lo ∨ hi < x.toInt) (ht : (pc : Int) + dflt = (tgt : Int)) (k : mm_W l M R cs ss S E tgt lv stk I J) : mm_W l M R cs ss S E pc lv (.int x :: stk) I J := by
  intro p e s m args below meth c D cA ad H locs ls X hP hS hl
  exact lv_tableOut X.1 X.2.1 hd h ht (k p e s m args below meth c D cA ad H locs ls X hP hS hl)

theorem mm_tabIn {dflt lo hi : Int} {offs : Array Int} {len : Nat} {x : Int32} {off : Int} {tgt : Nat} (z : Int) (hd : decode (mm_cc M) pc = .ok (.tableswitch dflt lo hi offs, len)) (hz : x.toInt = z) (h1 : ¬ z < lo) (h2 : ¬ hi < z) (ho : offs[(z - lo).toNat]? = some off) (ht : (pc : Int) + off = (tgt : Int)) (k : mm_W l M R cs ss S E tgt lv stk I J) : mm_W l M R cs ss S E pc lv (.int x :: stk) I J := by
  subst hz
  intro p e s m args below meth c D cA ad H locs ls X hP hS hl
  exact lv_tableIn X.1 X.2.1 hd h1 h2 ho ht (k p e s m args below meth c D cA ad H locs ls X hP hS hl)

/-- a class of the tables: its words are good, its fields apart -/
def mm_CL (ci : Nat) (C : String) (T : u_T) (N : Nat) : Prop := vwCl[ci]? = some (C, T, N) ∧ (∀ w ∈ u_ws C T N, w ∈ mm_GW) ∧ ∃ ty0 : Nat → FieldType, (∀ k, k < N → parseFieldDescriptor (T k).2.2.1 = some (ty0 k)) ∧ ∀ a, a < N → ∀ b, b < N → a ≠ b → (T a).2.1 ≠ (T b).2.1
/-- entry idx of class own names field k of class ci -/
def mm_FL (own : String) (idx ci k : Nat) : Prop := ∃ C T N, mm_CL ci C T N ∧ k < N ∧ (Cond.fieldLink own idx (T k).1 (T k).2.1 (T k).2.2.1 ∈ mm_GW ∨ ∃ host, Cond.fieldLinkNest own idx (T k).1 (T k).2.1 (T k).2.2.1 host ∈ mm_NW)
/-- .. and it may be written, type ty -/
def mm_FP (own : String) (idx ci k : Nat) (ty : FieldType) : Prop := ∃ C T N, mm_CL ci C T N ∧ k < N ∧ (Cond.fieldLink own idx (T k).1 (T k).2.1 (T k).2.2.1 ∈ mm_GW ∨ ∃ host, Cond.fieldLinkNest own idx (T k).1 (T k).2.1 (T k).2.2.1 host ∈ mm_NW) ∧ (T k).2.2.2 = false ∧ parseFieldDescriptor (T k).2.2.1 = some ty
/-- cell r is an object of class ci whose field k is f -/
def mm_fld (S : mm_Sh) (r ci k : Nat) (f : Nat ⊕ Nat) : Prop := ∃ fs, S[r]? = some (.inr (ci, fs)) ∧ fs[k]? = some f
theorem mm_getA {r ci k idx : Nat} {f : Nat ⊕ Nat} {v : Value} (hF : mm_FL (mm_own M) idx ci k) (hd : decode (mm_cc M) pc = .ok (.getfield idx, 3)) (hr : mm_fld S r ci k f) (hv : ∀ ad, mm_f ad (I r) (J r) k f = mm_v ad v) (kk : mm_W l M R cs ss S E (pc + 3) lv (v :: stk) I J) : mm_W l M R cs ss S E pc lv (.ref r :: stk) I J := by
  intro p e s m args below meth c D cA ad H locs ls X hP hS hl
  have hk := kk p e s m args below meth c D cA ad H locs ls X hP hS hl
  obtain ⟨C, T, N, ⟨hc, hw, ty0, hty, hnm⟩, hkN, hlink⟩ := hF
  obtain ⟨fs, hs, hf⟩ := hr
  obtain ⟨hx, hb, hml, hown, hts, hnest, hK, hinj, hT, hret, hlocks⟩ := X
  have he := mm_w_at (cA := cA) (ad := ad) (I := I) (J := J) hs
  have hv' : (fs.mapIdx (mm_f ad (I r) (J r)))[k]? = some (mm_v ad v) := by
    rw [List.getElem?_mapIdx, hf, Option.map_some, hv]
  rcases hlink with hlink | ⟨host, hlink⟩
  · exact va_get (D := D) (C := C) (T := T) (N := N) hx hb hts hw hown hK hP r he hc k hkN (hts _ hlink) (fun _ h9 => h9) hv' hd hk
  · exact va_getN (D := D) (C := C) (T := T) (N := N) (host := host) hx hb hts hw hown hK hP r he hc k hkN (va_Nw.use rfl (hnest _ hlink)) (fun _ h9 => h9) hv' hd hk
theorem mm_getI {r ci k idx : Nat} (hF : mm_FL (mm_own M) idx ci k) (hd : decode (mm_cc M) pc = .ok (.getfield idx, 3)) (hr : mm_fld S r ci k (.inr 0)) (kk : mm_W l M R cs ss S E (pc + 3) lv (.int (I r k) :: stk) I J) : mm_W l M R cs ss S E pc lv (.ref r :: stk) I J := mm_getA hF hd hr (fun _ => rfl) kk
theorem mm_getJ {r ci k idx : Nat} (hF : mm_FL (mm_own M) idx ci k) (hd : decode (mm_cc M) pc = .ok (.getfield idx, 3)) (hr : mm_fld S r ci k (.inr 1)) (kk : mm_W l M R cs ss S E (pc + 3) lv (.long (J r k) :: stk) I J) : mm_W l M R cs ss S E pc lv (.ref r :: stk) I J := mm_getA hF hd hr (fun _ => rfl) kk
theorem mm_getR {r ci k idx q : Nat} (hF : mm_FL (mm_own M) idx ci k) (hd : decode (mm_cc M) pc = .ok (.getfield idx, 3)) (hr : mm_fld S r ci k (.inl q)) (kk : mm_W l M R cs ss S E (pc + 3) lv (.ref q :: stk) I J) : mm_W l M R cs ss S E pc lv (.ref r :: stk) I J := mm_getA hF hd hr (fun _ => rfl) kk
theorem mm_putA {r ci k idx : Nat} {ty : FieldType} {v : Value} {I' : mm_I} {J' : mm_J} (hF : mm_FP (mm_own M) idx ci k ty) (hd : decode (mm_cc M) pc = .ok (.putfield idx, 3)) (hr : ∃ fs, S[r]? = some (.inr (ci, fs)) ∧ k < fs.length ∧ ∀ cA ad, (mm_w cA ad S I J).set r (ad r, .inr (ci, (fs.mapIdx (mm_f ad (I r) (J r))).set k v)) = mm_w cA ad S I' J') (hv : ∀ ad, mm_v ad v = v) (hn : narrow ty v = v) (hfit : fits ty v = true) (kk : mm_W l M R cs ss S E (pc + 3) lv stk I' J') : mm_W l M R cs ss S E pc lv (v :: .ref r :: stk) I J := by
  intro p e s m args below meth c D cA ad H locs ls X hP hS hl
  have hX := X
  obtain ⟨C, T, N, ⟨hc, hw, ty0, hty, hnm⟩, hkN, hlink, hfin, hd2⟩ := hF
  obtain ⟨fs, hs, hkl, hset⟩ := hr
  obtain ⟨hx, hb, hml, hown, hts, hnest, hK, hinj, hT, hret, hlocks⟩ := X
  have he := mm_w_at (cA := cA) (ad := ad) (I := I) (J := J) hs
  have hD := mm_D (cA := cA) (I := I) (J := J) hinj
  have hl2 : k < (fs.mapIdx (mm_f ad (I r) (J r))).length := by simpa using hkl
  show W p l e R s m args below meth c H locs cs ss _ (F0 m pc ls (mm_v ad v :: .ref (ad r) :: stk.map (mm_v ad)))
  rw [hv ad]
  have kk2 : ∀ (H1 : Heap) (locs1 : List Loc), va_P D vwCl ((mm_w cA ad S I J).set r (ad r, .inr (ci, (fs.mapIdx (mm_f ad (I r) (J r))).set k v))) H1 → va_D (mm_A ad S) ((mm_w cA ad S I J).set r (ad r, .inr (ci, (fs.mapIdx (mm_f ad (I r) (J r))).set k v))) → va_S (mm_A ad S) s.heap H1 locs1 → W p l e R s m args below meth c H1 locs1 cs ss (E below args s D cA ad) (F0 m (pc + 3) ls (stk.map (mm_v ad))) := by
    intro H1 locs1 hP1 _ hS1
    rw [hset] at hP1
    exact kk p e s m args below meth c D cA ad H1 locs1 ls hX hP1 hS1 hl
  rcases hlink with hlink | ⟨host, hlink⟩
  · exact va_put (D := D) (C := C) (T := T) (N := N) hx hb hts hw ty0 hty hnm hown hK hP hD hS r he hc k hkN (hts _ hlink) (fun _ h9 => h9) hfin hd2 hn hfit hl2 hd kk2
  · exact va_putN (D := D) (C := C) (T := T) (N := N) (host := host) hx hb hts hw ty0 hty hnm hown hK hP hD hS r he hc k hkN (va_Nw.use rfl (hnest _ hlink)) (fun _ h9 => h9) hfin hd2 hn hfit hl2 hd kk2
theorem mm_putI {r ci k idx : Nat} {x : Int32} (hF : mm_FP (mm_own M) idx ci k .int) (hd : decode (mm_cc M) pc = .ok (.putfield idx, 3)) (hr : mm_fld S r ci k (.inr 0)) (kk : mm_W l M R cs ss S E (pc + 3) lv stk (mm_up I r k x) J) : mm_W l M R cs ss S E pc lv (.int x :: .ref r :: stk) I J := by
  obtain ⟨fs, hs, hf⟩ := hr
  exact mm_putA hF hd ⟨fs, hs, (List.getElem?_eq_some_iff.mp hf).1, fun cA ad => mm_w_setI hs hf⟩ (fun _ => rfl) rfl rfl kk
theorem mm_putZ {r ci k idx : Nat} {x : Int32} (hF : mm_FP (mm_own M) idx ci k .boolean) (hd : decode (mm_cc M) pc = .ok (.putfield idx, 3)) (hr : mm_fld S r ci k (.inr 0)) (hx : x = 0 ∨ x = 1) (kk : mm_W l M R cs ss S E (pc + 3) lv stk (mm_up I r k x) J) : mm_W l M R cs ss S E pc lv (.int x :: .ref r :: stk) I J := by
  obtain ⟨fs, hs, hf⟩ := hr
  refine mm_putA hF hd ⟨fs, hs, (List.getElem?_eq_some_iff.mp hf).1, fun cA ad => mm_w_setI hs hf⟩ (fun _ => rfl) ?_ ?_ kk
  · rcases hx with rfl | rfl <;> decide +kernel
  · rcases hx with rfl | rfl <;> decide +kernel
theorem mm_putJ {r ci k idx : Nat} {x : Int64} (hF : mm_FP (mm_own M) idx ci k .long) (hd : decode (mm_cc M) pc = .ok (.putfield idx, 3)) (hr : mm_fld S r ci k (.inr 1)) (kk : mm_W l M R cs ss S E (pc + 3) lv stk I (mm_upJ J r k x)) : mm_W l M R cs ss S E pc lv (.long x :: .ref r :: stk) I J := by
  obtain ⟨fs, hs, hf⟩ := hr
  exact mm_putA hF hd ⟨fs, hs, (List.getElem?_eq_some_iff.mp hf).1, fun cA ad => mm_w_setJ hs hf⟩ (fun _ => rfl) rfl rfl kk
/-! arrays -/
theorem mm_iald {r n : Nat} {i : Int32} (hd : decode (mm_cc M) pc = .ok (.iaload, 1)) (hr : S[r]? = some (.inl (0, n))) (hin : vp_in i n) (kk : mm_W l M R cs ss S E (pc + 1) lv (.int (I r i.toNatClampNeg) :: stk) I J) : mm_W l M R cs ss S E pc lv (.int i :: .ref r :: stk) I J := by
  intro p e s m args below meth c D cA ad H locs ls X hP hS hl
  exact va_iald X.1 X.2.1 X.2.2.2.2.2.2.1 hP r 0 (mm_w_at hr) rfl hin hd (kk p e s m args below meth c D cA ad H locs ls X hP hS hl)
theorem mm_zald {r n : Nat} {i : Int32} (hd : decode (mm_cc M) pc = .ok (.baload, 1)) (hr : S[r]? = some (.inl (1, n))) (hin : vp_in i n) (kk : mm_W l M R cs ss S E (pc + 1) lv (.int (I r i.toNatClampNeg) :: stk) I J) : mm_W l M R cs ss S E pc lv (.int i :: .ref r :: stk) I J := by
  intro p e s m args below meth c D cA ad H locs ls X hP hS hl
  exact va_zald X.1 X.2.1 X.2.2.2.2.2.2.1 hP r 1 (mm_w_at hr) rfl hin hd (kk p e s m args below meth c D cA ad H locs ls X hP hS hl)
theorem mm_iast {r n : Nat} {i x : Int32} (hd : decode (mm_cc M) pc = .ok (.iastore, 1)) (hr : S[r]? = some (.inl (0, n))) (hin : vp_in i n) (kk : mm_W l M R cs ss S E (pc + 1) lv stk (mm_up I r i.toNatClampNeg x) J) : mm_W l M R cs ss S E pc lv (.int x :: .int i :: .ref r :: stk) I J := by
  intro p e s m args below meth c D cA ad H locs ls X hP hS hl
  refine va_iast X.1 X.2.1 X.2.2.2.2.2.2.1 hP (mm_D X.2.2.2.2.2.2.2.1) hS r 0 (mm_w_at hr) rfl hin hd (fun H1 locs1 hP1 _ hS1 => ?_)
  rw [mm_w_setA hr] at hP1
  exact kk p e s m args below meth c D cA ad H1 locs1 ls X hP1 hS1 hl
theorem mm_nar0 {x : Int32} (hx : x = 0 ∨ x = 1) : vp_nar .boolean x = x := by
  rcases hx with rfl | rfl <;> decide +kernel
theorem mm_zast {r n : Nat} {i x : Int32} (hd : decode (mm_cc M) pc = .ok (.bastore, 1)) (hr : S[r]? = some (.inl (1, n))) (hin : vp_in i n) (hx : x = 0 ∨ x = 1) (kk : mm_W l M R cs ss S E (pc + 1) lv stk (mm_up I r i.toNatClampNeg x) J) : mm_W l M R cs ss S E pc lv (.int x :: .int i :: .ref r :: stk) I J := by
  intro p e s m args below meth c D cA ad H locs ls X hP hS hl
  refine va_zast X.1 X.2.1 X.2.2.2.2.2.2.1 hP (mm_D X.2.2.2.2.2.2.2.1) hS r 1 (mm_w_at hr) rfl hin hd (fun H1 locs1 hP1 _ hS1 => ?_)
  rw [mm_nar0 hx, mm_w_setA hr] at hP1
  exact kk p e s m args below meth c D cA ad H1 locs1 ls X hP1 hS1 hl
theorem mm_alen {r n : Nat} {v : Int32} (hd : decode (mm_cc M) pc = .ok (.arraylength, 1)) (hr : S[r]? = some (.inl (0, n))) (hv : Int32.ofNat n = v) (kk : mm_W l M R cs ss S E (pc + 1) lv (.int v :: stk) I J) : mm_W l M R cs ss S E pc lv (.ref r :: stk) I J := by
  intro p e s m args below meth c D cA ad H locs ls X hP hS hl
  exact va_alen X.1 X.2.1 X.2.2.2.2.2.2.1 hP r 0 (mm_w_at hr) (ty := .int) rfl hv hd (kk p e s m args below meth c D cA ad H locs ls X hP hS hl)
end MMR
/-! ends, starts, calls -/
section MME
variable {l : Launch} {M : mm_M} {R : Room} {S : mm_Sh} {Q : mm_QQ} {pc : Nat} {lv : List (Nat × Value)} {I : mm_I} {J : mm_J}
theorem mm_iret {v : Int32} (hr : mm_ret M = some .int) (hd : decode (mm_cc M) pc = .ok (.ireturn, 1)) (q : Q (some (.int v)) I J) : mm_W l M R 0 0 S (mm_end S Q) pc lv [.int v] I J := by
  intro p e s m args below meth c D cA ad H locs ls X hP hS hl
  exact W.iret (v := v) X.1 X.2.1 (X.2.2.2.2.2.2.2.2.2.1.trans hr) (fun t ht hW => ⟨⟨some (.int v), I, J, rfl, q, by rw [ht]; exact hP⟩, hS.F ht⟩) hS.2.2 hd X.2.2.2.2.2.2.2.2.2.2
theorem mm_zret {v : Int32} (hr : mm_ret M = some .boolean) (hd : decode (mm_cc M) pc = .ok (.ireturn, 1)) (hv : v = 0 ∨ v = 1) (q : Q (some (.int v)) I J) : mm_W l M R 0 0 S (mm_end S Q) pc lv [.int v] I J := by
  intro p e s m args below meth c D cA ad H locs ls X hP hS hl
  exact W.zret (v := v) X.1 X.2.1 (X.2.2.2.2.2.2.2.2.2.1.trans hr) (by rcases hv with rfl | rfl <;> decide +kernel) (fun t ht hW => ⟨⟨some (.int v), I, J, rfl, q, by rw [ht]; exact hP⟩, hS.F ht⟩) hS.2.2 hd X.2.2.2.2.2.2.2.2.2.2
theorem mm_lret {v : Int64} (hr : mm_ret M = some .long) (hd : decode (mm_cc M) pc = .ok (.lreturn, 1)) (q : Q (some (.long v)) I J) : mm_W l M R 0 0 S (mm_end S Q) pc lv [.long v] I J := by
  intro p e s m args below meth c D cA ad H locs ls X hP hS hl
  exact W.lret (v := v) X.1 X.2.1 (X.2.2.2.2.2.2.2.2.2.1.trans hr) (fun t ht hW => ⟨⟨some (.long v), I, J, rfl, q, by rw [ht]; exact hP⟩, hS.F ht⟩) hS.2.2 hd X.2.2.2.2.2.2.2.2.2.2
theorem mm_vret (hr : mm_ret M = none) (hd : decode (mm_cc M) pc = .ok (.return_, 1)) (q : Q none I J) : mm_W l M R 0 0 S (mm_end S Q) pc lv [] I J := by
  intro p e s m args below meth c D cA ad H locs ls X hP hS hl
  exact W.vret X.1 X.2.1 (X.2.2.2.2.2.2.2.2.2.1.trans hr) (fun t ht hW => ⟨⟨none, I, J, rfl, q, by rw [ht]; exact hP⟩, hS.F ht⟩) hS.2.2 hd X.2.2.2.2.2.2.2.2.2.2
theorem mm_aret {r : Nat} {C : String} (hr : mm_ret M = some (.object C)) (hd : decode (mm_cc M) pc = .ok (.areturn, 1)) (q : Q (some (.ref r)) I J) : mm_W l M R 0 0 S (mm_end S Q) pc lv [.ref r] I J := by
  intro p e s m args below meth c D cA ad H locs ls X hP hS hl
  exact W.aret (v := .ref (ad r)) X.1 X.2.1 (X.2.2.2.2.2.2.2.2.2.1.trans hr) (Or.inl ⟨C, rfl⟩) (Or.inr ⟨ad r, rfl⟩) (fun t ht hW => ⟨⟨some (.ref r), I, J, rfl, q, by rw [ht]; exact hP⟩, hS.F ht⟩) hS.2.2 hd X.2.2.2.2.2.2.2.2.2.2
end MME
