/-! each instruction of the abstract machine is one of the real machine's -/
section
variable {G : Gx} {B : Bas} {m d pc : Nat} {ls : List Value} {σ : Hp} {r : List Value}
theorem go_iadd {x y : Int32} (hd : decode (mbG m) pc = .ok (.iadd, 1)) : Go G B m d (pc, ls, .int y :: .int x :: r, σ) (pc + 1, ls, .int (x + y) :: r, σ) := by
  intro p l e R s mm args below meth c H locs lsC nE sE Q C hR h1 h2 h3 h4 hH hS hl k
  exact lv_iadd C.1 C.2.1 hd (k H locs lsC hH hS hl)
theorem go_isub {x y : Int32} (hd : decode (mbG m) pc = .ok (.isub, 1)) : Go G B m d (pc, ls, .int y :: .int x :: r, σ) (pc + 1, ls, .int (x - y) :: r, σ) := by
  intro p l e R s mm args below meth c H locs lsC nE sE Q C hR h1 h2 h3 h4 hH hS hl k
  exact lv_isub C.1 C.2.1 hd (k H locs lsC hH hS hl)
theorem go_imul {x y : Int32} (hd : decode (mbG m) pc = .ok (.imul, 1)) : Go G B m d (pc, ls, .int y :: .int x :: r, σ) (pc + 1, ls, .int (x * y) :: r, σ) := by
  intro p l e R s mm args below meth c H locs lsC nE sE Q C hR h1 h2 h3 h4 hH hS hl k
  exact lv_imul C.1 C.2.1 hd (k H locs lsC hH hS hl)
theorem go_iand {x y : Int32} (hd : decode (mbG m) pc = .ok (.iand, 1)) : Go G B m d (pc, ls, .int y :: .int x :: r, σ) (pc + 1, ls, .int (x &&& y) :: r, σ) := by
  intro p l e R s mm args below meth c H locs lsC nE sE Q C hR h1 h2 h3 h4 hH hS hl k
  exact lv_iand C.1 C.2.1 hd (k H locs lsC hH hS hl)
theorem go_ior {x y : Int32} (hd : decode (mbG m) pc = .ok (.ior, 1)) : Go G B m d (pc, ls, .int y :: .int x :: r, σ) (pc + 1, ls, .int (x ||| y) :: r, σ) := by
  intro p l e R s mm args below meth c H locs lsC nE sE Q C hR h1 h2 h3 h4 hH hS hl k
  exact lv_ior C.1 C.2.1 hd (k H locs lsC hH hS hl)
theorem go_ixor {x y : Int32} (hd : decode (mbG m) pc = .ok (.ixor, 1)) : Go G B m d (pc, ls, .int y :: .int x :: r, σ) (pc + 1, ls, .int (x ^^^ y) :: r, σ) := by
  intro p l e R s mm args below meth c H locs lsC nE sE Q C hR h1 h2 h3 h4 hH hS hl k
  exact lv_ixor C.1 C.2.1 hd (k H locs lsC hH hS hl)
theorem go_ishl {x y : Int32} (hd : decode (mbG m) pc = .ok (.ishl, 1)) : Go G B m d (pc, ls, .int y :: .int x :: r, σ) (pc + 1, ls, .int (x <<< (y &&& 31)) :: r, σ) := by
  intro p l e R s mm args below meth c H locs lsC nE sE Q C hR h1 h2 h3 h4 hH hS hl k
  exact lv_ishl C.1 C.2.1 hd (k H locs lsC hH hS hl)
theorem go_ishr {x y : Int32} (hd : decode (mbG m) pc = .ok (.ishr, 1)) : Go G B m d (pc, ls, .int y :: .int x :: r, σ) (pc + 1, ls, .int (x >>> (y &&& 31)) :: r, σ) := by
  intro p l e R s mm args below meth c H locs lsC nE sE Q C hR h1 h2 h3 h4 hH hS hl k
  exact lv_ishr C.1 C.2.1 hd (k H locs lsC hH hS hl)
theorem go_iushr {x y : Int32} (hd : decode (mbG m) pc = .ok (.iushr, 1)) : Go G B m d (pc, ls, .int y :: .int x :: r, σ) (pc + 1, ls, .int (x.toUInt32 >>> (y.toUInt32 &&& Int32.toUInt32 31)).toInt32 :: r, σ) := by
  intro p l e R s mm args below meth c H locs lsC nE sE Q C hR h1 h2 h3 h4 hH hS hl k
  exact lv_iushr C.1 C.2.1 hd rfl (k H locs lsC hH hS hl)
theorem go_idiv {x y : Int32} (hd : decode (mbG m) pc = .ok (.idiv, 1)) (hne : ¬ y = 0) : Go G B m d (pc, ls, .int y :: .int x :: r, σ) (pc + 1, ls, .int (x / y) :: r, σ) := by
  intro p l e R s mm args below meth c H locs lsC nE sE Q C hR h1 h2 h3 h4 hH hS hl k
  exact lv_idiv C.1 C.2.1 hd hne (k H locs lsC hH hS hl)
theorem go_irem {x y : Int32} (hd : decode (mbG m) pc = .ok (.irem, 1)) (hne : ¬ y = 0) : Go G B m d (pc, ls, .int y :: .int x :: r, σ) (pc + 1, ls, .int (x - x / y * y) :: r, σ) := by
  intro p l e R s mm args below meth c H locs lsC nE sE Q C hR h1 h2 h3 h4 hH hS hl k
  exact lv_irem C.1 C.2.1 hd hne (k H locs lsC hH hS hl)
theorem go_ladd {x y : Int64} (hd : decode (mbG m) pc = .ok (.ladd, 1)) : Go G B m d (pc, ls, .long y :: .long x :: r, σ) (pc + 1, ls, .long (x + y) :: r, σ) := by
  intro p l e R s mm args below meth c H locs lsC nE sE Q C hR h1 h2 h3 h4 hH hS hl k
  exact lv_ladd C.1 C.2.1 hd (k H locs lsC hH hS hl)
theorem go_lsub {x y : Int64} (hd : decode (mbG m) pc = .ok (.lsub, 1)) : Go G B m d (pc, ls, .long y :: .long x :: r, σ) (pc + 1, ls, .long (x - y) :: r, σ) := by
  intro p l e R s mm args below meth c H locs lsC nE sE Q C hR h1 h2 h3 h4 hH hS hl k
  exact lv_lsub C.1 C.2.1 hd (k H locs lsC hH hS hl)
theorem go_lmul {x y : Int64} (hd : decode (mbG m) pc = .ok (.lmul, 1)) : Go G B m d (pc, ls, .long y :: .long x :: r, σ) (pc + 1, ls, .long (x * y) :: r, σ) := by
  intro p l e R s mm args below meth c H locs lsC nE sE Q C hR h1 h2 h3 h4 hH hS hl k
  exact lv_lmul C.1 C.2.1 hd (k H locs lsC hH hS hl)
theorem go_ldiv {x y : Int64} (hd : decode (mbG m) pc = .ok (.ldiv, 1)) (hne : ¬ y = 0) : Go G B m d (pc, ls, .long y :: .long x :: r, σ) (pc + 1, ls, .long (x / y) :: r, σ) := by
  intro p l e R s mm args below meth c H locs lsC nE sE Q C hR h1 h2 h3 h4 hH hS hl k
  exact lv_ldiv C.1 C.2.1 hd hne (k H locs lsC hH hS hl)
theorem go_lrem {x y : Int64} (hd : decode (mbG m) pc = .ok (.lrem, 1)) (hne : ¬ y = 0) : Go G B m d (pc, ls, .long y :: .long x :: r, σ) (pc + 1, ls, .long (x - x / y * y) :: r, σ) := by
  intro p l e R s mm args below meth c H locs lsC nE sE Q C hR h1 h2 h3 h4 hH hS hl k
  exact lv_lrem C.1 C.2.1 hd hne (k H locs lsC hH hS hl)
theorem go_ineg {x : Int32} (hd : decode (mbG m) pc = .ok (.ineg, 1)) : Go G B m d (pc, ls, .int x :: r, σ) (pc + 1, ls, .int (-x) :: r, σ) := by
  intro p l e R s mm args below meth c H locs lsC nE sE Q C hR h1 h2 h3 h4 hH hS hl k
  exact lv_ineg C.1 C.2.1 hd (k H locs lsC hH hS hl)
theorem go_i2l {x : Int32} (hd : decode (mbG m) pc = .ok (.i2l, 1)) : Go G B m d (pc, ls, .int x :: r, σ) (pc + 1, ls, .long x.toInt64 :: r, σ) := by
  intro p l e R s mm args below meth c H locs lsC nE sE Q C hR h1 h2 h3 h4 hH hS hl k
  exact lv_i2l C.1 C.2.1 hd rfl (k H locs lsC hH hS hl)
theorem go_l2i {x : Int64} (hd : decode (mbG m) pc = .ok (.l2i, 1)) : Go G B m d (pc, ls, .long x :: r, σ) (pc + 1, ls, .int x.toInt32 :: r, σ) := by
  intro p l e R s mm args below meth c H locs lsC nE sE Q C hR h1 h2 h3 h4 hH hS hl k
  exact lv_l2i C.1 C.2.1 hd rfl (k H locs lsC hH hS hl)
theorem go_lcmp {x y : Int64} (hd : decode (mbG m) pc = .ok (.lcmp, 1)) : Go G B m d (pc, ls, .long y :: .long x :: r, σ) (pc + 1, ls, .int (lg_cmp x y) :: r, σ) := by
  intro p l e R s mm args below meth c H locs lsC nE sE Q C hR h1 h2 h3 h4 hH hS hl k
  exact W.lcmp C.1 C.2.1 hd (k H locs lsC hH hS hl)
theorem go_iconst {n : Int} (hd : decode (mbG m) pc = .ok (.iconst n, 1)) : Go G B m d (pc, ls, r, σ) (pc + 1, ls, .int (Int32.ofInt n) :: r, σ) := by
  intro p l e R s mm args below meth c H locs lsC nE sE Q C hR h1 h2 h3 h4 hH hS hl k
  exact lv_iconst C.1 C.2.1 hd rfl (k H locs lsC hH hS hl)
theorem go_bipush {n : Int} (hd : decode (mbG m) pc = .ok (.bipush n, 2)) : Go G B m d (pc, ls, r, σ) (pc + 2, ls, .int (Int8.ofInt n).toInt32 :: r, σ) := by
  intro p l e R s mm args below meth c H locs lsC nE sE Q C hR h1 h2 h3 h4 hH hS hl k
  exact lv_bipush C.1 C.2.1 hd rfl (k H locs lsC hH hS hl)
theorem go_sipush {n : Int} (hd : decode (mbG m) pc = .ok (.sipush n, 3)) : Go G B m d (pc, ls, r, σ) (pc + 3, ls, .int (Int16.ofInt n).toInt32 :: r, σ) := by
  intro p l e R s mm args below meth c H locs lsC nE sE Q C hR h1 h2 h3 h4 hH hS hl k
  exact lv_sipush C.1 C.2.1 hd rfl (k H locs lsC hH hS hl)
theorem go_lconst {n : Fin 2} (hd : decode (mbG m) pc = .ok (.lconst n, 1)) : Go G B m d (pc, ls, r, σ) (pc + 1, ls, .long (Int64.ofNat n) :: r, σ) := by
  intro p l e R s mm args below meth c H locs lsC nE sE Q C hR h1 h2 h3 h4 hH hS hl k
  exact lv_lconst C.1 C.2.1 hd rfl (k H locs lsC hH hS hl)
theorem go_null  (hd : decode (mbG m) pc = .ok (.aconst_null, 1)) : Go G B m d (pc, ls, r, σ) (pc + 1, ls, .null :: r, σ) := by
  intro p l e R s mm args below meth c H locs lsC nE sE Q C hR h1 h2 h3 h4 hH hS hl k
  exact lv_null C.1 C.2.1 hd (k H locs lsC hH hS hl)
theorem go_dupI {x : Int32} (hd : decode (mbG m) pc = .ok (.dup, 1)) : Go G B m d (pc, ls, .int x :: r, σ) (pc + 1, ls, .int x :: .int x :: r, σ) := by
  intro p l e R s mm args below meth c H locs lsC nE sE Q C hR h1 h2 h3 h4 hH hS hl k
  exact lv_dup C.1 C.2.1 hd rfl (k H locs lsC hH hS hl)
theorem go_dupR {x : Nat} (hd : decode (mbG m) pc = .ok (.dup, 1)) : Go G B m d (pc, ls, .ref x :: r, σ) (pc + 1, ls, .ref x :: .ref x :: r, σ) := by
  intro p l e R s mm args below meth c H locs lsC nE sE Q C hR h1 h2 h3 h4 hH hS hl k
  exact lv_dup C.1 C.2.1 hd rfl (k H locs lsC hH hS hl)
theorem go_dup2 {y : Int32} {x : Nat} (hd : decode (mbG m) pc = .ok (.dup2, 1)) : Go G B m d (pc, ls, .int y :: .ref x :: r, σ) (pc + 1, ls, .int y :: .ref x :: .int y :: .ref x :: r, σ) := by
  intro p l e R s mm args below meth c H locs lsC nE sE Q C hR h1 h2 h3 h4 hH hS hl k
  exact lv_dup2_11 C.1 C.2.1 hd rfl rfl (k H locs lsC hH hS hl)
theorem go_pop {x : Int32} (hd : decode (mbG m) pc = .ok (.pop, 1)) : Go G B m d (pc, ls, .int x :: r, σ) (pc + 1, ls, r, σ) := by
  intro p l e R s mm args below meth c H locs lsC nE sE Q C hR h1 h2 h3 h4 hH hS hl k
  exact lv_pop C.1 C.2.1 hd rfl (k H locs lsC hH hS hl)
theorem go_iload {i : Nat} {x : Int32} (hd : decode (mbG m) pc = .ok (.iload i, 2)) (hi : ls[i]? = some (.int x)) : Go G B m d (pc, ls, r, σ) (pc + 2, ls, .int x :: r, σ) := by
  intro p l e R s mm args below meth c H locs lsC nE sE Q C hR h1 h2 h3 h4 hH hS hl k
  exact lv_iload C.1 C.2.1 hd (LH_at hl hi rfl) (k H locs lsC hH hS hl)
theorem go_iload_n {i : Fin 4} {x : Int32} (hd : decode (mbG m) pc = .ok (.iload_n i, 1)) (hi : ls[(i : Nat)]? = some (.int x)) : Go G B m d (pc, ls, r, σ) (pc + 1, ls, .int x :: r, σ) := by
  intro p l e R s mm args below meth c H locs lsC nE sE Q C hR h1 h2 h3 h4 hH hS hl k
  exact lv_iload_n C.1 C.2.1 hd rfl (LH_at hl hi rfl) (k H locs lsC hH hS hl)
theorem go_lload {i : Nat} {x : Int64} (hd : decode (mbG m) pc = .ok (.lload i, 2)) (hi : ls[i]? = some (.long x)) : Go G B m d (pc, ls, r, σ) (pc + 2, ls, .long x :: r, σ) := by
  intro p l e R s mm args below meth c H locs lsC nE sE Q C hR h1 h2 h3 h4 hH hS hl k
  exact lv_lload C.1 C.2.1 hd (LH_at hl hi rfl) (k H locs lsC hH hS hl)
theorem go_lload_n {i : Fin 4} {x : Int64} (hd : decode (mbG m) pc = .ok (.lload_n i, 1)) (hi : ls[(i : Nat)]? = some (.long x)) : Go G B m d (pc, ls, r, σ) (pc + 1, ls, .long x :: r, σ) := by
  intro p l e R s mm args below meth c H locs lsC nE sE Q C hR h1 h2 h3 h4 hH hS hl k
  exact lv_lload_n C.1 C.2.1 hd rfl (LH_at hl hi rfl) (k H locs lsC hH hS hl)
theorem go_aload {i : Nat} {x : Nat} (hd : decode (mbG m) pc = .ok (.aload i, 2)) (hi : ls[i]? = some (.ref x)) : Go G B m d (pc, ls, r, σ) (pc + 2, ls, .ref x :: r, σ) := by
  intro p l e R s mm args below meth c H locs lsC nE sE Q C hR h1 h2 h3 h4 hH hS hl k
  exact lv_aload C.1 C.2.1 hd (LH_at hl hi rfl) (k H locs lsC hH hS hl)
theorem go_aload_n {i : Fin 4} {x : Nat} (hd : decode (mbG m) pc = .ok (.aload_n i, 1)) (hi : ls[(i : Nat)]? = some (.ref x)) : Go G B m d (pc, ls, r, σ) (pc + 1, ls, .ref x :: r, σ) := by
  intro p l e R s mm args below meth c H locs lsC nE sE Q C hR h1 h2 h3 h4 hH hS hl k
  exact lv_aload_n C.1 C.2.1 hd rfl (LH_at hl hi rfl) (k H locs lsC hH hS hl)
theorem go_aloadN {i : Nat} (hd : decode (mbG m) pc = .ok (.aload i, 2)) (hi : ls[i]? = some .null) : Go G B m d (pc, ls, r, σ) (pc + 2, ls, .null :: r, σ) := by
  intro p l e R s mm args below meth c H locs lsC nE sE Q C hR h1 h2 h3 h4 hH hS hl k
  exact lv_aloadN C.1 C.2.1 hd (LH_at hl hi rfl) (k H locs lsC hH hS hl)
theorem go_aload_nN {i : Fin 4} (hd : decode (mbG m) pc = .ok (.aload_n i, 1)) (hi : ls[(i : Nat)]? = some .null) : Go G B m d (pc, ls, r, σ) (pc + 1, ls, .null :: r, σ) := by
  intro p l e R s mm args below meth c H locs lsC nE sE Q C hR h1 h2 h3 h4 hH hS hl k
  exact lv_aload_nN C.1 C.2.1 hd rfl (LH_at hl hi rfl) (k H locs lsC hH hS hl)
theorem go_aloadO {i x : Nat} (hd : decode (mbG m) pc = .ok (.aload i, 2)) (hi : ls[i]? = some (.retAddr x)) : Go G B m d (pc, ls, r, σ) (pc + 2, ls, .retAddr x :: r, σ) := by
  intro p l e R s mm args below meth c H locs lsC nE sE Q C hR h1 h2 h3 h4 hH hS hl k
  have hw := LH_at hl hi rfl
  have hk := k H locs lsC hH hS hl
  cases x with
  | zero => exact lv_aload C.1 C.2.1 hd hw hk
  | succ j => exact lv_aload C.1 C.2.1 hd hw hk
theorem go_aload_nO {i : Fin 4} {x : Nat} (hd : decode (mbG m) pc = .ok (.aload_n i, 1)) (hi : ls[(i : Nat)]? = some (.retAddr x)) : Go G B m d (pc, ls, r, σ) (pc + 1, ls, .retAddr x :: r, σ) := by
  intro p l e R s mm args below meth c H locs lsC nE sE Q C hR h1 h2 h3 h4 hH hS hl k
  have hw := LH_at hl hi rfl
  have hk := k H locs lsC hH hS hl
  cases x with
  | zero => exact lv_aload_n C.1 C.2.1 hd rfl hw hk
  | succ j => exact lv_aload_n C.1 C.2.1 hd rfl hw hk
theorem go_istore {i : Nat} {x : Int32} (hd : decode (mbG m) pc = .ok (.istore i, 2)) (hi : i < (mxI m).2.1) : Go G B m d (pc, ls, .int x :: r, σ) (pc + 2, mxS1 ls i (.int x), r, σ) := by
  intro p l e R s mm args below meth c H locs lsC nE sE Q C hR h1 h2 h3 h4 hH hS hl k
  exact lv_istore C.1 C.2.1 hd hl hi rfl (fun ls1 hl1 => k H locs ls1 hH hS (LH_s1 hl1))
theorem go_istore_n {i : Fin 4} {x : Int32} (hd : decode (mbG m) pc = .ok (.istore_n i, 1)) (hi : (i : Nat) < (mxI m).2.1) : Go G B m d (pc, ls, .int x :: r, σ) (pc + 1, mxS1 ls i (.int x), r, σ) := by
  intro p l e R s mm args below meth c H locs lsC nE sE Q C hR h1 h2 h3 h4 hH hS hl k
  exact lv_istore_n C.1 C.2.1 hd rfl hl hi rfl (fun ls1 hl1 => k H locs ls1 hH hS (LH_s1 hl1))
theorem go_lstore {i : Nat} {x : Int64} (hd : decode (mbG m) pc = .ok (.lstore i, 2)) (hi : i + 1 < (mxI m).2.1) : Go G B m d (pc, ls, .long x :: r, σ) (pc + 2, mxS2 ls i (.long x), r, σ) := by
  intro p l e R s mm args below meth c H locs lsC nE sE Q C hR h1 h2 h3 h4 hH hS hl k
  exact lv_lstore C.1 C.2.1 hd hl hi rfl (fun ls1 hl1 => k H locs ls1 hH hS (LH_s2 hl1))
theorem go_lstore_n {i : Fin 4} {x : Int64} (hd : decode (mbG m) pc = .ok (.lstore_n i, 1)) (hi : (i : Nat) + 1 < (mxI m).2.1) : Go G B m d (pc, ls, .long x :: r, σ) (pc + 1, mxS2 ls i (.long x), r, σ) := by
  intro p l e R s mm args below meth c H locs lsC nE sE Q C hR h1 h2 h3 h4 hH hS hl k
  exact lv_lstore_n C.1 C.2.1 hd rfl hl hi rfl (fun ls1 hl1 => k H locs ls1 hH hS (LH_s2 hl1))
theorem go_astore {i : Nat} {x : Nat} (hd : decode (mbG m) pc = .ok (.astore i, 2)) (hi : i < (mxI m).2.1) : Go G B m d (pc, ls, .ref x :: r, σ) (pc + 2, mxS1 ls i (.ref x), r, σ) := by
  intro p l e R s mm args below meth c H locs lsC nE sE Q C hR h1 h2 h3 h4 hH hS hl k
  exact lv_astore C.1 C.2.1 hd hl hi rfl (fun ls1 hl1 => k H locs ls1 hH hS (LH_s1 hl1))
theorem go_astore_n {i : Fin 4} {x : Nat} (hd : decode (mbG m) pc = .ok (.astore_n i, 1)) (hi : (i : Nat) < (mxI m).2.1) : Go G B m d (pc, ls, .ref x :: r, σ) (pc + 1, mxS1 ls i (.ref x), r, σ) := by
  intro p l e R s mm args below meth c H locs lsC nE sE Q C hR h1 h2 h3 h4 hH hS hl k
  exact lv_astore_n C.1 C.2.1 hd rfl hl hi rfl (fun ls1 hl1 => k H locs ls1 hH hS (LH_s1 hl1))
theorem go_astoreN {i : Nat} (hd : decode (mbG m) pc = .ok (.astore i, 2)) (hi : i < (mxI m).2.1) : Go G B m d (pc, ls, .null :: r, σ) (pc + 2, mxS1 ls i (.null), r, σ) := by
  intro p l e R s mm args below meth c H locs lsC nE sE Q C hR h1 h2 h3 h4 hH hS hl k
  exact lv_astoreN C.1 C.2.1 hd hl hi rfl (fun ls1 hl1 => k H locs ls1 hH hS (LH_s1 hl1))
theorem go_astore_nN {i : Fin 4} (hd : decode (mbG m) pc = .ok (.astore_n i, 1)) (hi : (i : Nat) < (mxI m).2.1) : Go G B m d (pc, ls, .null :: r, σ) (pc + 1, mxS1 ls i (.null), r, σ) := by
  intro p l e R s mm args below meth c H locs lsC nE sE Q C hR h1 h2 h3 h4 hH hS hl k
  exact lv_astore_nN C.1 C.2.1 hd rfl hl hi rfl (fun ls1 hl1 => k H locs ls1 hH hS (LH_s1 hl1))
theorem lvE_idx {al : List Value} {i : Nat} {v : Value} (h : al[i]? = some v) (hr : isR v = true) : ∃ k : Nat, (lvE B 0 al)[k]? = some (i, cv B v) := by
  have := lvE_mem B al 0 i v h hr
  rw [Nat.zero_add] at this
  exact List.getElem?_of_mem this
theorem go_iinc {i : Nat} {n : Int} {x : Int32} (hd : decode (mbG m) pc = .ok (.iinc i n, 3)) (he : ls[i]? = some (.int x)) (hi : i < (mxI m).2.1) : Go G B m d (pc, ls, r, σ) (pc + 3, mxS1 ls i (.int (x + Int32.ofInt n)), r, σ) := by
  intro p l e R s mm args below meth c H locs lsC nE sE Q C hR h1 h2 h3 h4 hH hS hl k
  obtain ⟨j, hj⟩ := lvE_idx (B := B) he rfl
  exact lv_iinc C.1 C.2.1 hd hl hj rfl hi rfl (fun ls1 hl1 => k H locs ls1 hH hS (LH_s1 (v := .int (x + Int32.ofInt n)) hl1))
theorem go_goto {off : Int} {t : Nat} (hd : decode (mbG m) pc = .ok (.goto off, 3)) (ht : (pc : Int) + off = (t : Int)) : Go G B m d (pc, ls, r, σ) (t, ls, r, σ) := by
  intro p l e R s mm args below meth c H locs lsC nE sE Q C hR h1 h2 h3 h4 hH hS hl k
  exact lv_goto C.1 C.2.1 hd ht (k H locs lsC hH hS hl)
theorem go_icmp_eqt {off : Int} {t : Nat} {x y : Int32} (hd : decode (mbG m) pc = .ok (.if_icmp .eq off, 3)) (ht : (pc : Int) + off = (t : Int)) (hc : x = y) : Go G B m d (pc, ls, .int y :: .int x :: r, σ) (t, ls, r, σ) := by
  intro p l e R s mm args below meth c H locs lsC nE sE Q C hR h1 h2 h3 h4 hH hS hl k
  exact lv_icmp_eq C.1 C.2.1 hd ht (fun _ => (k H locs lsC hH hS hl)) (fun q => absurd hc q)
theorem go_icmp_eqf {off : Int} {t : Nat} {x y : Int32} (hd : decode (mbG m) pc = .ok (.if_icmp .eq off, 3)) (ht : (pc : Int) + off = (t : Int)) (hc : ¬ x = y) : Go G B m d (pc, ls, .int y :: .int x :: r, σ) (pc + 3, ls, r, σ) := by
  intro p l e R s mm args below meth c H locs lsC nE sE Q C hR h1 h2 h3 h4 hH hS hl k
  exact lv_icmp_eq C.1 C.2.1 hd ht (fun q => absurd q hc) (fun _ => (k H locs lsC hH hS hl))
theorem go_icmp_net {off : Int} {t : Nat} {x y : Int32} (hd : decode (mbG m) pc = .ok (.if_icmp .ne off, 3)) (ht : (pc : Int) + off = (t : Int)) (hc : ¬ x = y) : Go G B m d (pc, ls, .int y :: .int x :: r, σ) (t, ls, r, σ) := by
  intro p l e R s mm args below meth c H locs lsC nE sE Q C hR h1 h2 h3 h4 hH hS hl k
  exact lv_icmp_ne C.1 C.2.1 hd ht (fun _ => (k H locs lsC hH hS hl)) (fun q => absurd q hc)
theorem go_icmp_nef {off : Int} {t : Nat} {x y : Int32} (hd : decode (mbG m) pc = .ok (.if_icmp .ne off, 3)) (ht : (pc : Int) + off = (t : Int)) (hc : x = y) : Go G B m d (pc, ls, .int y :: .int x :: r, σ) (pc + 3, ls, r, σ) := by
  intro p l e R s mm args below meth c H locs lsC nE sE Q C hR h1 h2 h3 h4 hH hS hl k
  exact lv_icmp_ne C.1 C.2.1 hd ht (fun q => absurd hc q) (fun _ => (k H locs lsC hH hS hl))
theorem go_icmp_ltt {off : Int} {t : Nat} {x y : Int32} (hd : decode (mbG m) pc = .ok (.if_icmp .lt off, 3)) (ht : (pc : Int) + off = (t : Int)) (hc : x < y) : Go G B m d (pc, ls, .int y :: .int x :: r, σ) (t, ls, r, σ) := by
  intro p l e R s mm args below meth c H locs lsC nE sE Q C hR h1 h2 h3 h4 hH hS hl k
  exact lv_icmp_lt C.1 C.2.1 hd ht (fun _ => (k H locs lsC hH hS hl)) (fun q => absurd hc q)
theorem go_icmp_ltf {off : Int} {t : Nat} {x y : Int32} (hd : decode (mbG m) pc = .ok (.if_icmp .lt off, 3)) (ht : (pc : Int) + off = (t : Int)) (hc : ¬ x < y) : Go G B m d (pc, ls, .int y :: .int x :: r, σ) (pc + 3, ls, r, σ) := by
  intro p l e R s mm args below meth c H locs lsC nE sE Q C hR h1 h2 h3 h4 hH hS hl k
  exact lv_icmp_lt C.1 C.2.1 hd ht (fun q => absurd q hc) (fun _ => (k H locs lsC hH hS hl))
theorem go_icmp_get {off : Int} {t : Nat} {x y : Int32} (hd : decode (mbG m) pc = .ok (.if_icmp .ge off, 3)) (ht : (pc : Int) + off = (t : Int)) (hc : y ≤ x) : Go G B m d (pc, ls, .int y :: .int x :: r, σ) (t, ls, r, σ) := by
  intro p l e R s mm args below meth c H locs lsC nE sE Q C hR h1 h2 h3 h4 hH hS hl k
  exact lv_icmp_ge C.1 C.2.1 hd ht (fun _ => (k H locs lsC hH hS hl)) (fun q => absurd hc q)
theorem go_icmp_gef {off : Int} {t : Nat} {x y : Int32} (hd : decode (mbG m) pc = .ok (.if_icmp .ge off, 3)) (ht : (pc : Int) + off = (t : Int)) (hc : ¬ y ≤ x) : Go G B m d (pc, ls, .int y :: .int x :: r, σ) (pc + 3, ls, r, σ) := by
  intro p l e R s mm args below meth c H locs lsC nE sE Q C hR h1 h2 h3 h4 hH hS hl k
  exact lv_icmp_ge C.1 C.2.1 hd ht (fun q => absurd q hc) (fun _ => (k H locs lsC hH hS hl))
theorem go_icmp_gtt {off : Int} {t : Nat} {x y : Int32} (hd : decode (mbG m) pc = .ok (.if_icmp .gt off, 3)) (ht : (pc : Int) + off = (t : Int)) (hc : y < x) : Go G B m d (pc, ls, .int y :: .int x :: r, σ) (t, ls, r, σ) := by
  intro p l e R s mm args below meth c H locs lsC nE sE Q C hR h1 h2 h3 h4 hH hS hl k
  exact lv_icmp_gt C.1 C.2.1 hd ht (fun _ => (k H locs lsC hH hS hl)) (fun q => absurd hc q)
theorem go_icmp_gtf {off : Int} {t : Nat} {x y : Int32} (hd : decode (mbG m) pc = .ok (.if_icmp .gt off, 3)) (ht : (pc : Int) + off = (t : Int)) (hc : ¬ y < x) : Go G B m d (pc, ls, .int y :: .int x :: r, σ) (pc + 3, ls, r, σ) := by
  intro p l e R s mm args below meth c H locs lsC nE sE Q C hR h1 h2 h3 h4 hH hS hl k
  exact lv_icmp_gt C.1 C.2.1 hd ht (fun q => absurd q hc) (fun _ => (k H locs lsC hH hS hl))
theorem go_icmp_let {off : Int} {t : Nat} {x y : Int32} (hd : decode (mbG m) pc = .ok (.if_icmp .le off, 3)) (ht : (pc : Int) + off = (t : Int)) (hc : x ≤ y) : Go G B m d (pc, ls, .int y :: .int x :: r, σ) (t, ls, r, σ) := by
  intro p l e R s mm args below meth c H locs lsC nE sE Q C hR h1 h2 h3 h4 hH hS hl k
  exact lv_icmp_le C.1 C.2.1 hd ht (fun _ => (k H locs lsC hH hS hl)) (fun q => absurd hc q)
theorem go_icmp_lef {off : Int} {t : Nat} {x y : Int32} (hd : decode (mbG m) pc = .ok (.if_icmp .le off, 3)) (ht : (pc : Int) + off = (t : Int)) (hc : ¬ x ≤ y) : Go G B m d (pc, ls, .int y :: .int x :: r, σ) (pc + 3, ls, r, σ) := by
  intro p l e R s mm args below meth c H locs lsC nE sE Q C hR h1 h2 h3 h4 hH hS hl k
  exact lv_icmp_le C.1 C.2.1 hd ht (fun q => absurd q hc) (fun _ => (k H locs lsC hH hS hl))
theorem go_if_eqt {off : Int} {t : Nat} {x : Int32} (hd : decode (mbG m) pc = .ok (.ifCond .eq off, 3)) (ht : (pc : Int) + off = (t : Int)) (hc : x = 0) : Go G B m d (pc, ls, .int x :: r, σ) (t, ls, r, σ) := by
  intro p l e R s mm args below meth c H locs lsC nE sE Q C hR h1 h2 h3 h4 hH hS hl k
  exact lv_if_eq C.1 C.2.1 hd ht (fun _ => (k H locs lsC hH hS hl)) (fun q => absurd hc q)
theorem go_if_eqf {off : Int} {t : Nat} {x : Int32} (hd : decode (mbG m) pc = .ok (.ifCond .eq off, 3)) (ht : (pc : Int) + off = (t : Int)) (hc : ¬ x = 0) : Go G B m d (pc, ls, .int x :: r, σ) (pc + 3, ls, r, σ) := by
  intro p l e R s mm args below meth c H locs lsC nE sE Q C hR h1 h2 h3 h4 hH hS hl k
  exact lv_if_eq C.1 C.2.1 hd ht (fun q => absurd q hc) (fun _ => (k H locs lsC hH hS hl))
theorem go_if_net {off : Int} {t : Nat} {x : Int32} (hd : decode (mbG m) pc = .ok (.ifCond .ne off, 3)) (ht : (pc : Int) + off = (t : Int)) (hc : ¬ x = 0) : Go G B m d (pc, ls, .int x :: r, σ) (t, ls, r, σ) := by
  intro p l e R s mm args below meth c H locs lsC nE sE Q C hR h1 h2 h3 h4 hH hS hl k
  exact lv_if_ne C.1 C.2.1 hd ht (fun _ => (k H locs lsC hH hS hl)) (fun q => absurd q hc)
theorem go_if_nef {off : Int} {t : Nat} {x : Int32} (hd : decode (mbG m) pc = .ok (.ifCond .ne off, 3)) (ht : (pc : Int) + off = (t : Int)) (hc : x = 0) : Go G B m d (pc, ls, .int x :: r, σ) (pc + 3, ls, r, σ) := by
  intro p l e R s mm args below meth c H locs lsC nE sE Q C hR h1 h2 h3 h4 hH hS hl k
  exact lv_if_ne C.1 C.2.1 hd ht (fun q => absurd hc q) (fun _ => (k H locs lsC hH hS hl))
theorem go_if_ltt {off : Int} {t : Nat} {x : Int32} (hd : decode (mbG m) pc = .ok (.ifCond .lt off, 3)) (ht : (pc : Int) + off = (t : Int)) (hc : x < 0) : Go G B m d (pc, ls, .int x :: r, σ) (t, ls, r, σ) := by
  intro p l e R s mm args below meth c H locs lsC nE sE Q C hR h1 h2 h3 h4 hH hS hl k
  exact lv_if_lt C.1 C.2.1 hd ht (fun _ => (k H locs lsC hH hS hl)) (fun q => absurd hc q)
theorem go_if_ltf {off : Int} {t : Nat} {x : Int32} (hd : decode (mbG m) pc = .ok (.ifCond .lt off, 3)) (ht : (pc : Int) + off = (t : Int)) (hc : ¬ x < 0) : Go G B m d (pc, ls, .int x :: r, σ) (pc + 3, ls, r, σ) := by
  intro p l e R s mm args below meth c H locs lsC nE sE Q C hR h1 h2 h3 h4 hH hS hl k
  exact lv_if_lt C.1 C.2.1 hd ht (fun q => absurd q hc) (fun _ => (k H locs lsC hH hS hl))
theorem go_if_get {off : Int} {t : Nat} {x : Int32} (hd : decode (mbG m) pc = .ok (.ifCond .ge off, 3)) (ht : (pc : Int) + off = (t : Int)) (hc : 0 ≤ x) : Go G B m d (pc, ls, .int x :: r, σ) (t, ls, r, σ) := by
  intro p l e R s mm args below meth c H locs lsC nE sE Q C hR h1 h2 h3 h4 hH hS hl k
  exact lv_if_ge C.1 C.2.1 hd ht (fun _ => (k H locs lsC hH hS hl)) (fun q => absurd hc q)
theorem go_if_gef {off : Int} {t : Nat} {x : Int32} (hd : decode (mbG m) pc = .ok (.ifCond .ge off, 3)) (ht : (pc : Int) + off = (t : Int)) (hc : ¬ 0 ≤ x) : Go G B m d (pc, ls, .int x :: r, σ) (pc + 3, ls, r, σ) := by
  intro p l e R s mm args below meth c H locs lsC nE sE Q C hR h1 h2 h3 h4 hH hS hl k
  exact lv_if_ge C.1 C.2.1 hd ht (fun q => absurd q hc) (fun _ => (k H locs lsC hH hS hl))
theorem go_if_gtt {off : Int} {t : Nat} {x : Int32} (hd : decode (mbG m) pc = .ok (.ifCond .gt off, 3)) (ht : (pc : Int) + off = (t : Int)) (hc : 0 < x) : Go G B m d (pc, ls, .int x :: r, σ) (t, ls, r, σ) := by
  intro p l e R s mm args below meth c H locs lsC nE sE Q C hR h1 h2 h3 h4 hH hS hl k
  exact lv_if_gt C.1 C.2.1 hd ht (fun _ => (k H locs lsC hH hS hl)) (fun q => absurd hc q)
theorem go_if_gtf {off : Int} {t : Nat} {x : Int32} (hd : decode (mbG m) pc = .ok (.ifCond .gt off, 3)) (ht : (pc : Int) + off = (t : Int)) (hc : ¬ 0 < x) : Go G B m d (pc, ls, .int x :: r, σ) (pc + 3, ls, r, σ) := by
  intro p l e R s mm args below meth c H locs lsC nE sE Q C hR h1 h2 h3 h4 hH hS hl k
  exact lv_if_gt C.1 C.2.1 hd ht (fun q => absurd q hc) (fun _ => (k H locs lsC hH hS hl))
theorem go_if_let {off : Int} {t : Nat} {x : Int32} (hd : decode (mbG m) pc = .ok (.ifCond .le off, 3)) (ht : (pc : Int) + off = (t : Int)) (hc : x ≤ 0) : Go G B m d (pc, ls, .int x :: r, σ) (t, ls, r, σ) := by
  intro p l e R s mm args below meth c H locs lsC nE sE Q C hR h1 h2 h3 h4 hH hS hl k
  exact lv_if_le C.1 C.2.1 hd ht (fun _ => (k H locs lsC hH hS hl)) (fun q => absurd hc q)
theorem go_if_lef {off : Int} {t : Nat} {x : Int32} (hd : decode (mbG m) pc = .ok (.ifCond .le off, 3)) (ht : (pc : Int) + off = (t : Int)) (hc : ¬ x ≤ 0) : Go G B m d (pc, ls, .int x :: r, σ) (pc + 3, ls, r, σ) := by
  intro p l e R s mm args below meth c H locs lsC nE sE Q C hR h1 h2 h3 h4 hH hS hl k
  exact lv_if_le C.1 C.2.1 hd ht (fun q => absurd q hc) (fun _ => (k H locs lsC hH hS hl))
theorem go_nn {off : Int} {t x : Nat} (hd : decode (mbG m) pc = .ok (.ifnonnull off, 3)) (ht : (pc : Int) + off = (t : Int)) : Go G B m d (pc, ls, .ref x :: r, σ) (t, ls, r, σ) := by
  intro p l e R s mm args below meth c H locs lsC nE sE Q C hR h1 h2 h3 h4 hH hS hl k
  exact lv_ifnonnull C.1 C.2.1 hd ht (k H locs lsC hH hS hl)
theorem go_nnN {off : Int} (hd : decode (mbG m) pc = .ok (.ifnonnull off, 3)) : Go G B m d (pc, ls, .null :: r, σ) (pc + 3, ls, r, σ) := by
  intro p l e R s mm args below meth c H locs lsC nE sE Q C hR h1 h2 h3 h4 hH hS hl k
  exact lv_ifnonnullN C.1 C.2.1 hd (k H locs lsC hH hS hl)
theorem go_tabI {df lo hi off : Int} {offs : Array Int} {n t : Nat} {x : Int32} (hd : decode (mbG m) pc = .ok (.tableswitch df lo hi offs, n)) (g1 : ¬ x.toInt < lo) (g2 : ¬ hi < x.toInt) (ho : offs[(x.toInt - lo).toNat]? = some off) (ht : (pc : Int) + off = (t : Int)) : Go G B m d (pc, ls, .int x :: r, σ) (t, ls, r, σ) := by
  intro p l e R s mm args below meth c H locs lsC nE sE Q C hR h1 h2 h3 h4 hH hS hl k
  exact lv_tableIn C.1 C.2.1 hd g1 g2 ho ht (k H locs lsC hH hS hl)
theorem go_tabO {df lo hi : Int} {offs : Array Int} {n t : Nat} {x : Int32} (hd : decode (mbG m) pc = .ok (.tableswitch df lo hi offs, n)) (g : x.toInt < lo ∨ hi < x.toInt) (ht : (pc : Int) + df = (t : Int)) : Go G B m d (pc, ls, .int x :: r, σ) (t, ls, r, σ) := by
  intro p l e R s mm args below meth c H locs lsC nE sE Q C hR h1 h2 h3 h4 hH hS hl k
  exact lv_tableOut C.1 C.2.1 hd g ht (k H locs lsC hH hS hl)
theorem go_ldc {i : Nat} {x : Int32} (hd : decode (mbG m) pc = .ok (.ldc i, 2)) (hk : mxK m i = some (.int x)) : Go G B m d (pc, ls, r, σ) (pc + 2, ls, .int x :: r, σ) := by
  intro p l e R s mm args below meth c H locs lsC nE sE Q C hR h1 h2 h3 h4 hH hS hl k
  exact lv_ldc C.1 C.2.1 C.2.2.2.2.2.1 (C.2.2.2.2.2.2.2.1 _ (ks_int hk)) hd (k H locs lsC hH hS hl)
theorem go_ldcw {i : Nat} {x : Int32} (hd : decode (mbG m) pc = .ok (.ldc_w i, 3)) (hk : mxK m i = some (.int x)) : Go G B m d (pc, ls, r, σ) (pc + 3, ls, .int x :: r, σ) := by
  intro p l e R s mm args below meth c H locs lsC nE sE Q C hR h1 h2 h3 h4 hH hS hl k
  exact lv_ldcw C.1 C.2.1 C.2.2.2.2.2.1 (C.2.2.2.2.2.2.2.1 _ (ks_int hk)) hd (k H locs lsC hH hS hl)
theorem go_ldc2 {i : Nat} {x : Int64} (hd : decode (mbG m) pc = .ok (.ldc2_w i, 3)) (hk : mxK m i = some (.long x)) : Go G B m d (pc, ls, r, σ) (pc + 3, ls, .long x :: r, σ) := by
  intro p l e R s mm args below meth c H locs lsC nE sE Q C hR h1 h2 h3 h4 hH hS hl k
  exact lv_ldc2 C.1 C.2.1 C.2.2.2.2.2.1 (C.2.2.2.2.2.2.2.1 _ (ks_long hk)) hd (k H locs lsC hH hS hl)
end
