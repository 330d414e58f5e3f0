/-! the abstract machine's steps as equations -/
theorem mx_ic {α : Sort _} {c c' : Prop} [Decidable c] [Decidable c'] (h : c ↔ c') {a b : α} : (if c then a else b) = if c' then a else b := by
  by_cases hc : c
  · rw [if_pos hc, if_pos (h.mp hc)]
  · rw [if_neg hc, if_neg (fun z => hc (h.mpr z))]
section
variable {d m pc n : Nat} {ls st r : List Value} {σ τ : Hp} {y : Fr}
theorem stp_of {i : Instr} (hC : mxC m pc = some (i, n)) : stp (d, m, pc, ls, st, σ) = stI i n d m pc ls st σ := by unfold stp; dsimp only; rw [hC]
theorem den_nx {i : Instr} (hC : mxC m pc = some (i, n)) (h : stI i n d m pc ls st σ = some (.inr (.inl y))) : den (d, m, pc, ls, st, σ) = den y := den_next ((stp_of hC).trans h)
theorem den_rt {i : Instr} {q : Rs} (hC : mxC m pc = some (i, n)) (h : stI i n d m pc ls st σ = some (.inl q)) : den (d, m, pc, ls, st, σ) = some q := den_ret ((stp_of hC).trans h)
theorem den_cl {i : Instr} {k : Option Value → Hp → Fr} (hC : mxC m pc = some (i, n)) (h : stI i n d m pc ls st σ = some (.inr (.inr (y, k)))) : den (d, m, pc, ls, st, σ) = (den y).bind fun q => den (k q.1 q.2) := den_call ((stp_of hC).trans h)
theorem den_no {i : Instr} (hC : mxC m pc = some (i, n)) (h : stI i n d m pc ls st σ = none) : den (d, m, pc, ls, st, σ) = none := by
  refine opt_ext fun q => ?_
  rw [den_iff]
  constructor
  · intro ⟨k, hk⟩
    cases k with
    | zero => cases hk
    | succ k => rw [run_none ((stp_of hC).trans h)] at hk; cases hk
  · intro e; cases e
theorem den_ite {i : Instr} {c : Prop} [Decidable c] (hC : mxC m pc = some (i, n)) (h : stI i n d m pc ls st σ = if c then some (.inr (.inl y)) else none) : den (d, m, pc, ls, st, σ) = if c then den y else none := by
  by_cases hc : c
  · rw [if_pos hc] at h ⊢; exact den_nx hC h
  · rw [if_neg hc] at h ⊢; exact den_no hC h
theorem den_br {i : Instr} {c : Prop} [Decidable c] {z : Fr} (hC : mxC m pc = some (i, n)) (h : stI i n d m pc ls st σ = if c then some (.inr (.inl y)) else some (.inr (.inl z))) : den (d, m, pc, ls, st, σ) = if c then den y else den z := by
  by_cases hc : c
  · rw [if_pos hc] at h ⊢; exact den_nx hC h
  · rw [if_neg hc] at h ⊢; exact den_nx hC h
theorem e_iload {k : Nat} {x : Int32} (hC : mxC m pc = some (.iload k, 2)) (hk : ls[k]? = some (.int x)) : den (d, m, pc, ls, st, σ) = den (d, m, pc + 2, ls, .int x :: st, σ) := den_nx hC (by show mxLI d m pc 2 ls st σ k = _; unfold mxLI; rw [hk]; rfl)
theorem e_iload_n {k : Fin 4} {x : Int32} (hC : mxC m pc = some (.iload_n k, 1)) (hk : ls[(k : Nat)]? = some (.int x)) : den (d, m, pc, ls, st, σ) = den (d, m, pc + 1, ls, .int x :: st, σ) := den_nx hC (by show mxLI d m pc 1 ls st σ k = _; unfold mxLI; rw [hk]; rfl)
theorem e_lload {k : Nat} {x : Int64} (hC : mxC m pc = some (.lload k, 2)) (hk : ls[k]? = some (.long x)) : den (d, m, pc, ls, st, σ) = den (d, m, pc + 2, ls, .long x :: st, σ) := den_nx hC (by show mxLL d m pc 2 ls st σ k = _; unfold mxLL; rw [hk]; rfl)
theorem e_lload_n {k : Fin 4} {x : Int64} (hC : mxC m pc = some (.lload_n k, 1)) (hk : ls[(k : Nat)]? = some (.long x)) : den (d, m, pc, ls, st, σ) = den (d, m, pc + 1, ls, .long x :: st, σ) := den_nx hC (by show mxLL d m pc 1 ls st σ k = _; unfold mxLL; rw [hk]; rfl)
/-- a reference, a text, the script, or null -/
def isA : Value → Bool
  | .ref _ => true
  | .retAddr _ => true
  | .null => true
  | _ => false
theorem mxLA_of {k len : Nat} {v : Value} (hk : ls[k]? = some v) (hv : isA v = true) : mxLA d m pc len ls st σ k = nx d m (pc + len) ls (v :: st) σ := by
  unfold mxLA
  rw [hk]
  cases v <;> first | rfl | cases hv
theorem e_aload {k : Nat} {v : Value} (hC : mxC m pc = some (.aload k, 2)) (hk : ls[k]? = some v) (hv : isA v = true) : den (d, m, pc, ls, st, σ) = den (d, m, pc + 2, ls, v :: st, σ) := den_nx hC (mxLA_of hk hv)
theorem e_aload_n {k : Fin 4} {v : Value} (hC : mxC m pc = some (.aload_n k, 1)) (hk : ls[(k : Nat)]? = some v) (hv : isA v = true) : den (d, m, pc, ls, st, σ) = den (d, m, pc + 1, ls, v :: st, σ) := den_nx hC (mxLA_of hk hv)
theorem e_istore {k : Nat} {x : Int32} (hC : mxC m pc = some (.istore k, 2)) (hk : k < (mxI m).2.1) : den (d, m, pc, ls, .int x :: r, σ) = den (d, m, pc + 2, mxS1 ls k (.int x), r, σ) := den_nx hC (by dsimp only [stI, mxSI]; rw [if_pos hk]; rfl)
theorem e_istore_n {k : Fin 4} {x : Int32} (hC : mxC m pc = some (.istore_n k, 1)) (hk : (k : Nat) < (mxI m).2.1) : den (d, m, pc, ls, .int x :: r, σ) = den (d, m, pc + 1, mxS1 ls k (.int x), r, σ) := den_nx hC (by dsimp only [stI, mxSI]; rw [if_pos hk]; rfl)
theorem e_lstore {k : Nat} {x : Int64} (hC : mxC m pc = some (.lstore k, 2)) (hk : k + 1 < (mxI m).2.1) : den (d, m, pc, ls, .long x :: r, σ) = den (d, m, pc + 2, mxS2 ls k (.long x), r, σ) := den_nx hC (by dsimp only [stI, mxSL]; rw [if_pos hk]; rfl)
theorem e_lstore_n {k : Fin 4} {x : Int64} (hC : mxC m pc = some (.lstore_n k, 1)) (hk : (k : Nat) + 1 < (mxI m).2.1) : den (d, m, pc, ls, .long x :: r, σ) = den (d, m, pc + 1, mxS2 ls k (.long x), r, σ) := den_nx hC (by dsimp only [stI, mxSL]; rw [if_pos hk]; rfl)
theorem e_astore {k x : Nat} (hC : mxC m pc = some (.astore k, 2)) (hk : k < (mxI m).2.1) : den (d, m, pc, ls, .ref x :: r, σ) = den (d, m, pc + 2, mxS1 ls k (.ref x), r, σ) := den_nx hC (by dsimp only [stI, mxSA]; rw [if_pos hk]; rfl)
theorem e_astore_n {k : Fin 4} {x : Nat} (hC : mxC m pc = some (.astore_n k, 1)) (hk : (k : Nat) < (mxI m).2.1) : den (d, m, pc, ls, .ref x :: r, σ) = den (d, m, pc + 1, mxS1 ls k (.ref x), r, σ) := den_nx hC (by dsimp only [stI, mxSA]; rw [if_pos hk]; rfl)
theorem e_astoreN {k : Nat} (hC : mxC m pc = some (.astore k, 2)) (hk : k < (mxI m).2.1) : den (d, m, pc, ls, .null :: r, σ) = den (d, m, pc + 2, mxS1 ls k .null, r, σ) := den_nx hC (by dsimp only [stI, mxSA]; rw [if_pos hk]; rfl)
theorem e_astore_nN {k : Fin 4} (hC : mxC m pc = some (.astore_n k, 1)) (hk : (k : Nat) < (mxI m).2.1) : den (d, m, pc, ls, .null :: r, σ) = den (d, m, pc + 1, mxS1 ls k .null, r, σ) := den_nx hC (by dsimp only [stI, mxSA]; rw [if_pos hk]; rfl)
theorem e_iinc {k : Nat} {c : Int} {x : Int32} (hC : mxC m pc = some (.iinc k c, 3)) (hx : ls[k]? = some (.int x)) (hk : k < (mxI m).2.1) : den (d, m, pc, ls, st, σ) = den (d, m, pc + 3, mxS1 ls k (.int (x + Int32.ofInt c)), st, σ) := den_nx hC (by dsimp only [stI]; rw [hx]; dsimp only; rw [if_pos hk]; rfl)
theorem e_goto {off : Int} {t : Nat} (hC : mxC m pc = some (.goto off, 3)) (ht : (pc : Int) + off = (t : Int)) : den (d, m, pc, ls, st, σ) = den (d, m, t, ls, st, σ) := den_nx hC (by show mxJ d m pc ls st σ off = _; unfold mxJ mxTo; rw [ht, if_pos (Int.natCast_nonneg t)]; rfl)
theorem mxJ_of {off : Int} {t : Nat} (ht : (pc : Int) + off = (t : Int)) : mxJ d m pc ls st σ off = nx d m t ls st σ := by unfold mxJ mxTo; rw [ht, if_pos (Int.natCast_nonneg t)]; rfl
theorem nneg_of {off : Int} {t : Nat} (ht : (pc : Int) + off = (t : Int)) : ¬ (pc : Int) + off < 0 := by omega
theorem e_icmp_eq {off : Int} {t : Nat} {x y : Int32} (hC : mxC m pc = some (.if_icmp .eq off, 3)) (ht : (pc : Int) + off = (t : Int)) : den (d, m, pc, ls, .int y :: .int x :: r, σ) = if x = y then den (d, m, t, ls, r, σ) else den (d, m, pc + 3, ls, r, σ) := den_br hC (by dsimp only [stI]; rw [if_neg (nneg_of ht), mxJ_of ht]; rfl)
theorem e_icmp_ne {off : Int} {t : Nat} {x y : Int32} (hC : mxC m pc = some (.if_icmp .ne off, 3)) (ht : (pc : Int) + off = (t : Int)) : den (d, m, pc, ls, .int y :: .int x :: r, σ) = if x = y then den (d, m, pc + 3, ls, r, σ) else den (d, m, t, ls, r, σ) := den_br hC (by dsimp only [stI]; rw [if_neg (nneg_of ht), mxJ_of ht]; rfl)
theorem e_icmp_lt {off : Int} {t : Nat} {x y : Int32} (hC : mxC m pc = some (.if_icmp .lt off, 3)) (ht : (pc : Int) + off = (t : Int)) : den (d, m, pc, ls, .int y :: .int x :: r, σ) = if x < y then den (d, m, t, ls, r, σ) else den (d, m, pc + 3, ls, r, σ) := den_br hC (by dsimp only [stI]; rw [if_neg (nneg_of ht), mxJ_of ht]; rfl)
theorem e_icmp_ge {off : Int} {t : Nat} {x y : Int32} (hC : mxC m pc = some (.if_icmp .ge off, 3)) (ht : (pc : Int) + off = (t : Int)) : den (d, m, pc, ls, .int y :: .int x :: r, σ) = if y ≤ x then den (d, m, t, ls, r, σ) else den (d, m, pc + 3, ls, r, σ) := den_br hC (by dsimp only [stI]; rw [if_neg (nneg_of ht), mxJ_of ht]; rfl)
theorem e_icmp_gt {off : Int} {t : Nat} {x y : Int32} (hC : mxC m pc = some (.if_icmp .gt off, 3)) (ht : (pc : Int) + off = (t : Int)) : den (d, m, pc, ls, .int y :: .int x :: r, σ) = if y < x then den (d, m, t, ls, r, σ) else den (d, m, pc + 3, ls, r, σ) := den_br hC (by dsimp only [stI]; rw [if_neg (nneg_of ht), mxJ_of ht]; rfl)
theorem e_icmp_le {off : Int} {t : Nat} {x y : Int32} (hC : mxC m pc = some (.if_icmp .le off, 3)) (ht : (pc : Int) + off = (t : Int)) : den (d, m, pc, ls, .int y :: .int x :: r, σ) = if x ≤ y then den (d, m, t, ls, r, σ) else den (d, m, pc + 3, ls, r, σ) := den_br hC (by dsimp only [stI]; rw [if_neg (nneg_of ht), mxJ_of ht]; rfl)
theorem e_if_eq {off : Int} {t : Nat} {x : Int32} (hC : mxC m pc = some (.ifCond .eq off, 3)) (ht : (pc : Int) + off = (t : Int)) : den (d, m, pc, ls, .int x :: r, σ) = if x = 0 then den (d, m, t, ls, r, σ) else den (d, m, pc + 3, ls, r, σ) := den_br hC (by dsimp only [stI]; rw [if_neg (nneg_of ht), mxJ_of ht]; rfl)
theorem e_if_ne {off : Int} {t : Nat} {x : Int32} (hC : mxC m pc = some (.ifCond .ne off, 3)) (ht : (pc : Int) + off = (t : Int)) : den (d, m, pc, ls, .int x :: r, σ) = if x = 0 then den (d, m, pc + 3, ls, r, σ) else den (d, m, t, ls, r, σ) := den_br hC (by dsimp only [stI]; rw [if_neg (nneg_of ht), mxJ_of ht]; rfl)
theorem e_if_lt {off : Int} {t : Nat} {x : Int32} (hC : mxC m pc = some (.ifCond .lt off, 3)) (ht : (pc : Int) + off = (t : Int)) : den (d, m, pc, ls, .int x :: r, σ) = if x < 0 then den (d, m, t, ls, r, σ) else den (d, m, pc + 3, ls, r, σ) := den_br hC (by dsimp only [stI]; rw [if_neg (nneg_of ht), mxJ_of ht]; rfl)
theorem e_if_ge {off : Int} {t : Nat} {x : Int32} (hC : mxC m pc = some (.ifCond .ge off, 3)) (ht : (pc : Int) + off = (t : Int)) : den (d, m, pc, ls, .int x :: r, σ) = if 0 ≤ x then den (d, m, t, ls, r, σ) else den (d, m, pc + 3, ls, r, σ) := den_br hC (by dsimp only [stI]; rw [if_neg (nneg_of ht), mxJ_of ht]; rfl)
theorem e_if_gt {off : Int} {t : Nat} {x : Int32} (hC : mxC m pc = some (.ifCond .gt off, 3)) (ht : (pc : Int) + off = (t : Int)) : den (d, m, pc, ls, .int x :: r, σ) = if 0 < x then den (d, m, t, ls, r, σ) else den (d, m, pc + 3, ls, r, σ) := den_br hC (by dsimp only [stI]; rw [if_neg (nneg_of ht), mxJ_of ht]; rfl)
theorem e_if_le {off : Int} {t : Nat} {x : Int32} (hC : mxC m pc = some (.ifCond .le off, 3)) (ht : (pc : Int) + off = (t : Int)) : den (d, m, pc, ls, .int x :: r, σ) = if x ≤ 0 then den (d, m, t, ls, r, σ) else den (d, m, pc + 3, ls, r, σ) := den_br hC (by dsimp only [stI]; rw [if_neg (nneg_of ht), mxJ_of ht]; rfl)
theorem e_nn {off : Int} {t q : Nat} (hC : mxC m pc = some (.ifnonnull off, 3)) (ht : (pc : Int) + off = (t : Int)) : den (d, m, pc, ls, .ref q :: r, σ) = den (d, m, t, ls, r, σ) := den_nx hC (by dsimp only [stI]; exact mxJ_of ht)
theorem e_nnN {off : Int} (hC : mxC m pc = some (.ifnonnull off, 3)) : den (d, m, pc, ls, .null :: r, σ) = den (d, m, pc + 3, ls, r, σ) := den_nx hC rfl
theorem e_ldc {k : Nat} {x : Int32} (hC : mxC m pc = some (.ldc k, 2)) (hk : mxK m k = some (.int x)) : den (d, m, pc, ls, st, σ) = den (d, m, pc + 2, ls, .int x :: st, σ) := den_nx hC (by dsimp only [stI]; rw [hk]; rfl)
theorem e_ldcS {k j : Nat} (hC : mxC m pc = some (.ldc k, 2)) (hk : mxK m k = some (.retAddr (j + 1))) : den (d, m, pc, ls, st, σ) = den (d, m, pc + 2, ls, .retAddr (j + 1) :: st, σ) := den_nx hC (by dsimp only [stI]; rw [hk]; rfl)
theorem e_ldcw {k : Nat} {x : Int32} (hC : mxC m pc = some (.ldc_w k, 3)) (hk : mxK m k = some (.int x)) : den (d, m, pc, ls, st, σ) = den (d, m, pc + 3, ls, .int x :: st, σ) := den_nx hC (by dsimp only [stI]; rw [hk]; rfl)
theorem e_ldc2 {k : Nat} {x : Int64} (hC : mxC m pc = some (.ldc2_w k, 3)) (hk : mxK m k = some (.long x)) : den (d, m, pc, ls, st, σ) = den (d, m, pc + 3, ls, .long x :: st, σ) := den_nx hC (by dsimp only [stI]; rw [hk]; rfl)
theorem e_get {k c j q : Nat} {f : Bool} {t : FieldType} (hC : mxC m pc = some (.getfield k, 3)) (hF0 : mxF m k = some (c, j, f, t)) : den (d, m, pc, ls, .ref q :: r, σ) = if kd σ q = c then den (d, m, pc + 3, ls, hF σ q j :: r, σ) else none := den_ite hC (by dsimp only [stI]; rw [hF0]; rfl)
theorem e_put {k c j q : Nat} {t : FieldType} {v : Value} (hC : mxC m pc = some (.putfield k, 3)) (hF0 : mxF m k = some (c, j, false, t)) : den (d, m, pc, ls, v :: .ref q :: r, σ) = if kd σ q = c ∧ mxT t v = true then den (d, m, pc + 3, ls, r, sF σ q j v) else none := den_ite hC (by
  dsimp only [stI]; rw [hF0]; dsimp only
  by_cases h : kd σ q = c ∧ mxT t v = true
  · rw [if_pos h, if_pos ⟨h.1, h.2, Or.inl rfl⟩]; rfl
  · rw [if_neg h, if_neg (fun z => h ⟨z.1, z.2.1⟩)])
theorem e_putF {k c j q : Nat} {t : FieldType} {v : Value} (hC : mxC m pc = some (.putfield k, 3)) (hF0 : mxF m k = some (c, j, true, t)) (hi : c = (mxI m).1 ∧ (mnG m).name = "<init>") : den (d, m, pc, ls, v :: .ref q :: r, σ) = if kd σ q = c ∧ mxT t v = true then den (d, m, pc + 3, ls, r, sF σ q j v) else none := den_ite hC (by
  dsimp only [stI]; rw [hF0]; dsimp only
  by_cases h : kd σ q = c ∧ mxT t v = true
  · rw [if_pos h, if_pos ⟨h.1, h.2, Or.inr hi⟩]; rfl
  · rw [if_neg h, if_neg (fun z => h ⟨z.1, z.2.1⟩)])
theorem e_newo {k c n0 : Nat} (hC : mxC m pc = some (.new k, 3)) (hk : mxN m k = some (c, n0)) : den (d, m, pc, ls, st, σ) = den (d, m, pc + 3, ls, .ref (hN σ) :: st, nO σ c n0 (mxB c)) := den_nx hC (by dsimp only [stI]; rw [hk]; rfl)
theorem cat2 (v : Value) : v.category ≤ 2 := by cases v <;> simp [Value.category]
theorem cs_le : ∀ (l : List Value) (k : Nat), l.length ≤ k → csum l ≤ 2 * k
  | [], _, _ => by simp [csum]
  | v :: l, 0, h => by simp at h
  | v :: l, k + 1, h => by
    have h1 := cs_le l k (by simpa using h)
    have h2 := cat2 v
    unfold csum at h1 ⊢
    rw [List.map_cons, List.sum_cons]
    omega
theorem cs4 {l : List Value} (h : l.length ≤ 4) : csum l ≤ 8 := cs_le l 4 h
theorem mxCall_of {e cal : Nat} {as rest : List Value} (h1 : csum rest ≤ 8) (h2 : as.all isR = true) (h3 : (mxA as).length ≤ (mxI cal).2.1) : mxCall (e + 1) m pc ls σ cal as rest = some (.inr (.inr ((e, cal, 0, mxE cal as, [], σ), fun v τ => (e + 1, m, pc + 3, ls, v.toList ++ rest, τ)))) := by
  unfold mxCall; dsimp only; rw [if_pos ⟨⟨h1, h2⟩, h3⟩]
theorem e_stat {k cal na : Nat} {e : Nat} {as rest l0 : List Value} (hC : mxC m pc = some (.invokestatic k, 3)) (hk : mxM m k = some (0, cal, na)) (hst : st = as.reverse ++ rest) (hna : as.length = na) (h1 : csum rest ≤ 8) (h2 : as.all isR = true) (h3 : (mxA as).length ≤ (mxI cal).2.1) (hl : mxE cal as = l0) : den (e + 1, m, pc, ls, st, σ) = (den (e, cal, 0, l0, [], σ)).bind fun q => den (e + 1, m, pc + 3, ls, q.1.toList ++ rest, q.2) := by
  subst hl
  refine den_cl (y := (e, cal, 0, mxE cal as, [], σ)) (k := fun v τ => (e + 1, m, pc + 3, ls, v.toList ++ rest, τ)) hC ?_
  dsimp only [stI]
  unfold mxInv
  rw [hk]
  dsimp only
  have hl : (st.take na).reverse = as ∧ st.drop na = rest := by
    subst hst; subst hna
    rw [← List.length_reverse (as := as), List.take_left, List.drop_left, List.reverse_reverse]
    exact ⟨rfl, rfl⟩
  rw [if_neg (by decide), if_pos rfl, if_pos (by rw [hst, List.length_append, List.length_reverse]; omega), hl.1, hl.2, mxCall_of h1 h2 h3]
theorem mxIR_of {cal na q e : Nat} {as rest l0 : List Value} (hst : st = as.reverse ++ .ref q :: rest) (hna : as.length = na) (h1 : csum rest ≤ 8) (h2 : as.all isR = true) (h3 : (mxA as).length + 1 ≤ (mxI cal).2.1) (hl : mxE cal (.ref q :: as) = l0) : mxIR (e + 1) m pc ls st σ cal na = if kd σ q = (mxI cal).1 then some (.inr (.inr ((e, cal, 0, l0, [], σ), fun v τ => (e + 1, m, pc + 3, ls, v.toList ++ rest, τ)))) else none := by
  subst hl
  have hl : (st.take na).reverse = as ∧ st.drop na = .ref q :: rest ∧ (st.take na).length = na := by
    subst hst; subst hna
    rw [← List.length_reverse (as := as), List.take_left, List.drop_left, List.reverse_reverse]
    exact ⟨rfl, rfl, rfl⟩
  unfold mxIR
  rw [hl.2.1]
  dsimp only
  rw [hl.1]
  by_cases h : kd σ q = (mxI cal).1
  · rw [if_pos h, if_pos ⟨h, hl.2.2⟩, mxCall_of h1 (by simp only [List.all_cons, isR, Bool.true_and]; exact h2) (by simp only [mxA, List.length_cons]; exact h3)]
  · rw [if_neg h, if_neg (fun z => h z.1)]
theorem den_citl {i : Instr} {c : Prop} [Decidable c] {k : Option Value → Hp → Fr} (hC : mxC m pc = some (i, n)) (h : stI i n d m pc ls st σ = if c then some (.inr (.inr (y, k))) else none) : den (d, m, pc, ls, st, σ) = if c then (den y).bind fun q => den (k q.1 q.2) else none := by
  by_cases hc : c
  · rw [if_pos hc] at h ⊢; exact den_cl hC h
  · rw [if_neg hc] at h ⊢; exact den_no hC h
theorem e_virt {k cal na q e c : Nat} {as rest l0 : List Value} (hC : mxC m pc = some (.invokevirtual k, 3)) (hk : mxM m k = some (1, cal, na)) (hst : st = as.reverse ++ .ref q :: rest) (hna : as.length = na) (h1 : csum rest ≤ 8) (h2 : as.all isR = true) (h3 : (mxA as).length + 1 ≤ (mxI cal).2.1) (hl : mxE cal (.ref q :: as) = l0) (hc : (mxI cal).1 = c) : den (e + 1, m, pc, ls, st, σ) = if kd σ q = c then (den (e, cal, 0, l0, [], σ)).bind fun q => den (e + 1, m, pc + 3, ls, q.1.toList ++ rest, q.2) else none := by
  subst hc
  refine den_citl (c := kd σ q = (mxI cal).1) (y := (e, cal, 0, l0, [], σ)) (k := fun v τ => (e + 1, m, pc + 3, ls, v.toList ++ rest, τ)) hC ?_
  dsimp only [stI]
  unfold mxInv
  rw [hk]
  dsimp only
  rw [if_neg (by decide), if_neg (by decide), if_neg (by decide), if_neg (by decide), if_neg (by decide), if_neg (by decide), if_neg (by decide), if_neg (by decide), mxIR_of hst hna h1 h2 h3 hl]
theorem e_spec {k cal na q e c kk : Nat} {as rest l0 : List Value} (hC : mxC m pc = some (.invokespecial k, 3)) (hk : mxM m k = some (kk, cal, na)) (hkk : kk = 2 ∨ kk = 12) (hst : st = as.reverse ++ .ref q :: rest) (hna : as.length = na) (h1 : csum rest ≤ 8) (h2 : as.all isR = true) (h3 : (mxA as).length + 1 ≤ (mxI cal).2.1) (hl : mxE cal (.ref q :: as) = l0) (hc : (mxI cal).1 = c) : den (e + 1, m, pc, ls, st, σ) = if kd σ q = c then (den (e, cal, 0, l0, [], σ)).bind fun q => den (e + 1, m, pc + 3, ls, q.1.toList ++ rest, q.2) else none := by
  subst hc
  refine den_citl (c := kd σ q = (mxI cal).1) (y := (e, cal, 0, l0, [], σ)) (k := fun v τ => (e + 1, m, pc + 3, ls, v.toList ++ rest, τ)) hC ?_
  dsimp only [stI]
  unfold mxInv
  rw [hk]
  dsimp only
  rcases hkk with rfl | rfl <;> rw [if_neg (by decide), if_neg (by decide), if_neg (by decide), if_neg (by decide), if_neg (by decide), if_neg (by decide), if_neg (by decide), if_neg (by decide), mxIR_of hst hna h1 h2 h3 hl]
theorem e_oinit {k q e : Nat} (hC : mxC m pc = some (.invokespecial k, 3)) (hk : mxM m k = some (3, 0, 0)) (h1 : r.length ≤ 4) : den (e + 1, m, pc, ls, .ref q :: r, σ) = den (e + 1, m, pc + 3, ls, r, σ) := den_nx hC (by
  dsimp only [stI]
  unfold mxInv; rw [hk]; dsimp only
  rw [if_neg (by decide), if_neg (by decide), if_pos rfl]
  unfold mxI3; dsimp only
  rw [if_neg (by omega)]; rfl)
theorem e_max {k e : Nat} {x y : Int32} (hC : mxC m pc = some (.invokestatic k, 3)) (hk : mxM m k = some (7, 0, 2)) (h1 : r.length ≤ 4) : den (e + 1, m, pc, ls, .int y :: .int x :: r, σ) = den (e + 1, m, pc + 3, ls, .int (if x < y then y else x) :: r, σ) := den_nx hC (by
  dsimp only [stI]
  unfold mxInv; rw [hk]; dsimp only
  rw [if_neg (by decide), if_neg (by decide), if_neg (by decide), if_neg (by decide), if_neg (by decide), if_neg (by decide), if_pos rfl]
  unfold mxI7; dsimp only
  rw [if_neg (by omega)]; rfl)
theorem e_min {k e : Nat} {x y : Int32} (hC : mxC m pc = some (.invokestatic k, 3)) (hk : mxM m k = some (8, 0, 2)) (h1 : r.length ≤ 4) : den (e + 1, m, pc, ls, .int y :: .int x :: r, σ) = den (e + 1, m, pc + 3, ls, .int (if y < x then y else x) :: r, σ) := den_nx hC (by
  dsimp only [stI]
  unfold mxInv; rw [hk]; dsimp only
  rw [if_neg (by decide), if_neg (by decide), if_neg (by decide), if_neg (by decide), if_neg (by decide), if_neg (by decide), if_neg (by decide), if_pos rfl]
  unfold mxI8; dsimp only
  rw [if_neg (by omega)]; rfl)
theorem e_copy {k e a b : Nat} {n0 dp sp : Int32} (hC : mxC m pc = some (.invokestatic k, 3)) (hk : mxM m k = some (4, 0, 5)) (h1 : r.length ≤ 4) : den (e + 1, m, pc, ls, .int n0 :: .int dp :: .ref b :: .int sp :: .ref a :: r, σ) = if (kd σ a = 100 ∧ kd σ b = 100) ∧ (¬ sp < 0 ∧ ¬ dp < 0 ∧ ¬ n0 < 0) ∧ sp.toNatClampNeg + n0.toNatClampNeg ≤ hL σ a ∧ dp.toNatClampNeg + n0.toNatClampNeg ≤ hL σ b then den (e + 1, m, pc + 3, ls, r, sI σ b (va_cpy (hI σ a) (hI σ b) sp.toNatClampNeg dp.toNatClampNeg n0.toNatClampNeg)) else none := den_ite hC (by
  dsimp only [stI]
  unfold mxInv; rw [hk]; dsimp only
  rw [if_neg (by decide), if_neg (by decide), if_neg (by decide), if_pos rfl]
  unfold mxI4; dsimp only
  by_cases h : (kd σ a = 100 ∧ kd σ b = 100) ∧ (¬ sp < 0 ∧ ¬ dp < 0 ∧ ¬ n0 < 0) ∧ sp.toNatClampNeg + n0.toNatClampNeg ≤ hL σ a ∧ dp.toNatClampNeg + n0.toNatClampNeg ≤ hL σ b
  · rw [if_pos h, if_pos ⟨⟨by omega, h1⟩, h⟩]; rfl
  · rw [if_neg h, if_neg (fun z => h z.2)])
theorem e_slen {k e j : Nat} {q : Nat × List Nat} (hC : mxC m pc = some (.invokevirtual k, 3)) (hk : mxM m k = some (5, 0, 0)) (hj : stAll[j]? = some q) (h1 : r.length ≤ 4) : den (e + 5, m, pc, ls, .retAddr (j + 1) :: r, σ) = den (e + 5, m, pc + 3, ls, .int (nI q.2.length) :: r, σ) := den_nx hC (by
  dsimp only [stI]
  unfold mxInv; rw [hk]; dsimp only
  rw [if_neg (by decide), if_neg (by decide), if_neg (by decide), if_neg (by decide), if_pos rfl]
  unfold mxI5; dsimp only; rw [hj]; dsimp only
  rw [if_neg (by omega)]; rfl)
theorem e_schr {k e j : Nat} {x : Int32} {q : Nat × List Nat} (hC : mxC m pc = some (.invokevirtual k, 3)) (hk : mxM m k = some (6, 0, 1)) (hj : stAll[j]? = some q) (h1 : r.length ≤ 4) : den (e + 5, m, pc, ls, .int x :: .retAddr (j + 1) :: r, σ) = if mxP x q.2.length then den (e + 5, m, pc + 3, ls, .int (nI (q.2.getD x.toNatClampNeg 0)) :: r, σ) else none := den_ite hC (by
  dsimp only [stI]
  unfold mxInv; rw [hk]; dsimp only
  rw [if_neg (by decide), if_neg (by decide), if_neg (by decide), if_neg (by decide), if_neg (by decide), if_pos rfl]
  unfold mxI6; dsimp only; rw [hj]; dsimp only
  by_cases h : mxP x q.2.length
  · rw [if_pos h, if_neg (fun z => z.elim (fun z => by omega) (fun z => z h))]; rfl
  · rw [if_neg h, if_pos (Or.inr h)])
theorem e_zret {x : Int32} (hC : mxC m pc = some (.ireturn, 1)) (ht : (mxI m).2.2 = some .boolean) : den (d, m, pc, ls, [.int x], σ) = if x = 0 ∨ x = 1 then some (some (.int x), σ) else none := by
  by_cases h : x = 0 ∨ x = 1
  · rw [if_pos h]
    refine den_rt hC ?_
    dsimp only [stI]
    rw [ht]
    dsimp only
    rw [if_pos (by simpa [mxT] using h)]
  · rw [if_neg h]
    refine den_no hC ?_
    dsimp only [stI]
    rw [ht]
    dsimp only
    rw [if_neg (by simpa [mxT] using h)]
theorem mxT_z {x : Int32} : mxT .boolean (.int x) = true ↔ (x = nI 0 ∨ x = nI 1) := by
  show (x == 0 || x == 1) = true ↔ _
  rw [Bool.or_eq_true, beq_iff_eq, beq_iff_eq]; rfl
theorem dv_idiv {k : Nat} {x y : Int32} : stI .idiv k d m pc ls (.int y :: .int x :: r) σ = if ¬ y = nI 0 then some (.inr (.inl (d, m, pc + 1, ls, .int (x / y) :: r, σ))) else none := by
  dsimp only [stI]
  by_cases h : y = 0
  · rw [if_pos h, if_neg (fun z => z (show y = nI 0 from h))]
  · rw [if_neg h, if_pos (show ¬ y = nI 0 from h)]; rfl
theorem dv_irem {k : Nat} {x y : Int32} : stI .irem k d m pc ls (.int y :: .int x :: r) σ = if ¬ y = nI 0 then some (.inr (.inl (d, m, pc + 1, ls, .int (x - x / y * y) :: r, σ))) else none := by
  dsimp only [stI]
  by_cases h : y = 0
  · rw [if_pos h, if_neg (fun z => z (show y = nI 0 from h))]
  · rw [if_neg h, if_pos (show ¬ y = nI 0 from h)]; rfl
theorem dv_ldiv {k : Nat} {x y : Int64} : stI .ldiv k d m pc ls (.long y :: .long x :: r) σ = if ¬ y = lN 0 then some (.inr (.inl (d, m, pc + 1, ls, .long (x / y) :: r, σ))) else none := by
  dsimp only [stI]
  by_cases h : y = 0
  · rw [if_pos h, if_neg (fun z => z (show y = lN 0 from h))]
  · rw [if_neg h, if_pos (show ¬ y = lN 0 from h)]; rfl
theorem dv_lrem {k : Nat} {x y : Int64} : stI .lrem k d m pc ls (.long y :: .long x :: r) σ = if ¬ y = lN 0 then some (.inr (.inl (d, m, pc + 1, ls, .long (x - x / y * y) :: r, σ))) else none := by
  dsimp only [stI]
  by_cases h : y = 0
  · rw [if_pos h, if_neg (fun z => z (show y = lN 0 from h))]
  · rw [if_neg h, if_pos (show ¬ y = lN 0 from h)]; rfl
end
