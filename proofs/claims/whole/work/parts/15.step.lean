/-! the walk of a frame -/
section
variable {G : Gx} {B : Bas} {m d pc n : Nat} {ls st : List Value} {σ : Hp} {y : Fr}
theorem go_next {i : Instr} (hC : mxC m pc = some (i, n)) (h : stI i n d m pc ls st σ = some (.inr (.inl y))) : GN G B d m pc ls st σ y := by
  obtain ⟨hd, hlen⟩ := mx_dec hC
  cases i
  case iadd =>
    obtain rfl : n = 1 := hlen.resolve_left (fun z => absurd (show (1 : Nat) = 0 from z) (by decide))
    exact gn_iadd hd h
  case isub =>
    obtain rfl : n = 1 := hlen.resolve_left (fun z => absurd (show (1 : Nat) = 0 from z) (by decide))
    exact gn_isub hd h
  case imul =>
    obtain rfl : n = 1 := hlen.resolve_left (fun z => absurd (show (1 : Nat) = 0 from z) (by decide))
    exact gn_imul hd h
  case iand =>
    obtain rfl : n = 1 := hlen.resolve_left (fun z => absurd (show (1 : Nat) = 0 from z) (by decide))
    exact gn_iand hd h
  case ior =>
    obtain rfl : n = 1 := hlen.resolve_left (fun z => absurd (show (1 : Nat) = 0 from z) (by decide))
    exact gn_ior hd h
  case ixor =>
    obtain rfl : n = 1 := hlen.resolve_left (fun z => absurd (show (1 : Nat) = 0 from z) (by decide))
    exact gn_ixor hd h
  case ishl =>
    obtain rfl : n = 1 := hlen.resolve_left (fun z => absurd (show (1 : Nat) = 0 from z) (by decide))
    exact gn_ishl hd h
  case ishr =>
    obtain rfl : n = 1 := hlen.resolve_left (fun z => absurd (show (1 : Nat) = 0 from z) (by decide))
    exact gn_ishr hd h
  case iushr =>
    obtain rfl : n = 1 := hlen.resolve_left (fun z => absurd (show (1 : Nat) = 0 from z) (by decide))
    exact gn_iushr hd h
  case ladd =>
    obtain rfl : n = 1 := hlen.resolve_left (fun z => absurd (show (1 : Nat) = 0 from z) (by decide))
    exact gn_ladd hd h
  case lsub =>
    obtain rfl : n = 1 := hlen.resolve_left (fun z => absurd (show (1 : Nat) = 0 from z) (by decide))
    exact gn_lsub hd h
  case lmul =>
    obtain rfl : n = 1 := hlen.resolve_left (fun z => absurd (show (1 : Nat) = 0 from z) (by decide))
    exact gn_lmul hd h
  case idiv =>
    obtain rfl : n = 1 := hlen.resolve_left (fun z => absurd (show (1 : Nat) = 0 from z) (by decide))
    exact gn_idiv hd h
  case irem =>
    obtain rfl : n = 1 := hlen.resolve_left (fun z => absurd (show (1 : Nat) = 0 from z) (by decide))
    exact gn_irem hd h
  case ldiv =>
    obtain rfl : n = 1 := hlen.resolve_left (fun z => absurd (show (1 : Nat) = 0 from z) (by decide))
    exact gn_ldiv hd h
  case lrem =>
    obtain rfl : n = 1 := hlen.resolve_left (fun z => absurd (show (1 : Nat) = 0 from z) (by decide))
    exact gn_lrem hd h
  case ineg =>
    obtain rfl : n = 1 := hlen.resolve_left (fun z => absurd (show (1 : Nat) = 0 from z) (by decide))
    exact gn_ineg hd h
  case i2l =>
    obtain rfl : n = 1 := hlen.resolve_left (fun z => absurd (show (1 : Nat) = 0 from z) (by decide))
    exact gn_i2l hd h
  case l2i =>
    obtain rfl : n = 1 := hlen.resolve_left (fun z => absurd (show (1 : Nat) = 0 from z) (by decide))
    exact gn_l2i hd h
  case lcmp =>
    obtain rfl : n = 1 := hlen.resolve_left (fun z => absurd (show (1 : Nat) = 0 from z) (by decide))
    exact gn_lcmp hd h
  case pop =>
    obtain rfl : n = 1 := hlen.resolve_left (fun z => absurd (show (1 : Nat) = 0 from z) (by decide))
    exact gn_pop hd h
  case dup2 =>
    obtain rfl : n = 1 := hlen.resolve_left (fun z => absurd (show (1 : Nat) = 0 from z) (by decide))
    exact gn_dup2 hd h
  case dup =>
    obtain rfl : n = 1 := hlen.resolve_left (fun z => absurd (show (1 : Nat) = 0 from z) (by decide))
    exact gn_dup hd h
  case iconst =>
    obtain rfl : n = 1 := hlen.resolve_left (fun z => absurd (show (1 : Nat) = 0 from z) (by decide))
    exact gn_iconst hd h
  case bipush =>
    obtain rfl : n = 2 := hlen.resolve_left (fun z => absurd (show (2 : Nat) = 0 from z) (by decide))
    exact gn_bipush hd h
  case sipush =>
    obtain rfl : n = 3 := hlen.resolve_left (fun z => absurd (show (3 : Nat) = 0 from z) (by decide))
    exact gn_sipush hd h
  case lconst =>
    obtain rfl : n = 1 := hlen.resolve_left (fun z => absurd (show (1 : Nat) = 0 from z) (by decide))
    exact gn_lconst hd h
  case aconst_null =>
    obtain rfl : n = 1 := hlen.resolve_left (fun z => absurd (show (1 : Nat) = 0 from z) (by decide))
    exact gn_aconst hd h
  case iload =>
    obtain rfl : n = 2 := hlen.resolve_left (fun z => absurd (show (2 : Nat) = 0 from z) (by decide))
    exact gn_iload hd h
  case iload_n =>
    obtain rfl : n = 1 := hlen.resolve_left (fun z => absurd (show (1 : Nat) = 0 from z) (by decide))
    exact gn_iload_n hd h
  case lload =>
    obtain rfl : n = 2 := hlen.resolve_left (fun z => absurd (show (2 : Nat) = 0 from z) (by decide))
    exact gn_lload hd h
  case lload_n =>
    obtain rfl : n = 1 := hlen.resolve_left (fun z => absurd (show (1 : Nat) = 0 from z) (by decide))
    exact gn_lload_n hd h
  case aload =>
    obtain rfl : n = 2 := hlen.resolve_left (fun z => absurd (show (2 : Nat) = 0 from z) (by decide))
    exact gn_aload hd h
  case aload_n =>
    obtain rfl : n = 1 := hlen.resolve_left (fun z => absurd (show (1 : Nat) = 0 from z) (by decide))
    exact gn_aload_n hd h
  case istore =>
    obtain rfl : n = 2 := hlen.resolve_left (fun z => absurd (show (2 : Nat) = 0 from z) (by decide))
    exact gn_istore hd h
  case istore_n =>
    obtain rfl : n = 1 := hlen.resolve_left (fun z => absurd (show (1 : Nat) = 0 from z) (by decide))
    exact gn_istore_n hd h
  case lstore =>
    obtain rfl : n = 2 := hlen.resolve_left (fun z => absurd (show (2 : Nat) = 0 from z) (by decide))
    exact gn_lstore hd h
  case lstore_n =>
    obtain rfl : n = 1 := hlen.resolve_left (fun z => absurd (show (1 : Nat) = 0 from z) (by decide))
    exact gn_lstore_n hd h
  case astore =>
    obtain rfl : n = 2 := hlen.resolve_left (fun z => absurd (show (2 : Nat) = 0 from z) (by decide))
    exact gn_astore hd h
  case astore_n =>
    obtain rfl : n = 1 := hlen.resolve_left (fun z => absurd (show (1 : Nat) = 0 from z) (by decide))
    exact gn_astore_n hd h
  case iinc =>
    obtain rfl : n = 3 := hlen.resolve_left (fun z => absurd (show (3 : Nat) = 0 from z) (by decide))
    exact gn_iinc hd h
  case goto =>
    obtain rfl : n = 3 := hlen.resolve_left (fun z => absurd (show (3 : Nat) = 0 from z) (by decide))
    exact gn_goto hd h
  case if_icmp =>
    obtain rfl : n = 3 := hlen.resolve_left (fun z => absurd (show (3 : Nat) = 0 from z) (by decide))
    exact gn_icmp hd h
  case ifCond =>
    obtain rfl : n = 3 := hlen.resolve_left (fun z => absurd (show (3 : Nat) = 0 from z) (by decide))
    exact gn_ifc hd h
  case ifnonnull =>
    obtain rfl : n = 3 := hlen.resolve_left (fun z => absurd (show (3 : Nat) = 0 from z) (by decide))
    exact gn_nn hd h
  case ldc =>
    obtain rfl : n = 2 := hlen.resolve_left (fun z => absurd (show (2 : Nat) = 0 from z) (by decide))
    exact gn_ldc hd h
  case ldc_w =>
    obtain rfl : n = 3 := hlen.resolve_left (fun z => absurd (show (3 : Nat) = 0 from z) (by decide))
    exact gn_ldcw hd h
  case ldc2_w =>
    obtain rfl : n = 3 := hlen.resolve_left (fun z => absurd (show (3 : Nat) = 0 from z) (by decide))
    exact gn_ldc2 hd h
  case getfield =>
    obtain rfl : n = 3 := hlen.resolve_left (fun z => absurd (show (3 : Nat) = 0 from z) (by decide))
    exact gn_get hd h
  case putfield =>
    obtain rfl : n = 3 := hlen.resolve_left (fun z => absurd (show (3 : Nat) = 0 from z) (by decide))
    exact gn_put hd h
  case arraylength =>
    obtain rfl : n = 1 := hlen.resolve_left (fun z => absurd (show (1 : Nat) = 0 from z) (by decide))
    exact gn_alen hd h
  case iaload =>
    obtain rfl : n = 1 := hlen.resolve_left (fun z => absurd (show (1 : Nat) = 0 from z) (by decide))
    exact gn_iald hd h
  case baload =>
    obtain rfl : n = 1 := hlen.resolve_left (fun z => absurd (show (1 : Nat) = 0 from z) (by decide))
    exact gn_zald hd h
  case laload =>
    obtain rfl : n = 1 := hlen.resolve_left (fun z => absurd (show (1 : Nat) = 0 from z) (by decide))
    exact gn_lald hd h
  case aaload =>
    obtain rfl : n = 1 := hlen.resolve_left (fun z => absurd (show (1 : Nat) = 0 from z) (by decide))
    exact gn_aald hd h
  case iastore =>
    obtain rfl : n = 1 := hlen.resolve_left (fun z => absurd (show (1 : Nat) = 0 from z) (by decide))
    exact gn_iast hd h
  case bastore =>
    obtain rfl : n = 1 := hlen.resolve_left (fun z => absurd (show (1 : Nat) = 0 from z) (by decide))
    exact gn_zast hd h
  case lastore =>
    obtain rfl : n = 1 := hlen.resolve_left (fun z => absurd (show (1 : Nat) = 0 from z) (by decide))
    exact gn_last hd h
  case aastore =>
    obtain rfl : n = 1 := hlen.resolve_left (fun z => absurd (show (1 : Nat) = 0 from z) (by decide))
    exact gn_aast hd h
  case newarray =>
    obtain rfl : n = 2 := hlen.resolve_left (fun z => absurd (show (2 : Nat) = 0 from z) (by decide))
    exact gn_newa hd h
  case anewarray =>
    obtain rfl : n = 3 := hlen.resolve_left (fun z => absurd (show (3 : Nat) = 0 from z) (by decide))
    exact gn_anew hd h
  case new =>
    obtain rfl : n = 3 := hlen.resolve_left (fun z => absurd (show (3 : Nat) = 0 from z) (by decide))
    exact gn_new hd h
  case tableswitch => exact gn_tab hd h
  case invokestatic =>
    obtain rfl : n = 3 := hlen.resolve_left (fun z => absurd (show (3 : Nat) = 0 from z) (by decide))
    exact gn_inv h (fun z => by cases z) (fun _ => hd) (fun z => by cases z) (fun z => by cases z) (fun _ => hd) (fun _ => hd)
  case invokevirtual =>
    obtain rfl : n = 3 := hlen.resolve_left (fun z => absurd (show (3 : Nat) = 0 from z) (by decide))
    exact gn_inv h (fun z => by cases z) (fun z => by cases z) (fun _ => hd) (fun _ => hd) (fun z => by cases z) (fun z => by cases z)
  case invokespecial =>
    obtain rfl : n = 3 := hlen.resolve_left (fun z => absurd (show (3 : Nat) = 0 from z) (by decide))
    exact gn_inv h (fun _ => hd) (fun z => by cases z) (fun z => by cases z) (fun z => by cases z) (fun z => by cases z) (fun z => by cases z)
  all_goals first | exact nomatch (show (none : Option Sx) = some _ from h) | skip
  case ireturn =>
    dsimp only [stI] at h
    repeat' split at h
    all_goals cases h
  case lreturn =>
    dsimp only [stI] at h
    repeat' split at h
    all_goals cases h
  case areturn =>
    dsimp only [stI] at h
    repeat' split at h
    all_goals cases h
  case return_ =>
    dsimp only [stI] at h
    repeat' split at h
    all_goals cases h
theorem nx_inl {r : Rs} {ls' st' : List Value} {pc' : Nat} {τ : Hp} (h : nx d m pc' ls' st' τ = some (.inl r)) : False := by unfold nx at h; cases h
theorem nx_call {z : Fr × (Option Value → Hp → Fr)} {ls' st' : List Value} {pc' : Nat} {τ : Hp} (h : nx d m pc' ls' st' τ = some (.inr (.inr z))) : False := by unfold nx at h; cases h
theorem mxCall_ret {r : Rs} {as rest : List Value} {cal : Nat} (h : mxCall d m pc ls σ cal as rest = some (.inl r)) : False := by
  unfold mxCall at h
  split at h
  · cases h
  · split at h <;> cases h
theorem mxInv_ret {kinds : Nat → Bool} {i : Nat} {r : Rs} (h : mxInv d m pc ls st σ kinds i = some (.inl r)) : False := by
  unfold mxInv at h
  split at h
  · split at h
    · cases h
    split at h
    · split at h
      · exact mxCall_ret h
      · cases h
    split at h
    · unfold mxI3 at h
      repeat' split at h
      all_goals first | exact nx_inl h | cases h
    split at h
    · unfold mxI4 at h
      repeat' split at h
      all_goals first | exact nx_inl h | cases h
    split at h
    · unfold mxI5 at h
      repeat' split at h
      all_goals first | exact nx_inl h | cases h
    split at h
    · unfold mxI6 at h
      repeat' split at h
      all_goals first | exact nx_inl h | cases h
    split at h
    · unfold mxI7 at h
      repeat' split at h
      all_goals first | exact nx_inl h | cases h
    split at h
    · unfold mxI8 at h
      repeat' split at h
      all_goals first | exact nx_inl h | cases h
    unfold mxIR at h
    split at h
    · split at h
      · exact mxCall_ret h
      · cases h
    · cases h
  · cases h
/-- what a call is -/
def CallIs (i : Nat) (m : Nat) (st : List Value) (σ : Hp) (k cal : Nat) (as rest : List Value) : Prop :=
  ∃ na, mxM m i = some (k, cal, na) ∧ ((k = 0 ∧ as.length = na ∧ st = as.reverse ++ rest) ∨ (k ≠ 0 ∧ ¬ (3 ≤ k ∧ k ≤ 8) ∧ ∃ (q : Nat) (as' : List Value), as = .ref q :: as' ∧ as'.length = na ∧ st = as'.reverse ++ .ref q :: rest ∧ kd σ q = (mxI cal).1))
theorem mxCall_inv {z : Fr × (Option Value → Hp → Fr)} {as rest : List Value} {cal : Nat} (h : mxCall d m pc ls σ cal as rest = some (.inr (.inr z))) : ∃ e, d = e + 1 ∧ (csum rest ≤ 8 ∧ as.all isR = true) ∧ (mxA as).length ≤ (mxI cal).2.1 ∧ z = ((e, cal, 0, mxE cal as, [], σ), fun v τ => (e + 1, m, pc + 3, ls, v.toList ++ rest, τ)) := by
  unfold mxCall at h
  split at h
  · cases h
  · split at h
    · next q => cases h; exact ⟨_, rfl, q.1, q.2, rfl⟩
    · cases h
theorem mxInv_inv {kinds : Nat → Bool} {i : Nat} {z : Fr × (Option Value → Hp → Fr)} (h : mxInv d m pc ls st σ kinds i = some (.inr (.inr z))) : ∃ (k cal : Nat) (as rest : List Value) (e : Nat), kinds k = true ∧ CallIs i m st σ k cal as rest ∧ d = e + 1 ∧ (csum rest ≤ 8 ∧ as.all isR = true) ∧ (mxA as).length ≤ (mxI cal).2.1 ∧ z = ((e, cal, 0, mxE cal as, [], σ), fun v τ => (e + 1, m, pc + 3, ls, v.toList ++ rest, τ)) := by
  unfold mxInv at h
  split at h
  · next k cal na hm =>
    split at h
    · cases h
    next hk =>
    rw [Bool.not_eq_false] at hk
    split at h
    · next h0 =>
      split at h
      · next hna =>
        obtain ⟨e, h1, h2, h3, h4⟩ := mxCall_inv h
        exact ⟨k, cal, _, _, e, hk, ⟨na, hm, Or.inl ⟨h0, by rw [List.length_reverse, List.length_take]; omega, by rw [List.reverse_reverse, List.take_append_drop]⟩⟩, h1, h2, h3, h4⟩
      · cases h
    next h0 =>
    split at h
    · unfold mxI3 at h
      repeat' split at h
      all_goals first | exact (nx_call h).elim | cases h
    next h3 =>
    split at h
    · unfold mxI4 at h
      repeat' split at h
      all_goals first | exact (nx_call h).elim | cases h
    next h4 =>
    split at h
    · unfold mxI5 at h
      repeat' split at h
      all_goals first | exact (nx_call h).elim | cases h
    next h5 =>
    split at h
    · unfold mxI6 at h
      repeat' split at h
      all_goals first | exact (nx_call h).elim | cases h
    next h6 =>
    split at h
    · unfold mxI7 at h
      repeat' split at h
      all_goals first | exact (nx_call h).elim | cases h
    next h7 =>
    split at h
    · unfold mxI8 at h
      repeat' split at h
      all_goals first | exact (nx_call h).elim | cases h
    next h8 =>
    unfold mxIR at h
    split at h
    · next q r hq =>
      split at h
      · next g =>
        obtain ⟨e, h1, h2, h3, h4⟩ := mxCall_inv h
        refine ⟨k, cal, _, _, e, hk, ⟨na, hm, Or.inr ⟨h0, by omega, q, _, rfl, by rw [List.length_reverse]; exact g.2, ?_, g.1⟩⟩, h1, h2, h3, h4⟩
        rw [List.reverse_reverse, ← hq, List.take_append_drop]
      · cases h
    · cases h
  · cases h
/-- ends: only the returns -/
theorem st_ret {i : Instr} {r : Rs} (h : stI i n d m pc ls st σ = some (.inl r)) : i = .ireturn ∨ i = .lreturn ∨ i = .areturn ∨ i = .return_ := by
  cases i
  case ireturn => exact Or.inl rfl
  case lreturn => exact Or.inr (Or.inl rfl)
  case areturn => exact Or.inr (Or.inr (Or.inl rfl))
  case return_ => exact Or.inr (Or.inr (Or.inr rfl))
  all_goals exfalso
  case invokestatic => exact mxInv_ret h
  case invokevirtual => exact mxInv_ret h
  case invokespecial => exact mxInv_ret h
  all_goals first | exact nomatch (show (none : Option Sx) = some _ from h) | skip
  all_goals
    dsimp only [stI] at h
    first
      | exact nx_inl h
      | skip
  all_goals
    try simp only [mxLI, mxLL, mxLA, mxSI, mxSL, mxSA, mxBin, mxBinL, mxJ] at h
    repeat' split at h
  all_goals first | exact nx_inl h | cases h
theorem st_inv {i : Instr} {z : Fr × (Option Value → Hp → Fr)} (h : stI i n d m pc ls st σ = some (.inr (.inr z))) : (∃ k, i = .invokestatic k) ∨ (∃ k, i = .invokevirtual k) ∨ (∃ k, i = .invokespecial k) := by
  cases i
  case invokestatic k => exact Or.inl ⟨k, rfl⟩
  case invokevirtual k => exact Or.inr (Or.inl ⟨k, rfl⟩)
  case invokespecial k => exact Or.inr (Or.inr ⟨k, rfl⟩)
  all_goals exfalso
  all_goals first | exact nomatch (show (none : Option Sx) = some _ from h) | skip
  all_goals
    dsimp only [stI] at h
    first
      | exact nx_call h
      | skip
  all_goals
    try simp only [mxLI, mxLL, mxLA, mxSI, mxSL, mxSA, mxBin, mxBinL, mxJ] at h
    repeat' split at h
  all_goals first | exact nx_call h | cases h
end
