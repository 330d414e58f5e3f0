/-! what code tells, in the class -/
def Qk (σ τ : Hp) : Prop := Ag (fun k => Nat.beq k 20) (fun k j => Nat.beq k 18 && Nat.beq j 2) σ τ
def StkC (τ : Hp) (n : Nat) (s : Nat → Int) : Prop := hF τ 18 2 = .int (nI n) ∧ ∀ i, i < n → hI τ 20 i = zI (s i) ∧ Bz (s i)
def WdC (σ : Hp) (w : Wd) : Prop := ∀ j, j < 8 → hI σ 19 j = zI (w j) ∧ -1000 ≤ w j ∧ w j ≤ 1000
theorem Qk_C {σ τ : Hp} (g : Qk σ τ) (h : FxC σ) : FxC τ := Qc_C (Ag_w g (fun k e => by have := Nat.eq_of_beq_eq_true e; subst this; rfl) (fun k j e => by
  rw [Bool.and_eq_true] at e
  have e1 := Nat.eq_of_beq_eq_true e.1
  have e2 := Nat.eq_of_beq_eq_true e.2
  subst e1 e2; rfl)) h
theorem Qk_c {σ τ : Hp} (g : Qk σ τ) : Qc σ τ := Ag_w g (fun k e => by have := Nat.eq_of_beq_eq_true e; subst this; rfl) (fun k j e => by
  rw [Bool.and_eq_true] at e
  have e1 := Nat.eq_of_beq_eq_true e.1
  have e2 := Nat.eq_of_beq_eq_true e.2
  subst e1 e2; rfl)
section
variable {d n : Nat} {s : Nat → Int} {σ τ : Hp}
theorem C_lay (h : FxC τ) (hs : StkC τ n s) (hn : n < 64) {z : Int} (h1 : -9223372036854775808 ≤ z ∧ z < 9223372036854775808) : ∃ υ, den (d, 37, 0, [.ref 18, .long (zL z), .float 0], [], τ) = some (some (.int (if Bz z then nI 1 else nI 0)), υ) ∧ Qk τ υ ∧ (Bz z → StkC υ (n + 1) (ud s n z)) := by
  have g1 : (nI 0 < lg_cmp (zL z) (lN 1000000000)) = (1000000000 < z) := by
    rw [show nI 0 = 0 from nI_0, eq_iff_iff, lg_cmp_gt, ← zL_n, zL_lt (by omega) (by omega)]; rfl
  have g2 : (nI 0 ≤ lg_cmp (zL z) (-1000000000)) = (-1000000000 ≤ z) := by
    rw [show nI 0 = 0 from nI_0, eq_iff_iff, ← Int32.not_lt, lg_cmp_lt, show (-1000000000 : Int64) = zL (-1000000000) from rfl, zL_lt (by omega) (by omega), Int.not_lt]
  by_cases z1 : 1000000000 < z
  · refine ⟨τ, ?_, Ag_r, fun z => by unfold Bz at z; omega⟩
    rw [if_neg (by unfold Bz; omega)]
    simp (disch := first | omega | (repeat (first | assumption | exact Ag_r | refine Ag_I ?_ rfl | refine Ag_F ?_ rfl | refine Ag_J ?_ rfl))) only [A37, FC h, hs.1, g1, eq_true z1, CO, HA, HB, HC, Nat.not_lt_zero, Nat.add_assoc, c_nlt, c_nle, c_neq, c_P, c_cl, c_m1, c_m1', nI_add, pk_mul, reduceIte, Nat.reduceEqDiff, Nat.reduceAdd, Nat.reduceMul, Nat.reduceLeDiff, eq_self, ↓pk_rem, pk_div, c_of, d_le, d_nle, d_lt, d_nlt, d_eq, d_ne]
  · by_cases z2 : -1000000000 ≤ z
    · refine ⟨sF (sI τ 20 (upd (hI τ 20) n (zI z))) 18 2 (.int (nI (n + 1))), ?_, Ag_F (Ag_I Ag_r rfl) rfl, fun b => ⟨by simp only [HA, and_self, reduceIte], fun i hi => ?_⟩⟩
      · rw [if_pos ⟨z2, by omega⟩]
        simp (disch := first | omega | (repeat (first | assumption | exact Ag_r | refine Ag_I ?_ rfl | refine Ag_F ?_ rfl | refine Ag_J ?_ rfl))) only [A37, FC h, hs.1, g1, g2, eq_false z1, eq_true z2, zL_I, CO, HA, HB, HC, Nat.not_lt_zero, Nat.add_assoc, c_nlt, c_nle, c_neq, c_P, c_cl, c_m1, c_m1', nI_add, pk_mul, reduceIte, Nat.reduceEqDiff, Nat.reduceAdd, Nat.reduceMul, Nat.reduceLeDiff, eq_self, ↓pk_rem, pk_div, c_of, d_le, d_nle, d_lt, d_nlt, d_eq, d_ne]
      · simp only [HA, reduceIte, ua, ud]
        by_cases e : i = n
        · rw [if_pos e, if_pos e]; exact ⟨rfl, b⟩
        · rw [if_neg e, if_neg e]; exact hs.2 i (by omega)
    · refine ⟨τ, ?_, Ag_r, fun z => by unfold Bz at z; omega⟩
      rw [if_neg (by unfold Bz; omega)]
      simp (disch := first | omega | (repeat (first | assumption | exact Ag_r | refine Ag_I ?_ rfl | refine Ag_F ?_ rfl | refine Ag_J ?_ rfl))) only [A37, FC h, hs.1, g1, g2, eq_false z1, eq_false z2, CO, HA, HB, HC, Nat.not_lt_zero, Nat.add_assoc, c_nlt, c_nle, c_neq, c_P, c_cl, c_m1, c_m1', nI_add, pk_mul, reduceIte, Nat.reduceEqDiff, Nat.reduceAdd, Nat.reduceMul, Nat.reduceLeDiff, eq_self, ↓pk_rem, pk_div, c_of, d_le, d_nle, d_lt, d_nlt, d_eq, d_ne]
theorem C_pull (h : FxC τ) (hs : StkC τ (n + 1) s) (hn : n < 64) : den (d, 38, 0, [.ref 18], [], τ) = some (some (.int (zI (s n))), sF τ 18 2 (.int (nI n))) ∧ StkC (sF τ 18 2 (.int (nI n))) n s := by
  refine ⟨?_, by simp only [HA, and_self, reduceIte], fun i hi => ?_⟩
  · simp (disch := first | omega | (repeat (first | assumption | exact Ag_r | refine Ag_I ?_ rfl | refine Ag_F ?_ rfl | refine Ag_J ?_ rfl))) only [A38, FC h, hs.1, pk_sub, Nat.add_sub_cancel, (hs.2 n (Nat.lt_succ_self n)).1, CO, HA, HB, HC, Nat.not_lt_zero, Nat.add_assoc, c_nlt, c_nle, c_neq, c_P, c_cl, c_m1, c_m1', nI_add, pk_mul, reduceIte, Nat.reduceEqDiff, Nat.reduceAdd, Nat.reduceMul, Nat.reduceLeDiff, eq_self, ↓pk_rem, pk_div, c_of, d_le, d_nle, d_lt, d_nlt, d_eq, d_ne]
  · simp only [HA]; exact hs.2 i (by omega)
end
