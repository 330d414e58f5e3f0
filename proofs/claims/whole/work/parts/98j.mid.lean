def MidP (σ : Hp) : Prop := kd σ 0 = 11 ∧ hF σ 0 0 = .ref 1 ∧ hF σ 0 1 = .ref 12 ∧ hF σ 0 2 = .ref 13 ∧ hF σ 0 3 = .ref 14 ∧ hF σ 0 4 = .ref 16 ∧ hF σ 0 5 = .ref 18 ∧ hF σ 0 6 = .ref 21 ∧ hF σ 0 7 = .ref 23 ∧ hF σ 0 8 = .ref 28 ∧ hF σ 0 9 = .ref 31 ∧ hF σ 0 10 = .ref 34 ∧ kd σ 12 = 104 ∧ hL σ 12 = 2 ∧ kd σ 13 = 102 ∧ hL σ 13 = 2 ∧ kd σ 14 = 8 ∧ hF σ 14 0 = .ref 15 ∧ hF σ 14 1 = .ref 16 ∧ kd σ 15 = 100 ∧ hL σ 15 = 1024 ∧ kd σ 16 = 10 ∧ hF σ 16 0 = .ref 17 ∧ kd σ 17 = 100 ∧ hL σ 17 = 400 ∧ kd σ 18 = 4 ∧ hF σ 18 0 = .ref 19 ∧ hF σ 18 1 = .ref 20 ∧ kd σ 19 = 100 ∧ hL σ 19 = 8 ∧ kd σ 20 = 100 ∧ hL σ 20 = 64 ∧ kd σ 21 = 0 ∧ hF σ 21 0 = .ref 22 ∧ kd σ 22 = 100 ∧ hL σ 22 = 232 ∧ kd σ 23 = 3 ∧ hF σ 23 0 = .ref 24 ∧ hF σ 23 1 = .ref 25 ∧ hF σ 23 4 = .ref 26 ∧ hF σ 23 5 = .ref 27 ∧ kd σ 24 = 100 ∧ hL σ 24 = 64 ∧ kd σ 25 = 100 ∧ hL σ 25 = 8 ∧ kd σ 26 = 100 ∧ hL σ 26 = 8 ∧ kd σ 27 = 100 ∧ hL σ 27 = 256 ∧ kd σ 28 = 1 ∧ hF σ 28 0 = .ref 29 ∧ hF σ 28 2 = .ref 30 ∧ kd σ 29 = 100 ∧ hL σ 29 = 8 ∧ kd σ 30 = 100 ∧ hL σ 30 = 8 ∧ kd σ 31 = 7 ∧ hF σ 31 0 = .ref 32 ∧ hF σ 31 1 = .ref 33 ∧ kd σ 32 = 100 ∧ hL σ 32 = 224 ∧ kd σ 33 = 100 ∧ hL σ 33 = 8 ∧ kd σ 34 = 100 ∧ hL σ 34 = 5 ∧ hF σ 0 11 = .int (nI 0) ∧ hF σ 0 12 = .int (nI 0) ∧ hF σ 0 13 = .int (-1) ∧ hF σ 16 1 = .int (nI 0) ∧ hF σ 31 2 = .int (nI 0) ∧ hI σ 13 = (fun _ => 0) ∧ hI σ 32 = (fun _ => 0) ∧ hI σ 33 = (fun _ => 0) ∧ hI σ 34 = (fun _ => 0)
theorem MidP_k {σ τ : Hp} (h : Kq 0 35 σ τ) (s : MidP σ) : MidP τ := by
  have c0 := h 0 (by omega) (by omega)
  have c12 := h 12 (by omega) (by omega)
  have c13 := h 13 (by omega) (by omega)
  have c14 := h 14 (by omega) (by omega)
  have c15 := h 15 (by omega) (by omega)
  have c16 := h 16 (by omega) (by omega)
  have c17 := h 17 (by omega) (by omega)
  have c18 := h 18 (by omega) (by omega)
  have c19 := h 19 (by omega) (by omega)
  have c20 := h 20 (by omega) (by omega)
  have c21 := h 21 (by omega) (by omega)
  have c22 := h 22 (by omega) (by omega)
  have c23 := h 23 (by omega) (by omega)
  have c24 := h 24 (by omega) (by omega)
  have c25 := h 25 (by omega) (by omega)
  have c26 := h 26 (by omega) (by omega)
  have c27 := h 27 (by omega) (by omega)
  have c28 := h 28 (by omega) (by omega)
  have c29 := h 29 (by omega) (by omega)
  have c30 := h 30 (by omega) (by omega)
  have c31 := h 31 (by omega) (by omega)
  have c32 := h 32 (by omega) (by omega)
  have c33 := h 33 (by omega) (by omega)
  have c34 := h 34 (by omega) (by omega)
  unfold MidP at s ⊢
  simp only [c0.1.1, c0.1.2, c0.2.1, c0.2.2.1.1, c12.1.1, c12.1.2, c12.2.1, c12.2.2.1.1, c13.1.1, c13.1.2, c13.2.1, c13.2.2.1.1, c14.1.1, c14.1.2, c14.2.1, c14.2.2.1.1, c15.1.1, c15.1.2, c15.2.1, c15.2.2.1.1, c16.1.1, c16.1.2, c16.2.1, c16.2.2.1.1, c17.1.1, c17.1.2, c17.2.1, c17.2.2.1.1, c18.1.1, c18.1.2, c18.2.1, c18.2.2.1.1, c19.1.1, c19.1.2, c19.2.1, c19.2.2.1.1, c20.1.1, c20.1.2, c20.2.1, c20.2.2.1.1, c21.1.1, c21.1.2, c21.2.1, c21.2.2.1.1, c22.1.1, c22.1.2, c22.2.1, c22.2.2.1.1, c23.1.1, c23.1.2, c23.2.1, c23.2.2.1.1, c24.1.1, c24.1.2, c24.2.1, c24.2.2.1.1, c25.1.1, c25.1.2, c25.2.1, c25.2.2.1.1, c26.1.1, c26.1.2, c26.2.1, c26.2.2.1.1, c27.1.1, c27.1.2, c27.2.1, c27.2.2.1.1, c28.1.1, c28.1.2, c28.2.1, c28.2.2.1.1, c29.1.1, c29.1.2, c29.2.1, c29.2.2.1.1, c30.1.1, c30.1.2, c30.2.1, c30.2.2.1.1, c31.1.1, c31.1.2, c31.2.1, c31.2.2.1.1, c32.1.1, c32.1.2, c32.2.1, c32.2.2.1.1, c33.1.1, c33.1.2, c33.2.1, c33.2.2.1.1, c34.1.1, c34.1.2, c34.2.1, c34.2.2.1.1]
  exact s
section
variable {d : Nat} {σ : Hp}
def hB0 (σ : Hp) : Hp := sF (σ) 0 0 (.ref 1)
theorem hB0_f (n0 : hN σ = 12) (k0 : kd σ 0 = 11) : hN (hB0 σ) = 12 ∧ kd (hB0 σ) 0 = 11 ∧ hS (hB0 σ) = hS σ + 0 ∧ hX (hB0 σ) = hX σ ∧ Kq 1 12 σ (hB0 σ) := by
  unfold hB0
  refine ⟨?_, ?_, ?_, ?_, Kq_F (Kq_r) (by decide)⟩
  · simp only [n0, HA, HB, kd_nO, kd_nA, hL_nO, hL_nA, hF_nO, hF_nA, hI_nO, hI_nA, hJ_nO, hJ_nA, hR_nO, hR_nA, hN_nO, hN_nA, hS_nO, hS_nA, hX_nO, hX_nA, Nat.reduceAdd, Nat.reduceEqDiff, Nat.add_assoc, false_and, and_false, and_self, true_and, and_true, eq_self, reduceIte, implies_true]
  · simp only [n0, k0, HA, HB, kd_nO, kd_nA, hL_nO, hL_nA, hF_nO, hF_nA, hI_nO, hI_nA, hJ_nO, hJ_nA, hR_nO, hR_nA, hN_nO, hN_nA, hS_nO, hS_nA, hX_nO, hX_nA, Nat.reduceAdd, Nat.reduceEqDiff, Nat.add_assoc, false_and, and_false, and_self, true_and, and_true, eq_self, reduceIte, implies_true]
  · simp only [HA, HB, kd_nO, kd_nA, hL_nO, hL_nA, hF_nO, hF_nA, hI_nO, hI_nA, hJ_nO, hJ_nA, hR_nO, hR_nA, hN_nO, hN_nA, hS_nO, hS_nA, hX_nO, hX_nA, Nat.reduceAdd, Nat.reduceEqDiff, Nat.add_assoc, false_and, and_false, and_self, true_and, and_true, eq_self, reduceIte, implies_true, Nat.add_zero]
  · simp only [HA, HB, kd_nO, kd_nA, hL_nO, hL_nA, hF_nO, hF_nA, hI_nO, hI_nA, hJ_nO, hJ_nA, hR_nO, hR_nA, hN_nO, hN_nA, hS_nO, hS_nA, hX_nO, hX_nA, Nat.reduceAdd, Nat.reduceEqDiff, Nat.add_assoc, false_and, and_false, and_self, true_and, and_true, eq_self, reduceIte, implies_true]
theorem C_iB0 (n0 : hN σ = 12) (k0 : kd σ 0 = 11) : den (d + 5, 82, 12, [.ref 0, .float 0], [.ref 1, .ref 0], σ) = den (d + 5, 82, 15, [.ref 0, .float 0], [], hB0 σ) := by
  unfold hB0
  simp (disch := first | omega | (repeat (first | assumption | exact Ag_r | refine Ag_I ?_ rfl | refine Ag_F ?_ rfl | refine Ag_J ?_ rfl))) only [a82_12, A48, A80, A25, A0, A16, A6, A44, kd_nO, kd_nA, hF_nO, hF_nA, hN_nO, hN_nA, n0, k0, c_n0, CO, HA, HB, HC, Nat.not_lt_zero, Nat.add_assoc, c_nlt, c_nle, c_neq, c_P, c_cl, c_m1, c_m1', nI_add, pk_mul, reduceIte, Nat.reduceEqDiff, Nat.reduceAdd, Nat.reduceMul, Nat.reduceLeDiff, eq_self, ↓pk_rem, pk_div, c_of, d_le, d_nle, d_lt, d_nlt, d_eq, d_ne]
def hB1 (σ : Hp) : Hp := sF (nA (σ) 104 2) 0 1 (.ref 12)
theorem hB1_f (n0 : hN σ = 12) (k0 : kd σ 0 = 11) : hN (hB1 σ) = 13 ∧ kd (hB1 σ) 0 = 11 ∧ hS (hB1 σ) = hS σ + 2 ∧ hX (hB1 σ) = hX σ ∧ Kq 1 12 σ (hB1 σ) := by
  unfold hB1
  refine ⟨?_, ?_, ?_, ?_, Kq_F (Kq_A (Kq_r) (by simp only [HB, hN_nO, hN_nA, n0] <;> omega)) (by decide)⟩
  · simp only [n0, HA, HB, kd_nO, kd_nA, hL_nO, hL_nA, hF_nO, hF_nA, hI_nO, hI_nA, hJ_nO, hJ_nA, hR_nO, hR_nA, hN_nO, hN_nA, hS_nO, hS_nA, hX_nO, hX_nA, Nat.reduceAdd, Nat.reduceEqDiff, Nat.add_assoc, false_and, and_false, and_self, true_and, and_true, eq_self, reduceIte, implies_true]
  · simp only [n0, k0, HA, HB, kd_nO, kd_nA, hL_nO, hL_nA, hF_nO, hF_nA, hI_nO, hI_nA, hJ_nO, hJ_nA, hR_nO, hR_nA, hN_nO, hN_nA, hS_nO, hS_nA, hX_nO, hX_nA, Nat.reduceAdd, Nat.reduceEqDiff, Nat.add_assoc, false_and, and_false, and_self, true_and, and_true, eq_self, reduceIte, implies_true]
  · simp only [HA, HB, kd_nO, kd_nA, hL_nO, hL_nA, hF_nO, hF_nA, hI_nO, hI_nA, hJ_nO, hJ_nA, hR_nO, hR_nA, hN_nO, hN_nA, hS_nO, hS_nA, hX_nO, hX_nA, Nat.reduceAdd, Nat.reduceEqDiff, Nat.add_assoc, false_and, and_false, and_self, true_and, and_true, eq_self, reduceIte, implies_true, Nat.add_zero]
  · simp only [HA, HB, kd_nO, kd_nA, hL_nO, hL_nA, hF_nO, hF_nA, hI_nO, hI_nA, hJ_nO, hJ_nA, hR_nO, hR_nA, hN_nO, hN_nA, hS_nO, hS_nA, hX_nO, hX_nA, Nat.reduceAdd, Nat.reduceEqDiff, Nat.add_assoc, false_and, and_false, and_self, true_and, and_true, eq_self, reduceIte, implies_true]
theorem C_iB1 (n0 : hN σ = 12) (k0 : kd σ 0 = 11) : den (d + 5, 82, 15, [.ref 0, .float 0], [], σ) = den (d + 5, 82, 23, [.ref 0, .float 0], [], hB1 σ) := by
  unfold hB1
  simp (disch := first | omega | (repeat (first | assumption | exact Ag_r | refine Ag_I ?_ rfl | refine Ag_F ?_ rfl | refine Ag_J ?_ rfl))) only [a82_15, a82_16, a82_17, a82_20, A48, A80, A25, A0, A16, A6, A44, kd_nO, kd_nA, hF_nO, hF_nA, hN_nO, hN_nA, n0, k0, c_n0, CO, HA, HB, HC, Nat.not_lt_zero, Nat.add_assoc, c_nlt, c_nle, c_neq, c_P, c_cl, c_m1, c_m1', nI_add, pk_mul, reduceIte, Nat.reduceEqDiff, Nat.reduceAdd, Nat.reduceMul, Nat.reduceLeDiff, eq_self, ↓pk_rem, pk_div, c_of, d_le, d_nle, d_lt, d_nlt, d_eq, d_ne]
def hB2 (σ : Hp) : Hp := sF (nA (σ) 102 2) 0 2 (.ref 13)
theorem hB2_f (n0 : hN σ = 13) (k0 : kd σ 0 = 11) : hN (hB2 σ) = 14 ∧ kd (hB2 σ) 0 = 11 ∧ hS (hB2 σ) = hS σ + 2 ∧ hX (hB2 σ) = hX σ ∧ Kq 1 12 σ (hB2 σ) := by
  unfold hB2
  refine ⟨?_, ?_, ?_, ?_, Kq_F (Kq_A (Kq_r) (by simp only [HB, hN_nO, hN_nA, n0] <;> omega)) (by decide)⟩
  · simp only [n0, HA, HB, kd_nO, kd_nA, hL_nO, hL_nA, hF_nO, hF_nA, hI_nO, hI_nA, hJ_nO, hJ_nA, hR_nO, hR_nA, hN_nO, hN_nA, hS_nO, hS_nA, hX_nO, hX_nA, Nat.reduceAdd, Nat.reduceEqDiff, Nat.add_assoc, false_and, and_false, and_self, true_and, and_true, eq_self, reduceIte, implies_true]
  · simp only [n0, k0, HA, HB, kd_nO, kd_nA, hL_nO, hL_nA, hF_nO, hF_nA, hI_nO, hI_nA, hJ_nO, hJ_nA, hR_nO, hR_nA, hN_nO, hN_nA, hS_nO, hS_nA, hX_nO, hX_nA, Nat.reduceAdd, Nat.reduceEqDiff, Nat.add_assoc, false_and, and_false, and_self, true_and, and_true, eq_self, reduceIte, implies_true]
  · simp only [HA, HB, kd_nO, kd_nA, hL_nO, hL_nA, hF_nO, hF_nA, hI_nO, hI_nA, hJ_nO, hJ_nA, hR_nO, hR_nA, hN_nO, hN_nA, hS_nO, hS_nA, hX_nO, hX_nA, Nat.reduceAdd, Nat.reduceEqDiff, Nat.add_assoc, false_and, and_false, and_self, true_and, and_true, eq_self, reduceIte, implies_true, Nat.add_zero]
  · simp only [HA, HB, kd_nO, kd_nA, hL_nO, hL_nA, hF_nO, hF_nA, hI_nO, hI_nA, hJ_nO, hJ_nA, hR_nO, hR_nA, hN_nO, hN_nA, hS_nO, hS_nA, hX_nO, hX_nA, Nat.reduceAdd, Nat.reduceEqDiff, Nat.add_assoc, false_and, and_false, and_self, true_and, and_true, eq_self, reduceIte, implies_true]
theorem C_iB2 (n0 : hN σ = 13) (k0 : kd σ 0 = 11) : den (d + 5, 82, 23, [.ref 0, .float 0], [], σ) = den (d + 5, 82, 30, [.ref 0, .float 0], [], hB2 σ) := by
  unfold hB2
  simp (disch := first | omega | (repeat (first | assumption | exact Ag_r | refine Ag_I ?_ rfl | refine Ag_F ?_ rfl | refine Ag_J ?_ rfl))) only [a82_23, a82_24, a82_25, a82_27, A48, A80, A25, A0, A16, A6, A44, kd_nO, kd_nA, hF_nO, hF_nA, hN_nO, hN_nA, n0, k0, c_n0, CO, HA, HB, HC, Nat.not_lt_zero, Nat.add_assoc, c_nlt, c_nle, c_neq, c_P, c_cl, c_m1, c_m1', nI_add, pk_mul, reduceIte, Nat.reduceEqDiff, Nat.reduceAdd, Nat.reduceMul, Nat.reduceLeDiff, eq_self, ↓pk_rem, pk_div, c_of, d_le, d_nle, d_lt, d_nlt, d_eq, d_ne]
def hB3 (σ : Hp) : Hp := sF (sF (sF (sF (sF (sF (sF (sF (sF (nA (nO (sF (nA (nO (σ) 8 7 (mxB 8)) 100 1024) 14 0 (.ref 15)) 10 2 (mxB 10)) 100 400) 16 0 (.ref 17)) 16 1 (.int (nI 0))) 14 1 (.ref 16)) 14 2 (.int (nI 0))) 14 3 (.int (nI 0))) 14 4 (.int (nI 0))) 14 5 (.int (nI 0))) 14 6 (.int (nI 0))) 0 3 (.ref 14)
theorem hB3_f (n0 : hN σ = 14) (k0 : kd σ 0 = 11) : hN (hB3 σ) = 18 ∧ kd (hB3 σ) 0 = 11 ∧ hS (hB3 σ) = hS σ + 1433 ∧ hX (hB3 σ) = hX σ ∧ Kq 1 12 σ (hB3 σ) := by
  unfold hB3
  refine ⟨?_, ?_, ?_, ?_, Kq_F (Kq_F (Kq_F (Kq_F (Kq_F (Kq_F (Kq_F (Kq_F (Kq_F (Kq_A (Kq_O (Kq_F (Kq_A (Kq_O (Kq_r) (by simp only [HB, hN_nO, hN_nA, n0] <;> omega)) (by simp only [HB, hN_nO, hN_nA, n0] <;> omega)) (by decide)) (by simp only [HB, hN_nO, hN_nA, n0] <;> omega)) (by simp only [HB, hN_nO, hN_nA, n0] <;> omega)) (by decide)) (by decide)) (by decide)) (by decide)) (by decide)) (by decide)) (by decide)) (by decide)) (by decide)⟩
  · simp only [n0, HA, HB, kd_nO, kd_nA, hL_nO, hL_nA, hF_nO, hF_nA, hI_nO, hI_nA, hJ_nO, hJ_nA, hR_nO, hR_nA, hN_nO, hN_nA, hS_nO, hS_nA, hX_nO, hX_nA, Nat.reduceAdd, Nat.reduceEqDiff, Nat.add_assoc, false_and, and_false, and_self, true_and, and_true, eq_self, reduceIte, implies_true]
  · simp only [n0, k0, HA, HB, kd_nO, kd_nA, hL_nO, hL_nA, hF_nO, hF_nA, hI_nO, hI_nA, hJ_nO, hJ_nA, hR_nO, hR_nA, hN_nO, hN_nA, hS_nO, hS_nA, hX_nO, hX_nA, Nat.reduceAdd, Nat.reduceEqDiff, Nat.add_assoc, false_and, and_false, and_self, true_and, and_true, eq_self, reduceIte, implies_true]
  · simp only [HA, HB, kd_nO, kd_nA, hL_nO, hL_nA, hF_nO, hF_nA, hI_nO, hI_nA, hJ_nO, hJ_nA, hR_nO, hR_nA, hN_nO, hN_nA, hS_nO, hS_nA, hX_nO, hX_nA, Nat.reduceAdd, Nat.reduceEqDiff, Nat.add_assoc, false_and, and_false, and_self, true_and, and_true, eq_self, reduceIte, implies_true, Nat.add_zero]
  · simp only [HA, HB, kd_nO, kd_nA, hL_nO, hL_nA, hF_nO, hF_nA, hI_nO, hI_nA, hJ_nO, hJ_nA, hR_nO, hR_nA, hN_nO, hN_nA, hS_nO, hS_nA, hX_nO, hX_nA, Nat.reduceAdd, Nat.reduceEqDiff, Nat.add_assoc, false_and, and_false, and_self, true_and, and_true, eq_self, reduceIte, implies_true]
theorem C_iB3 (n0 : hN σ = 14) (k0 : kd σ 0 = 11) : den (d + 5, 82, 30, [.ref 0, .float 0], [], σ) = den (d + 5, 82, 41, [.ref 0, .float 0], [], hB3 σ) := by
  unfold hB3
  simp (disch := first | omega | (repeat (first | assumption | exact Ag_r | refine Ag_I ?_ rfl | refine Ag_F ?_ rfl | refine Ag_J ?_ rfl))) only [a82_30, a82_31, a82_34, a82_35, a82_38, A48, A80, A25, A0, A16, A6, A44, kd_nO, kd_nA, hF_nO, hF_nA, hN_nO, hN_nA, n0, k0, c_n0, CO, HA, HB, HC, Nat.not_lt_zero, Nat.add_assoc, c_nlt, c_nle, c_neq, c_P, c_cl, c_m1, c_m1', nI_add, pk_mul, reduceIte, Nat.reduceEqDiff, Nat.reduceAdd, Nat.reduceMul, Nat.reduceLeDiff, eq_self, ↓pk_rem, pk_div, c_of, d_le, d_nle, d_lt, d_nlt, d_eq, d_ne]
def hB4 (σ : Hp) : Hp := sF (σ) 0 4 (.ref 16)
theorem hB4_f (n0 : hN σ = 18) (k0 : kd σ 0 = 11) : hN (hB4 σ) = 18 ∧ kd (hB4 σ) 0 = 11 ∧ hS (hB4 σ) = hS σ + 0 ∧ hX (hB4 σ) = hX σ ∧ Kq 1 12 σ (hB4 σ) := by
  unfold hB4
  refine ⟨?_, ?_, ?_, ?_, Kq_F (Kq_r) (by decide)⟩
  · simp only [n0, HA, HB, kd_nO, kd_nA, hL_nO, hL_nA, hF_nO, hF_nA, hI_nO, hI_nA, hJ_nO, hJ_nA, hR_nO, hR_nA, hN_nO, hN_nA, hS_nO, hS_nA, hX_nO, hX_nA, Nat.reduceAdd, Nat.reduceEqDiff, Nat.add_assoc, false_and, and_false, and_self, true_and, and_true, eq_self, reduceIte, implies_true]
  · simp only [n0, k0, HA, HB, kd_nO, kd_nA, hL_nO, hL_nA, hF_nO, hF_nA, hI_nO, hI_nA, hJ_nO, hJ_nA, hR_nO, hR_nA, hN_nO, hN_nA, hS_nO, hS_nA, hX_nO, hX_nA, Nat.reduceAdd, Nat.reduceEqDiff, Nat.add_assoc, false_and, and_false, and_self, true_and, and_true, eq_self, reduceIte, implies_true]
  · simp only [HA, HB, kd_nO, kd_nA, hL_nO, hL_nA, hF_nO, hF_nA, hI_nO, hI_nA, hJ_nO, hJ_nA, hR_nO, hR_nA, hN_nO, hN_nA, hS_nO, hS_nA, hX_nO, hX_nA, Nat.reduceAdd, Nat.reduceEqDiff, Nat.add_assoc, false_and, and_false, and_self, true_and, and_true, eq_self, reduceIte, implies_true, Nat.add_zero]
  · simp only [HA, HB, kd_nO, kd_nA, hL_nO, hL_nA, hF_nO, hF_nA, hI_nO, hI_nA, hJ_nO, hJ_nA, hR_nO, hR_nA, hN_nO, hN_nA, hS_nO, hS_nA, hX_nO, hX_nA, Nat.reduceAdd, Nat.reduceEqDiff, Nat.add_assoc, false_and, and_false, and_self, true_and, and_true, eq_self, reduceIte, implies_true]
theorem C_iB4 (n0 : hN σ = 18) (k0 : kd σ 0 = 11) (k14 : kd σ 14 = 8) (f3 : hF σ 0 3 = .ref 14) (f14 : hF σ 14 1 = .ref 16) : den (d + 5, 82, 41, [.ref 0, .float 0], [], σ) = den (d + 5, 82, 52, [.ref 0, .float 0], [], hB4 σ) := by
  unfold hB4
  simp (disch := first | omega | (repeat (first | assumption | exact Ag_r | refine Ag_I ?_ rfl | refine Ag_F ?_ rfl | refine Ag_J ?_ rfl))) only [a82_41, a82_42, a82_43, a82_46, a82_49, A48, A80, A25, A0, A16, A6, A44, kd_nO, kd_nA, hF_nO, hF_nA, hN_nO, hN_nA, n0, k0, c_n0, k14, f3, f14, CO, HA, HB, HC, Nat.not_lt_zero, Nat.add_assoc, c_nlt, c_nle, c_neq, c_P, c_cl, c_m1, c_m1', nI_add, pk_mul, reduceIte, Nat.reduceEqDiff, Nat.reduceAdd, Nat.reduceMul, Nat.reduceLeDiff, eq_self, ↓pk_rem, pk_div, c_of, d_le, d_nle, d_lt, d_nlt, d_eq, d_ne]
def hB5 (σ : Hp) : Hp := sF (sF (sF (sF (nA (sF (nA (nO (σ) 4 4 (mxB 4)) 100 8) 18 0 (.ref 19)) 100 64) 18 1 (.ref 20)) 18 2 (.int (nI 0))) 18 3 (.int (nI 0))) 0 5 (.ref 18)
theorem hB5_f (n0 : hN σ = 18) (k0 : kd σ 0 = 11) : hN (hB5 σ) = 21 ∧ kd (hB5 σ) 0 = 11 ∧ hS (hB5 σ) = hS σ + 76 ∧ hX (hB5 σ) = hX σ ∧ Kq 1 12 σ (hB5 σ) := by
  unfold hB5
  refine ⟨?_, ?_, ?_, ?_, Kq_F (Kq_F (Kq_F (Kq_F (Kq_A (Kq_F (Kq_A (Kq_O (Kq_r) (by simp only [HB, hN_nO, hN_nA, n0] <;> omega)) (by simp only [HB, hN_nO, hN_nA, n0] <;> omega)) (by decide)) (by simp only [HB, hN_nO, hN_nA, n0] <;> omega)) (by decide)) (by decide)) (by decide)) (by decide)⟩
  · simp only [n0, HA, HB, kd_nO, kd_nA, hL_nO, hL_nA, hF_nO, hF_nA, hI_nO, hI_nA, hJ_nO, hJ_nA, hR_nO, hR_nA, hN_nO, hN_nA, hS_nO, hS_nA, hX_nO, hX_nA, Nat.reduceAdd, Nat.reduceEqDiff, Nat.add_assoc, false_and, and_false, and_self, true_and, and_true, eq_self, reduceIte, implies_true]
  · simp only [n0, k0, HA, HB, kd_nO, kd_nA, hL_nO, hL_nA, hF_nO, hF_nA, hI_nO, hI_nA, hJ_nO, hJ_nA, hR_nO, hR_nA, hN_nO, hN_nA, hS_nO, hS_nA, hX_nO, hX_nA, Nat.reduceAdd, Nat.reduceEqDiff, Nat.add_assoc, false_and, and_false, and_self, true_and, and_true, eq_self, reduceIte, implies_true]
  · simp only [HA, HB, kd_nO, kd_nA, hL_nO, hL_nA, hF_nO, hF_nA, hI_nO, hI_nA, hJ_nO, hJ_nA, hR_nO, hR_nA, hN_nO, hN_nA, hS_nO, hS_nA, hX_nO, hX_nA, Nat.reduceAdd, Nat.reduceEqDiff, Nat.add_assoc, false_and, and_false, and_self, true_and, and_true, eq_self, reduceIte, implies_true, Nat.add_zero]
  · simp only [HA, HB, kd_nO, kd_nA, hL_nO, hL_nA, hF_nO, hF_nA, hI_nO, hI_nA, hJ_nO, hJ_nA, hR_nO, hR_nA, hN_nO, hN_nA, hS_nO, hS_nA, hX_nO, hX_nA, Nat.reduceAdd, Nat.reduceEqDiff, Nat.add_assoc, false_and, and_false, and_self, true_and, and_true, eq_self, reduceIte, implies_true]
theorem C_iB5 (n0 : hN σ = 18) (k0 : kd σ 0 = 11) : den (d + 5, 82, 52, [.ref 0, .float 0], [], σ) = den (d + 5, 82, 63, [.ref 0, .float 0], [], hB5 σ) := by
  unfold hB5
  simp (disch := first | omega | (repeat (first | assumption | exact Ag_r | refine Ag_I ?_ rfl | refine Ag_F ?_ rfl | refine Ag_J ?_ rfl))) only [a82_52, a82_53, a82_56, a82_57, a82_60, A48, A80, A25, A0, A16, A6, A44, kd_nO, kd_nA, hF_nO, hF_nA, hN_nO, hN_nA, n0, k0, c_n0, CO, HA, HB, HC, Nat.not_lt_zero, Nat.add_assoc, c_nlt, c_nle, c_neq, c_P, c_cl, c_m1, c_m1', nI_add, pk_mul, reduceIte, Nat.reduceEqDiff, Nat.reduceAdd, Nat.reduceMul, Nat.reduceLeDiff, eq_self, ↓pk_rem, pk_div, c_of, d_le, d_nle, d_lt, d_nlt, d_eq, d_ne]
def hB6 (σ : Hp) : Hp := sF (sF (nA (nO (σ) 0 1 (mxB 0)) 100 232) 21 0 (.ref 22)) 0 6 (.ref 21)
theorem hB6_f (n0 : hN σ = 21) (k0 : kd σ 0 = 11) : hN (hB6 σ) = 23 ∧ kd (hB6 σ) 0 = 11 ∧ hS (hB6 σ) = hS σ + 233 ∧ hX (hB6 σ) = hX σ ∧ Kq 1 12 σ (hB6 σ) := by
  unfold hB6
  refine ⟨?_, ?_, ?_, ?_, Kq_F (Kq_F (Kq_A (Kq_O (Kq_r) (by simp only [HB, hN_nO, hN_nA, n0] <;> omega)) (by simp only [HB, hN_nO, hN_nA, n0] <;> omega)) (by decide)) (by decide)⟩
  · simp only [n0, HA, HB, kd_nO, kd_nA, hL_nO, hL_nA, hF_nO, hF_nA, hI_nO, hI_nA, hJ_nO, hJ_nA, hR_nO, hR_nA, hN_nO, hN_nA, hS_nO, hS_nA, hX_nO, hX_nA, Nat.reduceAdd, Nat.reduceEqDiff, Nat.add_assoc, false_and, and_false, and_self, true_and, and_true, eq_self, reduceIte, implies_true]
  · simp only [n0, k0, HA, HB, kd_nO, kd_nA, hL_nO, hL_nA, hF_nO, hF_nA, hI_nO, hI_nA, hJ_nO, hJ_nA, hR_nO, hR_nA, hN_nO, hN_nA, hS_nO, hS_nA, hX_nO, hX_nA, Nat.reduceAdd, Nat.reduceEqDiff, Nat.add_assoc, false_and, and_false, and_self, true_and, and_true, eq_self, reduceIte, implies_true]
  · simp only [HA, HB, kd_nO, kd_nA, hL_nO, hL_nA, hF_nO, hF_nA, hI_nO, hI_nA, hJ_nO, hJ_nA, hR_nO, hR_nA, hN_nO, hN_nA, hS_nO, hS_nA, hX_nO, hX_nA, Nat.reduceAdd, Nat.reduceEqDiff, Nat.add_assoc, false_and, and_false, and_self, true_and, and_true, eq_self, reduceIte, implies_true, Nat.add_zero]
  · simp only [HA, HB, kd_nO, kd_nA, hL_nO, hL_nA, hF_nO, hF_nA, hI_nO, hI_nA, hJ_nO, hJ_nA, hR_nO, hR_nA, hN_nO, hN_nA, hS_nO, hS_nA, hX_nO, hX_nA, Nat.reduceAdd, Nat.reduceEqDiff, Nat.add_assoc, false_and, and_false, and_self, true_and, and_true, eq_self, reduceIte, implies_true]
theorem C_iB6 (n0 : hN σ = 21) (k0 : kd σ 0 = 11) : den (d + 5, 82, 63, [.ref 0, .float 0], [], σ) = den (d + 5, 82, 74, [.ref 0, .float 0], [], hB6 σ) := by
  unfold hB6
  simp (disch := first | omega | (repeat (first | assumption | exact Ag_r | refine Ag_I ?_ rfl | refine Ag_F ?_ rfl | refine Ag_J ?_ rfl))) only [a82_63, a82_64, a82_67, a82_68, a82_71, A48, A80, A25, A0, A16, A6, A44, kd_nO, kd_nA, hF_nO, hF_nA, hN_nO, hN_nA, n0, k0, c_n0, CO, HA, HB, HC, Nat.not_lt_zero, Nat.add_assoc, c_nlt, c_nle, c_neq, c_P, c_cl, c_m1, c_m1', nI_add, pk_mul, reduceIte, Nat.reduceEqDiff, Nat.reduceAdd, Nat.reduceMul, Nat.reduceLeDiff, eq_self, ↓pk_rem, pk_div, c_of, d_le, d_nle, d_lt, d_nlt, d_eq, d_ne]
def hB7 (σ : Hp) : Hp := sF (sF (nA (sF (nA (sF (sF (sF (nA (sF (nA (nO (σ) 3 6 (mxB 3)) 100 64) 23 0 (.ref 24)) 100 8) 23 1 (.ref 25)) 23 2 (.int (nI 0))) 23 3 (.int (nI 0))) 100 8) 23 4 (.ref 26)) 100 256) 23 5 (.ref 27)) 0 7 (.ref 23)
theorem hB7_f (n0 : hN σ = 23) (k0 : kd σ 0 = 11) : hN (hB7 σ) = 28 ∧ kd (hB7 σ) 0 = 11 ∧ hS (hB7 σ) = hS σ + 342 ∧ hX (hB7 σ) = hX σ ∧ Kq 1 12 σ (hB7 σ) := by
  unfold hB7
  refine ⟨?_, ?_, ?_, ?_, Kq_F (Kq_F (Kq_A (Kq_F (Kq_A (Kq_F (Kq_F (Kq_F (Kq_A (Kq_F (Kq_A (Kq_O (Kq_r) (by simp only [HB, hN_nO, hN_nA, n0] <;> omega)) (by simp only [HB, hN_nO, hN_nA, n0] <;> omega)) (by decide)) (by simp only [HB, hN_nO, hN_nA, n0] <;> omega)) (by decide)) (by decide)) (by decide)) (by simp only [HB, hN_nO, hN_nA, n0] <;> omega)) (by decide)) (by simp only [HB, hN_nO, hN_nA, n0] <;> omega)) (by decide)) (by decide)⟩
  · simp only [n0, HA, HB, kd_nO, kd_nA, hL_nO, hL_nA, hF_nO, hF_nA, hI_nO, hI_nA, hJ_nO, hJ_nA, hR_nO, hR_nA, hN_nO, hN_nA, hS_nO, hS_nA, hX_nO, hX_nA, Nat.reduceAdd, Nat.reduceEqDiff, Nat.add_assoc, false_and, and_false, and_self, true_and, and_true, eq_self, reduceIte, implies_true]
  · simp only [n0, k0, HA, HB, kd_nO, kd_nA, hL_nO, hL_nA, hF_nO, hF_nA, hI_nO, hI_nA, hJ_nO, hJ_nA, hR_nO, hR_nA, hN_nO, hN_nA, hS_nO, hS_nA, hX_nO, hX_nA, Nat.reduceAdd, Nat.reduceEqDiff, Nat.add_assoc, false_and, and_false, and_self, true_and, and_true, eq_self, reduceIte, implies_true]
  · simp only [HA, HB, kd_nO, kd_nA, hL_nO, hL_nA, hF_nO, hF_nA, hI_nO, hI_nA, hJ_nO, hJ_nA, hR_nO, hR_nA, hN_nO, hN_nA, hS_nO, hS_nA, hX_nO, hX_nA, Nat.reduceAdd, Nat.reduceEqDiff, Nat.add_assoc, false_and, and_false, and_self, true_and, and_true, eq_self, reduceIte, implies_true, Nat.add_zero]
  · simp only [HA, HB, kd_nO, kd_nA, hL_nO, hL_nA, hF_nO, hF_nA, hI_nO, hI_nA, hJ_nO, hJ_nA, hR_nO, hR_nA, hN_nO, hN_nA, hS_nO, hS_nA, hX_nO, hX_nA, Nat.reduceAdd, Nat.reduceEqDiff, Nat.add_assoc, false_and, and_false, and_self, true_and, and_true, eq_self, reduceIte, implies_true]
theorem C_iB7 (n0 : hN σ = 23) (k0 : kd σ 0 = 11) : den (d + 5, 82, 74, [.ref 0, .float 0], [], σ) = den (d + 5, 82, 85, [.ref 0, .float 0], [], hB7 σ) := by
  unfold hB7
  simp (disch := first | omega | (repeat (first | assumption | exact Ag_r | refine Ag_I ?_ rfl | refine Ag_F ?_ rfl | refine Ag_J ?_ rfl))) only [a82_74, a82_75, a82_78, a82_79, a82_82, A48, A80, A25, A0, A16, A6, A44, kd_nO, kd_nA, hF_nO, hF_nA, hN_nO, hN_nA, n0, k0, c_n0, CO, HA, HB, HC, Nat.not_lt_zero, Nat.add_assoc, c_nlt, c_nle, c_neq, c_P, c_cl, c_m1, c_m1', nI_add, pk_mul, reduceIte, Nat.reduceEqDiff, Nat.reduceAdd, Nat.reduceMul, Nat.reduceLeDiff, eq_self, ↓pk_rem, pk_div, c_of, d_le, d_nle, d_lt, d_nlt, d_eq, d_ne]
def hB8 (σ : Hp) : Hp := sF (sF (nA (sF (sF (nA (nO (σ) 1 3 (mxB 1)) 100 8) 28 0 (.ref 29)) 28 1 (.int (nI 0))) 100 8) 28 2 (.ref 30)) 0 8 (.ref 28)
theorem hB8_f (n0 : hN σ = 28) (k0 : kd σ 0 = 11) : hN (hB8 σ) = 31 ∧ kd (hB8 σ) 0 = 11 ∧ hS (hB8 σ) = hS σ + 19 ∧ hX (hB8 σ) = hX σ ∧ Kq 1 12 σ (hB8 σ) := by
  unfold hB8
  refine ⟨?_, ?_, ?_, ?_, Kq_F (Kq_F (Kq_A (Kq_F (Kq_F (Kq_A (Kq_O (Kq_r) (by simp only [HB, hN_nO, hN_nA, n0] <;> omega)) (by simp only [HB, hN_nO, hN_nA, n0] <;> omega)) (by decide)) (by decide)) (by simp only [HB, hN_nO, hN_nA, n0] <;> omega)) (by decide)) (by decide)⟩
  · simp only [n0, HA, HB, kd_nO, kd_nA, hL_nO, hL_nA, hF_nO, hF_nA, hI_nO, hI_nA, hJ_nO, hJ_nA, hR_nO, hR_nA, hN_nO, hN_nA, hS_nO, hS_nA, hX_nO, hX_nA, Nat.reduceAdd, Nat.reduceEqDiff, Nat.add_assoc, false_and, and_false, and_self, true_and, and_true, eq_self, reduceIte, implies_true]
  · simp only [n0, k0, HA, HB, kd_nO, kd_nA, hL_nO, hL_nA, hF_nO, hF_nA, hI_nO, hI_nA, hJ_nO, hJ_nA, hR_nO, hR_nA, hN_nO, hN_nA, hS_nO, hS_nA, hX_nO, hX_nA, Nat.reduceAdd, Nat.reduceEqDiff, Nat.add_assoc, false_and, and_false, and_self, true_and, and_true, eq_self, reduceIte, implies_true]
  · simp only [HA, HB, kd_nO, kd_nA, hL_nO, hL_nA, hF_nO, hF_nA, hI_nO, hI_nA, hJ_nO, hJ_nA, hR_nO, hR_nA, hN_nO, hN_nA, hS_nO, hS_nA, hX_nO, hX_nA, Nat.reduceAdd, Nat.reduceEqDiff, Nat.add_assoc, false_and, and_false, and_self, true_and, and_true, eq_self, reduceIte, implies_true, Nat.add_zero]
  · simp only [HA, HB, kd_nO, kd_nA, hL_nO, hL_nA, hF_nO, hF_nA, hI_nO, hI_nA, hJ_nO, hJ_nA, hR_nO, hR_nA, hN_nO, hN_nA, hS_nO, hS_nA, hX_nO, hX_nA, Nat.reduceAdd, Nat.reduceEqDiff, Nat.add_assoc, false_and, and_false, and_self, true_and, and_true, eq_self, reduceIte, implies_true]
theorem C_iB8 (n0 : hN σ = 28) (k0 : kd σ 0 = 11) : den (d + 5, 82, 85, [.ref 0, .float 0], [], σ) = den (d + 5, 82, 96, [.ref 0, .float 0], [], hB8 σ) := by
  unfold hB8
  simp (disch := first | omega | (repeat (first | assumption | exact Ag_r | refine Ag_I ?_ rfl | refine Ag_F ?_ rfl | refine Ag_J ?_ rfl))) only [a82_85, a82_86, a82_89, a82_90, a82_93, A48, A80, A25, A0, A16, A6, A44, kd_nO, kd_nA, hF_nO, hF_nA, hN_nO, hN_nA, n0, k0, c_n0, CO, HA, HB, HC, Nat.not_lt_zero, Nat.add_assoc, c_nlt, c_nle, c_neq, c_P, c_cl, c_m1, c_m1', nI_add, pk_mul, reduceIte, Nat.reduceEqDiff, Nat.reduceAdd, Nat.reduceMul, Nat.reduceLeDiff, eq_self, ↓pk_rem, pk_div, c_of, d_le, d_nle, d_lt, d_nlt, d_eq, d_ne]
def hB9 (σ : Hp) : Hp := sF (sF (sF (sF (nA (sF (nA (nO (σ) 7 4 (mxB 7)) 100 224) 31 0 (.ref 32)) 100 8) 31 1 (.ref 33)) 31 2 (.int (nI 0))) 31 3 (.long (lN 0))) 0 9 (.ref 31)
theorem hB9_f (n0 : hN σ = 31) (k0 : kd σ 0 = 11) : hN (hB9 σ) = 34 ∧ kd (hB9 σ) 0 = 11 ∧ hS (hB9 σ) = hS σ + 236 ∧ hX (hB9 σ) = hX σ ∧ Kq 1 12 σ (hB9 σ) := by
  unfold hB9
  refine ⟨?_, ?_, ?_, ?_, Kq_F (Kq_F (Kq_F (Kq_F (Kq_A (Kq_F (Kq_A (Kq_O (Kq_r) (by simp only [HB, hN_nO, hN_nA, n0] <;> omega)) (by simp only [HB, hN_nO, hN_nA, n0] <;> omega)) (by decide)) (by simp only [HB, hN_nO, hN_nA, n0] <;> omega)) (by decide)) (by decide)) (by decide)) (by decide)⟩
  · simp only [n0, HA, HB, kd_nO, kd_nA, hL_nO, hL_nA, hF_nO, hF_nA, hI_nO, hI_nA, hJ_nO, hJ_nA, hR_nO, hR_nA, hN_nO, hN_nA, hS_nO, hS_nA, hX_nO, hX_nA, Nat.reduceAdd, Nat.reduceEqDiff, Nat.add_assoc, false_and, and_false, and_self, true_and, and_true, eq_self, reduceIte, implies_true]
  · simp only [n0, k0, HA, HB, kd_nO, kd_nA, hL_nO, hL_nA, hF_nO, hF_nA, hI_nO, hI_nA, hJ_nO, hJ_nA, hR_nO, hR_nA, hN_nO, hN_nA, hS_nO, hS_nA, hX_nO, hX_nA, Nat.reduceAdd, Nat.reduceEqDiff, Nat.add_assoc, false_and, and_false, and_self, true_and, and_true, eq_self, reduceIte, implies_true]
  · simp only [HA, HB, kd_nO, kd_nA, hL_nO, hL_nA, hF_nO, hF_nA, hI_nO, hI_nA, hJ_nO, hJ_nA, hR_nO, hR_nA, hN_nO, hN_nA, hS_nO, hS_nA, hX_nO, hX_nA, Nat.reduceAdd, Nat.reduceEqDiff, Nat.add_assoc, false_and, and_false, and_self, true_and, and_true, eq_self, reduceIte, implies_true, Nat.add_zero]
  · simp only [HA, HB, kd_nO, kd_nA, hL_nO, hL_nA, hF_nO, hF_nA, hI_nO, hI_nA, hJ_nO, hJ_nA, hR_nO, hR_nA, hN_nO, hN_nA, hS_nO, hS_nA, hX_nO, hX_nA, Nat.reduceAdd, Nat.reduceEqDiff, Nat.add_assoc, false_and, and_false, and_self, true_and, and_true, eq_self, reduceIte, implies_true]
theorem C_iB9 (n0 : hN σ = 31) (k0 : kd σ 0 = 11) : den (d + 5, 82, 96, [.ref 0, .float 0], [], σ) = den (d + 5, 82, 107, [.ref 0, .float 0], [], hB9 σ) := by
  unfold hB9
  simp (disch := first | omega | (repeat (first | assumption | exact Ag_r | refine Ag_I ?_ rfl | refine Ag_F ?_ rfl | refine Ag_J ?_ rfl))) only [a82_96, a82_97, a82_100, a82_101, a82_104, A48, A80, A25, A0, A16, A6, A44, kd_nO, kd_nA, hF_nO, hF_nA, hN_nO, hN_nA, n0, k0, c_n0, CO, HA, HB, HC, Nat.not_lt_zero, Nat.add_assoc, c_nlt, c_nle, c_neq, c_P, c_cl, c_m1, c_m1', nI_add, pk_mul, reduceIte, Nat.reduceEqDiff, Nat.reduceAdd, Nat.reduceMul, Nat.reduceLeDiff, eq_self, ↓pk_rem, pk_div, c_of, d_le, d_nle, d_lt, d_nlt, d_eq, d_ne]
def hB10 (σ : Hp) : Hp := sF (sF (sF (sF (sF (nA (σ) 100 5) 0 10 (.ref 34)) 0 11 (.int (nI 0))) 0 12 (.int (nI 0))) 0 13 (.int (-1))) 0 14 (.int (nI 10))
theorem hB10_f (n0 : hN σ = 34) (k0 : kd σ 0 = 11) : hN (hB10 σ) = 35 ∧ kd (hB10 σ) 0 = 11 ∧ hS (hB10 σ) = hS σ + 5 ∧ hX (hB10 σ) = hX σ ∧ Kq 1 12 σ (hB10 σ) := by
  unfold hB10
  refine ⟨?_, ?_, ?_, ?_, Kq_F (Kq_F (Kq_F (Kq_F (Kq_F (Kq_A (Kq_r) (by simp only [HB, hN_nO, hN_nA, n0] <;> omega)) (by decide)) (by decide)) (by decide)) (by decide)) (by decide)⟩
  · simp only [n0, HA, HB, kd_nO, kd_nA, hL_nO, hL_nA, hF_nO, hF_nA, hI_nO, hI_nA, hJ_nO, hJ_nA, hR_nO, hR_nA, hN_nO, hN_nA, hS_nO, hS_nA, hX_nO, hX_nA, Nat.reduceAdd, Nat.reduceEqDiff, Nat.add_assoc, false_and, and_false, and_self, true_and, and_true, eq_self, reduceIte, implies_true]
  · simp only [n0, k0, HA, HB, kd_nO, kd_nA, hL_nO, hL_nA, hF_nO, hF_nA, hI_nO, hI_nA, hJ_nO, hJ_nA, hR_nO, hR_nA, hN_nO, hN_nA, hS_nO, hS_nA, hX_nO, hX_nA, Nat.reduceAdd, Nat.reduceEqDiff, Nat.add_assoc, false_and, and_false, and_self, true_and, and_true, eq_self, reduceIte, implies_true]
  · simp only [HA, HB, kd_nO, kd_nA, hL_nO, hL_nA, hF_nO, hF_nA, hI_nO, hI_nA, hJ_nO, hJ_nA, hR_nO, hR_nA, hN_nO, hN_nA, hS_nO, hS_nA, hX_nO, hX_nA, Nat.reduceAdd, Nat.reduceEqDiff, Nat.add_assoc, false_and, and_false, and_self, true_and, and_true, eq_self, reduceIte, implies_true, Nat.add_zero]
  · simp only [HA, HB, kd_nO, kd_nA, hL_nO, hL_nA, hF_nO, hF_nA, hI_nO, hI_nA, hJ_nO, hJ_nA, hR_nO, hR_nA, hN_nO, hN_nA, hS_nO, hS_nA, hX_nO, hX_nA, Nat.reduceAdd, Nat.reduceEqDiff, Nat.add_assoc, false_and, and_false, and_self, true_and, and_true, eq_self, reduceIte, implies_true]
theorem C_iB10 (n0 : hN σ = 34) (k0 : kd σ 0 = 11) : den (d + 5, 82, 107, [.ref 0, .float 0], [], σ) = den (d + 5, 82, 137, [.ref 0, .int (nI 0)], [], hB10 σ) := by
  unfold hB10
  simp (disch := first | omega | (repeat (first | assumption | exact Ag_r | refine Ag_I ?_ rfl | refine Ag_F ?_ rfl | refine Ag_J ?_ rfl))) only [a82_107, a82_108, a82_109, a82_111, a82_114, a82_115, a82_116, a82_119, a82_120, a82_121, a82_124, a82_125, a82_126, a82_129, a82_130, a82_132, a82_135, a82_136, A48, A80, A25, A0, A16, A6, A44, kd_nO, kd_nA, hF_nO, hF_nA, hN_nO, hN_nA, n0, k0, c_n0, CO, HA, HB, HC, Nat.not_lt_zero, Nat.add_assoc, c_nlt, c_nle, c_neq, c_P, c_cl, c_m1, c_m1', nI_add, pk_mul, reduceIte, Nat.reduceEqDiff, Nat.reduceAdd, Nat.reduceMul, Nat.reduceLeDiff, eq_self, ↓pk_rem, pk_div, c_of, d_le, d_nle, d_lt, d_nlt, d_eq, d_ne]
def hBd (σ : Hp) : Hp := hB10 (hB9 (hB8 (hB7 (hB6 (hB5 (hB4 (hB3 (hB2 (hB1 (hB0 σ))))))))))
set_option maxRecDepth 20000 in
theorem hBd_m (n0 : hN σ = 12) (k0 : kd σ 0 = 11) : MidP (hBd σ) := by
  unfold MidP hBd hB10 hB9 hB8 hB7 hB6 hB5 hB4 hB3 hB2 hB1 hB0
  simp only [n0, k0, HA, HB, kd_nO, kd_nA, hL_nO, hL_nA, hF_nO, hF_nA, hI_nO, hI_nA, hJ_nO, hJ_nA, hR_nO, hR_nA, hN_nO, hN_nA, hS_nO, hS_nA, hX_nO, hX_nA, Nat.reduceAdd, Nat.reduceEqDiff, Nat.add_assoc, false_and, and_false, and_self, true_and, and_true, eq_self, reduceIte, implies_true]
theorem hBd_f (n0 : hN σ = 12) (k0 : kd σ 0 = 11) : (MidP (hBd σ) ∧ (hN (hBd σ) = 35 ∧ hS (hBd σ) = hS σ + 2348 ∧ hX (hBd σ) = hX σ) ∧ Kq 1 12 σ (hBd σ)) ∧ den (d + 5, 82, 12, [.ref 0, .float 0], [.ref 1, .ref 0], σ) = den (d + 5, 82, 137, [.ref 0, .int (nI 0)], [], hBd σ) := by
  have mp := hBd_m n0 k0
  obtain ⟨n1, k1, s1, x1, q1⟩ := hB0_f (σ := σ) n0 k0
  have g0 := C_iB0 (d := d) n0 k0
  obtain ⟨n2, k2, s2, x2, q2⟩ := hB1_f (σ := hB0 (σ)) n1 k1
  have g1 := C_iB1 (d := d) n1 k1
  obtain ⟨n3, k3, s3, x3, q3⟩ := hB2_f (σ := hB1 (hB0 (σ))) n2 k2
  have g2 := C_iB2 (d := d) n2 k2
  obtain ⟨n4, k4, s4, x4, q4⟩ := hB3_f (σ := hB2 (hB1 (hB0 (σ)))) n3 k3
  have g3 := C_iB3 (d := d) n3 k3
  obtain ⟨n5, k5, s5, x5, q5⟩ := hB4_f (σ := hB3 (hB2 (hB1 (hB0 (σ))))) n4 k4
  have e3 : kd (hB3 (hB2 (hB1 (hB0 (σ))))) 14 = 8 ∧ hF (hB3 (hB2 (hB1 (hB0 (σ))))) 0 3 = .ref 14 ∧ hF (hB3 (hB2 (hB1 (hB0 (σ))))) 14 1 = .ref 16 := by
    unfold hB3
    simp only [n3, HA, HB, kd_nO, kd_nA, hL_nO, hL_nA, hF_nO, hF_nA, hI_nO, hI_nA, hJ_nO, hJ_nA, hR_nO, hR_nA, hN_nO, hN_nA, hS_nO, hS_nA, hX_nO, hX_nA, Nat.reduceAdd, Nat.reduceEqDiff, Nat.add_assoc, false_and, and_false, and_self, true_and, and_true, eq_self, reduceIte, implies_true]
  have g4 := C_iB4 (d := d) n4 k4 e3.1 e3.2.1 e3.2.2
  obtain ⟨n6, k6, s6, x6, q6⟩ := hB5_f (σ := hB4 (hB3 (hB2 (hB1 (hB0 (σ)))))) n5 k5
  have g5 := C_iB5 (d := d) n5 k5
  obtain ⟨n7, k7, s7, x7, q7⟩ := hB6_f (σ := hB5 (hB4 (hB3 (hB2 (hB1 (hB0 (σ))))))) n6 k6
  have g6 := C_iB6 (d := d) n6 k6
  obtain ⟨n8, k8, s8, x8, q8⟩ := hB7_f (σ := hB6 (hB5 (hB4 (hB3 (hB2 (hB1 (hB0 (σ)))))))) n7 k7
  have g7 := C_iB7 (d := d) n7 k7
  obtain ⟨n9, k9, s9, x9, q9⟩ := hB8_f (σ := hB7 (hB6 (hB5 (hB4 (hB3 (hB2 (hB1 (hB0 (σ))))))))) n8 k8
  have g8 := C_iB8 (d := d) n8 k8
  obtain ⟨n10, k10, s10, x10, q10⟩ := hB9_f (σ := hB8 (hB7 (hB6 (hB5 (hB4 (hB3 (hB2 (hB1 (hB0 (σ)))))))))) n9 k9
  have g9 := C_iB9 (d := d) n9 k9
  obtain ⟨n11, k11, s11, x11, q11⟩ := hB10_f (σ := hB9 (hB8 (hB7 (hB6 (hB5 (hB4 (hB3 (hB2 (hB1 (hB0 (σ))))))))))) n10 k10
  have g10 := C_iB10 (d := d) n10 k10
  refine ⟨⟨mp, ⟨n11, ?_, ?_⟩, ?_⟩, ?_⟩
  · show hS (hB10 (hB9 (hB8 (hB7 (hB6 (hB5 (hB4 (hB3 (hB2 (hB1 (hB0 (σ)))))))))))) = _
    rw [s11, s10, s9, s8, s7, s6, s5, s4, s3, s2, s1]
  · exact x11.trans (x10.trans (x9.trans (x8.trans (x7.trans (x6.trans (x5.trans (x4.trans (x3.trans (x2.trans (x1))))))))))
  · exact Kq_t (Kq_t (Kq_t (Kq_t (Kq_t (Kq_t (Kq_t (Kq_t (Kq_t (Kq_t (q1) q2) q3) q4) q5) q6) q7) q8) q9) q10) q11
  · exact ((((((((((g0).trans g1).trans g2).trans g3).trans g4).trans g5).trans g6).trans g7).trans g8).trans g9).trans g10
/-- an image -/
theorem C_im0 {τ : Hp} (n0 : hN τ = 35) (z0 : kd τ 0 = 11) (z1 : hF τ 0 1 = .ref 12) (z2 : kd τ 12 = 104 ∧ hL τ 12 = 2) : ∃ υ, den (d + 5, 82, 137, [.ref 0, .int (nI 0)], [], τ) = den (d + 5, 82, 137, [.ref 0, .int (nI 1)], [], υ) ∧ Kq 0 35 τ υ ∧ StP υ 35 ∧ hR υ 12 = va_up (hR τ 12) 0 (some 35) ∧ (hN υ = 46 ∧ hS υ = hS τ + 369 ∧ hX υ = hX τ) := by
  have v0 : kd (nO τ 9 9 (mxB 9)) 35 = 9 := by rw [kd_nO, if_pos n0.symm]
  have nn : hN (nO τ 9 9 (mxB 9)) = 36 := by rw [hN_nO, n0]
  obtain ⟨τ3, e3, p3, -, ⟨n3, s3, x3, r3⟩, q3⟩ := C_iSt35 (d := d + 1) nn v0
  have y3 : Kq 0 35 τ (nO τ 9 9 (mxB 9)) := Kq_O Kq_r (Nat.le_of_eq n0.symm)
  have y4 : Kq 0 35 τ τ3 := Kq_t y3 q3
  have w2 : kd τ3 12 = 104 ∧ hL τ3 12 = 2 := by rw [(y4 12 (by decide) (by decide)).1.1, (y4 12 (by decide) (by decide)).1.2]; exact z2
  have w9 : kd τ3 35 = 9 := p3.1
  have y6 : Kq 0 46 τ3 (sR τ3 12 (va_up (hR τ3 12) 0 (some 35))) := Kq_R Kq_r
  refine ⟨sR τ3 12 (va_up (hR τ3 12) 0 (some 35)), ?_, Kq_R y4, StP_k y6 (Nat.zero_le _) (Nat.le_refl _) (by decide) p3, ?_, ?_, ?_, ?_⟩
  · rw [a82_137]
    simp (disch := omega) only [a82_138, a82_139, a82_142, a82_143, a82_146, a82_147, a82_150, a82_151, a82_154, a82_155, a82_158, z0, z1, n0, v0, e3, w2, w9, d_le, d_nle, CO, HA, HB, HC, Nat.not_lt_zero, Nat.add_assoc, c_nlt, c_nle, c_neq, c_P, c_cl, c_m1, c_m1', nI_add, pk_mul, reduceIte, Nat.reduceEqDiff, Nat.reduceAdd, Nat.reduceMul, Nat.reduceLeDiff, eq_self]
  · rw [hR_sR, if_pos rfl, r3, hR_nO]
  · rw [hN_sR]; exact n3
  · rw [hS_sR, s3, hS_nO]
  · rw [hX_sR, x3, hX_nO]
theorem C_im1 {τ : Hp} (n0 : hN τ = 46) (z0 : kd τ 0 = 11) (z1 : hF τ 0 1 = .ref 12) (z2 : kd τ 12 = 104 ∧ hL τ 12 = 2) : ∃ υ, den (d + 5, 82, 137, [.ref 0, .int (nI 1)], [], τ) = den (d + 5, 82, 137, [.ref 0, .int (nI 2)], [], υ) ∧ Kq 0 46 τ υ ∧ StP υ 46 ∧ hR υ 12 = va_up (hR τ 12) 1 (some 46) ∧ (hN υ = 57 ∧ hS υ = hS τ + 369 ∧ hX υ = hX τ) := by
  have v0 : kd (nO τ 9 9 (mxB 9)) 46 = 9 := by rw [kd_nO, if_pos n0.symm]
  have nn : hN (nO τ 9 9 (mxB 9)) = 47 := by rw [hN_nO, n0]
  obtain ⟨τ3, e3, p3, -, ⟨n3, s3, x3, r3⟩, q3⟩ := C_iSt46 (d := d + 1) nn v0
  have y3 : Kq 0 46 τ (nO τ 9 9 (mxB 9)) := Kq_O Kq_r (Nat.le_of_eq n0.symm)
  have y4 : Kq 0 46 τ τ3 := Kq_t y3 q3
  have w2 : kd τ3 12 = 104 ∧ hL τ3 12 = 2 := by rw [(y4 12 (by decide) (by decide)).1.1, (y4 12 (by decide) (by decide)).1.2]; exact z2
  have w9 : kd τ3 46 = 9 := p3.1
  have y6 : Kq 0 57 τ3 (sR τ3 12 (va_up (hR τ3 12) 1 (some 46))) := Kq_R Kq_r
  refine ⟨sR τ3 12 (va_up (hR τ3 12) 1 (some 46)), ?_, Kq_R y4, StP_k y6 (Nat.zero_le _) (Nat.le_refl _) (by decide) p3, ?_, ?_, ?_, ?_⟩
  · rw [a82_137]
    simp (disch := omega) only [a82_138, a82_139, a82_142, a82_143, a82_146, a82_147, a82_150, a82_151, a82_154, a82_155, a82_158, z0, z1, n0, v0, e3, w2, w9, d_le, d_nle, CO, HA, HB, HC, Nat.not_lt_zero, Nat.add_assoc, c_nlt, c_nle, c_neq, c_P, c_cl, c_m1, c_m1', nI_add, pk_mul, reduceIte, Nat.reduceEqDiff, Nat.reduceAdd, Nat.reduceMul, Nat.reduceLeDiff, eq_self]
  · rw [hR_sR, if_pos rfl, r3, hR_nO]
  · rw [hN_sR]; exact n3
  · rw [hS_sR, s3, hS_nO]
  · rw [hX_sR, x3, hX_nO]
theorem MidP_z {τ : Hp} (p : MidP τ) : kd τ 0 = 11 ∧ hF τ 0 1 = .ref 12 ∧ kd τ 12 = 104 ∧ hL τ 12 = 2 := by
  unfold MidP at p
  simp only [p, and_self]
/-- the class's constructor -/
theorem C_init (n0 : hN σ = 1) (k0 : kd σ 0 = 11) : ∃ τ, den (d + 5, 82, 0, [.ref 0, .float 0], [], σ) = some (none, τ) ∧ MidP τ ∧ (StP τ 1 ∧ StP τ 35 ∧ StP τ 46) ∧ (∀ c, c < 224 → hI τ 2 c = nI (c / 28)) ∧ (hR τ 12 0 = some 35 ∧ hR τ 12 1 = some 46) ∧ (hN τ = 57 ∧ hS τ = hS σ + 3455 ∧ hX τ = hX σ) := by
  have g1 : den (d + 5, 82, 0, [.ref 0, .float 0], [], σ) = (den (d + 4, 70, 0, [.ref 1, .float 0], [], nO σ 9 9 (mxB 9))).bind (fun q => den (d + 5, 82, 12, [.ref 0, .float 0], q.1.toList ++ [.ref 1, .ref 0], q.2)) := by
    simp (disch := omega) only [a82_0, a82_1, a82_4, a82_5, a82_8, a82_9, kd_nO, n0, k0, CO, HA, HB, HC, Nat.not_lt_zero, Nat.add_assoc, c_nlt, c_nle, c_neq, c_P, c_cl, c_m1, c_m1', nI_add, pk_mul, reduceIte, Nat.reduceEqDiff, Nat.reduceAdd, Nat.reduceMul, Nat.reduceLeDiff, eq_self]
  have nn : hN (nO σ 9 9 (mxB 9)) = 2 := by rw [hN_nO, n0]
  obtain ⟨τ1, e1, p1, i1, ⟨n1, s1, x1, -⟩, q1⟩ := C_iSt1 (d := d + 1) nn (by rw [kd_nO, if_pos n0.symm])
  have k1 : kd τ1 0 = 11 := by rw [(q1 0 (by decide) (by decide)).1.1, kd_nO, if_neg (by omega)]; exact k0
  obtain ⟨⟨p2, ⟨n2, s2, x2⟩, q2⟩, g2⟩ := hBd_f (d := d) n1 k1
  obtain ⟨z0, z1, z2⟩ := MidP_z p2
  obtain ⟨τ5, g3, y5, p5, r5, n5, s5, x5⟩ := C_im0 (d := d) n2 z0 z1 z2
  obtain ⟨z0', z1', z2'⟩ := MidP_z (MidP_k y5 p2)
  obtain ⟨τ6, g4, y6, p6, r6, n6, s6, x6⟩ := C_im1 (d := d) n5 z0' z1' z2'
  have g5 : den (d + 5, 82, 137, [.ref 0, .int (nI 2)], [], τ6) = some (none, τ6) := by
    rw [a82_137]
    simp (disch := omega) only [a82_138, a82_139, a82_161, Nat.le_refl, d_le, CO, HA, HB, HC, Nat.not_lt_zero, Nat.add_assoc, c_nlt, c_nle, c_neq, c_P, c_cl, c_m1, c_m1', nI_add, pk_mul, reduceIte, Nat.reduceEqDiff, Nat.reduceAdd, Nat.reduceMul, Nat.reduceLeDiff, eq_self]
  have yA : Kq 0 35 (hBd τ1) τ6 := Kq_t y5 (Kq_w y6 (Nat.le_refl _) (by decide))
  have yB : Kq 1 12 τ1 τ6 := Kq_t q2 (Kq_w yA (by decide) (by decide))
  refine ⟨τ6, ?_, MidP_k yA p2, ⟨StP_k yB (by decide) (by decide) (by decide) p1, StP_k y6 (by decide) (by decide) (by decide) p5, p6⟩, fun c hc => ?_, ⟨?_, ?_⟩, n6, ?_, ?_⟩
  · rw [g1, e1]
    show den (d + 5, 82, 12, [.ref 0, .float 0], [.ref 1, .ref 0], τ1) = _
    rw [g2, g3, g4, g5]
  · rw [(yB 2 (by decide) (by decide)).2.2.1.1]; exact i1 c hc
  · rw [r6]
    show (if 0 = 1 then some 46 else hR τ5 12 0) = _
    rw [if_neg (by decide), r5]
    exact if_pos rfl
  · rw [r6]; exact if_pos rfl
  · rw [s6, s5, s2, s1, hS_nO]
  · rw [x6, x5, x2, x1, hX_nO]
end
