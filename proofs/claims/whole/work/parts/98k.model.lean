def ModP (σ : Hp) : Prop := FxM σ ∧ hF σ 57 13 = .int (-1) ∧ hI σ 58 = (fun _ => 0) ∧ hI σ 61 = (fun _ => 0) ∧ hJ σ 68 = (vp_updL (vp_updL (vp_updL (vp_updL (vp_updL (vp_updL (vp_updL (vp_updL (fun _ => 0) 0 (lN 16496818)) 1 (lN 284561586)) 2 (lN 655)) 3 (lN 4153)) 4 (lN 24869441593)) 5 (lN 591150)) 6 (lN 267652)) 7 (lN 17376357)) ∧ hJ σ 69 = (vp_updL (vp_updL (vp_updL (vp_updL (vp_updL (fun _ => 0) 0 (lN 526131)) 1 (lN 3657363)) 2 (lN 67155)) 3 (lN 24165011)) 4 (lN 20099475))
section
variable {d : Nat} {σ : Hp}
def hM0 (σ : Hp) : Hp := sF (nA (sF (nA (sF (nA (sF (nA (sF (nA (σ) 100 7) 57 2 (.ref 58)) 100 5790) 57 3 (.ref 59)) 100 11580) 57 4 (.ref 60)) 102 2) 57 5 (.ref 61)) 100 400) 57 7 (.ref 62)
theorem hM0_f (n0 : hN σ = 58) (k0 : kd σ 57 = 12) : hN (hM0 σ) = 63 ∧ kd (hM0 σ) 57 = 12 ∧ hS (hM0 σ) = hS σ + 17779 ∧ hX (hM0 σ) = hX σ ∧ Kq 0 57 σ (hM0 σ) ∧ hR (hM0 σ) 12 = hR σ 12 := by
  unfold hM0
  refine ⟨?_, ?_, ?_, ?_, Kq_F (Kq_A (Kq_F (Kq_A (Kq_F (Kq_A (Kq_F (Kq_A (Kq_F (Kq_A (Kq_r) (by simp only [HB, hN_nO, hN_nA, n0] <;> omega)) (by decide)) (by simp only [HB, hN_nO, hN_nA, n0] <;> omega)) (by decide)) (by simp only [HB, hN_nO, hN_nA, n0] <;> omega)) (by decide)) (by simp only [HB, hN_nO, hN_nA, n0] <;> omega)) (by decide)) (by simp only [HB, hN_nO, hN_nA, n0] <;> omega)) (by decide), ?_⟩
  · simp only [n0, HA, HB, kd_nO, kd_nA, hL_nO, hL_nA, hF_nO, hF_nA, hI_nO, hI_nA, hJ_nO, hJ_nA, hR_nO, hR_nA, hN_nO, hN_nA, hS_nO, hS_nA, hX_nO, hX_nA, Nat.reduceAdd, Nat.reduceEqDiff, Nat.add_assoc, false_and, and_false, and_self, true_and, and_true, eq_self, reduceIte, implies_true]
  · simp only [n0, k0, HA, HB, kd_nO, kd_nA, hL_nO, hL_nA, hF_nO, hF_nA, hI_nO, hI_nA, hJ_nO, hJ_nA, hR_nO, hR_nA, hN_nO, hN_nA, hS_nO, hS_nA, hX_nO, hX_nA, Nat.reduceAdd, Nat.reduceEqDiff, Nat.add_assoc, false_and, and_false, and_self, true_and, and_true, eq_self, reduceIte, implies_true]
  · exact Eq.trans (b := hS σ + 7 + 5790 + 11580 + 2 + 400) (by rw [hS_sF, hS_nA, hS_sF, hS_nA, hS_sF, hS_nA, hS_sF, hS_nA, hS_sF, hS_nA]) (by omega)
  · simp only [HA, HB, kd_nO, kd_nA, hL_nO, hL_nA, hF_nO, hF_nA, hI_nO, hI_nA, hJ_nO, hJ_nA, hR_nO, hR_nA, hN_nO, hN_nA, hS_nO, hS_nA, hX_nO, hX_nA, Nat.reduceAdd, Nat.reduceEqDiff, Nat.add_assoc, false_and, and_false, and_self, true_and, and_true, eq_self, reduceIte, implies_true]
  · simp only [n0, HA, HB, kd_nO, kd_nA, hL_nO, hL_nA, hF_nO, hF_nA, hI_nO, hI_nA, hJ_nO, hJ_nA, hR_nO, hR_nA, hN_nO, hN_nA, hS_nO, hS_nA, hX_nO, hX_nA, Nat.reduceAdd, Nat.reduceEqDiff, Nat.add_assoc, false_and, and_false, and_self, true_and, and_true, eq_self, reduceIte, implies_true]
theorem M_iM0 (n0 : hN σ = 58) (k0 : kd σ 57 = 12) : den (d + 2, 132, 0, [.ref 57, .float 0], [], σ) = den (d + 2, 132, 46, [.ref 57, .float 0], [], hM0 σ) := by
  unfold hM0
  simp (disch := first | omega | (repeat (first | assumption | exact Ag_r | refine Ag_I ?_ rfl | refine Ag_F ?_ rfl | refine Ag_J ?_ rfl))) only [a132_0, a132_1, a132_4, a132_5, a132_7, a132_9, a132_12, a132_13, a132_16, a132_18, a132_21, a132_22, a132_25, a132_27, a132_30, a132_31, a132_32, a132_34, a132_37, a132_38, a132_41, a132_43, kd_nO, kd_nA, hL_nA, hF_nA, hJ_nA, hN_nO, hN_nA, n0, k0, c_n0, CO, HA, HB, HC, Nat.not_lt_zero, Nat.add_assoc, c_nlt, c_nle, c_neq, c_P, c_cl, c_m1, c_m1', nI_add, pk_mul, reduceIte, Nat.reduceEqDiff, Nat.reduceAdd, Nat.reduceMul, Nat.reduceLeDiff, eq_self, ↓pk_rem, pk_div, c_of, d_le, d_nle, d_lt, d_nlt, d_eq, d_ne]
def hM1 (σ : Hp) : Hp := sF (nA (sF (nA (sF (nA (sF (nA (sF (nA (sF (σ) 57 13 (.int (-1))) 100 96) 57 16 (.ref 63)) 100 400) 57 18 (.ref 64)) 100 400) 57 19 (.ref 65)) 100 400) 57 21 (.ref 66)) 100 400) 57 22 (.ref 67)
theorem hM1_f (n0 : hN σ = 63) (k0 : kd σ 57 = 12) : hN (hM1 σ) = 68 ∧ kd (hM1 σ) 57 = 12 ∧ hS (hM1 σ) = hS σ + 1696 ∧ hX (hM1 σ) = hX σ ∧ Kq 0 57 σ (hM1 σ) ∧ hR (hM1 σ) 12 = hR σ 12 := by
  unfold hM1
  refine ⟨?_, ?_, ?_, ?_, Kq_F (Kq_A (Kq_F (Kq_A (Kq_F (Kq_A (Kq_F (Kq_A (Kq_F (Kq_A (Kq_F (Kq_r) (by decide)) (by simp only [HB, hN_nO, hN_nA, n0] <;> omega)) (by decide)) (by simp only [HB, hN_nO, hN_nA, n0] <;> omega)) (by decide)) (by simp only [HB, hN_nO, hN_nA, n0] <;> omega)) (by decide)) (by simp only [HB, hN_nO, hN_nA, n0] <;> omega)) (by decide)) (by simp only [HB, hN_nO, hN_nA, n0] <;> omega)) (by decide), ?_⟩
  · simp only [n0, HA, HB, kd_nO, kd_nA, hL_nO, hL_nA, hF_nO, hF_nA, hI_nO, hI_nA, hJ_nO, hJ_nA, hR_nO, hR_nA, hN_nO, hN_nA, hS_nO, hS_nA, hX_nO, hX_nA, Nat.reduceAdd, Nat.reduceEqDiff, Nat.add_assoc, false_and, and_false, and_self, true_and, and_true, eq_self, reduceIte, implies_true]
  · simp only [n0, k0, HA, HB, kd_nO, kd_nA, hL_nO, hL_nA, hF_nO, hF_nA, hI_nO, hI_nA, hJ_nO, hJ_nA, hR_nO, hR_nA, hN_nO, hN_nA, hS_nO, hS_nA, hX_nO, hX_nA, Nat.reduceAdd, Nat.reduceEqDiff, Nat.add_assoc, false_and, and_false, and_self, true_and, and_true, eq_self, reduceIte, implies_true]
  · exact Eq.trans (b := hS σ + 96 + 400 + 400 + 400 + 400) (by rw [hS_sF, hS_nA, hS_sF, hS_nA, hS_sF, hS_nA, hS_sF, hS_nA, hS_sF, hS_nA, hS_sF]) (by omega)
  · simp only [HA, HB, kd_nO, kd_nA, hL_nO, hL_nA, hF_nO, hF_nA, hI_nO, hI_nA, hJ_nO, hJ_nA, hR_nO, hR_nA, hN_nO, hN_nA, hS_nO, hS_nA, hX_nO, hX_nA, Nat.reduceAdd, Nat.reduceEqDiff, Nat.add_assoc, false_and, and_false, and_self, true_and, and_true, eq_self, reduceIte, implies_true]
  · simp only [n0, HA, HB, kd_nO, kd_nA, hL_nO, hL_nA, hF_nO, hF_nA, hI_nO, hI_nA, hJ_nO, hJ_nA, hR_nO, hR_nA, hN_nO, hN_nA, hS_nO, hS_nA, hX_nO, hX_nA, Nat.reduceAdd, Nat.reduceEqDiff, Nat.add_assoc, false_and, and_false, and_self, true_and, and_true, eq_self, reduceIte, implies_true]
theorem M_iM1 (n0 : hN σ = 63) (k0 : kd σ 57 = 12) : den (d + 2, 132, 46, [.ref 57, .float 0], [], σ) = den (d + 2, 132, 95, [.ref 57, .float 0], [], hM1 σ) := by
  unfold hM1
  simp (disch := first | omega | (repeat (first | assumption | exact Ag_r | refine Ag_I ?_ rfl | refine Ag_F ?_ rfl | refine Ag_J ?_ rfl))) only [a132_46, a132_47, a132_48, a132_51, a132_52, a132_54, a132_56, a132_59, a132_60, a132_63, a132_65, a132_68, a132_69, a132_72, a132_74, a132_77, a132_78, a132_81, a132_83, a132_86, a132_87, a132_90, a132_92, kd_nO, kd_nA, hL_nA, hF_nA, hJ_nA, hN_nO, hN_nA, n0, k0, c_n0, CO, HA, HB, HC, Nat.not_lt_zero, Nat.add_assoc, c_nlt, c_nle, c_neq, c_P, c_cl, c_m1, c_m1', nI_add, pk_mul, reduceIte, Nat.reduceEqDiff, Nat.reduceAdd, Nat.reduceMul, Nat.reduceLeDiff, eq_self, ↓pk_rem, pk_div, c_of, d_le, d_nle, d_lt, d_nlt, d_eq, d_ne]
def hM2 (σ : Hp) : Hp := sF (sJ (nA (σ) 101 8) 68 (vp_updL (vp_updL (vp_updL (vp_updL (vp_updL (vp_updL (vp_updL (vp_updL (fun _ => 0) 0 (lN 16496818)) 1 (lN 284561586)) 2 (lN 655)) 3 (lN 4153)) 4 (lN 24869441593)) 5 (lN 591150)) 6 (lN 267652)) 7 (lN 17376357))) 57 25 (.ref 68)
theorem hM2_f (n0 : hN σ = 68) (k0 : kd σ 57 = 12) : hN (hM2 σ) = 69 ∧ kd (hM2 σ) 57 = 12 ∧ hS (hM2 σ) = hS σ + 8 ∧ hX (hM2 σ) = hX σ ∧ Kq 0 57 σ (hM2 σ) ∧ hR (hM2 σ) 12 = hR σ 12 := by
  unfold hM2
  refine ⟨?_, ?_, ?_, ?_, Kq_F (Kq_J (Kq_A (Kq_r) (by simp only [HB, hN_nO, hN_nA, n0] <;> omega)) (by decide)) (by decide), ?_⟩
  · simp only [n0, HA, HB, kd_nO, kd_nA, hL_nO, hL_nA, hF_nO, hF_nA, hI_nO, hI_nA, hJ_nO, hJ_nA, hR_nO, hR_nA, hN_nO, hN_nA, hS_nO, hS_nA, hX_nO, hX_nA, Nat.reduceAdd, Nat.reduceEqDiff, Nat.add_assoc, false_and, and_false, and_self, true_and, and_true, eq_self, reduceIte, implies_true]
  · simp only [n0, k0, HA, HB, kd_nO, kd_nA, hL_nO, hL_nA, hF_nO, hF_nA, hI_nO, hI_nA, hJ_nO, hJ_nA, hR_nO, hR_nA, hN_nO, hN_nA, hS_nO, hS_nA, hX_nO, hX_nA, Nat.reduceAdd, Nat.reduceEqDiff, Nat.add_assoc, false_and, and_false, and_self, true_and, and_true, eq_self, reduceIte, implies_true]
  · exact Eq.trans (b := hS σ + 8) (by rw [hS_sF, hS_sJ, hS_nA]) (by omega)
  · simp only [HA, HB, kd_nO, kd_nA, hL_nO, hL_nA, hF_nO, hF_nA, hI_nO, hI_nA, hJ_nO, hJ_nA, hR_nO, hR_nA, hN_nO, hN_nA, hS_nO, hS_nA, hX_nO, hX_nA, Nat.reduceAdd, Nat.reduceEqDiff, Nat.add_assoc, false_and, and_false, and_self, true_and, and_true, eq_self, reduceIte, implies_true]
  · simp only [n0, HA, HB, kd_nO, kd_nA, hL_nO, hL_nA, hF_nO, hF_nA, hI_nO, hI_nA, hJ_nO, hJ_nA, hR_nO, hR_nA, hN_nO, hN_nA, hS_nO, hS_nA, hX_nO, hX_nA, Nat.reduceAdd, Nat.reduceEqDiff, Nat.add_assoc, false_and, and_false, and_self, true_and, and_true, eq_self, reduceIte, implies_true]
theorem M_iM2 (n0 : hN σ = 68) (k0 : kd σ 57 = 12) : den (d + 2, 132, 95, [.ref 57, .float 0], [], σ) = den (d + 2, 132, 153, [.ref 57, .float 0], [], hM2 σ) := by
  unfold hM2
  simp (disch := first | omega | (repeat (first | assumption | exact Ag_r | refine Ag_I ?_ rfl | refine Ag_F ?_ rfl | refine Ag_J ?_ rfl))) only [a132_95, a132_96, a132_98, a132_100, a132_101, a132_102, a132_105, a132_106, a132_107, a132_108, a132_111, a132_112, a132_113, a132_114, a132_117, a132_118, a132_119, a132_120, a132_123, a132_124, a132_125, a132_126, a132_129, a132_130, a132_131, a132_132, a132_135, a132_136, a132_137, a132_139, a132_142, a132_143, a132_144, a132_146, a132_149, a132_150, kd_nO, kd_nA, hL_nA, hF_nA, hJ_nA, hN_nO, hN_nA, n0, k0, c_n0, CO, HA, HB, HC, Nat.not_lt_zero, Nat.add_assoc, c_nlt, c_nle, c_neq, c_P, c_cl, c_m1, c_m1', nI_add, pk_mul, reduceIte, Nat.reduceEqDiff, Nat.reduceAdd, Nat.reduceMul, Nat.reduceLeDiff, eq_self, ↓pk_rem, pk_div, c_of, d_le, d_nle, d_lt, d_nlt, d_eq, d_ne]
def hM3 (σ : Hp) : Hp := sF (sJ (nA (σ) 101 5) 69 (vp_updL (vp_updL (vp_updL (vp_updL (vp_updL (fun _ => 0) 0 (lN 526131)) 1 (lN 3657363)) 2 (lN 67155)) 3 (lN 24165011)) 4 (lN 20099475))) 57 26 (.ref 69)
theorem hM3_f (n0 : hN σ = 69) (k0 : kd σ 57 = 12) : hN (hM3 σ) = 70 ∧ kd (hM3 σ) 57 = 12 ∧ hS (hM3 σ) = hS σ + 5 ∧ hX (hM3 σ) = hX σ ∧ Kq 0 57 σ (hM3 σ) ∧ hR (hM3 σ) 12 = hR σ 12 := by
  unfold hM3
  refine ⟨?_, ?_, ?_, ?_, Kq_F (Kq_J (Kq_A (Kq_r) (by simp only [HB, hN_nO, hN_nA, n0] <;> omega)) (by decide)) (by decide), ?_⟩
  · simp only [n0, HA, HB, kd_nO, kd_nA, hL_nO, hL_nA, hF_nO, hF_nA, hI_nO, hI_nA, hJ_nO, hJ_nA, hR_nO, hR_nA, hN_nO, hN_nA, hS_nO, hS_nA, hX_nO, hX_nA, Nat.reduceAdd, Nat.reduceEqDiff, Nat.add_assoc, false_and, and_false, and_self, true_and, and_true, eq_self, reduceIte, implies_true]
  · simp only [n0, k0, HA, HB, kd_nO, kd_nA, hL_nO, hL_nA, hF_nO, hF_nA, hI_nO, hI_nA, hJ_nO, hJ_nA, hR_nO, hR_nA, hN_nO, hN_nA, hS_nO, hS_nA, hX_nO, hX_nA, Nat.reduceAdd, Nat.reduceEqDiff, Nat.add_assoc, false_and, and_false, and_self, true_and, and_true, eq_self, reduceIte, implies_true]
  · exact Eq.trans (b := hS σ + 5) (by rw [hS_sF, hS_sJ, hS_nA]) (by omega)
  · simp only [HA, HB, kd_nO, kd_nA, hL_nO, hL_nA, hF_nO, hF_nA, hI_nO, hI_nA, hJ_nO, hJ_nA, hR_nO, hR_nA, hN_nO, hN_nA, hS_nO, hS_nA, hX_nO, hX_nA, Nat.reduceAdd, Nat.reduceEqDiff, Nat.add_assoc, false_and, and_false, and_self, true_and, and_true, eq_self, reduceIte, implies_true]
  · simp only [n0, HA, HB, kd_nO, kd_nA, hL_nO, hL_nA, hF_nO, hF_nA, hI_nO, hI_nA, hJ_nO, hJ_nA, hR_nO, hR_nA, hN_nO, hN_nA, hS_nO, hS_nA, hX_nO, hX_nA, Nat.reduceAdd, Nat.reduceEqDiff, Nat.add_assoc, false_and, and_false, and_self, true_and, and_true, eq_self, reduceIte, implies_true]
theorem M_iM3 (n0 : hN σ = 69) (k0 : kd σ 57 = 12) : den (d + 2, 132, 153, [.ref 57, .float 0], [], σ) = den (d + 2, 132, 190, [.ref 57, .float 0], [], hM3 σ) := by
  unfold hM3
  simp (disch := first | omega | (repeat (first | assumption | exact Ag_r | refine Ag_I ?_ rfl | refine Ag_F ?_ rfl | refine Ag_J ?_ rfl))) only [a132_153, a132_154, a132_155, a132_157, a132_158, a132_159, a132_162, a132_163, a132_164, a132_165, a132_168, a132_169, a132_170, a132_171, a132_174, a132_175, a132_176, a132_177, a132_180, a132_181, a132_182, a132_183, a132_186, a132_187, kd_nO, kd_nA, hL_nA, hF_nA, hJ_nA, hN_nO, hN_nA, n0, k0, c_n0, CO, HA, HB, HC, Nat.not_lt_zero, Nat.add_assoc, c_nlt, c_nle, c_neq, c_P, c_cl, c_m1, c_m1', nI_add, pk_mul, reduceIte, Nat.reduceEqDiff, Nat.reduceAdd, Nat.reduceMul, Nat.reduceLeDiff, eq_self, ↓pk_rem, pk_div, c_of, d_le, d_nle, d_lt, d_nlt, d_eq, d_ne]
def hM4 (σ : Hp) : Hp := sF (nA (sF (nA (sF (nA (sF (nA (sF (nA (σ) 101 13) 57 28 (.ref 70)) 101 400) 57 29 (.ref 71)) 100 224) 57 33 (.ref 72)) 100 8) 57 34 (.ref 73)) 100 224) 57 35 (.ref 74)
theorem hM4_f (n0 : hN σ = 70) (k0 : kd σ 57 = 12) : hN (hM4 σ) = 75 ∧ kd (hM4 σ) 57 = 12 ∧ hS (hM4 σ) = hS σ + 869 ∧ hX (hM4 σ) = hX σ ∧ Kq 0 57 σ (hM4 σ) ∧ hR (hM4 σ) 12 = hR σ 12 := by
  unfold hM4
  refine ⟨?_, ?_, ?_, ?_, Kq_F (Kq_A (Kq_F (Kq_A (Kq_F (Kq_A (Kq_F (Kq_A (Kq_F (Kq_A (Kq_r) (by simp only [HB, hN_nO, hN_nA, n0] <;> omega)) (by decide)) (by simp only [HB, hN_nO, hN_nA, n0] <;> omega)) (by decide)) (by simp only [HB, hN_nO, hN_nA, n0] <;> omega)) (by decide)) (by simp only [HB, hN_nO, hN_nA, n0] <;> omega)) (by decide)) (by simp only [HB, hN_nO, hN_nA, n0] <;> omega)) (by decide), ?_⟩
  · simp only [n0, HA, HB, kd_nO, kd_nA, hL_nO, hL_nA, hF_nO, hF_nA, hI_nO, hI_nA, hJ_nO, hJ_nA, hR_nO, hR_nA, hN_nO, hN_nA, hS_nO, hS_nA, hX_nO, hX_nA, Nat.reduceAdd, Nat.reduceEqDiff, Nat.add_assoc, false_and, and_false, and_self, true_and, and_true, eq_self, reduceIte, implies_true]
  · simp only [n0, k0, HA, HB, kd_nO, kd_nA, hL_nO, hL_nA, hF_nO, hF_nA, hI_nO, hI_nA, hJ_nO, hJ_nA, hR_nO, hR_nA, hN_nO, hN_nA, hS_nO, hS_nA, hX_nO, hX_nA, Nat.reduceAdd, Nat.reduceEqDiff, Nat.add_assoc, false_and, and_false, and_self, true_and, and_true, eq_self, reduceIte, implies_true]
  · exact Eq.trans (b := hS σ + 13 + 400 + 224 + 8 + 224) (by rw [hS_sF, hS_nA, hS_sF, hS_nA, hS_sF, hS_nA, hS_sF, hS_nA, hS_sF, hS_nA]) (by omega)
  · simp only [HA, HB, kd_nO, kd_nA, hL_nO, hL_nA, hF_nO, hF_nA, hI_nO, hI_nA, hJ_nO, hJ_nA, hR_nO, hR_nA, hN_nO, hN_nA, hS_nO, hS_nA, hX_nO, hX_nA, Nat.reduceAdd, Nat.reduceEqDiff, Nat.add_assoc, false_and, and_false, and_self, true_and, and_true, eq_self, reduceIte, implies_true]
  · simp only [n0, HA, HB, kd_nO, kd_nA, hL_nO, hL_nA, hF_nO, hF_nA, hI_nO, hI_nA, hJ_nO, hJ_nA, hR_nO, hR_nA, hN_nO, hN_nA, hS_nO, hS_nA, hX_nO, hX_nA, Nat.reduceAdd, Nat.reduceEqDiff, Nat.add_assoc, false_and, and_false, and_self, true_and, and_true, eq_self, reduceIte, implies_true]
theorem M_iM4 (n0 : hN σ = 70) (k0 : kd σ 57 = 12) : den (d + 2, 132, 190, [.ref 57, .float 0], [], σ) = den (d + 2, 132, 233, [.ref 57, .float 0], [], hM4 σ) := by
  unfold hM4
  simp (disch := first | omega | (repeat (first | assumption | exact Ag_r | refine Ag_I ?_ rfl | refine Ag_F ?_ rfl | refine Ag_J ?_ rfl))) only [a132_190, a132_191, a132_193, a132_195, a132_198, a132_199, a132_202, a132_204, a132_207, a132_208, a132_211, a132_213, a132_216, a132_217, a132_219, a132_221, a132_224, a132_225, a132_228, a132_230, kd_nO, kd_nA, hL_nA, hF_nA, hJ_nA, hN_nO, hN_nA, n0, k0, c_n0, CO, HA, HB, HC, Nat.not_lt_zero, Nat.add_assoc, c_nlt, c_nle, c_neq, c_P, c_cl, c_m1, c_m1', nI_add, pk_mul, reduceIte, Nat.reduceEqDiff, Nat.reduceAdd, Nat.reduceMul, Nat.reduceLeDiff, eq_self, ↓pk_rem, pk_div, c_of, d_le, d_nle, d_lt, d_nlt, d_eq, d_ne]
def hM5 (σ : Hp) : Hp := sF (nA (sF (nA (sF (nA (sF (nA (sF (nA (σ) 100 8) 57 37 (.ref 75)) 100 9) 57 38 (.ref 76)) 100 8) 57 39 (.ref 77)) 100 64) 57 42 (.ref 78)) 100 8) 57 43 (.ref 79)
theorem hM5_f (n0 : hN σ = 75) (k0 : kd σ 57 = 12) : hN (hM5 σ) = 80 ∧ kd (hM5 σ) 57 = 12 ∧ hS (hM5 σ) = hS σ + 97 ∧ hX (hM5 σ) = hX σ ∧ Kq 0 57 σ (hM5 σ) ∧ hR (hM5 σ) 12 = hR σ 12 := by
  unfold hM5
  refine ⟨?_, ?_, ?_, ?_, Kq_F (Kq_A (Kq_F (Kq_A (Kq_F (Kq_A (Kq_F (Kq_A (Kq_F (Kq_A (Kq_r) (by simp only [HB, hN_nO, hN_nA, n0] <;> omega)) (by decide)) (by simp only [HB, hN_nO, hN_nA, n0] <;> omega)) (by decide)) (by simp only [HB, hN_nO, hN_nA, n0] <;> omega)) (by decide)) (by simp only [HB, hN_nO, hN_nA, n0] <;> omega)) (by decide)) (by simp only [HB, hN_nO, hN_nA, n0] <;> omega)) (by decide), ?_⟩
  · simp only [n0, HA, HB, kd_nO, kd_nA, hL_nO, hL_nA, hF_nO, hF_nA, hI_nO, hI_nA, hJ_nO, hJ_nA, hR_nO, hR_nA, hN_nO, hN_nA, hS_nO, hS_nA, hX_nO, hX_nA, Nat.reduceAdd, Nat.reduceEqDiff, Nat.add_assoc, false_and, and_false, and_self, true_and, and_true, eq_self, reduceIte, implies_true]
  · simp only [n0, k0, HA, HB, kd_nO, kd_nA, hL_nO, hL_nA, hF_nO, hF_nA, hI_nO, hI_nA, hJ_nO, hJ_nA, hR_nO, hR_nA, hN_nO, hN_nA, hS_nO, hS_nA, hX_nO, hX_nA, Nat.reduceAdd, Nat.reduceEqDiff, Nat.add_assoc, false_and, and_false, and_self, true_and, and_true, eq_self, reduceIte, implies_true]
  · exact Eq.trans (b := hS σ + 8 + 9 + 8 + 64 + 8) (by rw [hS_sF, hS_nA, hS_sF, hS_nA, hS_sF, hS_nA, hS_sF, hS_nA, hS_sF, hS_nA]) (by omega)
  · simp only [HA, HB, kd_nO, kd_nA, hL_nO, hL_nA, hF_nO, hF_nA, hI_nO, hI_nA, hJ_nO, hJ_nA, hR_nO, hR_nA, hN_nO, hN_nA, hS_nO, hS_nA, hX_nO, hX_nA, Nat.reduceAdd, Nat.reduceEqDiff, Nat.add_assoc, false_and, and_false, and_self, true_and, and_true, eq_self, reduceIte, implies_true]
  · simp only [n0, HA, HB, kd_nO, kd_nA, hL_nO, hL_nA, hF_nO, hF_nA, hI_nO, hI_nA, hJ_nO, hJ_nA, hR_nO, hR_nA, hN_nO, hN_nA, hS_nO, hS_nA, hX_nO, hX_nA, Nat.reduceAdd, Nat.reduceEqDiff, Nat.add_assoc, false_and, and_false, and_self, true_and, and_true, eq_self, reduceIte, implies_true]
theorem M_iM5 (n0 : hN σ = 75) (k0 : kd σ 57 = 12) : den (d + 2, 132, 233, [.ref 57, .float 0], [], σ) = den (d + 2, 132, 273, [.ref 57, .float 0], [], hM5 σ) := by
  unfold hM5
  simp (disch := first | omega | (repeat (first | assumption | exact Ag_r | refine Ag_I ?_ rfl | refine Ag_F ?_ rfl | refine Ag_J ?_ rfl))) only [a132_233, a132_234, a132_236, a132_238, a132_241, a132_242, a132_244, a132_246, a132_249, a132_250, a132_252, a132_254, a132_257, a132_258, a132_260, a132_262, a132_265, a132_266, a132_268, a132_270, kd_nO, kd_nA, hL_nA, hF_nA, hJ_nA, hN_nO, hN_nA, n0, k0, c_n0, CO, HA, HB, HC, Nat.not_lt_zero, Nat.add_assoc, c_nlt, c_nle, c_neq, c_P, c_cl, c_m1, c_m1', nI_add, pk_mul, reduceIte, Nat.reduceEqDiff, Nat.reduceAdd, Nat.reduceMul, Nat.reduceLeDiff, eq_self, ↓pk_rem, pk_div, c_of, d_le, d_nle, d_lt, d_nlt, d_eq, d_ne]
def hM6 (σ : Hp) : Hp := sF (nA (sF (nA (sF (nA (sF (nA (sF (nA (σ) 100 8) 57 44 (.ref 80)) 100 2304) 57 45 (.ref 81)) 100 7) 57 48 (.ref 82)) 100 7) 57 49 (.ref 83)) 100 16) 57 51 (.ref 84)
theorem hM6_f (n0 : hN σ = 80) (k0 : kd σ 57 = 12) : hN (hM6 σ) = 85 ∧ kd (hM6 σ) 57 = 12 ∧ hS (hM6 σ) = hS σ + 2342 ∧ hX (hM6 σ) = hX σ ∧ Kq 0 57 σ (hM6 σ) ∧ hR (hM6 σ) 12 = hR σ 12 := by
  unfold hM6
  refine ⟨?_, ?_, ?_, ?_, Kq_F (Kq_A (Kq_F (Kq_A (Kq_F (Kq_A (Kq_F (Kq_A (Kq_F (Kq_A (Kq_r) (by simp only [HB, hN_nO, hN_nA, n0] <;> omega)) (by decide)) (by simp only [HB, hN_nO, hN_nA, n0] <;> omega)) (by decide)) (by simp only [HB, hN_nO, hN_nA, n0] <;> omega)) (by decide)) (by simp only [HB, hN_nO, hN_nA, n0] <;> omega)) (by decide)) (by simp only [HB, hN_nO, hN_nA, n0] <;> omega)) (by decide), ?_⟩
  · simp only [n0, HA, HB, kd_nO, kd_nA, hL_nO, hL_nA, hF_nO, hF_nA, hI_nO, hI_nA, hJ_nO, hJ_nA, hR_nO, hR_nA, hN_nO, hN_nA, hS_nO, hS_nA, hX_nO, hX_nA, Nat.reduceAdd, Nat.reduceEqDiff, Nat.add_assoc, false_and, and_false, and_self, true_and, and_true, eq_self, reduceIte, implies_true]
  · simp only [n0, k0, HA, HB, kd_nO, kd_nA, hL_nO, hL_nA, hF_nO, hF_nA, hI_nO, hI_nA, hJ_nO, hJ_nA, hR_nO, hR_nA, hN_nO, hN_nA, hS_nO, hS_nA, hX_nO, hX_nA, Nat.reduceAdd, Nat.reduceEqDiff, Nat.add_assoc, false_and, and_false, and_self, true_and, and_true, eq_self, reduceIte, implies_true]
  · exact Eq.trans (b := hS σ + 8 + 2304 + 7 + 7 + 16) (by rw [hS_sF, hS_nA, hS_sF, hS_nA, hS_sF, hS_nA, hS_sF, hS_nA, hS_sF, hS_nA]) (by omega)
  · simp only [HA, HB, kd_nO, kd_nA, hL_nO, hL_nA, hF_nO, hF_nA, hI_nO, hI_nA, hJ_nO, hJ_nA, hR_nO, hR_nA, hN_nO, hN_nA, hS_nO, hS_nA, hX_nO, hX_nA, Nat.reduceAdd, Nat.reduceEqDiff, Nat.add_assoc, false_and, and_false, and_self, true_and, and_true, eq_self, reduceIte, implies_true]
  · simp only [n0, HA, HB, kd_nO, kd_nA, hL_nO, hL_nA, hF_nO, hF_nA, hI_nO, hI_nA, hJ_nO, hJ_nA, hR_nO, hR_nA, hN_nO, hN_nA, hS_nO, hS_nA, hX_nO, hX_nA, Nat.reduceAdd, Nat.reduceEqDiff, Nat.add_assoc, false_and, and_false, and_self, true_and, and_true, eq_self, reduceIte, implies_true]
theorem M_iM6 (n0 : hN σ = 80) (k0 : kd σ 57 = 12) : den (d + 2, 132, 273, [.ref 57, .float 0], [], σ) = den (d + 2, 132, 314, [.ref 57, .float 0], [], hM6 σ) := by
  unfold hM6
  simp (disch := first | omega | (repeat (first | assumption | exact Ag_r | refine Ag_I ?_ rfl | refine Ag_F ?_ rfl | refine Ag_J ?_ rfl))) only [a132_273, a132_274, a132_276, a132_278, a132_281, a132_282, a132_285, a132_287, a132_290, a132_291, a132_293, a132_295, a132_298, a132_299, a132_301, a132_303, a132_306, a132_307, a132_309, a132_311, kd_nO, kd_nA, hL_nA, hF_nA, hJ_nA, hN_nO, hN_nA, n0, k0, c_n0, CO, HA, HB, HC, Nat.not_lt_zero, Nat.add_assoc, c_nlt, c_nle, c_neq, c_P, c_cl, c_m1, c_m1', nI_add, pk_mul, reduceIte, Nat.reduceEqDiff, Nat.reduceAdd, Nat.reduceMul, Nat.reduceLeDiff, eq_self, ↓pk_rem, pk_div, c_of, d_le, d_nle, d_lt, d_nlt, d_eq, d_ne]
theorem M_iM7 (fm : kd σ 57 = 12 ∧ hF σ 57 3 = .ref 59 ∧ kd σ 59 = 100 ∧ hL σ 59 = 5790) (h59 : hI σ 59 = fun _ => 0) : den (d + 2, 132, 314, [.ref 57, .float 0], [], σ) = den (d + 2, 132, 338, [.ref 57, .int (nI 0)], [], sI σ 59 (upd (upd (upd (fun _ => 0) 3 (-1)) 0 (nI 4)) 1 (nI 10))) := by
  simp (disch := first | omega | (repeat (first | assumption | exact Ag_r | refine Ag_I ?_ rfl | refine Ag_F ?_ rfl | refine Ag_J ?_ rfl))) only [a132_314, a132_315, a132_318, a132_319, a132_320, a132_321, a132_322, a132_325, a132_326, a132_327, a132_328, a132_329, a132_332, a132_333, a132_335, a132_336, a132_337, fm, h59, CO, HA, HB, HC, Nat.not_lt_zero, Nat.add_assoc, c_nlt, c_nle, c_neq, c_P, c_cl, c_m1, c_m1', nI_add, pk_mul, reduceIte, Nat.reduceEqDiff, Nat.reduceAdd, Nat.reduceMul, Nat.reduceLeDiff, eq_self, ↓pk_rem, pk_div, c_of, d_le, d_nle, d_lt, d_nlt, d_eq, d_ne]
def hMd (σ : Hp) : Hp := hM6 (hM5 (hM4 (hM3 (hM2 (hM1 (hM0 σ))))))
set_option maxRecDepth 20000 in
theorem hMd_m (n0 : hN σ = 58) (k0 : kd σ 57 = 12) : ModP (hMd σ) ∧ hI (hMd σ) 59 = (fun _ => 0) ∧ hF (hMd σ) 57 1 = hF σ 57 1 ∧ hF (hMd σ) 57 6 = hF σ 57 6 ∧ hF (hMd σ) 57 8 = hF σ 57 8 ∧ hF (hMd σ) 57 52 = hF σ 57 52 := by
  unfold ModP FxM hMd hM6 hM5 hM4 hM3 hM2 hM1 hM0
  simp only [n0, k0, HA, HB, kd_nO, kd_nA, hL_nO, hL_nA, hF_nO, hF_nA, hI_nO, hI_nA, hJ_nO, hJ_nA, hR_nO, hR_nA, hN_nO, hN_nA, hS_nO, hS_nA, hX_nO, hX_nA, Nat.reduceAdd, Nat.reduceEqDiff, Nat.add_assoc, false_and, and_false, and_self, true_and, and_true, eq_self, reduceIte, implies_true]
theorem hMd_f (n0 : hN σ = 58) (k0 : kd σ 57 = 12) : (hN (hMd σ) = 85 ∧ hS (hMd σ) = hS σ + 22796 ∧ hX (hMd σ) = hX σ) ∧ Kq 0 57 σ (hMd σ) ∧ hR (hMd σ) 12 = hR σ 12 ∧ den (d + 2, 132, 0, [.ref 57, .float 0], [], σ) = den (d + 2, 132, 314, [.ref 57, .float 0], [], hMd σ) := by
  obtain ⟨n1, k1, s1, x1, q1, r1⟩ := hM0_f (σ := σ) n0 k0
  have g0 := M_iM0 (d := d) n0 k0
  obtain ⟨n2, k2, s2, x2, q2, r2⟩ := hM1_f (σ := hM0 (σ)) n1 k1
  have g1 := M_iM1 (d := d) n1 k1
  obtain ⟨n3, k3, s3, x3, q3, r3⟩ := hM2_f (σ := hM1 (hM0 (σ))) n2 k2
  have g2 := M_iM2 (d := d) n2 k2
  obtain ⟨n4, k4, s4, x4, q4, r4⟩ := hM3_f (σ := hM2 (hM1 (hM0 (σ)))) n3 k3
  have g3 := M_iM3 (d := d) n3 k3
  obtain ⟨n5, k5, s5, x5, q5, r5⟩ := hM4_f (σ := hM3 (hM2 (hM1 (hM0 (σ))))) n4 k4
  have g4 := M_iM4 (d := d) n4 k4
  obtain ⟨n6, k6, s6, x6, q6, r6⟩ := hM5_f (σ := hM4 (hM3 (hM2 (hM1 (hM0 (σ)))))) n5 k5
  have g5 := M_iM5 (d := d) n5 k5
  obtain ⟨n7, k7, s7, x7, q7, r7⟩ := hM6_f (σ := hM5 (hM4 (hM3 (hM2 (hM1 (hM0 (σ))))))) n6 k6
  have g6 := M_iM6 (d := d) n6 k6
  refine ⟨⟨n7, ?_, x7.trans (x6.trans (x5.trans (x4.trans (x3.trans (x2.trans (x1))))))⟩, Kq_t (Kq_t (Kq_t (Kq_t (Kq_t (Kq_t (q1) q2) q3) q4) q5) q6) q7, r7.trans (r6.trans (r5.trans (r4.trans (r3.trans (r2.trans (r1)))))), ((((((g0).trans g1).trans g2).trans g3).trans g4).trans g5).trans g6⟩
  show hS (hM6 (hM5 (hM4 (hM3 (hM2 (hM1 (hM0 (σ)))))))) = _
  rw [s7, s6, s5, s4, s3, s2, s1]
/-- its loop -/
theorem M_ilp {H : Hp} (fm : FxM H) (m59 : hI H 59 = upd (upd (upd (fun _ => 0) 3 (-1)) 0 (nI 4)) 1 (nI 10)) : Ev (den (d + 2, 132, 338, [.ref 57, .int (nI 0)], [], H)) (fun v τ => v = none ∧ ∃ f, τ = sI H 59 f ∧ ∀ y, f y = if 34 ≤ y ∧ y < 258 then nI ((y - 34) / 28) else (upd (upd (upd (fun _ => 0) 3 (-1)) 0 (nI 4)) 1 (nI 10)) y) := by
  refine Ev_e (o' := den (d + 2, 132, 338, [.ref 57, .int (nI 0)], [], sI H 59 (hI H 59))) (by rw [sI_self]) ?_
  refine lp (α := Nat → Int32) (h := fun i f => (d + 2, 132, 338, [.ref 57, .int (nI i)], [], sI H 59 f)) (I := fun i f => ∀ y, f y = if 34 ≤ y ∧ y < 34 + i then nI ((y - 34) / 28) else (upd (upd (upd (fun _ => 0) 3 (-1)) 0 (nI 4)) 1 (nI 10)) y) 224 ?_ ?_ 0 _ (Nat.zero_le _) (fun y => by rw [if_neg (by omega), m59])
  · intro i f hi hf nx
    have nn := nx (upd f (34 + i) (nI (i / 28))) (fun y => by
      show (if y = 34 + i then nI (i / 28) else f y) = _
      by_cases z : y = 34 + i
      · rw [if_pos z, if_pos (by omega), show y - 34 = i by omega]
      · rw [if_neg z, hf y]
        by_cases z2 : 34 ≤ y ∧ y < 34 + i
        · rw [if_pos z2, if_pos (show 34 ≤ y ∧ y < 34 + (i + 1) by omega)]
        · rw [if_neg z2, if_neg (show ¬ (34 ≤ y ∧ y < 34 + (i + 1)) by omega)])
    refine Ev_e ?_ nn
    show den (d + 2, 132, 338, [.ref 57, .int (nI i)], [], sI H 59 f) = _
    rw [a132_338]
    simp (disch := first | omega | (repeat (first | assumption | exact Ag_r | refine Ag_I ?_ rfl | refine Ag_F ?_ rfl | refine Ag_J ?_ rfl))) only [A132, FM fm, CO, HA, HB, HC, Nat.not_lt_zero, Nat.add_assoc, c_nlt, c_nle, c_neq, c_P, c_cl, c_m1, c_m1', nI_add, pk_mul, reduceIte, Nat.reduceEqDiff, Nat.reduceAdd, Nat.reduceMul, Nat.reduceLeDiff, eq_self, ↓pk_rem, pk_div, c_of, d_le, d_nle, d_lt, d_nlt, d_eq, d_ne]
  · intro f hf
    show Ev (den (d + 2, 132, 338, [.ref 57, .int (nI 224)], [], sI H 59 f)) _
    rw [a132_338]
    refine Ev_e (o' := some (none, sI H 59 f)) ?_ (Ev_s ⟨rfl, f, rfl, hf⟩)
    simp (disch := first | omega | (repeat (first | assumption | exact Ag_r | refine Ag_I ?_ rfl | refine Ag_F ?_ rfl | refine Ag_J ?_ rfl))) only [A132, CO, HA, HB, HC, Nat.not_lt_zero, Nat.add_assoc, c_nlt, c_nle, c_neq, c_P, c_cl, c_m1, c_m1', nI_add, pk_mul, reduceIte, Nat.reduceEqDiff, Nat.reduceAdd, Nat.reduceMul, Nat.reduceLeDiff, eq_self, ↓pk_rem, pk_div, c_of, d_le, d_nle, d_lt, d_nlt, d_eq, d_ne]
/-- the model's constructor -/
theorem M_fin0 {H : Hp} (mp : ModP H) (m59 : hI H 59 = fun _ => 0) (hf0 : ∀ j, (j = 1 ∨ j = 6 ∨ j = 8 ∨ j = 52) → hF H 57 j = hF σ 57 j) (n1 : hN H = 85) (s1 : hS H = hS σ + 22796) (x1 : hX H = hX σ) (kq : Kq 0 57 σ H) (r1 : hR H 12 = hR σ 12) : Ev (den (d + 2, 132, 314, [.ref 57, .float 0], [], H)) (fun v τ => v = none ∧ ModP τ ∧ (∀ y, hI τ 59 y = if 34 ≤ y ∧ y < 258 then nI ((y - 34) / 28) else (upd (upd (upd (fun _ => 0) 3 (-1)) 0 (nI 4)) 1 (nI 10)) y) ∧ (hN τ = 85 ∧ hS τ = hS σ + 22796 ∧ hX τ = hX σ) ∧ Kq 0 57 σ τ ∧ (∀ j, (j = 1 ∨ j = 6 ∨ j = 8 ∨ j = 52) → hF τ 57 j = hF σ 57 j) ∧ hR τ 12 = hR σ 12) := by
  obtain ⟨fm, m13, m58, m61, m68, m69⟩ := mp
  have fm' : FxM (sI H 59 (upd (upd (upd (fun _ => 0) 3 (-1)) 0 (nI 4)) 1 (nI 10))) := by rw [FxM_sI]; exact fm
  refine Ev_e (M_iM7 (d := d) (by simp only [FM fm, and_self]) m59) ?_
  obtain ⟨_, τ, e, rfl, f, rfl, hf⟩ := M_ilp (d := d) fm' (by rw [hI_sI, if_pos rfl])
  refine Ev_e e ?_
  rw [sI_sI]
  refine Ev_s ⟨rfl, ⟨by rw [FxM_sI]; exact fm, by rw [hF_sI]; exact m13, ?_, ?_, by rw [hJ_sI]; exact m68, by rw [hJ_sI]; exact m69⟩, fun y => by rw [hI_sI, if_pos rfl]; exact hf y, ⟨by rw [hN_sI]; exact n1, by rw [hS_sI]; exact s1, by rw [hX_sI]; exact x1⟩, Kq_I kq (by decide), ?_, by rw [hR_sI]; exact r1⟩
  · rw [hI_sI, if_neg (by decide)]; exact m58
  · rw [hI_sI, if_neg (by decide)]; exact m61
  · intro j hj
    rw [hF_sI]
    exact hf0 j hj
theorem M_init (n0 : hN σ = 58) (k0 : kd σ 57 = 12) : Ev (den (d + 2, 132, 0, [.ref 57, .float 0], [], σ)) (fun v τ => v = none ∧ ModP τ ∧ (∀ y, hI τ 59 y = if 34 ≤ y ∧ y < 258 then nI ((y - 34) / 28) else (upd (upd (upd (fun _ => 0) 3 (-1)) 0 (nI 4)) 1 (nI 10)) y) ∧ (hN τ = 85 ∧ hS τ = hS σ + 22796 ∧ hX τ = hX σ) ∧ Kq 0 57 σ τ ∧ (∀ j, (j = 1 ∨ j = 6 ∨ j = 8 ∨ j = 52) → hF τ 57 j = hF σ 57 j) ∧ hR τ 12 = hR σ 12) := by
  obtain ⟨mp, m59, f1, f6, f8, f52⟩ := hMd_m n0 k0
  obtain ⟨⟨n1, s1, x1⟩, kq, r1, go⟩ := hMd_f (d := d) n0 k0
  refine Ev_e go (M_fin0 mp m59 (fun j hj => ?_) n1 s1 x1 kq r1)
  rcases hj with rfl | rfl | rfl | rfl
  · exact f1
  · exact f6
  · exact f8
  · exact f52
end
