/-! the constructors -/
/-- the cells from a on, below n, are as they were (of row 12 the references aside) -/
def Kq (a n : Nat) (σ τ : Hp) : Prop := ∀ q, a ≤ q → q < n → (kd τ q = kd σ q ∧ hL τ q = hL σ q) ∧ (∀ j, hF τ q j = hF σ q j) ∧ (hI τ q = hI σ q ∧ hJ τ q = hJ σ q) ∧ (q ≠ 12 → hR τ q = hR σ q)
section
variable {a n : Nat} {σ τ υ : Hp}
theorem Kq_r : Kq a n σ σ := fun q _ _ => ⟨⟨rfl, rfl⟩, fun _ => rfl, ⟨rfl, rfl⟩, fun _ => rfl⟩
theorem Kq_t (h : Kq a n σ τ) (h' : Kq a n τ υ) : Kq a n σ υ := fun q h1 h2 => by
  obtain ⟨⟨a1, a2⟩, a3, ⟨a4, a5⟩, a6⟩ := h q h1 h2
  obtain ⟨⟨b1, b2⟩, b3, ⟨b4, b5⟩, b6⟩ := h' q h1 h2
  exact ⟨⟨b1.trans a1, b2.trans a2⟩, fun j => (b3 j).trans (a3 j), ⟨b4.trans a4, b5.trans a5⟩, fun z => (b6 z).trans (a6 z)⟩
theorem Kq_w {a' n' : Nat} (h : Kq a n σ τ) (l : a ≤ a') (l' : n' ≤ n) : Kq a' n' σ τ := fun q h1 h2 => h q (by omega) (by omega)
theorem Kq_F (h : Kq a n σ τ) {k j : Nat} {v : Value} (hk : k < a ∨ n ≤ k) : Kq a n σ (sF τ k j v) := fun q h1 h2 => by
  obtain ⟨a1, a3, a4, a6⟩ := h q h1 h2
  exact ⟨a1, fun j' => by rw [hF_sF, if_neg (fun z => by omega)]; exact a3 j', a4, a6⟩
theorem Kq_I (h : Kq a n σ τ) {k : Nat} {f : Nat → Int32} (hk : k < a ∨ n ≤ k) : Kq a n σ (sI τ k f) := fun q h1 h2 => by
  obtain ⟨a1, a3, a4, a6⟩ := h q h1 h2
  exact ⟨a1, a3, ⟨by rw [hI_sI, if_neg (fun z => by omega)]; exact a4.1, a4.2⟩, a6⟩
theorem Kq_J (h : Kq a n σ τ) {k : Nat} {f : Nat → Int64} (hk : k < a ∨ n ≤ k) : Kq a n σ (sJ τ k f) := fun q h1 h2 => by
  obtain ⟨a1, a3, a4, a6⟩ := h q h1 h2
  exact ⟨a1, a3, ⟨a4.1, by rw [hJ_sJ, if_neg (fun z => by omega)]; exact a4.2⟩, a6⟩
theorem Kq_R (h : Kq a n σ τ) {f : Nat → Option Nat} : Kq a n σ (sR τ 12 f) := fun q h1 h2 => by
  obtain ⟨a1, a3, a4, a6⟩ := h q h1 h2
  exact ⟨a1, a3, a4, fun z => by rw [hR_sR, if_neg z]; exact a6 z⟩
theorem Kq_O (h : Kq a n σ τ) {c m : Nat} {fs : Nat → Value} (l : n ≤ hN τ) : Kq a n σ (nO τ c m fs) := fun q h1 h2 => by
  obtain ⟨⟨a1, a2⟩, a3, a4, a6⟩ := h q h1 h2
  exact ⟨⟨by rw [kd_nO, if_neg (by omega)]; exact a1, a2⟩, fun j => by rw [hF_nO, if_neg (by omega)]; exact a3 j, a4, a6⟩
theorem Kq_A (h : Kq a n σ τ) {c m : Nat} (l : n ≤ hN τ) : Kq a n σ (nA τ c m) := fun q h1 h2 => by
  obtain ⟨⟨a1, a2⟩, a3, a4, a6⟩ := h q h1 h2
  exact ⟨⟨by rw [kd_nA, if_neg (by omega)]; exact a1, by rw [hL_nA, if_neg (by omega)]; exact a2⟩, a3, ⟨by rw [hI_nA, if_neg (by omega)]; exact a4.1, by rw [hJ_nA, if_neg (by omega)]; exact a4.2⟩, fun z => by rw [hR_nA, if_neg (by omega)]; exact a6 z⟩
end
def StP (τ : Hp) (k : Nat) : Prop := kd τ k = 9 ∧ hF τ k 0 = .int (nI 4) ∧ hF τ k 1 = .int (nI 10) ∧ hF τ k 2 = .int (nI 0) ∧ hF τ k 3 = .int (-1) ∧ hF τ k 4 = .ref (k + 1) ∧ hF τ k 5 = .ref (k + 2) ∧ hF τ k 6 = .ref (k + 3) ∧ hF τ k 7 = .ref (k + 4) ∧ hF τ k 8 = .ref (k + 7) ∧ kd τ (k + 1) = 100 ∧ hL τ (k + 1) = 224 ∧ kd τ (k + 2) = 100 ∧ hL τ (k + 2) = 28 ∧ kd τ (k + 3) = 103 ∧ hL τ (k + 3) = 6 ∧ kd τ (k + 4) = 6 ∧ hF τ (k + 4) 0 = .ref (k + 5) ∧ hF τ (k + 4) 1 = .ref (k + 6) ∧ hF τ (k + 4) 2 = .int (nI 0) ∧ hF τ (k + 4) 3 = .int (nI 0) ∧ kd τ (k + 5) = 100 ∧ hL τ (k + 5) = 32 ∧ kd τ (k + 6) = 100 ∧ hL τ (k + 6) = 32 ∧ kd τ (k + 7) = 2 ∧ hF τ (k + 7) 0 = .ref (k + 8) ∧ hF τ (k + 7) 1 = .ref (k + 9) ∧ hF τ (k + 7) 2 = .ref (k + 10) ∧ hF τ (k + 7) 3 = .int (nI 0) ∧ kd τ (k + 8) = 100 ∧ hL τ (k + 8) = 10 ∧ kd τ (k + 9) = 100 ∧ hL τ (k + 9) = 10 ∧ kd τ (k + 10) = 100 ∧ hL τ (k + 10) = 10 ∧ hI τ (k + 2) = (fun _ => 0) ∧ hR τ (k + 3) = (fun _ => none)
theorem StP_k {a n k : Nat} {σ τ : Hp} (h : Kq a n σ τ) (l : a ≤ k) (l' : k + 11 ≤ n) (h12 : k + 3 ≠ 12) (s : StP σ k) : StP τ k := by
  have c0 := h k (by omega) (by omega)
  have c1 := h (k + 1) (by omega) (by omega)
  have c2 := h (k + 2) (by omega) (by omega)
  have c3 := h (k + 3) (by omega) (by omega)
  have c4 := h (k + 4) (by omega) (by omega)
  have c5 := h (k + 5) (by omega) (by omega)
  have c6 := h (k + 6) (by omega) (by omega)
  have c7 := h (k + 7) (by omega) (by omega)
  have c8 := h (k + 8) (by omega) (by omega)
  have c9 := h (k + 9) (by omega) (by omega)
  have c10 := h (k + 10) (by omega) (by omega)
  unfold StP at s ⊢
  rw [c3.2.2.2 h12]
  simp only [c0.1.1, c0.1.2, c0.2.1, c1.1.1, c1.1.2, c1.2.1, c2.1.1, c2.1.2, c2.2.1, c3.1.1, c3.1.2, c3.2.1, c4.1.1, c4.1.2, c4.2.1, c5.1.1, c5.1.2, c5.2.1, c6.1.1, c6.1.2, c6.2.1, c7.1.1, c7.1.2, c7.2.1, c8.1.1, c8.1.2, c8.2.1, c9.1.1, c9.1.2, c9.2.1, c10.1.1, c10.1.2, c10.2.1]
  rw [c2.2.2.1.1]
  exact s
section
variable {d : Nat} {σ : Hp}
def hS1_0 (σ : Hp) : Hp := sF (sF (sF (sF (σ) 1 0 (.int (nI 4))) 1 1 (.int (nI 10))) 1 2 (.int (nI 0))) 1 3 (.int (-1))
theorem hS1_0f (n0 : hN σ = 2) (k9 : kd σ 1 = 9) : hN (hS1_0 σ) = 2 ∧ kd (hS1_0 σ) 1 = 9 ∧ hS (hS1_0 σ) = hS σ + 0 ∧ hX (hS1_0 σ) = hX σ ∧ Kq 0 1 σ (hS1_0 σ) ∧ hR (hS1_0 σ) 12 = hR σ 12 := by
  unfold hS1_0
  refine ⟨?_, ?_, ?_, ?_, Kq_F (Kq_F (Kq_F (Kq_F (Kq_r) (by decide)) (by decide)) (by decide)) (by decide), ?_⟩
  · simp only [n0, HA, HB, kd_nO, kd_nA, hL_nO, hL_nA, hF_nO, hF_nA, hI_nO, hI_nA, hJ_nO, hJ_nA, hR_nO, hR_nA, hN_nO, hN_nA, hS_nO, hS_nA, hX_nO, hX_nA, Nat.reduceAdd, Nat.reduceEqDiff, Nat.add_assoc, false_and, and_false, and_self, true_and, and_true, eq_self, reduceIte, implies_true]
  · simp only [n0, k9, HA, HB, kd_nO, kd_nA, hL_nO, hL_nA, hF_nO, hF_nA, hI_nO, hI_nA, hJ_nO, hJ_nA, hR_nO, hR_nA, hN_nO, hN_nA, hS_nO, hS_nA, hX_nO, hX_nA, Nat.reduceAdd, Nat.reduceEqDiff, Nat.add_assoc, false_and, and_false, and_self, true_and, and_true, eq_self, reduceIte, implies_true]
  · simp only [HA, HB, kd_nO, kd_nA, hL_nO, hL_nA, hF_nO, hF_nA, hI_nO, hI_nA, hJ_nO, hJ_nA, hR_nO, hR_nA, hN_nO, hN_nA, hS_nO, hS_nA, hX_nO, hX_nA, Nat.reduceAdd, Nat.reduceEqDiff, Nat.add_assoc, false_and, and_false, and_self, true_and, and_true, eq_self, reduceIte, implies_true, Nat.add_zero]
  · simp only [HA, HB, kd_nO, kd_nA, hL_nO, hL_nA, hF_nO, hF_nA, hI_nO, hI_nA, hJ_nO, hJ_nA, hR_nO, hR_nA, hN_nO, hN_nA, hS_nO, hS_nA, hX_nO, hX_nA, Nat.reduceAdd, Nat.reduceEqDiff, Nat.add_assoc, false_and, and_false, and_self, true_and, and_true, eq_self, reduceIte, implies_true]
  · simp only [n0, HA, HB, kd_nO, kd_nA, hL_nO, hL_nA, hF_nO, hF_nA, hI_nO, hI_nA, hJ_nO, hJ_nA, hR_nO, hR_nA, hN_nO, hN_nA, hS_nO, hS_nA, hX_nO, hX_nA, Nat.reduceAdd, Nat.reduceEqDiff, Nat.add_assoc, false_and, and_false, and_self, true_and, and_true, eq_self, reduceIte, implies_true]
theorem C_iS1_0 (n0 : hN σ = 2) (k9 : kd σ 1 = 9) : den (d + 3, 70, 0, [.ref 1, .float 0], [], σ) = den (d + 3, 70, 25, [.ref 1, .float 0], [], hS1_0 σ) := by
  unfold hS1_0
  simp (disch := first | omega | (repeat (first | assumption | exact Ag_r | refine Ag_I ?_ rfl | refine Ag_F ?_ rfl | refine Ag_J ?_ rfl))) only [a70_0, a70_1, a70_4, a70_5, a70_6, a70_9, a70_10, a70_12, a70_15, a70_16, a70_17, a70_20, a70_21, a70_22, kd_nO, kd_nA, hN_nO, hN_nA, n0, k9, c_n0, CO, HA, HB, HC, Nat.not_lt_zero, Nat.add_assoc, c_nlt, c_nle, c_neq, c_P, c_cl, c_m1, c_m1', nI_add, pk_mul, reduceIte, Nat.reduceEqDiff, Nat.reduceAdd, Nat.reduceMul, Nat.reduceLeDiff, eq_self, ↓pk_rem, pk_div, c_of, d_le, d_nle, d_lt, d_nlt, d_eq, d_ne]
def hS1_1 (σ : Hp) : Hp := sF (nA (sF (nA (sF (nA (σ) 100 224) 1 4 (.ref 2)) 100 28) 1 5 (.ref 3)) 103 6) 1 6 (.ref 4)
theorem hS1_1f (n0 : hN σ = 2) (k9 : kd σ 1 = 9) : hN (hS1_1 σ) = 5 ∧ kd (hS1_1 σ) 1 = 9 ∧ hS (hS1_1 σ) = hS σ + 258 ∧ hX (hS1_1 σ) = hX σ ∧ Kq 0 1 σ (hS1_1 σ) ∧ hR (hS1_1 σ) 12 = hR σ 12 := by
  unfold hS1_1
  refine ⟨?_, ?_, ?_, ?_, Kq_F (Kq_A (Kq_F (Kq_A (Kq_F (Kq_A (Kq_r) (by simp only [HB, hN_nO, hN_nA, n0] <;> omega)) (by decide)) (by simp only [HB, hN_nO, hN_nA, n0] <;> omega)) (by decide)) (by simp only [HB, hN_nO, hN_nA, n0] <;> omega)) (by decide), ?_⟩
  · simp only [n0, HA, HB, kd_nO, kd_nA, hL_nO, hL_nA, hF_nO, hF_nA, hI_nO, hI_nA, hJ_nO, hJ_nA, hR_nO, hR_nA, hN_nO, hN_nA, hS_nO, hS_nA, hX_nO, hX_nA, Nat.reduceAdd, Nat.reduceEqDiff, Nat.add_assoc, false_and, and_false, and_self, true_and, and_true, eq_self, reduceIte, implies_true]
  · simp only [n0, k9, HA, HB, kd_nO, kd_nA, hL_nO, hL_nA, hF_nO, hF_nA, hI_nO, hI_nA, hJ_nO, hJ_nA, hR_nO, hR_nA, hN_nO, hN_nA, hS_nO, hS_nA, hX_nO, hX_nA, Nat.reduceAdd, Nat.reduceEqDiff, Nat.add_assoc, false_and, and_false, and_self, true_and, and_true, eq_self, reduceIte, implies_true]
  · simp only [HA, HB, kd_nO, kd_nA, hL_nO, hL_nA, hF_nO, hF_nA, hI_nO, hI_nA, hJ_nO, hJ_nA, hR_nO, hR_nA, hN_nO, hN_nA, hS_nO, hS_nA, hX_nO, hX_nA, Nat.reduceAdd, Nat.reduceEqDiff, Nat.add_assoc, false_and, and_false, and_self, true_and, and_true, eq_self, reduceIte, implies_true, Nat.add_zero]
  · simp only [HA, HB, kd_nO, kd_nA, hL_nO, hL_nA, hF_nO, hF_nA, hI_nO, hI_nA, hJ_nO, hJ_nA, hR_nO, hR_nA, hN_nO, hN_nA, hS_nO, hS_nA, hX_nO, hX_nA, Nat.reduceAdd, Nat.reduceEqDiff, Nat.add_assoc, false_and, and_false, and_self, true_and, and_true, eq_self, reduceIte, implies_true]
  · simp only [n0, HA, HB, kd_nO, kd_nA, hL_nO, hL_nA, hF_nO, hF_nA, hI_nO, hI_nA, hJ_nO, hJ_nA, hR_nO, hR_nA, hN_nO, hN_nA, hS_nO, hS_nA, hX_nO, hX_nA, Nat.reduceAdd, Nat.reduceEqDiff, Nat.add_assoc, false_and, and_false, and_self, true_and, and_true, eq_self, reduceIte, implies_true]
theorem C_iS1_1 (n0 : hN σ = 2) (k9 : kd σ 1 = 9) : den (d + 3, 70, 25, [.ref 1, .float 0], [], σ) = den (d + 3, 70, 51, [.ref 1, .float 0], [], hS1_1 σ) := by
  unfold hS1_1
  simp (disch := first | omega | (repeat (first | assumption | exact Ag_r | refine Ag_I ?_ rfl | refine Ag_F ?_ rfl | refine Ag_J ?_ rfl))) only [a70_25, a70_26, a70_29, a70_31, a70_34, a70_35, a70_37, a70_39, a70_42, a70_43, a70_45, a70_48, kd_nO, kd_nA, hN_nO, hN_nA, n0, k9, c_n0, CO, HA, HB, HC, Nat.not_lt_zero, Nat.add_assoc, c_nlt, c_nle, c_neq, c_P, c_cl, c_m1, c_m1', nI_add, pk_mul, reduceIte, Nat.reduceEqDiff, Nat.reduceAdd, Nat.reduceMul, Nat.reduceLeDiff, eq_self, ↓pk_rem, pk_div, c_of, d_le, d_nle, d_lt, d_nlt, d_eq, d_ne]
def hS1_2 (σ : Hp) : Hp := sF (sF (sF (sF (nA (sF (nA (nO (σ) 6 4 (mxB 6)) 100 32) 5 0 (.ref 6)) 100 32) 5 1 (.ref 7)) 5 2 (.int (nI 0))) 5 3 (.int (nI 0))) 1 7 (.ref 5)
theorem hS1_2f (n0 : hN σ = 5) (k9 : kd σ 1 = 9) : hN (hS1_2 σ) = 8 ∧ kd (hS1_2 σ) 1 = 9 ∧ hS (hS1_2 σ) = hS σ + 68 ∧ hX (hS1_2 σ) = hX σ ∧ Kq 0 1 σ (hS1_2 σ) ∧ hR (hS1_2 σ) 12 = hR σ 12 := by
  unfold hS1_2
  refine ⟨?_, ?_, ?_, ?_, Kq_F (Kq_F (Kq_F (Kq_F (Kq_A (Kq_F (Kq_A (Kq_O (Kq_r) (by simp only [HB, hN_nO, hN_nA, n0] <;> omega)) (by simp only [HB, hN_nO, hN_nA, n0] <;> omega)) (by decide)) (by simp only [HB, hN_nO, hN_nA, n0] <;> omega)) (by decide)) (by decide)) (by decide)) (by decide), ?_⟩
  · simp only [n0, HA, HB, kd_nO, kd_nA, hL_nO, hL_nA, hF_nO, hF_nA, hI_nO, hI_nA, hJ_nO, hJ_nA, hR_nO, hR_nA, hN_nO, hN_nA, hS_nO, hS_nA, hX_nO, hX_nA, Nat.reduceAdd, Nat.reduceEqDiff, Nat.add_assoc, false_and, and_false, and_self, true_and, and_true, eq_self, reduceIte, implies_true]
  · simp only [n0, k9, HA, HB, kd_nO, kd_nA, hL_nO, hL_nA, hF_nO, hF_nA, hI_nO, hI_nA, hJ_nO, hJ_nA, hR_nO, hR_nA, hN_nO, hN_nA, hS_nO, hS_nA, hX_nO, hX_nA, Nat.reduceAdd, Nat.reduceEqDiff, Nat.add_assoc, false_and, and_false, and_self, true_and, and_true, eq_self, reduceIte, implies_true]
  · simp only [HA, HB, kd_nO, kd_nA, hL_nO, hL_nA, hF_nO, hF_nA, hI_nO, hI_nA, hJ_nO, hJ_nA, hR_nO, hR_nA, hN_nO, hN_nA, hS_nO, hS_nA, hX_nO, hX_nA, Nat.reduceAdd, Nat.reduceEqDiff, Nat.add_assoc, false_and, and_false, and_self, true_and, and_true, eq_self, reduceIte, implies_true, Nat.add_zero]
  · simp only [HA, HB, kd_nO, kd_nA, hL_nO, hL_nA, hF_nO, hF_nA, hI_nO, hI_nA, hJ_nO, hJ_nA, hR_nO, hR_nA, hN_nO, hN_nA, hS_nO, hS_nA, hX_nO, hX_nA, Nat.reduceAdd, Nat.reduceEqDiff, Nat.add_assoc, false_and, and_false, and_self, true_and, and_true, eq_self, reduceIte, implies_true]
  · simp only [n0, HA, HB, kd_nO, kd_nA, hL_nO, hL_nA, hF_nO, hF_nA, hI_nO, hI_nA, hJ_nO, hJ_nA, hR_nO, hR_nA, hN_nO, hN_nA, hS_nO, hS_nA, hX_nO, hX_nA, Nat.reduceAdd, Nat.reduceEqDiff, Nat.add_assoc, false_and, and_false, and_self, true_and, and_true, eq_self, reduceIte, implies_true]
theorem C_iS1_2 (n0 : hN σ = 5) (k9 : kd σ 1 = 9) : den (d + 3, 70, 51, [.ref 1, .float 0], [], σ) = den (d + 3, 70, 62, [.ref 1, .float 0], [], hS1_2 σ) := by
  unfold hS1_2
  simp (disch := first | omega | (repeat (first | assumption | exact Ag_r | refine Ag_I ?_ rfl | refine Ag_F ?_ rfl | refine Ag_J ?_ rfl))) only [a70_51, a70_52, a70_55, a70_56, a70_59, A40, kd_nO, kd_nA, hN_nO, hN_nA, n0, k9, c_n0, CO, HA, HB, HC, Nat.not_lt_zero, Nat.add_assoc, c_nlt, c_nle, c_neq, c_P, c_cl, c_m1, c_m1', nI_add, pk_mul, reduceIte, Nat.reduceEqDiff, Nat.reduceAdd, Nat.reduceMul, Nat.reduceLeDiff, eq_self, ↓pk_rem, pk_div, c_of, d_le, d_nle, d_lt, d_nlt, d_eq, d_ne]
def hS1_3 (σ : Hp) : Hp := sF (sF (sF (nA (sF (nA (sF (nA (nO (σ) 2 4 (mxB 2)) 100 10) 8 0 (.ref 9)) 100 10) 8 1 (.ref 10)) 100 10) 8 2 (.ref 11)) 8 3 (.int (nI 0))) 1 8 (.ref 8)
theorem hS1_3f (n0 : hN σ = 8) (k9 : kd σ 1 = 9) : hN (hS1_3 σ) = 12 ∧ kd (hS1_3 σ) 1 = 9 ∧ hS (hS1_3 σ) = hS σ + 34 ∧ hX (hS1_3 σ) = hX σ ∧ Kq 0 1 σ (hS1_3 σ) ∧ hR (hS1_3 σ) 12 = hR σ 12 := by
  unfold hS1_3
  refine ⟨?_, ?_, ?_, ?_, Kq_F (Kq_F (Kq_F (Kq_A (Kq_F (Kq_A (Kq_F (Kq_A (Kq_O (Kq_r) (by simp only [HB, hN_nO, hN_nA, n0] <;> omega)) (by simp only [HB, hN_nO, hN_nA, n0] <;> omega)) (by decide)) (by simp only [HB, hN_nO, hN_nA, n0] <;> omega)) (by decide)) (by simp only [HB, hN_nO, hN_nA, n0] <;> omega)) (by decide)) (by decide)) (by decide), ?_⟩
  · simp only [n0, HA, HB, kd_nO, kd_nA, hL_nO, hL_nA, hF_nO, hF_nA, hI_nO, hI_nA, hJ_nO, hJ_nA, hR_nO, hR_nA, hN_nO, hN_nA, hS_nO, hS_nA, hX_nO, hX_nA, Nat.reduceAdd, Nat.reduceEqDiff, Nat.add_assoc, false_and, and_false, and_self, true_and, and_true, eq_self, reduceIte, implies_true]
  · simp only [n0, k9, HA, HB, kd_nO, kd_nA, hL_nO, hL_nA, hF_nO, hF_nA, hI_nO, hI_nA, hJ_nO, hJ_nA, hR_nO, hR_nA, hN_nO, hN_nA, hS_nO, hS_nA, hX_nO, hX_nA, Nat.reduceAdd, Nat.reduceEqDiff, Nat.add_assoc, false_and, and_false, and_self, true_and, and_true, eq_self, reduceIte, implies_true]
  · simp only [HA, HB, kd_nO, kd_nA, hL_nO, hL_nA, hF_nO, hF_nA, hI_nO, hI_nA, hJ_nO, hJ_nA, hR_nO, hR_nA, hN_nO, hN_nA, hS_nO, hS_nA, hX_nO, hX_nA, Nat.reduceAdd, Nat.reduceEqDiff, Nat.add_assoc, false_and, and_false, and_self, true_and, and_true, eq_self, reduceIte, implies_true, Nat.add_zero]
  · simp only [HA, HB, kd_nO, kd_nA, hL_nO, hL_nA, hF_nO, hF_nA, hI_nO, hI_nA, hJ_nO, hJ_nA, hR_nO, hR_nA, hN_nO, hN_nA, hS_nO, hS_nA, hX_nO, hX_nA, Nat.reduceAdd, Nat.reduceEqDiff, Nat.add_assoc, false_and, and_false, and_self, true_and, and_true, eq_self, reduceIte, implies_true]
  · simp only [n0, HA, HB, kd_nO, kd_nA, hL_nO, hL_nA, hF_nO, hF_nA, hI_nO, hI_nA, hJ_nO, hJ_nA, hR_nO, hR_nA, hN_nO, hN_nA, hS_nO, hS_nA, hX_nO, hX_nA, Nat.reduceAdd, Nat.reduceEqDiff, Nat.add_assoc, false_and, and_false, and_self, true_and, and_true, eq_self, reduceIte, implies_true]
theorem C_iS1_3 (n0 : hN σ = 8) (k9 : kd σ 1 = 9) : den (d + 3, 70, 62, [.ref 1, .float 0], [], σ) = den (d + 3, 70, 75, [.ref 1, .int (nI 0)], [], hS1_3 σ) := by
  unfold hS1_3
  simp (disch := first | omega | (repeat (first | assumption | exact Ag_r | refine Ag_I ?_ rfl | refine Ag_F ?_ rfl | refine Ag_J ?_ rfl))) only [a70_62, a70_63, a70_66, a70_67, a70_70, a70_73, a70_74, A11, kd_nO, kd_nA, hN_nO, hN_nA, n0, k9, c_n0, CO, HA, HB, HC, Nat.not_lt_zero, Nat.add_assoc, c_nlt, c_nle, c_neq, c_P, c_cl, c_m1, c_m1', nI_add, pk_mul, reduceIte, Nat.reduceEqDiff, Nat.reduceAdd, Nat.reduceMul, Nat.reduceLeDiff, eq_self, ↓pk_rem, pk_div, c_of, d_le, d_nle, d_lt, d_nlt, d_eq, d_ne]
def hSt1 (σ : Hp) : Hp := hS1_3 (hS1_2 (hS1_1 (hS1_0 σ)))
theorem hSt1_p (n0 : hN σ = 2) (k9 : kd σ 1 = 9) : StP (hSt1 σ) 1 := by
  unfold StP hSt1 hS1_3 hS1_2 hS1_1 hS1_0
  simp only [n0, k9, HA, HB, kd_nO, kd_nA, hL_nO, hL_nA, hF_nO, hF_nA, hI_nO, hI_nA, hJ_nO, hJ_nA, hR_nO, hR_nA, hN_nO, hN_nA, hS_nO, hS_nA, hX_nO, hX_nA, Nat.reduceAdd, Nat.reduceEqDiff, Nat.add_assoc, false_and, and_false, and_self, true_and, and_true, eq_self, reduceIte, implies_true]
theorem hSt1_f (n0 : hN σ = 2) (k9 : kd σ 1 = 9) : (hN (hSt1 σ) = 12 ∧ hS (hSt1 σ) = hS σ + 360 ∧ hX (hSt1 σ) = hX σ ∧ hR (hSt1 σ) 12 = hR σ 12) ∧ Kq 0 1 σ (hSt1 σ) ∧ den (d + 3, 70, 0, [.ref 1, .float 0], [], σ) = den (d + 3, 70, 75, [.ref 1, .int (nI 0)], [], hSt1 σ) := by
  have k0 := k9
  obtain ⟨n1, k1, s1, x1, q1, r1⟩ := hS1_0f (σ := σ) n0 k0
  have g0 := C_iS1_0 (d := d) n0 k0
  obtain ⟨n2, k2, s2, x2, q2, r2⟩ := hS1_1f (σ := hS1_0 (σ)) n1 k1
  have g1 := C_iS1_1 (d := d) n1 k1
  obtain ⟨n3, k3, s3, x3, q3, r3⟩ := hS1_2f (σ := hS1_1 (hS1_0 (σ))) n2 k2
  have g2 := C_iS1_2 (d := d) n2 k2
  obtain ⟨n4, k4, s4, x4, q4, r4⟩ := hS1_3f (σ := hS1_2 (hS1_1 (hS1_0 (σ)))) n3 k3
  have g3 := C_iS1_3 (d := d) n3 k3
  refine ⟨⟨n4, ?_, x4.trans (x3.trans (x2.trans x1)), r4.trans (r3.trans (r2.trans r1))⟩, Kq_t (Kq_t (Kq_t q1 q2) q3) q4, ((g0.trans g1).trans g2).trans g3⟩
  show hS (hS1_3 (hS1_2 (hS1_1 (hS1_0 (σ))))) = _
  rw [s4, s3, s2, s1]
theorem C_sl1 {H : Hp} (q9 : kd H 1 = 9) (q4 : hF H 1 4 = .ref 2) (q1 : kd H 2 = 100 ∧ hL H 2 = 224) : Ev (den (d + 3, 70, 75, [.ref 1, .int (nI 0)], [], H)) (fun v τ => v = none ∧ ∃ f, τ = sI H 2 f ∧ ∀ c, c < 224 → f c = nI (c / 28)) := by
  refine Ev_e (o' := den (d + 3, 70, 75, [.ref 1, .int (nI 0)], [], sI H 2 (hI H 2))) (by rw [sI_self]) ?_
  refine lp (α := Nat → Int32) (h := fun i f => (d + 3, 70, 75, [.ref 1, .int (nI i)], [], sI H 2 f)) (I := fun i f => ∀ c, c < i → f c = nI (c / 28)) 224 ?_ ?_ 0 _ (Nat.zero_le _) (fun c hc => absurd hc (Nat.not_lt_zero c))
  · intro i f hi hf nx
    have nn := nx (upd f i (nI (i / 28))) (fun c hc => by
      show (if c = i then nI (i / 28) else f c) = _
      by_cases z : c = i
      · rw [if_pos z, z]
      · rw [if_neg z]; exact hf c (by omega))
    refine Ev_e ?_ nn
    show den (d + 3, 70, 75, [.ref 1, .int (nI i)], [], sI H 2 f) = _
    rw [a70_75]
    simp (disch := first | omega | (repeat (first | assumption | exact Ag_r | refine Ag_I ?_ rfl | refine Ag_F ?_ rfl | refine Ag_J ?_ rfl))) only [A70, q9, q4, q1, CO, HA, HB, HC, Nat.not_lt_zero, Nat.add_assoc, c_nlt, c_nle, c_neq, c_P, c_cl, c_m1, c_m1', nI_add, pk_mul, reduceIte, Nat.reduceEqDiff, Nat.reduceAdd, Nat.reduceMul, Nat.reduceLeDiff, eq_self, ↓pk_rem, pk_div, c_of, d_le, d_nle, d_lt, d_nlt, d_eq, d_ne]
  · intro f hf
    show Ev (den (d + 3, 70, 75, [.ref 1, .int (nI 224)], [], sI H 2 f)) _
    rw [a70_75]
    refine Ev_e (o' := some (none, sI H 2 f)) ?_ (Ev_s ⟨rfl, f, rfl, hf⟩)
    simp (disch := first | omega | (repeat (first | assumption | exact Ag_r | refine Ag_I ?_ rfl | refine Ag_F ?_ rfl | refine Ag_J ?_ rfl))) only [A70, CO, HA, HB, HC, Nat.not_lt_zero, Nat.add_assoc, c_nlt, c_nle, c_neq, c_P, c_cl, c_m1, c_m1', nI_add, pk_mul, reduceIte, Nat.reduceEqDiff, Nat.reduceAdd, Nat.reduceMul, Nat.reduceLeDiff, eq_self, ↓pk_rem, pk_div, c_of, d_le, d_nle, d_lt, d_nlt, d_eq, d_ne]
theorem StP_I1 {H : Hp} {f : Nat → Int32} (sp : StP H 1) : StP (sI H 2 f) 1 := by
  unfold StP at sp ⊢
  simp only [HA, HB, Nat.reduceAdd, Nat.reduceEqDiff, reduceIte] at sp ⊢
  exact sp
theorem StP_q1 {H : Hp} (sp : StP H 1) : kd H 1 = 9 ∧ hF H 1 4 = .ref 2 ∧ kd H 2 = 100 ∧ hL H 2 = 224 := by
  have t := sp.2.2.2.2.2.2.2.2.2.2
  exact ⟨sp.1, sp.2.2.2.2.2.1, t.1, t.2.1⟩
theorem C_iSt1 (n0 : hN σ = 2) (k9 : kd σ 1 = 9) : ∃ τ, den (d + 3, 70, 0, [.ref 1, .float 0], [], σ) = some (none, τ) ∧ StP τ 1 ∧ (∀ c, c < 224 → hI τ 2 c = nI (c / 28)) ∧ (hN τ = 12 ∧ hS τ = hS σ + 360 ∧ hX τ = hX σ ∧ hR τ 12 = hR σ 12) ∧ Kq 0 1 σ τ := by
  have sp := hSt1_p n0 k9
  obtain ⟨⟨n1, s1, x1, r1⟩, kq, go⟩ := hSt1_f (d := d) n0 k9
  obtain ⟨b1, b2, b3⟩ := StP_q1 sp
  obtain ⟨_, τ, e, rfl, f, rfl, hf⟩ := C_sl1 (d := d) b1 b2 b3
  refine ⟨_, go.trans e, StP_I1 sp, fun c hc => ?_, ⟨?_, ?_, ?_, ?_⟩, Kq_I kq (by decide)⟩
  · rw [hI_sI, if_pos rfl]; exact hf c hc
  · rw [hN_sI]; exact n1
  · rw [hS_sI]; exact s1
  · rw [hX_sI]; exact x1
  · rw [hR_sI]; exact r1
def hS35_0 (σ : Hp) : Hp := sF (sF (sF (sF (σ) 35 0 (.int (nI 4))) 35 1 (.int (nI 10))) 35 2 (.int (nI 0))) 35 3 (.int (-1))
theorem hS35_0f (n0 : hN σ = 36) (k9 : kd σ 35 = 9) : hN (hS35_0 σ) = 36 ∧ kd (hS35_0 σ) 35 = 9 ∧ hS (hS35_0 σ) = hS σ + 0 ∧ hX (hS35_0 σ) = hX σ ∧ Kq 0 35 σ (hS35_0 σ) ∧ hR (hS35_0 σ) 12 = hR σ 12 := by
  unfold hS35_0
  refine ⟨?_, ?_, ?_, ?_, Kq_F (Kq_F (Kq_F (Kq_F (Kq_r) (by decide)) (by decide)) (by decide)) (by decide), ?_⟩
  · simp only [n0, HA, HB, kd_nO, kd_nA, hL_nO, hL_nA, hF_nO, hF_nA, hI_nO, hI_nA, hJ_nO, hJ_nA, hR_nO, hR_nA, hN_nO, hN_nA, hS_nO, hS_nA, hX_nO, hX_nA, Nat.reduceAdd, Nat.reduceEqDiff, Nat.add_assoc, false_and, and_false, and_self, true_and, and_true, eq_self, reduceIte, implies_true]
  · simp only [n0, k9, HA, HB, kd_nO, kd_nA, hL_nO, hL_nA, hF_nO, hF_nA, hI_nO, hI_nA, hJ_nO, hJ_nA, hR_nO, hR_nA, hN_nO, hN_nA, hS_nO, hS_nA, hX_nO, hX_nA, Nat.reduceAdd, Nat.reduceEqDiff, Nat.add_assoc, false_and, and_false, and_self, true_and, and_true, eq_self, reduceIte, implies_true]
  · simp only [HA, HB, kd_nO, kd_nA, hL_nO, hL_nA, hF_nO, hF_nA, hI_nO, hI_nA, hJ_nO, hJ_nA, hR_nO, hR_nA, hN_nO, hN_nA, hS_nO, hS_nA, hX_nO, hX_nA, Nat.reduceAdd, Nat.reduceEqDiff, Nat.add_assoc, false_and, and_false, and_self, true_and, and_true, eq_self, reduceIte, implies_true, Nat.add_zero]
  · simp only [HA, HB, kd_nO, kd_nA, hL_nO, hL_nA, hF_nO, hF_nA, hI_nO, hI_nA, hJ_nO, hJ_nA, hR_nO, hR_nA, hN_nO, hN_nA, hS_nO, hS_nA, hX_nO, hX_nA, Nat.reduceAdd, Nat.reduceEqDiff, Nat.add_assoc, false_and, and_false, and_self, true_and, and_true, eq_self, reduceIte, implies_true]
  · simp only [n0, HA, HB, kd_nO, kd_nA, hL_nO, hL_nA, hF_nO, hF_nA, hI_nO, hI_nA, hJ_nO, hJ_nA, hR_nO, hR_nA, hN_nO, hN_nA, hS_nO, hS_nA, hX_nO, hX_nA, Nat.reduceAdd, Nat.reduceEqDiff, Nat.add_assoc, false_and, and_false, and_self, true_and, and_true, eq_self, reduceIte, implies_true]
theorem C_iS35_0 (n0 : hN σ = 36) (k9 : kd σ 35 = 9) : den (d + 3, 70, 0, [.ref 35, .float 0], [], σ) = den (d + 3, 70, 25, [.ref 35, .float 0], [], hS35_0 σ) := by
  unfold hS35_0
  simp (disch := first | omega | (repeat (first | assumption | exact Ag_r | refine Ag_I ?_ rfl | refine Ag_F ?_ rfl | refine Ag_J ?_ rfl))) only [a70_0, a70_1, a70_4, a70_5, a70_6, a70_9, a70_10, a70_12, a70_15, a70_16, a70_17, a70_20, a70_21, a70_22, kd_nO, kd_nA, hN_nO, hN_nA, n0, k9, c_n0, CO, HA, HB, HC, Nat.not_lt_zero, Nat.add_assoc, c_nlt, c_nle, c_neq, c_P, c_cl, c_m1, c_m1', nI_add, pk_mul, reduceIte, Nat.reduceEqDiff, Nat.reduceAdd, Nat.reduceMul, Nat.reduceLeDiff, eq_self, ↓pk_rem, pk_div, c_of, d_le, d_nle, d_lt, d_nlt, d_eq, d_ne]
def hS35_1 (σ : Hp) : Hp := sF (nA (sF (nA (sF (nA (σ) 100 224) 35 4 (.ref 36)) 100 28) 35 5 (.ref 37)) 103 6) 35 6 (.ref 38)
theorem hS35_1f (n0 : hN σ = 36) (k9 : kd σ 35 = 9) : hN (hS35_1 σ) = 39 ∧ kd (hS35_1 σ) 35 = 9 ∧ hS (hS35_1 σ) = hS σ + 258 ∧ hX (hS35_1 σ) = hX σ ∧ Kq 0 35 σ (hS35_1 σ) ∧ hR (hS35_1 σ) 12 = hR σ 12 := by
  unfold hS35_1
  refine ⟨?_, ?_, ?_, ?_, Kq_F (Kq_A (Kq_F (Kq_A (Kq_F (Kq_A (Kq_r) (by simp only [HB, hN_nO, hN_nA, n0] <;> omega)) (by decide)) (by simp only [HB, hN_nO, hN_nA, n0] <;> omega)) (by decide)) (by simp only [HB, hN_nO, hN_nA, n0] <;> omega)) (by decide), ?_⟩
  · simp only [n0, HA, HB, kd_nO, kd_nA, hL_nO, hL_nA, hF_nO, hF_nA, hI_nO, hI_nA, hJ_nO, hJ_nA, hR_nO, hR_nA, hN_nO, hN_nA, hS_nO, hS_nA, hX_nO, hX_nA, Nat.reduceAdd, Nat.reduceEqDiff, Nat.add_assoc, false_and, and_false, and_self, true_and, and_true, eq_self, reduceIte, implies_true]
  · simp only [n0, k9, HA, HB, kd_nO, kd_nA, hL_nO, hL_nA, hF_nO, hF_nA, hI_nO, hI_nA, hJ_nO, hJ_nA, hR_nO, hR_nA, hN_nO, hN_nA, hS_nO, hS_nA, hX_nO, hX_nA, Nat.reduceAdd, Nat.reduceEqDiff, Nat.add_assoc, false_and, and_false, and_self, true_and, and_true, eq_self, reduceIte, implies_true]
  · simp only [HA, HB, kd_nO, kd_nA, hL_nO, hL_nA, hF_nO, hF_nA, hI_nO, hI_nA, hJ_nO, hJ_nA, hR_nO, hR_nA, hN_nO, hN_nA, hS_nO, hS_nA, hX_nO, hX_nA, Nat.reduceAdd, Nat.reduceEqDiff, Nat.add_assoc, false_and, and_false, and_self, true_and, and_true, eq_self, reduceIte, implies_true, Nat.add_zero]
  · simp only [HA, HB, kd_nO, kd_nA, hL_nO, hL_nA, hF_nO, hF_nA, hI_nO, hI_nA, hJ_nO, hJ_nA, hR_nO, hR_nA, hN_nO, hN_nA, hS_nO, hS_nA, hX_nO, hX_nA, Nat.reduceAdd, Nat.reduceEqDiff, Nat.add_assoc, false_and, and_false, and_self, true_and, and_true, eq_self, reduceIte, implies_true]
  · simp only [n0, HA, HB, kd_nO, kd_nA, hL_nO, hL_nA, hF_nO, hF_nA, hI_nO, hI_nA, hJ_nO, hJ_nA, hR_nO, hR_nA, hN_nO, hN_nA, hS_nO, hS_nA, hX_nO, hX_nA, Nat.reduceAdd, Nat.reduceEqDiff, Nat.add_assoc, false_and, and_false, and_self, true_and, and_true, eq_self, reduceIte, implies_true]
theorem C_iS35_1 (n0 : hN σ = 36) (k9 : kd σ 35 = 9) : den (d + 3, 70, 25, [.ref 35, .float 0], [], σ) = den (d + 3, 70, 51, [.ref 35, .float 0], [], hS35_1 σ) := by
  unfold hS35_1
  simp (disch := first | omega | (repeat (first | assumption | exact Ag_r | refine Ag_I ?_ rfl | refine Ag_F ?_ rfl | refine Ag_J ?_ rfl))) only [a70_25, a70_26, a70_29, a70_31, a70_34, a70_35, a70_37, a70_39, a70_42, a70_43, a70_45, a70_48, kd_nO, kd_nA, hN_nO, hN_nA, n0, k9, c_n0, CO, HA, HB, HC, Nat.not_lt_zero, Nat.add_assoc, c_nlt, c_nle, c_neq, c_P, c_cl, c_m1, c_m1', nI_add, pk_mul, reduceIte, Nat.reduceEqDiff, Nat.reduceAdd, Nat.reduceMul, Nat.reduceLeDiff, eq_self, ↓pk_rem, pk_div, c_of, d_le, d_nle, d_lt, d_nlt, d_eq, d_ne]
def hS35_2 (σ : Hp) : Hp := sF (sF (sF (sF (nA (sF (nA (nO (σ) 6 4 (mxB 6)) 100 32) 39 0 (.ref 40)) 100 32) 39 1 (.ref 41)) 39 2 (.int (nI 0))) 39 3 (.int (nI 0))) 35 7 (.ref 39)
theorem hS35_2f (n0 : hN σ = 39) (k9 : kd σ 35 = 9) : hN (hS35_2 σ) = 42 ∧ kd (hS35_2 σ) 35 = 9 ∧ hS (hS35_2 σ) = hS σ + 68 ∧ hX (hS35_2 σ) = hX σ ∧ Kq 0 35 σ (hS35_2 σ) ∧ hR (hS35_2 σ) 12 = hR σ 12 := by
  unfold hS35_2
  refine ⟨?_, ?_, ?_, ?_, Kq_F (Kq_F (Kq_F (Kq_F (Kq_A (Kq_F (Kq_A (Kq_O (Kq_r) (by simp only [HB, hN_nO, hN_nA, n0] <;> omega)) (by simp only [HB, hN_nO, hN_nA, n0] <;> omega)) (by decide)) (by simp only [HB, hN_nO, hN_nA, n0] <;> omega)) (by decide)) (by decide)) (by decide)) (by decide), ?_⟩
  · simp only [n0, HA, HB, kd_nO, kd_nA, hL_nO, hL_nA, hF_nO, hF_nA, hI_nO, hI_nA, hJ_nO, hJ_nA, hR_nO, hR_nA, hN_nO, hN_nA, hS_nO, hS_nA, hX_nO, hX_nA, Nat.reduceAdd, Nat.reduceEqDiff, Nat.add_assoc, false_and, and_false, and_self, true_and, and_true, eq_self, reduceIte, implies_true]
  · simp only [n0, k9, HA, HB, kd_nO, kd_nA, hL_nO, hL_nA, hF_nO, hF_nA, hI_nO, hI_nA, hJ_nO, hJ_nA, hR_nO, hR_nA, hN_nO, hN_nA, hS_nO, hS_nA, hX_nO, hX_nA, Nat.reduceAdd, Nat.reduceEqDiff, Nat.add_assoc, false_and, and_false, and_self, true_and, and_true, eq_self, reduceIte, implies_true]
  · simp only [HA, HB, kd_nO, kd_nA, hL_nO, hL_nA, hF_nO, hF_nA, hI_nO, hI_nA, hJ_nO, hJ_nA, hR_nO, hR_nA, hN_nO, hN_nA, hS_nO, hS_nA, hX_nO, hX_nA, Nat.reduceAdd, Nat.reduceEqDiff, Nat.add_assoc, false_and, and_false, and_self, true_and, and_true, eq_self, reduceIte, implies_true, Nat.add_zero]
  · simp only [HA, HB, kd_nO, kd_nA, hL_nO, hL_nA, hF_nO, hF_nA, hI_nO, hI_nA, hJ_nO, hJ_nA, hR_nO, hR_nA, hN_nO, hN_nA, hS_nO, hS_nA, hX_nO, hX_nA, Nat.reduceAdd, Nat.reduceEqDiff, Nat.add_assoc, false_and, and_false, and_self, true_and, and_true, eq_self, reduceIte, implies_true]
  · simp only [n0, HA, HB, kd_nO, kd_nA, hL_nO, hL_nA, hF_nO, hF_nA, hI_nO, hI_nA, hJ_nO, hJ_nA, hR_nO, hR_nA, hN_nO, hN_nA, hS_nO, hS_nA, hX_nO, hX_nA, Nat.reduceAdd, Nat.reduceEqDiff, Nat.add_assoc, false_and, and_false, and_self, true_and, and_true, eq_self, reduceIte, implies_true]
theorem C_iS35_2 (n0 : hN σ = 39) (k9 : kd σ 35 = 9) : den (d + 3, 70, 51, [.ref 35, .float 0], [], σ) = den (d + 3, 70, 62, [.ref 35, .float 0], [], hS35_2 σ) := by
  unfold hS35_2
  simp (disch := first | omega | (repeat (first | assumption | exact Ag_r | refine Ag_I ?_ rfl | refine Ag_F ?_ rfl | refine Ag_J ?_ rfl))) only [a70_51, a70_52, a70_55, a70_56, a70_59, A40, kd_nO, kd_nA, hN_nO, hN_nA, n0, k9, c_n0, CO, HA, HB, HC, Nat.not_lt_zero, Nat.add_assoc, c_nlt, c_nle, c_neq, c_P, c_cl, c_m1, c_m1', nI_add, pk_mul, reduceIte, Nat.reduceEqDiff, Nat.reduceAdd, Nat.reduceMul, Nat.reduceLeDiff, eq_self, ↓pk_rem, pk_div, c_of, d_le, d_nle, d_lt, d_nlt, d_eq, d_ne]
def hS35_3 (σ : Hp) : Hp := sF (sF (sF (nA (sF (nA (sF (nA (nO (σ) 2 4 (mxB 2)) 100 10) 42 0 (.ref 43)) 100 10) 42 1 (.ref 44)) 100 10) 42 2 (.ref 45)) 42 3 (.int (nI 0))) 35 8 (.ref 42)
theorem hS35_3f (n0 : hN σ = 42) (k9 : kd σ 35 = 9) : hN (hS35_3 σ) = 46 ∧ kd (hS35_3 σ) 35 = 9 ∧ hS (hS35_3 σ) = hS σ + 34 ∧ hX (hS35_3 σ) = hX σ ∧ Kq 0 35 σ (hS35_3 σ) ∧ hR (hS35_3 σ) 12 = hR σ 12 := by
  unfold hS35_3
  refine ⟨?_, ?_, ?_, ?_, Kq_F (Kq_F (Kq_F (Kq_A (Kq_F (Kq_A (Kq_F (Kq_A (Kq_O (Kq_r) (by simp only [HB, hN_nO, hN_nA, n0] <;> omega)) (by simp only [HB, hN_nO, hN_nA, n0] <;> omega)) (by decide)) (by simp only [HB, hN_nO, hN_nA, n0] <;> omega)) (by decide)) (by simp only [HB, hN_nO, hN_nA, n0] <;> omega)) (by decide)) (by decide)) (by decide), ?_⟩
  · simp only [n0, HA, HB, kd_nO, kd_nA, hL_nO, hL_nA, hF_nO, hF_nA, hI_nO, hI_nA, hJ_nO, hJ_nA, hR_nO, hR_nA, hN_nO, hN_nA, hS_nO, hS_nA, hX_nO, hX_nA, Nat.reduceAdd, Nat.reduceEqDiff, Nat.add_assoc, false_and, and_false, and_self, true_and, and_true, eq_self, reduceIte, implies_true]
  · simp only [n0, k9, HA, HB, kd_nO, kd_nA, hL_nO, hL_nA, hF_nO, hF_nA, hI_nO, hI_nA, hJ_nO, hJ_nA, hR_nO, hR_nA, hN_nO, hN_nA, hS_nO, hS_nA, hX_nO, hX_nA, Nat.reduceAdd, Nat.reduceEqDiff, Nat.add_assoc, false_and, and_false, and_self, true_and, and_true, eq_self, reduceIte, implies_true]
  · simp only [HA, HB, kd_nO, kd_nA, hL_nO, hL_nA, hF_nO, hF_nA, hI_nO, hI_nA, hJ_nO, hJ_nA, hR_nO, hR_nA, hN_nO, hN_nA, hS_nO, hS_nA, hX_nO, hX_nA, Nat.reduceAdd, Nat.reduceEqDiff, Nat.add_assoc, false_and, and_false, and_self, true_and, and_true, eq_self, reduceIte, implies_true, Nat.add_zero]
  · simp only [HA, HB, kd_nO, kd_nA, hL_nO, hL_nA, hF_nO, hF_nA, hI_nO, hI_nA, hJ_nO, hJ_nA, hR_nO, hR_nA, hN_nO, hN_nA, hS_nO, hS_nA, hX_nO, hX_nA, Nat.reduceAdd, Nat.reduceEqDiff, Nat.add_assoc, false_and, and_false, and_self, true_and, and_true, eq_self, reduceIte, implies_true]
  · simp only [n0, HA, HB, kd_nO, kd_nA, hL_nO, hL_nA, hF_nO, hF_nA, hI_nO, hI_nA, hJ_nO, hJ_nA, hR_nO, hR_nA, hN_nO, hN_nA, hS_nO, hS_nA, hX_nO, hX_nA, Nat.reduceAdd, Nat.reduceEqDiff, Nat.add_assoc, false_and, and_false, and_self, true_and, and_true, eq_self, reduceIte, implies_true]
theorem C_iS35_3 (n0 : hN σ = 42) (k9 : kd σ 35 = 9) : den (d + 3, 70, 62, [.ref 35, .float 0], [], σ) = den (d + 3, 70, 75, [.ref 35, .int (nI 0)], [], hS35_3 σ) := by
  unfold hS35_3
  simp (disch := first | omega | (repeat (first | assumption | exact Ag_r | refine Ag_I ?_ rfl | refine Ag_F ?_ rfl | refine Ag_J ?_ rfl))) only [a70_62, a70_63, a70_66, a70_67, a70_70, a70_73, a70_74, A11, kd_nO, kd_nA, hN_nO, hN_nA, n0, k9, c_n0, CO, HA, HB, HC, Nat.not_lt_zero, Nat.add_assoc, c_nlt, c_nle, c_neq, c_P, c_cl, c_m1, c_m1', nI_add, pk_mul, reduceIte, Nat.reduceEqDiff, Nat.reduceAdd, Nat.reduceMul, Nat.reduceLeDiff, eq_self, ↓pk_rem, pk_div, c_of, d_le, d_nle, d_lt, d_nlt, d_eq, d_ne]
def hSt35 (σ : Hp) : Hp := hS35_3 (hS35_2 (hS35_1 (hS35_0 σ)))
theorem hSt35_p (n0 : hN σ = 36) (k9 : kd σ 35 = 9) : StP (hSt35 σ) 35 := by
  unfold StP hSt35 hS35_3 hS35_2 hS35_1 hS35_0
  simp only [n0, k9, HA, HB, kd_nO, kd_nA, hL_nO, hL_nA, hF_nO, hF_nA, hI_nO, hI_nA, hJ_nO, hJ_nA, hR_nO, hR_nA, hN_nO, hN_nA, hS_nO, hS_nA, hX_nO, hX_nA, Nat.reduceAdd, Nat.reduceEqDiff, Nat.add_assoc, false_and, and_false, and_self, true_and, and_true, eq_self, reduceIte, implies_true]
theorem hSt35_f (n0 : hN σ = 36) (k9 : kd σ 35 = 9) : (hN (hSt35 σ) = 46 ∧ hS (hSt35 σ) = hS σ + 360 ∧ hX (hSt35 σ) = hX σ ∧ hR (hSt35 σ) 12 = hR σ 12) ∧ Kq 0 35 σ (hSt35 σ) ∧ den (d + 3, 70, 0, [.ref 35, .float 0], [], σ) = den (d + 3, 70, 75, [.ref 35, .int (nI 0)], [], hSt35 σ) := by
  have k0 := k9
  obtain ⟨n1, k1, s1, x1, q1, r1⟩ := hS35_0f (σ := σ) n0 k0
  have g0 := C_iS35_0 (d := d) n0 k0
  obtain ⟨n2, k2, s2, x2, q2, r2⟩ := hS35_1f (σ := hS35_0 (σ)) n1 k1
  have g1 := C_iS35_1 (d := d) n1 k1
  obtain ⟨n3, k3, s3, x3, q3, r3⟩ := hS35_2f (σ := hS35_1 (hS35_0 (σ))) n2 k2
  have g2 := C_iS35_2 (d := d) n2 k2
  obtain ⟨n4, k4, s4, x4, q4, r4⟩ := hS35_3f (σ := hS35_2 (hS35_1 (hS35_0 (σ)))) n3 k3
  have g3 := C_iS35_3 (d := d) n3 k3
  refine ⟨⟨n4, ?_, x4.trans (x3.trans (x2.trans x1)), r4.trans (r3.trans (r2.trans r1))⟩, Kq_t (Kq_t (Kq_t q1 q2) q3) q4, ((g0.trans g1).trans g2).trans g3⟩
  show hS (hS35_3 (hS35_2 (hS35_1 (hS35_0 (σ))))) = _
  rw [s4, s3, s2, s1]
theorem C_sl35 {H : Hp} (q9 : kd H 35 = 9) (q4 : hF H 35 4 = .ref 36) (q1 : kd H 36 = 100 ∧ hL H 36 = 224) : Ev (den (d + 3, 70, 75, [.ref 35, .int (nI 0)], [], H)) (fun v τ => v = none ∧ ∃ f, τ = sI H 36 f ∧ ∀ c, c < 224 → f c = nI (c / 28)) := by
  refine Ev_e (o' := den (d + 3, 70, 75, [.ref 35, .int (nI 0)], [], sI H 36 (hI H 36))) (by rw [sI_self]) ?_
  refine lp (α := Nat → Int32) (h := fun i f => (d + 3, 70, 75, [.ref 35, .int (nI i)], [], sI H 36 f)) (I := fun i f => ∀ c, c < i → f c = nI (c / 28)) 224 ?_ ?_ 0 _ (Nat.zero_le _) (fun c hc => absurd hc (Nat.not_lt_zero c))
  · intro i f hi hf nx
    have nn := nx (upd f i (nI (i / 28))) (fun c hc => by
      show (if c = i then nI (i / 28) else f c) = _
      by_cases z : c = i
      · rw [if_pos z, z]
      · rw [if_neg z]; exact hf c (by omega))
    refine Ev_e ?_ nn
    show den (d + 3, 70, 75, [.ref 35, .int (nI i)], [], sI H 36 f) = _
    rw [a70_75]
    simp (disch := first | omega | (repeat (first | assumption | exact Ag_r | refine Ag_I ?_ rfl | refine Ag_F ?_ rfl | refine Ag_J ?_ rfl))) only [A70, q9, q4, q1, CO, HA, HB, HC, Nat.not_lt_zero, Nat.add_assoc, c_nlt, c_nle, c_neq, c_P, c_cl, c_m1, c_m1', nI_add, pk_mul, reduceIte, Nat.reduceEqDiff, Nat.reduceAdd, Nat.reduceMul, Nat.reduceLeDiff, eq_self, ↓pk_rem, pk_div, c_of, d_le, d_nle, d_lt, d_nlt, d_eq, d_ne]
  · intro f hf
    show Ev (den (d + 3, 70, 75, [.ref 35, .int (nI 224)], [], sI H 36 f)) _
    rw [a70_75]
    refine Ev_e (o' := some (none, sI H 36 f)) ?_ (Ev_s ⟨rfl, f, rfl, hf⟩)
    simp (disch := first | omega | (repeat (first | assumption | exact Ag_r | refine Ag_I ?_ rfl | refine Ag_F ?_ rfl | refine Ag_J ?_ rfl))) only [A70, CO, HA, HB, HC, Nat.not_lt_zero, Nat.add_assoc, c_nlt, c_nle, c_neq, c_P, c_cl, c_m1, c_m1', nI_add, pk_mul, reduceIte, Nat.reduceEqDiff, Nat.reduceAdd, Nat.reduceMul, Nat.reduceLeDiff, eq_self, ↓pk_rem, pk_div, c_of, d_le, d_nle, d_lt, d_nlt, d_eq, d_ne]
theorem StP_I35 {H : Hp} {f : Nat → Int32} (sp : StP H 35) : StP (sI H 36 f) 35 := by
  unfold StP at sp ⊢
  simp only [HA, HB, Nat.reduceAdd, Nat.reduceEqDiff, reduceIte] at sp ⊢
  exact sp
theorem StP_q35 {H : Hp} (sp : StP H 35) : kd H 35 = 9 ∧ hF H 35 4 = .ref 36 ∧ kd H 36 = 100 ∧ hL H 36 = 224 := by
  have t := sp.2.2.2.2.2.2.2.2.2.2
  exact ⟨sp.1, sp.2.2.2.2.2.1, t.1, t.2.1⟩
theorem C_iSt35 (n0 : hN σ = 36) (k9 : kd σ 35 = 9) : ∃ τ, den (d + 3, 70, 0, [.ref 35, .float 0], [], σ) = some (none, τ) ∧ StP τ 35 ∧ (∀ c, c < 224 → hI τ 36 c = nI (c / 28)) ∧ (hN τ = 46 ∧ hS τ = hS σ + 360 ∧ hX τ = hX σ ∧ hR τ 12 = hR σ 12) ∧ Kq 0 35 σ τ := by
  have sp := hSt35_p n0 k9
  obtain ⟨⟨n1, s1, x1, r1⟩, kq, go⟩ := hSt35_f (d := d) n0 k9
  obtain ⟨b1, b2, b3⟩ := StP_q35 sp
  obtain ⟨_, τ, e, rfl, f, rfl, hf⟩ := C_sl35 (d := d) b1 b2 b3
  refine ⟨_, go.trans e, StP_I35 sp, fun c hc => ?_, ⟨?_, ?_, ?_, ?_⟩, Kq_I kq (by decide)⟩
  · rw [hI_sI, if_pos rfl]; exact hf c hc
  · rw [hN_sI]; exact n1
  · rw [hS_sI]; exact s1
  · rw [hX_sI]; exact x1
  · rw [hR_sI]; exact r1
def hS46_0 (σ : Hp) : Hp := sF (sF (sF (sF (σ) 46 0 (.int (nI 4))) 46 1 (.int (nI 10))) 46 2 (.int (nI 0))) 46 3 (.int (-1))
theorem hS46_0f (n0 : hN σ = 47) (k9 : kd σ 46 = 9) : hN (hS46_0 σ) = 47 ∧ kd (hS46_0 σ) 46 = 9 ∧ hS (hS46_0 σ) = hS σ + 0 ∧ hX (hS46_0 σ) = hX σ ∧ Kq 0 46 σ (hS46_0 σ) ∧ hR (hS46_0 σ) 12 = hR σ 12 := by
  unfold hS46_0
  refine ⟨?_, ?_, ?_, ?_, Kq_F (Kq_F (Kq_F (Kq_F (Kq_r) (by decide)) (by decide)) (by decide)) (by decide), ?_⟩
  · simp only [n0, HA, HB, kd_nO, kd_nA, hL_nO, hL_nA, hF_nO, hF_nA, hI_nO, hI_nA, hJ_nO, hJ_nA, hR_nO, hR_nA, hN_nO, hN_nA, hS_nO, hS_nA, hX_nO, hX_nA, Nat.reduceAdd, Nat.reduceEqDiff, Nat.add_assoc, false_and, and_false, and_self, true_and, and_true, eq_self, reduceIte, implies_true]
  · simp only [n0, k9, HA, HB, kd_nO, kd_nA, hL_nO, hL_nA, hF_nO, hF_nA, hI_nO, hI_nA, hJ_nO, hJ_nA, hR_nO, hR_nA, hN_nO, hN_nA, hS_nO, hS_nA, hX_nO, hX_nA, Nat.reduceAdd, Nat.reduceEqDiff, Nat.add_assoc, false_and, and_false, and_self, true_and, and_true, eq_self, reduceIte, implies_true]
  · simp only [HA, HB, kd_nO, kd_nA, hL_nO, hL_nA, hF_nO, hF_nA, hI_nO, hI_nA, hJ_nO, hJ_nA, hR_nO, hR_nA, hN_nO, hN_nA, hS_nO, hS_nA, hX_nO, hX_nA, Nat.reduceAdd, Nat.reduceEqDiff, Nat.add_assoc, false_and, and_false, and_self, true_and, and_true, eq_self, reduceIte, implies_true, Nat.add_zero]
  · simp only [HA, HB, kd_nO, kd_nA, hL_nO, hL_nA, hF_nO, hF_nA, hI_nO, hI_nA, hJ_nO, hJ_nA, hR_nO, hR_nA, hN_nO, hN_nA, hS_nO, hS_nA, hX_nO, hX_nA, Nat.reduceAdd, Nat.reduceEqDiff, Nat.add_assoc, false_and, and_false, and_self, true_and, and_true, eq_self, reduceIte, implies_true]
  · simp only [n0, HA, HB, kd_nO, kd_nA, hL_nO, hL_nA, hF_nO, hF_nA, hI_nO, hI_nA, hJ_nO, hJ_nA, hR_nO, hR_nA, hN_nO, hN_nA, hS_nO, hS_nA, hX_nO, hX_nA, Nat.reduceAdd, Nat.reduceEqDiff, Nat.add_assoc, false_and, and_false, and_self, true_and, and_true, eq_self, reduceIte, implies_true]
theorem C_iS46_0 (n0 : hN σ = 47) (k9 : kd σ 46 = 9) : den (d + 3, 70, 0, [.ref 46, .float 0], [], σ) = den (d + 3, 70, 25, [.ref 46, .float 0], [], hS46_0 σ) := by
  unfold hS46_0
  simp (disch := first | omega | (repeat (first | assumption | exact Ag_r | refine Ag_I ?_ rfl | refine Ag_F ?_ rfl | refine Ag_J ?_ rfl))) only [a70_0, a70_1, a70_4, a70_5, a70_6, a70_9, a70_10, a70_12, a70_15, a70_16, a70_17, a70_20, a70_21, a70_22, kd_nO, kd_nA, hN_nO, hN_nA, n0, k9, c_n0, CO, HA, HB, HC, Nat.not_lt_zero, Nat.add_assoc, c_nlt, c_nle, c_neq, c_P, c_cl, c_m1, c_m1', nI_add, pk_mul, reduceIte, Nat.reduceEqDiff, Nat.reduceAdd, Nat.reduceMul, Nat.reduceLeDiff, eq_self, ↓pk_rem, pk_div, c_of, d_le, d_nle, d_lt, d_nlt, d_eq, d_ne]
def hS46_1 (σ : Hp) : Hp := sF (nA (sF (nA (sF (nA (σ) 100 224) 46 4 (.ref 47)) 100 28) 46 5 (.ref 48)) 103 6) 46 6 (.ref 49)
theorem hS46_1f (n0 : hN σ = 47) (k9 : kd σ 46 = 9) : hN (hS46_1 σ) = 50 ∧ kd (hS46_1 σ) 46 = 9 ∧ hS (hS46_1 σ) = hS σ + 258 ∧ hX (hS46_1 σ) = hX σ ∧ Kq 0 46 σ (hS46_1 σ) ∧ hR (hS46_1 σ) 12 = hR σ 12 := by
  unfold hS46_1
  refine ⟨?_, ?_, ?_, ?_, Kq_F (Kq_A (Kq_F (Kq_A (Kq_F (Kq_A (Kq_r) (by simp only [HB, hN_nO, hN_nA, n0] <;> omega)) (by decide)) (by simp only [HB, hN_nO, hN_nA, n0] <;> omega)) (by decide)) (by simp only [HB, hN_nO, hN_nA, n0] <;> omega)) (by decide), ?_⟩
  · simp only [n0, HA, HB, kd_nO, kd_nA, hL_nO, hL_nA, hF_nO, hF_nA, hI_nO, hI_nA, hJ_nO, hJ_nA, hR_nO, hR_nA, hN_nO, hN_nA, hS_nO, hS_nA, hX_nO, hX_nA, Nat.reduceAdd, Nat.reduceEqDiff, Nat.add_assoc, false_and, and_false, and_self, true_and, and_true, eq_self, reduceIte, implies_true]
  · simp only [n0, k9, HA, HB, kd_nO, kd_nA, hL_nO, hL_nA, hF_nO, hF_nA, hI_nO, hI_nA, hJ_nO, hJ_nA, hR_nO, hR_nA, hN_nO, hN_nA, hS_nO, hS_nA, hX_nO, hX_nA, Nat.reduceAdd, Nat.reduceEqDiff, Nat.add_assoc, false_and, and_false, and_self, true_and, and_true, eq_self, reduceIte, implies_true]
  · simp only [HA, HB, kd_nO, kd_nA, hL_nO, hL_nA, hF_nO, hF_nA, hI_nO, hI_nA, hJ_nO, hJ_nA, hR_nO, hR_nA, hN_nO, hN_nA, hS_nO, hS_nA, hX_nO, hX_nA, Nat.reduceAdd, Nat.reduceEqDiff, Nat.add_assoc, false_and, and_false, and_self, true_and, and_true, eq_self, reduceIte, implies_true, Nat.add_zero]
  · simp only [HA, HB, kd_nO, kd_nA, hL_nO, hL_nA, hF_nO, hF_nA, hI_nO, hI_nA, hJ_nO, hJ_nA, hR_nO, hR_nA, hN_nO, hN_nA, hS_nO, hS_nA, hX_nO, hX_nA, Nat.reduceAdd, Nat.reduceEqDiff, Nat.add_assoc, false_and, and_false, and_self, true_and, and_true, eq_self, reduceIte, implies_true]
  · simp only [n0, HA, HB, kd_nO, kd_nA, hL_nO, hL_nA, hF_nO, hF_nA, hI_nO, hI_nA, hJ_nO, hJ_nA, hR_nO, hR_nA, hN_nO, hN_nA, hS_nO, hS_nA, hX_nO, hX_nA, Nat.reduceAdd, Nat.reduceEqDiff, Nat.add_assoc, false_and, and_false, and_self, true_and, and_true, eq_self, reduceIte, implies_true]
theorem C_iS46_1 (n0 : hN σ = 47) (k9 : kd σ 46 = 9) : den (d + 3, 70, 25, [.ref 46, .float 0], [], σ) = den (d + 3, 70, 51, [.ref 46, .float 0], [], hS46_1 σ) := by
  unfold hS46_1
  simp (disch := first | omega | (repeat (first | assumption | exact Ag_r | refine Ag_I ?_ rfl | refine Ag_F ?_ rfl | refine Ag_J ?_ rfl))) only [a70_25, a70_26, a70_29, a70_31, a70_34, a70_35, a70_37, a70_39, a70_42, a70_43, a70_45, a70_48, kd_nO, kd_nA, hN_nO, hN_nA, n0, k9, c_n0, CO, HA, HB, HC, Nat.not_lt_zero, Nat.add_assoc, c_nlt, c_nle, c_neq, c_P, c_cl, c_m1, c_m1', nI_add, pk_mul, reduceIte, Nat.reduceEqDiff, Nat.reduceAdd, Nat.reduceMul, Nat.reduceLeDiff, eq_self, ↓pk_rem, pk_div, c_of, d_le, d_nle, d_lt, d_nlt, d_eq, d_ne]
def hS46_2 (σ : Hp) : Hp := sF (sF (sF (sF (nA (sF (nA (nO (σ) 6 4 (mxB 6)) 100 32) 50 0 (.ref 51)) 100 32) 50 1 (.ref 52)) 50 2 (.int (nI 0))) 50 3 (.int (nI 0))) 46 7 (.ref 50)
theorem hS46_2f (n0 : hN σ = 50) (k9 : kd σ 46 = 9) : hN (hS46_2 σ) = 53 ∧ kd (hS46_2 σ) 46 = 9 ∧ hS (hS46_2 σ) = hS σ + 68 ∧ hX (hS46_2 σ) = hX σ ∧ Kq 0 46 σ (hS46_2 σ) ∧ hR (hS46_2 σ) 12 = hR σ 12 := by
  unfold hS46_2
  refine ⟨?_, ?_, ?_, ?_, Kq_F (Kq_F (Kq_F (Kq_F (Kq_A (Kq_F (Kq_A (Kq_O (Kq_r) (by simp only [HB, hN_nO, hN_nA, n0] <;> omega)) (by simp only [HB, hN_nO, hN_nA, n0] <;> omega)) (by decide)) (by simp only [HB, hN_nO, hN_nA, n0] <;> omega)) (by decide)) (by decide)) (by decide)) (by decide), ?_⟩
  · simp only [n0, HA, HB, kd_nO, kd_nA, hL_nO, hL_nA, hF_nO, hF_nA, hI_nO, hI_nA, hJ_nO, hJ_nA, hR_nO, hR_nA, hN_nO, hN_nA, hS_nO, hS_nA, hX_nO, hX_nA, Nat.reduceAdd, Nat.reduceEqDiff, Nat.add_assoc, false_and, and_false, and_self, true_and, and_true, eq_self, reduceIte, implies_true]
  · simp only [n0, k9, HA, HB, kd_nO, kd_nA, hL_nO, hL_nA, hF_nO, hF_nA, hI_nO, hI_nA, hJ_nO, hJ_nA, hR_nO, hR_nA, hN_nO, hN_nA, hS_nO, hS_nA, hX_nO, hX_nA, Nat.reduceAdd, Nat.reduceEqDiff, Nat.add_assoc, false_and, and_false, and_self, true_and, and_true, eq_self, reduceIte, implies_true]
  · simp only [HA, HB, kd_nO, kd_nA, hL_nO, hL_nA, hF_nO, hF_nA, hI_nO, hI_nA, hJ_nO, hJ_nA, hR_nO, hR_nA, hN_nO, hN_nA, hS_nO, hS_nA, hX_nO, hX_nA, Nat.reduceAdd, Nat.reduceEqDiff, Nat.add_assoc, false_and, and_false, and_self, true_and, and_true, eq_self, reduceIte, implies_true, Nat.add_zero]
  · simp only [HA, HB, kd_nO, kd_nA, hL_nO, hL_nA, hF_nO, hF_nA, hI_nO, hI_nA, hJ_nO, hJ_nA, hR_nO, hR_nA, hN_nO, hN_nA, hS_nO, hS_nA, hX_nO, hX_nA, Nat.reduceAdd, Nat.reduceEqDiff, Nat.add_assoc, false_and, and_false, and_self, true_and, and_true, eq_self, reduceIte, implies_true]
  · simp only [n0, HA, HB, kd_nO, kd_nA, hL_nO, hL_nA, hF_nO, hF_nA, hI_nO, hI_nA, hJ_nO, hJ_nA, hR_nO, hR_nA, hN_nO, hN_nA, hS_nO, hS_nA, hX_nO, hX_nA, Nat.reduceAdd, Nat.reduceEqDiff, Nat.add_assoc, false_and, and_false, and_self, true_and, and_true, eq_self, reduceIte, implies_true]
theorem C_iS46_2 (n0 : hN σ = 50) (k9 : kd σ 46 = 9) : den (d + 3, 70, 51, [.ref 46, .float 0], [], σ) = den (d + 3, 70, 62, [.ref 46, .float 0], [], hS46_2 σ) := by
  unfold hS46_2
  simp (disch := first | omega | (repeat (first | assumption | exact Ag_r | refine Ag_I ?_ rfl | refine Ag_F ?_ rfl | refine Ag_J ?_ rfl))) only [a70_51, a70_52, a70_55, a70_56, a70_59, A40, kd_nO, kd_nA, hN_nO, hN_nA, n0, k9, c_n0, CO, HA, HB, HC, Nat.not_lt_zero, Nat.add_assoc, c_nlt, c_nle, c_neq, c_P, c_cl, c_m1, c_m1', nI_add, pk_mul, reduceIte, Nat.reduceEqDiff, Nat.reduceAdd, Nat.reduceMul, Nat.reduceLeDiff, eq_self, ↓pk_rem, pk_div, c_of, d_le, d_nle, d_lt, d_nlt, d_eq, d_ne]
def hS46_3 (σ : Hp) : Hp := sF (sF (sF (nA (sF (nA (sF (nA (nO (σ) 2 4 (mxB 2)) 100 10) 53 0 (.ref 54)) 100 10) 53 1 (.ref 55)) 100 10) 53 2 (.ref 56)) 53 3 (.int (nI 0))) 46 8 (.ref 53)
theorem hS46_3f (n0 : hN σ = 53) (k9 : kd σ 46 = 9) : hN (hS46_3 σ) = 57 ∧ kd (hS46_3 σ) 46 = 9 ∧ hS (hS46_3 σ) = hS σ + 34 ∧ hX (hS46_3 σ) = hX σ ∧ Kq 0 46 σ (hS46_3 σ) ∧ hR (hS46_3 σ) 12 = hR σ 12 := by
  unfold hS46_3
  refine ⟨?_, ?_, ?_, ?_, Kq_F (Kq_F (Kq_F (Kq_A (Kq_F (Kq_A (Kq_F (Kq_A (Kq_O (Kq_r) (by simp only [HB, hN_nO, hN_nA, n0] <;> omega)) (by simp only [HB, hN_nO, hN_nA, n0] <;> omega)) (by decide)) (by simp only [HB, hN_nO, hN_nA, n0] <;> omega)) (by decide)) (by simp only [HB, hN_nO, hN_nA, n0] <;> omega)) (by decide)) (by decide)) (by decide), ?_⟩
  · simp only [n0, HA, HB, kd_nO, kd_nA, hL_nO, hL_nA, hF_nO, hF_nA, hI_nO, hI_nA, hJ_nO, hJ_nA, hR_nO, hR_nA, hN_nO, hN_nA, hS_nO, hS_nA, hX_nO, hX_nA, Nat.reduceAdd, Nat.reduceEqDiff, Nat.add_assoc, false_and, and_false, and_self, true_and, and_true, eq_self, reduceIte, implies_true]
  · simp only [n0, k9, HA, HB, kd_nO, kd_nA, hL_nO, hL_nA, hF_nO, hF_nA, hI_nO, hI_nA, hJ_nO, hJ_nA, hR_nO, hR_nA, hN_nO, hN_nA, hS_nO, hS_nA, hX_nO, hX_nA, Nat.reduceAdd, Nat.reduceEqDiff, Nat.add_assoc, false_and, and_false, and_self, true_and, and_true, eq_self, reduceIte, implies_true]
  · simp only [HA, HB, kd_nO, kd_nA, hL_nO, hL_nA, hF_nO, hF_nA, hI_nO, hI_nA, hJ_nO, hJ_nA, hR_nO, hR_nA, hN_nO, hN_nA, hS_nO, hS_nA, hX_nO, hX_nA, Nat.reduceAdd, Nat.reduceEqDiff, Nat.add_assoc, false_and, and_false, and_self, true_and, and_true, eq_self, reduceIte, implies_true, Nat.add_zero]
  · simp only [HA, HB, kd_nO, kd_nA, hL_nO, hL_nA, hF_nO, hF_nA, hI_nO, hI_nA, hJ_nO, hJ_nA, hR_nO, hR_nA, hN_nO, hN_nA, hS_nO, hS_nA, hX_nO, hX_nA, Nat.reduceAdd, Nat.reduceEqDiff, Nat.add_assoc, false_and, and_false, and_self, true_and, and_true, eq_self, reduceIte, implies_true]
  · simp only [n0, HA, HB, kd_nO, kd_nA, hL_nO, hL_nA, hF_nO, hF_nA, hI_nO, hI_nA, hJ_nO, hJ_nA, hR_nO, hR_nA, hN_nO, hN_nA, hS_nO, hS_nA, hX_nO, hX_nA, Nat.reduceAdd, Nat.reduceEqDiff, Nat.add_assoc, false_and, and_false, and_self, true_and, and_true, eq_self, reduceIte, implies_true]
theorem C_iS46_3 (n0 : hN σ = 53) (k9 : kd σ 46 = 9) : den (d + 3, 70, 62, [.ref 46, .float 0], [], σ) = den (d + 3, 70, 75, [.ref 46, .int (nI 0)], [], hS46_3 σ) := by
  unfold hS46_3
  simp (disch := first | omega | (repeat (first | assumption | exact Ag_r | refine Ag_I ?_ rfl | refine Ag_F ?_ rfl | refine Ag_J ?_ rfl))) only [a70_62, a70_63, a70_66, a70_67, a70_70, a70_73, a70_74, A11, kd_nO, kd_nA, hN_nO, hN_nA, n0, k9, c_n0, CO, HA, HB, HC, Nat.not_lt_zero, Nat.add_assoc, c_nlt, c_nle, c_neq, c_P, c_cl, c_m1, c_m1', nI_add, pk_mul, reduceIte, Nat.reduceEqDiff, Nat.reduceAdd, Nat.reduceMul, Nat.reduceLeDiff, eq_self, ↓pk_rem, pk_div, c_of, d_le, d_nle, d_lt, d_nlt, d_eq, d_ne]
def hSt46 (σ : Hp) : Hp := hS46_3 (hS46_2 (hS46_1 (hS46_0 σ)))
theorem hSt46_p (n0 : hN σ = 47) (k9 : kd σ 46 = 9) : StP (hSt46 σ) 46 := by
  unfold StP hSt46 hS46_3 hS46_2 hS46_1 hS46_0
  simp only [n0, k9, HA, HB, kd_nO, kd_nA, hL_nO, hL_nA, hF_nO, hF_nA, hI_nO, hI_nA, hJ_nO, hJ_nA, hR_nO, hR_nA, hN_nO, hN_nA, hS_nO, hS_nA, hX_nO, hX_nA, Nat.reduceAdd, Nat.reduceEqDiff, Nat.add_assoc, false_and, and_false, and_self, true_and, and_true, eq_self, reduceIte, implies_true]
theorem hSt46_f (n0 : hN σ = 47) (k9 : kd σ 46 = 9) : (hN (hSt46 σ) = 57 ∧ hS (hSt46 σ) = hS σ + 360 ∧ hX (hSt46 σ) = hX σ ∧ hR (hSt46 σ) 12 = hR σ 12) ∧ Kq 0 46 σ (hSt46 σ) ∧ den (d + 3, 70, 0, [.ref 46, .float 0], [], σ) = den (d + 3, 70, 75, [.ref 46, .int (nI 0)], [], hSt46 σ) := by
  have k0 := k9
  obtain ⟨n1, k1, s1, x1, q1, r1⟩ := hS46_0f (σ := σ) n0 k0
  have g0 := C_iS46_0 (d := d) n0 k0
  obtain ⟨n2, k2, s2, x2, q2, r2⟩ := hS46_1f (σ := hS46_0 (σ)) n1 k1
  have g1 := C_iS46_1 (d := d) n1 k1
  obtain ⟨n3, k3, s3, x3, q3, r3⟩ := hS46_2f (σ := hS46_1 (hS46_0 (σ))) n2 k2
  have g2 := C_iS46_2 (d := d) n2 k2
  obtain ⟨n4, k4, s4, x4, q4, r4⟩ := hS46_3f (σ := hS46_2 (hS46_1 (hS46_0 (σ)))) n3 k3
  have g3 := C_iS46_3 (d := d) n3 k3
  refine ⟨⟨n4, ?_, x4.trans (x3.trans (x2.trans x1)), r4.trans (r3.trans (r2.trans r1))⟩, Kq_t (Kq_t (Kq_t q1 q2) q3) q4, ((g0.trans g1).trans g2).trans g3⟩
  show hS (hS46_3 (hS46_2 (hS46_1 (hS46_0 (σ))))) = _
  rw [s4, s3, s2, s1]
theorem C_sl46 {H : Hp} (q9 : kd H 46 = 9) (q4 : hF H 46 4 = .ref 47) (q1 : kd H 47 = 100 ∧ hL H 47 = 224) : Ev (den (d + 3, 70, 75, [.ref 46, .int (nI 0)], [], H)) (fun v τ => v = none ∧ ∃ f, τ = sI H 47 f ∧ ∀ c, c < 224 → f c = nI (c / 28)) := by
  refine Ev_e (o' := den (d + 3, 70, 75, [.ref 46, .int (nI 0)], [], sI H 47 (hI H 47))) (by rw [sI_self]) ?_
  refine lp (α := Nat → Int32) (h := fun i f => (d + 3, 70, 75, [.ref 46, .int (nI i)], [], sI H 47 f)) (I := fun i f => ∀ c, c < i → f c = nI (c / 28)) 224 ?_ ?_ 0 _ (Nat.zero_le _) (fun c hc => absurd hc (Nat.not_lt_zero c))
  · intro i f hi hf nx
    have nn := nx (upd f i (nI (i / 28))) (fun c hc => by
      show (if c = i then nI (i / 28) else f c) = _
      by_cases z : c = i
      · rw [if_pos z, z]
      · rw [if_neg z]; exact hf c (by omega))
    refine Ev_e ?_ nn
    show den (d + 3, 70, 75, [.ref 46, .int (nI i)], [], sI H 47 f) = _
    rw [a70_75]
    simp (disch := first | omega | (repeat (first | assumption | exact Ag_r | refine Ag_I ?_ rfl | refine Ag_F ?_ rfl | refine Ag_J ?_ rfl))) only [A70, q9, q4, q1, CO, HA, HB, HC, Nat.not_lt_zero, Nat.add_assoc, c_nlt, c_nle, c_neq, c_P, c_cl, c_m1, c_m1', nI_add, pk_mul, reduceIte, Nat.reduceEqDiff, Nat.reduceAdd, Nat.reduceMul, Nat.reduceLeDiff, eq_self, ↓pk_rem, pk_div, c_of, d_le, d_nle, d_lt, d_nlt, d_eq, d_ne]
  · intro f hf
    show Ev (den (d + 3, 70, 75, [.ref 46, .int (nI 224)], [], sI H 47 f)) _
    rw [a70_75]
    refine Ev_e (o' := some (none, sI H 47 f)) ?_ (Ev_s ⟨rfl, f, rfl, hf⟩)
    simp (disch := first | omega | (repeat (first | assumption | exact Ag_r | refine Ag_I ?_ rfl | refine Ag_F ?_ rfl | refine Ag_J ?_ rfl))) only [A70, CO, HA, HB, HC, Nat.not_lt_zero, Nat.add_assoc, c_nlt, c_nle, c_neq, c_P, c_cl, c_m1, c_m1', nI_add, pk_mul, reduceIte, Nat.reduceEqDiff, Nat.reduceAdd, Nat.reduceMul, Nat.reduceLeDiff, eq_self, ↓pk_rem, pk_div, c_of, d_le, d_nle, d_lt, d_nlt, d_eq, d_ne]
theorem StP_I46 {H : Hp} {f : Nat → Int32} (sp : StP H 46) : StP (sI H 47 f) 46 := by
  unfold StP at sp ⊢
  simp only [HA, HB, Nat.reduceAdd, Nat.reduceEqDiff, reduceIte] at sp ⊢
  exact sp
theorem StP_q46 {H : Hp} (sp : StP H 46) : kd H 46 = 9 ∧ hF H 46 4 = .ref 47 ∧ kd H 47 = 100 ∧ hL H 47 = 224 := by
  have t := sp.2.2.2.2.2.2.2.2.2.2
  exact ⟨sp.1, sp.2.2.2.2.2.1, t.1, t.2.1⟩
theorem C_iSt46 (n0 : hN σ = 47) (k9 : kd σ 46 = 9) : ∃ τ, den (d + 3, 70, 0, [.ref 46, .float 0], [], σ) = some (none, τ) ∧ StP τ 46 ∧ (∀ c, c < 224 → hI τ 47 c = nI (c / 28)) ∧ (hN τ = 57 ∧ hS τ = hS σ + 360 ∧ hX τ = hX σ ∧ hR τ 12 = hR σ 12) ∧ Kq 0 46 σ τ := by
  have sp := hSt46_p n0 k9
  obtain ⟨⟨n1, s1, x1, r1⟩, kq, go⟩ := hSt46_f (d := d) n0 k9
  obtain ⟨b1, b2, b3⟩ := StP_q46 sp
  obtain ⟨_, τ, e, rfl, f, rfl, hf⟩ := C_sl46 (d := d) b1 b2 b3
  refine ⟨_, go.trans e, StP_I46 sp, fun c hc => ?_, ⟨?_, ?_, ?_, ?_⟩, Kq_I kq (by decide)⟩
  · rw [hI_sI, if_pos rfl]; exact hf c hc
  · rw [hN_sI]; exact n1
  · rw [hS_sI]; exact s1
  · rw [hX_sI]; exact x1
  · rw [hR_sI]; exact r1
end
