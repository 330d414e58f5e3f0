/-! force on both sides -/
theorem l_hi1 (x : Int32) {n : Nat} (hn : n < 2 ^ 31) : (x.toInt64 ≤ (nI n).toInt64 - lN 1) = ¬ nI n ≤ x := by
  cases n with
  | zero =>
    have e : (nI 0).toInt64 - lN 1 = -1 := by decide
    have e2 : (-1 : Int64).toInt = -1 := by decide
    rw [e, eq_iff_iff, Int32.not_le, Int64.le_iff_toInt_le, Int32.lt_iff_toInt_lt, e2, Int32.toInt_toInt64, nI_toInt (by omega)]
    omega
  | succ k =>
    rw [nI_l hn, lN_sub (by omega), Nat.add_sub_cancel, l_hi x (by omega), ge1 x hn]
    simp
theorem m1_lt {a : Nat} (h : a < 2 ^ 31) : (nI a < (-1 : Int32)) = False := by
  rw [eq_iff_iff, iff_false, Int32.lt_iff_toInt_lt, nI_toInt h]
  have : (-1 : Int32).toInt = -1 := by decide
  omega
theorem m1_le {a : Nat} (h : a < 2 ^ 31) : (nI a ≤ (-1 : Int32)) = False := by
  rw [eq_iff_iff, iff_false, Int32.le_iff_toInt_le, nI_toInt h]
  have : (-1 : Int32).toInt = -1 := by decide
  omega
theorem m1_ge {a : Nat} (h : a < 2 ^ 31) : ((-1 : Int32) ≤ nI a) = True := by
  rw [eq_iff_iff, iff_true, Int32.le_iff_toInt_le, nI_toInt h]
  have : (-1 : Int32).toInt = -1 := by decide
  omega
theorem m1_m1 : ((-1 : Int32) < -1) = False ∧ ((-1 : Int32) ≤ -1) = True := by
  refine ⟨?_, ?_⟩
  · rw [eq_iff_iff, iff_false]; decide
  · rw [eq_iff_iff, iff_true]; decide
section
variable {d : Nat} {σ : Hp}
theorem C_force_no (h : FxC σ) {nl : Nat} (hl : hF σ 1 2 = .int (nI nl)) {x : Int32} (hx : x < -1 ∨ nI nl ≤ x) : den (d + 2, 91, 0, [.ref 0, .int x, .float 0], [], σ) = some (some (.int (-2)), sI (sF σ 0 11 (.int (-2))) 34 (upd (hI σ 34) 1 (hI σ 34 1 + nI 1))) := by
  have h0 := h
  unfold FxC at h
  by_cases h1 : x < -1
  · simp (disch := omega) only [A91, h, hl, h1, C_refuse2 h0, CO, HA, HB, HC, Nat.not_lt_zero, Nat.add_assoc, c_nlt, c_nle, c_neq, c_P, c_cl, c_m1, c_m1', nI_add, pk_mul, reduceIte, Nat.reduceEqDiff, Nat.reduceAdd, Nat.reduceMul, Nat.reduceLeDiff, eq_self]
  · have h2 := hx.resolve_left h1
    have h3 : (x < nI nl) = False := by rw [eq_iff_iff, iff_false]; exact Int32.not_lt.mpr h2
    simp (disch := omega) only [A91, h, hl, h1, h2, h3, C_refuse2 h0, CO, HA, HB, HC, Nat.not_lt_zero, Nat.add_assoc, c_nlt, c_nle, c_neq, c_P, c_cl, c_m1, c_m1', nI_add, pk_mul, reduceIte, Nat.reduceEqDiff, Nat.reduceAdd, Nat.reduceMul, Nat.reduceLeDiff, eq_self]
theorem C_force (h : FxC σ) {nl : Nat} (hl : hF σ 1 2 = .int (nI nl)) {w x : Int32} (hw : hF σ 1 3 = .int w) (h1 : ¬ x < -1) (h2 : ¬ nI nl ≤ x) : den (d + 2, 91, 0, [.ref 0, .int x, .float 0], [], σ) = some (some (.int w), sF (sF σ 1 3 (.int x)) 0 11 (.int (nI 0))) := by
  have h0 := h
  have h3 : (x < nI nl) = True := by rw [eq_iff_iff, iff_true]; exact Int32.not_le.mp h2
  unfold FxC at h
  simp (disch := omega) only [A91, h, hl, hw, h1, h2, h3, C_accept (FxC_sF h0 (k := 1) (j := 3) (v := .int x) (by decide)), CO, HA, HB, HC, Nat.not_lt_zero, Nat.add_assoc, c_nlt, c_nle, c_neq, c_P, c_cl, c_m1, c_m1', nI_add, pk_mul, reduceIte, Nat.reduceEqDiff, Nat.reduceAdd, Nat.reduceMul, Nat.reduceLeDiff, eq_self]
theorem M_force_no (h : FxM σ) {nl : Nat} (hl : hI σ 59 2 = nI nl) (hn : nl ≤ 6) {x : Int32} (h1 : ¬ x = -1) (h2 : ¬ (nI 0 ≤ x ∧ ¬ nI nl ≤ x)) : den (d + 2, 173, 0, [.ref 57, .int x, .float 0], [], σ) = some (some (.int (-2)), sI (sF (sF σ 57 0 (.int (nI 0))) 57 1 (.int (-2))) 58 (upd (hI σ 58) 2 (hI σ 58 2 + nI 1))) := by
  have h0 := h
  have h00 : FxM (sF σ 57 0 (.int (nI 0))) := FxM_sF h (Or.inr (by decide))
  unfold FxM at h
  simp (disch := omega) only [A173, h, hl, h1, M_in, l_lo, l_hi1, if_neg h2, M_tell2 h00, CO, HA, HB, HC, Nat.not_lt_zero, Nat.add_assoc, c_nlt, c_nle, c_neq, c_P, c_cl, c_m1, c_m1', nI_add, pk_mul, reduceIte, Nat.reduceEqDiff, Nat.reduceAdd, Nat.reduceMul, Nat.reduceLeDiff, eq_self]
theorem M_force (h : FxM σ) {nl : Nat} (hl : hI σ 59 2 = nI nl) (hn : nl ≤ 6) {x : Int32} (h1 : x = -1 ∨ (nI 0 ≤ x ∧ ¬ nI nl ≤ x)) : den (d + 2, 173, 0, [.ref 57, .int x, .float 0], [], σ) = some (some (.int (hI σ 59 3)), sF (sF (sI σ 59 (upd (hI σ 59) 3 x)) 57 0 (.int (nI 0))) 57 1 (.int (nI 0))) := by
  have h0 := h
  have h00 : FxM (sF (sI σ 59 (upd (hI σ 59) 3 x)) 57 0 (.int (nI 0))) := FxM_sF (σ := sI σ 59 (upd (hI σ 59) 3 x)) h (Or.inr (by decide))
  unfold FxM at h
  by_cases h2 : x = -1
  · simp (disch := omega) only [A173, h, hl, h2, M_was (h2 ▸ h00), CO, HA, HB, HC, Nat.not_lt_zero, Nat.add_assoc, c_nlt, c_nle, c_neq, c_P, c_cl, c_m1, c_m1', nI_add, pk_mul, reduceIte, Nat.reduceEqDiff, Nat.reduceAdd, Nat.reduceMul, Nat.reduceLeDiff, eq_self]
  · have h3 := h1.resolve_left h2
    simp (disch := omega) only [A173, h, hl, h2, M_in, l_lo, l_hi1, if_pos h3, M_was h00, CO, HA, HB, HC, Nat.not_lt_zero, Nat.add_assoc, c_nlt, c_nle, c_neq, c_P, c_cl, c_m1, c_m1', nI_add, pk_mul, reduceIte, Nat.reduceEqDiff, Nat.reduceAdd, Nat.reduceMul, Nat.reduceLeDiff, eq_self]
end
