/-! small methods of the model and of the class: what they come to, as equations -/
section
variable {d : Nat} {σ : Hp}
-- the model
theorem M_in (v lo hi : Int64) : den (d, 133, 0, [.long v, .float 0, .long lo, .float 0, .long hi, .float 0], [], σ) = some (some (.int (if lo ≤ v ∧ v ≤ hi then nI 1 else nI 0)), σ) := by
  simp only [A133, lg_cmp_lt, lg_cmp_gt, nI_0, CO]
  have e1 : (v < lo) = ¬ lo ≤ v := by simp [Int64.not_le]
  have e2 : (hi < v) = ¬ v ≤ hi := by simp [Int64.not_le]
  simp only [e1, e2]
  by_cases h1 : lo ≤ v <;> by_cases h2 : v ≤ hi <;> simp [h1, h2, nI_0]
theorem M_was (h : FxM σ) (v : Int32) : den (d, 136, 0, [.ref 57, .int v], [], σ) = some (some (.int v), sF σ 57 1 (.int (nI 0))) := by
  unfold FxM at h
  simp (disch := omega) only [A136, h, CO, HA, HB, HC, Nat.not_lt_zero, Nat.add_assoc, c_nlt, c_nle, c_neq, c_P, c_cl, c_m1, c_m1', nI_add, pk_mul, reduceIte, Nat.reduceEqDiff, Nat.reduceAdd, Nat.reduceMul, Nat.reduceLeDiff, eq_self]
theorem M_villages (h : FxM σ) : den (d, 139, 0, [.ref 57], [], σ) = some (some (.int (hI σ 59 0)), σ) := by
  unfold FxM at h
  simp (disch := omega) only [A139, h, CO, HA, HB, HC, Nat.not_lt_zero, Nat.add_assoc, c_nlt, c_nle, c_neq, c_P, c_cl, c_m1, c_m1', nI_add, pk_mul, reduceIte, Nat.reduceEqDiff, Nat.reduceAdd, Nat.reduceMul, Nat.reduceLeDiff, eq_self]
theorem M_fog (h : FxM σ) {x : Int32} (hx : hF σ 57 6 = .int x) : den (d, 145, 0, [.ref 57], [], σ) = some (some (.int x), sF σ 57 0 (.int (nI 0))) := by
  unfold FxM at h
  simp (disch := omega) only [A145, h, hx, CO, HA, HB, HC, Nat.not_lt_zero, Nat.add_assoc, c_nlt, c_nle, c_neq, c_P, c_cl, c_m1, c_m1', nI_add, pk_mul, reduceIte, Nat.reduceEqDiff, Nat.reduceAdd, Nat.reduceMul, Nat.reduceLeDiff, eq_self]
theorem M_status (h : FxM σ) {x : Int32} (hx : hF σ 57 1 = .int x) : den (d, 223, 0, [.ref 57], [], σ) = some (some (.int x), sF σ 57 0 (.int (nI 0))) := by
  unfold FxM at h
  simp (disch := omega) only [A223, h, hx, CO, HA, HB, HC, Nat.not_lt_zero, Nat.add_assoc, c_nlt, c_nle, c_neq, c_P, c_cl, c_m1, c_m1', nI_add, pk_mul, reduceIte, Nat.reduceEqDiff, Nat.reduceAdd, Nat.reduceMul, Nat.reduceLeDiff, eq_self]
theorem M_fault (h : FxM σ) {x : Int32} (hx : hF σ 57 13 = .int x) : den (d, 156, 0, [.ref 57], [], σ) = some (some (.int x), sF σ 57 0 (.int (nI 0))) := by
  unfold FxM at h
  simp (disch := omega) only [A156, h, hx, CO, HA, HB, HC, Nat.not_lt_zero, Nat.add_assoc, c_nlt, c_nle, c_neq, c_P, c_cl, c_m1, c_m1', nI_add, pk_mul, reduceIte, Nat.reduceEqDiff, Nat.reduceAdd, Nat.reduceMul, Nat.reduceLeDiff, eq_self]
theorem M_end (h : FxM σ) {t : Int32} (ht : hF σ 57 8 = .int t) (n : Int32) : den (d, 148, 0, [.ref 57, .int n], [], σ) = if n < nI 0 then some (some (.int (-1)), sF σ 57 0 (.int (nI 0))) else if n ≤ t then some (some (.int n), sF (sF σ 57 0 (.int (nI 0))) 57 8 (.int n)) else some (some (.int (-1)), sF σ 57 0 (.int (nI 0))) := by
  unfold FxM at h
  simp (disch := omega) only [A148, h, ht, CO, HA, HB, HC, Nat.not_lt_zero, Nat.add_assoc, c_nlt, c_nle, c_neq, c_P, c_cl, c_m1, c_m1', nI_add, pk_mul, reduceIte, Nat.reduceEqDiff, Nat.reduceAdd, Nat.reduceMul, Nat.reduceLeDiff, eq_self]
-- the class
theorem C_fog (h : FxC σ) {x : Int32} (hx : hF σ 0 12 = .int x) : den (d, 88, 0, [.ref 0], [], σ) = some (some (.int x), σ) := by
  unfold FxC at h
  simp (disch := omega) only [A88, h, hx, CO, HA, HB, HC, Nat.not_lt_zero, Nat.add_assoc, c_nlt, c_nle, c_neq, c_P, c_cl, c_m1, c_m1', nI_add, pk_mul, reduceIte, Nat.reduceEqDiff, Nat.reduceAdd, Nat.reduceMul, Nat.reduceLeDiff, eq_self]
theorem C_status (h : FxC σ) {x : Int32} (hx : hF σ 0 11 = .int x) : den (d, 118, 0, [.ref 0], [], σ) = some (some (.int x), σ) := by
  unfold FxC at h
  simp (disch := omega) only [A118, h, hx, CO, HA, HB, HC, Nat.not_lt_zero, Nat.add_assoc, c_nlt, c_nle, c_neq, c_P, c_cl, c_m1, c_m1', nI_add, pk_mul, reduceIte, Nat.reduceEqDiff, Nat.reduceAdd, Nat.reduceMul, Nat.reduceLeDiff, eq_self]
theorem C_fault (h : FxC σ) {x : Int32} (hx : hF σ 0 13 = .int x) : den (d, 90, 0, [.ref 0], [], σ) = some (some (.int x), σ) := by
  unfold FxC at h
  simp (disch := omega) only [A90, h, hx, CO, HA, HB, HC, Nat.not_lt_zero, Nat.add_assoc, c_nlt, c_nle, c_neq, c_P, c_cl, c_m1, c_m1', nI_add, pk_mul, reduceIte, Nat.reduceEqDiff, Nat.reduceAdd, Nat.reduceMul, Nat.reduceLeDiff, eq_self]
theorem C_end (h : FxC σ) {t : Int32} (ht : hF σ 16 1 = .int t) (n : Int32) : den (d, 86, 0, [.ref 0, .int n], [], σ) = if n < nI 0 then some (some (.int (-1)), σ) else if n ≤ t then some (some (.int n), sF σ 16 1 (.int n)) else some (some (.int (-1)), σ) := by
  unfold FxC at h
  simp (disch := omega) only [A86, h, ht, CO, HA, HB, HC, Nat.not_lt_zero, Nat.add_assoc, c_nlt, c_nle, c_neq, c_P, c_cl, c_m1, c_m1', nI_add, pk_mul, reduceIte, Nat.reduceEqDiff, Nat.reduceAdd, Nat.reduceMul, Nat.reduceLeDiff, eq_self]
theorem C_accept (h : FxC σ) (v : Int32) : den (d, 119, 0, [.ref 0, .int v], [], σ) = some (some (.int v), sF σ 0 11 (.int (nI 0))) := by
  unfold FxC at h
  simp (disch := omega) only [A119, h, CO, HA, HB, HC, Nat.not_lt_zero, Nat.add_assoc, c_nlt, c_nle, c_neq, c_P, c_cl, c_m1, c_m1', nI_add, pk_mul, reduceIte, Nat.reduceEqDiff, Nat.reduceAdd, Nat.reduceMul, Nat.reduceLeDiff, eq_self]
theorem C_isDay (x : Int32) : den (d, 123, 0, [.int x], [], σ) = some (some (.int (if x < nI 0 then nI 0 else if nI 28 ≤ x then nI 0 else nI 1)), σ) := by
  simp (disch := omega) only [A123, CO, HA, HB, HC, Nat.not_lt_zero, Nat.add_assoc, c_nlt, c_nle, c_neq, c_P, c_cl, c_m1, c_m1', nI_add, pk_mul, reduceIte, Nat.reduceEqDiff, Nat.reduceAdd, Nat.reduceMul, Nat.reduceLeDiff, eq_self]
  by_cases h1 : x < nI 0 <;> by_cases h2 : nI 28 ≤ x <;> simp only [h1, h2, reduceIte]
end
