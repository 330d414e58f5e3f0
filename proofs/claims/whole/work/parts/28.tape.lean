/-! the tape: put and four, feed on both sides -/
/-- the byte of x that begins at bit s -/
def byt (x : Int32) (s : Nat) : Int32 := (x >>> (nI s &&& 31)) &&& nI 255
theorem byt_u (x : Int32) {s : Nat} (hs : s ≤ 24) : ((x.toUInt32 >>> ((nI s).toUInt32 &&& Int32.toUInt32 31)).toInt32 &&& nI 255) = byt x s := by
  refine b_ext fun i hi => ?_
  unfold byt
  have e : (nI 255 : Int32) = 255 := rfl
  rw [b_and, b_and, b_ushr s (by omega) x i, b_sshr s (by omega) x hi, e, b_255]
  by_cases h : i < 8
  · rw [if_pos (by omega)]
  · simp [h]
theorem byt_lt (x : Int32) (s : Nat) : ∃ b, b < 256 ∧ byt x s = nI b := by
  obtain ⟨j, hj, e⟩ := pk_andE (x >>> (nI s &&& 31)) (m := nI 255) 8 (by decide)
  exact ⟨j, hj, e⟩
/-- a row behind four bytes -/
def up4 (f : Nat → Int32) (t : Nat) (x : Int32) : Nat → Int32 := upd (upd (upd (upd f t (byt x 24)) (t + 1) (byt x 16)) (t + 2) (byt x 8)) (t + 3) (byt x 0)
section
variable {d : Nat} {σ : Hp}
theorem s_m8 : nI 24 + (-8) = nI 16 ∧ nI 16 + (-8) = nI 8 ∧ nI 8 + (-8) = nI 0 ∧ (nI 0 + (-8 : Int32) < nI 0) = True ∧ (nI 0 ≤ nI 0 + (-8 : Int32)) = False := by
  refine ⟨by decide, by decide, by decide, ?_, ?_⟩
  · rw [eq_iff_iff, iff_true]; decide
  · rw [eq_iff_iff, iff_false]; decide
theorem M_four (h : FxM σ) {t : Nat} (ht : hF σ 57 8 = .int (nI t)) (ht4 : t + 4 ≤ 400) (x : Int32) : den (d, 146, 0, [.ref 57, .int x, .float 0], [], σ) = some (none, sF (sI σ 62 (up4 (hI σ 62) t x)) 57 8 (.int (nI (t + 4)))) := by
  unfold FxM at h
  simp (disch := omega) only [A146, h, ht, CO, HA, HB, HC, Nat.not_lt_zero, Nat.add_assoc, c_nlt, c_nle, c_neq, c_P, c_cl, c_m1, c_m1', nI_add, pk_mul, reduceIte, Nat.reduceEqDiff, Nat.reduceAdd, Nat.reduceMul, Nat.reduceLeDiff, eq_self]
  rw [a146_3]
  simp (disch := omega) only [A146, h, ht, s_m8, CO, HA, HB, HC, Nat.not_lt_zero, Nat.add_assoc, c_nlt, c_nle, c_neq, c_P, c_cl, c_m1, c_m1', nI_add, pk_mul, reduceIte, Nat.reduceEqDiff, Nat.reduceAdd, Nat.reduceMul, Nat.reduceLeDiff, eq_self]
  rw [a146_3]
  simp (disch := omega) only [A146, h, ht, s_m8, CO, HA, HB, HC, Nat.not_lt_zero, Nat.add_assoc, c_nlt, c_nle, c_neq, c_P, c_cl, c_m1, c_m1', nI_add, pk_mul, reduceIte, Nat.reduceEqDiff, Nat.reduceAdd, Nat.reduceMul, Nat.reduceLeDiff, eq_self]
  rw [a146_3]
  simp (disch := omega) only [A146, h, ht, s_m8, CO, HA, HB, HC, Nat.not_lt_zero, Nat.add_assoc, c_nlt, c_nle, c_neq, c_P, c_cl, c_m1, c_m1', nI_add, pk_mul, reduceIte, Nat.reduceEqDiff, Nat.reduceAdd, Nat.reduceMul, Nat.reduceLeDiff, eq_self]
  rw [a146_3]
  simp (disch := omega) only [A146, h, ht, s_m8, CO, HA, HB, HC, Nat.not_lt_zero, Nat.add_assoc, c_nlt, c_nle, c_neq, c_P, c_cl, c_m1, c_m1', nI_add, pk_mul, reduceIte, Nat.reduceEqDiff, Nat.reduceAdd, Nat.reduceMul, Nat.reduceLeDiff, eq_self]
  rw [a146_3]
  simp (disch := omega) only [A146, h, ht, s_m8, CO, HA, HB, HC, Nat.not_lt_zero, Nat.add_assoc, c_nlt, c_nle, c_neq, c_P, c_cl, c_m1, c_m1', nI_add, pk_mul, reduceIte, Nat.reduceEqDiff, Nat.reduceAdd, Nat.reduceMul, Nat.reduceLeDiff, eq_self]
  rfl
theorem C_put (h : FxC σ) {t : Nat} (ht : hF σ 16 1 = .int (nI t)) (ht4 : t + 4 ≤ 400) (x : Int32) : den (d, 81, 0, [.ref 16, .int x, .float 0], [], σ) = some (none, sF (sI σ 17 (up4 (hI σ 17) t x)) 16 1 (.int (nI (t + 4)))) := by
  have e0 : (400 ≤ t) = False := by rw [eq_iff_iff, iff_false]; omega
  have e1 : (400 ≤ t + 1) = False := by rw [eq_iff_iff, iff_false]; omega
  have e2 : (400 ≤ t + 2) = False := by rw [eq_iff_iff, iff_false]; omega
  have e3 : (400 ≤ t + 3) = False := by rw [eq_iff_iff, iff_false]; omega
  unfold FxC at h
  simp (disch := omega) only [A81, h, ht, CO, HA, HB, HC, Nat.not_lt_zero, Nat.add_assoc, c_nlt, c_nle, c_neq, c_P, c_cl, c_m1, c_m1', nI_add, pk_mul, reduceIte, Nat.reduceEqDiff, Nat.reduceAdd, Nat.reduceMul, Nat.reduceLeDiff, eq_self]
  rw [a81_3]
  simp (disch := omega) only [A81, h, ht, s_m8, e0, e1, e2, e3, byt_u, CO, HA, HB, HC, Nat.not_lt_zero, Nat.add_assoc, c_nlt, c_nle, c_neq, c_P, c_cl, c_m1, c_m1', nI_add, pk_mul, reduceIte, Nat.reduceEqDiff, Nat.reduceAdd, Nat.reduceMul, Nat.reduceLeDiff, eq_self]
  rw [a81_3]
  simp (disch := omega) only [A81, h, ht, s_m8, e0, e1, e2, e3, byt_u, CO, HA, HB, HC, Nat.not_lt_zero, Nat.add_assoc, c_nlt, c_nle, c_neq, c_P, c_cl, c_m1, c_m1', nI_add, pk_mul, reduceIte, Nat.reduceEqDiff, Nat.reduceAdd, Nat.reduceMul, Nat.reduceLeDiff, eq_self]
  rw [a81_3]
  simp (disch := omega) only [A81, h, ht, s_m8, e0, e1, e2, e3, byt_u, CO, HA, HB, HC, Nat.not_lt_zero, Nat.add_assoc, c_nlt, c_nle, c_neq, c_P, c_cl, c_m1, c_m1', nI_add, pk_mul, reduceIte, Nat.reduceEqDiff, Nat.reduceAdd, Nat.reduceMul, Nat.reduceLeDiff, eq_self]
  rw [a81_3]
  simp (disch := omega) only [A81, h, ht, s_m8, e0, e1, e2, e3, byt_u, CO, HA, HB, HC, Nat.not_lt_zero, Nat.add_assoc, c_nlt, c_nle, c_neq, c_P, c_cl, c_m1, c_m1', nI_add, pk_mul, reduceIte, Nat.reduceEqDiff, Nat.reduceAdd, Nat.reduceMul, Nat.reduceLeDiff, eq_self]
  rw [a81_3]
  simp (disch := omega) only [A81, h, ht, s_m8, e0, e1, e2, e3, byt_u, CO, HA, HB, HC, Nat.not_lt_zero, Nat.add_assoc, c_nlt, c_nle, c_neq, c_P, c_cl, c_m1, c_m1', nI_add, pk_mul, reduceIte, Nat.reduceEqDiff, Nat.reduceAdd, Nat.reduceMul, Nat.reduceLeDiff, eq_self]
  rfl
end
