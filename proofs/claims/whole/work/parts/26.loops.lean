/-! loops: sums and counts over a row -/
def sumI (f : Nat → Int32) : Nat → Nat → Int32 → Int32
  | _, 0, a => a
  | i, n + 1, a => sumI f (i + 1) n (a + f i)
section
variable {d : Nat} {σ : Hp}
theorem C_rainy_go (h : FxC σ) : ∀ (n i : Nat) (a : Int32), i + n = 28 → den (d, 78, 4, [.ref 1, .int a, .int (nI i)], [], σ) = some (some (.int (sumI (hI σ 3) i n a)), σ) := by
  unfold FxC at h
  intro n
  induction n with
  | zero =>
    intro i a hi
    obtain rfl : i = 28 := by omega
    rw [a78_4]
    simp (disch := omega) only [A78, h, sumI, Nat.le_refl, CO, HA, HB, HC, Nat.not_lt_zero, Nat.add_assoc, c_nlt, c_nle, c_neq, c_P, c_cl, c_m1, c_m1', nI_add, pk_mul, reduceIte, Nat.reduceEqDiff, Nat.reduceAdd, Nat.reduceMul, Nat.reduceLeDiff, eq_self]
  | succ n ih =>
    intro i a hi
    have hlt : i < 28 := by omega
    have hn : (28 ≤ i) = False := by simp; omega
    rw [a78_4]
    simp (disch := omega) only [A78, h, hn, CO, HA, HB, HC, Nat.not_lt_zero, Nat.add_assoc, c_nlt, c_nle, c_neq, c_P, c_cl, c_m1, c_m1', nI_add, pk_mul, reduceIte, Nat.reduceEqDiff, Nat.reduceAdd, Nat.reduceMul, Nat.reduceLeDiff, eq_self]
    rw [ih (i + 1) _ (by omega)]
    rfl
theorem C_rainy (h : FxC σ) : den (d, 78, 0, [.ref 1, .float 0, .float 0], [], σ) = some (some (.int (sumI (hI σ 3) 0 28 (nI 0))), σ) := by
  simp (disch := omega) only [A78, CO, HA, HB, HC, Nat.not_lt_zero, Nat.add_assoc, c_nlt, c_nle, c_neq, c_P, c_cl, c_m1, c_m1', nI_add, pk_mul, reduceIte, Nat.reduceEqDiff, Nat.reduceAdd, Nat.reduceMul, Nat.reduceLeDiff, eq_self]
  exact C_rainy_go h 28 0 (nI 0) rfl
end
