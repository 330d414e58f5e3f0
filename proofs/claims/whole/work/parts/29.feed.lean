/-! feed on both sides -/
def up20 (f : Nat → Int32) (t : Nat) (a b c e g : Int32) : Nat → Int32 := up4 (up4 (up4 (up4 (up4 f t a) (t + 4) b) (t + 8) c) (t + 12) e) (t + 16) g
section
variable {d : Nat} {σ : Hp}
theorem C_put' (h : FxC σ) (x : Int32) (f : Nat → Int32) (n : Nat) (hn : n + 4 ≤ 400) : den (d, 81, 0, [.ref 16, .int x, .float 0], [], sF (sI σ 17 f) 16 1 (.int (nI n))) = some (none, sF (sI σ 17 (up4 f n x)) 16 1 (.int (nI (n + 4)))) := by
  rw [C_put (FxC_sF (σ := sI σ 17 f) h (by decide)) (by simp only [HA, reduceIte, and_self]) hn]
  simp only [HA, HC, reduceIte]
theorem M_four' (h : FxM σ) (v x : Int32) (f : Nat → Int32) (n : Nat) (hn : n + 4 ≤ 400) : den (d, 146, 0, [.ref 57, .int x, .float 0], [], sF (sF (sI σ 62 f) 57 0 (.int v)) 57 8 (.int (nI n))) = some (none, sF (sF (sI σ 62 (up4 f n x)) 57 0 (.int v)) 57 8 (.int (nI (n + 4)))) := by
  rw [M_four (FxM_sF (FxM_sF (σ := sI σ 62 f) h (Or.inr (by decide))) (Or.inr (by decide))) (by simp only [HA, reduceIte, and_self]) hn]
  simp only [HA, HC, reduceIte]
theorem C_feed (h : FxC σ) {t : Nat} (ht : hF σ 16 1 = .int (nI t)) (hle : t ≤ 400) (a b c e g : Int32) : den (d + 1, 85, 0, [.ref 0, .int a, .int b, .int c, .int e, .int g], [], σ) = if t + 20 ≤ 400 then some (some (.int (nI (t + 20))), sF (sI σ 17 (up20 (hI σ 17) t a b c e g)) 16 1 (.int (nI (t + 20)))) else some (some (.int (-1)), σ) := by
  have h0 := h
  unfold FxC at h
  by_cases h20 : t + 20 ≤ 400
  · simp (disch := omega) only [A85, h, ht, h20, C_put h0 ht (show t + 4 ≤ 400 by omega) a, C_put' h0, CO, HA, HB, HC, Nat.not_lt_zero, Nat.add_assoc, c_nlt, c_nle, c_neq, c_P, c_cl, c_m1, c_m1', nI_add, pk_mul, reduceIte, Nat.reduceEqDiff, Nat.reduceAdd, Nat.reduceMul, Nat.reduceLeDiff, eq_self]
    rfl
  · simp (disch := omega) only [A85, h, ht, h20, CO, HA, HB, HC, Nat.not_lt_zero, Nat.add_assoc, c_nlt, c_nle, c_neq, c_P, c_cl, c_m1, c_m1', nI_add, pk_mul, reduceIte, Nat.reduceEqDiff, Nat.reduceAdd, Nat.reduceMul, Nat.reduceLeDiff, eq_self]
theorem M_feed (h : FxM σ) {t : Nat} (ht : hF σ 57 8 = .int (nI t)) (hle : t ≤ 400) (a b c e g : Int32) : den (d + 1, 147, 0, [.ref 57, .int a, .int b, .int c, .int e, .int g], [], σ) = if t + 20 ≤ 400 then some (some (.int (nI (t + 20))), sF (sF (sI σ 62 (up20 (hI σ 62) t a b c e g)) 57 0 (.int (nI 0))) 57 8 (.int (nI (t + 20)))) else some (some (.int (-1)), sF σ 57 0 (.int (nI 0))) := by
  have h0 := h
  have h00 : FxM (sF σ 57 0 (.int (nI 0))) := FxM_sF h (Or.inr (by decide))
  have ht0 : hF (sF σ 57 0 (.int (nI 0))) 57 8 = .int (nI t) := by simp only [HA, Nat.reduceEqDiff, and_false, reduceIte, ht]
  unfold FxM at h
  by_cases h20 : t + 20 ≤ 400
  · have h4 : t + 4 ≤ 400 := by omega
    simp (disch := omega) only [A147, h, ht, h20, M_four h00 ht0 h4 a, M_four' h0, CO, HA, HB, HC, Nat.not_lt_zero, Nat.add_assoc, c_nlt, c_nle, c_neq, c_P, c_cl, c_m1, c_m1', nI_add, pk_mul, reduceIte, Nat.reduceEqDiff, Nat.reduceAdd, Nat.reduceMul, Nat.reduceLeDiff, eq_self]
    rfl
  · simp (disch := omega) only [A147, h, ht, h20, CO, HA, HB, HC, Nat.not_lt_zero, Nat.add_assoc, c_nlt, c_nle, c_neq, c_P, c_cl, c_m1, c_m1', nI_add, pk_mul, reduceIte, Nat.reduceEqDiff, Nat.reduceAdd, Nat.reduceMul, Nat.reduceLeDiff, eq_self]
end
