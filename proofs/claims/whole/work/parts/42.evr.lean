/-! a step of code, in the class -/
theorem lc_ge {x y : Int64} : (nI 0 ≤ lg_cmp x y) = (y ≤ x) := by
  rw [show nI 0 = 0 from nI_0, eq_iff_iff, ← Int32.not_lt, lg_cmp_lt, Int64.not_lt]
theorem lc_gt {x y : Int64} : (nI 0 < lg_cmp x y) = (y < x) := by
  rw [show nI 0 = 0 from nI_0, eq_iff_iff, lg_cmp_gt]
theorem lc_lt {x y : Int64} : (lg_cmp x y < nI 0) = (x < y) := by
  rw [show nI 0 = 0 from nI_0, eq_iff_iff, lg_cmp_lt]
theorem lc_le {x y : Int64} : (lg_cmp x y ≤ nI 0) = (x ≤ y) := by
  rw [show nI 0 = 0 from nI_0, eq_iff_iff, ← Int32.not_lt, lg_cmp_gt, Int64.not_lt]
theorem lc_eq {x y : Int64} : (lg_cmp x y = nI 0) = (x = y) := by
  rw [eq_iff_iff]
  have h1 := @lc_ge x y
  have h2 := @lc_le x y
  constructor
  · intro e
    rw [e] at h1 h2
    have g1 : y ≤ x := by rw [← h1]; exact Int32.le_refl _
    have g2 : x ≤ y := by rw [← h2]; exact Int32.le_refl _
    exact Int64.le_antisymm g2 g1
  · intro e
    subst e
    have g1 : nI 0 ≤ lg_cmp x x := by rw [h1]; exact Int64.le_refl _
    have g2 : lg_cmp x x ≤ nI 0 := by rw [h2]; exact Int64.le_refl _
    exact Int32.le_antisymm g2 g1
def opC (o : Nat) : Int32 := zI (-10 - (o : Int))
section
variable {d n : Nat} {s : Nat → Int} {σ τ : Hp}
theorem C_run_op (h : FxC τ) (hs : StkC τ (n + 2) s) (hn : n + 2 ≤ 64) {o : Nat} (ho : o < 7) : ∃ υ, den (d + 1, 36, 0, [.ref 18, .int (opC o), .float 0, .float 0, .float 0, .float 0], [], τ) = some (some (.int (if (bop o (s n) (s (n + 1))).isSome = true then nI 1 else nI 0)), υ) ∧ Qk τ υ ∧ ∀ z, bop o (s n) (s (n + 1)) = some z → StkC υ (n + 1) (ud s n z) := by
  obtain ⟨p1, s1⟩ := C_pull (d := d) (n := n + 1) h hs (by omega)
  have h1 : FxC (sF τ 18 2 (.int (nI (n + 1)))) := FxC_sF h (by decide)
  obtain ⟨p2, s2⟩ := C_pull (d := d) (n := n) h1 s1 (by omega)
  rw [sF_sF] at p2 s2
  have h2 : FxC (sF τ 18 2 (.int (nI n))) := FxC_sF h (by decide)
  have hq2 : Qk τ (sF τ 18 2 (.int (nI n))) := Ag_F Ag_r rfl
  have b0 := (hs.2 n (by omega)).2
  have b1 := (hs.2 (n + 1) (by omega)).2
  have b0' : -1000000000 ≤ s n ∧ s n ≤ 1000000000 := b0
  have b1' : -1000000000 ≤ s (n + 1) ∧ s (n + 1) ≤ 1000000000 := b1
  have b0L : -9223372036854775808 ≤ s n ∧ s n < 9223372036854775808 := by omega
  have b1L : -9223372036854775808 ≤ s (n + 1) ∧ s (n + 1) < 9223372036854775808 := by omega
  obtain rfl | rfl | rfl | rfl | rfl | rfl | rfl : o = 0 ∨ o = 1 ∨ o = 2 ∨ o = 3 ∨ o = 4 ∨ o = 5 ∨ o = 6 := by omega
  · rw [show opC 0 = (-10 : Int32) from rfl]
    obtain ⟨υ, e, q, k⟩ := C_lay (d := d) (z := s n + s (n + 1)) h2 s2 (by omega) ⟨by omega, by omega⟩
    refine ⟨υ, ?_, Ag_t hq2 q, ?_⟩
    · by_cases b : Bz (s n + s (n + 1))
      · rw [if_pos b] at e
        simp (disch := first | omega | (repeat (first | assumption | exact Ag_r | refine Ag_I ?_ rfl | refine Ag_F ?_ rfl | refine Ag_J ?_ rfl))) only [A36, FC h, p1, p2, zI_L, show ((-10 : Int32) < nI 0) = True from eq_true (by decide), show ((-10 : Int32) < -8) = True from eq_true (by decide), show ((-10 : Int32) = -17) = False from eq_false (by decide), zL_add, e, bop, if_pos b, Option.isSome_some, CO, HA, HB, HC, Nat.not_lt_zero, Nat.add_assoc, c_nlt, c_nle, c_neq, c_P, c_cl, c_m1, c_m1', nI_add, pk_mul, reduceIte, Nat.reduceEqDiff, Nat.reduceAdd, Nat.reduceMul, Nat.reduceLeDiff, eq_self, ↓pk_rem, pk_div, c_of, d_le, d_nle, d_lt, d_nlt, d_eq, d_ne]
      · rw [if_neg b] at e
        simp (disch := first | omega | (repeat (first | assumption | exact Ag_r | refine Ag_I ?_ rfl | refine Ag_F ?_ rfl | refine Ag_J ?_ rfl))) only [A36, FC h, p1, p2, zI_L, show ((-10 : Int32) < nI 0) = True from eq_true (by decide), show ((-10 : Int32) < -8) = True from eq_true (by decide), show ((-10 : Int32) = -17) = False from eq_false (by decide), zL_add, e, bop, if_neg b, Option.isSome_none, Bool.false_eq_true, CO, HA, HB, HC, Nat.not_lt_zero, Nat.add_assoc, c_nlt, c_nle, c_neq, c_P, c_cl, c_m1, c_m1', nI_add, pk_mul, reduceIte, Nat.reduceEqDiff, Nat.reduceAdd, Nat.reduceMul, Nat.reduceLeDiff, eq_self, ↓pk_rem, pk_div, c_of, d_le, d_nle, d_lt, d_nlt, d_eq, d_ne]
    · intro z hz
      simp only [bop, reduceIte, Nat.reduceEqDiff] at hz
      split at hz
      · next b => cases hz; exact k b
      · cases hz
  · rw [show opC 1 = (-11 : Int32) from rfl]
    obtain ⟨υ, e, q, k⟩ := C_lay (d := d) (z := s n - s (n + 1)) h2 s2 (by omega) ⟨by omega, by omega⟩
    refine ⟨υ, ?_, Ag_t hq2 q, ?_⟩
    · by_cases b : Bz (s n - s (n + 1))
      · rw [if_pos b] at e
        simp (disch := first | omega | (repeat (first | assumption | exact Ag_r | refine Ag_I ?_ rfl | refine Ag_F ?_ rfl | refine Ag_J ?_ rfl))) only [A36, FC h, p1, p2, zI_L, show ((-11 : Int32) < nI 0) = True from eq_true (by decide), show ((-11 : Int32) < -8) = True from eq_true (by decide), show ((-11 : Int32) = -17) = False from eq_false (by decide), zL_sub, e, bop, if_pos b, Option.isSome_some, CO, HA, HB, HC, Nat.not_lt_zero, Nat.add_assoc, c_nlt, c_nle, c_neq, c_P, c_cl, c_m1, c_m1', nI_add, pk_mul, reduceIte, Nat.reduceEqDiff, Nat.reduceAdd, Nat.reduceMul, Nat.reduceLeDiff, eq_self, ↓pk_rem, pk_div, c_of, d_le, d_nle, d_lt, d_nlt, d_eq, d_ne]
      · rw [if_neg b] at e
        simp (disch := first | omega | (repeat (first | assumption | exact Ag_r | refine Ag_I ?_ rfl | refine Ag_F ?_ rfl | refine Ag_J ?_ rfl))) only [A36, FC h, p1, p2, zI_L, show ((-11 : Int32) < nI 0) = True from eq_true (by decide), show ((-11 : Int32) < -8) = True from eq_true (by decide), show ((-11 : Int32) = -17) = False from eq_false (by decide), zL_sub, e, bop, if_neg b, Option.isSome_none, Bool.false_eq_true, CO, HA, HB, HC, Nat.not_lt_zero, Nat.add_assoc, c_nlt, c_nle, c_neq, c_P, c_cl, c_m1, c_m1', nI_add, pk_mul, reduceIte, Nat.reduceEqDiff, Nat.reduceAdd, Nat.reduceMul, Nat.reduceLeDiff, eq_self, ↓pk_rem, pk_div, c_of, d_le, d_nle, d_lt, d_nlt, d_eq, d_ne]
    · intro z hz
      simp only [bop, reduceIte, Nat.reduceEqDiff] at hz
      split at hz
      · next b => cases hz; exact k b
      · cases hz
  · rw [show opC 2 = (-12 : Int32) from rfl]
    obtain ⟨υ, e, q, k⟩ := C_lay (d := d) (z := s n * s (n + 1)) h2 s2 (by omega) (by have := mul_B b0 b1; omega)
    refine ⟨υ, ?_, Ag_t hq2 q, ?_⟩
    · by_cases b : Bz (s n * s (n + 1))
      · rw [if_pos b] at e
        simp (disch := first | omega | (repeat (first | assumption | exact Ag_r | refine Ag_I ?_ rfl | refine Ag_F ?_ rfl | refine Ag_J ?_ rfl))) only [A36, FC h, p1, p2, zI_L, show ((-12 : Int32) < nI 0) = True from eq_true (by decide), show ((-12 : Int32) < -8) = True from eq_true (by decide), show ((-12 : Int32) = -17) = False from eq_false (by decide), zL_mul, e, bop, if_pos b, Option.isSome_some, CO, HA, HB, HC, Nat.not_lt_zero, Nat.add_assoc, c_nlt, c_nle, c_neq, c_P, c_cl, c_m1, c_m1', nI_add, pk_mul, reduceIte, Nat.reduceEqDiff, Nat.reduceAdd, Nat.reduceMul, Nat.reduceLeDiff, eq_self, ↓pk_rem, pk_div, c_of, d_le, d_nle, d_lt, d_nlt, d_eq, d_ne]
      · rw [if_neg b] at e
        simp (disch := first | omega | (repeat (first | assumption | exact Ag_r | refine Ag_I ?_ rfl | refine Ag_F ?_ rfl | refine Ag_J ?_ rfl))) only [A36, FC h, p1, p2, zI_L, show ((-12 : Int32) < nI 0) = True from eq_true (by decide), show ((-12 : Int32) < -8) = True from eq_true (by decide), show ((-12 : Int32) = -17) = False from eq_false (by decide), zL_mul, e, bop, if_neg b, Option.isSome_none, Bool.false_eq_true, CO, HA, HB, HC, Nat.not_lt_zero, Nat.add_assoc, c_nlt, c_nle, c_neq, c_P, c_cl, c_m1, c_m1', nI_add, pk_mul, reduceIte, Nat.reduceEqDiff, Nat.reduceAdd, Nat.reduceMul, Nat.reduceLeDiff, eq_self, ↓pk_rem, pk_div, c_of, d_le, d_nle, d_lt, d_nlt, d_eq, d_ne]
    · intro z hz
      simp only [bop, reduceIte, Nat.reduceEqDiff] at hz
      split at hz
      · next b => cases hz; exact k b
      · cases hz
  · rw [show opC 3 = (-13 : Int32) from rfl]
    have e0 : (zL (s (n + 1)) = lN 0) = (s (n + 1) = 0) := by rw [show lN 0 = zL 0 from rfl, zL_eq (by omega) (by omega)]
    by_cases y0 : s (n + 1) = 0
    · refine ⟨sF τ 18 2 (.int (nI n)), ?_, hq2, ?_⟩
      · simp (disch := first | omega | (repeat (first | assumption | exact Ag_r | refine Ag_I ?_ rfl | refine Ag_F ?_ rfl | refine Ag_J ?_ rfl))) only [A36, FC h, p1, p2, zI_L, show ((-13 : Int32) < nI 0) = True from eq_true (by decide), show ((-13 : Int32) < -8) = True from eq_true (by decide), show ((-13 : Int32) = -17) = False from eq_false (by decide), lc_eq, e0, eq_true y0, bop, if_pos y0, Option.isSome_none, Bool.false_eq_true, CO, HA, HB, HC, Nat.not_lt_zero, Nat.add_assoc, c_nlt, c_nle, c_neq, c_P, c_cl, c_m1, c_m1', nI_add, pk_mul, reduceIte, Nat.reduceEqDiff, Nat.reduceAdd, Nat.reduceMul, Nat.reduceLeDiff, eq_self, ↓pk_rem, pk_div, c_of, d_le, d_nle, d_lt, d_nlt, d_eq, d_ne]
      · intro z hz
        simp only [bop, reduceIte, Nat.reduceEqDiff, if_pos y0] at hz
        cases hz
    · have tb := tdiv_B b0 y0
      obtain ⟨υ, e, q, k⟩ := C_lay (d := d) (z := (s n).tdiv (s (n + 1))) h2 s2 (by omega) (by unfold Bz at tb; omega)
      rw [if_pos tb] at e
      refine ⟨υ, ?_, Ag_t hq2 q, ?_⟩
      · simp (disch := first | omega | (repeat (first | assumption | exact Ag_r | refine Ag_I ?_ rfl | refine Ag_F ?_ rfl | refine Ag_J ?_ rfl))) only [A36, FC h, p1, p2, zI_L, show ((-13 : Int32) < nI 0) = True from eq_true (by decide), show ((-13 : Int32) < -8) = True from eq_true (by decide), show ((-13 : Int32) = -17) = False from eq_false (by decide), lc_eq, e0, eq_false y0, zL_div b0 b1, e, bop, if_neg y0, Option.isSome_some, CO, HA, HB, HC, Nat.not_lt_zero, Nat.add_assoc, c_nlt, c_nle, c_neq, c_P, c_cl, c_m1, c_m1', nI_add, pk_mul, reduceIte, Nat.reduceEqDiff, Nat.reduceAdd, Nat.reduceMul, Nat.reduceLeDiff, eq_self, ↓pk_rem, pk_div, c_of, d_le, d_nle, d_lt, d_nlt, d_eq, d_ne]
      · intro z hz
        simp only [bop, reduceIte, Nat.reduceEqDiff, if_neg y0] at hz
        cases hz
        exact k tb
  · rw [show opC 4 = (-14 : Int32) from rfl]
    by_cases c : s n < s (n + 1)
    · obtain ⟨υ, e, q, k⟩ := C_lay (d := d) (z := 1) h2 s2 (by omega) (by omega)
      rw [show zL 1 = lN 1 from rfl, if_pos (by omega)] at e
      refine ⟨υ, ?_, Ag_t hq2 q, ?_⟩
      · simp (disch := first | omega | (repeat (first | assumption | exact Ag_r | refine Ag_I ?_ rfl | refine Ag_F ?_ rfl | refine Ag_J ?_ rfl))) only [A36, FC h, p1, p2, zI_L, show ((-14 : Int32) < nI 0) = True from eq_true (by decide), show ((-14 : Int32) < -8) = True from eq_true (by decide), show ((-14 : Int32) = -17) = False from eq_false (by decide), lc_ge, zL_le b1L b0L, show (s (n + 1) ≤ s n) = ¬ (s n < s (n + 1)) from propext ⟨fun z => by omega, fun z => by omega⟩, eq_true c, e, bop, if_pos c, Option.isSome_some, CO, HA, HB, HC, Nat.not_lt_zero, Nat.add_assoc, c_nlt, c_nle, c_neq, c_P, c_cl, c_m1, c_m1', nI_add, pk_mul, reduceIte, Nat.reduceEqDiff, Nat.reduceAdd, Nat.reduceMul, Nat.reduceLeDiff, eq_self, ↓pk_rem, pk_div, c_of, d_le, d_nle, d_lt, d_nlt, d_eq, d_ne]
      · intro z hz
        simp only [bop, reduceIte, Nat.reduceEqDiff, if_pos c] at hz
        cases hz
        exact k (by omega)
    · obtain ⟨υ, e, q, k⟩ := C_lay (d := d) (z := 0) h2 s2 (by omega) (by omega)
      rw [show zL 0 = lN 0 from rfl, if_pos (by omega)] at e
      refine ⟨υ, ?_, Ag_t hq2 q, ?_⟩
      · simp (disch := first | omega | (repeat (first | assumption | exact Ag_r | refine Ag_I ?_ rfl | refine Ag_F ?_ rfl | refine Ag_J ?_ rfl))) only [A36, FC h, p1, p2, zI_L, show ((-14 : Int32) < nI 0) = True from eq_true (by decide), show ((-14 : Int32) < -8) = True from eq_true (by decide), show ((-14 : Int32) = -17) = False from eq_false (by decide), lc_ge, zL_le b1L b0L, show (s (n + 1) ≤ s n) = ¬ (s n < s (n + 1)) from propext ⟨fun z => by omega, fun z => by omega⟩, eq_false c, e, bop, if_neg c, Option.isSome_some, CO, HA, HB, HC, Nat.not_lt_zero, Nat.add_assoc, c_nlt, c_nle, c_neq, c_P, c_cl, c_m1, c_m1', nI_add, pk_mul, reduceIte, Nat.reduceEqDiff, Nat.reduceAdd, Nat.reduceMul, Nat.reduceLeDiff, eq_self, ↓pk_rem, pk_div, c_of, d_le, d_nle, d_lt, d_nlt, d_eq, d_ne]
      · intro z hz
        simp only [bop, reduceIte, Nat.reduceEqDiff, if_neg c] at hz
        cases hz
        exact k (by omega)
  · rw [show opC 5 = (-15 : Int32) from rfl]
    by_cases c : s (n + 1) < s n
    · obtain ⟨υ, e, q, k⟩ := C_lay (d := d) (z := 1) h2 s2 (by omega) (by omega)
      rw [show zL 1 = lN 1 from rfl, if_pos (by omega)] at e
      refine ⟨υ, ?_, Ag_t hq2 q, ?_⟩
      · simp (disch := first | omega | (repeat (first | assumption | exact Ag_r | refine Ag_I ?_ rfl | refine Ag_F ?_ rfl | refine Ag_J ?_ rfl))) only [A36, FC h, p1, p2, zI_L, show ((-15 : Int32) < nI 0) = True from eq_true (by decide), show ((-15 : Int32) < -8) = True from eq_true (by decide), show ((-15 : Int32) = -17) = False from eq_false (by decide), lc_le, zL_le b0L b1L, show (s n ≤ s (n + 1)) = ¬ (s (n + 1) < s n) from propext ⟨fun z => by omega, fun z => by omega⟩, eq_true c, e, bop, if_pos c, Option.isSome_some, CO, HA, HB, HC, Nat.not_lt_zero, Nat.add_assoc, c_nlt, c_nle, c_neq, c_P, c_cl, c_m1, c_m1', nI_add, pk_mul, reduceIte, Nat.reduceEqDiff, Nat.reduceAdd, Nat.reduceMul, Nat.reduceLeDiff, eq_self, ↓pk_rem, pk_div, c_of, d_le, d_nle, d_lt, d_nlt, d_eq, d_ne]
      · intro z hz
        simp only [bop, reduceIte, Nat.reduceEqDiff, if_pos c] at hz
        cases hz
        exact k (by omega)
    · obtain ⟨υ, e, q, k⟩ := C_lay (d := d) (z := 0) h2 s2 (by omega) (by omega)
      rw [show zL 0 = lN 0 from rfl, if_pos (by omega)] at e
      refine ⟨υ, ?_, Ag_t hq2 q, ?_⟩
      · simp (disch := first | omega | (repeat (first | assumption | exact Ag_r | refine Ag_I ?_ rfl | refine Ag_F ?_ rfl | refine Ag_J ?_ rfl))) only [A36, FC h, p1, p2, zI_L, show ((-15 : Int32) < nI 0) = True from eq_true (by decide), show ((-15 : Int32) < -8) = True from eq_true (by decide), show ((-15 : Int32) = -17) = False from eq_false (by decide), lc_le, zL_le b0L b1L, show (s n ≤ s (n + 1)) = ¬ (s (n + 1) < s n) from propext ⟨fun z => by omega, fun z => by omega⟩, eq_false c, e, bop, if_neg c, Option.isSome_some, CO, HA, HB, HC, Nat.not_lt_zero, Nat.add_assoc, c_nlt, c_nle, c_neq, c_P, c_cl, c_m1, c_m1', nI_add, pk_mul, reduceIte, Nat.reduceEqDiff, Nat.reduceAdd, Nat.reduceMul, Nat.reduceLeDiff, eq_self, ↓pk_rem, pk_div, c_of, d_le, d_nle, d_lt, d_nlt, d_eq, d_ne]
      · intro z hz
        simp only [bop, reduceIte, Nat.reduceEqDiff, if_neg c] at hz
        cases hz
        exact k (by omega)
  · rw [show opC 6 = (-16 : Int32) from rfl]
    by_cases c : s n = s (n + 1)
    · obtain ⟨υ, e, q, k⟩ := C_lay (d := d) (z := 1) h2 s2 (by omega) (by omega)
      rw [show zL 1 = lN 1 from rfl, if_pos (by omega)] at e
      refine ⟨υ, ?_, Ag_t hq2 q, ?_⟩
      · simp (disch := first | omega | (repeat (first | assumption | exact Ag_r | refine Ag_I ?_ rfl | refine Ag_F ?_ rfl | refine Ag_J ?_ rfl))) only [A36, FC h, p1, p2, zI_L, show ((-16 : Int32) < nI 0) = True from eq_true (by decide), show ((-16 : Int32) < -8) = True from eq_true (by decide), show ((-16 : Int32) = -17) = False from eq_false (by decide), lc_eq, zL_eq b0L b1L, eq_true c, e, bop, if_pos c, Option.isSome_some, CO, HA, HB, HC, Nat.not_lt_zero, Nat.add_assoc, c_nlt, c_nle, c_neq, c_P, c_cl, c_m1, c_m1', nI_add, pk_mul, reduceIte, Nat.reduceEqDiff, Nat.reduceAdd, Nat.reduceMul, Nat.reduceLeDiff, eq_self, ↓pk_rem, pk_div, c_of, d_le, d_nle, d_lt, d_nlt, d_eq, d_ne]
      · intro z hz
        simp only [bop, reduceIte, Nat.reduceEqDiff, if_pos c] at hz
        cases hz
        exact k (by omega)
    · obtain ⟨υ, e, q, k⟩ := C_lay (d := d) (z := 0) h2 s2 (by omega) (by omega)
      rw [show zL 0 = lN 0 from rfl, if_pos (by omega)] at e
      refine ⟨υ, ?_, Ag_t hq2 q, ?_⟩
      · simp (disch := first | omega | (repeat (first | assumption | exact Ag_r | refine Ag_I ?_ rfl | refine Ag_F ?_ rfl | refine Ag_J ?_ rfl))) only [A36, FC h, p1, p2, zI_L, show ((-16 : Int32) < nI 0) = True from eq_true (by decide), show ((-16 : Int32) < -8) = True from eq_true (by decide), show ((-16 : Int32) = -17) = False from eq_false (by decide), lc_eq, zL_eq b0L b1L, eq_false c, e, bop, if_neg c, Option.isSome_some, CO, HA, HB, HC, Nat.not_lt_zero, Nat.add_assoc, c_nlt, c_nle, c_neq, c_P, c_cl, c_m1, c_m1', nI_add, pk_mul, reduceIte, Nat.reduceEqDiff, Nat.reduceAdd, Nat.reduceMul, Nat.reduceLeDiff, eq_self, ↓pk_rem, pk_div, c_of, d_le, d_nle, d_lt, d_nlt, d_eq, d_ne]
      · intro z hz
        simp only [bop, reduceIte, Nat.reduceEqDiff, if_neg c] at hz
        cases hz
        exact k (by omega)
theorem C_run_num (h : FxC τ) (hs : StkC τ n s) (hn : n < 64) {k : Nat} (hk : k ≤ 1000) : ∃ υ, den (d + 1, 36, 0, [.ref 18, .int (nI k), .float 0, .float 0, .float 0, .float 0], [], τ) = some (some (.int (nI 1)), υ) ∧ Qk τ υ ∧ StkC υ (n + 1) (ud s n k) := by
  obtain ⟨υ, e, q, k'⟩ := C_lay (d := d) (z := (k : Int)) h hs hn (by omega)
  rw [if_pos (by omega), zL_n] at e
  refine ⟨υ, ?_, q, k' (by omega)⟩
  simp (disch := first | omega | (repeat (first | assumption | exact Ag_r | refine Ag_I ?_ rfl | refine Ag_F ?_ rfl | refine Ag_J ?_ rfl))) only [A36, FC h, nI_l, e, CO, HA, HB, HC, Nat.not_lt_zero, Nat.add_assoc, c_nlt, c_nle, c_neq, c_P, c_cl, c_m1, c_m1', nI_add, pk_mul, reduceIte, Nat.reduceEqDiff, Nat.reduceAdd, Nat.reduceMul, Nat.reduceLeDiff, eq_self, ↓pk_rem, pk_div, c_of, d_le, d_nle, d_lt, d_nlt, d_eq, d_ne]
theorem C_run_word (h : FxC τ) (hs : StkC τ n s) (hn : n < 64) {w : Wd} (hw : WdC τ w) {j : Nat} (hj : j < 8) : ∃ υ, den (d + 1, 36, 0, [.ref 18, .int (zI (-1 - (j : Int))), .float 0, .float 0, .float 0, .float 0], [], τ) = some (some (.int (nI 1)), υ) ∧ Qk τ υ ∧ StkC υ (n + 1) (ud s n (w j)) := by
  obtain ⟨w1, w2, w3⟩ := hw j hj
  obtain ⟨υ, e, q, k'⟩ := C_lay (d := d) (z := w j) h hs hn (by omega)
  rw [if_pos (by omega)] at e
  refine ⟨υ, ?_, q, k' (by omega)⟩
  have e1 : (zI (-1 - (j : Int)) < nI 0) = True := eq_true (by rw [show nI 0 = zI 0 from rfl, zI_lt (by omega) (by omega)]; omega)
  have e2 : (zI (-1 - (j : Int)) < -8) = False := eq_false (by rw [show (-8 : Int32) = zI (-8) from rfl, zI_lt (by omega) (by omega)]; omega)
  have e3 : (-1 : Int32) - zI (-1 - (j : Int)) = nI j := by rw [show (-1 : Int32) = zI (-1) from rfl, zI_sub, show (-1 - (-1 - (j : Int))) = (j : Int) by omega, zI_n]
  have e4 : (zI (w j)).toInt64 = zL (w j) := zI_L (by omega) (by omega)
  simp (disch := first | omega | (repeat (first | assumption | exact Ag_r | refine Ag_I ?_ rfl | refine Ag_F ?_ rfl | refine Ag_J ?_ rfl))) only [A36, FC h, e1, e2, e3, w1, e4, e, CO, HA, HB, HC, Nat.not_lt_zero, Nat.add_assoc, c_nlt, c_nle, c_neq, c_P, c_cl, c_m1, c_m1', nI_add, pk_mul, reduceIte, Nat.reduceEqDiff, Nat.reduceAdd, Nat.reduceMul, Nat.reduceLeDiff, eq_self, ↓pk_rem, pk_div, c_of, d_le, d_nle, d_lt, d_nlt, d_eq, d_ne]
theorem C_run_not (h : FxC τ) (hs : StkC τ (n + 1) s) (hn : n < 64) (hb : s n = 0 ∨ s n = 1) : ∃ υ, den (d + 1, 36, 0, [.ref 18, .int (-17), .float 0, .float 0, .float 0, .float 0], [], τ) = some (some (.int (nI 1)), υ) ∧ Qk τ υ ∧ StkC υ (n + 1) (ud s n (1 - s n)) := by
  obtain ⟨p1, s1⟩ := C_pull (d := d) (n := n) h hs (by omega)
  have h1 : FxC (sF τ 18 2 (.int (nI n))) := FxC_sF h (by decide)
  obtain ⟨υ, e, q, k'⟩ := C_lay (d := d) (z := 1 - s n) h1 s1 hn (by omega)
  rw [if_pos (by omega)] at e
  refine ⟨υ, ?_, Ag_t (Ag_F Ag_r rfl) q, k' (by omega)⟩
  have e1 : ((-17 : Int32) < nI 0) = True := eq_true (by decide)
  have e2 : ((-17 : Int32) < -8) = True := eq_true (by decide)
  have e4 : (nI 1 - zI (s n)).toInt64 = zL (1 - s n) := by rw [show nI 1 = zI 1 from rfl, zI_sub, zI_L (by omega) (by omega)]
  simp (disch := first | omega | (repeat (first | assumption | exact Ag_r | refine Ag_I ?_ rfl | refine Ag_F ?_ rfl | refine Ag_J ?_ rfl))) only [A36, FC h, e1, e2, p1, e4, e, CO, HA, HB, HC, Nat.not_lt_zero, Nat.add_assoc, c_nlt, c_nle, c_neq, c_P, c_cl, c_m1, c_m1', nI_add, pk_mul, reduceIte, Nat.reduceEqDiff, Nat.reduceAdd, Nat.reduceMul, Nat.reduceLeDiff, eq_self, ↓pk_rem, pk_div, c_of, d_le, d_nle, d_lt, d_nlt, d_eq, d_ne]
/-- skips: g 0 for 'and', 1 for 'or' -/
theorem C_skips (h : FxC τ) (hs : StkC τ (n + 1) s) (hn : n < 64) (hb : s n = 0 ∨ s n = 1) {g : Nat} (hg : g < 2) : ∃ υ, den (d + 1, 35, 0, [.ref 18, .int (zI (-18 - (g : Int))), .float 0], [], τ) = some (some (.int (if s n = (g : Int) then nI 1 else nI 0)), υ) ∧ Qk τ υ ∧ (s n = (g : Int) → StkC υ (n + 1) (ud s n (g : Int))) ∧ (¬ s n = (g : Int) → StkC υ n s) := by
  obtain ⟨p1, s1⟩ := C_pull (d := d) (n := n) h hs (by omega)
  have h1 : FxC (sF τ 18 2 (.int (nI n))) := FxC_sF h (by decide)
  have hq1 : Qk τ (sF τ 18 2 (.int (nI n))) := Ag_F Ag_r rfl
  obtain ⟨υ, e, q, k'⟩ := C_lay (d := d) (z := s n) h1 s1 hn (by omega)
  rw [if_pos (by omega)] at e
  have e4 : (zI (s n)).toInt64 = zL (s n) := zI_L (by omega) (by omega)
  have e5 : (zI (s n) = nI 0) = (s n = 0) := by rw [show nI 0 = zI 0 from rfl, zI_eq (by omega) (by omega)]
  have e6 : (zI (-18 - (g : Int)) = -18) = (g = 0) := by
    rw [show (-18 : Int32) = zI (-18) from rfl, zI_eq (by omega) (by omega), eq_iff_iff]; omega
  by_cases c : s n = (g : Int)
  · refine ⟨υ, ?_, Ag_t hq1 q, fun _ => by rw [← c]; exact k' (by omega), fun z => absurd c z⟩
    rw [if_pos c]
    obtain rfl | rfl : g = 0 ∨ g = 1 := by omega
    · have c0 : s n = 0 := c
      simp (disch := first | omega | (repeat (first | assumption | exact Ag_r | refine Ag_I ?_ rfl | refine Ag_F ?_ rfl | refine Ag_J ?_ rfl))) only [A35, FC h, p1, e5, eq_true c0, e6, e4, e, CO, HA, HB, HC, Nat.not_lt_zero, Nat.add_assoc, c_nlt, c_nle, c_neq, c_P, c_cl, c_m1, c_m1', nI_add, pk_mul, reduceIte, Nat.reduceEqDiff, Nat.reduceAdd, Nat.reduceMul, Nat.reduceLeDiff, eq_self, ↓pk_rem, pk_div, c_of, d_le, d_nle, d_lt, d_nlt, d_eq, d_ne]
    · have c0 : ¬ s n = 0 := by omega
      simp (disch := first | omega | (repeat (first | assumption | exact Ag_r | refine Ag_I ?_ rfl | refine Ag_F ?_ rfl | refine Ag_J ?_ rfl))) only [A35, FC h, p1, e5, eq_false c0, e6, e4, e, CO, HA, HB, HC, Nat.not_lt_zero, Nat.add_assoc, c_nlt, c_nle, c_neq, c_P, c_cl, c_m1, c_m1', nI_add, pk_mul, reduceIte, Nat.reduceEqDiff, Nat.reduceAdd, Nat.reduceMul, Nat.reduceLeDiff, eq_self, ↓pk_rem, pk_div, c_of, d_le, d_nle, d_lt, d_nlt, d_eq, d_ne]
  · refine ⟨sF τ 18 2 (.int (nI n)), ?_, hq1, fun z => absurd z c, fun _ => s1⟩
    rw [if_neg c]
    obtain rfl | rfl : g = 0 ∨ g = 1 := by omega
    · have c0 : ¬ s n = 0 := c
      simp (disch := first | omega | (repeat (first | assumption | exact Ag_r | refine Ag_I ?_ rfl | refine Ag_F ?_ rfl | refine Ag_J ?_ rfl))) only [A35, FC h, p1, e5, eq_false c0, e6, CO, HA, HB, HC, Nat.not_lt_zero, Nat.add_assoc, c_nlt, c_nle, c_neq, c_P, c_cl, c_m1, c_m1', nI_add, pk_mul, reduceIte, Nat.reduceEqDiff, Nat.reduceAdd, Nat.reduceMul, Nat.reduceLeDiff, eq_self, ↓pk_rem, pk_div, c_of, d_le, d_nle, d_lt, d_nlt, d_eq, d_ne]
    · have c0 : s n = 0 := by omega
      simp (disch := first | omega | (repeat (first | assumption | exact Ag_r | refine Ag_I ?_ rfl | refine Ag_F ?_ rfl | refine Ag_J ?_ rfl))) only [A35, FC h, p1, e5, eq_true c0, e6, CO, HA, HB, HC, Nat.not_lt_zero, Nat.add_assoc, c_nlt, c_nle, c_neq, c_P, c_cl, c_m1, c_m1', nI_add, pk_mul, reduceIte, Nat.reduceEqDiff, Nat.reduceAdd, Nat.reduceMul, Nat.reduceLeDiff, eq_self, ↓pk_rem, pk_div, c_of, d_le, d_nle, d_lt, d_nlt, d_eq, d_ne]
end
