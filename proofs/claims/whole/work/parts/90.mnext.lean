/-! law: the model's step -/
section
variable {d p : Nat} {X : Tx} {τ : Hp}
theorem M_small {b : Nat} (hb : b < 256) : den (d, 149, 0, [.int (nI b)], [], τ) = some (some (.int (if 97 ≤ b ∧ b ≤ 122 then nI 1 else nI 0)), τ) := by
  by_cases h1 : 97 ≤ b
  · by_cases h2 : b ≤ 122
    · rw [if_pos ⟨h1, h2⟩]
      simp (disch := first | omega | (repeat (first | assumption | exact Ag_r | refine Ag_I ?_ rfl | refine Ag_F ?_ rfl | refine Ag_J ?_ rfl))) only [A149, CO, HA, HB, HC, Nat.not_lt_zero, Nat.add_assoc, c_nlt, c_nle, c_neq, c_P, c_cl, c_m1, c_m1', nI_add, pk_mul, reduceIte, Nat.reduceEqDiff, Nat.reduceAdd, Nat.reduceMul, Nat.reduceLeDiff, eq_self, ↓pk_rem, pk_div, c_of, d_le, d_nle, d_lt, d_nlt, d_eq, d_ne]
    · rw [if_neg (fun z => h2 z.2)]
      simp (disch := first | omega | (repeat (first | assumption | exact Ag_r | refine Ag_I ?_ rfl | refine Ag_F ?_ rfl | refine Ag_J ?_ rfl))) only [A149, CO, HA, HB, HC, Nat.not_lt_zero, Nat.add_assoc, c_nlt, c_nle, c_neq, c_P, c_cl, c_m1, c_m1', nI_add, pk_mul, reduceIte, Nat.reduceEqDiff, Nat.reduceAdd, Nat.reduceMul, Nat.reduceLeDiff, eq_self, ↓pk_rem, pk_div, c_of, d_le, d_nle, d_lt, d_nlt, d_eq, d_ne]
  · rw [if_neg (fun z => h1 z.1)]
    simp (disch := first | omega | (repeat (first | assumption | exact Ag_r | refine Ag_I ?_ rfl | refine Ag_F ?_ rfl | refine Ag_J ?_ rfl))) only [A149, CO, HA, HB, HC, Nat.not_lt_zero, Nat.add_assoc, c_nlt, c_nle, c_neq, c_P, c_cl, c_m1, c_m1', nI_add, pk_mul, reduceIte, Nat.reduceEqDiff, Nat.reduceAdd, Nat.reduceMul, Nat.reduceLeDiff, eq_self, ↓pk_rem, pk_div, c_of, d_le, d_nle, d_lt, d_nlt, d_eq, d_ne]
theorem M_digit {b : Nat} (hb : b < 256) : den (d, 150, 0, [.int (nI b)], [], τ) = some (some (.int (if 48 ≤ b ∧ b ≤ 57 then nI 1 else nI 0)), τ) := by
  by_cases h1 : 48 ≤ b
  · by_cases h2 : b ≤ 57
    · rw [if_pos ⟨h1, h2⟩]
      simp (disch := first | omega | (repeat (first | assumption | exact Ag_r | refine Ag_I ?_ rfl | refine Ag_F ?_ rfl | refine Ag_J ?_ rfl))) only [A150, CO, HA, HB, HC, Nat.not_lt_zero, Nat.add_assoc, c_nlt, c_nle, c_neq, c_P, c_cl, c_m1, c_m1', nI_add, pk_mul, reduceIte, Nat.reduceEqDiff, Nat.reduceAdd, Nat.reduceMul, Nat.reduceLeDiff, eq_self, ↓pk_rem, pk_div, c_of, d_le, d_nle, d_lt, d_nlt, d_eq, d_ne]
    · rw [if_neg (fun z => h2 z.2)]
      simp (disch := first | omega | (repeat (first | assumption | exact Ag_r | refine Ag_I ?_ rfl | refine Ag_F ?_ rfl | refine Ag_J ?_ rfl))) only [A150, CO, HA, HB, HC, Nat.not_lt_zero, Nat.add_assoc, c_nlt, c_nle, c_neq, c_P, c_cl, c_m1, c_m1', nI_add, pk_mul, reduceIte, Nat.reduceEqDiff, Nat.reduceAdd, Nat.reduceMul, Nat.reduceLeDiff, eq_self, ↓pk_rem, pk_div, c_of, d_le, d_nle, d_lt, d_nlt, d_eq, d_ne]
  · rw [if_neg (fun z => h1 z.1)]
    simp (disch := first | omega | (repeat (first | assumption | exact Ag_r | refine Ag_I ?_ rfl | refine Ag_F ?_ rfl | refine Ag_J ?_ rfl))) only [A150, CO, HA, HB, HC, Nat.not_lt_zero, Nat.add_assoc, c_nlt, c_nle, c_neq, c_P, c_cl, c_m1, c_m1', nI_add, pk_mul, reduceIte, Nat.reduceEqDiff, Nat.reduceAdd, Nat.reduceMul, Nat.reduceLeDiff, eq_self, ↓pk_rem, pk_div, c_of, d_le, d_nle, d_lt, d_nlt, d_eq, d_ne]
theorem M_nx1 (hM : FxM τ) (hX : TxM τ X) : ∀ (n q : Nat) (υ : Hp), X.1 - q = n → q ≤ X.1 → Qnx τ υ → hF υ 57 9 = .int (nI q) → ∃ ω, den (d, 152, 8, [.ref 57], [], υ) = den (d, 152, 46, [.ref 57], [], ω) ∧ Qnx τ ω ∧ hF ω 57 9 = .int (nI (tS X q)) := by
  intro n
  induction n with
  | zero =>
    intro q υ hn hq g h3
    have c2 := Qq_M (Qnx_q g) hM
    obtain ⟨x1, x2, x3, x4⟩ := Qq_X (Qnx_q g) hX
    refine ⟨υ, ?_, g, by rw [tS_n (by omega)]; exact h3⟩
    rw [a152_8]
    simp (disch := first | omega | (repeat (first | assumption | exact Ag_r | refine Ag_I ?_ rfl | refine Ag_F ?_ rfl | refine Ag_J ?_ rfl))) only [A152, FM c2, h3, x1, CO, HA, HB, HC, Nat.not_lt_zero, Nat.add_assoc, c_nlt, c_nle, c_neq, c_P, c_cl, c_m1, c_m1', nI_add, pk_mul, reduceIte, Nat.reduceEqDiff, Nat.reduceAdd, Nat.reduceMul, Nat.reduceLeDiff, eq_self, ↓pk_rem, pk_div, c_of, d_le, d_nle, d_lt, d_nlt, d_eq, d_ne]
  | succ n ih =>
    intro q υ hn hq g h3
    have c2 := Qq_M (Qnx_q g) hM
    obtain ⟨x1, x2, x3, x4⟩ := Qq_X (Qnx_q g) hX
    have e := x2 q (by omega)
    have l := x4 q (by omega)
    by_cases z : X.2 q = 32
    · obtain ⟨ω, e1, e2, e3⟩ := ih (q + 1) (sF υ 57 9 (.int (nI (q + 1)))) (by omega) (by omega) (Qnx_t g (Ag_F Ag_r rfl)) (by simp only [HA, and_self, reduceIte])
      refine ⟨ω, ?_, e2, by rw [tS_y (by omega) z]; exact e3⟩
      rw [← e1, a152_8]
      simp (disch := first | omega | (repeat (first | assumption | exact Ag_r | refine Ag_I ?_ rfl | refine Ag_F ?_ rfl | refine Ag_J ?_ rfl))) only [A152, FM c2, h3, x1, e, z, CO, HA, HB, HC, Nat.not_lt_zero, Nat.add_assoc, c_nlt, c_nle, c_neq, c_P, c_cl, c_m1, c_m1', nI_add, pk_mul, reduceIte, Nat.reduceEqDiff, Nat.reduceAdd, Nat.reduceMul, Nat.reduceLeDiff, eq_self, ↓pk_rem, pk_div, c_of, d_le, d_nle, d_lt, d_nlt, d_eq, d_ne]
    · refine ⟨υ, ?_, g, by rw [tS_n (fun w => z w.2)]; exact h3⟩
      rw [a152_8]
      simp (disch := first | omega | (repeat (first | assumption | exact Ag_r | refine Ag_I ?_ rfl | refine Ag_F ?_ rfl | refine Ag_J ?_ rfl))) only [A152, FM c2, h3, x1, e, z, CO, HA, HB, HC, Nat.not_lt_zero, Nat.add_assoc, c_nlt, c_nle, c_neq, c_P, c_cl, c_m1, c_m1', nI_add, pk_mul, reduceIte, Nat.reduceEqDiff, Nat.reduceAdd, Nat.reduceMul, Nat.reduceLeDiff, eq_self, ↓pk_rem, pk_div, c_of, d_le, d_nle, d_lt, d_nlt, d_eq, d_ne]
def wW (X : Tx) (s i : Nat) : Int64 := if i ≤ 10 then lN (wv X s i) else -1
theorem wW_s {s i : Nat} (h : i < 10) (h97 : 97 ≤ X.2 (s + i)) (h2 : X.2 (s + i) < 256) : wW X s i * lN 32 + (nI (X.2 (s + i))).toInt64 - lN 96 = wW X s (i + 1) := by
  unfold wW
  rw [if_pos (by omega), if_pos (by omega), nI_l (by omega)]
  simp only [← zL_n, zL_mul, zL_add, zL_sub, wv]
  congr 1
  omega
theorem dv_s {s n : Nat} (h : ¬ 1000000 < dv_ X s n) (h48 : 48 ≤ X.2 (s + n)) (h2 : X.2 (s + n) < 256) : lN (dv_ X s n) * lN 10 + (nI (X.2 (s + n))).toInt64 - lN 48 = lN (dv_ X s (n + 1)) := by
  simp only [dv_]
  rw [if_neg h, nI_l (by omega)]
  simp only [← zL_n, zL_mul, zL_add, zL_sub]
  congr 1
  omega
theorem M_nx2 (hM : FxM τ) (hX : TxM τ X) {s : Nat} : ∀ (n i : Nat) (υ : Hp), X.1 - (s + i) = n → s + i ≤ X.1 → Qnx τ υ → hF υ 57 9 = .int (nI s) → hF υ 57 10 = .int (nI (s + i)) → hF υ 57 11 = .int (nI 1) → hF υ 57 12 = .long (wW X s i) → Ev (den (d + 1, 152, 149, [.ref 57], [], υ)) (fun a ω => a = none ∧ Qnx τ ω ∧ hF ω 57 9 = .int (nI s) ∧ hF ω 57 10 = .int (nI (rn_ X 1 (s + i))) ∧ hF ω 57 11 = .int (nI 1) ∧ hF ω 57 12 = .long (wW X s (rn_ X 1 (s + i) - s))) := by
  intro n
  induction n with
  | zero =>
    intro i υ hn hq g h9 h10 h11 h12
    have c2 := Qq_M (Qnx_q g) hM
    obtain ⟨x1, x2, x3, x4⟩ := Qq_X (Qnx_q g) hX
    rw [a152_149]
    refine Ev_e (o' := den (d + 1, 152, 243, [.ref 57], [], υ)) ?_ ?_
    · simp (disch := first | omega | (repeat (first | assumption | exact Ag_r | refine Ag_I ?_ rfl | refine Ag_F ?_ rfl | refine Ag_J ?_ rfl))) only [A152, FM c2, h9, h10, h11, x1, CO, HA, HB, HC, Nat.not_lt_zero, Nat.add_assoc, c_nlt, c_nle, c_neq, c_P, c_cl, c_m1, c_m1', nI_add, pk_mul, reduceIte, Nat.reduceEqDiff, Nat.reduceAdd, Nat.reduceMul, Nat.reduceLeDiff, eq_self, ↓pk_rem, pk_div, c_of, d_le, d_nle, d_lt, d_nlt, d_eq, d_ne]
    · rw [a152_243]
      refine Ev_e (o' := some (none, υ)) ?_ (Ev_s ⟨rfl, g, h9, ?_, h11, ?_⟩)
      · simp (disch := first | omega | (repeat (first | assumption | exact Ag_r | refine Ag_I ?_ rfl | refine Ag_F ?_ rfl | refine Ag_J ?_ rfl))) only [A152, FM c2, h9, h10, h11, x1, CO, HA, HB, HC, Nat.not_lt_zero, Nat.add_assoc, c_nlt, c_nle, c_neq, c_P, c_cl, c_m1, c_m1', nI_add, pk_mul, reduceIte, Nat.reduceEqDiff, Nat.reduceAdd, Nat.reduceMul, Nat.reduceLeDiff, eq_self, ↓pk_rem, pk_div, c_of, d_le, d_nle, d_lt, d_nlt, d_eq, d_ne]
      · rw [rn_n (by omega)]; exact h10
      · rw [rn_n (by omega), show s + i - s = i by omega]; exact h12
  | succ n ih =>
    intro i υ hn hq g h9 h10 h11 h12
    have c2 := Qq_M (Qnx_q g) hM
    obtain ⟨x1, x2, x3, x4⟩ := Qq_X (Qnx_q g) hX
    have e := x2 (s + i) (by omega)
    have l := x4 (s + i) (by omega)
    have sm := fun (d : Nat) (σ : Hp) => M_small (d := d) (τ := σ) l
    rw [a152_149]
    by_cases z : kA X (s + i) = 1
    · have zz := (kA_1.mp z).2
      simp only [if_pos zz] at sm
      have := ih (i + 1) (sF (sF υ 57 12 (.long (wW X s (i + 1)))) 57 10 (.int (nI (s + (i + 1))))) (by omega) (by omega) (Qnx_t g (Ag_F (Ag_F Ag_r rfl) rfl)) (by simp only [HA, Nat.reduceEqDiff, and_false, reduceIte]; exact h9) (by simp only [HA, and_self, reduceIte]) (by simp only [HA, Nat.reduceEqDiff, and_false, reduceIte]; exact h11) (by simp only [HA, Nat.reduceEqDiff, and_false, and_self, reduceIte])
      rw [show s + (i + 1) = s + i + 1 by omega, ← rn_y (by omega) z] at this
      refine Ev_e ?_ this
      have cs : nI (s + i) - nI s = nI i := by rw [c_sub (by omega), show s + i - s = i by omega]
      by_cases w : i < 10
      · have ws := wW_s (X := X) (s := s) w zz.1 l
        simp (disch := first | omega | (repeat (first | assumption | exact Ag_r | refine Ag_I ?_ rfl | refine Ag_F ?_ rfl | refine Ag_J ?_ rfl))) only [A152, FM c2, h9, h10, h11, h12, x1, e, sm, cs, ws, CO, HA, HB, HC, Nat.not_lt_zero, Nat.add_assoc, c_nlt, c_nle, c_neq, c_P, c_cl, c_m1, c_m1', nI_add, pk_mul, reduceIte, Nat.reduceEqDiff, Nat.reduceAdd, Nat.reduceMul, Nat.reduceLeDiff, eq_self, ↓pk_rem, pk_div, c_of, d_le, d_nle, d_lt, d_nlt, d_eq, d_ne]
      · have ws : wW X s (i + 1) = -1 := by unfold wW; rw [if_neg (by omega)]
        simp (disch := first | omega | (repeat (first | assumption | exact Ag_r | refine Ag_I ?_ rfl | refine Ag_F ?_ rfl | refine Ag_J ?_ rfl))) only [A152, FM c2, h9, h10, h11, h12, x1, e, sm, cs, ws, CO, HA, HB, HC, Nat.not_lt_zero, Nat.add_assoc, c_nlt, c_nle, c_neq, c_P, c_cl, c_m1, c_m1', nI_add, pk_mul, reduceIte, Nat.reduceEqDiff, Nat.reduceAdd, Nat.reduceMul, Nat.reduceLeDiff, eq_self, ↓pk_rem, pk_div, c_of, d_le, d_nle, d_lt, d_nlt, d_eq, d_ne]
    · have zz : ¬ (97 ≤ X.2 (s + i) ∧ X.2 (s + i) ≤ 122) := fun w => z (kA_1.mpr ⟨by omega, w⟩)
      simp only [if_neg zz] at sm
      refine Ev_e (o' := den (d + 1, 152, 243, [.ref 57], [], υ)) ?_ ?_
      · simp (disch := first | omega | (repeat (first | assumption | exact Ag_r | refine Ag_I ?_ rfl | refine Ag_F ?_ rfl | refine Ag_J ?_ rfl))) only [A152, FM c2, h9, h10, h11, x1, e, sm, CO, HA, HB, HC, Nat.not_lt_zero, Nat.add_assoc, c_nlt, c_nle, c_neq, c_P, c_cl, c_m1, c_m1', nI_add, pk_mul, reduceIte, Nat.reduceEqDiff, Nat.reduceAdd, Nat.reduceMul, Nat.reduceLeDiff, eq_self, ↓pk_rem, pk_div, c_of, d_le, d_nle, d_lt, d_nlt, d_eq, d_ne]
      · rw [a152_243]
        refine Ev_e (o' := some (none, υ)) ?_ (Ev_s ⟨rfl, g, h9, ?_, h11, ?_⟩)
        · simp (disch := first | omega | (repeat (first | assumption | exact Ag_r | refine Ag_I ?_ rfl | refine Ag_F ?_ rfl | refine Ag_J ?_ rfl))) only [A152, FM c2, h9, h10, h11, x1, CO, HA, HB, HC, Nat.not_lt_zero, Nat.add_assoc, c_nlt, c_nle, c_neq, c_P, c_cl, c_m1, c_m1', nI_add, pk_mul, reduceIte, Nat.reduceEqDiff, Nat.reduceAdd, Nat.reduceMul, Nat.reduceLeDiff, eq_self, ↓pk_rem, pk_div, c_of, d_le, d_nle, d_lt, d_nlt, d_eq, d_ne]
        · rw [rn_n (fun w => z w.2)]; exact h10
        · rw [rn_n (fun w => z w.2), show s + i - s = i by omega]; exact h12
theorem M_nx3 (hM : FxM τ) (hX : TxM τ X) {s : Nat} : ∀ (n i : Nat) (υ : Hp), X.1 - (s + i) = n → s + i ≤ X.1 → (∀ j, j < i → 48 ≤ X.2 (s + j) ∧ X.2 (s + j) ≤ 57) → Qnx τ υ → hF υ 57 9 = .int (nI s) → hF υ 57 10 = .int (nI (s + i)) → hF υ 57 11 = .int (nI 2) → hF υ 57 12 = .long (lN (dv_ X s i)) → Ev (den (d + 1, 152, 243, [.ref 57], [], υ)) (fun a ω => a = none ∧ Qnx τ ω ∧ hF ω 57 9 = .int (nI s) ∧ hF ω 57 10 = .int (nI (rn_ X 2 (s + i))) ∧ hF ω 57 11 = .int (nI 2) ∧ hF ω 57 12 = .long (lN (dv_ X s (rn_ X 2 (s + i) - s)))) := by
  intro n
  induction n with
  | zero =>
    intro i υ hn hq hd g h9 h10 h11 h12
    have c2 := Qq_M (Qnx_q g) hM
    obtain ⟨x1, x2, x3, x4⟩ := Qq_X (Qnx_q g) hX
    rw [a152_243]
    refine Ev_e (o' := some (none, υ)) ?_ (Ev_s ⟨rfl, g, h9, ?_, h11, ?_⟩)
    · simp (disch := first | omega | (repeat (first | assumption | exact Ag_r | refine Ag_I ?_ rfl | refine Ag_F ?_ rfl | refine Ag_J ?_ rfl))) only [A152, FM c2, h9, h10, h11, x1, CO, HA, HB, HC, Nat.not_lt_zero, Nat.add_assoc, c_nlt, c_nle, c_neq, c_P, c_cl, c_m1, c_m1', nI_add, pk_mul, reduceIte, Nat.reduceEqDiff, Nat.reduceAdd, Nat.reduceMul, Nat.reduceLeDiff, eq_self, ↓pk_rem, pk_div, c_of, d_le, d_nle, d_lt, d_nlt, d_eq, d_ne]
    · rw [rn_n (by omega)]; exact h10
    · rw [rn_n (by omega), show s + i - s = i by omega]; exact h12
  | succ n ih =>
    intro i υ hn hq hd g h9 h10 h11 h12
    have c2 := Qq_M (Qnx_q g) hM
    obtain ⟨x1, x2, x3, x4⟩ := Qq_X (Qnx_q g) hX
    have e := x2 (s + i) (by omega)
    have l := x4 (s + i) (by omega)
    have sm := fun (d : Nat) (σ : Hp) => M_digit (d := d) (τ := σ) l
    have db := dv_b (X := X) (s := s) (n := i) hd
    rw [a152_243]
    by_cases z : kA X (s + i) = 2
    · have zz := (kA_2.mp z).2
      simp only [if_pos zz] at sm
      have := ih (i + 1) (sF (sF υ 57 12 (.long (lN (dv_ X s (i + 1))))) 57 10 (.int (nI (s + (i + 1))))) (by omega) (by omega) (fun j hj => by
        by_cases w : j = i
        · rw [w]; exact zz
        · exact hd j (by omega)) (Qnx_t g (Ag_F (Ag_F Ag_r rfl) rfl)) (by simp only [HA, Nat.reduceEqDiff, and_false, reduceIte]; exact h9) (by simp only [HA, and_self, reduceIte]) (by simp only [HA, Nat.reduceEqDiff, and_false, reduceIte]; exact h11) (by simp only [HA, Nat.reduceEqDiff, and_false, and_self, reduceIte])
      rw [show s + (i + 1) = s + i + 1 by omega, ← rn_y (by omega) z] at this
      refine Ev_e ?_ this
      have lc : (lN (dv_ X s i) ≤ lN 1000000) = (dv_ X s i ≤ 1000000) := by
        rw [← zL_n, ← zL_n, zL_le (by omega) (by omega), eq_iff_iff]; omega
      by_cases w : 1000000 < dv_ X s i
      · have ws : dv_ X s (i + 1) = dv_ X s i := by simp only [dv_]; rw [if_pos w]
        have w' : ¬ dv_ X s i ≤ 1000000 := by omega
        simp (disch := first | omega | (repeat (first | assumption | exact Ag_r | refine Ag_I ?_ rfl | refine Ag_F ?_ rfl | refine Ag_J ?_ rfl))) only [A152, FM c2, h9, h10, h11, h12, x1, e, sm, lc_le, lc, w', ws, CO, HA, HB, HC, Nat.not_lt_zero, Nat.add_assoc, c_nlt, c_nle, c_neq, c_P, c_cl, c_m1, c_m1', nI_add, pk_mul, reduceIte, Nat.reduceEqDiff, Nat.reduceAdd, Nat.reduceMul, Nat.reduceLeDiff, eq_self, ↓pk_rem, pk_div, c_of, d_le, d_nle, d_lt, d_nlt, d_eq, d_ne]
      · have ws := dv_s (X := X) (s := s) w zz.1 l
        have w' : dv_ X s i ≤ 1000000 := by omega
        simp (disch := first | omega | (repeat (first | assumption | exact Ag_r | refine Ag_I ?_ rfl | refine Ag_F ?_ rfl | refine Ag_J ?_ rfl))) only [A152, FM c2, h9, h10, h11, h12, x1, e, sm, lc_le, lc, w', ws, CO, HA, HB, HC, Nat.not_lt_zero, Nat.add_assoc, c_nlt, c_nle, c_neq, c_P, c_cl, c_m1, c_m1', nI_add, pk_mul, reduceIte, Nat.reduceEqDiff, Nat.reduceAdd, Nat.reduceMul, Nat.reduceLeDiff, eq_self, ↓pk_rem, pk_div, c_of, d_le, d_nle, d_lt, d_nlt, d_eq, d_ne]
    · have zz : ¬ (48 ≤ X.2 (s + i) ∧ X.2 (s + i) ≤ 57) := fun w => z (kA_2.mpr ⟨by omega, w⟩)
      simp only [if_neg zz] at sm
      refine Ev_e (o' := some (none, υ)) ?_ (Ev_s ⟨rfl, g, h9, ?_, h11, ?_⟩)
      · simp (disch := first | omega | (repeat (first | assumption | exact Ag_r | refine Ag_I ?_ rfl | refine Ag_F ?_ rfl | refine Ag_J ?_ rfl))) only [A152, FM c2, h9, h10, h11, x1, e, sm, CO, HA, HB, HC, Nat.not_lt_zero, Nat.add_assoc, c_nlt, c_nle, c_neq, c_P, c_cl, c_m1, c_m1', nI_add, pk_mul, reduceIte, Nat.reduceEqDiff, Nat.reduceAdd, Nat.reduceMul, Nat.reduceLeDiff, eq_self, ↓pk_rem, pk_div, c_of, d_le, d_nle, d_lt, d_nlt, d_eq, d_ne]
      · rw [rn_n (fun w => z w.2)]; exact h10
      · rw [rn_n (fun w => z w.2), show s + i - s = i by omega]; exact h12
end
