/-! law: the class's tokens -/
/-- the text lies on the class's tape -/
def TxC (τ : Hp) (X : Tx) : Prop := hF τ 16 1 = .int (nI X.1) ∧ (∀ i, i < X.1 → hI τ 17 i = nI (X.2 i)) ∧ X.1 ≤ 400 ∧ ∀ i, i < X.1 → X.2 i < 256
/-- the reader changes its code and its fields -/
def Qrd (σ τ : Hp) : Prop := Ag (fun k => Nat.beq k 15) (fun k j => Nat.beq k 14 && (Nat.beq j 2 || (Nat.beq j 3 || (Nat.beq j 4 || (Nat.beq j 5 || Nat.beq j 6))))) σ τ
theorem Qrd_t {a b c : Hp} (g : Qrd a b) (h : Qrd b c) : Qrd a c := Ag_t g h
theorem Qrd_C {a b : Hp} (g : Qrd a b) (h : FxC a) : FxC b := FxC_a g (by decide) h
theorem Qrd_X {a b : Hp} {X : Tx} (g : Qrd a b) (h : TxC a X) : TxC b X := ⟨by rw [Ag_f g 16 1 rfl]; exact h.1, fun i hi => by rw [Ag_i g 17 rfl]; exact h.2.1 i hi, h.2.2⟩
/-- the step changes these fields alone -/
def Qst (σ τ : Hp) : Prop := Ag (fun _ => false) (fun k j => Nat.beq k 14 && (Nat.beq j 3 || (Nat.beq j 4 || Nat.beq j 5))) σ τ
theorem Qst_t {a b c : Hp} (g : Qst a b) (h : Qst b c) : Qst a c := Ag_t g h
theorem Qst_r {σ τ : Hp} (g : Qst σ τ) : Qrd σ τ := Ag_w g (fun k e => nomatch e) (fun k j e => by
  simp only [Bool.and_eq_true, Bool.or_eq_true] at e ⊢
  refine ⟨e.1, ?_⟩
  rcases e.2 with e | e | e
  · exact Or.inr (Or.inl e)
  · exact Or.inr (Or.inr (Or.inl e))
  · exact Or.inr (Or.inr (Or.inr (Or.inl e))))
def TkC (τ : Hp) (X : Tx) (p : Nat) : Prop := hF τ 14 3 = .int (nI (tS X p)) ∧ hF τ 14 4 = .int (nI (tE X p)) ∧ hF τ 14 5 = .int (nI (tK X p))
section
variable {d p : Nat} {X : Tx} {τ : Hp}
theorem C_kindAt (hC : FxC τ) (hX : TxC τ X) (hp : p ≤ 400) : den (d, 51, 0, [.ref 14, .int (nI p), .float 0], [], τ) = some (some (.int (nI (kA X p))), τ) := by
  obtain ⟨x1, x2, x3, x4⟩ := hX
  unfold kA
  by_cases h : X.1 ≤ p
  · rw [if_pos h]
    simp (disch := first | omega | (repeat (first | assumption | exact Ag_r | refine Ag_I ?_ rfl | refine Ag_F ?_ rfl | refine Ag_J ?_ rfl))) only [A51, FC hC, x1, CO, HA, HB, HC, Nat.not_lt_zero, Nat.add_assoc, c_nlt, c_nle, c_neq, c_P, c_cl, c_m1, c_m1', nI_add, pk_mul, reduceIte, Nat.reduceEqDiff, Nat.reduceAdd, Nat.reduceMul, Nat.reduceLeDiff, eq_self, ↓pk_rem, pk_div, c_of, d_le, d_nle, d_lt, d_nlt, d_eq, d_ne]
  · have e := x2 p (by omega)
    have l := x4 p (by omega)
    rw [if_neg h]
    by_cases a : 97 ≤ X.2 p ∧ X.2 p ≤ 122
    · rw [if_pos a]
      obtain ⟨a1, a2⟩ := a
      simp (disch := first | omega | (repeat (first | assumption | exact Ag_r | refine Ag_I ?_ rfl | refine Ag_F ?_ rfl | refine Ag_J ?_ rfl))) only [A51, FC hC, x1, e, CO, HA, HB, HC, Nat.not_lt_zero, Nat.add_assoc, c_nlt, c_nle, c_neq, c_P, c_cl, c_m1, c_m1', nI_add, pk_mul, reduceIte, Nat.reduceEqDiff, Nat.reduceAdd, Nat.reduceMul, Nat.reduceLeDiff, eq_self, ↓pk_rem, pk_div, c_of, d_le, d_nle, d_lt, d_nlt, d_eq, d_ne]
    · rw [if_neg a]
      by_cases a1 : 97 ≤ X.2 p
      · have a2 : ¬ X.2 p ≤ 122 := fun z => a ⟨a1, z⟩
        rw [if_neg (by omega)]
        simp (disch := first | omega | (repeat (first | assumption | exact Ag_r | refine Ag_I ?_ rfl | refine Ag_F ?_ rfl | refine Ag_J ?_ rfl))) only [A51, FC hC, x1, e, CO, HA, HB, HC, Nat.not_lt_zero, Nat.add_assoc, c_nlt, c_nle, c_neq, c_P, c_cl, c_m1, c_m1', nI_add, pk_mul, reduceIte, Nat.reduceEqDiff, Nat.reduceAdd, Nat.reduceMul, Nat.reduceLeDiff, eq_self, ↓pk_rem, pk_div, c_of, d_le, d_nle, d_lt, d_nlt, d_eq, d_ne]
      · by_cases b1 : 48 ≤ X.2 p
        · by_cases b2 : X.2 p ≤ 57
          · rw [if_pos ⟨b1, b2⟩]
            simp (disch := first | omega | (repeat (first | assumption | exact Ag_r | refine Ag_I ?_ rfl | refine Ag_F ?_ rfl | refine Ag_J ?_ rfl))) only [A51, FC hC, x1, e, CO, HA, HB, HC, Nat.not_lt_zero, Nat.add_assoc, c_nlt, c_nle, c_neq, c_P, c_cl, c_m1, c_m1', nI_add, pk_mul, reduceIte, Nat.reduceEqDiff, Nat.reduceAdd, Nat.reduceMul, Nat.reduceLeDiff, eq_self, ↓pk_rem, pk_div, c_of, d_le, d_nle, d_lt, d_nlt, d_eq, d_ne]
          · rw [if_neg (by omega)]
            simp (disch := first | omega | (repeat (first | assumption | exact Ag_r | refine Ag_I ?_ rfl | refine Ag_F ?_ rfl | refine Ag_J ?_ rfl))) only [A51, FC hC, x1, e, CO, HA, HB, HC, Nat.not_lt_zero, Nat.add_assoc, c_nlt, c_nle, c_neq, c_P, c_cl, c_m1, c_m1', nI_add, pk_mul, reduceIte, Nat.reduceEqDiff, Nat.reduceAdd, Nat.reduceMul, Nat.reduceLeDiff, eq_self, ↓pk_rem, pk_div, c_of, d_le, d_nle, d_lt, d_nlt, d_eq, d_ne]
        · rw [if_neg (by omega)]
          simp (disch := first | omega | (repeat (first | assumption | exact Ag_r | refine Ag_I ?_ rfl | refine Ag_F ?_ rfl | refine Ag_J ?_ rfl))) only [A51, FC hC, x1, e, CO, HA, HB, HC, Nat.not_lt_zero, Nat.add_assoc, c_nlt, c_nle, c_neq, c_P, c_cl, c_m1, c_m1', nI_add, pk_mul, reduceIte, Nat.reduceEqDiff, Nat.reduceAdd, Nat.reduceMul, Nat.reduceLeDiff, eq_self, ↓pk_rem, pk_div, c_of, d_le, d_nle, d_lt, d_nlt, d_eq, d_ne]
theorem C_st1 (hC : FxC τ) (hX : TxC τ X) : ∀ (n q : Nat) (υ : Hp), X.1 - q = n → q ≤ X.1 → Qst τ υ → hF υ 14 3 = .int (nI q) → ∃ ω, den (d, 50, 8, [.ref 14], [], υ) = den (d, 50, 52, [.ref 14], [], ω) ∧ Qst τ ω ∧ hF ω 14 3 = .int (nI (tS X q)) := by
  intro n
  induction n with
  | zero =>
    intro q υ hn hq g h3
    have c2 := Qrd_C (Qst_r g) hC
    obtain ⟨x1, x2, x3, x4⟩ := Qrd_X (Qst_r g) hX
    refine ⟨υ, ?_, g, by rw [tS_n (by omega)]; exact h3⟩
    rw [a50_8]
    simp (disch := first | omega | (repeat (first | assumption | exact Ag_r | refine Ag_I ?_ rfl | refine Ag_F ?_ rfl | refine Ag_J ?_ rfl))) only [A50, FC c2, h3, x1, CO, HA, HB, HC, Nat.not_lt_zero, Nat.add_assoc, c_nlt, c_nle, c_neq, c_P, c_cl, c_m1, c_m1', nI_add, pk_mul, reduceIte, Nat.reduceEqDiff, Nat.reduceAdd, Nat.reduceMul, Nat.reduceLeDiff, eq_self, ↓pk_rem, pk_div, c_of, d_le, d_nle, d_lt, d_nlt, d_eq, d_ne]
  | succ n ih =>
    intro q υ hn hq g h3
    have c2 := Qrd_C (Qst_r g) hC
    obtain ⟨x1, x2, x3, x4⟩ := Qrd_X (Qst_r g) hX
    have e := x2 q (by omega)
    have l := x4 q (by omega)
    by_cases z : X.2 q = 32
    · obtain ⟨ω, e1, e2, e3⟩ := ih (q + 1) (sF υ 14 3 (.int (nI (q + 1)))) (by omega) (by omega) (Qst_t g (Ag_F Ag_r rfl)) (by simp only [HA, and_self, reduceIte])
      refine ⟨ω, ?_, e2, by rw [tS_y (by omega) z]; exact e3⟩
      rw [← e1, a50_8]
      simp (disch := first | omega | (repeat (first | assumption | exact Ag_r | refine Ag_I ?_ rfl | refine Ag_F ?_ rfl | refine Ag_J ?_ rfl))) only [A50, FC c2, h3, x1, e, z, CO, HA, HB, HC, Nat.not_lt_zero, Nat.add_assoc, c_nlt, c_nle, c_neq, c_P, c_cl, c_m1, c_m1', nI_add, pk_mul, reduceIte, Nat.reduceEqDiff, Nat.reduceAdd, Nat.reduceMul, Nat.reduceLeDiff, eq_self, ↓pk_rem, pk_div, c_of, d_le, d_nle, d_lt, d_nlt, d_eq, d_ne]
    · refine ⟨υ, ?_, g, by rw [tS_n (fun w => z w.2)]; exact h3⟩
      rw [a50_8]
      simp (disch := first | omega | (repeat (first | assumption | exact Ag_r | refine Ag_I ?_ rfl | refine Ag_F ?_ rfl | refine Ag_J ?_ rfl))) only [A50, FC c2, h3, x1, e, z, CO, HA, HB, HC, Nat.not_lt_zero, Nat.add_assoc, c_nlt, c_nle, c_neq, c_P, c_cl, c_m1, c_m1', nI_add, pk_mul, reduceIte, Nat.reduceEqDiff, Nat.reduceAdd, Nat.reduceMul, Nat.reduceLeDiff, eq_self, ↓pk_rem, pk_div, c_of, d_le, d_nle, d_lt, d_nlt, d_eq, d_ne]
theorem C_st2 (hC : FxC τ) (hX : TxC τ X) {k s : Nat} (hk : k < 3) : ∀ (n q : Nat) (υ : Hp), X.1 - q = n → q ≤ X.1 → Qst τ υ → hF υ 14 3 = .int (nI s) → hF υ 14 4 = .int (nI q) → hF υ 14 5 = .int (nI k) → Ev (den (d + 1, 50, 90, [.ref 14], [], υ)) (fun a ω => a = none ∧ Qst τ ω ∧ hF ω 14 3 = .int (nI s) ∧ hF ω 14 4 = .int (nI (rn_ X k q)) ∧ hF ω 14 5 = .int (nI k)) := by
  intro n
  induction n with
  | zero =>
    intro q υ hn hq g h3 h4 h5
    have c2 := Qrd_C (Qst_r g) hC
    obtain ⟨x1, x2, x3, x4⟩ := Qrd_X (Qst_r g) hX
    rw [a50_90]
    refine Ev_e (o' := some (none, υ)) ?_ (Ev_s ⟨rfl, g, h3, by rw [rn_n (by omega)]; exact h4, h5⟩)
    simp (disch := first | omega | (repeat (first | assumption | exact Ag_r | refine Ag_I ?_ rfl | refine Ag_F ?_ rfl | refine Ag_J ?_ rfl))) only [A50, FC c2, h3, h4, h5, x1, CO, HA, HB, HC, Nat.not_lt_zero, Nat.add_assoc, c_nlt, c_nle, c_neq, c_P, c_cl, c_m1, c_m1', nI_add, pk_mul, reduceIte, Nat.reduceEqDiff, Nat.reduceAdd, Nat.reduceMul, Nat.reduceLeDiff, eq_self, ↓pk_rem, pk_div, c_of, d_le, d_nle, d_lt, d_nlt, d_eq, d_ne]
  | succ n ih =>
    intro q υ hn hq g h3 h4 h5
    have c2 := Qrd_C (Qst_r g) hC
    have hX2 := Qrd_X (Qst_r g) hX
    obtain ⟨x1, x2, x3, x4⟩ := Qrd_X (Qst_r g) hX
    have kk := fun (d : Nat) => C_kindAt (d := d) c2 hX2 (show q ≤ 400 by omega)
    have k4 := (kA_4 (X := X) (p := q)).1
    by_cases z : kA X q = k
    · have := ih (q + 1) (sF υ 14 4 (.int (nI (q + 1)))) (by omega) (by omega) (Qst_t g (Ag_F Ag_r rfl)) (by simp only [HA, Nat.reduceEqDiff, and_false, reduceIte]; exact h3) (by simp only [HA, and_self, reduceIte]) (by simp only [HA, Nat.reduceEqDiff, and_false, reduceIte]; exact h5)
      rw [rn_y (by omega) z, a50_90]
      refine Ev_e ?_ this
      simp (disch := first | omega | (repeat (first | assumption | exact Ag_r | refine Ag_I ?_ rfl | refine Ag_F ?_ rfl | refine Ag_J ?_ rfl))) only [A50, FC c2, h3, h4, h5, x1, kk, z, CO, HA, HB, HC, Nat.not_lt_zero, Nat.add_assoc, c_nlt, c_nle, c_neq, c_P, c_cl, c_m1, c_m1', nI_add, pk_mul, reduceIte, Nat.reduceEqDiff, Nat.reduceAdd, Nat.reduceMul, Nat.reduceLeDiff, eq_self, ↓pk_rem, pk_div, c_of, d_le, d_nle, d_lt, d_nlt, d_eq, d_ne]
    · rw [rn_n (fun w => z w.2), a50_90]
      refine Ev_e (o' := some (none, υ)) ?_ (Ev_s ⟨rfl, g, h3, h4, h5⟩)
      simp (disch := first | omega | (repeat (first | assumption | exact Ag_r | refine Ag_I ?_ rfl | refine Ag_F ?_ rfl | refine Ag_J ?_ rfl))) only [A50, FC c2, h3, h4, h5, x1, kk, z, CO, HA, HB, HC, Nat.not_lt_zero, Nat.add_assoc, c_nlt, c_nle, c_neq, c_P, c_cl, c_m1, c_m1', nI_add, pk_mul, reduceIte, Nat.reduceEqDiff, Nat.reduceAdd, Nat.reduceMul, Nat.reduceLeDiff, eq_self, ↓pk_rem, pk_div, c_of, d_le, d_nle, d_lt, d_nlt, d_eq, d_ne]
theorem C_step (hC : FxC τ) (hX : TxC τ X) (hp : p ≤ X.1) (h4 : hF τ 14 4 = .int (nI p)) : Ev (den (d + 1, 50, 0, [.ref 14], [], τ)) (fun a ω => a = none ∧ Qst τ ω ∧ TkC ω X p) := by
  have g0 : Qst τ (sF τ 14 3 (.int (nI p))) := Ag_F Ag_r rfl
  obtain ⟨ω, e1, e2, e3⟩ := C_st1 (d := d + 1) hC hX _ p (sF τ 14 3 (.int (nI p))) rfl hp g0 (by simp only [HA, and_self, reduceIte])
  have c2 := Qrd_C (Qst_r e2) hC
  have hX2 := Qrd_X (Qst_r e2) hX
  obtain ⟨x1, x2, x3, x4⟩ := hX2
  obtain ⟨b1, b2, b3, b4⟩ := tk_b hp
  have g4 : Qst ω (sF ω 14 4 (.int (nI (tS X p)))) := Ag_F Ag_r rfl
  have g5 : Qst (sF ω 14 4 (.int (nI (tS X p)))) (sF (sF ω 14 4 (.int (nI (tS X p)))) 14 5 (.int (nI (tK X p)))) := Ag_F Ag_r rfl
  have g45 := Qst_t e2 (Qst_t g4 g5)
  have c4 := Qrd_C (Qst_r (Qst_t e2 g4)) hC
  have c5 := Qrd_C (Qst_r g45) hC
  have kk := fun (d : Nat) => C_kindAt (d := d) c4 (Qrd_X (Qst_r (Qst_t e2 g4)) hX) (show tS X p ≤ 400 by omega)
  refine Ev_e (o' := den (d + 1, 50, 52, [.ref 14], [], ω)) ?_ ?_
  · rw [← e1]
    simp (disch := first | omega | (repeat (first | assumption | exact Ag_r | refine Ag_I ?_ rfl | refine Ag_F ?_ rfl | refine Ag_J ?_ rfl))) only [A50, FC hC, h4, CO, HA, HB, HC, Nat.not_lt_zero, Nat.add_assoc, c_nlt, c_nle, c_neq, c_P, c_cl, c_m1, c_m1', nI_add, pk_mul, reduceIte, Nat.reduceEqDiff, Nat.reduceAdd, Nat.reduceMul, Nat.reduceLeDiff, eq_self, ↓pk_rem, pk_div, c_of, d_le, d_nle, d_lt, d_nlt, d_eq, d_ne]
  by_cases k0 : tK X p = 0
  · refine Ev_e (o' := some (none, sF (sF ω 14 4 (.int (nI (tS X p)))) 14 5 (.int (nI (tK X p))))) ?_ (Ev_s ⟨rfl, g45, ?_, ?_, ?_⟩)
    · have k0' : kA X (tS X p) = 0 := k0
      simp (disch := first | omega | (repeat (first | assumption | exact Ag_r | refine Ag_I ?_ rfl | refine Ag_F ?_ rfl | refine Ag_J ?_ rfl))) only [A50, FC c2, e3, kk, k0', k0, CO, HA, HB, HC, Nat.not_lt_zero, Nat.add_assoc, c_nlt, c_nle, c_neq, c_P, c_cl, c_m1, c_m1', nI_add, pk_mul, reduceIte, Nat.reduceEqDiff, Nat.reduceAdd, Nat.reduceMul, Nat.reduceLeDiff, eq_self, ↓pk_rem, pk_div, c_of, d_le, d_nle, d_lt, d_nlt, d_eq, d_ne]
    · simp only [HA, Nat.reduceEqDiff, and_false, reduceIte]; exact e3
    · have : tE X p = tS X p := by unfold tE; rw [if_pos k0]
      simp only [HA, Nat.reduceEqDiff, and_false, and_self, reduceIte, this]
    · simp only [HA, and_self, reduceIte]
  · have k0' : ¬ kA X (tS X p) = 0 := k0
    have kt : kA X (tS X p) = tK X p := rfl
    have g6 : Qst (sF (sF ω 14 4 (.int (nI (tS X p)))) 14 5 (.int (nI (tK X p)))) (sF (sF (sF ω 14 4 (.int (nI (tS X p)))) 14 5 (.int (nI (tK X p)))) 14 4 (.int (nI (tS X p + 1)))) := Ag_F Ag_r rfl
    have f3 : hF (sF (sF (sF ω 14 4 (.int (nI (tS X p)))) 14 5 (.int (nI (tK X p)))) 14 4 (.int (nI (tS X p + 1)))) 14 3 = .int (nI (tS X p)) := by simp only [HA, Nat.reduceEqDiff, and_false, reduceIte]; exact e3
    have f4 : hF (sF (sF (sF ω 14 4 (.int (nI (tS X p)))) 14 5 (.int (nI (tK X p)))) 14 4 (.int (nI (tS X p + 1)))) 14 4 = .int (nI (tS X p + 1)) := by simp only [HA, Nat.reduceEqDiff, and_false, and_self, reduceIte]
    have f5 : hF (sF (sF (sF ω 14 4 (.int (nI (tS X p)))) 14 5 (.int (nI (tK X p)))) 14 4 (.int (nI (tS X p + 1)))) 14 5 = .int (nI (tK X p)) := by simp only [HA, Nat.reduceEqDiff, and_false, and_self, reduceIte]
    have c6 := Qrd_C (Qst_r (Qst_t g45 g6)) hC
    have ts : tS X p < X.1 := by have := b3 k0; omega
    refine Ev_e (o' := den (d + 1, 50, 90, [.ref 14], [], sF (sF (sF ω 14 4 (.int (nI (tS X p)))) 14 5 (.int (nI (tK X p)))) 14 4 (.int (nI (tS X p + 1))))) ?_ ?_
    · simp (disch := first | omega | (repeat (first | assumption | exact Ag_r | refine Ag_I ?_ rfl | refine Ag_F ?_ rfl | refine Ag_J ?_ rfl))) only [A50, FC c2, e3, kk, kt, k0, CO, HA, HB, HC, Nat.not_lt_zero, Nat.add_assoc, c_nlt, c_nle, c_neq, c_P, c_cl, c_m1, c_m1', nI_add, pk_mul, reduceIte, Nat.reduceEqDiff, Nat.reduceAdd, Nat.reduceMul, Nat.reduceLeDiff, eq_self, ↓pk_rem, pk_div, c_of, d_le, d_nle, d_lt, d_nlt, d_eq, d_ne]
    · by_cases k3 : tK X p = 3
      · rw [a50_90]
        refine Ev_e (o' := some (none, sF (sF (sF ω 14 4 (.int (nI (tS X p)))) 14 5 (.int (nI (tK X p)))) 14 4 (.int (nI (tS X p + 1))))) ?_ (Ev_s ⟨rfl, Qst_t g45 g6, f3, ?_, f5⟩)
        · simp (disch := first | omega | (repeat (first | assumption | exact Ag_r | refine Ag_I ?_ rfl | refine Ag_F ?_ rfl | refine Ag_J ?_ rfl))) only [A50, FC c2, FC c6, f5, k3, CO, HA, HB, HC, Nat.not_lt_zero, Nat.add_assoc, c_nlt, c_nle, c_neq, c_P, c_cl, c_m1, c_m1', nI_add, pk_mul, reduceIte, Nat.reduceEqDiff, Nat.reduceAdd, Nat.reduceMul, Nat.reduceLeDiff, eq_self, ↓pk_rem, pk_div, c_of, d_le, d_nle, d_lt, d_nlt, d_eq, d_ne]
        · have : tE X p = tS X p + 1 := by unfold tE; rw [if_neg k0, if_pos k3]
          rw [this]; exact f4
      · refine Ev_m (C_st2 (d := d) hC hX (k := tK X p) (s := tS X p) (by omega) _ (tS X p + 1) _ rfl (by omega) (Qst_t g45 g6) f3 f4 f5) (fun a υ h => ⟨h.1, h.2.1, h.2.2.1, ?_, h.2.2.2.2⟩)
        have : tE X p = rn_ X (tK X p) (tS X p + 1) := by unfold tE; rw [if_neg k0, if_neg k3]
        rw [this]; exact h.2.2.2.1
theorem C_isSign (hC : FxC τ) (hX : TxC τ X) (hp : p ≤ X.1) (hT : TkC τ X p) {c : Nat} (hc : 0 < c) (h2 : c < 256) : den (d, 52, 0, [.ref 14, .int (nI c)], [], τ) = some (some (.int (if sg_ X p = c then nI 1 else nI 0)), τ) := by
  obtain ⟨x1, x2, x3, x4⟩ := hX
  obtain ⟨t1, t2, t3⟩ := hT
  obtain ⟨b1, b2, b3, b4⟩ := tk_b hp
  unfold sg_
  by_cases k : tK X p = 3
  · have ts : tS X p < X.1 := by have := b3 (by omega); omega
    have e := x2 _ ts
    have l := x4 _ ts
    rw [if_pos k]
    by_cases z : X.2 (tS X p) = c
    · simp (disch := first | omega | (repeat (first | assumption | exact Ag_r | refine Ag_I ?_ rfl | refine Ag_F ?_ rfl | refine Ag_J ?_ rfl))) only [A52, FC hC, t1, t2, t3, k, e, z, CO, HA, HB, HC, Nat.not_lt_zero, Nat.add_assoc, c_nlt, c_nle, c_neq, c_P, c_cl, c_m1, c_m1', nI_add, pk_mul, reduceIte, Nat.reduceEqDiff, Nat.reduceAdd, Nat.reduceMul, Nat.reduceLeDiff, eq_self, ↓pk_rem, pk_div, c_of, d_le, d_nle, d_lt, d_nlt, d_eq, d_ne]
    · rw [if_neg z]
      simp (disch := first | omega | (repeat (first | assumption | exact Ag_r | refine Ag_I ?_ rfl | refine Ag_F ?_ rfl | refine Ag_J ?_ rfl))) only [A52, FC hC, t1, t2, t3, k, e, z, CO, HA, HB, HC, Nat.not_lt_zero, Nat.add_assoc, c_nlt, c_nle, c_neq, c_P, c_cl, c_m1, c_m1', nI_add, pk_mul, reduceIte, Nat.reduceEqDiff, Nat.reduceAdd, Nat.reduceMul, Nat.reduceLeDiff, eq_self, ↓pk_rem, pk_div, c_of, d_le, d_nle, d_lt, d_nlt, d_eq, d_ne]
  · rw [if_neg k, if_neg (by omega)]
    simp (disch := first | omega | (repeat (first | assumption | exact Ag_r | refine Ag_I ?_ rfl | refine Ag_F ?_ rfl | refine Ag_J ?_ rfl))) only [A52, FC hC, t1, t2, t3, k, CO, HA, HB, HC, Nat.not_lt_zero, Nat.add_assoc, c_nlt, c_nle, c_neq, c_P, c_cl, c_m1, c_m1', nI_add, pk_mul, reduceIte, Nat.reduceEqDiff, Nat.reduceAdd, Nat.reduceMul, Nat.reduceLeDiff, eq_self, ↓pk_rem, pk_div, c_of, d_le, d_nle, d_lt, d_nlt, d_eq, d_ne]
end
