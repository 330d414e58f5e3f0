/-! law: the class reads sums -/
def PoC (τ : Hp) (X : Tx) (p a K : Nat) (r : Pz) : Option Value → Hp → Prop := fun v υ => Qrd τ υ ∧ Kc a τ υ ∧ match r with
  | .inl q => v = some (.int (nI 0)) ∧ hF υ 14 3 = .int (nI q)
  | .inr (p', n', φ) => v = some (.int (nI 1)) ∧ ∃ b, RdC υ X p' b n' ∧ b + p ≤ a + p' ∧ a ≤ b ∧ SgC (hI υ 15) a b K φ
def CP (X : Tx) (D m : Nat) (ls : List Value) (K : Nat) (P : Nat → Nat → Pz) : Prop := ∀ (d p a n : Nat) (τ : Hp), D ≤ d → RdC τ X p a n → a ≤ p → Ev (den (d, m, 0, ls, [], τ)) (PoC τ X p a K (P p n))
section
variable {X : Tx}
theorem C_term {S : Option (Nat → Nat → Pz)} {δ K D : Nat} (hδ : δ ≤ 8) (hK : 1 ≤ K) (hF : Fw X (pPt X S)) (hP : CP X D 66 [.ref 14, .int (nI δ), .float 0, .float 0] K (pPt X S)) : CP X (D + 3) 65 [.ref 14, .int (nI δ), .float 0, .float 0] (K + 1) (pTm X S) := by
  intro d p a n τ hd h hap
  obtain ⟨e, rfl⟩ : ∃ e, d = e + 3 := ⟨d - 3, by omega⟩
  have x4 := h.2.1.2.2.1
  have hp := h.2.2.1
  have go : ∀ (f i : Nat) (φ : Ph) (p1 b n1 : Nat) (υ : Hp) (l3 : Value), i + f = 400 → RdC υ X p1 b n1 → Qrd τ υ → Kc a τ υ → b + p ≤ a + p1 → a ≤ b → p ≤ p1 → SgC (hI υ 15) a b (K + 1) φ → Ev (den (e + 3, 65, 12, [.ref 14, .int (nI δ), .int (nI i), l3], [], υ)) (PoC τ X p a (K + 1) (pTL X S f φ p1 n1)) := by
    intro f
    induction f with
    | zero =>
      intro i φ p1 b n1 υ l3 hi r g k l1 l2 l3' sg
      obtain rfl : i = 400 := by omega
      rw [a65_12]
      simp (disch := first | omega | (repeat (first | assumption | exact Ag_r | refine Ag_I ?_ rfl | refine Ag_F ?_ rfl | refine Ag_J ?_ rfl))) only [A65, CO, HA, HB, HC, Nat.not_lt_zero, Nat.add_assoc, c_nlt, c_nle, c_neq, c_P, c_cl, c_m1, c_m1', nI_add, pk_mul, reduceIte, Nat.reduceEqDiff, Nat.reduceAdd, Nat.reduceMul, Nat.reduceLeDiff, eq_self, ↓pk_rem, pk_div, c_of, d_le, d_nle, d_lt, d_nlt, d_eq, d_ne]
      exact Ev_s ⟨g, k, rfl, b, r, l1, l2, sg⟩
    | succ f ih =>
      intro i φ p1 b n1 υ l3 hi r g k l1 l2 l3' sg
      have w := fun (d c : Nat) (hc : 0 < c) (h2 : c < 256) => CS (d := d) r hc h2
      have hp1 := r.2.2.1
      rw [a65_12]
      simp only [pTL]
      by_cases q : sg_ X p1 = 42 ∨ sg_ X p1 = 47
      · rw [if_pos q]
        have te : p1 < tE X p1 ∧ tE X p1 ≤ X.1 := by
          rcases q with q | q
          · have := tE_s hp1 (by omega) q; omega
          · have := tE_s hp1 (by omega) q; omega
        refine Ev_e (o' := den (e + 3, 65, 54, [.ref 14, .int (nI δ), .int (nI i), .int (opC (if sg_ X p1 = 42 then 2 else 3))], [], υ)) ?_ ?_
        · by_cases q1 : sg_ X p1 = 42
          · simp (disch := first | omega | (repeat (first | assumption | exact Ag_r | refine Ag_I ?_ rfl | refine Ag_F ?_ rfl | refine Ag_J ?_ rfl))) only [a65_13, a65_16, a65_19, a65_20, a65_22, a65_25, a65_37, a65_38, a65_40, a65_43, a65_46, a65_48, a65_53, a65_28, a65_29, a65_31, a65_34, a65_51, FC r.1, w, q1, CO, HA, HB, HC, Nat.not_lt_zero, Nat.add_assoc, c_nlt, c_nle, c_neq, c_P, c_cl, c_m1, c_m1', nI_add, pk_mul, reduceIte, Nat.reduceEqDiff, Nat.reduceAdd, Nat.reduceMul, Nat.reduceLeDiff, eq_self, ↓pk_rem, pk_div, c_of, d_le, d_nle, d_lt, d_nlt, d_eq, d_ne]
            rfl
          · have q2 : sg_ X p1 = 47 := q.resolve_left q1
            simp (disch := first | omega | (repeat (first | assumption | exact Ag_r | refine Ag_I ?_ rfl | refine Ag_F ?_ rfl | refine Ag_J ?_ rfl))) only [a65_13, a65_16, a65_19, a65_20, a65_22, a65_25, a65_37, a65_38, a65_40, a65_43, a65_46, a65_48, a65_53, a65_28, a65_29, a65_31, a65_34, a65_51, FC r.1, w, q2, CO, HA, HB, HC, Nat.not_lt_zero, Nat.add_assoc, c_nlt, c_nle, c_neq, c_P, c_cl, c_m1, c_m1', nI_add, pk_mul, reduceIte, Nat.reduceEqDiff, Nat.reduceAdd, Nat.reduceMul, Nat.reduceLeDiff, eq_self, ↓pk_rem, pk_div, c_of, d_le, d_nle, d_lt, d_nlt, d_eq, d_ne]
            rfl
        have oc : (if sg_ X p1 = 42 then 2 else 3) < 7 := by split <;> omega
        generalize (if sg_ X p1 = 42 then 2 else 3) = o at oc ⊢
        simp (disch := first | omega | (repeat (first | assumption | exact Ag_r | refine Ag_I ?_ rfl | refine Ag_F ?_ rfl | refine Ag_J ?_ rfl))) only [a65_54, a65_55, FC r.1, CO, HA, HB, HC, Nat.not_lt_zero, Nat.add_assoc, c_nlt, c_nle, c_neq, c_P, c_cl, c_m1, c_m1', nI_add, pk_mul, reduceIte, Nat.reduceEqDiff, Nat.reduceAdd, Nat.reduceMul, Nat.reduceLeDiff, eq_self, ↓pk_rem, pk_div, c_of, d_le, d_nle, d_lt, d_nlt, d_eq, d_ne]
        refine Ev_b (C_sp (d := e + 1) r) ?_
        rintro _ υ1 ⟨rfl, g1, r1, c1⟩
        simp (disch := first | omega | (repeat (first | assumption | exact Ag_r | refine Ag_I ?_ rfl | refine Ag_F ?_ rfl | refine Ag_J ?_ rfl))) only [a65_58, a65_59, a65_60, FC r1.1, CO, HA, HB, HC, Nat.not_lt_zero, Nat.add_assoc, c_nlt, c_nle, c_neq, c_P, c_cl, c_m1, c_m1', nI_add, pk_mul, reduceIte, Nat.reduceEqDiff, Nat.reduceAdd, Nat.reduceMul, Nat.reduceLeDiff, eq_self, ↓pk_rem, pk_div, c_of, d_le, d_nle, d_lt, d_nlt, d_eq, d_ne]
        have A := hP (e + 2) (tE X p1) b n1 υ1 (by omega) r1 (by omega)
        refine Ev_b A ?_
        intro v υ2 B
        have ff := fun p' n' ψ => hF (tE X p1) n1 p' n' ψ te.2
        revert B ff
        cases pPt X S (tE X p1) n1 with
        | inl q =>
          rintro ⟨g2, k2, rfl, s2⟩ ff
          simp (disch := first | omega | (repeat (first | assumption | exact Ag_r | refine Ag_I ?_ rfl | refine Ag_F ?_ rfl | refine Ag_J ?_ rfl))) only [a65_63, a65_66, a65_67, CO, HA, HB, HC, Nat.not_lt_zero, Nat.add_assoc, c_nlt, c_nle, c_neq, c_P, c_cl, c_m1, c_m1', nI_add, pk_mul, reduceIte, Nat.reduceEqDiff, Nat.reduceAdd, Nat.reduceMul, Nat.reduceLeDiff, eq_self, ↓pk_rem, pk_div, c_of, d_le, d_nle, d_lt, d_nlt, d_eq, d_ne]
          exact Ev_s ⟨Qrd_t g (Qrd_t g1 g2), Kc_t k (fun i hi => by rw [k2 i (by omega), c1]) l2, rfl, s2⟩
        | inr x =>
          obtain ⟨p2, n2, ψ⟩ := x
          rintro ⟨g2, k2, rfl, b2, r2, m1, m2, sg2⟩ ff
          have f2 := ff p2 n2 ψ rfl
          simp (disch := first | omega | (repeat (first | assumption | exact Ag_r | refine Ag_I ?_ rfl | refine Ag_F ?_ rfl | refine Ag_J ?_ rfl))) only [a65_63, a65_68, a65_69, a65_70, FC r2.1, CO, HA, HB, HC, Nat.not_lt_zero, Nat.add_assoc, c_nlt, c_nle, c_neq, c_P, c_cl, c_m1, c_m1', nI_add, pk_mul, reduceIte, Nat.reduceEqDiff, Nat.reduceAdd, Nat.reduceMul, Nat.reduceLeDiff, eq_self, ↓pk_rem, pk_div, c_of, d_le, d_nle, d_lt, d_nlt, d_eq, d_ne]
          have A2 := C_pu (d := e + 2) r2 (by omega) (opC o)
          refine Ev_b A2 ?_
          rintro _ υ3 ⟨rfl, g3, r3, k3, c3⟩
          refine Ev_e ?_ (ih (i + 1) (phO o φ ψ) p2 (b2 + 1) n2 υ3 (.int (opC o)) (by omega) r3 (Qrd_t g (Qrd_t g1 (Qrd_t g2 g3))) (Kc_t k (fun i hi => by rw [k3 i (by omega), k2 i hi, c1]) l2) (by omega) (by omega) (by omega) ?_)
          · simp (disch := first | omega | (repeat (first | assumption | exact Ag_r | refine Ag_I ?_ rfl | refine Ag_F ?_ rfl | refine Ag_J ?_ rfl))) only [a65_73, a65_76, CO, HA, HB, HC, Nat.not_lt_zero, Nat.add_assoc, c_nlt, c_nle, c_neq, c_P, c_cl, c_m1, c_m1', nI_add, pk_mul, reduceIte, Nat.reduceEqDiff, Nat.reduceAdd, Nat.reduceMul, Nat.reduceLeDiff, eq_self, ↓pk_rem, pk_div, c_of, d_le, d_nle, d_lt, d_nlt, d_eq, d_ne]
          · refine SgC_op (SgC_e sg (fun i h1 h2 => by rw [k3 i (by omega), k2 i h2, c1])) (SgC_e sg2 (fun i h1 h2 => by rw [k3 i (by omega)])) oc c3 (Nat.le_refl _) (Nat.le_refl _) (by omega)
      · rw [if_neg q]
        have q1 : ¬ sg_ X p1 = 42 := fun z => q (Or.inl z)
        have q2 : ¬ sg_ X p1 = 47 := fun z => q (Or.inr z)
        refine Ev_e (o' := some (some (.int (nI 1)), υ)) ?_ (Ev_s ⟨g, k, rfl, b, r, l1, l2, sg⟩)
        simp (disch := first | omega | (repeat (first | assumption | exact Ag_r | refine Ag_I ?_ rfl | refine Ag_F ?_ rfl | refine Ag_J ?_ rfl))) only [A65, FC r.1, w, q1, q2, CO, HA, HB, HC, Nat.not_lt_zero, Nat.add_assoc, c_nlt, c_nle, c_neq, c_P, c_cl, c_m1, c_m1', nI_add, pk_mul, reduceIte, Nat.reduceEqDiff, Nat.reduceAdd, Nat.reduceMul, Nat.reduceLeDiff, eq_self, ↓pk_rem, pk_div, c_of, d_le, d_nle, d_lt, d_nlt, d_eq, d_ne]
  show Ev (den (e + 3, 65, 0, [.ref 14, .int (nI δ), .float 0, .float 0], [], τ)) _
  simp (disch := first | omega | (repeat (first | assumption | exact Ag_r | refine Ag_I ?_ rfl | refine Ag_F ?_ rfl | refine Ag_J ?_ rfl))) only [a65_0, a65_1, a65_2, FC h.1, CO, HA, HB, HC, Nat.not_lt_zero, Nat.add_assoc, c_nlt, c_nle, c_neq, c_P, c_cl, c_m1, c_m1', nI_add, pk_mul, reduceIte, Nat.reduceEqDiff, Nat.reduceAdd, Nat.reduceMul, Nat.reduceLeDiff, eq_self, ↓pk_rem, pk_div, c_of, d_le, d_nle, d_lt, d_nlt, d_eq, d_ne]
  have A := hP (e + 2) p a n τ (by omega) h hap
  refine Ev_b A ?_
  intro v υ2 B
  have ff := fun p' n' ψ => hF p n p' n' ψ hp
  unfold pTm
  revert B ff
  cases pPt X S p n with
  | inl q =>
    rintro ⟨g2, k2, rfl, s2⟩ ff
    simp (disch := first | omega | (repeat (first | assumption | exact Ag_r | refine Ag_I ?_ rfl | refine Ag_F ?_ rfl | refine Ag_J ?_ rfl))) only [a65_5, a65_8, a65_9, CO, HA, HB, HC, Nat.not_lt_zero, Nat.add_assoc, c_nlt, c_nle, c_neq, c_P, c_cl, c_m1, c_m1', nI_add, pk_mul, reduceIte, Nat.reduceEqDiff, Nat.reduceAdd, Nat.reduceMul, Nat.reduceLeDiff, eq_self, ↓pk_rem, pk_div, c_of, d_le, d_nle, d_lt, d_nlt, d_eq, d_ne]
    exact Ev_s ⟨g2, k2, rfl, s2⟩
  | inr x =>
    obtain ⟨p2, n2, ψ⟩ := x
    rintro ⟨g2, k2, rfl, b2, r2, m1, m2, sg2⟩ ff
    have f2 := ff p2 n2 ψ rfl
    refine Ev_e (o' := den (e + 3, 65, 12, [.ref 14, .int (nI δ), .int (nI 0), .float 0], [], υ2)) ?_ (go F4 0 ψ p2 b2 n2 υ2 (.float 0) rfl r2 g2 k2 m1 m2 (by omega) (SgC_k sg2 (by omega)))
    simp (disch := first | omega | (repeat (first | assumption | exact Ag_r | refine Ag_I ?_ rfl | refine Ag_F ?_ rfl | refine Ag_J ?_ rfl))) only [a65_5, a65_10, a65_11, CO, HA, HB, HC, Nat.not_lt_zero, Nat.add_assoc, c_nlt, c_nle, c_neq, c_P, c_cl, c_m1, c_m1', nI_add, pk_mul, reduceIte, Nat.reduceEqDiff, Nat.reduceAdd, Nat.reduceMul, Nat.reduceLeDiff, eq_self, ↓pk_rem, pk_div, c_of, d_le, d_nle, d_lt, d_nlt, d_eq, d_ne]
theorem C_sum1 {S : Option (Nat → Nat → Pz)} {δ K D : Nat} (hδ : δ ≤ 8) (hK : 1 ≤ K) (hF : Fw X (pTm X S)) (hP : CP X D 65 [.ref 14, .int (nI δ), .float 0, .float 0] K (pTm X S)) : CP X (D + 3) 64 [.ref 14, .int (nI δ), .float 0, .float 0] (K + 1) (pSm X S) := by
  intro d p a n τ hd h hap
  obtain ⟨e, rfl⟩ : ∃ e, d = e + 3 := ⟨d - 3, by omega⟩
  have x4 := h.2.1.2.2.1
  have hp := h.2.2.1
  have go : ∀ (f i : Nat) (φ : Ph) (p1 b n1 : Nat) (υ : Hp) (l3 : Value), i + f = 400 → RdC υ X p1 b n1 → Qrd τ υ → Kc a τ υ → b + p ≤ a + p1 → a ≤ b → p ≤ p1 → SgC (hI υ 15) a b (K + 1) φ → Ev (den (e + 3, 64, 12, [.ref 14, .int (nI δ), .int (nI i), l3], [], υ)) (PoC τ X p a (K + 1) (pSL X S f φ p1 n1)) := by
    intro f
    induction f with
    | zero =>
      intro i φ p1 b n1 υ l3 hi r g k l1 l2 l3' sg
      obtain rfl : i = 400 := by omega
      rw [a64_12]
      simp (disch := first | omega | (repeat (first | assumption | exact Ag_r | refine Ag_I ?_ rfl | refine Ag_F ?_ rfl | refine Ag_J ?_ rfl))) only [A64, CO, HA, HB, HC, Nat.not_lt_zero, Nat.add_assoc, c_nlt, c_nle, c_neq, c_P, c_cl, c_m1, c_m1', nI_add, pk_mul, reduceIte, Nat.reduceEqDiff, Nat.reduceAdd, Nat.reduceMul, Nat.reduceLeDiff, eq_self, ↓pk_rem, pk_div, c_of, d_le, d_nle, d_lt, d_nlt, d_eq, d_ne]
      exact Ev_s ⟨g, k, rfl, b, r, l1, l2, sg⟩
    | succ f ih =>
      intro i φ p1 b n1 υ l3 hi r g k l1 l2 l3' sg
      have w := fun (d c : Nat) (hc : 0 < c) (h2 : c < 256) => CS (d := d) r hc h2
      have hp1 := r.2.2.1
      rw [a64_12]
      simp only [pSL]
      by_cases q : sg_ X p1 = 43 ∨ sg_ X p1 = 45
      · rw [if_pos q]
        have te : p1 < tE X p1 ∧ tE X p1 ≤ X.1 := by
          rcases q with q | q
          · have := tE_s hp1 (by omega) q; omega
          · have := tE_s hp1 (by omega) q; omega
        refine Ev_e (o' := den (e + 3, 64, 54, [.ref 14, .int (nI δ), .int (nI i), .int (opC (if sg_ X p1 = 43 then 0 else 1))], [], υ)) ?_ ?_
        · by_cases q1 : sg_ X p1 = 43
          · simp (disch := first | omega | (repeat (first | assumption | exact Ag_r | refine Ag_I ?_ rfl | refine Ag_F ?_ rfl | refine Ag_J ?_ rfl))) only [a64_13, a64_16, a64_19, a64_20, a64_22, a64_25, a64_37, a64_38, a64_40, a64_43, a64_46, a64_48, a64_53, a64_28, a64_29, a64_31, a64_34, a64_51, FC r.1, w, q1, CO, HA, HB, HC, Nat.not_lt_zero, Nat.add_assoc, c_nlt, c_nle, c_neq, c_P, c_cl, c_m1, c_m1', nI_add, pk_mul, reduceIte, Nat.reduceEqDiff, Nat.reduceAdd, Nat.reduceMul, Nat.reduceLeDiff, eq_self, ↓pk_rem, pk_div, c_of, d_le, d_nle, d_lt, d_nlt, d_eq, d_ne]
            rfl
          · have q2 : sg_ X p1 = 45 := q.resolve_left q1
            simp (disch := first | omega | (repeat (first | assumption | exact Ag_r | refine Ag_I ?_ rfl | refine Ag_F ?_ rfl | refine Ag_J ?_ rfl))) only [a64_13, a64_16, a64_19, a64_20, a64_22, a64_25, a64_37, a64_38, a64_40, a64_43, a64_46, a64_48, a64_53, a64_28, a64_29, a64_31, a64_34, a64_51, FC r.1, w, q2, CO, HA, HB, HC, Nat.not_lt_zero, Nat.add_assoc, c_nlt, c_nle, c_neq, c_P, c_cl, c_m1, c_m1', nI_add, pk_mul, reduceIte, Nat.reduceEqDiff, Nat.reduceAdd, Nat.reduceMul, Nat.reduceLeDiff, eq_self, ↓pk_rem, pk_div, c_of, d_le, d_nle, d_lt, d_nlt, d_eq, d_ne]
            rfl
        have oc : (if sg_ X p1 = 43 then 0 else 1) < 7 := by split <;> omega
        generalize (if sg_ X p1 = 43 then 0 else 1) = o at oc ⊢
        simp (disch := first | omega | (repeat (first | assumption | exact Ag_r | refine Ag_I ?_ rfl | refine Ag_F ?_ rfl | refine Ag_J ?_ rfl))) only [a64_54, a64_55, FC r.1, CO, HA, HB, HC, Nat.not_lt_zero, Nat.add_assoc, c_nlt, c_nle, c_neq, c_P, c_cl, c_m1, c_m1', nI_add, pk_mul, reduceIte, Nat.reduceEqDiff, Nat.reduceAdd, Nat.reduceMul, Nat.reduceLeDiff, eq_self, ↓pk_rem, pk_div, c_of, d_le, d_nle, d_lt, d_nlt, d_eq, d_ne]
        refine Ev_b (C_sp (d := e + 1) r) ?_
        rintro _ υ1 ⟨rfl, g1, r1, c1⟩
        simp (disch := first | omega | (repeat (first | assumption | exact Ag_r | refine Ag_I ?_ rfl | refine Ag_F ?_ rfl | refine Ag_J ?_ rfl))) only [a64_58, a64_59, a64_60, FC r1.1, CO, HA, HB, HC, Nat.not_lt_zero, Nat.add_assoc, c_nlt, c_nle, c_neq, c_P, c_cl, c_m1, c_m1', nI_add, pk_mul, reduceIte, Nat.reduceEqDiff, Nat.reduceAdd, Nat.reduceMul, Nat.reduceLeDiff, eq_self, ↓pk_rem, pk_div, c_of, d_le, d_nle, d_lt, d_nlt, d_eq, d_ne]
        have A := hP (e + 2) (tE X p1) b n1 υ1 (by omega) r1 (by omega)
        refine Ev_b A ?_
        intro v υ2 B
        have ff := fun p' n' ψ => hF (tE X p1) n1 p' n' ψ te.2
        revert B ff
        cases pTm X S (tE X p1) n1 with
        | inl q =>
          rintro ⟨g2, k2, rfl, s2⟩ ff
          simp (disch := first | omega | (repeat (first | assumption | exact Ag_r | refine Ag_I ?_ rfl | refine Ag_F ?_ rfl | refine Ag_J ?_ rfl))) only [a64_63, a64_66, a64_67, CO, HA, HB, HC, Nat.not_lt_zero, Nat.add_assoc, c_nlt, c_nle, c_neq, c_P, c_cl, c_m1, c_m1', nI_add, pk_mul, reduceIte, Nat.reduceEqDiff, Nat.reduceAdd, Nat.reduceMul, Nat.reduceLeDiff, eq_self, ↓pk_rem, pk_div, c_of, d_le, d_nle, d_lt, d_nlt, d_eq, d_ne]
          exact Ev_s ⟨Qrd_t g (Qrd_t g1 g2), Kc_t k (fun i hi => by rw [k2 i (by omega), c1]) l2, rfl, s2⟩
        | inr x =>
          obtain ⟨p2, n2, ψ⟩ := x
          rintro ⟨g2, k2, rfl, b2, r2, m1, m2, sg2⟩ ff
          have f2 := ff p2 n2 ψ rfl
          simp (disch := first | omega | (repeat (first | assumption | exact Ag_r | refine Ag_I ?_ rfl | refine Ag_F ?_ rfl | refine Ag_J ?_ rfl))) only [a64_63, a64_68, a64_69, a64_70, FC r2.1, CO, HA, HB, HC, Nat.not_lt_zero, Nat.add_assoc, c_nlt, c_nle, c_neq, c_P, c_cl, c_m1, c_m1', nI_add, pk_mul, reduceIte, Nat.reduceEqDiff, Nat.reduceAdd, Nat.reduceMul, Nat.reduceLeDiff, eq_self, ↓pk_rem, pk_div, c_of, d_le, d_nle, d_lt, d_nlt, d_eq, d_ne]
          have A2 := C_pu (d := e + 2) r2 (by omega) (opC o)
          refine Ev_b A2 ?_
          rintro _ υ3 ⟨rfl, g3, r3, k3, c3⟩
          refine Ev_e ?_ (ih (i + 1) (phO o φ ψ) p2 (b2 + 1) n2 υ3 (.int (opC o)) (by omega) r3 (Qrd_t g (Qrd_t g1 (Qrd_t g2 g3))) (Kc_t k (fun i hi => by rw [k3 i (by omega), k2 i hi, c1]) l2) (by omega) (by omega) (by omega) ?_)
          · simp (disch := first | omega | (repeat (first | assumption | exact Ag_r | refine Ag_I ?_ rfl | refine Ag_F ?_ rfl | refine Ag_J ?_ rfl))) only [a64_73, a64_76, CO, HA, HB, HC, Nat.not_lt_zero, Nat.add_assoc, c_nlt, c_nle, c_neq, c_P, c_cl, c_m1, c_m1', nI_add, pk_mul, reduceIte, Nat.reduceEqDiff, Nat.reduceAdd, Nat.reduceMul, Nat.reduceLeDiff, eq_self, ↓pk_rem, pk_div, c_of, d_le, d_nle, d_lt, d_nlt, d_eq, d_ne]
          · refine SgC_op (SgC_e sg (fun i h1 h2 => by rw [k3 i (by omega), k2 i h2, c1])) (SgC_e sg2 (fun i h1 h2 => by rw [k3 i (by omega)])) oc c3 (Nat.le_refl _) (Nat.le_refl _) (by omega)
      · rw [if_neg q]
        have q1 : ¬ sg_ X p1 = 43 := fun z => q (Or.inl z)
        have q2 : ¬ sg_ X p1 = 45 := fun z => q (Or.inr z)
        refine Ev_e (o' := some (some (.int (nI 1)), υ)) ?_ (Ev_s ⟨g, k, rfl, b, r, l1, l2, sg⟩)
        simp (disch := first | omega | (repeat (first | assumption | exact Ag_r | refine Ag_I ?_ rfl | refine Ag_F ?_ rfl | refine Ag_J ?_ rfl))) only [A64, FC r.1, w, q1, q2, CO, HA, HB, HC, Nat.not_lt_zero, Nat.add_assoc, c_nlt, c_nle, c_neq, c_P, c_cl, c_m1, c_m1', nI_add, pk_mul, reduceIte, Nat.reduceEqDiff, Nat.reduceAdd, Nat.reduceMul, Nat.reduceLeDiff, eq_self, ↓pk_rem, pk_div, c_of, d_le, d_nle, d_lt, d_nlt, d_eq, d_ne]
  show Ev (den (e + 3, 64, 0, [.ref 14, .int (nI δ), .float 0, .float 0], [], τ)) _
  simp (disch := first | omega | (repeat (first | assumption | exact Ag_r | refine Ag_I ?_ rfl | refine Ag_F ?_ rfl | refine Ag_J ?_ rfl))) only [a64_0, a64_1, a64_2, FC h.1, CO, HA, HB, HC, Nat.not_lt_zero, Nat.add_assoc, c_nlt, c_nle, c_neq, c_P, c_cl, c_m1, c_m1', nI_add, pk_mul, reduceIte, Nat.reduceEqDiff, Nat.reduceAdd, Nat.reduceMul, Nat.reduceLeDiff, eq_self, ↓pk_rem, pk_div, c_of, d_le, d_nle, d_lt, d_nlt, d_eq, d_ne]
  have A := hP (e + 2) p a n τ (by omega) h hap
  refine Ev_b A ?_
  intro v υ2 B
  have ff := fun p' n' ψ => hF p n p' n' ψ hp
  unfold pSm
  revert B ff
  cases pTm X S p n with
  | inl q =>
    rintro ⟨g2, k2, rfl, s2⟩ ff
    simp (disch := first | omega | (repeat (first | assumption | exact Ag_r | refine Ag_I ?_ rfl | refine Ag_F ?_ rfl | refine Ag_J ?_ rfl))) only [a64_5, a64_8, a64_9, CO, HA, HB, HC, Nat.not_lt_zero, Nat.add_assoc, c_nlt, c_nle, c_neq, c_P, c_cl, c_m1, c_m1', nI_add, pk_mul, reduceIte, Nat.reduceEqDiff, Nat.reduceAdd, Nat.reduceMul, Nat.reduceLeDiff, eq_self, ↓pk_rem, pk_div, c_of, d_le, d_nle, d_lt, d_nlt, d_eq, d_ne]
    exact Ev_s ⟨g2, k2, rfl, s2⟩
  | inr x =>
    obtain ⟨p2, n2, ψ⟩ := x
    rintro ⟨g2, k2, rfl, b2, r2, m1, m2, sg2⟩ ff
    have f2 := ff p2 n2 ψ rfl
    refine Ev_e (o' := den (e + 3, 64, 12, [.ref 14, .int (nI δ), .int (nI 0), .float 0], [], υ2)) ?_ (go F4 0 ψ p2 b2 n2 υ2 (.float 0) rfl r2 g2 k2 m1 m2 (by omega) (SgC_k sg2 (by omega)))
    simp (disch := first | omega | (repeat (first | assumption | exact Ag_r | refine Ag_I ?_ rfl | refine Ag_F ?_ rfl | refine Ag_J ?_ rfl))) only [a64_5, a64_10, a64_11, CO, HA, HB, HC, Nat.not_lt_zero, Nat.add_assoc, c_nlt, c_nle, c_neq, c_P, c_cl, c_m1, c_m1', nI_add, pk_mul, reduceIte, Nat.reduceEqDiff, Nat.reduceAdd, Nat.reduceMul, Nat.reduceLeDiff, eq_self, ↓pk_rem, pk_div, c_of, d_le, d_nle, d_lt, d_nlt, d_eq, d_ne]
end
