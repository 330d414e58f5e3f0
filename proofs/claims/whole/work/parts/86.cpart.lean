/-! law: the class reads brackets and parts -/
section
variable {X : Tx}
theorem C_brS {S : Option (Nat → Nat → Pz)} {δ K D : Nat} (hS : (δ = 8 ∧ S = none) ∨ (δ < 8 ∧ ∃ f, S = some f ∧ Fw X f ∧ CP X D 64 [.ref 14, .int (nI (δ + 1)), .float 0, .float 0] K f)) {d p a n : Nat} {τ : Hp} (hd : D + 3 ≤ d) (h : RdC τ X p a n) (hap : a ≤ p) (hs : sg_ X p = 91) : Ev (den (d, 67, 0, [.ref 14, .int (nI δ)], [], τ)) (PoC τ X p a K (pBr X 93 S p n)) := by
  obtain ⟨e, rfl⟩ : ∃ e, d = e + 3 := ⟨d - 3, by omega⟩
  have hp := h.2.2.1
  have te := tE_s hp (by omega) hs
  rcases hS with ⟨rfl, rfl⟩ | ⟨hδ, f, rfl, hF, hP⟩
  · simp (disch := first | omega | (repeat (first | assumption | exact Ag_r | refine Ag_I ?_ rfl | refine Ag_F ?_ rfl | refine Ag_J ?_ rfl))) only [A67, CO, HA, HB, HC, Nat.not_lt_zero, Nat.add_assoc, c_nlt, c_nle, c_neq, c_P, c_cl, c_m1, c_m1', nI_add, pk_mul, reduceIte, Nat.reduceEqDiff, Nat.reduceAdd, Nat.reduceMul, Nat.reduceLeDiff, eq_self, ↓pk_rem, pk_div, c_of, d_le, d_nle, d_lt, d_nlt, d_eq, d_ne]
    exact Ev_s ⟨Ag_r, fun i hi => rfl, rfl, h.2.2.2.1.1⟩
  · simp (disch := first | omega | (repeat (first | assumption | exact Ag_r | refine Ag_I ?_ rfl | refine Ag_F ?_ rfl | refine Ag_J ?_ rfl))) only [a67_0, a67_1, a67_3, a67_8, a67_9, FC h.1, CO, HA, HB, HC, Nat.not_lt_zero, Nat.add_assoc, c_nlt, c_nle, c_neq, c_P, c_cl, c_m1, c_m1', nI_add, pk_mul, reduceIte, Nat.reduceEqDiff, Nat.reduceAdd, Nat.reduceMul, Nat.reduceLeDiff, eq_self, ↓pk_rem, pk_div, c_of, d_le, d_nle, d_lt, d_nlt, d_eq, d_ne]
    refine Ev_b (C_sp (d := e + 1) h) ?_
    rintro _ υ1 ⟨rfl, g1, r1, c1⟩
    simp (disch := first | omega | (repeat (first | assumption | exact Ag_r | refine Ag_I ?_ rfl | refine Ag_F ?_ rfl | refine Ag_J ?_ rfl))) only [a67_12, a67_13, a67_14, a67_15, a67_16, FC r1.1, CO, HA, HB, HC, Nat.not_lt_zero, Nat.add_assoc, c_nlt, c_nle, c_neq, c_P, c_cl, c_m1, c_m1', nI_add, pk_mul, reduceIte, Nat.reduceEqDiff, Nat.reduceAdd, Nat.reduceMul, Nat.reduceLeDiff, eq_self, ↓pk_rem, pk_div, c_of, d_le, d_nle, d_lt, d_nlt, d_eq, d_ne]
    refine Ev_b (hP (e + 2) (tE X p) a n υ1 (by omega) r1 (by omega)) ?_
    intro v υ2 B
    have ff := fun p' n' ψ => hF (tE X p) n p' n' ψ te.2.1
    unfold pBr
    revert B ff
    simp only
    cases f (tE X p) n with
    | inl q =>
      rintro ⟨g2, k2, rfl, s2⟩ ff
      simp (disch := first | omega | (repeat (first | assumption | exact Ag_r | refine Ag_I ?_ rfl | refine Ag_F ?_ rfl | refine Ag_J ?_ rfl))) only [a67_19, a67_31, a67_32, CO, HA, HB, HC, Nat.not_lt_zero, Nat.add_assoc, c_nlt, c_nle, c_neq, c_P, c_cl, c_m1, c_m1', nI_add, pk_mul, reduceIte, Nat.reduceEqDiff, Nat.reduceAdd, Nat.reduceMul, Nat.reduceLeDiff, eq_self, ↓pk_rem, pk_div, c_of, d_le, d_nle, d_lt, d_nlt, d_eq, d_ne]
      exact Ev_s ⟨Qrd_t g1 g2, fun i hi => by rw [k2 i hi, c1], rfl, s2⟩
    | inr x =>
      obtain ⟨p2, n2, ψ⟩ := x
      rintro ⟨g2, k2, rfl, b2, r2, m1, m2, sg2⟩ ff
      have f2 := ff p2 n2 ψ rfl
      have w := fun (d c : Nat) (hc : 0 < c) (h2 : c < 256) => CS (d := d) r2 hc h2
      simp only [pb]
      by_cases q : sg_ X p2 = 93
      · rw [if_pos q]
        have te2 := tE_s f2.2 (by omega) q
        simp (disch := first | omega | (repeat (first | assumption | exact Ag_r | refine Ag_I ?_ rfl | refine Ag_F ?_ rfl | refine Ag_J ?_ rfl))) only [a67_19, a67_22, a67_23, a67_25, a67_28, a67_33, a67_34, FC r2.1, w, q, CO, HA, HB, HC, Nat.not_lt_zero, Nat.add_assoc, c_nlt, c_nle, c_neq, c_P, c_cl, c_m1, c_m1', nI_add, pk_mul, reduceIte, Nat.reduceEqDiff, Nat.reduceAdd, Nat.reduceMul, Nat.reduceLeDiff, eq_self, ↓pk_rem, pk_div, c_of, d_le, d_nle, d_lt, d_nlt, d_eq, d_ne]
        refine Ev_b (C_sp (d := e + 1) r2) ?_
        rintro _ υ3 ⟨rfl, g3, r3, c3⟩
        simp (disch := first | omega | (repeat (first | assumption | exact Ag_r | refine Ag_I ?_ rfl | refine Ag_F ?_ rfl | refine Ag_J ?_ rfl))) only [a67_37, a67_38, CO, HA, HB, HC, Nat.not_lt_zero, Nat.add_assoc, c_nlt, c_nle, c_neq, c_P, c_cl, c_m1, c_m1', nI_add, pk_mul, reduceIte, Nat.reduceEqDiff, Nat.reduceAdd, Nat.reduceMul, Nat.reduceLeDiff, eq_self, ↓pk_rem, pk_div, c_of, d_le, d_nle, d_lt, d_nlt, d_eq, d_ne]
        exact Ev_s ⟨Qrd_t g1 (Qrd_t g2 g3), fun i hi => by rw [c3, k2 i hi, c1], rfl, b2, r3, by omega, m2, SgC_e sg2 (fun i _ _ => by rw [c3])⟩
      · rw [if_neg q]
        refine Ev_e (o' := some (some (.int (nI 0)), υ2)) ?_ (Ev_s ⟨Qrd_t g1 g2, fun i hi => by rw [k2 i hi, c1], rfl, r2.2.2.2.1.1⟩)
        simp (disch := first | omega | (repeat (first | assumption | exact Ag_r | refine Ag_I ?_ rfl | refine Ag_F ?_ rfl | refine Ag_J ?_ rfl))) only [a67_19, a67_22, a67_23, a67_25, a67_28, a67_31, a67_32, FC r2.1, w, q, CO, HA, HB, HC, Nat.not_lt_zero, Nat.add_assoc, c_nlt, c_nle, c_neq, c_P, c_cl, c_m1, c_m1', nI_add, pk_mul, reduceIte, Nat.reduceEqDiff, Nat.reduceAdd, Nat.reduceMul, Nat.reduceLeDiff, eq_self, ↓pk_rem, pk_div, c_of, d_le, d_nle, d_lt, d_nlt, d_eq, d_ne]
theorem C_brT {S : Option (Nat → Nat → Pz)} {δ K D : Nat} (hS : (δ = 8 ∧ S = none) ∨ (δ < 8 ∧ ∃ f, S = some f ∧ Fw X f ∧ CP X D 59 [.ref 14, .int (nI (δ + 1)), .float 0, .float 0] K f)) {d p a n : Nat} {τ : Hp} (hd : D + 3 ≤ d) (h : RdC τ X p a n) (hap : a ≤ p) (hs : sg_ X p = 40) : Ev (den (d, 62, 0, [.ref 14, .int (nI δ)], [], τ)) (PoC τ X p a K (pBr X 41 S p n)) := by
  obtain ⟨e, rfl⟩ : ∃ e, d = e + 3 := ⟨d - 3, by omega⟩
  have hp := h.2.2.1
  have te := tE_s hp (by omega) hs
  rcases hS with ⟨rfl, rfl⟩ | ⟨hδ, f, rfl, hF, hP⟩
  · simp (disch := first | omega | (repeat (first | assumption | exact Ag_r | refine Ag_I ?_ rfl | refine Ag_F ?_ rfl | refine Ag_J ?_ rfl))) only [A62, CO, HA, HB, HC, Nat.not_lt_zero, Nat.add_assoc, c_nlt, c_nle, c_neq, c_P, c_cl, c_m1, c_m1', nI_add, pk_mul, reduceIte, Nat.reduceEqDiff, Nat.reduceAdd, Nat.reduceMul, Nat.reduceLeDiff, eq_self, ↓pk_rem, pk_div, c_of, d_le, d_nle, d_lt, d_nlt, d_eq, d_ne]
    exact Ev_s ⟨Ag_r, fun i hi => rfl, rfl, h.2.2.2.1.1⟩
  · simp (disch := first | omega | (repeat (first | assumption | exact Ag_r | refine Ag_I ?_ rfl | refine Ag_F ?_ rfl | refine Ag_J ?_ rfl))) only [a62_0, a62_1, a62_3, a62_8, a62_9, FC h.1, CO, HA, HB, HC, Nat.not_lt_zero, Nat.add_assoc, c_nlt, c_nle, c_neq, c_P, c_cl, c_m1, c_m1', nI_add, pk_mul, reduceIte, Nat.reduceEqDiff, Nat.reduceAdd, Nat.reduceMul, Nat.reduceLeDiff, eq_self, ↓pk_rem, pk_div, c_of, d_le, d_nle, d_lt, d_nlt, d_eq, d_ne]
    refine Ev_b (C_sp (d := e + 1) h) ?_
    rintro _ υ1 ⟨rfl, g1, r1, c1⟩
    simp (disch := first | omega | (repeat (first | assumption | exact Ag_r | refine Ag_I ?_ rfl | refine Ag_F ?_ rfl | refine Ag_J ?_ rfl))) only [a62_12, a62_13, a62_14, a62_15, a62_16, FC r1.1, CO, HA, HB, HC, Nat.not_lt_zero, Nat.add_assoc, c_nlt, c_nle, c_neq, c_P, c_cl, c_m1, c_m1', nI_add, pk_mul, reduceIte, Nat.reduceEqDiff, Nat.reduceAdd, Nat.reduceMul, Nat.reduceLeDiff, eq_self, ↓pk_rem, pk_div, c_of, d_le, d_nle, d_lt, d_nlt, d_eq, d_ne]
    refine Ev_b (hP (e + 2) (tE X p) a n υ1 (by omega) r1 (by omega)) ?_
    intro v υ2 B
    have ff := fun p' n' ψ => hF (tE X p) n p' n' ψ te.2.1
    unfold pBr
    revert B ff
    simp only
    cases f (tE X p) n with
    | inl q =>
      rintro ⟨g2, k2, rfl, s2⟩ ff
      simp (disch := first | omega | (repeat (first | assumption | exact Ag_r | refine Ag_I ?_ rfl | refine Ag_F ?_ rfl | refine Ag_J ?_ rfl))) only [a62_19, a62_31, a62_32, CO, HA, HB, HC, Nat.not_lt_zero, Nat.add_assoc, c_nlt, c_nle, c_neq, c_P, c_cl, c_m1, c_m1', nI_add, pk_mul, reduceIte, Nat.reduceEqDiff, Nat.reduceAdd, Nat.reduceMul, Nat.reduceLeDiff, eq_self, ↓pk_rem, pk_div, c_of, d_le, d_nle, d_lt, d_nlt, d_eq, d_ne]
      exact Ev_s ⟨Qrd_t g1 g2, fun i hi => by rw [k2 i hi, c1], rfl, s2⟩
    | inr x =>
      obtain ⟨p2, n2, ψ⟩ := x
      rintro ⟨g2, k2, rfl, b2, r2, m1, m2, sg2⟩ ff
      have f2 := ff p2 n2 ψ rfl
      have w := fun (d c : Nat) (hc : 0 < c) (h2 : c < 256) => CS (d := d) r2 hc h2
      simp only [pb]
      by_cases q : sg_ X p2 = 41
      · rw [if_pos q]
        have te2 := tE_s f2.2 (by omega) q
        simp (disch := first | omega | (repeat (first | assumption | exact Ag_r | refine Ag_I ?_ rfl | refine Ag_F ?_ rfl | refine Ag_J ?_ rfl))) only [a62_19, a62_22, a62_23, a62_25, a62_28, a62_33, a62_34, FC r2.1, w, q, CO, HA, HB, HC, Nat.not_lt_zero, Nat.add_assoc, c_nlt, c_nle, c_neq, c_P, c_cl, c_m1, c_m1', nI_add, pk_mul, reduceIte, Nat.reduceEqDiff, Nat.reduceAdd, Nat.reduceMul, Nat.reduceLeDiff, eq_self, ↓pk_rem, pk_div, c_of, d_le, d_nle, d_lt, d_nlt, d_eq, d_ne]
        refine Ev_b (C_sp (d := e + 1) r2) ?_
        rintro _ υ3 ⟨rfl, g3, r3, c3⟩
        simp (disch := first | omega | (repeat (first | assumption | exact Ag_r | refine Ag_I ?_ rfl | refine Ag_F ?_ rfl | refine Ag_J ?_ rfl))) only [a62_37, a62_38, CO, HA, HB, HC, Nat.not_lt_zero, Nat.add_assoc, c_nlt, c_nle, c_neq, c_P, c_cl, c_m1, c_m1', nI_add, pk_mul, reduceIte, Nat.reduceEqDiff, Nat.reduceAdd, Nat.reduceMul, Nat.reduceLeDiff, eq_self, ↓pk_rem, pk_div, c_of, d_le, d_nle, d_lt, d_nlt, d_eq, d_ne]
        exact Ev_s ⟨Qrd_t g1 (Qrd_t g2 g3), fun i hi => by rw [c3, k2 i hi, c1], rfl, b2, r3, by omega, m2, SgC_e sg2 (fun i _ _ => by rw [c3])⟩
      · rw [if_neg q]
        refine Ev_e (o' := some (some (.int (nI 0)), υ2)) ?_ (Ev_s ⟨Qrd_t g1 g2, fun i hi => by rw [k2 i hi, c1], rfl, r2.2.2.2.1.1⟩)
        simp (disch := first | omega | (repeat (first | assumption | exact Ag_r | refine Ag_I ?_ rfl | refine Ag_F ?_ rfl | refine Ag_J ?_ rfl))) only [a62_19, a62_22, a62_23, a62_25, a62_28, a62_31, a62_32, FC r2.1, w, q, CO, HA, HB, HC, Nat.not_lt_zero, Nat.add_assoc, c_nlt, c_nle, c_neq, c_P, c_cl, c_m1, c_m1', nI_add, pk_mul, reduceIte, Nat.reduceEqDiff, Nat.reduceAdd, Nat.reduceMul, Nat.reduceLeDiff, eq_self, ↓pk_rem, pk_div, c_of, d_le, d_nle, d_lt, d_nlt, d_eq, d_ne]
theorem C_part {S : Option (Nat → Nat → Pz)} {δ K D : Nat} (hK : 1 ≤ K) (hS : (δ = 8 ∧ S = none) ∨ (δ < 8 ∧ ∃ f, S = some f ∧ Fw X f ∧ CP X D 64 [.ref 14, .int (nI (δ + 1)), .float 0, .float 0] K f)) : CP X (D + 8) 66 [.ref 14, .int (nI δ), .float 0, .float 0] K (pPt X S) := by
  intro d p a n τ hd h hap
  obtain ⟨e, rfl⟩ : ∃ e, d = e + 7 := ⟨d - 7, by omega⟩
  have hp := h.2.2.1
  have x4 := h.2.1.2.2.1
  have w := fun (d c : Nat) (hc : 0 < c) (h2 : c < 256) => CS (d := d) h hc h2
  unfold pPt
  by_cases q : sg_ X p = 91
  · rw [if_pos q]
    simp (disch := first | omega | (repeat (first | assumption | exact Ag_r | refine Ag_I ?_ rfl | refine Ag_F ?_ rfl | refine Ag_J ?_ rfl))) only [a66_0, a66_1, a66_3, a66_6, a66_9, a66_10, a66_11, FC h.1, w, q, CO, HA, HB, HC, Nat.not_lt_zero, Nat.add_assoc, c_nlt, c_nle, c_neq, c_P, c_cl, c_m1, c_m1', nI_add, pk_mul, reduceIte, Nat.reduceEqDiff, Nat.reduceAdd, Nat.reduceMul, Nat.reduceLeDiff, eq_self, ↓pk_rem, pk_div, c_of, d_le, d_nle, d_lt, d_nlt, d_eq, d_ne]
    refine Ev_b (C_brS hS (d := e + 6) (by omega) h hap q) ?_
    intro v υ B
    revert B
    cases pBr X 93 S p n with
    | inl q =>
      rintro ⟨g2, k2, rfl, s2⟩
      simp (disch := first | omega | (repeat (first | assumption | exact Ag_r | refine Ag_I ?_ rfl | refine Ag_F ?_ rfl | refine Ag_J ?_ rfl))) only [a66_14, CO, HA, HB, HC, Nat.not_lt_zero, Nat.add_assoc, c_nlt, c_nle, c_neq, c_P, c_cl, c_m1, c_m1', nI_add, pk_mul, reduceIte, Nat.reduceEqDiff, Nat.reduceAdd, Nat.reduceMul, Nat.reduceLeDiff, eq_self, ↓pk_rem, pk_div, c_of, d_le, d_nle, d_lt, d_nlt, d_eq, d_ne]
      exact Ev_s ⟨g2, k2, rfl, s2⟩
    | inr x =>
      obtain ⟨p2, n2, ψ⟩ := x
      rintro ⟨g2, k2, rfl, b2, r2, m1, m2, sg2⟩
      simp (disch := first | omega | (repeat (first | assumption | exact Ag_r | refine Ag_I ?_ rfl | refine Ag_F ?_ rfl | refine Ag_J ?_ rfl))) only [a66_14, CO, HA, HB, HC, Nat.not_lt_zero, Nat.add_assoc, c_nlt, c_nle, c_neq, c_P, c_cl, c_m1, c_m1', nI_add, pk_mul, reduceIte, Nat.reduceEqDiff, Nat.reduceAdd, Nat.reduceMul, Nat.reduceLeDiff, eq_self, ↓pk_rem, pk_div, c_of, d_le, d_nle, d_lt, d_nlt, d_eq, d_ne]
      exact Ev_s ⟨g2, k2, rfl, b2, r2, m1, m2, sg2⟩
  · rw [if_neg q]
    obtain ⟨h1, h2, h3, ⟨t1, t2, t3⟩, h5, h6⟩ := id h
    have b := tk_b hp
    have inr_ : ∀ (x : Int32) (l2 l3 : Value) (φ : Ph), tK X p ≠ 0 → (∀ f : Nat → Int32, f a = x → SgC f a (a + 1) 1 φ) → n < 50 → Ev ((den (e + 6, 54, 0, [.ref 14, .int x], [], τ)).bind fun q => den (e + 7, 66, 103, [.ref 14, .int (nI δ), l2, l3], q.1.toList ++ [], q.2)) (PoC τ X p a K (.inr (tE X p, n + 1, φ))) := by
      intro x l2 l3 φ tk sgx hn
      refine Ev_b (C_pu (d := e + 6) h (by omega) x) ?_
      rintro _ υ ⟨rfl, g, r, k, c⟩
      obtain ⟨r1, r2, r3, ⟨r4, r5, r6⟩, r7, r8⟩ := r
      have g2 : Qrd υ (sF υ 14 6 (.int (nI (n + 1)))) := Ag_F Ag_r rfl
      have rr : RdC (sF υ 14 6 (.int (nI (n + 1)))) X p (a + 1) (n + 1) := ⟨Qrd_C g2 r1, Qrd_X g2 r2, r3, ⟨by simp only [HA, Nat.reduceEqDiff, and_false, reduceIte]; exact r4, by simp only [HA, Nat.reduceEqDiff, and_false, reduceIte]; exact r5, by simp only [HA, Nat.reduceEqDiff, and_false, reduceIte]; exact r6⟩, by simp only [HA, Nat.reduceEqDiff, and_false, reduceIte]; exact r7, by simp only [HA, and_self, reduceIte], by omega⟩
      simp (disch := first | omega | (repeat (first | assumption | exact Ag_r | refine Ag_I ?_ rfl | refine Ag_F ?_ rfl | refine Ag_J ?_ rfl))) only [a66_103, a66_104, a66_105, a66_108, a66_109, a66_110, a66_113, a66_114, FC r1, r8.1, CO, HA, HB, HC, Nat.not_lt_zero, Nat.add_assoc, c_nlt, c_nle, c_neq, c_P, c_cl, c_m1, c_m1', nI_add, pk_mul, reduceIte, Nat.reduceEqDiff, Nat.reduceAdd, Nat.reduceMul, Nat.reduceLeDiff, eq_self, ↓pk_rem, pk_div, c_of, d_le, d_nle, d_lt, d_nlt, d_eq, d_ne]
      refine Ev_b (C_sp (d := e + 5) rr) ?_
      rintro _ υ3 ⟨rfl, g3, r3, c3⟩
      have c3' : hI υ3 15 = hI υ 15 := by rw [c3]; simp only [HA]
      have tb := b.2.2.1 tk
      simp (disch := first | omega | (repeat (first | assumption | exact Ag_r | refine Ag_I ?_ rfl | refine Ag_F ?_ rfl | refine Ag_J ?_ rfl))) only [a66_117, a66_118, CO, HA, HB, HC, Nat.not_lt_zero, Nat.add_assoc, c_nlt, c_nle, c_neq, c_P, c_cl, c_m1, c_m1', nI_add, pk_mul, reduceIte, Nat.reduceEqDiff, Nat.reduceAdd, Nat.reduceMul, Nat.reduceLeDiff, eq_self, ↓pk_rem, pk_div, c_of, d_le, d_nle, d_lt, d_nlt, d_eq, d_ne]
      exact Ev_s ⟨Qrd_t g (Qrd_t g2 g3), fun i hi => by rw [c3', k i hi], rfl, a + 1, r3, by omega, by omega, SgC_k (sgx _ (by rw [c3', c])) hK⟩
    have no : Ev (some (some (.int (nI 0)), τ)) (PoC τ X p a K (.inl (tS X p))) := Ev_s ⟨Ag_r, fun i hi => rfl, rfl, t1⟩
    unfold pLf
    by_cases k : tK X p = 2
    · rw [if_pos k]
      have nu := fun (d : Nat) => C_number (d := d) h k
      have nl : nm_ X p ≤ 1001 := nv_le _
      by_cases z : nm_ X p ≤ 1000 ∧ n < 50
      · rw [if_pos z]
        obtain ⟨z1, z2⟩ := z
        refine Ev_e ?_ (inr_ (nI (nm_ X p)) (.int (nI (nm_ X p))) (.int (nI 1)) (fun _ => some (nm_ X p : Int)) (by omega) (fun f hf => SgC_num z1 hf) z2)
        simp (disch := first | omega | (repeat (first | assumption | exact Ag_r | refine Ag_I ?_ rfl | refine Ag_F ?_ rfl | refine Ag_J ?_ rfl))) only [a66_0, a66_1, a66_3, a66_6, a66_15, a66_16, a66_19, a66_20, a66_23, a66_24, a66_27, a66_34, a66_35, a66_36, a66_39, a66_40, a66_43, a66_44, a66_47, a66_50, a66_51, a66_68, a66_69, a66_70, a66_73, a66_74, a66_77, a66_79, a66_84, a66_85, a66_86, a66_89, a66_90, a66_93, a66_94, a66_100, FC h.1, w, q, t3, k, nu, h6.1, CO, HA, HB, HC, Nat.not_lt_zero, Nat.add_assoc, c_nlt, c_nle, c_neq, c_P, c_cl, c_m1, c_m1', nI_add, pk_mul, reduceIte, Nat.reduceEqDiff, Nat.reduceAdd, Nat.reduceMul, Nat.reduceLeDiff, eq_self, ↓pk_rem, pk_div, c_of, d_le, d_nle, d_lt, d_nlt, d_eq, d_ne]
      · rw [if_neg z]
        refine Ev_e ?_ no
        by_cases z1 : nm_ X p ≤ 1000
        · have z2 : ¬ n < 50 := fun y => z ⟨z1, y⟩
          have z3 := h6.2
          simp (disch := first | omega | (repeat (first | assumption | exact Ag_r | refine Ag_I ?_ rfl | refine Ag_F ?_ rfl | refine Ag_J ?_ rfl))) only [A66, FC h.1, w, q, t3, k, nu, h6.1, CO, HA, HB, HC, Nat.not_lt_zero, Nat.add_assoc, c_nlt, c_nle, c_neq, c_P, c_cl, c_m1, c_m1', nI_add, pk_mul, reduceIte, Nat.reduceEqDiff, Nat.reduceAdd, Nat.reduceMul, Nat.reduceLeDiff, eq_self, ↓pk_rem, pk_div, c_of, d_le, d_nle, d_lt, d_nlt, d_eq, d_ne]
        · simp (disch := first | omega | (repeat (first | assumption | exact Ag_r | refine Ag_I ?_ rfl | refine Ag_F ?_ rfl | refine Ag_J ?_ rfl))) only [A66, FC h.1, w, q, t3, k, nu, h6.1, CO, HA, HB, HC, Nat.not_lt_zero, Nat.add_assoc, c_nlt, c_nle, c_neq, c_P, c_cl, c_m1, c_m1', nI_add, pk_mul, reduceIte, Nat.reduceEqDiff, Nat.reduceAdd, Nat.reduceMul, Nat.reduceLeDiff, eq_self, ↓pk_rem, pk_div, c_of, d_le, d_nle, d_lt, d_nlt, d_eq, d_ne]
    · rw [if_neg k]
      have wh := fun (d : Nat) => C_wordH (d := d) h
      by_cases z1 : wI X p < 8
      · simp only [if_pos z1] at wh
        by_cases z2 : n < 50
        · rw [if_pos ⟨z1, z2⟩]
          have tw := tE_w hp (wI_p z1) rfl
          refine Ev_e ?_ (inr_ (zI (-1 - (wI X p : Int))) (.int (nI (wI X p))) (.int (nI 1)) (fun w => some (w (wI X p))) (by omega) (fun f hf => SgC_word z1 hf) z2)
          have m1 : (-1 : Int32) - nI (wI X p) = zI (-1 - (wI X p : Int)) := by rw [show (-1 : Int32) = zI (-1) from rfl, ← zI_n, zI_sub]
          simp (disch := first | omega | (repeat (first | assumption | exact Ag_r | refine Ag_I ?_ rfl | refine Ag_F ?_ rfl | refine Ag_J ?_ rfl))) only [a66_0, a66_1, a66_3, a66_6, a66_15, a66_16, a66_19, a66_20, a66_30, a66_31, a66_34, a66_35, a66_36, a66_39, a66_40, a66_58, a66_59, a66_60, a66_63, a66_64, a66_68, a66_69, a66_70, a66_73, a66_74, a66_77, a66_79, a66_84, a66_85, a66_86, a66_89, a66_90, a66_97, a66_98, a66_99, a66_100, FC h.1, w, q, t3, k, wh, h6.1, m1, CO, HA, HB, HC, Nat.not_lt_zero, Nat.add_assoc, c_nlt, c_nle, c_neq, c_P, c_cl, c_m1, c_m1', nI_add, pk_mul, reduceIte, Nat.reduceEqDiff, Nat.reduceAdd, Nat.reduceMul, Nat.reduceLeDiff, eq_self, ↓pk_rem, pk_div, c_of, d_le, d_nle, d_lt, d_nlt, d_eq, d_ne]
        · rw [if_neg (fun y => z2 y.2)]
          refine Ev_e ?_ no
          have z3 := h6.2
          simp (disch := first | omega | (repeat (first | assumption | exact Ag_r | refine Ag_I ?_ rfl | refine Ag_F ?_ rfl | refine Ag_J ?_ rfl))) only [A66, FC h.1, w, q, t3, k, wh, h6.1, CO, HA, HB, HC, Nat.not_lt_zero, Nat.add_assoc, c_nlt, c_nle, c_neq, c_P, c_cl, c_m1, c_m1', nI_add, pk_mul, reduceIte, Nat.reduceEqDiff, Nat.reduceAdd, Nat.reduceMul, Nat.reduceLeDiff, eq_self, ↓pk_rem, pk_div, c_of, d_le, d_nle, d_lt, d_nlt, d_eq, d_ne]
      · simp only [if_neg z1] at wh
        rw [if_neg (fun y => z1 y.1)]
        refine Ev_e ?_ no
        simp (disch := first | omega | (repeat (first | assumption | exact Ag_r | refine Ag_I ?_ rfl | refine Ag_F ?_ rfl | refine Ag_J ?_ rfl))) only [A66, FC h.1, w, q, t3, k, wh, h6.1, CO, HA, HB, HC, Nat.not_lt_zero, Nat.add_assoc, c_nlt, c_nle, c_neq, c_P, c_cl, c_m1, c_m1', nI_add, pk_mul, reduceIte, Nat.reduceEqDiff, Nat.reduceAdd, Nat.reduceMul, Nat.reduceLeDiff, eq_self, ↓pk_rem, pk_div, c_of, d_le, d_nle, d_lt, d_nlt, d_eq, d_ne]
end
