/-! law: the model's parts -/
section
variable {d p m n z o : Nat} {X : Tx} {τ : Hp}
theorem MS_o {o' : Nat} (h : MS τ X p m n z o) (l : o' ≤ 8) : MS (sF τ 57 24 (.int (nI o'))) X p m n z o' ∧ Qq τ (sF τ 57 24 (.int (nI o'))) := by
  have g : Qq τ (sF τ 57 24 (.int (nI o'))) := Ag_F Ag_r rfl
  obtain ⟨⟨m1, m2, m3, m4, m5⟩, ⟨h2, w1, w2⟩, ⟨h3, t1, t2, t3, t4⟩, ⟨h4, h5⟩, ⟨h6, h7⟩, h8, h9⟩ := h
  refine ⟨⟨⟨Qq_M g m1, ?_, ?_, m4, PW_k m5 rfl rfl⟩, ⟨Qq_X g h2, w1, w2⟩, ⟨h3, ?_, ?_, ?_, ?_⟩, ⟨?_, ?_⟩, ⟨?_, ?_⟩, h8, l⟩, g⟩
  · simp only [HA, Nat.reduceEqDiff, and_false, reduceIte]; exact m2
  · simp only [HA, Nat.reduceEqDiff, and_false, reduceIte]; exact m3
  · simp only [HA, Nat.reduceEqDiff, and_false, reduceIte]; exact t1
  · simp only [HA, Nat.reduceEqDiff, and_false, reduceIte]; exact t2
  · simp only [HA, Nat.reduceEqDiff, and_false, reduceIte]; exact t3
  · simp only [HA, Nat.reduceEqDiff, and_false, reduceIte]; exact t4
  · simp only [HA, Nat.reduceEqDiff, and_false, reduceIte]; exact h4
  · simp only [HA, Nat.reduceEqDiff, and_false, reduceIte]; exact h5
  · simp only [HA, Nat.reduceEqDiff, and_false, reduceIte]; exact h6
  · simp only [HA, and_self, reduceIte]
theorem MS_n {n' : Nat} (h : MS τ X p m n z o) (l : n' ≤ 50) : MS (sF τ 57 20 (.int (nI n'))) X p m n' z o ∧ Qq τ (sF τ 57 20 (.int (nI n'))) := by
  have g : Qq τ (sF τ 57 20 (.int (nI n'))) := Ag_F Ag_r rfl
  obtain ⟨⟨m1, m2, m3, m4, m5⟩, ⟨h2, w1, w2⟩, ⟨h3, t1, t2, t3, t4⟩, ⟨h4, h5⟩, ⟨h6, h7⟩, h8, h9⟩ := h
  refine ⟨⟨⟨Qq_M g m1, ?_, ?_, m4, PW_k m5 rfl rfl⟩, ⟨Qq_X g h2, w1, w2⟩, ⟨h3, ?_, ?_, ?_, ?_⟩, ⟨?_, ?_⟩, ⟨?_, ?_⟩, l, h9⟩, g⟩
  · simp only [HA, Nat.reduceEqDiff, and_false, reduceIte]; exact m2
  · simp only [HA, Nat.reduceEqDiff, and_false, reduceIte]; exact m3
  · simp only [HA, Nat.reduceEqDiff, and_false, reduceIte]; exact t1
  · simp only [HA, Nat.reduceEqDiff, and_false, reduceIte]; exact t2
  · simp only [HA, Nat.reduceEqDiff, and_false, reduceIte]; exact t3
  · simp only [HA, Nat.reduceEqDiff, and_false, reduceIte]; exact t4
  · simp only [HA, Nat.reduceEqDiff, and_false, reduceIte]; exact h4
  · simp only [HA, Nat.reduceEqDiff, and_false, reduceIte]; exact h5
  · simp only [HA, and_self, reduceIte]
  · simp only [HA, Nat.reduceEqDiff, and_false, reduceIte]; exact h7
/-- a bracket that opens -/
theorem M_ob1 (h : MS τ X p m n z o) (hz : m + z ≤ p) (hk : p < tE X p) (ho : o < 8) {e : Nat} (he : e = 30 ∨ e = 31) : Ev (den (d + 3, 164, 0, [.ref 57, .int (nI e)], [], τ)) (fun v υ => v = none ∧ Qq τ υ ∧ MS υ X (tE X p) m n (z + 1) (o + 1) ∧ hI υ 66 z = nI e ∧ ∀ M, Kp τ υ M z) := by
  have b := tk_b h.2.2.1.1
  have x3 := h.2.1.1.2.2.1
  simp (disch := first | omega | (repeat (first | assumption | exact Ag_r | refine Ag_I ?_ rfl | refine Ag_F ?_ rfl | refine Ag_J ?_ rfl))) only [A164, FM h.1.1, h.2.2.2.2.1.2, CO, HA, HB, HC, Nat.not_lt_zero, Nat.add_assoc, c_nlt, c_nle, c_neq, c_P, c_cl, c_m1, c_m1', nI_add, pk_mul, reduceIte, Nat.reduceEqDiff, Nat.reduceAdd, Nat.reduceMul, Nat.reduceLeDiff, eq_self, ↓pk_rem, pk_div, c_of, d_le, d_nle, d_lt, d_nlt, d_eq, d_ne]
  refine Ev_b (M_must1 (d := d) h) ?_
  rintro _ υ ⟨rfl, g, r⟩
  obtain ⟨r2, g2⟩ := MS_o (o' := o + 1) r (by omega)
  simp (disch := first | omega | (repeat (first | assumption | exact Ag_r | refine Ag_I ?_ rfl | refine Ag_F ?_ rfl | refine Ag_J ?_ rfl))) only [A164, FM r.1.1, r.2.2.2.2.1.2, r.2.2.2.1.1, CO, HA, HB, HC, Nat.not_lt_zero, Nat.add_assoc, c_nlt, c_nle, c_neq, c_P, c_cl, c_m1, c_m1', nI_add, pk_mul, reduceIte, Nat.reduceEqDiff, Nat.reduceAdd, Nat.reduceMul, Nat.reduceLeDiff, eq_self, ↓pk_rem, pk_div, c_of, d_le, d_nle, d_lt, d_nlt, d_eq, d_ne]
  refine Ev_b (M_push (d := d + 2) (t := 0) r2 (by omega) (show 20 ≤ e ∧ e < 32 by omega) (by omega)) ?_
  rintro _ ω ⟨rfl, g3, r3, r4, r5, r6⟩
  refine Ev_e (o' := some (none, ω)) ?_ (Ev_s ⟨rfl, Qq_t (Qq_t (Qnx_q g) g2) (Qpe_q g3), r3, r4, fun M => Kp_t (Qnx_k g) (r6 M) (Nat.le_refl _) (Nat.le_refl _)⟩)
  simp (disch := first | omega | (repeat (first | assumption | exact Ag_r | refine Ag_I ?_ rfl | refine Ag_F ?_ rfl | refine Ag_J ?_ rfl))) only [A164, CO, HA, HB, HC, Nat.not_lt_zero, Nat.add_assoc, c_nlt, c_nle, c_neq, c_P, c_cl, c_m1, c_m1', nI_add, pk_mul, reduceIte, Nat.reduceEqDiff, Nat.reduceAdd, Nat.reduceMul, Nat.reduceLeDiff, eq_self, ↓pk_rem, pk_div, c_of, d_le, d_nle, d_lt, d_nlt, d_eq, d_ne]
theorem M_ob0 (h : MS τ X p m n z o) (ho : o = 8) {e : Nat} : Ev (den (d + 3, 164, 0, [.ref 57, .int (nI e)], [], τ)) (fun v υ => v = none ∧ Qq τ υ ∧ MB υ (tS X p)) := by
  obtain ⟨r1, r2⟩ := MB_0 h
  refine Ev_e (o' := some (none, _)) ?_ (Ev_s ⟨rfl, r2, r1⟩)
  subst ho
  simp (disch := first | omega | (repeat (first | assumption | exact Ag_r | refine Ag_I ?_ rfl | refine Ag_F ?_ rfl | refine Ag_J ?_ rfl))) only [A164, FM h.1.1, h.2.2.2.2.1.2, M_must0 h, r1.1.1, FM (Qq_M r2 h.1.1), CO, HA, HB, HC, Nat.not_lt_zero, Nat.add_assoc, c_nlt, c_nle, c_neq, c_P, c_cl, c_m1, c_m1', nI_add, pk_mul, reduceIte, Nat.reduceEqDiff, Nat.reduceAdd, Nat.reduceMul, Nat.reduceLeDiff, eq_self, ↓pk_rem, pk_div, c_of, d_le, d_nle, d_lt, d_nlt, d_eq, d_ne]
theorem M_leaf1 (h : MS τ X p m n z o) (hz : m + z ≤ p) (hk : p < tE X p) (hn : n < 50) {e t : Int32} : Ev (den (d + 3, 165, 0, [.ref 57, .int (nI 1), .int e, .int t], [], τ)) (fun v υ => v = none ∧ Qq τ υ ∧ MS υ X (tE X p) (m + 1) (n + 1) z o ∧ hI υ 64 m = e ∧ hI υ 65 m = t ∧ ∀ Z, Kp τ υ m Z) := by
  have b := tk_b h.2.2.1.1
  have x3 := h.2.1.1.2.2.1
  simp (disch := first | omega | (repeat (first | assumption | exact Ag_r | refine Ag_I ?_ rfl | refine Ag_F ?_ rfl | refine Ag_J ?_ rfl))) only [A165, FM h.1.1, h.2.2.2.2.1.1, CO, HA, HB, HC, Nat.not_lt_zero, Nat.add_assoc, c_nlt, c_nle, c_neq, c_P, c_cl, c_m1, c_m1', nI_add, pk_mul, reduceIte, Nat.reduceEqDiff, Nat.reduceAdd, Nat.reduceMul, Nat.reduceLeDiff, eq_self, ↓pk_rem, pk_div, c_of, d_le, d_nle, d_lt, d_nlt, d_eq, d_ne]
  refine Ev_b (M_must1 (d := d) h) ?_
  rintro _ υ ⟨rfl, g, r⟩
  simp (disch := first | omega | (repeat (first | assumption | exact Ag_r | refine Ag_I ?_ rfl | refine Ag_F ?_ rfl | refine Ag_J ?_ rfl))) only [A165, FM r.1.1, r.2.2.2.1.1, CO, HA, HB, HC, Nat.not_lt_zero, Nat.add_assoc, c_nlt, c_nle, c_neq, c_P, c_cl, c_m1, c_m1', nI_add, pk_mul, reduceIte, Nat.reduceEqDiff, Nat.reduceAdd, Nat.reduceMul, Nat.reduceLeDiff, eq_self, ↓pk_rem, pk_div, c_of, d_le, d_nle, d_lt, d_nlt, d_eq, d_ne]
  refine Ev_b (M_emit (d := d + 2) (e := e) (t := t) r (by omega)) ?_
  rintro _ ω ⟨rfl, g3, r3, r4, r5, r6⟩
  obtain ⟨s1, s2⟩ := MS_n (n' := n + 1) r3 (by omega)
  refine Ev_e (o' := some (none, sF ω 57 20 (.int (nI (n + 1))))) ?_ (Ev_s ⟨rfl, Qq_t (Qq_t (Qnx_q g) (Qpe_q g3)) s2, s1, r4, r5, fun Z => Kp_t (Qnx_k g) (r6 Z) (Nat.le_refl _) (Nat.le_refl _)⟩)
  simp (disch := first | omega | (repeat (first | assumption | exact Ag_r | refine Ag_I ?_ rfl | refine Ag_F ?_ rfl | refine Ag_J ?_ rfl))) only [A165, FM r3.1.1, r3.2.2.2.2.1.1, CO, HA, HB, HC, Nat.not_lt_zero, Nat.add_assoc, c_nlt, c_nle, c_neq, c_P, c_cl, c_m1, c_m1', nI_add, pk_mul, reduceIte, Nat.reduceEqDiff, Nat.reduceAdd, Nat.reduceMul, Nat.reduceLeDiff, eq_self, ↓pk_rem, pk_div, c_of, d_le, d_nle, d_lt, d_nlt, d_eq, d_ne]
theorem M_leaf0 (h : MS τ X p m n z o) {g : Nat} (hg : g < 2) (hn : g = 0 ∨ n = 50) {e t : Int32} : Ev (den (d + 3, 165, 0, [.ref 57, .int (nI g), .int e, .int t], [], τ)) (fun v υ => v = none ∧ Qq τ υ ∧ MB υ (tS X p)) := by
  obtain ⟨r1, r2⟩ := MB_0 h
  refine Ev_e (o' := some (none, _)) ?_ (Ev_s ⟨rfl, r2, r1⟩)
  by_cases w : g = 0
  · subst w
    simp (disch := first | omega | (repeat (first | assumption | exact Ag_r | refine Ag_I ?_ rfl | refine Ag_F ?_ rfl | refine Ag_J ?_ rfl))) only [A165, FM h.1.1, h.2.2.2.2.1.1, M_must0 h, r1.1.1, FM (Qq_M r2 h.1.1), CO, HA, HB, HC, Nat.not_lt_zero, Nat.add_assoc, c_nlt, c_nle, c_neq, c_P, c_cl, c_m1, c_m1', nI_add, pk_mul, reduceIte, Nat.reduceEqDiff, Nat.reduceAdd, Nat.reduceMul, Nat.reduceLeDiff, eq_self, ↓pk_rem, pk_div, c_of, d_le, d_nle, d_lt, d_nlt, d_eq, d_ne]
  · obtain rfl : g = 1 := by omega
    obtain rfl : n = 50 := by omega
    simp (disch := first | omega | (repeat (first | assumption | exact Ag_r | refine Ag_I ?_ rfl | refine Ag_F ?_ rfl | refine Ag_J ?_ rfl))) only [A165, FM h.1.1, h.2.2.2.2.1.1, M_must0 h, r1.1.1, FM (Qq_M r2 h.1.1), CO, HA, HB, HC, Nat.not_lt_zero, Nat.add_assoc, c_nlt, c_nle, c_neq, c_P, c_cl, c_m1, c_m1', nI_add, pk_mul, reduceIte, Nat.reduceEqDiff, Nat.reduceAdd, Nat.reduceMul, Nat.reduceLeDiff, eq_self, ↓pk_rem, pk_div, c_of, d_le, d_nle, d_lt, d_nlt, d_eq, d_ne]
theorem wK_b {k : Nat} (hk : k < 8) : 0 < wK k ∧ wK k < 2 ^ 45 := by
  have : ∀ k, k < 8 → 0 < wK k ∧ wK k < 2 ^ 45 := by decide
  exact this k hk
theorem wHd_b {k : Nat} (hk : k < 5) : 0 < wHd k ∧ wHd k < 2 ^ 45 := by
  have : ∀ k, k < 5 → 0 < wHd k ∧ wHd k < 2 ^ 45 := by decide
  exact this k hk
theorem M_pa1 (h : MS τ X p m n z o) {k : Nat} (hk : k < 8) (a : Int32) : den (d + 1, 163, 4, [.ref 57, .int a, .int (nI k)], [], τ) = den (d + 1, 163, 4, [.ref 57, .int (if wd_ X p = wK k then nI (k + 1) else a), .int (nI (k + 1))], [], τ) := by
  have e := h.2.1.2.1 k hk
  have b := wK_b hk
  have w := fun (d : Nat) => MW (d := d) h b.1 b.2
  rw [a163_4]
  by_cases q : wd_ X p = wK k
  · simp only [if_pos q] at w ⊢
    simp (disch := first | omega | (repeat (first | assumption | exact Ag_r | refine Ag_I ?_ rfl | refine Ag_F ?_ rfl | refine Ag_J ?_ rfl))) only [A163, FM h.1.1, e, w, CO, HA, HB, HC, Nat.not_lt_zero, Nat.add_assoc, c_nlt, c_nle, c_neq, c_P, c_cl, c_m1, c_m1', nI_add, pk_mul, reduceIte, Nat.reduceEqDiff, Nat.reduceAdd, Nat.reduceMul, Nat.reduceLeDiff, eq_self, ↓pk_rem, pk_div, c_of, d_le, d_nle, d_lt, d_nlt, d_eq, d_ne]
  · simp only [if_neg q] at w ⊢
    simp (disch := first | omega | (repeat (first | assumption | exact Ag_r | refine Ag_I ?_ rfl | refine Ag_F ?_ rfl | refine Ag_J ?_ rfl))) only [A163, FM h.1.1, e, w, CO, HA, HB, HC, Nat.not_lt_zero, Nat.add_assoc, c_nlt, c_nle, c_neq, c_P, c_cl, c_m1, c_m1', nI_add, pk_mul, reduceIte, Nat.reduceEqDiff, Nat.reduceAdd, Nat.reduceMul, Nat.reduceLeDiff, eq_self, ↓pk_rem, pk_div, c_of, d_le, d_nle, d_lt, d_nlt, d_eq, d_ne]
theorem M_partAt (h : MS τ X p m n z o) : den (d + 1, 163, 0, [.ref 57, .float 0, .float 0], [], τ) = some (some (.int (if wI X p < 8 then nI (wI X p + 1) else -1)), τ) := by
  have e8 : ∀ a : Int32, den (d + 1, 163, 4, [.ref 57, .int a, .int (nI 8)], [], τ) = some (some (.int a), τ) := fun a => by
    rw [a163_4]
    simp (disch := first | omega | (repeat (first | assumption | exact Ag_r | refine Ag_I ?_ rfl | refine Ag_F ?_ rfl | refine Ag_J ?_ rfl))) only [A163, FM h.1.1, CO, HA, HB, HC, Nat.not_lt_zero, Nat.add_assoc, c_nlt, c_nle, c_neq, c_P, c_cl, c_m1, c_m1', nI_add, pk_mul, reduceIte, Nat.reduceEqDiff, Nat.reduceAdd, Nat.reduceMul, Nat.reduceLeDiff, eq_self, ↓pk_rem, pk_div, c_of, d_le, d_nle, d_lt, d_nlt, d_eq, d_ne]
  have go : den (d + 1, 163, 0, [.ref 57, .float 0, .float 0], [], τ) = den (d + 1, 163, 4, [.ref 57, .int (-1), .int (nI 0)], [], τ) := by
    simp (disch := first | omega | (repeat (first | assumption | exact Ag_r | refine Ag_I ?_ rfl | refine Ag_F ?_ rfl | refine Ag_J ?_ rfl))) only [A163, CO, HA, HB, HC, Nat.not_lt_zero, Nat.add_assoc, c_nlt, c_nle, c_neq, c_P, c_cl, c_m1, c_m1', nI_add, pk_mul, reduceIte, Nat.reduceEqDiff, Nat.reduceAdd, Nat.reduceMul, Nat.reduceLeDiff, eq_self, ↓pk_rem, pk_div, c_of, d_le, d_nle, d_lt, d_nlt, d_eq, d_ne]
  rw [go, M_pa1 h (by omega), M_pa1 h (by omega), M_pa1 h (by omega), M_pa1 h (by omega), M_pa1 h (by omega), M_pa1 h (by omega), M_pa1 h (by omega), M_pa1 h (by omega), e8]
  unfold wI
  simp only [wK, List.getD_cons_succ, List.getD_cons_zero, Nat.reduceAdd]
  by_cases z0 : wd_ X p = 16496818
  · simp [z0]
  · by_cases z1 : wd_ X p = 284561586
    · simp [z1]
    · by_cases z2 : wd_ X p = 655
      · simp [z2]
      · by_cases z3 : wd_ X p = 4153
        · simp [z3]
        · by_cases z4 : wd_ X p = 24869441593
          · simp [z4]
          · by_cases z5 : wd_ X p = 591150
            · simp [z5]
            · by_cases z6 : wd_ X p = 267652
              · simp [z6]
              · by_cases z7 : wd_ X p = 17376357
                · simp [z7]
                · simp [z0, z1, z2, z3, z4, z5, z6, z7]
/-- a number or a word -/
theorem M_lf (h : MS τ X p m n z o) (hz : m + z ≤ p) (hs : ¬ sg_ X p = 91) : (∀ q, pLf X p n = .inl q → Ev (den (d + 4, 166, 0, [.ref 57, .float 0, .float 0], [], τ)) (fun v υ => v = some (.int (nI 3)) ∧ Qq τ υ ∧ MB υ q)) ∧ ∀ p' n' φ, pLf X p n = .inr (p', n', φ) → Ev (den (d + 4, 166, 0, [.ref 57, .float 0, .float 0], [], τ)) (fun v υ => v = some (.int (nI 3)) ∧ Qq τ υ ∧ MS υ X p' (m + 1) n' z o ∧ SgS (gM υ) m (m + 1) 1 φ ∧ (∀ Z, Kp τ υ m Z) ∧ m + 1 + z ≤ p') := by
  have ws := fun (d : Nat) => MG (d := d) h (show 0 < 91 by omega) (by omega)
  simp only [if_neg hs] at ws
  have pa := fun (d : Nat) => M_partAt (d := d) h
  have t3 := h.2.2.1.2.2.2.1
  have t4 := h.2.2.1.2.2.2.2
  obtain ⟨b1, b2, b3, b4⟩ := tk_b h.2.2.1.1
  have n50 := h.2.2.2.2.2.1
  unfold pLf
  by_cases k : tK X p = 2
  · rw [if_pos k]
    have w8 : wI X p = 8 := by
      have w0 : wd_ X p = 0 := by unfold wd_; rw [if_neg (by omega)]
      unfold wI
      rw [w0]
      simp
    rw [w8] at pa
    simp only [show ¬ (8 : Nat) < 8 by omega, reduceIte] at pa
    have dg : ∀ i, i < tE X p - tS X p → 48 ≤ X.2 (tS X p + i) ∧ X.2 (tS X p + i) ≤ 57 := fun i hi => by
      have := b4 (Or.inr k) (tS X p + i) (by omega) (by omega)
      rw [k] at this
      exact (kA_2.mp this).2
    have db := dv_b dg
    have wz : wo X p = lN (dv_ X (tS X p) (tE X p - tS X p)) := by
      unfold wo
      rw [if_neg (by omega), if_neg (by omega), if_neg (by omega)]
    have lc : (lN 1000 < wo X p) = (1000 < dv_ X (tS X p) (tE X p - tS X p)) := by
      rw [wz, ← zL_n, ← zL_n, zL_lt (by omega) (by omega), eq_iff_iff]; omega
    have bk := b3 (by omega)
    have n1 : nm_ X p = nv X (tS X p) (tE X p - tS X p) := rfl
    by_cases l : nm_ X p ≤ 1000
    · have l1 : ¬ 1000 < dv_ X (tS X p) (tE X p - tS X p) := by omega
      have wi : (wo X p).toInt32 = nI (nm_ X p) := by
        rw [wz, show dv_ X (tS X p) (tE X p - tS X p) = nm_ X p by omega]
        exact lN_i _
      by_cases hn : n < 50
      · rw [if_pos ⟨l, hn⟩]
        refine ⟨fun q e => (nomatch e), fun p' n' φ e => ?_⟩
        cases e
        simp (disch := first | omega | (repeat (first | assumption | exact Ag_r | refine Ag_I ?_ rfl | refine Ag_F ?_ rfl | refine Ag_J ?_ rfl))) only [A166, FM h.1.1, ws, pa, t3, t4, k, lc_le, lc_gt, lc, l1, wi, CO, HA, HB, HC, Nat.not_lt_zero, Nat.add_assoc, c_nlt, c_nle, c_neq, c_P, c_cl, c_m1, c_m1', nI_add, pk_mul, reduceIte, Nat.reduceEqDiff, Nat.reduceAdd, Nat.reduceMul, Nat.reduceLeDiff, eq_self, ↓pk_rem, pk_div, c_of, d_le, d_nle, d_lt, d_nlt, d_eq, d_ne]
        refine Ev_b (M_leaf1 (d := d) h hz (by omega) hn) ?_
        rintro _ υ ⟨rfl, g, r, r4, r5, r6⟩
        refine Ev_e (o' := some (some (.int (nI 3)), υ)) ?_ (Ev_s ⟨rfl, g, r, SgS_num l (by rw [gM_0]; exact r4) (by rw [gM_1]; exact r5), r6⟩)
        simp (disch := first | omega | (repeat (first | assumption | exact Ag_r | refine Ag_I ?_ rfl | refine Ag_F ?_ rfl | refine Ag_J ?_ rfl))) only [A166, CO, HA, HB, HC, Nat.not_lt_zero, Nat.add_assoc, c_nlt, c_nle, c_neq, c_P, c_cl, c_m1, c_m1', nI_add, pk_mul, reduceIte, Nat.reduceEqDiff, Nat.reduceAdd, Nat.reduceMul, Nat.reduceLeDiff, eq_self, ↓pk_rem, pk_div, c_of, d_le, d_nle, d_lt, d_nlt, d_eq, d_ne]
      · rw [if_neg (fun w => hn w.2)]
        refine ⟨fun q e => ?_, fun p' n' φ e => (nomatch e)⟩
        cases e
        simp (disch := first | omega | (repeat (first | assumption | exact Ag_r | refine Ag_I ?_ rfl | refine Ag_F ?_ rfl | refine Ag_J ?_ rfl))) only [A166, FM h.1.1, ws, pa, t3, t4, k, lc_le, lc_gt, lc, l1, wi, CO, HA, HB, HC, Nat.not_lt_zero, Nat.add_assoc, c_nlt, c_nle, c_neq, c_P, c_cl, c_m1, c_m1', nI_add, pk_mul, reduceIte, Nat.reduceEqDiff, Nat.reduceAdd, Nat.reduceMul, Nat.reduceLeDiff, eq_self, ↓pk_rem, pk_div, c_of, d_le, d_nle, d_lt, d_nlt, d_eq, d_ne]
        refine Ev_b (M_leaf0 (d := d) h (show 1 < 2 by omega) (Or.inr (by omega))) ?_
        rintro _ υ ⟨rfl, g, r⟩
        refine Ev_e (o' := some (some (.int (nI 3)), υ)) ?_ (Ev_s ⟨rfl, g, r⟩)
        simp (disch := first | omega | (repeat (first | assumption | exact Ag_r | refine Ag_I ?_ rfl | refine Ag_F ?_ rfl | refine Ag_J ?_ rfl))) only [A166, CO, HA, HB, HC, Nat.not_lt_zero, Nat.add_assoc, c_nlt, c_nle, c_neq, c_P, c_cl, c_m1, c_m1', nI_add, pk_mul, reduceIte, Nat.reduceEqDiff, Nat.reduceAdd, Nat.reduceMul, Nat.reduceLeDiff, eq_self, ↓pk_rem, pk_div, c_of, d_le, d_nle, d_lt, d_nlt, d_eq, d_ne]
    · have l1 : 1000 < dv_ X (tS X p) (tE X p - tS X p) := by omega
      rw [if_neg (fun w => l w.1)]
      refine ⟨fun q e => ?_, fun p' n' φ e => (nomatch e)⟩
      cases e
      simp (disch := first | omega | (repeat (first | assumption | exact Ag_r | refine Ag_I ?_ rfl | refine Ag_F ?_ rfl | refine Ag_J ?_ rfl))) only [A166, FM h.1.1, ws, pa, t3, t4, k, lc_le, lc_gt, lc, l1, CO, HA, HB, HC, Nat.not_lt_zero, Nat.add_assoc, c_nlt, c_nle, c_neq, c_P, c_cl, c_m1, c_m1', nI_add, pk_mul, reduceIte, Nat.reduceEqDiff, Nat.reduceAdd, Nat.reduceMul, Nat.reduceLeDiff, eq_self, ↓pk_rem, pk_div, c_of, d_le, d_nle, d_lt, d_nlt, d_eq, d_ne]
      refine Ev_b (M_leaf0 (d := d) h (show 0 < 2 by omega) (Or.inl rfl)) ?_
      rintro _ υ ⟨rfl, g, r⟩
      refine Ev_e (o' := some (some (.int (nI 3)), υ)) ?_ (Ev_s ⟨rfl, g, r⟩)
      simp (disch := first | omega | (repeat (first | assumption | exact Ag_r | refine Ag_I ?_ rfl | refine Ag_F ?_ rfl | refine Ag_J ?_ rfl))) only [A166, CO, HA, HB, HC, Nat.not_lt_zero, Nat.add_assoc, c_nlt, c_nle, c_neq, c_P, c_cl, c_m1, c_m1', nI_add, pk_mul, reduceIte, Nat.reduceEqDiff, Nat.reduceAdd, Nat.reduceMul, Nat.reduceLeDiff, eq_self, ↓pk_rem, pk_div, c_of, d_le, d_nle, d_lt, d_nlt, d_eq, d_ne]
  · rw [if_neg k]
    by_cases l : wI X p < 8
    · have te := tE_w h.2.2.1.1 (wI_p l) rfl
      simp only [if_pos l] at pa
      by_cases hn : n < 50
      · rw [if_pos ⟨l, hn⟩]
        refine ⟨fun q e => (nomatch e), fun p' n' φ e => ?_⟩
        cases e
        simp (disch := first | omega | (repeat (first | assumption | exact Ag_r | refine Ag_I ?_ rfl | refine Ag_F ?_ rfl | refine Ag_J ?_ rfl))) only [A166, FM h.1.1, ws, pa, t3, t4, k, CO, HA, HB, HC, Nat.not_lt_zero, Nat.add_assoc, c_nlt, c_nle, c_neq, c_P, c_cl, c_m1, c_m1', nI_add, pk_mul, reduceIte, Nat.reduceEqDiff, Nat.reduceAdd, Nat.reduceMul, Nat.reduceLeDiff, eq_self, ↓pk_rem, pk_div, c_of, d_le, d_nle, d_lt, d_nlt, d_eq, d_ne]
        refine Ev_b (M_leaf1 (d := d) h hz (by omega) hn) ?_
        rintro _ υ ⟨rfl, g, r, r4, r5, r6⟩
        refine Ev_e (o' := some (some (.int (nI 3)), υ)) ?_ (Ev_s ⟨rfl, g, r, SgS_word l (by rw [gM_0]; exact r4), r6⟩)
        simp (disch := first | omega | (repeat (first | assumption | exact Ag_r | refine Ag_I ?_ rfl | refine Ag_F ?_ rfl | refine Ag_J ?_ rfl))) only [A166, CO, HA, HB, HC, Nat.not_lt_zero, Nat.add_assoc, c_nlt, c_nle, c_neq, c_P, c_cl, c_m1, c_m1', nI_add, pk_mul, reduceIte, Nat.reduceEqDiff, Nat.reduceAdd, Nat.reduceMul, Nat.reduceLeDiff, eq_self, ↓pk_rem, pk_div, c_of, d_le, d_nle, d_lt, d_nlt, d_eq, d_ne]
      · rw [if_neg (fun w => hn w.2)]
        refine ⟨fun q e => ?_, fun p' n' φ e => (nomatch e)⟩
        cases e
        simp (disch := first | omega | (repeat (first | assumption | exact Ag_r | refine Ag_I ?_ rfl | refine Ag_F ?_ rfl | refine Ag_J ?_ rfl))) only [A166, FM h.1.1, ws, pa, t3, t4, k, CO, HA, HB, HC, Nat.not_lt_zero, Nat.add_assoc, c_nlt, c_nle, c_neq, c_P, c_cl, c_m1, c_m1', nI_add, pk_mul, reduceIte, Nat.reduceEqDiff, Nat.reduceAdd, Nat.reduceMul, Nat.reduceLeDiff, eq_self, ↓pk_rem, pk_div, c_of, d_le, d_nle, d_lt, d_nlt, d_eq, d_ne]
        refine Ev_b (M_leaf0 (d := d) h (show 1 < 2 by omega) (Or.inr (by omega))) ?_
        rintro _ υ ⟨rfl, g, r⟩
        refine Ev_e (o' := some (some (.int (nI 3)), υ)) ?_ (Ev_s ⟨rfl, g, r⟩)
        simp (disch := first | omega | (repeat (first | assumption | exact Ag_r | refine Ag_I ?_ rfl | refine Ag_F ?_ rfl | refine Ag_J ?_ rfl))) only [A166, CO, HA, HB, HC, Nat.not_lt_zero, Nat.add_assoc, c_nlt, c_nle, c_neq, c_P, c_cl, c_m1, c_m1', nI_add, pk_mul, reduceIte, Nat.reduceEqDiff, Nat.reduceAdd, Nat.reduceMul, Nat.reduceLeDiff, eq_self, ↓pk_rem, pk_div, c_of, d_le, d_nle, d_lt, d_nlt, d_eq, d_ne]
    · simp only [if_neg l] at pa
      rw [if_neg (fun w => l w.1)]
      refine ⟨fun q e => ?_, fun p' n' φ e => (nomatch e)⟩
      cases e
      simp (disch := first | omega | (repeat (first | assumption | exact Ag_r | refine Ag_I ?_ rfl | refine Ag_F ?_ rfl | refine Ag_J ?_ rfl))) only [A166, FM h.1.1, ws, pa, t3, t4, k, CO, HA, HB, HC, Nat.not_lt_zero, Nat.add_assoc, c_nlt, c_nle, c_neq, c_P, c_cl, c_m1, c_m1', nI_add, pk_mul, reduceIte, Nat.reduceEqDiff, Nat.reduceAdd, Nat.reduceMul, Nat.reduceLeDiff, eq_self, ↓pk_rem, pk_div, c_of, d_le, d_nle, d_lt, d_nlt, d_eq, d_ne]
      refine Ev_b (M_leaf0 (d := d) h (show 0 < 2 by omega) (Or.inl rfl)) ?_
      rintro _ υ ⟨rfl, g, r⟩
      refine Ev_e (o' := some (some (.int (nI 3)), υ)) ?_ (Ev_s ⟨rfl, g, r⟩)
      simp (disch := first | omega | (repeat (first | assumption | exact Ag_r | refine Ag_I ?_ rfl | refine Ag_F ?_ rfl | refine Ag_J ?_ rfl))) only [A166, CO, HA, HB, HC, Nat.not_lt_zero, Nat.add_assoc, c_nlt, c_nle, c_neq, c_P, c_cl, c_m1, c_m1', nI_add, pk_mul, reduceIte, Nat.reduceEqDiff, Nat.reduceAdd, Nat.reduceMul, Nat.reduceLeDiff, eq_self, ↓pk_rem, pk_div, c_of, d_le, d_nle, d_lt, d_nlt, d_eq, d_ne]
end
