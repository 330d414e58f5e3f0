/-! law: the model's step, whole; its small questions -/
section
variable {d p : Nat} {X : Tx} {τ : Hp}
theorem M_next (hM : FxM τ) (hX : TxM τ X) (hp : p ≤ X.1) (h10 : hF τ 57 10 = .int (nI p)) : Ev (den (d + 1, 152, 0, [.ref 57], [], τ)) (fun a ω => a = none ∧ Qnx τ ω ∧ TkM ω X p) := by
  have g0 : Qnx τ (sF τ 57 9 (.int (nI p))) := Ag_F Ag_r rfl
  obtain ⟨ω, e1, e2, e3⟩ := M_nx1 (d := d + 1) hM hX _ p (sF τ 57 9 (.int (nI p))) rfl hp g0 (by simp only [HA, and_self, reduceIte])
  have c2 := Qq_M (Qnx_q e2) hM
  have hX2 := Qq_X (Qnx_q e2) hX
  obtain ⟨x1, x2, x3, x4⟩ := hX2
  obtain ⟨b1, b2, b3, b4⟩ := tk_b hp
  have k0i : tK X p = 0 ↔ X.1 ≤ tS X p := kA_4.2
  refine Ev_e (o' := den (d + 1, 152, 46, [.ref 57], [], ω)) ?_ ?_
  · rw [← e1]
    simp (disch := first | omega | (repeat (first | assumption | exact Ag_r | refine Ag_I ?_ rfl | refine Ag_F ?_ rfl | refine Ag_J ?_ rfl))) only [A152, FM hM, h10, CO, HA, HB, HC, Nat.not_lt_zero, Nat.add_assoc, c_nlt, c_nle, c_neq, c_P, c_cl, c_m1, c_m1', nI_add, pk_mul, reduceIte, Nat.reduceEqDiff, Nat.reduceAdd, Nat.reduceMul, Nat.reduceLeDiff, eq_self, ↓pk_rem, pk_div, c_of, d_le, d_nle, d_lt, d_nlt, d_eq, d_ne]
  have g3 : ∀ k, Qnx ω (sF (sF (sF ω 57 10 (.int (nI (tS X p)))) 57 12 (.long (lN 0))) 57 11 (.int (nI k))) := fun k => Ag_F (Ag_F (Ag_F Ag_r rfl) rfl) rfl
  have f9 : ∀ k, hF (sF (sF (sF ω 57 10 (.int (nI (tS X p)))) 57 12 (.long (lN 0))) 57 11 (.int (nI k))) 57 9 = .int (nI (tS X p)) := fun k => by simp only [HA, Nat.reduceEqDiff, and_false, reduceIte]; exact e3
  have f10 : ∀ k, hF (sF (sF (sF ω 57 10 (.int (nI (tS X p)))) 57 12 (.long (lN 0))) 57 11 (.int (nI k))) 57 10 = .int (nI (tS X p)) := fun k => by simp only [HA, Nat.reduceEqDiff, and_false, and_self, reduceIte]
  have f11 : ∀ k, hF (sF (sF (sF ω 57 10 (.int (nI (tS X p)))) 57 12 (.long (lN 0))) 57 11 (.int (nI k))) 57 11 = .int (nI k) := fun k => by simp only [HA, and_self, reduceIte]
  have f12 : ∀ k, hF (sF (sF (sF ω 57 10 (.int (nI (tS X p)))) 57 12 (.long (lN 0))) 57 11 (.int (nI k))) 57 12 = .long (lN 0) := fun k => by simp only [HA, Nat.reduceEqDiff, and_false, and_self, reduceIte]
  by_cases k0 : tK X p = 0
  · have ts : tS X p = X.1 := by have := k0i.mp k0; omega
    refine Ev_e (o' := den (d + 1, 152, 149, [.ref 57], [], sF (sF (sF ω 57 10 (.int (nI (tS X p)))) 57 12 (.long (lN 0))) 57 11 (.int (nI 0)))) ?_ ?_
    · simp (disch := first | omega | (repeat (first | assumption | exact Ag_r | refine Ag_I ?_ rfl | refine Ag_F ?_ rfl | refine Ag_J ?_ rfl))) only [A152, FM c2, e3, x1, ts, CO, HA, HB, HC, Nat.not_lt_zero, Nat.add_assoc, c_nlt, c_nle, c_neq, c_P, c_cl, c_m1, c_m1', nI_add, pk_mul, reduceIte, Nat.reduceEqDiff, Nat.reduceAdd, Nat.reduceMul, Nat.reduceLeDiff, eq_self, ↓pk_rem, pk_div, c_of, d_le, d_nle, d_lt, d_nlt, d_eq, d_ne]
    · have m0 := Qq_M (Qnx_q (g3 0)) c2
      rw [a152_149]
      refine Ev_e (o' := den (d + 1, 152, 243, [.ref 57], [], sF (sF (sF ω 57 10 (.int (nI (tS X p)))) 57 12 (.long (lN 0))) 57 11 (.int (nI 0)))) ?_ ?_
      · simp (disch := first | omega | (repeat (first | assumption | exact Ag_r | refine Ag_I ?_ rfl | refine Ag_F ?_ rfl | refine Ag_J ?_ rfl))) only [A152, FM c2, FM m0, f11, CO, HA, HB, HC, Nat.not_lt_zero, Nat.add_assoc, c_nlt, c_nle, c_neq, c_P, c_cl, c_m1, c_m1', nI_add, pk_mul, reduceIte, Nat.reduceEqDiff, Nat.reduceAdd, Nat.reduceMul, Nat.reduceLeDiff, eq_self, ↓pk_rem, pk_div, c_of, d_le, d_nle, d_lt, d_nlt, d_eq, d_ne]
      · rw [a152_243]
        refine Ev_e (o' := some (none, sF (sF (sF ω 57 10 (.int (nI (tS X p)))) 57 12 (.long (lN 0))) 57 11 (.int (nI 0)))) ?_ (Ev_s ⟨rfl, Qnx_t e2 (g3 0), f9 0, ?_, ?_, ?_⟩)
        · simp (disch := first | omega | (repeat (first | assumption | exact Ag_r | refine Ag_I ?_ rfl | refine Ag_F ?_ rfl | refine Ag_J ?_ rfl))) only [A152, FM c2, FM m0, f11, CO, HA, HB, HC, Nat.not_lt_zero, Nat.add_assoc, c_nlt, c_nle, c_neq, c_P, c_cl, c_m1, c_m1', nI_add, pk_mul, reduceIte, Nat.reduceEqDiff, Nat.reduceAdd, Nat.reduceMul, Nat.reduceLeDiff, eq_self, ↓pk_rem, pk_div, c_of, d_le, d_nle, d_lt, d_nlt, d_eq, d_ne]
        · rw [f10 0]; unfold tE; rw [if_pos k0]
        · rw [f11 0, k0]
        · rw [f12 0]; unfold wo; rw [if_pos k0]
  · have tl : tS X p < X.1 := by
      refine Classical.byContradiction (fun z => k0 (k0i.mpr (by omega)))
    have e := x2 _ tl
    have l := x4 _ tl
    have sm := fun (d : Nat) (σ : Hp) => M_small (d := d) (τ := σ) l
    have dm := fun (d : Nat) (σ : Hp) => M_digit (d := d) (τ := σ) l
    have kt : kA X (tS X p) = tK X p := rfl
    by_cases k1 : tK X p = 1
    · have zz := (kA_1.mp (kt.trans k1)).2
      simp only [if_pos zz] at sm
      refine Ev_e (o' := den (d + 1, 152, 149, [.ref 57], [], sF (sF (sF ω 57 10 (.int (nI (tS X p)))) 57 12 (.long (lN 0))) 57 11 (.int (nI 1)))) ?_ ?_
      · simp (disch := first | omega | (repeat (first | assumption | exact Ag_r | refine Ag_I ?_ rfl | refine Ag_F ?_ rfl | refine Ag_J ?_ rfl))) only [A152, FM c2, e3, x1, e, sm, CO, HA, HB, HC, Nat.not_lt_zero, Nat.add_assoc, c_nlt, c_nle, c_neq, c_P, c_cl, c_m1, c_m1', nI_add, pk_mul, reduceIte, Nat.reduceEqDiff, Nat.reduceAdd, Nat.reduceMul, Nat.reduceLeDiff, eq_self, ↓pk_rem, pk_div, c_of, d_le, d_nle, d_lt, d_nlt, d_eq, d_ne]
      · refine Ev_m (M_nx2 (d := d) hM hX (s := tS X p) _ 0 _ rfl (by omega) (Qnx_t e2 (g3 1)) (f9 1) (f10 1) (f11 1) (by rw [f12 1]; rfl)) (fun a υ h => ?_)
        obtain ⟨r1, r2, r3, r4, r5, r6⟩ := h
        have te : tE X p = rn_ X 1 (tS X p + 0) := by
          unfold tE
          rw [if_neg k0, if_neg (by omega), k1]
          exact (rn_y tl (kt.trans k1)).symm
        refine ⟨r1, r2, r3, by rw [te]; exact r4, by rw [k1]; exact r5, ?_⟩
        have w1 : wo X p = wW X (tS X p) (tE X p - tS X p) := by
          unfold wo wW
          rw [if_neg k0, if_neg (show ¬ tK X p = 3 by omega), if_pos k1]
        rw [r6, ← te, w1]
    · have nz : ¬ (97 ≤ X.2 (tS X p) ∧ X.2 (tS X p) ≤ 122) := fun w => k1 (kA_1.mpr ⟨tl, w⟩)
      simp only [if_neg nz] at sm
      by_cases k2 : tK X p = 2
      · have zz := (kA_2.mp (kt.trans k2)).2
        simp only [if_pos zz] at dm
        have m0 := Qq_M (Qnx_q (g3 2)) c2
        refine Ev_e (o' := den (d + 1, 152, 149, [.ref 57], [], sF (sF (sF ω 57 10 (.int (nI (tS X p)))) 57 12 (.long (lN 0))) 57 11 (.int (nI 2)))) ?_ ?_
        · simp (disch := first | omega | (repeat (first | assumption | exact Ag_r | refine Ag_I ?_ rfl | refine Ag_F ?_ rfl | refine Ag_J ?_ rfl))) only [A152, FM c2, e3, x1, e, sm, dm, CO, HA, HB, HC, Nat.not_lt_zero, Nat.add_assoc, c_nlt, c_nle, c_neq, c_P, c_cl, c_m1, c_m1', nI_add, pk_mul, reduceIte, Nat.reduceEqDiff, Nat.reduceAdd, Nat.reduceMul, Nat.reduceLeDiff, eq_self, ↓pk_rem, pk_div, c_of, d_le, d_nle, d_lt, d_nlt, d_eq, d_ne]
        · rw [a152_149]
          refine Ev_e (o' := den (d + 1, 152, 243, [.ref 57], [], sF (sF (sF ω 57 10 (.int (nI (tS X p)))) 57 12 (.long (lN 0))) 57 11 (.int (nI 2)))) ?_ ?_
          · simp (disch := first | omega | (repeat (first | assumption | exact Ag_r | refine Ag_I ?_ rfl | refine Ag_F ?_ rfl | refine Ag_J ?_ rfl))) only [A152, FM c2, FM m0, f11, CO, HA, HB, HC, Nat.not_lt_zero, Nat.add_assoc, c_nlt, c_nle, c_neq, c_P, c_cl, c_m1, c_m1', nI_add, pk_mul, reduceIte, Nat.reduceEqDiff, Nat.reduceAdd, Nat.reduceMul, Nat.reduceLeDiff, eq_self, ↓pk_rem, pk_div, c_of, d_le, d_nle, d_lt, d_nlt, d_eq, d_ne]
          · refine Ev_m (M_nx3 (d := d) hM hX (s := tS X p) _ 0 _ rfl (by omega) (fun j hj => absurd hj (by omega)) (Qnx_t e2 (g3 2)) (f9 2) (f10 2) (f11 2) (by rw [f12 2]; rfl)) (fun a υ h => ?_)
            obtain ⟨r1, r2, r3, r4, r5, r6⟩ := h
            have te : tE X p = rn_ X 2 (tS X p + 0) := by
              unfold tE
              rw [if_neg k0, if_neg (by omega), k2]
              exact (rn_y tl (kt.trans k2)).symm
            refine ⟨r1, r2, r3, by rw [te]; exact r4, by rw [k2]; exact r5, ?_⟩
            rw [r6, ← te]
            unfold wo
            rw [if_neg k0, if_neg (by omega), if_neg k1]
      · have nz2 : ¬ (48 ≤ X.2 (tS X p) ∧ X.2 (tS X p) ≤ 57) := fun w => k2 (kA_2.mpr ⟨tl, w⟩)
        simp only [if_neg nz2] at dm
        have k3 : tK X p = 3 := by omega
        have m0 := Qq_M (Qnx_q (g3 3)) c2
        have g4 : Qnx (sF (sF (sF ω 57 10 (.int (nI (tS X p)))) 57 12 (.long (lN 0))) 57 11 (.int (nI 3))) (sF (sF (sF (sF (sF ω 57 10 (.int (nI (tS X p)))) 57 12 (.long (lN 0))) 57 11 (.int (nI 3))) 57 12 (.long (lN (X.2 (tS X p))))) 57 10 (.int (nI (tS X p + 1)))) := Ag_F (Ag_F Ag_r rfl) rfl
        have m4 := Qq_M (Qnx_q g4) m0
        refine Ev_e (o' := den (d + 1, 152, 149, [.ref 57], [], sF (sF (sF (sF (sF ω 57 10 (.int (nI (tS X p)))) 57 12 (.long (lN 0))) 57 11 (.int (nI 3))) 57 12 (.long (lN (X.2 (tS X p))))) 57 10 (.int (nI (tS X p + 1))))) ?_ ?_
        · have nl := nI_l (n := X.2 (tS X p)) (by omega)
          simp (disch := first | omega | (repeat (first | assumption | exact Ag_r | refine Ag_I ?_ rfl | refine Ag_F ?_ rfl | refine Ag_J ?_ rfl))) only [A152, FM c2, e3, x1, e, sm, dm, nl, CO, HA, HB, HC, Nat.not_lt_zero, Nat.add_assoc, c_nlt, c_nle, c_neq, c_P, c_cl, c_m1, c_m1', nI_add, pk_mul, reduceIte, Nat.reduceEqDiff, Nat.reduceAdd, Nat.reduceMul, Nat.reduceLeDiff, eq_self, ↓pk_rem, pk_div, c_of, d_le, d_nle, d_lt, d_nlt, d_eq, d_ne]
        · have q11 : hF (sF (sF (sF (sF (sF ω 57 10 (.int (nI (tS X p)))) 57 12 (.long (lN 0))) 57 11 (.int (nI 3))) 57 12 (.long (lN (X.2 (tS X p))))) 57 10 (.int (nI (tS X p + 1)))) 57 11 = .int (nI 3) := by simp only [HA, Nat.reduceEqDiff, and_false, and_self, reduceIte]
          rw [a152_149]
          refine Ev_e (o' := den (d + 1, 152, 243, [.ref 57], [], sF (sF (sF (sF (sF ω 57 10 (.int (nI (tS X p)))) 57 12 (.long (lN 0))) 57 11 (.int (nI 3))) 57 12 (.long (lN (X.2 (tS X p))))) 57 10 (.int (nI (tS X p + 1))))) ?_ ?_
          · simp (disch := first | omega | (repeat (first | assumption | exact Ag_r | refine Ag_I ?_ rfl | refine Ag_F ?_ rfl | refine Ag_J ?_ rfl))) only [A152, FM c2, q11, CO, HA, HB, HC, Nat.not_lt_zero, Nat.add_assoc, c_nlt, c_nle, c_neq, c_P, c_cl, c_m1, c_m1', nI_add, pk_mul, reduceIte, Nat.reduceEqDiff, Nat.reduceAdd, Nat.reduceMul, Nat.reduceLeDiff, eq_self, ↓pk_rem, pk_div, c_of, d_le, d_nle, d_lt, d_nlt, d_eq, d_ne]
          · rw [a152_243]
            refine Ev_e (o' := some (none, sF (sF (sF (sF (sF ω 57 10 (.int (nI (tS X p)))) 57 12 (.long (lN 0))) 57 11 (.int (nI 3))) 57 12 (.long (lN (X.2 (tS X p))))) 57 10 (.int (nI (tS X p + 1))))) ?_ (Ev_s ⟨rfl, Qnx_t e2 (Qnx_t (g3 3) g4), ?_, ?_, ?_, ?_⟩)
            · simp (disch := first | omega | (repeat (first | assumption | exact Ag_r | refine Ag_I ?_ rfl | refine Ag_F ?_ rfl | refine Ag_J ?_ rfl))) only [A152, FM c2, q11, CO, HA, HB, HC, Nat.not_lt_zero, Nat.add_assoc, c_nlt, c_nle, c_neq, c_P, c_cl, c_m1, c_m1', nI_add, pk_mul, reduceIte, Nat.reduceEqDiff, Nat.reduceAdd, Nat.reduceMul, Nat.reduceLeDiff, eq_self, ↓pk_rem, pk_div, c_of, d_le, d_nle, d_lt, d_nlt, d_eq, d_ne]
            · simp only [HA, Nat.reduceEqDiff, and_false, reduceIte]; exact e3
            · unfold tE
              rw [if_neg k0, if_pos k3]
              simp only [HA, and_self, reduceIte]
            · rw [k3]; exact q11
            · unfold wo
              rw [if_neg k0, if_pos k3]
              simp only [HA, Nat.reduceEqDiff, and_false, and_self, reduceIte]
theorem lN_e {a b : Nat} (ha : a < 2 ^ 60) (hb : b < 2 ^ 60) : (lN a = lN b) = (a = b) := by
  rw [← zL_n, ← zL_n, zL_eq (by omega) (by omega), eq_iff_iff]
  omega
theorem M_isWord (hM : FxM τ) (hX : TxM τ X) (hp : p ≤ X.1) (hT : TkM τ X p) {c : Nat} (hc : 0 < c) (h2 : c < 2 ^ 45) : den (d, 153, 0, [.ref 57, .long (lN c), .float 0], [], τ) = some (some (.int (if wd_ X p = c then nI 1 else nI 0)), τ) := by
  obtain ⟨t1, t2, t3, t4⟩ := hT
  obtain ⟨b1, b2, b3, b4⟩ := tk_b hp
  unfold wd_
  by_cases k : tK X p = 1
  · rw [if_pos k]
    have le : ∀ i, i < tE X p - tS X p → 97 ≤ X.2 (tS X p + i) ∧ X.2 (tS X p + i) ≤ 122 := fun i hi => by
      have := b4 (Or.inl k) (tS X p + i) (by omega) (by omega)
      rw [k] at this
      exact (kA_1.mp this).2
    have ew : (wo X p = lN c) = (wv X (tS X p) (tE X p - tS X p) = c) := by
      unfold wo
      rw [if_neg (by omega), if_neg (by omega), if_pos k]
      by_cases l : tE X p - tS X p ≤ 10
      · rw [if_pos l]
        have a := wv_lt (X := X) (s := tS X p) (n := tE X p - tS X p) (fun i hi => (le i hi).2)
        have b : 32 ^ (tE X p - tS X p) ≤ 32 ^ 10 := Nat.pow_le_pow_right (by omega) l
        have c : (32 : Nat) ^ 10 = 1125899906842624 := by decide
        exact lN_e (by omega) (by omega)
      · rw [if_neg l]
        have a := wv_ge (X := X) (s := tS X p) (n := tE X p - tS X p) (fun i hi => (le i hi).1) (by omega)
        have b : 32 ^ 10 ≤ 32 ^ (tE X p - tS X p - 1) := Nat.pow_le_pow_right (by omega) (by omega)
        have c' : (32 : Nat) ^ 10 = 1125899906842624 := by decide
        rw [show (-1 : Int64) = zL (-1) from rfl, ← zL_n, zL_eq (by omega) (by omega), eq_iff_iff]
        omega
    by_cases z : wv X (tS X p) (tE X p - tS X p) = c
    · rw [if_pos z]
      simp (disch := first | omega | (repeat (first | assumption | exact Ag_r | refine Ag_I ?_ rfl | refine Ag_F ?_ rfl | refine Ag_J ?_ rfl))) only [A153, FM hM, t3, t4, k, lc_eq, ew, eq_true z, CO, HA, HB, HC, Nat.not_lt_zero, Nat.add_assoc, c_nlt, c_nle, c_neq, c_P, c_cl, c_m1, c_m1', nI_add, pk_mul, reduceIte, Nat.reduceEqDiff, Nat.reduceAdd, Nat.reduceMul, Nat.reduceLeDiff, eq_self, ↓pk_rem, pk_div, c_of, d_le, d_nle, d_lt, d_nlt, d_eq, d_ne]
    · rw [if_neg z]
      simp (disch := first | omega | (repeat (first | assumption | exact Ag_r | refine Ag_I ?_ rfl | refine Ag_F ?_ rfl | refine Ag_J ?_ rfl))) only [A153, FM hM, t3, t4, k, lc_eq, ew, eq_false z, CO, HA, HB, HC, Nat.not_lt_zero, Nat.add_assoc, c_nlt, c_nle, c_neq, c_P, c_cl, c_m1, c_m1', nI_add, pk_mul, reduceIte, Nat.reduceEqDiff, Nat.reduceAdd, Nat.reduceMul, Nat.reduceLeDiff, eq_self, ↓pk_rem, pk_div, c_of, d_le, d_nle, d_lt, d_nlt, d_eq, d_ne]
  · rw [if_neg k, if_neg (by omega)]
    simp (disch := first | omega | (repeat (first | assumption | exact Ag_r | refine Ag_I ?_ rfl | refine Ag_F ?_ rfl | refine Ag_J ?_ rfl))) only [A153, FM hM, t3, t4, k, CO, HA, HB, HC, Nat.not_lt_zero, Nat.add_assoc, c_nlt, c_nle, c_neq, c_P, c_cl, c_m1, c_m1', nI_add, pk_mul, reduceIte, Nat.reduceEqDiff, Nat.reduceAdd, Nat.reduceMul, Nat.reduceLeDiff, eq_self, ↓pk_rem, pk_div, c_of, d_le, d_nle, d_lt, d_nlt, d_eq, d_ne]
theorem M_isSign (hM : FxM τ) (hX : TxM τ X) (hp : p ≤ X.1) (hT : TkM τ X p) {c : Nat} (hc : 0 < c) (h2 : c < 256) : den (d, 154, 0, [.ref 57, .int (nI c)], [], τ) = some (some (.int (if sg_ X p = c then nI 1 else nI 0)), τ) := by
  obtain ⟨x1, x2, x3, x4⟩ := hX
  obtain ⟨t1, t2, t3, t4⟩ := hT
  obtain ⟨b1, b2, b3, b4⟩ := tk_b hp
  unfold sg_
  by_cases k : tK X p = 3
  · have ts : tS X p < X.1 := by have := b3 (by omega); omega
    have l := x4 _ ts
    rw [if_pos k]
    have ew : (wo X p = lN c) = (X.2 (tS X p) = c) := by
      unfold wo
      rw [if_neg (by omega), if_pos k]
      exact lN_e (by omega) (by omega)
    have nl := nI_l (n := c) (by omega)
    by_cases z : X.2 (tS X p) = c
    · rw [if_pos z]
      simp (disch := first | omega | (repeat (first | assumption | exact Ag_r | refine Ag_I ?_ rfl | refine Ag_F ?_ rfl | refine Ag_J ?_ rfl))) only [A154, FM hM, t3, t4, k, nl, lc_eq, ew, eq_true z, CO, HA, HB, HC, Nat.not_lt_zero, Nat.add_assoc, c_nlt, c_nle, c_neq, c_P, c_cl, c_m1, c_m1', nI_add, pk_mul, reduceIte, Nat.reduceEqDiff, Nat.reduceAdd, Nat.reduceMul, Nat.reduceLeDiff, eq_self, ↓pk_rem, pk_div, c_of, d_le, d_nle, d_lt, d_nlt, d_eq, d_ne]
    · rw [if_neg z]
      simp (disch := first | omega | (repeat (first | assumption | exact Ag_r | refine Ag_I ?_ rfl | refine Ag_F ?_ rfl | refine Ag_J ?_ rfl))) only [A154, FM hM, t3, t4, k, nl, lc_eq, ew, eq_false z, CO, HA, HB, HC, Nat.not_lt_zero, Nat.add_assoc, c_nlt, c_nle, c_neq, c_P, c_cl, c_m1, c_m1', nI_add, pk_mul, reduceIte, Nat.reduceEqDiff, Nat.reduceAdd, Nat.reduceMul, Nat.reduceLeDiff, eq_self, ↓pk_rem, pk_div, c_of, d_le, d_nle, d_lt, d_nlt, d_eq, d_ne]
  · rw [if_neg k, if_neg (by omega)]
    simp (disch := first | omega | (repeat (first | assumption | exact Ag_r | refine Ag_I ?_ rfl | refine Ag_F ?_ rfl | refine Ag_J ?_ rfl))) only [A154, FM hM, t3, t4, k, CO, HA, HB, HC, Nat.not_lt_zero, Nat.add_assoc, c_nlt, c_nle, c_neq, c_P, c_cl, c_m1, c_m1', nI_add, pk_mul, reduceIte, Nat.reduceEqDiff, Nat.reduceAdd, Nat.reduceMul, Nat.reduceLeDiff, eq_self, ↓pk_rem, pk_div, c_of, d_le, d_nle, d_lt, d_nlt, d_eq, d_ne]
end
