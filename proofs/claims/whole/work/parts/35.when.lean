/-! when, age, gap -/
/-- of the first k places of a row how many lie in B0 .. B1 - 1 -/
def wn (B0 B1 k : Nat) : Nat := min k B1 - min k B0
def wf (B0 B1 k : Nat) : Int32 := if B0 < k ∧ B0 < B1 then nI B0 else -1
theorem bx {v u : Nat} {H : Nat → Nat} {e e' k : Nat} (h1 : bef H v u e ≤ k) (h2 : k < bef H v u (e + 1)) (hne : ¬ e = e') : ¬ (bef H v u e' ≤ k ∧ k < bef H v u (e' + 1)) := by
  intro ⟨h3, h4⟩
  rcases Nat.lt_or_ge e e' with h | h
  · have := bef_mono H v u (show e + 1 ≤ e' by omega); omega
  · have := bef_mono H v u (show e' + 1 ≤ e by omega); omega
section
variable {d v : Nat} {H : Nat → Nat} {σ ρ : Hp}
theorem M_whenL (hv8 : v ≤ 8) {a e : Nat} {w : Int32} {υ : Hp} (hM : FxM υ) (he : e < 28) (hdw : hF υ 57 36 = .int (nI (hd H v a))) (hdr : ∀ e o, e < 28 → o < v → H (28 * o + e) = a → hI υ 74 (rk H v a e o) = nI (28 * o + e)) : den (d, 191, 50, [.ref 57, .int (nI a), .int (nI e), .int w, .int (nI 0), .int (-1), .int (nI 0)], [], υ) = den (d, 191, 50, [.ref 57, .int (nI a), .int (nI e), .int w, .int (nI (tm H v a e)), .int (wf (bef H v a e) (bef H v a (e + 1)) (hd H v a)), .int (nI (hd H v a))], [], υ) := by
  have b0 := hd_le H a hv8
  have b1 := bef_mono H v a (show e + 1 ≤ 28 by omega)
  rw [bef_28] at b1
  have b2 := bef_s H a e v
  have key := lq (h := fun k => (d, 191, 50, [.ref 57, .int (nI a), .int (nI e), .int w, .int (nI (wn (bef H v a e) (bef H v a (e + 1)) k)), .int (wf (bef H v a e) (bef H v a (e + 1)) k), .int (nI k)], [], υ)) (hd H v a) (by
    intro k hk
    obtain ⟨e', o, g1, g2, g3, g4, g5, g6, g7, g8, g9⟩ := dw_at hdr hk
    generalize B0e : bef H v a e = B0 at *
    generalize B1e : bef H v a (e + 1) = B1 at *
    rw [a191_50]
    by_cases z : e' = e
    · subst z
      have w1 : wn B0 B1 k = k - B0 := by unfold wn; omega
      have w2 : wn B0 B1 (k + 1) = k - B0 + 1 := by unfold wn; omega
      have w3 : wf B0 B1 (k + 1) = nI B0 := by unfold wf; rw [if_pos (by omega)]
      rw [w1, w2, w3]
      by_cases z2 : k = B0
      · subst z2
        simp (disch := first | omega | (repeat (first | assumption | exact Ag_r | refine Ag_I ?_ rfl | refine Ag_F ?_ rfl | refine Ag_J ?_ rfl))) only [A191, FM hM, hdw, g4, g8, Nat.sub_self, CO, HA, HB, HC, Nat.not_lt_zero, Nat.add_assoc, c_nlt, c_nle, c_neq, c_P, c_cl, c_m1, c_m1', nI_add, pk_mul, reduceIte, Nat.reduceEqDiff, Nat.reduceAdd, Nat.reduceMul, Nat.reduceLeDiff, eq_self, ↓pk_rem, pk_div, c_of, d_le, d_nle, d_lt, d_nlt, d_eq, d_ne]
      · have w4 : wf B0 B1 k = nI B0 := by unfold wf; rw [if_pos (by omega)]
        simp (disch := first | omega | (repeat (first | assumption | exact Ag_r | refine Ag_I ?_ rfl | refine Ag_F ?_ rfl | refine Ag_J ?_ rfl))) only [A191, FM hM, hdw, g4, g8, w4, CO, HA, HB, HC, Nat.not_lt_zero, Nat.add_assoc, c_nlt, c_nle, c_neq, c_P, c_cl, c_m1, c_m1', nI_add, pk_mul, reduceIte, Nat.reduceEqDiff, Nat.reduceAdd, Nat.reduceMul, Nat.reduceLeDiff, eq_self, ↓pk_rem, pk_div, c_of, d_le, d_nle, d_lt, d_nlt, d_eq, d_ne]
    · have z3 : ¬ (B0 ≤ k ∧ k < B1) := by rw [← B0e, ← B1e]; exact bx g6 g7 z
      have w1 : wn B0 B1 (k + 1) = wn B0 B1 k := by unfold wn; omega
      have w2 : wf B0 B1 (k + 1) = wf B0 B1 k := by
        unfold wf
        by_cases z4 : B0 < k ∧ B0 < B1
        · rw [if_pos z4, if_pos (by omega)]
        · rw [if_neg z4, if_neg (by omega)]
      rw [w1, w2]
      simp (disch := first | omega | (repeat (first | assumption | exact Ag_r | refine Ag_I ?_ rfl | refine Ag_F ?_ rfl | refine Ag_J ?_ rfl))) only [A191, FM hM, hdw, g4, g8, z, CO, HA, HB, HC, Nat.not_lt_zero, Nat.add_assoc, c_nlt, c_nle, c_neq, c_P, c_cl, c_m1, c_m1', nI_add, pk_mul, reduceIte, Nat.reduceEqDiff, Nat.reduceAdd, Nat.reduceMul, Nat.reduceLeDiff, eq_self, ↓pk_rem, pk_div, c_of, d_le, d_nle, d_lt, d_nlt, d_eq, d_ne]
      ) 0 (Nat.zero_le _)
  rw [show wn (bef H v a e) (bef H v a (e + 1)) 0 = 0 by unfold wn; omega, show wf (bef H v a e) (bef H v a (e + 1)) 0 = -1 by unfold wf; rw [if_neg (by omega)], show wn (bef H v a e) (bef H v a (e + 1)) (hd H v a) = tm H v a e by unfold wn; omega] at key
  exact key
theorem P_when (hC : FxC σ) (hM : FxM ρ) (sC : StC σ v H) (sM : StM ρ v H) (hw : Wf v H) (x y z : Int32) : ∃ r, Ev (den (d + 4, 97, 0, [.ref 0, .int x, .int y, .int z, .float 0], [], σ)) (fun a τ => a = some (.int r) ∧ Qc σ τ) ∧ Ev (den (d + 4, 191, 0, [.ref 57, .int x, .int y, .int z, .float 0, .float 0, .float 0], [], ρ)) (fun a τ => a = some (.int r) ∧ Qm ρ τ) := by
  have hv1 := hw.1
  have hv8 := hw.2.1
  have vC := fun (d : Nat) x => C_isVillage (d := d) hC sC.1 hw.1 hw.2.1 x
  have hH : ∀ c, c < 224 → H c < 8 := fun c hc => Wf_8 hw hc
  by_cases hx : inr x (v - 1)
  · obtain ⟨a, ha, rfl⟩ := inr_of (by omega) hx
    have ha8 : a < 8 := by omega
    by_cases hy : inr y 27
    · obtain ⟨e, he, rfl⟩ := inr_of (by omega) hy
      have he8 : e < 28 := by omega
      have b0 := hd_le H a hv8
      have b1 := bef_mono H v a (show e + 1 ≤ 28 by omega)
      rw [bef_28] at b1
      have b2 := bef_s H a e v
      rcases tri z 1 (by omega) with hz | ⟨m, hm, rfl⟩ | ⟨m, hm, hm2, rfl⟩
      · refine ⟨-1, ?_, ?_⟩
        · simp (disch := first | omega | (repeat (first | assumption | exact Ag_r | refine Ag_I ?_ rfl | refine Ag_F ?_ rfl | refine Ag_J ?_ rfl))) only [A97, FC hC, vC, if_pos hx, C_isDay', if_pos hy, ng hz, CO, HA, HB, HC, Nat.not_lt_zero, Nat.add_assoc, c_nlt, c_nle, c_neq, c_P, c_cl, c_m1, c_m1', nI_add, pk_mul, reduceIte, Nat.reduceEqDiff, Nat.reduceAdd, Nat.reduceMul, Nat.reduceLeDiff, eq_self, ↓pk_rem, pk_div, c_of, d_le, d_nle, d_lt, d_nlt, d_eq, d_ne]
          exact Ev_s ⟨rfl, (by repeat (first | assumption | exact Ag_r | refine Ag_I ?_ rfl | refine Ag_F ?_ rfl | refine Ag_J ?_ rfl))⟩
        · simp (disch := first | omega | (repeat (first | assumption | exact Ag_r | refine Ag_I ?_ rfl | refine Ag_F ?_ rfl | refine Ag_J ?_ rfl))) only [A191, FM hM, M_isVillage' hM sM.1 hv1 hv8, if_pos hx, M_isDay, if_pos hy, M_in, l_lo, l_hi, ng hz, CO, HA, HB, HC, Nat.not_lt_zero, Nat.add_assoc, c_nlt, c_nle, c_neq, c_P, c_cl, c_m1, c_m1', nI_add, pk_mul, reduceIte, Nat.reduceEqDiff, Nat.reduceAdd, Nat.reduceMul, Nat.reduceLeDiff, eq_self, ↓pk_rem, pk_div, c_of, d_le, d_nle, d_lt, d_nlt, d_eq, d_ne]
          exact Ev_s ⟨rfl, (by repeat (first | assumption | exact Ag_r | refine Ag_I ?_ rfl | refine Ag_F ?_ rfl | refine Ag_J ?_ rfl))⟩
      · refine ⟨if m = 1 then nI (tm H v a e) else if 0 < tm H v a e then nI (bef H v a e) else -1, ?_, ?_⟩
        · simp (disch := first | omega | (repeat (first | assumption | exact Ag_r | refine Ag_I ?_ rfl | refine Ag_F ?_ rfl | refine Ag_J ?_ rfl))) only [A97, FC hC, vC, if_pos hx, C_isDay', if_pos hy, CO, HA, HB, HC, Nat.not_lt_zero, Nat.add_assoc, c_nlt, c_nle, c_neq, c_P, c_cl, c_m1, c_m1', nI_add, pk_mul, reduceIte, Nat.reduceEqDiff, Nat.reduceAdd, Nat.reduceMul, Nat.reduceLeDiff, eq_self, ↓pk_rem, pk_div, c_of, d_le, d_nle, d_lt, d_nlt, d_eq, d_ne]
          refine Ev_b (C_drawUp hC sC hw (by repeat (first | assumption | exact Ag_r | refine Ag_I ?_ rfl | refine Ag_F ?_ rfl | refine Ag_J ?_ rfl))) ?_
          rintro _ τ ⟨rfl, hq, hc⟩
          have h' := Qc_C hq hC
          by_cases m1 : m = 1
          · simp (disch := first | omega | (repeat (first | assumption | exact Ag_r | refine Ag_I ?_ rfl | refine Ag_F ?_ rfl | refine Ag_J ?_ rfl))) only [A97, FC h', C_times hC hv8 ha8 he8 hq hc, m1, CO, HA, HB, HC, Nat.not_lt_zero, Nat.add_assoc, c_nlt, c_nle, c_neq, c_P, c_cl, c_m1, c_m1', nI_add, pk_mul, reduceIte, Nat.reduceEqDiff, Nat.reduceAdd, Nat.reduceMul, Nat.reduceLeDiff, eq_self, ↓pk_rem, pk_div, c_of, d_le, d_nle, d_lt, d_nlt, d_eq, d_ne]
            exact Ev_s ⟨rfl, hq⟩
          · by_cases t0 : 0 < tm H v a e
            · simp (disch := first | omega | (repeat (first | assumption | exact Ag_r | refine Ag_I ?_ rfl | refine Ag_F ?_ rfl | refine Ag_J ?_ rfl))) only [A97, FC h', C_times hC hv8 ha8 he8 hq hc, m1, t0, C_before hC hv8 ha8 (show e ≤ 28 by omega) hq hc, CO, HA, HB, HC, Nat.not_lt_zero, Nat.add_assoc, c_nlt, c_nle, c_neq, c_P, c_cl, c_m1, c_m1', nI_add, pk_mul, reduceIte, Nat.reduceEqDiff, Nat.reduceAdd, Nat.reduceMul, Nat.reduceLeDiff, eq_self, ↓pk_rem, pk_div, c_of, d_le, d_nle, d_lt, d_nlt, d_eq, d_ne]
              exact Ev_s ⟨rfl, hq⟩
            · simp (disch := first | omega | (repeat (first | assumption | exact Ag_r | refine Ag_I ?_ rfl | refine Ag_F ?_ rfl | refine Ag_J ?_ rfl))) only [A97, FC h', C_times hC hv8 ha8 he8 hq hc, m1, t0, CO, HA, HB, HC, Nat.not_lt_zero, Nat.add_assoc, c_nlt, c_nle, c_neq, c_P, c_cl, c_m1, c_m1', nI_add, pk_mul, reduceIte, Nat.reduceEqDiff, Nat.reduceAdd, Nat.reduceMul, Nat.reduceLeDiff, eq_self, ↓pk_rem, pk_div, c_of, d_le, d_nle, d_lt, d_nlt, d_eq, d_ne]
              exact Ev_s ⟨rfl, hq⟩
        · simp (disch := first | omega | (repeat (first | assumption | exact Ag_r | refine Ag_I ?_ rfl | refine Ag_F ?_ rfl | refine Ag_J ?_ rfl))) only [A191, FM hM, M_isVillage' hM sM.1 hv1 hv8, if_pos hx, M_isDay, if_pos hy, M_in, l_lo, l_hi, CO, HA, HB, HC, Nat.not_lt_zero, Nat.add_assoc, c_nlt, c_nle, c_neq, c_P, c_cl, c_m1, c_m1', nI_add, pk_mul, reduceIte, Nat.reduceEqDiff, Nat.reduceAdd, Nat.reduceMul, Nat.reduceLeDiff, eq_self, ↓pk_rem, pk_div, c_of, d_le, d_nle, d_lt, d_nlt, d_eq, d_ne]
          refine Ev_b (M_load hM sM hw (by repeat (first | assumption | exact Ag_r | refine Ag_I ?_ rfl | refine Ag_F ?_ rfl | refine Ag_J ?_ rfl))) ?_
          rintro _ τ ⟨rfl, hq, hl⟩
          have h' := Qm_M hq hM
          simp (disch := first | omega | (repeat (first | assumption | exact Ag_r | refine Ag_I ?_ rfl | refine Ag_F ?_ rfl | refine Ag_J ?_ rfl))) only [A191, FM h', CO, HA, HB, HC, Nat.not_lt_zero, Nat.add_assoc, c_nlt, c_nle, c_neq, c_P, c_cl, c_m1, c_m1', nI_add, pk_mul, reduceIte, Nat.reduceEqDiff, Nat.reduceAdd, Nat.reduceMul, Nat.reduceLeDiff, eq_self, ↓pk_rem, pk_div, c_of, d_le, d_nle, d_lt, d_nlt, d_eq, d_ne]
          refine Ev_b (M_findRow hM sM.1 hv8 hH ha8 hq hl.1) ?_
          rintro _ υ ⟨rfl, hq2, hl2, hdw, hdr⟩
          have h2 := Qm_M hq2 hM
          simp (disch := first | omega | (repeat (first | assumption | exact Ag_r | refine Ag_I ?_ rfl | refine Ag_F ?_ rfl | refine Ag_J ?_ rfl))) only [A191, M_whenL hv8 h2 he8 hdw hdr, CO, HA, HB, HC, Nat.not_lt_zero, Nat.add_assoc, c_nlt, c_nle, c_neq, c_P, c_cl, c_m1, c_m1', nI_add, pk_mul, reduceIte, Nat.reduceEqDiff, Nat.reduceAdd, Nat.reduceMul, Nat.reduceLeDiff, eq_self, ↓pk_rem, pk_div, c_of, d_le, d_nle, d_lt, d_nlt, d_eq, d_ne]
          rw [a191_50]
          by_cases m1 : m = 1
          · simp (disch := first | omega | (repeat (first | assumption | exact Ag_r | refine Ag_I ?_ rfl | refine Ag_F ?_ rfl | refine Ag_J ?_ rfl))) only [A191, FM h2, hdw, m1, CO, HA, HB, HC, Nat.not_lt_zero, Nat.add_assoc, c_nlt, c_nle, c_neq, c_P, c_cl, c_m1, c_m1', nI_add, pk_mul, reduceIte, Nat.reduceEqDiff, Nat.reduceAdd, Nat.reduceMul, Nat.reduceLeDiff, eq_self, ↓pk_rem, pk_div, c_of, d_le, d_nle, d_lt, d_nlt, d_eq, d_ne]
            exact Ev_s ⟨rfl, hq2⟩
          · obtain rfl : m = 0 := by omega
            by_cases t0 : 0 < tm H v a e
            · have w4 : wf (bef H v a e) (bef H v a (e + 1)) (hd H v a) = nI (bef H v a e) := by unfold wf; rw [if_pos (by omega)]
              simp (disch := first | omega | (repeat (first | assumption | exact Ag_r | refine Ag_I ?_ rfl | refine Ag_F ?_ rfl | refine Ag_J ?_ rfl))) only [A191, FM h2, hdw, m1, t0, w4, CO, HA, HB, HC, Nat.not_lt_zero, Nat.add_assoc, c_nlt, c_nle, c_neq, c_P, c_cl, c_m1, c_m1', nI_add, pk_mul, reduceIte, Nat.reduceEqDiff, Nat.reduceAdd, Nat.reduceMul, Nat.reduceLeDiff, eq_self, ↓pk_rem, pk_div, c_of, d_le, d_nle, d_lt, d_nlt, d_eq, d_ne]
              exact Ev_s ⟨rfl, hq2⟩
            · have w4 : wf (bef H v a e) (bef H v a (e + 1)) (hd H v a) = -1 := by unfold wf; rw [if_neg (by omega)]
              simp (disch := first | omega | (repeat (first | assumption | exact Ag_r | refine Ag_I ?_ rfl | refine Ag_F ?_ rfl | refine Ag_J ?_ rfl))) only [A191, FM h2, hdw, m1, t0, w4, CO, HA, HB, HC, Nat.not_lt_zero, Nat.add_assoc, c_nlt, c_nle, c_neq, c_P, c_cl, c_m1, c_m1', nI_add, pk_mul, reduceIte, Nat.reduceEqDiff, Nat.reduceAdd, Nat.reduceMul, Nat.reduceLeDiff, eq_self, ↓pk_rem, pk_div, c_of, d_le, d_nle, d_lt, d_nlt, d_eq, d_ne]
              exact Ev_s ⟨rfl, hq2⟩
      · refine ⟨-1, ?_, ?_⟩
        · simp (disch := first | omega | (repeat (first | assumption | exact Ag_r | refine Ag_I ?_ rfl | refine Ag_F ?_ rfl | refine Ag_J ?_ rfl))) only [A97, FC hC, vC, if_pos hx, C_isDay', if_pos hy, CO, HA, HB, HC, Nat.not_lt_zero, Nat.add_assoc, c_nlt, c_nle, c_neq, c_P, c_cl, c_m1, c_m1', nI_add, pk_mul, reduceIte, Nat.reduceEqDiff, Nat.reduceAdd, Nat.reduceMul, Nat.reduceLeDiff, eq_self, ↓pk_rem, pk_div, c_of, d_le, d_nle, d_lt, d_nlt, d_eq, d_ne]
          exact Ev_s ⟨rfl, (by repeat (first | assumption | exact Ag_r | refine Ag_I ?_ rfl | refine Ag_F ?_ rfl | refine Ag_J ?_ rfl))⟩
        · simp (disch := first | omega | (repeat (first | assumption | exact Ag_r | refine Ag_I ?_ rfl | refine Ag_F ?_ rfl | refine Ag_J ?_ rfl))) only [A191, FM hM, M_isVillage' hM sM.1 hv1 hv8, if_pos hx, M_isDay, if_pos hy, M_in, l_lo, l_hi, CO, HA, HB, HC, Nat.not_lt_zero, Nat.add_assoc, c_nlt, c_nle, c_neq, c_P, c_cl, c_m1, c_m1', nI_add, pk_mul, reduceIte, Nat.reduceEqDiff, Nat.reduceAdd, Nat.reduceMul, Nat.reduceLeDiff, eq_self, ↓pk_rem, pk_div, c_of, d_le, d_nle, d_lt, d_nlt, d_eq, d_ne]
          exact Ev_s ⟨rfl, (by repeat (first | assumption | exact Ag_r | refine Ag_I ?_ rfl | refine Ag_F ?_ rfl | refine Ag_J ?_ rfl))⟩
    · refine ⟨-1, ?_, ?_⟩
      · simp (disch := first | omega | (repeat (first | assumption | exact Ag_r | refine Ag_I ?_ rfl | refine Ag_F ?_ rfl | refine Ag_J ?_ rfl))) only [A97, FC hC, vC, if_pos hx, C_isDay', if_neg hy, CO, HA, HB, HC, Nat.not_lt_zero, Nat.add_assoc, c_nlt, c_nle, c_neq, c_P, c_cl, c_m1, c_m1', nI_add, pk_mul, reduceIte, Nat.reduceEqDiff, Nat.reduceAdd, Nat.reduceMul, Nat.reduceLeDiff, eq_self, ↓pk_rem, pk_div, c_of, d_le, d_nle, d_lt, d_nlt, d_eq, d_ne]
        exact Ev_s ⟨rfl, (by repeat (first | assumption | exact Ag_r | refine Ag_I ?_ rfl | refine Ag_F ?_ rfl | refine Ag_J ?_ rfl))⟩
      · simp (disch := first | omega | (repeat (first | assumption | exact Ag_r | refine Ag_I ?_ rfl | refine Ag_F ?_ rfl | refine Ag_J ?_ rfl))) only [A191, FM hM, M_isVillage' hM sM.1 hv1 hv8, if_pos hx, M_isDay, if_neg hy, CO, HA, HB, HC, Nat.not_lt_zero, Nat.add_assoc, c_nlt, c_nle, c_neq, c_P, c_cl, c_m1, c_m1', nI_add, pk_mul, reduceIte, Nat.reduceEqDiff, Nat.reduceAdd, Nat.reduceMul, Nat.reduceLeDiff, eq_self, ↓pk_rem, pk_div, c_of, d_le, d_nle, d_lt, d_nlt, d_eq, d_ne]
        exact Ev_s ⟨rfl, (by repeat (first | assumption | exact Ag_r | refine Ag_I ?_ rfl | refine Ag_F ?_ rfl | refine Ag_J ?_ rfl))⟩
  · refine ⟨-1, ?_, ?_⟩
    · simp (disch := first | omega | (repeat (first | assumption | exact Ag_r | refine Ag_I ?_ rfl | refine Ag_F ?_ rfl | refine Ag_J ?_ rfl))) only [A97, FC hC, vC, if_neg hx, CO, HA, HB, HC, Nat.not_lt_zero, Nat.add_assoc, c_nlt, c_nle, c_neq, c_P, c_cl, c_m1, c_m1', nI_add, pk_mul, reduceIte, Nat.reduceEqDiff, Nat.reduceAdd, Nat.reduceMul, Nat.reduceLeDiff, eq_self, ↓pk_rem, pk_div, c_of, d_le, d_nle, d_lt, d_nlt, d_eq, d_ne]
      exact Ev_s ⟨rfl, (by repeat (first | assumption | exact Ag_r | refine Ag_I ?_ rfl | refine Ag_F ?_ rfl | refine Ag_J ?_ rfl))⟩
    · simp (disch := first | omega | (repeat (first | assumption | exact Ag_r | refine Ag_I ?_ rfl | refine Ag_F ?_ rfl | refine Ag_J ?_ rfl))) only [A191, FM hM, M_isVillage' hM sM.1 hv1 hv8, if_neg hx, CO, HA, HB, HC, Nat.not_lt_zero, Nat.add_assoc, c_nlt, c_nle, c_neq, c_P, c_cl, c_m1, c_m1', nI_add, pk_mul, reduceIte, Nat.reduceEqDiff, Nat.reduceAdd, Nat.reduceMul, Nat.reduceLeDiff, eq_self, ↓pk_rem, pk_div, c_of, d_le, d_nle, d_lt, d_nlt, d_eq, d_ne]
      exact Ev_s ⟨rfl, (by repeat (first | assumption | exact Ag_r | refine Ag_I ?_ rfl | refine Ag_F ?_ rfl | refine Ag_J ?_ rfl))⟩
theorem M_ageL (hv8 : v ≤ 8) {a e k' : Nat} {υ : Hp} (hM : FxM υ) (he : e < 28) (hdw : hF υ 57 36 = .int (nI (hd H v a))) (hdr : ∀ e o, e < 28 → o < v → H (28 * o + e) = a → hI υ 74 (rk H v a e o) = nI (28 * o + e)) (hk' : k' ≤ 224) : den (d, 192, 49, [.ref 57, .int (nI a), .int (nI e), .int (nI k'), .int (nI 0), .int (nI 0)], [], υ) = some (some (.int (nI (wn (bef H v a e) (bef H v a (e + 1)) k'))), υ) := by
  have b0 := hd_le H a hv8
  have b1 := bef_mono H v a (show e + 1 ≤ 28 by omega)
  rw [bef_28] at b1
  have b2 := bef_s H a e v
  have key := lq (h := fun k => (d, 192, 49, [.ref 57, .int (nI a), .int (nI e), .int (nI k'), .int (nI (wn (bef H v a e) (bef H v a (e + 1)) k)), .int (nI k)], [], υ)) (min (hd H v a) k') (by
    intro k hk0
    have hk : k < hd H v a := by omega
    have hk2 : k < k' := by omega
    obtain ⟨e', o, g1, g2, g3, g4, g5, g6, g7, g8, g9⟩ := dw_at hdr hk
    generalize B0e : bef H v a e = B0 at *
    generalize B1e : bef H v a (e + 1) = B1 at *
    rw [a192_49]
    by_cases z : e' = e
    · subst z
      have w1 : wn B0 B1 (k + 1) = wn B0 B1 k + 1 := by unfold wn; omega
      rw [w1]
      simp (disch := first | omega | (repeat (first | assumption | exact Ag_r | refine Ag_I ?_ rfl | refine Ag_F ?_ rfl | refine Ag_J ?_ rfl))) only [A192, FM hM, hdw, g4, g8, CO, HA, HB, HC, Nat.not_lt_zero, Nat.add_assoc, c_nlt, c_nle, c_neq, c_P, c_cl, c_m1, c_m1', nI_add, pk_mul, reduceIte, Nat.reduceEqDiff, Nat.reduceAdd, Nat.reduceMul, Nat.reduceLeDiff, eq_self, ↓pk_rem, pk_div, c_of, d_le, d_nle, d_lt, d_nlt, d_eq, d_ne]
    · have z3 : ¬ (B0 ≤ k ∧ k < B1) := by rw [← B0e, ← B1e]; exact bx g6 g7 z
      have w1 : wn B0 B1 (k + 1) = wn B0 B1 k := by unfold wn; omega
      rw [w1]
      simp (disch := first | omega | (repeat (first | assumption | exact Ag_r | refine Ag_I ?_ rfl | refine Ag_F ?_ rfl | refine Ag_J ?_ rfl))) only [A192, FM hM, hdw, g4, g8, z, Nat.add_zero, CO, HA, HB, HC, Nat.not_lt_zero, Nat.add_assoc, c_nlt, c_nle, c_neq, c_P, c_cl, c_m1, c_m1', nI_add, pk_mul, reduceIte, Nat.reduceEqDiff, Nat.reduceAdd, Nat.reduceMul, Nat.reduceLeDiff, eq_self, ↓pk_rem, pk_div, c_of, d_le, d_nle, d_lt, d_nlt, d_eq, d_ne]
      ) 0 (Nat.zero_le _)
  rw [show wn (bef H v a e) (bef H v a (e + 1)) 0 = 0 by unfold wn; omega] at key
  rw [key, a192_49, show wn (bef H v a e) (bef H v a (e + 1)) (min (hd H v a) k') = wn (bef H v a e) (bef H v a (e + 1)) k' by unfold wn; omega]
  by_cases z : k' < hd H v a
  · rw [show min (hd H v a) k' = k' by omega]
    simp (disch := first | omega | (repeat (first | assumption | exact Ag_r | refine Ag_I ?_ rfl | refine Ag_F ?_ rfl | refine Ag_J ?_ rfl))) only [A192, FM hM, hdw, CO, HA, HB, HC, Nat.not_lt_zero, Nat.add_assoc, c_nlt, c_nle, c_neq, c_P, c_cl, c_m1, c_m1', nI_add, pk_mul, reduceIte, Nat.reduceEqDiff, Nat.reduceAdd, Nat.reduceMul, Nat.reduceLeDiff, eq_self, ↓pk_rem, pk_div, c_of, d_le, d_nle, d_lt, d_nlt, d_eq, d_ne]
  · rw [show min (hd H v a) k' = hd H v a by omega]
    simp (disch := first | omega | (repeat (first | assumption | exact Ag_r | refine Ag_I ?_ rfl | refine Ag_F ?_ rfl | refine Ag_J ?_ rfl))) only [A192, FM hM, hdw, CO, HA, HB, HC, Nat.not_lt_zero, Nat.add_assoc, c_nlt, c_nle, c_neq, c_P, c_cl, c_m1, c_m1', nI_add, pk_mul, reduceIte, Nat.reduceEqDiff, Nat.reduceAdd, Nat.reduceMul, Nat.reduceLeDiff, eq_self, ↓pk_rem, pk_div, c_of, d_le, d_nle, d_lt, d_nlt, d_eq, d_ne]
theorem sub_ng {a b : Nat} (h : a < b) (hb : b < 2 ^ 31) : (nI 0 < nI a - nI b) = False := by
  rw [eq_iff_iff, iff_false, Int32.lt_iff_toInt_lt, nI_toInt (by omega)]
  have e : (nI a - nI b).toInt = (a : Int) - b := by
    rw [Int32.toInt_sub, nI_toInt (by omega), nI_toInt hb]
    exact Int.bmod_eq_of_le (by omega) (by omega)
  rw [e]; omega
theorem P_age (hC : FxC σ) (hM : FxM ρ) (sC : StC σ v H) (sM : StM ρ v H) (hw : Wf v H) (x y z : Int32) : ∃ r, Ev (den (d + 4, 98, 0, [.ref 0, .int x, .int y, .int z, .float 0], [], σ)) (fun a τ => a = some (.int r) ∧ Qc σ τ) ∧ Ev (den (d + 4, 192, 0, [.ref 57, .int x, .int y, .int z, .float 0, .float 0], [], ρ)) (fun a τ => a = some (.int r) ∧ Qm ρ τ) := by
  have hv1 := hw.1
  have hv8 := hw.2.1
  have vC := fun (d : Nat) x => C_isVillage (d := d) hC sC.1 hw.1 hw.2.1 x
  have hH : ∀ c, c < 224 → H c < 8 := fun c hc => Wf_8 hw hc
  by_cases hx : inr x (v - 1)
  · obtain ⟨a, ha, rfl⟩ := inr_of (by omega) hx
    have ha8 : a < 8 := by omega
    by_cases hy : inr y 27
    · obtain ⟨e, he, rfl⟩ := inr_of (by omega) hy
      have he8 : e < 28 := by omega
      have b0 := hd_le H a hv8
      have b1 := bef_mono H v a (show e + 1 ≤ 28 by omega)
      rw [bef_28] at b1
      have b2 := bef_s H a e v
      rcases tri z 224 (by omega) with hz | ⟨m, hm, rfl⟩ | ⟨m, hm, hm2, rfl⟩
      · refine ⟨-1, ?_, ?_⟩
        · simp (disch := first | omega | (repeat (first | assumption | exact Ag_r | refine Ag_I ?_ rfl | refine Ag_F ?_ rfl | refine Ag_J ?_ rfl))) only [A98, FC hC, vC, if_pos hx, C_isDay', if_pos hy, ng hz, CO, HA, HB, HC, Nat.not_lt_zero, Nat.add_assoc, c_nlt, c_nle, c_neq, c_P, c_cl, c_m1, c_m1', nI_add, pk_mul, reduceIte, Nat.reduceEqDiff, Nat.reduceAdd, Nat.reduceMul, Nat.reduceLeDiff, eq_self, ↓pk_rem, pk_div, c_of, d_le, d_nle, d_lt, d_nlt, d_eq, d_ne]
          exact Ev_s ⟨rfl, (by repeat (first | assumption | exact Ag_r | refine Ag_I ?_ rfl | refine Ag_F ?_ rfl | refine Ag_J ?_ rfl))⟩
        · simp (disch := first | omega | (repeat (first | assumption | exact Ag_r | refine Ag_I ?_ rfl | refine Ag_F ?_ rfl | refine Ag_J ?_ rfl))) only [A192, FM hM, M_isVillage' hM sM.1 hv1 hv8, if_pos hx, M_isDay, if_pos hy, M_in, l_lo, l_hi, ng hz, CO, HA, HB, HC, Nat.not_lt_zero, Nat.add_assoc, c_nlt, c_nle, c_neq, c_P, c_cl, c_m1, c_m1', nI_add, pk_mul, reduceIte, Nat.reduceEqDiff, Nat.reduceAdd, Nat.reduceMul, Nat.reduceLeDiff, eq_self, ↓pk_rem, pk_div, c_of, d_le, d_nle, d_lt, d_nlt, d_eq, d_ne]
          exact Ev_s ⟨rfl, (by repeat (first | assumption | exact Ag_r | refine Ag_I ?_ rfl | refine Ag_F ?_ rfl | refine Ag_J ?_ rfl))⟩
      · refine ⟨nI (wn (bef H v a e) (bef H v a (e + 1)) m), ?_, ?_⟩
        · simp (disch := first | omega | (repeat (first | assumption | exact Ag_r | refine Ag_I ?_ rfl | refine Ag_F ?_ rfl | refine Ag_J ?_ rfl))) only [A98, FC hC, vC, if_pos hx, C_isDay', if_pos hy, CO, HA, HB, HC, Nat.not_lt_zero, Nat.add_assoc, c_nlt, c_nle, c_neq, c_P, c_cl, c_m1, c_m1', nI_add, pk_mul, reduceIte, Nat.reduceEqDiff, Nat.reduceAdd, Nat.reduceMul, Nat.reduceLeDiff, eq_self, ↓pk_rem, pk_div, c_of, d_le, d_nle, d_lt, d_nlt, d_eq, d_ne]
          refine Ev_b (C_drawUp hC sC hw (by repeat (first | assumption | exact Ag_r | refine Ag_I ?_ rfl | refine Ag_F ?_ rfl | refine Ag_J ?_ rfl))) ?_
          rintro _ τ ⟨rfl, hq, hc⟩
          have h' := Qc_C hq hC
          by_cases z1 : m ≤ bef H v a e
          · have w1 : wn (bef H v a e) (bef H v a (e + 1)) m = 0 := by unfold wn; omega
            by_cases z2 : m = bef H v a e
            · simp (disch := first | omega | (repeat (first | assumption | exact Ag_r | refine Ag_I ?_ rfl | refine Ag_F ?_ rfl | refine Ag_J ?_ rfl))) only [A98, FC h', C_times hC hv8 ha8 he8 hq hc, C_before hC hv8 ha8 (show e ≤ 28 by omega) hq hc, z2, pk_sub, Nat.sub_self, w1, CO, HA, HB, HC, Nat.not_lt_zero, Nat.add_assoc, c_nlt, c_nle, c_neq, c_P, c_cl, c_m1, c_m1', nI_add, pk_mul, reduceIte, Nat.reduceEqDiff, Nat.reduceAdd, Nat.reduceMul, Nat.reduceLeDiff, eq_self, ↓pk_rem, pk_div, c_of, d_le, d_nle, d_lt, d_nlt, d_eq, d_ne]
              exact Ev_s ⟨by rw [z2] at w1; rw [w1], hq⟩
            · simp (disch := first | omega | (repeat (first | assumption | exact Ag_r | refine Ag_I ?_ rfl | refine Ag_F ?_ rfl | refine Ag_J ?_ rfl))) only [A98, FC h', C_times hC hv8 ha8 he8 hq hc, C_before hC hv8 ha8 (show e ≤ 28 by omega) hq hc, sub_ng, w1, CO, HA, HB, HC, Nat.not_lt_zero, Nat.add_assoc, c_nlt, c_nle, c_neq, c_P, c_cl, c_m1, c_m1', nI_add, pk_mul, reduceIte, Nat.reduceEqDiff, Nat.reduceAdd, Nat.reduceMul, Nat.reduceLeDiff, eq_self, ↓pk_rem, pk_div, c_of, d_le, d_nle, d_lt, d_nlt, d_eq, d_ne]
              exact Ev_s ⟨rfl, hq⟩
          · by_cases z2 : m < bef H v a (e + 1)
            · have w1 : wn (bef H v a e) (bef H v a (e + 1)) m = m - bef H v a e := by unfold wn; omega
              simp (disch := first | omega | (repeat (first | assumption | exact Ag_r | refine Ag_I ?_ rfl | refine Ag_F ?_ rfl | refine Ag_J ?_ rfl))) only [A98, FC h', C_times hC hv8 ha8 he8 hq hc, C_before hC hv8 ha8 (show e ≤ 28 by omega) hq hc, pk_sub, w1, CO, HA, HB, HC, Nat.not_lt_zero, Nat.add_assoc, c_nlt, c_nle, c_neq, c_P, c_cl, c_m1, c_m1', nI_add, pk_mul, reduceIte, Nat.reduceEqDiff, Nat.reduceAdd, Nat.reduceMul, Nat.reduceLeDiff, eq_self, ↓pk_rem, pk_div, c_of, d_le, d_nle, d_lt, d_nlt, d_eq, d_ne]
              exact Ev_s ⟨rfl, hq⟩
            · have w1 : wn (bef H v a e) (bef H v a (e + 1)) m = tm H v a e := by unfold wn; omega
              by_cases z3 : m = bef H v a (e + 1)
              · simp (disch := first | omega | (repeat (first | assumption | exact Ag_r | refine Ag_I ?_ rfl | refine Ag_F ?_ rfl | refine Ag_J ?_ rfl))) only [A98, FC h', C_times hC hv8 ha8 he8 hq hc, C_before hC hv8 ha8 (show e ≤ 28 by omega) hq hc, pk_sub, w1, CO, HA, HB, HC, Nat.not_lt_zero, Nat.add_assoc, c_nlt, c_nle, c_neq, c_P, c_cl, c_m1, c_m1', nI_add, pk_mul, reduceIte, Nat.reduceEqDiff, Nat.reduceAdd, Nat.reduceMul, Nat.reduceLeDiff, eq_self, ↓pk_rem, pk_div, c_of, d_le, d_nle, d_lt, d_nlt, d_eq, d_ne]
                exact Ev_s ⟨by rw [show m - bef H v a e = tm H v a e by omega], hq⟩
              · simp (disch := first | omega | (repeat (first | assumption | exact Ag_r | refine Ag_I ?_ rfl | refine Ag_F ?_ rfl | refine Ag_J ?_ rfl))) only [A98, FC h', C_times hC hv8 ha8 he8 hq hc, C_before hC hv8 ha8 (show e ≤ 28 by omega) hq hc, pk_sub, w1, CO, HA, HB, HC, Nat.not_lt_zero, Nat.add_assoc, c_nlt, c_nle, c_neq, c_P, c_cl, c_m1, c_m1', nI_add, pk_mul, reduceIte, Nat.reduceEqDiff, Nat.reduceAdd, Nat.reduceMul, Nat.reduceLeDiff, eq_self, ↓pk_rem, pk_div, c_of, d_le, d_nle, d_lt, d_nlt, d_eq, d_ne]
                exact Ev_s ⟨rfl, hq⟩
        · simp (disch := first | omega | (repeat (first | assumption | exact Ag_r | refine Ag_I ?_ rfl | refine Ag_F ?_ rfl | refine Ag_J ?_ rfl))) only [A192, FM hM, M_isVillage' hM sM.1 hv1 hv8, if_pos hx, M_isDay, if_pos hy, M_in, l_lo, l_hi, CO, HA, HB, HC, Nat.not_lt_zero, Nat.add_assoc, c_nlt, c_nle, c_neq, c_P, c_cl, c_m1, c_m1', nI_add, pk_mul, reduceIte, Nat.reduceEqDiff, Nat.reduceAdd, Nat.reduceMul, Nat.reduceLeDiff, eq_self, ↓pk_rem, pk_div, c_of, d_le, d_nle, d_lt, d_nlt, d_eq, d_ne]
          refine Ev_b (M_load hM sM hw (by repeat (first | assumption | exact Ag_r | refine Ag_I ?_ rfl | refine Ag_F ?_ rfl | refine Ag_J ?_ rfl))) ?_
          rintro _ τ ⟨rfl, hq, hl⟩
          have h' := Qm_M hq hM
          simp (disch := first | omega | (repeat (first | assumption | exact Ag_r | refine Ag_I ?_ rfl | refine Ag_F ?_ rfl | refine Ag_J ?_ rfl))) only [A192, FM h', CO, HA, HB, HC, Nat.not_lt_zero, Nat.add_assoc, c_nlt, c_nle, c_neq, c_P, c_cl, c_m1, c_m1', nI_add, pk_mul, reduceIte, Nat.reduceEqDiff, Nat.reduceAdd, Nat.reduceMul, Nat.reduceLeDiff, eq_self, ↓pk_rem, pk_div, c_of, d_le, d_nle, d_lt, d_nlt, d_eq, d_ne]
          refine Ev_b (M_findRow hM sM.1 hv8 hH ha8 hq hl.1) ?_
          rintro _ υ ⟨rfl, hq2, hl2, hdw, hdr⟩
          have h2 := Qm_M hq2 hM
          simp (disch := first | omega | (repeat (first | assumption | exact Ag_r | refine Ag_I ?_ rfl | refine Ag_F ?_ rfl | refine Ag_J ?_ rfl))) only [A192, M_ageL hv8 h2 he8 hdw hdr hm, CO, HA, HB, HC, Nat.not_lt_zero, Nat.add_assoc, c_nlt, c_nle, c_neq, c_P, c_cl, c_m1, c_m1', nI_add, pk_mul, reduceIte, Nat.reduceEqDiff, Nat.reduceAdd, Nat.reduceMul, Nat.reduceLeDiff, eq_self, ↓pk_rem, pk_div, c_of, d_le, d_nle, d_lt, d_nlt, d_eq, d_ne]
          exact Ev_s ⟨rfl, hq2⟩
      · refine ⟨-1, ?_, ?_⟩
        · simp (disch := first | omega | (repeat (first | assumption | exact Ag_r | refine Ag_I ?_ rfl | refine Ag_F ?_ rfl | refine Ag_J ?_ rfl))) only [A98, FC hC, vC, if_pos hx, C_isDay', if_pos hy, CO, HA, HB, HC, Nat.not_lt_zero, Nat.add_assoc, c_nlt, c_nle, c_neq, c_P, c_cl, c_m1, c_m1', nI_add, pk_mul, reduceIte, Nat.reduceEqDiff, Nat.reduceAdd, Nat.reduceMul, Nat.reduceLeDiff, eq_self, ↓pk_rem, pk_div, c_of, d_le, d_nle, d_lt, d_nlt, d_eq, d_ne]
          exact Ev_s ⟨rfl, (by repeat (first | assumption | exact Ag_r | refine Ag_I ?_ rfl | refine Ag_F ?_ rfl | refine Ag_J ?_ rfl))⟩
        · simp (disch := first | omega | (repeat (first | assumption | exact Ag_r | refine Ag_I ?_ rfl | refine Ag_F ?_ rfl | refine Ag_J ?_ rfl))) only [A192, FM hM, M_isVillage' hM sM.1 hv1 hv8, if_pos hx, M_isDay, if_pos hy, M_in, l_lo, l_hi, CO, HA, HB, HC, Nat.not_lt_zero, Nat.add_assoc, c_nlt, c_nle, c_neq, c_P, c_cl, c_m1, c_m1', nI_add, pk_mul, reduceIte, Nat.reduceEqDiff, Nat.reduceAdd, Nat.reduceMul, Nat.reduceLeDiff, eq_self, ↓pk_rem, pk_div, c_of, d_le, d_nle, d_lt, d_nlt, d_eq, d_ne]
          exact Ev_s ⟨rfl, (by repeat (first | assumption | exact Ag_r | refine Ag_I ?_ rfl | refine Ag_F ?_ rfl | refine Ag_J ?_ rfl))⟩
    · refine ⟨-1, ?_, ?_⟩
      · simp (disch := first | omega | (repeat (first | assumption | exact Ag_r | refine Ag_I ?_ rfl | refine Ag_F ?_ rfl | refine Ag_J ?_ rfl))) only [A98, FC hC, vC, if_pos hx, C_isDay', if_neg hy, CO, HA, HB, HC, Nat.not_lt_zero, Nat.add_assoc, c_nlt, c_nle, c_neq, c_P, c_cl, c_m1, c_m1', nI_add, pk_mul, reduceIte, Nat.reduceEqDiff, Nat.reduceAdd, Nat.reduceMul, Nat.reduceLeDiff, eq_self, ↓pk_rem, pk_div, c_of, d_le, d_nle, d_lt, d_nlt, d_eq, d_ne]
        exact Ev_s ⟨rfl, (by repeat (first | assumption | exact Ag_r | refine Ag_I ?_ rfl | refine Ag_F ?_ rfl | refine Ag_J ?_ rfl))⟩
      · simp (disch := first | omega | (repeat (first | assumption | exact Ag_r | refine Ag_I ?_ rfl | refine Ag_F ?_ rfl | refine Ag_J ?_ rfl))) only [A192, FM hM, M_isVillage' hM sM.1 hv1 hv8, if_pos hx, M_isDay, if_neg hy, CO, HA, HB, HC, Nat.not_lt_zero, Nat.add_assoc, c_nlt, c_nle, c_neq, c_P, c_cl, c_m1, c_m1', nI_add, pk_mul, reduceIte, Nat.reduceEqDiff, Nat.reduceAdd, Nat.reduceMul, Nat.reduceLeDiff, eq_self, ↓pk_rem, pk_div, c_of, d_le, d_nle, d_lt, d_nlt, d_eq, d_ne]
        exact Ev_s ⟨rfl, (by repeat (first | assumption | exact Ag_r | refine Ag_I ?_ rfl | refine Ag_F ?_ rfl | refine Ag_J ?_ rfl))⟩
  · refine ⟨-1, ?_, ?_⟩
    · simp (disch := first | omega | (repeat (first | assumption | exact Ag_r | refine Ag_I ?_ rfl | refine Ag_F ?_ rfl | refine Ag_J ?_ rfl))) only [A98, FC hC, vC, if_neg hx, CO, HA, HB, HC, Nat.not_lt_zero, Nat.add_assoc, c_nlt, c_nle, c_neq, c_P, c_cl, c_m1, c_m1', nI_add, pk_mul, reduceIte, Nat.reduceEqDiff, Nat.reduceAdd, Nat.reduceMul, Nat.reduceLeDiff, eq_self, ↓pk_rem, pk_div, c_of, d_le, d_nle, d_lt, d_nlt, d_eq, d_ne]
      exact Ev_s ⟨rfl, (by repeat (first | assumption | exact Ag_r | refine Ag_I ?_ rfl | refine Ag_F ?_ rfl | refine Ag_J ?_ rfl))⟩
    · simp (disch := first | omega | (repeat (first | assumption | exact Ag_r | refine Ag_I ?_ rfl | refine Ag_F ?_ rfl | refine Ag_J ?_ rfl))) only [A192, FM hM, M_isVillage' hM sM.1 hv1 hv8, if_neg hx, CO, HA, HB, HC, Nat.not_lt_zero, Nat.add_assoc, c_nlt, c_nle, c_neq, c_P, c_cl, c_m1, c_m1', nI_add, pk_mul, reduceIte, Nat.reduceEqDiff, Nat.reduceAdd, Nat.reduceMul, Nat.reduceLeDiff, eq_self, ↓pk_rem, pk_div, c_of, d_le, d_nle, d_lt, d_nlt, d_eq, d_ne]
      exact Ev_s ⟨rfl, (by repeat (first | assumption | exact Ag_r | refine Ag_I ?_ rfl | refine Ag_F ?_ rfl | refine Ag_J ?_ rfl))⟩
/-- gaps: the longest so far, the one that runs -/
def gp (b : Nat → Bool) : Nat → Nat × Nat
  | 0 => (0, 0)
  | n + 1 => (max (gp b n).1 (if b n = true then 0 else (gp b n).2 + 1), if b n = true then 0 else (gp b n).2 + 1)
theorem gp_le (b : Nat → Bool) : ∀ n, (gp b n).1 ≤ n ∧ (gp b n).2 ≤ n
  | 0 => ⟨Nat.le_refl _, Nat.le_refl _⟩
  | n + 1 => by have := gp_le b n; simp only [gp]; split <;> omega
theorem M_hasDay (hM : FxM ρ) (hv : hI ρ 59 0 = nI v) (hv8 : v ≤ 8) (hH : ∀ c, c < 224 → H c < 8) {a e : Nat} (ha : a < 8) (he : e < 28) {τ : Hp} (hq : Qm ρ τ) (hl : ∀ c, c < 224 → hI τ 72 c = nI (H c)) : den (d + 1, 194, 0, [.ref 57, .int (nI a), .int (nI e), .float 0, .float 0], [], τ) = some (some (.int (if 0 < tm H v a e then nI 1 else nI 0)), τ) := by
  have h' := Qm_M hq hM
  have key := lq (h := fun i => (d + 1, 194, 5, [.ref 57, .int (nI a), .int (nI e), .int (if 0 < tm H i a e then nI 1 else nI 0), .int (nI i)], [], τ)) v (by
    intro i hi
    have e3 := hl (28 * i + e) (by omega)
    have e4 := hH (28 * i + e) (by omega)
    rw [a194_5]
    by_cases z : H (28 * i + e) = a
    · have w1 : tm H (i + 1) a e = tm H i a e + 1 := cB_y (by simp [z])
      rw [w1, if_pos (show 0 < tm H i a e + 1 by omega)]
      by_cases t0 : 0 < tm H i a e
      · simp (disch := first | omega | (repeat (first | assumption | exact Ag_r | refine Ag_I ?_ rfl | refine Ag_F ?_ rfl | refine Ag_J ?_ rfl))) only [A194, FM h', M_villages' hM hq, hv, if_pos t0, CO, HA, HB, HC, Nat.not_lt_zero, Nat.add_assoc, c_nlt, c_nle, c_neq, c_P, c_cl, c_m1, c_m1', nI_add, pk_mul, reduceIte, Nat.reduceEqDiff, Nat.reduceAdd, Nat.reduceMul, Nat.reduceLeDiff, eq_self, ↓pk_rem, pk_div, c_of, d_le, d_nle, d_lt, d_nlt, d_eq, d_ne]
      · simp (disch := first | omega | (repeat (first | assumption | exact Ag_r | refine Ag_I ?_ rfl | refine Ag_F ?_ rfl | refine Ag_J ?_ rfl))) only [A194, FM h', M_villages' hM hq, hv, if_neg t0, e3, z, CO, HA, HB, HC, Nat.not_lt_zero, Nat.add_assoc, c_nlt, c_nle, c_neq, c_P, c_cl, c_m1, c_m1', nI_add, pk_mul, reduceIte, Nat.reduceEqDiff, Nat.reduceAdd, Nat.reduceMul, Nat.reduceLeDiff, eq_self, ↓pk_rem, pk_div, c_of, d_le, d_nle, d_lt, d_nlt, d_eq, d_ne]
    · have w1 : tm H (i + 1) a e = tm H i a e := cB_n (by simp [z])
      rw [w1]
      by_cases t0 : 0 < tm H i a e
      · simp (disch := first | omega | (repeat (first | assumption | exact Ag_r | refine Ag_I ?_ rfl | refine Ag_F ?_ rfl | refine Ag_J ?_ rfl))) only [A194, FM h', M_villages' hM hq, hv, if_pos t0, CO, HA, HB, HC, Nat.not_lt_zero, Nat.add_assoc, c_nlt, c_nle, c_neq, c_P, c_cl, c_m1, c_m1', nI_add, pk_mul, reduceIte, Nat.reduceEqDiff, Nat.reduceAdd, Nat.reduceMul, Nat.reduceLeDiff, eq_self, ↓pk_rem, pk_div, c_of, d_le, d_nle, d_lt, d_nlt, d_eq, d_ne]
      · simp (disch := first | omega | (repeat (first | assumption | exact Ag_r | refine Ag_I ?_ rfl | refine Ag_F ?_ rfl | refine Ag_J ?_ rfl))) only [A194, FM h', M_villages' hM hq, hv, if_neg t0, e3, z, CO, HA, HB, HC, Nat.not_lt_zero, Nat.add_assoc, c_nlt, c_nle, c_neq, c_P, c_cl, c_m1, c_m1', nI_add, pk_mul, reduceIte, Nat.reduceEqDiff, Nat.reduceAdd, Nat.reduceMul, Nat.reduceLeDiff, eq_self, ↓pk_rem, pk_div, c_of, d_le, d_nle, d_lt, d_nlt, d_eq, d_ne]
      ) 0 (Nat.zero_le _)
  rw [show tm H 0 a e = 0 from rfl, if_neg (Nat.lt_irrefl 0)] at key
  simp (disch := first | omega | (repeat (first | assumption | exact Ag_r | refine Ag_I ?_ rfl | refine Ag_F ?_ rfl | refine Ag_J ?_ rfl))) only [A194, CO, HA, HB, HC, Nat.not_lt_zero, Nat.add_assoc, c_nlt, c_nle, c_neq, c_P, c_cl, c_m1, c_m1', nI_add, pk_mul, reduceIte, Nat.reduceEqDiff, Nat.reduceAdd, Nat.reduceMul, Nat.reduceLeDiff, eq_self, ↓pk_rem, pk_div, c_of, d_le, d_nle, d_lt, d_nlt, d_eq, d_ne]
  rw [key, a194_5]
  by_cases t0 : 0 < tm H v a e
  · simp (disch := first | omega | (repeat (first | assumption | exact Ag_r | refine Ag_I ?_ rfl | refine Ag_F ?_ rfl | refine Ag_J ?_ rfl))) only [A194, FM h', M_villages' hM hq, hv, if_pos t0, CO, HA, HB, HC, Nat.not_lt_zero, Nat.add_assoc, c_nlt, c_nle, c_neq, c_P, c_cl, c_m1, c_m1', nI_add, pk_mul, reduceIte, Nat.reduceEqDiff, Nat.reduceAdd, Nat.reduceMul, Nat.reduceLeDiff, eq_self, ↓pk_rem, pk_div, c_of, d_le, d_nle, d_lt, d_nlt, d_eq, d_ne]
  · simp (disch := first | omega | (repeat (first | assumption | exact Ag_r | refine Ag_I ?_ rfl | refine Ag_F ?_ rfl | refine Ag_J ?_ rfl))) only [A194, FM h', M_villages' hM hq, hv, if_neg t0, CO, HA, HB, HC, Nat.not_lt_zero, Nat.add_assoc, c_nlt, c_nle, c_neq, c_P, c_cl, c_m1, c_m1', nI_add, pk_mul, reduceIte, Nat.reduceEqDiff, Nat.reduceAdd, Nat.reduceMul, Nat.reduceLeDiff, eq_self, ↓pk_rem, pk_div, c_of, d_le, d_nle, d_lt, d_nlt, d_eq, d_ne]
theorem P_gap (hC : FxC σ) (hM : FxM ρ) (sC : StC σ v H) (sM : StM ρ v H) (hw : Wf v H) (x : Int32) : ∃ r, Ev (den (d + 4, 100, 0, [.ref 0, .int x, .float 0, .float 0, .float 0], [], σ)) (fun a τ => a = some (.int r) ∧ Qc σ τ) ∧ Ev (den (d + 4, 195, 0, [.ref 57, .int x, .float 0, .float 0, .float 0], [], ρ)) (fun a τ => a = some (.int r) ∧ Qm ρ τ) := by
  have hv1 := hw.1
  have hv8 := hw.2.1
  have vC := fun (d : Nat) x => C_isVillage (d := d) hC sC.1 hw.1 hw.2.1 x
  have hH : ∀ c, c < 224 → H c < 8 := fun c hc => Wf_8 hw hc
  by_cases hx : inr x (v - 1)
  · obtain ⟨a, ha, rfl⟩ := inr_of (by omega) hx
    have ha8 : a < 8 := by omega
    generalize bdef : (fun e => decide (0 < tm H v a e)) = b
    refine ⟨nI (gp b 28).1, ?_, ?_⟩
    · simp (disch := first | omega | (repeat (first | assumption | exact Ag_r | refine Ag_I ?_ rfl | refine Ag_F ?_ rfl | refine Ag_J ?_ rfl))) only [A100, FC hC, vC, if_pos hx, CO, HA, HB, HC, Nat.not_lt_zero, Nat.add_assoc, c_nlt, c_nle, c_neq, c_P, c_cl, c_m1, c_m1', nI_add, pk_mul, reduceIte, Nat.reduceEqDiff, Nat.reduceAdd, Nat.reduceMul, Nat.reduceLeDiff, eq_self, ↓pk_rem, pk_div, c_of, d_le, d_nle, d_lt, d_nlt, d_eq, d_ne]
      refine Ev_b (C_drawUp hC sC hw (by repeat (first | assumption | exact Ag_r | refine Ag_I ?_ rfl | refine Ag_F ?_ rfl | refine Ag_J ?_ rfl))) ?_
      rintro _ τ ⟨rfl, hq, hc⟩
      have h' := Qc_C hq hC
      simp (disch := first | omega | (repeat (first | assumption | exact Ag_r | refine Ag_I ?_ rfl | refine Ag_F ?_ rfl | refine Ag_J ?_ rfl))) only [A100, CO, HA, HB, HC, Nat.not_lt_zero, Nat.add_assoc, c_nlt, c_nle, c_neq, c_P, c_cl, c_m1, c_m1', nI_add, pk_mul, reduceIte, Nat.reduceEqDiff, Nat.reduceAdd, Nat.reduceMul, Nat.reduceLeDiff, eq_self, ↓pk_rem, pk_div, c_of, d_le, d_nle, d_lt, d_nlt, d_eq, d_ne]
      have key := lq (h := fun i => (d + 4, 100, 28, [.ref 0, .int (nI a), .int (nI (gp b i).1), .int (nI (gp b i).2), .int (nI i)], [], τ)) 28 (by
        intro i hi
        have g := gp_le b i
        have g2 := tm_le H v a i
        rw [a100_28]
        by_cases t0 : 0 < tm H v a i
        · have bi : b i = true := by rw [← bdef]; simp [t0]
          have w1 : gp b (i + 1) = (max (gp b i).1 0, 0) := by simp only [gp, bi, reduceIte]
          rw [w1]
          by_cases z : (gp b i).1 = 0
          · simp (disch := first | omega | (repeat (first | assumption | exact Ag_r | refine Ag_I ?_ rfl | refine Ag_F ?_ rfl | refine Ag_J ?_ rfl))) only [A100, FC h', C_times hC hv8 ha8 hi hq hc, z, t0, Nat.max_self, CO, HA, HB, HC, Nat.not_lt_zero, Nat.add_assoc, c_nlt, c_nle, c_neq, c_P, c_cl, c_m1, c_m1', nI_add, pk_mul, reduceIte, Nat.reduceEqDiff, Nat.reduceAdd, Nat.reduceMul, Nat.reduceLeDiff, eq_self, ↓pk_rem, pk_div, c_of, d_le, d_nle, d_lt, d_nlt, d_eq, d_ne]
          · simp (disch := first | omega | (repeat (first | assumption | exact Ag_r | refine Ag_I ?_ rfl | refine Ag_F ?_ rfl | refine Ag_J ?_ rfl))) only [A100, FC h', C_times hC hv8 ha8 hi hq hc, z, t0, show max (gp b i).1 0 = (gp b i).1 by omega, CO, HA, HB, HC, Nat.not_lt_zero, Nat.add_assoc, c_nlt, c_nle, c_neq, c_P, c_cl, c_m1, c_m1', nI_add, pk_mul, reduceIte, Nat.reduceEqDiff, Nat.reduceAdd, Nat.reduceMul, Nat.reduceLeDiff, eq_self, ↓pk_rem, pk_div, c_of, d_le, d_nle, d_lt, d_nlt, d_eq, d_ne]
        · have bi : b i = false := by rw [← bdef]; simp [t0]
          have w1 : gp b (i + 1) = (max (gp b i).1 ((gp b i).2 + 1), (gp b i).2 + 1) := by simp [gp, bi]
          rw [w1]
          by_cases z : (gp b i).1 < (gp b i).2 + 1
          · simp (disch := first | omega | (repeat (first | assumption | exact Ag_r | refine Ag_I ?_ rfl | refine Ag_F ?_ rfl | refine Ag_J ?_ rfl))) only [A100, FC h', C_times hC hv8 ha8 hi hq hc, z, t0, show max (gp b i).1 ((gp b i).2 + 1) = (gp b i).2 + 1 by omega, CO, HA, HB, HC, Nat.not_lt_zero, Nat.add_assoc, c_nlt, c_nle, c_neq, c_P, c_cl, c_m1, c_m1', nI_add, pk_mul, reduceIte, Nat.reduceEqDiff, Nat.reduceAdd, Nat.reduceMul, Nat.reduceLeDiff, eq_self, ↓pk_rem, pk_div, c_of, d_le, d_nle, d_lt, d_nlt, d_eq, d_ne]
          · simp (disch := first | omega | (repeat (first | assumption | exact Ag_r | refine Ag_I ?_ rfl | refine Ag_F ?_ rfl | refine Ag_J ?_ rfl))) only [A100, FC h', C_times hC hv8 ha8 hi hq hc, z, t0, show max (gp b i).1 ((gp b i).2 + 1) = (gp b i).1 by omega, CO, HA, HB, HC, Nat.not_lt_zero, Nat.add_assoc, c_nlt, c_nle, c_neq, c_P, c_cl, c_m1, c_m1', nI_add, pk_mul, reduceIte, Nat.reduceEqDiff, Nat.reduceAdd, Nat.reduceMul, Nat.reduceLeDiff, eq_self, ↓pk_rem, pk_div, c_of, d_le, d_nle, d_lt, d_nlt, d_eq, d_ne]
          ) 0 (Nat.zero_le _)
      rw [show gp b 0 = (0, 0) from rfl] at key
      rw [key, a100_28]
      simp (disch := first | omega | (repeat (first | assumption | exact Ag_r | refine Ag_I ?_ rfl | refine Ag_F ?_ rfl | refine Ag_J ?_ rfl))) only [A100, CO, HA, HB, HC, Nat.not_lt_zero, Nat.add_assoc, c_nlt, c_nle, c_neq, c_P, c_cl, c_m1, c_m1', nI_add, pk_mul, reduceIte, Nat.reduceEqDiff, Nat.reduceAdd, Nat.reduceMul, Nat.reduceLeDiff, eq_self, ↓pk_rem, pk_div, c_of, d_le, d_nle, d_lt, d_nlt, d_eq, d_ne]
      exact Ev_s ⟨rfl, hq⟩
    · simp (disch := first | omega | (repeat (first | assumption | exact Ag_r | refine Ag_I ?_ rfl | refine Ag_F ?_ rfl | refine Ag_J ?_ rfl))) only [A195, FM hM, M_isVillage' hM sM.1 hv1 hv8, if_pos hx, CO, HA, HB, HC, Nat.not_lt_zero, Nat.add_assoc, c_nlt, c_nle, c_neq, c_P, c_cl, c_m1, c_m1', nI_add, pk_mul, reduceIte, Nat.reduceEqDiff, Nat.reduceAdd, Nat.reduceMul, Nat.reduceLeDiff, eq_self, ↓pk_rem, pk_div, c_of, d_le, d_nle, d_lt, d_nlt, d_eq, d_ne]
      refine Ev_b (M_load hM sM hw (by repeat (first | assumption | exact Ag_r | refine Ag_I ?_ rfl | refine Ag_F ?_ rfl | refine Ag_J ?_ rfl))) ?_
      rintro _ τ ⟨rfl, hq, hl⟩
      have h' := Qm_M hq hM
      simp (disch := first | omega | (repeat (first | assumption | exact Ag_r | refine Ag_I ?_ rfl | refine Ag_F ?_ rfl | refine Ag_J ?_ rfl))) only [A195, CO, HA, HB, HC, Nat.not_lt_zero, Nat.add_assoc, c_nlt, c_nle, c_neq, c_P, c_cl, c_m1, c_m1', nI_add, pk_mul, reduceIte, Nat.reduceEqDiff, Nat.reduceAdd, Nat.reduceMul, Nat.reduceLeDiff, eq_self, ↓pk_rem, pk_div, c_of, d_le, d_nle, d_lt, d_nlt, d_eq, d_ne]
      have key := lq (h := fun i => (d + 4, 195, 26, [.ref 57, .int (nI a), .int (nI (gp b i).1), .int (nI (gp b i).2), .int (nI i)], [], τ)) 28 (by
        intro i hi
        have g := gp_le b i
        rw [a195_26]
        by_cases t0 : 0 < tm H v a i
        · have bi : b i = true := by rw [← bdef]; simp [t0]
          have w1 : gp b (i + 1) = (max (gp b i).1 0, 0) := by simp only [gp, bi, reduceIte]
          rw [w1]
          simp (disch := first | omega | (repeat (first | assumption | exact Ag_r | refine Ag_I ?_ rfl | refine Ag_F ?_ rfl | refine Ag_J ?_ rfl))) only [A195, FM h', M_hasDay hM sM.1 hv8 hH ha8 hi hq hl.1, if_pos t0, show max (gp b i).1 0 = (gp b i).1 by omega, CO, HA, HB, HC, Nat.not_lt_zero, Nat.add_assoc, c_nlt, c_nle, c_neq, c_P, c_cl, c_m1, c_m1', nI_add, pk_mul, reduceIte, Nat.reduceEqDiff, Nat.reduceAdd, Nat.reduceMul, Nat.reduceLeDiff, eq_self, ↓pk_rem, pk_div, c_of, d_le, d_nle, d_lt, d_nlt, d_eq, d_ne]
        · have bi : b i = false := by rw [← bdef]; simp [t0]
          have w1 : gp b (i + 1) = (max (gp b i).1 ((gp b i).2 + 1), (gp b i).2 + 1) := by simp [gp, bi]
          rw [w1]
          by_cases z : (gp b i).1 < (gp b i).2 + 1
          · simp (disch := first | omega | (repeat (first | assumption | exact Ag_r | refine Ag_I ?_ rfl | refine Ag_F ?_ rfl | refine Ag_J ?_ rfl))) only [A195, FM h', M_hasDay hM sM.1 hv8 hH ha8 hi hq hl.1, if_neg t0, z, show max (gp b i).1 ((gp b i).2 + 1) = (gp b i).2 + 1 by omega, CO, HA, HB, HC, Nat.not_lt_zero, Nat.add_assoc, c_nlt, c_nle, c_neq, c_P, c_cl, c_m1, c_m1', nI_add, pk_mul, reduceIte, Nat.reduceEqDiff, Nat.reduceAdd, Nat.reduceMul, Nat.reduceLeDiff, eq_self, ↓pk_rem, pk_div, c_of, d_le, d_nle, d_lt, d_nlt, d_eq, d_ne]
          · simp (disch := first | omega | (repeat (first | assumption | exact Ag_r | refine Ag_I ?_ rfl | refine Ag_F ?_ rfl | refine Ag_J ?_ rfl))) only [A195, FM h', M_hasDay hM sM.1 hv8 hH ha8 hi hq hl.1, if_neg t0, z, show max (gp b i).1 ((gp b i).2 + 1) = (gp b i).1 by omega, CO, HA, HB, HC, Nat.not_lt_zero, Nat.add_assoc, c_nlt, c_nle, c_neq, c_P, c_cl, c_m1, c_m1', nI_add, pk_mul, reduceIte, Nat.reduceEqDiff, Nat.reduceAdd, Nat.reduceMul, Nat.reduceLeDiff, eq_self, ↓pk_rem, pk_div, c_of, d_le, d_nle, d_lt, d_nlt, d_eq, d_ne]
          ) 0 (Nat.zero_le _)
      rw [show gp b 0 = (0, 0) from rfl] at key
      rw [key, a195_26]
      simp (disch := first | omega | (repeat (first | assumption | exact Ag_r | refine Ag_I ?_ rfl | refine Ag_F ?_ rfl | refine Ag_J ?_ rfl))) only [A195, CO, HA, HB, HC, Nat.not_lt_zero, Nat.add_assoc, c_nlt, c_nle, c_neq, c_P, c_cl, c_m1, c_m1', nI_add, pk_mul, reduceIte, Nat.reduceEqDiff, Nat.reduceAdd, Nat.reduceMul, Nat.reduceLeDiff, eq_self, ↓pk_rem, pk_div, c_of, d_le, d_nle, d_lt, d_nlt, d_eq, d_ne]
      exact Ev_s ⟨rfl, hq⟩
  · refine ⟨-1, ?_, ?_⟩
    · simp (disch := first | omega | (repeat (first | assumption | exact Ag_r | refine Ag_I ?_ rfl | refine Ag_F ?_ rfl | refine Ag_J ?_ rfl))) only [A100, FC hC, vC, if_neg hx, CO, HA, HB, HC, Nat.not_lt_zero, Nat.add_assoc, c_nlt, c_nle, c_neq, c_P, c_cl, c_m1, c_m1', nI_add, pk_mul, reduceIte, Nat.reduceEqDiff, Nat.reduceAdd, Nat.reduceMul, Nat.reduceLeDiff, eq_self, ↓pk_rem, pk_div, c_of, d_le, d_nle, d_lt, d_nlt, d_eq, d_ne]
      exact Ev_s ⟨rfl, (by repeat (first | assumption | exact Ag_r | refine Ag_I ?_ rfl | refine Ag_F ?_ rfl | refine Ag_J ?_ rfl))⟩
    · simp (disch := first | omega | (repeat (first | assumption | exact Ag_r | refine Ag_I ?_ rfl | refine Ag_F ?_ rfl | refine Ag_J ?_ rfl))) only [A195, FM hM, M_isVillage' hM sM.1 hv1 hv8, if_neg hx, CO, HA, HB, HC, Nat.not_lt_zero, Nat.add_assoc, c_nlt, c_nle, c_neq, c_P, c_cl, c_m1, c_m1', nI_add, pk_mul, reduceIte, Nat.reduceEqDiff, Nat.reduceAdd, Nat.reduceMul, Nat.reduceLeDiff, eq_self, ↓pk_rem, pk_div, c_of, d_le, d_nle, d_lt, d_nlt, d_eq, d_ne]
      exact Ev_s ⟨rfl, (by repeat (first | assumption | exact Ag_r | refine Ag_I ?_ rfl | refine Ag_F ?_ rfl | refine Ag_J ?_ rfl))⟩
end
