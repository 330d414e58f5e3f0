/-! terms, home, lend, undo, year -/
def reH (H : Nat → Nat) (y : Nat) : Nat → Nat := fun c => if y ≤ c / 28 ∨ y ≤ H c then c / 28 else H c
theorem reH_W {H : Nat → Nat} {y : Nat} (h1 : 1 ≤ y) (h8 : y ≤ 8) : Wf y (reH H y) := by
  refine ⟨h1, h8, fun c hc => ?_, fun c hc hc2 => ?_⟩
  · unfold reH; split <;> omega
  · unfold reH; rw [if_pos (Or.inl (by omega))]
section
variable {σ : Hp} {R : AllT}
theorem K_terms (hC : RC σ R) (hM : RM σ R) (hW : RW R) (x y : Int32) : Pr (fun σ => (499, 83, 0, [.ref 0, .int x, .int y, .float 0], [], σ)) (fun σ => (499, 142, 0, [.ref 57, .int x, .int y, .float 0, .float 0, .float 0, .float 0], [], σ)) σ (fun υ => ∃ R', Ok σ υ R') := by
  obtain ⟨d, hd⟩ : ∃ d, 499 = d + 8 := ⟨491, rfl⟩
  rw [hd]
  clear hd
  refine Pmut hC hM hW (fun ρ hρ => ?_)
  obtain ⟨⟨v, H, fp, nl, fc, rn, ⟨nd, dv, dd, de⟩, ⟨nu, uc, uh⟩, lw⟩, im, ⟨tl, tp⟩, ⟨st, fg, ft⟩, rf, ⟨yv, yK⟩⟩ := R
  obtain ⟨f1, s1, im1, ⟨t1, t2⟩, ⟨u1, u2, u3⟩, r1, y1⟩ := id hC
  obtain ⟨⟨a1, a2⟩, ⟨a3, a4, a5⟩, a6, ⟨a7, a8⟩, ⟨tq, b1, b2, b3, b4⟩, a9⟩ := S1_SC.mpr s1
  obtain ⟨F1, S1', IM1, ⟨T1, T2⟩, ⟨U1, U2, U3⟩, R1, Y1⟩ := id hρ
  obtain ⟨⟨A1, A2⟩, ⟨A3, A4, A5⟩, A6, ⟨A7, A8⟩, ⟨B3, B4⟩, A9⟩ := M1_SM.mpr S1'
  obtain ⟨⟨w1, w2, ⟨w3, w4⟩, w5, w6, w7⟩, w8, ⟨w9, w10⟩, w11⟩ := id hW
  have h00 : FxM (sF ρ 57 0 (.int (nI 0))) := FxM_sF F1 (Or.inr (by decide))
  have hv1 := w1.1
  have hv8 := w1.2.1
  rcases tri x 1 (by omega) with hx | ⟨k, hk, rfl⟩ | ⟨k, hk, hk2, rfl⟩
  · refine Prg 0 1 (-1) (by omega) rfl hC hρ hW ?_ ?_
    · simp (disch := first | omega | (repeat (first | assumption | exact Ag_r | refine Ag_I ?_ rfl | refine Ag_F ?_ rfl | refine Ag_J ?_ rfl))) only [A83, FC f1, ng hx, C_refuse1 f1, CO, HA, HB, HC, Nat.not_lt_zero, Nat.add_assoc, c_nlt, c_nle, c_neq, c_P, c_cl, c_m1, c_m1', nI_add, pk_mul, reduceIte, Nat.reduceEqDiff, Nat.reduceAdd, Nat.reduceMul, Nat.reduceLeDiff, eq_self, ↓pk_rem, pk_div, c_of, d_le, d_nle, d_lt, d_nlt, d_eq, d_ne]
      exact Ev_s ⟨rfl, RfC_i⟩
    · simp (disch := first | omega | (repeat (first | assumption | exact Ag_r | refine Ag_I ?_ rfl | refine Ag_F ?_ rfl | refine Ag_J ?_ rfl))) only [A142, FM F1, ng hx, M_tell1 h00, CO, HA, HB, HC, Nat.not_lt_zero, Nat.add_assoc, c_nlt, c_nle, c_neq, c_P, c_cl, c_m1, c_m1', nI_add, pk_mul, reduceIte, Nat.reduceEqDiff, Nat.reduceAdd, Nat.reduceMul, Nat.reduceLeDiff, eq_self, ↓pk_rem, pk_div, c_of, d_le, d_nle, d_lt, d_nlt, d_eq, d_ne]
      exact Ev_s ⟨rfl, RfM_i⟩
  · obtain rfl | rfl : k = 0 ∨ k = 1 := by omega
    · rcases tri y 8 (by omega) with hy | ⟨m, hm, rfl⟩ | ⟨m, hm, hm2, rfl⟩
      · refine Prg 0 1 (-1) (by omega) rfl hC hρ hW ?_ ?_
        · simp (disch := first | omega | (repeat (first | assumption | exact Ag_r | refine Ag_I ?_ rfl | refine Ag_F ?_ rfl | refine Ag_J ?_ rfl))) only [A83, FC f1, ng hy, C_refuse1 f1, CO, HA, HB, HC, Nat.not_lt_zero, Nat.add_assoc, c_nlt, c_nle, c_neq, c_P, c_cl, c_m1, c_m1', nI_add, pk_mul, reduceIte, Nat.reduceEqDiff, Nat.reduceAdd, Nat.reduceMul, Nat.reduceLeDiff, eq_self, ↓pk_rem, pk_div, c_of, d_le, d_nle, d_lt, d_nlt, d_eq, d_ne]
          exact Ev_s ⟨rfl, RfC_i⟩
        · simp (disch := first | omega | (repeat (first | assumption | exact Ag_r | refine Ag_I ?_ rfl | refine Ag_F ?_ rfl | refine Ag_J ?_ rfl))) only [A142, FM F1, M_in, l_lo, l_hi, ng hy, M_tell1 h00, CO, HA, HB, HC, Nat.not_lt_zero, Nat.add_assoc, c_nlt, c_nle, c_neq, c_P, c_cl, c_m1, c_m1', nI_add, pk_mul, reduceIte, Nat.reduceEqDiff, Nat.reduceAdd, Nat.reduceMul, Nat.reduceLeDiff, eq_self, ↓pk_rem, pk_div, c_of, d_le, d_nle, d_lt, d_nlt, d_eq, d_ne]
          exact Ev_s ⟨rfl, RfM_i⟩
      · by_cases m0 : m = 0
        · subst m0
          refine Prg 0 1 (-1) (by omega) rfl hC hρ hW ?_ ?_
          · simp (disch := first | omega | (repeat (first | assumption | exact Ag_r | refine Ag_I ?_ rfl | refine Ag_F ?_ rfl | refine Ag_J ?_ rfl))) only [A83, FC f1, C_refuse1 f1, CO, HA, HB, HC, Nat.not_lt_zero, Nat.add_assoc, c_nlt, c_nle, c_neq, c_P, c_cl, c_m1, c_m1', nI_add, pk_mul, reduceIte, Nat.reduceEqDiff, Nat.reduceAdd, Nat.reduceMul, Nat.reduceLeDiff, eq_self, ↓pk_rem, pk_div, c_of, d_le, d_nle, d_lt, d_nlt, d_eq, d_ne]
            exact Ev_s ⟨rfl, RfC_i⟩
          · simp (disch := first | omega | (repeat (first | assumption | exact Ag_r | refine Ag_I ?_ rfl | refine Ag_F ?_ rfl | refine Ag_J ?_ rfl))) only [A142, FM F1, M_in, l_lo, l_hi, M_tell1 h00, CO, HA, HB, HC, Nat.not_lt_zero, Nat.add_assoc, c_nlt, c_nle, c_neq, c_P, c_cl, c_m1, c_m1', nI_add, pk_mul, reduceIte, Nat.reduceEqDiff, Nat.reduceAdd, Nat.reduceMul, Nat.reduceLeDiff, eq_self, ↓pk_rem, pk_div, c_of, d_le, d_nle, d_lt, d_nlt, d_eq, d_ne]
            exact Ev_s ⟨rfl, RfM_i⟩
        · have m1 : 1 ≤ m := by omega
          refine ⟨nI v, ((m, reH H m, fp, nl, fc, rn, (0, dv, dd, de), (0, uc, uh), lw), im, (tl, tp), (nI 0, fg, ft), rf, (yv, yK)), ⟨⟨reH_W m1 hm, w2, ⟨w3, w4⟩, w5, ⟨by omega, fun i hi => absurd hi (Nat.not_lt_zero i)⟩, ⟨by omega, fun i hi => absurd hi (Nat.not_lt_zero i)⟩⟩, w8, ⟨w9, w10⟩, w11⟩, ?_, ?_⟩
          · simp (disch := first | omega | (repeat (first | assumption | exact Ag_r | refine Ag_I ?_ rfl | refine Ag_F ?_ rfl | refine Ag_J ?_ rfl))) only [A83, A72, FC f1, a1, CO, HA, HB, HC, Nat.not_lt_zero, Nat.add_assoc, c_nlt, c_nle, c_neq, c_P, c_cl, c_m1, c_m1', nI_add, pk_mul, reduceIte, Nat.reduceEqDiff, Nat.reduceAdd, Nat.reduceMul, Nat.reduceLeDiff, eq_self, ↓pk_rem, pk_div, c_of, d_le, d_nle, d_lt, d_nlt, d_eq, d_ne]
            refine Ev_b (Q' := fun a υ => ∃ f, a = none ∧ υ = sF (sF (sF (sI σ 2 f) 1 0 (.int (nI m))) 5 3 (.int (nI 0))) 8 3 (.int (nI 0)) ∧ ∀ c, c < 224 → f c = nI (reH H m c)) ?_ ?_
            · refine lp (α := (Nat → Int32) × Value) (h := fun i x => (d + 7, 72, 2, [.ref 1, .int (nI m), .int (nI i), x.2], [], sI σ 2 x.1)) (I := fun i x => ∀ c, c < 224 → x.1 c = nI (if c < i then reH H m c else H c)) 224 ?_ ?_ 0 (hI σ 2, .float 0) (Nat.zero_le _) (fun c hc => by rw [if_neg (Nat.not_lt_zero c)]; exact a2 c hc) |> fun kk => Ev_e (show den (d + 7, 72, 2, [.ref 1, .int (nI m), .int (nI 0), .float 0], [], σ) = den (d + 7, 72, 2, [.ref 1, .int (nI m), .int (nI 0), .float 0], [], sI σ 2 (hI σ 2)) by rw [sI_self]) kk
              · intro i ⟨f, l⟩ hi hf nx
                dsimp only at hf
                have e1 := hf i hi
                rw [if_neg (Nat.lt_irrefl i)] at e1
                have H8 := Wf_8 w1 hi
                show Ev (den (d + 7, 72, 2, [.ref 1, .int (nI m), .int (nI i), l], [], sI σ 2 f)) _
                rw [a72_2]
                by_cases q : m ≤ i / 28 ∨ m ≤ H i
                · have nn := nx (upd f i (nI (i / 28)), .int (nI (i / 28))) (fun c hc => by
                    show upd f i _ c = _
                    rw [ua]
                    by_cases p : c = i
                    · rw [if_pos p, p, if_pos (Nat.lt_succ_self i)]; unfold reH; rw [if_pos q]
                    · rw [if_neg p, hf c hc]
                      by_cases p2 : c < i
                      · rw [if_pos p2, if_pos (by omega)]
                      · rw [if_neg p2, if_neg (by omega)])
                  refine Ev_e ?_ nn
                  by_cases q1 : m ≤ i / 28
                  · simp (disch := first | omega | (repeat (first | assumption | exact Ag_r | refine Ag_I ?_ rfl | refine Ag_F ?_ rfl | refine Ag_J ?_ rfl))) only [A72, FC f1, e1, q1, CO, HA, HB, HC, Nat.not_lt_zero, Nat.add_assoc, c_nlt, c_nle, c_neq, c_P, c_cl, c_m1, c_m1', nI_add, pk_mul, reduceIte, Nat.reduceEqDiff, Nat.reduceAdd, Nat.reduceMul, Nat.reduceLeDiff, eq_self, ↓pk_rem, pk_div, c_of, d_le, d_nle, d_lt, d_nlt, d_eq, d_ne]
                  · have q2 : m ≤ H i := q.resolve_left q1
                    simp (disch := first | omega | (repeat (first | assumption | exact Ag_r | refine Ag_I ?_ rfl | refine Ag_F ?_ rfl | refine Ag_J ?_ rfl))) only [A72, FC f1, e1, q1, q2, CO, HA, HB, HC, Nat.not_lt_zero, Nat.add_assoc, c_nlt, c_nle, c_neq, c_P, c_cl, c_m1, c_m1', nI_add, pk_mul, reduceIte, Nat.reduceEqDiff, Nat.reduceAdd, Nat.reduceMul, Nat.reduceLeDiff, eq_self, ↓pk_rem, pk_div, c_of, d_le, d_nle, d_lt, d_nlt, d_eq, d_ne]
                · have nn := nx (f, .int (nI (i / 28))) (fun c hc => by
                    show f c = _
                    rw [hf c hc]
                    by_cases p : c = i
                    · rw [p, if_neg (Nat.lt_irrefl i), if_pos (Nat.lt_succ_self i)]; unfold reH; rw [if_neg q]
                    · by_cases p2 : c < i
                      · rw [if_pos p2, if_pos (by omega)]
                      · rw [if_neg p2, if_neg (by omega)])
                  refine Ev_e ?_ nn
                  have q1 : ¬ m ≤ i / 28 := fun z => q (Or.inl z)
                  have q2 : ¬ m ≤ H i := fun z => q (Or.inr z)
                  simp (disch := first | omega | (repeat (first | assumption | exact Ag_r | refine Ag_I ?_ rfl | refine Ag_F ?_ rfl | refine Ag_J ?_ rfl))) only [A72, FC f1, e1, q1, q2, CO, HA, HB, HC, Nat.not_lt_zero, Nat.add_assoc, c_nlt, c_nle, c_neq, c_P, c_cl, c_m1, c_m1', nI_add, pk_mul, reduceIte, Nat.reduceEqDiff, Nat.reduceAdd, Nat.reduceMul, Nat.reduceLeDiff, eq_self, ↓pk_rem, pk_div, c_of, d_le, d_nle, d_lt, d_nlt, d_eq, d_ne]
              · intro ⟨f, l⟩ hf
                dsimp only at hf
                show Ev (den (d + 7, 72, 2, [.ref 1, .int (nI m), .int (nI 224), l], [], sI σ 2 f)) _
                rw [a72_2]
                simp (disch := first | omega | (repeat (first | assumption | exact Ag_r | refine Ag_I ?_ rfl | refine Ag_F ?_ rfl | refine Ag_J ?_ rfl))) only [A72, FC f1, CO, HA, HB, HC, Nat.not_lt_zero, Nat.add_assoc, c_nlt, c_nle, c_neq, c_P, c_cl, c_m1, c_m1', nI_add, pk_mul, reduceIte, Nat.reduceEqDiff, Nat.reduceAdd, Nat.reduceMul, Nat.reduceLeDiff, eq_self, ↓pk_rem, pk_div, c_of, d_le, d_nle, d_lt, d_nlt, d_eq, d_ne]
                exact Ev_s ⟨f, rfl, rfl, fun c hc => by rw [hf c hc, if_pos hc]⟩
            · rintro _ υ ⟨f, rfl, rfl, hf⟩
              have g0 : Qb σ (sF (sF (sF (sI σ 2 f) 1 0 (.int (nI m))) 5 3 (.int (nI 0))) 8 3 (.int (nI 0))) := Ag_F (Ag_F (Ag_F (Ag_I Ag_r rfl) rfl) rfl) rfl
              have h3 := Qb_C g0 f1
              simp (disch := first | omega | (repeat (first | assumption | exact Ag_r | refine Ag_I ?_ rfl | refine Ag_F ?_ rfl | refine Ag_J ?_ rfl))) only [A83, FC h3, C_accept h3, CO, HA, HB, HC, Nat.not_lt_zero, Nat.add_assoc, c_nlt, c_nle, c_neq, c_P, c_cl, c_m1, c_m1', nI_add, pk_mul, reduceIte, Nat.reduceEqDiff, Nat.reduceAdd, Nat.reduceMul, Nat.reduceLeDiff, eq_self, ↓pk_rem, pk_div, c_of, d_le, d_nle, d_lt, d_nlt, d_eq, d_ne]
              have g : Qb σ (sF (sF (sF (sF (sI σ 2 f) 1 0 (.int (nI m))) 5 3 (.int (nI 0))) 8 3 (.int (nI 0))) 0 11 (.int (nI 0))) := Ag_F g0 rfl
              exact Ev_s ⟨rfl, RC_b g hC ⟨⟨by simp only [HA, Nat.reduceEqDiff, false_and, and_self, reduceIte], fun c hc => by simp only [HA, reduceIte]; exact hf c hc⟩, ⟨(by first | (simp only [HA, Nat.reduceEqDiff, false_and, and_false, and_self, reduceIte]; assumption) | assumption), (by first | (simp only [HA, Nat.reduceEqDiff, false_and, and_false, and_self, reduceIte]; assumption) | assumption), (by first | (simp only [HA, Nat.reduceEqDiff, false_and, and_false, and_self, reduceIte]; assumption) | assumption)⟩, (by first | (simp only [HA, Nat.reduceEqDiff, false_and, and_false, and_self, reduceIte]; assumption) | assumption), ⟨by simp only [HA, Nat.reduceEqDiff, false_and, and_self, reduceIte], fun i hi => absurd hi (Nat.not_lt_zero i)⟩, ⟨tq, b1, (by first | (simp only [HA, Nat.reduceEqDiff, false_and, and_false, and_self, reduceIte]; assumption) | assumption), by simp only [HA, Nat.reduceEqDiff, false_and, and_self, reduceIte], fun i hi => absurd hi (Nat.not_lt_zero i)⟩, fun i hi => LaC_b g (a9 i hi)⟩ ⟨(by first | (simp only [HA, Nat.reduceEqDiff, false_and, and_false, and_self, reduceIte]; assumption) | assumption), (by first | (simp only [HA, Nat.reduceEqDiff, false_and, and_false, and_self, reduceIte]; assumption) | assumption)⟩ ⟨by simp only [HA, and_self, reduceIte], (by first | (simp only [HA, Nat.reduceEqDiff, false_and, and_false, and_self, reduceIte]; assumption) | assumption), (by first | (simp only [HA, Nat.reduceEqDiff, false_and, and_false, and_self, reduceIte]; assumption) | assumption)⟩ (by first | (simp only [HA, Nat.reduceEqDiff, false_and, and_false, and_self, reduceIte]; assumption) | assumption), SaM_b g, Rm_2 (Rm_a g)⟩
          · simp (disch := first | omega | (repeat (first | assumption | exact Ag_r | refine Ag_I ?_ rfl | refine Ag_F ?_ rfl | refine Ag_J ?_ rfl))) only [A142, FM F1, M_in, l_lo, l_hi, A1, CO, HA, HB, HC, Nat.not_lt_zero, Nat.add_assoc, c_nlt, c_nle, c_neq, c_P, c_cl, c_m1, c_m1', nI_add, pk_mul, reduceIte, Nat.reduceEqDiff, Nat.reduceAdd, Nat.reduceMul, Nat.reduceLeDiff, eq_self, ↓pk_rem, pk_div, c_of, d_le, d_nle, d_lt, d_nlt, d_eq, d_ne]
            refine lp (α := (Nat → Int32) × Value) (h := fun i x => (d + 8, 142, 76, [.ref 57, .int (nI 0), .int (nI m), .int (nI 1), .int (nI v), .int (nI i), x.2], [], sF (sI ρ 59 x.1) 57 0 (.int (nI 0)))) (I := fun i x => (∀ c, c < 224 → x.1 (34 + c) = nI (if c < i then reH H m c else H c)) ∧ x.1 0 = nI m ∧ ∀ z, ¬ (z = 0 ∨ (34 ≤ z ∧ z < 258)) → x.1 z = hI ρ 59 z) 224 ?_ ?_ 0 (upd (hI ρ 59) 0 (nI m), .float 0) (Nat.zero_le _) ⟨fun c hc => by show upd _ 0 _ _ = _; rw [ua, if_neg (by omega), if_neg (Nat.not_lt_zero c)]; exact A2 c hc, by show upd (hI ρ 59) 0 (nI m) 0 = _; rw [ua, if_pos rfl], fun z hz => by show upd _ 0 _ _ = _; rw [ua, if_neg (by omega)]⟩
            · intro i ⟨f, l⟩ hi ⟨hf, hf0, hfz⟩ nx
              dsimp only at hf hf0 hfz
              have e1 := hf i hi
              rw [if_neg (Nat.lt_irrefl i)] at e1
              have H8 := Wf_8 w1 hi
              have nn := fun (b : Int32) => nx (upd f (34 + i) (nI (reH H m i)), .int b) ⟨fun c hc => by
                show upd f _ _ _ = _
                rw [ua]
                by_cases p : c = i
                · rw [if_pos (by omega), p, if_pos (Nat.lt_succ_self i)]
                · rw [if_neg (by omega), hf c hc]
                  by_cases p2 : c < i
                  · rw [if_pos p2, if_pos (by omega)]
                  · rw [if_neg p2, if_neg (by omega)], by show upd f _ _ _ = _; rw [ua, if_neg (by omega)]; exact hf0, fun z hz => by show upd f _ _ _ = _; rw [ua, if_neg (by omega)]; exact hfz z hz⟩
              show Ev (den (d + 8, 142, 76, [.ref 57, .int (nI 0), .int (nI m), .int (nI 1), .int (nI v), .int (nI i), l], [], sF (sI ρ 59 f) 57 0 (.int (nI 0)))) _
              rw [a142_76]
              by_cases q0 : v ≤ i / 28
              · have rh : reH H m i = i / 28 := by unfold reH; rw [w1.2.2.2 i (by omega) hi, ite_self]
                rw [rh] at nn
                refine Ev_e ?_ (nn (nI 1))
                simp (disch := first | omega | (repeat (first | assumption | exact Ag_r | refine Ag_I ?_ rfl | refine Ag_F ?_ rfl | refine Ag_J ?_ rfl))) only [A142, FM F1, e1, q0, CO, HA, HB, HC, Nat.not_lt_zero, Nat.add_assoc, c_nlt, c_nle, c_neq, c_P, c_cl, c_m1, c_m1', nI_add, pk_mul, reduceIte, Nat.reduceEqDiff, Nat.reduceAdd, Nat.reduceMul, Nat.reduceLeDiff, eq_self, ↓pk_rem, pk_div, c_of, d_le, d_nle, d_lt, d_nlt, d_eq, d_ne]
              · by_cases q1 : m ≤ i / 28
                · have rh : reH H m i = i / 28 := by unfold reH; rw [if_pos (Or.inl q1)]
                  rw [rh] at nn
                  refine Ev_e ?_ (nn (nI 1))
                  simp (disch := first | omega | (repeat (first | assumption | exact Ag_r | refine Ag_I ?_ rfl | refine Ag_F ?_ rfl | refine Ag_J ?_ rfl))) only [A142, FM F1, e1, q0, q1, CO, HA, HB, HC, Nat.not_lt_zero, Nat.add_assoc, c_nlt, c_nle, c_neq, c_P, c_cl, c_m1, c_m1', nI_add, pk_mul, reduceIte, Nat.reduceEqDiff, Nat.reduceAdd, Nat.reduceMul, Nat.reduceLeDiff, eq_self, ↓pk_rem, pk_div, c_of, d_le, d_nle, d_lt, d_nlt, d_eq, d_ne]
                · by_cases q2 : m ≤ H i
                  · have rh : reH H m i = i / 28 := by unfold reH; rw [if_pos (Or.inr q2)]
                    rw [rh] at nn
                    refine Ev_e ?_ (nn (nI 1))
                    simp (disch := first | omega | (repeat (first | assumption | exact Ag_r | refine Ag_I ?_ rfl | refine Ag_F ?_ rfl | refine Ag_J ?_ rfl))) only [A142, FM F1, e1, q0, q1, q2, CO, HA, HB, HC, Nat.not_lt_zero, Nat.add_assoc, c_nlt, c_nle, c_neq, c_P, c_cl, c_m1, c_m1', nI_add, pk_mul, reduceIte, Nat.reduceEqDiff, Nat.reduceAdd, Nat.reduceMul, Nat.reduceLeDiff, eq_self, ↓pk_rem, pk_div, c_of, d_le, d_nle, d_lt, d_nlt, d_eq, d_ne]
                  · have rh : reH H m i = H i := by unfold reH; rw [if_neg (by omega)]
                    rw [rh] at nn
                    refine Ev_e ?_ (nn (nI 0))
                    simp (disch := first | omega | (repeat (first | assumption | exact Ag_r | refine Ag_I ?_ rfl | refine Ag_F ?_ rfl | refine Ag_J ?_ rfl))) only [A142, FM F1, e1, q0, q1, q2, CO, HA, HB, HC, Nat.not_lt_zero, Nat.add_assoc, c_nlt, c_nle, c_neq, c_P, c_cl, c_m1, c_m1', nI_add, pk_mul, reduceIte, Nat.reduceEqDiff, Nat.reduceAdd, Nat.reduceMul, Nat.reduceLeDiff, eq_self, ↓pk_rem, pk_div, c_of, d_le, d_nle, d_lt, d_nlt, d_eq, d_ne]
            · intro ⟨f, l⟩ ⟨hf, hf0, hfz⟩
              dsimp only at hf hf0 hfz
              show Ev (den (d + 8, 142, 76, [.ref 57, .int (nI 0), .int (nI m), .int (nI 1), .int (nI v), .int (nI 224), l], [], sF (sI ρ 59 f) 57 0 (.int (nI 0)))) _
              rw [a142_76]
              have h2 : FxM (sF (sI ρ 59 (upd (upd f 4 (nI 0)) 5 (nI 0))) 57 0 (.int (nI 0))) := FxM_a (P := Pn) (F := Fn) (Ag_F (Ag_I Ag_r rfl) rfl) (by decide) F1
              simp (disch := first | omega | (repeat (first | assumption | exact Ag_r | refine Ag_I ?_ rfl | refine Ag_F ?_ rfl | refine Ag_J ?_ rfl))) only [A142, FM F1, M_was h2, CO, HA, HB, HC, Nat.not_lt_zero, Nat.add_assoc, c_nlt, c_nle, c_neq, c_P, c_cl, c_m1, c_m1', nI_add, pk_mul, reduceIte, Nat.reduceEqDiff, Nat.reduceAdd, Nat.reduceMul, Nat.reduceLeDiff, eq_self, ↓pk_rem, pk_div, c_of, d_le, d_nle, d_lt, d_nlt, d_eq, d_ne]
              have g : Qn ρ (sF (sF (sI ρ 59 (upd (upd f 4 (nI 0)) 5 (nI 0))) 57 0 (.int (nI 0))) 57 1 (.int (nI 0))) := Ag_F (Ag_F (Ag_I Ag_r rfl) rfl) rfl
              have ag : ∀ z, ¬ (z = 0 ∨ z = 4 ∨ z = 5 ∨ (34 ≤ z ∧ z < 258)) → hI (sF (sF (sI ρ 59 (upd (upd f 4 (nI 0)) 5 (nI 0))) 57 0 (.int (nI 0))) 57 1 (.int (nI 0))) 59 z = hI ρ 59 z := fun z hz => by
                simp only [HA, reduceIte, ua]
                rw [if_neg (by omega), if_neg (by omega)]; exact hfz z (by omega)
              exact Ev_s ⟨rfl, RM_n g hρ ⟨⟨by simp only [HA, reduceIte, ua]; rw [if_neg (by omega), if_neg (by omega)]; exact hf0, fun c hc => by simp only [HA, reduceIte, ua]; rw [if_neg (by omega), if_neg (by omega), hf c hc, if_pos hc]⟩, tP (fun y hy => ag y (by omega)) ⟨A3, A4, A5⟩, tR (fun y hy => ag y (by omega)) A6, ⟨by simp only [HA, reduceIte, ua]; rw [if_neg (by omega)], fun i hi => absurd hi (Nat.not_lt_zero i)⟩, ⟨by simp only [HA, reduceIte, ua], fun i hi => absurd hi (Nat.not_lt_zero i)⟩, tL (fun y hy => ag y (by omega)) A9⟩ ⟨(by first | (simp only [HA, Nat.reduceEqDiff, false_and, and_false, and_self, reduceIte]; assumption) | assumption), (by first | (simp only [HA, Nat.reduceEqDiff, false_and, and_false, and_self, reduceIte]; assumption) | assumption)⟩ ⟨by simp only [HA, and_self, reduceIte], (by first | (simp only [HA, Nat.reduceEqDiff, false_and, and_false, and_self, reduceIte]; assumption) | assumption), (by first | (simp only [HA, Nat.reduceEqDiff, false_and, and_false, and_self, reduceIte]; assumption) | assumption)⟩ (by first | (simp only [HA, Nat.reduceEqDiff, false_and, and_false, and_self, reduceIte]; assumption) | assumption), KM_n g⟩
      · refine Prg 0 1 (-1) (by omega) rfl hC hρ hW ?_ ?_
        · simp (disch := first | omega | (repeat (first | assumption | exact Ag_r | refine Ag_I ?_ rfl | refine Ag_F ?_ rfl | refine Ag_J ?_ rfl))) only [A83, FC f1, C_refuse1 f1, CO, HA, HB, HC, Nat.not_lt_zero, Nat.add_assoc, c_nlt, c_nle, c_neq, c_P, c_cl, c_m1, c_m1', nI_add, pk_mul, reduceIte, Nat.reduceEqDiff, Nat.reduceAdd, Nat.reduceMul, Nat.reduceLeDiff, eq_self, ↓pk_rem, pk_div, c_of, d_le, d_nle, d_lt, d_nlt, d_eq, d_ne]
          exact Ev_s ⟨rfl, RfC_i⟩
        · simp (disch := first | omega | (repeat (first | assumption | exact Ag_r | refine Ag_I ?_ rfl | refine Ag_F ?_ rfl | refine Ag_J ?_ rfl))) only [A142, FM F1, M_in, l_lo, l_hi, M_tell1 h00, CO, HA, HB, HC, Nat.not_lt_zero, Nat.add_assoc, c_nlt, c_nle, c_neq, c_P, c_cl, c_m1, c_m1', nI_add, pk_mul, reduceIte, Nat.reduceEqDiff, Nat.reduceAdd, Nat.reduceMul, Nat.reduceLeDiff, eq_self, ↓pk_rem, pk_div, c_of, d_le, d_nle, d_lt, d_nlt, d_eq, d_ne]
          exact Ev_s ⟨rfl, RfM_i⟩
    · rcases tri y 99 (by omega) with hy | ⟨m, hm, rfl⟩ | ⟨m, hm, hm2, rfl⟩
      · refine Prg 0 1 (-1) (by omega) rfl hC hρ hW ?_ ?_
        · simp (disch := first | omega | (repeat (first | assumption | exact Ag_r | refine Ag_I ?_ rfl | refine Ag_F ?_ rfl | refine Ag_J ?_ rfl))) only [A83, FC f1, ng hy, C_refuse1 f1, CO, HA, HB, HC, Nat.not_lt_zero, Nat.add_assoc, c_nlt, c_nle, c_neq, c_P, c_cl, c_m1, c_m1', nI_add, pk_mul, reduceIte, Nat.reduceEqDiff, Nat.reduceAdd, Nat.reduceMul, Nat.reduceLeDiff, eq_self, ↓pk_rem, pk_div, c_of, d_le, d_nle, d_lt, d_nlt, d_eq, d_ne]
          exact Ev_s ⟨rfl, RfC_i⟩
        · simp (disch := first | omega | (repeat (first | assumption | exact Ag_r | refine Ag_I ?_ rfl | refine Ag_F ?_ rfl | refine Ag_J ?_ rfl))) only [A142, FM F1, M_in, l_lo, l_hi, ng hy, M_tell1 h00, CO, HA, HB, HC, Nat.not_lt_zero, Nat.add_assoc, c_nlt, c_nle, c_neq, c_P, c_cl, c_m1, c_m1', nI_add, pk_mul, reduceIte, Nat.reduceEqDiff, Nat.reduceAdd, Nat.reduceMul, Nat.reduceLeDiff, eq_self, ↓pk_rem, pk_div, c_of, d_le, d_nle, d_lt, d_nlt, d_eq, d_ne]
          exact Ev_s ⟨rfl, RfM_i⟩
      · by_cases m0 : m = 0
        · subst m0
          refine Prg 0 1 (-1) (by omega) rfl hC hρ hW ?_ ?_
          · simp (disch := first | omega | (repeat (first | assumption | exact Ag_r | refine Ag_I ?_ rfl | refine Ag_F ?_ rfl | refine Ag_J ?_ rfl))) only [A83, FC f1, C_refuse1 f1, CO, HA, HB, HC, Nat.not_lt_zero, Nat.add_assoc, c_nlt, c_nle, c_neq, c_P, c_cl, c_m1, c_m1', nI_add, pk_mul, reduceIte, Nat.reduceEqDiff, Nat.reduceAdd, Nat.reduceMul, Nat.reduceLeDiff, eq_self, ↓pk_rem, pk_div, c_of, d_le, d_nle, d_lt, d_nlt, d_eq, d_ne]
            exact Ev_s ⟨rfl, RfC_i⟩
          · simp (disch := first | omega | (repeat (first | assumption | exact Ag_r | refine Ag_I ?_ rfl | refine Ag_F ?_ rfl | refine Ag_J ?_ rfl))) only [A142, FM F1, M_in, l_lo, l_hi, M_tell1 h00, CO, HA, HB, HC, Nat.not_lt_zero, Nat.add_assoc, c_nlt, c_nle, c_neq, c_P, c_cl, c_m1, c_m1', nI_add, pk_mul, reduceIte, Nat.reduceEqDiff, Nat.reduceAdd, Nat.reduceMul, Nat.reduceLeDiff, eq_self, ↓pk_rem, pk_div, c_of, d_le, d_nle, d_lt, d_nlt, d_eq, d_ne]
            exact Ev_s ⟨rfl, RfM_i⟩
        · refine ⟨nI fp, ((v, H, m, nl, fc, rn, (nd, dv, dd, de), (nu, uc, uh), lw), im, (tl, tp), (nI 0, fg, ft), rf, (yv, yK)), ⟨⟨w1, ⟨by omega, hm⟩, ⟨w3, w4⟩, w5, w6, w7⟩, w8, ⟨w9, w10⟩, w11⟩, ?_, ?_⟩
          · have g0 : Qb σ (sF σ 1 1 (.int (nI m))) := Ag_F Ag_r rfl
            have h3 := Qb_C g0 f1
            simp (disch := first | omega | (repeat (first | assumption | exact Ag_r | refine Ag_I ?_ rfl | refine Ag_F ?_ rfl | refine Ag_J ?_ rfl))) only [A83, FC f1, a3, C_accept h3, CO, HA, HB, HC, Nat.not_lt_zero, Nat.add_assoc, c_nlt, c_nle, c_neq, c_P, c_cl, c_m1, c_m1', nI_add, pk_mul, reduceIte, Nat.reduceEqDiff, Nat.reduceAdd, Nat.reduceMul, Nat.reduceLeDiff, eq_self, ↓pk_rem, pk_div, c_of, d_le, d_nle, d_lt, d_nlt, d_eq, d_ne]
            have g : Qb σ (sF (sF σ 1 1 (.int (nI m))) 0 11 (.int (nI 0))) := Ag_F g0 rfl
            exact Ev_s ⟨rfl, RC_b g hC ⟨⟨(by first | (simp only [HA, Nat.reduceEqDiff, false_and, and_false, and_self, reduceIte]; assumption) | assumption), (by first | (simp only [HA, Nat.reduceEqDiff, false_and, and_false, and_self, reduceIte]; assumption) | assumption)⟩, ⟨by simp only [HA, Nat.reduceEqDiff, false_and, and_self, reduceIte], (by first | (simp only [HA, Nat.reduceEqDiff, false_and, and_false, and_self, reduceIte]; assumption) | assumption), (by first | (simp only [HA, Nat.reduceEqDiff, false_and, and_false, and_self, reduceIte]; assumption) | assumption)⟩, (by first | (simp only [HA, Nat.reduceEqDiff, false_and, and_false, and_self, reduceIte]; assumption) | assumption), ⟨(by first | (simp only [HA, Nat.reduceEqDiff, false_and, and_false, and_self, reduceIte]; assumption) | assumption), (by first | (simp only [HA, Nat.reduceEqDiff, false_and, and_false, and_self, reduceIte]; assumption) | assumption)⟩, ⟨tq, b1, (by first | (simp only [HA, Nat.reduceEqDiff, false_and, and_false, and_self, reduceIte]; assumption) | assumption), (by first | (simp only [HA, Nat.reduceEqDiff, false_and, and_false, and_self, reduceIte]; assumption) | assumption), (by first | (simp only [HA, Nat.reduceEqDiff, false_and, and_false, and_self, reduceIte]; assumption) | assumption)⟩, fun i hi => LaC_b g (a9 i hi)⟩ ⟨(by first | (simp only [HA, Nat.reduceEqDiff, false_and, and_false, and_self, reduceIte]; assumption) | assumption), (by first | (simp only [HA, Nat.reduceEqDiff, false_and, and_false, and_self, reduceIte]; assumption) | assumption)⟩ ⟨by simp only [HA, and_self, reduceIte], (by first | (simp only [HA, Nat.reduceEqDiff, false_and, and_false, and_self, reduceIte]; assumption) | assumption), (by first | (simp only [HA, Nat.reduceEqDiff, false_and, and_false, and_self, reduceIte]; assumption) | assumption)⟩ (by first | (simp only [HA, Nat.reduceEqDiff, false_and, and_false, and_self, reduceIte]; assumption) | assumption), SaM_b g, Rm_2 (Rm_a g)⟩
          · have h2 : FxM (sF (sI ρ 59 (upd (hI ρ 59) 1 (nI m))) 57 0 (.int (nI 0))) := FxM_a (P := Pn) (F := Fn) (Ag_F (Ag_I Ag_r rfl) rfl) (by decide) F1
            simp (disch := first | omega | (repeat (first | assumption | exact Ag_r | refine Ag_I ?_ rfl | refine Ag_F ?_ rfl | refine Ag_J ?_ rfl))) only [A142, FM F1, M_in, l_lo, l_hi, A3, M_was h2, CO, HA, HB, HC, Nat.not_lt_zero, Nat.add_assoc, c_nlt, c_nle, c_neq, c_P, c_cl, c_m1, c_m1', nI_add, pk_mul, reduceIte, Nat.reduceEqDiff, Nat.reduceAdd, Nat.reduceMul, Nat.reduceLeDiff, eq_self, ↓pk_rem, pk_div, c_of, d_le, d_nle, d_lt, d_nlt, d_eq, d_ne]
            have g : Qn ρ (sF (sF (sI ρ 59 (upd (hI ρ 59) 1 (nI m))) 57 0 (.int (nI 0))) 57 1 (.int (nI 0))) := Ag_F (Ag_F (Ag_I Ag_r rfl) rfl) rfl
            have ag : ∀ z, ¬ z = 1 → hI (sF (sF (sI ρ 59 (upd (hI ρ 59) 1 (nI m))) 57 0 (.int (nI 0))) 57 1 (.int (nI 0))) 59 z = hI ρ 59 z := fun z hz => by
              simp only [HA, reduceIte, ua]
              rw [if_neg hz]
            exact Ev_s ⟨rfl, RM_n g hρ ⟨tH (fun y hy => ag y (by omega)) ⟨A1, A2⟩, ⟨by simp only [HA, reduceIte, ua], by rw [ag 2 (by omega)]; exact A4, by rw [ag 3 (by omega)]; exact A5⟩, tR (fun y hy => ag y (by omega)) A6, tD w6.1 (fun y hy => ag y (by omega)) ⟨A7, A8⟩, tU w7.1 (fun y hy => ag y (by omega)) ⟨B3, B4⟩, tL (fun y hy => ag y (by omega)) A9⟩ ⟨(by first | (simp only [HA, Nat.reduceEqDiff, false_and, and_false, and_self, reduceIte]; assumption) | assumption), (by first | (simp only [HA, Nat.reduceEqDiff, false_and, and_false, and_self, reduceIte]; assumption) | assumption)⟩ ⟨by simp only [HA, and_self, reduceIte], (by first | (simp only [HA, Nat.reduceEqDiff, false_and, and_false, and_self, reduceIte]; assumption) | assumption), (by first | (simp only [HA, Nat.reduceEqDiff, false_and, and_false, and_self, reduceIte]; assumption) | assumption)⟩ (by first | (simp only [HA, Nat.reduceEqDiff, false_and, and_false, and_self, reduceIte]; assumption) | assumption), KM_n g⟩
      · refine Prg 0 1 (-1) (by omega) rfl hC hρ hW ?_ ?_
        · simp (disch := first | omega | (repeat (first | assumption | exact Ag_r | refine Ag_I ?_ rfl | refine Ag_F ?_ rfl | refine Ag_J ?_ rfl))) only [A83, FC f1, C_refuse1 f1, CO, HA, HB, HC, Nat.not_lt_zero, Nat.add_assoc, c_nlt, c_nle, c_neq, c_P, c_cl, c_m1, c_m1', nI_add, pk_mul, reduceIte, Nat.reduceEqDiff, Nat.reduceAdd, Nat.reduceMul, Nat.reduceLeDiff, eq_self, ↓pk_rem, pk_div, c_of, d_le, d_nle, d_lt, d_nlt, d_eq, d_ne]
          exact Ev_s ⟨rfl, RfC_i⟩
        · simp (disch := first | omega | (repeat (first | assumption | exact Ag_r | refine Ag_I ?_ rfl | refine Ag_F ?_ rfl | refine Ag_J ?_ rfl))) only [A142, FM F1, M_in, l_lo, l_hi, M_tell1 h00, CO, HA, HB, HC, Nat.not_lt_zero, Nat.add_assoc, c_nlt, c_nle, c_neq, c_P, c_cl, c_m1, c_m1', nI_add, pk_mul, reduceIte, Nat.reduceEqDiff, Nat.reduceAdd, Nat.reduceMul, Nat.reduceLeDiff, eq_self, ↓pk_rem, pk_div, c_of, d_le, d_nle, d_lt, d_nlt, d_eq, d_ne]
          exact Ev_s ⟨rfl, RfM_i⟩
  · refine Prg 0 1 (-1) (by omega) rfl hC hρ hW ?_ ?_
    · simp (disch := first | omega | (repeat (first | assumption | exact Ag_r | refine Ag_I ?_ rfl | refine Ag_F ?_ rfl | refine Ag_J ?_ rfl))) only [A83, FC f1, C_refuse1 f1, CO, HA, HB, HC, Nat.not_lt_zero, Nat.add_assoc, c_nlt, c_nle, c_neq, c_P, c_cl, c_m1, c_m1', nI_add, pk_mul, reduceIte, Nat.reduceEqDiff, Nat.reduceAdd, Nat.reduceMul, Nat.reduceLeDiff, eq_self, ↓pk_rem, pk_div, c_of, d_le, d_nle, d_lt, d_nlt, d_eq, d_ne]
      exact Ev_s ⟨rfl, RfC_i⟩
    · simp (disch := first | omega | (repeat (first | assumption | exact Ag_r | refine Ag_I ?_ rfl | refine Ag_F ?_ rfl | refine Ag_J ?_ rfl))) only [A142, FM F1, M_tell1 h00, CO, HA, HB, HC, Nat.not_lt_zero, Nat.add_assoc, c_nlt, c_nle, c_neq, c_P, c_cl, c_m1, c_m1', nI_add, pk_mul, reduceIte, Nat.reduceEqDiff, Nat.reduceAdd, Nat.reduceMul, Nat.reduceLeDiff, eq_self, ↓pk_rem, pk_div, c_of, d_le, d_nle, d_lt, d_nlt, d_eq, d_ne]
      exact Ev_s ⟨rfl, RfM_i⟩
theorem K_year (hC : RC σ R) (hM : RM σ R) (hW : RW R) (x y : Int32) : Pr (fun σ => (499, 113, 0, [.ref 0, .int x, .int y, .float 0, .float 0], [], σ)) (fun σ => (499, 220, 0, [.ref 57, .int x, .int y, .float 0, .float 0, .float 0, .float 0, .float 0], [], σ)) σ (fun υ => ∃ R', Ok σ υ R') := by
  obtain ⟨d, hd⟩ : ∃ d, 499 = d + 8 := ⟨491, rfl⟩
  rw [hd]
  clear hd
  refine Pmut hC hM hW (fun ρ hρ => ?_)
  obtain ⟨⟨v, H, fp, nl, fc, rn, ⟨nd, dv, dd, de⟩, ⟨nu, uc, uh⟩, lw⟩, im, ⟨tl, tp⟩, ⟨st, fg, ft⟩, rf, ⟨yv, yK⟩⟩ := R
  obtain ⟨f1, s1, im1, ⟨t1, t2⟩, ⟨u1, u2, u3⟩, r1, y1⟩ := id hC
  obtain ⟨⟨a1, a2⟩, ⟨a3, a4, a5⟩, a6, ⟨a7, a8⟩, ⟨tq, b1, b2, b3, b4⟩, a9⟩ := S1_SC.mpr s1
  obtain ⟨F1, S1', IM1, ⟨T1, T2⟩, ⟨U1, U2, U3⟩, R1, Y1⟩ := id hρ
  obtain ⟨⟨A1, A2⟩, ⟨A3, A4, A5⟩, A6, ⟨A7, A8⟩, ⟨B3, B4⟩, A9⟩ := M1_SM.mpr S1'
  obtain ⟨⟨w1, w2, ⟨w3, w4⟩, w5, w6, w7⟩, w8, ⟨w9, w10⟩, w11⟩ := id hW
  have c1 := RC_g hC hW
  have m1 := RM_g hρ hW
  rcases P_year (d := d) c1.1 m1.1 c1.2.1 m1.2.1 w1 c1.2.2.1 m1.2.2.1 c1.2.2.2.1 m1.2.2.2.1 x y with ⟨h1, h2⟩ | ⟨r, K, h1, h2⟩
  · exact Prg 0 1 (-1) (by omega) rfl hC hρ hW h1 h2
  · refine ⟨r, ((v, H, fp, nl, fc, rn, (nd, dv, dd, de), (nu, uc, uh), lw), im, (tl, tp), (nI 0, fg, ft), rf, (v, K)), ⟨⟨w1, w2, ⟨w3, w4⟩, w5, w6, w7⟩, w8, ⟨w9, w10⟩, w1.2.1⟩, Ev_m h1 ?_, Ev_m h2 ?_⟩
    · rintro a τ ⟨rfl, g, yr, e11⟩
      have hX : ∀ k, Xc k → (fun k => Nat.beq k 19 || Nat.beq k 20 || Nat.beq k 32 || Nat.beq k 33) k = false := fun k hk => by
        show (Nat.beq k 19 || Nat.beq k 20 || Nat.beq k 32 || Nat.beq k 33) = false
        rw [bq (show ¬ k = 19 by unfold Xc at hk; omega), bq (show ¬ k = 20 by unfold Xc at hk; omega), bq (show ¬ k = 32 by unfold Xc at hk; omega), bq (show ¬ k = 33 by unfold Xc at hk; omega)]; rfl
      have hF : ∀ k j, Xc k → Fy k j = false := fun k j hk => by
        unfold Fy
        rw [bq (show ¬ k = 18 by unfold Xc at hk; omega), bq (show ¬ k = 31 by unfold Xc at hk; omega), bq (show ¬ k = 0 by unfold Xc at hk; omega)]; rfl
      refine ⟨rfl, ⟨Qya_C g f1, SC_a g hX hF (Or.inl rfl) s1, fun k hk => ⟨by rw [Ag_i g 13 rfl]; exact (im1 k hk).1, fun S' e => SC_a g hX hF (by omega) ((im1 k hk).2 S' e)⟩, ⟨by rw [Ag_f g 16 1 rfl]; exact t1, by rw [Ag_i g 17 rfl]; exact t2⟩, ⟨e11, by rw [Ag_f g 0 12 rfl]; exact u2, by rw [Ag_f g 0 13 rfl]; exact u3⟩, by rw [Ag_i g 34 rfl]; exact r1, yr⟩, SaM_a g (fun k h1 h2 => ⟨?_, fun j => ?_⟩), Rm_2 (Rm_a g)⟩
      · show (Nat.beq k 19 || Nat.beq k 20 || Nat.beq k 32 || Nat.beq k 33) = false
        rw [bq (show ¬ k = 19 by omega), bq (show ¬ k = 20 by omega), bq (show ¬ k = 32 by omega), bq (show ¬ k = 33 by omega)]; rfl
      · unfold Fy
        rw [bq (show ¬ k = 18 by omega), bq (show ¬ k = 31 by omega), bq (show ¬ k = 0 by omega)]; rfl
    · rintro a τ ⟨rfl, g, yr, e1⟩
      refine ⟨rfl, ⟨Qyb_M g F1, SM_e (Ag_i g 59 rfl) S1', fun k hk => ⟨by rw [Ag_i g 61 rfl]; exact (IM1 k hk).1, fun S' e => SM_e (Ag_i g 60 rfl) ((IM1 k hk).2 S' e)⟩, ⟨by rw [Ag_f g 57 8 rfl]; exact T1, by rw [Ag_i g 62 rfl]; exact T2⟩, ⟨e1, by rw [Ag_f g 57 6 rfl]; exact U2, by rw [Ag_f g 57 13 rfl]; exact U3⟩, by rw [Ag_i g 58 rfl]; exact R1, yr, by rw [Ag_j g 68 rfl]; exact Y1.2.1, by rw [Ag_j g 69 rfl]; exact Y1.2.2⟩, Ag_w g (fun k e => ?_) (fun k j e => ?_)⟩
      · unfold Pm at e
        simp only [Bool.and_eq_true, Bool.or_eq_true] at e ⊢
        rcases e with ⟨e1, e2⟩ | e
        · have a := Nat.le_of_ble_eq_true e1
          have b := Nat.le_of_ble_eq_true e2
          exact ⟨Nat.ble_eq_true_of_le (by omega), Nat.ble_eq_true_of_le (by omega)⟩
        · have := Nat.eq_of_beq_eq_true e
          subst this; exact ⟨rfl, rfl⟩
      · unfold Fyb Fm at e
        simp only [Bool.and_eq_true, Bool.or_eq_true] at e
        rcases e with ⟨e1, -⟩ | ⟨e1, -⟩ <;> exact e1
end
/-! home, lend, undo -/
theorem SaM_t {σ τ υ : Hp} (h1 : SaM σ τ) (h2 : SaM τ υ) : SaM σ υ := ⟨h2.1.trans h1.1, fun k a b => by
  obtain ⟨⟨x1, x2⟩, x3, x4, x5⟩ := h1.2 k a b
  obtain ⟨⟨y1, y2⟩, y3, y4, y5⟩ := h2.2 k a b
  exact ⟨⟨y1.trans x1, y2.trans x2⟩, fun j => (y3 j).trans (x3 j), y4.trans x4, y5.trans x5⟩⟩
theorem Rm2_t {σ τ υ : Hp} (h1 : Rm σ τ) (h2 : Rm2 τ υ) : Rm2 σ υ := ⟨⟨by rw [← h1.1.1]; exact h2.1.1, by rw [← h1.1.2]; exact h2.1.2⟩, fun r => h2.2 (by unfold RLw at r ⊢; rw [h1.2.1, h1.2.2]; exact r)⟩
theorem RM_rg {ρ : Hp} {k j : Nat} {w : Int32} {S : StT} {im : Nat → Option StT} {tl yv : Nat} {tp yK : Nat → Nat} {st fg ft : Int32} {rf : Nat → Int32} (hk : k < 5) (hj : j = rfp k) (h : RM ρ (S, im, (tl, tp), (st, fg, ft), rf, (yv, yK))) : RM (sF (sI ρ 58 (upd (hI ρ 58) j (hI ρ 58 j + nI 1))) 57 1 (.int w)) (S, im, (tl, tp), (w, fg, ft), rfu rf k, (yv, yK)) ∧ KM ρ (sF (sI ρ 58 (upd (hI ρ 58) j (hI ρ 58 j + nI 1))) 57 1 (.int w)) := by
  subst hj
  have g : Qn ρ (sF (sI ρ 58 (upd (hI ρ 58) (rfp k) (hI ρ 58 (rfp k) + nI 1))) 57 1 (.int w)) := Ag_F (Ag_I Ag_r rfl) rfl
  obtain ⟨f1, s1, im1, ⟨t1, t2⟩, ⟨u1, u2, u3⟩, r1, y1⟩ := id h
  refine ⟨RM_n g h (M1_e ?_ (M1_SM.mpr s1)) ⟨?_, ?_⟩ ⟨?_, ?_, ?_⟩ ?_, KM_n g⟩
  · simp only [HA, Nat.reduceEqDiff, reduceIte]
  · simp only [HA, Nat.reduceEqDiff, and_false, reduceIte]; exact t1
  · simp only [HA, Nat.reduceEqDiff, reduceIte]; exact t2
  · simp only [HA, and_self, reduceIte]
  · simp only [HA, Nat.reduceEqDiff, and_false, reduceIte]; exact u2
  · simp only [HA, Nat.reduceEqDiff, and_false, reduceIte]; exact u3
  · intro i hi
    simp only [HA, reduceIte, ua, rfu]
    have : (rfp i = rfp k) ↔ i = k := by unfold rfp; split <;> split <;> omega
    by_cases z : i = k
    · rw [if_pos (this.mpr z), if_pos z, z, r1 k hk]
    · rw [if_neg (fun q => z (this.mp q)), if_neg z]; exact r1 i hi
def unC (nu c : Nat) (uc : Nat → Nat) : Nat → Nat := fun i => if nu = 32 then (if i = 31 then c else uc (i + 1)) else (if i = nu then c else uc i)
section
variable {d c t v nu tq : Nat} {H uc uh : Nat → Nat} {σ ρ τ : Hp}
theorem C_move (hC : FxC τ) (hc : c < 224) (h2 : hI τ 2 c = nI (H c)) (b2 : hF τ 5 2 = .int (nI tq)) (b3 : hF τ 5 3 = .int (nI nu)) (hq : tq < 32) (hn : nu ≤ 32) : den (d + 2, 73, 0, [.ref 1, .int (nI c), .int (nI t)], [], τ) = some (none, sF (sF (sI (sI (sI τ 6 (upd (hI τ 6) tq (nI c))) 7 (upd (hI τ 7) tq (nI (H c)))) 2 (upd (hI τ 2) c (nI t))) 5 2 (.int (nI ((tq + 1) % 32)))) 5 3 (.int (nI (min (nu + 1) 32)))) := by
  by_cases z : nu = 32
  · subst z
    rw [show min (32 + 1) 32 = 32 from rfl]
    simp (disch := first | omega | (repeat (first | assumption | exact Ag_r | refine Ag_I ?_ rfl | refine Ag_F ?_ rfl | refine Ag_J ?_ rfl))) only [A73, A41, FC hC, h2, b2, b3, CO, HA, HB, HC, Nat.not_lt_zero, Nat.add_assoc, c_nlt, c_nle, c_neq, c_P, c_cl, c_m1, c_m1', nI_add, pk_mul, reduceIte, Nat.reduceEqDiff, Nat.reduceAdd, Nat.reduceMul, Nat.reduceLeDiff, eq_self, ↓pk_rem, pk_div, c_of, d_le, d_nle, d_lt, d_nlt, d_eq, d_ne]
  · rw [show min (nu + 1) 32 = nu + 1 by omega]
    by_cases y : nu + 1 = 32
    · simp (disch := first | omega | (repeat (first | assumption | exact Ag_r | refine Ag_I ?_ rfl | refine Ag_F ?_ rfl | refine Ag_J ?_ rfl))) only [A73, A41, FC hC, h2, b2, b3, y, CO, HA, HB, HC, Nat.not_lt_zero, Nat.add_assoc, c_nlt, c_nle, c_neq, c_P, c_cl, c_m1, c_m1', nI_add, pk_mul, reduceIte, Nat.reduceEqDiff, Nat.reduceAdd, Nat.reduceMul, Nat.reduceLeDiff, eq_self, ↓pk_rem, pk_div, c_of, d_le, d_nle, d_lt, d_nlt, d_eq, d_ne]
    · simp (disch := first | omega | (repeat (first | assumption | exact Ag_r | refine Ag_I ?_ rfl | refine Ag_F ?_ rfl | refine Ag_J ?_ rfl))) only [A73, A41, FC hC, h2, b2, b3, CO, HA, HB, HC, Nat.not_lt_zero, Nat.add_assoc, c_nlt, c_nle, c_neq, c_P, c_cl, c_m1, c_m1', nI_add, pk_mul, reduceIte, Nat.reduceEqDiff, Nat.reduceAdd, Nat.reduceMul, Nat.reduceLeDiff, eq_self, ↓pk_rem, pk_div, c_of, d_le, d_nle, d_lt, d_nlt, d_eq, d_ne]
theorem loans_C {x : Hp} (hq : tq < 32) (hn : nu ≤ 32) (b4 : ∀ i, i < nu → hI τ 6 ((tq + 32 - nu + i) % 32) = nI (uc i) ∧ hI τ 7 ((tq + 32 - nu + i) % 32) = nI (uh i)) (e6 : hI x 6 = upd (hI τ 6) tq (nI c)) (e7 : hI x 7 = upd (hI τ 7) tq (nI (H c))) : ∀ i, i < min (nu + 1) 32 → hI x 6 (((tq + 1) % 32 + 32 - min (nu + 1) 32 + i) % 32) = nI (unC nu c uc i) ∧ hI x 7 (((tq + 1) % 32 + 32 - min (nu + 1) 32 + i) % 32) = nI (unC nu (H c) uh i) := by
  intro i hi
  rw [e6, e7]
  unfold unC
  simp only [ua]
  by_cases z : nu = 32
  · subst z
    rw [if_pos rfl, if_pos rfl]
    by_cases y : i = 31
    · rw [if_pos (by omega), if_pos y, if_pos (by omega), if_pos y]; exact ⟨rfl, rfl⟩
    · rw [if_neg (by omega), if_neg y, if_neg (by omega), if_neg y]
      have := b4 (i + 1) (by omega)
      rw [show ((tq + 1) % 32 + 32 - min (32 + 1) 32 + i) % 32 = (tq + 32 - 32 + (i + 1)) % 32 by omega]
      exact this
  · rw [if_neg z, if_neg z]
    by_cases y : i = nu
    · rw [if_pos (by omega), if_pos y, if_pos (by omega), if_pos y]; exact ⟨rfl, rfl⟩
    · rw [if_neg (by omega), if_neg y, if_neg (by omega), if_neg y]
      have := b4 i (by omega)
      rw [show ((tq + 1) % 32 + 32 - min (nu + 1) 32 + i) % 32 = (tq + 32 - nu + i) % 32 by omega]
      exact this
theorem M_go (hM : FxM τ) (hc : c < 224) (ht : t < 8) (h2 : hI τ 59 (34 + c) = nI (H c)) (hn : nu ≤ 32) (B3 : hI τ 59 5 = nI nu) (B4 : ∀ i, i < nu → hI τ 59 (288 + 3 * i) = nI (uc i / 28) ∧ hI τ 59 (288 + (3 * i + 1)) = nI (uc i % 28) ∧ hI τ 59 (288 + (3 * i + 2)) = nI (uh i)) : ∃ f, den (d + 1, 185, 0, [.ref 57, .int (nI c), .int (nI t), .float 0, .float 0], [], τ) = some (some (.int (nI (H c))), sF (sI τ 59 f) 57 1 (.int (nI 0))) ∧ (∀ z, ¬ (z = 5 ∨ z = 34 + c ∨ (288 ≤ z ∧ z < 384)) → f z = hI τ 59 z) ∧ f (34 + c) = nI t ∧ f 5 = nI (min (nu + 1) 32) ∧ ∀ i, i < min (nu + 1) 32 → f (288 + 3 * i) = nI (unC nu c uc i / 28) ∧ f (288 + (3 * i + 1)) = nI (unC nu c uc i % 28) ∧ f (288 + (3 * i + 2)) = nI (unC nu (H c) uh i) := by
  have hm : c % 28 < 28 := Nat.mod_lt _ (by omega)
  by_cases z : nu = 32
  · subst z
    -- the oldest makes room
    have key := lp (α := Nat → Int32) (h := fun i f => (d + 1, 185, 26, [.ref 57, .int (nI c), .int (nI t), .int (nI (H c)), .int (nI (288 + i))], [], sI τ 59 f)) (I := fun i f => ∀ x, f x = if 288 ≤ x ∧ x < 288 + i then hI τ 59 (x + 3) else hI τ 59 x) (Q := fun a υ => ∃ f, a = some (.int (nI (H c))) ∧ υ = sF (sI τ 59 (upd (upd (upd (upd (upd (upd f 5 (nI 31)) 381 (nI (c / 28))) 382 (nI (c % 28))) 383 (nI (H c))) 5 (nI 32)) (34 + c) (nI t))) 57 1 (.int (nI 0)) ∧ ∀ x, f x = if 288 ≤ x ∧ x < 381 then hI τ 59 (x + 3) else hI τ 59 x) 93 ?_ ?_ 0 (hI τ 59) (Nat.zero_le _) (fun x => by rw [if_neg (by omega)])
    · obtain ⟨a, υ, e1, f, rfl, rfl, hf⟩ := key
      refine ⟨upd (upd (upd (upd (upd (upd f 5 (nI 31)) 381 (nI (c / 28))) 382 (nI (c % 28))) 383 (nI (H c))) 5 (nI 32)) (34 + c) (nI t), ?_, fun z hz => ?_, ?_, ?_, fun i hi => ?_⟩
      · rw [← e1, sI_self]
        simp (disch := first | omega | (repeat (first | assumption | exact Ag_r | refine Ag_I ?_ rfl | refine Ag_F ?_ rfl | refine Ag_J ?_ rfl))) only [A185, FM hM, h2, B3, Nat.add_zero, CO, HA, HB, HC, Nat.not_lt_zero, Nat.add_assoc, c_nlt, c_nle, c_neq, c_P, c_cl, c_m1, c_m1', nI_add, pk_mul, reduceIte, Nat.reduceEqDiff, Nat.reduceAdd, Nat.reduceMul, Nat.reduceLeDiff, eq_self, ↓pk_rem, pk_div, c_of, d_le, d_nle, d_lt, d_nlt, d_eq, d_ne]
      · simp only [ua]
        rw [if_neg (by omega), if_neg (by omega), if_neg (by omega), if_neg (by omega), if_neg (by omega), if_neg (by omega), hf z, if_neg (by omega)]
      · simp only [ua, reduceIte]
      · simp only [ua]
        rw [if_neg (by omega), if_pos trivial]; rfl
      · unfold unC
        simp only [ua, reduceIte]
        by_cases y : i = 31
        · subst y
          simp only [reduceIte, Nat.reduceMul, Nat.reduceAdd, Nat.reduceEqDiff]
          rw [if_neg (by omega), if_neg (by omega), if_neg (by omega)]
          exact ⟨rfl, rfl, rfl⟩
        · have b := B4 (i + 1) (by omega)
          rw [if_neg y, if_neg y]
          refine ⟨?_, ?_, ?_⟩
          · rw [if_neg (by omega), if_neg (by omega), if_neg (by omega), if_neg (by omega), if_neg (by omega), if_neg (by omega), hf, if_pos (by omega), show 288 + 3 * i + 3 = 288 + 3 * (i + 1) by omega]; exact b.1
          · rw [if_neg (by omega), if_neg (by omega), if_neg (by omega), if_neg (by omega), if_neg (by omega), if_neg (by omega), hf, if_pos (by omega), show 288 + (3 * i + 1) + 3 = 288 + (3 * (i + 1) + 1) by omega]; exact b.2.1
          · rw [if_neg (by omega), if_neg (by omega), if_neg (by omega), if_neg (by omega), if_neg (by omega), if_neg (by omega), hf, if_pos (by omega), show 288 + (3 * i + 2) + 3 = 288 + (3 * (i + 1) + 2) by omega]; exact b.2.2
    · intro i f hi hf nx
      have e1 := hf (288 + i + 3)
      rw [if_neg (by omega)] at e1
      have nn := nx (upd f (288 + i) (hI τ 59 (288 + i + 3))) (fun x => by
        rw [ua]
        by_cases q : x = 288 + i
        · rw [if_pos q, if_pos (by omega), q]
        · rw [if_neg q, hf x]
          by_cases p : 288 ≤ x ∧ x < 288 + i
          · rw [if_pos p, if_pos (by omega)]
          · rw [if_neg p, if_neg (by omega)])
      refine Ev_e ?_ nn
      show den (d + 1, 185, 26, [.ref 57, .int (nI c), .int (nI t), .int (nI (H c)), .int (nI (288 + i))], [], sI τ 59 f) = _
      rw [a185_26]
      simp only [Nat.add_assoc] at e1 ⊢
      simp (disch := first | omega | (repeat (first | assumption | exact Ag_r | refine Ag_I ?_ rfl | refine Ag_F ?_ rfl | refine Ag_J ?_ rfl))) only [A185, FM hM, e1, CO, HA, HB, HC, Nat.not_lt_zero, Nat.add_assoc, c_nlt, c_nle, c_neq, c_P, c_cl, c_m1, c_m1', nI_add, pk_mul, reduceIte, Nat.reduceEqDiff, Nat.reduceAdd, Nat.reduceMul, Nat.reduceLeDiff, eq_self, ↓pk_rem, pk_div, c_of, d_le, d_nle, d_lt, d_nlt, d_eq, d_ne]
    · intro f hf
      show Ev (den (d + 1, 185, 26, [.ref 57, .int (nI c), .int (nI t), .int (nI (H c)), .int (nI (288 + 93))], [], sI τ 59 f)) _
      rw [a185_26]
      have e5 := hf 5
      rw [if_neg (by omega), B3] at e5
      have h3 : FxM (sI τ 59 (upd (upd (upd (upd (upd (upd f 5 (nI 31)) 381 (nI (c / 28))) 382 (nI (c % 28))) 383 (nI (H c))) 5 (nI 32)) (34 + c) (nI t))) := FxM_a (P := Pn) (F := Fn) (Ag_I Ag_r rfl) (by decide) hM
      simp (disch := first | omega | (repeat (first | assumption | exact Ag_r | refine Ag_I ?_ rfl | refine Ag_F ?_ rfl | refine Ag_J ?_ rfl))) only [A185, FM hM, e5, pk_sub, Nat.reduceSub, ua, M_was h3, CO, HA, HB, HC, Nat.not_lt_zero, Nat.add_assoc, c_nlt, c_nle, c_neq, c_P, c_cl, c_m1, c_m1', nI_add, pk_mul, reduceIte, Nat.reduceEqDiff, Nat.reduceAdd, Nat.reduceMul, Nat.reduceLeDiff, eq_self, ↓pk_rem, pk_div, c_of, d_le, d_nle, d_lt, d_nlt, d_eq, d_ne]
      exact Ev_s ⟨f, rfl, rfl, hf⟩
  · refine ⟨upd (upd (upd (upd (upd (hI τ 59) (288 + 3 * nu) (nI (c / 28))) (288 + (3 * nu + 1)) (nI (c % 28))) (288 + (3 * nu + 2)) (nI (H c))) 5 (nI (nu + 1))) (34 + c) (nI t), ?_, fun z hz => ?_, ?_, ?_, fun i hi => ?_⟩
    · have q4 : (5 = 288 + (3 * nu + 2)) = False := eq_false (by omega)
      have q5 : (5 = 288 + (3 * nu + 1)) = False := eq_false (by omega)
      have q6 : (5 = 288 + 3 * nu) = False := eq_false (by omega)
      have h3 : FxM (sI τ 59 (upd (upd (upd (upd (upd (hI τ 59) (288 + 3 * nu) (nI (c / 28))) (288 + (3 * nu + 1)) (nI (c % 28))) (288 + (3 * nu + 2)) (nI (H c))) 5 (nI (nu + 1))) (34 + c) (nI t))) := FxM_a (P := Pn) (F := Fn) (Ag_I Ag_r rfl) (by decide) hM
      simp (disch := first | omega | (repeat (first | assumption | exact Ag_r | refine Ag_I ?_ rfl | refine Ag_F ?_ rfl | refine Ag_J ?_ rfl))) only [A185, FM hM, h2, B3, z, ua, q4, q5, q6, M_was h3, CO, HA, HB, HC, Nat.not_lt_zero, Nat.add_assoc, c_nlt, c_nle, c_neq, c_P, c_cl, c_m1, c_m1', nI_add, pk_mul, reduceIte, Nat.reduceEqDiff, Nat.reduceAdd, Nat.reduceMul, Nat.reduceLeDiff, eq_self, ↓pk_rem, pk_div, c_of, d_le, d_nle, d_lt, d_nlt, d_eq, d_ne]
    · simp only [ua]
      rw [if_neg (by omega), if_neg (by omega), if_neg (by omega), if_neg (by omega), if_neg (by omega)]
    · simp only [ua, reduceIte]
    · simp only [ua]
      rw [if_neg (by omega), if_pos trivial, show min (nu + 1) 32 = nu + 1 by omega]
    · unfold unC
      simp only [ua, if_neg z]
      by_cases y : i = nu
      · subst y
        refine ⟨?_, ?_, ?_⟩
        · rw [if_neg (by omega), if_neg (by omega), if_neg (by omega), if_neg (by omega), if_pos rfl, if_pos rfl]
        · rw [if_neg (by omega), if_neg (by omega), if_neg (by omega), if_pos rfl, if_pos rfl]
        · rw [if_neg (by omega), if_neg (by omega), if_pos rfl, if_pos rfl]
      · have b := B4 i (by omega)
        rw [if_neg y, if_neg y]
        refine ⟨?_, ?_, ?_⟩
        · rw [if_neg (by omega), if_neg (by omega), if_neg (by omega), if_neg (by omega), if_neg (by omega)]; exact b.1
        · rw [if_neg (by omega), if_neg (by omega), if_neg (by omega), if_neg (by omega), if_neg (by omega)]; exact b.2.1
        · rw [if_neg (by omega), if_neg (by omega), if_neg (by omega), if_neg (by omega), if_neg (by omega)]; exact b.2.2
end
section
variable {σ : Hp} {R : AllT}
theorem unC_W {v nu c t : Nat} {H uc uh : Nat → Nat} (hW : nu ≤ 32 ∧ ∀ i, i < nu → uc i < 28 * v ∧ uh i < v) (hc : c < 28 * v) (hh : H c < v) : min (nu + 1) 32 ≤ 32 ∧ ∀ i, i < min (nu + 1) 32 → unC nu c uc i < 28 * v ∧ unC nu (H c) uh i < v := by
  refine ⟨by omega, fun i hi => ?_⟩
  unfold unC
  by_cases z : nu = 32
  · rw [if_pos z, if_pos z]
    by_cases y : i = 31
    · rw [if_pos y, if_pos y]; exact ⟨hc, hh⟩
    · rw [if_neg y, if_neg y]; exact hW.2 (i + 1) (by omega)
  · rw [if_neg z, if_neg z]
    by_cases y : i = nu
    · rw [if_pos y, if_pos y]; exact ⟨hc, hh⟩
    · rw [if_neg y, if_neg y]; exact hW.2 i (by omega)
theorem K_home (hC : RC σ R) (hM : RM σ R) (hW : RW R) (x y : Int32) : Pr (fun σ => (499, 94, 0, [.ref 0, .int x, .int y, .float 0], [], σ)) (fun σ => (499, 187, 0, [.ref 57, .int x, .int y, .float 0], [], σ)) σ (fun υ => ∃ R', Ok σ υ R') := by
  obtain ⟨d, hd⟩ : ∃ d, 499 = d + 8 := ⟨491, rfl⟩
  rw [hd]
  clear hd
  refine Pmut hC hM hW (fun ρ hρ => ?_)
  obtain ⟨⟨v, H, fp, nl, fc, rn, ⟨nd, dv, dd, de⟩, ⟨nu, uc, uh⟩, lw⟩, im, ⟨tl, tp⟩, ⟨st, fg, ft⟩, rf, ⟨yv, yK⟩⟩ := R
  obtain ⟨f1, s1, im1, ⟨t1, t2⟩, ⟨u1, u2, u3⟩, r1, y1⟩ := id hC
  obtain ⟨⟨a1, a2⟩, ⟨a3, a4, a5⟩, a6, ⟨a7, a8⟩, ⟨tq, b1, b2, b3, b4⟩, a9⟩ := S1_SC.mpr s1
  obtain ⟨F1, S1', IM1, ⟨T1, T2⟩, ⟨U1, U2, U3⟩, R1, Y1⟩ := id hρ
  obtain ⟨⟨A1, A2⟩, ⟨A3, A4, A5⟩, A6, ⟨A7, A8⟩, ⟨B3, B4⟩, A9⟩ := M1_SM.mpr S1'
  obtain ⟨⟨w1, w2, ⟨w3, w4⟩, w5, w6, w7⟩, w8, ⟨w9, w10⟩, w11⟩ := id hW
  have h00 : FxM (sF ρ 57 0 (.int (nI 0))) := FxM_sF F1 (Or.inr (by decide))
  have hv1 := w1.1
  have hv8 := w1.2.1
  have vC := fun (d : Nat) x => C_isVillage (d := d) f1 a1 hv1 hv8 x
  have vM := fun (d : Nat) x => M_isVillage' (d := d) (τ := sF ρ 57 0 (.int (nI 0))) F1 A1 hv1 hv8 x (Ag_F Ag_r rfl)
  by_cases hy : inr y 27
  · obtain ⟨e, he, rfl⟩ := inr_of (by omega) hy
    by_cases hx : inr x (v - 1)
    · obtain ⟨o, ho, rfl⟩ := inr_of (by omega) hx
      have H8 := Wf_8 w1 (c := 28 * o + e) (by omega)
      by_cases z : H (28 * o + e) = o
      · refine Prg 2 3 (-3) (by omega) rfl hC hρ hW ?_ ?_
        · simp (disch := first | omega | (repeat (first | assumption | exact Ag_r | refine Ag_I ?_ rfl | refine Ag_F ?_ rfl | refine Ag_J ?_ rfl))) only [A94, FC f1, C_isDay', if_pos hy, vC, if_pos hx, Nat.mul_comm o 28, a2 (28 * o + e) (by omega), z, C_refuse3 f1, CO, HA, HB, HC, Nat.not_lt_zero, Nat.add_assoc, c_nlt, c_nle, c_neq, c_P, c_cl, c_m1, c_m1', nI_add, pk_mul, reduceIte, Nat.reduceEqDiff, Nat.reduceAdd, Nat.reduceMul, Nat.reduceLeDiff, eq_self, ↓pk_rem, pk_div, c_of, d_le, d_nle, d_lt, d_nlt, d_eq, d_ne]
          exact Ev_s ⟨rfl, RfC_i⟩
        · simp (disch := first | omega | (repeat (first | assumption | exact Ag_r | refine Ag_I ?_ rfl | refine Ag_F ?_ rfl | refine Ag_J ?_ rfl))) only [A187, FM F1, M_isDay, if_pos hy, vM, if_pos hx, A2 (28 * o + e) (by omega), z, M_tell3 h00, CO, HA, HB, HC, Nat.not_lt_zero, Nat.add_assoc, c_nlt, c_nle, c_neq, c_P, c_cl, c_m1, c_m1', nI_add, pk_mul, reduceIte, Nat.reduceEqDiff, Nat.reduceAdd, Nat.reduceMul, Nat.reduceLeDiff, eq_self, ↓pk_rem, pk_div, c_of, d_le, d_nle, d_lt, d_nlt, d_eq, d_ne]
          exact Ev_s ⟨rfl, RfM_i⟩
      · refine ⟨nI (H (28 * o + e)), ((v, upN H (28 * o + e) o, fp, nl, fc, rn, (nd, dv, dd, de), (min (nu + 1) 32, unC nu (28 * o + e) uc, unC nu (H (28 * o + e)) uh), lw), im, (tl, tp), (nI 0, fg, ft), rf, (yv, yK)), ⟨⟨Wf_upd w1 (by omega) (by omega), w2, ⟨w3, w4⟩, w5, w6, unC_W (t := o) w7 (by omega) (w1.2.2.1 _ (by omega))⟩, w8, ⟨w9, w10⟩, w11⟩, ?_, ?_⟩
        · have mv := fun (d : Nat) => C_move (d := d) (t := o) f1 (show 28 * o + e < 224 by omega) (a2 (28 * o + e) (by omega)) b2 b3 b1 w7.1
          have g0 : Qb σ (sF (sF (sI (sI (sI σ 6 (upd (hI σ 6) tq (nI (28 * o + e)))) 7 (upd (hI σ 7) tq (nI (H (28 * o + e))))) 2 (upd (hI σ 2) (28 * o + e) (nI o))) 5 2 (.int (nI ((tq + 1) % 32)))) 5 3 (.int (nI (min (nu + 1) 32)))) := Ag_F (Ag_F (Ag_I (Ag_I (Ag_I Ag_r rfl) rfl) rfl) rfl) rfl
          have h3 := Qb_C g0 f1
          simp (disch := first | omega | (repeat (first | assumption | exact Ag_r | refine Ag_I ?_ rfl | refine Ag_F ?_ rfl | refine Ag_J ?_ rfl))) only [A94, FC f1, C_isDay', if_pos hy, vC, if_pos hx, Nat.mul_comm o 28, a2 (28 * o + e) (by omega), z, mv, C_accept h3, CO, HA, HB, HC, Nat.not_lt_zero, Nat.add_assoc, c_nlt, c_nle, c_neq, c_P, c_cl, c_m1, c_m1', nI_add, pk_mul, reduceIte, Nat.reduceEqDiff, Nat.reduceAdd, Nat.reduceMul, Nat.reduceLeDiff, eq_self, ↓pk_rem, pk_div, c_of, d_le, d_nle, d_lt, d_nlt, d_eq, d_ne]
          have g : Qb σ (sF (sF (sF (sI (sI (sI σ 6 (upd (hI σ 6) tq (nI (28 * o + e)))) 7 (upd (hI σ 7) tq (nI (H (28 * o + e))))) 2 (upd (hI σ 2) (28 * o + e) (nI o))) 5 2 (.int (nI ((tq + 1) % 32)))) 5 3 (.int (nI (min (nu + 1) 32)))) 0 11 (.int (nI 0))) := Ag_F (Ag_F (Ag_F (Ag_I (Ag_I (Ag_I Ag_r rfl) rfl) rfl) rfl) rfl) rfl
          exact Ev_s ⟨rfl, RC_b g hC ⟨⟨(by first | (simp only [HA, Nat.reduceEqDiff, false_and, and_false, and_self, reduceIte]; assumption) | assumption), fun c hc => by simp only [HA, Nat.reduceEqDiff, reduceIte, ua, upN]; split; rfl; exact a2 c hc⟩, ⟨(by first | (simp only [HA, Nat.reduceEqDiff, false_and, and_false, and_self, reduceIte]; assumption) | assumption), (by first | (simp only [HA, Nat.reduceEqDiff, false_and, and_false, and_self, reduceIte]; assumption) | assumption), (by first | (simp only [HA, Nat.reduceEqDiff, false_and, and_false, and_self, reduceIte]; assumption) | assumption)⟩, (by first | (simp only [HA, Nat.reduceEqDiff, false_and, and_false, and_self, reduceIte]; assumption) | assumption), ⟨(by first | (simp only [HA, Nat.reduceEqDiff, false_and, and_false, and_self, reduceIte]; assumption) | assumption), (by first | (simp only [HA, Nat.reduceEqDiff, false_and, and_false, and_self, reduceIte]; assumption) | assumption)⟩, ⟨(tq + 1) % 32, Nat.mod_lt _ (by omega), by simp only [HA, Nat.reduceEqDiff, false_and, and_false, and_self, reduceIte], by simp only [HA, Nat.reduceEqDiff, false_and, and_self, reduceIte], loans_C b1 w7.1 b4 (by simp only [HA, Nat.reduceEqDiff, reduceIte]) (by simp only [HA, Nat.reduceEqDiff, reduceIte])⟩, fun i hi => LaC_b g (a9 i hi)⟩ ⟨(by first | (simp only [HA, Nat.reduceEqDiff, false_and, and_false, and_self, reduceIte]; assumption) | assumption), (by first | (simp only [HA, Nat.reduceEqDiff, false_and, and_false, and_self, reduceIte]; assumption) | assumption)⟩ ⟨by simp only [HA, and_self, reduceIte], (by first | (simp only [HA, Nat.reduceEqDiff, false_and, and_false, and_self, reduceIte]; assumption) | assumption), (by first | (simp only [HA, Nat.reduceEqDiff, false_and, and_false, and_self, reduceIte]; assumption) | assumption)⟩ (by first | (simp only [HA, Nat.reduceEqDiff, false_and, and_false, and_self, reduceIte]; assumption) | assumption), SaM_b g, Rm_2 (Rm_a g)⟩
        · obtain ⟨f, e9, p1, p2, p3, p4⟩ := M_go (d := d + 6) (t := o) (c := 28 * o + e) (H := H) (uc := uc) (uh := uh) h00 (by omega) (by omega) (by simp only [HA]; exact A2 (28 * o + e) (by omega)) w7.1 (by simp only [HA]; exact B3) (by simp only [HA]; exact B4)
          simp only [HA] at p1
          simp (disch := first | omega | (repeat (first | assumption | exact Ag_r | refine Ag_I ?_ rfl | refine Ag_F ?_ rfl | refine Ag_J ?_ rfl))) only [A187, FM F1, M_isDay, if_pos hy, vM, if_pos hx, A2 (28 * o + e) (by omega), z, e9, CO, HA, HB, HC, Nat.not_lt_zero, Nat.add_assoc, c_nlt, c_nle, c_neq, c_P, c_cl, c_m1, c_m1', nI_add, pk_mul, reduceIte, Nat.reduceEqDiff, Nat.reduceAdd, Nat.reduceMul, Nat.reduceLeDiff, eq_self, ↓pk_rem, pk_div, c_of, d_le, d_nle, d_lt, d_nlt, d_eq, d_ne]
          have g : Qn ρ (sF (sF (sI ρ 59 f) 57 0 (.int (nI 0))) 57 1 (.int (nI 0))) := Ag_F (Ag_F (Ag_I Ag_r rfl) rfl) rfl
          have ag : ∀ z, ¬ (z = 5 ∨ z = 34 + (28 * o + e) ∨ (288 ≤ z ∧ z < 384)) → hI (sF (sF (sI ρ 59 f) 57 0 (.int (nI 0))) 57 1 (.int (nI 0))) 59 z = hI ρ 59 z := fun z hz => by simp only [HA, reduceIte]; exact p1 z hz
          exact Ev_s ⟨rfl, RM_n g hρ ⟨⟨by rw [ag 0 (by omega)]; exact A1, fun c hc => by
            by_cases q : c = 28 * o + e
            · rw [q]; simp only [HA, reduceIte, upN]; exact p2
            · rw [ag _ (by omega)]; unfold upN; rw [if_neg q]; exact A2 c hc⟩, tP (fun y hy => ag y (by omega)) ⟨A3, A4, A5⟩, tR (fun y hy => ag y (by omega)) A6, tD w6.1 (fun y hy => ag y (by omega)) ⟨A7, A8⟩, ⟨by simp only [HA, reduceIte]; exact p3, by simp only [HA, reduceIte]; exact p4⟩, tL (fun y hy => ag y (by omega)) A9⟩ ⟨(by first | (simp only [HA, Nat.reduceEqDiff, false_and, and_false, and_self, reduceIte]; assumption) | assumption), (by first | (simp only [HA, Nat.reduceEqDiff, false_and, and_false, and_self, reduceIte]; assumption) | assumption)⟩ ⟨by simp only [HA, and_self, reduceIte], (by first | (simp only [HA, Nat.reduceEqDiff, false_and, and_false, and_self, reduceIte]; assumption) | assumption), (by first | (simp only [HA, Nat.reduceEqDiff, false_and, and_false, and_self, reduceIte]; assumption) | assumption)⟩ (by first | (simp only [HA, Nat.reduceEqDiff, false_and, and_false, and_self, reduceIte]; assumption) | assumption), KM_n g⟩
    · refine Prg 1 2 (-2) (by omega) rfl hC hρ hW ?_ ?_
      · simp (disch := first | omega | (repeat (first | assumption | exact Ag_r | refine Ag_I ?_ rfl | refine Ag_F ?_ rfl | refine Ag_J ?_ rfl))) only [A94, FC f1, C_isDay', if_pos hy, vC, if_neg hx, C_refuse2 f1, CO, HA, HB, HC, Nat.not_lt_zero, Nat.add_assoc, c_nlt, c_nle, c_neq, c_P, c_cl, c_m1, c_m1', nI_add, pk_mul, reduceIte, Nat.reduceEqDiff, Nat.reduceAdd, Nat.reduceMul, Nat.reduceLeDiff, eq_self, ↓pk_rem, pk_div, c_of, d_le, d_nle, d_lt, d_nlt, d_eq, d_ne]
        exact Ev_s ⟨rfl, RfC_i⟩
      · simp (disch := first | omega | (repeat (first | assumption | exact Ag_r | refine Ag_I ?_ rfl | refine Ag_F ?_ rfl | refine Ag_J ?_ rfl))) only [A187, FM F1, M_isDay, if_pos hy, vM, if_neg hx, M_tell2 h00, CO, HA, HB, HC, Nat.not_lt_zero, Nat.add_assoc, c_nlt, c_nle, c_neq, c_P, c_cl, c_m1, c_m1', nI_add, pk_mul, reduceIte, Nat.reduceEqDiff, Nat.reduceAdd, Nat.reduceMul, Nat.reduceLeDiff, eq_self, ↓pk_rem, pk_div, c_of, d_le, d_nle, d_lt, d_nlt, d_eq, d_ne]
        exact Ev_s ⟨rfl, RfM_i⟩
  · refine Prg 0 1 (-1) (by omega) rfl hC hρ hW ?_ ?_
    · simp (disch := first | omega | (repeat (first | assumption | exact Ag_r | refine Ag_I ?_ rfl | refine Ag_F ?_ rfl | refine Ag_J ?_ rfl))) only [A94, FC f1, C_isDay', if_neg hy, C_refuse1 f1, CO, HA, HB, HC, Nat.not_lt_zero, Nat.add_assoc, c_nlt, c_nle, c_neq, c_P, c_cl, c_m1, c_m1', nI_add, pk_mul, reduceIte, Nat.reduceEqDiff, Nat.reduceAdd, Nat.reduceMul, Nat.reduceLeDiff, eq_self, ↓pk_rem, pk_div, c_of, d_le, d_nle, d_lt, d_nlt, d_eq, d_ne]
      exact Ev_s ⟨rfl, RfC_i⟩
    · simp (disch := first | omega | (repeat (first | assumption | exact Ag_r | refine Ag_I ?_ rfl | refine Ag_F ?_ rfl | refine Ag_J ?_ rfl))) only [A187, FM F1, M_isDay, if_neg hy, M_tell1 h00, CO, HA, HB, HC, Nat.not_lt_zero, Nat.add_assoc, c_nlt, c_nle, c_neq, c_P, c_cl, c_m1, c_m1', nI_add, pk_mul, reduceIte, Nat.reduceEqDiff, Nat.reduceAdd, Nat.reduceMul, Nat.reduceLeDiff, eq_self, ↓pk_rem, pk_div, c_of, d_le, d_nle, d_lt, d_nlt, d_eq, d_ne]
      exact Ev_s ⟨rfl, RfM_i⟩
theorem K_undo (hC : RC σ R) (hM : RM σ R) (hW : RW R) : Pr (fun σ => (499, 95, 0, [.ref 0], [], σ)) (fun σ => (499, 188, 0, [.ref 57, .float 0], [], σ)) σ (fun υ => ∃ R', Ok σ υ R') := by
  obtain ⟨d, hd⟩ : ∃ d, 499 = d + 8 := ⟨491, rfl⟩
  rw [hd]
  clear hd
  refine Pmut hC hM hW (fun ρ hρ => ?_)
  obtain ⟨⟨v, H, fp, nl, fc, rn, ⟨nd, dv, dd, de⟩, ⟨nu, uc, uh⟩, lw⟩, im, ⟨tl, tp⟩, ⟨st, fg, ft⟩, rf, ⟨yv, yK⟩⟩ := R
  obtain ⟨f1, s1, im1, ⟨t1, t2⟩, ⟨u1, u2, u3⟩, r1, y1⟩ := id hC
  obtain ⟨⟨a1, a2⟩, ⟨a3, a4, a5⟩, a6, ⟨a7, a8⟩, ⟨tq, b1, b2, b3, b4⟩, a9⟩ := S1_SC.mpr s1
  obtain ⟨F1, S1', IM1, ⟨T1, T2⟩, ⟨U1, U2, U3⟩, R1, Y1⟩ := id hρ
  obtain ⟨⟨A1, A2⟩, ⟨A3, A4, A5⟩, A6, ⟨A7, A8⟩, ⟨B3, B4⟩, A9⟩ := M1_SM.mpr S1'
  obtain ⟨⟨w1, w2, ⟨w3, w4⟩, w5, w6, w7⟩, w8, ⟨w9, w10⟩, w11⟩ := id hW
  have h00 : FxM (sF ρ 57 0 (.int (nI 0))) := FxM_sF F1 (Or.inr (by decide))
  by_cases z : nu = 0
  · subst z
    refine Prg 2 3 (-3) (by omega) rfl hC hρ hW ?_ ?_
    · simp (disch := first | omega | (repeat (first | assumption | exact Ag_r | refine Ag_I ?_ rfl | refine Ag_F ?_ rfl | refine Ag_J ?_ rfl))) only [A95, FC f1, b3, C_refuse3 f1, CO, HA, HB, HC, Nat.not_lt_zero, Nat.add_assoc, c_nlt, c_nle, c_neq, c_P, c_cl, c_m1, c_m1', nI_add, pk_mul, reduceIte, Nat.reduceEqDiff, Nat.reduceAdd, Nat.reduceMul, Nat.reduceLeDiff, eq_self, ↓pk_rem, pk_div, c_of, d_le, d_nle, d_lt, d_nlt, d_eq, d_ne]
      exact Ev_s ⟨rfl, RfC_i⟩
    · simp (disch := first | omega | (repeat (first | assumption | exact Ag_r | refine Ag_I ?_ rfl | refine Ag_F ?_ rfl | refine Ag_J ?_ rfl))) only [A188, FM F1, B3, M_tell3 h00, CO, HA, HB, HC, Nat.not_lt_zero, Nat.add_assoc, c_nlt, c_nle, c_neq, c_P, c_cl, c_m1, c_m1', nI_add, pk_mul, reduceIte, Nat.reduceEqDiff, Nat.reduceAdd, Nat.reduceMul, Nat.reduceLeDiff, eq_self, ↓pk_rem, pk_div, c_of, d_le, d_nle, d_lt, d_nlt, d_eq, d_ne]
      exact Ev_s ⟨rfl, RfM_i⟩
  · obtain ⟨n, rfl⟩ : ∃ n, nu = n + 1 := ⟨nu - 1, by omega⟩
    have hv1 := w1.1
    have hv8 := w1.2.1
    obtain ⟨q1, q2⟩ := w7.2 n (by omega)
    have n32 := w7.1
    obtain ⟨l1, l2⟩ := b4 n (by omega)
    have ix : (tq + 32 - (n + 1) + n) % 32 = (tq + 31) % 32 := by omega
    rw [ix] at l1 l2
    have m32 : (tq + 31) % 32 < 32 := Nat.mod_lt _ (by omega)
    obtain ⟨k1, k2, k3⟩ := B4 n (by omega)
    refine ⟨nI (uc n / 28), ((v, upN H (uc n) (uh n), fp, nl, fc, rn, (nd, dv, dd, de), (n, uc, uh), lw), im, (tl, tp), (nI 0, fg, ft), rf, (yv, yK)), ⟨⟨Wf_upd w1 q1 q2, w2, ⟨w3, w4⟩, w5, w6, ⟨by omega, fun i hi => w7.2 i (by omega)⟩⟩, w8, ⟨w9, w10⟩, w11⟩, ?_, ?_⟩
    · have g0 : Qb σ (sF (sF (sI σ 2 (upd (hI σ 2) (uc n) (nI (uh n)))) 5 2 (.int (nI ((tq + 31) % 32)))) 5 3 (.int (nI n))) := Ag_F (Ag_F (Ag_I Ag_r rfl) rfl) rfl
      have h3 := Qb_C g0 f1
      have t31 : nI (tq + 32) - nI 1 = nI (tq + 31) := by rw [pk_sub (by omega)]; rfl
      have mx0 : (if n < 0 then nI 0 else nI n) = nI n := by rw [if_neg (Nat.not_lt_zero n)]
      simp (disch := first | omega | (repeat (first | assumption | exact Ag_r | refine Ag_I ?_ rfl | refine Ag_F ?_ rfl | refine Ag_J ?_ rfl))) only [A95, A74, A42, FC f1, b2, b3, t31, n_s1, mx0, l1, l2, C_accept h3, CO, HA, HB, HC, Nat.not_lt_zero, Nat.add_assoc, c_nlt, c_nle, c_neq, c_P, c_cl, c_m1, c_m1', nI_add, pk_mul, reduceIte, Nat.reduceEqDiff, Nat.reduceAdd, Nat.reduceMul, Nat.reduceLeDiff, eq_self, ↓pk_rem, pk_div, c_of, d_le, d_nle, d_lt, d_nlt, d_eq, d_ne]
      have g : Qb σ (sF (sF (sF (sI σ 2 (upd (hI σ 2) (uc n) (nI (uh n)))) 5 2 (.int (nI ((tq + 31) % 32)))) 5 3 (.int (nI n))) 0 11 (.int (nI 0))) := Ag_F g0 rfl
      refine Ev_s ⟨rfl, RC_b g hC ⟨⟨(by first | (simp only [HA, Nat.reduceEqDiff, false_and, and_false, and_self, reduceIte]; assumption) | assumption), fun c hc => by simp only [HA, reduceIte, ua, upN]; split; rfl; exact a2 c hc⟩, ⟨(by first | (simp only [HA, Nat.reduceEqDiff, false_and, and_false, and_self, reduceIte]; assumption) | assumption), (by first | (simp only [HA, Nat.reduceEqDiff, false_and, and_false, and_self, reduceIte]; assumption) | assumption), (by first | (simp only [HA, Nat.reduceEqDiff, false_and, and_false, and_self, reduceIte]; assumption) | assumption)⟩, (by first | (simp only [HA, Nat.reduceEqDiff, false_and, and_false, and_self, reduceIte]; assumption) | assumption), ⟨(by first | (simp only [HA, Nat.reduceEqDiff, false_and, and_false, and_self, reduceIte]; assumption) | assumption), (by first | (simp only [HA, Nat.reduceEqDiff, false_and, and_false, and_self, reduceIte]; assumption) | assumption)⟩, ⟨(tq + 31) % 32, m32, by simp only [HA, Nat.reduceEqDiff, false_and, and_false, and_self, reduceIte], by simp only [HA, Nat.reduceEqDiff, false_and, and_self, reduceIte], fun i hi => ?_⟩, fun i hi => LaC_b g (a9 i hi)⟩ ⟨(by first | (simp only [HA, Nat.reduceEqDiff, false_and, and_false, and_self, reduceIte]; assumption) | assumption), (by first | (simp only [HA, Nat.reduceEqDiff, false_and, and_false, and_self, reduceIte]; assumption) | assumption)⟩ ⟨by simp only [HA, and_self, reduceIte], (by first | (simp only [HA, Nat.reduceEqDiff, false_and, and_false, and_self, reduceIte]; assumption) | assumption), (by first | (simp only [HA, Nat.reduceEqDiff, false_and, and_false, and_self, reduceIte]; assumption) | assumption)⟩ (by first | (simp only [HA, Nat.reduceEqDiff, false_and, and_false, and_self, reduceIte]; assumption) | assumption), SaM_b g, Rm_2 (Rm_a g)⟩
      have := b4 i (by omega)
      rw [show (tq + 32 - (n + 1) + i) % 32 = ((tq + 31) % 32 + 32 - n + i) % 32 by omega] at this
      simp only [HA, Nat.reduceEqDiff, reduceIte]
      exact this
    · have c28 : 28 * (uc n / 28) + uc n % 28 = uc n := by omega
      have md : uc n % 28 < 28 := Nat.mod_lt _ (by omega)
      have n1 : ¬ 288 + 3 * n = 5 := by omega
      have n2 : ¬ 288 + (3 * n + 1) = 5 := by omega
      have n3 : ¬ 288 + (3 * n + 2) = 5 := by omega
      have n4 : ¬ 288 + 3 * n = 34 + uc n := by omega
      have h3 : FxM (sF (sI ρ 59 (upd (upd (hI ρ 59) 5 (nI n)) (34 + uc n) (nI (uh n)))) 57 0 (.int (nI 0))) := FxM_a (P := Pn) (F := Fn) (Ag_F (Ag_I Ag_r rfl) rfl) (by decide) F1
      simp (disch := first | omega | (repeat (first | assumption | exact Ag_r | refine Ag_I ?_ rfl | refine Ag_F ?_ rfl | refine Ag_J ?_ rfl))) only [A188, FM F1, B3, n_s1, ua, n1, n2, n3, k1, k2, k3, c28, n4, M_tell h3 (show ¬ nI (uc n / 28) < nI 0 by rw [c_nlt (by omega) (by omega)]; omega), CO, HA, HB, HC, Nat.not_lt_zero, Nat.add_assoc, c_nlt, c_nle, c_neq, c_P, c_cl, c_m1, c_m1', nI_add, pk_mul, reduceIte, Nat.reduceEqDiff, Nat.reduceAdd, Nat.reduceMul, Nat.reduceLeDiff, eq_self, ↓pk_rem, pk_div, c_of, d_le, d_nle, d_lt, d_nlt, d_eq, d_ne]
      have g : Qn ρ (sF (sF (sI ρ 59 (upd (upd (hI ρ 59) 5 (nI n)) (34 + uc n) (nI (uh n)))) 57 0 (.int (nI 0))) 57 1 (.int (nI 0))) := Ag_F (Ag_F (Ag_I Ag_r rfl) rfl) rfl
      have ag : ∀ z, ¬ (z = 5 ∨ z = 34 + uc n) → hI (sF (sF (sI ρ 59 (upd (upd (hI ρ 59) 5 (nI n)) (34 + uc n) (nI (uh n)))) 57 0 (.int (nI 0))) 57 1 (.int (nI 0))) 59 z = hI ρ 59 z := fun z hz => by simp only [HA, reduceIte, ua]; rw [if_neg (by omega), if_neg (by omega)]
      exact Ev_s ⟨rfl, RM_n g hρ ⟨⟨by rw [ag 0 (by omega)]; exact A1, fun c hc => by
        by_cases q : c = uc n
        · rw [q]; simp only [HA, reduceIte, ua, upN]
        · rw [ag _ (by omega)]; unfold upN; rw [if_neg q]; exact A2 c hc⟩, tP (fun y hy => ag y (by omega)) ⟨A3, A4, A5⟩, tR (fun y hy => ag y (by omega)) A6, tD w6.1 (fun y hy => ag y (by omega)) ⟨A7, A8⟩, ⟨by simp only [HA, reduceIte, ua]; rw [if_neg (by omega)], fun i hi => by
        rw [ag _ (by omega), ag _ (by omega), ag _ (by omega)]; exact B4 i (by omega)⟩, tL (fun y hy => ag y (by omega)) A9⟩ ⟨(by first | (simp only [HA, Nat.reduceEqDiff, false_and, and_false, and_self, reduceIte]; assumption) | assumption), (by first | (simp only [HA, Nat.reduceEqDiff, false_and, and_false, and_self, reduceIte]; assumption) | assumption)⟩ ⟨by simp only [HA, and_self, reduceIte], (by first | (simp only [HA, Nat.reduceEqDiff, false_and, and_false, and_self, reduceIte]; assumption) | assumption), (by first | (simp only [HA, Nat.reduceEqDiff, false_and, and_false, and_self, reduceIte]; assumption) | assumption)⟩ (by first | (simp only [HA, Nat.reduceEqDiff, false_and, and_false, and_self, reduceIte]; assumption) | assumption), KM_n g⟩
theorem K_lend (hC : RC σ R) (hM : RM σ R) (hW : RW R) (x y z : Int32) : Pr (fun σ => (499, 93, 0, [.ref 0, .int x, .int y, .int z, .float 0], [], σ)) (fun σ => (499, 186, 0, [.ref 57, .int x, .int y, .int z, .float 0], [], σ)) σ (fun υ => ∃ R', Ok σ υ R') := by
  obtain ⟨d, hd⟩ : ∃ d, 499 = d + 8 := ⟨491, rfl⟩
  rw [hd]
  clear hd
  refine Pmut hC hM hW (fun ρ hρ => ?_)
  obtain ⟨⟨v, H, fp, nl, fc, rn, ⟨nd, dv, dd, de⟩, ⟨nu, uc, uh⟩, lw⟩, im, ⟨tl, tp⟩, ⟨st, fg, ft⟩, rf, ⟨yv, yK⟩⟩ := R
  obtain ⟨f1, s1, im1, ⟨t1, t2⟩, ⟨u1, u2, u3⟩, r1, y1⟩ := id hC
  obtain ⟨⟨a1, a2⟩, ⟨a3, a4, a5⟩, a6, ⟨a7, a8⟩, ⟨tq, b1, b2, b3, b4⟩, a9⟩ := S1_SC.mpr s1
  obtain ⟨F1, S1', IM1, ⟨T1, T2⟩, ⟨U1, U2, U3⟩, R1, Y1⟩ := id hρ
  obtain ⟨⟨A1, A2⟩, ⟨A3, A4, A5⟩, A6, ⟨A7, A8⟩, ⟨B3, B4⟩, A9⟩ := M1_SM.mpr S1'
  obtain ⟨⟨w1, w2, ⟨w3, w4⟩, w5, w6, w7⟩, w8, ⟨w9, w10⟩, w11⟩ := id hW
  have c1 := RC_g hC hW
  have m1 := RM_g hρ hW
  have h00 : FxM (sF ρ 57 0 (.int (nI 0))) := FxM_sF F1 (Or.inr (by decide))
  have hv1 := w1.1
  have hv8 := w1.2.1
  have vC := fun (d : Nat) x => C_isVillage (d := d) f1 a1 hv1 hv8 x
  have vM := fun (d : Nat) x => M_isVillage' (d := d) (τ := sF ρ 57 0 (.int (nI 0))) F1 A1 hv1 hv8 x (Ag_F Ag_r rfl)
  by_cases hy : inr y 27
  · obtain ⟨e, he, rfl⟩ := inr_of (by omega) hy
    by_cases hx : inr x (v - 1)
    · obtain ⟨o, ho, rfl⟩ := inr_of (by omega) hx
      by_cases hz : inr z (v - 1)
      · obtain ⟨t, ht, rfl⟩ := inr_of (by omega) hz
        have H8 := Wf_8 w1 (c := 28 * o + e) (by omega)
        have mld := M_load (d := d + 5) F1 ⟨A1, A2⟩ w1 (τ := sF ρ 57 0 (.int (nI 0))) (Ag_F Ag_r rfl)
        by_cases q : H (28 * o + e) = t
        · refine ⟨-3, ((v, H, fp, nl, fc, rn, (nd, dv, dd, de), (nu, uc, uh), lw), im, (tl, tp), (-3, fg, ft), rfu rf 2, (yv, yK)), hW, ?_, ?_⟩
          · simp (disch := first | omega | (repeat (first | assumption | exact Ag_r | refine Ag_I ?_ rfl | refine Ag_F ?_ rfl | refine Ag_J ?_ rfl))) only [A93, FC f1, C_isDay', if_pos hy, vC, if_pos hx, if_pos hz, Nat.mul_comm o 28, a2 (28 * o + e) (by omega), q, C_refuse3 f1, CO, HA, HB, HC, Nat.not_lt_zero, Nat.add_assoc, c_nlt, c_nle, c_neq, c_P, c_cl, c_m1, c_m1', nI_add, pk_mul, reduceIte, Nat.reduceEqDiff, Nat.reduceAdd, Nat.reduceMul, Nat.reduceLeDiff, eq_self, ↓pk_rem, pk_div, c_of, d_le, d_nle, d_lt, d_nlt, d_eq, d_ne]
            exact Ev_s ⟨rfl, RC_rf (k := 2) (by omega) hC RfC_i⟩
          · simp (disch := first | omega | (repeat (first | assumption | exact Ag_r | refine Ag_I ?_ rfl | refine Ag_F ?_ rfl | refine Ag_J ?_ rfl))) only [A186, FM F1, M_isDay, if_pos hy, vM, if_pos hx, if_pos hz, CO, HA, HB, HC, Nat.not_lt_zero, Nat.add_assoc, c_nlt, c_nle, c_neq, c_P, c_cl, c_m1, c_m1', nI_add, pk_mul, reduceIte, Nat.reduceEqDiff, Nat.reduceAdd, Nat.reduceMul, Nat.reduceLeDiff, eq_self, ↓pk_rem, pk_div, c_of, d_le, d_nle, d_lt, d_nlt, d_eq, d_ne]
            refine Ev_b mld ?_
            rintro _ τ ⟨rfl, hq, hl⟩
            have h' := Qm_M hq F1
            simp (disch := first | omega | (repeat (first | assumption | exact Ag_r | refine Ag_I ?_ rfl | refine Ag_F ?_ rfl | refine Ag_J ?_ rfl))) only [A186, FM h', hl.1 (28 * o + e) (by omega), q, M_tell3 h', CO, HA, HB, HC, Nat.not_lt_zero, Nat.add_assoc, c_nlt, c_nle, c_neq, c_P, c_cl, c_m1, c_m1', nI_add, pk_mul, reduceIte, Nat.reduceEqDiff, Nat.reduceAdd, Nat.reduceMul, Nat.reduceLeDiff, eq_self, ↓pk_rem, pk_div, c_of, d_le, d_nle, d_lt, d_nlt, d_eq, d_ne]
            have r2 := RM_rg (k := 2) (j := 3) (w := -3) (by omega) rfl (RM_q hq hρ)
            exact Ev_s ⟨rfl, r2.1, Ag_t (KM_q hq) r2.2⟩
        · have isb := C_isB (d := d + 1) c1.1 c1.2.1 w1 c1.2.2.1 (InC_Lf c1.1 c1.2.2.2.1) (c := 28 * o + e) (to := t) (by omega) (by omega) Ag_r
          have mib := fun (τ : Hp) (hq : Qm ρ τ) (hl : LdM τ v H) => M_isBarred (d := d + 1) m1.1 m1.2.2.1 (InM_Lf m1.1 m1.2.2.2.1) (c := 28 * o + e) (to := t) (by omega) (by omega) hq (HoM_ld w1 hl)
          by_cases bb : tb (lawT fc lw) 2 (barW rn (28 * o + e) (H (28 * o + e)) t (hd H v t)) = true
          · refine ⟨-3, ((v, H, fp, nl, fc, rn, (nd, dv, dd, de), (nu, uc, uh), lw), im, (tl, tp), (-3, fg, ft), rfu rf 2, (yv, yK)), hW, ?_, ?_⟩
            · simp (disch := first | omega | (repeat (first | assumption | exact Ag_r | refine Ag_I ?_ rfl | refine Ag_F ?_ rfl | refine Ag_J ?_ rfl))) only [A93, FC f1, C_isDay', if_pos hy, vC, if_pos hx, if_pos hz, Nat.mul_comm o 28, a2 (28 * o + e) (by omega), q, CO, HA, HB, HC, Nat.not_lt_zero, Nat.add_assoc, c_nlt, c_nle, c_neq, c_P, c_cl, c_m1, c_m1', nI_add, pk_mul, reduceIte, Nat.reduceEqDiff, Nat.reduceAdd, Nat.reduceMul, Nat.reduceLeDiff, eq_self, ↓pk_rem, pk_div, c_of, d_le, d_nle, d_lt, d_nlt, d_eq, d_ne]
              refine Ev_b isb ?_
              rintro _ τ ⟨rfl, g1⟩
              rw [if_pos bb]
              have h' := Qw_C g1 f1
              simp (disch := first | omega | (repeat (first | assumption | exact Ag_r | refine Ag_I ?_ rfl | refine Ag_F ?_ rfl | refine Ag_J ?_ rfl))) only [A93, FC h', C_refuse3 h', CO, HA, HB, HC, Nat.not_lt_zero, Nat.add_assoc, c_nlt, c_nle, c_neq, c_P, c_cl, c_m1, c_m1', nI_add, pk_mul, reduceIte, Nat.reduceEqDiff, Nat.reduceAdd, Nat.reduceMul, Nat.reduceLeDiff, eq_self, ↓pk_rem, pk_div, c_of, d_le, d_nle, d_lt, d_nlt, d_eq, d_ne]
              have r2 := RC_rf (k := 2) (w := -3) (by omega) (RC_q (Qw_c g1) hC) RfC_i
              exact Ev_s ⟨rfl, r2.1, SaM_t (SaM_q (Qw_c g1)) r2.2.1, Rm2_t (Rm_a g1) r2.2.2⟩
            · simp (disch := first | omega | (repeat (first | assumption | exact Ag_r | refine Ag_I ?_ rfl | refine Ag_F ?_ rfl | refine Ag_J ?_ rfl))) only [A186, FM F1, M_isDay, if_pos hy, vM, if_pos hx, if_pos hz, CO, HA, HB, HC, Nat.not_lt_zero, Nat.add_assoc, c_nlt, c_nle, c_neq, c_P, c_cl, c_m1, c_m1', nI_add, pk_mul, reduceIte, Nat.reduceEqDiff, Nat.reduceAdd, Nat.reduceMul, Nat.reduceLeDiff, eq_self, ↓pk_rem, pk_div, c_of, d_le, d_nle, d_lt, d_nlt, d_eq, d_ne]
              refine Ev_b mld ?_
              rintro _ τ ⟨rfl, hq, hl⟩
              have h' := Qm_M hq F1
              simp (disch := first | omega | (repeat (first | assumption | exact Ag_r | refine Ag_I ?_ rfl | refine Ag_F ?_ rfl | refine Ag_J ?_ rfl))) only [A186, FM h', hl.1 (28 * o + e) (by omega), q, CO, HA, HB, HC, Nat.not_lt_zero, Nat.add_assoc, c_nlt, c_nle, c_neq, c_P, c_cl, c_m1, c_m1', nI_add, pk_mul, reduceIte, Nat.reduceEqDiff, Nat.reduceAdd, Nat.reduceMul, Nat.reduceLeDiff, eq_self, ↓pk_rem, pk_div, c_of, d_le, d_nle, d_lt, d_nlt, d_eq, d_ne]
              refine Ev_b (mib τ hq hl) ?_
              rintro _ υ ⟨rfl, g2⟩
              rw [if_pos bb]
              have hq2 : Qm ρ υ := Ag_t hq (Qs_m g2)
              have h2 := Qm_M hq2 F1
              simp (disch := first | omega | (repeat (first | assumption | exact Ag_r | refine Ag_I ?_ rfl | refine Ag_F ?_ rfl | refine Ag_J ?_ rfl))) only [A186, FM h2, M_tell3 h2, CO, HA, HB, HC, Nat.not_lt_zero, Nat.add_assoc, c_nlt, c_nle, c_neq, c_P, c_cl, c_m1, c_m1', nI_add, pk_mul, reduceIte, Nat.reduceEqDiff, Nat.reduceAdd, Nat.reduceMul, Nat.reduceLeDiff, eq_self, ↓pk_rem, pk_div, c_of, d_le, d_nle, d_lt, d_nlt, d_eq, d_ne]
              have r2 := RM_rg (k := 2) (j := 3) (w := -3) (by omega) rfl (RM_q hq2 hρ)
              exact Ev_s ⟨rfl, r2.1, Ag_t (KM_q hq2) r2.2⟩
          · refine ⟨nI (H (28 * o + e)), ((v, upN H (28 * o + e) t, fp, nl, fc, rn, (nd, dv, dd, de), (min (nu + 1) 32, unC nu (28 * o + e) uc, unC nu (H (28 * o + e)) uh), lw), im, (tl, tp), (nI 0, fg, ft), rf, (yv, yK)), ⟨⟨Wf_upd w1 (by omega) (by omega), w2, ⟨w3, w4⟩, w5, w6, unC_W (t := t) w7 (by omega) (w1.2.2.1 _ (by omega))⟩, w8, ⟨w9, w10⟩, w11⟩, ?_, ?_⟩
            · simp (disch := first | omega | (repeat (first | assumption | exact Ag_r | refine Ag_I ?_ rfl | refine Ag_F ?_ rfl | refine Ag_J ?_ rfl))) only [A93, FC f1, C_isDay', if_pos hy, vC, if_pos hx, if_pos hz, Nat.mul_comm o 28, a2 (28 * o + e) (by omega), q, CO, HA, HB, HC, Nat.not_lt_zero, Nat.add_assoc, c_nlt, c_nle, c_neq, c_P, c_cl, c_m1, c_m1', nI_add, pk_mul, reduceIte, Nat.reduceEqDiff, Nat.reduceAdd, Nat.reduceMul, Nat.reduceLeDiff, eq_self, ↓pk_rem, pk_div, c_of, d_le, d_nle, d_lt, d_nlt, d_eq, d_ne]
              refine Ev_b isb ?_
              rintro _ τ ⟨rfl, g1⟩
              rw [if_neg bb]
              have hC' := RC_q (Qw_c g1) hC
              clear y1 r1 u1 u2 u3 t1 t2 im1 a9 a8 a7 a6 a5 a4 a3 b4 b3 b2 b1 tq a2 a1 s1
              obtain ⟨f1', s1, im1, ⟨t1, t2⟩, ⟨u1, u2, u3⟩, r1, y1⟩ := id hC'
              obtain ⟨⟨a1, a2⟩, ⟨a3, a4, a5⟩, a6, ⟨a7, a8⟩, ⟨tq, b1, b2, b3, b4⟩, a9⟩ := S1_SC.mpr s1
              have mv := fun (d : Nat) => C_move (d := d) (t := t) f1' (show 28 * o + e < 224 by omega) (a2 (28 * o + e) (by omega)) b2 b3 b1 w7.1
              have g0 : Qb τ (sF (sF (sI (sI (sI τ 6 (upd (hI τ 6) tq (nI (28 * o + e)))) 7 (upd (hI τ 7) tq (nI (H (28 * o + e))))) 2 (upd (hI τ 2) (28 * o + e) (nI t))) 5 2 (.int (nI ((tq + 1) % 32)))) 5 3 (.int (nI (min (nu + 1) 32)))) := Ag_F (Ag_F (Ag_I (Ag_I (Ag_I Ag_r rfl) rfl) rfl) rfl) rfl
              have h3 := Qb_C g0 f1'
              simp (disch := first | omega | (repeat (first | assumption | exact Ag_r | refine Ag_I ?_ rfl | refine Ag_F ?_ rfl | refine Ag_J ?_ rfl))) only [A93, FC f1', Nat.mul_comm o 28, mv, C_accept h3, CO, HA, HB, HC, Nat.not_lt_zero, Nat.add_assoc, c_nlt, c_nle, c_neq, c_P, c_cl, c_m1, c_m1', nI_add, pk_mul, reduceIte, Nat.reduceEqDiff, Nat.reduceAdd, Nat.reduceMul, Nat.reduceLeDiff, eq_self, ↓pk_rem, pk_div, c_of, d_le, d_nle, d_lt, d_nlt, d_eq, d_ne]
              have g : Qb τ (sF (sF (sF (sI (sI (sI τ 6 (upd (hI τ 6) tq (nI (28 * o + e)))) 7 (upd (hI τ 7) tq (nI (H (28 * o + e))))) 2 (upd (hI τ 2) (28 * o + e) (nI t))) 5 2 (.int (nI ((tq + 1) % 32)))) 5 3 (.int (nI (min (nu + 1) 32)))) 0 11 (.int (nI 0))) := Ag_F g0 rfl
              exact Ev_s ⟨rfl, RC_b g hC' ⟨⟨(by first | (simp only [HA, Nat.reduceEqDiff, false_and, and_false, and_self, reduceIte]; assumption) | assumption), fun c hc => by simp only [HA, Nat.reduceEqDiff, reduceIte, ua, upN]; split; rfl; exact a2 c hc⟩, ⟨(by first | (simp only [HA, Nat.reduceEqDiff, false_and, and_false, and_self, reduceIte]; assumption) | assumption), (by first | (simp only [HA, Nat.reduceEqDiff, false_and, and_false, and_self, reduceIte]; assumption) | assumption), (by first | (simp only [HA, Nat.reduceEqDiff, false_and, and_false, and_self, reduceIte]; assumption) | assumption)⟩, (by first | (simp only [HA, Nat.reduceEqDiff, false_and, and_false, and_self, reduceIte]; assumption) | assumption), ⟨(by first | (simp only [HA, Nat.reduceEqDiff, false_and, and_false, and_self, reduceIte]; assumption) | assumption), (by first | (simp only [HA, Nat.reduceEqDiff, false_and, and_false, and_self, reduceIte]; assumption) | assumption)⟩, ⟨(tq + 1) % 32, Nat.mod_lt _ (by omega), by simp only [HA, Nat.reduceEqDiff, false_and, and_false, and_self, reduceIte], by simp only [HA, Nat.reduceEqDiff, false_and, and_self, reduceIte], loans_C b1 w7.1 b4 (by simp only [HA, Nat.reduceEqDiff, reduceIte]) (by simp only [HA, Nat.reduceEqDiff, reduceIte])⟩, fun i hi => LaC_b g (a9 i hi)⟩ ⟨(by first | (simp only [HA, Nat.reduceEqDiff, false_and, and_false, and_self, reduceIte]; assumption) | assumption), (by first | (simp only [HA, Nat.reduceEqDiff, false_and, and_false, and_self, reduceIte]; assumption) | assumption)⟩ ⟨by simp only [HA, and_self, reduceIte], (by first | (simp only [HA, Nat.reduceEqDiff, false_and, and_false, and_self, reduceIte]; assumption) | assumption), (by first | (simp only [HA, Nat.reduceEqDiff, false_and, and_false, and_self, reduceIte]; assumption) | assumption)⟩ (by first | (simp only [HA, Nat.reduceEqDiff, false_and, and_false, and_self, reduceIte]; assumption) | assumption), SaM_t (SaM_q (Qw_c g1)) (SaM_b g), Rm2_t (Rm_a g1) (Rm_2 (Rm_a g))⟩
            · simp (disch := first | omega | (repeat (first | assumption | exact Ag_r | refine Ag_I ?_ rfl | refine Ag_F ?_ rfl | refine Ag_J ?_ rfl))) only [A186, FM F1, M_isDay, if_pos hy, vM, if_pos hx, if_pos hz, CO, HA, HB, HC, Nat.not_lt_zero, Nat.add_assoc, c_nlt, c_nle, c_neq, c_P, c_cl, c_m1, c_m1', nI_add, pk_mul, reduceIte, Nat.reduceEqDiff, Nat.reduceAdd, Nat.reduceMul, Nat.reduceLeDiff, eq_self, ↓pk_rem, pk_div, c_of, d_le, d_nle, d_lt, d_nlt, d_eq, d_ne]
              refine Ev_b mld ?_
              rintro _ τ ⟨rfl, hq, hl⟩
              have h' := Qm_M hq F1
              simp (disch := first | omega | (repeat (first | assumption | exact Ag_r | refine Ag_I ?_ rfl | refine Ag_F ?_ rfl | refine Ag_J ?_ rfl))) only [A186, FM h', hl.1 (28 * o + e) (by omega), q, CO, HA, HB, HC, Nat.not_lt_zero, Nat.add_assoc, c_nlt, c_nle, c_neq, c_P, c_cl, c_m1, c_m1', nI_add, pk_mul, reduceIte, Nat.reduceEqDiff, Nat.reduceAdd, Nat.reduceMul, Nat.reduceLeDiff, eq_self, ↓pk_rem, pk_div, c_of, d_le, d_nle, d_lt, d_nlt, d_eq, d_ne]
              refine Ev_b (mib τ hq hl) ?_
              rintro _ υ ⟨rfl, g2⟩
              rw [if_neg bb]
              have hq2 : Qm ρ υ := Ag_t hq (Qs_m g2)
              have hρ' := RM_q hq2 hρ
              have h2 := Qm_M hq2 F1
              have e59 := Ag_i hq2 59 rfl
              obtain ⟨f, e9, p1, p2, p3, p4⟩ := M_go (d := d + 6) (t := t) (c := 28 * o + e) (H := H) (uc := uc) (uh := uh) h2 (by omega) (by omega) (by rw [e59]; exact A2 (28 * o + e) (by omega)) w7.1 (by rw [e59]; exact B3) (by rw [e59]; exact B4)
              simp (disch := first | omega | (repeat (first | assumption | exact Ag_r | refine Ag_I ?_ rfl | refine Ag_F ?_ rfl | refine Ag_J ?_ rfl))) only [A186, FM h2, e9, CO, HA, HB, HC, Nat.not_lt_zero, Nat.add_assoc, c_nlt, c_nle, c_neq, c_P, c_cl, c_m1, c_m1', nI_add, pk_mul, reduceIte, Nat.reduceEqDiff, Nat.reduceAdd, Nat.reduceMul, Nat.reduceLeDiff, eq_self, ↓pk_rem, pk_div, c_of, d_le, d_nle, d_lt, d_nlt, d_eq, d_ne]
              have g : Qn υ (sF (sI υ 59 f) 57 1 (.int (nI 0))) := Ag_F (Ag_I Ag_r rfl) rfl
              have ag : ∀ z, ¬ (z = 5 ∨ z = 34 + (28 * o + e) ∨ (288 ≤ z ∧ z < 384)) → hI (sF (sI υ 59 f) 57 1 (.int (nI 0))) 59 z = hI ρ 59 z := fun z hz => by simp only [HA, reduceIte]; rw [p1 z hz, e59]
              obtain ⟨-, -, -, ⟨T1', T2'⟩, ⟨U1', U2', U3'⟩, R1', -⟩ := id hρ'
              exact Ev_s ⟨rfl, RM_n g hρ' ⟨⟨by rw [ag 0 (by omega)]; exact A1, fun c hc => by
                by_cases q : c = 28 * o + e
                · rw [q]; simp only [HA, reduceIte, upN]; exact p2
                · rw [ag _ (by omega)]; unfold upN; rw [if_neg q]; exact A2 c hc⟩, tP (fun y hy => ag y (by omega)) ⟨A3, A4, A5⟩, tR (fun y hy => ag y (by omega)) A6, tD w6.1 (fun y hy => ag y (by omega)) ⟨A7, A8⟩, ⟨by simp only [HA, reduceIte]; exact p3, by simp only [HA, reduceIte]; exact p4⟩, tL (fun y hy => ag y (by omega)) A9⟩ ⟨(by first | (simp only [HA, Nat.reduceEqDiff, false_and, and_false, and_self, reduceIte]; assumption) | assumption), (by first | (simp only [HA, Nat.reduceEqDiff, false_and, and_false, and_self, reduceIte]; assumption) | assumption)⟩ ⟨by simp only [HA, and_self, reduceIte], (by first | (simp only [HA, Nat.reduceEqDiff, false_and, and_false, and_self, reduceIte]; assumption) | assumption), (by first | (simp only [HA, Nat.reduceEqDiff, false_and, and_false, and_self, reduceIte]; assumption) | assumption)⟩ (by first | (simp only [HA, Nat.reduceEqDiff, false_and, and_false, and_self, reduceIte]; assumption) | assumption), Ag_t (KM_q hq2) (KM_n g)⟩
      · refine Prg 1 2 (-2) (by omega) rfl hC hρ hW ?_ ?_
        · simp (disch := first | omega | (repeat (first | assumption | exact Ag_r | refine Ag_I ?_ rfl | refine Ag_F ?_ rfl | refine Ag_J ?_ rfl))) only [A93, FC f1, C_isDay', if_pos hy, vC, if_pos hx, if_neg hz, C_refuse2 f1, CO, HA, HB, HC, Nat.not_lt_zero, Nat.add_assoc, c_nlt, c_nle, c_neq, c_P, c_cl, c_m1, c_m1', nI_add, pk_mul, reduceIte, Nat.reduceEqDiff, Nat.reduceAdd, Nat.reduceMul, Nat.reduceLeDiff, eq_self, ↓pk_rem, pk_div, c_of, d_le, d_nle, d_lt, d_nlt, d_eq, d_ne]
          exact Ev_s ⟨rfl, RfC_i⟩
        · simp (disch := first | omega | (repeat (first | assumption | exact Ag_r | refine Ag_I ?_ rfl | refine Ag_F ?_ rfl | refine Ag_J ?_ rfl))) only [A186, FM F1, M_isDay, if_pos hy, vM, if_pos hx, if_neg hz, M_tell2 h00, CO, HA, HB, HC, Nat.not_lt_zero, Nat.add_assoc, c_nlt, c_nle, c_neq, c_P, c_cl, c_m1, c_m1', nI_add, pk_mul, reduceIte, Nat.reduceEqDiff, Nat.reduceAdd, Nat.reduceMul, Nat.reduceLeDiff, eq_self, ↓pk_rem, pk_div, c_of, d_le, d_nle, d_lt, d_nlt, d_eq, d_ne]
          exact Ev_s ⟨rfl, RfM_i⟩
    · refine Prg 1 2 (-2) (by omega) rfl hC hρ hW ?_ ?_
      · simp (disch := first | omega | (repeat (first | assumption | exact Ag_r | refine Ag_I ?_ rfl | refine Ag_F ?_ rfl | refine Ag_J ?_ rfl))) only [A93, FC f1, C_isDay', if_pos hy, vC, if_neg hx, C_refuse2 f1, CO, HA, HB, HC, Nat.not_lt_zero, Nat.add_assoc, c_nlt, c_nle, c_neq, c_P, c_cl, c_m1, c_m1', nI_add, pk_mul, reduceIte, Nat.reduceEqDiff, Nat.reduceAdd, Nat.reduceMul, Nat.reduceLeDiff, eq_self, ↓pk_rem, pk_div, c_of, d_le, d_nle, d_lt, d_nlt, d_eq, d_ne]
        exact Ev_s ⟨rfl, RfC_i⟩
      · simp (disch := first | omega | (repeat (first | assumption | exact Ag_r | refine Ag_I ?_ rfl | refine Ag_F ?_ rfl | refine Ag_J ?_ rfl))) only [A186, FM F1, M_isDay, if_pos hy, vM, if_neg hx, M_tell2 h00, CO, HA, HB, HC, Nat.not_lt_zero, Nat.add_assoc, c_nlt, c_nle, c_neq, c_P, c_cl, c_m1, c_m1', nI_add, pk_mul, reduceIte, Nat.reduceEqDiff, Nat.reduceAdd, Nat.reduceMul, Nat.reduceLeDiff, eq_self, ↓pk_rem, pk_div, c_of, d_le, d_nle, d_lt, d_nlt, d_eq, d_ne]
        exact Ev_s ⟨rfl, RfM_i⟩
  · refine Prg 0 1 (-1) (by omega) rfl hC hρ hW ?_ ?_
    · simp (disch := first | omega | (repeat (first | assumption | exact Ag_r | refine Ag_I ?_ rfl | refine Ag_F ?_ rfl | refine Ag_J ?_ rfl))) only [A93, FC f1, C_isDay', if_neg hy, C_refuse1 f1, CO, HA, HB, HC, Nat.not_lt_zero, Nat.add_assoc, c_nlt, c_nle, c_neq, c_P, c_cl, c_m1, c_m1', nI_add, pk_mul, reduceIte, Nat.reduceEqDiff, Nat.reduceAdd, Nat.reduceMul, Nat.reduceLeDiff, eq_self, ↓pk_rem, pk_div, c_of, d_le, d_nle, d_lt, d_nlt, d_eq, d_ne]
      exact Ev_s ⟨rfl, RfC_i⟩
    · simp (disch := first | omega | (repeat (first | assumption | exact Ag_r | refine Ag_I ?_ rfl | refine Ag_F ?_ rfl | refine Ag_J ?_ rfl))) only [A186, FM F1, M_isDay, if_neg hy, M_tell1 h00, CO, HA, HB, HC, Nat.not_lt_zero, Nat.add_assoc, c_nlt, c_nle, c_neq, c_P, c_cl, c_m1, c_m1', nI_add, pk_mul, reduceIte, Nat.reduceEqDiff, Nat.reduceAdd, Nat.reduceMul, Nat.reduceLeDiff, eq_self, ↓pk_rem, pk_div, c_of, d_le, d_nle, d_lt, d_nlt, d_eq, d_ne]
      exact Ev_s ⟨rfl, RfM_i⟩
end
