/-! back -/
section
variable {σ : Hp} {R : AllT}
theorem K_back (hC : RC σ R) (hM : RM σ R) (hW : RW R) (hL : RLw σ) (x : Int32) : Pr (fun σ => (499, 116, 0, [.ref 0, .int x], [], σ)) (fun σ => (499, 138, 0, [.ref 57, .int x, .float 0], [], σ)) σ (fun υ => ∃ R', Ok σ υ R') := by
  obtain ⟨d, hd⟩ : ∃ d, 499 = d + 8 := ⟨491, rfl⟩
  rw [hd]
  clear hd
  refine Pmut hC hM hW (fun ρ hρ => ?_)
  obtain ⟨S, im, ⟨tl, tp⟩, ⟨st, fg, ft⟩, rf, ⟨yv, yK⟩⟩ := R
  obtain ⟨f1, s1, im1, ⟨t1, t2⟩, ⟨u1, u2, u3⟩, r1, y1⟩ := id hC
  obtain ⟨F1, S1', IM1, ⟨T1, T2⟩, ⟨U1, U2, U3⟩, R1, Y1⟩ := id hρ
  obtain ⟨w0, w8, ⟨w9, w10⟩, w11⟩ := id hW
  have h00 : FxM (sF ρ 57 0 (.int (nI 0))) := FxM_sF F1 (Or.inr (by decide))
  rcases tri x 1 (by omega) with hx | ⟨k, hk, rfl⟩ | ⟨k, hk, hk2, rfl⟩
  · refine Prg 0 1 (-1) (by omega) rfl hC hρ hW ?_ ?_
    · simp (disch := first | omega | (repeat (first | assumption | exact Ag_r | refine Ag_I ?_ rfl | refine Ag_F ?_ rfl | refine Ag_J ?_ rfl))) only [A116, A124, FC f1, ng hx, C_refuse1 f1, CO, HA, HB, HC, Nat.not_lt_zero, Nat.add_assoc, c_nlt, c_nle, c_neq, c_P, c_cl, c_m1, c_m1', nI_add, pk_mul, reduceIte, Nat.reduceEqDiff, Nat.reduceAdd, Nat.reduceMul, Nat.reduceLeDiff, eq_self, ↓pk_rem, pk_div, c_of, d_le, d_nle, d_lt, d_nlt, d_eq, d_ne]
      exact Ev_s ⟨rfl, RfC_i⟩
    · simp (disch := first | omega | (repeat (first | assumption | exact Ag_r | refine Ag_I ?_ rfl | refine Ag_F ?_ rfl | refine Ag_J ?_ rfl))) only [A138, FM F1, M_in, l_lo, l_hi, ng hx, M_tell1 h00, CO, HA, HB, HC, Nat.not_lt_zero, Nat.add_assoc, c_nlt, c_nle, c_neq, c_P, c_cl, c_m1, c_m1', nI_add, pk_mul, reduceIte, Nat.reduceEqDiff, Nat.reduceAdd, Nat.reduceMul, Nat.reduceLeDiff, eq_self, ↓pk_rem, pk_div, c_of, d_le, d_nle, d_lt, d_nlt, d_eq, d_ne]
      exact Ev_s ⟨rfl, RfM_i⟩
  · have i13 := (im1 k (by omega)).1
    have i61 := (IM1 k (by omega)).1
    rcases e : im k with _ | S'
    · rw [e] at i13 i61
      simp only [Option.isSome_none, Bool.false_eq_true, reduceIte] at i13 i61
      refine Prg 1 2 (-2) (by omega) rfl hC hρ hW ?_ ?_
      · simp (disch := first | omega | (repeat (first | assumption | exact Ag_r | refine Ag_I ?_ rfl | refine Ag_F ?_ rfl | refine Ag_J ?_ rfl))) only [A116, A124, FC f1, i13, C_refuse2 f1, CO, HA, HB, HC, Nat.not_lt_zero, Nat.add_assoc, c_nlt, c_nle, c_neq, c_P, c_cl, c_m1, c_m1', nI_add, pk_mul, reduceIte, Nat.reduceEqDiff, Nat.reduceAdd, Nat.reduceMul, Nat.reduceLeDiff, eq_self, ↓pk_rem, pk_div, c_of, d_le, d_nle, d_lt, d_nlt, d_eq, d_ne]
        exact Ev_s ⟨rfl, RfC_i⟩
      · simp (disch := first | omega | (repeat (first | assumption | exact Ag_r | refine Ag_I ?_ rfl | refine Ag_F ?_ rfl | refine Ag_J ?_ rfl))) only [A138, FM F1, M_in, l_lo, l_hi, i61, M_tell2 h00, CO, HA, HB, HC, Nat.not_lt_zero, Nat.add_assoc, c_nlt, c_nle, c_neq, c_P, c_cl, c_m1, c_m1', nI_add, pk_mul, reduceIte, Nat.reduceEqDiff, Nat.reduceAdd, Nat.reduceMul, Nat.reduceLeDiff, eq_self, ↓pk_rem, pk_div, c_of, d_le, d_nle, d_lt, d_nlt, d_eq, d_ne]
        exact Ev_s ⟨rfl, RfM_i⟩
    · rw [e] at i13 i61
      simp only [Option.isSome_some, reduceIte] at i13 i61
      have ws := w8 k S' (by omega) e
      refine ⟨nI 0, (S', im, (tl, tp), (nI 0, fg, ft), rf, (yv, yK)), ⟨ws, w8, ⟨w9, w10⟩, w11⟩, ?_, ?_⟩
      · have fin : ∀ υ, Bf 1 σ υ → SC υ 1 S' → tyL υ 4 → Ev (some (some (Value.int (nI 0)), sF υ 0 11 (.int (nI 0)))) (fun a τ => a = some (.int (nI 0)) ∧ RC τ (S', im, (tl, tp), (nI 0, fg, ft), rf, (yv, yK)) ∧ SaM σ τ ∧ Rm2 σ τ) := by
          intro υ g sb ty
          have hb : 1 = 1 ∨ 1 = 35 ∨ 1 = 46 := Or.inl rfl
          have f2 := Bf_C g hb f1
          have ga : Ag (fun _ => false) (fun z j => Nat.beq z 0 && Nat.beq j 11) υ (sF υ 0 11 (.int (nI 0))) := Ag_F Ag_r rfl
          have hX : ∀ z, Xc z → (fun _ => false) z = false := fun z hz => rfl
          have hF : ∀ z j, Xc z → (Nat.beq z 0 && Nat.beq j 11) = false := fun z j hz => by rw [bq (show ¬ z = 0 by unfold Xc at hz; omega)]; rfl
          have g3 := g.2.2.1
          refine Ev_s ⟨rfl, ⟨FxC_a ga (by decide) f2, SC_a ga hX hF (Or.inl rfl) sb, fun j hj => ⟨?_, fun S' e => ?_⟩, ⟨?_, ?_⟩, ⟨by simp only [HA, and_self, reduceIte], ?_, ?_⟩, ?_, ?_, ?_, ?_⟩, SaM_t (Bf_S g hb) (SaM_a ga (fun z h1 h2 => ⟨rfl, fun j => by rw [bq (show ¬ z = 0 by omega)]; rfl⟩)), ⟨⟨by simp only [HB]; rw [g.1.1]; omega, by simp only [HB]; rw [g.1.2.1]; omega⟩, fun r => ?_⟩⟩
          · simp only [HA]; rw [(g3 13 (by omega)).1]; exact (im1 j hj).1
          · exact SC_a ga hX hF (by omega) (SC_f g (by omega) (by omega) ((im1 j hj).2 S' e))
          · simp only [HA, Nat.reduceEqDiff, false_and, reduceIte]; rw [(g3 16 (by omega)).2.2]; exact t1
          · simp only [HA]; rw [(g3 17 (by omega)).1]; exact t2
          · simp only [HA, Nat.reduceEqDiff, and_false, reduceIte]; rw [(g3 0 (by omega)).2.2]; exact u2
          · simp only [HA, Nat.reduceEqDiff, and_false, reduceIte]; rw [(g3 0 (by omega)).2.2]; exact u3
          · simp only [HA]; rw [(g3 34 (by omega)).1]; exact r1
          · simp only [HA, Nat.reduceEqDiff, false_and, reduceIte]; rw [(g3 31 (by omega)).2.2]; exact y1.1
          · simp only [HA]; rw [(g3 32 (by omega)).1]; exact y1.2.1
          · simp only [HA]; rw [(g3 33 (by omega)).1]; exact y1.2.2
          · have := Bf_L g hb ty r
            unfold RLw at this ⊢
            simp only [HA, HB]
            exact this
        have sk := (im1 k (by omega)).2 S' e
        obtain rfl | rfl : k = 0 ∨ k = 1 := by omega
        · simp (disch := first | omega | (repeat (first | assumption | exact Ag_r | refine Ag_I ?_ rfl | refine Ag_F ?_ rfl | refine Ag_J ?_ rfl))) only [A116, A124, FC f1, i13, mxQ, CO, HA, HB, HC, Nat.not_lt_zero, Nat.add_assoc, c_nlt, c_nle, c_neq, c_P, c_cl, c_m1, c_m1', nI_add, pk_mul, reduceIte, Nat.reduceEqDiff, Nat.reduceAdd, Nat.reduceMul, Nat.reduceLeDiff, eq_self, ↓pk_rem, pk_div, c_of, d_le, d_nle, d_lt, d_nlt, d_eq, d_ne]
          refine Ev_b (C_bec_1_35 (d := d + 5) f1 sk ws (hL 38 (by omega))) ?_
          rintro _ υ ⟨rfl, g, sb, ty⟩
          have f2 := Bf_C g (by omega) f1
          refine Ev_e ?_ (fin υ g sb ty)
          simp (disch := first | omega | (repeat (first | assumption | exact Ag_r | refine Ag_I ?_ rfl | refine Ag_F ?_ rfl | refine Ag_J ?_ rfl))) only [A116, FC f2, C_accept f2, CO, HA, HB, HC, Nat.not_lt_zero, Nat.add_assoc, c_nlt, c_nle, c_neq, c_P, c_cl, c_m1, c_m1', nI_add, pk_mul, reduceIte, Nat.reduceEqDiff, Nat.reduceAdd, Nat.reduceMul, Nat.reduceLeDiff, eq_self, ↓pk_rem, pk_div, c_of, d_le, d_nle, d_lt, d_nlt, d_eq, d_ne]
        · simp (disch := first | omega | (repeat (first | assumption | exact Ag_r | refine Ag_I ?_ rfl | refine Ag_F ?_ rfl | refine Ag_J ?_ rfl))) only [A116, A124, FC f1, i13, mxQ, CO, HA, HB, HC, Nat.not_lt_zero, Nat.add_assoc, c_nlt, c_nle, c_neq, c_P, c_cl, c_m1, c_m1', nI_add, pk_mul, reduceIte, Nat.reduceEqDiff, Nat.reduceAdd, Nat.reduceMul, Nat.reduceLeDiff, eq_self, ↓pk_rem, pk_div, c_of, d_le, d_nle, d_lt, d_nlt, d_eq, d_ne]
          refine Ev_b (C_bec_1_46 (d := d + 5) f1 sk ws (hL 49 (by omega))) ?_
          rintro _ υ ⟨rfl, g, sb, ty⟩
          have f2 := Bf_C g (by omega) f1
          refine Ev_e ?_ (fin υ g sb ty)
          simp (disch := first | omega | (repeat (first | assumption | exact Ag_r | refine Ag_I ?_ rfl | refine Ag_F ?_ rfl | refine Ag_J ?_ rfl))) only [A116, FC f2, C_accept f2, CO, HA, HB, HC, Nat.not_lt_zero, Nat.add_assoc, c_nlt, c_nle, c_neq, c_P, c_cl, c_m1, c_m1', nI_add, pk_mul, reduceIte, Nat.reduceEqDiff, Nat.reduceAdd, Nat.reduceMul, Nat.reduceLeDiff, eq_self, ↓pk_rem, pk_div, c_of, d_le, d_nle, d_lt, d_nlt, d_eq, d_ne]
      · simp (disch := first | omega | (repeat (first | assumption | exact Ag_r | refine Ag_I ?_ rfl | refine Ag_F ?_ rfl | refine Ag_J ?_ rfl))) only [A138, FM F1, M_in, l_lo, l_hi, i61, CO, HA, HB, HC, Nat.not_lt_zero, Nat.add_assoc, c_nlt, c_nle, c_neq, c_P, c_cl, c_m1, c_m1', nI_add, pk_mul, reduceIte, Nat.reduceEqDiff, Nat.reduceAdd, Nat.reduceMul, Nat.reduceLeDiff, eq_self, ↓pk_rem, pk_div, c_of, d_le, d_nle, d_lt, d_nlt, d_eq, d_ne]
        refine lp (α := Nat → Int32) (h := fun i f => (d + 8, 138, 39, [.ref 57, .int (nI k), .int (nI i)], [], sF (sI ρ 59 f) 57 0 (.int (nI 0)))) (I := fun i f => ∀ z, z < i → f z = hI ρ 60 (5790 * k + z)) 5790 ?_ ?_ 0 (hI ρ 59) (Nat.zero_le _) (fun z hz => absurd hz (by omega)) |> fun kk => Ev_e (show den (d + 8, 138, 39, [.ref 57, .int (nI k), .int (nI 0)], [], sF ρ 57 0 (.int (nI 0))) = den (d + 8, 138, 39, [.ref 57, .int (nI k), .int (nI 0)], [], sF (sI ρ 59 (hI ρ 59)) 57 0 (.int (nI 0))) by rw [sI_self]) kk
        · intro i f hi hf nx
          have nn := nx (upd f i (hI ρ 60 (5790 * k + i))) (fun z hz => by
            rw [ua]
            by_cases q : z = i
            · rw [if_pos q, q]
            · rw [if_neg q, hf z (by omega)])
          refine Ev_e ?_ nn
          show den (d + 8, 138, 39, [.ref 57, .int (nI k), .int (nI i)], [], sF (sI ρ 59 f) 57 0 (.int (nI 0))) = _
          rw [a138_39]
          simp (disch := first | omega | (repeat (first | assumption | exact Ag_r | refine Ag_I ?_ rfl | refine Ag_F ?_ rfl | refine Ag_J ?_ rfl))) only [A138, FM F1, CO, HA, HB, HC, Nat.not_lt_zero, Nat.add_assoc, c_nlt, c_nle, c_neq, c_P, c_cl, c_m1, c_m1', nI_add, pk_mul, reduceIte, Nat.reduceEqDiff, Nat.reduceAdd, Nat.reduceMul, Nat.reduceLeDiff, eq_self, ↓pk_rem, pk_div, c_of, d_le, d_nle, d_lt, d_nlt, d_eq, d_ne]
        · intro f hf
          show Ev (den (d + 8, 138, 39, [.ref 57, .int (nI k), .int (nI 5790)], [], sF (sI ρ 59 f) 57 0 (.int (nI 0)))) _
          rw [a138_39]
          have ga : Ag (fun z => Nat.beq z 59) (fun z j => Nat.beq z 57 && Nat.beq j 0) ρ (sF (sI ρ 59 f) 57 0 (.int (nI 0))) := Ag_F (Ag_I Ag_r rfl) rfl
          have h2 := FxM_a ga (by decide) F1
          simp (disch := first | omega | (repeat (first | assumption | exact Ag_r | refine Ag_I ?_ rfl | refine Ag_F ?_ rfl | refine Ag_J ?_ rfl))) only [A138, FM F1, M_tell h2 (show ¬ nI 0 < nI 0 by rw [c_nlt (by omega) (by omega)]; omega), CO, HA, HB, HC, Nat.not_lt_zero, Nat.add_assoc, c_nlt, c_nle, c_neq, c_P, c_cl, c_m1, c_m1', nI_add, pk_mul, reduceIte, Nat.reduceEqDiff, Nat.reduceAdd, Nat.reduceMul, Nat.reduceLeDiff, eq_self, ↓pk_rem, pk_div, c_of, d_le, d_nle, d_lt, d_nlt, d_eq, d_ne]
          have gb : Ag (fun z => Nat.beq z 59) (fun z j => Nat.beq z 57 && (Nat.beq j 0 || Nat.beq j 1)) ρ (sF (sF (sI ρ 59 f) 57 0 (.int (nI 0))) 57 1 (.int (nI 0))) := Ag_F (Ag_F (Ag_I Ag_r rfl) rfl) rfl
          refine Ev_s ⟨rfl, ⟨FxM_a gb (by decide) F1, ?_, fun j hj => ⟨?_, fun S' e => ?_⟩, ⟨(by first | (simp only [HA, Nat.reduceEqDiff, false_and, and_false, and_self, reduceIte]; assumption) | assumption), by rw [Ag_i gb 62 rfl]; exact T2⟩, ⟨by simp only [HA, and_self, reduceIte], (by first | (simp only [HA, Nat.reduceEqDiff, false_and, and_false, and_self, reduceIte]; assumption) | assumption), (by first | (simp only [HA, Nat.reduceEqDiff, false_and, and_false, and_self, reduceIte]; assumption) | assumption)⟩, by rw [Ag_i gb 58 rfl]; exact R1, ⟨by rw [Ag_f gb 57 52 rfl]; exact Y1.1.1, by rw [Ag_i gb 84 rfl]; exact Y1.1.2⟩, by rw [Ag_j gb 68 rfl]; exact Y1.2.1, by rw [Ag_j gb 69 rfl]; exact Y1.2.2⟩, ?_⟩
          · refine SM_c ws (fun z hz => ?_) ((IM1 k (by omega)).2 S' e)
            simp only [HA, reduceIte, Nat.zero_add]
            exact hf z hz
          · rw [Ag_i gb 61 rfl]; exact (IM1 j hj).1
          · exact SM_e (Ag_i gb 60 rfl) ((IM1 j hj).2 S' e)
          · exact Ag_w gb (fun z e => by
              have := Nat.eq_of_beq_eq_true e; subst this; rfl) (fun z j e => by
              simp only [Bool.and_eq_true] at e
              exact e.1)
  · refine Prg 0 1 (-1) (by omega) rfl hC hρ hW ?_ ?_
    · simp (disch := first | omega | (repeat (first | assumption | exact Ag_r | refine Ag_I ?_ rfl | refine Ag_F ?_ rfl | refine Ag_J ?_ rfl))) only [A116, A124, FC f1, C_refuse1 f1, CO, HA, HB, HC, Nat.not_lt_zero, Nat.add_assoc, c_nlt, c_nle, c_neq, c_P, c_cl, c_m1, c_m1', nI_add, pk_mul, reduceIte, Nat.reduceEqDiff, Nat.reduceAdd, Nat.reduceMul, Nat.reduceLeDiff, eq_self, ↓pk_rem, pk_div, c_of, d_le, d_nle, d_lt, d_nlt, d_eq, d_ne]
      exact Ev_s ⟨rfl, RfC_i⟩
    · simp (disch := first | omega | (repeat (first | assumption | exact Ag_r | refine Ag_I ?_ rfl | refine Ag_F ?_ rfl | refine Ag_J ?_ rfl))) only [A138, FM F1, M_in, l_lo, l_hi, M_tell1 h00, CO, HA, HB, HC, Nat.not_lt_zero, Nat.add_assoc, c_nlt, c_nle, c_neq, c_P, c_cl, c_m1, c_m1', nI_add, pk_mul, reduceIte, Nat.reduceEqDiff, Nat.reduceAdd, Nat.reduceMul, Nat.reduceLeDiff, eq_self, ↓pk_rem, pk_div, c_of, d_le, d_nle, d_lt, d_nlt, d_eq, d_ne]
      exact Ev_s ⟨rfl, RfM_i⟩
end
