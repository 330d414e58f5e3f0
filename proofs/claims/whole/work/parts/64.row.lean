/-! row, deed, burn, terms, count -/
theorem RfC_i {k : Nat} {w : Int32} {σ : Hp} : RfC k w σ (sF (sI σ 34 (upd (hI σ 34) k (hI σ 34 k + nI 1))) 0 11 (.int w)) := by unfold RfC; rw [sI_sF]
theorem RfM_i {j : Nat} {w : Int32} {ρ : Hp} : RfM j w ρ (sF (sF (sI ρ 58 (upd (hI ρ 58) j (hI ρ 58 j + nI 1))) 57 0 (.int (nI 0))) 57 1 (.int w)) := by unfold RfM; rw [sI_sF, sI_sF]
theorem Prg {o1 o2 : Option Rs} {σ ρ : Hp} {R : AllT} (k j : Nat) (w : Int32) (hk : k < 5) (hj : j = rfp k) (hC : RC σ R) (hM : RM ρ R) (hW : RW R) (h1 : Ev o1 (fun a τ => a = some (.int w) ∧ RfC k w σ τ)) (h2 : Ev o2 (fun a τ => a = some (.int w) ∧ RfM j w ρ τ)) : ∃ r R', RW R' ∧ Ev o1 (fun a τ => a = some (.int r) ∧ RC τ R' ∧ SaM σ τ ∧ Rm2 σ τ) ∧ Ev o2 (fun a τ => a = some (.int r) ∧ RM τ R' ∧ KM ρ τ) := by
  subst hj
  exact Prf hk hC hM hW h1 h2
/-- a row of bytes: how many days became rainy, how many bytes are fog, the rain -/
def rwS (tp rn : Nat → Nat) : Nat → Nat × Nat × (Nat → Nat)
  | 0 => (0, 0, rn)
  | i + 1 => if tp i < 28 then (if (rwS tp rn i).2.2 (tp i) = 0 then ((rwS tp rn i).1 + 1, (rwS tp rn i).2.1, upN (rwS tp rn i).2.2 (tp i) 1) else rwS tp rn i) else ((rwS tp rn i).1, (rwS tp rn i).2.1 + 1, (rwS tp rn i).2.2)
theorem rwS_ok {tp rn : Nat → Nat} (h : ∀ e, e < 28 → rn e ≤ 1) : ∀ i, (rwS tp rn i).1 ≤ i ∧ (rwS tp rn i).2.1 ≤ i ∧ ∀ e, e < 28 → (rwS tp rn i).2.2 e ≤ 1
  | 0 => ⟨Nat.le_refl _, Nat.le_refl _, h⟩
  | i + 1 => by
    obtain ⟨a, b, c⟩ := rwS_ok (tp := tp) h i
    simp only [rwS]
    split
    · split
      · refine ⟨by show (rwS tp rn i).1 + 1 ≤ _; omega, by show (rwS tp rn i).2.1 ≤ _; omega, fun e he => ?_⟩
        show upN _ _ _ e ≤ 1
        unfold upN; split
        · exact Nat.le_refl _
        · exact c e he
      · exact ⟨by omega, by omega, c⟩
    · exact ⟨by show (rwS tp rn i).1 ≤ _; omega, by show (rwS tp rn i).2.1 + 1 ≤ _; omega, c⟩
section
variable {σ : Hp} {R : AllT}
theorem K_row (hC : RC σ R) (hM : RM σ R) (hW : RW R) : Pr (fun σ => (499, 87, 0, [.ref 0, .float 0, .float 0, .float 0, .float 0], [], σ)) (fun σ => (499, 144, 0, [.ref 57, .float 0, .float 0, .float 0], [], σ)) σ (fun υ => ∃ R', Ok σ υ R') := by
  obtain ⟨d, hd⟩ : ∃ d, 499 = d + 8 := ⟨491, rfl⟩
  rw [hd]
  clear hd
  refine Pmut hC hM hW (fun ρ hρ => ?_)
  obtain ⟨⟨v, H, fp, nl, fc, rn, ⟨nd, dv, dd, de⟩, ⟨nu, uc, uh⟩, lw⟩, im, ⟨tl, tp⟩, ⟨st, fg, ft⟩, rf, ⟨yv, yK⟩⟩ := R
  obtain ⟨f1, s1, im1, ⟨t1, t2⟩, ⟨u1, u2, u3⟩, r1, y1⟩ := id hC
  obtain ⟨⟨a1, a2⟩, ⟨a3, a4, a5⟩, a6, ⟨a7, a8⟩, ⟨tq, b1, b2, b3, b4⟩, a9⟩ := S1_SC.mpr s1
  obtain ⟨F1, S1', IM1, ⟨T1, T2⟩, ⟨U1, U2, U3⟩, R1, Y1⟩ := id hρ
  obtain ⟨⟨A1, A2⟩, ⟨A3, A4, A5⟩, A6, ⟨A7, A8⟩, ⟨B3, B4⟩, A9⟩ := M1_SM.mpr S1'
  obtain ⟨⟨w1, w2, ⟨w3, w4⟩, w5, w6, w7⟩, w8, ⟨w9, w10⟩, w11⟩ := id hW
  by_cases z : tl = 0
  · subst z
    have h00 : FxM (sF (sF ρ 57 0 (.int (nI 0))) 57 8 (.int (nI 0))) := FxM_a (P := Pn) (F := Fn) (Ag_F (Ag_F Ag_r rfl) rfl) (by decide) F1
    refine ⟨-6, ((v, H, fp, nl, fc, rn, (nd, dv, dd, de), (nu, uc, uh), lw), im, (0, tp), (-6, fg, ft), rfu rf 4, (yv, yK)), hW, ?_, ?_⟩
    · simp (disch := first | omega | (repeat (first | assumption | exact Ag_r | refine Ag_I ?_ rfl | refine Ag_F ?_ rfl | refine Ag_J ?_ rfl))) only [A87, FC f1, t1, C_refuse6 f1, CO, HA, HB, HC, Nat.not_lt_zero, Nat.add_assoc, c_nlt, c_nle, c_neq, c_P, c_cl, c_m1, c_m1', nI_add, pk_mul, reduceIte, Nat.reduceEqDiff, Nat.reduceAdd, Nat.reduceMul, Nat.reduceLeDiff, eq_self, ↓pk_rem, pk_div, c_of, d_le, d_nle, d_lt, d_nlt, d_eq, d_ne]
      exact Ev_s ⟨rfl, RC_rf (k := 4) (by omega) hC RfC_i⟩
    · simp (disch := first | omega | (repeat (first | assumption | exact Ag_r | refine Ag_I ?_ rfl | refine Ag_F ?_ rfl | refine Ag_J ?_ rfl))) only [A144, FM F1, T1, M_tell6 h00, CO, HA, HB, HC, Nat.not_lt_zero, Nat.add_assoc, c_nlt, c_nle, c_neq, c_P, c_cl, c_m1, c_m1', nI_add, pk_mul, reduceIte, Nat.reduceEqDiff, Nat.reduceAdd, Nat.reduceMul, Nat.reduceLeDiff, eq_self, ↓pk_rem, pk_div, c_of, d_le, d_nle, d_lt, d_nlt, d_eq, d_ne]
      have g : Qn ρ (sF (sF (sF (sI ρ 58 (upd (hI ρ 58) 6 (hI ρ 58 6 + nI 1))) 57 0 (.int (nI 0))) 57 8 (.int (nI 0))) 57 1 (.int (-6))) := Ag_F (Ag_F (Ag_F (Ag_I Ag_r rfl) rfl) rfl) rfl
      refine Ev_s ⟨rfl, RM_n g hρ ⟨⟨(by first | (simp only [HA, Nat.reduceEqDiff, false_and, and_false, and_self, reduceIte]; assumption) | assumption), (by first | (simp only [HA, Nat.reduceEqDiff, false_and, and_false, and_self, reduceIte]; assumption) | assumption)⟩, ⟨(by first | (simp only [HA, Nat.reduceEqDiff, false_and, and_false, and_self, reduceIte]; assumption) | assumption), (by first | (simp only [HA, Nat.reduceEqDiff, false_and, and_false, and_self, reduceIte]; assumption) | assumption), (by first | (simp only [HA, Nat.reduceEqDiff, false_and, and_false, and_self, reduceIte]; assumption) | assumption)⟩, (by first | (simp only [HA, Nat.reduceEqDiff, false_and, and_false, and_self, reduceIte]; assumption) | assumption), ⟨(by first | (simp only [HA, Nat.reduceEqDiff, false_and, and_false, and_self, reduceIte]; assumption) | assumption), (by first | (simp only [HA, Nat.reduceEqDiff, false_and, and_false, and_self, reduceIte]; assumption) | assumption)⟩, ⟨(by first | (simp only [HA, Nat.reduceEqDiff, false_and, and_false, and_self, reduceIte]; assumption) | assumption), (by first | (simp only [HA, Nat.reduceEqDiff, false_and, and_false, and_self, reduceIte]; assumption) | assumption)⟩, tL (fun x hx => by simp only [HA, Nat.reduceEqDiff, reduceIte]) A9⟩ ⟨by simp only [HA, Nat.reduceEqDiff, and_false, and_self, reduceIte], fun i hi => absurd hi (Nat.not_lt_zero i)⟩ ⟨by simp only [HA, and_self, reduceIte], (by first | (simp only [HA, Nat.reduceEqDiff, false_and, and_false, and_self, reduceIte]; assumption) | assumption), (by first | (simp only [HA, Nat.reduceEqDiff, false_and, and_false, and_self, reduceIte]; assumption) | assumption)⟩ ?_, KM_n g⟩
      intro i hi
      simp only [HA, reduceIte, ua, rfu]
      have : (rfp i = 6) ↔ i = 4 := by unfold rfp; split <;> omega
      by_cases y : i = 4
      · rw [if_pos (this.mpr y), if_pos y, y]
        have := R1 4 (by omega)
        rw [← this]; rfl
      · rw [if_neg (fun q => y (this.mp q)), if_neg y]; exact R1 i hi
  · have ok := rwS_ok (tp := tp) w5 tl
    refine ⟨nI (rwS tp rn tl).1, ((v, H, fp, nl, fc, (rwS tp rn tl).2.2, (nd, dv, dd, de), (nu, uc, uh), lw), im, (0, tp), (nI 0, nI (rwS tp rn tl).2.1, ft), rf, (yv, yK)), ⟨⟨w1, w2, ⟨w3, w4⟩, ok.2.2, w6, w7⟩, w8, ⟨by omega, fun i hi => absurd hi (Nat.not_lt_zero i)⟩, w11⟩, ?_, ?_⟩
    · simp (disch := first | omega | (repeat (first | assumption | exact Ag_r | refine Ag_I ?_ rfl | refine Ag_F ?_ rfl | refine Ag_J ?_ rfl))) only [A87, FC f1, t1, z, CO, HA, HB, HC, Nat.not_lt_zero, Nat.add_assoc, c_nlt, c_nle, c_neq, c_P, c_cl, c_m1, c_m1', nI_add, pk_mul, reduceIte, Nat.reduceEqDiff, Nat.reduceAdd, Nat.reduceMul, Nat.reduceLeDiff, eq_self, ↓pk_rem, pk_div, c_of, d_le, d_nle, d_lt, d_nlt, d_eq, d_ne]
      refine lp (α := (Nat → Int32) × Value) (h := fun i x => (d + 8, 87, 23, [.ref 0, .int (nI (rwS tp rn i).1), .int (nI (rwS tp rn i).2.1), .int (nI i), x.2], [], sI σ 3 x.1)) (I := fun i x => ∀ e, e < 28 → x.1 e = nI ((rwS tp rn i).2.2 e)) tl ?_ ?_ 0 (hI σ 3, .float 0) (Nat.zero_le _) a6 |> fun k => Ev_e (show den (d + 8, 87, 23, [.ref 0, .int (nI 0), .int (nI 0), .int (nI 0), .float 0], [], σ) = den (d + 8, 87, 23, [.ref 0, .int (nI 0), .int (nI 0), .int (nI 0), .float 0], [], sI σ 3 (hI σ 3)) by rw [sI_self]) k
      · intro i ⟨f, l⟩ hi hf nx
        dsimp only at hf
        obtain ⟨o1, o2, o3⟩ := rwS_ok (tp := tp) w5 i
        have tb := w10 i hi
        have tt := t2 i hi
        show Ev (den (d + 8, 87, 23, [.ref 0, .int (nI (rwS tp rn i).1), .int (nI (rwS tp rn i).2.1), .int (nI i), l], [], sI σ 3 f)) _
        rw [a87_23]
        by_cases q : tp i < 28
        · have fe := hf (tp i) q
          have r1' := o3 (tp i) q
          by_cases q2 : (rwS tp rn i).2.2 (tp i) = 0
          · have nn := nx (upd f (tp i) (nI 1), .int (nI (tp i))) (fun e he => by
              simp only [rwS, if_pos q, if_pos q2, ua, upN]
              split
              · rfl
              · exact hf e he)
            simp only [rwS, if_pos q, if_pos q2] at nn
            refine Ev_e ?_ nn
            simp (disch := first | omega | (repeat (first | assumption | exact Ag_r | refine Ag_I ?_ rfl | refine Ag_F ?_ rfl | refine Ag_J ?_ rfl))) only [A87, FC f1, t1, tt, C_isDay', if_pos (inr_nI (show tp i ≤ 27 by omega) (show 27 < 2 ^ 31 by omega)), fe, q2, CO, HA, HB, HC, Nat.not_lt_zero, Nat.add_assoc, c_nlt, c_nle, c_neq, c_P, c_cl, c_m1, c_m1', nI_add, pk_mul, reduceIte, Nat.reduceEqDiff, Nat.reduceAdd, Nat.reduceMul, Nat.reduceLeDiff, eq_self, ↓pk_rem, pk_div, c_of, d_le, d_nle, d_lt, d_nlt, d_eq, d_ne]
          · have nn := nx (f, .int (nI (tp i))) (fun e he => by
              simp only [rwS, if_pos q, if_neg q2]
              exact hf e he)
            simp only [rwS, if_pos q, if_neg q2] at nn
            refine Ev_e ?_ nn
            simp (disch := first | omega | (repeat (first | assumption | exact Ag_r | refine Ag_I ?_ rfl | refine Ag_F ?_ rfl | refine Ag_J ?_ rfl))) only [A87, FC f1, t1, tt, C_isDay', if_pos (inr_nI (show tp i ≤ 27 by omega) (show 27 < 2 ^ 31 by omega)), fe, q2, CO, HA, HB, HC, Nat.not_lt_zero, Nat.add_assoc, c_nlt, c_nle, c_neq, c_P, c_cl, c_m1, c_m1', nI_add, pk_mul, reduceIte, Nat.reduceEqDiff, Nat.reduceAdd, Nat.reduceMul, Nat.reduceLeDiff, eq_self, ↓pk_rem, pk_div, c_of, d_le, d_nle, d_lt, d_nlt, d_eq, d_ne]
        · have nn := nx (f, .int (nI (tp i))) (fun e he => by
            simp only [rwS, if_neg q]
            exact hf e he)
          simp only [rwS, if_neg q] at nn
          refine Ev_e ?_ nn
          have nd : ¬ inr (nI (tp i)) 27 := fun h => by rw [inr, c_nle (by omega) (by omega), c_nle (by omega) (by omega)] at h; omega
          simp (disch := first | omega | (repeat (first | assumption | exact Ag_r | refine Ag_I ?_ rfl | refine Ag_F ?_ rfl | refine Ag_J ?_ rfl))) only [A87, FC f1, t1, tt, C_isDay', if_neg nd, CO, HA, HB, HC, Nat.not_lt_zero, Nat.add_assoc, c_nlt, c_nle, c_neq, c_P, c_cl, c_m1, c_m1', nI_add, pk_mul, reduceIte, Nat.reduceEqDiff, Nat.reduceAdd, Nat.reduceMul, Nat.reduceLeDiff, eq_self, ↓pk_rem, pk_div, c_of, d_le, d_nle, d_lt, d_nlt, d_eq, d_ne]
      · intro ⟨f, l⟩ hf
        dsimp only at hf
        show Ev (den (d + 8, 87, 23, [.ref 0, .int (nI (rwS tp rn tl).1), .int (nI (rwS tp rn tl).2.1), .int (nI tl), l], [], sI σ 3 f)) _
        rw [a87_23]
        have h3 : FxC (sF (sF (sI σ 3 f) 16 1 (.int (nI 0))) 0 12 (.int (nI (rwS tp rn tl).2.1))) := Qb_C (Ag_F (Ag_F (Ag_I Ag_r rfl) rfl) rfl) f1
        simp (disch := first | omega | (repeat (first | assumption | exact Ag_r | refine Ag_I ?_ rfl | refine Ag_F ?_ rfl | refine Ag_J ?_ rfl))) only [A87, FC f1, t1, C_accept h3, CO, HA, HB, HC, Nat.not_lt_zero, Nat.add_assoc, c_nlt, c_nle, c_neq, c_P, c_cl, c_m1, c_m1', nI_add, pk_mul, reduceIte, Nat.reduceEqDiff, Nat.reduceAdd, Nat.reduceMul, Nat.reduceLeDiff, eq_self, ↓pk_rem, pk_div, c_of, d_le, d_nle, d_lt, d_nlt, d_eq, d_ne]
        have g : Qb σ (sF (sF (sF (sI σ 3 f) 16 1 (.int (nI 0))) 0 12 (.int (nI (rwS tp rn tl).2.1))) 0 11 (.int (nI 0))) := Ag_F (Ag_F (Ag_F (Ag_I Ag_r rfl) rfl) rfl) rfl
        exact Ev_s ⟨rfl, RC_b g hC ⟨⟨(by first | (simp only [HA, Nat.reduceEqDiff, false_and, and_false, and_self, reduceIte]; assumption) | assumption), (by first | (simp only [HA, Nat.reduceEqDiff, false_and, and_false, and_self, reduceIte]; assumption) | assumption)⟩, ⟨(by first | (simp only [HA, Nat.reduceEqDiff, false_and, and_false, and_self, reduceIte]; assumption) | assumption), (by first | (simp only [HA, Nat.reduceEqDiff, false_and, and_false, and_self, reduceIte]; assumption) | assumption), (by first | (simp only [HA, Nat.reduceEqDiff, false_and, and_false, and_self, reduceIte]; assumption) | assumption)⟩, fun e he => by simp only [HA, reduceIte]; exact hf e he, ⟨(by first | (simp only [HA, Nat.reduceEqDiff, false_and, and_false, and_self, reduceIte]; assumption) | assumption), (by first | (simp only [HA, Nat.reduceEqDiff, false_and, and_false, and_self, reduceIte]; assumption) | assumption)⟩, ⟨tq, b1, (by first | (simp only [HA, Nat.reduceEqDiff, false_and, and_false, and_self, reduceIte]; assumption) | assumption), (by first | (simp only [HA, Nat.reduceEqDiff, false_and, and_false, and_self, reduceIte]; assumption) | assumption), (by first | (simp only [HA, Nat.reduceEqDiff, false_and, and_false, and_self, reduceIte]; assumption) | assumption)⟩, fun i hi => LaC_b g (a9 i hi)⟩ ⟨by simp only [HA, Nat.reduceEqDiff, false_and, and_self, reduceIte], fun i hi => absurd hi (Nat.not_lt_zero i)⟩ ⟨by simp only [HA, and_self, reduceIte], by simp only [HA, Nat.reduceEqDiff, and_false, and_self, reduceIte], (by first | (simp only [HA, Nat.reduceEqDiff, false_and, and_false, and_self, reduceIte]; assumption) | assumption)⟩ (by first | (simp only [HA, Nat.reduceEqDiff, false_and, and_false, and_self, reduceIte]; assumption) | assumption), SaM_b g, Rm_2 (Rm_a g)⟩
    · simp (disch := first | omega | (repeat (first | assumption | exact Ag_r | refine Ag_I ?_ rfl | refine Ag_F ?_ rfl | refine Ag_J ?_ rfl))) only [A144, FM F1, T1, z, CO, HA, HB, HC, Nat.not_lt_zero, Nat.add_assoc, c_nlt, c_nle, c_neq, c_P, c_cl, c_m1, c_m1', nI_add, pk_mul, reduceIte, Nat.reduceEqDiff, Nat.reduceAdd, Nat.reduceMul, Nat.reduceLeDiff, eq_self, ↓pk_rem, pk_div, c_of, d_le, d_nle, d_lt, d_nlt, d_eq, d_ne]
      refine lp (α := Hp) (h := fun i x => (d + 8, 144, 35, [.ref 57, .int (nI tl), .int (nI (rwS tp rn i).1), .int (nI i)], [], x)) (I := fun i x => Qn ρ x ∧ (∀ y, ¬ (6 ≤ y ∧ y < 34) → hI x 59 y = hI ρ 59 y) ∧ (∀ e, e < 28 → hI x 59 (6 + e) = nI ((rwS tp rn i).2.2 e)) ∧ (hI x 62 = hI ρ 62 ∧ hI x 58 = hI ρ 58) ∧ (hF x 57 8 = .int (nI 0) ∧ hF x 57 6 = .int (nI (rwS tp rn i).2.1) ∧ hF x 57 13 = .int ft)) tl ?_ ?_ 0 (sF (sF (sF ρ 57 0 (.int (nI 0))) 57 8 (.int (nI 0))) 57 6 (.int (nI 0))) (Nat.zero_le _) ⟨Ag_F (Ag_F (Ag_F Ag_r rfl) rfl) rfl, fun y _ => rfl, A6, ⟨rfl, rfl⟩, ⟨by simp only [HA, Nat.reduceEqDiff, and_false, and_self, reduceIte], by simp only [HA, and_self, reduceIte]; rfl, (by first | (simp only [HA, Nat.reduceEqDiff, false_and, and_false, and_self, reduceIte]; assumption) | assumption)⟩⟩
      · intro i x hi ⟨g, ag, c1, ⟨c2, c3⟩, ⟨c4, c5, c6⟩⟩ nx
        have h2 : FxM x := FxM_a g (by decide) F1
        obtain ⟨o1, o2, o3⟩ := rwS_ok (tp := tp) w5 i
        have tb := w10 i hi
        have tt : hI x 62 i = nI (tp i) := by rw [c2]; exact T2 i hi
        show Ev (den (d + 8, 144, 35, [.ref 57, .int (nI tl), .int (nI (rwS tp rn i).1), .int (nI i)], [], x)) _
        rw [a144_35]
        by_cases q : tp i < 28
        · have fe := c1 (tp i) q
          have r1' := o3 (tp i) q
          have nn := nx (sI x 59 (upd (hI x 59) (6 + tp i) (nI 1))) ⟨Ag_I g rfl, fun y hy => by
            simp only [HA, reduceIte, ua]; rw [if_neg (by omega)]; exact ag y hy, fun e he => by
            simp only [HA, reduceIte, ua, rwS, if_pos q]
            by_cases y : e = tp i
            · rw [if_pos (by omega)]
              split
              · show nI 1 = nI (upN _ _ _ e); unfold upN; rw [if_pos y]
              · next q2 => rw [y, show (rwS tp rn i).2.2 (tp i) = 1 by omega]
            · rw [if_neg (by omega), c1 e he]
              split
              · show _ = nI (upN _ _ _ e); unfold upN; rw [if_neg y]
              · rfl, ⟨by simp only [HA, Nat.reduceEqDiff, reduceIte]; exact c2, by simp only [HA, Nat.reduceEqDiff, reduceIte]; exact c3⟩, ⟨(by first | (simp only [HA, Nat.reduceEqDiff, false_and, and_false, and_self, reduceIte]; assumption) | assumption), by
            simp only [HA, rwS, if_pos q]
            split
            · exact c5
            · exact c5, (by first | (simp only [HA, Nat.reduceEqDiff, false_and, and_false, and_self, reduceIte]; assumption) | assumption)⟩⟩
          by_cases q2 : (rwS tp rn i).2.2 (tp i) = 0
          · simp only [rwS, if_pos q, if_pos q2] at nn
            refine Ev_e ?_ nn
            simp (disch := first | omega | (repeat (first | assumption | exact Ag_r | refine Ag_I ?_ rfl | refine Ag_F ?_ rfl | refine Ag_J ?_ rfl))) only [A144, FM h2, tt, M_isDay, if_pos (inr_nI (show tp i ≤ 27 by omega) (show 27 < 2 ^ 31 by omega)), fe, q2, CO, HA, HB, HC, Nat.not_lt_zero, Nat.add_assoc, c_nlt, c_nle, c_neq, c_P, c_cl, c_m1, c_m1', nI_add, pk_mul, reduceIte, Nat.reduceEqDiff, Nat.reduceAdd, Nat.reduceMul, Nat.reduceLeDiff, eq_self, ↓pk_rem, pk_div, c_of, d_le, d_nle, d_lt, d_nlt, d_eq, d_ne]
          · simp only [rwS, if_pos q, if_neg q2] at nn
            refine Ev_e ?_ nn
            simp (disch := first | omega | (repeat (first | assumption | exact Ag_r | refine Ag_I ?_ rfl | refine Ag_F ?_ rfl | refine Ag_J ?_ rfl))) only [A144, FM h2, tt, M_isDay, if_pos (inr_nI (show tp i ≤ 27 by omega) (show 27 < 2 ^ 31 by omega)), fe, q2, Nat.add_zero, CO, HA, HB, HC, Nat.not_lt_zero, Nat.add_assoc, c_nlt, c_nle, c_neq, c_P, c_cl, c_m1, c_m1', nI_add, pk_mul, reduceIte, Nat.reduceEqDiff, Nat.reduceAdd, Nat.reduceMul, Nat.reduceLeDiff, eq_self, ↓pk_rem, pk_div, c_of, d_le, d_nle, d_lt, d_nlt, d_eq, d_ne]
        · have nn := nx (sF x 57 6 (.int (nI ((rwS tp rn i).2.1 + 1)))) ⟨Ag_F g rfl, ag, fun e he => by simp only [rwS, if_neg q]; exact c1 e he, ⟨c2, c3⟩, ⟨(by first | (simp only [HA, Nat.reduceEqDiff, false_and, and_false, and_self, reduceIte]; assumption) | assumption), by simp only [HA, and_self, reduceIte, rwS, if_neg q], (by first | (simp only [HA, Nat.reduceEqDiff, false_and, and_false, and_self, reduceIte]; assumption) | assumption)⟩⟩
          simp only [rwS, if_neg q] at nn
          refine Ev_e ?_ nn
          have nd : ¬ inr (nI (tp i)) 27 := fun h => by rw [inr, c_nle (by omega) (by omega), c_nle (by omega) (by omega)] at h; omega
          simp (disch := first | omega | (repeat (first | assumption | exact Ag_r | refine Ag_I ?_ rfl | refine Ag_F ?_ rfl | refine Ag_J ?_ rfl))) only [A144, FM h2, tt, M_isDay, if_neg nd, c5, CO, HA, HB, HC, Nat.not_lt_zero, Nat.add_assoc, c_nlt, c_nle, c_neq, c_P, c_cl, c_m1, c_m1', nI_add, pk_mul, reduceIte, Nat.reduceEqDiff, Nat.reduceAdd, Nat.reduceMul, Nat.reduceLeDiff, eq_self, ↓pk_rem, pk_div, c_of, d_le, d_nle, d_lt, d_nlt, d_eq, d_ne]
      · intro x ⟨g, ag, c1, ⟨c2, c3⟩, ⟨c4, c5, c6⟩⟩
        have h2 : FxM x := FxM_a g (by decide) F1
        show Ev (den (d + 8, 144, 35, [.ref 57, .int (nI tl), .int (nI (rwS tp rn tl).1), .int (nI tl)], [], x)) _
        rw [a144_35]
        simp (disch := first | omega | (repeat (first | assumption | exact Ag_r | refine Ag_I ?_ rfl | refine Ag_F ?_ rfl | refine Ag_J ?_ rfl))) only [A144, FM h2, M_tell h2 (show ¬ nI (rwS tp rn tl).1 < nI 0 by rw [c_nlt (by omega) (by omega)]; omega), CO, HA, HB, HC, Nat.not_lt_zero, Nat.add_assoc, c_nlt, c_nle, c_neq, c_P, c_cl, c_m1, c_m1', nI_add, pk_mul, reduceIte, Nat.reduceEqDiff, Nat.reduceAdd, Nat.reduceMul, Nat.reduceLeDiff, eq_self, ↓pk_rem, pk_div, c_of, d_le, d_nle, d_lt, d_nlt, d_eq, d_ne]
        have gg : Qn ρ (sF x 57 1 (.int (nI 0))) := Ag_F g rfl
        exact Ev_s ⟨rfl, RM_n gg hρ ⟨tH (fun y hy => ag y (by omega)) ⟨A1, A2⟩, tP (fun y hy => ag y (by omega)) ⟨A3, A4, A5⟩, c1, tD w6.1 (fun y hy => ag y (by omega)) ⟨A7, A8⟩, tU w7.1 (fun y hy => ag y (by omega)) ⟨B3, B4⟩, tL (fun y hy => ag y (by omega)) A9⟩ ⟨(by first | (simp only [HA, Nat.reduceEqDiff, false_and, and_false, and_self, reduceIte]; assumption) | assumption), fun i hi => absurd hi (Nat.not_lt_zero i)⟩ ⟨by simp only [HA, and_self, reduceIte], (by first | (simp only [HA, Nat.reduceEqDiff, false_and, and_false, and_self, reduceIte]; assumption) | assumption), (by first | (simp only [HA, Nat.reduceEqDiff, false_and, and_false, and_self, reduceIte]; assumption) | assumption)⟩ (by simp only [HA]; rw [c3]; exact R1), KM_n gg⟩
end
/-! deeds -/
section
variable {σ : Hp} {R : AllT}
theorem K_deed (hC : RC σ R) (hM : RM σ R) (hW : RW R) (x y z : Int32) : Pr (fun σ => (499, 109, 0, [.ref 0, .int x, .int y, .int z], [], σ)) (fun σ => (499, 213, 0, [.ref 57, .int x, .int y, .int z, .float 0], [], σ)) σ (fun υ => ∃ R', Ok σ υ R') := by
  obtain ⟨d, hd⟩ : ∃ d, 499 = d + 8 := ⟨491, rfl⟩
  rw [hd]
  clear hd
  refine Pmut hC hM hW (fun ρ hρ => ?_)
  obtain ⟨⟨v, H, fp, nl, fc, rn, ⟨nd, dv, dd, de⟩, ⟨nu, uc, uh⟩, lw⟩, im, ⟨tl, tp⟩, ⟨st, fg, ft⟩, rf, ⟨yv, yK⟩⟩ := R
  obtain ⟨f1, s1, im1, ⟨t1, t2⟩, ⟨u1, u2, u3⟩, r1, y1⟩ := id hC
  obtain ⟨⟨a1, a2⟩, ⟨a3, a4, a5⟩, a6, ⟨a7, a8⟩, ⟨tq, b1, b2, b3, b4⟩, a9⟩ := S1_SC.mpr s1
  obtain ⟨F1, S1', IM1, ⟨T1, T2⟩, ⟨U1, U2, U3⟩, R1, Y1⟩ := id hρ
  obtain ⟨⟨A1, A2⟩, ⟨A3, A4, A5⟩, A6, ⟨A7, A8⟩, ⟨B3, B4⟩, A9⟩ := M1_SM.mpr S1'
  obtain ⟨⟨w1, w2, ⟨w3, w4⟩, w5, w6, w7⟩, w8, ⟨w9, w10⟩, w11⟩ := id hW
  have h00 : FxM (sF ρ 57 0 (.int (nI 0))) := FxM_sF F1 (Or.inr (by decide))
  have hv1 := w1.1
  have hv8 := w1.2.1
  have n10 := w6.1
  have vC := fun (d : Nat) x => C_isVillage (d := d) f1 a1 hv1 hv8 x
  have vM := fun (d : Nat) x => M_isVillage' (d := d) (τ := sF ρ 57 0 (.int (nI 0))) F1 A1 hv1 hv8 x (Ag_F Ag_r rfl)
  rcases tri y 223 (by omega) with hy | ⟨k, hk, rfl⟩ | ⟨k, hk, hk2, rfl⟩
  · refine Prg 0 1 (-1) (by omega) rfl hC hρ hW ?_ ?_
    · simp (disch := first | omega | (repeat (first | assumption | exact Ag_r | refine Ag_I ?_ rfl | refine Ag_F ?_ rfl | refine Ag_J ?_ rfl))) only [A109, FC f1, ng hy, C_refuse1 f1, CO, HA, HB, HC, Nat.not_lt_zero, Nat.add_assoc, c_nlt, c_nle, c_neq, c_P, c_cl, c_m1, c_m1', nI_add, pk_mul, reduceIte, Nat.reduceEqDiff, Nat.reduceAdd, Nat.reduceMul, Nat.reduceLeDiff, eq_self, ↓pk_rem, pk_div, c_of, d_le, d_nle, d_lt, d_nlt, d_eq, d_ne]
      exact Ev_s ⟨rfl, RfC_i⟩
    · simp (disch := first | omega | (repeat (first | assumption | exact Ag_r | refine Ag_I ?_ rfl | refine Ag_F ?_ rfl | refine Ag_J ?_ rfl))) only [A213, FM F1, M_in, l_lo, l_hi, ng hy, M_tell1 h00, CO, HA, HB, HC, Nat.not_lt_zero, Nat.add_assoc, c_nlt, c_nle, c_neq, c_P, c_cl, c_m1, c_m1', nI_add, pk_mul, reduceIte, Nat.reduceEqDiff, Nat.reduceAdd, Nat.reduceMul, Nat.reduceLeDiff, eq_self, ↓pk_rem, pk_div, c_of, d_le, d_nle, d_lt, d_nlt, d_eq, d_ne]
      exact Ev_s ⟨rfl, RfM_i⟩
  · by_cases hz : inr z 27
    · obtain ⟨e, he, rfl⟩ := inr_of (by omega) hz
      by_cases hx : inr x (v - 1)
      · obtain ⟨u, hu, rfl⟩ := inr_of (by omega) hx
        by_cases full : nd = 10
        · refine Prg 3 5 (-5) (by omega) rfl hC hρ hW ?_ ?_
          · simp (disch := first | omega | (repeat (first | assumption | exact Ag_r | refine Ag_I ?_ rfl | refine Ag_F ?_ rfl | refine Ag_J ?_ rfl))) only [A109, FC f1, C_isDay', if_pos hz, vC, if_pos hx, a7, full, C_refuse5 f1, CO, HA, HB, HC, Nat.not_lt_zero, Nat.add_assoc, c_nlt, c_nle, c_neq, c_P, c_cl, c_m1, c_m1', nI_add, pk_mul, reduceIte, Nat.reduceEqDiff, Nat.reduceAdd, Nat.reduceMul, Nat.reduceLeDiff, eq_self, ↓pk_rem, pk_div, c_of, d_le, d_nle, d_lt, d_nlt, d_eq, d_ne]
            exact Ev_s ⟨rfl, RfC_i⟩
          · simp (disch := first | omega | (repeat (first | assumption | exact Ag_r | refine Ag_I ?_ rfl | refine Ag_F ?_ rfl | refine Ag_J ?_ rfl))) only [A213, FM F1, M_in, l_lo, l_hi, M_isDay, if_pos hz, vM, if_pos hx, A7, full, M_tell5 h00, CO, HA, HB, HC, Nat.not_lt_zero, Nat.add_assoc, c_nlt, c_nle, c_neq, c_P, c_cl, c_m1, c_m1', nI_add, pk_mul, reduceIte, Nat.reduceEqDiff, Nat.reduceAdd, Nat.reduceMul, Nat.reduceLeDiff, eq_self, ↓pk_rem, pk_div, c_of, d_le, d_nle, d_lt, d_nlt, d_eq, d_ne]
            exact Ev_s ⟨rfl, RfM_i⟩
        · refine ⟨nI (nd + 1), ((v, H, fp, nl, fc, rn, (nd + 1, upN dv nd u, upN dd nd k, upN de nd e), (nu, uc, uh), lw), im, (tl, tp), (nI 0, fg, ft), rf, (yv, yK)), ⟨⟨w1, w2, ⟨w3, w4⟩, w5, ⟨by omega, fun i hi => ?_⟩, w7⟩, w8, ⟨w9, w10⟩, w11⟩, ?_, ?_⟩
          · unfold upN
            by_cases q : i = nd
            · rw [if_pos q, if_pos q, if_pos q]; omega
            · rw [if_neg q, if_neg q, if_neg q]; exact w6.2 i (by omega)
          · have h3 : FxC (sF (sI (sI (sI σ 9 (upd (hI σ 9) nd (nI u))) 10 (upd (hI σ 10) nd (nI k))) 11 (upd (hI σ 11) nd (nI e))) 8 3 (.int (nI (nd + 1)))) := Qb_C (Ag_F (Ag_I (Ag_I (Ag_I Ag_r rfl) rfl) rfl) rfl) f1
            simp (disch := first | omega | (repeat (first | assumption | exact Ag_r | refine Ag_I ?_ rfl | refine Ag_F ?_ rfl | refine Ag_J ?_ rfl))) only [A109, A12, FC f1, C_isDay', if_pos hz, vC, if_pos hx, a7, full, C_accept h3, CO, HA, HB, HC, Nat.not_lt_zero, Nat.add_assoc, c_nlt, c_nle, c_neq, c_P, c_cl, c_m1, c_m1', nI_add, pk_mul, reduceIte, Nat.reduceEqDiff, Nat.reduceAdd, Nat.reduceMul, Nat.reduceLeDiff, eq_self, ↓pk_rem, pk_div, c_of, d_le, d_nle, d_lt, d_nlt, d_eq, d_ne]
            have g : Qb σ (sF (sF (sI (sI (sI σ 9 (upd (hI σ 9) nd (nI u))) 10 (upd (hI σ 10) nd (nI k))) 11 (upd (hI σ 11) nd (nI e))) 8 3 (.int (nI (nd + 1)))) 0 11 (.int (nI 0))) := Ag_F (Ag_F (Ag_I (Ag_I (Ag_I Ag_r rfl) rfl) rfl) rfl) rfl
            refine Ev_s ⟨rfl, RC_b g hC ⟨⟨(by first | (simp only [HA, Nat.reduceEqDiff, false_and, and_false, and_self, reduceIte]; assumption) | assumption), (by first | (simp only [HA, Nat.reduceEqDiff, false_and, and_false, and_self, reduceIte]; assumption) | assumption)⟩, ⟨(by first | (simp only [HA, Nat.reduceEqDiff, false_and, and_false, and_self, reduceIte]; assumption) | assumption), (by first | (simp only [HA, Nat.reduceEqDiff, false_and, and_false, and_self, reduceIte]; assumption) | assumption), (by first | (simp only [HA, Nat.reduceEqDiff, false_and, and_false, and_self, reduceIte]; assumption) | assumption)⟩, (by first | (simp only [HA, Nat.reduceEqDiff, false_and, and_false, and_self, reduceIte]; assumption) | assumption), ⟨by simp only [HA, Nat.reduceEqDiff, false_and, and_self, reduceIte], ?_⟩, ⟨tq, b1, (by first | (simp only [HA, Nat.reduceEqDiff, false_and, and_false, and_self, reduceIte]; assumption) | assumption), (by first | (simp only [HA, Nat.reduceEqDiff, false_and, and_false, and_self, reduceIte]; assumption) | assumption), (by first | (simp only [HA, Nat.reduceEqDiff, false_and, and_false, and_self, reduceIte]; assumption) | assumption)⟩, fun i hi => LaC_b g (a9 i hi)⟩ ⟨(by first | (simp only [HA, Nat.reduceEqDiff, false_and, and_false, and_self, reduceIte]; assumption) | assumption), (by first | (simp only [HA, Nat.reduceEqDiff, false_and, and_false, and_self, reduceIte]; assumption) | assumption)⟩ ⟨by simp only [HA, and_self, reduceIte], (by first | (simp only [HA, Nat.reduceEqDiff, false_and, and_false, and_self, reduceIte]; assumption) | assumption), (by first | (simp only [HA, Nat.reduceEqDiff, false_and, and_false, and_self, reduceIte]; assumption) | assumption)⟩ (by first | (simp only [HA, Nat.reduceEqDiff, false_and, and_false, and_self, reduceIte]; assumption) | assumption), SaM_b g, Rm_2 (Rm_a g)⟩
            intro i hi
            simp only [HA, Nat.reduceEqDiff, reduceIte, ua, upN]
            by_cases q : i = nd
            · simp only [if_pos q, and_self]
            · simp only [if_neg q]; exact a8 i (by omega)
          · have h3 : FxM (sF (sI ρ 59 (upd (upd (upd (upd (hI ρ 59) (258 + 3 * nd) (nI u)) (258 + (3 * nd + 1)) (nI k)) (258 + (3 * nd + 2)) (nI e)) 4 (nI (nd + 1)))) 57 0 (.int (nI 0))) := FxM_a (P := Pn) (F := Fn) (Ag_F (Ag_I Ag_r rfl) rfl) (by decide) F1
            have q4 : (4 = 258 + (3 * nd + 2)) = False := eq_false (by omega)
            have q5 : (4 = 258 + (3 * nd + 1)) = False := eq_false (by omega)
            have q6 : (4 = 258 + 3 * nd) = False := eq_false (by omega)
            simp (disch := first | omega | (repeat (first | assumption | exact Ag_r | refine Ag_I ?_ rfl | refine Ag_F ?_ rfl | refine Ag_J ?_ rfl))) only [A213, FM F1, M_in, l_lo, l_hi, M_isDay, if_pos hz, vM, if_pos hx, A7, full, ua, q4, q5, q6, M_tell h3 (show ¬ nI (nd + 1) < nI 0 by rw [c_nlt (by omega) (by omega)]; omega), CO, HA, HB, HC, Nat.not_lt_zero, Nat.add_assoc, c_nlt, c_nle, c_neq, c_P, c_cl, c_m1, c_m1', nI_add, pk_mul, reduceIte, Nat.reduceEqDiff, Nat.reduceAdd, Nat.reduceMul, Nat.reduceLeDiff, eq_self, ↓pk_rem, pk_div, c_of, d_le, d_nle, d_lt, d_nlt, d_eq, d_ne]
            have g : Qn ρ (sF (sF (sI ρ 59 (upd (upd (upd (upd (hI ρ 59) (258 + 3 * nd) (nI u)) (258 + (3 * nd + 1)) (nI k)) (258 + (3 * nd + 2)) (nI e)) 4 (nI (nd + 1)))) 57 0 (.int (nI 0))) 57 1 (.int (nI 0))) := Ag_F (Ag_F (Ag_I Ag_r rfl) rfl) rfl
            have ag : ∀ y, ¬ (y = 4 ∨ (258 ≤ y ∧ y < 288)) → hI (sF (sF (sI ρ 59 (upd (upd (upd (upd (hI ρ 59) (258 + 3 * nd) (nI u)) (258 + (3 * nd + 1)) (nI k)) (258 + (3 * nd + 2)) (nI e)) 4 (nI (nd + 1)))) 57 0 (.int (nI 0))) 57 1 (.int (nI 0))) 59 y = hI ρ 59 y := fun y hy => by
              simp only [HA, reduceIte, ua]
              rw [if_neg (by omega), if_neg (by omega), if_neg (by omega), if_neg (by omega)]
            refine Ev_s ⟨rfl, RM_n g hρ ⟨tH (fun y hy => ag y (by omega)) ⟨A1, A2⟩, tP (fun y hy => ag y (by omega)) ⟨A3, A4, A5⟩, tR (fun y hy => ag y (by omega)) A6, ⟨by simp only [HA, reduceIte, ua], fun i hi => ?_⟩, tU w7.1 (fun y hy => ag y (by omega)) ⟨B3, B4⟩, tL (fun y hy => ag y (by omega)) A9⟩ ⟨(by first | (simp only [HA, Nat.reduceEqDiff, false_and, and_false, and_self, reduceIte]; assumption) | assumption), (by first | (simp only [HA, Nat.reduceEqDiff, false_and, and_false, and_self, reduceIte]; assumption) | assumption)⟩ ⟨by simp only [HA, and_self, reduceIte], (by first | (simp only [HA, Nat.reduceEqDiff, false_and, and_false, and_self, reduceIte]; assumption) | assumption), (by first | (simp only [HA, Nat.reduceEqDiff, false_and, and_false, and_self, reduceIte]; assumption) | assumption)⟩ (by first | (simp only [HA, Nat.reduceEqDiff, false_and, and_false, and_self, reduceIte]; assumption) | assumption), KM_n g⟩
            simp only [HA, reduceIte, ua, upN]
            by_cases q : i = nd
            · subst q
              refine ⟨?_, ?_, ?_⟩
              · rw [if_neg (by omega), if_neg (by omega), if_neg (by omega), if_pos rfl, if_pos rfl]
              · rw [if_neg (by omega), if_neg (by omega), if_pos rfl, if_pos rfl]
              · rw [if_neg (by omega), if_pos rfl, if_pos rfl]
            · rw [if_neg q, if_neg q, if_neg q]
              refine ⟨?_, ?_, ?_⟩ <;> rw [if_neg (by omega), if_neg (by omega), if_neg (by omega), if_neg (by omega)]
              · exact (A8 i (by omega)).1
              · exact (A8 i (by omega)).2.1
              · exact (A8 i (by omega)).2.2
      · refine Prg 1 2 (-2) (by omega) rfl hC hρ hW ?_ ?_
        · simp (disch := first | omega | (repeat (first | assumption | exact Ag_r | refine Ag_I ?_ rfl | refine Ag_F ?_ rfl | refine Ag_J ?_ rfl))) only [A109, FC f1, C_isDay', if_pos hz, vC, if_neg hx, C_refuse2 f1, CO, HA, HB, HC, Nat.not_lt_zero, Nat.add_assoc, c_nlt, c_nle, c_neq, c_P, c_cl, c_m1, c_m1', nI_add, pk_mul, reduceIte, Nat.reduceEqDiff, Nat.reduceAdd, Nat.reduceMul, Nat.reduceLeDiff, eq_self, ↓pk_rem, pk_div, c_of, d_le, d_nle, d_lt, d_nlt, d_eq, d_ne]
          exact Ev_s ⟨rfl, RfC_i⟩
        · simp (disch := first | omega | (repeat (first | assumption | exact Ag_r | refine Ag_I ?_ rfl | refine Ag_F ?_ rfl | refine Ag_J ?_ rfl))) only [A213, FM F1, M_in, l_lo, l_hi, M_isDay, if_pos hz, vM, if_neg hx, M_tell2 h00, CO, HA, HB, HC, Nat.not_lt_zero, Nat.add_assoc, c_nlt, c_nle, c_neq, c_P, c_cl, c_m1, c_m1', nI_add, pk_mul, reduceIte, Nat.reduceEqDiff, Nat.reduceAdd, Nat.reduceMul, Nat.reduceLeDiff, eq_self, ↓pk_rem, pk_div, c_of, d_le, d_nle, d_lt, d_nlt, d_eq, d_ne]
          exact Ev_s ⟨rfl, RfM_i⟩
    · refine Prg 0 1 (-1) (by omega) rfl hC hρ hW ?_ ?_
      · simp (disch := first | omega | (repeat (first | assumption | exact Ag_r | refine Ag_I ?_ rfl | refine Ag_F ?_ rfl | refine Ag_J ?_ rfl))) only [A109, FC f1, C_isDay', if_neg hz, C_refuse1 f1, CO, HA, HB, HC, Nat.not_lt_zero, Nat.add_assoc, c_nlt, c_nle, c_neq, c_P, c_cl, c_m1, c_m1', nI_add, pk_mul, reduceIte, Nat.reduceEqDiff, Nat.reduceAdd, Nat.reduceMul, Nat.reduceLeDiff, eq_self, ↓pk_rem, pk_div, c_of, d_le, d_nle, d_lt, d_nlt, d_eq, d_ne]
        exact Ev_s ⟨rfl, RfC_i⟩
      · simp (disch := first | omega | (repeat (first | assumption | exact Ag_r | refine Ag_I ?_ rfl | refine Ag_F ?_ rfl | refine Ag_J ?_ rfl))) only [A213, FM F1, M_in, l_lo, l_hi, M_isDay, if_neg hz, M_tell1 h00, CO, HA, HB, HC, Nat.not_lt_zero, Nat.add_assoc, c_nlt, c_nle, c_neq, c_P, c_cl, c_m1, c_m1', nI_add, pk_mul, reduceIte, Nat.reduceEqDiff, Nat.reduceAdd, Nat.reduceMul, Nat.reduceLeDiff, eq_self, ↓pk_rem, pk_div, c_of, d_le, d_nle, d_lt, d_nlt, d_eq, d_ne]
        exact Ev_s ⟨rfl, RfM_i⟩
  · refine Prg 0 1 (-1) (by omega) rfl hC hρ hW ?_ ?_
    · simp (disch := first | omega | (repeat (first | assumption | exact Ag_r | refine Ag_I ?_ rfl | refine Ag_F ?_ rfl | refine Ag_J ?_ rfl))) only [A109, FC f1, C_refuse1 f1, CO, HA, HB, HC, Nat.not_lt_zero, Nat.add_assoc, c_nlt, c_nle, c_neq, c_P, c_cl, c_m1, c_m1', nI_add, pk_mul, reduceIte, Nat.reduceEqDiff, Nat.reduceAdd, Nat.reduceMul, Nat.reduceLeDiff, eq_self, ↓pk_rem, pk_div, c_of, d_le, d_nle, d_lt, d_nlt, d_eq, d_ne]
      exact Ev_s ⟨rfl, RfC_i⟩
    · simp (disch := first | omega | (repeat (first | assumption | exact Ag_r | refine Ag_I ?_ rfl | refine Ag_F ?_ rfl | refine Ag_J ?_ rfl))) only [A213, FM F1, M_in, l_lo, l_hi, M_tell1 h00, CO, HA, HB, HC, Nat.not_lt_zero, Nat.add_assoc, c_nlt, c_nle, c_neq, c_P, c_cl, c_m1, c_m1', nI_add, pk_mul, reduceIte, Nat.reduceEqDiff, Nat.reduceAdd, Nat.reduceMul, Nat.reduceLeDiff, eq_self, ↓pk_rem, pk_div, c_of, d_le, d_nle, d_lt, d_nlt, d_eq, d_ne]
      exact Ev_s ⟨rfl, RfM_i⟩
end
