/-! burn, terms, count -/
section
variable {σ : Hp} {R : AllT}
theorem K_burn (hC : RC σ R) (hM : RM σ R) (hW : RW R) (x : Int32) : Pr (fun σ => (499, 110, 0, [.ref 0, .int x], [], σ)) (fun σ => (499, 214, 0, [.ref 57, .int x, .float 0], [], σ)) σ (fun υ => ∃ R', Ok σ υ R') := by
  obtain ⟨d, hd⟩ : ∃ d, 499 = d + 8 := ⟨491, rfl⟩
  rw [hd]
  clear hd
  refine Pmut hC hM hW (fun ρ hρ => ?_)
  obtain ⟨⟨v, H, fp, nl, fc, rn, ⟨nd, dv, dd, de⟩, ⟨nu, uc, uh⟩, lw⟩, im, ⟨tl, tp⟩, ⟨st, fg, ft⟩, rf, ⟨yv, yK⟩⟩ := R
  obtain ⟨f1, s1, im1, ⟨t1, t2⟩, ⟨u1, u2, u3⟩, r1, y1⟩ := id hC
  obtain ⟨⟨a1, a2⟩, ⟨a3, a4, a5⟩, a6, ⟨a7, a8⟩, ⟨tq, b1, b2, b3, b4⟩, a9⟩ := S1_SC.mpr s1
  obtain ⟨F1, S1', IM1, ⟨T1, T2⟩, ⟨U1, U2, U3⟩, R1, Y1⟩ := id hρ
  obtain ⟨⟨A1, A2⟩, ⟨A3, A4, A5⟩, A6, ⟨A7, A8⟩, ⟨B3, B4⟩, A9⟩ := M1_SM.mpr S1'
  obtain ⟨⟨w1, w2, ⟨w3, w4⟩, w5, w6, w7⟩, w8, ⟨w9, w10⟩, w11⟩ := id hW
  have h00 : FxM (sF ρ 57 0 (.int (nI 0))) := FxM_sF F1 (Or.inr (by decide))
  have n10 := w6.1
  rcases trs x nd (by omega) with hx | ⟨k, hk, rfl⟩ | ⟨k, hk, hk2, rfl⟩
  · refine Prg 1 2 (-2) (by omega) rfl hC hρ hW ?_ ?_
    · simp (disch := first | omega | (repeat (first | assumption | exact Ag_r | refine Ag_I ?_ rfl | refine Ag_F ?_ rfl | refine Ag_J ?_ rfl))) only [A110, FC f1, a7, ng hx, C_refuse2 f1, CO, HA, HB, HC, Nat.not_lt_zero, Nat.add_assoc, c_nlt, c_nle, c_neq, c_P, c_cl, c_m1, c_m1', nI_add, pk_mul, reduceIte, Nat.reduceEqDiff, Nat.reduceAdd, Nat.reduceMul, Nat.reduceLeDiff, eq_self, ↓pk_rem, pk_div, c_of, d_le, d_nle, d_lt, d_nlt, d_eq, d_ne]
      exact Ev_s ⟨rfl, RfC_i⟩
    · simp (disch := first | omega | (repeat (first | assumption | exact Ag_r | refine Ag_I ?_ rfl | refine Ag_F ?_ rfl | refine Ag_J ?_ rfl))) only [A214, FM F1, A7, M_in, l_lo, l_hi1, ng hx, M_tell2 h00, CO, HA, HB, HC, Nat.not_lt_zero, Nat.add_assoc, c_nlt, c_nle, c_neq, c_P, c_cl, c_m1, c_m1', nI_add, pk_mul, reduceIte, Nat.reduceEqDiff, Nat.reduceAdd, Nat.reduceMul, Nat.reduceLeDiff, eq_self, ↓pk_rem, pk_div, c_of, d_le, d_nle, d_lt, d_nlt, d_eq, d_ne]
      exact Ev_s ⟨rfl, RfM_i⟩
  · refine ⟨nI (nd - 1), ((v, H, fp, nl, fc, rn, (nd - 1, (fun i => if i < k then dv i else dv (i + 1)), (fun i => if i < k then dd i else dd (i + 1)), (fun i => if i < k then de i else de (i + 1))), (nu, uc, uh), lw), im, (tl, tp), (nI 0, fg, ft), rf, (yv, yK)), ⟨⟨w1, w2, ⟨w3, w4⟩, w5, ⟨by omega, fun i hi => ?_⟩, w7⟩, w8, ⟨w9, w10⟩, w11⟩, ?_, ?_⟩
    · by_cases q : i < k
      · simp only [if_pos q]; exact w6.2 i (by omega)
      · simp only [if_neg q]; exact w6.2 (i + 1) (by omega)
    · simp (disch := first | omega | (repeat (first | assumption | exact Ag_r | refine Ag_I ?_ rfl | refine Ag_F ?_ rfl | refine Ag_J ?_ rfl))) only [A110, A13, FC f1, a7, CO, HA, HB, HC, Nat.not_lt_zero, Nat.add_assoc, c_nlt, c_nle, c_neq, c_P, c_cl, c_m1, c_m1', nI_add, pk_mul, reduceIte, Nat.reduceEqDiff, Nat.reduceAdd, Nat.reduceMul, Nat.reduceLeDiff, eq_self, ↓pk_rem, pk_div, c_of, d_le, d_nle, d_lt, d_nlt, d_eq, d_ne]
      refine Ev_b (Q' := fun a υ => a = none ∧ Qb σ υ ∧ (hI υ 2 = hI σ 2 ∧ hI υ 3 = hI σ 3 ∧ hI υ 6 = hI σ 6 ∧ hI υ 7 = hI σ 7 ∧ hI υ 17 = hI σ 17 ∧ hI υ 34 = hI σ 34) ∧ (∀ k' j, ¬ (k' = 8 ∧ j = 3) → hF υ k' j = hF σ k' j) ∧ hF υ 8 3 = .int (nI (nd - 1)) ∧ ∀ i, i < nd - 1 → hI υ 9 i = nI (if i < k then dv i else dv (i + 1)) ∧ hI υ 10 i = nI (if i < k then dd i else dd (i + 1)) ∧ hI υ 11 i = nI (if i < k then de i else de (i + 1))) ?_ ?_
      · refine lp (α := Hp) (h := fun i x => (d + 7, 13, 2, [.ref 8, .int (nI k), .int (nI (k + i))], [], x)) (I := fun i x => Qb σ x ∧ (hI x 2 = hI σ 2 ∧ hI x 3 = hI σ 3 ∧ hI x 6 = hI σ 6 ∧ hI x 7 = hI σ 7 ∧ hI x 17 = hI σ 17 ∧ hI x 34 = hI σ 34) ∧ (∀ k' j, hF x k' j = hF σ k' j) ∧ ∀ j, j < nd → hI x 9 j = nI (if j < k ∨ k + i ≤ j then dv j else dv (j + 1)) ∧ hI x 10 j = nI (if j < k ∨ k + i ≤ j then dd j else dd (j + 1)) ∧ hI x 11 j = nI (if j < k ∨ k + i ≤ j then de j else de (j + 1))) (nd - 1 - k) ?_ ?_ 0 σ (Nat.zero_le _) ⟨Ag_r, ⟨rfl, rfl, rfl, rfl, rfl, rfl⟩, fun _ _ => rfl, fun j hj => by rw [if_pos (by omega), if_pos (by omega), if_pos (by omega)]; exact a8 j hj⟩
        · intro i x hi ⟨g, ⟨c1, c2, c3, c4, c5, c6⟩, cf, cd⟩ nx
          have h2 := Qb_C g f1
          have d8 : hF x 8 3 = .int (nI nd) := by rw [cf]; exact a7
          obtain ⟨e1, e2, e3⟩ := cd (k + i + 1) (by omega)
          rw [if_pos (by omega)] at e1 e2 e3
          have nn := nx (sI (sI (sI x 9 (upd (hI x 9) (k + i) (nI (dv (k + i + 1))))) 10 (upd (hI x 10) (k + i) (nI (dd (k + i + 1))))) 11 (upd (hI x 11) (k + i) (nI (de (k + i + 1))))) ⟨Ag_I (Ag_I (Ag_I g rfl) rfl) rfl, ⟨by simp only [HA, Nat.reduceEqDiff, reduceIte]; exact c1, by simp only [HA, Nat.reduceEqDiff, reduceIte]; exact c2, by simp only [HA, Nat.reduceEqDiff, reduceIte]; exact c3, by simp only [HA, Nat.reduceEqDiff, reduceIte]; exact c4, by simp only [HA, Nat.reduceEqDiff, reduceIte]; exact c5, by simp only [HA, Nat.reduceEqDiff, reduceIte]; exact c6⟩, by simpa only [HA] using cf, fun j hj => by
            simp only [HA, Nat.reduceEqDiff, reduceIte, ua]
            by_cases q : j = k + i
            · rw [if_pos q, if_pos q, if_pos q, if_neg (by omega), if_neg (by omega), if_neg (by omega), q]
              exact ⟨rfl, rfl, rfl⟩
            · obtain ⟨z1, z2, z3⟩ := cd j hj
              rw [if_neg q, if_neg q, if_neg q, z1, z2, z3]
              by_cases p : j < k ∨ k + i ≤ j
              · rw [if_pos p, if_pos p, if_pos p, if_pos (by omega), if_pos (by omega), if_pos (by omega)]; exact ⟨rfl, rfl, rfl⟩
              · rw [if_neg p, if_neg p, if_neg p, if_neg (by omega), if_neg (by omega), if_neg (by omega)]; exact ⟨rfl, rfl, rfl⟩⟩
          refine Ev_e ?_ nn
          show den (d + 7, 13, 2, [.ref 8, .int (nI k), .int (nI (k + i))], [], x) = _
          rw [a13_2]
          simp only [Nat.add_assoc] at e1 e2 e3 ⊢
          simp (disch := first | omega | (repeat (first | assumption | exact Ag_r | refine Ag_I ?_ rfl | refine Ag_F ?_ rfl | refine Ag_J ?_ rfl))) only [A13, FC h2, d8, e1, e2, e3, CO, HA, HB, HC, Nat.not_lt_zero, Nat.add_assoc, c_nlt, c_nle, c_neq, c_P, c_cl, c_m1, c_m1', nI_add, pk_mul, reduceIte, Nat.reduceEqDiff, Nat.reduceAdd, Nat.reduceMul, Nat.reduceLeDiff, eq_self, ↓pk_rem, pk_div, c_of, d_le, d_nle, d_lt, d_nlt, d_eq, d_ne]
        · intro x ⟨g, cc, cf, cd⟩
          have h2 := Qb_C g f1
          have d8 : hF x 8 3 = .int (nI nd) := by rw [cf]; exact a7
          show Ev (den (d + 7, 13, 2, [.ref 8, .int (nI k), .int (nI (k + (nd - 1 - k)))], [], x)) _
          rw [a13_2, show k + (nd - 1 - k) = nd - 1 by omega]
          have q1 : (nd ≤ nd - 1 + 1) = True := eq_true (by omega)
          simp (disch := first | omega | (repeat (first | assumption | exact Ag_r | refine Ag_I ?_ rfl | refine Ag_F ?_ rfl | refine Ag_J ?_ rfl))) only [A13, FC h2, d8, q1, pk_sub, CO, HA, HB, HC, Nat.not_lt_zero, Nat.add_assoc, c_nlt, c_nle, c_neq, c_P, c_cl, c_m1, c_m1', nI_add, pk_mul, reduceIte, Nat.reduceEqDiff, Nat.reduceAdd, Nat.reduceMul, Nat.reduceLeDiff, eq_self, ↓pk_rem, pk_div, c_of, d_le, d_nle, d_lt, d_nlt, d_eq, d_ne]
          refine Ev_s ⟨rfl, Ag_F g rfl, by simpa only [HA] using cc, fun k' j hh => by simp only [HA]; rw [if_neg hh]; exact cf k' j, by simp only [HA, and_self, reduceIte], fun i hi => ?_⟩
          obtain ⟨z1, z2, z3⟩ := cd i (by omega)
          simp only [HA]
          rw [z1, z2, z3]
          by_cases p : i < k
          · simp only [if_pos (show i < k ∨ k + (nd - 1 - k) ≤ i from Or.inl p), if_pos p, and_self]
          · simp only [if_neg (show ¬ (i < k ∨ k + (nd - 1 - k) ≤ i) by omega), if_neg p, and_self]
      · rintro _ υ ⟨rfl, g0, ⟨c1, c2, c3, c4, c5, c6⟩, cf, c8, cd⟩
        have h2 := Qb_C g0 f1
        simp (disch := first | omega | (repeat (first | assumption | exact Ag_r | refine Ag_I ?_ rfl | refine Ag_F ?_ rfl | refine Ag_J ?_ rfl))) only [A110, FC h2, c8, C_accept h2, CO, HA, HB, HC, Nat.not_lt_zero, Nat.add_assoc, c_nlt, c_nle, c_neq, c_P, c_cl, c_m1, c_m1', nI_add, pk_mul, reduceIte, Nat.reduceEqDiff, Nat.reduceAdd, Nat.reduceMul, Nat.reduceLeDiff, eq_self, ↓pk_rem, pk_div, c_of, d_le, d_nle, d_lt, d_nlt, d_eq, d_ne]
        have g : Qb σ (sF υ 0 11 (.int (nI 0))) := Ag_F g0 rfl
        have ff : ∀ k' j, ¬ (k' = 8 ∧ j = 3) → ¬ (k' = 0 ∧ j = 11) → hF (sF υ 0 11 (.int (nI 0))) k' j = hF σ k' j := fun k' j h1 h2 => by simp only [HA]; rw [if_neg h2]; exact cf k' j h1
        refine Ev_s ⟨rfl, RC_b g hC ⟨⟨by rw [ff _ _ (by omega) (by omega)]; exact a1, by simp only [HA]; rw [c1]; exact a2⟩, ⟨by rw [ff _ _ (by omega) (by omega)]; exact a3, by rw [ff _ _ (by omega) (by omega)]; exact a4, by rw [ff _ _ (by omega) (by omega)]; exact a5⟩, by simp only [HA]; rw [c2]; exact a6, ⟨by simp only [HA, Nat.reduceEqDiff, false_and, reduceIte]; exact c8, by simp only [HA]; exact cd⟩, ⟨tq, b1, by rw [ff _ _ (by omega) (by omega)]; exact b2, by rw [ff _ _ (by omega) (by omega)]; exact b3, by simp only [HA]; rw [c3, c4]; exact b4⟩, fun i hi => LaC_b g (a9 i hi)⟩ ⟨by rw [ff _ _ (by omega) (by omega)]; exact t1, by simp only [HA]; rw [c5]; exact t2⟩ ⟨by simp only [HA, and_self, reduceIte], by rw [ff _ _ (by omega) (by omega)]; exact u2, by rw [ff _ _ (by omega) (by omega)]; exact u3⟩ (by simp only [HA]; rw [c6]; exact r1), SaM_b g, Rm_2 (Rm_a g)⟩
    · simp (disch := first | omega | (repeat (first | assumption | exact Ag_r | refine Ag_I ?_ rfl | refine Ag_F ?_ rfl | refine Ag_J ?_ rfl))) only [A214, FM F1, A7, M_in, l_lo, l_hi1, CO, HA, HB, HC, Nat.not_lt_zero, Nat.add_assoc, c_nlt, c_nle, c_neq, c_P, c_cl, c_m1, c_m1', nI_add, pk_mul, reduceIte, Nat.reduceEqDiff, Nat.reduceAdd, Nat.reduceMul, Nat.reduceLeDiff, eq_self, ↓pk_rem, pk_div, c_of, d_le, d_nle, d_lt, d_nlt, d_eq, d_ne]
      refine lp (α := Nat → Int32) (h := fun i f => (d + 8, 214, 38, [.ref 57, .int (nI k), .int (nI (258 + 3 * k + i))], [], sF (sI ρ 59 f) 57 0 (.int (nI 0)))) (I := fun i f => ∀ x, f x = if 258 + 3 * k ≤ x ∧ x < 258 + 3 * k + i then hI ρ 59 (x + 3) else hI ρ 59 x) (27 - 3 * k) ?_ ?_ 0 (hI ρ 59) (Nat.zero_le _) (fun x => by rw [if_neg (by omega)]) |> fun kk => Ev_e (show den (d + 8, 214, 38, [.ref 57, .int (nI k), .int (nI (258 + 3 * k))], [], sF ρ 57 0 (.int (nI 0))) = den (d + 8, 214, 38, [.ref 57, .int (nI k), .int (nI (258 + 3 * k))], [], sF (sI ρ 59 (hI ρ 59)) 57 0 (.int (nI 0))) by rw [sI_self]) kk
      · intro i f hi hf nx
        have h2 : FxM (sF (sI ρ 59 f) 57 0 (.int (nI 0))) := FxM_a (P := Pn) (F := Fn) (Ag_F (Ag_I Ag_r rfl) rfl) (by decide) F1
        have e1 := hf (258 + 3 * k + i + 3)
        rw [if_neg (by omega)] at e1
        have nn := nx (upd f (258 + 3 * k + i) (hI ρ 59 (258 + 3 * k + i + 3))) (fun x => by
          rw [ua]
          by_cases q : x = 258 + 3 * k + i
          · rw [if_pos q, if_pos (by omega), q]
          · rw [if_neg q, hf x]
            by_cases p : 258 + 3 * k ≤ x ∧ x < 258 + 3 * k + i
            · rw [if_pos p, if_pos (by omega)]
            · rw [if_neg p, if_neg (by omega)])
        refine Ev_e ?_ nn
        show den (d + 8, 214, 38, [.ref 57, .int (nI k), .int (nI (258 + 3 * k + i))], [], sF (sI ρ 59 f) 57 0 (.int (nI 0))) = _
        rw [a214_38]
        simp only [Nat.add_assoc] at e1 ⊢
        simp (disch := first | omega | (repeat (first | assumption | exact Ag_r | refine Ag_I ?_ rfl | refine Ag_F ?_ rfl | refine Ag_J ?_ rfl))) only [A214, FM F1, e1, CO, HA, HB, HC, Nat.not_lt_zero, Nat.add_assoc, c_nlt, c_nle, c_neq, c_P, c_cl, c_m1, c_m1', nI_add, pk_mul, reduceIte, Nat.reduceEqDiff, Nat.reduceAdd, Nat.reduceMul, Nat.reduceLeDiff, eq_self, ↓pk_rem, pk_div, c_of, d_le, d_nle, d_lt, d_nlt, d_eq, d_ne]
      · intro f hf
        show Ev (den (d + 8, 214, 38, [.ref 57, .int (nI k), .int (nI (258 + 3 * k + (27 - 3 * k)))], [], sF (sI ρ 59 f) 57 0 (.int (nI 0)))) _
        rw [a214_38, show 258 + 3 * k + (27 - 3 * k) = 285 by omega]
        have e4 := hf 4
        rw [if_neg (by omega), A7] at e4
        have h2 : FxM (sF (sI ρ 59 (upd f 4 (nI (nd - 1)))) 57 0 (.int (nI 0))) := FxM_a (P := Pn) (F := Fn) (Ag_F (Ag_I Ag_r rfl) rfl) (by decide) F1
        simp (disch := first | omega | (repeat (first | assumption | exact Ag_r | refine Ag_I ?_ rfl | refine Ag_F ?_ rfl | refine Ag_J ?_ rfl))) only [A214, FM F1, e4, pk_sub, ua, M_tell h2 (show ¬ nI (nd - 1) < nI 0 by rw [c_nlt (by omega) (by omega)]; omega), CO, HA, HB, HC, Nat.not_lt_zero, Nat.add_assoc, c_nlt, c_nle, c_neq, c_P, c_cl, c_m1, c_m1', nI_add, pk_mul, reduceIte, Nat.reduceEqDiff, Nat.reduceAdd, Nat.reduceMul, Nat.reduceLeDiff, eq_self, ↓pk_rem, pk_div, c_of, d_le, d_nle, d_lt, d_nlt, d_eq, d_ne]
        have g : Qn ρ (sF (sF (sI ρ 59 (upd f 4 (nI (nd - 1)))) 57 0 (.int (nI 0))) 57 1 (.int (nI 0))) := Ag_F (Ag_F (Ag_I Ag_r rfl) rfl) rfl
        have ag : ∀ y, ¬ (y = 4 ∨ (258 ≤ y ∧ y < 288)) → hI (sF (sF (sI ρ 59 (upd f 4 (nI (nd - 1)))) 57 0 (.int (nI 0))) 57 1 (.int (nI 0))) 59 y = hI ρ 59 y := fun y hy => by
          simp only [HA, reduceIte, ua]
          rw [if_neg (by omega), hf y, if_neg (by omega)]
        refine Ev_s ⟨rfl, RM_n g hρ ⟨tH (fun y hy => ag y (by omega)) ⟨A1, A2⟩, tP (fun y hy => ag y (by omega)) ⟨A3, A4, A5⟩, tR (fun y hy => ag y (by omega)) A6, ⟨by simp only [HA, reduceIte, ua], fun i hi => ?_⟩, tU w7.1 (fun y hy => ag y (by omega)) ⟨B3, B4⟩, tL (fun y hy => ag y (by omega)) A9⟩ ⟨(by first | (simp only [HA, Nat.reduceEqDiff, false_and, and_false, and_self, reduceIte]; assumption) | assumption), (by first | (simp only [HA, Nat.reduceEqDiff, false_and, and_false, and_self, reduceIte]; assumption) | assumption)⟩ ⟨by simp only [HA, and_self, reduceIte], (by first | (simp only [HA, Nat.reduceEqDiff, false_and, and_false, and_self, reduceIte]; assumption) | assumption), (by first | (simp only [HA, Nat.reduceEqDiff, false_and, and_false, and_self, reduceIte]; assumption) | assumption)⟩ (by first | (simp only [HA, Nat.reduceEqDiff, false_and, and_false, and_self, reduceIte]; assumption) | assumption), KM_n g⟩
        simp only [HA, reduceIte, ua]
        rw [if_neg (show ¬ 258 + 3 * i = 4 by omega), if_neg (show ¬ 258 + (3 * i + 1) = 4 by omega), if_neg (show ¬ 258 + (3 * i + 2) = 4 by omega), hf (258 + 3 * i), hf (258 + (3 * i + 1)), hf (258 + (3 * i + 2))]
        by_cases q : i < k
        · have := A8 i (by omega)
          simp only [if_pos q, if_neg (show ¬ (258 + 3 * k ≤ 258 + 3 * i ∧ 258 + 3 * i < 258 + 3 * k + (27 - 3 * k)) by omega), if_neg (show ¬ (258 + 3 * k ≤ 258 + (3 * i + 1) ∧ 258 + (3 * i + 1) < 258 + 3 * k + (27 - 3 * k)) by omega), if_neg (show ¬ (258 + 3 * k ≤ 258 + (3 * i + 2) ∧ 258 + (3 * i + 2) < 258 + 3 * k + (27 - 3 * k)) by omega)]
          exact this
        · have := A8 (i + 1) (by omega)
          simp only [if_neg q, if_pos (show 258 + 3 * k ≤ 258 + 3 * i ∧ 258 + 3 * i < 258 + 3 * k + (27 - 3 * k) by omega), if_pos (show 258 + 3 * k ≤ 258 + (3 * i + 1) ∧ 258 + (3 * i + 1) < 258 + 3 * k + (27 - 3 * k) by omega), if_pos (show 258 + 3 * k ≤ 258 + (3 * i + 2) ∧ 258 + (3 * i + 2) < 258 + 3 * k + (27 - 3 * k) by omega)]
          rw [show 258 + 3 * i + 3 = 258 + 3 * (i + 1) by omega, show 258 + (3 * i + 1) + 3 = 258 + (3 * (i + 1) + 1) by omega, show 258 + (3 * i + 2) + 3 = 258 + (3 * (i + 1) + 2) by omega]
          exact this
  · refine Prg 1 2 (-2) (by omega) rfl hC hρ hW ?_ ?_
    · simp (disch := first | omega | (repeat (first | assumption | exact Ag_r | refine Ag_I ?_ rfl | refine Ag_F ?_ rfl | refine Ag_J ?_ rfl))) only [A110, FC f1, a7, C_refuse2 f1, CO, HA, HB, HC, Nat.not_lt_zero, Nat.add_assoc, c_nlt, c_nle, c_neq, c_P, c_cl, c_m1, c_m1', nI_add, pk_mul, reduceIte, Nat.reduceEqDiff, Nat.reduceAdd, Nat.reduceMul, Nat.reduceLeDiff, eq_self, ↓pk_rem, pk_div, c_of, d_le, d_nle, d_lt, d_nlt, d_eq, d_ne]
      exact Ev_s ⟨rfl, RfC_i⟩
    · simp (disch := first | omega | (repeat (first | assumption | exact Ag_r | refine Ag_I ?_ rfl | refine Ag_F ?_ rfl | refine Ag_J ?_ rfl))) only [A214, FM F1, A7, M_in, l_lo, l_hi1, M_tell2 h00, CO, HA, HB, HC, Nat.not_lt_zero, Nat.add_assoc, c_nlt, c_nle, c_neq, c_P, c_cl, c_m1, c_m1', nI_add, pk_mul, reduceIte, Nat.reduceEqDiff, Nat.reduceAdd, Nat.reduceMul, Nat.reduceLeDiff, eq_self, ↓pk_rem, pk_div, c_of, d_le, d_nle, d_lt, d_nlt, d_eq, d_ne]
      exact Ev_s ⟨rfl, RfM_i⟩
theorem C_rainS {d : Nat} {σ : Hp} {rn : Nat → Nat} (h : FxC σ) (a6 : ∀ e, e < 28 → hI σ 3 e = nI (rn e)) : den (d, 78, 0, [.ref 1, .float 0, .float 0], [], σ) = some (some (.int (nI (gsm rn 28))), σ) := by
  have key := lq (h := fun i => (d, 78, 4, [.ref 1, .int (nI (gsm rn i)), .int (nI i)], [], σ)) 28 (by
    intro i hi
    rw [a78_4]
    simp only [gsm]
    simp (disch := first | omega | (repeat (first | assumption | exact Ag_r | refine Ag_I ?_ rfl | refine Ag_F ?_ rfl | refine Ag_J ?_ rfl))) only [A78, FC h, a6 i hi, CO, HA, HB, HC, Nat.not_lt_zero, Nat.add_assoc, c_nlt, c_nle, c_neq, c_P, c_cl, c_m1, c_m1', nI_add, pk_mul, reduceIte, Nat.reduceEqDiff, Nat.reduceAdd, Nat.reduceMul, Nat.reduceLeDiff, eq_self, ↓pk_rem, pk_div, c_of, d_le, d_nle, d_lt, d_nlt, d_eq, d_ne]
    ) 0 (Nat.zero_le _)
  have z0 : gsm rn 0 = 0 := rfl
  rw [z0] at key
  simp (disch := first | omega | (repeat (first | assumption | exact Ag_r | refine Ag_I ?_ rfl | refine Ag_F ?_ rfl | refine Ag_J ?_ rfl))) only [A78, CO, HA, HB, HC, Nat.not_lt_zero, Nat.add_assoc, c_nlt, c_nle, c_neq, c_P, c_cl, c_m1, c_m1', nI_add, pk_mul, reduceIte, Nat.reduceEqDiff, Nat.reduceAdd, Nat.reduceMul, Nat.reduceLeDiff, eq_self, ↓pk_rem, pk_div, c_of, d_le, d_nle, d_lt, d_nlt, d_eq, d_ne]
  rw [key, a78_4]
  simp (disch := first | omega | (repeat (first | assumption | exact Ag_r | refine Ag_I ?_ rfl | refine Ag_F ?_ rfl | refine Ag_J ?_ rfl))) only [A78, CO, HA, HB, HC, Nat.not_lt_zero, Nat.add_assoc, c_nlt, c_nle, c_neq, c_P, c_cl, c_m1, c_m1', nI_add, pk_mul, reduceIte, Nat.reduceEqDiff, Nat.reduceAdd, Nat.reduceMul, Nat.reduceLeDiff, eq_self, ↓pk_rem, pk_div, c_of, d_le, d_nle, d_lt, d_nlt, d_eq, d_ne]
theorem K_count (hC : RC σ R) (hM : RM σ R) (hW : RW R) (x : Int32) : Pr (fun σ => (499, 117, 0, [.ref 0, .int x], [], σ)) (fun σ => (499, 222, 0, [.ref 57, .int x, .float 0, .float 0], [], σ)) σ (fun υ => ∃ R', Ok σ υ R') := by
  obtain ⟨d, hd⟩ : ∃ d, 499 = d + 8 := ⟨491, rfl⟩
  rw [hd]
  clear hd
  refine Pq hC hM hW (fun ρ hρ => ?_)
  obtain ⟨⟨v, H, fp, nl, fc, rn, ⟨nd, dv, dd, de⟩, ⟨nu, uc, uh⟩, lw⟩, im, ⟨tl, tp⟩, ⟨st, fg, ft⟩, rf, ⟨yv, yK⟩⟩ := R
  obtain ⟨f1, s1, im1, ⟨t1, t2⟩, ⟨u1, u2, u3⟩, r1, y1⟩ := id hC
  obtain ⟨⟨a1, a2⟩, ⟨a3, a4, a5⟩, a6, ⟨a7, a8⟩, ⟨tq, b1, b2, b3, b4⟩, a9⟩ := S1_SC.mpr s1
  obtain ⟨F1, S1', IM1, ⟨T1, T2⟩, ⟨U1, U2, U3⟩, R1, Y1⟩ := id hρ
  obtain ⟨⟨A1, A2⟩, ⟨A3, A4, A5⟩, A6, ⟨A7, A8⟩, ⟨B3, B4⟩, A9⟩ := M1_SM.mpr S1'
  obtain ⟨⟨w1, w2, ⟨w3, w4⟩, w5, w6, w7⟩, w8, ⟨w9, w10⟩, w11⟩ := id hW
  have F1 : FxM ρ := F1
  have key : den (d + 8, 222, 0, [.ref 57, .int x, .float 0, .float 0], [], ρ) = den (d + 8, 222, 33, [.ref 57, .int x, .int (nI (gsm rn 28)), .int (nI 28)], [], sF ρ 57 0 (.int (nI 0))) := by
    have key := lq (h := fun i => (d + 8, 222, 9, [.ref 57, .int x, .int (nI (gsm rn i)), .int (nI i)], [], sF ρ 57 0 (.int (nI 0)))) 28 (by
      intro i hi
      rw [a222_9]
      simp only [gsm]
      simp (disch := omega) only [a222_10, a222_12, a222_15, a222_16, a222_17, a222_20, a222_22, a222_23, a222_24, a222_25, a222_26, a222_27, a222_30, FM F1, A6 i hi, CO, HA, HB, Nat.reduceEqDiff, c_nle, d_nle, c_P, c_cl, nI_add, reduceIte]
      ) 0 (Nat.zero_le _)
    have z0 : gsm rn 0 = 0 := rfl
    rw [z0] at key
    simp only [a222_0, a222_1, a222_2, a222_5, a222_6, a222_7, a222_8, FM F1, reduceIte]
    rw [key, a222_9]
    simp (disch := omega) only [a222_10, a222_12, c_nle, Nat.le_refl, reduceIte]
  rcases tri x 12 (by omega) with hx | ⟨k, hk, rfl⟩ | ⟨k, hk, hk2, rfl⟩
  · have hx' : x.toInt < 0 ∨ 12 < x.toInt := Or.inl (by rw [Int32.lt_iff_toInt_lt, nI_toInt (by omega)] at hx; exact hx)
    refine ⟨-1, ?_, ?_⟩
    · simp (disch := first | omega | (repeat (first | assumption | exact Ag_r | refine Ag_I ?_ rfl | refine Ag_F ?_ rfl | refine Ag_J ?_ rfl))) only [A117, a117_1_d hx', ng hx, CO, HA, HB, HC, Nat.not_lt_zero, Nat.add_assoc, c_nlt, c_nle, c_neq, c_P, c_cl, c_m1, c_m1', nI_add, pk_mul, reduceIte, Nat.reduceEqDiff, Nat.reduceAdd, Nat.reduceMul, Nat.reduceLeDiff, eq_self, ↓pk_rem, pk_div, c_of, d_le, d_nle, d_lt, d_nlt, d_eq, d_ne]
      exact Ev_s ⟨rfl, Ag_r⟩
    · rw [key]
      simp (disch := first | omega | (repeat (first | assumption | exact Ag_r | refine Ag_I ?_ rfl | refine Ag_F ?_ rfl | refine Ag_J ?_ rfl))) only [A222, a222_34_d hx', CO, HA, HB, HC, Nat.not_lt_zero, Nat.add_assoc, c_nlt, c_nle, c_neq, c_P, c_cl, c_m1, c_m1', nI_add, pk_mul, reduceIte, Nat.reduceEqDiff, Nat.reduceAdd, Nat.reduceMul, Nat.reduceLeDiff, eq_self, ↓pk_rem, pk_div, c_of, d_le, d_nle, d_lt, d_nlt, d_eq, d_ne]
      exact Ev_s ⟨rfl, (by repeat (first | assumption | exact Ag_r | refine Ag_I ?_ rfl | refine Ag_F ?_ rfl | refine Ag_J ?_ rfl))⟩
  · obtain rfl | rfl | rfl | rfl | rfl | rfl | rfl | rfl | rfl | rfl | rfl | rfl | rfl : k = 0 ∨ k = 1 ∨ k = 2 ∨ k = 3 ∨ k = 4 ∨ k = 5 ∨ k = 6 ∨ k = 7 ∨ k = 8 ∨ k = 9 ∨ k = 10 ∨ k = 11 ∨ k = 12 := by omega
    · refine ⟨nI v, ?_, ?_⟩
      · simp (disch := first | omega | (repeat (first | assumption | exact Ag_r | refine Ag_I ?_ rfl | refine Ag_F ?_ rfl | refine Ag_J ?_ rfl))) only [A117, FC f1, pk_sub, Nat.reduceSub, a1, CO, HA, HB, HC, Nat.not_lt_zero, Nat.add_assoc, c_nlt, c_nle, c_neq, c_P, c_cl, c_m1, c_m1', nI_add, pk_mul, reduceIte, Nat.reduceEqDiff, Nat.reduceAdd, Nat.reduceMul, Nat.reduceLeDiff, eq_self, ↓pk_rem, pk_div, c_of, d_le, d_nle, d_lt, d_nlt, d_eq, d_ne]
        exact Ev_s ⟨rfl, Ag_r⟩
      · rw [key]
        simp (disch := first | omega | (repeat (first | assumption | exact Ag_r | refine Ag_I ?_ rfl | refine Ag_F ?_ rfl | refine Ag_J ?_ rfl))) only [A222, FM F1, A1, M_villages (FxM_sF F1 (k := 57) (j := 0) (v := .int (nI 0)) (Or.inr (by decide))), CO, HA, HB, HC, Nat.not_lt_zero, Nat.add_assoc, c_nlt, c_nle, c_neq, c_P, c_cl, c_m1, c_m1', nI_add, pk_mul, reduceIte, Nat.reduceEqDiff, Nat.reduceAdd, Nat.reduceMul, Nat.reduceLeDiff, eq_self, ↓pk_rem, pk_div, c_of, d_le, d_nle, d_lt, d_nlt, d_eq, d_ne]
        exact Ev_s ⟨rfl, (by repeat (first | assumption | exact Ag_r | refine Ag_I ?_ rfl | refine Ag_F ?_ rfl | refine Ag_J ?_ rfl))⟩
    · refine ⟨nI (gsm rn 28), ?_, ?_⟩
      · simp (disch := first | omega | (repeat (first | assumption | exact Ag_r | refine Ag_I ?_ rfl | refine Ag_F ?_ rfl | refine Ag_J ?_ rfl))) only [A117, FC f1, pk_sub, Nat.reduceSub, C_rainS f1 a6, CO, HA, HB, HC, Nat.not_lt_zero, Nat.add_assoc, c_nlt, c_nle, c_neq, c_P, c_cl, c_m1, c_m1', nI_add, pk_mul, reduceIte, Nat.reduceEqDiff, Nat.reduceAdd, Nat.reduceMul, Nat.reduceLeDiff, eq_self, ↓pk_rem, pk_div, c_of, d_le, d_nle, d_lt, d_nlt, d_eq, d_ne]
        exact Ev_s ⟨rfl, Ag_r⟩
      · rw [key]
        simp (disch := first | omega | (repeat (first | assumption | exact Ag_r | refine Ag_I ?_ rfl | refine Ag_F ?_ rfl | refine Ag_J ?_ rfl))) only [A222, FM F1, A1, CO, HA, HB, HC, Nat.not_lt_zero, Nat.add_assoc, c_nlt, c_nle, c_neq, c_P, c_cl, c_m1, c_m1', nI_add, pk_mul, reduceIte, Nat.reduceEqDiff, Nat.reduceAdd, Nat.reduceMul, Nat.reduceLeDiff, eq_self, ↓pk_rem, pk_div, c_of, d_le, d_nle, d_lt, d_nlt, d_eq, d_ne]
        exact Ev_s ⟨rfl, (by repeat (first | assumption | exact Ag_r | refine Ag_I ?_ rfl | refine Ag_F ?_ rfl | refine Ag_J ?_ rfl))⟩
    · refine ⟨nI nl, ?_, ?_⟩
      · simp (disch := first | omega | (repeat (first | assumption | exact Ag_r | refine Ag_I ?_ rfl | refine Ag_F ?_ rfl | refine Ag_J ?_ rfl))) only [A117, FC f1, pk_sub, Nat.reduceSub, a4, CO, HA, HB, HC, Nat.not_lt_zero, Nat.add_assoc, c_nlt, c_nle, c_neq, c_P, c_cl, c_m1, c_m1', nI_add, pk_mul, reduceIte, Nat.reduceEqDiff, Nat.reduceAdd, Nat.reduceMul, Nat.reduceLeDiff, eq_self, ↓pk_rem, pk_div, c_of, d_le, d_nle, d_lt, d_nlt, d_eq, d_ne]
        exact Ev_s ⟨rfl, Ag_r⟩
      · rw [key]
        simp (disch := first | omega | (repeat (first | assumption | exact Ag_r | refine Ag_I ?_ rfl | refine Ag_F ?_ rfl | refine Ag_J ?_ rfl))) only [A222, FM F1, A4, CO, HA, HB, HC, Nat.not_lt_zero, Nat.add_assoc, c_nlt, c_nle, c_neq, c_P, c_cl, c_m1, c_m1', nI_add, pk_mul, reduceIte, Nat.reduceEqDiff, Nat.reduceAdd, Nat.reduceMul, Nat.reduceLeDiff, eq_self, ↓pk_rem, pk_div, c_of, d_le, d_nle, d_lt, d_nlt, d_eq, d_ne]
        exact Ev_s ⟨rfl, (by repeat (first | assumption | exact Ag_r | refine Ag_I ?_ rfl | refine Ag_F ?_ rfl | refine Ag_J ?_ rfl))⟩
    · refine ⟨nI nd, ?_, ?_⟩
      · simp (disch := first | omega | (repeat (first | assumption | exact Ag_r | refine Ag_I ?_ rfl | refine Ag_F ?_ rfl | refine Ag_J ?_ rfl))) only [A117, FC f1, pk_sub, Nat.reduceSub, a7, CO, HA, HB, HC, Nat.not_lt_zero, Nat.add_assoc, c_nlt, c_nle, c_neq, c_P, c_cl, c_m1, c_m1', nI_add, pk_mul, reduceIte, Nat.reduceEqDiff, Nat.reduceAdd, Nat.reduceMul, Nat.reduceLeDiff, eq_self, ↓pk_rem, pk_div, c_of, d_le, d_nle, d_lt, d_nlt, d_eq, d_ne]
        exact Ev_s ⟨rfl, Ag_r⟩
      · rw [key]
        simp (disch := first | omega | (repeat (first | assumption | exact Ag_r | refine Ag_I ?_ rfl | refine Ag_F ?_ rfl | refine Ag_J ?_ rfl))) only [A222, FM F1, A7, CO, HA, HB, HC, Nat.not_lt_zero, Nat.add_assoc, c_nlt, c_nle, c_neq, c_P, c_cl, c_m1, c_m1', nI_add, pk_mul, reduceIte, Nat.reduceEqDiff, Nat.reduceAdd, Nat.reduceMul, Nat.reduceLeDiff, eq_self, ↓pk_rem, pk_div, c_of, d_le, d_nle, d_lt, d_nlt, d_eq, d_ne]
        exact Ev_s ⟨rfl, (by repeat (first | assumption | exact Ag_r | refine Ag_I ?_ rfl | refine Ag_F ?_ rfl | refine Ag_J ?_ rfl))⟩
    · refine ⟨nI nu, ?_, ?_⟩
      · simp (disch := first | omega | (repeat (first | assumption | exact Ag_r | refine Ag_I ?_ rfl | refine Ag_F ?_ rfl | refine Ag_J ?_ rfl))) only [A117, FC f1, pk_sub, Nat.reduceSub, b3, CO, HA, HB, HC, Nat.not_lt_zero, Nat.add_assoc, c_nlt, c_nle, c_neq, c_P, c_cl, c_m1, c_m1', nI_add, pk_mul, reduceIte, Nat.reduceEqDiff, Nat.reduceAdd, Nat.reduceMul, Nat.reduceLeDiff, eq_self, ↓pk_rem, pk_div, c_of, d_le, d_nle, d_lt, d_nlt, d_eq, d_ne]
        exact Ev_s ⟨rfl, Ag_r⟩
      · rw [key]
        simp (disch := first | omega | (repeat (first | assumption | exact Ag_r | refine Ag_I ?_ rfl | refine Ag_F ?_ rfl | refine Ag_J ?_ rfl))) only [A222, FM F1, B3, CO, HA, HB, HC, Nat.not_lt_zero, Nat.add_assoc, c_nlt, c_nle, c_neq, c_P, c_cl, c_m1, c_m1', nI_add, pk_mul, reduceIte, Nat.reduceEqDiff, Nat.reduceAdd, Nat.reduceMul, Nat.reduceLeDiff, eq_self, ↓pk_rem, pk_div, c_of, d_le, d_nle, d_lt, d_nlt, d_eq, d_ne]
        exact Ev_s ⟨rfl, (by repeat (first | assumption | exact Ag_r | refine Ag_I ?_ rfl | refine Ag_F ?_ rfl | refine Ag_J ?_ rfl))⟩
    · refine ⟨nI tl, ?_, ?_⟩
      · simp (disch := first | omega | (repeat (first | assumption | exact Ag_r | refine Ag_I ?_ rfl | refine Ag_F ?_ rfl | refine Ag_J ?_ rfl))) only [A117, FC f1, pk_sub, Nat.reduceSub, t1, CO, HA, HB, HC, Nat.not_lt_zero, Nat.add_assoc, c_nlt, c_nle, c_neq, c_P, c_cl, c_m1, c_m1', nI_add, pk_mul, reduceIte, Nat.reduceEqDiff, Nat.reduceAdd, Nat.reduceMul, Nat.reduceLeDiff, eq_self, ↓pk_rem, pk_div, c_of, d_le, d_nle, d_lt, d_nlt, d_eq, d_ne]
        exact Ev_s ⟨rfl, Ag_r⟩
      · rw [key]
        simp (disch := first | omega | (repeat (first | assumption | exact Ag_r | refine Ag_I ?_ rfl | refine Ag_F ?_ rfl | refine Ag_J ?_ rfl))) only [A222, FM F1, T1, CO, HA, HB, HC, Nat.not_lt_zero, Nat.add_assoc, c_nlt, c_nle, c_neq, c_P, c_cl, c_m1, c_m1', nI_add, pk_mul, reduceIte, Nat.reduceEqDiff, Nat.reduceAdd, Nat.reduceMul, Nat.reduceLeDiff, eq_self, ↓pk_rem, pk_div, c_of, d_le, d_nle, d_lt, d_nlt, d_eq, d_ne]
        exact Ev_s ⟨rfl, (by repeat (first | assumption | exact Ag_r | refine Ag_I ?_ rfl | refine Ag_F ?_ rfl | refine Ag_J ?_ rfl))⟩
    · refine ⟨rf 0, ?_, ?_⟩
      · simp (disch := first | omega | (repeat (first | assumption | exact Ag_r | refine Ag_I ?_ rfl | refine Ag_F ?_ rfl | refine Ag_J ?_ rfl))) only [A117, FC f1, pk_sub, Nat.reduceSub, r1 0 (by omega), CO, HA, HB, HC, Nat.not_lt_zero, Nat.add_assoc, c_nlt, c_nle, c_neq, c_P, c_cl, c_m1, c_m1', nI_add, pk_mul, reduceIte, Nat.reduceEqDiff, Nat.reduceAdd, Nat.reduceMul, Nat.reduceLeDiff, eq_self, ↓pk_rem, pk_div, c_of, d_le, d_nle, d_lt, d_nlt, d_eq, d_ne]
        exact Ev_s ⟨rfl, Ag_r⟩
      · rw [key]
        simp (disch := first | omega | (repeat (first | assumption | exact Ag_r | refine Ag_I ?_ rfl | refine Ag_F ?_ rfl | refine Ag_J ?_ rfl))) only [A222, FM F1, show hI ρ 58 1 = rf 0 from R1 0 (by omega), CO, HA, HB, HC, Nat.not_lt_zero, Nat.add_assoc, c_nlt, c_nle, c_neq, c_P, c_cl, c_m1, c_m1', nI_add, pk_mul, reduceIte, Nat.reduceEqDiff, Nat.reduceAdd, Nat.reduceMul, Nat.reduceLeDiff, eq_self, ↓pk_rem, pk_div, c_of, d_le, d_nle, d_lt, d_nlt, d_eq, d_ne]
        exact Ev_s ⟨rfl, (by repeat (first | assumption | exact Ag_r | refine Ag_I ?_ rfl | refine Ag_F ?_ rfl | refine Ag_J ?_ rfl))⟩
    · refine ⟨rf 1, ?_, ?_⟩
      · simp (disch := first | omega | (repeat (first | assumption | exact Ag_r | refine Ag_I ?_ rfl | refine Ag_F ?_ rfl | refine Ag_J ?_ rfl))) only [A117, FC f1, pk_sub, Nat.reduceSub, r1 1 (by omega), CO, HA, HB, HC, Nat.not_lt_zero, Nat.add_assoc, c_nlt, c_nle, c_neq, c_P, c_cl, c_m1, c_m1', nI_add, pk_mul, reduceIte, Nat.reduceEqDiff, Nat.reduceAdd, Nat.reduceMul, Nat.reduceLeDiff, eq_self, ↓pk_rem, pk_div, c_of, d_le, d_nle, d_lt, d_nlt, d_eq, d_ne]
        exact Ev_s ⟨rfl, Ag_r⟩
      · rw [key]
        simp (disch := first | omega | (repeat (first | assumption | exact Ag_r | refine Ag_I ?_ rfl | refine Ag_F ?_ rfl | refine Ag_J ?_ rfl))) only [A222, FM F1, show hI ρ 58 2 = rf 1 from R1 1 (by omega), CO, HA, HB, HC, Nat.not_lt_zero, Nat.add_assoc, c_nlt, c_nle, c_neq, c_P, c_cl, c_m1, c_m1', nI_add, pk_mul, reduceIte, Nat.reduceEqDiff, Nat.reduceAdd, Nat.reduceMul, Nat.reduceLeDiff, eq_self, ↓pk_rem, pk_div, c_of, d_le, d_nle, d_lt, d_nlt, d_eq, d_ne]
        exact Ev_s ⟨rfl, (by repeat (first | assumption | exact Ag_r | refine Ag_I ?_ rfl | refine Ag_F ?_ rfl | refine Ag_J ?_ rfl))⟩
    · refine ⟨rf 2, ?_, ?_⟩
      · simp (disch := first | omega | (repeat (first | assumption | exact Ag_r | refine Ag_I ?_ rfl | refine Ag_F ?_ rfl | refine Ag_J ?_ rfl))) only [A117, FC f1, pk_sub, Nat.reduceSub, r1 2 (by omega), CO, HA, HB, HC, Nat.not_lt_zero, Nat.add_assoc, c_nlt, c_nle, c_neq, c_P, c_cl, c_m1, c_m1', nI_add, pk_mul, reduceIte, Nat.reduceEqDiff, Nat.reduceAdd, Nat.reduceMul, Nat.reduceLeDiff, eq_self, ↓pk_rem, pk_div, c_of, d_le, d_nle, d_lt, d_nlt, d_eq, d_ne]
        exact Ev_s ⟨rfl, Ag_r⟩
      · rw [key]
        simp (disch := first | omega | (repeat (first | assumption | exact Ag_r | refine Ag_I ?_ rfl | refine Ag_F ?_ rfl | refine Ag_J ?_ rfl))) only [A222, FM F1, show hI ρ 58 3 = rf 2 from R1 2 (by omega), CO, HA, HB, HC, Nat.not_lt_zero, Nat.add_assoc, c_nlt, c_nle, c_neq, c_P, c_cl, c_m1, c_m1', nI_add, pk_mul, reduceIte, Nat.reduceEqDiff, Nat.reduceAdd, Nat.reduceMul, Nat.reduceLeDiff, eq_self, ↓pk_rem, pk_div, c_of, d_le, d_nle, d_lt, d_nlt, d_eq, d_ne]
        exact Ev_s ⟨rfl, (by repeat (first | assumption | exact Ag_r | refine Ag_I ?_ rfl | refine Ag_F ?_ rfl | refine Ag_J ?_ rfl))⟩
    · refine ⟨rf 3, ?_, ?_⟩
      · simp (disch := first | omega | (repeat (first | assumption | exact Ag_r | refine Ag_I ?_ rfl | refine Ag_F ?_ rfl | refine Ag_J ?_ rfl))) only [A117, FC f1, pk_sub, Nat.reduceSub, r1 3 (by omega), CO, HA, HB, HC, Nat.not_lt_zero, Nat.add_assoc, c_nlt, c_nle, c_neq, c_P, c_cl, c_m1, c_m1', nI_add, pk_mul, reduceIte, Nat.reduceEqDiff, Nat.reduceAdd, Nat.reduceMul, Nat.reduceLeDiff, eq_self, ↓pk_rem, pk_div, c_of, d_le, d_nle, d_lt, d_nlt, d_eq, d_ne]
        exact Ev_s ⟨rfl, Ag_r⟩
      · rw [key]
        simp (disch := first | omega | (repeat (first | assumption | exact Ag_r | refine Ag_I ?_ rfl | refine Ag_F ?_ rfl | refine Ag_J ?_ rfl))) only [A222, FM F1, show hI ρ 58 5 = rf 3 from R1 3 (by omega), CO, HA, HB, HC, Nat.not_lt_zero, Nat.add_assoc, c_nlt, c_nle, c_neq, c_P, c_cl, c_m1, c_m1', nI_add, pk_mul, reduceIte, Nat.reduceEqDiff, Nat.reduceAdd, Nat.reduceMul, Nat.reduceLeDiff, eq_self, ↓pk_rem, pk_div, c_of, d_le, d_nle, d_lt, d_nlt, d_eq, d_ne]
        exact Ev_s ⟨rfl, (by repeat (first | assumption | exact Ag_r | refine Ag_I ?_ rfl | refine Ag_F ?_ rfl | refine Ag_J ?_ rfl))⟩
    · refine ⟨rf 4, ?_, ?_⟩
      · simp (disch := first | omega | (repeat (first | assumption | exact Ag_r | refine Ag_I ?_ rfl | refine Ag_F ?_ rfl | refine Ag_J ?_ rfl))) only [A117, FC f1, pk_sub, Nat.reduceSub, r1 4 (by omega), CO, HA, HB, HC, Nat.not_lt_zero, Nat.add_assoc, c_nlt, c_nle, c_neq, c_P, c_cl, c_m1, c_m1', nI_add, pk_mul, reduceIte, Nat.reduceEqDiff, Nat.reduceAdd, Nat.reduceMul, Nat.reduceLeDiff, eq_self, ↓pk_rem, pk_div, c_of, d_le, d_nle, d_lt, d_nlt, d_eq, d_ne]
        exact Ev_s ⟨rfl, Ag_r⟩
      · rw [key]
        simp (disch := first | omega | (repeat (first | assumption | exact Ag_r | refine Ag_I ?_ rfl | refine Ag_F ?_ rfl | refine Ag_J ?_ rfl))) only [A222, FM F1, show hI ρ 58 6 = rf 4 from R1 4 (by omega), CO, HA, HB, HC, Nat.not_lt_zero, Nat.add_assoc, c_nlt, c_nle, c_neq, c_P, c_cl, c_m1, c_m1', nI_add, pk_mul, reduceIte, Nat.reduceEqDiff, Nat.reduceAdd, Nat.reduceMul, Nat.reduceLeDiff, eq_self, ↓pk_rem, pk_div, c_of, d_le, d_nle, d_lt, d_nlt, d_eq, d_ne]
        exact Ev_s ⟨rfl, (by repeat (first | assumption | exact Ag_r | refine Ag_I ?_ rfl | refine Ag_F ?_ rfl | refine Ag_J ?_ rfl))⟩
    · refine ⟨ofo fc, ?_, ?_⟩
      · simp (disch := first | omega | (repeat (first | assumption | exact Ag_r | refine Ag_I ?_ rfl | refine Ag_F ?_ rfl | refine Ag_J ?_ rfl))) only [A117, FC f1, pk_sub, Nat.reduceSub, a5, CO, HA, HB, HC, Nat.not_lt_zero, Nat.add_assoc, c_nlt, c_nle, c_neq, c_P, c_cl, c_m1, c_m1', nI_add, pk_mul, reduceIte, Nat.reduceEqDiff, Nat.reduceAdd, Nat.reduceMul, Nat.reduceLeDiff, eq_self, ↓pk_rem, pk_div, c_of, d_le, d_nle, d_lt, d_nlt, d_eq, d_ne]
        exact Ev_s ⟨rfl, Ag_r⟩
      · rw [key]
        simp (disch := first | omega | (repeat (first | assumption | exact Ag_r | refine Ag_I ?_ rfl | refine Ag_F ?_ rfl | refine Ag_J ?_ rfl))) only [A222, FM F1, A5, CO, HA, HB, HC, Nat.not_lt_zero, Nat.add_assoc, c_nlt, c_nle, c_neq, c_P, c_cl, c_m1, c_m1', nI_add, pk_mul, reduceIte, Nat.reduceEqDiff, Nat.reduceAdd, Nat.reduceMul, Nat.reduceLeDiff, eq_self, ↓pk_rem, pk_div, c_of, d_le, d_nle, d_lt, d_nlt, d_eq, d_ne]
        exact Ev_s ⟨rfl, (by repeat (first | assumption | exact Ag_r | refine Ag_I ?_ rfl | refine Ag_F ?_ rfl | refine Ag_J ?_ rfl))⟩
    · refine ⟨nI fp, ?_, ?_⟩
      · simp (disch := first | omega | (repeat (first | assumption | exact Ag_r | refine Ag_I ?_ rfl | refine Ag_F ?_ rfl | refine Ag_J ?_ rfl))) only [A117, FC f1, pk_sub, Nat.reduceSub, a3, CO, HA, HB, HC, Nat.not_lt_zero, Nat.add_assoc, c_nlt, c_nle, c_neq, c_P, c_cl, c_m1, c_m1', nI_add, pk_mul, reduceIte, Nat.reduceEqDiff, Nat.reduceAdd, Nat.reduceMul, Nat.reduceLeDiff, eq_self, ↓pk_rem, pk_div, c_of, d_le, d_nle, d_lt, d_nlt, d_eq, d_ne]
        exact Ev_s ⟨rfl, Ag_r⟩
      · rw [key]
        simp (disch := first | omega | (repeat (first | assumption | exact Ag_r | refine Ag_I ?_ rfl | refine Ag_F ?_ rfl | refine Ag_J ?_ rfl))) only [A222, FM F1, A3, CO, HA, HB, HC, Nat.not_lt_zero, Nat.add_assoc, c_nlt, c_nle, c_neq, c_P, c_cl, c_m1, c_m1', nI_add, pk_mul, reduceIte, Nat.reduceEqDiff, Nat.reduceAdd, Nat.reduceMul, Nat.reduceLeDiff, eq_self, ↓pk_rem, pk_div, c_of, d_le, d_nle, d_lt, d_nlt, d_eq, d_ne]
        exact Ev_s ⟨rfl, (by repeat (first | assumption | exact Ag_r | refine Ag_I ?_ rfl | refine Ag_F ?_ rfl | refine Ag_J ?_ rfl))⟩
  · have hx' : (nI k).toInt < 0 ∨ 12 < (nI k).toInt := Or.inr (by rw [nI_toInt hk2]; omega)
    refine ⟨-1, ?_, ?_⟩
    · simp (disch := first | omega | (repeat (first | assumption | exact Ag_r | refine Ag_I ?_ rfl | refine Ag_F ?_ rfl | refine Ag_J ?_ rfl))) only [A117, a117_1_d hx', CO, HA, HB, HC, Nat.not_lt_zero, Nat.add_assoc, c_nlt, c_nle, c_neq, c_P, c_cl, c_m1, c_m1', nI_add, pk_mul, reduceIte, Nat.reduceEqDiff, Nat.reduceAdd, Nat.reduceMul, Nat.reduceLeDiff, eq_self, ↓pk_rem, pk_div, c_of, d_le, d_nle, d_lt, d_nlt, d_eq, d_ne]
      exact Ev_s ⟨rfl, Ag_r⟩
    · rw [key]
      simp (disch := first | omega | (repeat (first | assumption | exact Ag_r | refine Ag_I ?_ rfl | refine Ag_F ?_ rfl | refine Ag_J ?_ rfl))) only [A222, a222_34_d hx', CO, HA, HB, HC, Nat.not_lt_zero, Nat.add_assoc, c_nlt, c_nle, c_neq, c_P, c_cl, c_m1, c_m1', nI_add, pk_mul, reduceIte, Nat.reduceEqDiff, Nat.reduceAdd, Nat.reduceMul, Nat.reduceLeDiff, eq_self, ↓pk_rem, pk_div, c_of, d_le, d_nle, d_lt, d_nlt, d_eq, d_ne]
      exact Ev_s ⟨rfl, (by repeat (first | assumption | exact Ag_r | refine Ag_I ?_ rfl | refine Ag_F ?_ rfl | refine Ag_J ?_ rfl))⟩
end
