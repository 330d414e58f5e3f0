/-! image, back -/
theorem LwM_e {g g' : Nat → Int32} {n : Nat} {hs : Nat → Nat} {t : Nat → Bool} {φ ψ : Nat → Ph} (e : ∀ j, j < 900 → g j = g' j) (h : LwM g n hs t φ ψ) : LwM g' n hs t φ ψ := by
  obtain ⟨b0, b1, b2, ⟨n12, g1⟩, cl⟩ := h
  refine ⟨b0, b1, b2, ⟨n12, by rw [← e 1 (by omega)]; exact g1⟩, fun i hi => ?_⟩
  obtain ⟨h5, hb2, ⟨k0, k3, k4, k5, k6⟩, c1, c2⟩ := cl i hi
  have b12 : b1 i ≤ b2 i := by rcases c2 with ⟨-, h, -⟩ | ⟨-, h, -⟩ <;> omega
  refine ⟨h5, hb2, ⟨by rw [← e _ (by omega)]; exact k0, by rw [← e _ (by omega)]; exact k3, by rw [← e _ (by omega)]; exact k4, by rw [← e _ (by omega)]; exact k5, by rw [← e _ (by omega)]; exact k6⟩, ?_, ?_⟩
  · rcases c1 with ⟨x, sg⟩ | c1
    · exact Or.inl ⟨x, SgM_e sg (fun i _ hi => ⟨e _ (by omega), e _ (by omega)⟩)⟩
    · exact Or.inr c1
  · rcases c2 with ⟨x, y, sg⟩ | c2
    · exact Or.inl ⟨x, y, SgM_e sg (fun i _ hi => ⟨e _ (by omega), e _ (by omega)⟩)⟩
    · exact Or.inr c2
theorem SM_c {σ τ : Hp} {q o q' o' : Nat} {S : StT} (hw : WS S) (e : ∀ x, x < 5790 → hI τ q' (o' + x) = hI σ q (o + x)) (h : SM σ q o S) : SM τ q' o' S := by
  obtain ⟨v, H, fp, nl, fc, rn, ⟨nd, dv, dd, de⟩, ⟨nu, uc, uh⟩, lw⟩ := S
  obtain ⟨⟨a1, a2⟩, ⟨a3, a4, a5⟩, a6, ⟨a7, a8⟩, ⟨b3, b4⟩, a9⟩ := h
  obtain ⟨w1, w2, ⟨w3, w4⟩, w5, w6, w7⟩ := hw
  have n10 := w6.1
  have n32 := w7.1
  refine ⟨⟨by rw [e _ (by omega)]; exact a1, fun c hc => by rw [e _ (by omega)]; exact a2 c hc⟩, ⟨by rw [e _ (by omega)]; exact a3, by rw [e _ (by omega)]; exact a4, by rw [e _ (by omega)]; exact a5⟩, fun i hi => by rw [e _ (by omega)]; exact a6 i hi, ⟨by rw [e _ (by omega)]; exact a7, fun k hk => by rw [e _ (by omega), e _ (by omega), e _ (by omega)]; exact a8 k hk⟩, ⟨by rw [e _ (by omega)]; exact b3, fun k hk => by rw [e _ (by omega), e _ (by omega), e _ (by omega)]; exact b4 k hk⟩, fun i hi => LwM_e (fun j hj => (e _ (by omega)).symm) (a9 i hi)⟩
theorem SC_f {b : Nat} {σ υ : Hp} (g : Bf b σ υ) {a : Nat} (hb : b ≤ 46) (h1 : a + 10 < b ∨ b + 10 < a) {S : StT} (h : SC σ a S) : SC υ a S := by
  obtain ⟨v, H, fp, nl, fc, rn, ⟨nd, dv, dd, de⟩, ⟨nu, uc, uh⟩, lw⟩ := S
  obtain ⟨-, ⟨g1, g2, -⟩, g3, -⟩ := g
  have i := fun (j : Nat) (hj : j ≤ 10) => (g3 (a + j) (by omega)).1
  have f := fun (j k : Nat) (hj : j ≤ 10) => (g3 (a + j) (by omega)).2.2 k
  have f0 := fun (k : Nat) => f 0 k (by omega)
  rw [Nat.add_zero] at f0
  obtain ⟨⟨a1, a2⟩, ⟨a3, a4, a5⟩, a6, ⟨a7, a8⟩, ⟨tp, t1, t2, t3, t4⟩, a9⟩ := h
  refine ⟨⟨by rw [f0]; exact a1, by rw [i 1 (by omega)]; exact a2⟩, ⟨by rw [f0]; exact a3, by rw [f0]; exact a4, by rw [f0]; exact a5⟩, by rw [i 2 (by omega)]; exact a6, ⟨by rw [f 7 3 (by omega)]; exact a7, by rw [i 8 (by omega), i 9 (by omega), i 10 (by omega)]; exact a8⟩, ⟨tp, t1, by rw [f 4 2 (by omega)]; exact t2, by rw [f 4 3 (by omega)]; exact t3, by rw [i 5 (by omega), i 6 (by omega)]; exact t4⟩, fun j hj => ?_⟩
  obtain ⟨ℓ, c, ⟨r1, r2, r3, r4⟩, ⟨c1, c2, c3⟩, lww⟩ := a9 j hj
  have c1' : ¬ (b ≤ c ∧ c ≤ b + 10) := fun z => absurd (Nat.le_trans c1 z.2) (by omega)
  refine ⟨ℓ, c, ⟨by rw [(g3 (a + 3) (by omega)).2.1]; exact r1, r2, by rw [g1]; exact r3, by rw [(g3 ℓ (by omega)).2.2]; exact r4⟩, ⟨c1, by rw [g1]; exact c2, by rw [g2]; exact c3⟩, ?_⟩
  rw [g2, (g3 c c1').1]; exact lww
theorem Bf_C {b : Nat} {σ υ : Hp} (g : Bf b σ υ) (hb : b = 1 ∨ b = 35 ∨ b = 46) (h : FxC σ) : FxC υ := FxC_f g.2.1.1 g.2.1.2.1 (g.2.2.1 12 (by omega)).2.1 g.2.2.2 h
theorem Bf_S {b : Nat} {σ υ : Hp} (g : Bf b σ υ) (hb : b = 1 ∨ b = 35 ∨ b = 46) : SaM σ υ := ⟨g.1.2.2, fun k h1 h2 => ⟨⟨by rw [g.2.1.1], by rw [g.2.1.2.1]⟩, (g.2.2.1 k (by omega)).2.2, (g.2.2.1 k (by omega)).1, by rw [g.2.1.2.2]⟩⟩
theorem Bf_L {b : Nat} {σ υ : Hp} (g : Bf b σ υ) (hb : b = 1 ∨ b = 35 ∨ b = 46) (ht : tyL υ (b + 3)) : RLw σ → RLw υ := by
  intro r a ha
  by_cases z : a = b + 3
  · rw [z]; exact ht
  · have := r a ha
    rw [(g.2.2.1 a (by omega)).2.1, g.2.1.1]
    exact this
section
variable {σ : Hp} {R : AllT}
theorem K_image (hC : RC σ R) (hM : RM σ R) (hW : RW R) (hL : RLw σ) (x : Int32) : Pr (fun σ => (499, 115, 0, [.ref 0, .int x], [], σ)) (fun σ => (499, 137, 0, [.ref 57, .int x, .float 0], [], σ)) σ (fun υ => ∃ R', Ok σ υ R') := by
  obtain ⟨d, hd⟩ : ∃ d, 499 = d + 8 := ⟨491, rfl⟩
  rw [hd]
  clear hd
  refine Pmut hC hM hW (fun ρ hρ => ?_)
  obtain ⟨⟨v, H, fp, nl, fc, rn, ⟨nd, dv, dd, de⟩, ⟨nu, uc, uh⟩, lw⟩, im, ⟨tl, tp⟩, ⟨st, fg, ft⟩, rf, ⟨yv, yK⟩⟩ := R
  obtain ⟨f1, s1, im1, ⟨t1, t2⟩, ⟨u1, u2, u3⟩, r1, y1⟩ := id hC
  obtain ⟨⟨a1, a2⟩, ⟨a3, a4, a5⟩, a6, ⟨a7, a8⟩, ⟨tq, b1, b2, b3, b4⟩, a9⟩ := S1_SC.mpr s1
  obtain ⟨F1, S1', IM1, ⟨T1, T2⟩, ⟨U1, U2, U3⟩, R1, Y1⟩ := id hρ
  obtain ⟨⟨A1, A2⟩, ⟨A3, A4, A5⟩, A6, ⟨A7, A8⟩, ⟨B3, B4⟩, A9⟩ := M1_SM.mpr S1'
  obtain ⟨⟨w1, w2, ⟨w3, w4⟩, w5, w6, w7⟩, w8, ⟨w9, w10⟩, w11⟩ := id hW
  have h00 : FxM (sF ρ 57 0 (.int (nI 0))) := FxM_sF F1 (Or.inr (by decide))
  rcases tri x 1 (by omega) with hx | ⟨k, hk, rfl⟩ | ⟨k, hk, hk2, rfl⟩
  · refine Prg 0 1 (-1) (by omega) rfl hC hρ hW ?_ ?_
    · simp (disch := first | omega | (repeat (first | assumption | exact Ag_r | refine Ag_I ?_ rfl | refine Ag_F ?_ rfl | refine Ag_J ?_ rfl))) only [A115, A124, FC f1, ng hx, C_refuse1 f1, CO, HA, HB, HC, Nat.not_lt_zero, Nat.add_assoc, c_nlt, c_nle, c_neq, c_P, c_cl, c_m1, c_m1', nI_add, pk_mul, reduceIte, Nat.reduceEqDiff, Nat.reduceAdd, Nat.reduceMul, Nat.reduceLeDiff, eq_self, ↓pk_rem, pk_div, c_of, d_le, d_nle, d_lt, d_nlt, d_eq, d_ne]
      exact Ev_s ⟨rfl, RfC_i⟩
    · simp (disch := first | omega | (repeat (first | assumption | exact Ag_r | refine Ag_I ?_ rfl | refine Ag_F ?_ rfl | refine Ag_J ?_ rfl))) only [A137, FM F1, M_in, l_lo, l_hi, ng hx, M_tell1 h00, CO, HA, HB, HC, Nat.not_lt_zero, Nat.add_assoc, c_nlt, c_nle, c_neq, c_P, c_cl, c_m1, c_m1', nI_add, pk_mul, reduceIte, Nat.reduceEqDiff, Nat.reduceAdd, Nat.reduceMul, Nat.reduceLeDiff, eq_self, ↓pk_rem, pk_div, c_of, d_le, d_nle, d_lt, d_nlt, d_eq, d_ne]
      exact Ev_s ⟨rfl, RfM_i⟩
  · refine ⟨nI 0, ((v, H, fp, nl, fc, rn, (nd, dv, dd, de), (nu, uc, uh), lw), (fun j => if j = k then some (v, H, fp, nl, fc, rn, (nd, dv, dd, de), (nu, uc, uh), lw) else im j), (tl, tp), (nI 0, fg, ft), rf, (yv, yK)), ⟨⟨w1, w2, ⟨w3, w4⟩, w5, w6, w7⟩, fun j S' hj e => ?_, ⟨w9, w10⟩, w11⟩, ?_, ?_⟩
    · by_cases q : j = k
      · simp only [if_pos q] at e; cases e; exact ⟨w1, w2, ⟨w3, w4⟩, w5, w6, w7⟩
      · simp only [if_neg q] at e; exact w8 j S' hj e
    · have fin : ∀ υ, Bf (35 + 11 * k) σ υ → SC υ (35 + 11 * k) (v, H, fp, nl, fc, rn, (nd, dv, dd, de), (nu, uc, uh), lw) → tyL υ (35 + 11 * k + 3) → Ev (some (some (Value.int (nI 0)), sF (sI υ 13 (upd (hI υ 13) k (nI 1))) 0 11 (.int (nI 0)))) (fun a τ => a = some (.int (nI 0)) ∧ RC τ ((v, H, fp, nl, fc, rn, (nd, dv, dd, de), (nu, uc, uh), lw), (fun j => if j = k then some (v, H, fp, nl, fc, rn, (nd, dv, dd, de), (nu, uc, uh), lw) else im j), (tl, tp), (nI 0, fg, ft), rf, (yv, yK)) ∧ SaM σ τ ∧ Rm2 σ τ) := by
        intro υ g sb ty
        have hb : 35 + 11 * k = 1 ∨ 35 + 11 * k = 35 ∨ 35 + 11 * k = 46 := by omega
        have f2 := Bf_C g hb f1
        have ga : Ag (fun z => Nat.beq z 13) (fun z j => Nat.beq z 0 && Nat.beq j 11) υ (sF (sI υ 13 (upd (hI υ 13) k (nI 1))) 0 11 (.int (nI 0))) := Ag_F (Ag_I Ag_r rfl) rfl
        have hX : ∀ z, Xc z → Nat.beq z 13 = false := fun z hz => bq (by unfold Xc at hz; omega)
        have hF : ∀ z j, Xc z → (Nat.beq z 0 && Nat.beq j 11) = false := fun z j hz => by rw [bq (show ¬ z = 0 by unfold Xc at hz; omega)]; rfl
        have g3 := g.2.2.1
        refine Ev_s ⟨rfl, ⟨FxC_a ga (by decide) f2, SC_a ga hX hF (Or.inl rfl) (SC_f g (by omega) (by omega) s1), fun j hj => ⟨?_, fun S' e => ?_⟩, ⟨?_, ?_⟩, ⟨by simp only [HA, and_self, reduceIte], ?_, ?_⟩, ?_, ?_, ?_, ?_⟩, SaM_t (Bf_S g hb) (SaM_a ga (fun z h1 h2 => ⟨bq (by omega), fun j => by rw [bq (show ¬ z = 0 by omega)]; rfl⟩)), ⟨⟨by simp only [HB]; rw [g.1.1]; omega, by simp only [HB]; rw [g.1.2.1]; omega⟩, fun r => ?_⟩⟩
        · simp only [HA, reduceIte, ua]
          by_cases q : j = k
          · simp only [if_pos q, Option.isSome_some, reduceIte]
          · simp only [if_neg q]; rw [(g3 13 (by omega)).1]; exact (im1 j hj).1
        · by_cases q : j = k
          · simp only [if_pos q] at e; cases e; rw [q]; exact SC_a ga hX hF hb sb
          · simp only [if_neg q] at e
            exact SC_a ga hX hF (by omega) (SC_f g (by omega) (by omega) ((im1 j hj).2 S' e))
        · simp only [HA, Nat.reduceEqDiff, false_and, reduceIte]; rw [(g3 16 (by omega)).2.2]; exact t1
        · simp only [HA, Nat.reduceEqDiff, reduceIte]; rw [(g3 17 (by omega)).1]; exact t2
        · simp only [HA, Nat.reduceEqDiff, and_false, reduceIte]; rw [(g3 0 (by omega)).2.2]; exact u2
        · simp only [HA, Nat.reduceEqDiff, and_false, reduceIte]; rw [(g3 0 (by omega)).2.2]; exact u3
        · simp only [HA, Nat.reduceEqDiff, reduceIte]; rw [(g3 34 (by omega)).1]; exact r1
        · simp only [HA, Nat.reduceEqDiff, false_and, reduceIte]; rw [(g3 31 (by omega)).2.2]; exact y1.1
        · simp only [HA, Nat.reduceEqDiff, reduceIte]; rw [(g3 32 (by omega)).1]; exact y1.2.1
        · simp only [HA, Nat.reduceEqDiff, reduceIte]; rw [(g3 33 (by omega)).1]; exact y1.2.2
        · have := Bf_L g hb ty r
          unfold RLw at this ⊢
          simp only [HA, HB]
          exact this
      have ws : WS (v, H, fp, nl, fc, rn, (nd, dv, dd, de), (nu, uc, uh), lw) := ⟨w1, w2, ⟨w3, w4⟩, w5, w6, w7⟩
      have vn : vp_nar .boolean (nI 1) = nI 1 := rfl
      obtain rfl | rfl : k = 0 ∨ k = 1 := by omega
      · simp (disch := first | omega | (repeat (first | assumption | exact Ag_r | refine Ag_I ?_ rfl | refine Ag_F ?_ rfl | refine Ag_J ?_ rfl))) only [A115, A124, FC f1, mxQ, CO, HA, HB, HC, Nat.not_lt_zero, Nat.add_assoc, c_nlt, c_nle, c_neq, c_P, c_cl, c_m1, c_m1', nI_add, pk_mul, reduceIte, Nat.reduceEqDiff, Nat.reduceAdd, Nat.reduceMul, Nat.reduceLeDiff, eq_self, ↓pk_rem, pk_div, c_of, d_le, d_nle, d_lt, d_nlt, d_eq, d_ne]
        refine Ev_b (C_bec_35_1 (d := d + 5) f1 s1 ws (hL 4 (Or.inl rfl))) ?_
        rintro _ υ ⟨rfl, g, sb, ty⟩
        have f2 := Bf_C g (by omega) f1
        have f3 : FxC (sI υ 13 (upd (hI υ 13) 0 (nI 1))) := FxC_a (P := fun z => Nat.beq z 13) (F := fun _ _ => false) (Ag_I Ag_r rfl) (by decide) f2
        refine Ev_e ?_ (fin υ g sb ty)
        simp (disch := first | omega | (repeat (first | assumption | exact Ag_r | refine Ag_I ?_ rfl | refine Ag_F ?_ rfl | refine Ag_J ?_ rfl))) only [A115, FC f2, vn, C_accept f3, CO, HA, HB, HC, Nat.not_lt_zero, Nat.add_assoc, c_nlt, c_nle, c_neq, c_P, c_cl, c_m1, c_m1', nI_add, pk_mul, reduceIte, Nat.reduceEqDiff, Nat.reduceAdd, Nat.reduceMul, Nat.reduceLeDiff, eq_self, ↓pk_rem, pk_div, c_of, d_le, d_nle, d_lt, d_nlt, d_eq, d_ne]
      · simp (disch := first | omega | (repeat (first | assumption | exact Ag_r | refine Ag_I ?_ rfl | refine Ag_F ?_ rfl | refine Ag_J ?_ rfl))) only [A115, A124, FC f1, mxQ, CO, HA, HB, HC, Nat.not_lt_zero, Nat.add_assoc, c_nlt, c_nle, c_neq, c_P, c_cl, c_m1, c_m1', nI_add, pk_mul, reduceIte, Nat.reduceEqDiff, Nat.reduceAdd, Nat.reduceMul, Nat.reduceLeDiff, eq_self, ↓pk_rem, pk_div, c_of, d_le, d_nle, d_lt, d_nlt, d_eq, d_ne]
        refine Ev_b (C_bec_46_1 (d := d + 5) f1 s1 ws (hL 4 (Or.inl rfl))) ?_
        rintro _ υ ⟨rfl, g, sb, ty⟩
        have f2 := Bf_C g (by omega) f1
        have f3 : FxC (sI υ 13 (upd (hI υ 13) 1 (nI 1))) := FxC_a (P := fun z => Nat.beq z 13) (F := fun _ _ => false) (Ag_I Ag_r rfl) (by decide) f2
        refine Ev_e ?_ (fin υ g sb ty)
        simp (disch := first | omega | (repeat (first | assumption | exact Ag_r | refine Ag_I ?_ rfl | refine Ag_F ?_ rfl | refine Ag_J ?_ rfl))) only [A115, FC f2, vn, C_accept f3, CO, HA, HB, HC, Nat.not_lt_zero, Nat.add_assoc, c_nlt, c_nle, c_neq, c_P, c_cl, c_m1, c_m1', nI_add, pk_mul, reduceIte, Nat.reduceEqDiff, Nat.reduceAdd, Nat.reduceMul, Nat.reduceLeDiff, eq_self, ↓pk_rem, pk_div, c_of, d_le, d_nle, d_lt, d_nlt, d_eq, d_ne]
    · simp (disch := first | omega | (repeat (first | assumption | exact Ag_r | refine Ag_I ?_ rfl | refine Ag_F ?_ rfl | refine Ag_J ?_ rfl))) only [A137, FM F1, M_in, l_lo, l_hi, CO, HA, HB, HC, Nat.not_lt_zero, Nat.add_assoc, c_nlt, c_nle, c_neq, c_P, c_cl, c_m1, c_m1', nI_add, pk_mul, reduceIte, Nat.reduceEqDiff, Nat.reduceAdd, Nat.reduceMul, Nat.reduceLeDiff, eq_self, ↓pk_rem, pk_div, c_of, d_le, d_nle, d_lt, d_nlt, d_eq, d_ne]
      have vn : vp_nar .boolean (nI 1) = nI 1 := rfl
      refine lp (α := Nat → Int32) (h := fun i f => (d + 8, 137, 23, [.ref 57, .int (nI k), .int (nI i)], [], sF (sI ρ 60 f) 57 0 (.int (nI 0)))) (I := fun i f => ∀ z, f z = if 5790 * k ≤ z ∧ z < 5790 * k + i then hI ρ 59 (z - 5790 * k) else hI ρ 60 z) 5790 ?_ ?_ 0 (hI ρ 60) (Nat.zero_le _) (fun z => by rw [if_neg (by omega)]) |> fun kk => Ev_e (show den (d + 8, 137, 23, [.ref 57, .int (nI k), .int (nI 0)], [], sF ρ 57 0 (.int (nI 0))) = den (d + 8, 137, 23, [.ref 57, .int (nI k), .int (nI 0)], [], sF (sI ρ 60 (hI ρ 60)) 57 0 (.int (nI 0))) by rw [sI_self]) kk
      · intro i f hi hf nx
        have nn := nx (upd f (5790 * k + i) (hI ρ 59 i)) (fun z => by
          rw [ua]
          by_cases q : z = 5790 * k + i
          · rw [if_pos q, if_pos (by omega), q, Nat.add_sub_cancel_left]
          · rw [if_neg q, hf z]
            by_cases p : 5790 * k ≤ z ∧ z < 5790 * k + i
            · rw [if_pos p, if_pos (by omega)]
            · rw [if_neg p, if_neg (by omega)])
        refine Ev_e ?_ nn
        show den (d + 8, 137, 23, [.ref 57, .int (nI k), .int (nI i)], [], sF (sI ρ 60 f) 57 0 (.int (nI 0))) = _
        rw [a137_23]
        simp (disch := first | omega | (repeat (first | assumption | exact Ag_r | refine Ag_I ?_ rfl | refine Ag_F ?_ rfl | refine Ag_J ?_ rfl))) only [A137, FM F1, CO, HA, HB, HC, Nat.not_lt_zero, Nat.add_assoc, c_nlt, c_nle, c_neq, c_P, c_cl, c_m1, c_m1', nI_add, pk_mul, reduceIte, Nat.reduceEqDiff, Nat.reduceAdd, Nat.reduceMul, Nat.reduceLeDiff, eq_self, ↓pk_rem, pk_div, c_of, d_le, d_nle, d_lt, d_nlt, d_eq, d_ne]
      · intro f hf
        show Ev (den (d + 8, 137, 23, [.ref 57, .int (nI k), .int (nI 5790)], [], sF (sI ρ 60 f) 57 0 (.int (nI 0)))) _
        rw [a137_23]
        have ga : Ag (fun z => Nat.beq z 60 || Nat.beq z 61) (fun z j => Nat.beq z 57 && Nat.beq j 0) ρ (sF (sI (sI ρ 60 f) 61 (upd (hI ρ 61) k (nI 1))) 57 0 (.int (nI 0))) := Ag_F (Ag_I (Ag_I Ag_r rfl) rfl) rfl
        have h2 := FxM_a ga (by decide) F1
        simp (disch := first | omega | (repeat (first | assumption | exact Ag_r | refine Ag_I ?_ rfl | refine Ag_F ?_ rfl | refine Ag_J ?_ rfl))) only [A137, FM F1, vn, M_tell h2 (show ¬ nI 0 < nI 0 by rw [c_nlt (by omega) (by omega)]; omega), CO, HA, HB, HC, Nat.not_lt_zero, Nat.add_assoc, c_nlt, c_nle, c_neq, c_P, c_cl, c_m1, c_m1', nI_add, pk_mul, reduceIte, Nat.reduceEqDiff, Nat.reduceAdd, Nat.reduceMul, Nat.reduceLeDiff, eq_self, ↓pk_rem, pk_div, c_of, d_le, d_nle, d_lt, d_nlt, d_eq, d_ne]
        have gb : Ag (fun z => Nat.beq z 60 || Nat.beq z 61) (fun z j => Nat.beq z 57 && (Nat.beq j 0 || Nat.beq j 1)) ρ (sF (sF (sI (sI ρ 60 f) 61 (upd (hI ρ 61) k (nI 1))) 57 0 (.int (nI 0))) 57 1 (.int (nI 0))) := Ag_F (Ag_F (Ag_I (Ag_I Ag_r rfl) rfl) rfl) rfl
        have ws : WS (v, H, fp, nl, fc, rn, (nd, dv, dd, de), (nu, uc, uh), lw) := ⟨w1, w2, ⟨w3, w4⟩, w5, w6, w7⟩
        refine Ev_s ⟨rfl, ⟨FxM_a gb (by decide) F1, SM_e (Ag_i gb 59 rfl) S1', fun j hj => ⟨?_, fun S' e => ?_⟩, ⟨(by first | (simp only [HA, Nat.reduceEqDiff, false_and, and_false, and_self, reduceIte]; assumption) | assumption), by rw [Ag_i gb 62 rfl]; exact T2⟩, ⟨by simp only [HA, and_self, reduceIte], (by first | (simp only [HA, Nat.reduceEqDiff, false_and, and_false, and_self, reduceIte]; assumption) | assumption), (by first | (simp only [HA, Nat.reduceEqDiff, false_and, and_false, and_self, reduceIte]; assumption) | assumption)⟩, by rw [Ag_i gb 58 rfl]; exact R1, ⟨by rw [Ag_f gb 57 52 rfl]; exact Y1.1.1, by rw [Ag_i gb 84 rfl]; exact Y1.1.2⟩, by rw [Ag_j gb 68 rfl]; exact Y1.2.1, by rw [Ag_j gb 69 rfl]; exact Y1.2.2⟩, ?_⟩
        · simp only [HA, reduceIte, ua]
          by_cases q : j = k
          · simp only [if_pos q, Option.isSome_some, reduceIte]
          · simp only [if_neg q]; exact (IM1 j hj).1
        · by_cases q : j = k
          · simp only [if_pos q] at e
            cases e
            refine SM_c ws (fun z hz => ?_) S1'
            simp only [HA, Nat.reduceEqDiff, reduceIte]
            rw [hf, if_pos (by rw [q]; omega), q, Nat.add_sub_cancel_left, Nat.zero_add]
          · simp only [if_neg q] at e
            refine SM_c (w8 j S' hj e) (fun z hz => ?_) ((IM1 j hj).2 S' e)
            simp only [HA, Nat.reduceEqDiff, reduceIte]
            rw [hf, if_neg (by omega)]
        · exact Ag_w gb (fun z e => by
            simp only [Bool.or_eq_true] at e
            rcases e with e | e <;> (have := Nat.eq_of_beq_eq_true e; subst this; rfl)) (fun z j e => by
            simp only [Bool.and_eq_true] at e
            exact e.1)
  · refine Prg 0 1 (-1) (by omega) rfl hC hρ hW ?_ ?_
    · simp (disch := first | omega | (repeat (first | assumption | exact Ag_r | refine Ag_I ?_ rfl | refine Ag_F ?_ rfl | refine Ag_J ?_ rfl))) only [A115, A124, FC f1, C_refuse1 f1, CO, HA, HB, HC, Nat.not_lt_zero, Nat.add_assoc, c_nlt, c_nle, c_neq, c_P, c_cl, c_m1, c_m1', nI_add, pk_mul, reduceIte, Nat.reduceEqDiff, Nat.reduceAdd, Nat.reduceMul, Nat.reduceLeDiff, eq_self, ↓pk_rem, pk_div, c_of, d_le, d_nle, d_lt, d_nlt, d_eq, d_ne]
      exact Ev_s ⟨rfl, RfC_i⟩
    · simp (disch := first | omega | (repeat (first | assumption | exact Ag_r | refine Ag_I ?_ rfl | refine Ag_F ?_ rfl | refine Ag_J ?_ rfl))) only [A137, FM F1, M_in, l_lo, l_hi, M_tell1 h00, CO, HA, HB, HC, Nat.not_lt_zero, Nat.add_assoc, c_nlt, c_nle, c_neq, c_P, c_cl, c_m1, c_m1', nI_add, pk_mul, reduceIte, Nat.reduceEqDiff, Nat.reduceAdd, Nat.reduceMul, Nat.reduceLeDiff, eq_self, ↓pk_rem, pk_div, c_of, d_le, d_nle, d_lt, d_nlt, d_eq, d_ne]
      exact Ev_s ⟨rfl, RfM_i⟩
end
