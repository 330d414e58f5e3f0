/-! law, on both sides -/
section
variable {d nl b N : Nat} {σ τ1 : Hp}
theorem C_law1 (f1 : FxC σ) (a4 : hF σ 1 2 = .int (nI nl)) (h6 : nl < 6) (eC : den (d + 9, 49, 0, [.ref 14, .float 0], [], σ) = some (some (.int (nI 1)), τ1)) (gC : Qrd σ τ1) (s2 : hF τ1 14 2 = .int (nI b)) (b4 : b ≤ 400) (n0 : hN σ = N) (l : 85 ≤ N) : ∃ τ9, den (d + 10, 89, 0, [.ref 0, .float 0], [], σ) = some (some (.int (nI nl)), τ9) ∧ Ex N τ1 τ9 ∧ (hN τ9 = N + 2 ∧ hS τ9 = hS τ1 + (1 + b) ∧ hX τ9 = hX τ1) ∧ hR τ9 4 = va_up (hR τ1 4) nl (some N) ∧ (kd τ9 N = 5 ∧ hF τ9 N 0 = .ref (N + 1) ∧ kd τ9 (N + 1) = 100 ∧ hL τ9 (N + 1) = b ∧ hI τ9 (N + 1) = va_cpy (hI τ1 15) (fun _ => 0) 0 0 b) ∧ (hF τ9 1 2 = .int (nI (nl + 1)) ∧ hF τ9 16 1 = .int (nI 0) ∧ hF τ9 0 11 = .int (nI 0) ∧ hF τ9 0 13 = .int (-1)) := by
  have f1' : FxC τ1 := Qrd_C gC f1
  have n1 : hN τ1 = N := gC.1.1.trans n0
  have a4' : hF τ1 1 2 = .int (nI nl) := by rw [Ag_f gC 1 2 rfl]; exact a4
  -- to the new object
  have x2 : Ex N τ1 (sF (sF τ1 16 1 (.int (nI 0))) 0 13 (.int (-1))) := Ex_F (Ex_F Ex_r rfl) rfl
  have f2 : FxC (sF (sF τ1 16 1 (.int (nI 0))) 0 13 (.int (-1))) := FxC_x x2 (by omega) f1'
  have p1 : den (d + 10, 89, 0, [.ref 0, .float 0], [], σ) = den (d + 10, 89, 84, [.ref 0, .int (nI 1)], [.int (nI nl), .ref 4], sF (sF τ1 16 1 (.int (nI 0))) 0 13 (.int (-1))) := by
    simp (disch := omega) only [a89_0, a89_1, a89_4, a89_7, a89_9, a89_27, a89_28, a89_31, a89_34, a89_35, a89_36, a89_39, a89_40, a89_43, a89_44, a89_65, a89_66, a89_67, a89_70, a89_71, a89_74, a89_77, a89_78, a89_81, FC f1, a4, eC, FC f1', a4', d_le, d_lt, d_nlt, d_nle, CO, HA, HB, HC, Nat.not_lt_zero, Nat.add_assoc, c_nlt, c_nle, c_neq, c_P, c_cl, c_m1, c_m1', nI_add, pk_mul, reduceIte, Nat.reduceEqDiff, Nat.reduceAdd, Nat.reduceMul, Nat.reduceLeDiff, eq_self]
  have n2 : hN (sF (sF τ1 16 1 (.int (nI 0))) 0 13 (.int (-1))) = N := n1
  have q2 : hS (sF (sF τ1 16 1 (.int (nI 0))) 0 13 (.int (-1))) = hS τ1 ∧ hX (sF (sF τ1 16 1 (.int (nI 0))) 0 13 (.int (-1))) = hX τ1 ∧ hR (sF (sF τ1 16 1 (.int (nI 0))) 0 13 (.int (-1))) 4 = hR τ1 4 ∧ hI (sF (sF τ1 16 1 (.int (nI 0))) 0 13 (.int (-1))) 15 = hI τ1 15 := ⟨rfl, rfl, rfl, rfl⟩
  have r2 : hF (sF (sF τ1 16 1 (.int (nI 0))) 0 13 (.int (-1))) 14 2 = .int (nI b) ∧ hF (sF (sF τ1 16 1 (.int (nI 0))) 0 13 (.int (-1))) 1 2 = .int (nI nl) ∧ hF (sF (sF τ1 16 1 (.int (nI 0))) 0 13 (.int (-1))) 16 1 = .int (nI 0) ∧ hF (sF (sF τ1 16 1 (.int (nI 0))) 0 13 (.int (-1))) 0 13 = .int (-1) := by
    simp only [HA, Nat.reduceEqDiff, false_and, and_false, and_self, reduceIte]
    exact ⟨s2, a4', trivial⟩
  generalize sF (sF τ1 16 1 (.int (nI 0))) 0 13 (.int (-1)) = τ2 at x2 f2 p1 n2 q2 r2
  -- to the copy
  have x3 : Ex N τ1 (nO τ2 5 1 (mxB 5)) := Ex_O x2 (by omega)
  have f3 : FxC (nO τ2 5 1 (mxB 5)) := FxC_x x3 (by omega) f1'
  have s3 : hF (nO τ2 5 1 (mxB 5)) 14 2 = .int (nI b) := by rw [hF_nO, if_neg (by omega)]; exact r2.1
  have p2 : den (d + 10, 89, 84, [.ref 0, .int (nI 1)], [.int (nI nl), .ref 4], τ2) = (den (d + 9, 226, 0, [.ref 15, .int (nI b), .float 0], [], nO τ2 5 1 (mxB 5))).bind (fun q => den (d + 10, 89, 105, [.ref 0, .int (nI 1)], q.1.toList ++ [.ref N, .ref N, .int (nI nl), .ref 4], q.2)) := by
    simp (disch := omega) only [a89_84, a89_87, a89_88, a89_89, a89_92, a89_95, a89_96, a89_99, a89_102, FC f3, s3, n2, CO, HA, HB, HC, Nat.not_lt_zero, Nat.add_assoc, c_nlt, c_nle, c_neq, c_P, c_cl, c_m1, c_m1', nI_add, pk_mul, reduceIte, Nat.reduceEqDiff, Nat.reduceAdd, Nat.reduceMul, Nat.reduceLeDiff, eq_self]
  have n3 : hN (nO τ2 5 1 (mxB 5)) = N + 1 := by rw [hN_nO, n2]
  have cp := C_copy (d := d + 8) f3 n3 (by omega) b4
  -- behind the copy
  have x5 : Ex N τ1 (sI (nA (nO τ2 5 1 (mxB 5)) 100 b) (N + 1) (va_cpy (hI (nO τ2 5 1 (mxB 5)) 15) (fun _ => 0) 0 0 b)) := Ex_Io (Ex_A x3 (by omega)) (by omega)
  have k5 : kd (sI (nA (nO τ2 5 1 (mxB 5)) 100 b) (N + 1) (va_cpy (hI (nO τ2 5 1 (mxB 5)) 15) (fun _ => 0) 0 0 b)) N = 5 ∧ kd (sI (nA (nO τ2 5 1 (mxB 5)) 100 b) (N + 1) (va_cpy (hI (nO τ2 5 1 (mxB 5)) 15) (fun _ => 0) 0 0 b)) (N + 1) = 100 ∧ hL (sI (nA (nO τ2 5 1 (mxB 5)) 100 b) (N + 1) (va_cpy (hI (nO τ2 5 1 (mxB 5)) 15) (fun _ => 0) 0 0 b)) (N + 1) = b ∧ hI (sI (nA (nO τ2 5 1 (mxB 5)) 100 b) (N + 1) (va_cpy (hI (nO τ2 5 1 (mxB 5)) 15) (fun _ => 0) 0 0 b)) (N + 1) = va_cpy (hI τ1 15) (fun _ => 0) 0 0 b := by
    refine ⟨?_, ?_, ?_, ?_⟩
    · rw [kd_sI, kd_nA, if_neg (by omega), kd_nO, if_pos n2.symm]
    · rw [kd_sI, kd_nA, if_pos n3.symm]
    · rw [hL_sI, hL_nA, if_pos n3.symm]
    · rw [hI_sI, if_pos rfl, hI_nO, q2.2.2.2]
  have q5 : hN (sI (nA (nO τ2 5 1 (mxB 5)) 100 b) (N + 1) (va_cpy (hI (nO τ2 5 1 (mxB 5)) 15) (fun _ => 0) 0 0 b)) = N + 2 ∧ hS (sI (nA (nO τ2 5 1 (mxB 5)) 100 b) (N + 1) (va_cpy (hI (nO τ2 5 1 (mxB 5)) 15) (fun _ => 0) 0 0 b)) = hS τ1 + (1 + b) ∧ hX (sI (nA (nO τ2 5 1 (mxB 5)) 100 b) (N + 1) (va_cpy (hI (nO τ2 5 1 (mxB 5)) 15) (fun _ => 0) 0 0 b)) = hX τ1 ∧ hR (sI (nA (nO τ2 5 1 (mxB 5)) 100 b) (N + 1) (va_cpy (hI (nO τ2 5 1 (mxB 5)) 15) (fun _ => 0) 0 0 b)) 4 = hR τ1 4 := by
    refine ⟨?_, ?_, ?_, ?_⟩
    · rw [hN_sI, hN_nA, n3]
    · rw [hS_sI, hS_nA, hS_nO, q2.1]; omega
    · rw [hX_sI, hX_nA, hX_nO, q2.2.1]
    · rw [hR_sI, hR_nA, if_neg (by omega), hR_nO, q2.2.2.1]
  have r5 : ∀ k j, k < N → hF (sI (nA (nO τ2 5 1 (mxB 5)) 100 b) (N + 1) (va_cpy (hI (nO τ2 5 1 (mxB 5)) 15) (fun _ => 0) 0 0 b)) k j = hF τ2 k j := fun k j hk => by rw [hF_sI, hF_nA, hF_nO, if_neg (by omega)]
  generalize sI (nA (nO τ2 5 1 (mxB 5)) 100 b) (N + 1) (va_cpy (hI (nO τ2 5 1 (mxB 5)) 15) (fun _ => 0) 0 0 b) = τ5 at cp x5 k5 q5 r5
  have f5 : FxC τ5 := FxC_x x5 (by omega) f1'
  have l12 : hF τ5 1 2 = .int (nI nl) := by rw [r5 1 2 (by omega)]; exact r2.2.1
  have x8 : Ex N τ1 (sF (sF (sR τ5 4 (va_up (hR τ5 4) nl (some N))) N 0 (.ref (N + 1))) 1 2 (.int (nI (nl + 1)))) := Ex_F (Ex_Fo (Ex_R x5) (Nat.le_refl _)) rfl
  have f8 : FxC (sF (sF (sR τ5 4 (va_up (hR τ5 4) nl (some N))) N 0 (.ref (N + 1))) 1 2 (.int (nI (nl + 1)))) := FxC_x x8 (by omega) f1'
  have e0 : (0 = N) = False := eq_false (by omega)
  have e1 : (1 = N) = False := eq_false (by omega)
  have sb : nI (nl + 1) - nI 1 = nI nl := by rw [← nI_add, Int32.add_sub_cancel]
  have f6 : FxC (sF τ5 N 0 (.ref (N + 1))) := FxC_x (Ex_Fo x5 (Nat.le_refl _)) (by omega) f1'
  have p3 : den (d + 10, 89, 105, [.ref 0, .int (nI 1)], [.ref (N + 1), .ref N, .ref N, .int (nI nl), .ref 4], τ5) = some (some (.int (nI nl)), sF (sF (sF (sR τ5 4 (va_up (hR τ5 4) nl (some N))) N 0 (.ref (N + 1))) 1 2 (.int (nI (nl + 1)))) 0 11 (.int (nI 0))) := by
    simp (disch := omega) only [a89_105, a89_108, a89_109, a89_110, a89_113, a89_114, a89_117, a89_118, a89_119, a89_122, a89_123, a89_124, a89_127, a89_130, a89_131, a89_132, a89_135, C_lawI k5.1, FC f5, k5.1, l12, e0, e1, sb, C_accept f8, CO, HA, HB, HC, Nat.not_lt_zero, Nat.add_assoc, c_nlt, c_nle, c_neq, c_P, c_cl, c_m1, c_m1', nI_add, pk_mul, reduceIte, Nat.reduceEqDiff, Nat.reduceAdd, Nat.reduceMul, Nat.reduceLeDiff, eq_self]
  refine ⟨_, p1.trans (p2.trans (by rw [cp]; exact p3)), Ex_F x8 rfl, ⟨?_, ?_, ?_⟩, ?_, ⟨?_, ?_, ?_, ?_, ?_⟩, ?_, ?_, ?_, ?_⟩
  · simp only [HB]; exact q5.1
  · simp only [HB]; exact q5.2.1
  · simp only [HB]; exact q5.2.2.1
  · simp only [HA, reduceIte]; rw [q5.2.2.2]
  · simp only [HB]; exact k5.1
  · simp only [HA, Nat.reduceEqDiff, and_false, eq_self, and_self, reduceIte]
  · simp only [HB]; exact k5.2.1
  · simp only [HB]; exact k5.2.2.1
  · simp only [HA]; exact k5.2.2.2
  · simp only [HA, Nat.reduceEqDiff, false_and, and_false, and_self, reduceIte]
  · simp only [HA, Nat.reduceEqDiff, false_and, and_false, reduceIte]; rw [r5 16 1 (by omega)]; exact r2.2.2.1
  · simp only [HA, and_self, reduceIte]
  · simp only [HA, Nat.reduceEqDiff, false_and, and_false, reduceIte]; rw [r5 0 13 (by omega)]; exact r2.2.2.2
end
/-- refusals that empty the tape -/
theorem RC_rj {σ τ : Hp} {k : Nat} {w ft' : Int32} {S : StT} {im : Nat → Option StT} {tl yv : Nat} {tp yK : Nat → Nat} {st fg ft : Int32} {rf : Nat → Int32} (hk : k < 5) (g : Qb σ τ) (h : RC σ (S, im, (tl, tp), (st, fg, ft), rf, (yv, yK))) (ei : ∀ q, q = 2 ∨ q = 3 ∨ q = 6 ∨ q = 7 ∨ q = 9 ∨ q = 10 ∨ q = 11 → hI τ q = hI σ q) (ef : ∀ q j, (q = 1 ∨ q = 5 ∨ q = 8) → hF τ q j = hF σ q j) (e34 : hI τ 34 = upd (hI σ 34) k (hI σ 34 k + nI 1)) (e16 : hF τ 16 1 = .int (nI 0)) (e11 : hF τ 0 11 = .int w) (e12 : hF τ 0 12 = hF σ 0 12) (e13 : hF τ 0 13 = .int ft') : RC τ (S, im, (0, tp), (w, fg, ft'), rfu rf k, (yv, yK)) := by
  obtain ⟨f1, s1, im1, ⟨t1, t2⟩, ⟨u1, u2, u3⟩, r1, y1⟩ := id h
  refine RC_b g h (S1_e g ei ef (S1_SC.mpr s1)) ⟨e16, fun i hi => absurd hi (Nat.not_lt_zero i)⟩ ⟨e11, e12.trans u2, e13⟩ (fun i hi => ?_)
  rw [e34]
  simp only [ua, rfu]
  split
  · next z => rw [z, r1 k hk]
  · exact r1 i hi
theorem RM_rj {ρ τ : Hp} {k : Nat} {w ft' : Int32} {S : StT} {im : Nat → Option StT} {tl yv : Nat} {tp yK : Nat → Nat} {st fg ft : Int32} {rf : Nat → Int32} (hk : k < 5) (g : Qla ρ τ) (h : RM ρ (S, im, (tl, tp), (st, fg, ft), rf, (yv, yK))) (e59 : hI τ 59 = hI ρ 59) (e58 : hI τ 58 = upd (hI ρ 58) (rfp k) (hI ρ 58 (rfp k) + nI 1)) (e8 : hF τ 57 8 = .int (nI 0)) (e1 : hF τ 57 1 = .int w) (e13 : hF τ 57 13 = .int ft') : RM τ (S, im, (0, tp), (w, fg, ft'), rfu rf k, (yv, yK)) := by
  obtain ⟨f1, s1, im1, ⟨t1, t2⟩, ⟨u1, u2, u3⟩, r1, y1⟩ := id h
  refine RM_la g h (M1_e e59 (M1_SM.mpr s1)) ⟨e8, fun i hi => absurd hi (Nat.not_lt_zero i)⟩ ⟨e1, by rw [Ag_f g 57 6 rfl]; exact u2, e13⟩ (fun i hi => ?_)
  rw [e58]
  simp only [ua, rfu]
  have : (rfp i = rfp k) ↔ i = k := by unfold rfp; split <;> split <;> omega
  by_cases z : i = k
  · rw [if_pos (this.mpr z), if_pos z, z, r1 k hk]
  · rw [if_neg (fun q => z (this.mp q)), if_neg z]; exact r1 i hi
theorem LwM_g {f g : Nat → Int32} {n : Nat} {hs : Nat → Nat} {t : Nat → Bool} {φ ψ : Nat → Ph} (h : LwM f n hs t φ ψ) (e : ∀ j, j < 900 → f j = g j) : LwM g n hs t φ ψ := by
  obtain ⟨b0, b1, b2, ⟨h1, h2⟩, h3⟩ := h
  refine ⟨b0, b1, b2, ⟨h1, by rw [← e 1 (by omega)]; exact h2⟩, fun i hi => ?_⟩
  obtain ⟨y1, y2, ⟨z1, z2, z3, z4, z5⟩, x1, x2⟩ := h3 i hi
  have l : b1 i ≤ b2 i := by rcases x2 with ⟨-, u, -⟩ | ⟨-, u, -⟩ <;> omega
  refine ⟨y1, y2, ⟨by rw [← e _ (by omega)]; exact z1, by rw [← e _ (by omega)]; exact z2, by rw [← e _ (by omega)]; exact z3, by rw [← e _ (by omega)]; exact z4, by rw [← e _ (by omega)]; exact z5⟩, ?_, ?_⟩
  · rcases x1 with ⟨u1, u2⟩ | u
    · exact Or.inl ⟨u1, SgM_e u2 (fun i h1 h2 => ⟨e _ (by omega), e _ (by omega)⟩)⟩
    · exact Or.inr u
  · rcases x2 with ⟨u1, u2, u3⟩ | u
    · exact Or.inl ⟨u1, u2, SgM_e u3 (fun i h1 h2 => ⟨e _ (by omega), e _ (by omega)⟩)⟩
    · exact Or.inr u
theorem LaM_j {σ τ : Hp} {i : Nat} {w : Lw5} (e : ∀ j, j < 900 → hI τ 59 (0 + (390 + 900 * i + j)) = hI σ 59 (0 + (390 + 900 * i + j))) (h : LaM σ 59 0 i w) : LaM τ 59 0 i w := LwM_g h (fun j hj => (e j hj).symm)
section
variable {σ : Hp} {R : AllT}
theorem K_law (hC : RC σ R) (hM : RM σ R) (hW : RW R) : Pr (fun σ => (499, 89, 0, [.ref 0, .float 0], [], σ)) (fun σ => (499, 172, 0, [.ref 57, .float 0, .float 0], [], σ)) σ (fun υ => ∃ R', Ok σ υ R') := by
  obtain ⟨d, hd, hd2⟩ : ∃ d, 499 = d + 10 ∧ 400 ≤ d := ⟨489, rfl, by omega⟩
  rw [hd]
  clear hd
  have n85 : 85 ≤ hN σ := by
    have k84 : kd σ 84 = 100 := by obtain ⟨S, im, ⟨tl, tp⟩, ⟨st, fg, ft⟩, rf, ⟨yv, yK⟩⟩ := R; simp only [FM hM.1]
    have := (kd_s k84 (by omega)).1
    omega
  refine Pmut hC hM hW (fun ρ hρ => ?_)
  obtain ⟨⟨v, H, fp, nl, fc, rn, ⟨nd, dv, dd, de⟩, ⟨nu, uc, uh⟩, lw⟩, im, ⟨tl, tp⟩, ⟨st, fg, ft⟩, rf, ⟨yv, yK⟩⟩ := R
  obtain ⟨f1, s1, im1, ⟨t1, t2⟩, ⟨u1, u2, u3⟩, r1, y1⟩ := id hC
  obtain ⟨⟨a1, a2⟩, ⟨a3, a4, a5⟩, a6, ⟨a7, a8⟩, ⟨tq, b1, b2, b3, b4⟩, a9⟩ := S1_SC.mpr s1
  obtain ⟨F1, S1', IM1, ⟨T1, T2⟩, ⟨U1, U2, U3⟩, R1, Y1⟩ := id hρ
  obtain ⟨⟨A1, A2⟩, ⟨A3, A4, A5⟩, A6, ⟨A7, A8⟩, ⟨B3, B4⟩, A9⟩ := M1_SM.mpr S1'
  obtain ⟨⟨w1, w2, ⟨w3, w4⟩, w5, w6, w7⟩, w8, ⟨w9, w10⟩, w11⟩ := id hW
  by_cases z : nl = 6
  · subst z
    refine ⟨-5, ((v, H, fp, 6, fc, rn, (nd, dv, dd, de), (nu, uc, uh), lw), im, (0, tp), (-5, fg, ft), rfu rf 3, (yv, yK)), ⟨⟨w1, w2, ⟨w3, w4⟩, w5, w6, w7⟩, w8, ⟨by omega, fun i hi => absurd hi (Nat.not_lt_zero i)⟩, w11⟩, ?_, ?_⟩
    · have h16 : FxC (sF σ 16 1 (.int (nI 0))) := FxC_sF f1 (by decide)
      have g : Qb σ (sF (sF (sI σ 34 (upd (hI σ 34) 3 (hI σ 34 3 + nI 1))) 16 1 (.int (nI 0))) 0 11 (.int (-5))) := Ag_F (Ag_F (Ag_I Ag_r rfl) rfl) rfl
      refine Ev_e (o' := some (some (.int (-5)), sF (sF (sI σ 34 (upd (hI σ 34) 3 (hI σ 34 3 + nI 1))) 16 1 (.int (nI 0))) 0 11 (.int (-5)))) ?_ (Ev_s ⟨rfl, RC_rj (k := 3) (by omega) g hC ?_ ?_ ?_ ?_ ?_ ?_ ?_, SaM_b g, Rm_2 (Rm_a g)⟩)
      · simp (disch := first | omega | (repeat (first | assumption | exact Ag_r | refine Ag_I ?_ rfl | refine Ag_F ?_ rfl | refine Ag_J ?_ rfl))) only [A89, FC f1, a4, C_refuse5 h16, Nat.le_refl, CO, HA, HB, HC, Nat.not_lt_zero, Nat.add_assoc, c_nlt, c_nle, c_neq, c_P, c_cl, c_m1, c_m1', nI_add, pk_mul, reduceIte, Nat.reduceEqDiff, Nat.reduceAdd, Nat.reduceMul, Nat.reduceLeDiff, eq_self, ↓pk_rem, pk_div, c_of, d_le, d_nle, d_lt, d_nlt, d_eq, d_ne]
      · intro q hq; rcases hq with rfl | rfl | rfl | rfl | rfl | rfl | rfl <;> simp only [HA, Nat.reduceEqDiff, reduceIte]
      · intro q j hq; rcases hq with rfl | rfl | rfl <;> simp only [HA, Nat.reduceEqDiff, false_and, reduceIte]
      · simp only [HA, reduceIte]
      · simp only [HA, Nat.reduceEqDiff, false_and, and_self, reduceIte]
      · simp only [HA, and_self, reduceIte]
      · simp only [HA, Nat.reduceEqDiff, false_and, and_false, reduceIte]
      · simp only [HA, Nat.reduceEqDiff, false_and, and_false, reduceIte]; exact u3
    · have h00 : FxM (sF (sF ρ 57 0 (.int (nI 0))) 57 8 (.int (nI 0))) := FxM_a (P := Pn) (F := Fn) (Ag_F (Ag_F Ag_r rfl) rfl) (by decide) F1
      have g : Qla ρ (sF (sF (sF (sI ρ 58 (upd (hI ρ 58) 5 (hI ρ 58 5 + nI 1))) 57 0 (.int (nI 0))) 57 8 (.int (nI 0))) 57 1 (.int (-5))) := Ag_F (Ag_F (Ag_F (Ag_I Ag_r rfl) rfl) rfl) rfl
      refine Ev_e (o' := some (some (.int (-5)), sF (sF (sF (sI ρ 58 (upd (hI ρ 58) 5 (hI ρ 58 5 + nI 1))) 57 0 (.int (nI 0))) 57 8 (.int (nI 0))) 57 1 (.int (-5)))) ?_ (Ev_s ⟨rfl, RM_rj (k := 3) (by omega) g hρ ?_ ?_ ?_ ?_ ?_, KM_la g⟩)
      · simp (disch := first | omega | (repeat (first | assumption | exact Ag_r | refine Ag_I ?_ rfl | refine Ag_F ?_ rfl | refine Ag_J ?_ rfl))) only [A172, FM F1, A4, M_tell5 h00, CO, HA, HB, HC, Nat.not_lt_zero, Nat.add_assoc, c_nlt, c_nle, c_neq, c_P, c_cl, c_m1, c_m1', nI_add, pk_mul, reduceIte, Nat.reduceEqDiff, Nat.reduceAdd, Nat.reduceMul, Nat.reduceLeDiff, eq_self, ↓pk_rem, pk_div, c_of, d_le, d_nle, d_lt, d_nlt, d_eq, d_ne]
      · simp only [HA, Nat.reduceEqDiff, reduceIte]
      · simp only [HA, reduceIte]; rfl
      · simp only [HA, Nat.reduceEqDiff, and_false, and_self, reduceIte]
      · simp only [HA, and_self, reduceIte]
      · simp only [HA, Nat.reduceEqDiff, and_false, reduceIte]; exact U3
  · have h6 : nl < 6 := by omega
    obtain ⟨vr, τ1, eC, gC, rC⟩ := C_read (X := (tl, tp)) (d := d + 9) (by omega) f1 ⟨t1, t2, w9, w10⟩
    obtain ⟨υm, eM, gM', ⟨i59, i58⟩, fM, rM⟩ := M_lw1 (X := (tl, tp)) (d := d) F1 ⟨T1, T2, w9, w10⟩ Y1.2 A4 h6
    have f1' : FxC τ1 := Qrd_C gC f1
    have hC1 := RC_rd gC hC
    cases e : pLw (tl, tp) 12 L0 0 0 with
    | inl q =>
      rw [e] at rC rM
      obtain ⟨rfl, s3⟩ := rC
      obtain ⟨m14, m13⟩ := rM
      refine ⟨-6, ((v, H, fp, nl, fc, rn, (nd, dv, dd, de), (nu, uc, uh), lw), im, (0, tp), (-6, fg, nI q), rfu rf 4, (yv, yK)), ⟨⟨w1, w2, ⟨w3, w4⟩, w5, w6, w7⟩, w8, ⟨by omega, fun i hi => absurd hi (Nat.not_lt_zero i)⟩, w11⟩, ?_, ?_⟩
      · have h16 : FxC (sF (sF τ1 16 1 (.int (nI 0))) 0 13 (.int (nI q))) := FxC_sF (FxC_sF f1' (by decide)) (by decide)
        have g : Qb τ1 (sF (sF (sF (sI τ1 34 (upd (hI τ1 34) 4 (hI τ1 34 4 + nI 1))) 16 1 (.int (nI 0))) 0 13 (.int (nI q))) 0 11 (.int (-6))) := Ag_F (Ag_F (Ag_F (Ag_I Ag_r rfl) rfl) rfl) rfl
        refine Ev_e (o' := some (some (.int (-6)), sF (sF (sF (sI τ1 34 (upd (hI τ1 34) 4 (hI τ1 34 4 + nI 1))) 16 1 (.int (nI 0))) 0 13 (.int (nI q))) 0 11 (.int (-6)))) ?_ (Ev_s ⟨rfl, RC_rj (k := 4) (by omega) g hC1 ?_ ?_ ?_ ?_ ?_ ?_ ?_, SaM_t (SaM_rd gC) (SaM_b g), Rm2_t (Rm_a gC) (Rm_2 (Rm_a g))⟩)
        · simp (disch := first | omega | (repeat (first | assumption | exact Ag_r | refine Ag_I ?_ rfl | refine Ag_F ?_ rfl | refine Ag_J ?_ rfl))) only [A89, FC f1, a4, eC, FC f1', s3, C_refuse6 h16, CO, HA, HB, HC, Nat.not_lt_zero, Nat.add_assoc, c_nlt, c_nle, c_neq, c_P, c_cl, c_m1, c_m1', nI_add, pk_mul, reduceIte, Nat.reduceEqDiff, Nat.reduceAdd, Nat.reduceMul, Nat.reduceLeDiff, eq_self, ↓pk_rem, pk_div, c_of, d_le, d_nle, d_lt, d_nlt, d_eq, d_ne]
        · intro q hq; rcases hq with rfl | rfl | rfl | rfl | rfl | rfl | rfl <;> simp only [HA, Nat.reduceEqDiff, reduceIte]
        · intro q j hq; rcases hq with rfl | rfl | rfl <;> simp only [HA, Nat.reduceEqDiff, false_and, reduceIte]
        · simp only [HA, reduceIte]
        · simp only [HA, Nat.reduceEqDiff, false_and, and_self, reduceIte]
        · simp only [HA, and_self, reduceIte]
        · simp only [HA, Nat.reduceEqDiff, false_and, and_false, reduceIte]
        · simp only [HA, Nat.reduceEqDiff, and_false, and_self, reduceIte]
      · have g : Qla υm (sF (sI (sF υm 57 8 (.int (nI 0))) 58 (upd (hI υm 58) 6 (hI υm 58 6 + nI 1))) 57 1 (.int (-6))) := Ag_F (Ag_I (Ag_F Ag_r rfl) rfl) rfl
        have gg := Qla_t gM' g
        refine Ev_e (eM.trans (M_lw2 fM m14)) (Ev_s ⟨rfl, RM_rj (k := 4) (by omega) gg hρ ?_ ?_ ?_ ?_ ?_, KM_la gg⟩)
        · simp only [HA, Nat.reduceEqDiff, reduceIte]; exact i59
        · simp only [HA, reduceIte]; rw [i58]; rfl
        · simp only [HA, Nat.reduceEqDiff, and_false, and_self, reduceIte]
        · simp only [HA, and_self, reduceIte]
        · simp only [HA, Nat.reduceEqDiff, and_false, reduceIte]; exact m13
    | inr w =>
      rw [e] at rC rM
      obtain ⟨rfl, b, b400, s2, lwC⟩ := rC
      obtain ⟨⟨m14, m13⟩, m, m17, m4, m15, h12, cl⟩ := rM
      obtain ⟨N, n0⟩ : ∃ N, hN σ = N := ⟨_, rfl⟩
      rw [n0] at n85
      have n1 : hN τ1 = N := gC.1.1.trans n0
      obtain ⟨_, s1', -, -, -, -, -⟩ := id hC1
      obtain ⟨⟨c1, c2⟩, ⟨c3, c4, c5⟩, c6, ⟨c7, c8⟩, ⟨tz, d1, d2, d3, d4⟩, c9⟩ := S1_SC.mpr s1'
      refine ⟨nI nl, ((v, H, fp, nl + 1, fc, rn, (nd, dv, dd, de), (nu, uc, uh), fun i => if i = nl then w else lw i), im, (0, tp), (nI 0, fg, -1), rf, (yv, yK)), ⟨⟨w1, w2, ⟨by omega, fun i hi => by have := w4 i hi; omega⟩, w5, w6, w7⟩, w8, ⟨by omega, fun i hi => absurd hi (Nat.not_lt_zero i)⟩, w11⟩, ?_, ?_⟩
      · obtain ⟨τ9, e9, x9, ⟨n9, q9, z9⟩, R4, ⟨kN, fN, kM, lM, iM⟩, g12, g16, g11, g13⟩ := C_law1 f1 a4 h6 eC gC s2 b400 n0 n85
        have xi := fun (k : Nat) (hk : k < 57) => (x9 k (by omega)).2.2.1.1
        have xf := fun (k j : Nat) (hk : k < 57) (e : Fx_ k j = false) => (x9 k (by omega)).2.1 j e
        have L4 : ∀ i, i < nl + 1 → LaC τ9 4 i (if i = nl then w else lw i) := fun i hi => by
          by_cases q : i = nl
          · rw [if_pos q, q]
            refine ⟨N, N + 1, ⟨by rw [R4]; exact if_pos rfl, n85, kN, fN⟩, ⟨Nat.le_succ_of_le n85, kM, by rw [lM]; exact Nat.le_trans b400 (by decide)⟩, ?_⟩
            rw [lM, iM]
            exact LwC_g lwC (fun i hi => (cpy_at hi).symm)
          · rw [if_neg q]
            exact LaC_4 x9 n1 (by rw [R4]; exact if_neg q) (c9 i (by omega))
        have hS : S1 τ9 (v, H, fp, nl + 1, fc, rn, (nd, dv, dd, de), (nu, uc, uh), fun i => if i = nl then w else lw i) := by
          refine ⟨⟨by rw [xf 1 0 (by omega) rfl]; exact c1, by rw [xi 2 (by omega)]; exact c2⟩, ⟨by rw [xf 1 1 (by omega) rfl]; exact c3, g12, by rw [xf 1 3 (by omega) rfl]; exact c5⟩, by rw [xi 3 (by omega)]; exact c6, ⟨by rw [xf 8 3 (by omega) rfl]; exact c7, by rw [xi 9 (by omega), xi 10 (by omega), xi 11 (by omega)]; exact c8⟩, ⟨tz, d1, by rw [xf 5 2 (by omega) rfl]; exact d2, by rw [xf 5 3 (by omega) rfl]; exact d3, by rw [xi 6 (by omega), xi 7 (by omega)]; exact d4⟩, L4⟩
        refine Ev_e e9 (Ev_s ⟨rfl, RC_x x9 n1 n85 hC1 hS g16 g11 g13, SaM_t (SaM_rd gC) (SaM_x x9 n85 z9), ⟨by omega, by have := gC.1.2.1; omega⟩, fun r => ?_⟩)
        have hRσ : hR τ1 = hR σ := gC.2.1.2.2
        have kσ : kd τ1 = kd σ := gC.2.1.1
        intro a ha i hi
        by_cases q : a = 4 ∧ i = nl
        · obtain ⟨rfl, rfl⟩ := q
          exact Or.inr ⟨N, by rw [R4]; exact if_pos rfl, n85, kN⟩
        · have ee : hR τ9 a i = hR σ a i := by
            by_cases a4' : a = 4
            · rw [a4', R4, hRσ]; exact if_neg (fun z => q ⟨a4', z⟩)
            · rw [(x9 a (by omega)).2.2.2 a4', hRσ]
          rw [ee]
          rcases r a ha i hi with r | ⟨ℓ, r1, r2, r3⟩
          · exact Or.inl r
          · have := (kd_s r3 (by omega)).1
            exact Or.inr ⟨ℓ, r1, r2, by rw [(x9 ℓ (by omega)).1.1, kσ]; exact r3⟩
      · obtain ⟨_, ω, e9, rfl, g, rfl, l1, l2, l3⟩ := M_lw3 (d := d) fM m14 m17 m4 m15 h12 cl (i59 ▸ A4) h6
        have gg : Qla ρ (sF (sF (sI υm 59 g) 57 8 (.int (nI 0))) 57 1 (.int (nI 0))) := Qla_t gM' (Ag_F (Ag_F (Ag_I Ag_r rfl) rfl) rfl)
        have k8 : hF (sF (sF (sI υm 59 g) 57 8 (.int (nI 0))) 57 1 (.int (nI 0))) 57 8 = .int (nI 0) := by simp only [HA, Nat.reduceEqDiff, and_false, and_self, reduceIte]
        have k1 : hF (sF (sF (sI υm 59 g) 57 8 (.int (nI 0))) 57 1 (.int (nI 0))) 57 1 = .int (nI 0) := by simp only [HA, and_self, reduceIte]
        have k13 : hF (sF (sF (sI υm 59 g) 57 8 (.int (nI 0))) 57 1 (.int (nI 0))) 57 13 = .int (-1) := by simp only [HA, Nat.reduceEqDiff, and_false, reduceIte]; exact m13
        have k58 : hI (sF (sF (sI υm 59 g) 57 8 (.int (nI 0))) 57 1 (.int (nI 0))) 58 = hI ρ 58 := by simp only [HA, Nat.reduceEqDiff, reduceIte]; exact i58
        generalize (sF (sF (sI υm 59 g) 57 8 (.int (nI 0))) 57 1 (.int (nI 0))) = ω at e9 l1 l2 l3 gg k8 k1 k13 k58
        rw [i59] at l2
        refine Ev_e (eM.trans e9) (Ev_s ⟨rfl, RM_la gg hρ ⟨tH (fun y hy => l2 y (by omega) (by omega)) ⟨A1, A2⟩, ⟨by rw [l2 1 (by omega) (by omega)]; exact A3, l1, by rw [l2 3 (by omega) (by omega)]; exact A5⟩, tR (fun y hy => l2 y (by omega) (by omega)) A6, tD w6.1 (fun y hy => l2 y (by omega) (by omega)) ⟨A7, A8⟩, tU w7.1 (fun y hy => l2 y (by omega) (by omega)) ⟨B3, B4⟩, fun i hi => ?_⟩ ⟨k8, fun i hi => absurd hi (Nat.not_lt_zero i)⟩ ⟨k1, by rw [Ag_f gg 57 6 rfl]; exact U2, k13⟩ (by rw [k58]; exact R1), KM_la gg⟩)
        show LaM ω 59 0 i (if i = nl then w else lw i)
        by_cases q : i = nl
        · rw [if_pos q, q]; exact l3
        · rw [if_neg q]
          exact LaM_j (fun j hj => l2 _ (by omega) (by omega)) (A9 i (by omega))
end
