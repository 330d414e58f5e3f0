/-! law: the model reads the whole text, and keeps it -/
section
variable {d : Nat} {X : Tx}
theorem M_bd {υ : Hp} (hM : FxM υ) (hb : hF υ 57 14 = .int (nI 1)) : den (d + 10, 172, 51, [.ref 57, .float 0, .float 0], [], υ) = den (d + 10, 172, 97, [.ref 57, .float 0, .float 0], [], υ) := by
  rw [a172_51]
  simp (disch := omega) only [a172_52, a172_55, a172_78, a172_79, a172_82, FM hM, hb, CO, HA, HB, HC, Nat.not_lt_zero, Nat.add_assoc, c_nlt, c_nle, c_neq, c_P, c_cl, c_m1, c_m1', nI_add, pk_mul, reduceIte, Nat.reduceEqDiff, Nat.reduceAdd, Nat.reduceMul, Nat.reduceLeDiff, eq_self]
theorem M_rd : ∀ (f : Nat) (w : Lw5) (p m n : Nat) (τ : Hp), w.1 + f = 12 → MC τ X p m n → m ≤ p → hF τ 57 15 = .int (nI w.1) → ClM τ m w → ∃ υ0 υ, den (d + 9, 171, 0, [.ref 57, .float 0, .float 0, .float 0], [], τ) = some (none, υ0) ∧ den (d + 10, 172, 51, [.ref 57, .float 0, .float 0], [], υ0) = den (d + 10, 172, 97, [.ref 57, .float 0, .float 0], [], υ) ∧ Qlw τ υ ∧ FxM υ ∧ (match pLw X f w p n with
  | .inl q => hF υ 57 14 = .int (nI 1) ∧ hF υ 57 13 = .int (nI q)
  | .inr w' => (hF υ 57 14 = .int (nI 0) ∧ hF υ 57 13 = .int (-1)) ∧ ∃ m', hF υ 57 17 = .int (nI m') ∧ m' ≤ 400 ∧ hF υ 57 15 = .int (nI w'.1) ∧ w'.1 ≤ 12 ∧ ClM υ m' w') := by
  intro f
  induction f with
  | zero =>
    intro w p m n τ hf h hm hc cl
    rw [show w.1 = 12 by omega] at hc
    obtain ⟨_, υ, e1, rfl, g, r1, r2, r3⟩ := M_cl12 (d := d) h hc
    exact ⟨υ, υ, e1, M_bd r1 r2, g, r1, r2, r3⟩
  | succ f ih =>
    intro w p m n τ hf h hm hc cl
    obtain ⟨i1, i2⟩ := M_clause (d := d) h hm hc (by omega) cl
    simp only [pLw]
    cases e : pC X p n with
    | inl q =>
      obtain ⟨_, υ, e1, rfl, g, r1, r2, r3⟩ := i1 q e
      exact ⟨υ, υ, e1, M_bd r1 r2, g, r1, r2, r3⟩
    | inr x =>
      obtain ⟨p', n', k⟩ := x
      obtain ⟨_, υ0, e1, rfl, g, m', r1, r2, r3, r4⟩ := i2 p' n' k e
      have tk := r1.2.2.1.2.2.2.1
      have t4 : tK X p' < 4 := (tk_b r1.2.2.1.1).2.1
      have sgn := fun (d : Nat) => MCG (d := d) r1 (show 0 < 59 by omega) (show 59 < 256 by omega)
      dsimp only
      by_cases k0 : tK X p' = 0
      · rw [if_pos k0]
        have ns : ¬ sg_ X p' = 59 := by unfold sg_; rw [if_neg (by omega)]; omega
        simp only [if_neg ns] at sgn
        refine ⟨υ0, υ0, e1, ?_, g, r1.1.1, r1.2.2.2.1, m', r1.1.2.1, r1.1.2.2, r3, by simp only [adC]; omega, r4⟩
        rw [a172_51]
        simp (disch := omega) only [a172_52, a172_55, a172_58, a172_59, a172_61, a172_64, a172_78, a172_79, a172_82, a172_85, a172_86, a172_89, FM r1.1.1, r1.2.2.2.1.1, sgn, tk, k0, CO, HA, HB, HC, Nat.not_lt_zero, Nat.add_assoc, c_nlt, c_nle, c_neq, c_P, c_cl, c_m1, c_m1', nI_add, pk_mul, reduceIte, Nat.reduceEqDiff, Nat.reduceAdd, Nat.reduceMul, Nat.reduceLeDiff, eq_self]
      · rw [if_neg k0]
        by_cases s0 : sg_ X p' = 59
        · rw [if_pos s0]
          simp only [if_pos s0] at sgn
          have te := tE_s r1.2.2.1.1 (by omega) s0
          obtain ⟨_, υ1, e2, rfl, g2, r5⟩ := MC_n (d := d + 8) r1
          have hc1 : hF υ1 57 15 = .int (nI (adC w k).1) := by rw [Ag_f g2 57 15 rfl]; exact r3
          have cl1 : ClM υ1 m' (adC w k) := by
            obtain ⟨b0, b1, b2, hh⟩ := r4
            refine ⟨b0, b1, b2, fun i hi => ?_⟩
            obtain ⟨y1, y2, y3, y4⟩ := hh i hi
            rw [Ag_i g2 63 rfl]
            refine ⟨y1, y2, ?_, ?_⟩
            · rcases y3 with ⟨u1, u2⟩ | u
              · exact Or.inl ⟨u1, Kp_m (Qnx_k g2 (m := m') (z := 0)) (by omega) u2⟩
              · exact Or.inr u
            · rcases y4 with ⟨u1, u2, u3⟩ | u
              · exact Or.inl ⟨u1, u2, Kp_m (Qnx_k g2 (m := m') (z := 0)) (by omega) u3⟩
              · exact Or.inr u
          obtain ⟨υ2, υ, e3, e4, g3, r6, r7⟩ := ih (adC w k) (tE X p') m' n' υ1 (by simp only [adC]; omega) r5 (by omega) hc1 cl1
          refine ⟨υ0, υ, e1, ?_, Qlw_t g (Qlw_t (Qq_l (Qnx_q g2)) g3), r6, r7⟩
          rw [← e4, a172_51]
          simp (disch := omega) only [a172_52, a172_55, a172_58, a172_59, a172_61, a172_64, a172_67, a172_68, a172_71, a172_72, a172_75, FM r1.1.1, FM r5.1.1, r1.2.2.2.1.1, sgn, e2, e3, CO, HA, HB, HC, Nat.not_lt_zero, Nat.add_assoc, c_nlt, c_nle, c_neq, c_P, c_cl, c_m1, c_m1', nI_add, pk_mul, reduceIte, Nat.reduceEqDiff, Nat.reduceAdd, Nat.reduceMul, Nat.reduceLeDiff, eq_self]
        · rw [if_neg s0]
          simp only [if_neg s0] at sgn
          have y2 : Qq υ0 (sF (sF υ0 57 14 (.int (nI 1))) 57 13 (.int (nI (tS X p')))) := Ag_F (Ag_F Ag_r rfl) rfl
          refine ⟨υ0, sF (sF υ0 57 14 (.int (nI 1))) 57 13 (.int (nI (tS X p'))), e1, ?_, Qlw_t g (Qq_l y2), Qq_M y2 r1.1.1, by simp only [HA, Nat.reduceEqDiff, and_false, and_self, reduceIte], by simp only [HA, and_self, reduceIte]⟩
          rw [a172_51]
          simp (disch := omega) only [a172_52, a172_55, a172_58, a172_59, a172_61, a172_64, a172_78, a172_79, a172_82, a172_85, a172_86, a172_89, a172_92, a172_93, a172_94, FM r1.1.1, r1.2.2.2.1.1, sgn, tk, k0, M_mu0 r1, CO, HA, HB, HC, Nat.not_lt_zero, Nat.add_assoc, c_nlt, c_nle, c_neq, c_P, c_cl, c_m1, c_m1', nI_add, pk_mul, reduceIte, Nat.reduceEqDiff, Nat.reduceAdd, Nat.reduceMul, Nat.reduceLeDiff, eq_self]
end
/-- what the model's law may change -/
def Qla (σ τ : Hp) : Prop := Ag (fun k => (Nat.beq k 58 || Nat.beq k 59) || (Nat.ble 63 k && Nat.ble k 67)) (fun k j => Nat.beq k 57 && ((Nat.beq j 0 || (Nat.beq j 1 || Nat.beq j 8)) || ((Nat.ble 9 j && Nat.ble j 15) || (Nat.beq j 17 || (Nat.beq j 20 || (Nat.beq j 23 || Nat.beq j 24)))))) σ τ
theorem Qlw_a {σ τ : Hp} (g : Qlw σ τ) : Qla σ τ := Ag_w g (fun k e => by rw [e, Bool.or_true]) (fun k j e => by
  simp only [Bool.and_eq_true] at e ⊢
  exact ⟨e.1, by rw [e.2, Bool.or_true]⟩)
theorem Qla_t {a b c : Hp} (g : Qla a b) (h : Qla b c) : Qla a c := Ag_t g h
theorem Qla_M {a b : Hp} (g : Qla a b) (h : FxM a) : FxM b := FxM_a g (by decide) h
theorem KM_la {σ τ : Hp} (g : Qla σ τ) : KM σ τ := Ag_w g (fun k e => by
  simp only [Bool.and_eq_true, Bool.or_eq_true] at e ⊢
  rcases e with (e | e) | ⟨e1, e2⟩
  · have := Nat.eq_of_beq_eq_true e; subst this; exact ⟨rfl, rfl⟩
  · have := Nat.eq_of_beq_eq_true e; subst this; exact ⟨rfl, rfl⟩
  · have a := Nat.le_of_ble_eq_true e1
    have b := Nat.le_of_ble_eq_true e2
    exact ⟨Nat.ble_eq_true_of_le (by omega), Nat.ble_eq_true_of_le (by omega)⟩) (fun k j e => by
  simp only [Bool.and_eq_true] at e
  exact e.1)
section
variable {σ τ : Hp} {S S' : StT} {im : Nat → Option StT} {tl tl' yv : Nat} {tp tp' yK : Nat → Nat} {st fg ft st' fg' ft' : Int32} {rf rf' : Nat → Int32}
theorem RM_la (g : Qla σ τ) (h : RM σ (S, im, (tl, tp), (st, fg, ft), rf, (yv, yK))) (hS : M1 τ S') (ht : hF τ 57 8 = .int (nI tl') ∧ ∀ i, i < tl' → hI τ 62 i = nI (tp' i)) (hs : hF τ 57 1 = .int st' ∧ hF τ 57 6 = .int fg' ∧ hF τ 57 13 = .int ft') (hr : ∀ i, i < 5 → hI τ 58 (rfp i) = rf' i) : RM τ (S', im, (tl', tp'), (st', fg', ft'), rf', (yv, yK)) := by
  obtain ⟨h1, -, h3, -, -, -, ⟨y1, y2⟩, w1, w2⟩ := h
  refine ⟨FxM_a g (by decide) h1, M1_SM.mp hS, fun k hk => ⟨by rw [Ag_i g 61 rfl]; exact (h3 k hk).1, fun S' e => SM_e (Ag_i g 60 rfl) ((h3 k hk).2 S' e)⟩, ht, hs, hr, ⟨by rw [Ag_f g 57 52 rfl]; exact y1, by rw [Ag_i g 84 rfl]; exact y2⟩, by rw [Ag_j g 68 rfl]; exact w1, by rw [Ag_j g 69 rfl]; exact w2⟩
end
/-- the row behind a law that is kept -/
def LwR (υ ρ : Hp) (nl : Nat) (w : Lw5) : Prop := hI υ 59 2 = nI (nl + 1) ∧ (∀ y, y ≠ 2 → ¬ (390 + 900 * nl ≤ y ∧ y < 390 + 900 * (nl + 1)) → hI υ 59 y = hI ρ 59 y) ∧ LaM υ 59 0 nl w
section
variable {d nl : Nat} {X : Tx} {ρ : Hp}
/-- the reading, from the entry on -/
theorem M_lw1 (hM : FxM ρ) (hX : TxM ρ X) (hW : WsM ρ) (hn : hI ρ 59 2 = nI nl) (h6 : nl < 6) : ∃ υ, den (d + 10, 172, 0, [.ref 57, .float 0, .float 0], [], ρ) = den (d + 10, 172, 97, [.ref 57, .float 0, .float 0], [], υ) ∧ Qla ρ υ ∧ (hI υ 59 = hI ρ 59 ∧ hI υ 58 = hI ρ 58) ∧ FxM υ ∧ (match pLw X 12 L0 0 0 with
  | .inl q => hF υ 57 14 = .int (nI 1) ∧ hF υ 57 13 = .int (nI q)
  | .inr w' => (hF υ 57 14 = .int (nI 0) ∧ hF υ 57 13 = .int (-1)) ∧ ∃ m', hF υ 57 17 = .int (nI m') ∧ m' ≤ 400 ∧ hF υ 57 15 = .int (nI w'.1) ∧ w'.1 ≤ 12 ∧ ClM υ m' w') := by
  have g1 : Qla ρ (sF (sF (sF (sF ρ 57 0 (.int (nI 0))) 57 10 (.int (nI 0))) 57 14 (.int (nI 0))) 57 13 (.int (-1))) := Ag_F (Ag_F (Ag_F (Ag_F Ag_r rfl) rfl) rfl) rfl
  have c10 : hF (sF (sF (sF (sF ρ 57 0 (.int (nI 0))) 57 10 (.int (nI 0))) 57 14 (.int (nI 0))) 57 13 (.int (-1))) 57 10 = .int (nI 0) := by simp only [HA, Nat.reduceEqDiff, and_false, and_self, reduceIte]
  have c14 : hF (sF (sF (sF (sF ρ 57 0 (.int (nI 0))) 57 10 (.int (nI 0))) 57 14 (.int (nI 0))) 57 13 (.int (-1))) 57 14 = .int (nI 0) := by simp only [HA, Nat.reduceEqDiff, and_false, and_self, reduceIte]
  have c13 : hF (sF (sF (sF (sF ρ 57 0 (.int (nI 0))) 57 10 (.int (nI 0))) 57 14 (.int (nI 0))) 57 13 (.int (-1))) 57 13 = .int (-1) := by simp only [HA, and_self, reduceIte]
  have c8 : hF (sF (sF (sF (sF ρ 57 0 (.int (nI 0))) 57 10 (.int (nI 0))) 57 14 (.int (nI 0))) 57 13 (.int (-1))) 57 8 = .int (nI X.1) := by simp only [HA, Nat.reduceEqDiff, and_false, reduceIte]; exact hX.1
  have M1 := Qla_M g1 hM
  have go1 : den (d + 10, 172, 0, [.ref 57, .float 0, .float 0], [], ρ) = (den (d + 8, 152, 0, [.ref 57], [], sF (sF (sF (sF ρ 57 0 (.int (nI 0))) 57 10 (.int (nI 0))) 57 14 (.int (nI 0))) 57 13 (.int (-1)))).bind (fun q => (den (d + 9, 151, 19, [.ref 57], q.1.toList ++ [], q.2)).bind (fun q => den (d + 10, 172, 32, [.ref 57, .float 0, .float 0], q.1.toList ++ [], q.2))) := by
    have n6 : ¬ nl = 6 := by omega
    simp (disch := omega) only [a172_0, a172_1, a172_2, a172_5, a172_6, a172_9, a172_10, a172_11, a172_13, a172_28, a172_29, A151, FM hM, hn, n6, CO, HA, HB, HC, Nat.not_lt_zero, Nat.add_assoc, c_nlt, c_nle, c_neq, c_P, c_cl, c_m1, c_m1', nI_add, pk_mul, reduceIte, Nat.reduceEqDiff, Nat.reduceAdd, Nat.reduceMul, Nat.reduceLeDiff, eq_self]
    first | rfl | (rw [Option.bind_assoc])
  have hX1 : TxM (sF (sF (sF (sF ρ 57 0 (.int (nI 0))) 57 10 (.int (nI 0))) 57 14 (.int (nI 0))) 57 13 (.int (-1))) X := ⟨c8, hX.2⟩
  have i1 : hI (sF (sF (sF (sF ρ 57 0 (.int (nI 0))) 57 10 (.int (nI 0))) 57 14 (.int (nI 0))) 57 13 (.int (-1))) = hI ρ := rfl
  have j1 : hJ (sF (sF (sF (sF ρ 57 0 (.int (nI 0))) 57 10 (.int (nI 0))) 57 14 (.int (nI 0))) 57 13 (.int (-1))) = hJ ρ := rfl
  generalize sF (sF (sF (sF ρ 57 0 (.int (nI 0))) 57 10 (.int (nI 0))) 57 14 (.int (nI 0))) 57 13 (.int (-1)) = ρ1 at g1 c10 c14 c13 c8 M1 go1 hX1 i1 j1
  obtain ⟨_, υ1, e1, rfl, g2, t2⟩ := M_next (d := d + 7) M1 hX1 (p := 0) (Nat.zero_le _) c10
  have M2 : FxM υ1 := Qq_M (Qnx_q g2) M1
  have g3 : Qla ρ υ1 := Qla_t g1 (Qlw_a (Qq_l (Qnx_q g2)))
  have g4 : Qla υ1 (sF (sF (sF υ1 57 15 (.int (nI 0))) 57 17 (.int (nI 0))) 57 20 (.int (nI 0))) := Ag_F (Ag_F (Ag_F Ag_r rfl) rfl) rfl
  have go2 : den (d + 10, 172, 32, [.ref 57, .float 0, .float 0], [], υ1) = (den (d + 9, 171, 0, [.ref 57, .float 0, .float 0, .float 0], [], sF (sF (sF υ1 57 15 (.int (nI 0))) 57 17 (.int (nI 0))) 57 20 (.int (nI 0)))).bind (fun q => den (d + 10, 172, 51, [.ref 57, .float 0, .float 0], q.1.toList ++ [], q.2)) := by
    simp (disch := omega) only [a172_32, a172_33, a172_34, a172_37, a172_38, a172_39, a172_42, a172_43, a172_44, a172_47, a172_48, FM M2, CO, HA, HB, HC, Nat.not_lt_zero, Nat.add_assoc, c_nlt, c_nle, c_neq, c_P, c_cl, c_m1, c_m1', nI_add, pk_mul, reduceIte, Nat.reduceEqDiff, Nat.reduceAdd, Nat.reduceMul, Nat.reduceLeDiff, eq_self]
  have hMC : MC (sF (sF (sF υ1 57 15 (.int (nI 0))) 57 17 (.int (nI 0))) 57 20 (.int (nI 0))) X 0 0 0 := by
    refine ⟨⟨Qla_M g4 M2, ?_, Nat.zero_le _⟩, ⟨⟨?_, ?_, hX.2.2⟩, ⟨?_, ?_⟩⟩, ⟨Nat.zero_le _, ?_, ?_, ?_, ?_⟩, ⟨?_, ?_⟩, ?_, Nat.zero_le _⟩
    · simp only [HA, Nat.reduceEqDiff, and_false, and_self, reduceIte]
    · simp only [HA, Nat.reduceEqDiff, and_false, reduceIte]; rw [Ag_f g2 57 8 rfl]; exact c8
    · intro i hi; show hI υ1 62 i = _; rw [Ag_i g2 62 rfl, i1]; exact hX.2.1 i hi
    · intro k hk; show hJ υ1 68 k = _; rw [Ag_j g2 68 rfl, j1]; exact hW.1 k hk
    · intro k hk; show hJ υ1 69 k = _; rw [Ag_j g2 69 rfl, j1]; exact hW.2 k hk
    · simp only [HA, Nat.reduceEqDiff, and_false, reduceIte]; exact t2.1
    · simp only [HA, Nat.reduceEqDiff, and_false, reduceIte]; exact t2.2.1
    · simp only [HA, Nat.reduceEqDiff, and_false, reduceIte]; exact t2.2.2.1
    · simp only [HA, Nat.reduceEqDiff, and_false, reduceIte]; exact t2.2.2.2
    · simp only [HA, Nat.reduceEqDiff, and_false, reduceIte]; rw [Ag_f g2 57 14 rfl]; exact c14
    · simp only [HA, Nat.reduceEqDiff, and_false, reduceIte]; rw [Ag_f g2 57 13 rfl]; exact c13
    · simp only [HA, and_self, reduceIte]
  obtain ⟨υ0, υ, f1, f2, g5, f3, f4⟩ := M_rd (d := d) 12 L0 0 0 0 _ rfl hMC (Nat.le_refl _) (by simp only [HA, Nat.reduceEqDiff, and_false, and_self, reduceIte]; rfl) ⟨fun _ => 0, fun _ => 0, fun _ => 0, fun i hi => absurd hi (by simp only [L0]; omega)⟩
  refine ⟨υ, ?_, Qla_t g3 (Qla_t g4 (Qlw_a g5)), ⟨?_, ?_⟩, f3, f4⟩
  · rw [← f2, go1, e1]
    show (den (d + 9, 151, 19, [.ref 57], [], υ1)).bind _ = _
    rw [a151_19]
    show den (d + 10, 172, 32, [.ref 57, .float 0, .float 0], [], υ1) = _
    rw [go2, f1]; rfl
  · rw [Ag_i g5 59 rfl]; show hI υ1 59 = _; rw [Ag_i g2 59 rfl, i1]
  · rw [Ag_i g5 58 rfl]; show hI υ1 58 = _; rw [Ag_i g2 58 rfl, i1]
/-- it is bad -/
theorem M_lw2 {υ : Hp} (hM : FxM υ) (hb : hF υ 57 14 = .int (nI 1)) : den (d + 10, 172, 97, [.ref 57, .float 0, .float 0], [], υ) = some (some (.int (-6)), sF (sI (sF υ 57 8 (.int (nI 0))) 58 (upd (hI υ 58) 6 (hI υ 58 6 + nI 1))) 57 1 (.int (-6))) := by
  have h8 : FxM (sF υ 57 8 (.int (nI 0))) := FxM_sF hM (Or.inr (by decide))
  simp (disch := omega) only [a172_97, a172_98, a172_99, a172_102, a172_103, a172_106, a172_109, a172_110, a172_112, a172_115, FM hM, hb, M_tell6 h8, CO, HA, HB, HC, Nat.not_lt_zero, Nat.add_assoc, c_nlt, c_nle, c_neq, c_P, c_cl, c_m1, c_m1', nI_add, pk_mul, reduceIte, Nat.reduceEqDiff, Nat.reduceAdd, Nat.reduceMul, Nat.reduceLeDiff, eq_self]
/-- it is kept -/
theorem M_lw3 {υ : Hp} {m : Nat} {w : Lw5} (hM : FxM υ) (hb : hF υ 57 14 = .int (nI 0)) (hm : hF υ 57 17 = .int (nI m)) (m4 : m ≤ 400) (hc : hF υ 57 15 = .int (nI w.1)) (h12 : w.1 ≤ 12) (cl : ClM υ m w) (hn : hI υ 59 2 = nI nl) (h6 : nl < 6) : Ev (den (d + 10, 172, 97, [.ref 57, .float 0, .float 0], [], υ)) (fun v ω => v = some (.int (nI nl)) ∧ ∃ g, ω = sF (sF (sI υ 59 g) 57 8 (.int (nI 0))) 57 1 (.int (nI 0)) ∧ LwR ω υ nl w) := by
  have go : den (d + 10, 172, 97, [.ref 57, .float 0, .float 0], [], υ) = den (d + 10, 172, 145, [.ref 57, .int (nI (390 + 900 * nl)), .int (nI 0)], [], sF (sI υ 59 (upd (hI υ 59) (390 + (900 * nl + 1)) (nI w.1))) 57 8 (.int (nI 0))) := by
    simp (disch := omega) only [a172_97, a172_98, a172_99, a172_102, a172_103, a172_106, a172_116, a172_119, a172_122, a172_123, a172_126, a172_127, a172_128, a172_129, a172_130, a172_131, a172_132, a172_135, a172_136, a172_137, a172_138, a172_139, a172_142, a172_143, a172_144, FM hM, hb, hn, hc, CO, HA, HB, HC, Nat.not_lt_zero, Nat.add_assoc, c_nlt, c_nle, c_neq, c_P, c_cl, c_m1, c_m1', nI_add, pk_mul, reduceIte, Nat.reduceEqDiff, Nat.reduceAdd, Nat.reduceMul, Nat.reduceLeDiff, eq_self]
  refine Ev_e go ?_
  have fx : ∀ g : Nat → Int32, FxM (sF (sI υ 59 g) 57 8 (.int (nI 0))) := fun g => FxM_a (P := Pn) (F := Fn) (Ag_F (Ag_I Ag_r rfl) rfl) (by decide) hM
  refine lp (α := Nat → Int32) (h := fun i g => (d + 10, 172, 145, [.ref 57, .int (nI (390 + 900 * nl)), .int (nI i)], [], sF (sI υ 59 g) 57 8 (.int (nI 0)))) (I := fun i g => ∀ y, g y = if 392 + 900 * nl ≤ y ∧ y < 392 + 900 * nl + i then hI υ 63 (y - (392 + 900 * nl)) else upd (hI υ 59) (390 + (900 * nl + 1)) (nI w.1) y) (8 * w.1) ?_ ?_ 0 _ (Nat.zero_le _) (fun y => by rw [if_neg (by omega)])
  · intro i g hi hg nx
    have nn := nx (upd g (392 + (900 * nl + i)) (hI υ 63 i)) (fun y => by
      simp only [ua]
      by_cases z : y = 392 + (900 * nl + i)
      · rw [if_pos z, if_pos (by omega), show y - (392 + 900 * nl) = i by omega]
      · rw [if_neg z, hg y]
        by_cases z2 : 392 + 900 * nl ≤ y ∧ y < 392 + 900 * nl + i
        · rw [if_pos z2, if_pos (by omega)]
        · rw [if_neg z2, if_neg (by omega)]; rfl)
    refine Ev_e ?_ nn
    show den (d + 10, 172, 145, [.ref 57, .int (nI (390 + 900 * nl)), .int (nI i)], [], sF (sI υ 59 g) 57 8 (.int (nI 0))) = _
    rw [a172_145]
    have c15 : hF (sF (sI υ 59 g) 57 8 (.int (nI 0))) 57 15 = .int (nI w.1) := by simp only [HA, Nat.reduceEqDiff, and_false, reduceIte]; exact hc
    have i8 : ¬ 8 * w.1 ≤ i := by omega
    have ix : 390 + (900 * nl + (2 + i)) = 392 + (900 * nl + i) := by omega
    simp (disch := omega) only [a172_146, a172_148, a172_149, a172_152, a172_153, a172_156, a172_157, a172_160, a172_161, a172_162, a172_163, a172_164, a172_165, a172_166, a172_169, a172_170, a172_171, a172_172, a172_175, FM hM, FM (fx g), hc, c15, i8, ix, CO, HA, HB, HC, Nat.not_lt_zero, Nat.add_assoc, c_nlt, c_nle, c_neq, c_P, c_cl, c_m1, c_m1', nI_add, pk_mul, reduceIte, Nat.reduceEqDiff, Nat.reduceAdd, Nat.reduceMul, Nat.reduceLeDiff, eq_self]
  · intro g hg
    show Ev (den (d + 10, 172, 145, [.ref 57, .int (nI (390 + 900 * nl)), .int (nI (8 * w.1))], [], sF (sI υ 59 g) 57 8 (.int (nI 0)))) _
    rw [a172_145]
    have go2 : den (d + 10, 172, 146, [.ref 57, .int (nI (390 + 900 * nl)), .int (nI (8 * w.1))], [.int (nI (8 * w.1))], sF (sI υ 59 g) 57 8 (.int (nI 0))) = den (d + 10, 172, 180, [.ref 57, .int (nI (390 + 900 * nl)), .int (nI 0)], [], sF (sI υ 59 g) 57 8 (.int (nI 0))) := by
      simp (disch := omega) only [a172_146, a172_148, a172_149, a172_152, a172_153, a172_178, a172_179, FM hM, FM (fx g), hc, Nat.le_refl, CO, HA, HB, HC, Nat.not_lt_zero, Nat.add_assoc, c_nlt, c_nle, c_neq, c_P, c_cl, c_m1, c_m1', nI_add, pk_mul, reduceIte, Nat.reduceEqDiff, Nat.reduceAdd, Nat.reduceMul, Nat.reduceLeDiff, eq_self]
    refine Ev_e go2 ?_
    refine lp (α := Nat → Int32) (h := fun i f => (d + 10, 172, 180, [.ref 57, .int (nI (390 + 900 * nl)), .int (nI i)], [], sF (sI υ 59 f) 57 8 (.int (nI 0)))) (I := fun i f => ∀ y, f y = if 488 + 900 * nl ≤ y ∧ y < 488 + 900 * nl + 2 * i then (if (y - (488 + 900 * nl)) % 2 = 0 then hI υ 64 ((y - (488 + 900 * nl)) / 2) else hI υ 65 ((y - (488 + 900 * nl)) / 2)) else g y) m ?_ ?_ 0 g (Nat.zero_le _) (fun y => by rw [if_neg (by omega)])
    · intro i f hi hf nx
      have nn := nx (upd (upd f (488 + (900 * nl + 2 * i)) (hI υ 64 i)) (488 + (900 * nl + (2 * i + 1))) (hI υ 65 i)) (fun y => by
        simp only [ua]
        by_cases z : y = 488 + (900 * nl + (2 * i + 1))
        · rw [if_pos z, if_pos (by omega), if_neg (by omega), show (y - (488 + 900 * nl)) / 2 = i by omega]
        · rw [if_neg z]
          by_cases z3 : y = 488 + (900 * nl + 2 * i)
          · rw [if_pos z3, if_pos (by omega), if_pos (by omega), show (y - (488 + 900 * nl)) / 2 = i by omega]
          · rw [if_neg z3, hf y]
            by_cases z2 : 488 + 900 * nl ≤ y ∧ y < 488 + 900 * nl + 2 * i
            · rw [if_pos z2, if_pos (show 488 + 900 * nl ≤ y ∧ y < 488 + 900 * nl + 2 * (i + 1) by omega)]
            · rw [if_neg z2, if_neg (show ¬ (488 + 900 * nl ≤ y ∧ y < 488 + 900 * nl + 2 * (i + 1)) by omega)])
      refine Ev_e ?_ nn
      show den (d + 10, 172, 180, [.ref 57, .int (nI (390 + 900 * nl)), .int (nI i)], [], sF (sI υ 59 f) 57 8 (.int (nI 0))) = _
      rw [a172_180]
      have i8 : ¬ m ≤ i := by omega
      have ix : 390 + (900 * nl + (98 + 2 * i)) = 488 + (900 * nl + 2 * i) := by omega
      have iy : 390 + (900 * nl + (98 + (2 * i + 1))) = 488 + (900 * nl + (2 * i + 1)) := by omega
      simp (disch := omega) only [a172_181, a172_182, a172_185, a172_188, a172_189, a172_192, a172_193, a172_195, a172_196, a172_197, a172_198, a172_199, a172_200, a172_201, a172_204, a172_205, a172_206, a172_207, a172_208, a172_211, a172_212, a172_214, a172_215, a172_216, a172_217, a172_218, a172_219, a172_220, a172_221, a172_222, a172_225, a172_226, a172_227, a172_228, a172_231, FM hM, FM (fx f), hm, i8, ix, iy, CO, HA, HB, HC, Nat.not_lt_zero, Nat.add_assoc, c_nlt, c_nle, c_neq, c_P, c_cl, c_m1, c_m1', nI_add, pk_mul, reduceIte, Nat.reduceEqDiff, Nat.reduceAdd, Nat.reduceMul, Nat.reduceLeDiff, eq_self]
    · intro f hf
      show Ev (den (d + 10, 172, 180, [.ref 57, .int (nI (390 + 900 * nl)), .int (nI m)], [], sF (sI υ 59 f) 57 8 (.int (nI 0)))) _
      rw [a172_180]
      have f2 : f 2 = nI nl := by rw [hf 2, if_neg (by omega), hg 2, if_neg (by omega)]; simp only [ua]; rw [if_neg (by omega)]; exact hn
      refine Ev_e (o' := some (some (.int (nI nl)), sF (sF (sI υ 59 (upd f 2 (nI (nl + 1)))) 57 8 (.int (nI 0))) 57 1 (.int (nI 0)))) ?_ (Ev_s ⟨rfl, upd f 2 (nI (nl + 1)), rfl, ?_, ?_, ?_⟩)
      · have sb : nI (nl + 1) - nI 1 = nI nl := by rw [← nI_add, Int32.add_sub_cancel]
        simp (disch := omega) only [a172_181, a172_182, a172_185, a172_234, a172_235, a172_238, a172_239, a172_240, a172_241, a172_242, a172_243, a172_244, a172_245, a172_246, a172_249, a172_250, a172_251, a172_252, a172_253, a172_256, FM hM, FM (fx f), hm, Nat.le_refl, f2, ua, sb, M_tell (fx (upd f 2 (nI (nl + 1)))) (show ¬ nI nl < nI 0 by rw [c_nlt (by omega) (by omega)]; omega), CO, HA, HB, HC, Nat.not_lt_zero, Nat.add_assoc, c_nlt, c_nle, c_neq, c_P, c_cl, c_m1, c_m1', nI_add, pk_mul, reduceIte, Nat.reduceEqDiff, Nat.reduceAdd, Nat.reduceMul, Nat.reduceLeDiff, eq_self]
      · simp only [HA, reduceIte, ua]
      · intro y h2 hy
        simp only [HA, reduceIte, ua]
        rw [if_neg h2, hf y, if_neg (by omega), hg y, if_neg (by omega)]
        simp only [ua]
        rw [if_neg (by omega)]
      · have rd : ∀ j, 0 < j → j < 900 → hI (sF (sF (sI υ 59 (upd f 2 (nI (nl + 1)))) 57 8 (.int (nI 0))) 57 1 (.int (nI 0))) 59 (0 + (390 + 900 * nl + j)) = f (390 + 900 * nl + j) := fun j h0 hj => by
          simp only [HA, reduceIte, ua, Nat.zero_add]
          rw [if_neg (by omega)]
        obtain ⟨b0, b1, b2, hh⟩ := cl
        have sg : ∀ (x y k : Nat) (φ : Ph), y ≤ m → SgM (gM υ) x y k φ → SgM (fun j => hI (sF (sF (sI υ 59 (upd f 2 (nI (nl + 1)))) 57 8 (.int (nI 0))) 57 1 (.int (nI 0))) 59 (0 + (390 + 900 * nl + j))) x y k φ := fun x y k φ hy s => SgM_e s (fun i h1 h2 => by
          rw [gM_0, gM_1, rd _ (by omega) (by omega), rd _ (by omega) (by omega), hf _, hf _]
          rw [if_pos (by omega), if_pos (by omega), if_pos (by omega), if_neg (by omega)]
          rw [show (390 + 900 * nl + (98 + 2 * i) - (488 + 900 * nl)) / 2 = i by omega, show (390 + 900 * nl + (98 + 2 * i + 1) - (488 + 900 * nl)) / 2 = i by omega]
          exact ⟨rfl, rfl⟩)
        have cr : ∀ i j, i < w.1 → j < 8 → f (390 + 900 * nl + (2 + 8 * i + j)) = hI υ 63 (8 * i + j) := fun i j hi hj => by
          rw [hf _, if_neg (by omega), hg _, if_pos (by omega), show 390 + 900 * nl + (2 + 8 * i + j) - (392 + 900 * nl) = 8 * i + j by omega]
        refine ⟨b0, b1, b2, ⟨h12, ?_⟩, fun i hi => ?_⟩
        · refine (rd 1 (by omega) (by omega)).trans ?_
          rw [hf _, if_neg (by omega), hg _, if_neg (by omega)]
          simp only [ua]
          rw [if_pos (by omega)]
        · obtain ⟨⟨y1, y2, y3, y4⟩, ⟨z1, z2, z3, z4, z5⟩, x1, x2⟩ := hh i hi
          refine ⟨y1, by omega, ⟨?_, ?_, ?_, ?_, ?_⟩, ?_, ?_⟩
          · exact (rd _ (by omega) (by omega)).trans ((cr i 0 hi (by omega)).trans z1)
          · exact (rd _ (by omega) (by omega)).trans ((cr i 3 hi (by omega)).trans z2)
          · exact (rd _ (by omega) (by omega)).trans ((cr i 4 hi (by omega)).trans z3)
          · exact (rd _ (by omega) (by omega)).trans ((cr i 5 hi (by omega)).trans z4)
          · exact (rd _ (by omega) (by omega)).trans ((cr i 6 hi (by omega)).trans z5)
          · rcases x1 with ⟨u1, u2⟩ | u
            · exact Or.inl ⟨u1, sg _ _ _ _ (by omega) u2⟩
            · exact Or.inr u
          · rcases x2 with ⟨u1, u2, u3⟩ | u
            · exact Or.inl ⟨u1, u2, sg _ _ _ _ (by omega) u3⟩
            · exact Or.inr u
end
