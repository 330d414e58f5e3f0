/-! law: the class reads clauses and the whole text -/
def PcC (τ : Hp) (X : Tx) (p a : Nat) (r : Pc_) : Option Value → Hp → Prop := fun v υ => Qrd τ υ ∧ Kc a τ υ ∧ match r with
  | .inl q => v = some (.int (nI 0)) ∧ hF υ 14 3 = .int (nI q)
  | .inr (p', n', (h, t, φ, ψ)) => v = some (.int (nI 1)) ∧ ∃ b, RdC υ X p' b n' ∧ b + p ≤ a + p' ∧ a + 2 ≤ b ∧ (hI υ 15 a = nI h ∧ hI υ 15 (a + 1) = nI b ∧ h < 5) ∧ CuC (hI υ 15) (a + 2) b (decide (h < 2)) t φ ψ
theorem CuC_g {f g : Nat → Int32} {a b : Nat} {u t : Bool} {φ ψ : Ph} (h : CuC f a b u t φ ψ) (e : ∀ i, a ≤ i → i < b → f i = g i) : CuC g a b u t φ ψ := by
  obtain ⟨m, h1, h2⟩ := h
  have am : a ≤ m := by
    rcases h1 with ⟨-, z⟩ | ⟨-, z, -⟩
    · exact z.1
    · omega
  have mb : m ≤ b := by
    rcases h2 with ⟨-, m', z, -, z2⟩ | ⟨-, z, -⟩
    · have := z.1; omega
    · omega
  refine ⟨m, ?_, ?_⟩
  · rcases h1 with ⟨z1, z⟩ | z
    · exact Or.inl ⟨z1, SgC_e z (fun i h1 h2 => e i h1 (by omega))⟩
    · exact Or.inr z
  · rcases h2 with ⟨z1, m', z, z2, z3⟩ | z
    · have := z.1
      exact Or.inl ⟨z1, m', SgC_e z (fun i h1 h2 => e i (by omega) (by omega)), by rw [← e m' (by omega) (by omega)]; exact z2, z3⟩
    · exact Or.inr z
theorem LwC_g {f g : Nat → Int32} {L n : Nat} {hs : Nat → Nat} {t : Nat → Bool} {φ ψ : Nat → Ph} (h : LwC L f n hs t φ ψ) (e : ∀ i, i < L → f i = g i) : LwC L g n hs t φ ψ := by
  obtain ⟨A, h1, h2⟩ := h
  refine ⟨A, h1, fun i hi => ?_⟩
  obtain ⟨z1, ⟨z2, z3⟩, z4⟩ := h2 i hi
  exact ⟨z1, ⟨by rw [← e _ (by omega)]; exact z2, by rw [← e _ (by omega)]; exact z3⟩, CuC_g z4 (fun i h1 h2 => e i (by omega))⟩
theorem LwC_a {f g : Nat → Int32} {L L' n : Nat} {hs : Nat → Nat} {t : Nat → Bool} {φ ψ : Nat → Ph} {c : Cl} (h : LwC L f n hs t φ ψ) (hn : n < 12) (e : ∀ i, i < L → f i = g i) (l : L + 2 ≤ L') (h5 : c.1 < 5) (g1 : g L = nI c.1) (g2 : g (L + 1) = nI L') (cu : CuC g (L + 2) L' (decide (c.1 < 2)) c.2.1 c.2.2.1 c.2.2.2) : LwC L' g (n + 1) (adC (n, hs, t, φ, ψ) c).2.1 (adC (n, hs, t, φ, ψ) c).2.2.1 (adC (n, hs, t, φ, ψ) c).2.2.2.1 (adC (n, hs, t, φ, ψ) c).2.2.2.2 := by
  obtain ⟨A, ⟨h1, h2, h3⟩, h4⟩ := h
  have i1 : ∀ j, j ≤ n → (if j = n + 1 then L' else A j) = A j := fun j hj => if_neg (by omega)
  refine ⟨fun j => if j = n + 1 then L' else A j, ⟨by omega, (i1 0 (by omega)).trans h2, if_pos rfl⟩, fun i hi => ?_⟩
  simp only [adC]
  by_cases q : i = n
  · subst q
    rw [i1 i (by omega), if_pos rfl, if_pos rfl, if_pos rfl, if_pos rfl, if_pos rfl, h3]
    exact ⟨⟨l, Nat.le_refl _, h5⟩, ⟨g1, g2⟩, cu⟩
  · rw [i1 i (by omega), i1 (i + 1) (by omega), if_neg q, if_neg q, if_neg q, if_neg q]
    obtain ⟨⟨y1, y2, y3⟩, ⟨z2, z3⟩, z4⟩ := h4 i (by omega)
    exact ⟨⟨y1, by omega, y3⟩, ⟨by rw [← e _ (by omega)]; exact z2, by rw [← e _ (by omega)]; exact z3⟩, CuC_g z4 (fun i h1 h2 => e i (by omega))⟩
section
variable {X : Tx}
theorem C_clause {d p a n : Nat} {τ : Hp} (hd : 370 ≤ d) (h : RdC τ X p a n) (hap : a ≤ p) : Ev (den (d, 57, 0, [.ref 14, .float 0, .float 0], [], τ)) (PcC τ X p a (pC X p n)) := by
  obtain ⟨e, rfl⟩ : ∃ e, d = e + 8 := ⟨d - 8, by omega⟩
  have x4 := h.2.1.2.2.1
  have hp := h.2.2.1
  have hh := fun (d : Nat) => C_headH (d := d) h
  unfold pC
  by_cases q : hI_ X p = 5
  · rw [if_pos q]
    simp only [if_pos q] at hh
    refine Ev_e (o' := some (some (.int (nI 0)), τ)) ?_ (Ev_s ⟨Ag_r, fun i hi => rfl, rfl, h.2.2.2.1.1⟩)
    simp (disch := first | omega | (repeat (first | assumption | exact Ag_r | refine Ag_I ?_ rfl | refine Ag_F ?_ rfl | refine Ag_J ?_ rfl))) only [a57_0, a57_1, a57_4, a57_5, a57_6, a57_7, a57_10, a57_11, FC h.1, hh, CO, HA, HB, HC, Nat.not_lt_zero, Nat.add_assoc, c_nlt, c_nle, c_neq, c_P, c_cl, c_m1, c_m1', nI_add, pk_mul, reduceIte, Nat.reduceEqDiff, Nat.reduceAdd, Nat.reduceMul, Nat.reduceLeDiff, eq_self, ↓pk_rem, pk_div, c_of, d_le, d_nle, d_lt, d_nlt, d_eq, d_ne]
  · rw [if_neg q]
    simp only [if_neg q] at hh
    have hl := (hI_p q).2
    have te : p + 2 ≤ tE X p ∧ tE X p ≤ X.1 := by
      have key : ∀ j, j < 5 → wd_ X p = wT.getD j 0 → p + 2 ≤ tE X p ∧ tE X p ≤ X.1 := fun j hj z => by
        have l4 : 2 ≤ (stAll.getD j (0, [])).2.length := (by decide +kernel : ∀ j, j < 5 → 2 ≤ (stAll.getD j (0, [])).2.length) j hj
        have := tE_l (j := j) (by omega) hp z
        omega
      unfold hI_ at q
      by_cases z0 : wd_ X p = 526131
      · exact key 0 (by omega) z0
      · by_cases z1 : wd_ X p = 3657363
        · exact key 1 (by omega) z1
        · by_cases z2 : wd_ X p = 67155
          · exact key 2 (by omega) z2
          · by_cases z3 : wd_ X p = 24165011
            · exact key 3 (by omega) z3
            · by_cases z4 : wd_ X p = 20099475
              · exact key 4 (by omega) z4
              · rw [if_neg z0, if_neg z1, if_neg z2, if_neg z3, if_neg z4] at q
                exact absurd rfl q
    generalize hI_ X p = H at hh hl ⊢
    have m1 : (nI H = (-1 : Int32)) = False := by
      rw [show (-1 : Int32) = zI (-1) from rfl, ← zI_n]
      exact zI_ne (by omega) (by omega) (by omega)
    simp (disch := first | omega | (repeat (first | assumption | exact Ag_r | refine Ag_I ?_ rfl | refine Ag_F ?_ rfl | refine Ag_J ?_ rfl))) only [a57_0, a57_1, a57_4, a57_5, a57_6, a57_7, a57_12, a57_13, FC h.1, hh, m1, CO, HA, HB, HC, Nat.not_lt_zero, Nat.add_assoc, c_nlt, c_nle, c_neq, c_P, c_cl, c_m1, c_m1', nI_add, pk_mul, reduceIte, Nat.reduceEqDiff, Nat.reduceAdd, Nat.reduceMul, Nat.reduceLeDiff, eq_self, ↓pk_rem, pk_div, c_of, d_le, d_nle, d_lt, d_nlt, d_eq, d_ne]
    refine Ev_b (C_sp (d := e + 6) h) ?_
    rintro _ υ1 ⟨rfl, g1, r1, c1⟩
    simp (disch := first | omega | (repeat (first | assumption | exact Ag_r | refine Ag_I ?_ rfl | refine Ag_F ?_ rfl | refine Ag_J ?_ rfl))) only [a57_16, a57_17, a57_18, FC r1.1, CO, HA, HB, HC, Nat.not_lt_zero, Nat.add_assoc, c_nlt, c_nle, c_neq, c_P, c_cl, c_m1, c_m1', nI_add, pk_mul, reduceIte, Nat.reduceEqDiff, Nat.reduceAdd, Nat.reduceMul, Nat.reduceLeDiff, eq_self, ↓pk_rem, pk_div, c_of, d_le, d_nle, d_lt, d_nlt, d_eq, d_ne]
    refine Ev_b (C_pu (d := e + 7) r1 (by omega) (nI H)) ?_
    rintro _ υ2 ⟨rfl, g2, r2, k2, c2⟩
    simp (disch := first | omega | (repeat (first | assumption | exact Ag_r | refine Ag_I ?_ rfl | refine Ag_F ?_ rfl | refine Ag_J ?_ rfl))) only [a57_21, a57_22, FC r2.1, CO, HA, HB, HC, Nat.not_lt_zero, Nat.add_assoc, c_nlt, c_nle, c_neq, c_P, c_cl, c_m1, c_m1', nI_add, pk_mul, reduceIte, Nat.reduceEqDiff, Nat.reduceAdd, Nat.reduceMul, Nat.reduceLeDiff, eq_self, ↓pk_rem, pk_div, c_of, d_le, d_nle, d_lt, d_nlt, d_eq, d_ne]
    refine Ev_b (C_po (d := e + 6) r2 (by omega)) ?_
    rintro _ υ3 ⟨rfl, g3, r3, k3⟩
    have g13 := Qrd_t g1 (Qrd_t g2 g3)
    have k13 : Kc a τ υ3 := fun i hi => by rw [k3 i (by omega), k2 i hi, c1]
    have ca : hI υ3 15 a = nI H := by rw [k3 a (by omega)]; exact c2
    have tail : ∀ (p1 n1 m : Nat) (φ : Ph) (ω : Hp), p < p1 → RdC ω X p1 m n1 → Qrd τ ω → Kc a τ ω → hI ω 15 a = nI H → a + 2 ≤ m → m + p ≤ a + p1 → ((H < 2 ∧ SgC (hI ω 15) (a + 2) m 60 φ) ∨ (¬ H < 2 ∧ m = a + 2 ∧ φ = ph1)) → Ev (den (e + 8, 57, 45, [.ref 14, .int (nI H), .int (nI (a + 1))], [], ω)) (PcC τ X p a (if wd_ X p1 = 294 then (match pT X 8 (tE X p1) n1 with
      | .inl q => .inl q
      | .inr (p2, n2, ψ) => .inr (p2, n2, (H, true, φ, ψ))) else .inr (p1, n1, (H, false, φ, ph1)))) := by
      intro p1 n1 m φ ω lp1 r g k c l1 l2 sm
      have hp1 := r.2.2.1
      have w := fun (d : Nat) => CW (d := d) r (show 13 < 17 by omega)
      simp only [wT, List.getD_cons_succ, List.getD_cons_zero, Nat.reduceAdd] at w
      have cus : ∀ (f : Nat → Int32), (∀ i, i < m → i ≠ a + 1 → f i = hI ω 15 i) → (decide (H < 2) = true ∧ SgC f (a + 2) m 60 φ) ∨ (decide (H < 2) = false ∧ m = a + 2 ∧ φ = ph1) := fun f hf => by
        rcases sm with ⟨z1, z2⟩ | ⟨z1, z2⟩
        · exact Or.inl ⟨decide_eq_true z1, SgC_e z2 (fun i h1 h2 => (hf i h2 (by omega)).symm)⟩
        · exact Or.inr ⟨decide_eq_false z1, z2⟩
      by_cases q2 : wd_ X p1 = 294
      · rw [if_pos q2]
        have te1 := tE_l (j := 13) (by omega) hp1 q2
        simp only [stAll, List.getD_cons_succ, List.getD_cons_zero, List.length_cons, List.length_nil, Nat.reduceAdd] at te1
        simp (disch := first | omega | (repeat (first | assumption | exact Ag_r | refine Ag_I ?_ rfl | refine Ag_F ?_ rfl | refine Ag_J ?_ rfl))) only [a57_45, a57_46, a57_48, a57_51, a57_54, a57_55, FC r.1, w, q2, CO, HA, HB, HC, Nat.not_lt_zero, Nat.add_assoc, c_nlt, c_nle, c_neq, c_P, c_cl, c_m1, c_m1', nI_add, pk_mul, reduceIte, Nat.reduceEqDiff, Nat.reduceAdd, Nat.reduceMul, Nat.reduceLeDiff, eq_self, ↓pk_rem, pk_div, c_of, d_le, d_nle, d_lt, d_nlt, d_eq, d_ne]
        refine Ev_b (C_sp (d := e + 6) r) ?_
        rintro _ w1 ⟨rfl, gw1, rw1, cw1⟩
        simp (disch := first | omega | (repeat (first | assumption | exact Ag_r | refine Ag_I ?_ rfl | refine Ag_F ?_ rfl | refine Ag_J ?_ rfl))) only [a57_58, a57_59, a57_60, FC rw1.1, CO, HA, HB, HC, Nat.not_lt_zero, Nat.add_assoc, c_nlt, c_nle, c_neq, c_P, c_cl, c_m1, c_m1', nI_add, pk_mul, reduceIte, Nat.reduceEqDiff, Nat.reduceAdd, Nat.reduceMul, Nat.reduceLeDiff, eq_self, ↓pk_rem, pk_div, c_of, d_le, d_nle, d_lt, d_nlt, d_eq, d_ne]
        refine Ev_b (C_T 8 (by omega) (e + 7) (tE X p1) m n1 w1 (by omega) rw1 (by omega)) ?_
        intro v w2 B
        have ff := fun p' n' ψ => Fw_T (X := X) 8 (tE X p1) n1 p' n' ψ te1.2
        revert B ff
        cases pT X 8 (tE X p1) n1 with
        | inl q =>
          rintro ⟨g4, k4, rfl, s4⟩ ff
          simp (disch := first | omega | (repeat (first | assumption | exact Ag_r | refine Ag_I ?_ rfl | refine Ag_F ?_ rfl | refine Ag_J ?_ rfl))) only [a57_63, a57_66, a57_67, CO, HA, HB, HC, Nat.not_lt_zero, Nat.add_assoc, c_nlt, c_nle, c_neq, c_P, c_cl, c_m1, c_m1', nI_add, pk_mul, reduceIte, Nat.reduceEqDiff, Nat.reduceAdd, Nat.reduceMul, Nat.reduceLeDiff, eq_self, ↓pk_rem, pk_div, c_of, d_le, d_nle, d_lt, d_nlt, d_eq, d_ne]
          exact Ev_s ⟨Qrd_t g (Qrd_t gw1 g4), Kc_t k (fun i hi => by rw [k4 i hi, cw1]) (by omega), rfl, s4⟩
        | inr x =>
          obtain ⟨p2, n2, ψ⟩ := x
          rintro ⟨g4, k4, rfl, b4, r4, m3, m4, sg4⟩ ff
          have f4 := ff p2 n2 ψ rfl
          simp (disch := first | omega | (repeat (first | assumption | exact Ag_r | refine Ag_I ?_ rfl | refine Ag_F ?_ rfl | refine Ag_J ?_ rfl))) only [a57_63, a57_68, a57_69, a57_71, FC r4.1, CO, HA, HB, HC, Nat.not_lt_zero, Nat.add_assoc, c_nlt, c_nle, c_neq, c_P, c_cl, c_m1, c_m1', nI_add, pk_mul, reduceIte, Nat.reduceEqDiff, Nat.reduceAdd, Nat.reduceMul, Nat.reduceLeDiff, eq_self, ↓pk_rem, pk_div, c_of, d_le, d_nle, d_lt, d_nlt, d_eq, d_ne]
          refine Ev_b (C_pu (d := e + 7) r4 (by omega) (-20)) ?_
          rintro _ w5 ⟨rfl, g5, r5, k5, c5⟩
          simp (disch := first | omega | (repeat (first | assumption | exact Ag_r | refine Ag_I ?_ rfl | refine Ag_F ?_ rfl | refine Ag_J ?_ rfl))) only [a57_74, a57_75, a57_76, FC r5.1, CO, HA, HB, HC, Nat.not_lt_zero, Nat.add_assoc, c_nlt, c_nle, c_neq, c_P, c_cl, c_m1, c_m1', nI_add, pk_mul, reduceIte, Nat.reduceEqDiff, Nat.reduceAdd, Nat.reduceMul, Nat.reduceLeDiff, eq_self, ↓pk_rem, pk_div, c_of, d_le, d_nle, d_lt, d_nlt, d_eq, d_ne]
          refine Ev_b (C_cl (d := e + 7) r5 (b := a + 1) (by omega)) ?_
          rintro _ w6 ⟨rfl, g6, r6, c6, k6⟩
          simp (disch := first | omega | (repeat (first | assumption | exact Ag_r | refine Ag_I ?_ rfl | refine Ag_F ?_ rfl | refine Ag_J ?_ rfl))) only [a57_79, a57_80, CO, HA, HB, HC, Nat.not_lt_zero, Nat.add_assoc, c_nlt, c_nle, c_neq, c_P, c_cl, c_m1, c_m1', nI_add, pk_mul, reduceIte, Nat.reduceEqDiff, Nat.reduceAdd, Nat.reduceMul, Nat.reduceLeDiff, eq_self, ↓pk_rem, pk_div, c_of, d_le, d_nle, d_lt, d_nlt, d_eq, d_ne]
          have kk : ∀ i, i < m → i ≠ a + 1 → hI w6 15 i = hI ω 15 i := fun i hi hn => by rw [k6 i hn, k5 i (by omega), k4 i hi, cw1]
          refine Ev_s ⟨Qrd_t g (Qrd_t gw1 (Qrd_t g4 (Qrd_t g5 g6))), fun i hi => by rw [kk i (by omega) (by omega), k i hi], rfl, b4 + 1, r6, by omega, by omega, ⟨by rw [kk a (by omega) (by omega)]; exact c, c6, hl⟩, m, cus _ kk, Or.inl ⟨rfl, b4, SgC_k (SgC_e sg4 (fun i h1 h2 => ?_)) (by omega), ?_, rfl⟩⟩
          · rw [k6 i (by omega), k5 i h2]
          · rw [k6 b4 (by omega)]; exact c5
      · rw [if_neg q2]
        simp (disch := first | omega | (repeat (first | assumption | exact Ag_r | refine Ag_I ?_ rfl | refine Ag_F ?_ rfl | refine Ag_J ?_ rfl))) only [a57_45, a57_46, a57_48, a57_51, a57_74, a57_75, a57_76, FC r.1, w, q2, CO, HA, HB, HC, Nat.not_lt_zero, Nat.add_assoc, c_nlt, c_nle, c_neq, c_P, c_cl, c_m1, c_m1', nI_add, pk_mul, reduceIte, Nat.reduceEqDiff, Nat.reduceAdd, Nat.reduceMul, Nat.reduceLeDiff, eq_self, ↓pk_rem, pk_div, c_of, d_le, d_nle, d_lt, d_nlt, d_eq, d_ne]
        refine Ev_b (C_cl (d := e + 7) r (b := a + 1) (by omega)) ?_
        rintro _ w6 ⟨rfl, g6, r6, c6, k6⟩
        simp (disch := first | omega | (repeat (first | assumption | exact Ag_r | refine Ag_I ?_ rfl | refine Ag_F ?_ rfl | refine Ag_J ?_ rfl))) only [a57_79, a57_80, CO, HA, HB, HC, Nat.not_lt_zero, Nat.add_assoc, c_nlt, c_nle, c_neq, c_P, c_cl, c_m1, c_m1', nI_add, pk_mul, reduceIte, Nat.reduceEqDiff, Nat.reduceAdd, Nat.reduceMul, Nat.reduceLeDiff, eq_self, ↓pk_rem, pk_div, c_of, d_le, d_nle, d_lt, d_nlt, d_eq, d_ne]
        exact Ev_s ⟨Qrd_t g g6, fun i hi => by rw [k6 i (by omega), k i hi], rfl, m, r6, by omega, by omega, ⟨by rw [k6 a (by omega)]; exact c, c6, hl⟩, m, cus _ (fun i hi hn => k6 i hn), Or.inr ⟨rfl, rfl, rfl⟩⟩
    unfold pC1
    by_cases h2 : H < 2
    · rw [if_pos h2]
      refine Ev_e (o' := (den (e + 7, 64, 0, [.ref 14, .int (nI 0), .float 0, .float 0], [], υ3)).bind fun q => den (e + 8, 57, 40, [.ref 14, .int (nI H), .int (nI (a + 1))], q.1.toList ++ [], q.2)) ?_ ?_
      · obtain rfl | rfl : H = 0 ∨ H = 1 := by omega
        · simp (disch := first | omega | (repeat (first | assumption | exact Ag_r | refine Ag_I ?_ rfl | refine Ag_F ?_ rfl | refine Ag_J ?_ rfl))) only [a57_25, a57_26, a57_27, a57_30, a57_31, a57_32, a57_35, a57_36, a57_37, FC r3.1, CO, HA, HB, HC, Nat.not_lt_zero, Nat.add_assoc, c_nlt, c_nle, c_neq, c_P, c_cl, c_m1, c_m1', nI_add, pk_mul, reduceIte, Nat.reduceEqDiff, Nat.reduceAdd, Nat.reduceMul, Nat.reduceLeDiff, eq_self, ↓pk_rem, pk_div, c_of, d_le, d_nle, d_lt, d_nlt, d_eq, d_ne]
        · simp (disch := first | omega | (repeat (first | assumption | exact Ag_r | refine Ag_I ?_ rfl | refine Ag_F ?_ rfl | refine Ag_J ?_ rfl))) only [a57_25, a57_26, a57_27, a57_30, a57_31, a57_32, a57_35, a57_36, a57_37, FC r3.1, CO, HA, HB, HC, Nat.not_lt_zero, Nat.add_assoc, c_nlt, c_nle, c_neq, c_P, c_cl, c_m1, c_m1', nI_add, pk_mul, reduceIte, Nat.reduceEqDiff, Nat.reduceAdd, Nat.reduceMul, Nat.reduceLeDiff, eq_self, ↓pk_rem, pk_div, c_of, d_le, d_nle, d_lt, d_nlt, d_eq, d_ne]
      refine Ev_b (C_S 8 (by omega) (e + 7) (tE X p) (a + 2) n υ3 (by omega) r3 (by omega)) ?_
      intro v w2 B
      have ff := fun p' n' ψ => Fw_S (X := X) 8 (tE X p) n p' n' ψ te.2
      revert B ff
      cases pS X 8 (tE X p) n with
      | inl q =>
        rintro ⟨g4, k4, rfl, s4⟩ ff
        simp (disch := first | omega | (repeat (first | assumption | exact Ag_r | refine Ag_I ?_ rfl | refine Ag_F ?_ rfl | refine Ag_J ?_ rfl))) only [a57_40, a57_43, a57_44, CO, HA, HB, HC, Nat.not_lt_zero, Nat.add_assoc, c_nlt, c_nle, c_neq, c_P, c_cl, c_m1, c_m1', nI_add, pk_mul, reduceIte, Nat.reduceEqDiff, Nat.reduceAdd, Nat.reduceMul, Nat.reduceLeDiff, eq_self, ↓pk_rem, pk_div, c_of, d_le, d_nle, d_lt, d_nlt, d_eq, d_ne]
        exact Ev_s ⟨Qrd_t g13 g4, Kc_t k13 k4 (by omega), rfl, s4⟩
      | inr x =>
        obtain ⟨p2, n2, φ⟩ := x
        rintro ⟨g4, k4, rfl, b4, r4, m3, m4, sg4⟩ ff
        have f4 := ff p2 n2 φ rfl
        refine Ev_e ?_ (tail p2 n2 b4 φ w2 (by omega) r4 (Qrd_t g13 g4) (Kc_t k13 k4 (by omega)) (by rw [k4 a (by omega)]; exact ca) m4 (by omega) (Or.inl ⟨h2, SgC_k sg4 (by omega)⟩))
        simp (disch := first | omega | (repeat (first | assumption | exact Ag_r | refine Ag_I ?_ rfl | refine Ag_F ?_ rfl | refine Ag_J ?_ rfl))) only [a57_40, CO, HA, HB, HC, Nat.not_lt_zero, Nat.add_assoc, c_nlt, c_nle, c_neq, c_P, c_cl, c_m1, c_m1', nI_add, pk_mul, reduceIte, Nat.reduceEqDiff, Nat.reduceAdd, Nat.reduceMul, Nat.reduceLeDiff, eq_self, ↓pk_rem, pk_div, c_of, d_le, d_nle, d_lt, d_nlt, d_eq, d_ne]
    · rw [if_neg h2]
      refine Ev_e ?_ (tail (tE X p) n (a + 2) ph1 υ3 (by omega) r3 g13 k13 ca (by omega) (by omega) (Or.inr ⟨h2, rfl, rfl⟩))
      simp (disch := first | omega | (repeat (first | assumption | exact Ag_r | refine Ag_I ?_ rfl | refine Ag_F ?_ rfl | refine Ag_J ?_ rfl))) only [a57_25, a57_26, a57_27, a57_30, a57_31, a57_32, CO, HA, HB, HC, Nat.not_lt_zero, Nat.add_assoc, c_nlt, c_nle, c_neq, c_P, c_cl, c_m1, c_m1', nI_add, pk_mul, reduceIte, Nat.reduceEqDiff, Nat.reduceAdd, Nat.reduceMul, Nat.reduceLeDiff, eq_self, ↓pk_rem, pk_div, c_of, d_le, d_nle, d_lt, d_nlt, d_eq, d_ne]
def L0 : Lw5 := (0, (fun _ => 0), (fun _ => false), (fun _ => ph1), (fun _ => ph1))
theorem C_read {d : Nat} {τ : Hp} (hd : 375 ≤ d) (h1 : FxC τ) (h2 : TxC τ X) : Ev (den (d, 49, 0, [.ref 14, .float 0], [], τ)) (fun v υ => Qrd τ υ ∧ match pLw X 12 L0 0 0 with
  | .inl q => v = some (.int (nI 0)) ∧ hF υ 14 3 = .int (nI q)
  | .inr w => v = some (.int (nI 1)) ∧ ∃ b, b ≤ 400 ∧ hF υ 14 2 = .int (nI b) ∧ LwC b (hI υ 15) w.1 w.2.1 w.2.2.1 w.2.2.2.1 w.2.2.2.2) := by
  obtain ⟨e, rfl⟩ : ∃ e, d = e + 3 := ⟨d - 3, by omega⟩
  have x4 := h2.2.2.1
  have go : ∀ (f i : Nat) (w : Lw5) (p b n : Nat) (υ : Hp), i + f = 12 → w.1 = i → b ≤ p → RdC υ X p b n → Qrd τ υ → LwC b (hI υ 15) w.1 w.2.1 w.2.2.1 w.2.2.2.1 w.2.2.2.2 → Ev (den (e + 3, 49, 21, [.ref 14, .int (nI i)], [], υ)) (fun v υ => Qrd τ υ ∧ match pLw X f w p n with
      | .inl q => v = some (.int (nI 0)) ∧ hF υ 14 3 = .int (nI q)
      | .inr w => v = some (.int (nI 1)) ∧ ∃ b, b ≤ 400 ∧ hF υ 14 2 = .int (nI b) ∧ LwC b (hI υ 15) w.1 w.2.1 w.2.2.1 w.2.2.2.1 w.2.2.2.2) := by
    intro f
    induction f with
    | zero =>
      intro i w p b n υ hi hw lb r g lw
      obtain rfl : i = 12 := by omega
      rw [a49_21]
      simp (disch := first | omega | (repeat (first | assumption | exact Ag_r | refine Ag_I ?_ rfl | refine Ag_F ?_ rfl | refine Ag_J ?_ rfl))) only [A49, CO, HA, HB, HC, Nat.not_lt_zero, Nat.add_assoc, c_nlt, c_nle, c_neq, c_P, c_cl, c_m1, c_m1', nI_add, pk_mul, reduceIte, Nat.reduceEqDiff, Nat.reduceAdd, Nat.reduceMul, Nat.reduceLeDiff, eq_self, ↓pk_rem, pk_div, c_of, d_le, d_nle, d_lt, d_nlt, d_eq, d_ne]
      exact Ev_s ⟨g, rfl, r.2.2.2.1.1⟩
    | succ f ih =>
      intro i w p b n υ hi hw lb r g lw
      rw [a49_21]
      simp only [pLw]
      simp (disch := first | omega | (repeat (first | assumption | exact Ag_r | refine Ag_I ?_ rfl | refine Ag_F ?_ rfl | refine Ag_J ?_ rfl))) only [a49_22, a49_24, a49_27, a49_28, FC r.1, CO, HA, HB, HC, Nat.not_lt_zero, Nat.add_assoc, c_nlt, c_nle, c_neq, c_P, c_cl, c_m1, c_m1', nI_add, pk_mul, reduceIte, Nat.reduceEqDiff, Nat.reduceAdd, Nat.reduceMul, Nat.reduceLeDiff, eq_self, ↓pk_rem, pk_div, c_of, d_le, d_nle, d_lt, d_nlt, d_eq, d_ne]
      refine Ev_b (C_clause (d := e + 2) (by omega) r lb) ?_
      intro v υ1 B
      revert B
      cases pC X p n with
      | inl q =>
        rintro ⟨g1, k1, rfl, s1⟩
        simp (disch := first | omega | (repeat (first | assumption | exact Ag_r | refine Ag_I ?_ rfl | refine Ag_F ?_ rfl | refine Ag_J ?_ rfl))) only [a49_31, a49_34, a49_35, CO, HA, HB, HC, Nat.not_lt_zero, Nat.add_assoc, c_nlt, c_nle, c_neq, c_P, c_cl, c_m1, c_m1', nI_add, pk_mul, reduceIte, Nat.reduceEqDiff, Nat.reduceAdd, Nat.reduceMul, Nat.reduceLeDiff, eq_self, ↓pk_rem, pk_div, c_of, d_le, d_nle, d_lt, d_nlt, d_eq, d_ne]
        exact Ev_s ⟨Qrd_t g g1, rfl, s1⟩
      | inr x =>
        obtain ⟨p', n', H, t, φ, ψ⟩ := x
        rintro ⟨g1, k1, rfl, b1, r1, l1, l2, ⟨c1, c2, h5⟩, cu⟩
        have hp1 := r1.2.2.1
        have w3 := fun (d c : Nat) (hc : 0 < c) (h2 : c < 256) => CS (d := d) r1 hc h2
        have tk := r1.2.2.2.1.2.2
        have tb := tk_b hp1
        have lw' : LwC b1 (hI υ1 15) (adC w (H, t, φ, ψ)).1 (adC w (H, t, φ, ψ)).2.1 (adC w (H, t, φ, ψ)).2.2.1 (adC w (H, t, φ, ψ)).2.2.2.1 (adC w (H, t, φ, ψ)).2.2.2.2 := by
          obtain ⟨j, hs, tt, pp, qq⟩ := w
          exact LwC_a (c := (H, t, φ, ψ)) lw (by simp only at hw; omega) (fun i hi => (k1 i hi).symm) l2 h5 c1 c2 cu
        dsimp only
        by_cases k0 : tK X p' = 0
        · rw [if_pos k0]
          simp (disch := first | omega | (repeat (first | assumption | exact Ag_r | refine Ag_I ?_ rfl | refine Ag_F ?_ rfl | refine Ag_J ?_ rfl))) only [a49_31, a49_36, a49_37, a49_40, a49_43, a49_44, FC r1.1, tk, k0, CO, HA, HB, HC, Nat.not_lt_zero, Nat.add_assoc, c_nlt, c_nle, c_neq, c_P, c_cl, c_m1, c_m1', nI_add, pk_mul, reduceIte, Nat.reduceEqDiff, Nat.reduceAdd, Nat.reduceMul, Nat.reduceLeDiff, eq_self, ↓pk_rem, pk_div, c_of, d_le, d_nle, d_lt, d_nlt, d_eq, d_ne]
          exact Ev_s ⟨Qrd_t g g1, rfl, b1, by omega, r1.2.2.2.2.1, lw'⟩
        · rw [if_neg k0]
          by_cases s0 : sg_ X p' = 59
          · rw [if_pos s0]
            have te := tE_s hp1 (by omega) s0
            simp (disch := first | omega | (repeat (first | assumption | exact Ag_r | refine Ag_I ?_ rfl | refine Ag_F ?_ rfl | refine Ag_J ?_ rfl))) only [a49_31, a49_36, a49_37, a49_40, a49_45, a49_46, a49_48, a49_51, a49_56, a49_57, FC r1.1, tk, k0, w3, s0, CO, HA, HB, HC, Nat.not_lt_zero, Nat.add_assoc, c_nlt, c_nle, c_neq, c_P, c_cl, c_m1, c_m1', nI_add, pk_mul, reduceIte, Nat.reduceEqDiff, Nat.reduceAdd, Nat.reduceMul, Nat.reduceLeDiff, eq_self, ↓pk_rem, pk_div, c_of, d_le, d_nle, d_lt, d_nlt, d_eq, d_ne]
            refine Ev_b (C_sp (d := e + 1) r1) ?_
            rintro _ υ2 ⟨rfl, g2, r2, c3⟩
            refine Ev_e ?_ (ih (i + 1) (adC w (H, t, φ, ψ)) (tE X p') b1 n' υ2 (by omega) (by simp only [adC]; omega) (by omega) r2 (Qrd_t g (Qrd_t g1 g2)) (by rw [c3]; exact lw'))
            simp (disch := first | omega | (repeat (first | assumption | exact Ag_r | refine Ag_I ?_ rfl | refine Ag_F ?_ rfl | refine Ag_J ?_ rfl))) only [a49_60, a49_63, CO, HA, HB, HC, Nat.not_lt_zero, Nat.add_assoc, c_nlt, c_nle, c_neq, c_P, c_cl, c_m1, c_m1', nI_add, pk_mul, reduceIte, Nat.reduceEqDiff, Nat.reduceAdd, Nat.reduceMul, Nat.reduceLeDiff, eq_self, ↓pk_rem, pk_div, c_of, d_le, d_nle, d_lt, d_nlt, d_eq, d_ne]
          · rw [if_neg s0]
            refine Ev_e (o' := some (some (.int (nI 0)), υ1)) ?_ (Ev_s ⟨Qrd_t g g1, rfl, r1.2.2.2.1.1⟩)
            simp (disch := first | omega | (repeat (first | assumption | exact Ag_r | refine Ag_I ?_ rfl | refine Ag_F ?_ rfl | refine Ag_J ?_ rfl))) only [a49_31, a49_36, a49_37, a49_40, a49_45, a49_46, a49_48, a49_51, a49_54, a49_55, FC r1.1, tk, k0, w3, s0, CO, HA, HB, HC, Nat.not_lt_zero, Nat.add_assoc, c_nlt, c_nle, c_neq, c_P, c_cl, c_m1, c_m1', nI_add, pk_mul, reduceIte, Nat.reduceEqDiff, Nat.reduceAdd, Nat.reduceMul, Nat.reduceLeDiff, eq_self, ↓pk_rem, pk_div, c_of, d_le, d_nle, d_lt, d_nlt, d_eq, d_ne]
  have g0 : Qrd τ (sF (sF (sF τ 14 2 (.int (nI 0))) 14 4 (.int (nI 0))) 14 6 (.int (nI 0))) := Ag_F (Ag_F (Ag_F Ag_r rfl) rfl) rfl
  simp (disch := first | omega | (repeat (first | assumption | exact Ag_r | refine Ag_I ?_ rfl | refine Ag_F ?_ rfl | refine Ag_J ?_ rfl))) only [a49_0, a49_1, a49_2, a49_5, a49_6, a49_7, a49_10, a49_11, a49_12, a49_15, a49_16, FC h1, CO, HA, HB, HC, Nat.not_lt_zero, Nat.add_assoc, c_nlt, c_nle, c_neq, c_P, c_cl, c_m1, c_m1', nI_add, pk_mul, reduceIte, Nat.reduceEqDiff, Nat.reduceAdd, Nat.reduceMul, Nat.reduceLeDiff, eq_self, ↓pk_rem, pk_div, c_of, d_le, d_nle, d_lt, d_nlt, d_eq, d_ne]
  refine Ev_b (C_step (d := e + 1) (Qrd_C g0 h1) (Qrd_X g0 h2) (p := 0) (by omega) (by simp only [HA, Nat.reduceEqDiff, and_false, and_self, reduceIte])) ?_
  rintro _ υ ⟨rfl, g1, t1⟩
  have gg := Qrd_t g0 (Qst_r g1)
  refine Ev_e (o' := den (e + 3, 49, 21, [.ref 14, .int (nI 0)], [], υ)) ?_ (go 12 0 L0 0 0 0 υ rfl rfl (by omega) ⟨Qrd_C gg h1, Qrd_X gg h2, by omega, t1, ?_, ?_, by omega⟩ gg ⟨fun _ => 0, ⟨by simp only [L0]; omega, rfl, rfl⟩, fun i hi => absurd hi (by simp only [L0]; omega)⟩)
  · simp (disch := first | omega | (repeat (first | assumption | exact Ag_r | refine Ag_I ?_ rfl | refine Ag_F ?_ rfl | refine Ag_J ?_ rfl))) only [a49_19, a49_20, CO, HA, HB, HC, Nat.not_lt_zero, Nat.add_assoc, c_nlt, c_nle, c_neq, c_P, c_cl, c_m1, c_m1', nI_add, pk_mul, reduceIte, Nat.reduceEqDiff, Nat.reduceAdd, Nat.reduceMul, Nat.reduceLeDiff, eq_self, ↓pk_rem, pk_div, c_of, d_le, d_nle, d_lt, d_nlt, d_eq, d_ne]
  · rw [Ag_f g1 14 2 rfl]; simp only [HA, Nat.reduceEqDiff, and_false, and_self, reduceIte]
  · rw [Ag_f g1 14 6 rfl]; simp only [HA, Nat.reduceEqDiff, and_false, and_self, reduceIte]
end
