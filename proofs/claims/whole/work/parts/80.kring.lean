/-! ring: the whole call -/
theorem mk_e {p : Nat → Bool} {v : Nat} (hv : v ≤ 8) (h : ∀ c, v ≤ c → p c = false) : mk p v = mk p 8 := by
  refine Nat.eq_of_testBit_eq (fun c => ?_)
  rw [mk_t, mk_t]
  by_cases q : c < v
  · rw [decide_eq_true q, decide_eq_true (by omega)]
  · rw [h c (by omega), Bool.and_false, Bool.and_false]
theorem mk_0 {p : Nat → Bool} (h : ∀ c, p c = false) : ∀ n, mk p n = 0
  | 0 => rfl
  | n + 1 => by simp only [mk, h n, Bool.false_eq_true, reduceIte]; exact mk_0 h n
theorem or_0 (x : Int32) : x ||| nI 0 = x := by
  apply Int32.toBitVec_inj.mp
  simp [nI]
theorem nI_ex {x : Int32} {n : Nat} (h0 : nI 0 ≤ x) (h1 : ¬ nI n ≤ x) (hn : n < 2 ^ 31) : ∃ k, k < n ∧ x = nI k := by
  have a := Int32.le_iff_toInt_le.mp h0
  have b := Int32.lt_iff_toInt_lt.mp (Int32.not_le.mp h1)
  rw [nI_toInt (by omega)] at a
  rw [nI_toInt hn] at b
  refine ⟨x.toInt.toNat, by omega, Int32.toInt_inj.mp ?_⟩
  rw [nI_toInt (by omega)]
  omega
def Qo (σ τ : Hp) : Prop := Ag (fun k => Nat.beq k 75 || (Nat.beq k 76 || Nat.beq k 77)) (fun k j => Nat.beq k 57 && (Nat.beq j 40 || Nat.beq j 41)) σ τ
theorem Qo_t {a b c : Hp} (g : Qo a b) (h : Qo b c) : Qo a c := Ag_t g h
theorem Qo_m {σ τ : Hp} (g : Qo σ τ) : Qm σ τ := Ag_w g (fun k e => by
  simp only [Bool.or_eq_true] at e
  rcases e with e | e | e <;> (have := Nat.eq_of_beq_eq_true e; subst this; rfl)) (fun k j e => by
  simp only [Bool.and_eq_true, Bool.or_eq_true] at e
  obtain ⟨e1, e2 | e2⟩ := e <;>
  · have e1 := Nat.eq_of_beq_eq_true e1
    have e2 := Nat.eq_of_beq_eq_true e2
    subst e1 e2; rfl)
theorem Qwr_o {σ τ : Hp} (g : Qwr σ τ) : Qo σ τ := Ag_w g (fun k e => by
  show (Nat.beq k 75 || (Nat.beq k 76 || Nat.beq k 77)) = true
  rw [show (Nat.beq k 76 || Nat.beq k 77) = true from e, Bool.or_true]) (fun k j e => e)
section
variable {d v : Nat} {H : Nat → Nat} {σ τ : Hp}
theorem M_findRing (hM : FxM σ) (sM : StM σ v H) (hw : Wf v H) (hq : Qm σ τ) (hl : LdM τ v H) : Ev (den (d + 2, 199, 0, [.ref 57, .float 0, .float 0], [], τ)) (fun a υ => a = none ∧ Qo τ υ ∧ ∃ n m, Rg (Ed H v) n m ∧ KR υ n m) := by
  have hv8 := hw.2.1
  have hv1 := hw.1
  have hH : ∀ c, c < 224 → H c < 8 := fun c hc => Wf_8 hw hc
  have hv := sM.1
  have g0 : Qo τ (sF (sF τ 57 40 (.int (nI 0))) 57 41 (.int (nI 0))) := Ag_F (Ag_F Ag_r rfl) rfl
  have z0 : hF (sF (sF τ 57 40 (.int (nI 0))) 57 41 (.int (nI 0))) 57 40 = .int (nI 0) ∧ hF (sF (sF τ 57 40 (.int (nI 0))) 57 41 (.int (nI 0))) 57 41 = .int (nI 0) := ⟨by simp only [HA, Nat.reduceEqDiff, and_false, and_self, reduceIte], by simp only [HA, Nat.reduceEqDiff, and_false, and_self, reduceIte]⟩
  refine Ev_e (o' := den (d + 2, 199, 12, [.ref 57, .int (nI 0), .float 0], [], sF (sF τ 57 40 (.int (nI 0))) 57 41 (.int (nI 0)))) ?_ ?_
  · simp (disch := first | omega | (repeat (first | assumption | exact Ag_r | refine Ag_I ?_ rfl | refine Ag_F ?_ rfl | refine Ag_J ?_ rfl))) only [A199, FM (Qm_M hq hM), CO, HA, HB, HC, Nat.not_lt_zero, Nat.add_assoc, c_nlt, c_nle, c_neq, c_P, c_cl, c_m1, c_m1', nI_add, pk_mul, reduceIte, Nat.reduceEqDiff, Nat.reduceAdd, Nat.reduceMul, Nat.reduceLeDiff, eq_self, ↓pk_rem, pk_div, c_of, d_le, d_nle, d_lt, d_nlt, d_eq, d_ne]
  refine lp (α := Hp × Value) (h := fun i x => (d + 2, 199, 12, [.ref 57, .int (nI i), x.2], [], x.1)) (I := fun i x => Qo τ x.1 ∧ (hF x.1 57 40 = .int (nI 0) ∧ hF x.1 57 41 = .int (nI 0)) ∧ ∀ u, u < i → hI x.1 75 u = nI (mk (Ed H v u) 8)) 8 ?_ ?_ 0 (_, .float 0) (by omega) ⟨g0, z0, fun u hu => absurd hu (by omega)⟩
  · rintro a ⟨υ, l2⟩ ha ⟨g, ⟨f1, f2⟩, ho⟩ nx
    replace g : Qo τ υ := g
    replace f1 : hF υ 57 40 = .int (nI 0) := f1
    replace f2 : hF υ 57 41 = .int (nI 0) := f2
    replace ho : ∀ u, u < a → hI υ 75 u = nI (mk (Ed H v u) 8) := ho
    have qm := Ag_t hq (Qo_m g)
    have m2 := Qm_M qm hM
    show Ev (den (d + 2, 199, 12, [.ref 57, .int (nI a), l2], [], υ)) _
    rw [a199_12]
    have ga : Qo υ (sI υ 75 (upd (hI υ 75) a (nI 0))) := Ag_I Ag_r rfl
    refine Ev_e (o' := den (d + 2, 199, 27, [.ref 57, .int (nI a), .int (nI 0)], [], sI υ 75 (upd (hI υ 75) a (nI 0)))) ?_ ?_
    · simp (disch := first | omega | (repeat (first | assumption | exact Ag_r | refine Ag_I ?_ rfl | refine Ag_F ?_ rfl | refine Ag_J ?_ rfl))) only [A199, FM m2, CO, HA, HB, HC, Nat.not_lt_zero, Nat.add_assoc, c_nlt, c_nle, c_neq, c_P, c_cl, c_m1, c_m1', nI_add, pk_mul, reduceIte, Nat.reduceEqDiff, Nat.reduceAdd, Nat.reduceMul, Nat.reduceLeDiff, eq_self, ↓pk_rem, pk_div, c_of, d_le, d_nle, d_lt, d_nlt, d_eq, d_ne]
    by_cases av : a < v
    · refine lp (α := Hp) (h := fun i x => (d + 2, 199, 27, [.ref 57, .int (nI a), .int (nI i)], [], x)) (I := fun i x => Qo τ x ∧ (hF x 57 40 = .int (nI 0) ∧ hF x 57 41 = .int (nI 0)) ∧ (∀ u, u < a → hI x 75 u = nI (mk (Ed H v u) 8)) ∧ hI x 75 a = nI (mk (Ed H v a) i)) v ?_ ?_ 0 _ (by omega) ⟨Qo_t g ga, ⟨f1, f2⟩, fun u hu => ?_, ?_⟩
      · rintro b ω hb ⟨g, f, ho, hx⟩ nx2
        have qm := Ag_t hq (Qo_m g)
        have m2 := Qm_M qm hM
        have lb : mk (Ed H v a) b < 256 := Nat.lt_of_lt_of_le mk_lt (show 2 ^ b ≤ 2 ^ 8 from Nat.pow_le_pow_right (by omega) (by omega))
        have owe := fun (d : Nat) => M_owesOf (d := d) hM hH (show a < 8 by omega) (show b < 8 by omega) qm (fun c hc => by rw [Ag_i g 72 rfl]; exact hl.1 c hc)
        have owl : ow H a b ≤ 28 := by unfold ow; exact cB_le _ _
        have vs := fun (d : Nat) => M_villages' (d := d) hM qm
        have orr := (r_or _ lb b (by omega)).1
        show Ev (den (d + 2, 199, 27, [.ref 57, .int (nI a), .int (nI b)], [], ω)) _
        rw [a199_27]
        have fin : ∀ y, y = nI (mk (Ed H v a) (b + 1)) → Qo τ (sI ω 75 (upd (hI ω 75) a y)) ∧ (hF (sI ω 75 (upd (hI ω 75) a y)) 57 40 = .int (nI 0) ∧ hF (sI ω 75 (upd (hI ω 75) a y)) 57 41 = .int (nI 0)) ∧ (∀ u, u < a → hI (sI ω 75 (upd (hI ω 75) a y)) 75 u = nI (mk (Ed H v u) 8)) ∧ hI (sI ω 75 (upd (hI ω 75) a y)) 75 a = nI (mk (Ed H v a) (b + 1)) := by
          rintro y rfl
          refine ⟨Qo_t g (Ag_I Ag_r rfl), f, fun u hu => ?_, by simp only [HA, reduceIte, ua]⟩
          simp only [HA, reduceIte, ua]
          rw [if_neg (by omega)]
          exact ho u hu
        by_cases e1 : a = b
        · have ed : Ed H v a b = false := by unfold Ed; exact decide_eq_false (fun z => z.2.2.1 e1)
          have me : mk (Ed H v a) (b + 1) = mk (Ed H v a) b := by simp only [mk, ed, Bool.false_eq_true, reduceIte]
          refine Ev_e ?_ (nx2 (sI ω 75 (upd (hI ω 75) a (nI (mk (Ed H v a) b)))) (fin _ (by rw [me])))
          subst e1
          simp (disch := first | omega | (repeat (first | assumption | exact Ag_r | refine Ag_I ?_ rfl | refine Ag_F ?_ rfl | refine Ag_J ?_ rfl))) only [A199, FM m2, vs, hv, hx, or_0, CO, HA, HB, HC, Nat.not_lt_zero, Nat.add_assoc, c_nlt, c_nle, c_neq, c_P, c_cl, c_m1, c_m1', nI_add, pk_mul, reduceIte, Nat.reduceEqDiff, Nat.reduceAdd, Nat.reduceMul, Nat.reduceLeDiff, eq_self, ↓pk_rem, pk_div, c_of, d_le, d_nle, d_lt, d_nlt, d_eq, d_ne]
        · by_cases e2 : 0 < ow H a b
          · have ed : Ed H v a b = true := by unfold Ed; exact decide_eq_true ⟨av, hb, e1, e2⟩
            have me : mk (Ed H v a) (b + 1) = mk (Ed H v a) b ||| 2 ^ b := by simp only [mk, ed, reduceIte]
            refine Ev_e ?_ (nx2 (sI ω 75 (upd (hI ω 75) a (nI (mk (Ed H v a) b ||| 2 ^ b)))) (fin _ (by rw [me])))
            simp (disch := first | omega | (repeat (first | assumption | exact Ag_r | refine Ag_I ?_ rfl | refine Ag_F ?_ rfl | refine Ag_J ?_ rfl))) only [A199, FM m2, vs, hv, hx, e1, owe, orr, CO, HA, HB, HC, Nat.not_lt_zero, Nat.add_assoc, c_nlt, c_nle, c_neq, c_P, c_cl, c_m1, c_m1', nI_add, pk_mul, reduceIte, Nat.reduceEqDiff, Nat.reduceAdd, Nat.reduceMul, Nat.reduceLeDiff, eq_self, ↓pk_rem, pk_div, c_of, d_le, d_nle, d_lt, d_nlt, d_eq, d_ne]
          · have ed : Ed H v a b = false := by unfold Ed; exact decide_eq_false (fun z => e2 z.2.2.2)
            have me : mk (Ed H v a) (b + 1) = mk (Ed H v a) b := by simp only [mk, ed, Bool.false_eq_true, reduceIte]
            refine Ev_e ?_ (nx2 (sI ω 75 (upd (hI ω 75) a (nI (mk (Ed H v a) b)))) (fin _ (by rw [me])))
            simp (disch := first | omega | (repeat (first | assumption | exact Ag_r | refine Ag_I ?_ rfl | refine Ag_F ?_ rfl | refine Ag_J ?_ rfl))) only [A199, FM m2, vs, hv, hx, e1, owe, or_0, CO, HA, HB, HC, Nat.not_lt_zero, Nat.add_assoc, c_nlt, c_nle, c_neq, c_P, c_cl, c_m1, c_m1', nI_add, pk_mul, reduceIte, Nat.reduceEqDiff, Nat.reduceAdd, Nat.reduceMul, Nat.reduceLeDiff, eq_self, ↓pk_rem, pk_div, c_of, d_le, d_nle, d_lt, d_nlt, d_eq, d_ne]
      · rintro ω ⟨g, f, ho, hx⟩
        have qm := Ag_t hq (Qo_m g)
        have m2 := Qm_M qm hM
        have vs := fun (d : Nat) => M_villages' (d := d) hM qm
        rw [mk_e hv8 (fun c hc => by unfold Ed; exact decide_eq_false (fun z => by omega))] at hx
        show Ev (den (d + 2, 199, 27, [.ref 57, .int (nI a), .int (nI v)], [], ω)) _
        rw [a199_27]
        refine Ev_e ?_ (nx (ω, .int (nI v)) ⟨g, f, fun u hu => ?_⟩)
        · simp (disch := first | omega | (repeat (first | assumption | exact Ag_r | refine Ag_I ?_ rfl | refine Ag_F ?_ rfl | refine Ag_J ?_ rfl))) only [A199, FM m2, vs, hv, CO, HA, HB, HC, Nat.not_lt_zero, Nat.add_assoc, c_nlt, c_nle, c_neq, c_P, c_cl, c_m1, c_m1', nI_add, pk_mul, reduceIte, Nat.reduceEqDiff, Nat.reduceAdd, Nat.reduceMul, Nat.reduceLeDiff, eq_self, ↓pk_rem, pk_div, c_of, d_le, d_nle, d_lt, d_nlt, d_eq, d_ne]
        · by_cases z : u = a
          · rw [z]; exact hx
          · exact ho u (by omega)
      · simp only [HA, reduceIte, ua]
        rw [if_neg (by omega)]
        exact ho u hu
      · simp only [HA, reduceIte, ua, mk]
    · have g3 := Qo_t g ga
      have qm := Ag_t hq (Qo_m g3)
      have m2 := Qm_M qm hM
      have vs := fun (d : Nat) => M_villages' (d := d) hM qm
      rw [a199_27]
      refine Ev_e ?_ (nx (sI υ 75 (upd (hI υ 75) a (nI 0)), .int (nI 0)) ⟨g3, ⟨f1, f2⟩, fun u hu => ?_⟩)
      · simp (disch := first | omega | (repeat (first | assumption | exact Ag_r | refine Ag_I ?_ rfl | refine Ag_F ?_ rfl | refine Ag_J ?_ rfl))) only [A199, FM m2, vs, hv, CO, HA, HB, HC, Nat.not_lt_zero, Nat.add_assoc, c_nlt, c_nle, c_neq, c_P, c_cl, c_m1, c_m1', nI_add, pk_mul, reduceIte, Nat.reduceEqDiff, Nat.reduceAdd, Nat.reduceMul, Nat.reduceLeDiff, eq_self, ↓pk_rem, pk_div, c_of, d_le, d_nle, d_lt, d_nlt, d_eq, d_ne]
      · simp only [HA, reduceIte, ua]
        by_cases z : u = a
        · rw [if_pos z, z, mk_0 (fun c => by unfold Ed; exact decide_eq_false (fun z => av z.1))]
        · rw [if_neg z]
          exact ho u (by omega)
  · rintro ⟨υ, l2⟩ ⟨g, ⟨f1, f2⟩, ho⟩
    replace g : Qo τ υ := g
    replace f1 : hF υ 57 40 = .int (nI 0) := f1
    replace f2 : hF υ 57 41 = .int (nI 0) := f2
    replace ho : ∀ u, u < 8 → hI υ 75 u = nI (mk (Ed H v u) 8) := ho
    have qm := Ag_t hq (Qo_m g)
    have m2 := Qm_M qm hM
    show Ev (den (d + 2, 199, 12, [.ref 57, .int (nI 8), l2], [], υ)) _
    rw [a199_12]
    refine Ev_e (o' := den (d + 2, 199, 87, [.ref 57, .int (nI 0), l2], [], υ)) ?_ ?_
    · simp (disch := first | omega | (repeat (first | assumption | exact Ag_r | refine Ag_I ?_ rfl | refine Ag_F ?_ rfl | refine Ag_J ?_ rfl))) only [A199, FM m2, CO, HA, HB, HC, Nat.not_lt_zero, Nat.add_assoc, c_nlt, c_nle, c_neq, c_P, c_cl, c_m1, c_m1', nI_add, pk_mul, reduceIte, Nat.reduceEqDiff, Nat.reduceAdd, Nat.reduceMul, Nat.reduceLeDiff, eq_self, ↓pk_rem, pk_div, c_of, d_le, d_nle, d_lt, d_nlt, d_eq, d_ne]
    refine lp (α := Hp) (h := fun i x => (d + 2, 199, 87, [.ref 57, .int (nI i), l2], [], x)) (I := fun i x => Qo τ x ∧ (∀ u, u < 8 → hI x 75 u = nI (mk (Ed H v u) 8)) ∧ ∃ n m, Bst (fun n m => Cy (Ed H v) m n ∧ m 0 < i) n m ∧ KR x n m) v ?_ ?_ 0 _ (by omega) ⟨g, ho, 0, fun _ => 0, Or.inl ⟨rfl, fun n m z => by omega⟩, f1, f2, fun i hi => absurd hi (by omega)⟩
    · rintro s ω hs ⟨g, ho, n, m, hB, hK⟩ nx
      have qm := Ag_t hq (Qo_m g)
      have m2 := Qm_M qm hM
      have vs := fun (d : Nat) => M_villages' (d := d) hM qm
      show Ev (den (d + 2, 199, 87, [.ref 57, .int (nI s), l2], [], ω)) _
      rw [a199_87]
      simp (disch := first | omega | (repeat (first | assumption | exact Ag_r | refine Ag_I ?_ rfl | refine Ag_F ?_ rfl | refine Ag_J ?_ rfl))) only [a199_88, a199_89, a199_92, a199_95, a199_96, a199_97, FM m2, vs, hv, CO, HA, HB, HC, Nat.not_lt_zero, Nat.add_assoc, c_nlt, c_nle, c_neq, c_P, c_cl, c_m1, c_m1', nI_add, pk_mul, reduceIte, Nat.reduceEqDiff, Nat.reduceAdd, Nat.reduceMul, Nat.reduceLeDiff, eq_self, ↓pk_rem, pk_div, c_of, d_le, d_nle, d_lt, d_nlt, d_eq, d_ne]
      refine Ev_b (M_goRound (d := d) m2 ho (by omega) hB hK) ?_
      rintro _ w ⟨rfl, gw, n', m', hB', hK'⟩
      refine Ev_e ?_ (nx w ⟨Qo_t g (Qwr_o gw), fun u hu => by rw [Ag_i gw 75 rfl]; exact ho u hu, n', m', hB', hK'⟩)
      simp (disch := first | omega | (repeat (first | assumption | exact Ag_r | refine Ag_I ?_ rfl | refine Ag_F ?_ rfl | refine Ag_J ?_ rfl))) only [A199, CO, HA, HB, HC, Nat.not_lt_zero, Nat.add_assoc, c_nlt, c_nle, c_neq, c_P, c_cl, c_m1, c_m1', nI_add, pk_mul, reduceIte, Nat.reduceEqDiff, Nat.reduceAdd, Nat.reduceMul, Nat.reduceLeDiff, eq_self, ↓pk_rem, pk_div, c_of, d_le, d_nle, d_lt, d_nlt, d_eq, d_ne]
    · rintro ω ⟨g, ho, n, m, hB, hK⟩
      have qm := Ag_t hq (Qo_m g)
      have m2 := Qm_M qm hM
      have vs := fun (d : Nat) => M_villages' (d := d) hM qm
      show Ev (den (d + 2, 199, 87, [.ref 57, .int (nI v), l2], [], ω)) _
      rw [a199_87]
      simp (disch := first | omega | (repeat (first | assumption | exact Ag_r | refine Ag_I ?_ rfl | refine Ag_F ?_ rfl | refine Ag_J ?_ rfl))) only [A199, FM m2, vs, hv, CO, HA, HB, HC, Nat.not_lt_zero, Nat.add_assoc, c_nlt, c_nle, c_neq, c_P, c_cl, c_m1, c_m1', nI_add, pk_mul, reduceIte, Nat.reduceEqDiff, Nat.reduceAdd, Nat.reduceMul, Nat.reduceLeDiff, eq_self, ↓pk_rem, pk_div, c_of, d_le, d_nle, d_lt, d_nlt, d_eq, d_ne]
      refine Ev_s ⟨rfl, g, n, m, Bst_X (fun n m => ⟨fun z => z.1, fun z => ⟨z, ?_⟩⟩) hB, hK⟩
      have := z.1
      exact (Ed_v (z.2.2.1.2.2.2 0 (by omega))).1
theorem P_ring {ρ : Hp} (hC : FxC σ) (hM : FxM ρ) (sC : StC σ v H) (sM : StM ρ v H) (hw : Wf v H) (x : Int32) : ∃ r, Ev (den (d + 10, 103, 0, [.ref 0, .int x], [], σ)) (fun a τ => a = some (.int r) ∧ Qc σ τ) ∧ Ev (den (d + 10, 202, 0, [.ref 57, .int x], [], ρ)) (fun a τ => a = some (.int r) ∧ Qm ρ τ) := by
  obtain ⟨_, τ, e1, rfl, g1, n, y, r1, f1, f2⟩ := C_find (d := d) hC sC hw
  have l0 : Qm ρ (sF ρ 57 0 (.int (nI 0))) := Ag_F Ag_r rfl
  obtain ⟨_, υ0, e2, rfl, g2, hl⟩ := M_load (d := d + 7) hM sM hw l0
  obtain ⟨_, υ, e3, rfl, g3, n', m', r2, k1, -, k3⟩ := M_findRing (d := d + 7) hM sM hw g2 hl
  obtain ⟨rfl, n8, hy⟩ := Rg_u r1 r2
  have c2 := Qfr_C g1 hC
  have gm := Ag_t g2 (Qo_m g3)
  have m2 := Qm_M gm hM
  have m0 := Qm_M g2 hM
  by_cases n0 : n = 0
  · subst n0
    refine ⟨-1, Ev_e (o' := some (some (.int (-1)), τ)) ?_ (Ev_s ⟨rfl, Qfr_c g1⟩), Ev_e (o' := some (some (.int (-1)), υ)) ?_ (Ev_s ⟨rfl, gm⟩)⟩
    · by_cases q : x = -1
      · subst q
        simp (disch := first | omega | (repeat (first | assumption | exact Ag_r | refine Ag_I ?_ rfl | refine Ag_F ?_ rfl | refine Ag_J ?_ rfl))) only [A103, FC hC, e1, FC c2, f1, CO, HA, HB, HC, Nat.not_lt_zero, Nat.add_assoc, c_nlt, c_nle, c_neq, c_P, c_cl, c_m1, c_m1', nI_add, pk_mul, reduceIte, Nat.reduceEqDiff, Nat.reduceAdd, Nat.reduceMul, Nat.reduceLeDiff, eq_self, ↓pk_rem, pk_div, c_of, d_le, d_nle, d_lt, d_nlt, d_eq, d_ne]
      · by_cases q2 : x < nI 0
        · simp (disch := first | omega | (repeat (first | assumption | exact Ag_r | refine Ag_I ?_ rfl | refine Ag_F ?_ rfl | refine Ag_J ?_ rfl))) only [A103, FC hC, e1, FC c2, f1, q, q2, CO, HA, HB, HC, Nat.not_lt_zero, Nat.add_assoc, c_nlt, c_nle, c_neq, c_P, c_cl, c_m1, c_m1', nI_add, pk_mul, reduceIte, Nat.reduceEqDiff, Nat.reduceAdd, Nat.reduceMul, Nat.reduceLeDiff, eq_self, ↓pk_rem, pk_div, c_of, d_le, d_nle, d_lt, d_nlt, d_eq, d_ne]
        · have q3 : nI 0 ≤ x := Int32.not_lt.mp q2
          simp (disch := first | omega | (repeat (first | assumption | exact Ag_r | refine Ag_I ?_ rfl | refine Ag_F ?_ rfl | refine Ag_J ?_ rfl))) only [A103, FC hC, e1, FC c2, f1, q, q2, q3, CO, HA, HB, HC, Nat.not_lt_zero, Nat.add_assoc, c_nlt, c_nle, c_neq, c_P, c_cl, c_m1, c_m1', nI_add, pk_mul, reduceIte, Nat.reduceEqDiff, Nat.reduceAdd, Nat.reduceMul, Nat.reduceLeDiff, eq_self, ↓pk_rem, pk_div, c_of, d_le, d_nle, d_lt, d_nlt, d_eq, d_ne]
    · simp (disch := first | omega | (repeat (first | assumption | exact Ag_r | refine Ag_I ?_ rfl | refine Ag_F ?_ rfl | refine Ag_J ?_ rfl))) only [A202, FM hM, e2, FM m0, e3, FM m2, k1, CO, HA, HB, HC, Nat.not_lt_zero, Nat.add_assoc, c_nlt, c_nle, c_neq, c_P, c_cl, c_m1, c_m1', nI_add, pk_mul, reduceIte, Nat.reduceEqDiff, Nat.reduceAdd, Nat.reduceMul, Nat.reduceLeDiff, eq_self, ↓pk_rem, pk_div, c_of, d_le, d_nle, d_lt, d_nlt, d_eq, d_ne]
  · by_cases q : x = -1
    · subst q
      refine ⟨nI n, Ev_e (o' := some (some (.int (nI n)), τ)) ?_ (Ev_s ⟨rfl, Qfr_c g1⟩), Ev_e (o' := some (some (.int (nI n)), υ)) ?_ (Ev_s ⟨rfl, gm⟩)⟩
      · simp (disch := first | omega | (repeat (first | assumption | exact Ag_r | refine Ag_I ?_ rfl | refine Ag_F ?_ rfl | refine Ag_J ?_ rfl))) only [A103, FC hC, e1, FC c2, f1, CO, HA, HB, HC, Nat.not_lt_zero, Nat.add_assoc, c_nlt, c_nle, c_neq, c_P, c_cl, c_m1, c_m1', nI_add, pk_mul, reduceIte, Nat.reduceEqDiff, Nat.reduceAdd, Nat.reduceMul, Nat.reduceLeDiff, eq_self, ↓pk_rem, pk_div, c_of, d_le, d_nle, d_lt, d_nlt, d_eq, d_ne]
      · simp (disch := first | omega | (repeat (first | assumption | exact Ag_r | refine Ag_I ?_ rfl | refine Ag_F ?_ rfl | refine Ag_J ?_ rfl))) only [A202, FM hM, e2, FM m0, e3, FM m2, k1, CO, HA, HB, HC, Nat.not_lt_zero, Nat.add_assoc, c_nlt, c_nle, c_neq, c_P, c_cl, c_m1, c_m1', nI_add, pk_mul, reduceIte, Nat.reduceEqDiff, Nat.reduceAdd, Nat.reduceMul, Nat.reduceLeDiff, eq_self, ↓pk_rem, pk_div, c_of, d_le, d_nle, d_lt, d_nlt, d_eq, d_ne]
    · by_cases q2 : nI 0 ≤ x ∧ ¬ nI n ≤ x
      · obtain ⟨k, hk, rfl⟩ := nI_ex q2.1 q2.2 (by omega)
        obtain ⟨y1, y2⟩ := hy k hk
        have a1 := f2 k hk
        have a2 := k3 k hk
        rw [← y1] at a2
        refine ⟨nI (y k), Ev_e (o' := some (some (.int (nI (y k))), τ)) ?_ (Ev_s ⟨rfl, Qfr_c g1⟩), Ev_e (o' := some (some (.int (nI (y k))), υ)) ?_ (Ev_s ⟨rfl, gm⟩)⟩
        · simp (disch := first | omega | (repeat (first | assumption | exact Ag_r | refine Ag_I ?_ rfl | refine Ag_F ?_ rfl | refine Ag_J ?_ rfl))) only [A103, FC hC, e1, FC c2, f1, q, a1, CO, HA, HB, HC, Nat.not_lt_zero, Nat.add_assoc, c_nlt, c_nle, c_neq, c_P, c_cl, c_m1, c_m1', nI_add, pk_mul, reduceIte, Nat.reduceEqDiff, Nat.reduceAdd, Nat.reduceMul, Nat.reduceLeDiff, eq_self, ↓pk_rem, pk_div, c_of, d_le, d_nle, d_lt, d_nlt, d_eq, d_ne]
        · simp (disch := first | omega | (repeat (first | assumption | exact Ag_r | refine Ag_I ?_ rfl | refine Ag_F ?_ rfl | refine Ag_J ?_ rfl))) only [A202, FM hM, e2, FM m0, e3, FM m2, k1, q, M_in, l_lo, l_hi1, q2, a2, CO, HA, HB, HC, Nat.not_lt_zero, Nat.add_assoc, c_nlt, c_nle, c_neq, c_P, c_cl, c_m1, c_m1', nI_add, pk_mul, reduceIte, Nat.reduceEqDiff, Nat.reduceAdd, Nat.reduceMul, Nat.reduceLeDiff, eq_self, ↓pk_rem, pk_div, c_of, d_le, d_nle, d_lt, d_nlt, d_eq, d_ne]
      · refine ⟨-1, Ev_e (o' := some (some (.int (-1)), τ)) ?_ (Ev_s ⟨rfl, Qfr_c g1⟩), Ev_e (o' := some (some (.int (-1)), υ)) ?_ (Ev_s ⟨rfl, gm⟩)⟩
        · by_cases q3 : nI 0 ≤ x
          · have q4 : nI n ≤ x := Classical.byContradiction (fun z => q2 ⟨q3, z⟩)
            have q5 : ¬ x < nI 0 := Int32.not_lt.mpr q3
            simp (disch := first | omega | (repeat (first | assumption | exact Ag_r | refine Ag_I ?_ rfl | refine Ag_F ?_ rfl | refine Ag_J ?_ rfl))) only [A103, FC hC, e1, FC c2, f1, q, q3, q4, q5, CO, HA, HB, HC, Nat.not_lt_zero, Nat.add_assoc, c_nlt, c_nle, c_neq, c_P, c_cl, c_m1, c_m1', nI_add, pk_mul, reduceIte, Nat.reduceEqDiff, Nat.reduceAdd, Nat.reduceMul, Nat.reduceLeDiff, eq_self, ↓pk_rem, pk_div, c_of, d_le, d_nle, d_lt, d_nlt, d_eq, d_ne]
          · have q5 : x < nI 0 := Int32.not_le.mp q3
            simp (disch := first | omega | (repeat (first | assumption | exact Ag_r | refine Ag_I ?_ rfl | refine Ag_F ?_ rfl | refine Ag_J ?_ rfl))) only [A103, FC hC, e1, FC c2, f1, q, q3, q5, CO, HA, HB, HC, Nat.not_lt_zero, Nat.add_assoc, c_nlt, c_nle, c_neq, c_P, c_cl, c_m1, c_m1', nI_add, pk_mul, reduceIte, Nat.reduceEqDiff, Nat.reduceAdd, Nat.reduceMul, Nat.reduceLeDiff, eq_self, ↓pk_rem, pk_div, c_of, d_le, d_nle, d_lt, d_nlt, d_eq, d_ne]
        · simp (disch := first | omega | (repeat (first | assumption | exact Ag_r | refine Ag_I ?_ rfl | refine Ag_F ?_ rfl | refine Ag_J ?_ rfl))) only [A202, FM hM, e2, FM m0, e3, FM m2, k1, q, M_in, l_lo, l_hi1, q2, CO, HA, HB, HC, Nat.not_lt_zero, Nat.add_assoc, c_nlt, c_nle, c_neq, c_P, c_cl, c_m1, c_m1', nI_add, pk_mul, reduceIte, Nat.reduceEqDiff, Nat.reduceAdd, Nat.reduceMul, Nat.reduceLeDiff, eq_self, ↓pk_rem, pk_div, c_of, d_le, d_nle, d_lt, d_nlt, d_eq, d_ne]
end
section
variable {σ : Hp} {R : AllT}
theorem K_ring (hC : RC σ R) (hM : RM σ R) (hW : RW R) (x : Int32) : Pr (fun σ => (499, 103, 0, [.ref 0, .int x], [], σ)) (fun σ => (499, 202, 0, [.ref 57, .int x], [], σ)) σ (fun υ => ∃ R', Ok σ υ R') := by
  obtain ⟨⟨v, H, fp, nl, fc, rn, ⟨nd, dv, dd, de⟩, ⟨nu, uc, uh⟩, lw⟩, im, ⟨tl, tp⟩, ⟨st, fg, ft⟩, rf, ⟨yv, yK⟩⟩ := R
  refine Pq hC hM hW (fun ρ hρ => ?_)
  obtain ⟨c1, c2, c3, c4, c5, c6, c7⟩ := RC_g hC hW
  obtain ⟨m1, m2, m3, m4, m5, m6, m7⟩ := RM_g hρ hW
  exact P_ring (d := 489) c1 m1 c2 m2 hW.1.1 x
end
