/-! ring: find, the loops -/
theorem Ed_v {H : Nat → Nat} {v a b : Nat} (h : Ed H v a b = true) : a < v ∧ b < v := by
  unfold Ed at h
  have := of_decide_eq_true h
  exact ⟨this.1, this.2.1⟩
theorem Qfr_t {a b c : Hp} (g : Qfr a b) (h : Qfr b c) : Qfr a c := Ag_t g h
section
variable {d v : Nat} {H : Nat → Nat} {σ : Hp}
theorem StC_fr {τ : Hp} (g : Qfr σ τ) (h : StC σ v H) : StC τ v H := ⟨by rw [Ag_f g 1 0 rfl]; exact h.1, by rw [Ag_i g 2 rfl]; exact h.2⟩
theorem C_find (hC : FxC σ) (sC : StC σ v H) (hw : Wf v H) : Ev (den (d + 9, 7, 0, [.ref 28, .ref 1, .float 0, .float 0], [], σ)) (fun a υ => a = none ∧ Qfr σ υ ∧ ∃ n y, Rg (Ed H v) n y ∧ hF υ 28 1 = .int (nI n) ∧ ∀ i, i < n → hI υ 29 i = nI (y i)) := by
  have hv8 := hw.2.1
  have hv1 := hw.1
  obtain ⟨b1, b2, b3⟩ := bt9 v (by omega)
  have cyv : ∀ y n, Cy (Ed H v) y n → bs y n < 2 ^ v ∧ n ≤ v := fun y n h => Cy_v hv8 (fun _ _ => Ed_v) h
  have hclose := fun (few set : Nat) (τ : Hp) => C_closes (d := d) (v := v) (E := Ed H v) (τ := τ) (few := few) (set := set) hv8 (fun _ _ => Ed_v)
  generalize 2 ^ v = W at b1 b2 b3 cyv hclose
  refine Ev_e (o' := den (d + 9, 7, 2, [.ref 28, .ref 1, .int (nI 0), .float 0], [], σ)) ?_ ?_
  · simp (disch := first | omega | (repeat (first | assumption | exact Ag_r | refine Ag_I ?_ rfl | refine Ag_F ?_ rfl | refine Ag_J ?_ rfl))) only [A7, CO, HA, HB, HC, Nat.not_lt_zero, Nat.add_assoc, c_nlt, c_nle, c_neq, c_P, c_cl, c_m1, c_m1', nI_add, pk_mul, reduceIte, Nat.reduceEqDiff, Nat.reduceAdd, Nat.reduceMul, Nat.reduceLeDiff, eq_self, ↓pk_rem, pk_div, c_of, d_le, d_nle, d_lt, d_nlt, d_eq, d_ne]
  refine lp (α := Hp) (h := fun i υ => (d + 9, 7, 2, [.ref 28, .ref 1, .int (nI i), .float 0], [], υ)) (I := fun i υ => Qfr σ υ ∧ ∀ u, u < i → hI υ 30 u = nI (mk (Ed H v u) 8)) v ?_ ?_ 0 σ (by omega) ⟨Ag_r, fun u hu => absurd hu (by omega)⟩
  · rintro i υ hi ⟨g, hc⟩ nx
    have c2 := Qfr_C g hC
    have s2 := StC_fr g sC
    show Ev (den (d + 9, 7, 2, [.ref 28, .ref 1, .int (nI i), .float 0], [], υ)) _
    rw [a7_2]
    have ga : Qfr υ (sI υ 30 (upd (hI υ 30) i (nI (mk (Ed H v i) 8)))) := Ag_I Ag_r rfl
    refine Ev_e ?_ (nx (sI υ 30 (upd (hI υ 30) i (nI (mk (Ed H v i) 8)))) ⟨Qfr_t g ga, fun u hu => ?_⟩)
    · simp (disch := first | omega | (repeat (first | assumption | exact Ag_r | refine Ag_I ?_ rfl | refine Ag_F ?_ rfl | refine Ag_J ?_ rfl))) only [A7, FC c2, s2.1, C_cred (d := d + 8) c2 s2 hw hi, CO, HA, HB, HC, Nat.not_lt_zero, Nat.add_assoc, c_nlt, c_nle, c_neq, c_P, c_cl, c_m1, c_m1', nI_add, pk_mul, reduceIte, Nat.reduceEqDiff, Nat.reduceAdd, Nat.reduceMul, Nat.reduceLeDiff, eq_self, ↓pk_rem, pk_div, c_of, d_le, d_nle, d_lt, d_nlt, d_eq, d_ne]
    · simp only [HA, reduceIte, ua]
      by_cases z : u = i
      · rw [if_pos z, z]
      · rw [if_neg z]; exact hc u (by omega)
  · rintro υ ⟨g, hc⟩
    have c2 := Qfr_C g hC
    have s2 := StC_fr g sC
    show Ev (den (d + 9, 7, 2, [.ref 28, .ref 1, .int (nI v), .float 0], [], υ)) _
    rw [a7_2]
    refine Ev_e (o' := den (d + 9, 7, 29, [.ref 28, .ref 1, .int (nI 2), .float 0], [], υ)) ?_ ?_
    · simp (disch := first | omega | (repeat (first | assumption | exact Ag_r | refine Ag_I ?_ rfl | refine Ag_F ?_ rfl | refine Ag_J ?_ rfl))) only [A7, FC c2, s2.1, CO, HA, HB, HC, Nat.not_lt_zero, Nat.add_assoc, c_nlt, c_nle, c_neq, c_P, c_cl, c_m1, c_m1', nI_add, pk_mul, reduceIte, Nat.reduceEqDiff, Nat.reduceAdd, Nat.reduceMul, Nat.reduceLeDiff, eq_self, ↓pk_rem, pk_div, c_of, d_le, d_nle, d_lt, d_nlt, d_eq, d_ne]
    refine lp (α := Hp × Value) (h := fun i x => (d + 9, 7, 29, [.ref 28, .ref 1, .int (nI i), x.2], [], x.1)) (I := fun i x => 2 ≤ i ∧ Qfr σ x.1 ∧ Crd x.1 (Ed H v) v ∧ ∀ n y, Cy (Ed H v) y n → i ≤ n) (v + 1) ?_ ?_ 2 (υ, .float 0) (by omega) ⟨by omega, g, hc, fun n y h => h.1⟩
    · rintro few ⟨υ, l3⟩ hf ⟨f2, g, hc, hall⟩ nx
      have c2 := Qfr_C g hC
      have s2 := StC_fr g sC
      replace hf : few < v + 1 := hf
      replace g : Qfr σ υ := g
      replace hc : Crd υ (Ed H v) v := hc
      show Ev (den (d + 9, 7, 29, [.ref 28, .ref 1, .int (nI few), l3], [], υ)) _
      rw [a7_29]
      have ga : Qfr υ (sF υ 28 1 (.int (nI few))) := Ag_F Ag_r rfl
      refine Ev_e (o' := den (d + 9, 7, 44, [.ref 28, .ref 1, .int (nI few), .int (nI 1)], [], sF υ 28 1 (.int (nI few)))) ?_ ?_
      · simp (disch := first | omega | (repeat (first | assumption | exact Ag_r | refine Ag_I ?_ rfl | refine Ag_F ?_ rfl | refine Ag_J ?_ rfl))) only [A7, FC c2, s2.1, CO, HA, HB, HC, Nat.not_lt_zero, Nat.add_assoc, c_nlt, c_nle, c_neq, c_P, c_cl, c_m1, c_m1', nI_add, pk_mul, reduceIte, Nat.reduceEqDiff, Nat.reduceAdd, Nat.reduceMul, Nat.reduceLeDiff, eq_self, ↓pk_rem, pk_div, c_of, d_le, d_nle, d_lt, d_nlt, d_eq, d_ne]
      refine lp (α := Hp) (h := fun i υ => (d + 9, 7, 44, [.ref 28, .ref 1, .int (nI few), .int (nI i)], [], υ)) (I := fun i υ => 1 ≤ i ∧ Qfr σ υ ∧ Crd υ (Ed H v) v ∧ hF υ 28 1 = .int (nI few) ∧ ∀ y, Cy (Ed H v) y few → i ≤ bs y few) W ?_ ?_ 1 _ (by omega) ⟨by omega, Qfr_t g ga, hc, by simp only [HA, reduceIte, and_self], fun y h => Cy_0 h⟩
      · rintro set τ hs ⟨h0, g, hc, hz, hy⟩ nx2
        have c2 := Qfr_C g hC
        have s2 := StC_fr g sC
        show Ev (den (d + 9, 7, 44, [.ref 28, .ref 1, .int (nI few), .int (nI set)], [], τ)) _
        rw [a7_44]
        have jb := fun (d : Nat) (σ : Hp) => J_bc (d := d) (σ := σ) (t := set) (by omega)
        have p8 : pop 8 set ≤ 8 := by unfold pop; exact cB_le _ _
        by_cases q : pop 8 set = few
        · simp (disch := first | omega | (repeat (first | assumption | exact Ag_r | refine Ag_I ?_ rfl | refine Ag_F ?_ rfl | refine Ag_J ?_ rfl))) only [a7_45, a7_46, a7_47, a7_50, a7_51, a7_54, a7_55, a7_58, a7_59, a7_62, a7_63, a7_64, FC c2, s2.1, b1, jb, q, CO, HA, HB, HC, Nat.not_lt_zero, Nat.add_assoc, c_nlt, c_nle, c_neq, c_P, c_cl, c_m1, c_m1', nI_add, pk_mul, reduceIte, Nat.reduceEqDiff, Nat.reduceAdd, Nat.reduceMul, Nat.reduceLeDiff, eq_self, ↓pk_rem, pk_div, c_of, d_le, d_nle, d_lt, d_nlt, d_eq, d_ne]
          refine Ev_b (hclose few set τ f2 (by omega) (by omega) hs q c2 hz hc) ?_
          rintro _ w ⟨gw, ⟨rfl, w1⟩ | ⟨rfl, y, w1, w2, w3, w4⟩⟩
          · have gt := Qfr_t g (Qxe_f gw)
            refine Ev_e ?_ (nx2 w ⟨by omega, gt, fun u hu => by rw [Ag_i gw 30 rfl]; exact hc u hu, by rw [Ag_f gw 28 1 rfl]; exact hz, fun y h => by have := hy y h; have := w1 y h; omega⟩)
            simp (disch := first | omega | (repeat (first | assumption | exact Ag_r | refine Ag_I ?_ rfl | refine Ag_F ?_ rfl | refine Ag_J ?_ rfl))) only [A7, CO, HA, HB, HC, Nat.not_lt_zero, Nat.add_assoc, c_nlt, c_nle, c_neq, c_P, c_cl, c_m1, c_m1', nI_add, pk_mul, reduceIte, Nat.reduceEqDiff, Nat.reduceAdd, Nat.reduceMul, Nat.reduceLeDiff, eq_self, ↓pk_rem, pk_div, c_of, d_le, d_nle, d_lt, d_nlt, d_eq, d_ne]
          · have gt := Qfr_t g (Qxe_f gw)
            simp (disch := first | omega | (repeat (first | assumption | exact Ag_r | refine Ag_I ?_ rfl | refine Ag_F ?_ rfl | refine Ag_J ?_ rfl))) only [A7, CO, HA, HB, HC, Nat.not_lt_zero, Nat.add_assoc, c_nlt, c_nle, c_neq, c_P, c_cl, c_m1, c_m1', nI_add, pk_mul, reduceIte, Nat.reduceEqDiff, Nat.reduceAdd, Nat.reduceMul, Nat.reduceLeDiff, eq_self, ↓pk_rem, pk_div, c_of, d_le, d_nle, d_lt, d_nlt, d_eq, d_ne]
            refine Ev_s ⟨rfl, gt, few, y, Or.inr ⟨w1, fun n' y' h => ?_⟩, by rw [Ag_f gw 28 1 rfl]; exact hz, w3⟩
            have := hall n' y' h
            unfold Bt
            by_cases e : few = n'
            · subst e
              have := hy y' h
              by_cases e2 : bs y' few = set
              · exact Or.inr ⟨rfl, Or.inr ⟨by rw [w2, e2], w4 y' h e2⟩⟩
              · exact Or.inr ⟨rfl, Or.inl (by omega)⟩
            · exact Or.inl (by omega)
        · refine Ev_e ?_ (nx2 τ ⟨by omega, g, hc, hz, fun y h => ?_⟩)
          · simp (disch := first | omega | (repeat (first | assumption | exact Ag_r | refine Ag_I ?_ rfl | refine Ag_F ?_ rfl | refine Ag_J ?_ rfl))) only [A7, FC c2, s2.1, b1, jb, q, CO, HA, HB, HC, Nat.not_lt_zero, Nat.add_assoc, c_nlt, c_nle, c_neq, c_P, c_cl, c_m1, c_m1', nI_add, pk_mul, reduceIte, Nat.reduceEqDiff, Nat.reduceAdd, Nat.reduceMul, Nat.reduceLeDiff, eq_self, ↓pk_rem, pk_div, c_of, d_le, d_nle, d_lt, d_nlt, d_eq, d_ne]
          · have := hy y h
            have e : bs y few ≠ set := fun e => q (by rw [← e]; exact pop_bs h.2.2.1)
            omega
      · rintro τ ⟨h0, g, hc, hz, hy⟩
        have c2 := Qfr_C g hC
        have s2 := StC_fr g sC
        show Ev (den (d + 9, 7, 44, [.ref 28, .ref 1, .int (nI few), .int (nI W)], [], τ)) _
        rw [a7_44]
        refine Ev_e ?_ (nx (τ, .int (nI W)) ⟨by omega, g, hc, fun n y h => ?_⟩)
        · simp (disch := first | omega | (repeat (first | assumption | exact Ag_r | refine Ag_I ?_ rfl | refine Ag_F ?_ rfl | refine Ag_J ?_ rfl))) only [A7, FC c2, s2.1, b1, CO, HA, HB, HC, Nat.not_lt_zero, Nat.add_assoc, c_nlt, c_nle, c_neq, c_P, c_cl, c_m1, c_m1', nI_add, pk_mul, reduceIte, Nat.reduceEqDiff, Nat.reduceAdd, Nat.reduceMul, Nat.reduceLeDiff, eq_self, ↓pk_rem, pk_div, c_of, d_le, d_nle, d_lt, d_nlt, d_eq, d_ne]
        · have a1 := hall n y h
          have a2 : n ≠ few := fun e => by subst e; have := hy y h; have := (cyv y n h).1; omega
          omega
    · rintro ⟨υ, l3⟩ ⟨f2, g, hc, hall⟩
      have c2 := Qfr_C g hC
      have s2 := StC_fr g sC
      replace g : Qfr σ υ := g
      show Ev (den (d + 9, 7, 29, [.ref 28, .ref 1, .int (nI (v + 1)), l3], [], υ)) _
      rw [a7_29]
      simp (disch := first | omega | (repeat (first | assumption | exact Ag_r | refine Ag_I ?_ rfl | refine Ag_F ?_ rfl | refine Ag_J ?_ rfl))) only [A7, FC c2, s2.1, CO, HA, HB, HC, Nat.not_lt_zero, Nat.add_assoc, c_nlt, c_nle, c_neq, c_P, c_cl, c_m1, c_m1', nI_add, pk_mul, reduceIte, Nat.reduceEqDiff, Nat.reduceAdd, Nat.reduceMul, Nat.reduceLeDiff, eq_self, ↓pk_rem, pk_div, c_of, d_le, d_nle, d_lt, d_nlt, d_eq, d_ne]
      refine Ev_s ⟨rfl, Qfr_t g (Ag_F Ag_r rfl), 0, fun _ => 0, Or.inl ⟨rfl, fun n y h => ?_⟩, by simp only [HA, reduceIte, and_self], fun i hi => absurd hi (by omega)⟩
      have := hall n y h
      have := (cyv y n h).2
      omega
end
