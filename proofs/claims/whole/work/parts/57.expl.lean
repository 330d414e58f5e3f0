/-! forged, explains -/
def X2 : Type := Nat × Int32
def xin (p : Nat → Nat → Bool) (c : Nat) (x : Nat × Int32) : Nat → Nat × Int32
  | 0 => x
  | t + 1 => if p c t = true then ((xin p c x t).1 + 1, if (xin p c x t).1 = 0 then nI (8 * c + t) else (xin p c x t).2) else xin p c x t
def xou (p : Nat → Nat → Bool) (v : Nat) : Nat → Nat × Int32
  | 0 => (0, -1)
  | c + 1 => xin p c (xou p v c) v
def xok (B : Nat) (x : Nat × Int32) : Prop := x.1 ≤ B ∧ ((x.1 = 0 ∧ x.2 = -1) ∨ (1 ≤ x.1 ∧ ∃ j, j < 2000 ∧ x.2 = nI j))
theorem xin_ok {p : Nat → Nat → Bool} {c B : Nat} {x : Nat × Int32} (hc : c < 224) (h : xok B x) : ∀ t, t ≤ 8 → xok (B + t) (xin p c x t)
  | 0, _ => h
  | t + 1, ht => by
    have ih := xin_ok (p := p) hc h t (by omega)
    simp only [xin]
    by_cases z : p c t = true
    · rw [if_pos z]
      refine ⟨by have := ih.1; show (xin p c x t).1 + 1 ≤ _; omega, Or.inr ⟨by show 1 ≤ (xin p c x t).1 + 1; omega, ?_⟩⟩
      rcases ih.2 with ⟨a, b⟩ | ⟨a, j, hj, b⟩
      · exact ⟨8 * c + t, by omega, by show (if (xin p c x t).1 = 0 then nI (8 * c + t) else (xin p c x t).2) = _; rw [if_pos a]⟩
      · exact ⟨j, hj, by show (if (xin p c x t).1 = 0 then nI (8 * c + t) else (xin p c x t).2) = _; rw [if_neg (by omega)]; exact b⟩
    · rw [if_neg z]
      exact ⟨by have := ih.1; omega, ih.2⟩
theorem xou_ok {p : Nat → Nat → Bool} {v : Nat} (hv : v ≤ 8) : ∀ c, c ≤ 224 → xok (8 * c) (xou p v c)
  | 0, _ => ⟨Nat.le_refl _, Or.inl ⟨rfl, rfl⟩⟩
  | c + 1, hc => by
    have ih := xou_ok (p := p) hv c (by omega)
    have := xin_ok (p := p) (show c < 224 by omega) ih v hv
    exact ⟨by have := this.1; show (xin p c (xou p v c) v).1 ≤ _; omega, this.2⟩
/-- does this loan explain? -/
def rgB (H : Nat → Nat) (v nd : Nat) (dv dd de : Nat → Nat) (c t : Nat) : Bool := !decide (H c = t) && (fnd (fun k => !soB (upN H c t) v dv dd de k) nd).isNone
section
variable {d v nd : Nat} {H dv dd de : Nat → Nat} {σ ρ τ : Hp}
theorem P_forged (hC : FxC σ) (hM : FxM ρ) (sC : StC σ v H) (sM : StM ρ v H) (hw : Wf v H) (dC : DeC σ nd dv dd de) (dM : DeM ρ nd dv dd de) (dW : DeW v nd dv dd de) (x : Int32) : ∃ r, Ev (den (d + 4, 111, 0, [.ref 0, .int x, .float 0, .float 0], [], σ)) (fun a τ => a = some (.int r) ∧ Qc σ τ) ∧ Ev (den (d + 4, 216, 0, [.ref 57, .int x, .float 0, .float 0], [], ρ)) (fun a τ => a = some (.int r) ∧ Qm ρ τ) := by
  have hv8 := hw.2.1
  have n10 := dW.1
  have hH : ∀ c, c < 224 → H c < 8 := fun c hc => Wf_8 hw hc
  generalize bdef : (fun k => !soB H v dv dd de k) = b
  have bk : ∀ k, b k = !soB H v dv dd de k := fun k => by rw [← bdef]
  refine ⟨match fnd (fun k => b k && decide (nI (cB b k) = x)) nd with
    | some k => nI k
    | none => if x = -1 then nI (cB b nd) else -1, ?_, ?_⟩
  · simp (disch := first | omega | (repeat (first | assumption | exact Ag_r | refine Ag_I ?_ rfl | refine Ag_F ?_ rfl | refine Ag_J ?_ rfl))) only [A111, FC hC, CO, HA, HB, HC, Nat.not_lt_zero, Nat.add_assoc, c_nlt, c_nle, c_neq, c_P, c_cl, c_m1, c_m1', nI_add, pk_mul, reduceIte, Nat.reduceEqDiff, Nat.reduceAdd, Nat.reduceMul, Nat.reduceLeDiff, eq_self, ↓pk_rem, pk_div, c_of, d_le, d_nle, d_lt, d_nlt, d_eq, d_ne]
    refine Ev_b (C_drawUp hC sC hw (by repeat (first | assumption | exact Ag_r | refine Ag_I ?_ rfl | refine Ag_F ?_ rfl | refine Ag_J ?_ rfl))) ?_
    rintro _ τ ⟨rfl, hq, hc⟩
    have h' := Qc_C hq hC
    simp (disch := first | omega | (repeat (first | assumption | exact Ag_r | refine Ag_I ?_ rfl | refine Ag_F ?_ rfl | refine Ag_J ?_ rfl))) only [A111, CO, HA, HB, HC, Nat.not_lt_zero, Nat.add_assoc, c_nlt, c_nle, c_neq, c_P, c_cl, c_m1, c_m1', nI_add, pk_mul, reduceIte, Nat.reduceEqDiff, Nat.reduceAdd, Nat.reduceMul, Nat.reduceLeDiff, eq_self, ↓pk_rem, pk_div, c_of, d_le, d_nle, d_lt, d_nlt, d_eq, d_ne]
    refine lp (α := Unit) (h := fun k _ => (d + 4, 111, 15, [.ref 0, .int x, .int (nI (cB b k)), .int (nI k)], [], τ)) (I := fun k _ => ∀ j, j < k → (b j && decide (nI (cB b j) = x)) = false) nd ?_ ?_ 0 () (Nat.zero_le _) (fun j hj => absurd hj (Nat.not_lt_zero j))
    · intro k _ hk no nx
      have d8 : hF τ 8 3 = .int (nI nd) := by rw [Ag_f hq 8 3 rfl]; exact dC.1
      have so := C_isSo0 (d := d + 2) hC hw dC dW hk hq hc
      have cb := cB_le b k
      show Ev (den (d + 4, 111, 15, [.ref 0, .int x, .int (nI (cB b k)), .int (nI k)], [], τ)) _
      rw [a111_15]
      by_cases z : soB H v dv dd de k = true
      · rw [if_pos z] at so
        have bf : b k = false := by rw [bk, z]; rfl
        refine Ev_e ?_ (nx () (fun j hj => by
          by_cases y : j = k
          · rw [y, bf]; rfl
          · exact no j (by omega)))
        rw [cB_n bf]
        simp (disch := first | omega | (repeat (first | assumption | exact Ag_r | refine Ag_I ?_ rfl | refine Ag_F ?_ rfl | refine Ag_J ?_ rfl))) only [A111, FC h', d8, so, CO, HA, HB, HC, Nat.not_lt_zero, Nat.add_assoc, c_nlt, c_nle, c_neq, c_P, c_cl, c_m1, c_m1', nI_add, pk_mul, reduceIte, Nat.reduceEqDiff, Nat.reduceAdd, Nat.reduceMul, Nat.reduceLeDiff, eq_self, ↓pk_rem, pk_div, c_of, d_le, d_nle, d_lt, d_nlt, d_eq, d_ne]
      · rw [if_neg z] at so
        have bf : b k = true := by rw [bk]; simpa using z
        by_cases y : nI (cB b k) = x
        · rw [fnd_some hk (by rw [bf]; simp [y]) no]
          simp (disch := first | omega | (repeat (first | assumption | exact Ag_r | refine Ag_I ?_ rfl | refine Ag_F ?_ rfl | refine Ag_J ?_ rfl))) only [A111, FC h', d8, so, y, CO, HA, HB, HC, Nat.not_lt_zero, Nat.add_assoc, c_nlt, c_nle, c_neq, c_P, c_cl, c_m1, c_m1', nI_add, pk_mul, reduceIte, Nat.reduceEqDiff, Nat.reduceAdd, Nat.reduceMul, Nat.reduceLeDiff, eq_self, ↓pk_rem, pk_div, c_of, d_le, d_nle, d_lt, d_nlt, d_eq, d_ne]
          exact Ev_s ⟨rfl, hq⟩
        · refine Ev_e ?_ (nx () (fun j hj => by
            by_cases y2 : j = k
            · rw [y2, bf]; simp [y]
            · exact no j (by omega)))
          rw [cB_y bf]
          simp (disch := first | omega | (repeat (first | assumption | exact Ag_r | refine Ag_I ?_ rfl | refine Ag_F ?_ rfl | refine Ag_J ?_ rfl))) only [A111, FC h', d8, so, y, CO, HA, HB, HC, Nat.not_lt_zero, Nat.add_assoc, c_nlt, c_nle, c_neq, c_P, c_cl, c_m1, c_m1', nI_add, pk_mul, reduceIte, Nat.reduceEqDiff, Nat.reduceAdd, Nat.reduceMul, Nat.reduceLeDiff, eq_self, ↓pk_rem, pk_div, c_of, d_le, d_nle, d_lt, d_nlt, d_eq, d_ne]
    · intro _ no
      have d8 : hF τ 8 3 = .int (nI nd) := by rw [Ag_f hq 8 3 rfl]; exact dC.1
      show Ev (den (d + 4, 111, 15, [.ref 0, .int x, .int (nI (cB b nd)), .int (nI nd)], [], τ)) _
      rw [a111_15, fnd_none no]
      by_cases y : x = -1
      · simp (disch := first | omega | (repeat (first | assumption | exact Ag_r | refine Ag_I ?_ rfl | refine Ag_F ?_ rfl | refine Ag_J ?_ rfl))) only [A111, FC h', d8, y, CO, HA, HB, HC, Nat.not_lt_zero, Nat.add_assoc, c_nlt, c_nle, c_neq, c_P, c_cl, c_m1, c_m1', nI_add, pk_mul, reduceIte, Nat.reduceEqDiff, Nat.reduceAdd, Nat.reduceMul, Nat.reduceLeDiff, eq_self, ↓pk_rem, pk_div, c_of, d_le, d_nle, d_lt, d_nlt, d_eq, d_ne]
        exact Ev_s ⟨rfl, hq⟩
      · simp (disch := first | omega | (repeat (first | assumption | exact Ag_r | refine Ag_I ?_ rfl | refine Ag_F ?_ rfl | refine Ag_J ?_ rfl))) only [A111, FC h', d8, y, CO, HA, HB, HC, Nat.not_lt_zero, Nat.add_assoc, c_nlt, c_nle, c_neq, c_P, c_cl, c_m1, c_m1', nI_add, pk_mul, reduceIte, Nat.reduceEqDiff, Nat.reduceAdd, Nat.reduceMul, Nat.reduceLeDiff, eq_self, ↓pk_rem, pk_div, c_of, d_le, d_nle, d_lt, d_nlt, d_eq, d_ne]
        exact Ev_s ⟨rfl, hq⟩
  · simp (disch := first | omega | (repeat (first | assumption | exact Ag_r | refine Ag_I ?_ rfl | refine Ag_F ?_ rfl | refine Ag_J ?_ rfl))) only [A216, FM hM, CO, HA, HB, HC, Nat.not_lt_zero, Nat.add_assoc, c_nlt, c_nle, c_neq, c_P, c_cl, c_m1, c_m1', nI_add, pk_mul, reduceIte, Nat.reduceEqDiff, Nat.reduceAdd, Nat.reduceMul, Nat.reduceLeDiff, eq_self, ↓pk_rem, pk_div, c_of, d_le, d_nle, d_lt, d_nlt, d_eq, d_ne]
    refine Ev_b (M_load hM sM hw (by repeat (first | assumption | exact Ag_r | refine Ag_I ?_ rfl | refine Ag_F ?_ rfl | refine Ag_J ?_ rfl))) ?_
    rintro _ τ ⟨rfl, hq, hl⟩
    have h' := Qm_M hq hM
    simp (disch := first | omega | (repeat (first | assumption | exact Ag_r | refine Ag_I ?_ rfl | refine Ag_F ?_ rfl | refine Ag_J ?_ rfl))) only [A216, CO, HA, HB, HC, Nat.not_lt_zero, Nat.add_assoc, c_nlt, c_nle, c_neq, c_P, c_cl, c_m1, c_m1', nI_add, pk_mul, reduceIte, Nat.reduceEqDiff, Nat.reduceAdd, Nat.reduceMul, Nat.reduceLeDiff, eq_self, ↓pk_rem, pk_div, c_of, d_le, d_nle, d_lt, d_nlt, d_eq, d_ne]
    refine lp (α := Hp) (h := fun k x' => (d + 4, 216, 13, [.ref 57, .int x, .int (nI (cB b k)), .int (nI k)], [], x')) (I := fun k x' => Qm ρ x' ∧ (∀ c, c < 224 → hI x' 72 c = nI (H c)) ∧ ∀ j, j < k → (b j && decide (nI (cB b j) = x)) = false) nd ?_ ?_ 0 τ (Nat.zero_le _) ⟨hq, hl.1, fun j hj => absurd hj (Nat.not_lt_zero j)⟩
    · intro k υ hk ⟨hq2, l2, no⟩ nx
      have h2 := Qm_M hq2 hM
      have d8 : hI υ 59 4 = nI nd := by rw [Ag_i hq2 59 rfl]; exact dM.1
      have cb := cB_le b k
      show Ev (den (d + 4, 216, 13, [.ref 57, .int x, .int (nI (cB b k)), .int (nI k)], [], υ)) _
      rw [a216_13]
      simp (disch := first | omega | (repeat (first | assumption | exact Ag_r | refine Ag_I ?_ rfl | refine Ag_F ?_ rfl | refine Ag_J ?_ rfl))) only [A216, FM h2, d8, CO, HA, HB, HC, Nat.not_lt_zero, Nat.add_assoc, c_nlt, c_nle, c_neq, c_P, c_cl, c_m1, c_m1', nI_add, pk_mul, reduceIte, Nat.reduceEqDiff, Nat.reduceAdd, Nat.reduceMul, Nat.reduceLeDiff, eq_self, ↓pk_rem, pk_div, c_of, d_le, d_nle, d_lt, d_nlt, d_eq, d_ne]
      refine Ev_b (M_isForged (d := d + 1) hM sM.1 hv8 dM dW hH hk hq2 l2) ?_
      rintro _ ω ⟨rfl, hq3, e72⟩
      by_cases z : soB H v dv dd de k = true
      · have bf : b k = false := by rw [bk, z]; rfl
        rw [if_pos z]
        refine Ev_e ?_ (nx ω ⟨hq3, by rw [e72]; exact l2, fun j hj => by
          by_cases y : j = k
          · rw [y, bf]; rfl
          · exact no j (by omega)⟩)
        rw [cB_n bf]
        simp (disch := first | omega | (repeat (first | assumption | exact Ag_r | refine Ag_I ?_ rfl | refine Ag_F ?_ rfl | refine Ag_J ?_ rfl))) only [A216, CO, HA, HB, HC, Nat.not_lt_zero, Nat.add_assoc, c_nlt, c_nle, c_neq, c_P, c_cl, c_m1, c_m1', nI_add, pk_mul, reduceIte, Nat.reduceEqDiff, Nat.reduceAdd, Nat.reduceMul, Nat.reduceLeDiff, eq_self, ↓pk_rem, pk_div, c_of, d_le, d_nle, d_lt, d_nlt, d_eq, d_ne]
      · have bf : b k = true := by rw [bk]; simpa using z
        rw [if_neg z]
        by_cases y : nI (cB b k) = x
        · rw [fnd_some hk (by rw [bf]; simp [y]) no]
          simp (disch := first | omega | (repeat (first | assumption | exact Ag_r | refine Ag_I ?_ rfl | refine Ag_F ?_ rfl | refine Ag_J ?_ rfl))) only [A216, y, CO, HA, HB, HC, Nat.not_lt_zero, Nat.add_assoc, c_nlt, c_nle, c_neq, c_P, c_cl, c_m1, c_m1', nI_add, pk_mul, reduceIte, Nat.reduceEqDiff, Nat.reduceAdd, Nat.reduceMul, Nat.reduceLeDiff, eq_self, ↓pk_rem, pk_div, c_of, d_le, d_nle, d_lt, d_nlt, d_eq, d_ne]
          exact Ev_s ⟨rfl, hq3⟩
        · refine Ev_e ?_ (nx ω ⟨hq3, by rw [e72]; exact l2, fun j hj => by
            by_cases y2 : j = k
            · rw [y2, bf]; simp [y]
            · exact no j (by omega)⟩)
          rw [cB_y bf]
          simp (disch := first | omega | (repeat (first | assumption | exact Ag_r | refine Ag_I ?_ rfl | refine Ag_F ?_ rfl | refine Ag_J ?_ rfl))) only [A216, y, CO, HA, HB, HC, Nat.not_lt_zero, Nat.add_assoc, c_nlt, c_nle, c_neq, c_P, c_cl, c_m1, c_m1', nI_add, pk_mul, reduceIte, Nat.reduceEqDiff, Nat.reduceAdd, Nat.reduceMul, Nat.reduceLeDiff, eq_self, ↓pk_rem, pk_div, c_of, d_le, d_nle, d_lt, d_nlt, d_eq, d_ne]
    · intro υ ⟨hq2, l2, no⟩
      have h2 := Qm_M hq2 hM
      have d8 : hI υ 59 4 = nI nd := by rw [Ag_i hq2 59 rfl]; exact dM.1
      show Ev (den (d + 4, 216, 13, [.ref 57, .int x, .int (nI (cB b nd)), .int (nI nd)], [], υ)) _
      rw [a216_13, fnd_none no]
      by_cases y : x = -1
      · simp (disch := first | omega | (repeat (first | assumption | exact Ag_r | refine Ag_I ?_ rfl | refine Ag_F ?_ rfl | refine Ag_J ?_ rfl))) only [A216, FM h2, d8, y, CO, HA, HB, HC, Nat.not_lt_zero, Nat.add_assoc, c_nlt, c_nle, c_neq, c_P, c_cl, c_m1, c_m1', nI_add, pk_mul, reduceIte, Nat.reduceEqDiff, Nat.reduceAdd, Nat.reduceMul, Nat.reduceLeDiff, eq_self, ↓pk_rem, pk_div, c_of, d_le, d_nle, d_lt, d_nlt, d_eq, d_ne]
        exact Ev_s ⟨rfl, hq2⟩
      · simp (disch := first | omega | (repeat (first | assumption | exact Ag_r | refine Ag_I ?_ rfl | refine Ag_F ?_ rfl | refine Ag_J ?_ rfl))) only [A216, FM h2, d8, y, CO, HA, HB, HC, Nat.not_lt_zero, Nat.add_assoc, c_nlt, c_nle, c_neq, c_P, c_cl, c_m1, c_m1', nI_add, pk_mul, reduceIte, Nat.reduceEqDiff, Nat.reduceAdd, Nat.reduceMul, Nat.reduceLeDiff, eq_self, ↓pk_rem, pk_div, c_of, d_le, d_nle, d_lt, d_nlt, d_eq, d_ne]
        exact Ev_s ⟨rfl, hq2⟩
theorem C_rights (hC : FxC σ) (sC : StC σ v H) (hw : Wf v H) (dC : DeC σ nd dv dd de) (dW : DeW v nd dv dd de) {c t : Nat} (hc28 : c < 28 * v) (ht : t < v) (hq : Qc σ τ) (hc : Cal τ v H) : Ev (den (d + 3, 130, 0, [.ref 0, .int (nI c), .int (nI t), .float 0, .float 0], [], τ)) (fun a υ => a = some (.int (if rgB H v nd dv dd de c t = true then nI 1 else nI 0)) ∧ υ = τ) := by
  have hv8 := hw.2.1
  have n10 := dW.1
  have h' := Qc_C hq hC
  have s1 := sC.2 c (by omega)
  rw [← Ag_i hq 2 rfl] at s1
  have H8 := hw.2.2.1 c hc28
  unfold rgB
  by_cases z : H c = t
  · simp (disch := first | omega | (repeat (first | assumption | exact Ag_r | refine Ag_I ?_ rfl | refine Ag_F ?_ rfl | refine Ag_J ?_ rfl))) only [A130, FC h', s1, z, CO, HA, HB, HC, Nat.not_lt_zero, Nat.add_assoc, c_nlt, c_nle, c_neq, c_P, c_cl, c_m1, c_m1', nI_add, pk_mul, reduceIte, Nat.reduceEqDiff, Nat.reduceAdd, Nat.reduceMul, Nat.reduceLeDiff, eq_self, ↓pk_rem, pk_div, c_of, d_le, d_nle, d_lt, d_nlt, d_eq, d_ne]
    exact Ev_s ⟨by simp, rfl⟩
  · simp (disch := first | omega | (repeat (first | assumption | exact Ag_r | refine Ag_I ?_ rfl | refine Ag_F ?_ rfl | refine Ag_J ?_ rfl))) only [A130, FC h', s1, z, CO, HA, HB, HC, Nat.not_lt_zero, Nat.add_assoc, c_nlt, c_nle, c_neq, c_P, c_cl, c_m1, c_m1', nI_add, pk_mul, reduceIte, Nat.reduceEqDiff, Nat.reduceAdd, Nat.reduceMul, Nat.reduceLeDiff, eq_self, ↓pk_rem, pk_div, c_of, d_le, d_nle, d_lt, d_nlt, d_eq, d_ne]
    refine lp (α := Unit) (h := fun k _ => (d + 3, 130, 20, [.ref 0, .int (nI c), .int (nI t), .int (nI (H c)), .int (nI k)], [], τ)) (I := fun k _ => ∀ j, j < k → (fun k => !soB (upN H c t) v dv dd de k) j = false) nd ?_ ?_ 0 () (Nat.zero_le _) (fun j hj => absurd hj (Nat.not_lt_zero j))
    · intro k _ hk no nx
      have d8 : hF τ 8 3 = .int (nI nd) := by rw [Ag_f hq 8 3 rfl]; exact dC.1
      have so := C_isSo1 (d := d + 1) hC hw dC dW hk hc28 ht z hq hc
      show Ev (den (d + 3, 130, 20, [.ref 0, .int (nI c), .int (nI t), .int (nI (H c)), .int (nI k)], [], τ)) _
      rw [a130_20]
      by_cases y : soB (upN H c t) v dv dd de k = true
      · rw [if_pos y] at so
        refine Ev_e ?_ (nx () (fun j hj => by
          by_cases w : j = k
          · rw [w]; show (!soB (upN H c t) v dv dd de k) = false; rw [y]; rfl
          · exact no j (by omega)))
        simp (disch := first | omega | (repeat (first | assumption | exact Ag_r | refine Ag_I ?_ rfl | refine Ag_F ?_ rfl | refine Ag_J ?_ rfl))) only [A130, FC h', d8, so, CO, HA, HB, HC, Nat.not_lt_zero, Nat.add_assoc, c_nlt, c_nle, c_neq, c_P, c_cl, c_m1, c_m1', nI_add, pk_mul, reduceIte, Nat.reduceEqDiff, Nat.reduceAdd, Nat.reduceMul, Nat.reduceLeDiff, eq_self, ↓pk_rem, pk_div, c_of, d_le, d_nle, d_lt, d_nlt, d_eq, d_ne]
      · rw [if_neg y] at so
        rw [fnd_some hk (by show (!soB (upN H c t) v dv dd de k) = true; simpa using y) no]
        simp (disch := first | omega | (repeat (first | assumption | exact Ag_r | refine Ag_I ?_ rfl | refine Ag_F ?_ rfl | refine Ag_J ?_ rfl))) only [A130, FC h', d8, so, CO, HA, HB, HC, Nat.not_lt_zero, Nat.add_assoc, c_nlt, c_nle, c_neq, c_P, c_cl, c_m1, c_m1', nI_add, pk_mul, reduceIte, Nat.reduceEqDiff, Nat.reduceAdd, Nat.reduceMul, Nat.reduceLeDiff, eq_self, ↓pk_rem, pk_div, c_of, d_le, d_nle, d_lt, d_nlt, d_eq, d_ne]
        exact Ev_s ⟨by simp, rfl⟩
    · intro _ no
      have d8 : hF τ 8 3 = .int (nI nd) := by rw [Ag_f hq 8 3 rfl]; exact dC.1
      show Ev (den (d + 3, 130, 20, [.ref 0, .int (nI c), .int (nI t), .int (nI (H c)), .int (nI nd)], [], τ)) _
      rw [a130_20, fnd_none no]
      simp (disch := first | omega | (repeat (first | assumption | exact Ag_r | refine Ag_I ?_ rfl | refine Ag_F ?_ rfl | refine Ag_J ?_ rfl))) only [A130, FC h', d8, CO, HA, HB, HC, Nat.not_lt_zero, Nat.add_assoc, c_nlt, c_nle, c_neq, c_P, c_cl, c_m1, c_m1', nI_add, pk_mul, reduceIte, Nat.reduceEqDiff, Nat.reduceAdd, Nat.reduceMul, Nat.reduceLeDiff, eq_self, ↓pk_rem, pk_div, c_of, d_le, d_nle, d_lt, d_nlt, d_eq, d_ne]
      exact Ev_s ⟨by simp, rfl⟩
theorem M_areTrue (hM : FxM ρ) (hv : hI ρ 59 0 = nI v) (hv8 : v ≤ 8) (dM : DeM ρ nd dv dd de) (dW : DeW v nd dv dd de) {K : Nat → Nat} (hK : ∀ c, c < 224 → K c < 8) (hq : Qm ρ τ) (h72 : ∀ c, c < 224 → hI τ 72 c = nI (K c)) : Ev (den (d + 3, 217, 0, [.ref 57, .float 0], [], τ)) (fun a υ => a = some (.int (if (fnd (fun k => !soB K v dv dd de k) nd).isNone = true then nI 1 else nI 0)) ∧ Qm ρ υ ∧ hI υ 72 = hI τ 72) := by
  have n10 := dW.1
  simp (disch := first | omega | (repeat (first | assumption | exact Ag_r | refine Ag_I ?_ rfl | refine Ag_F ?_ rfl | refine Ag_J ?_ rfl))) only [A217, CO, HA, HB, HC, Nat.not_lt_zero, Nat.add_assoc, c_nlt, c_nle, c_neq, c_P, c_cl, c_m1, c_m1', nI_add, pk_mul, reduceIte, Nat.reduceEqDiff, Nat.reduceAdd, Nat.reduceMul, Nat.reduceLeDiff, eq_self, ↓pk_rem, pk_div, c_of, d_le, d_nle, d_lt, d_nlt, d_eq, d_ne]
  refine lp (α := Hp) (h := fun k x' => (d + 3, 217, 2, [.ref 57, .int (nI k)], [], x')) (I := fun k x' => Qm ρ x' ∧ hI x' 72 = hI τ 72 ∧ ∀ j, j < k → (fun k => !soB K v dv dd de k) j = false) nd ?_ ?_ 0 τ (Nat.zero_le _) ⟨hq, rfl, fun j hj => absurd hj (Nat.not_lt_zero j)⟩
  · intro k υ hk ⟨hq2, l2, no⟩ nx
    have h2 := Qm_M hq2 hM
    have d8 : hI υ 59 4 = nI nd := by rw [Ag_i hq2 59 rfl]; exact dM.1
    show Ev (den (d + 3, 217, 2, [.ref 57, .int (nI k)], [], υ)) _
    rw [a217_2]
    simp (disch := first | omega | (repeat (first | assumption | exact Ag_r | refine Ag_I ?_ rfl | refine Ag_F ?_ rfl | refine Ag_J ?_ rfl))) only [A217, FM h2, d8, CO, HA, HB, HC, Nat.not_lt_zero, Nat.add_assoc, c_nlt, c_nle, c_neq, c_P, c_cl, c_m1, c_m1', nI_add, pk_mul, reduceIte, Nat.reduceEqDiff, Nat.reduceAdd, Nat.reduceMul, Nat.reduceLeDiff, eq_self, ↓pk_rem, pk_div, c_of, d_le, d_nle, d_lt, d_nlt, d_eq, d_ne]
    refine Ev_b (M_isForged (d := d) hM hv hv8 dM dW hK hk hq2 (by rw [l2]; exact h72)) ?_
    rintro _ ω ⟨rfl, hq3, e72⟩
    by_cases z : soB K v dv dd de k = true
    · rw [if_pos z]
      refine Ev_e ?_ (nx ω ⟨hq3, e72.trans l2, fun j hj => by
        by_cases y : j = k
        · rw [y]; show (!soB K v dv dd de k) = false; rw [z]; rfl
        · exact no j (by omega)⟩)
      simp (disch := first | omega | (repeat (first | assumption | exact Ag_r | refine Ag_I ?_ rfl | refine Ag_F ?_ rfl | refine Ag_J ?_ rfl))) only [A217, CO, HA, HB, HC, Nat.not_lt_zero, Nat.add_assoc, c_nlt, c_nle, c_neq, c_P, c_cl, c_m1, c_m1', nI_add, pk_mul, reduceIte, Nat.reduceEqDiff, Nat.reduceAdd, Nat.reduceMul, Nat.reduceLeDiff, eq_self, ↓pk_rem, pk_div, c_of, d_le, d_nle, d_lt, d_nlt, d_eq, d_ne]
    · rw [if_neg z, fnd_some hk (by show (!soB K v dv dd de k) = true; simpa using z) no]
      simp (disch := first | omega | (repeat (first | assumption | exact Ag_r | refine Ag_I ?_ rfl | refine Ag_F ?_ rfl | refine Ag_J ?_ rfl))) only [A217, CO, HA, HB, HC, Nat.not_lt_zero, Nat.add_assoc, c_nlt, c_nle, c_neq, c_P, c_cl, c_m1, c_m1', nI_add, pk_mul, reduceIte, Nat.reduceEqDiff, Nat.reduceAdd, Nat.reduceMul, Nat.reduceLeDiff, eq_self, ↓pk_rem, pk_div, c_of, d_le, d_nle, d_lt, d_nlt, d_eq, d_ne]
      exact Ev_s ⟨by simp, hq3, e72.trans l2⟩
  · intro υ ⟨hq2, l2, no⟩
    have h2 := Qm_M hq2 hM
    have d8 : hI υ 59 4 = nI nd := by rw [Ag_i hq2 59 rfl]; exact dM.1
    show Ev (den (d + 3, 217, 2, [.ref 57, .int (nI nd)], [], υ)) _
    rw [a217_2, fnd_none no]
    simp (disch := first | omega | (repeat (first | assumption | exact Ag_r | refine Ag_I ?_ rfl | refine Ag_F ?_ rfl | refine Ag_J ?_ rfl))) only [A217, FM h2, d8, CO, HA, HB, HC, Nat.not_lt_zero, Nat.add_assoc, c_nlt, c_nle, c_neq, c_P, c_cl, c_m1, c_m1', nI_add, pk_mul, reduceIte, Nat.reduceEqDiff, Nat.reduceAdd, Nat.reduceMul, Nat.reduceLeDiff, eq_self, ↓pk_rem, pk_div, c_of, d_le, d_nle, d_lt, d_nlt, d_eq, d_ne]
    exact Ev_s ⟨by simp, hq2, l2⟩
theorem C_explL (hC : FxC σ) (sC : StC σ v H) (hw : Wf v H) (dC : DeC σ nd dv dd de) (dW : DeW v nd dv dd de) {m : Nat} (hq : Qc σ τ) (hc : Cal τ v H) {Q : Option Value → Hp → Prop} (fin : ∀ l, Ev (den (d + 4, 112, 103, [.ref 0, .int (nI m), .int (nI (xou (rgB H v nd dv dd de) v (28 * v)).1), .int (xou (rgB H v nd dv dd de) v (28 * v)).2, .int (nI (28 * v)), l], [], τ)) Q) : Ev (den (d + 4, 112, 29, [.ref 0, .int (nI m), .int (nI 0), .int (-1), .int (nI 0), .float 0], [], τ)) Q := by
  have hv8 := hw.2.1
  have h' := Qc_C hq hC
  have e1 := Ag_f hq 1 0 rfl
  refine lp (α := Value) (h := fun c x => (d + 4, 112, 29, [.ref 0, .int (nI m), .int (nI (xou (rgB H v nd dv dd de) v c).1), .int (xou (rgB H v nd dv dd de) v c).2, .int (nI c), x], [], τ)) (I := fun c x => True) (28 * v) ?_ ?_ 0 (.float 0) (Nat.zero_le _) trivial
  · intro c l hcv _ nx
    have ok := xou_ok (p := rgB H v nd dv dd de) hv8 c (by omega)
    show Ev (den (d + 4, 112, 29, [.ref 0, .int (nI m), .int (nI (xou (rgB H v nd dv dd de) v c).1), .int (xou (rgB H v nd dv dd de) v c).2, .int (nI c), l], [], τ)) _
    rw [a112_29]
    simp (disch := first | omega | (repeat (first | assumption | exact Ag_r | refine Ag_I ?_ rfl | refine Ag_F ?_ rfl | refine Ag_J ?_ rfl))) only [A112, FC h', e1, sC.1, Nat.mul_comm v 28, CO, HA, HB, HC, Nat.not_lt_zero, Nat.add_assoc, c_nlt, c_nle, c_neq, c_P, c_cl, c_m1, c_m1', nI_add, pk_mul, reduceIte, Nat.reduceEqDiff, Nat.reduceAdd, Nat.reduceMul, Nat.reduceLeDiff, eq_self, ↓pk_rem, pk_div, c_of, d_le, d_nle, d_lt, d_nlt, d_eq, d_ne]
    refine lp (α := Unit) (h := fun t _ => (d + 4, 112, 47, [.ref 0, .int (nI m), .int (nI (xin (rgB H v nd dv dd de) c (xou (rgB H v nd dv dd de) v c) t).1), .int (xin (rgB H v nd dv dd de) c (xou (rgB H v nd dv dd de) v c) t).2, .int (nI c), .int (nI t)], [], τ)) (I := fun t _ => True) v ?_ ?_ 0 () (Nat.zero_le _) trivial
    · intro t _ htv _ nx2
      have ok2 := xin_ok (p := rgB H v nd dv dd de) (show c < 224 by omega) ok t (by omega)
      have nn := nx2 () trivial
      simp only [xin] at nn
      show Ev (den (d + 4, 112, 47, [.ref 0, .int (nI m), .int (nI (xin (rgB H v nd dv dd de) c (xou (rgB H v nd dv dd de) v c) t).1), .int (xin (rgB H v nd dv dd de) c (xou (rgB H v nd dv dd de) v c) t).2, .int (nI c), .int (nI t)], [], τ)) _
      generalize xin (rgB H v nd dv dd de) c (xou (rgB H v nd dv dd de) v c) t = x at nn ok2
      obtain ⟨o1, o2⟩ := ok2
      rw [a112_47]
      simp (disch := first | omega | (repeat (first | assumption | exact Ag_r | refine Ag_I ?_ rfl | refine Ag_F ?_ rfl | refine Ag_J ?_ rfl))) only [A112, FC h', e1, sC.1, CO, HA, HB, HC, Nat.not_lt_zero, Nat.add_assoc, c_nlt, c_nle, c_neq, c_P, c_cl, c_m1, c_m1', nI_add, pk_mul, reduceIte, Nat.reduceEqDiff, Nat.reduceAdd, Nat.reduceMul, Nat.reduceLeDiff, eq_self, ↓pk_rem, pk_div, c_of, d_le, d_nle, d_lt, d_nlt, d_eq, d_ne]
      refine Ev_b (C_rights (d := d) hC sC hw dC dW hcv htv hq hc) ?_
      rintro _ _ ⟨rfl, rfl⟩
      by_cases z : rgB H v nd dv dd de c t = true
      · rw [if_pos z] at nn ⊢
        dsimp only at nn
        refine Ev_e ?_ nn
        rcases o2 with ⟨y1, y2⟩ | ⟨y1, j, hj, y2⟩
        · rw [if_pos y1, y2]
          simp (disch := first | omega | (repeat (first | assumption | exact Ag_r | refine Ag_I ?_ rfl | refine Ag_F ?_ rfl | refine Ag_J ?_ rfl))) only [A112, Nat.mul_comm c 8, CO, HA, HB, HC, Nat.not_lt_zero, Nat.add_assoc, c_nlt, c_nle, c_neq, c_P, c_cl, c_m1, c_m1', nI_add, pk_mul, reduceIte, Nat.reduceEqDiff, Nat.reduceAdd, Nat.reduceMul, Nat.reduceLeDiff, eq_self, ↓pk_rem, pk_div, c_of, d_le, d_nle, d_lt, d_nlt, d_eq, d_ne]
        · rw [if_neg (show ¬ x.1 = 0 by omega), y2]
          simp (disch := first | omega | (repeat (first | assumption | exact Ag_r | refine Ag_I ?_ rfl | refine Ag_F ?_ rfl | refine Ag_J ?_ rfl))) only [A112, CO, HA, HB, HC, Nat.not_lt_zero, Nat.add_assoc, c_nlt, c_nle, c_neq, c_P, c_cl, c_m1, c_m1', nI_add, pk_mul, reduceIte, Nat.reduceEqDiff, Nat.reduceAdd, Nat.reduceMul, Nat.reduceLeDiff, eq_self, ↓pk_rem, pk_div, c_of, d_le, d_nle, d_lt, d_nlt, d_eq, d_ne]
      · rw [if_neg z] at nn ⊢
        refine Ev_e ?_ nn
        simp (disch := first | omega | (repeat (first | assumption | exact Ag_r | refine Ag_I ?_ rfl | refine Ag_F ?_ rfl | refine Ag_J ?_ rfl))) only [A112, CO, HA, HB, HC, Nat.not_lt_zero, Nat.add_assoc, c_nlt, c_nle, c_neq, c_P, c_cl, c_m1, c_m1', nI_add, pk_mul, reduceIte, Nat.reduceEqDiff, Nat.reduceAdd, Nat.reduceMul, Nat.reduceLeDiff, eq_self, ↓pk_rem, pk_div, c_of, d_le, d_nle, d_lt, d_nlt, d_eq, d_ne]
    · intro _ _
      refine Ev_e ?_ (nx (.int (nI v)) trivial)
      show den (d + 4, 112, 47, [.ref 0, .int (nI m), .int (nI (xin (rgB H v nd dv dd de) c (xou (rgB H v nd dv dd de) v c) v).1), .int (xin (rgB H v nd dv dd de) c (xou (rgB H v nd dv dd de) v c) v).2, .int (nI c), .int (nI v)], [], τ) = _
      rw [a112_47]
      simp (disch := first | omega | (repeat (first | assumption | exact Ag_r | refine Ag_I ?_ rfl | refine Ag_F ?_ rfl | refine Ag_J ?_ rfl))) only [A112, FC h', e1, sC.1, CO, HA, HB, HC, Nat.not_lt_zero, Nat.add_assoc, c_nlt, c_nle, c_neq, c_P, c_cl, c_m1, c_m1', nI_add, pk_mul, reduceIte, Nat.reduceEqDiff, Nat.reduceAdd, Nat.reduceMul, Nat.reduceLeDiff, eq_self, ↓pk_rem, pk_div, c_of, d_le, d_nle, d_lt, d_nlt, d_eq, d_ne]
      rfl
  · intro l _
    refine Ev_e ?_ (fin l)
    show den (d + 4, 112, 29, [.ref 0, .int (nI m), .int (nI (xou (rgB H v nd dv dd de) v (28 * v)).1), .int (xou (rgB H v nd dv dd de) v (28 * v)).2, .int (nI (28 * v)), l], [], τ) = _
    rw [a112_29]
    simp (disch := omega) only [a112_31, a112_32, a112_35, a112_38, a112_40, a112_41, FC h', e1, sC.1, CO, pk_mul, Nat.mul_comm v 28, c_nle, Nat.le_refl, reduceIte]
theorem M_explL (hM : FxM ρ) (sM : StM ρ v H) (hw : Wf v H) (dM : DeM ρ nd dv dd de) (dW : DeW v nd dv dd de) {m : Nat} (hq : Qm ρ τ) (h72 : ∀ c, c < 224 → hI τ 72 c = nI (H c)) {Q : Option Value → Hp → Prop} (fin : ∀ l l2 υ, Qm ρ υ → Ev (den (d + 4, 218, 124, [.ref 57, .int (nI m), .int (nI (xou (rgB H v nd dv dd de) v (28 * v)).1), .int (xou (rgB H v nd dv dd de) v (28 * v)).2, .int (nI (28 * v)), l, l2], [], υ)) Q) : Ev (den (d + 4, 218, 30, [.ref 57, .int (nI m), .int (nI 0), .int (-1), .int (nI 0), .float 0, .float 0], [], τ)) Q := by
  have hv8 := hw.2.1
  have hH : ∀ c, c < 224 → H c < 8 := fun c hc => Wf_8 hw hc
  refine lp (α := Hp × Value × Value) (h := fun c x => (d + 4, 218, 30, [.ref 57, .int (nI m), .int (nI (xou (rgB H v nd dv dd de) v c).1), .int (xou (rgB H v nd dv dd de) v c).2, .int (nI c), x.2.1, x.2.2], [], x.1)) (I := fun c x => Qm ρ x.1 ∧ ∀ c, c < 224 → hI x.1 72 c = nI (H c)) (28 * v) ?_ ?_ 0 (τ, .float 0, .float 0) (Nat.zero_le _) ⟨hq, h72⟩
  · clear h72 hq
    intro c ⟨τ, l, l2⟩ hcv ⟨hq, h72⟩ nx
    dsimp only at hq h72
    have h' := Qm_M hq hM
    have ok := xou_ok (p := rgB H v nd dv dd de) hv8 c (by omega)
    show Ev (den (d + 4, 218, 30, [.ref 57, .int (nI m), .int (nI (xou (rgB H v nd dv dd de) v c).1), .int (xou (rgB H v nd dv dd de) v c).2, .int (nI c), l, l2], [], τ)) _
    rw [a218_30]
    simp (disch := first | omega | (repeat (first | assumption | exact Ag_r | refine Ag_I ?_ rfl | refine Ag_F ?_ rfl | refine Ag_J ?_ rfl))) only [A218, FM h', M_copies hM sM.1 hv8 hq, h72 c (by omega), CO, HA, HB, HC, Nat.not_lt_zero, Nat.add_assoc, c_nlt, c_nle, c_neq, c_P, c_cl, c_m1, c_m1', nI_add, pk_mul, reduceIte, Nat.reduceEqDiff, Nat.reduceAdd, Nat.reduceMul, Nat.reduceLeDiff, eq_self, ↓pk_rem, pk_div, c_of, d_le, d_nle, d_lt, d_nlt, d_eq, d_ne]
    refine lp (α := Hp) (h := fun t x => (d + 4, 218, 51, [.ref 57, .int (nI m), .int (nI (xin (rgB H v nd dv dd de) c (xou (rgB H v nd dv dd de) v c) t).1), .int (xin (rgB H v nd dv dd de) c (xou (rgB H v nd dv dd de) v c) t).2, .int (nI c), .int (nI (H c)), .int (nI t)], [], x)) (I := fun t x => Qm ρ x ∧ ∀ c', c' < 224 → ¬ c' = c → hI x 72 c' = nI (H c')) v ?_ ?_ 0 τ (Nat.zero_le _) ⟨hq, fun c' h1 _ => h72 c' h1⟩
    · clear h72 hq h' τ
      intro t τ htv ⟨hq, h72⟩ nx2
      have h' := Qm_M hq hM
      have ok2 := xin_ok (p := rgB H v nd dv dd de) (show c < 224 by omega) ok t (by omega)
      have nn := fun υ h => nx2 υ h
      simp only [xin] at nn
      show Ev (den (d + 4, 218, 51, [.ref 57, .int (nI m), .int (nI (xin (rgB H v nd dv dd de) c (xou (rgB H v nd dv dd de) v c) t).1), .int (xin (rgB H v nd dv dd de) c (xou (rgB H v nd dv dd de) v c) t).2, .int (nI c), .int (nI (H c)), .int (nI t)], [], τ)) _
      generalize xin (rgB H v nd dv dd de) c (xou (rgB H v nd dv dd de) v c) t = x at nn ok2
      obtain ⟨o1, o2⟩ := ok2
      have H8 := hH c (by omega)
      have gq : Qm ρ (sI τ 72 (upd (hI τ 72) c (nI t))) := Ag_I hq rfl
      have hn72 : ∀ c', c' < 224 → ¬ c' = c → hI (sI τ 72 (upd (hI τ 72) c (nI t))) 72 c' = nI (H c') := fun c' h1 h2 => by simp only [HA, reduceIte, ua, h2]; exact h72 c' h1 h2
      rw [a218_51]
      by_cases y : t = H c
      · have rg : rgB H v nd dv dd de c t = false := by unfold rgB; simp [y]
        rw [rg] at nn
        simp only [Bool.false_eq_true, reduceIte] at nn
        refine Ev_e ?_ (nn (sI τ 72 (upd (hI τ 72) c (nI t))) ⟨gq, hn72⟩)
        simp (disch := first | omega | (repeat (first | assumption | exact Ag_r | refine Ag_I ?_ rfl | refine Ag_F ?_ rfl | refine Ag_J ?_ rfl))) only [A218, FM h', M_villages' hM hq, sM.1, CO, HA, HB, HC, Nat.not_lt_zero, Nat.add_assoc, c_nlt, c_nle, c_neq, c_P, c_cl, c_m1, c_m1', nI_add, pk_mul, reduceIte, Nat.reduceEqDiff, Nat.reduceAdd, Nat.reduceMul, Nat.reduceLeDiff, eq_self, ↓pk_rem, pk_div, c_of, d_le, d_nle, d_lt, d_nlt, d_eq, d_ne]
      · have at' := M_areTrue (d := d) hM sM.1 hv8 dM dW (K := upN H c t) (τ := sI τ 72 (upd (hI τ 72) c (nI t))) (fun c' h1 => by
          unfold upN; split
          · omega
          · exact hH c' h1) gq (fun c' h1 => by
          unfold upN
          by_cases w : c' = c
          · rw [if_pos w, w]; simp only [HA, reduceIte, ua]
          · rw [if_neg w]; exact hn72 c' h1 w)
        simp (disch := first | omega | (repeat (first | assumption | exact Ag_r | refine Ag_I ?_ rfl | refine Ag_F ?_ rfl | refine Ag_J ?_ rfl))) only [A218, FM h', M_villages' hM hq, sM.1, CO, HA, HB, HC, Nat.not_lt_zero, Nat.add_assoc, c_nlt, c_nle, c_neq, c_P, c_cl, c_m1, c_m1', nI_add, pk_mul, reduceIte, Nat.reduceEqDiff, Nat.reduceAdd, Nat.reduceMul, Nat.reduceLeDiff, eq_self, ↓pk_rem, pk_div, c_of, d_le, d_nle, d_lt, d_nlt, d_eq, d_ne]
        refine Ev_b at' ?_
        rintro _ ω ⟨rfl, hq3, e72⟩
        have rge : rgB H v nd dv dd de c t = (fnd (fun k => !soB (upN H c t) v dv dd de k) nd).isNone := by
          unfold rgB; rw [decide_eq_false (fun e => y e.symm)]; rfl
        rw [← rge]
        have nk := nn ω ⟨hq3, fun c' h1 h2 => by rw [e72]; exact hn72 c' h1 h2⟩
        by_cases z : rgB H v nd dv dd de c t = true
        · rw [if_pos z] at nk ⊢
          dsimp only at nk
          refine Ev_e ?_ nk
          by_cases y1 : x.1 = 0
          · rw [if_pos y1]
            simp (disch := first | omega | (repeat (first | assumption | exact Ag_r | refine Ag_I ?_ rfl | refine Ag_F ?_ rfl | refine Ag_J ?_ rfl))) only [A218, y1, CO, HA, HB, HC, Nat.not_lt_zero, Nat.add_assoc, c_nlt, c_nle, c_neq, c_P, c_cl, c_m1, c_m1', nI_add, pk_mul, reduceIte, Nat.reduceEqDiff, Nat.reduceAdd, Nat.reduceMul, Nat.reduceLeDiff, eq_self, ↓pk_rem, pk_div, c_of, d_le, d_nle, d_lt, d_nlt, d_eq, d_ne]
          · rw [if_neg y1]
            rcases o2 with ⟨y3, -⟩ | ⟨-, j, hj, y2⟩
            · exact absurd y3 y1
            · rw [y2]
              simp (disch := first | omega | (repeat (first | assumption | exact Ag_r | refine Ag_I ?_ rfl | refine Ag_F ?_ rfl | refine Ag_J ?_ rfl))) only [A218, y1, CO, HA, HB, HC, Nat.not_lt_zero, Nat.add_assoc, c_nlt, c_nle, c_neq, c_P, c_cl, c_m1, c_m1', nI_add, pk_mul, reduceIte, Nat.reduceEqDiff, Nat.reduceAdd, Nat.reduceMul, Nat.reduceLeDiff, eq_self, ↓pk_rem, pk_div, c_of, d_le, d_nle, d_lt, d_nlt, d_eq, d_ne]
        · rw [if_neg z] at nk ⊢
          refine Ev_e ?_ nk
          simp (disch := first | omega | (repeat (first | assumption | exact Ag_r | refine Ag_I ?_ rfl | refine Ag_F ?_ rfl | refine Ag_J ?_ rfl))) only [A218, CO, HA, HB, HC, Nat.not_lt_zero, Nat.add_assoc, c_nlt, c_nle, c_neq, c_P, c_cl, c_m1, c_m1', nI_add, pk_mul, reduceIte, Nat.reduceEqDiff, Nat.reduceAdd, Nat.reduceMul, Nat.reduceLeDiff, eq_self, ↓pk_rem, pk_div, c_of, d_le, d_nle, d_lt, d_nlt, d_eq, d_ne]
    · clear h72 hq h' τ
      intro τ ⟨hq, h72⟩
      have h' := Qm_M hq hM
      refine Ev_e ?_ (nx (sI τ 72 (upd (hI τ 72) c (nI (H c))), .int (nI (H c)), .int (nI v)) ⟨Ag_I hq rfl, fun c' h1 => by
        simp only [HA, reduceIte, ua]
        split
        · next w => rw [w]
        · next w => exact h72 c' h1 w⟩)
      show den (d + 4, 218, 51, [.ref 57, .int (nI m), .int (nI (xin (rgB H v nd dv dd de) c (xou (rgB H v nd dv dd de) v c) v).1), .int (xin (rgB H v nd dv dd de) c (xou (rgB H v nd dv dd de) v c) v).2, .int (nI c), .int (nI (H c)), .int (nI v)], [], τ) = _
      rw [a218_51]
      simp (disch := first | omega | (repeat (first | assumption | exact Ag_r | refine Ag_I ?_ rfl | refine Ag_F ?_ rfl | refine Ag_J ?_ rfl))) only [A218, FM h', M_villages' hM hq, sM.1, CO, HA, HB, HC, Nat.not_lt_zero, Nat.add_assoc, c_nlt, c_nle, c_neq, c_P, c_cl, c_m1, c_m1', nI_add, pk_mul, reduceIte, Nat.reduceEqDiff, Nat.reduceAdd, Nat.reduceMul, Nat.reduceLeDiff, eq_self, ↓pk_rem, pk_div, c_of, d_le, d_nle, d_lt, d_nlt, d_eq, d_ne]
      rfl
  · intro ⟨υ, l, l2⟩ ⟨hq, h72⟩
    dsimp only at hq h72
    have h' := Qm_M hq hM
    refine Ev_e ?_ (fin l l2 υ hq)
    show den (d + 4, 218, 30, [.ref 57, .int (nI m), .int (nI (xou (rgB H v nd dv dd de) v (28 * v)).1), .int (xou (rgB H v nd dv dd de) v (28 * v)).2, .int (nI (28 * v)), l, l2], [], υ) = _
    rw [a218_30]
    simp (disch := first | omega | assumption) only [a218_32, a218_33, a218_36, M_copies hM sM.1 hv8 hq, FM h', CO, c_nle, Nat.le_refl, reduceIte]
theorem P_explains (hC : FxC σ) (hM : FxM ρ) (sC : StC σ v H) (sM : StM ρ v H) (hw : Wf v H) (dC : DeC σ nd dv dd de) (dM : DeM ρ nd dv dd de) (dW : DeW v nd dv dd de) (x : Int32) : ∃ r, Ev (den (d + 5, 112, 0, [.ref 0, .int x, .float 0, .float 0, .float 0, .float 0], [], σ)) (fun a τ => a = some (.int r) ∧ Qc σ τ) ∧ Ev (den (d + 5, 218, 0, [.ref 57, .int x, .float 0, .float 0, .float 0, .float 0, .float 0], [], ρ)) (fun a τ => a = some (.int r) ∧ Qm ρ τ) := by
  have hv8 := hw.2.1
  rcases tri x 3 (by omega) with hx | ⟨m, hm, rfl⟩ | ⟨m, hm, hm2, rfl⟩
  · refine ⟨-1, ?_, ?_⟩
    · simp (disch := first | omega | (repeat (first | assumption | exact Ag_r | refine Ag_I ?_ rfl | refine Ag_F ?_ rfl | refine Ag_J ?_ rfl))) only [A112, FC hC, ng hx, CO, HA, HB, HC, Nat.not_lt_zero, Nat.add_assoc, c_nlt, c_nle, c_neq, c_P, c_cl, c_m1, c_m1', nI_add, pk_mul, reduceIte, Nat.reduceEqDiff, Nat.reduceAdd, Nat.reduceMul, Nat.reduceLeDiff, eq_self, ↓pk_rem, pk_div, c_of, d_le, d_nle, d_lt, d_nlt, d_eq, d_ne]
      exact Ev_s ⟨rfl, (by repeat (first | assumption | exact Ag_r | refine Ag_I ?_ rfl | refine Ag_F ?_ rfl | refine Ag_J ?_ rfl))⟩
    · simp (disch := first | omega | (repeat (first | assumption | exact Ag_r | refine Ag_I ?_ rfl | refine Ag_F ?_ rfl | refine Ag_J ?_ rfl))) only [A218, FM hM, M_in, l_lo, l_hi, ng hx, CO, HA, HB, HC, Nat.not_lt_zero, Nat.add_assoc, c_nlt, c_nle, c_neq, c_P, c_cl, c_m1, c_m1', nI_add, pk_mul, reduceIte, Nat.reduceEqDiff, Nat.reduceAdd, Nat.reduceMul, Nat.reduceLeDiff, eq_self, ↓pk_rem, pk_div, c_of, d_le, d_nle, d_lt, d_nlt, d_eq, d_ne]
      exact Ev_s ⟨rfl, (by repeat (first | assumption | exact Ag_r | refine Ag_I ?_ rfl | refine Ag_F ?_ rfl | refine Ag_J ?_ rfl))⟩
  · have ok := xou_ok (p := rgB H v nd dv dd de) hv8 (28 * v) (by omega)
    generalize Xe : xou (rgB H v nd dv dd de) v (28 * v) = X at ok
    obtain ⟨o1, o2⟩ := ok
    refine ⟨if m = 0 then nI X.1 else if X.1 = 0 then -1 else if m = 1 then nI (X.2.toNatClampNeg / 8 / 28) else if m = 2 then nI (X.2.toNatClampNeg / 8 % 28) else nI (X.2.toNatClampNeg % 8), ?_, ?_⟩
    · simp (disch := first | omega | (repeat (first | assumption | exact Ag_r | refine Ag_I ?_ rfl | refine Ag_F ?_ rfl | refine Ag_J ?_ rfl))) only [A112, FC hC, CO, HA, HB, HC, Nat.not_lt_zero, Nat.add_assoc, c_nlt, c_nle, c_neq, c_P, c_cl, c_m1, c_m1', nI_add, pk_mul, reduceIte, Nat.reduceEqDiff, Nat.reduceAdd, Nat.reduceMul, Nat.reduceLeDiff, eq_self, ↓pk_rem, pk_div, c_of, d_le, d_nle, d_lt, d_nlt, d_eq, d_ne]
      refine Ev_b (C_drawUp hC sC hw (by repeat (first | assumption | exact Ag_r | refine Ag_I ?_ rfl | refine Ag_F ?_ rfl | refine Ag_J ?_ rfl))) ?_
      rintro _ τ ⟨rfl, hq, hc⟩
      have h' := Qc_C hq hC
      simp (disch := first | omega | (repeat (first | assumption | exact Ag_r | refine Ag_I ?_ rfl | refine Ag_F ?_ rfl | refine Ag_J ?_ rfl))) only [A112, CO, HA, HB, HC, Nat.not_lt_zero, Nat.add_assoc, c_nlt, c_nle, c_neq, c_P, c_cl, c_m1, c_m1', nI_add, pk_mul, reduceIte, Nat.reduceEqDiff, Nat.reduceAdd, Nat.reduceMul, Nat.reduceLeDiff, eq_self, ↓pk_rem, pk_div, c_of, d_le, d_nle, d_lt, d_nlt, d_eq, d_ne]
      refine C_explL (d := d + 1) hC sC hw dC dW hq hc ?_
      intro l
      rw [Xe]
      by_cases m0 : m = 0
      · rw [if_pos m0]
        simp (disch := first | omega | (repeat (first | assumption | exact Ag_r | refine Ag_I ?_ rfl | refine Ag_F ?_ rfl | refine Ag_J ?_ rfl))) only [A112, m0, CO, HA, HB, HC, Nat.not_lt_zero, Nat.add_assoc, c_nlt, c_nle, c_neq, c_P, c_cl, c_m1, c_m1', nI_add, pk_mul, reduceIte, Nat.reduceEqDiff, Nat.reduceAdd, Nat.reduceMul, Nat.reduceLeDiff, eq_self, ↓pk_rem, pk_div, c_of, d_le, d_nle, d_lt, d_nlt, d_eq, d_ne]
        exact Ev_s ⟨rfl, hq⟩
      · rw [if_neg m0]
        rcases o2 with ⟨y1, y2⟩ | ⟨y1, j, hj, y2⟩
        · rw [if_pos y1, y2]
          simp (disch := first | omega | (repeat (first | assumption | exact Ag_r | refine Ag_I ?_ rfl | refine Ag_F ?_ rfl | refine Ag_J ?_ rfl))) only [A112, m0, CO, HA, HB, HC, Nat.not_lt_zero, Nat.add_assoc, c_nlt, c_nle, c_neq, c_P, c_cl, c_m1, c_m1', nI_add, pk_mul, reduceIte, Nat.reduceEqDiff, Nat.reduceAdd, Nat.reduceMul, Nat.reduceLeDiff, eq_self, ↓pk_rem, pk_div, c_of, d_le, d_nle, d_lt, d_nlt, d_eq, d_ne]
          exact Ev_s ⟨rfl, hq⟩
        · rw [if_neg (show ¬ X.1 = 0 by omega), y2, c_cl (by omega)]
          by_cases m1 : m = 1
          · rw [if_pos m1]
            simp (disch := first | omega | (repeat (first | assumption | exact Ag_r | refine Ag_I ?_ rfl | refine Ag_F ?_ rfl | refine Ag_J ?_ rfl))) only [A112, A131, m1, CO, HA, HB, HC, Nat.not_lt_zero, Nat.add_assoc, c_nlt, c_nle, c_neq, c_P, c_cl, c_m1, c_m1', nI_add, pk_mul, reduceIte, Nat.reduceEqDiff, Nat.reduceAdd, Nat.reduceMul, Nat.reduceLeDiff, eq_self, ↓pk_rem, pk_div, c_of, d_le, d_nle, d_lt, d_nlt, d_eq, d_ne]
            exact Ev_s ⟨rfl, hq⟩
          · rw [if_neg m1]
            by_cases m2 : m = 2
            · rw [if_pos m2]
              simp (disch := first | omega | (repeat (first | assumption | exact Ag_r | refine Ag_I ?_ rfl | refine Ag_F ?_ rfl | refine Ag_J ?_ rfl))) only [A112, A131, m2, CO, HA, HB, HC, Nat.not_lt_zero, Nat.add_assoc, c_nlt, c_nle, c_neq, c_P, c_cl, c_m1, c_m1', nI_add, pk_mul, reduceIte, Nat.reduceEqDiff, Nat.reduceAdd, Nat.reduceMul, Nat.reduceLeDiff, eq_self, ↓pk_rem, pk_div, c_of, d_le, d_nle, d_lt, d_nlt, d_eq, d_ne]
              exact Ev_s ⟨rfl, hq⟩
            · rw [if_neg m2]
              simp (disch := first | omega | (repeat (first | assumption | exact Ag_r | refine Ag_I ?_ rfl | refine Ag_F ?_ rfl | refine Ag_J ?_ rfl))) only [A112, A131, m0, m1, m2, CO, HA, HB, HC, Nat.not_lt_zero, Nat.add_assoc, c_nlt, c_nle, c_neq, c_P, c_cl, c_m1, c_m1', nI_add, pk_mul, reduceIte, Nat.reduceEqDiff, Nat.reduceAdd, Nat.reduceMul, Nat.reduceLeDiff, eq_self, ↓pk_rem, pk_div, c_of, d_le, d_nle, d_lt, d_nlt, d_eq, d_ne]
              exact Ev_s ⟨rfl, hq⟩
    · simp (disch := first | omega | (repeat (first | assumption | exact Ag_r | refine Ag_I ?_ rfl | refine Ag_F ?_ rfl | refine Ag_J ?_ rfl))) only [A218, FM hM, M_in, l_lo, l_hi, CO, HA, HB, HC, Nat.not_lt_zero, Nat.add_assoc, c_nlt, c_nle, c_neq, c_P, c_cl, c_m1, c_m1', nI_add, pk_mul, reduceIte, Nat.reduceEqDiff, Nat.reduceAdd, Nat.reduceMul, Nat.reduceLeDiff, eq_self, ↓pk_rem, pk_div, c_of, d_le, d_nle, d_lt, d_nlt, d_eq, d_ne]
      refine Ev_b (M_load hM sM hw (by repeat (first | assumption | exact Ag_r | refine Ag_I ?_ rfl | refine Ag_F ?_ rfl | refine Ag_J ?_ rfl))) ?_
      rintro _ τ ⟨rfl, hq, hl⟩
      have h' := Qm_M hq hM
      simp (disch := first | omega | (repeat (first | assumption | exact Ag_r | refine Ag_I ?_ rfl | refine Ag_F ?_ rfl | refine Ag_J ?_ rfl))) only [A218, CO, HA, HB, HC, Nat.not_lt_zero, Nat.add_assoc, c_nlt, c_nle, c_neq, c_P, c_cl, c_m1, c_m1', nI_add, pk_mul, reduceIte, Nat.reduceEqDiff, Nat.reduceAdd, Nat.reduceMul, Nat.reduceLeDiff, eq_self, ↓pk_rem, pk_div, c_of, d_le, d_nle, d_lt, d_nlt, d_eq, d_ne]
      refine M_explL (d := d + 1) hM sM hw dM dW hq hl.1 ?_
      intro l l2 υ hq2
      rw [Xe]
      by_cases m0 : m = 0
      · rw [if_pos m0]
        simp (disch := first | omega | (repeat (first | assumption | exact Ag_r | refine Ag_I ?_ rfl | refine Ag_F ?_ rfl | refine Ag_J ?_ rfl))) only [A218, m0, CO, HA, HB, HC, Nat.not_lt_zero, Nat.add_assoc, c_nlt, c_nle, c_neq, c_P, c_cl, c_m1, c_m1', nI_add, pk_mul, reduceIte, Nat.reduceEqDiff, Nat.reduceAdd, Nat.reduceMul, Nat.reduceLeDiff, eq_self, ↓pk_rem, pk_div, c_of, d_le, d_nle, d_lt, d_nlt, d_eq, d_ne]
        exact Ev_s ⟨rfl, hq2⟩
      · rw [if_neg m0]
        rcases o2 with ⟨y1, y2⟩ | ⟨y1, j, hj, y2⟩
        · rw [if_pos y1, y2]
          simp (disch := first | omega | (repeat (first | assumption | exact Ag_r | refine Ag_I ?_ rfl | refine Ag_F ?_ rfl | refine Ag_J ?_ rfl))) only [A218, m0, y1, CO, HA, HB, HC, Nat.not_lt_zero, Nat.add_assoc, c_nlt, c_nle, c_neq, c_P, c_cl, c_m1, c_m1', nI_add, pk_mul, reduceIte, Nat.reduceEqDiff, Nat.reduceAdd, Nat.reduceMul, Nat.reduceLeDiff, eq_self, ↓pk_rem, pk_div, c_of, d_le, d_nle, d_lt, d_nlt, d_eq, d_ne]
          exact Ev_s ⟨rfl, hq2⟩
        · rw [if_neg (show ¬ X.1 = 0 by omega), y2, c_cl (by omega)]
          by_cases m1 : m = 1
          · rw [if_pos m1]
            simp (disch := first | omega | (repeat (first | assumption | exact Ag_r | refine Ag_I ?_ rfl | refine Ag_F ?_ rfl | refine Ag_J ?_ rfl))) only [A218, m1, CO, HA, HB, HC, Nat.not_lt_zero, Nat.add_assoc, c_nlt, c_nle, c_neq, c_P, c_cl, c_m1, c_m1', nI_add, pk_mul, reduceIte, Nat.reduceEqDiff, Nat.reduceAdd, Nat.reduceMul, Nat.reduceLeDiff, eq_self, ↓pk_rem, pk_div, c_of, d_le, d_nle, d_lt, d_nlt, d_eq, d_ne]
            exact Ev_s ⟨rfl, hq2⟩
          · rw [if_neg m1]
            by_cases m2 : m = 2
            · rw [if_pos m2]
              simp (disch := first | omega | (repeat (first | assumption | exact Ag_r | refine Ag_I ?_ rfl | refine Ag_F ?_ rfl | refine Ag_J ?_ rfl))) only [A218, m2, CO, HA, HB, HC, Nat.not_lt_zero, Nat.add_assoc, c_nlt, c_nle, c_neq, c_P, c_cl, c_m1, c_m1', nI_add, pk_mul, reduceIte, Nat.reduceEqDiff, Nat.reduceAdd, Nat.reduceMul, Nat.reduceLeDiff, eq_self, ↓pk_rem, pk_div, c_of, d_le, d_nle, d_lt, d_nlt, d_eq, d_ne]
              exact Ev_s ⟨rfl, hq2⟩
            · rw [if_neg m2]
              simp (disch := first | omega | (repeat (first | assumption | exact Ag_r | refine Ag_I ?_ rfl | refine Ag_F ?_ rfl | refine Ag_J ?_ rfl))) only [A218, m0, m1, m2, CO, HA, HB, HC, Nat.not_lt_zero, Nat.add_assoc, c_nlt, c_nle, c_neq, c_P, c_cl, c_m1, c_m1', nI_add, pk_mul, reduceIte, Nat.reduceEqDiff, Nat.reduceAdd, Nat.reduceMul, Nat.reduceLeDiff, eq_self, ↓pk_rem, pk_div, c_of, d_le, d_nle, d_lt, d_nlt, d_eq, d_ne]
              exact Ev_s ⟨rfl, hq2⟩
  · refine ⟨-1, ?_, ?_⟩
    · simp (disch := first | omega | (repeat (first | assumption | exact Ag_r | refine Ag_I ?_ rfl | refine Ag_F ?_ rfl | refine Ag_J ?_ rfl))) only [A112, FC hC, CO, HA, HB, HC, Nat.not_lt_zero, Nat.add_assoc, c_nlt, c_nle, c_neq, c_P, c_cl, c_m1, c_m1', nI_add, pk_mul, reduceIte, Nat.reduceEqDiff, Nat.reduceAdd, Nat.reduceMul, Nat.reduceLeDiff, eq_self, ↓pk_rem, pk_div, c_of, d_le, d_nle, d_lt, d_nlt, d_eq, d_ne]
      exact Ev_s ⟨rfl, (by repeat (first | assumption | exact Ag_r | refine Ag_I ?_ rfl | refine Ag_F ?_ rfl | refine Ag_J ?_ rfl))⟩
    · simp (disch := first | omega | (repeat (first | assumption | exact Ag_r | refine Ag_I ?_ rfl | refine Ag_F ?_ rfl | refine Ag_J ?_ rfl))) only [A218, FM hM, M_in, l_lo, l_hi, CO, HA, HB, HC, Nat.not_lt_zero, Nat.add_assoc, c_nlt, c_nle, c_neq, c_P, c_cl, c_m1, c_m1', nI_add, pk_mul, reduceIte, Nat.reduceEqDiff, Nat.reduceAdd, Nat.reduceMul, Nat.reduceLeDiff, eq_self, ↓pk_rem, pk_div, c_of, d_le, d_nle, d_lt, d_nlt, d_eq, d_ne]
      exact Ev_s ⟨rfl, (by repeat (first | assumption | exact Ag_r | refine Ag_I ?_ rfl | refine Ag_F ?_ rfl | refine Ag_J ?_ rfl))⟩
end
