/-! Easter: who gives and who takes -/
def gsm (f : Nat → Nat) : Nat → Nat
  | 0 => 0
  | u + 1 => gsm f u + f u
theorem gsm_mono (f : Nat → Nat) {a b : Nat} (h : a ≤ b) : gsm f a ≤ gsm f b := by
  obtain ⟨c, rfl⟩ := Nat.le.dest h
  clear h
  induction c with
  | zero => exact Nat.le_refl _
  | succ c ih => rw [← Nat.add_assoc]; show _ ≤ gsm f (a + c) + f (a + c); omega
theorem gsm_bal (B : Nat → Nat) (D : Nat) : ∀ u, gsm B u + gsm (fun u => D - B u) u = u * D + gsm (fun u => B u - D) u
  | 0 => by simp [gsm]
  | u + 1 => by
    have := gsm_bal B D u
    simp only [gsm, Nat.succ_mul]
    omega
theorem gsm_le (f : Nat → Nat) {m : Nat} : ∀ {u : Nat}, (∀ i, i < u → f i ≤ m) → gsm f u ≤ u * m
  | 0, _ => Nat.zero_le _
  | u + 1, h => by
    have := gsm_le f (u := u) (fun i hi => h i (by omega))
    have := h u (by omega)
    simp only [gsm, Nat.succ_mul]
    omega
/-- the list in which u stands F (u + 1) - F u times -/
def gvl (F : Nat → Nat) : Nat → Nat → Nat
  | 0, _ => 0
  | u + 1, i => if F u ≤ i then u else gvl F u i
theorem gvl_lt (F : Nat → Nat) (i : Nat) : ∀ u, 1 ≤ u → gvl F u i < u
  | 0, h => by omega
  | u + 1, _ => by
    simp only [gvl]
    split
    · omega
    · next h =>
      by_cases z : u = 0
      · subst z; simp [gvl]
      · have := gvl_lt F i u (by omega); omega
/-- there is Easter on day e -/
def Fst (H : Nat → Nat) (v e : Nat) : Prop := (∀ u, u < v → tm H v u e = 1) ∧ gsm (fun u => bef H v u e) v % v = 0 ∧ gsm (fun u => bef H v u e - gsm (fun u => bef H v u e) v / v) v ≤ 8
def fD (H : Nat → Nat) (v e : Nat) : Nat := gsm (fun u => bef H v u e) v / v
def fG (H : Nat → Nat) (v e : Nat) : Nat → Nat := gsm (fun u => bef H v u e - fD H v e)
def fW (H : Nat → Nat) (v e : Nat) : Nat → Nat := gsm (fun u => fD H v e - bef H v u e)
theorem fG_W {H : Nat → Nat} {v e : Nat} (hv : 1 ≤ v) (h : gsm (fun u => bef H v u e) v % v = 0) : fG H v e v = fW H v e v := by
  have b := gsm_bal (fun u => bef H v u e) (fD H v e) v
  have d : gsm (fun u => bef H v u e) v = v * fD H v e := by
    have := Nat.div_add_mod (gsm (fun u => bef H v u e) v) v
    unfold fD
    omega
  show gsm (fun u => bef H v u e - fD H v e) v = gsm (fun u => fD H v e - bef H v u e) v
  omega
/-- what the feast has, in the class -/
def GvC (υ : Hp) (H : Nat → Nat) (v e : Nat) : Prop := hF υ 23 2 = .int (nI (fG H v e v)) ∧ hF υ 23 3 = .int (nI (fD H v e)) ∧ ∀ i, i < fG H v e v → hI υ 25 i = nI (gvl (fG H v e) v i) ∧ hI υ 26 i = nI (gvl (fW H v e) v i)
def GvM (υ : Hp) (H : Nat → Nat) (v e : Nat) : Prop := hF υ 57 46 = .int (nI (fG H v e v)) ∧ hF υ 57 47 = .int (nI (fD H v e)) ∧ ∀ i, i < fG H v e v → hI υ 79 i = nI (gvl (fG H v e) v i) ∧ hI υ 80 i = nI (gvl (fW H v e) v i)
def Qf (σ τ : Hp) : Prop := Ag (fun k => Nat.beq k 25 || Nat.beq k 26) (fun k j => Nat.beq k 23 && (Nat.beq j 2 || Nat.beq j 3)) σ τ
theorem Qf_c {σ τ : Hp} (g : Qf σ τ) : Qc σ τ := Ag_w g (fun k e => by
  simp only [Bool.or_eq_true] at e
  rcases e with e | e <;> (have := Nat.eq_of_beq_eq_true e; subst this; rfl)) (fun k j e => by
  simp only [Bool.and_eq_true, Bool.or_eq_true] at e
  obtain ⟨e1, e2 | e2⟩ := e <;>
  · have e1 := Nat.eq_of_beq_eq_true e1
    have e2 := Nat.eq_of_beq_eq_true e2
    subst e1 e2; rfl)
theorem Cal_f {σ τ : Hp} {v : Nat} {H : Nat → Nat} (g : Qf σ τ) (h : Cal σ v H) : Cal τ v H := fun u e hu he => by rw [Ag_i g 22 rfl]; exact h u e hu he
section
variable {d v e : Nat} {H : Nat → Nat} {σ ρ τ : Hp}
/-- enter: the list q gets u, n times, from a on -/
theorem C_enter {q a n u : Nat} {L : Nat → Nat} (hk : kd τ q = 100) (hl : hL τ q = 8) (han : a + n ≤ 8) (hL : ∀ i, i < a → hI τ q i = nI (L i)) : ∃ f, den (d, 18, 0, [.ref q, .int (nI a), .int (nI u), .int (nI n), .float 0, .float 0], [], τ) = some (some (.int (nI (a + n))), sI τ q f) ∧ ∀ i, i < a + n → f i = nI (if a ≤ i then u else L i) := by
  have key := lp (α := Nat → Int32) (h := fun i f => (d, 18, 6, [.ref q, .int (nI a), .int (nI u), .int (nI n), .int (nI (a + i)), .int (nI i)], [], sI τ q f)) (I := fun i f => ∀ j, j < a + i → f j = nI (if a ≤ j then u else L j)) (Q := fun r υ => ∃ f, r = some (.int (nI (a + n))) ∧ υ = sI τ q f ∧ ∀ i, i < a + n → f i = nI (if a ≤ i then u else L i)) n ?_ ?_ 0 (hI τ q) (Nat.zero_le _) (fun j hj => by rw [if_neg (by omega)]; exact hL j hj)
  · obtain ⟨r, υ, e1, f, rfl, rfl, hf⟩ := key
    refine ⟨f, ?_, hf⟩
    rw [← e1]
    simp (disch := first | omega | (repeat (first | assumption | exact Ag_r | refine Ag_I ?_ rfl | refine Ag_F ?_ rfl | refine Ag_J ?_ rfl))) only [A18, Nat.add_zero, sI_self, CO, HA, HB, HC, Nat.not_lt_zero, Nat.add_assoc, c_nlt, c_nle, c_neq, c_P, c_cl, c_m1, c_m1', nI_add, pk_mul, reduceIte, Nat.reduceEqDiff, Nat.reduceAdd, Nat.reduceMul, Nat.reduceLeDiff, eq_self, ↓pk_rem, pk_div, c_of, d_le, d_nle, d_lt, d_nlt, d_eq, d_ne]
  · intro i f hi hf nx
    have nn := nx (upd f (a + i) (nI u)) (fun j hj => by
      rw [ua]
      by_cases z : j = a + i
      · rw [if_pos z, if_pos (by omega)]
      · rw [if_neg z]; exact hf j (by omega))
    refine Ev_e ?_ nn
    show den (d, 18, 6, [.ref q, .int (nI a), .int (nI u), .int (nI n), .int (nI (a + i)), .int (nI i)], [], sI τ q f) = _
    rw [a18_6]
    simp (disch := first | omega | (repeat (first | assumption | exact Ag_r | refine Ag_I ?_ rfl | refine Ag_F ?_ rfl | refine Ag_J ?_ rfl))) only [A18, hk, hl, CO, HA, HB, HC, Nat.not_lt_zero, Nat.add_assoc, c_nlt, c_nle, c_neq, c_P, c_cl, c_m1, c_m1', nI_add, pk_mul, reduceIte, Nat.reduceEqDiff, Nat.reduceAdd, Nat.reduceMul, Nat.reduceLeDiff, eq_self, ↓pk_rem, pk_div, c_of, d_le, d_nle, d_lt, d_nlt, d_eq, d_ne]
  · intro f hf
    show Ev (den (d, 18, 6, [.ref q, .int (nI a), .int (nI u), .int (nI n), .int (nI (a + n)), .int (nI n)], [], sI τ q f)) _
    rw [a18_6]
    simp (disch := first | omega | (repeat (first | assumption | exact Ag_r | refine Ag_I ?_ rfl | refine Ag_F ?_ rfl | refine Ag_J ?_ rfl))) only [A18, hk, hl, CO, HA, HB, HC, Nat.not_lt_zero, Nat.add_assoc, c_nlt, c_nle, c_neq, c_P, c_cl, c_m1, c_m1', nI_add, pk_mul, reduceIte, Nat.reduceEqDiff, Nat.reduceAdd, Nat.reduceMul, Nat.reduceLeDiff, eq_self, ↓pk_rem, pk_div, c_of, d_le, d_nle, d_lt, d_nlt, d_eq, d_ne]
    exact Ev_s ⟨f, rfl, rfl, hf⟩
theorem C_enter0 {q a u : Nat} {x : Int32} (hx : ¬ nI 0 < x) : den (d, 18, 0, [.ref q, .int (nI a), .int (nI u), .int x, .float 0, .float 0], [], τ) = some (some (.int (nI a)), τ) := by
  have hx' : (x ≤ nI 0) = True := eq_true (Int32.not_lt.mp hx)
  simp (disch := first | omega | (repeat (first | assumption | exact Ag_r | refine Ag_I ?_ rfl | refine Ag_F ?_ rfl | refine Ag_J ?_ rfl))) only [A18, CO, HA, HB, HC, Nat.not_lt_zero, Nat.add_assoc, c_nlt, c_nle, c_neq, c_P, c_cl, c_m1, c_m1', nI_add, pk_mul, reduceIte, Nat.reduceEqDiff, Nat.reduceAdd, Nat.reduceMul, Nat.reduceLeDiff, eq_self, ↓pk_rem, pk_div, c_of, d_le, d_nle, d_lt, d_nlt, d_eq, d_ne]
  rw [a18_6]
  simp (disch := first | omega | (repeat (first | assumption | exact Ag_r | refine Ag_I ?_ rfl | refine Ag_F ?_ rfl | refine Ag_J ?_ rfl))) only [A18, hx', CO, HA, HB, HC, Nat.not_lt_zero, Nat.add_assoc, c_nlt, c_nle, c_neq, c_P, c_cl, c_m1, c_m1', nI_add, pk_mul, reduceIte, Nat.reduceEqDiff, Nat.reduceAdd, Nat.reduceMul, Nat.reduceLeDiff, eq_self, ↓pk_rem, pk_div, c_of, d_le, d_nle, d_lt, d_nlt, d_eq, d_ne]
theorem zI_sub_n (a b : Nat) : nI a - nI b = zI ((a : Int) - b) := by rw [← zI_n, ← zI_n, zI_sub]
theorem C_invite (hC : FxC σ) (sC : StC σ v H) (hw : Wf v H) (he : e < 28) (hq : Qc σ τ) (hc : Cal τ v H) : Ev (den (d + 2, 17, 0, [.ref 23, .ref 1, .ref 21, .int (nI e), .float 0, .float 0, .float 0, .float 0], [], τ)) (fun a υ => Qf τ υ ∧ ((¬ Fst H v e ∧ a = some (.int (nI 0))) ∨ (Fst H v e ∧ a = some (.int (nI 1)) ∧ GvC υ H v e))) := by
  have hv1 := hw.1
  have hv8 := hw.2.1
  have h' := Qc_C hq hC
  have e1 := Ag_f hq 1 0 rfl
  have gb : ∀ u, gsm (fun u => bef H v u e) u ≤ u * 224 := fun u => gsm_le _ (fun i _ => by have := bef_le H i (show e ≤ 28 by omega) v; omega)
  simp (disch := first | omega | (repeat (first | assumption | exact Ag_r | refine Ag_I ?_ rfl | refine Ag_F ?_ rfl | refine Ag_J ?_ rfl))) only [A17, CO, HA, HB, HC, Nat.not_lt_zero, Nat.add_assoc, c_nlt, c_nle, c_neq, c_P, c_cl, c_m1, c_m1', nI_add, pk_mul, reduceIte, Nat.reduceEqDiff, Nat.reduceAdd, Nat.reduceMul, Nat.reduceLeDiff, eq_self, ↓pk_rem, pk_div, c_of, d_le, d_nle, d_lt, d_nlt, d_eq, d_ne]
  refine lp (α := Unit) (h := fun u _ => (d + 2, 17, 6, [.ref 23, .ref 1, .ref 21, .int (nI e), .int (nI (gsm (fun u => bef H v u e) u)), .int (nI u), .float 0, .float 0], [], τ)) (I := fun u _ => ∀ u', u' < u → tm H v u' e = 1) v ?_ ?_ 0 () (Nat.zero_le _) (fun u hu => absurd hu (Nat.not_lt_zero u))
  · intro u _ hu al nx
    have b1 := C_before (d := d + 1) hC hv8 (show u < 8 by omega) (show e ≤ 28 by omega) hq hc
    have b2 := C_times (d := d) hC hv8 (show u < 8 by omega) he hq hc
    have g1 := gb u
    have t1 := tm_le H v u e
    have l1 := bef_le H u (show e ≤ 28 by omega) v
    show Ev (den (d + 2, 17, 6, [.ref 23, .ref 1, .ref 21, .int (nI e), .int (nI (gsm (fun u => bef H v u e) u)), .int (nI u), .float 0, .float 0], [], τ)) _
    rw [a17_6]
    by_cases z : tm H v u e = 1
    · refine Ev_e ?_ (nx () (fun u' hu' => by
        by_cases y : u' = u
        · rw [y]; exact z
        · exact al u' (by omega)))
      simp only [gsm]
      simp (disch := first | omega | (repeat (first | assumption | exact Ag_r | refine Ag_I ?_ rfl | refine Ag_F ?_ rfl | refine Ag_J ?_ rfl))) only [A17, FC h', e1, sC.1, b2, z, b1, CO, HA, HB, HC, Nat.not_lt_zero, Nat.add_assoc, c_nlt, c_nle, c_neq, c_P, c_cl, c_m1, c_m1', nI_add, pk_mul, reduceIte, Nat.reduceEqDiff, Nat.reduceAdd, Nat.reduceMul, Nat.reduceLeDiff, eq_self, ↓pk_rem, pk_div, c_of, d_le, d_nle, d_lt, d_nlt, d_eq, d_ne]
    · simp (disch := first | omega | (repeat (first | assumption | exact Ag_r | refine Ag_I ?_ rfl | refine Ag_F ?_ rfl | refine Ag_J ?_ rfl))) only [A17, FC h', e1, sC.1, b2, z, CO, HA, HB, HC, Nat.not_lt_zero, Nat.add_assoc, c_nlt, c_nle, c_neq, c_P, c_cl, c_m1, c_m1', nI_add, pk_mul, reduceIte, Nat.reduceEqDiff, Nat.reduceAdd, Nat.reduceMul, Nat.reduceLeDiff, eq_self, ↓pk_rem, pk_div, c_of, d_le, d_nle, d_lt, d_nlt, d_eq, d_ne]
      exact Ev_s ⟨Ag_r, Or.inl ⟨fun F => z (F.1 u hu), rfl⟩⟩
  · intro _ al
    have g1 := gb v
    show Ev (den (d + 2, 17, 6, [.ref 23, .ref 1, .ref 21, .int (nI e), .int (nI (gsm (fun u => bef H v u e) v)), .int (nI v), .float 0, .float 0], [], τ)) _
    have m8 : gsm (fun u => bef H v u e) v ≤ 1792 := by omega
    have ml : gsm (fun u => bef H v u e) v % v < 8 := by have := Nat.mod_lt (gsm (fun u => bef H v u e) v) (show 0 < v by omega); omega
    rw [a17_6]
    by_cases z : gsm (fun u => bef H v u e) v % v = 0
    · have dle : fD H v e ≤ 1792 := by unfold fD; have := Nat.div_le_self (gsm (fun u => bef H v u e) v) v; omega
      have gd : gsm (fun u => bef H v u e) v / v = fD H v e := rfl
      simp (disch := first | omega | (repeat (first | assumption | exact Ag_r | refine Ag_I ?_ rfl | refine Ag_F ?_ rfl | refine Ag_J ?_ rfl))) only [A17, FC h', e1, sC.1, z, gd, CO, HA, HB, HC, Nat.not_lt_zero, Nat.add_assoc, c_nlt, c_nle, c_neq, c_P, c_cl, c_m1, c_m1', nI_add, pk_mul, reduceIte, Nat.reduceEqDiff, Nat.reduceAdd, Nat.reduceMul, Nat.reduceLeDiff, eq_self, ↓pk_rem, pk_div, c_of, d_le, d_nle, d_lt, d_nlt, d_eq, d_ne]
      refine lp (α := Hp × Value) (h := fun u x => (d + 2, 17, 88, [.ref 23, .ref 1, .ref 21, .int (nI e), .int (nI (gsm (fun u => bef H v u e) v)), .int (nI (fW H v e u)), .int (nI u), x.2], [], x.1)) (I := fun u x => Qf τ x.1 ∧ (fG H v e u ≤ 8 ∧ fW H v e u ≤ 8) ∧ hF x.1 23 2 = .int (nI (fG H v e u)) ∧ hF x.1 23 3 = .int (nI (fD H v e)) ∧ (∀ i, i < fG H v e u → hI x.1 25 i = nI (gvl (fG H v e) u i)) ∧ (∀ i, i < fW H v e u → hI x.1 26 i = nI (gvl (fW H v e) u i))) v ?_ ?_ 0 (sF (sF τ 23 3 (.int (nI (fD H v e)))) 23 2 (.int (nI 0)), .float 0) (Nat.zero_le _) ⟨Ag_F (Ag_F Ag_r rfl) rfl, ⟨Nat.zero_le _, Nat.zero_le _⟩, by simp only [HA, and_self, reduceIte]; rfl, by simp only [HA, Nat.reduceEqDiff, and_false, and_self, reduceIte], fun i hi => absurd hi (Nat.not_lt_zero i), fun i hi => absurd hi (Nat.not_lt_zero i)⟩
      · intro u ⟨υ, l⟩ hu ⟨g, ⟨a1, a2⟩, a3, a4, a5, a6⟩ nx
        dsimp only at g a3 a4 a5 a6
        have hq2 : Qc σ υ := Ag_t hq (Qf_c g)
        have h2 := Qc_C hq2 hC
        have e2 := Ag_f hq2 1 0 rfl
        have b1 := C_before (d := d + 1) hC hv8 (show u < 8 by omega) (show e ≤ 28 by omega) hq2 (Cal_f g hc)
        have l1 := bef_le H u (show e ≤ 28 by omega) v
        have sG : fG H v e (u + 1) = fG H v e u + (bef H v u e - fD H v e) := rfl
        have sW : fW H v e (u + 1) = fW H v e u + (fD H v e - bef H v u e) := rfl
        have mG := gsm_mono (fun u => bef H v u e - fD H v e) (show u + 1 ≤ v by omega)
        have mW := gsm_mono (fun u => fD H v e - bef H v u e) (show u + 1 ≤ v by omega)
        have mG' : fG H v e (u + 1) ≤ fG H v e v := mG
        have mW' : fW H v e (u + 1) ≤ fW H v e v := mW
        have eq := fG_W hv1 z
        have k25 : kd υ 25 = 100 ∧ hL υ 25 = 8 := by have z := FC h2; simp only [z, and_self]
        have k26 : kd υ 26 = 100 ∧ hL υ 26 = 8 := by have z := FC h2; simp only [z, and_self]
        show Ev (den (d + 2, 17, 88, [.ref 23, .ref 1, .ref 21, .int (nI e), .int (nI (gsm (fun u => bef H v u e) v)), .int (nI (fW H v e u)), .int (nI u), l], [], υ)) _
        rw [a17_88]
        rcases Nat.lt_or_ge (bef H v u e) (fD H v e) with o | o
        · -- too few
          have q0 : fG H v e (u + 1) = fG H v e u := by omega
          obtain ⟨n, hn⟩ : ∃ n, fD H v e = bef H v u e + n := ⟨fD H v e - bef H v u e, by omega⟩
          have q1 : fW H v e (u + 1) = fW H v e u + n := by omega
          have ov : nI (bef H v u e) - nI (fD H v e) = zI (-(n : Int)) := by rw [zI_sub_n]; congr 1; omega
          have c1 : (nI 8 < nI (fG H v e u) + zI (-(n : Int))) = False := by
            rw [← zI_n (fG H v e u), zI_add, show nI 8 = zI 8 from rfl, zI_lt (by omega) (by omega)]; exact eq_false (by omega)
          have c2 : (nI (fW H v e u) - zI (-(n : Int)) ≤ nI 8) = (fW H v e u + n ≤ 8) := by
            rw [← zI_n (fW H v e u), zI_sub, show nI 8 = zI 8 from rfl, zI_le (by omega) (by omega), eq_iff_iff]; omega
          have c2' : (nI 8 < nI (fW H v e u) - zI (-(n : Int))) = ¬ (fW H v e u + n ≤ 8) := by
            rw [← zI_n (fW H v e u), zI_sub, show nI 8 = zI 8 from rfl, zI_lt (by omega) (by omega), eq_iff_iff]; omega
          have c1' : (nI (fG H v e u) + zI (-(n : Int)) ≤ nI 8) = True := by
            rw [← zI_n (fG H v e u), zI_add, show nI 8 = zI 8 from rfl, zI_le (by omega) (by omega)]; exact eq_true (by omega)
          by_cases w : fW H v e u + n ≤ 8
          · have en0 := fun (τ : Hp) => C_enter0 (d := d + 1) (τ := τ) (q := 25) (a := fG H v e u) (u := u) (x := zI (-(n : Int))) (by rw [show nI 0 = zI 0 from rfl, zI_lt (by omega) (by omega)]; omega)
            have ng' : -zI (-(n : Int)) = nI n := by
              rw [← zI_n]
              apply Int32.toInt_inj.mp
              rw [Int32.toInt_neg, zI_t (by omega) (by omega), zI_t (by omega) (by omega), Int.neg_neg]
              exact Int.bmod_eq_of_le (by omega) (by omega)
            obtain ⟨f, e4, hf⟩ := C_enter (d := d + 1) (τ := sF υ 23 2 (.int (nI (fG H v e u)))) (u := u) (n := n) k26.1 k26.2 w (L := gvl (fW H v e) u) (by simpa only [HA] using a6)
            have nn := nx (sI (sF υ 23 2 (.int (nI (fG H v e u)))) 26 f, .int (zI (-(n : Int)))) ⟨Ag_I (Ag_F g rfl) rfl, ⟨by omega, by omega⟩, by simp only [HA, and_self, reduceIte, q0], by simp only [HA, Nat.reduceEqDiff, and_false, reduceIte]; exact a4, fun i hi => by
              simp only [HA, Nat.reduceEqDiff, reduceIte, gvl]
              rw [if_neg (by omega)]
              exact a5 i (by omega), fun i hi => by
              simp only [HA, reduceIte, gvl]
              exact hf i (by omega)⟩
            rw [q1] at nn
            refine Ev_e ?_ nn
            simp (disch := first | omega | (repeat (first | assumption | exact Ag_r | refine Ag_I ?_ rfl | refine Ag_F ?_ rfl | refine Ag_J ?_ rfl))) only [A17, FC h2, e2, sC.1, b1, a3, a4, ov, c1, c1', c2, c2', eq_true w, en0, ng', e4, CO, HA, HB, HC, Nat.not_lt_zero, Nat.add_assoc, c_nlt, c_nle, c_neq, c_P, c_cl, c_m1, c_m1', nI_add, pk_mul, reduceIte, Nat.reduceEqDiff, Nat.reduceAdd, Nat.reduceMul, Nat.reduceLeDiff, eq_self, ↓pk_rem, pk_div, c_of, d_le, d_nle, d_lt, d_nlt, d_eq, d_ne]
          · simp (disch := first | omega | (repeat (first | assumption | exact Ag_r | refine Ag_I ?_ rfl | refine Ag_F ?_ rfl | refine Ag_J ?_ rfl))) only [A17, FC h2, e2, sC.1, b1, a3, a4, ov, c1, c1', c2, c2', eq_false w, CO, HA, HB, HC, Nat.not_lt_zero, Nat.add_assoc, c_nlt, c_nle, c_neq, c_P, c_cl, c_m1, c_m1', nI_add, pk_mul, reduceIte, Nat.reduceEqDiff, Nat.reduceAdd, Nat.reduceMul, Nat.reduceLeDiff, eq_self, ↓pk_rem, pk_div, c_of, d_le, d_nle, d_lt, d_nlt, d_eq, d_ne]
            exact Ev_s ⟨g, Or.inl ⟨fun F => by have : fG H v e v ≤ 8 := F.2.2; omega, rfl⟩⟩
        · obtain ⟨n, hn⟩ : ∃ n, bef H v u e = fD H v e + n := ⟨bef H v u e - fD H v e, by omega⟩
          have q0 : fW H v e (u + 1) = fW H v e u := by omega
          have q1 : fG H v e (u + 1) = fG H v e u + n := by omega
          have ov : nI (bef H v u e) - nI (fD H v e) = nI n := by rw [pk_sub (by omega)]; congr 1; omega
          have c2 : (nI (fW H v e u) - nI n ≤ nI 8) = True := by
            rw [zI_sub_n, show nI 8 = zI 8 from rfl, zI_le (by omega) (by omega)]; exact eq_true (by omega)
          have c2' : (nI 8 < nI (fW H v e u) - nI n) = False := by
            rw [zI_sub_n, show nI 8 = zI 8 from rfl, zI_lt (by omega) (by omega)]; exact eq_false (by omega)
          by_cases w : fG H v e u + n ≤ 8
          · have ng' : -nI n = zI (-(n : Int)) := by
              rw [← zI_n]
              apply Int32.toInt_inj.mp
              rw [Int32.toInt_neg, zI_t (by omega) (by omega), zI_t (by omega) (by omega)]
              exact Int.bmod_eq_of_le (by omega) (by omega)
            have en0 := fun (τ : Hp) => C_enter0 (d := d + 1) (τ := τ) (q := 26) (a := fW H v e u) (u := u) (x := zI (-(n : Int))) (by rw [show nI 0 = zI 0 from rfl, zI_lt (by omega) (by omega)]; omega)
            obtain ⟨f, e4, hf⟩ := C_enter (d := d + 1) (τ := υ) (u := u) (n := n) k25.1 k25.2 w (L := gvl (fG H v e) u) a5
            have nn := nx (sF (sI υ 25 f) 23 2 (.int (nI (fG H v e u + n))), .int (nI n)) ⟨Ag_F (Ag_I g rfl) rfl, ⟨by omega, by omega⟩, by simp only [HA, and_self, reduceIte, q1], by simp only [HA, Nat.reduceEqDiff, and_false, reduceIte]; exact a4, fun i hi => by
              simp only [HA, reduceIte, gvl]
              exact hf i (by omega), fun i hi => by
              simp only [HA, Nat.reduceEqDiff, reduceIte, gvl]
              rw [if_neg (by omega)]
              exact a6 i (by omega)⟩
            rw [q0] at nn
            refine Ev_e ?_ nn
            simp (disch := first | omega | (repeat (first | assumption | exact Ag_r | refine Ag_I ?_ rfl | refine Ag_F ?_ rfl | refine Ag_J ?_ rfl))) only [A17, FC h2, e2, sC.1, b1, a3, a4, ov, c2, c2', w, e4, ng', en0, CO, HA, HB, HC, Nat.not_lt_zero, Nat.add_assoc, c_nlt, c_nle, c_neq, c_P, c_cl, c_m1, c_m1', nI_add, pk_mul, reduceIte, Nat.reduceEqDiff, Nat.reduceAdd, Nat.reduceMul, Nat.reduceLeDiff, eq_self, ↓pk_rem, pk_div, c_of, d_le, d_nle, d_lt, d_nlt, d_eq, d_ne]
          · simp (disch := first | omega | (repeat (first | assumption | exact Ag_r | refine Ag_I ?_ rfl | refine Ag_F ?_ rfl | refine Ag_J ?_ rfl))) only [A17, FC h2, e2, sC.1, b1, a3, a4, ov, c2, c2', w, CO, HA, HB, HC, Nat.not_lt_zero, Nat.add_assoc, c_nlt, c_nle, c_neq, c_P, c_cl, c_m1, c_m1', nI_add, pk_mul, reduceIte, Nat.reduceEqDiff, Nat.reduceAdd, Nat.reduceMul, Nat.reduceLeDiff, eq_self, ↓pk_rem, pk_div, c_of, d_le, d_nle, d_lt, d_nlt, d_eq, d_ne]
            exact Ev_s ⟨g, Or.inl ⟨fun F => by have : fG H v e v ≤ 8 := F.2.2; omega, rfl⟩⟩
      · intro ⟨υ, l⟩ ⟨g, ⟨a1, a2⟩, a3, a4, a5, a6⟩
        dsimp only at g a3 a4 a5 a6
        have hq2 : Qc σ υ := Ag_t hq (Qf_c g)
        have h2 := Qc_C hq2 hC
        have e2 := Ag_f hq2 1 0 rfl
        have eq := fG_W hv1 z
        show Ev (den (d + 2, 17, 88, [.ref 23, .ref 1, .ref 21, .int (nI e), .int (nI (gsm (fun u => bef H v u e) v)), .int (nI (fW H v e v)), .int (nI v), l], [], υ)) _
        rw [a17_88]
        simp (disch := first | omega | (repeat (first | assumption | exact Ag_r | refine Ag_I ?_ rfl | refine Ag_F ?_ rfl | refine Ag_J ?_ rfl))) only [A17, FC h2, e2, sC.1, a3, eq, CO, HA, HB, HC, Nat.not_lt_zero, Nat.add_assoc, c_nlt, c_nle, c_neq, c_P, c_cl, c_m1, c_m1', nI_add, pk_mul, reduceIte, Nat.reduceEqDiff, Nat.reduceAdd, Nat.reduceMul, Nat.reduceLeDiff, eq_self, ↓pk_rem, pk_div, c_of, d_le, d_nle, d_lt, d_nlt, d_eq, d_ne]
        exact Ev_s ⟨g, Or.inr ⟨⟨al, z, a1⟩, rfl, a3, a4, fun i hi => ⟨a5 i hi, a6 i (by omega)⟩⟩⟩
    · simp (disch := first | omega | (repeat (first | assumption | exact Ag_r | refine Ag_I ?_ rfl | refine Ag_F ?_ rfl | refine Ag_J ?_ rfl))) only [A17, FC h', e1, sC.1, z, CO, HA, HB, HC, Nat.not_lt_zero, Nat.add_assoc, c_nlt, c_nle, c_neq, c_P, c_cl, c_m1, c_m1', nI_add, pk_mul, reduceIte, Nat.reduceEqDiff, Nat.reduceAdd, Nat.reduceMul, Nat.reduceLeDiff, eq_self, ↓pk_rem, pk_div, c_of, d_le, d_nle, d_lt, d_nlt, d_eq, d_ne]
      exact Ev_s ⟨Ag_r, Or.inl ⟨fun F => z F.2.1, rfl⟩⟩
theorem M_aheadOf (hM : FxM ρ) (hv : hI ρ 59 0 = nI v) (hv8 : v ≤ 8) (hH : ∀ c, c < 224 → H c < 8) {u : Nat} (hu : u < 8) (he : e ≤ 28) (hq : Qm ρ τ) (hl : ∀ c, c < 224 → hI τ 72 c = nI (H c)) : den (d + 1, 205, 0, [.ref 57, .int (nI u), .int (nI e), .float 0, .float 0, .float 0], [], τ) = some (some (.int (nI (bef H v u e))), τ) := by
  have h' := Qm_M hq hM
  have key := lp (α := Value) (h := fun o l => (d + 1, 205, 5, [.ref 57, .int (nI u), .int (nI e), .int (nI (bef H o u e)), .int (nI o), l], [], τ)) (I := fun o l => True) (Q := fun r υ => r = some (.int (nI (bef H v u e))) ∧ υ = τ) v ?_ ?_ 0 (.float 0) (Nat.zero_le _) trivial
  · obtain ⟨r, υ, e1, rfl, rfl⟩ := key
    rw [← e1]
    simp (disch := first | omega | (repeat (first | assumption | exact Ag_r | refine Ag_I ?_ rfl | refine Ag_F ?_ rfl | refine Ag_J ?_ rfl))) only [A205, CO, HA, HB, HC, Nat.not_lt_zero, Nat.add_assoc, c_nlt, c_nle, c_neq, c_P, c_cl, c_m1, c_m1', nI_add, pk_mul, reduceIte, Nat.reduceEqDiff, Nat.reduceAdd, Nat.reduceMul, Nat.reduceLeDiff, eq_self, ↓pk_rem, pk_div, c_of, d_le, d_nle, d_lt, d_nlt, d_eq, d_ne]
    rfl
  · intro o l ho _ nx
    have bl := bef_le H u he o
    show Ev (den (d + 1, 205, 5, [.ref 57, .int (nI u), .int (nI e), .int (nI (bef H o u e)), .int (nI o), l], [], τ)) _
    rw [a205_5]
    simp (disch := first | omega | (repeat (first | assumption | exact Ag_r | refine Ag_I ?_ rfl | refine Ag_F ?_ rfl | refine Ag_J ?_ rfl))) only [A205, FM h', M_villages' hM hq, hv, CO, HA, HB, HC, Nat.not_lt_zero, Nat.add_assoc, c_nlt, c_nle, c_neq, c_P, c_cl, c_m1, c_m1', nI_add, pk_mul, reduceIte, Nat.reduceEqDiff, Nat.reduceAdd, Nat.reduceMul, Nat.reduceLeDiff, eq_self, ↓pk_rem, pk_div, c_of, d_le, d_nle, d_lt, d_nlt, d_eq, d_ne]
    have k2 := lq (h := fun i => (d + 1, 205, 17, [.ref 57, .int (nI u), .int (nI e), .int (nI (bef H o u e + cB (fun i => decide (H (28 * o + i) = u)) i)), .int (nI o), .int (nI i)], [], τ)) e (by
      intro i hi
      have e3 := hl (28 * o + i) (by omega)
      have e4 := hH (28 * o + i) (by omega)
      have cb := cB_le (fun i => decide (H (28 * o + i) = u)) i
      rw [a205_17]
      by_cases z : H (28 * o + i) = u
      · rw [cB_y (n := i) (by simp [z])]
        simp (disch := first | omega | (repeat (first | assumption | exact Ag_r | refine Ag_I ?_ rfl | refine Ag_F ?_ rfl | refine Ag_J ?_ rfl))) only [A205, FM h', e3, z, CO, HA, HB, HC, Nat.not_lt_zero, Nat.add_assoc, c_nlt, c_nle, c_neq, c_P, c_cl, c_m1, c_m1', nI_add, pk_mul, reduceIte, Nat.reduceEqDiff, Nat.reduceAdd, Nat.reduceMul, Nat.reduceLeDiff, eq_self, ↓pk_rem, pk_div, c_of, d_le, d_nle, d_lt, d_nlt, d_eq, d_ne]
      · rw [cB_n (n := i) (by simp [z])]
        simp (disch := first | omega | (repeat (first | assumption | exact Ag_r | refine Ag_I ?_ rfl | refine Ag_F ?_ rfl | refine Ag_J ?_ rfl))) only [A205, FM h', e3, z, Nat.add_zero, CO, HA, HB, HC, Nat.not_lt_zero, Nat.add_assoc, c_nlt, c_nle, c_neq, c_P, c_cl, c_m1, c_m1', nI_add, pk_mul, reduceIte, Nat.reduceEqDiff, Nat.reduceAdd, Nat.reduceMul, Nat.reduceLeDiff, eq_self, ↓pk_rem, pk_div, c_of, d_le, d_nle, d_lt, d_nlt, d_eq, d_ne]
      ) 0 (Nat.zero_le _)
    have z0 : cB (fun i => decide (H (28 * o + i) = u)) 0 = 0 := rfl
    simp only [z0, Nat.add_zero] at k2
    rw [k2]
    have nn := nx (.int (nI e)) trivial
    refine Ev_e ?_ nn
    show den (d + 1, 205, 17, [.ref 57, .int (nI u), .int (nI e), .int (nI (bef H o u e + cB (fun i => decide (H (28 * o + i) = u)) e)), .int (nI o), .int (nI e)], [], τ) = _
    rw [a205_17]
    simp (disch := first | omega | (repeat (first | assumption | exact Ag_r | refine Ag_I ?_ rfl | refine Ag_F ?_ rfl | refine Ag_J ?_ rfl))) only [A205, CO, HA, HB, HC, Nat.not_lt_zero, Nat.add_assoc, c_nlt, c_nle, c_neq, c_P, c_cl, c_m1, c_m1', nI_add, pk_mul, reduceIte, Nat.reduceEqDiff, Nat.reduceAdd, Nat.reduceMul, Nat.reduceLeDiff, eq_self, ↓pk_rem, pk_div, c_of, d_le, d_nle, d_lt, d_nlt, d_eq, d_ne]
    rfl
  · intro l _
    show Ev (den (d + 1, 205, 5, [.ref 57, .int (nI u), .int (nI e), .int (nI (bef H v u e)), .int (nI v), l], [], τ)) _
    rw [a205_5]
    simp (disch := first | omega | (repeat (first | assumption | exact Ag_r | refine Ag_I ?_ rfl | refine Ag_F ?_ rfl | refine Ag_J ?_ rfl))) only [A205, FM h', M_villages' hM hq, hv, CO, HA, HB, HC, Nat.not_lt_zero, Nat.add_assoc, c_nlt, c_nle, c_neq, c_P, c_cl, c_m1, c_m1', nI_add, pk_mul, reduceIte, Nat.reduceEqDiff, Nat.reduceAdd, Nat.reduceMul, Nat.reduceLeDiff, eq_self, ↓pk_rem, pk_div, c_of, d_le, d_nle, d_lt, d_nlt, d_eq, d_ne]
    exact Ev_s ⟨rfl, rfl⟩
def Qg (σ τ : Hp) : Prop := Ag (fun k => Nat.beq k 79 || Nat.beq k 80) (fun k j => Nat.beq k 57 && (Nat.beq j 46 || Nat.beq j 47)) σ τ
theorem Qg_m {σ τ : Hp} (g : Qg σ τ) : Qm σ τ := Ag_w g (fun k e => by
  simp only [Bool.or_eq_true] at e
  rcases e with e | e <;> (have := Nat.eq_of_beq_eq_true e; subst this; rfl)) (fun k j e => by
  simp only [Bool.and_eq_true, Bool.or_eq_true] at e
  obtain ⟨e1, e2 | e2⟩ := e <;>
  · have e1 := Nat.eq_of_beq_eq_true e1
    have e2 := Nat.eq_of_beq_eq_true e2
    subst e1 e2; rfl)
theorem M_isEaster (hM : FxM ρ) (sM : StM ρ v H) (hw : Wf v H) (he : e < 28) (hq : Qm ρ τ) (hl : ∀ c, c < 224 → hI τ 72 c = nI (H c)) : Ev (den (d + 2, 206, 0, [.ref 57, .int (nI e), .float 0, .float 0, .float 0, .float 0, .float 0, .float 0], [], τ)) (fun a υ => Qg τ υ ∧ ((¬ Fst H v e ∧ a = some (.int (nI 0))) ∨ (Fst H v e ∧ a = some (.int (nI 1)) ∧ GvM υ H v e))) := by
  have hv1 := hw.1
  have hv8 := hw.2.1
  have h' := Qm_M hq hM
  have hH : ∀ c, c < 224 → H c < 8 := fun c hc => Wf_8 hw hc
  have gb : ∀ u, gsm (fun u => bef H v u e) u ≤ u * 224 := fun u => gsm_le _ (fun i _ => by have := bef_le H i (show e ≤ 28 by omega) v; omega)
  simp (disch := first | omega | (repeat (first | assumption | exact Ag_r | refine Ag_I ?_ rfl | refine Ag_F ?_ rfl | refine Ag_J ?_ rfl))) only [A206, FM h', M_villages' hM hq, sM.1, CO, HA, HB, HC, Nat.not_lt_zero, Nat.add_assoc, c_nlt, c_nle, c_neq, c_P, c_cl, c_m1, c_m1', nI_add, pk_mul, reduceIte, Nat.reduceEqDiff, Nat.reduceAdd, Nat.reduceMul, Nat.reduceLeDiff, eq_self, ↓pk_rem, pk_div, c_of, d_le, d_nle, d_lt, d_nlt, d_eq, d_ne]
  refine lp (α := Value × Value) (h := fun u x => (d + 2, 206, 10, [.ref 57, .int (nI e), .int (nI v), .int (nI (gsm (fun u => bef H v u e) u)), .int (nI u), x.1, x.2, .float 0], [], τ)) (I := fun u _ => ∀ u', u' < u → tm H v u' e = 1) v ?_ ?_ 0 (.float 0, .float 0) (Nat.zero_le _) (fun u hu => absurd hu (Nat.not_lt_zero u))
  · intro u ⟨x1, x2⟩ hu al nx
    have ah := M_aheadOf (d := d) hM sM.1 hv8 hH (show u < 8 by omega) (show e ≤ 28 by omega) hq hl
    have g1 := gb u
    have t1 := tm_le H v u e
    have l1 := bef_le H u (show e ≤ 28 by omega) v
    show Ev (den (d + 2, 206, 10, [.ref 57, .int (nI e), .int (nI v), .int (nI (gsm (fun u => bef H v u e) u)), .int (nI u), x1, x2, .float 0], [], τ)) _
    rw [a206_10]
    simp (disch := first | omega | (repeat (first | assumption | exact Ag_r | refine Ag_I ?_ rfl | refine Ag_F ?_ rfl | refine Ag_J ?_ rfl))) only [A206, CO, HA, HB, HC, Nat.not_lt_zero, Nat.add_assoc, c_nlt, c_nle, c_neq, c_P, c_cl, c_m1, c_m1', nI_add, pk_mul, reduceIte, Nat.reduceEqDiff, Nat.reduceAdd, Nat.reduceMul, Nat.reduceLeDiff, eq_self, ↓pk_rem, pk_div, c_of, d_le, d_nle, d_lt, d_nlt, d_eq, d_ne]
    have k2 := lq (h := fun o => (d + 2, 206, 22, [.ref 57, .int (nI e), .int (nI v), .int (nI (gsm (fun u => bef H v u e) u)), .int (nI u), .int (nI (tm H o u e)), .int (nI o), .float 0], [], τ)) v (by
      intro o ho
      have e3 := hl (28 * o + e) (by omega)
      have e4 := hH (28 * o + e) (by omega)
      have cb := tm_le H o u e
      rw [a206_22]
      by_cases z : H (28 * o + e) = u
      · have w1 : tm H (o + 1) u e = tm H o u e + 1 := cB_y (by simp [z])
        rw [w1]
        simp (disch := first | omega | (repeat (first | assumption | exact Ag_r | refine Ag_I ?_ rfl | refine Ag_F ?_ rfl | refine Ag_J ?_ rfl))) only [A206, FM h', e3, z, CO, HA, HB, HC, Nat.not_lt_zero, Nat.add_assoc, c_nlt, c_nle, c_neq, c_P, c_cl, c_m1, c_m1', nI_add, pk_mul, reduceIte, Nat.reduceEqDiff, Nat.reduceAdd, Nat.reduceMul, Nat.reduceLeDiff, eq_self, ↓pk_rem, pk_div, c_of, d_le, d_nle, d_lt, d_nlt, d_eq, d_ne]
      · have w1 : tm H (o + 1) u e = tm H o u e := cB_n (by simp [z])
        rw [w1]
        simp (disch := first | omega | (repeat (first | assumption | exact Ag_r | refine Ag_I ?_ rfl | refine Ag_F ?_ rfl | refine Ag_J ?_ rfl))) only [A206, FM h', e3, z, Nat.add_zero, CO, HA, HB, HC, Nat.not_lt_zero, Nat.add_assoc, c_nlt, c_nle, c_neq, c_P, c_cl, c_m1, c_m1', nI_add, pk_mul, reduceIte, Nat.reduceEqDiff, Nat.reduceAdd, Nat.reduceMul, Nat.reduceLeDiff, eq_self, ↓pk_rem, pk_div, c_of, d_le, d_nle, d_lt, d_nlt, d_eq, d_ne]
      ) 0 (Nat.zero_le _)
    have z0 : tm H 0 u e = 0 := rfl
    rw [z0] at k2
    rw [k2, a206_22]
    by_cases z : tm H v u e = 1
    · refine Ev_e ?_ (nx (.int (nI 1), .int (nI v)) (fun u' hu' => by
        by_cases y : u' = u
        · rw [y]; exact z
        · exact al u' (by omega)))
      simp only [gsm]
      simp (disch := first | omega | (repeat (first | assumption | exact Ag_r | refine Ag_I ?_ rfl | refine Ag_F ?_ rfl | refine Ag_J ?_ rfl))) only [A206, FM h', z, ah, CO, HA, HB, HC, Nat.not_lt_zero, Nat.add_assoc, c_nlt, c_nle, c_neq, c_P, c_cl, c_m1, c_m1', nI_add, pk_mul, reduceIte, Nat.reduceEqDiff, Nat.reduceAdd, Nat.reduceMul, Nat.reduceLeDiff, eq_self, ↓pk_rem, pk_div, c_of, d_le, d_nle, d_lt, d_nlt, d_eq, d_ne]
    · simp (disch := first | omega | (repeat (first | assumption | exact Ag_r | refine Ag_I ?_ rfl | refine Ag_F ?_ rfl | refine Ag_J ?_ rfl))) only [A206, FM h', z, CO, HA, HB, HC, Nat.not_lt_zero, Nat.add_assoc, c_nlt, c_nle, c_neq, c_P, c_cl, c_m1, c_m1', nI_add, pk_mul, reduceIte, Nat.reduceEqDiff, Nat.reduceAdd, Nat.reduceMul, Nat.reduceLeDiff, eq_self, ↓pk_rem, pk_div, c_of, d_le, d_nle, d_lt, d_nlt, d_eq, d_ne]
      exact Ev_s ⟨Ag_r, Or.inl ⟨fun F => z (F.1 u hu), rfl⟩⟩
  · intro ⟨x1, x2⟩ al
    have g1 := gb v
    have m8 : gsm (fun u => bef H v u e) v ≤ 1792 := by omega
    have ml : gsm (fun u => bef H v u e) v % v < 8 := by have := Nat.mod_lt (gsm (fun u => bef H v u e) v) (show 0 < v by omega); omega
    have dle : fD H v e ≤ 1792 := by unfold fD; have := Nat.div_le_self (gsm (fun u => bef H v u e) v) v; omega
    have gd : gsm (fun u => bef H v u e) v / v = fD H v e := rfl
    show Ev (den (d + 2, 206, 10, [.ref 57, .int (nI e), .int (nI v), .int (nI (gsm (fun u => bef H v u e) v)), .int (nI v), x1, x2, .float 0], [], τ)) _
    rw [a206_10]
    by_cases z : gsm (fun u => bef H v u e) v % v = 0
    · simp (disch := first | omega | (repeat (first | assumption | exact Ag_r | refine Ag_I ?_ rfl | refine Ag_F ?_ rfl | refine Ag_J ?_ rfl))) only [A206, FM h', z, gd, CO, HA, HB, HC, Nat.not_lt_zero, Nat.add_assoc, c_nlt, c_nle, c_neq, c_P, c_cl, c_m1, c_m1', nI_add, pk_mul, reduceIte, Nat.reduceEqDiff, Nat.reduceAdd, Nat.reduceMul, Nat.reduceLeDiff, eq_self, ↓pk_rem, pk_div, c_of, d_le, d_nle, d_lt, d_nlt, d_eq, d_ne]
      refine lp (α := Hp × Value × Value) (h := fun u x => (d + 2, 206, 111, [.ref 57, .int (nI e), .int (nI v), .int (nI (gsm (fun u => bef H v u e) v)), .int (nI (min (fW H v e u) 8)), .int (nI u), x.2.1, x.2.2], [], x.1)) (I := fun u x => Qg τ x.1 ∧ fG H v e u ≤ 8 ∧ hF x.1 57 46 = .int (nI (fG H v e u)) ∧ hF x.1 57 47 = .int (nI (fD H v e)) ∧ (∀ i, i < fG H v e u → hI x.1 79 i = nI (gvl (fG H v e) u i)) ∧ (∀ i, i < min (fW H v e u) 8 → hI x.1 80 i = nI (gvl (fW H v e) u i))) v ?_ ?_ 0 (sF (sF τ 57 47 (.int (nI (fD H v e)))) 57 46 (.int (nI 0)), x2, .float 0) (Nat.zero_le _) ⟨Ag_F (Ag_F Ag_r rfl) rfl, Nat.zero_le _, by simp only [HA, and_self, reduceIte]; rfl, by simp only [HA, Nat.reduceEqDiff, and_false, and_self, reduceIte], fun i hi => absurd hi (Nat.not_lt_zero i), fun i hi => absurd (show i < min 0 8 from hi) (by omega)⟩
      · intro u ⟨υ, x1, x2⟩ hu ⟨g, a1, a3, a4, a5, a6⟩ nx
        dsimp only at g a3 a4 a5 a6
        have hq2 : Qm ρ υ := Ag_t hq (Qg_m g)
        have h2 := Qm_M hq2 hM
        have hl2 : ∀ c, c < 224 → hI υ 72 c = nI (H c) := fun c hc => by rw [Ag_i g 72 rfl]; exact hl c hc
        have ah := M_aheadOf (d := d) hM sM.1 hv8 hH (show u < 8 by omega) (show e ≤ 28 by omega) hq2 hl2
        have l1 := bef_le H u (show e ≤ 28 by omega) v
        have sG : fG H v e (u + 1) = fG H v e u + (bef H v u e - fD H v e) := rfl
        have sW : fW H v e (u + 1) = fW H v e u + (fD H v e - bef H v u e) := rfl
        have mG := gsm_mono (fun u => bef H v u e - fD H v e) (show u + 1 ≤ v by omega)
        have mG' : fG H v e (u + 1) ≤ fG H v e v := mG
        show Ev (den (d + 2, 206, 111, [.ref 57, .int (nI e), .int (nI v), .int (nI (gsm (fun u => bef H v u e) v)), .int (nI (min (fW H v e u) 8)), .int (nI u), x1, x2], [], υ)) _
        rw [a206_111]
        rcases Nat.lt_or_ge (bef H v u e) (fD H v e) with o | o
        · -- too few
          have q0 : fG H v e (u + 1) = fG H v e u := by omega
          obtain ⟨n, hn⟩ : ∃ n, fD H v e = bef H v u e + n := ⟨fD H v e - bef H v u e, by omega⟩
          have q1 : fW H v e (u + 1) = fW H v e u + n := by omega
          have ov : nI (bef H v u e) - nI (fD H v e) = zI (-(n : Int)) := by rw [zI_sub_n]; congr 1; omega
          have cz : (zI (-(n : Int)) ≤ nI 0) = True := by rw [show nI 0 = zI 0 from rfl, zI_le (by omega) (by omega)]; exact eq_true (by omega)
          have ng' : -zI (-(n : Int)) = nI n := by
            rw [← zI_n]
            apply Int32.toInt_inj.mp
            rw [Int32.toInt_neg, zI_t (by omega) (by omega), zI_t (by omega) (by omega), Int.neg_neg]
            exact Int.bmod_eq_of_le (by omega) (by omega)
          have st : den (d + 2, 206, 113, [.ref 57, .int (nI e), .int (nI v), .int (nI (gsm (fun u => bef H v u e) v)), .int (nI (min (fW H v e u) 8)), .int (nI u), x1, x2], [.int (nI u)], υ) = den (d + 2, 206, 182, [.ref 57, .int (nI e), .int (nI v), .int (nI (gsm (fun u => bef H v u e) v)), .int (nI (min (fW H v e u) 8)), .int (nI u), .int (zI (-(n : Int))), .int (nI 0)], [], υ) := by
            simp (disch := first | omega | (repeat (first | assumption | exact Ag_r | refine Ag_I ?_ rfl | refine Ag_F ?_ rfl | refine Ag_J ?_ rfl))) only [A206, FM h2, ah, a4, ov, CO, HA, HB, HC, Nat.not_lt_zero, Nat.add_assoc, c_nlt, c_nle, c_neq, c_P, c_cl, c_m1, c_m1', nI_add, pk_mul, reduceIte, Nat.reduceEqDiff, Nat.reduceAdd, Nat.reduceMul, Nat.reduceLeDiff, eq_self, ↓pk_rem, pk_div, c_of, d_le, d_nle, d_lt, d_nlt, d_eq, d_ne]
            rw [a206_134]
            simp (disch := first | omega | (repeat (first | assumption | exact Ag_r | refine Ag_I ?_ rfl | refine Ag_F ?_ rfl | refine Ag_J ?_ rfl))) only [A206, cz, CO, HA, HB, HC, Nat.not_lt_zero, Nat.add_assoc, c_nlt, c_nle, c_neq, c_P, c_cl, c_m1, c_m1', nI_add, pk_mul, reduceIte, Nat.reduceEqDiff, Nat.reduceAdd, Nat.reduceMul, Nat.reduceLeDiff, eq_self, ↓pk_rem, pk_div, c_of, d_le, d_nle, d_lt, d_nlt, d_eq, d_ne]
          rw [st]
          refine lp (α := Hp) (h := fun i x => (d + 2, 206, 182, [.ref 57, .int (nI e), .int (nI v), .int (nI (gsm (fun u => bef H v u e) v)), .int (nI (min (fW H v e u + i) 8)), .int (nI u), .int (zI (-(n : Int))), .int (nI i)], [], x)) (I := fun i x => Qg τ x ∧ hF x 57 46 = .int (nI (fG H v e u)) ∧ hF x 57 47 = .int (nI (fD H v e)) ∧ (∀ i, i < fG H v e u → hI x 79 i = nI (gvl (fG H v e) u i)) ∧ (∀ j, j < min (fW H v e u + i) 8 → hI x 80 j = nI (if fW H v e u ≤ j then u else gvl (fW H v e) u j))) (min n (8 - fW H v e u)) ?_ ?_ 0 υ (Nat.zero_le _) ⟨g, a3, a4, a5, fun j hj => by rw [Nat.add_zero] at hj; rw [if_neg (by omega)]; exact a6 j hj⟩
          · intro i ω hi ⟨g2, b3, b4, b5, b6⟩ nx2
            have h3 := Qm_M (Ag_t hq (Qg_m g2)) hM
            have nn := nx2 (sI ω 80 (upd (hI ω 80) (fW H v e u + i) (nI u))) ⟨Ag_I g2 rfl, b3, b4, by simpa only [HA, Nat.reduceEqDiff, reduceIte] using b5, fun j hj => by
              simp only [HA, reduceIte, ua]
              by_cases y : j = fW H v e u + i
              · rw [if_pos y, if_pos (by omega)]
              · rw [if_neg y]; exact b6 j (by omega)⟩
            rw [show min (fW H v e u + (i + 1)) 8 = fW H v e u + (i + 1) by omega] at nn
            refine Ev_e ?_ nn
            show den (d + 2, 206, 182, [.ref 57, .int (nI e), .int (nI v), .int (nI (gsm (fun u => bef H v u e) v)), .int (nI (min (fW H v e u + i) 8)), .int (nI u), .int (zI (-(n : Int))), .int (nI i)], [], ω) = _
            rw [a206_182, show min (fW H v e u + i) 8 = fW H v e u + i by omega]
            simp (disch := first | omega | (repeat (first | assumption | exact Ag_r | refine Ag_I ?_ rfl | refine Ag_F ?_ rfl | refine Ag_J ?_ rfl))) only [A206, FM h3, ng', CO, HA, HB, HC, Nat.not_lt_zero, Nat.add_assoc, c_nlt, c_nle, c_neq, c_P, c_cl, c_m1, c_m1', nI_add, pk_mul, reduceIte, Nat.reduceEqDiff, Nat.reduceAdd, Nat.reduceMul, Nat.reduceLeDiff, eq_self, ↓pk_rem, pk_div, c_of, d_le, d_nle, d_lt, d_nlt, d_eq, d_ne]
          · intro ω ⟨g2, b3, b4, b5, b6⟩
            have h3 := Qm_M (Ag_t hq (Qg_m g2)) hM
            have nn := nx (ω, .int (zI (-(n : Int))), .int (nI (min n (8 - fW H v e u)))) ⟨g2, by omega, by rw [b3, q0], b4, fun i hi => by
              simp only [gvl]
              rw [if_neg (by omega)]
              exact b5 i (by omega), fun i hi => by
              simp only [gvl]
              exact b6 i (by omega)⟩
            rw [q1] at nn
            refine Ev_e ?_ nn
            show den (d + 2, 206, 182, [.ref 57, .int (nI e), .int (nI v), .int (nI (gsm (fun u => bef H v u e) v)), .int (nI (min (fW H v e u + min n (8 - fW H v e u)) 8)), .int (nI u), .int (zI (-(n : Int))), .int (nI (min n (8 - fW H v e u)))], [], ω) = _
            rw [a206_182, show min (fW H v e u + min n (8 - fW H v e u)) 8 = min (fW H v e u + n) 8 by omega]
            by_cases y : n ≤ 8 - fW H v e u
            · rw [show min n (8 - fW H v e u) = n by omega]
              simp (disch := first | omega | (repeat (first | assumption | exact Ag_r | refine Ag_I ?_ rfl | refine Ag_F ?_ rfl | refine Ag_J ?_ rfl))) only [A206, ng', CO, HA, HB, HC, Nat.not_lt_zero, Nat.add_assoc, c_nlt, c_nle, c_neq, c_P, c_cl, c_m1, c_m1', nI_add, pk_mul, reduceIte, Nat.reduceEqDiff, Nat.reduceAdd, Nat.reduceMul, Nat.reduceLeDiff, eq_self, ↓pk_rem, pk_div, c_of, d_le, d_nle, d_lt, d_nlt, d_eq, d_ne]
            · rw [show min n (8 - fW H v e u) = 8 - fW H v e u by omega, show min (fW H v e u + n) 8 = 8 by omega]
              simp (disch := first | omega | (repeat (first | assumption | exact Ag_r | refine Ag_I ?_ rfl | refine Ag_F ?_ rfl | refine Ag_J ?_ rfl))) only [A206, ng', CO, HA, HB, HC, Nat.not_lt_zero, Nat.add_assoc, c_nlt, c_nle, c_neq, c_P, c_cl, c_m1, c_m1', nI_add, pk_mul, reduceIte, Nat.reduceEqDiff, Nat.reduceAdd, Nat.reduceMul, Nat.reduceLeDiff, eq_self, ↓pk_rem, pk_div, c_of, d_le, d_nle, d_lt, d_nlt, d_eq, d_ne]
        · obtain ⟨n, hn⟩ : ∃ n, bef H v u e = fD H v e + n := ⟨bef H v u e - fD H v e, by omega⟩
          have q0 : fW H v e (u + 1) = fW H v e u := by omega
          have q1 : fG H v e (u + 1) = fG H v e u + n := by omega
          have ov : nI (bef H v u e) - nI (fD H v e) = nI n := by rw [pk_sub (by omega)]; congr 1; omega
          have ng' : -nI n = zI (-(n : Int)) := by
            rw [← zI_n]
            apply Int32.toInt_inj.mp
            rw [Int32.toInt_neg, zI_t (by omega) (by omega), zI_t (by omega) (by omega)]
            exact Int.bmod_eq_of_le (by omega) (by omega)
          have cz : (zI (-(n : Int)) ≤ nI 0) = True := by rw [show nI 0 = zI 0 from rfl, zI_le (by omega) (by omega)]; exact eq_true (by omega)
          simp (disch := first | omega | (repeat (first | assumption | exact Ag_r | refine Ag_I ?_ rfl | refine Ag_F ?_ rfl | refine Ag_J ?_ rfl))) only [A206, FM h2, ah, a4, ov, CO, HA, HB, HC, Nat.not_lt_zero, Nat.add_assoc, c_nlt, c_nle, c_neq, c_P, c_cl, c_m1, c_m1', nI_add, pk_mul, reduceIte, Nat.reduceEqDiff, Nat.reduceAdd, Nat.reduceMul, Nat.reduceLeDiff, eq_self, ↓pk_rem, pk_div, c_of, d_le, d_nle, d_lt, d_nlt, d_eq, d_ne]
          refine lp (α := Hp) (h := fun i x => (d + 2, 206, 134, [.ref 57, .int (nI e), .int (nI v), .int (nI (gsm (fun u => bef H v u e) v)), .int (nI (min (fW H v e u) 8)), .int (nI u), .int (nI n), .int (nI i)], [], x)) (I := fun i x => Qg τ x ∧ hF x 57 46 = .int (nI (fG H v e u + i)) ∧ hF x 57 47 = .int (nI (fD H v e)) ∧ (∀ j, j < fG H v e u + i → hI x 79 j = nI (if fG H v e u ≤ j then u else gvl (fG H v e) u j)) ∧ (∀ i, i < min (fW H v e u) 8 → hI x 80 i = nI (gvl (fW H v e) u i))) (min n (8 - fG H v e u)) ?_ ?_ 0 υ (Nat.zero_le _) ⟨g, a3, a4, fun j hj => by rw [if_neg (by omega)]; exact a5 j hj, a6⟩
          · intro i ω hi ⟨g2, b3, b4, b5, b6⟩ nx2
            have h3 := Qm_M (Ag_t hq (Qg_m g2)) hM
            have nn := nx2 (sF (sI ω 79 (upd (hI ω 79) (fG H v e u + i) (nI u))) 57 46 (.int (nI (fG H v e u + (i + 1))))) ⟨Ag_F (Ag_I g2 rfl) rfl, by simp only [HA, and_self, reduceIte], by simp only [HA, Nat.reduceEqDiff, and_false, reduceIte]; exact b4, fun j hj => by
              simp only [HA, reduceIte, ua]
              by_cases y : j = fG H v e u + i
              · rw [if_pos y, if_pos (by omega)]
              · rw [if_neg y]; exact b5 j (by omega), by simpa only [HA, Nat.reduceEqDiff, reduceIte] using b6⟩
            refine Ev_e ?_ nn
            show den (d + 2, 206, 134, [.ref 57, .int (nI e), .int (nI v), .int (nI (gsm (fun u => bef H v u e) v)), .int (nI (min (fW H v e u) 8)), .int (nI u), .int (nI n), .int (nI i)], [], ω) = _
            rw [a206_134]
            simp (disch := first | omega | (repeat (first | assumption | exact Ag_r | refine Ag_I ?_ rfl | refine Ag_F ?_ rfl | refine Ag_J ?_ rfl))) only [A206, FM h3, b3, CO, HA, HB, HC, Nat.not_lt_zero, Nat.add_assoc, c_nlt, c_nle, c_neq, c_P, c_cl, c_m1, c_m1', nI_add, pk_mul, reduceIte, Nat.reduceEqDiff, Nat.reduceAdd, Nat.reduceMul, Nat.reduceLeDiff, eq_self, ↓pk_rem, pk_div, c_of, d_le, d_nle, d_lt, d_nlt, d_eq, d_ne]
          · intro ω ⟨g2, b3, b4, b5, b6⟩
            have h3 := Qm_M (Ag_t hq (Qg_m g2)) hM
            show Ev (den (d + 2, 206, 134, [.ref 57, .int (nI e), .int (nI v), .int (nI (gsm (fun u => bef H v u e) v)), .int (nI (min (fW H v e u) 8)), .int (nI u), .int (nI n), .int (nI (min n (8 - fG H v e u)))], [], ω)) _
            rw [a206_134]
            by_cases y : fG H v e u + n ≤ 8
            · rw [show min n (8 - fG H v e u) = n by omega] at b3 b5 ⊢
              have nn := nx (ω, .int (nI n), .int (nI 0)) ⟨g2, by omega, by rw [b3, q1], b4, fun i hi => by
                simp only [gvl]
                exact b5 i (by omega), fun i hi => by
                simp only [gvl]
                rw [if_neg (by omega)]
                exact b6 i (by omega)⟩
              rw [q0] at nn
              refine Ev_e ?_ nn
              simp (disch := first | omega | (repeat (first | assumption | exact Ag_r | refine Ag_I ?_ rfl | refine Ag_F ?_ rfl | refine Ag_J ?_ rfl))) only [A206, CO, HA, HB, HC, Nat.not_lt_zero, Nat.add_assoc, c_nlt, c_nle, c_neq, c_P, c_cl, c_m1, c_m1', nI_add, pk_mul, reduceIte, Nat.reduceEqDiff, Nat.reduceAdd, Nat.reduceMul, Nat.reduceLeDiff, eq_self, ↓pk_rem, pk_div, c_of, d_le, d_nle, d_lt, d_nlt, d_eq, d_ne]
              rw [a206_182]
              simp (disch := first | omega | (repeat (first | assumption | exact Ag_r | refine Ag_I ?_ rfl | refine Ag_F ?_ rfl | refine Ag_J ?_ rfl))) only [A206, ng', cz, CO, HA, HB, HC, Nat.not_lt_zero, Nat.add_assoc, c_nlt, c_nle, c_neq, c_P, c_cl, c_m1, c_m1', nI_add, pk_mul, reduceIte, Nat.reduceEqDiff, Nat.reduceAdd, Nat.reduceMul, Nat.reduceLeDiff, eq_self, ↓pk_rem, pk_div, c_of, d_le, d_nle, d_lt, d_nlt, d_eq, d_ne]
            · rw [show min n (8 - fG H v e u) = 8 - fG H v e u by omega] at b3 b5 ⊢
              rw [show fG H v e u + (8 - fG H v e u) = 8 by omega] at b3
              simp (disch := first | omega | (repeat (first | assumption | exact Ag_r | refine Ag_I ?_ rfl | refine Ag_F ?_ rfl | refine Ag_J ?_ rfl))) only [A206, FM h3, b3, CO, HA, HB, HC, Nat.not_lt_zero, Nat.add_assoc, c_nlt, c_nle, c_neq, c_P, c_cl, c_m1, c_m1', nI_add, pk_mul, reduceIte, Nat.reduceEqDiff, Nat.reduceAdd, Nat.reduceMul, Nat.reduceLeDiff, eq_self, ↓pk_rem, pk_div, c_of, d_le, d_nle, d_lt, d_nlt, d_eq, d_ne]
              exact Ev_s ⟨g2, Or.inl ⟨fun F => by have : fG H v e v ≤ 8 := F.2.2; omega, rfl⟩⟩
      · intro ⟨υ, x1, x2⟩ ⟨g, a1, a3, a4, a5, a6⟩
        dsimp only at g a3 a4 a5 a6
        have eq := fG_W hv1 z
        show Ev (den (d + 2, 206, 111, [.ref 57, .int (nI e), .int (nI v), .int (nI (gsm (fun u => bef H v u e) v)), .int (nI (min (fW H v e v) 8)), .int (nI v), x1, x2], [], υ)) _
        rw [a206_111]
        simp (disch := first | omega | (repeat (first | assumption | exact Ag_r | refine Ag_I ?_ rfl | refine Ag_F ?_ rfl | refine Ag_J ?_ rfl))) only [A206, CO, HA, HB, HC, Nat.not_lt_zero, Nat.add_assoc, c_nlt, c_nle, c_neq, c_P, c_cl, c_m1, c_m1', nI_add, pk_mul, reduceIte, Nat.reduceEqDiff, Nat.reduceAdd, Nat.reduceMul, Nat.reduceLeDiff, eq_self, ↓pk_rem, pk_div, c_of, d_le, d_nle, d_lt, d_nlt, d_eq, d_ne]
        exact Ev_s ⟨g, Or.inr ⟨⟨al, z, a1⟩, rfl, a3, a4, fun i hi => ⟨a5 i hi, a6 i (by omega)⟩⟩⟩
    · simp (disch := first | omega | (repeat (first | assumption | exact Ag_r | refine Ag_I ?_ rfl | refine Ag_F ?_ rfl | refine Ag_J ?_ rfl))) only [A206, FM h', z, gd, CO, HA, HB, HC, Nat.not_lt_zero, Nat.add_assoc, c_nlt, c_nle, c_neq, c_P, c_cl, c_m1, c_m1', nI_add, pk_mul, reduceIte, Nat.reduceEqDiff, Nat.reduceAdd, Nat.reduceMul, Nat.reduceLeDiff, eq_self, ↓pk_rem, pk_div, c_of, d_le, d_nle, d_lt, d_nlt, d_eq, d_ne]
      exact Ev_s ⟨Ag_F Ag_r rfl, Or.inl ⟨fun F => z F.2.1, rfl⟩⟩
end
