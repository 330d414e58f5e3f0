/-! prices of weekdays on both sides -/
def wanW (u w p h : Nat) : Wd := wdf (-1) (-1) u (-1) w (-1) h p
def selW (u w p : Nat) : Wd := wdf (-1) u (-1) (-1) w (-1) 0 p
/-- how many more want it than sell it -/
def mor (T : Tl) (H : Nat → Nat) (v w p : Nat) : Nat → Int
  | 0 => 0
  | u + 1 => mor T H v w p u + (if tb T 3 (wanW u w p (hd H v u)) = true then 1 else 0) - (if tb T 4 (selW u w p) = true then 1 else 0)
theorem mor_le (T : Tl) (H : Nat → Nat) (v w p : Nat) : ∀ u : Nat, -(u : Int) ≤ mor T H v w p u ∧ mor T H v w p u ≤ (u : Int)
  | 0 => ⟨Int.le_refl _, Int.le_refl _⟩
  | u + 1 => by
    have := mor_le T H v w p u
    simp only [mor]
    split <;> split <;> omega
theorem zs0 {x : Int} : zI x - nI 0 = zI (x - 0) := by rw [show nI 0 = zI 0 from rfl, zI_sub]
theorem zs1 {x : Int} : zI x - nI 1 = zI (x - 1) := by rw [show nI 1 = zI 1 from rfl, zI_sub]
def sgn (z : Int) : Int := if 0 < z then 1 else if z < 0 then -1 else 0
def nxp (T : Tl) (H : Nat → Nat) (v w p : Nat) : Nat := (clp 1 99 ((p : Int) + sgn (mor T H v w p v))).toNat
theorem clp_b (z : Int) : 1 ≤ clp 1 99 z ∧ clp 1 99 z ≤ 99 := by unfold clp; split <;> (try split) <;> omega
theorem nxp_b (T : Tl) (H : Nat → Nat) (v w p : Nat) : 1 ≤ nxp T H v w p ∧ nxp T H v w p ≤ 99 := by have := clp_b ((p : Int) + sgn (mor T H v w p v)); unfold nxp; omega
def prc (T : Tl) (H : Nat → Nat) (v w p : Nat) : Nat → Nat
  | 0 => p
  | n + 1 => nxp T H v w (prc T H v w p n)
theorem prc_b (T : Tl) (H : Nat → Nat) (v w : Nat) {p : Nat} (h : 1 ≤ p ∧ p ≤ 99) : ∀ n, 1 ≤ prc T H v w p n ∧ prc T H v w p n ≤ 99
  | 0 => h
  | n + 1 => nxp_b T H v w _
theorem prc_st (T : Tl) (H : Nat → Nat) (v w p : Nat) {n : Nat} (h : prc T H v w p (n + 1) = prc T H v w p n) : ∀ k, prc T H v w p (n + k) = prc T H v w p n
  | 0 => rfl
  | k + 1 => by
    have ih := prc_st T H v w p h k
    rw [← Nat.add_assoc]
    show nxp T H v w (prc T H v w p (n + k)) = _
    rw [ih]
    exact h
/-- the round r is the first that leaves all as it is (51: none up to 50) -/
def IsR (b : Nat → Prop) (r : Nat) : Prop := (1 ≤ r ∧ r ≤ 51) ∧ (r ≤ 50 → b r) ∧ ∀ r', 1 ≤ r' → r' < r → ¬ b r'
theorem IsR_u {b : Nat → Prop} {r s : Nat} (h1 : IsR b r) (h2 : IsR b s) : r = s := by
  obtain ⟨⟨a1, a2⟩, a3, a4⟩ := h1
  obtain ⟨⟨b1, b2⟩, b3, b4⟩ := h2
  rcases Nat.lt_trichotomy r s with h | h | h
  · exact absurd (a3 (by omega)) (b4 r a1 h)
  · exact h
  · exact absurd (b3 (by omega)) (a4 s b1 h)
section
variable {d v : Nat} {H rn : Nat → Nat} {σ ρ τ : Hp} {T : Tl}
/-- what the judge may change and the price that rests -/
def Qp (σ τ : Hp) : Prop := Ag (fun k => Nat.beq k 19 || Nat.beq k 20) (fun k j => (Nat.beq k 18 && (Nat.beq j 2 || Nat.beq j 3)) || (Nat.beq k 0 && Nat.beq j 14)) σ τ
theorem Qw_p {σ τ : Hp} (g : Qw σ τ) : Qp σ τ := Ag_w g (fun _ e => e) (fun k j e => by rw [e, Bool.true_or])
theorem Qp_c {σ τ : Hp} (g : Qp σ τ) : Qc σ τ := Ag_w g (fun k e => by
  simp only [Bool.or_eq_true] at e
  rcases e with e | e <;> (have := Nat.eq_of_beq_eq_true e; subst this; rfl)) (fun k j e => by
  simp only [Bool.and_eq_true, Bool.or_eq_true] at e
  rcases e with ⟨e1, e2 | e2⟩ | ⟨e1, e2⟩ <;>
  · have e1 := Nat.eq_of_beq_eq_true e1
    have e2 := Nat.eq_of_beq_eq_true e2
    subst e1 e2; rfl)
theorem Cal_p {σ τ : Hp} {v : Nat} {H : Nat → Nat} (g : Qp σ τ) (h : Cal σ v H) : Cal τ v H := fun u e hu he => by rw [Ag_i g 22 rfl]; exact h u e hu he
theorem sgn_C (z : Int) (hz : -8 ≤ z ∧ z ≤ 8) : (zI z ≤ nI 0) = (z ≤ 0) ∧ (nI 0 ≤ zI z) = (0 ≤ z) ∧ (nI 0 < zI z) = (0 < z) ∧ (zI z < nI 0) = (z < 0) := by
  rw [show nI 0 = zI 0 from rfl, zI_le (by omega) (by omega), zI_le (by omega) (by omega), zI_lt (by omega) (by omega), zI_lt (by omega) (by omega)]
  exact ⟨rfl, rfl, rfl, rfl⟩
theorem C_lean (hC : FxC σ) (sC : StC σ v H) (hw : Wf v H) (lf : LfC σ T) {w p : Nat} (hw7 : w < 7) (hp : p ≤ 99) (hq : Qc σ τ) (hc : Cal τ v H) : Ev (den (d + 5, 29, 0, [.ref 18, .ref 1, .ref 21, .int (nI w), .int (nI p), .float 0, .float 0], [], τ)) (fun a υ => a = some (.int (zI (sgn (mor T H v w p v)))) ∧ Qw τ υ) := by
  have hv8 := hw.2.1
  simp (disch := first | omega | (repeat (first | assumption | exact Ag_r | refine Ag_I ?_ rfl | refine Ag_F ?_ rfl | refine Ag_J ?_ rfl))) only [A29, CO, HA, HB, HC, Nat.not_lt_zero, Nat.add_assoc, c_nlt, c_nle, c_neq, c_P, c_cl, c_m1, c_m1', nI_add, pk_mul, reduceIte, Nat.reduceEqDiff, Nat.reduceAdd, Nat.reduceMul, Nat.reduceLeDiff, eq_self, ↓pk_rem, pk_div, c_of, d_le, d_nle, d_lt, d_nlt, d_eq, d_ne]
  refine lp (α := Hp) (h := fun i x => (d + 5, 29, 6, [.ref 18, .ref 1, .ref 21, .int (nI w), .int (nI p), .int (zI (mor T H v w p i)), .int (nI i)], [], x)) (I := fun i x => Qw τ x) v ?_ ?_ 0 τ (Nat.zero_le _) Ag_r
  · intro u υ hu g nx
    have hq2 : Qc σ υ := Ag_t hq (Qw_c g)
    have h2 := Qc_C hq2 hC
    have e1 := Ag_f hq2 1 0 rfl
    have f3 := fun (d : Nat) (G : Nat → Int32) x y => C_setTaker (d := d) (τ := sI υ 19 G) h2 x y
    have ct := C_total (d := d + 3) hC hv8 (show u < 8 by omega) hq2 (Cal_w g hc)
    have ct' := fun (G : Nat → Int32) => C_total (d := d + 3) hC hv8 (show u < 8 by omega) (τ := sI υ 19 G) (Ag_I hq2 rfl) (H := H) (v := v) (fun a e ha he => by simpa only [HA, Nat.reduceEqDiff, reduceIte] using Cal_w g hc a e ha he)
    have hd2 := hd_le H u hv8
    show Ev (den (d + 5, 29, 6, [.ref 18, .ref 1, .ref 21, .int (nI w), .int (nI p), .int (zI (mor T H v w p u)), .int (nI u)], [], υ)) _
    generalize wdef : wanW u w p (hd H v u) = w1
    have wd : WdC (sI υ 19 (upd (upd (upd (upd (upd (fil (hI υ 19) (-1) 8) 6 (nI 0)) 4 (nI w)) 7 (nI p)) 2 (nI u)) 6 (nI (hd H v u)))) w1 := by
      rw [← wdef]
      unfold WdC
      simp only [HA, reduceIte]
      refine j8 ?_ ?_ ?_ ?_ ?_ ?_ ?_ ?_ <;> refine ⟨?_, ?_, ?_⟩ <;> first | rfl | exact (zI_n _).symm | (simp only [wanW, wdf, reduceIte, Nat.reduceEqDiff]; omega)
    have L := lf d _ w1 3 (by omega) (Ag_I hq2 rfl) wd
    rw [a29_6]
    simp (disch := first | omega | (repeat (first | assumption | exact Ag_r | refine Ag_I ?_ rfl | refine Ag_F ?_ rfl | refine Ag_J ?_ rfl))) only [A29, FC h2, e1, sC.1, C_blank h2, f3, ct', CO, HA, HB, HC, Nat.not_lt_zero, Nat.add_assoc, c_nlt, c_nle, c_neq, c_P, c_cl, c_m1, c_m1', nI_add, pk_mul, reduceIte, Nat.reduceEqDiff, Nat.reduceAdd, Nat.reduceMul, Nat.reduceLeDiff, eq_self, ↓pk_rem, pk_div, c_of, d_le, d_nle, d_lt, d_nlt, d_eq, d_ne]
    refine Ev_b L ?_
    rintro _ ω ⟨rfl, g2, -⟩
    have gw : Qw υ ω := Ag_t (Ag_I Ag_r rfl) (Qt_w g2)
    have hq3 : Qc σ ω := Ag_t hq2 (Qw_c gw)
    have h3 := Qc_C hq3 hC
    have e19 : hI ω 19 = upd (upd (upd (upd (upd (fil (hI υ 19) (-1) 8) 6 (nI 0)) 4 (nI w)) 7 (nI p)) 2 (nI u)) 6 (nI (hd H v u)) := by rw [Ag_i g2 19 rfl]; simp only [HA, reduceIte]
    have f4 := fun (d : Nat) x y => C_setTaker (d := d) (τ := ω) h3 x y
    generalize wdef2 : selW u w p = w2
    have wd2 : WdC (sI ω 19 (upd (upd (upd (upd (upd (upd (upd (upd (fil (hI υ 19) (-1) 8) 6 (nI 0)) 4 (nI w)) 7 (nI p)) 2 (nI u)) 6 (nI (hd H v u))) 2 (-1)) 6 (nI 0)) 1 (nI u))) w2 := by
      rw [← wdef2]
      unfold WdC
      simp only [HA, reduceIte]
      refine j8 ?_ ?_ ?_ ?_ ?_ ?_ ?_ ?_ <;> refine ⟨?_, ?_, ?_⟩ <;> first | rfl | exact (zI_n _).symm | (simp only [selW, wdf, reduceIte, Nat.reduceEqDiff]; omega)
    have L2 := lf d _ w2 4 (by omega) (Ag_I hq3 rfl) wd2
    have step : ∀ (b1 : Int32) (z1 : Int), (b1 = nI 0 ∧ z1 = 0) ∨ (b1 = nI 1 ∧ z1 = 1) → mor T H v w p (u + 1) = mor T H v w p u + z1 - (if tb T 4 w2 = true then 1 else 0) → Ev (den (d + 5, 29, 55, [.ref 18, .ref 1, .ref 21, .int (nI w), .int (nI p), .int (zI (mor T H v w p u)), .int (nI u)], [.int b1, .int (zI (mor T H v w p u))], ω)) (fun a υ => a = some (.int (zI (sgn (mor T H v w p v)))) ∧ Qw τ υ) := by
      intro b1 z1 hb hm
      have fin : ∀ (ψ : Hp) (b2 : Int32) (z2 : Int), Qt (sI ω 19 (upd (upd (upd (upd (upd (upd (upd (upd (fil (hI υ 19) (-1) 8) 6 (nI 0)) 4 (nI w)) 7 (nI p)) 2 (nI u)) 6 (nI (hd H v u))) 2 (-1)) 6 (nI 0)) 1 (nI u))) ψ → (b2 = nI 0 ∧ z2 = 0) ∨ (b2 = nI 1 ∧ z2 = 1) → mor T H v w p (u + 1) = mor T H v w p u + z1 - z2 → Ev (den (d + 5, 29, 88, [.ref 18, .ref 1, .ref 21, .int (nI w), .int (nI p), .int (zI (mor T H v w p u + z1)), .int (nI u)], [.int b2, .int (zI (mor T H v w p u + z1))], ψ)) (fun a υ => a = some (.int (zI (sgn (mor T H v w p v)))) ∧ Qw τ υ) := by
        intro ψ b2 z2 g3 hb2 hm2
        have nn := nx ψ (Ag_t g (Ag_t gw (Ag_t (Ag_I Ag_r rfl) (Qt_w g3))))
        rw [hm2] at nn
        refine Ev_e ?_ nn
        rcases hb2 with ⟨rfl, rfl⟩ | ⟨rfl, rfl⟩
        · simp (disch := first | omega | (repeat (first | assumption | exact Ag_r | refine Ag_I ?_ rfl | refine Ag_F ?_ rfl | refine Ag_J ?_ rfl))) only [A29, zs0, CO, HA, HB, HC, Nat.not_lt_zero, Nat.add_assoc, c_nlt, c_nle, c_neq, c_P, c_cl, c_m1, c_m1', nI_add, pk_mul, reduceIte, Nat.reduceEqDiff, Nat.reduceAdd, Nat.reduceMul, Nat.reduceLeDiff, eq_self, ↓pk_rem, pk_div, c_of, d_le, d_nle, d_lt, d_nlt, d_eq, d_ne]
        · simp (disch := first | omega | (repeat (first | assumption | exact Ag_r | refine Ag_I ?_ rfl | refine Ag_F ?_ rfl | refine Ag_J ?_ rfl))) only [A29, zs1, CO, HA, HB, HC, Nat.not_lt_zero, Nat.add_assoc, c_nlt, c_nle, c_neq, c_P, c_cl, c_m1, c_m1', nI_add, pk_mul, reduceIte, Nat.reduceEqDiff, Nat.reduceAdd, Nat.reduceMul, Nat.reduceLeDiff, eq_self, ↓pk_rem, pk_div, c_of, d_le, d_nle, d_lt, d_nlt, d_eq, d_ne]
      have mid : den (d + 5, 29, 55, [.ref 18, .ref 1, .ref 21, .int (nI w), .int (nI p), .int (zI (mor T H v w p u)), .int (nI u)], [.int b1, .int (zI (mor T H v w p u))], ω) = den (d + 5, 29, 66, [.ref 18, .ref 1, .ref 21, .int (nI w), .int (nI p), .int (zI (mor T H v w p u + z1)), .int (nI u)], [], ω) := by
        rcases hb with ⟨rfl, rfl⟩ | ⟨rfl, rfl⟩
        · simp only [a29_55, a29_58, a29_59, a29_62, a29_63, a29_64, reduceIte, n_10]
          rw [show nI 0 = zI 0 from rfl, zI_add]
        · simp only [a29_55, a29_58, a29_59, a29_62, a29_63, a29_64, reduceIte, n_10]
          rw [show nI 1 = zI 1 from rfl, zI_add]
      rw [mid]
      simp (disch := first | omega | (repeat (first | assumption | exact Ag_r | refine Ag_I ?_ rfl | refine Ag_F ?_ rfl | refine Ag_J ?_ rfl))) only [A29, FC h3, f4, e19, CO, HA, HB, HC, Nat.not_lt_zero, Nat.add_assoc, c_nlt, c_nle, c_neq, c_P, c_cl, c_m1, c_m1', nI_add, pk_mul, reduceIte, Nat.reduceEqDiff, Nat.reduceAdd, Nat.reduceMul, Nat.reduceLeDiff, eq_self, ↓pk_rem, pk_div, c_of, d_le, d_nle, d_lt, d_nlt, d_eq, d_ne]
      refine Ev_b L2 ?_
      rintro _ ψ ⟨rfl, g3, -⟩
      simp only [tl_s]
      by_cases b : tb T 4 w2 = true
      · rw [if_pos b] at hm
        have b' : (T 4 w2).isSome = true := b
        rw [if_pos b']
        exact fin ψ (nI 1) 1 g3 (Or.inr ⟨rfl, rfl⟩) hm
      · rw [if_neg b] at hm
        have b' : ¬ (T 4 w2).isSome = true := b
        rw [if_neg b']
        exact fin ψ (nI 0) 0 g3 (Or.inl ⟨rfl, rfl⟩) hm
    simp only [tl_s]
    have mm : mor T H v w p (u + 1) = mor T H v w p u + (if tb T 3 w1 = true then 1 else 0) - (if tb T 4 w2 = true then 1 else 0) := by rw [← wdef, ← wdef2]; rfl
    by_cases b : tb T 3 w1 = true
    · rw [if_pos b] at mm
      have b' : (T 3 w1).isSome = true := b
      rw [if_pos b']
      exact step (nI 1) 1 (Or.inr ⟨rfl, rfl⟩) mm
    · rw [if_neg b] at mm
      have b' : ¬ (T 3 w1).isSome = true := b
      rw [if_neg b']
      exact step (nI 0) 0 (Or.inl ⟨rfl, rfl⟩) mm
  · intro υ g
    have hq2 : Qc σ υ := Ag_t hq (Qw_c g)
    have h2 := Qc_C hq2 hC
    have e1 := Ag_f hq2 1 0 rfl
    have ml := mor_le T H v w p v
    obtain ⟨c1, c2, c3, c4⟩ := sgn_C (mor T H v w p v) (by omega)
    show Ev (den (d + 5, 29, 6, [.ref 18, .ref 1, .ref 21, .int (nI w), .int (nI p), .int (zI (mor T H v w p v)), .int (nI v)], [], υ)) _
    rw [a29_6]
    unfold sgn
    by_cases z : 0 < mor T H v w p v
    · rw [if_pos z]
      simp (disch := first | omega | (repeat (first | assumption | exact Ag_r | refine Ag_I ?_ rfl | refine Ag_F ?_ rfl | refine Ag_J ?_ rfl))) only [A29, FC h2, e1, sC.1, c1, show (mor T H v w p v ≤ 0) = False from eq_false (by omega), CO, HA, HB, HC, Nat.not_lt_zero, Nat.add_assoc, c_nlt, c_nle, c_neq, c_P, c_cl, c_m1, c_m1', nI_add, pk_mul, reduceIte, Nat.reduceEqDiff, Nat.reduceAdd, Nat.reduceMul, Nat.reduceLeDiff, eq_self, ↓pk_rem, pk_div, c_of, d_le, d_nle, d_lt, d_nlt, d_eq, d_ne]
      exact Ev_s ⟨rfl, g⟩
    · rw [if_neg z]
      by_cases z2 : mor T H v w p v < 0
      · rw [if_pos z2]
        simp (disch := first | omega | (repeat (first | assumption | exact Ag_r | refine Ag_I ?_ rfl | refine Ag_F ?_ rfl | refine Ag_J ?_ rfl))) only [A29, FC h2, e1, sC.1, c1, c2, show (mor T H v w p v ≤ 0) = True from eq_true (by omega), show (0 ≤ mor T H v w p v) = False from eq_false (by omega), CO, HA, HB, HC, Nat.not_lt_zero, Nat.add_assoc, c_nlt, c_nle, c_neq, c_P, c_cl, c_m1, c_m1', nI_add, pk_mul, reduceIte, Nat.reduceEqDiff, Nat.reduceAdd, Nat.reduceMul, Nat.reduceLeDiff, eq_self, ↓pk_rem, pk_div, c_of, d_le, d_nle, d_lt, d_nlt, d_eq, d_ne]
        exact Ev_s ⟨rfl, g⟩
      · rw [if_neg z2]
        simp (disch := first | omega | (repeat (first | assumption | exact Ag_r | refine Ag_I ?_ rfl | refine Ag_F ?_ rfl | refine Ag_J ?_ rfl))) only [A29, FC h2, e1, sC.1, c1, c2, show (mor T H v w p v ≤ 0) = True from eq_true (by omega), show (0 ≤ mor T H v w p v) = True from eq_true (by omega), CO, HA, HB, HC, Nat.not_lt_zero, Nat.add_assoc, c_nlt, c_nle, c_neq, c_P, c_cl, c_m1, c_m1', nI_add, pk_mul, reduceIte, Nat.reduceEqDiff, Nat.reduceAdd, Nat.reduceMul, Nat.reduceLeDiff, eq_self, ↓pk_rem, pk_div, c_of, d_le, d_nle, d_lt, d_nlt, d_eq, d_ne]
        exact Ev_s ⟨rfl, g⟩
theorem C_settle (hC : FxC σ) (sC : StC σ v H) (hw : Wf v H) (lf : LfC σ T) {fp : Nat} (hf : hF σ 1 1 = .int (nI fp)) (hfp : 1 ≤ fp ∧ fp ≤ 99) {w : Nat} (hw7 : w < 7) (hq : Qc σ τ) (hc : Cal τ v H) : Ev (den (d + 6, 129, 0, [.ref 0, .int (nI w), .float 0, .float 0, .float 0], [], τ)) (fun a υ => ∃ r, a = some (.int (nI r)) ∧ IsR (fun r => prc T H v w fp r = prc T H v w fp (r - 1)) r ∧ Qp τ υ ∧ hF υ 0 14 = .int (nI (prc T H v w fp 50))) := by
  have h' := Qc_C hq hC
  have e1 := Ag_f hq 1 1 rfl
  simp (disch := first | omega | (repeat (first | assumption | exact Ag_r | refine Ag_I ?_ rfl | refine Ag_F ?_ rfl | refine Ag_J ?_ rfl))) only [A129, FC h', e1, hf, CO, HA, HB, HC, Nat.not_lt_zero, Nat.add_assoc, c_nlt, c_nle, c_neq, c_P, c_cl, c_m1, c_m1', nI_add, pk_mul, reduceIte, Nat.reduceEqDiff, Nat.reduceAdd, Nat.reduceMul, Nat.reduceLeDiff, eq_self, ↓pk_rem, pk_div, c_of, d_le, d_nle, d_lt, d_nlt, d_eq, d_ne]
  refine lp (α := Hp × Value × Value) (h := fun i x => (d + 6, 129, 13, [.ref 0, .int (nI w), .int (nI (i + 1)), x.2.1, x.2.2], [], x.1)) (I := fun i x => Qp τ x.1 ∧ hF x.1 0 14 = .int (nI (prc T H v w fp i)) ∧ ∀ r', 1 ≤ r' → r' < i + 1 → ¬ prc T H v w fp r' = prc T H v w fp (r' - 1)) 50 ?_ ?_ 0 (_, .float 0, .float 0) (Nat.zero_le _) ⟨Ag_F Ag_r rfl, by simp only [HA, and_self, reduceIte]; rfl, fun r' h1 h2 => by omega⟩
  · intro i ⟨υ, l1, l2⟩ hi ⟨g, p1, nr⟩ nx
    have hq2 : Qc σ υ := Ag_t hq (Qp_c g)
    have h2 := Qc_C hq2 hC
    have pb := prc_b T H v w hfp i
    have L := C_lean (d := d) hC sC hw lf hw7 pb.2 hq2 (Cal_p g hc)
    show Ev (den (d + 6, 129, 13, [.ref 0, .int (nI w), .int (nI (i + 1)), l1, l2], [], υ)) _
    rw [a129_13]
    simp (disch := first | omega | (repeat (first | assumption | exact Ag_r | refine Ag_I ?_ rfl | refine Ag_F ?_ rfl | refine Ag_J ?_ rfl))) only [A129, FC h2, p1, CO, HA, HB, HC, Nat.not_lt_zero, Nat.add_assoc, c_nlt, c_nle, c_neq, c_P, c_cl, c_m1, c_m1', nI_add, pk_mul, reduceIte, Nat.reduceEqDiff, Nat.reduceAdd, Nat.reduceMul, Nat.reduceLeDiff, eq_self, ↓pk_rem, pk_div, c_of, d_le, d_nle, d_lt, d_nlt, d_eq, d_ne]
    refine Ev_b L ?_
    rintro _ ω ⟨rfl, g2⟩
    have h3 := Qc_C (Ag_t hq2 (Qw_c g2)) hC
    have p2 : hF ω 0 14 = .int (nI (prc T H v w fp i)) := by rw [Ag_f g2 0 14 rfl]; exact p1
    have sb : -1 ≤ sgn (mor T H v w (prc T H v w fp i) v) ∧ sgn (mor T H v w (prc T H v w fp i) v) ≤ 1 := by unfold sgn; split <;> (try split) <;> omega
    have cc := clp_C (z := ((prc T H v w fp i : Nat) : Int) + sgn (mor T H v w (prc T H v w fp i) v)) (lo := 1) (hi := 99) (by unfold Bz; omega) (by omega) (by omega) (by omega)
    have cn : zI (clp 1 99 (((prc T H v w fp i : Nat) : Int) + sgn (mor T H v w (prc T H v w fp i) v))) = nI (prc T H v w fp (i + 1)) := by
      have := clp_b (((prc T H v w fp i : Nat) : Int) + sgn (mor T H v w (prc T H v w fp i) v))
      rw [← zI_n]
      congr 1
      show _ = ((nxp T H v w (prc T H v w fp i) : Nat) : Int)
      unfold nxp
      omega
    rw [cn, ← zI_add, zI_n, show zI 1 = nI 1 from rfl, show zI 99 = nI 99 from rfl] at cc
    have nb := nxp_b T H v w (prc T H v w fp i)
    have pb1 := prc_b T H v w hfp (i + 1)
    by_cases z : prc T H v w fp (i + 1) = prc T H v w fp i
    · simp (disch := first | omega | (repeat (first | assumption | exact Ag_r | refine Ag_I ?_ rfl | refine Ag_F ?_ rfl | refine Ag_J ?_ rfl))) only [A129, FC h3, p2, cc, z, CO, HA, HB, HC, Nat.not_lt_zero, Nat.add_assoc, c_nlt, c_nle, c_neq, c_P, c_cl, c_m1, c_m1', nI_add, pk_mul, reduceIte, Nat.reduceEqDiff, Nat.reduceAdd, Nat.reduceMul, Nat.reduceLeDiff, eq_self, ↓pk_rem, pk_div, c_of, d_le, d_nle, d_lt, d_nlt, d_eq, d_ne]
      refine Ev_s ⟨i + 1, rfl, ⟨by omega, fun _ => z, nr⟩, Ag_t g (Qw_p g2), ?_⟩
      rw [p2, ← prc_st T H v w fp z (50 - i), show i + (50 - i) = 50 by omega]
    · have nn := nx (sF ω 0 14 (.int (nI (prc T H v w fp (i + 1)))), .int (zI (sgn (mor T H v w (prc T H v w fp i) v))), .int (nI (prc T H v w fp (i + 1)))) ⟨Ag_F (Ag_t g (Qw_p g2)) rfl, by simp only [HA, and_self, reduceIte], fun r' h1 h2 => by
        by_cases y : r' = i + 1
        · subst y; exact z
        · exact nr r' h1 (by omega)⟩
      refine Ev_e ?_ nn
      simp (disch := first | omega | (repeat (first | assumption | exact Ag_r | refine Ag_I ?_ rfl | refine Ag_F ?_ rfl | refine Ag_J ?_ rfl))) only [A129, FC h3, p2, cc, z, CO, HA, HB, HC, Nat.not_lt_zero, Nat.add_assoc, c_nlt, c_nle, c_neq, c_P, c_cl, c_m1, c_m1', nI_add, pk_mul, reduceIte, Nat.reduceEqDiff, Nat.reduceAdd, Nat.reduceMul, Nat.reduceLeDiff, eq_self, ↓pk_rem, pk_div, c_of, d_le, d_nle, d_lt, d_nlt, d_eq, d_ne]
  · intro ⟨υ, l1, l2⟩ ⟨g, p1, nr⟩
    show Ev (den (d + 6, 129, 13, [.ref 0, .int (nI w), .int (nI (50 + 1)), l1, l2], [], υ)) _
    rw [a129_13]
    simp (disch := first | omega | (repeat (first | assumption | exact Ag_r | refine Ag_I ?_ rfl | refine Ag_F ?_ rfl | refine Ag_J ?_ rfl))) only [A129, CO, HA, HB, HC, Nat.not_lt_zero, Nat.add_assoc, c_nlt, c_nle, c_neq, c_P, c_cl, c_m1, c_m1', nI_add, pk_mul, reduceIte, Nat.reduceEqDiff, Nat.reduceAdd, Nat.reduceMul, Nat.reduceLeDiff, eq_self, ↓pk_rem, pk_div, c_of, d_le, d_nle, d_lt, d_nlt, d_eq, d_ne]
    exact Ev_s ⟨51, rfl, ⟨by omega, fun h => by omega, nr⟩, g, p1⟩
def Qz (σ τ : Hp) : Prop := Ag (fun k => Nat.beq k 70 || Nat.beq k 71 || Nat.beq k 82 || Nat.beq k 83) (fun k j => Nat.beq k 57 && (Nat.beq j 27 || Nat.beq j 30 || Nat.beq j 31 || Nat.beq j 32)) σ τ
theorem Qs_z {σ τ : Hp} (g : Qs σ τ) : Qz σ τ := Ag_w g (fun k e => by rw [e, Bool.true_or, Bool.true_or]) (fun _ _ e => e)
theorem Qz_m {σ τ : Hp} (g : Qz σ τ) : Qm σ τ := Ag_w g (fun k e => by
  simp only [Bool.or_eq_true] at e
  rcases e with ((e | e) | e) | e <;> (have := Nat.eq_of_beq_eq_true e; subst this; rfl)) (fun k j e => by
  simp only [Bool.and_eq_true, Bool.or_eq_true] at e
  obtain ⟨e1, ((e2 | e2) | e2) | e2⟩ := e <;>
  · have e1 := Nat.eq_of_beq_eq_true e1
    have e2 := Nat.eq_of_beq_eq_true e2
    subst e1 e2; rfl)
theorem HoM_z {τ υ : Hp} {K P : Nat → Nat} (g : Qz τ υ) (h : HoM τ K P) : HoM υ K P := ⟨fun c hc => by rw [Ag_i g 72 rfl]; exact h.1 c hc, fun u hu => by rw [Ag_i g 73 rfl]; exact h.2 u hu⟩
theorem M_more (hM : FxM ρ) (sM : StM ρ v H) (hw : Wf v H) (lf : LfM ρ T) {K : Nat → Nat} {w p : Nat} (hw7 : w < 7) (hp : p ≤ 99) (hq : Qm ρ τ) (ho : HoM τ K (hd H v)) (h82 : hI τ 82 w = nI p) {x1 x2 l : Value} {Q : Option Value → Hp → Prop} (fin : ∀ υ, Qs τ υ → Ev (den (d + 6, 211, 50, [.ref 57, x1, x2, .int (nI w), .int (zI (mor T H v w p v)), .int (nI v)], [], υ)) Q) : Ev (den (d + 6, 211, 50, [.ref 57, x1, x2, .int (nI w), .int (nI 0), .int (nI 0)], [], τ)) Q := by
  have hv8 := hw.2.1
  refine lp (α := Hp) (h := fun i x => (d + 6, 211, 50, [.ref 57, x1, x2, .int (nI w), .int (zI (mor T H v w p i)), .int (nI i)], [], x)) (I := fun i x => Qs τ x) v ?_ ?_ 0 τ (Nat.zero_le _) Ag_r
  · intro u υ hu g nx
    have hq2 : Qm ρ υ := Ag_t hq (Qs_m g)
    have h2 := Qm_M hq2 hM
    have e82 : hI υ 82 w = nI p := by rw [Ag_i g 82 rfl]; exact h82
    have k2 := (HoM_s g ho).2 u (by omega)
    have hd2 := hd_le H u hv8
    show Ev (den (d + 6, 211, 50, [.ref 57, x1, x2, .int (nI w), .int (zI (mor T H v w p u)), .int (nI u)], [], υ)) _
    have L := lf d υ (wanW u w p (hd H v u)) 3 0 (by omega) hq2 ⟨by refine j8 ?_ ?_ ?_ ?_ ?_ ?_ ?_ ?_ <;> refine ⟨?_, ?_⟩ <;> simp only [wanW, wdf, reduceIte, Nat.reduceEqDiff] <;> omega, Or.inl ⟨rfl, rfl⟩, Or.inr ⟨u, by omega, rfl, by rw [k2.1]; exact (zI_n _).symm⟩⟩
    have w0 : zI (wanW u w p (hd H v u) 0) = -1 := rfl
    have w1 : zI (wanW u w p (hd H v u) 1) = -1 := rfl
    have w2 : zI (wanW u w p (hd H v u) 2) = nI u := zI_n _
    have w3 : zI (wanW u w p (hd H v u) 3) = -1 := rfl
    have w4 : zI (wanW u w p (hd H v u) 4) = nI w := zI_n _
    have w7 : zI (wanW u w p (hd H v u) 7) = nI p := zI_n _
    rw [w0, w1, w2, w3, w4, w7] at L
    have mm : mor T H v w p (u + 1) = mor T H v w p u + (if tb T 3 (wanW u w p (hd H v u)) = true then 1 else 0) - (if tb T 4 (selW u w p) = true then 1 else 0) := rfl
    generalize wanW u w p (hd H v u) = w1 at L mm
    rw [a211_50]
    simp (disch := first | omega | (repeat (first | assumption | exact Ag_r | refine Ag_I ?_ rfl | refine Ag_F ?_ rfl | refine Ag_J ?_ rfl))) only [A211, FM h2, M_villages' hM hq2, sM.1, e82, show lN 0 = zL 0 from rfl, CO, HA, HB, HC, Nat.not_lt_zero, Nat.add_assoc, c_nlt, c_nle, c_neq, c_P, c_cl, c_m1, c_m1', nI_add, pk_mul, reduceIte, Nat.reduceEqDiff, Nat.reduceAdd, Nat.reduceMul, Nat.reduceLeDiff, eq_self, ↓pk_rem, pk_div, c_of, d_le, d_nle, d_lt, d_nlt, d_eq, d_ne]
    refine Ev_b L ?_
    rintro _ ω ⟨rfl, g2, -⟩
    have hq3 : Qm ρ ω := Ag_t hq2 (Qs_m g2)
    have h3 := Qm_M hq3 hM
    have e83 : hI ω 82 w = nI p := by rw [Ag_i g2 82 rfl]; exact e82
    have L2 := lf d ω (selW u w p) 4 0 (by omega) hq3 ⟨by refine j8 ?_ ?_ ?_ ?_ ?_ ?_ ?_ ?_ <;> refine ⟨?_, ?_⟩ <;> simp only [selW, wdf, reduceIte, Nat.reduceEqDiff] <;> omega, Or.inl ⟨rfl, rfl⟩, Or.inl ⟨rfl, rfl⟩⟩
    have v0 : zI (selW u w p 0) = -1 := rfl
    have v1 : zI (selW u w p 1) = nI u := zI_n _
    have v2 : zI (selW u w p 2) = -1 := rfl
    have v3 : zI (selW u w p 3) = -1 := rfl
    have v4 : zI (selW u w p 4) = nI w := zI_n _
    have v7 : zI (selW u w p 7) = nI p := zI_n _
    rw [v0, v1, v2, v3, v4, v7] at L2
    generalize selW u w p = w2 at L2 mm
    have one : ∀ h, ¬ h < 2 → ∀ w', tlM T h w' 0 = if tb T h w' = true then 1 else 0 := by
      intro h hh w'
      unfold tlM tb
      cases T h w' with
      | none => rfl
      | some z => simp only [Option.isSome_some, reduceIte, hh]
    have c1 : (zL 1 = lN 1) = True := eq_true rfl
    have c0 : (zL 0 = lN 1) = False := eq_false (by decide)
    rw [one 3 (by omega) w1]
    have step : ∀ (z1 : Int), mor T H v w p (u + 1) = mor T H v w p u + z1 - (if tb T 4 w2 = true then 1 else 0) → Ev (den (d + 6, 211, 92, [.ref 57, x1, x2, .int (nI w), .int (zI (mor T H v w p u + z1)), .int (nI u)], [], ω)) Q := by
      intro z1 hm
      simp (disch := first | omega | (repeat (first | assumption | exact Ag_r | refine Ag_I ?_ rfl | refine Ag_F ?_ rfl | refine Ag_J ?_ rfl))) only [A211, FM h3, e83, show lN 0 = zL 0 from rfl, CO, HA, HB, HC, Nat.not_lt_zero, Nat.add_assoc, c_nlt, c_nle, c_neq, c_P, c_cl, c_m1, c_m1', nI_add, pk_mul, reduceIte, Nat.reduceEqDiff, Nat.reduceAdd, Nat.reduceMul, Nat.reduceLeDiff, eq_self, ↓pk_rem, pk_div, c_of, d_le, d_nle, d_lt, d_nlt, d_eq, d_ne]
      refine Ev_b L2 ?_
      rintro _ ψ ⟨rfl, g3, -⟩
      rw [one 4 (by omega) w2]
      have nn := nx ψ (Ag_t g (Ag_t g2 g3))
      by_cases b : tb T 4 w2 = true
      · rw [if_pos b] at hm ⊢
        rw [hm] at nn
        refine Ev_e ?_ nn
        simp (disch := first | omega | (repeat (first | assumption | exact Ag_r | refine Ag_I ?_ rfl | refine Ag_F ?_ rfl | refine Ag_J ?_ rfl))) only [A211, lc_eq, c1, zs1, CO, HA, HB, HC, Nat.not_lt_zero, Nat.add_assoc, c_nlt, c_nle, c_neq, c_P, c_cl, c_m1, c_m1', nI_add, pk_mul, reduceIte, Nat.reduceEqDiff, Nat.reduceAdd, Nat.reduceMul, Nat.reduceLeDiff, eq_self, ↓pk_rem, pk_div, c_of, d_le, d_nle, d_lt, d_nlt, d_eq, d_ne]
      · rw [if_neg b] at hm ⊢
        rw [hm] at nn
        refine Ev_e ?_ nn
        simp (disch := first | omega | (repeat (first | assumption | exact Ag_r | refine Ag_I ?_ rfl | refine Ag_F ?_ rfl | refine Ag_J ?_ rfl))) only [A211, lc_eq, c0, zs0, CO, HA, HB, HC, Nat.not_lt_zero, Nat.add_assoc, c_nlt, c_nle, c_neq, c_P, c_cl, c_m1, c_m1', nI_add, pk_mul, reduceIte, Nat.reduceEqDiff, Nat.reduceAdd, Nat.reduceMul, Nat.reduceLeDiff, eq_self, ↓pk_rem, pk_div, c_of, d_le, d_nle, d_lt, d_nlt, d_eq, d_ne]
    by_cases b : tb T 3 w1 = true
    · rw [if_pos b] at mm ⊢
      refine Ev_e ?_ (step 1 mm)
      simp only [tl_s, a211_79, a211_80, a211_81, lc_eq, c1, a211_84, a211_85, a211_89, a211_90, reduceIte]
      rw [show nI 1 = zI 1 from rfl, zI_add]
    · rw [if_neg b] at mm ⊢
      refine Ev_e ?_ (step 0 mm)
      simp only [tl_s, a211_79, a211_80, a211_81, lc_eq, c0, a211_88, a211_89, a211_90, reduceIte]
      rw [show nI 0 = zI 0 from rfl, zI_add]
  · intro υ g
    exact fin υ g
theorem M_findPrices (hM : FxM ρ) (sM : StM ρ v H) (hw : Wf v H) (lf : LfM ρ T) {fp : Nat} {K : Nat → Nat} (hf : hI ρ 59 1 = nI fp) (hfp : 1 ≤ fp ∧ fp ≤ 99) (hq : Qm ρ τ) (ho : HoM τ K (hd H v)) : Ev (den (d + 6, 211, 0, [.ref 57, .float 0, .float 0, .float 0, .float 0, .float 0], [], τ)) (fun a υ => ∃ r, a = some (.int (nI r)) ∧ IsR (fun r => ∀ w, w < 7 → prc T H v w fp r = prc T H v w fp (r - 1)) r ∧ Qm ρ υ ∧ ∀ w, w < 7 → hI υ 82 w = nI (prc T H v w fp 50)) := by
  have hv8 := hw.2.1
  simp (disch := first | omega | (repeat (first | assumption | exact Ag_r | refine Ag_I ?_ rfl | refine Ag_F ?_ rfl | refine Ag_J ?_ rfl))) only [A211, CO, HA, HB, HC, Nat.not_lt_zero, Nat.add_assoc, c_nlt, c_nle, c_neq, c_P, c_cl, c_m1, c_m1', nI_add, pk_mul, reduceIte, Nat.reduceEqDiff, Nat.reduceAdd, Nat.reduceMul, Nat.reduceLeDiff, eq_self, ↓pk_rem, pk_div, c_of, d_le, d_nle, d_lt, d_nlt, d_eq, d_ne]
  refine lp (α := Hp) (h := fun i x => (d + 6, 211, 2, [.ref 57, .int (nI i), .float 0, .float 0, .float 0, .float 0], [], x)) (I := fun i x => Qz τ x ∧ ∀ w, w < i → hI x 82 w = nI fp) 7 ?_ ?_ 0 τ (Nat.zero_le _) ⟨Ag_r, fun w hw => absurd hw (Nat.not_lt_zero w)⟩
  · intro i υ hi ⟨g, p1⟩ nx
    have hq2 : Qm ρ υ := Ag_t hq (Qz_m g)
    have h2 := Qm_M hq2 hM
    have e1 : hI υ 59 1 = nI fp := by rw [Ag_i hq2 59 rfl]; exact hf
    have nn := nx (sI υ 82 (upd (hI υ 82) i (nI fp))) ⟨Ag_I g rfl, fun w hw => by
      simp only [HA, reduceIte, ua]
      split
      · rfl
      · exact p1 w (by omega)⟩
    refine Ev_e ?_ nn
    show den (d + 6, 211, 2, [.ref 57, .int (nI i), .float 0, .float 0, .float 0, .float 0], [], υ) = _
    rw [a211_2]
    simp (disch := first | omega | (repeat (first | assumption | exact Ag_r | refine Ag_I ?_ rfl | refine Ag_F ?_ rfl | refine Ag_J ?_ rfl))) only [A211, FM h2, e1, CO, HA, HB, HC, Nat.not_lt_zero, Nat.add_assoc, c_nlt, c_nle, c_neq, c_P, c_cl, c_m1, c_m1', nI_add, pk_mul, reduceIte, Nat.reduceEqDiff, Nat.reduceAdd, Nat.reduceMul, Nat.reduceLeDiff, eq_self, ↓pk_rem, pk_div, c_of, d_le, d_nle, d_lt, d_nlt, d_eq, d_ne]
  intro υ ⟨g0, p0⟩
  show Ev (den (d + 6, 211, 2, [.ref 57, .int (nI 7), .float 0, .float 0, .float 0, .float 0], [], υ)) _
  rw [a211_2]
  simp (disch := first | omega | (repeat (first | assumption | exact Ag_r | refine Ag_I ?_ rfl | refine Ag_F ?_ rfl | refine Ag_J ?_ rfl))) only [A211, CO, HA, HB, HC, Nat.not_lt_zero, Nat.add_assoc, c_nlt, c_nle, c_neq, c_P, c_cl, c_m1, c_m1', nI_add, pk_mul, reduceIte, Nat.reduceEqDiff, Nat.reduceAdd, Nat.reduceMul, Nat.reduceLeDiff, eq_self, ↓pk_rem, pk_div, c_of, d_le, d_nle, d_lt, d_nlt, d_eq, d_ne]
  refine lp (α := Hp × Value × Value × Value × Value) (h := fun i x => (d + 6, 211, 28, [.ref 57, .int (nI (i + 1)), x.2.1, x.2.2.1, x.2.2.2.1, x.2.2.2.2], [], x.1)) (I := fun i x => Qz τ x.1 ∧ (∀ w, w < 7 → hI x.1 82 w = nI (prc T H v w fp i)) ∧ ∀ r', 1 ≤ r' → r' < i + 1 → ¬ ∀ w, w < 7 → prc T H v w fp r' = prc T H v w fp (r' - 1)) 50 ?_ ?_ 0 (υ, .float 0, .float 0, .float 0, .float 0) (Nat.zero_le _) ⟨g0, p0, fun r' h1 h2 => by omega⟩
  · clear p0 g0 υ
    intro i ⟨υ, l1, l2, l3, l4⟩ hi ⟨g0, p0, nr⟩ nx
    show Ev (den (d + 6, 211, 28, [.ref 57, .int (nI (i + 1)), l1, l2, l3, l4], [], υ)) _
    rw [a211_28]
    simp (disch := first | omega | (repeat (first | assumption | exact Ag_r | refine Ag_I ?_ rfl | refine Ag_F ?_ rfl | refine Ag_J ?_ rfl))) only [A211, CO, HA, HB, HC, Nat.not_lt_zero, Nat.add_assoc, c_nlt, c_nle, c_neq, c_P, c_cl, c_m1, c_m1', nI_add, pk_mul, reduceIte, Nat.reduceEqDiff, Nat.reduceAdd, Nat.reduceMul, Nat.reduceLeDiff, eq_self, ↓pk_rem, pk_div, c_of, d_le, d_nle, d_lt, d_nlt, d_eq, d_ne]
    refine lp (α := Hp × Int32 × Value × Value) (h := fun w x => (d + 6, 211, 38, [.ref 57, .int (nI (i + 1)), .int x.2.1, .int (nI w), x.2.2.1, x.2.2.2], [], x.1)) (I := fun w x => Qz τ x.1 ∧ (∀ w', w' < 7 → hI x.1 82 w' = nI (prc T H v w' fp i)) ∧ (∀ w', w' < w → hI x.1 83 w' = nI (prc T H v w' fp (i + 1))) ∧ ((x.2.1 = nI 0 ∧ ∀ w', w' < w → prc T H v w' fp (i + 1) = prc T H v w' fp i) ∨ (x.2.1 = nI 1 ∧ ∃ w', w' < w ∧ ¬ prc T H v w' fp (i + 1) = prc T H v w' fp i))) 7 ?_ ?_ 0 (υ, nI 0, l3, l4) (Nat.zero_le _) ⟨g0, p0, fun w hw => absurd hw (Nat.not_lt_zero w), Or.inl ⟨rfl, fun w hw => absurd hw (Nat.not_lt_zero w)⟩⟩
    · clear p0 g0 υ
      intro w ⟨υ, c, l3, l4⟩ hw7 ⟨g0, p0, p1, pc⟩ nx2
      dsimp only at g0 p0 p1 pc
      show Ev (den (d + 6, 211, 38, [.ref 57, .int (nI (i + 1)), .int c, .int (nI w), l3, l4], [], υ)) _
      rw [a211_38]
      simp (disch := first | omega | (repeat (first | assumption | exact Ag_r | refine Ag_I ?_ rfl | refine Ag_F ?_ rfl | refine Ag_J ?_ rfl))) only [A211, CO, HA, HB, HC, Nat.not_lt_zero, Nat.add_assoc, c_nlt, c_nle, c_neq, c_P, c_cl, c_m1, c_m1', nI_add, pk_mul, reduceIte, Nat.reduceEqDiff, Nat.reduceAdd, Nat.reduceMul, Nat.reduceLeDiff, eq_self, ↓pk_rem, pk_div, c_of, d_le, d_nle, d_lt, d_nlt, d_eq, d_ne]
      have hq2 : Qm ρ υ := Ag_t hq (Qz_m g0)
      have pb := prc_b T H v w hfp i
      refine M_more (l := l3) hM sM hw lf hw7 pb.2 hq2 (HoM_z g0 ho) (p0 w hw7) ?_
      intro ω g2
      have hq3 : Qm ρ ω := Ag_t hq2 (Qs_m g2)
      have h3 := Qm_M hq3 hM
      have e82 : hI ω 82 w = nI (prc T H v w fp i) := by rw [Ag_i g2 82 rfl]; exact p0 w hw7
      have ml := mor_le T H v w (prc T H v w fp i) v
      obtain ⟨c1, c2, c3, c4⟩ := sgn_C (mor T H v w (prc T H v w fp i) v) (by omega)
      have sb : -1 ≤ sgn (mor T H v w (prc T H v w fp i) v) ∧ sgn (mor T H v w (prc T H v w fp i) v) ≤ 1 := by unfold sgn; split <;> (try split) <;> omega
      have cn : zI (clp 1 99 (((prc T H v w fp i : Nat) : Int) + sgn (mor T H v w (prc T H v w fp i) v))) = nI (prc T H v w fp (i + 1)) := by
        have := clp_b (((prc T H v w fp i : Nat) : Int) + sgn (mor T H v w (prc T H v w fp i) v))
        rw [← zI_n]
        congr 1
        show _ = ((nxp T H v w (prc T H v w fp i) : Nat) : Int)
        unfold nxp
        omega
      have wn := M_within (d := d + 5) (τ := ω) (z := ((prc T H v w fp i : Nat) : Int) + sgn (mor T H v w (prc T H v w fp i) v)) (by unfold Bz; omega) (lo := 1) (hi := 99) (by omega) (by omega) (by omega)
      rw [cn, show zI 1 = nI 1 from rfl, show zI 99 = nI 99 from rfl] at wn
      have tl : (nI (prc T H v w fp i) + zI (sgn (mor T H v w (prc T H v w fp i) v))).toInt64 = zL (((prc T H v w fp i : Nat) : Int) + sgn (mor T H v w (prc T H v w fp i) v)) := by
        rw [← zI_n, zI_add, zI_L (by omega) (by omega)]
      have mid : den (d + 6, 211, 50, [.ref 57, .int (nI (i + 1)), .int c, .int (nI w), .int (zI (mor T H v w (prc T H v w fp i) v)), .int (nI v)], [], ω) = den (d + 6, 211, 161, [.ref 57, .int (nI (i + 1)), .int c, .int (nI w), .int (zI (mor T H v w (prc T H v w fp i) v)), .int (nI v)], [.int (zI (sgn (mor T H v w (prc T H v w fp i) v))), .int (nI (prc T H v w fp i)), .int (nI w), .ref 83], ω) := by
        rw [a211_50]
        unfold sgn
        by_cases z : 0 < mor T H v w (prc T H v w fp i) v
        · rw [if_pos z]
          simp (disch := first | omega | assumption) only [a211_52, a211_53, a211_56, M_villages' hM hq3, sM.1, FM h3, a211_131, a211_132, a211_135, a211_136, a211_137, a211_140, a211_141, e82, a211_142, a211_144, a211_147, a211_148, CO, c_nle, Nat.le_refl, c_P, c_cl, reduceIte, c1, show (mor T H v w (prc T H v w fp i) v ≤ 0) = False from eq_false (by omega)]
          rfl
        · rw [if_neg z]
          by_cases z2 : mor T H v w (prc T H v w fp i) v < 0
          · rw [if_pos z2]
            simp (disch := first | omega | assumption) only [a211_52, a211_53, a211_56, M_villages' hM hq3, sM.1, FM h3, a211_131, a211_132, a211_135, a211_136, a211_137, a211_140, a211_141, e82, a211_142, a211_144, a211_151, a211_153, a211_156, a211_157, CO, c_nle, Nat.le_refl, c_P, c_cl, reduceIte, c1, c2, show (mor T H v w (prc T H v w fp i) v ≤ 0) = True from eq_true (by omega), show (0 ≤ mor T H v w (prc T H v w fp i) v) = False from eq_false (by omega)]
            rfl
          · rw [if_neg z2]
            simp (disch := first | omega | assumption) only [a211_52, a211_53, a211_56, M_villages' hM hq3, sM.1, FM h3, a211_131, a211_132, a211_135, a211_136, a211_137, a211_140, a211_141, e82, a211_142, a211_144, a211_151, a211_153, a211_160, CO, c_nle, Nat.le_refl, c_P, c_cl, reduceIte, c1, c2, show (mor T H v w (prc T H v w fp i) v ≤ 0) = True from eq_true (by omega), show (0 ≤ mor T H v w (prc T H v w fp i) v) = True from eq_true (by omega)]
            rfl
      rw [mid]
      have pb1 := prc_b T H v w hfp (i + 1)
      have nn := fun (c' : Int32) (hc : (c' = nI 0 ∧ ∀ w', w' < w + 1 → prc T H v w' fp (i + 1) = prc T H v w' fp i) ∨ (c' = nI 1 ∧ ∃ w', w' < w + 1 ∧ ¬ prc T H v w' fp (i + 1) = prc T H v w' fp i)) => nx2 (sI ω 83 (upd (hI ω 83) w (nI (prc T H v w fp (i + 1)))), c', .int (zI (mor T H v w (prc T H v w fp i) v)), .int (nI v)) ⟨Ag_I (Ag_t g0 (Qs_z g2)) rfl, fun w' hw' => by simp only [HA, Nat.reduceEqDiff, reduceIte]; rw [Ag_i g2 82 rfl]; exact p0 w' hw', fun w' hw' => by
        simp only [HA, reduceIte, ua]
        split
        · next y => rw [y]
        · rw [Ag_i g2 83 rfl]; exact p1 w' (by omega), hc⟩
      rcases pc with ⟨rfl, pc⟩ | ⟨rfl, w', hw', pc⟩
      · by_cases z : prc T H v w fp (i + 1) = prc T H v w fp i
        · refine Ev_e ?_ (nn (nI 0) (Or.inl ⟨rfl, fun w' hw' => by
            by_cases y : w' = w
            · rw [y]; exact z
            · exact pc w' (by omega)⟩))
          simp (disch := first | omega | (repeat (first | assumption | exact Ag_r | refine Ag_I ?_ rfl | refine Ag_F ?_ rfl | refine Ag_J ?_ rfl))) only [A211, FM h3, tl, wn, ua, e82, z, CO, HA, HB, HC, Nat.not_lt_zero, Nat.add_assoc, c_nlt, c_nle, c_neq, c_P, c_cl, c_m1, c_m1', nI_add, pk_mul, reduceIte, Nat.reduceEqDiff, Nat.reduceAdd, Nat.reduceMul, Nat.reduceLeDiff, eq_self, ↓pk_rem, pk_div, c_of, d_le, d_nle, d_lt, d_nlt, d_eq, d_ne]
        · refine Ev_e ?_ (nn (nI 1) (Or.inr ⟨rfl, w, by omega, z⟩))
          simp (disch := first | omega | (repeat (first | assumption | exact Ag_r | refine Ag_I ?_ rfl | refine Ag_F ?_ rfl | refine Ag_J ?_ rfl))) only [A211, FM h3, tl, wn, ua, e82, z, CO, HA, HB, HC, Nat.not_lt_zero, Nat.add_assoc, c_nlt, c_nle, c_neq, c_P, c_cl, c_m1, c_m1', nI_add, pk_mul, reduceIte, Nat.reduceEqDiff, Nat.reduceAdd, Nat.reduceMul, Nat.reduceLeDiff, eq_self, ↓pk_rem, pk_div, c_of, d_le, d_nle, d_lt, d_nlt, d_eq, d_ne]
      · refine Ev_e ?_ (nn (nI 1) (Or.inr ⟨rfl, w', by omega, pc⟩))
        simp (disch := first | omega | (repeat (first | assumption | exact Ag_r | refine Ag_I ?_ rfl | refine Ag_F ?_ rfl | refine Ag_J ?_ rfl))) only [A211, FM h3, tl, wn, ua, e82, CO, HA, HB, HC, Nat.not_lt_zero, Nat.add_assoc, c_nlt, c_nle, c_neq, c_P, c_cl, c_m1, c_m1', nI_add, pk_mul, reduceIte, Nat.reduceEqDiff, Nat.reduceAdd, Nat.reduceMul, Nat.reduceLeDiff, eq_self, ↓pk_rem, pk_div, c_of, d_le, d_nle, d_lt, d_nlt, d_eq, d_ne]
    · clear p0 g0 υ
      intro ⟨υ, c, l3, l4⟩ ⟨g0, p0, p1, pc⟩
      dsimp only at g0 p0 p1 pc
      show Ev (den (d + 6, 211, 38, [.ref 57, .int (nI (i + 1)), .int c, .int (nI 7), l3, l4], [], υ)) _
      rw [a211_38]
      simp (disch := first | omega | (repeat (first | assumption | exact Ag_r | refine Ag_I ?_ rfl | refine Ag_F ?_ rfl | refine Ag_J ?_ rfl))) only [A211, CO, HA, HB, HC, Nat.not_lt_zero, Nat.add_assoc, c_nlt, c_nle, c_neq, c_P, c_cl, c_m1, c_m1', nI_add, pk_mul, reduceIte, Nat.reduceEqDiff, Nat.reduceAdd, Nat.reduceMul, Nat.reduceLeDiff, eq_self, ↓pk_rem, pk_div, c_of, d_le, d_nle, d_lt, d_nlt, d_eq, d_ne]
      refine lp (α := Hp) (h := fun w x => (d + 6, 211, 203, [.ref 57, .int (nI (i + 1)), .int c, .int (nI w), l3, l4], [], x)) (I := fun w x => Qz τ x ∧ (∀ w', w' < 7 → hI x 83 w' = nI (prc T H v w' fp (i + 1))) ∧ (∀ w', w' < w → hI x 82 w' = nI (prc T H v w' fp (i + 1)))) 7 ?_ ?_ 0 υ (Nat.zero_le _) ⟨g0, p1, fun w hw => absurd hw (Nat.not_lt_zero w)⟩
      · clear p0 p1 g0 υ
        intro w υ hw7 ⟨g0, p1, p0⟩ nx2
        have hq2 : Qm ρ υ := Ag_t hq (Qz_m g0)
        have h2 := Qm_M hq2 hM
        have nn := nx2 (sI υ 82 (upd (hI υ 82) w (nI (prc T H v w fp (i + 1))))) ⟨Ag_I g0 rfl, fun w' hw' => by simp only [HA, Nat.reduceEqDiff, reduceIte]; exact p1 w' hw', fun w' hw' => by
          simp only [HA, reduceIte, ua]
          split
          · next y => rw [y]
          · exact p0 w' (by omega)⟩
        refine Ev_e ?_ nn
        show den (d + 6, 211, 203, [.ref 57, .int (nI (i + 1)), .int c, .int (nI w), l3, l4], [], υ) = _
        rw [a211_203]
        simp (disch := first | omega | (repeat (first | assumption | exact Ag_r | refine Ag_I ?_ rfl | refine Ag_F ?_ rfl | refine Ag_J ?_ rfl))) only [A211, FM h2, p1 w hw7, CO, HA, HB, HC, Nat.not_lt_zero, Nat.add_assoc, c_nlt, c_nle, c_neq, c_P, c_cl, c_m1, c_m1', nI_add, pk_mul, reduceIte, Nat.reduceEqDiff, Nat.reduceAdd, Nat.reduceMul, Nat.reduceLeDiff, eq_self, ↓pk_rem, pk_div, c_of, d_le, d_nle, d_lt, d_nlt, d_eq, d_ne]
      · clear p0 p1 g0 υ
        intro υ ⟨g0, p1, p0⟩
        show Ev (den (d + 6, 211, 203, [.ref 57, .int (nI (i + 1)), .int c, .int (nI 7), l3, l4], [], υ)) _
        rw [a211_203]
        rcases pc with ⟨rfl, pc⟩ | ⟨rfl, w', hw', pc⟩
        · simp (disch := first | omega | (repeat (first | assumption | exact Ag_r | refine Ag_I ?_ rfl | refine Ag_F ?_ rfl | refine Ag_J ?_ rfl))) only [A211, CO, HA, HB, HC, Nat.not_lt_zero, Nat.add_assoc, c_nlt, c_nle, c_neq, c_P, c_cl, c_m1, c_m1', nI_add, pk_mul, reduceIte, Nat.reduceEqDiff, Nat.reduceAdd, Nat.reduceMul, Nat.reduceLeDiff, eq_self, ↓pk_rem, pk_div, c_of, d_le, d_nle, d_lt, d_nlt, d_eq, d_ne]
          refine Ev_s ⟨i + 1, rfl, ⟨by omega, fun _ => pc, nr⟩, Ag_t hq (Qz_m g0), fun w hw => ?_⟩
          rw [p0 w hw, pc w hw, ← prc_st T H v w fp (pc w hw) (50 - i), show i + (50 - i) = 50 by omega]
        · have nn := nx (υ, .int (nI 1), .int (nI 7), l3, l4) ⟨g0, p0, fun r' h1 h2 hh => by
            by_cases y : r' = i + 1
            · subst y; exact pc (hh w' hw')
            · exact nr r' h1 (by omega) hh⟩
          refine Ev_e ?_ nn
          simp (disch := first | omega | (repeat (first | assumption | exact Ag_r | refine Ag_I ?_ rfl | refine Ag_F ?_ rfl | refine Ag_J ?_ rfl))) only [A211, CO, HA, HB, HC, Nat.not_lt_zero, Nat.add_assoc, c_nlt, c_nle, c_neq, c_P, c_cl, c_m1, c_m1', nI_add, pk_mul, reduceIte, Nat.reduceEqDiff, Nat.reduceAdd, Nat.reduceMul, Nat.reduceLeDiff, eq_self, ↓pk_rem, pk_div, c_of, d_le, d_nle, d_lt, d_nlt, d_eq, d_ne]
  · clear p0 g0 υ
    intro ⟨υ, l1, l2, l3, l4⟩ ⟨g0, p0, nr⟩
    show Ev (den (d + 6, 211, 28, [.ref 57, .int (nI (50 + 1)), l1, l2, l3, l4], [], υ)) _
    rw [a211_28]
    simp (disch := first | omega | (repeat (first | assumption | exact Ag_r | refine Ag_I ?_ rfl | refine Ag_F ?_ rfl | refine Ag_J ?_ rfl))) only [A211, CO, HA, HB, HC, Nat.not_lt_zero, Nat.add_assoc, c_nlt, c_nle, c_neq, c_P, c_cl, c_m1, c_m1', nI_add, pk_mul, reduceIte, Nat.reduceEqDiff, Nat.reduceAdd, Nat.reduceMul, Nat.reduceLeDiff, eq_self, ↓pk_rem, pk_div, c_of, d_le, d_nle, d_lt, d_nlt, d_eq, d_ne]
    exact Ev_s ⟨51, rfl, ⟨by omega, fun h => by omega, nr⟩, Ag_t hq (Qz_m g0), p0⟩
theorem l_m1 (x : Int32) : ((-1 : Int64) ≤ x.toInt64) = ((-1 : Int32) ≤ x) := by
  rw [eq_iff_iff, Int64.le_iff_toInt_le, Int32.le_iff_toInt_le, Int32.toInt_toInt64]
  exact Iff.rfl
theorem mx_if {x y : Nat} (h : x < 2 ^ 31) (h2 : y < 2 ^ 31) : (if x < y then nI y else nI x) = nI (max x y) := by
  by_cases z : x < y
  · rw [if_pos z, show max x y = y by omega]
  · rw [if_neg z, show max x y = x by omega]
theorem P_price (hC : FxC σ) (hM : FxM ρ) (sC : StC σ v H) (sM : StM ρ v H) (hw : Wf v H) (lC : LfC σ T) (lM : LfM ρ T) {fp : Nat} (fC : hF σ 1 1 = .int (nI fp)) (fM : hI ρ 59 1 = nI fp) (hfp : 1 ≤ fp ∧ fp ≤ 99) (x : Int32) : ∃ r, Ev (den (d + 8, 108, 0, [.ref 0, .int x, .float 0, .float 0], [], σ)) (fun a τ => a = some (.int r) ∧ Qc σ τ) ∧ Ev (den (d + 8, 212, 0, [.ref 57, .int x, .float 0], [], ρ)) (fun a τ => a = some (.int r) ∧ Qm ρ τ) := by
  have hv8 := hw.2.1
  by_cases hx : x = -1
  · subst hx
    -- the model first: it tells how many rounds
    have mod : Ev (den (d + 8, 212, 0, [.ref 57, .int (-1), .float 0], [], ρ)) (fun a τ => ∃ r, a = some (.int (nI r)) ∧ IsR (fun r => ∀ w, w < 7 → prc T H v w fp r = prc T H v w fp (r - 1)) r ∧ Qm ρ τ) := by
      simp (disch := first | omega | (repeat (first | assumption | exact Ag_r | refine Ag_I ?_ rfl | refine Ag_F ?_ rfl | refine Ag_J ?_ rfl))) only [A212, FM hM, M_in, l_m1, l_hi, m1_m1, m1_le, m1_ge, CO, HA, HB, HC, Nat.not_lt_zero, Nat.add_assoc, c_nlt, c_nle, c_neq, c_P, c_cl, c_m1, c_m1', nI_add, pk_mul, reduceIte, Nat.reduceEqDiff, Nat.reduceAdd, Nat.reduceMul, Nat.reduceLeDiff, eq_self, ↓pk_rem, pk_div, c_of, d_le, d_nle, d_lt, d_nlt, d_eq, d_ne]
      refine Ev_b (M_load hM sM hw (by repeat (first | assumption | exact Ag_r | refine Ag_I ?_ rfl | refine Ag_F ?_ rfl | refine Ag_J ?_ rfl))) ?_
      rintro _ τ ⟨rfl, hq, hl⟩
      have h' := Qm_M hq hM
      simp (disch := first | omega | (repeat (first | assumption | exact Ag_r | refine Ag_I ?_ rfl | refine Ag_F ?_ rfl | refine Ag_J ?_ rfl))) only [A212, FM h', CO, HA, HB, HC, Nat.not_lt_zero, Nat.add_assoc, c_nlt, c_nle, c_neq, c_P, c_cl, c_m1, c_m1', nI_add, pk_mul, reduceIte, Nat.reduceEqDiff, Nat.reduceAdd, Nat.reduceMul, Nat.reduceLeDiff, eq_self, ↓pk_rem, pk_div, c_of, d_le, d_nle, d_lt, d_nlt, d_eq, d_ne]
      refine Ev_b (M_findPrices (d := d + 1) hM sM hw lM fM hfp hq (HoM_ld hw hl)) ?_
      rintro _ υ ⟨r, rfl, ir, hq2, -⟩
      simp (disch := first | omega | (repeat (first | assumption | exact Ag_r | refine Ag_I ?_ rfl | refine Ag_F ?_ rfl | refine Ag_J ?_ rfl))) only [A212, CO, HA, HB, HC, Nat.not_lt_zero, Nat.add_assoc, c_nlt, c_nle, c_neq, c_P, c_cl, c_m1, c_m1', nI_add, pk_mul, reduceIte, Nat.reduceEqDiff, Nat.reduceAdd, Nat.reduceMul, Nat.reduceLeDiff, eq_self, ↓pk_rem, pk_div, c_of, d_le, d_nle, d_lt, d_nlt, d_eq, d_ne]
      exact Ev_s ⟨r, rfl, ir, hq2⟩
    obtain ⟨a, τm, em, r, rfl, ir, hqm⟩ := mod
    refine ⟨nI r, ?_, ⟨_, _, em, rfl, hqm⟩⟩
    simp (disch := first | omega | (repeat (first | assumption | exact Ag_r | refine Ag_I ?_ rfl | refine Ag_F ?_ rfl | refine Ag_J ?_ rfl))) only [A108, FC hC, m1_m1, m1_le, m1_ge, m1_lt, CO, HA, HB, HC, Nat.not_lt_zero, Nat.add_assoc, c_nlt, c_nle, c_neq, c_P, c_cl, c_m1, c_m1', nI_add, pk_mul, reduceIte, Nat.reduceEqDiff, Nat.reduceAdd, Nat.reduceMul, Nat.reduceLeDiff, eq_self, ↓pk_rem, pk_div, c_of, d_le, d_nle, d_lt, d_nlt, d_eq, d_ne]
    refine Ev_b (C_drawUp hC sC hw (by repeat (first | assumption | exact Ag_r | refine Ag_I ?_ rfl | refine Ag_F ?_ rfl | refine Ag_J ?_ rfl))) ?_
    rintro _ τ ⟨rfl, hq, hc⟩
    have h' := Qc_C hq hC
    simp (disch := first | omega | (repeat (first | assumption | exact Ag_r | refine Ag_I ?_ rfl | refine Ag_F ?_ rfl | refine Ag_J ?_ rfl))) only [A108, FC h', CO, HA, HB, HC, Nat.not_lt_zero, Nat.add_assoc, c_nlt, c_nle, c_neq, c_P, c_cl, c_m1, c_m1', nI_add, pk_mul, reduceIte, Nat.reduceEqDiff, Nat.reduceAdd, Nat.reduceMul, Nat.reduceLeDiff, eq_self, ↓pk_rem, pk_div, c_of, d_le, d_nle, d_lt, d_nlt, d_eq, d_ne]
    refine lp (α := Hp × Nat) (h := fun i x => (d + 8, 108, 44, [.ref 0, .int (-1), .int (nI x.2), .int (nI i)], [], x.1)) (I := fun i x => Qp τ x.1 ∧ x.2 ≤ 51 ∧ (i = 0 ∧ x.2 = 0 ∨ ((∀ w, w < i → ∀ k, IsR (fun r => prc T H v w fp r = prc T H v w fp (r - 1)) k → k ≤ x.2) ∧ ∃ w, w < i ∧ IsR (fun r => prc T H v w fp r = prc T H v w fp (r - 1)) x.2))) 7 ?_ ?_ 0 (τ, 0) (Nat.zero_le _) ⟨Ag_r, by omega, Or.inl ⟨rfl, rfl⟩⟩
    · intro i ⟨υ, k⟩ hi ⟨g, k51, hk⟩ nx
      dsimp only at g k51 hk
      have hq2 : Qc σ υ := Ag_t hq (Qp_c g)
      have h2 := Qc_C hq2 hC
      show Ev (den (d + 8, 108, 44, [.ref 0, .int (-1), .int (nI k), .int (nI i)], [], υ)) _
      rw [a108_44]
      simp (disch := first | omega | (repeat (first | assumption | exact Ag_r | refine Ag_I ?_ rfl | refine Ag_F ?_ rfl | refine Ag_J ?_ rfl))) only [A108, FC h2, CO, HA, HB, HC, Nat.not_lt_zero, Nat.add_assoc, c_nlt, c_nle, c_neq, c_P, c_cl, c_m1, c_m1', nI_add, pk_mul, reduceIte, Nat.reduceEqDiff, Nat.reduceAdd, Nat.reduceMul, Nat.reduceLeDiff, eq_self, ↓pk_rem, pk_div, c_of, d_le, d_nle, d_lt, d_nlt, d_eq, d_ne]
      refine Ev_b (C_settle (d := d + 1) hC sC hw lC fC hfp hi hq2 (Cal_p g hc)) ?_
      rintro _ ω ⟨r', rfl, ir', g2, -⟩
      have r51 := ir'.1.2
      have nn := nx (ω, max k r') ⟨Ag_t g g2, by show max k r' ≤ 51; omega, Or.inr ⟨fun w hw k' hk' => by
        show k' ≤ max k r'
        by_cases y : w = i
        · subst y; rw [IsR_u hk' ir']; omega
        · rcases hk with ⟨h1, h2⟩ | ⟨h1, -⟩
          · omega
          · have := h1 w (by omega) k' hk'; omega, by
        show ∃ w, w < i + 1 ∧ IsR _ (max k r')
        by_cases y : k ≤ r'
        · rw [show max k r' = r' by omega]; exact ⟨i, by omega, ir'⟩
        · rw [show max k r' = k by omega]
          rcases hk with ⟨h1, h2⟩ | ⟨-, w, h1, h2⟩
          · omega
          · exact ⟨w, by omega, h2⟩⟩⟩
      refine Ev_e ?_ nn
      simp (disch := first | omega | (repeat (first | assumption | exact Ag_r | refine Ag_I ?_ rfl | refine Ag_F ?_ rfl | refine Ag_J ?_ rfl))) only [A108, FC h2, mx_if, CO, HA, HB, HC, Nat.not_lt_zero, Nat.add_assoc, c_nlt, c_nle, c_neq, c_P, c_cl, c_m1, c_m1', nI_add, pk_mul, reduceIte, Nat.reduceEqDiff, Nat.reduceAdd, Nat.reduceMul, Nat.reduceLeDiff, eq_self, ↓pk_rem, pk_div, c_of, d_le, d_nle, d_lt, d_nlt, d_eq, d_ne]
    · intro ⟨υ, k⟩ ⟨g, k51, hk⟩
      dsimp only at g k51 hk
      show Ev (den (d + 8, 108, 44, [.ref 0, .int (-1), .int (nI k), .int (nI 7)], [], υ)) _
      rw [a108_44]
      simp (disch := first | omega | (repeat (first | assumption | exact Ag_r | refine Ag_I ?_ rfl | refine Ag_F ?_ rfl | refine Ag_J ?_ rfl))) only [A108, CO, HA, HB, HC, Nat.not_lt_zero, Nat.add_assoc, c_nlt, c_nle, c_neq, c_P, c_cl, c_m1, c_m1', nI_add, pk_mul, reduceIte, Nat.reduceEqDiff, Nat.reduceAdd, Nat.reduceMul, Nat.reduceLeDiff, eq_self, ↓pk_rem, pk_div, c_of, d_le, d_nle, d_lt, d_nlt, d_eq, d_ne]
      refine Ev_s ⟨?_, Ag_t hq (Qp_c g)⟩
      rcases hk with ⟨h1, -⟩ | ⟨h1, w0, hw0, h2⟩
      · exact absurd h1 (by omega)
      · congr 3
        refine IsR_u ?_ ir
        -- k is the first round that leaves all
        have ex : ∀ w, w < 7 → ∃ k', IsR (fun r => prc T H v w fp r = prc T H v w fp (r - 1)) k' := by
          intro w hww
          obtain ⟨a, υ', e, r', -, ir', -⟩ := C_settle (d := d + 1) hC sC hw lC fC hfp hww hq hc
          exact ⟨r', ir'⟩
        refine ⟨h2.1, fun k50 w hw => ?_, fun r' h3 h4 hall => h2.2.2 r' h3 h4 (hall w0 hw0)⟩
        obtain ⟨k', ik⟩ := ex w hw
        have kk := h1 w hw k' ik
        have b := ik.2.1 (by omega)
        dsimp only at b
        have b1 := ik.1.1
        have b' : prc T H v w fp (k' - 1 + 1) = prc T H v w fp (k' - 1) := by rw [show k' - 1 + 1 = k' by omega]; exact b
        have st := prc_st T H v w fp b'
        rw [show k = k' - 1 + (k - (k' - 1)) by omega, st, show k' - 1 + (k - (k' - 1)) - 1 = k' - 1 + (k - k') by omega, st]
  · rcases tri x 6 (by omega) with hy | ⟨w, hw6, rfl⟩ | ⟨w, hw6, hw62, rfl⟩
    · have n1 : x < -1 := by
        rw [Int32.lt_iff_toInt_lt] at hy ⊢
        rw [nI_toInt (by omega)] at hy
        have : (-1 : Int32).toInt = -1 := by decide
        have n2 : x.toInt ≠ -1 := fun e => hx (Int32.toInt_inj.mp (by rw [e, this]))
        omega
      have n3 : ((-1 : Int32) ≤ x) = False := eq_false (Int32.not_le.mpr n1)
      refine ⟨-1, ?_, ?_⟩
      · simp (disch := first | omega | (repeat (first | assumption | exact Ag_r | refine Ag_I ?_ rfl | refine Ag_F ?_ rfl | refine Ag_J ?_ rfl))) only [A108, FC hC, eq_true n1, CO, HA, HB, HC, Nat.not_lt_zero, Nat.add_assoc, c_nlt, c_nle, c_neq, c_P, c_cl, c_m1, c_m1', nI_add, pk_mul, reduceIte, Nat.reduceEqDiff, Nat.reduceAdd, Nat.reduceMul, Nat.reduceLeDiff, eq_self, ↓pk_rem, pk_div, c_of, d_le, d_nle, d_lt, d_nlt, d_eq, d_ne]
        exact Ev_s ⟨rfl, (by repeat (first | assumption | exact Ag_r | refine Ag_I ?_ rfl | refine Ag_F ?_ rfl | refine Ag_J ?_ rfl))⟩
      · simp (disch := first | omega | (repeat (first | assumption | exact Ag_r | refine Ag_I ?_ rfl | refine Ag_F ?_ rfl | refine Ag_J ?_ rfl))) only [A212, FM hM, M_in, l_m1, n3, l_hi, ng hy, CO, HA, HB, HC, Nat.not_lt_zero, Nat.add_assoc, c_nlt, c_nle, c_neq, c_P, c_cl, c_m1, c_m1', nI_add, pk_mul, reduceIte, Nat.reduceEqDiff, Nat.reduceAdd, Nat.reduceMul, Nat.reduceLeDiff, eq_self, ↓pk_rem, pk_div, c_of, d_le, d_nle, d_lt, d_nlt, d_eq, d_ne]
        exact Ev_s ⟨rfl, (by repeat (first | assumption | exact Ag_r | refine Ag_I ?_ rfl | refine Ag_F ?_ rfl | refine Ag_J ?_ rfl))⟩
    · refine ⟨nI (prc T H v w fp 50), ?_, ?_⟩
      · simp (disch := first | omega | (repeat (first | assumption | exact Ag_r | refine Ag_I ?_ rfl | refine Ag_F ?_ rfl | refine Ag_J ?_ rfl))) only [A108, FC hC, m1_m1, m1_le, m1_ge, m1_lt, CO, HA, HB, HC, Nat.not_lt_zero, Nat.add_assoc, c_nlt, c_nle, c_neq, c_P, c_cl, c_m1, c_m1', nI_add, pk_mul, reduceIte, Nat.reduceEqDiff, Nat.reduceAdd, Nat.reduceMul, Nat.reduceLeDiff, eq_self, ↓pk_rem, pk_div, c_of, d_le, d_nle, d_lt, d_nlt, d_eq, d_ne]
        refine Ev_b (C_drawUp hC sC hw (by repeat (first | assumption | exact Ag_r | refine Ag_I ?_ rfl | refine Ag_F ?_ rfl | refine Ag_J ?_ rfl))) ?_
        rintro _ τ ⟨rfl, hq, hc⟩
        have h' := Qc_C hq hC
        simp (disch := first | omega | (repeat (first | assumption | exact Ag_r | refine Ag_I ?_ rfl | refine Ag_F ?_ rfl | refine Ag_J ?_ rfl))) only [A108, FC h', hx, CO, HA, HB, HC, Nat.not_lt_zero, Nat.add_assoc, c_nlt, c_nle, c_neq, c_P, c_cl, c_m1, c_m1', nI_add, pk_mul, reduceIte, Nat.reduceEqDiff, Nat.reduceAdd, Nat.reduceMul, Nat.reduceLeDiff, eq_self, ↓pk_rem, pk_div, c_of, d_le, d_nle, d_lt, d_nlt, d_eq, d_ne]
        refine Ev_b (C_settle (d := d + 1) hC sC hw lC fC hfp (by omega) hq hc) ?_
        rintro _ ω ⟨r', rfl, ir', g2, rp⟩
        have h2 := Qc_C (Ag_t hq (Qp_c g2)) hC
        simp (disch := first | omega | (repeat (first | assumption | exact Ag_r | refine Ag_I ?_ rfl | refine Ag_F ?_ rfl | refine Ag_J ?_ rfl))) only [A108, FC h2, rp, CO, HA, HB, HC, Nat.not_lt_zero, Nat.add_assoc, c_nlt, c_nle, c_neq, c_P, c_cl, c_m1, c_m1', nI_add, pk_mul, reduceIte, Nat.reduceEqDiff, Nat.reduceAdd, Nat.reduceMul, Nat.reduceLeDiff, eq_self, ↓pk_rem, pk_div, c_of, d_le, d_nle, d_lt, d_nlt, d_eq, d_ne]
        exact Ev_s ⟨rfl, Ag_t hq (Qp_c g2)⟩
      · simp (disch := first | omega | (repeat (first | assumption | exact Ag_r | refine Ag_I ?_ rfl | refine Ag_F ?_ rfl | refine Ag_J ?_ rfl))) only [A212, FM hM, M_in, l_m1, l_hi, m1_m1, m1_le, m1_ge, CO, HA, HB, HC, Nat.not_lt_zero, Nat.add_assoc, c_nlt, c_nle, c_neq, c_P, c_cl, c_m1, c_m1', nI_add, pk_mul, reduceIte, Nat.reduceEqDiff, Nat.reduceAdd, Nat.reduceMul, Nat.reduceLeDiff, eq_self, ↓pk_rem, pk_div, c_of, d_le, d_nle, d_lt, d_nlt, d_eq, d_ne]
        refine Ev_b (M_load hM sM hw (by repeat (first | assumption | exact Ag_r | refine Ag_I ?_ rfl | refine Ag_F ?_ rfl | refine Ag_J ?_ rfl))) ?_
        rintro _ τ ⟨rfl, hq, hl⟩
        have h' := Qm_M hq hM
        simp (disch := first | omega | (repeat (first | assumption | exact Ag_r | refine Ag_I ?_ rfl | refine Ag_F ?_ rfl | refine Ag_J ?_ rfl))) only [A212, FM h', CO, HA, HB, HC, Nat.not_lt_zero, Nat.add_assoc, c_nlt, c_nle, c_neq, c_P, c_cl, c_m1, c_m1', nI_add, pk_mul, reduceIte, Nat.reduceEqDiff, Nat.reduceAdd, Nat.reduceMul, Nat.reduceLeDiff, eq_self, ↓pk_rem, pk_div, c_of, d_le, d_nle, d_lt, d_nlt, d_eq, d_ne]
        refine Ev_b (M_findPrices (d := d + 1) hM sM hw lM fM hfp hq (HoM_ld hw hl)) ?_
        rintro _ υ ⟨r, rfl, ir, hq2, pr⟩
        have h2 := Qm_M hq2 hM
        simp (disch := first | omega | (repeat (first | assumption | exact Ag_r | refine Ag_I ?_ rfl | refine Ag_F ?_ rfl | refine Ag_J ?_ rfl))) only [A212, FM h2, hx, pr w (by omega), CO, HA, HB, HC, Nat.not_lt_zero, Nat.add_assoc, c_nlt, c_nle, c_neq, c_P, c_cl, c_m1, c_m1', nI_add, pk_mul, reduceIte, Nat.reduceEqDiff, Nat.reduceAdd, Nat.reduceMul, Nat.reduceLeDiff, eq_self, ↓pk_rem, pk_div, c_of, d_le, d_nle, d_lt, d_nlt, d_eq, d_ne]
        exact Ev_s ⟨rfl, hq2⟩
    · refine ⟨-1, ?_, ?_⟩
      · simp (disch := first | omega | (repeat (first | assumption | exact Ag_r | refine Ag_I ?_ rfl | refine Ag_F ?_ rfl | refine Ag_J ?_ rfl))) only [A108, FC hC, m1_lt, CO, HA, HB, HC, Nat.not_lt_zero, Nat.add_assoc, c_nlt, c_nle, c_neq, c_P, c_cl, c_m1, c_m1', nI_add, pk_mul, reduceIte, Nat.reduceEqDiff, Nat.reduceAdd, Nat.reduceMul, Nat.reduceLeDiff, eq_self, ↓pk_rem, pk_div, c_of, d_le, d_nle, d_lt, d_nlt, d_eq, d_ne]
        exact Ev_s ⟨rfl, (by repeat (first | assumption | exact Ag_r | refine Ag_I ?_ rfl | refine Ag_F ?_ rfl | refine Ag_J ?_ rfl))⟩
      · simp (disch := first | omega | (repeat (first | assumption | exact Ag_r | refine Ag_I ?_ rfl | refine Ag_F ?_ rfl | refine Ag_J ?_ rfl))) only [A212, FM hM, M_in, l_m1, l_hi, m1_ge, CO, HA, HB, HC, Nat.not_lt_zero, Nat.add_assoc, c_nlt, c_nle, c_neq, c_P, c_cl, c_m1, c_m1', nI_add, pk_mul, reduceIte, Nat.reduceEqDiff, Nat.reduceAdd, Nat.reduceMul, Nat.reduceLeDiff, eq_self, ↓pk_rem, pk_div, c_of, d_le, d_nle, d_lt, d_nlt, d_eq, d_ne]
        exact Ev_s ⟨rfl, (by repeat (first | assumption | exact Ag_r | refine Ag_I ?_ rfl | refine Ag_F ?_ rfl | refine Ag_J ?_ rfl))⟩
end
