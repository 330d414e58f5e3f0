/-! law: the model's sums -/
def hdE (d t T : Nat) (τ : Hp) : Fr := (d + 8, 170, 20, [.ref 57, .int (nI t), .int (nI T)], [], τ)
/-- it is bad at q, and ends -/
def Bd (τ : Hp) (q : Nat) (o : Option Rs) : Prop := Ev o (fun v υ => v = none ∧ Qq τ υ ∧ FxM υ ∧ hF υ 57 14 = .int (nI 1) ∧ hF υ 57 13 = .int (nI q) ∧ ∃ x, hF υ 57 17 = .int x)
def Tc (X : Tx) (T p : Nat) : Prop := T = 1 ∨ (T = 0 ∧ ¬ wd_ X p = 14836 ∧ ¬ sg_ X p = 40)
/-- the innermost bracket -/
def inn (f : Nat → Int32) : Nat → Int32
  | 0 => -1
  | z + 1 => if nI 30 ≤ f z then f z else inn f z
section
variable {d t T p m n z o : Nat} {X : Tx} {τ : Hp}
theorem Bd_e {υ : Hp} {q : Nat} {x y : Option Rs} (e : x = y) (g : Qq τ υ) (h : Bd υ q y) : Bd τ q x := Ev_e e (Ev_m h (fun v ω r => ⟨r.1, Qq_t g r.2.1, r.2.2⟩))
theorem M_hb {q : Nat} (h : MB τ q) (T : Nat) : Bd τ q (den (hdE d t T τ)) := by
  obtain ⟨⟨h1, h2⟩, m, z, h3⟩ := h
  unfold Bd hdE
  rw [a170_20]
  simp (disch := first | omega | (repeat (first | assumption | exact Ag_r | refine Ag_I ?_ rfl | refine Ag_F ?_ rfl | refine Ag_J ?_ rfl))) only [A170, FM h3.1, h1, CO, HA, HB, HC, Nat.not_lt_zero, Nat.add_assoc, c_nlt, c_nle, c_neq, c_P, c_cl, c_m1, c_m1', nI_add, pk_mul, reduceIte, Nat.reduceEqDiff, Nat.reduceAdd, Nat.reduceMul, Nat.reduceLeDiff, eq_self, ↓pk_rem, pk_div, c_of, d_le, d_nle, d_lt, d_nlt, d_eq, d_ne]
  refine Ev_b (M_setany (d := d + 6) h3) ?_
  rintro _ υ ⟨rfl, g, m', z', r⟩
  refine Ev_e (o' := some (none, υ)) ?_ (Ev_s ⟨rfl, Qse_q g, r.1, ?_, ?_, _, r.2.1⟩)
  · simp (disch := first | omega | (repeat (first | assumption | exact Ag_r | refine Ag_I ?_ rfl | refine Ag_F ?_ rfl | refine Ag_J ?_ rfl))) only [A170, CO, HA, HB, HC, Nat.not_lt_zero, Nat.add_assoc, c_nlt, c_nle, c_neq, c_P, c_cl, c_m1, c_m1', nI_add, pk_mul, reduceIte, Nat.reduceEqDiff, Nat.reduceAdd, Nat.reduceMul, Nat.reduceLeDiff, eq_self, ↓pk_rem, pk_div, c_of, d_le, d_nle, d_lt, d_nlt, d_eq, d_ne]
  · rw [Ag_f g 57 14 rfl]; exact h1
  · rw [Ag_f g 57 13 rfl]; exact h2
theorem M_h1 {R : Hp → Prop} {T1 : Nat} (h : MS τ X p m n z o) (hT : Tc X T p) (hr : ∀ d, Ev (den (d + 4, 166, 0, [.ref 57, .float 0, .float 0], [], τ)) (fun v υ => v = some (.int (nI T1)) ∧ R υ)) : ∃ υ, den (hdE d t T τ) = den (hdE d t T1 υ) ∧ R υ := by
  unfold hdE
  rcases hT with rfl | ⟨rfl, w1, w2⟩
  · obtain ⟨v, υ, e1, rfl, e3⟩ := hr (d + 3)
    refine ⟨υ, ?_, e3⟩
    rw [a170_20]
    simp (disch := first | omega | (repeat (first | assumption | exact Ag_r | refine Ag_I ?_ rfl | refine Ag_F ?_ rfl | refine Ag_J ?_ rfl))) only [A170, FM h.1.1, h.2.2.2.1.1, e1, CO, HA, HB, HC, Nat.not_lt_zero, Nat.add_assoc, c_nlt, c_nle, c_neq, c_P, c_cl, c_m1, c_m1', nI_add, pk_mul, reduceIte, Nat.reduceEqDiff, Nat.reduceAdd, Nat.reduceMul, Nat.reduceLeDiff, eq_self, ↓pk_rem, pk_div, c_of, d_le, d_nle, d_lt, d_nlt, d_eq, d_ne]
  · obtain ⟨v, υ, e1, rfl, e3⟩ := hr (d + 2)
    refine ⟨υ, ?_, e3⟩
    have ww := fun (d : Nat) => MW (d := d) h (show 0 < 14836 by omega) (by omega)
    have ws := fun (d : Nat) => MG (d := d) h (show 0 < 40 by omega) (by omega)
    simp only [if_neg w1] at ww
    simp only [if_neg w2] at ws
    rw [a170_20]
    simp (disch := first | omega | (repeat (first | assumption | exact Ag_r | refine Ag_I ?_ rfl | refine Ag_F ?_ rfl | refine Ag_J ?_ rfl))) only [A170, A167, FM h.1.1, h.2.2.2.1.1, ww, ws, e1, CO, HA, HB, HC, Nat.not_lt_zero, Nat.add_assoc, c_nlt, c_nle, c_neq, c_P, c_cl, c_m1, c_m1', nI_add, pk_mul, reduceIte, Nat.reduceEqDiff, Nat.reduceAdd, Nat.reduceMul, Nat.reduceLeDiff, eq_self, ↓pk_rem, pk_div, c_of, d_le, d_nle, d_lt, d_nlt, d_eq, d_ne]
theorem M_h3 {R : Hp → Prop} {T1 : Nat} (h : MS τ X p m n z o) (hr : Ev (den (d + 7, 168, 0, [.ref 57, .int (nI t), .float 0, .float 0], [], τ)) (fun v υ => v = some (.int (nI T1)) ∧ R υ)) : ∃ υ, den (hdE d t 3 τ) = den (hdE d t T1 υ) ∧ R υ := by
  unfold hdE
  obtain ⟨v, υ, e1, rfl, e3⟩ := hr
  refine ⟨υ, ?_, e3⟩
  rw [a170_20]
  simp (disch := first | omega | (repeat (first | assumption | exact Ag_r | refine Ag_I ?_ rfl | refine Ag_F ?_ rfl | refine Ag_J ?_ rfl))) only [A170, FM h.1.1, h.2.2.2.1.1, e1, CO, HA, HB, HC, Nat.not_lt_zero, Nat.add_assoc, c_nlt, c_nle, c_neq, c_P, c_cl, c_m1, c_m1', nI_add, pk_mul, reduceIte, Nat.reduceEqDiff, Nat.reduceAdd, Nat.reduceMul, Nat.reduceLeDiff, eq_self, ↓pk_rem, pk_div, c_of, d_le, d_nle, d_lt, d_nlt, d_eq, d_ne]
theorem M_h2 {R : Hp → Prop} {T1 : Nat} (h : MS τ X p m n z o) (hr : Ev (den (d + 7, 169, 0, [.ref 57, .float 0], [], τ)) (fun v υ => v = some (.int (nI T1)) ∧ R υ)) : ∃ υ, den (hdE d t 2 τ) = den (hdE d t T1 υ) ∧ R υ := by
  unfold hdE
  obtain ⟨v, υ, e1, rfl, e3⟩ := hr
  refine ⟨υ, ?_, e3⟩
  rw [a170_20]
  simp (disch := first | omega | (repeat (first | assumption | exact Ag_r | refine Ag_I ?_ rfl | refine Ag_F ?_ rfl | refine Ag_J ?_ rfl))) only [A170, FM h.1.1, h.2.2.2.1.1, e1, CO, HA, HB, HC, Nat.not_lt_zero, Nat.add_assoc, c_nlt, c_nle, c_neq, c_P, c_cl, c_m1, c_m1', nI_add, pk_mul, reduceIte, Nat.reduceEqDiff, Nat.reduceAdd, Nat.reduceMul, Nat.reduceLeDiff, eq_self, ↓pk_rem, pk_div, c_of, d_le, d_nle, d_lt, d_nlt, d_eq, d_ne]
theorem M_bs58 (h : MS τ X p m n z o) {c e : Nat} (hs : sg_ X p = c) (hc : (c = 43 ∧ e = 20) ∨ (c = 45 ∧ e = 21) ∨ (c = 42 ∧ e = 22) ∨ (c = 47 ∧ e = 23)) : den (d + 7, 168, 0, [.ref 57, .int (nI t), .float 0, .float 0], [], τ) = den (d + 7, 168, 58, [.ref 57, .int (nI t), .int (nI e), .float 0], [], τ) := by
  have w := fun (d c : Nat) (hc : 0 < c) (h2 : c < 256) => MG (d := d) h hc h2
  rw [hs] at w
  rcases hc with ⟨rfl, rfl⟩ | ⟨rfl, rfl⟩ | ⟨rfl, rfl⟩ | ⟨rfl, rfl⟩
  · simp (disch := first | omega | (repeat (first | assumption | exact Ag_r | refine Ag_I ?_ rfl | refine Ag_F ?_ rfl | refine Ag_J ?_ rfl))) only [A168, FM h.1.1, w, CO, HA, HB, HC, Nat.not_lt_zero, Nat.add_assoc, c_nlt, c_nle, c_neq, c_P, c_cl, c_m1, c_m1', nI_add, pk_mul, reduceIte, Nat.reduceEqDiff, Nat.reduceAdd, Nat.reduceMul, Nat.reduceLeDiff, eq_self, ↓pk_rem, pk_div, c_of, d_le, d_nle, d_lt, d_nlt, d_eq, d_ne]
  · simp (disch := first | omega | (repeat (first | assumption | exact Ag_r | refine Ag_I ?_ rfl | refine Ag_F ?_ rfl | refine Ag_J ?_ rfl))) only [A168, FM h.1.1, w, CO, HA, HB, HC, Nat.not_lt_zero, Nat.add_assoc, c_nlt, c_nle, c_neq, c_P, c_cl, c_m1, c_m1', nI_add, pk_mul, reduceIte, Nat.reduceEqDiff, Nat.reduceAdd, Nat.reduceMul, Nat.reduceLeDiff, eq_self, ↓pk_rem, pk_div, c_of, d_le, d_nle, d_lt, d_nlt, d_eq, d_ne]
  · simp (disch := first | omega | (repeat (first | assumption | exact Ag_r | refine Ag_I ?_ rfl | refine Ag_F ?_ rfl | refine Ag_J ?_ rfl))) only [A168, FM h.1.1, w, CO, HA, HB, HC, Nat.not_lt_zero, Nat.add_assoc, c_nlt, c_nle, c_neq, c_P, c_cl, c_m1, c_m1', nI_add, pk_mul, reduceIte, Nat.reduceEqDiff, Nat.reduceAdd, Nat.reduceMul, Nat.reduceLeDiff, eq_self, ↓pk_rem, pk_div, c_of, d_le, d_nle, d_lt, d_nlt, d_eq, d_ne]
  · simp (disch := first | omega | (repeat (first | assumption | exact Ag_r | refine Ag_I ?_ rfl | refine Ag_F ?_ rfl | refine Ag_J ?_ rfl))) only [A168, FM h.1.1, w, CO, HA, HB, HC, Nat.not_lt_zero, Nat.add_assoc, c_nlt, c_nle, c_neq, c_P, c_cl, c_m1, c_m1', nI_add, pk_mul, reduceIte, Nat.reduceEqDiff, Nat.reduceAdd, Nat.reduceMul, Nat.reduceLeDiff, eq_self, ↓pk_rem, pk_div, c_of, d_le, d_nle, d_lt, d_nlt, d_eq, d_ne]
/-- an operator of sums -/
theorem M_op {r K a L : Nat} {φ : Ph} (h : MS τ X p m n (z + r) o) (hz : m + (z + r) ≤ p) {c e : Nat} (hs : sg_ X p = c) (hc : (c = 43 ∧ e = 20) ∨ (c = 45 ∧ e = 21) ∨ (c = 42 ∧ e = 22) ∨ (c = 47 ∧ e = 23)) (q : Pd τ L r K z a m φ) (hl : bnd e ≤ L) (hb : Bs τ (bnd e) z) : ∃ υ, den (hdE d t 3 τ) = den (hdE d t 1 υ) ∧ Qq τ υ ∧ ∃ m', MS υ X (tE X p) m' n (z + 1) o ∧ m' + (z + 1) ≤ tE X p ∧ SgS (gM υ) a m' K φ ∧ hI υ 66 z = nI e ∧ hI υ 67 z = nI 0 ∧ Kp τ υ a z := by
  refine M_h3 (R := fun υ => Qq τ υ ∧ ∃ m', MS υ X (tE X p) m' n (z + 1) o ∧ m' + (z + 1) ≤ tE X p ∧ SgS (gM υ) a m' K φ ∧ hI υ 66 z = nI e ∧ hI υ 67 z = nI 0 ∧ Kp τ υ a z) h ?_
  have e20 : 20 ≤ e ∧ e < 24 := by omega
  have te := tE_s h.2.2.1.1 (show 0 < c by omega) hs
  have x3 := h.2.1.1.2.2.1
  have bi := M_binds (d := d + 6) (τ := τ) (show 20 ≤ e ∧ e < 32 by omega)
  have b6 : bnd e ≤ 6 := by unfold bnd; repeat (first | omega | split)
  rw [M_bs58 h hs hc]
  refine Ev_e (o' := (den (d + 6, 160, 0, [.ref 57, .int (nI (bnd e))], [], τ)).bind (fun q => den (d + 7, 168, 71, [.ref 57, .int (nI t), .int (nI e), .float 0], q.1.toList ++ [], q.2))) ?_ ?_
  · simp (disch := omega) only [a168_58, a168_59, a168_60, a168_63, a168_64, a168_65, a168_68, bi, FM h.1.1, CO, HA, HB, HC, Nat.not_lt_zero, Nat.add_assoc, c_nlt, c_nle, c_neq, c_P, c_cl, c_m1, c_m1', nI_add, pk_mul, reduceIte, Nat.reduceEqDiff, Nat.reduceAdd, Nat.reduceMul, Nat.reduceLeDiff, eq_self]
  refine Ev_b (M_settle (d := d + 5) hl b6 h q hb) ?_
  rintro _ υ ⟨rfl, g1, k1, m', r1, s1, l1⟩
  simp (disch := first | omega | (repeat (first | assumption | exact Ag_r | refine Ag_I ?_ rfl | refine Ag_F ?_ rfl | refine Ag_J ?_ rfl))) only [A168, FM r1.1.1, CO, HA, HB, HC, Nat.not_lt_zero, Nat.add_assoc, c_nlt, c_nle, c_neq, c_P, c_cl, c_m1, c_m1', nI_add, pk_mul, reduceIte, Nat.reduceEqDiff, Nat.reduceAdd, Nat.reduceMul, Nat.reduceLeDiff, eq_self, ↓pk_rem, pk_div, c_of, d_le, d_nle, d_lt, d_nlt, d_eq, d_ne]
  refine Ev_b (M_push (d := d + 6) (t := 0) r1 (by omega) (show 20 ≤ e ∧ e < 32 by omega) (by omega)) ?_
  rintro _ ω ⟨rfl, g2, r2, r3, r4, k2⟩
  simp (disch := first | omega | (repeat (first | assumption | exact Ag_r | refine Ag_I ?_ rfl | refine Ag_F ?_ rfl | refine Ag_J ?_ rfl))) only [A168, FM r2.1.1, CO, HA, HB, HC, Nat.not_lt_zero, Nat.add_assoc, c_nlt, c_nle, c_neq, c_P, c_cl, c_m1, c_m1', nI_add, pk_mul, reduceIte, Nat.reduceEqDiff, Nat.reduceAdd, Nat.reduceMul, Nat.reduceLeDiff, eq_self, ↓pk_rem, pk_div, c_of, d_le, d_nle, d_lt, d_nlt, d_eq, d_ne]
  refine Ev_b (M_nxt (d := d + 5) r2) ?_
  rintro _ χ ⟨rfl, g3, r5⟩
  refine Ev_e (o' := some (some (.int (nI 1)), χ)) ?_ (Ev_s ⟨rfl, Qq_t (Qq_t (Qpe_q g1) (Qpe_q g2)) (Qnx_q g3), m', r5, by omega, ?_, ?_, ?_, ?_⟩)
  · simp (disch := first | omega | (repeat (first | assumption | exact Ag_r | refine Ag_I ?_ rfl | refine Ag_F ?_ rfl | refine Ag_J ?_ rfl))) only [A168, CO, HA, HB, HC, Nat.not_lt_zero, Nat.add_assoc, c_nlt, c_nle, c_neq, c_P, c_cl, c_m1, c_m1', nI_add, pk_mul, reduceIte, Nat.reduceEqDiff, Nat.reduceAdd, Nat.reduceMul, Nat.reduceLeDiff, eq_self, ↓pk_rem, pk_div, c_of, d_le, d_nle, d_lt, d_nlt, d_eq, d_ne]
  · exact Kp_g (Qnx_k (z := 0) g3) (Nat.le_refl m') (Kp_g (k2 m') (Nat.le_refl _) s1)
  · rw [Ag_i g3 66 rfl]; exact r3
  · rw [Ag_i g3 67 rfl]; exact r4
  · exact Kp_t (k1 z) (Kp_t (k2 a) (Qnx_k g3) (Nat.le_refl _) (Nat.le_refl _)) (Nat.le_refl _) (Nat.le_refl _)
/-! brackets -/
theorem M_in1 (h : MT τ m z) : ∀ (k i : Nat), i + k = z → den (d, 161, 4, [.ref 57, .int (inn (hI τ 66) i), .int (nI i)], [], τ) = some (some (.int (inn (hI τ 66) z)), τ) := by
  obtain ⟨m1, m2, m3, m4, m5⟩ := h
  intro k
  induction k with
  | zero =>
    intro i hi
    obtain rfl : i = z := by omega
    rw [a161_4]
    simp (disch := first | omega | (repeat (first | assumption | exact Ag_r | refine Ag_I ?_ rfl | refine Ag_F ?_ rfl | refine Ag_J ?_ rfl))) only [A161, FM m1, m3, CO, HA, HB, HC, Nat.not_lt_zero, Nat.add_assoc, c_nlt, c_nle, c_neq, c_P, c_cl, c_m1, c_m1', nI_add, pk_mul, reduceIte, Nat.reduceEqDiff, Nat.reduceAdd, Nat.reduceMul, Nat.reduceLeDiff, eq_self, ↓pk_rem, pk_div, c_of, d_le, d_nle, d_lt, d_nlt, d_eq, d_ne]
  | succ k ih =>
    intro i hi
    obtain ⟨e, t, e1, e2, e3, e4, e5⟩ := m5 i (by omega)
    rw [a161_4, ← ih (i + 1) (by omega)]
    by_cases w : 30 ≤ e
    · have i1 : inn (hI τ 66) (i + 1) = nI e := by simp only [inn]; rw [e1, if_pos (by rw [c_nle (by omega) (by omega)]; exact w)]
      simp (disch := first | omega | (repeat (first | assumption | exact Ag_r | refine Ag_I ?_ rfl | refine Ag_F ?_ rfl | refine Ag_J ?_ rfl))) only [A161, FM m1, m3, e1, i1, CO, HA, HB, HC, Nat.not_lt_zero, Nat.add_assoc, c_nlt, c_nle, c_neq, c_P, c_cl, c_m1, c_m1', nI_add, pk_mul, reduceIte, Nat.reduceEqDiff, Nat.reduceAdd, Nat.reduceMul, Nat.reduceLeDiff, eq_self, ↓pk_rem, pk_div, c_of, d_le, d_nle, d_lt, d_nlt, d_eq, d_ne]
    · have i1 : inn (hI τ 66) (i + 1) = inn (hI τ 66) i := by simp only [inn]; rw [e1, if_neg (by rw [c_nle (by omega) (by omega)]; exact w)]
      simp (disch := first | omega | (repeat (first | assumption | exact Ag_r | refine Ag_I ?_ rfl | refine Ag_F ?_ rfl | refine Ag_J ?_ rfl))) only [A161, FM m1, m3, e1, i1, CO, HA, HB, HC, Nat.not_lt_zero, Nat.add_assoc, c_nlt, c_nle, c_neq, c_P, c_cl, c_m1, c_m1', nI_add, pk_mul, reduceIte, Nat.reduceEqDiff, Nat.reduceAdd, Nat.reduceMul, Nat.reduceLeDiff, eq_self, ↓pk_rem, pk_div, c_of, d_le, d_nle, d_lt, d_nlt, d_eq, d_ne]
theorem M_inner (h : MT τ m z) : den (d, 161, 0, [.ref 57, .float 0, .float 0], [], τ) = some (some (.int (inn (hI τ 66) z)), τ) := by
  rw [← M_in1 (d := d) h z 0 (by omega)]
  simp (disch := first | omega | (repeat (first | assumption | exact Ag_r | refine Ag_I ?_ rfl | refine Ag_F ?_ rfl | refine Ag_J ?_ rfl))) only [A161, inn, CO, HA, HB, HC, Nat.not_lt_zero, Nat.add_assoc, c_nlt, c_nle, c_neq, c_P, c_cl, c_m1, c_m1', nI_add, pk_mul, reduceIte, Nat.reduceEqDiff, Nat.reduceAdd, Nat.reduceMul, Nat.reduceLeDiff, eq_self, ↓pk_rem, pk_div, c_of, d_le, d_nle, d_lt, d_nlt, d_eq, d_ne]
theorem inn_k {f g : Nat → Int32} : ∀ {z : Nat}, (∀ i, i < z → g i = f i) → inn g z = inn f z
  | 0, _ => rfl
  | z + 1, h => by simp only [inn]; rw [h z (by omega), inn_k (fun i hi => h i (by omega))]
theorem inn_r {f : Nat → Int32} : ∀ {r : Nat}, (∀ i, z ≤ i → i < z + r → ∃ e, f i = nI e ∧ e < 30) → inn f (z + r) = inn f z
  | 0, _ => rfl
  | r + 1, h => by
    obtain ⟨e, e1, e2⟩ := h (z + r) (by omega) (by omega)
    rw [show z + (r + 1) = z + r + 1 by omega]
    simp only [inn]
    rw [e1, if_neg (by rw [c_nle (by omega) (by omega)]; omega)]
    exact inn_r (fun i h1 h2 => h i h1 (by omega))
theorem inn_p {r L K a : Nat} {φ : Ph} (q : Pd τ L r K z a m φ) : inn (hI τ 66) (z + r) = inn (hI τ 66) z := inn_r (fun i h1 h2 => by
  obtain ⟨e, e1, e2, e3, e4⟩ := Pd_e q i h1 h2
  exact ⟨e, e1, e3⟩)
theorem inn_b {e : Nat} (h : hI τ 66 z = nI e) (he : 30 ≤ e ∧ e < 32) : inn (hI τ 66) (z + 1) = nI e := by
  simp only [inn]
  rw [h, if_pos (by rw [c_nle (by omega) (by omega)]; exact he.1)]
/-- no operator of sums -/
def nOps (X : Tx) (p : Nat) : Prop := ¬ sg_ X p = 43 ∧ ¬ sg_ X p = 45 ∧ ¬ sg_ X p = 42 ∧ ¬ sg_ X p = 47
theorem M_bs83 (h : MS τ X p m n z o) (hs : nOps X p) : den (d + 7, 168, 0, [.ref 57, .int (nI t), .float 0, .float 0], [], τ) = den (d + 7, 168, 83, [.ref 57, .int (nI t), .int (-1), .float 0], [], τ) := by
  have w := fun (d c : Nat) (hc : 0 < c) (h2 : c < 256) => MG (d := d) h hc h2
  obtain ⟨s1, s2, s3, s4⟩ := hs
  simp (disch := first | omega | (repeat (first | assumption | exact Ag_r | refine Ag_I ?_ rfl | refine Ag_F ?_ rfl | refine Ag_J ?_ rfl))) only [A168, FM h.1.1, w, s1, s2, s3, s4, CO, HA, HB, HC, Nat.not_lt_zero, Nat.add_assoc, c_nlt, c_nle, c_neq, c_P, c_cl, c_m1, c_m1', nI_add, pk_mul, reduceIte, Nat.reduceEqDiff, Nat.reduceAdd, Nat.reduceMul, Nat.reduceLeDiff, eq_self, ↓pk_rem, pk_div, c_of, d_le, d_nle, d_lt, d_nlt, d_eq, d_ne]
/-- a bracket of sums closes -/
theorem M_cl1 {r K a : Nat} {φ : Ph} (h : MS τ X p m n (z + 1 + r) (o + 1)) (hz : m + (z + 1 + r) ≤ p) (hs : nOps X p) (q : Pd τ 5 r K (z + 1) a m φ) (h31 : hI τ 66 z = nI 31) (s93 : sg_ X p = 93) : ∃ υ, den (hdE d t 3 τ) = den (hdE d t 3 υ) ∧ Qq τ υ ∧ ∃ m', MS υ X (tE X p) m' n z o ∧ m' + z ≤ tE X p ∧ SgS (gM υ) a m' K φ ∧ Kp τ υ a z := by
  refine M_h3 (R := fun υ => Qq τ υ ∧ ∃ m', MS υ X (tE X p) m' n z o ∧ m' + z ≤ tE X p ∧ SgS (gM υ) a m' K φ ∧ Kp τ υ a z) h ?_
  have te := tE_s h.2.2.1.1 (show 0 < 93 by omega) s93
  have iv : inn (hI τ 66) (z + 1 + r) = nI 31 := (inn_p q).trans (inn_b h31 (by omega))
  have im := fun (d : Nat) => M_inner (d := d) h.1
  have w := fun (d : Nat) => MG (d := d) h (show 0 < 93 by omega) (by omega)
  simp only [s93, reduceIte] at w
  simp only [iv] at im
  rw [M_bs83 h hs]
  simp (disch := first | omega | (repeat (first | assumption | exact Ag_r | refine Ag_I ?_ rfl | refine Ag_F ?_ rfl | refine Ag_J ?_ rfl))) only [A168, FM h.1.1, im, w, CO, HA, HB, HC, Nat.not_lt_zero, Nat.add_assoc, c_nlt, c_nle, c_neq, c_P, c_cl, c_m1, c_m1', nI_add, pk_mul, reduceIte, Nat.reduceEqDiff, Nat.reduceAdd, Nat.reduceMul, Nat.reduceLeDiff, eq_self, ↓pk_rem, pk_div, c_of, d_le, d_nle, d_lt, d_nlt, d_eq, d_ne]
  refine Ev_b (M_must1 (d := d + 4) h) ?_
  rintro _ υ ⟨rfl, g1, r1⟩
  simp (disch := first | omega | (repeat (first | assumption | exact Ag_r | refine Ag_I ?_ rfl | refine Ag_F ?_ rfl | refine Ag_J ?_ rfl))) only [A168, FM r1.1.1, r1.2.2.2.1.1, CO, HA, HB, HC, Nat.not_lt_zero, Nat.add_assoc, c_nlt, c_nle, c_neq, c_P, c_cl, c_m1, c_m1', nI_add, pk_mul, reduceIte, Nat.reduceEqDiff, Nat.reduceAdd, Nat.reduceMul, Nat.reduceLeDiff, eq_self, ↓pk_rem, pk_div, c_of, d_le, d_nle, d_lt, d_nlt, d_eq, d_ne]
  have hb : Bs υ 5 (z + 1) := fun y hy => by
    obtain rfl : z = y := by omega
    exact ⟨31, by rw [Ag_i g1 66 rfl]; exact h31, by omega, by omega, by decide⟩
  refine Ev_b (M_settle (d := d + 5) (L := 5) (Nat.le_refl _) (by omega) r1 (Pd_k (Qnx_k (m := m) (z := z + 1 + r) g1) (Nat.le_refl _) (Nat.le_refl _) q) hb) ?_
  rintro _ ω ⟨rfl, g2, k2, m', r2, s2, l2⟩
  have m1 := r2.1
  have cs1 := c_sub (show 1 ≤ z + 1 by omega)
  have cs2 := c_sub (show 1 ≤ o + 1 by omega)
  have g3 : Qpe ω (sF ω 57 23 (.int (nI z))) := Ag_F Ag_r rfl
  have r3 : MS (sF ω 57 23 (.int (nI z))) X (tE X p) m' n z (o + 1) := MS_pe r2 g3 ⟨Qq_M (Qpe_q g3) m1.1, by simp only [HA, Nat.reduceEqDiff, and_false, reduceIte]; exact m1.2.1, by simp only [HA, and_self, reduceIte], by have := m1.2.2.2.1; omega, fun i hi => m1.2.2.2.2 i (by omega)⟩
  obtain ⟨r4, g4⟩ := MS_o (o' := o) r3 (by have := h.2.2.2.2.2.2; omega)
  have k1 : Kp τ υ a z := Qnx_k g1
  refine Ev_e (o' := some (some (.int (nI 3)), sF (sF ω 57 23 (.int (nI z))) 57 24 (.int (nI o)))) ?_ (Ev_s ⟨rfl, Qq_t (Qq_t (Qq_t (Qnx_q g1) (Qpe_q g2)) (Qpe_q g3)) g4, m', r4, by omega, s2, Kp_t k1 (k2 z) (Nat.le_refl _) (Nat.le_refl _)⟩)
  simp (disch := first | omega | (repeat (first | assumption | exact Ag_r | refine Ag_I ?_ rfl | refine Ag_F ?_ rfl | refine Ag_J ?_ rfl))) only [A168, FM m1.1, m1.2.2.1, r2.2.2.2.2.1.2, cs1, cs2, Nat.add_sub_cancel, CO, HA, HB, HC, Nat.not_lt_zero, Nat.add_assoc, c_nlt, c_nle, c_neq, c_P, c_cl, c_m1, c_m1', nI_add, pk_mul, reduceIte, Nat.reduceEqDiff, Nat.reduceAdd, Nat.reduceMul, Nat.reduceLeDiff, eq_self, ↓pk_rem, pk_div, c_of, d_le, d_nle, d_lt, d_nlt, d_eq, d_ne]
theorem M_cl0 {r K a : Nat} {φ : Ph} (h : MS τ X p m n (z + 1 + r) o) (hs : nOps X p) (q : Pd τ 5 r K (z + 1) a m φ) (h31 : hI τ 66 z = nI 31) (s93 : ¬ sg_ X p = 93) : Bd τ (tS X p) (den (hdE d t 3 τ)) := by
  obtain ⟨y1, y2⟩ := MB_0 h
  have iv : inn (hI τ 66) (z + 1 + r) = nI 31 := (inn_p q).trans (inn_b h31 (by omega))
  have im := fun (d : Nat) => M_inner (d := d) h.1
  have w := fun (d : Nat) => MG (d := d) h (show 0 < 93 by omega) (by omega)
  simp only [s93, reduceIte] at w
  simp only [iv] at im
  obtain ⟨υ, e1, rfl⟩ := M_h3 (d := d) (t := t) (T1 := 3) (R := fun υ => υ = sF (sF τ 57 14 (.int (nI 1))) 57 13 (.int (nI (tS X p)))) h (by
    refine Ev_e (o' := some (some (.int (nI 3)), sF (sF τ 57 14 (.int (nI 1))) 57 13 (.int (nI (tS X p))))) ?_ (Ev_s ⟨rfl, rfl⟩)
    rw [M_bs83 h hs]
    simp (disch := first | omega | (repeat (first | assumption | exact Ag_r | refine Ag_I ?_ rfl | refine Ag_F ?_ rfl | refine Ag_J ?_ rfl))) only [A168, FM h.1.1, im, w, M_must0 h, y1.1.1, FM (Qq_M y2 h.1.1), CO, HA, HB, HC, Nat.not_lt_zero, Nat.add_assoc, c_nlt, c_nle, c_neq, c_P, c_cl, c_m1, c_m1', nI_add, pk_mul, reduceIte, Nat.reduceEqDiff, Nat.reduceAdd, Nat.reduceMul, Nat.reduceLeDiff, eq_self, ↓pk_rem, pk_div, c_of, d_le, d_nle, d_lt, d_nlt, d_eq, d_ne]
    )
  exact Bd_e e1 y2 (M_hb y1 3)
end
