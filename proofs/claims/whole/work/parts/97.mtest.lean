/-! law: the model's tests, step by step -/
def prv : Nat → Int32
  | 0 => -1
  | y + 1 => nI y
section
variable {d t p m n z o : Nat} {X : Tx} {τ : Hp}
theorem M_in9 {e a b : Nat} (he : e < 100) (ha : a < 100) (hb : b < 100) : den (d, 133, 0, [.long (nI e).toInt64, .float 0, .long (lN a), .float 0, .long (lN b), .float 0], [], τ) = some (some (.int (if a ≤ e ∧ e ≤ b then nI 1 else nI 0)), τ) := by
  rw [M_in]
  have e1 : (lN a ≤ (nI e).toInt64) = (a ≤ e) := by
    rw [nI_l (by omega), ← zL_n, ← zL_n, zL_le (by omega) (by omega), eq_iff_iff]; omega
  have e2 : ((nI e).toInt64 ≤ lN b) = (e ≤ b) := by
    rw [nI_l (by omega), ← zL_n, ← zL_n, zL_le (by omega) (by omega), eq_iff_iff]; omega
  simp only [e1, e2]
theorem M_ic1 {R : Nat} (h : MT τ m R) : ∀ {r : Nat}, r + z ≤ 400 → (∀ i, z ≤ i → i < z + r → ∃ e, hI τ 66 i = nI e ∧ 20 ≤ e ∧ e < 24) → den (d + 1, 162, 7, [.ref 57, .int (prv (z + r))], [], τ) = den (d + 1, 162, 7, [.ref 57, .int (prv z)], [], τ) := by
  intro r
  induction r with
  | zero => intro _ _; rfl
  | succ r ih =>
    intro hl hp
    rw [← ih (by omega) (fun i h1 h2 => hp i h1 (by omega))]
    obtain ⟨e, e1, e2, e3⟩ := hp (z + r) (by omega) (by omega)
    have mi := fun (d : Nat) (τ : Hp) => M_in9 (d := d) (τ := τ) (e := e) (a := 20) (b := 23) (by omega) (by omega) (by omega)
    simp only [if_pos (show 20 ≤ e ∧ e ≤ 23 by omega)] at mi
    have pv : prv (z + (r + 1)) = nI (z + r) := rfl
    rw [pv, a162_7]
    have pq : nI (z + r) + -1 = prv (z + r) := by
      cases w : z + r with
      | zero => rfl
      | succ y => exact n_m1
    simp (disch := first | omega | (repeat (first | assumption | exact Ag_r | refine Ag_I ?_ rfl | refine Ag_F ?_ rfl | refine Ag_J ?_ rfl))) only [A162, FM h.1, e1, mi, pq, CO, HA, HB, HC, Nat.not_lt_zero, Nat.add_assoc, c_nlt, c_nle, c_neq, c_P, c_cl, c_m1, c_m1', nI_add, pk_mul, reduceIte, Nat.reduceEqDiff, Nat.reduceAdd, Nat.reduceMul, Nat.reduceLeDiff, eq_self, ↓pk_rem, pk_div, c_of, d_le, d_nle, d_lt, d_nlt, d_eq, d_ne]
theorem M_ic {r : Nat} (h : MT τ m (z + r)) (hp : ∀ i, z ≤ i → i < z + r → ∃ e, hI τ 66 i = nI e ∧ 20 ≤ e ∧ e < 24) {b : Nat} (hb : (b = 0 ∧ Bs τ 4 z) ∨ (b = 1 ∧ ∃ y e, z = y + 1 ∧ hI τ 66 y = nI e ∧ 24 ≤ e ∧ e < 27)) : den (d + 1, 162, 0, [.ref 57, .float 0], [], τ) = some (some (.int (nI b)), τ) := by
  have go : den (d + 1, 162, 0, [.ref 57, .float 0], [], τ) = den (d + 1, 162, 7, [.ref 57, .int (prv (z + r))], [], τ) := by
    have pq : nI (z + r) - nI 1 = prv (z + r) := by
      cases w : z + r with
      | zero => rfl
      | succ y => rw [c_sub (by omega)]; rfl
    simp (disch := first | omega | (repeat (first | assumption | exact Ag_r | refine Ag_I ?_ rfl | refine Ag_F ?_ rfl | refine Ag_J ?_ rfl))) only [A162, FM h.1, h.2.2.1, pq, CO, HA, HB, HC, Nat.not_lt_zero, Nat.add_assoc, c_nlt, c_nle, c_neq, c_P, c_cl, c_m1, c_m1', nI_add, pk_mul, reduceIte, Nat.reduceEqDiff, Nat.reduceAdd, Nat.reduceMul, Nat.reduceLeDiff, eq_self, ↓pk_rem, pk_div, c_of, d_le, d_nle, d_lt, d_nlt, d_eq, d_ne]
  rw [go, M_ic1 h (by have := h.2.2.2.1; omega) hp, a162_7]
  rcases hb with ⟨rfl, hb⟩ | ⟨rfl, y, e, rfl, e1, e2, e3⟩
  · cases z with
    | zero =>
      simp only [prv]
      simp (disch := first | omega | (repeat (first | assumption | exact Ag_r | refine Ag_I ?_ rfl | refine Ag_F ?_ rfl | refine Ag_J ?_ rfl))) only [A162, FM h.1, CO, HA, HB, HC, Nat.not_lt_zero, Nat.add_assoc, c_nlt, c_nle, c_neq, c_P, c_cl, c_m1, c_m1', nI_add, pk_mul, reduceIte, Nat.reduceEqDiff, Nat.reduceAdd, Nat.reduceMul, Nat.reduceLeDiff, eq_self, ↓pk_rem, pk_div, c_of, d_le, d_nle, d_lt, d_nlt, d_eq, d_ne]
      rw [if_pos (by decide), if_pos (by decide)]
    | succ y =>
      obtain ⟨e, e1, e2, e3, e4⟩ := hb y rfl
      have e27 : 27 ≤ e := by
        unfold bnd at e4
        refine Classical.byContradiction (fun w => ?_)
        rw [if_neg (by omega), if_neg (by omega), if_neg (by omega), if_neg (by omega)] at e4
        split at e4 <;> (try split at e4) <;> omega
      have hy := h.2.2.2.1
      simp only [prv]
      have mi := fun (d : Nat) (τ : Hp) => M_in9 (d := d) (τ := τ) (e := e) (a := 20) (b := 23) (by omega) (by omega) (by omega)
      have mj := fun (d : Nat) (τ : Hp) => M_in9 (d := d) (τ := τ) (e := e) (a := 24) (b := 26) (by omega) (by omega) (by omega)
      simp only [if_neg (show ¬ (20 ≤ e ∧ e ≤ 23) by omega)] at mi
      simp only [if_neg (show ¬ (24 ≤ e ∧ e ≤ 26) by omega)] at mj
      simp (disch := first | omega | (repeat (first | assumption | exact Ag_r | refine Ag_I ?_ rfl | refine Ag_F ?_ rfl | refine Ag_J ?_ rfl))) only [A162, FM h.1, e1, mi, mj, CO, HA, HB, HC, Nat.not_lt_zero, Nat.add_assoc, c_nlt, c_nle, c_neq, c_P, c_cl, c_m1, c_m1', nI_add, pk_mul, reduceIte, Nat.reduceEqDiff, Nat.reduceAdd, Nat.reduceMul, Nat.reduceLeDiff, eq_self, ↓pk_rem, pk_div, c_of, d_le, d_nle, d_lt, d_nlt, d_eq, d_ne]
  · have hy := h.2.2.2.1
    simp only [prv]
    have mi := fun (d : Nat) (τ : Hp) => M_in9 (d := d) (τ := τ) (e := e) (a := 20) (b := 23) (by omega) (by omega) (by omega)
    have mj := fun (d : Nat) (τ : Hp) => M_in9 (d := d) (τ := τ) (e := e) (a := 24) (b := 26) (by omega) (by omega) (by omega)
    simp only [if_neg (show ¬ (20 ≤ e ∧ e ≤ 23) by omega)] at mi
    simp only [if_pos (show 24 ≤ e ∧ e ≤ 26 by omega)] at mj
    simp (disch := first | omega | (repeat (first | assumption | exact Ag_r | refine Ag_I ?_ rfl | refine Ag_F ?_ rfl | refine Ag_J ?_ rfl))) only [A162, FM h.1, e1, mi, mj, CO, HA, HB, HC, Nat.not_lt_zero, Nat.add_assoc, c_nlt, c_nle, c_neq, c_P, c_cl, c_m1, c_m1', nI_add, pk_mul, reduceIte, Nat.reduceEqDiff, Nat.reduceAdd, Nat.reduceMul, Nat.reduceLeDiff, eq_self, ↓pk_rem, pk_div, c_of, d_le, d_nle, d_lt, d_nlt, d_eq, d_ne]
theorem Pd_5 {r K a : Nat} {φ : Ph} (q : Pd τ 5 r K z a m φ) : ∀ i, z ≤ i → i < z + r → ∃ e, hI τ 66 i = nI e ∧ 20 ≤ e ∧ e < 24 := fun i h1 h2 => by
  obtain ⟨e, e1, e2, e3, e4⟩ := Pd_e q i h1 h2
  refine ⟨e, e1, e2, ?_⟩
  refine Classical.byContradiction (fun w => ?_)
  unfold bnd at e4
  rw [if_neg (by omega)] at e4
  split at e4 <;> (try split at e4) <;> (try split at e4) <;> (try split at e4) <;> (try split at e4) <;> omega
/-- no sum's bracket is the innermost -/
theorem M_bs149 (h : MS τ X p m n z o) (hs : nOps X p) (hi : ¬ inn (hI τ 66) z = nI 31) : ∃ l, den (d + 7, 168, 0, [.ref 57, .int (nI 1), .float 0, .float 0], [], τ) = den (d + 7, 168, 149, [.ref 57, .int (nI 1), .int (-1), .int l], [], τ) := by
  have im := fun (d : Nat) => M_inner (d := d) h.1
  refine ⟨inn (hI τ 66) z, ?_⟩
  rw [M_bs83 h hs]
  by_cases w : inn (hI τ 66) z = -1
  · simp (disch := first | omega | (repeat (first | assumption | exact Ag_r | refine Ag_I ?_ rfl | refine Ag_F ?_ rfl | refine Ag_J ?_ rfl))) only [A168, FM h.1.1, im, w, CO, HA, HB, HC, Nat.not_lt_zero, Nat.add_assoc, c_nlt, c_nle, c_neq, c_P, c_cl, c_m1, c_m1', nI_add, pk_mul, reduceIte, Nat.reduceEqDiff, Nat.reduceAdd, Nat.reduceMul, Nat.reduceLeDiff, eq_self, ↓pk_rem, pk_div, c_of, d_le, d_nle, d_lt, d_nlt, d_eq, d_ne]
  · simp (disch := first | omega | (repeat (first | assumption | exact Ag_r | refine Ag_I ?_ rfl | refine Ag_F ?_ rfl | refine Ag_J ?_ rfl))) only [A168, FM h.1.1, im, hi, w, CO, HA, HB, HC, Nat.not_lt_zero, Nat.add_assoc, c_nlt, c_nle, c_neq, c_P, c_cl, c_m1, c_m1', nI_add, pk_mul, reduceIte, Nat.reduceEqDiff, Nat.reduceAdd, Nat.reduceMul, Nat.reduceLeDiff, eq_self, ↓pk_rem, pk_div, c_of, d_le, d_nle, d_lt, d_nlt, d_eq, d_ne]
/-- compared already: it is told -/
theorem M_cmp2 {r K a y e : Nat} {φ : Ph} (h : MS τ X p m n (z + r) o) (hs : nOps X p) (q : Pd τ 5 r K z a m φ) (hi : ¬ inn (hI τ 66) (z + r) = nI 31) (hy : z = y + 1) (he : hI τ 66 y = nI e) (e1 : 24 ≤ e) (e2 : e < 27) : den (hdE d 1 3 τ) = den (hdE d 1 2 τ) := by
  obtain ⟨υ, e1, rfl⟩ := M_h3 (d := d) (t := 1) (T1 := 2) (R := fun υ => υ = τ) h (by
    refine Ev_e (o' := some (some (.int (nI 2)), τ)) ?_ (Ev_s ⟨rfl, rfl⟩)
    obtain ⟨l, e0⟩ := M_bs149 (d := d) h hs hi
    have ic := M_ic (d := d + 5) h.1 (Pd_5 q) (Or.inr ⟨rfl, y, e, hy, he, e1, e2⟩)
    rw [e0]
    simp (disch := first | omega | (repeat (first | assumption | exact Ag_r | refine Ag_I ?_ rfl | refine Ag_F ?_ rfl | refine Ag_J ?_ rfl))) only [A168, FM h.1.1, ic, CO, HA, HB, HC, Nat.not_lt_zero, Nat.add_assoc, c_nlt, c_nle, c_neq, c_P, c_cl, c_m1, c_m1', nI_add, pk_mul, reduceIte, Nat.reduceEqDiff, Nat.reduceAdd, Nat.reduceMul, Nat.reduceLeDiff, eq_self, ↓pk_rem, pk_div, c_of, d_le, d_nle, d_lt, d_nlt, d_eq, d_ne]
    )
  exact e1
/-- a comparing sign -/
theorem M_cmp1 {r K a : Nat} {φ : Ph} (h : MS τ X p m n (z + r) o) (hz : m + (z + r) ≤ p) (hs : nOps X p) (q : Pd τ 5 r K z a m φ) (hi : ¬ inn (hI τ 66) (z + r) = nI 31) (hb : Bs τ 4 z) (hc : ¬ cm_ X p = 0) : ∃ υ, den (hdE d 1 3 τ) = den (hdE d 1 1 υ) ∧ Qq τ υ ∧ ∃ m', MS υ X (tE X p) m' n (z + 1) o ∧ m' + (z + 1) ≤ tE X p ∧ SgS (gM υ) a m' K φ ∧ hI υ 66 z = nI (23 + cm_ X p) ∧ hI υ 67 z = nI 0 ∧ Kp τ υ a z := by
  refine M_h3 (R := fun υ => Qq τ υ ∧ ∃ m', MS υ X (tE X p) m' n (z + 1) o ∧ m' + (z + 1) ≤ tE X p ∧ SgS (gM υ) a m' K φ ∧ hI υ 66 z = nI (23 + cm_ X p) ∧ hI υ 67 z = nI 0 ∧ Kp τ υ a z) h ?_
  obtain ⟨c1, c2⟩ := cm_p hc
  have te := tE_s h.2.2.1.1 c1 rfl
  have x3 := h.2.1.1.2.2.1
  obtain ⟨l, e0⟩ := M_bs149 (d := d) h hs hi
  have ic := M_ic (d := d + 5) h.1 (Pd_5 q) (Or.inl ⟨rfl, hb⟩)
  have go : den (d + 7, 168, 149, [.ref 57, .int (nI 1), .int (-1), .int l], [], τ) = (den (d + 6, 155, 0, [.ref 57, .int (nI 1)], [], τ)).bind (fun q => den (d + 7, 168, 213, [.ref 57, .int (nI 1), .int (nI (23 + cm_ X p)), .int l], q.1.toList ++ [], q.2)) := by
    have w := fun (d c : Nat) (hc : 0 < c) (h2 : c < 256) => MG (d := d) h hc h2
    unfold cm_ at hc ⊢
    by_cases s1 : sg_ X p = 60
    · simp (disch := first | omega | (repeat (first | assumption | exact Ag_r | refine Ag_I ?_ rfl | refine Ag_F ?_ rfl | refine Ag_J ?_ rfl))) only [A168, FM h.1.1, ic, w, s1, CO, HA, HB, HC, Nat.not_lt_zero, Nat.add_assoc, c_nlt, c_nle, c_neq, c_P, c_cl, c_m1, c_m1', nI_add, pk_mul, reduceIte, Nat.reduceEqDiff, Nat.reduceAdd, Nat.reduceMul, Nat.reduceLeDiff, eq_self, ↓pk_rem, pk_div, c_of, d_le, d_nle, d_lt, d_nlt, d_eq, d_ne]
    · by_cases s2 : sg_ X p = 62
      · simp (disch := first | omega | (repeat (first | assumption | exact Ag_r | refine Ag_I ?_ rfl | refine Ag_F ?_ rfl | refine Ag_J ?_ rfl))) only [A168, FM h.1.1, ic, w, s2, CO, HA, HB, HC, Nat.not_lt_zero, Nat.add_assoc, c_nlt, c_nle, c_neq, c_P, c_cl, c_m1, c_m1', nI_add, pk_mul, reduceIte, Nat.reduceEqDiff, Nat.reduceAdd, Nat.reduceMul, Nat.reduceLeDiff, eq_self, ↓pk_rem, pk_div, c_of, d_le, d_nle, d_lt, d_nlt, d_eq, d_ne]
      · by_cases s3 : sg_ X p = 61
        · simp (disch := first | omega | (repeat (first | assumption | exact Ag_r | refine Ag_I ?_ rfl | refine Ag_F ?_ rfl | refine Ag_J ?_ rfl))) only [A168, FM h.1.1, ic, w, s3, CO, HA, HB, HC, Nat.not_lt_zero, Nat.add_assoc, c_nlt, c_nle, c_neq, c_P, c_cl, c_m1, c_m1', nI_add, pk_mul, reduceIte, Nat.reduceEqDiff, Nat.reduceAdd, Nat.reduceMul, Nat.reduceLeDiff, eq_self, ↓pk_rem, pk_div, c_of, d_le, d_nle, d_lt, d_nlt, d_eq, d_ne]
        · simp [s1, s2, s3] at hc
  rw [e0, go]
  refine Ev_b (M_must1 (d := d + 4) h) ?_
  rintro _ υ ⟨rfl, g1, r1⟩
  simp (disch := first | omega | (repeat (first | assumption | exact Ag_r | refine Ag_I ?_ rfl | refine Ag_F ?_ rfl | refine Ag_J ?_ rfl))) only [A168, FM r1.1.1, r1.2.2.2.1.1, CO, HA, HB, HC, Nat.not_lt_zero, Nat.add_assoc, c_nlt, c_nle, c_neq, c_P, c_cl, c_m1, c_m1', nI_add, pk_mul, reduceIte, Nat.reduceEqDiff, Nat.reduceAdd, Nat.reduceMul, Nat.reduceLeDiff, eq_self, ↓pk_rem, pk_div, c_of, d_le, d_nle, d_lt, d_nlt, d_eq, d_ne]
  have hb1 : Bs υ 5 z := fun y hy => by
    obtain ⟨e, y1, y2, y3, y4⟩ := hb y hy
    exact ⟨e, by rw [Ag_i g1 66 rfl]; exact y1, y2, y3, by omega⟩
  refine Ev_b (M_settle (d := d + 5) (L := 5) (Nat.le_refl _) (by omega) r1 (Pd_k (Qnx_k (m := m) (z := z + r) g1) (Nat.le_refl _) (Nat.le_refl _) q) hb1) ?_
  rintro _ ω ⟨rfl, g2, k2, m', r2, s2, l2⟩
  simp (disch := first | omega | (repeat (first | assumption | exact Ag_r | refine Ag_I ?_ rfl | refine Ag_F ?_ rfl | refine Ag_J ?_ rfl))) only [A168, FM r2.1.1, CO, HA, HB, HC, Nat.not_lt_zero, Nat.add_assoc, c_nlt, c_nle, c_neq, c_P, c_cl, c_m1, c_m1', nI_add, pk_mul, reduceIte, Nat.reduceEqDiff, Nat.reduceAdd, Nat.reduceMul, Nat.reduceLeDiff, eq_self, ↓pk_rem, pk_div, c_of, d_le, d_nle, d_lt, d_nlt, d_eq, d_ne]
  refine Ev_b (M_push (d := d + 6) (t := 0) r2 (by omega) (show 20 ≤ 23 + cm_ X p ∧ 23 + cm_ X p < 32 by omega) (by omega)) ?_
  rintro _ χ ⟨rfl, g3, r3, r4, r5, k3⟩
  refine Ev_e (o' := some (some (.int (nI 1)), χ)) ?_ (Ev_s ⟨rfl, Qq_t (Qq_t (Qnx_q g1) (Qpe_q g2)) (Qpe_q g3), m', r3, by omega, Kp_g (k3 m') (Nat.le_refl _) s2, r4, r5, Kp_t (Qnx_k g1) (Kp_t (k2 z) (k3 a) (Nat.le_refl _) (Nat.le_refl _)) (Nat.le_refl _) (Nat.le_refl _)⟩)
  simp (disch := first | omega | (repeat (first | assumption | exact Ag_r | refine Ag_I ?_ rfl | refine Ag_F ?_ rfl | refine Ag_J ?_ rfl))) only [A168, CO, HA, HB, HC, Nat.not_lt_zero, Nat.add_assoc, c_nlt, c_nle, c_neq, c_P, c_cl, c_m1, c_m1', nI_add, pk_mul, reduceIte, Nat.reduceEqDiff, Nat.reduceAdd, Nat.reduceMul, Nat.reduceLeDiff, eq_self, ↓pk_rem, pk_div, c_of, d_le, d_nle, d_lt, d_nlt, d_eq, d_ne]
theorem M_cmp0 {r K a : Nat} {φ : Ph} (h : MS τ X p m n (z + r) o) (hs : nOps X p) (q : Pd τ 5 r K z a m φ) (hi : ¬ inn (hI τ 66) (z + r) = nI 31) (hb : Bs τ 4 z) (hc : cm_ X p = 0) : Bd τ (tS X p) (den (hdE d 1 3 τ)) := by
  obtain ⟨y1, y2⟩ := MB_0 h
  obtain ⟨l, e0⟩ := M_bs149 (d := d) h hs hi
  have ic := M_ic (d := d + 5) h.1 (Pd_5 q) (Or.inl ⟨rfl, hb⟩)
  have w := fun (d c : Nat) (hc : 0 < c) (h2 : c < 256) => MG (d := d) h hc h2
  have s0 : ¬ sg_ X p = 60 ∧ ¬ sg_ X p = 62 ∧ ¬ sg_ X p = 61 := by
    unfold cm_ at hc
    refine ⟨fun s => ?_, fun s => ?_, fun s => ?_⟩ <;> simp [s] at hc
  obtain ⟨υ, e1, rfl⟩ := M_h3 (d := d) (t := 1) (T1 := 1) (R := fun υ => υ = sF (sF τ 57 14 (.int (nI 1))) 57 13 (.int (nI (tS X p)))) h (by
    refine Ev_e (o' := some (some (.int (nI 1)), sF (sF τ 57 14 (.int (nI 1))) 57 13 (.int (nI (tS X p))))) ?_ (Ev_s ⟨rfl, rfl⟩)
    rw [e0]
    simp (disch := first | omega | (repeat (first | assumption | exact Ag_r | refine Ag_I ?_ rfl | refine Ag_F ?_ rfl | refine Ag_J ?_ rfl))) only [A168, FM h.1.1, ic, w, s0.1, s0.2.1, s0.2.2, M_must0 h, y1.1.1, FM (Qq_M y2 h.1.1), CO, HA, HB, HC, Nat.not_lt_zero, Nat.add_assoc, c_nlt, c_nle, c_neq, c_P, c_cl, c_m1, c_m1', nI_add, pk_mul, reduceIte, Nat.reduceEqDiff, Nat.reduceAdd, Nat.reduceMul, Nat.reduceLeDiff, eq_self, ↓pk_rem, pk_div, c_of, d_le, d_nle, d_lt, d_nlt, d_eq, d_ne]
    )
  exact Bd_e e1 y2 (M_hb y1 1)
/-- not -/
theorem M_not (h : MS τ X p m n z o) (hz : m + z ≤ p) (hw : wd_ X p = 14836) : ∃ υ, den (hdE d t 0 τ) = den (hdE d t 0 υ) ∧ Qq τ υ ∧ MS υ X (tE X p) m n (z + 1) o ∧ hI υ 66 z = nI 27 ∧ hI υ 67 z = nI 0 ∧ ∀ M, Kp τ υ M z := by
  have te := tE_w h.2.2.1.1 (show 0 < 14836 by omega) hw
  have x3 := h.2.1.1.2.2.1
  have ww := fun (d : Nat) => MW (d := d) h (show 0 < 14836 by omega) (by omega)
  simp only [if_pos hw] at ww
  obtain ⟨v, υ, e1, rfl, g1, r1, r2, r3, k1⟩ := M_push (d := d + 6) (e := 27) (t := 0) h (by omega) (by omega) (by omega)
  obtain ⟨v, ω, e2, rfl, g2, r4⟩ := M_nxt (d := d + 5) r1
  refine ⟨ω, ?_, Qq_t (Qpe_q g1) (Qnx_q g2), r4, by rw [Ag_i g2 66 rfl]; exact r2, by rw [Ag_i g2 67 rfl]; exact r3, fun M => Kp_t (k1 M) (Qnx_k g2) (Nat.le_refl _) (Nat.le_refl _)⟩
  unfold hdE
  rw [a170_20]
  simp (disch := first | omega | (repeat (first | assumption | exact Ag_r | refine Ag_I ?_ rfl | refine Ag_F ?_ rfl | refine Ag_J ?_ rfl))) only [A170, A167, FM h.1.1, h.2.2.2.1.1, ww, e1, FM r1.1.1, e2, CO, HA, HB, HC, Nat.not_lt_zero, Nat.add_assoc, c_nlt, c_nle, c_neq, c_P, c_cl, c_m1, c_m1', nI_add, pk_mul, reduceIte, Nat.reduceEqDiff, Nat.reduceAdd, Nat.reduceMul, Nat.reduceLeDiff, eq_self, ↓pk_rem, pk_div, c_of, d_le, d_nle, d_lt, d_nlt, d_eq, d_ne]
/-- a test's bracket opens -/
theorem M_po1 (h : MS τ X p m n z o) (hz : m + z ≤ p) (hs : sg_ X p = 40) (o8 : o < 8) : ∃ υ, den (hdE d t 0 τ) = den (hdE d t 0 υ) ∧ Qq τ υ ∧ MS υ X (tE X p) m n (z + 1) (o + 1) ∧ hI υ 66 z = nI 30 ∧ ∀ M, Kp τ υ M z := by
  have te := tE_s h.2.2.1.1 (show 0 < 40 by omega) hs
  have nw : ¬ wd_ X p = 14836 := fun w => by have := tE_w h.2.2.1.1 (show 0 < 14836 by omega) w; omega
  have ww := fun (d : Nat) => MW (d := d) h (show 0 < 14836 by omega) (by omega)
  have ws := fun (d : Nat) => MG (d := d) h (show 0 < 40 by omega) (by omega)
  simp only [if_neg nw] at ww
  simp only [if_pos hs] at ws
  obtain ⟨v, υ, e1, rfl, r⟩ := M_ob1 (d := d + 3) h hz te.1 o8 (Or.inl rfl)
  refine ⟨υ, ?_, r⟩
  unfold hdE
  rw [a170_20]
  simp (disch := first | omega | (repeat (first | assumption | exact Ag_r | refine Ag_I ?_ rfl | refine Ag_F ?_ rfl | refine Ag_J ?_ rfl))) only [A170, A167, FM h.1.1, h.2.2.2.1.1, ww, ws, e1, CO, HA, HB, HC, Nat.not_lt_zero, Nat.add_assoc, c_nlt, c_nle, c_neq, c_P, c_cl, c_m1, c_m1', nI_add, pk_mul, reduceIte, Nat.reduceEqDiff, Nat.reduceAdd, Nat.reduceMul, Nat.reduceLeDiff, eq_self, ↓pk_rem, pk_div, c_of, d_le, d_nle, d_lt, d_nlt, d_eq, d_ne]
theorem M_po0 (h : MS τ X p m n z o) (hs : sg_ X p = 40) (o8 : o = 8) : Bd τ (tS X p) (den (hdE d t 0 τ)) := by
  have te := tE_s h.2.2.1.1 (show 0 < 40 by omega) hs
  have nw : ¬ wd_ X p = 14836 := fun w => by have := tE_w h.2.2.1.1 (show 0 < 14836 by omega) w; omega
  have ww := fun (d : Nat) => MW (d := d) h (show 0 < 14836 by omega) (by omega)
  have ws := fun (d : Nat) => MG (d := d) h (show 0 < 40 by omega) (by omega)
  simp only [if_neg nw] at ww
  simp only [if_pos hs] at ws
  obtain ⟨v, υ, e1, rfl, g, r⟩ := M_ob0 (d := d + 3) (e := 30) h o8
  refine Bd_e (υ := υ) ?_ g (M_hb (d := d) (t := t) r 0)
  unfold hdE
  rw [a170_20]
  simp (disch := first | omega | (repeat (first | assumption | exact Ag_r | refine Ag_I ?_ rfl | refine Ag_F ?_ rfl | refine Ag_J ?_ rfl))) only [A170, A167, FM h.1.1, h.2.2.2.1.1, ww, ws, e1, CO, HA, HB, HC, Nat.not_lt_zero, Nat.add_assoc, c_nlt, c_nle, c_neq, c_P, c_cl, c_m1, c_m1', nI_add, pk_mul, reduceIte, Nat.reduceEqDiff, Nat.reduceAdd, Nat.reduceMul, Nat.reduceLeDiff, eq_self, ↓pk_rem, pk_div, c_of, d_le, d_nle, d_lt, d_nlt, d_eq, d_ne]
/-- and, or -/
theorem M_ao {r K a g L : Nat} {φ : Ph} (h : MS τ X p m n (z + r) o) (hz : m + (z + r) ≤ p) (hg : (g = 0 ∧ wd_ X p = 1476) ∨ (g = 1 ∧ wd_ X p = 498)) (q : Pd τ L r K z a m φ) (hL : 2 - g ≤ L) (hb : Bs τ (2 - g) z) : ∃ υ, den (hdE d t 2 τ) = den (hdE d t 0 υ) ∧ Qq τ υ ∧ ∃ m', MS υ X (tE X p) (m' + 1) n (z + 1) o ∧ m' + 1 + (z + 1) ≤ tE X p ∧ SgS (gM υ) a m' K φ ∧ hI υ 66 z = nI (28 + g) ∧ hI υ 67 z = nI m' ∧ hI υ 64 m' = nI (28 + g) ∧ Kp τ υ a z := by
  refine M_h2 (R := fun υ => Qq τ υ ∧ ∃ m', MS υ X (tE X p) (m' + 1) n (z + 1) o ∧ m' + 1 + (z + 1) ≤ tE X p ∧ SgS (gM υ) a m' K φ ∧ hI υ 66 z = nI (28 + g) ∧ hI υ 67 z = nI m' ∧ hI υ 64 m' = nI (28 + g) ∧ Kp τ υ a z) h ?_
  have x3 := h.2.1.1.2.2.1
  have te2 : p + 2 ≤ tE X p ∧ tE X p ≤ X.1 := by
    have wp : 32 ≤ wd_ X p := by omega
    have te := tE_w h.2.2.1.1 (show 0 < wd_ X p by omega) rfl
    have b := tk_b h.2.2.1.1
    have ww : wv X (tS X p) (tE X p - tS X p) = wd_ X p := by unfold wd_; rw [if_pos te.2.2]
    have lt := wv_lt (X := X) (s := tS X p) (n := tE X p - tS X p) (fun i hi => by
      have := b.2.2.2 (Or.inl te.2.2) (tS X p + i) (by omega) (by omega)
      rw [te.2.2] at this
      exact (kA_1.mp this).2.2)
    refine Classical.byContradiction (fun w => ?_)
    have l1 : tE X p - tS X p ≤ 1 := by omega
    have : 32 ^ (tE X p - tS X p) ≤ 32 ^ 1 := Nat.pow_le_pow_right (by omega) l1
    omega
  have go : den (d + 7, 169, 0, [.ref 57, .float 0], [], τ) = (den (d + 6, 160, 0, [.ref 57, .int (nI (2 - g))], [], τ)).bind (fun q => den (d + 7, 169, 35, [.ref 57, .int (nI (1 - g))], q.1.toList ++ [], q.2)) := by
    have w := fun (d c : Nat) (hc : 0 < c) (h2 : c < 2 ^ 45) => MW (d := d) h hc h2
    rcases hg with ⟨rfl, hw⟩ | ⟨rfl, hw⟩
    · simp (disch := first | omega | (repeat (first | assumption | exact Ag_r | refine Ag_I ?_ rfl | refine Ag_F ?_ rfl | refine Ag_J ?_ rfl))) only [A169, FM h.1.1, w, hw, CO, HA, HB, HC, Nat.not_lt_zero, Nat.add_assoc, c_nlt, c_nle, c_neq, c_P, c_cl, c_m1, c_m1', nI_add, pk_mul, reduceIte, Nat.reduceEqDiff, Nat.reduceAdd, Nat.reduceMul, Nat.reduceLeDiff, eq_self, ↓pk_rem, pk_div, c_of, d_le, d_nle, d_lt, d_nlt, d_eq, d_ne]
    · simp (disch := first | omega | (repeat (first | assumption | exact Ag_r | refine Ag_I ?_ rfl | refine Ag_F ?_ rfl | refine Ag_J ?_ rfl))) only [A169, FM h.1.1, w, hw, CO, HA, HB, HC, Nat.not_lt_zero, Nat.add_assoc, c_nlt, c_nle, c_neq, c_P, c_cl, c_m1, c_m1', nI_add, pk_mul, reduceIte, Nat.reduceEqDiff, Nat.reduceAdd, Nat.reduceMul, Nat.reduceLeDiff, eq_self, ↓pk_rem, pk_div, c_of, d_le, d_nle, d_lt, d_nlt, d_eq, d_ne]
  rw [go]
  refine Ev_b (M_settle (d := d + 5) hL (by omega) h q hb) ?_
  rintro _ υ ⟨rfl, g1, k1, m', r1, s1, l1⟩
  have go2 : den (d + 7, 169, 35, [.ref 57, .int (nI (1 - g))], Option.toList none ++ [], υ) = (den (d + 6, 158, 0, [.ref 57, .int (nI (28 + g)), .int (nI m')], [], υ)).bind (fun q => den (d + 7, 169, 54, [.ref 57, .int (nI (1 - g))], q.1.toList ++ [], q.2)) := by
    rcases hg with ⟨rfl, hw⟩ | ⟨rfl, hw⟩
    · simp (disch := first | omega | (repeat (first | assumption | exact Ag_r | refine Ag_I ?_ rfl | refine Ag_F ?_ rfl | refine Ag_J ?_ rfl))) only [A169, FM r1.1.1, r1.1.2.1, CO, HA, HB, HC, Nat.not_lt_zero, Nat.add_assoc, c_nlt, c_nle, c_neq, c_P, c_cl, c_m1, c_m1', nI_add, pk_mul, reduceIte, Nat.reduceEqDiff, Nat.reduceAdd, Nat.reduceMul, Nat.reduceLeDiff, eq_self, ↓pk_rem, pk_div, c_of, d_le, d_nle, d_lt, d_nlt, d_eq, d_ne]
    · simp (disch := first | omega | (repeat (first | assumption | exact Ag_r | refine Ag_I ?_ rfl | refine Ag_F ?_ rfl | refine Ag_J ?_ rfl))) only [A169, FM r1.1.1, r1.1.2.1, CO, HA, HB, HC, Nat.not_lt_zero, Nat.add_assoc, c_nlt, c_nle, c_neq, c_P, c_cl, c_m1, c_m1', nI_add, pk_mul, reduceIte, Nat.reduceEqDiff, Nat.reduceAdd, Nat.reduceMul, Nat.reduceLeDiff, eq_self, ↓pk_rem, pk_div, c_of, d_le, d_nle, d_lt, d_nlt, d_eq, d_ne]
  rw [go2]
  refine Ev_b (M_push (d := d + 6) (e := 28 + g) (t := m') r1 (by omega) (by omega) (by omega)) ?_
  rintro _ ω ⟨rfl, g2, r2, r3, r4, k2⟩
  have go3 : den (d + 7, 169, 54, [.ref 57, .int (nI (1 - g))], Option.toList none ++ [], ω) = (den (d + 6, 157, 0, [.ref 57, .int (nI (28 + g)), .int (nI 0)], [], ω)).bind (fun q => den (d + 7, 169, 70, [.ref 57, .int (nI (1 - g))], q.1.toList ++ [], q.2)) := by
    rcases hg with ⟨rfl, hw⟩ | ⟨rfl, hw⟩
    · simp (disch := first | omega | (repeat (first | assumption | exact Ag_r | refine Ag_I ?_ rfl | refine Ag_F ?_ rfl | refine Ag_J ?_ rfl))) only [A169, FM r2.1.1, CO, HA, HB, HC, Nat.not_lt_zero, Nat.add_assoc, c_nlt, c_nle, c_neq, c_P, c_cl, c_m1, c_m1', nI_add, pk_mul, reduceIte, Nat.reduceEqDiff, Nat.reduceAdd, Nat.reduceMul, Nat.reduceLeDiff, eq_self, ↓pk_rem, pk_div, c_of, d_le, d_nle, d_lt, d_nlt, d_eq, d_ne]
    · simp (disch := first | omega | (repeat (first | assumption | exact Ag_r | refine Ag_I ?_ rfl | refine Ag_F ?_ rfl | refine Ag_J ?_ rfl))) only [A169, FM r2.1.1, CO, HA, HB, HC, Nat.not_lt_zero, Nat.add_assoc, c_nlt, c_nle, c_neq, c_P, c_cl, c_m1, c_m1', nI_add, pk_mul, reduceIte, Nat.reduceEqDiff, Nat.reduceAdd, Nat.reduceMul, Nat.reduceLeDiff, eq_self, ↓pk_rem, pk_div, c_of, d_le, d_nle, d_lt, d_nlt, d_eq, d_ne]
  rw [go3]
  refine Ev_b (M_emit (d := d + 6) (e := nI (28 + g)) (t := nI 0) r2 (by omega)) ?_
  rintro _ χ ⟨rfl, g3, r5, r6, r7, k3⟩
  simp (disch := first | omega | (repeat (first | assumption | exact Ag_r | refine Ag_I ?_ rfl | refine Ag_F ?_ rfl | refine Ag_J ?_ rfl))) only [A169, FM r5.1.1, CO, HA, HB, HC, Nat.not_lt_zero, Nat.add_assoc, c_nlt, c_nle, c_neq, c_P, c_cl, c_m1, c_m1', nI_add, pk_mul, reduceIte, Nat.reduceEqDiff, Nat.reduceAdd, Nat.reduceMul, Nat.reduceLeDiff, eq_self, ↓pk_rem, pk_div, c_of, d_le, d_nle, d_lt, d_nlt, d_eq, d_ne]
  refine Ev_b (M_nxt (d := d + 5) r5) ?_
  rintro _ κ ⟨rfl, g4, r8⟩
  have kk : Kp χ κ (m' + 1) (z + 1) := Qnx_k g4
  refine Ev_e (o' := some (some (.int (nI 0)), κ)) ?_ (Ev_s ⟨rfl, Qq_t (Qq_t (Qq_t (Qpe_q g1) (Qpe_q g2)) (Qpe_q g3)) (Qnx_q g4), m', r8, by omega, ?_, ?_, ?_, ?_, ?_⟩)
  · simp (disch := first | omega | (repeat (first | assumption | exact Ag_r | refine Ag_I ?_ rfl | refine Ag_F ?_ rfl | refine Ag_J ?_ rfl))) only [A169, CO, HA, HB, HC, Nat.not_lt_zero, Nat.add_assoc, c_nlt, c_nle, c_neq, c_P, c_cl, c_m1, c_m1', nI_add, pk_mul, reduceIte, Nat.reduceEqDiff, Nat.reduceAdd, Nat.reduceMul, Nat.reduceLeDiff, eq_self, ↓pk_rem, pk_div, c_of, d_le, d_nle, d_lt, d_nlt, d_eq, d_ne]
  · exact Kp_g kk (by omega) (Kp_g (k3 0) (Nat.le_refl _) (Kp_g (k2 m') (Nat.le_refl _) s1))
  · rw [(kk.2 z (by omega)).1, ((k3 (z + 1)).2 z (by omega)).1]; exact r3
  · rw [(kk.2 z (by omega)).2, ((k3 (z + 1)).2 z (by omega)).2]; exact r4
  · rw [(kk.1 m' (by omega)).1]; exact r6
  · exact Kp_t (k1 z) (Kp_t (k2 a) (Kp_t (Kp_w (k3 z) s1.1 (Nat.le_refl _)) (Qnx_k g4) (Nat.le_refl _) (Nat.le_refl _)) (Nat.le_refl _) (Nat.le_refl _)) (Nat.le_refl _) (Nat.le_refl _)
/-- neither: the end, or a bracket closes -/
theorem M_bt76 (h : MS τ X p m n z o) (h1 : ¬ wd_ X p = 1476) (h2 : ¬ wd_ X p = 498) : den (d + 7, 169, 0, [.ref 57, .float 0], [], τ) = den (d + 7, 169, 76, [.ref 57, .int (nI 0)], [], τ) := by
  have w := fun (d c : Nat) (hc : 0 < c) (h2 : c < 2 ^ 45) => MW (d := d) h hc h2
  simp (disch := first | omega | (repeat (first | assumption | exact Ag_r | refine Ag_I ?_ rfl | refine Ag_F ?_ rfl | refine Ag_J ?_ rfl))) only [A169, FM h.1.1, w, h1, h2, CO, HA, HB, HC, Nat.not_lt_zero, Nat.add_assoc, c_nlt, c_nle, c_neq, c_P, c_cl, c_m1, c_m1', nI_add, pk_mul, reduceIte, Nat.reduceEqDiff, Nat.reduceAdd, Nat.reduceMul, Nat.reduceLeDiff, eq_self, ↓pk_rem, pk_div, c_of, d_le, d_nle, d_lt, d_nlt, d_eq, d_ne]
theorem M_over (h : MS τ X p m n z o) (h1 : ¬ wd_ X p = 1476) (h2 : ¬ wd_ X p = 498) (hi : inn (hI τ 66) z = -1) : den (hdE d t 2 τ) = den (hdE d t 4 τ) := by
  have im := fun (d : Nat) => M_inner (d := d) h.1
  simp only [hi] at im
  obtain ⟨υ, e1, rfl⟩ := M_h2 (d := d) (t := t) (T1 := 4) (R := fun υ => υ = τ) h (by
    refine Ev_e (o' := some (some (.int (nI 4)), τ)) ?_ (Ev_s ⟨rfl, rfl⟩)
    rw [M_bt76 h h1 h2]
    simp (disch := first | omega | (repeat (first | assumption | exact Ag_r | refine Ag_I ?_ rfl | refine Ag_F ?_ rfl | refine Ag_J ?_ rfl))) only [A169, FM h.1.1, im, CO, HA, HB, HC, Nat.not_lt_zero, Nat.add_assoc, c_nlt, c_nle, c_neq, c_P, c_cl, c_m1, c_m1', nI_add, pk_mul, reduceIte, Nat.reduceEqDiff, Nat.reduceAdd, Nat.reduceMul, Nat.reduceLeDiff, eq_self, ↓pk_rem, pk_div, c_of, d_le, d_nle, d_lt, d_nlt, d_eq, d_ne]
    )
  exact e1
theorem M_pc1 {r K a : Nat} {φ : Ph} (h : MS τ X p m n (z + 1 + r) (o + 1)) (hz : m + (z + 1 + r) ≤ p) (h1 : ¬ wd_ X p = 1476) (h2 : ¬ wd_ X p = 498) (q : Pd τ 1 r K (z + 1) a m φ) (h30 : hI τ 66 z = nI 30) (s41 : sg_ X p = 41) : ∃ υ, den (hdE d t 2 τ) = den (hdE d t 2 υ) ∧ Qq τ υ ∧ ∃ m', MS υ X (tE X p) m' n z o ∧ m' + z ≤ tE X p ∧ SgS (gM υ) a m' K φ ∧ Kp τ υ a z := by
  refine M_h2 (R := fun υ => Qq τ υ ∧ ∃ m', MS υ X (tE X p) m' n z o ∧ m' + z ≤ tE X p ∧ SgS (gM υ) a m' K φ ∧ Kp τ υ a z) h ?_
  have te := tE_s h.2.2.1.1 (show 0 < 41 by omega) s41
  have iv : inn (hI τ 66) (z + 1 + r) = nI 30 := (inn_p q).trans (inn_b h30 (by omega))
  have im := fun (d : Nat) => M_inner (d := d) h.1
  have w := fun (d : Nat) => MG (d := d) h (show 0 < 41 by omega) (by omega)
  simp only [s41, reduceIte] at w
  simp only [iv] at im
  rw [M_bt76 h h1 h2]
  simp (disch := first | omega | (repeat (first | assumption | exact Ag_r | refine Ag_I ?_ rfl | refine Ag_F ?_ rfl | refine Ag_J ?_ rfl))) only [A169, FM h.1.1, im, w, CO, HA, HB, HC, Nat.not_lt_zero, Nat.add_assoc, c_nlt, c_nle, c_neq, c_P, c_cl, c_m1, c_m1', nI_add, pk_mul, reduceIte, Nat.reduceEqDiff, Nat.reduceAdd, Nat.reduceMul, Nat.reduceLeDiff, eq_self, ↓pk_rem, pk_div, c_of, d_le, d_nle, d_lt, d_nlt, d_eq, d_ne]
  refine Ev_b (M_must1 (d := d + 4) h) ?_
  rintro _ υ ⟨rfl, g1, r1⟩
  simp (disch := first | omega | (repeat (first | assumption | exact Ag_r | refine Ag_I ?_ rfl | refine Ag_F ?_ rfl | refine Ag_J ?_ rfl))) only [A169, FM r1.1.1, r1.2.2.2.1.1, CO, HA, HB, HC, Nat.not_lt_zero, Nat.add_assoc, c_nlt, c_nle, c_neq, c_P, c_cl, c_m1, c_m1', nI_add, pk_mul, reduceIte, Nat.reduceEqDiff, Nat.reduceAdd, Nat.reduceMul, Nat.reduceLeDiff, eq_self, ↓pk_rem, pk_div, c_of, d_le, d_nle, d_lt, d_nlt, d_eq, d_ne]
  have hb : Bs υ 1 (z + 1) := fun y hy => by
    obtain rfl : z = y := by omega
    exact ⟨30, by rw [Ag_i g1 66 rfl]; exact h30, by omega, by omega, by decide⟩
  refine Ev_b (M_settle (d := d + 5) (L := 1) (Nat.le_refl _) (by omega) r1 (Pd_k (Qnx_k (m := m) (z := z + 1 + r) g1) (Nat.le_refl _) (Nat.le_refl _) q) hb) ?_
  rintro _ ω ⟨rfl, g2, k2, m', r2, s2, l2⟩
  have m1 := r2.1
  have cs1 := c_sub (show 1 ≤ z + 1 by omega)
  have cs2 := c_sub (show 1 ≤ o + 1 by omega)
  have g3 : Qpe ω (sF ω 57 23 (.int (nI z))) := Ag_F Ag_r rfl
  have r3 : MS (sF ω 57 23 (.int (nI z))) X (tE X p) m' n z (o + 1) := MS_pe r2 g3 ⟨Qq_M (Qpe_q g3) m1.1, by simp only [HA, Nat.reduceEqDiff, and_false, reduceIte]; exact m1.2.1, by simp only [HA, and_self, reduceIte], by have := m1.2.2.2.1; omega, fun i hi => m1.2.2.2.2 i (by omega)⟩
  obtain ⟨r4, g4⟩ := MS_o (o' := o) r3 (by have := h.2.2.2.2.2.2; omega)
  have k1 : Kp τ υ a z := Qnx_k g1
  refine Ev_e (o' := some (some (.int (nI 2)), sF (sF ω 57 23 (.int (nI z))) 57 24 (.int (nI o)))) ?_ (Ev_s ⟨rfl, Qq_t (Qq_t (Qq_t (Qnx_q g1) (Qpe_q g2)) (Qpe_q g3)) g4, m', r4, by omega, s2, Kp_t k1 (k2 z) (Nat.le_refl _) (Nat.le_refl _)⟩)
  simp (disch := first | omega | (repeat (first | assumption | exact Ag_r | refine Ag_I ?_ rfl | refine Ag_F ?_ rfl | refine Ag_J ?_ rfl))) only [A169, FM m1.1, m1.2.2.1, r2.2.2.2.2.1.2, cs1, cs2, Nat.add_sub_cancel, CO, HA, HB, HC, Nat.not_lt_zero, Nat.add_assoc, c_nlt, c_nle, c_neq, c_P, c_cl, c_m1, c_m1', nI_add, pk_mul, reduceIte, Nat.reduceEqDiff, Nat.reduceAdd, Nat.reduceMul, Nat.reduceLeDiff, eq_self, ↓pk_rem, pk_div, c_of, d_le, d_nle, d_lt, d_nlt, d_eq, d_ne]
theorem M_pc0 {r K a : Nat} {φ : Ph} (h : MS τ X p m n (z + 1 + r) o) (h1 : ¬ wd_ X p = 1476) (h2 : ¬ wd_ X p = 498) (q : Pd τ 1 r K (z + 1) a m φ) (h30 : hI τ 66 z = nI 30) (s41 : ¬ sg_ X p = 41) : Bd τ (tS X p) (den (hdE d t 2 τ)) := by
  obtain ⟨y1, y2⟩ := MB_0 h
  have iv : inn (hI τ 66) (z + 1 + r) = nI 30 := (inn_p q).trans (inn_b h30 (by omega))
  have im := fun (d : Nat) => M_inner (d := d) h.1
  have w := fun (d : Nat) => MG (d := d) h (show 0 < 41 by omega) (by omega)
  simp only [s41, reduceIte] at w
  simp only [iv] at im
  obtain ⟨υ, e1, rfl⟩ := M_h2 (d := d) (t := t) (T1 := 2) (R := fun υ => υ = sF (sF τ 57 14 (.int (nI 1))) 57 13 (.int (nI (tS X p)))) h (by
    refine Ev_e (o' := some (some (.int (nI 2)), sF (sF τ 57 14 (.int (nI 1))) 57 13 (.int (nI (tS X p))))) ?_ (Ev_s ⟨rfl, rfl⟩)
    rw [M_bt76 h h1 h2]
    simp (disch := first | omega | (repeat (first | assumption | exact Ag_r | refine Ag_I ?_ rfl | refine Ag_F ?_ rfl | refine Ag_J ?_ rfl))) only [A169, FM h.1.1, im, w, M_must0 h, y1.1.1, FM (Qq_M y2 h.1.1), CO, HA, HB, HC, Nat.not_lt_zero, Nat.add_assoc, c_nlt, c_nle, c_neq, c_P, c_cl, c_m1, c_m1', nI_add, pk_mul, reduceIte, Nat.reduceEqDiff, Nat.reduceAdd, Nat.reduceMul, Nat.reduceLeDiff, eq_self, ↓pk_rem, pk_div, c_of, d_le, d_nle, d_lt, d_nlt, d_eq, d_ne]
    )
  exact Bd_e e1 y2 (M_hb y1 2)
end
