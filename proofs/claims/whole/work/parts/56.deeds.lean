/-! deeds that are forged, loans that explain -/
theorem bef_ext {H K : Nat → Nat} (u e : Nat) (he : e ≤ 28) : ∀ v, (∀ c, c < 28 * v → H c = K c) → bef H v u e = bef K v u e
  | 0, _ => rfl
  | v + 1, h => by
    rw [bef, bef, bef_ext u e he v (fun c hc => h c (by omega))]
    congr 1
    exact cB_ext (fun i hi => by rw [h (28 * v + i) (by omega)])
theorem bef_up (H : Nat → Nat) (c t u e : Nat) (he : e ≤ 28) : ∀ v, c < 28 * v → bef (upN H c t) v u e + (if c % 28 < e ∧ H c = u then 1 else 0) = bef H v u e + (if c % 28 < e ∧ t = u then 1 else 0)
  | 0, h => by omega
  | v + 1, h => by
    rw [bef, bef]
    by_cases z : c < 28 * v
    · have ih := bef_up H c t u e he v z
      have e1 : cB (fun i => decide (upN H c t (28 * v + i) = u)) e = cB (fun i => decide (H (28 * v + i) = u)) e := cB_ext (fun i hi => by unfold upN; rw [if_neg (by omega)])
      rw [e1]
      omega
    · have e1 : bef (upN H c t) v u e = bef H v u e := bef_ext u e he v (fun i hi => by unfold upN; rw [if_neg (by omega)])
      rw [e1]
      have m : c % 28 = c - 28 * v := by omega
      by_cases y : c % 28 < e
      · have cu := cB_upd (p := fun i => decide (H (28 * v + i) = u)) (q := fun i => decide (upN H c t (28 * v + i) = u)) (c := c - 28 * v) (fun i hi => by show decide (upN H c t (28 * v + i) = u) = _; unfold upN; rw [if_neg (by omega)]) e (by omega)
        have c2 : 28 * v + (c - 28 * v) = c := by omega
        have c3 : upN H c t c = t := by unfold upN; rw [if_pos rfl]
        simp only [c2, c3, decide_eq_true_eq] at cu
        simp only [y, true_and]
        omega
      · have e2 : cB (fun i => decide (upN H c t (28 * v + i) = u)) e = cB (fun i => decide (H (28 * v + i) = u)) e := cB_ext (fun i hi => by unfold upN; rw [if_neg (by omega)])
        rw [e2]
        simp only [y, false_and]
/-- is a deed so? -/
def soB (K : Nat → Nat) (v : Nat) (dv dd de : Nat → Nat) (k : Nat) : Bool := decide (bef K v (dv k) (de k) ≤ dd k) && decide (dd k < bef K v (dv k) (de k + 1))
def DeC (σ : Hp) (nd : Nat) (dv dd de : Nat → Nat) : Prop := hF σ 8 3 = .int (nI nd) ∧ ∀ k, k < nd → hI σ 9 k = nI (dv k) ∧ hI σ 10 k = nI (dd k) ∧ hI σ 11 k = nI (de k)
def DeM (ρ : Hp) (nd : Nat) (dv dd de : Nat → Nat) : Prop := hI ρ 59 4 = nI nd ∧ ∀ k, k < nd → hI ρ 59 (258 + 3 * k) = nI (dv k) ∧ hI ρ 59 (258 + (3 * k + 1)) = nI (dd k) ∧ hI ρ 59 (258 + (3 * k + 2)) = nI (de k)
def DeW (v nd : Nat) (dv dd de : Nat → Nat) : Prop := nd ≤ 10 ∧ ∀ k, k < nd → dv k < v ∧ dd k < 224 ∧ de k < 28
theorem m1_lt' {a : Nat} (h : a < 2 ^ 31) : ((-1 : Int32) < nI a) = True := by
  rw [eq_iff_iff, iff_true, Int32.lt_iff_toInt_lt, nI_toInt h]
  have : (-1 : Int32).toInt = -1 := by decide
  omega
theorem m1_gt' {a : Nat} (h : a < 2 ^ 31) : (nI a ≤ (-1 : Int32)) = False := m1_le h
theorem nm1 {a : Nat} (h : 1 ≤ a) : nI a + (-1) = nI (a - 1) := by
  obtain ⟨b, rfl⟩ : ∃ b, a = b + 1 := ⟨a - 1, by omega⟩
  rw [n_m1, Nat.add_sub_cancel]
section
variable {d v nd : Nat} {H dv dd de : Nat → Nat} {σ ρ τ : Hp}
theorem C_isSo0 (hC : FxC σ) (hw : Wf v H) (dC : DeC σ nd dv dd de) (dW : DeW v nd dv dd de) {k : Nat} (hk : k < nd) (hq : Qc σ τ) (hc : Cal τ v H) : den (d + 1, 14, 0, [.ref 8, .int (nI k), .ref 21, .int (-1), .int (-1), .int (-1), .float 0, .float 0, .float 0, .float 0, .float 0], [], τ) = some (some (.int (if soB H v dv dd de k = true then nI 1 else nI 0)), τ) := by
  have hv8 := hw.2.1
  have h' := Qc_C hq hC
  obtain ⟨d1, d2, d3⟩ := dC.2 k hk
  obtain ⟨w1, w2, w3⟩ := dW.2 k hk
  have n10 := dW.1
  have b1 := C_before (d := d) hC hv8 (show dv k < 8 by omega) (show de k ≤ 28 by omega) hq hc
  have b2 := C_before (d := d) hC hv8 (show dv k < 8 by omega) (show de k + 1 ≤ 28 by omega) hq hc
  have l1 := bef_le H (dv k) (show de k ≤ 28 by omega) v
  have l2 := bef_le H (dv k) (show de k + 1 ≤ 28 by omega) v
  rw [← Ag_i hq 9 rfl] at d1
  rw [← Ag_i hq 10 rfl] at d2
  rw [← Ag_i hq 11 rfl] at d3
  unfold soB
  by_cases z1 : bef H v (dv k) (de k) ≤ dd k
  · by_cases z2 : dd k < bef H v (dv k) (de k + 1)
    · rw [if_pos (by simp [z1, z2])]
      simp (disch := first | omega | (repeat (first | assumption | exact Ag_r | refine Ag_I ?_ rfl | refine Ag_F ?_ rfl | refine Ag_J ?_ rfl))) only [A14, FC h', d1, d2, d3, b1, b2, m1_lt, m1_le, m1_ge, m1_lt', Nat.add_zero, CO, HA, HB, HC, Nat.not_lt_zero, Nat.add_assoc, c_nlt, c_nle, c_neq, c_P, c_cl, c_m1, c_m1', nI_add, pk_mul, reduceIte, Nat.reduceEqDiff, Nat.reduceAdd, Nat.reduceMul, Nat.reduceLeDiff, eq_self, ↓pk_rem, pk_div, c_of, d_le, d_nle, d_lt, d_nlt, d_eq, d_ne]
    · rw [if_neg (by simp [z2])]
      simp (disch := first | omega | (repeat (first | assumption | exact Ag_r | refine Ag_I ?_ rfl | refine Ag_F ?_ rfl | refine Ag_J ?_ rfl))) only [A14, FC h', d1, d2, d3, b1, b2, m1_lt, m1_le, m1_ge, m1_lt', Nat.add_zero, CO, HA, HB, HC, Nat.not_lt_zero, Nat.add_assoc, c_nlt, c_nle, c_neq, c_P, c_cl, c_m1, c_m1', nI_add, pk_mul, reduceIte, Nat.reduceEqDiff, Nat.reduceAdd, Nat.reduceMul, Nat.reduceLeDiff, eq_self, ↓pk_rem, pk_div, c_of, d_le, d_nle, d_lt, d_nlt, d_eq, d_ne]
  · rw [if_neg (by simp [z1])]
    simp (disch := first | omega | (repeat (first | assumption | exact Ag_r | refine Ag_I ?_ rfl | refine Ag_F ?_ rfl | refine Ag_J ?_ rfl))) only [A14, FC h', d1, d2, d3, b1, b2, m1_lt, m1_le, m1_ge, Nat.add_zero, CO, HA, HB, HC, Nat.not_lt_zero, Nat.add_assoc, c_nlt, c_nle, c_neq, c_P, c_cl, c_m1, c_m1', nI_add, pk_mul, reduceIte, Nat.reduceEqDiff, Nat.reduceAdd, Nat.reduceMul, Nat.reduceLeDiff, eq_self, ↓pk_rem, pk_div, c_of, d_le, d_nle, d_lt, d_nlt, d_eq, d_ne]
set_option maxHeartbeats 4000000 in
theorem C_isSo1 (hC : FxC σ) (hw : Wf v H) (dC : DeC σ nd dv dd de) (dW : DeW v nd dv dd de) {k c t : Nat} (hk : k < nd) (hc28 : c < 28 * v) (ht : t < v) (hne : ¬ H c = t) (hq : Qc σ τ) (hc : Cal τ v H) : den (d + 1, 14, 0, [.ref 8, .int (nI k), .ref 21, .int (nI (c % 28)), .int (nI (H c)), .int (nI t), .float 0, .float 0, .float 0, .float 0, .float 0], [], τ) = some (some (.int (if soB (upN H c t) v dv dd de k = true then nI 1 else nI 0)), τ) := by
  have hv8 := hw.2.1
  have h' := Qc_C hq hC
  obtain ⟨d1, d2, d3⟩ := dC.2 k hk
  obtain ⟨w1, w2, w3⟩ := dW.2 k hk
  have n10 := dW.1
  have H8 := hw.2.2.1 c hc28
  have b1 := C_before (d := d) hC hv8 (show dv k < 8 by omega) (show de k ≤ 28 by omega) hq hc
  have b2 := C_before (d := d) hC hv8 (show dv k < 8 by omega) (show de k + 1 ≤ 28 by omega) hq hc
  have l1 := bef_le H (dv k) (show de k ≤ 28 by omega) v
  have l2 := bef_le H (dv k) (show de k + 1 ≤ 28 by omega) v
  have u1 := bef_up H c t (dv k) (de k) (by omega) v hc28
  have u2 := bef_up H c t (dv k) (de k + 1) (by omega) v hc28
  rw [← Ag_i hq 9 rfl] at d1
  rw [← Ag_i hq 10 rfl] at d2
  rw [← Ag_i hq 11 rfl] at d3
  have m28 : c % 28 < 28 := Nat.mod_lt _ (by omega)
  unfold soB
  generalize bef (upN H c t) v (dv k) (de k) = B0 at *
  generalize bef (upN H c t) v (dv k) (de k + 1) = B1 at *
  generalize bef H v (dv k) (de k) = b0 at *
  generalize bef H v (dv k) (de k + 1) = b00 at *
  generalize c % 28 = m at *
  have tail : ∀ (x0 x1 : Nat) (l8 : Int32), x0 = B0 → x1 = B1 → x0 < 2 ^ 31 → x1 < 2 ^ 31 → den (d + 1, 14, 89, [.ref 8, .int (nI k), .ref 21, .int (nI m), .int (nI (H c)), .int (nI t), .int (nI (dv k)), .int (nI (de k)), .int l8, .int (nI x0), .int (nI x1)], [], τ) = some (some (Value.int (if (decide (B0 ≤ dd k) && decide (dd k < B1)) = true then nI 1 else nI 0)), τ) := by
    intro x0 x1 l8 h0 h1 q0 q1
    subst h0 h1
    by_cases z1 : x0 ≤ dd k <;> by_cases z2 : dd k < x1
    · rw [if_pos (by simp [z1, z2])]
      simp (disch := first | omega | (repeat (first | assumption | exact Ag_r | refine Ag_I ?_ rfl | refine Ag_F ?_ rfl | refine Ag_J ?_ rfl))) only [A14, FC h', d2, CO, HA, HB, HC, Nat.not_lt_zero, Nat.add_assoc, c_nlt, c_nle, c_neq, c_P, c_cl, c_m1, c_m1', nI_add, pk_mul, reduceIte, Nat.reduceEqDiff, Nat.reduceAdd, Nat.reduceMul, Nat.reduceLeDiff, eq_self, ↓pk_rem, pk_div, c_of, d_le, d_nle, d_lt, d_nlt, d_eq, d_ne]
    · rw [if_neg (by simp [z2])]
      simp (disch := first | omega | (repeat (first | assumption | exact Ag_r | refine Ag_I ?_ rfl | refine Ag_F ?_ rfl | refine Ag_J ?_ rfl))) only [A14, FC h', d2, CO, HA, HB, HC, Nat.not_lt_zero, Nat.add_assoc, c_nlt, c_nle, c_neq, c_P, c_cl, c_m1, c_m1', nI_add, pk_mul, reduceIte, Nat.reduceEqDiff, Nat.reduceAdd, Nat.reduceMul, Nat.reduceLeDiff, eq_self, ↓pk_rem, pk_div, c_of, d_le, d_nle, d_lt, d_nlt, d_eq, d_ne]
    · rw [if_neg (by simp [z1])]
      simp (disch := first | omega | (repeat (first | assumption | exact Ag_r | refine Ag_I ?_ rfl | refine Ag_F ?_ rfl | refine Ag_J ?_ rfl))) only [A14, FC h', d2, CO, HA, HB, HC, Nat.not_lt_zero, Nat.add_assoc, c_nlt, c_nle, c_neq, c_P, c_cl, c_m1, c_m1', nI_add, pk_mul, reduceIte, Nat.reduceEqDiff, Nat.reduceAdd, Nat.reduceMul, Nat.reduceLeDiff, eq_self, ↓pk_rem, pk_div, c_of, d_le, d_nle, d_lt, d_nlt, d_eq, d_ne]
    · rw [if_neg (by simp [z1])]
      simp (disch := first | omega | (repeat (first | assumption | exact Ag_r | refine Ag_I ?_ rfl | refine Ag_F ?_ rfl | refine Ag_J ?_ rfl))) only [A14, FC h', d2, CO, HA, HB, HC, Nat.not_lt_zero, Nat.add_assoc, c_nlt, c_nle, c_neq, c_P, c_cl, c_m1, c_m1', nI_add, pk_mul, reduceIte, Nat.reduceEqDiff, Nat.reduceAdd, Nat.reduceMul, Nat.reduceLeDiff, eq_self, ↓pk_rem, pk_div, c_of, d_le, d_nle, d_lt, d_nlt, d_eq, d_ne]
  by_cases a1 : dv k = t
  · have a2 : ¬ H c = dv k := fun e => hne (e.trans a1)
    by_cases y1 : m < de k
    · rw [if_neg (by omega), if_pos (by omega)] at u1 u2
      rw [← tail (b0 + 1) (b00 + 1) (nI 1) (by omega) (by omega) (by omega) (by omega)]
      simp (disch := first | omega | (repeat (first | assumption | exact Ag_r | refine Ag_I ?_ rfl | refine Ag_F ?_ rfl | refine Ag_J ?_ rfl))) only [A14, FC h', d1, d2, d3, b1, b2, Nat.add_zero, CO, HA, HB, HC, Nat.not_lt_zero, Nat.add_assoc, c_nlt, c_nle, c_neq, c_P, c_cl, c_m1, c_m1', nI_add, pk_mul, reduceIte, Nat.reduceEqDiff, Nat.reduceAdd, Nat.reduceMul, Nat.reduceLeDiff, eq_self, ↓pk_rem, pk_div, c_of, d_le, d_nle, d_lt, d_nlt, d_eq, d_ne]
    · by_cases y2 : m ≤ de k
      · rw [if_neg (by omega), if_neg (by omega)] at u1
        rw [if_neg (by omega), if_pos (by omega)] at u2
        rw [← tail (b0) (b00 + 1) (nI 1) (by omega) (by omega) (by omega) (by omega)]
        simp (disch := first | omega | (repeat (first | assumption | exact Ag_r | refine Ag_I ?_ rfl | refine Ag_F ?_ rfl | refine Ag_J ?_ rfl))) only [A14, FC h', d1, d2, d3, b1, b2, Nat.add_zero, CO, HA, HB, HC, Nat.not_lt_zero, Nat.add_assoc, c_nlt, c_nle, c_neq, c_P, c_cl, c_m1, c_m1', nI_add, pk_mul, reduceIte, Nat.reduceEqDiff, Nat.reduceAdd, Nat.reduceMul, Nat.reduceLeDiff, eq_self, ↓pk_rem, pk_div, c_of, d_le, d_nle, d_lt, d_nlt, d_eq, d_ne]
      · rw [if_neg (by omega), if_neg (by omega)] at u1 u2
        rw [← tail (b0) (b00) (nI 1) (by omega) (by omega) (by omega) (by omega)]
        simp (disch := first | omega | (repeat (first | assumption | exact Ag_r | refine Ag_I ?_ rfl | refine Ag_F ?_ rfl | refine Ag_J ?_ rfl))) only [A14, FC h', d1, d2, d3, b1, b2, Nat.add_zero, CO, HA, HB, HC, Nat.not_lt_zero, Nat.add_assoc, c_nlt, c_nle, c_neq, c_P, c_cl, c_m1, c_m1', nI_add, pk_mul, reduceIte, Nat.reduceEqDiff, Nat.reduceAdd, Nat.reduceMul, Nat.reduceLeDiff, eq_self, ↓pk_rem, pk_div, c_of, d_le, d_nle, d_lt, d_nlt, d_eq, d_ne]
  · by_cases a2 : dv k = H c
    · by_cases y1 : m < de k
      · rw [if_pos (by omega), if_neg (by omega)] at u1 u2
        rw [← tail (b0 - 1) (b00 - 1) (-1) (by omega) (by omega) (by omega) (by omega)]
        simp (disch := first | omega | (repeat (first | assumption | exact Ag_r | refine Ag_I ?_ rfl | refine Ag_F ?_ rfl | refine Ag_J ?_ rfl))) only [A14, FC h', d1, d2, d3, b1, b2, Nat.add_zero, nm1, CO, HA, HB, HC, Nat.not_lt_zero, Nat.add_assoc, c_nlt, c_nle, c_neq, c_P, c_cl, c_m1, c_m1', nI_add, pk_mul, reduceIte, Nat.reduceEqDiff, Nat.reduceAdd, Nat.reduceMul, Nat.reduceLeDiff, eq_self, ↓pk_rem, pk_div, c_of, d_le, d_nle, d_lt, d_nlt, d_eq, d_ne]
      · by_cases y2 : m ≤ de k
        · rw [if_neg (by omega), if_neg (by omega)] at u1
          rw [if_pos (by omega), if_neg (by omega)] at u2
          rw [← tail (b0) (b00 - 1) (-1) (by omega) (by omega) (by omega) (by omega)]
          simp (disch := first | omega | (repeat (first | assumption | exact Ag_r | refine Ag_I ?_ rfl | refine Ag_F ?_ rfl | refine Ag_J ?_ rfl))) only [A14, FC h', d1, d2, d3, b1, b2, Nat.add_zero, nm1, CO, HA, HB, HC, Nat.not_lt_zero, Nat.add_assoc, c_nlt, c_nle, c_neq, c_P, c_cl, c_m1, c_m1', nI_add, pk_mul, reduceIte, Nat.reduceEqDiff, Nat.reduceAdd, Nat.reduceMul, Nat.reduceLeDiff, eq_self, ↓pk_rem, pk_div, c_of, d_le, d_nle, d_lt, d_nlt, d_eq, d_ne]
        · rw [if_neg (by omega), if_neg (by omega)] at u1 u2
          rw [← tail (b0) (b00) (-1) (by omega) (by omega) (by omega) (by omega)]
          simp (disch := first | omega | (repeat (first | assumption | exact Ag_r | refine Ag_I ?_ rfl | refine Ag_F ?_ rfl | refine Ag_J ?_ rfl))) only [A14, FC h', d1, d2, d3, b1, b2, Nat.add_zero, CO, HA, HB, HC, Nat.not_lt_zero, Nat.add_assoc, c_nlt, c_nle, c_neq, c_P, c_cl, c_m1, c_m1', nI_add, pk_mul, reduceIte, Nat.reduceEqDiff, Nat.reduceAdd, Nat.reduceMul, Nat.reduceLeDiff, eq_self, ↓pk_rem, pk_div, c_of, d_le, d_nle, d_lt, d_nlt, d_eq, d_ne]
    · rw [if_neg (by omega), if_neg (by omega)] at u1 u2
      by_cases y1 : m < de k
      · rw [← tail (b0) (b00) (nI 0) (by omega) (by omega) (by omega) (by omega)]
        simp (disch := first | omega | (repeat (first | assumption | exact Ag_r | refine Ag_I ?_ rfl | refine Ag_F ?_ rfl | refine Ag_J ?_ rfl))) only [A14, FC h', d1, d2, d3, b1, b2, Nat.add_zero, CO, HA, HB, HC, Nat.not_lt_zero, Nat.add_assoc, c_nlt, c_nle, c_neq, c_P, c_cl, c_m1, c_m1', nI_add, pk_mul, reduceIte, Nat.reduceEqDiff, Nat.reduceAdd, Nat.reduceMul, Nat.reduceLeDiff, eq_self, ↓pk_rem, pk_div, c_of, d_le, d_nle, d_lt, d_nlt, d_eq, d_ne]
      · by_cases y2 : m ≤ de k
        · rw [← tail (b0) (b00) (nI 0) (by omega) (by omega) (by omega) (by omega)]
          simp (disch := first | omega | (repeat (first | assumption | exact Ag_r | refine Ag_I ?_ rfl | refine Ag_F ?_ rfl | refine Ag_J ?_ rfl))) only [A14, FC h', d1, d2, d3, b1, b2, Nat.add_zero, CO, HA, HB, HC, Nat.not_lt_zero, Nat.add_assoc, c_nlt, c_nle, c_neq, c_P, c_cl, c_m1, c_m1', nI_add, pk_mul, reduceIte, Nat.reduceEqDiff, Nat.reduceAdd, Nat.reduceMul, Nat.reduceLeDiff, eq_self, ↓pk_rem, pk_div, c_of, d_le, d_nle, d_lt, d_nlt, d_eq, d_ne]
        · rw [← tail (b0) (b00) (nI 0) (by omega) (by omega) (by omega) (by omega)]
          simp (disch := first | omega | (repeat (first | assumption | exact Ag_r | refine Ag_I ?_ rfl | refine Ag_F ?_ rfl | refine Ag_J ?_ rfl))) only [A14, FC h', d1, d2, d3, b1, b2, Nat.add_zero, CO, HA, HB, HC, Nat.not_lt_zero, Nat.add_assoc, c_nlt, c_nle, c_neq, c_P, c_cl, c_m1, c_m1', nI_add, pk_mul, reduceIte, Nat.reduceEqDiff, Nat.reduceAdd, Nat.reduceMul, Nat.reduceLeDiff, eq_self, ↓pk_rem, pk_div, c_of, d_le, d_nle, d_lt, d_nlt, d_eq, d_ne]
theorem M_isForged (hM : FxM ρ) (hv : hI ρ 59 0 = nI v) (hv8 : v ≤ 8) (dM : DeM ρ nd dv dd de) (dW : DeW v nd dv dd de) {K : Nat → Nat} (hK : ∀ c, c < 224 → K c < 8) {k : Nat} (hk : k < nd) (hq : Qm ρ τ) (h72 : ∀ c, c < 224 → hI τ 72 c = nI (K c)) : Ev (den (d + 2, 215, 0, [.ref 57, .int (nI k), .float 0], [], τ)) (fun a υ => a = some (.int (if soB K v dv dd de k = true then nI 0 else nI 1)) ∧ Qm ρ υ ∧ hI υ 72 = hI τ 72) := by
  have h' := Qm_M hq hM
  have n10 := dW.1
  obtain ⟨d1, d2, d3⟩ := dM.2 k hk
  obtain ⟨w1, w2, w3⟩ := dW.2 k hk
  have f1 : hI τ 59 (258 + 3 * k) = nI (dv k) := by rw [Ag_i hq 59 rfl]; exact d1
  simp (disch := first | omega | (repeat (first | assumption | exact Ag_r | refine Ag_I ?_ rfl | refine Ag_F ?_ rfl | refine Ag_J ?_ rfl))) only [A215, FM h', f1, CO, HA, HB, HC, Nat.not_lt_zero, Nat.add_assoc, c_nlt, c_nle, c_neq, c_P, c_cl, c_m1, c_m1', nI_add, pk_mul, reduceIte, Nat.reduceEqDiff, Nat.reduceAdd, Nat.reduceMul, Nat.reduceLeDiff, eq_self, ↓pk_rem, pk_div, c_of, d_le, d_nle, d_lt, d_nlt, d_eq, d_ne]
  refine Ev_b (M_findRow hM hv hv8 hK (show dv k < 8 by omega) hq h72) ?_
  rintro _ υ ⟨rfl, hq2, hl2, hdw, hdr⟩
  have h2 := Qm_M hq2 hM
  have f2 : hI υ 59 (258 + (3 * k + 1)) = nI (dd k) := by rw [Ag_i hq2 59 rfl]; exact d2
  have f3 : hI υ 59 (258 + (3 * k + 2)) = nI (de k) := by rw [Ag_i hq2 59 rfl]; exact d3
  have b0 := hd_le K (dv k) hv8
  unfold soB
  by_cases z : dd k < hd K v (dv k)
  · obtain ⟨e', o, g1, g2, g3, g4, g5, g6, g7, g8, g9⟩ := dw_at hdr z
    by_cases y : e' = de k
    · rw [if_pos (by rw [← y]; simp [g6, g7])]
      simp (disch := first | omega | (repeat (first | assumption | exact Ag_r | refine Ag_I ?_ rfl | refine Ag_F ?_ rfl | refine Ag_J ?_ rfl))) only [A215, FM h2, f2, f3, hdw, g4, g8, y, CO, HA, HB, HC, Nat.not_lt_zero, Nat.add_assoc, c_nlt, c_nle, c_neq, c_P, c_cl, c_m1, c_m1', nI_add, pk_mul, reduceIte, Nat.reduceEqDiff, Nat.reduceAdd, Nat.reduceMul, Nat.reduceLeDiff, eq_self, ↓pk_rem, pk_div, c_of, d_le, d_nle, d_lt, d_nlt, d_eq, d_ne]
      exact Ev_s ⟨rfl, hq2, hl2.1⟩
    · have := bx g6 g7 y
      rw [if_neg (by simpa using this)]
      simp (disch := first | omega | (repeat (first | assumption | exact Ag_r | refine Ag_I ?_ rfl | refine Ag_F ?_ rfl | refine Ag_J ?_ rfl))) only [A215, FM h2, f2, f3, hdw, g4, g8, y, CO, HA, HB, HC, Nat.not_lt_zero, Nat.add_assoc, c_nlt, c_nle, c_neq, c_P, c_cl, c_m1, c_m1', nI_add, pk_mul, reduceIte, Nat.reduceEqDiff, Nat.reduceAdd, Nat.reduceMul, Nat.reduceLeDiff, eq_self, ↓pk_rem, pk_div, c_of, d_le, d_nle, d_lt, d_nlt, d_eq, d_ne]
      exact Ev_s ⟨rfl, hq2, hl2.1⟩
  · have b1 := bef_mono K v (dv k) (show de k + 1 ≤ 28 by omega)
    rw [bef_28] at b1
    rw [if_neg (by simp only [Bool.and_eq_true, decide_eq_true_eq]; omega)]
    simp (disch := first | omega | (repeat (first | assumption | exact Ag_r | refine Ag_I ?_ rfl | refine Ag_F ?_ rfl | refine Ag_J ?_ rfl))) only [A215, FM h2, f2, f3, hdw, CO, HA, HB, HC, Nat.not_lt_zero, Nat.add_assoc, c_nlt, c_nle, c_neq, c_P, c_cl, c_m1, c_m1', nI_add, pk_mul, reduceIte, Nat.reduceEqDiff, Nat.reduceAdd, Nat.reduceMul, Nat.reduceLeDiff, eq_self, ↓pk_rem, pk_div, c_of, d_le, d_nle, d_lt, d_nlt, d_eq, d_ne]
    exact Ev_s ⟨rfl, hq2, hl2.1⟩
end
