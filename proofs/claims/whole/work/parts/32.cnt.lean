/-! counts; load, held, debts, who is away -/
def cB (p : Nat → Bool) : Nat → Nat
  | 0 => 0
  | n + 1 => cB p n + (if p n = true then 1 else 0)
theorem cB_y {p : Nat → Bool} {n : Nat} (h : p n = true) : cB p (n + 1) = cB p n + 1 := by simp [cB, h]
theorem cB_n {p : Nat → Bool} {n : Nat} (h : p n = false) : cB p (n + 1) = cB p n := by simp [cB, h]
theorem cB_le (p : Nat → Bool) : ∀ n, cB p n ≤ n
  | 0 => Nat.le_refl _
  | n + 1 => by have := cB_le p n; unfold cB; split <;> omega
theorem cB_add (p : Nat → Bool) (a : Nat) : ∀ b, cB p (a + b) = cB p a + cB (fun i => p (a + i)) b
  | 0 => rfl
  | b + 1 => by
    have := cB_add p a b
    rw [← Nat.add_assoc]
    simp only [cB, this]
    omega
theorem cB_ext {p q : Nat → Bool} : ∀ {n : Nat}, (∀ i, i < n → p i = q i) → cB p n = cB q n
  | 0, _ => rfl
  | n + 1, h => by
    show cB p n + _ = cB q n + _
    rw [cB_ext (fun i hi => h i (by omega)), h n (by omega)]
theorem cB_mono (p : Nat → Bool) {a b : Nat} (h : a ≤ b) : cB p a ≤ cB p b := by
  obtain ⟨c, rfl⟩ := Nat.le.dest h
  rw [cB_add]; omega
theorem cB_cut (p : Nat → Bool) {m n : Nat} (h : m ≤ n) : cB (fun c => p c && decide (c < m)) n = cB p m := by
  obtain ⟨k, rfl⟩ := Nat.le.dest h
  rw [cB_add, cB_ext (q := p) (fun i hi => by simp [hi])]
  rw [cB_ext (q := fun _ => false) (n := k) (fun i _ => by simp)]
  have : ∀ k, cB (fun _ => false) k = 0 := by intro k; induction k with | zero => rfl | succ k ih => simp [cB, ih]
  rw [this]; rfl
theorem ua {f : Nat → Int32} {k j : Nat} {x : Int32} : upd f k x j = if j = k then x else f j := rfl
/-- how many of the villages' copies u holds -/
def hd (H : Nat → Nat) (v u : Nat) : Nat := cB (fun c => decide (H c = u)) (28 * v)
theorem hd_le (H : Nat → Nat) {v : Nat} (u : Nat) (hv : v ≤ 8) : hd H v u ≤ 224 := by have := cB_le (fun c => decide (H c = u)) (28 * v); unfold hd; omega
def Wf (v : Nat) (H : Nat → Nat) : Prop := 1 ≤ v ∧ v ≤ 8 ∧ (∀ c, c < 28 * v → H c < v) ∧ ∀ c, 28 * v ≤ c → c < 224 → H c = c / 28
theorem Wf_8 {v : Nat} {H : Nat → Nat} (h : Wf v H) {c : Nat} (hc : c < 224) : H c < 8 := by
  obtain ⟨h1, h2, h3, h4⟩ := h
  by_cases e : c < 28 * v
  · have := h3 c e; omega
  · rw [h4 c (by omega) hc]; omega
def StC (σ : Hp) (v : Nat) (H : Nat → Nat) : Prop := hF σ 1 0 = .int (nI v) ∧ ∀ c, c < 224 → hI σ 2 c = nI (H c)
def StM (σ : Hp) (v : Nat) (H : Nat → Nat) : Prop := hI σ 59 0 = nI v ∧ ∀ c, c < 224 → hI σ 59 (34 + c) = nI (H c)
/-- the rows that load makes -/
def LdM (σ : Hp) (v : Nat) (H : Nat → Nat) : Prop := (∀ c, c < 224 → hI σ 72 c = nI (H c)) ∧ ∀ u, u < 8 → hI σ 73 u = nI (hd H v u)
section
variable {d v : Nat} {H : Nat → Nat} {σ : Hp}
theorem M_villages' (h : FxM σ) {τ : Hp} (hq : Qm σ τ) : den (d, 139, 0, [.ref 57], [], τ) = some (some (.int (hI σ 59 0)), τ) := by
  rw [M_villages (Qm_M hq h), Ag_i hq 59 rfl]
theorem M_copies (h : FxM σ) (hv : hI σ 59 0 = nI v) (hv8 : v ≤ 8) {τ : Hp} (hq : Qm σ τ) : den (d + 1, 177, 0, [.ref 57], [], τ) = some (some (.int (nI (28 * v))), τ) := by
  have h' := Qm_M hq h
  simp (disch := first | omega | (repeat (first | assumption | exact Ag_r | refine Ag_I ?_ rfl | refine Ag_F ?_ rfl | refine Ag_J ?_ rfl))) only [A177, FM h', M_villages' h, hv, CO, HA, HB, HC, Nat.not_lt_zero, Nat.add_assoc, c_nlt, c_nle, c_neq, c_P, c_cl, c_m1, c_m1', nI_add, pk_mul, reduceIte, Nat.reduceEqDiff, Nat.reduceAdd, Nat.reduceMul, Nat.reduceLeDiff, eq_self, ↓pk_rem, pk_div, c_of, d_le, d_nle, d_lt, d_nlt, d_eq, d_ne]
theorem M_load1 (h : FxM σ) : ∀ (n i : Nat) (τ : Hp), i + n = 8 → Qm σ τ → (∀ u, u < i → hI τ 73 u = nI 0) → ∃ υ, den (d, 178, 2, [.ref 57, .int (nI i)], [], τ) = den (d, 178, 23, [.ref 57, .int (nI 0)], [], υ) ∧ Qm σ υ ∧ ∀ u, u < 8 → hI υ 73 u = nI 0 := by
  intro n
  induction n with
  | zero =>
    intro i τ hi hq h1
    obtain rfl : i = 8 := by omega
    refine ⟨τ, ?_, hq, h1⟩
    rw [a178_2]
    simp (disch := first | omega | (repeat (first | assumption | exact Ag_r | refine Ag_I ?_ rfl | refine Ag_F ?_ rfl | refine Ag_J ?_ rfl))) only [A178, CO, HA, HB, HC, Nat.not_lt_zero, Nat.add_assoc, c_nlt, c_nle, c_neq, c_P, c_cl, c_m1, c_m1', nI_add, pk_mul, reduceIte, Nat.reduceEqDiff, Nat.reduceAdd, Nat.reduceMul, Nat.reduceLeDiff, eq_self, ↓pk_rem, pk_div, c_of, d_le, d_nle, d_lt, d_nlt, d_eq, d_ne]
  | succ n ih =>
    intro i τ hi hq h1
    have h' := Qm_M hq h
    rw [a178_2]
    simp (disch := first | omega | (repeat (first | assumption | exact Ag_r | refine Ag_I ?_ rfl | refine Ag_F ?_ rfl | refine Ag_J ?_ rfl))) only [A178, FM h', CO, HA, HB, HC, Nat.not_lt_zero, Nat.add_assoc, c_nlt, c_nle, c_neq, c_P, c_cl, c_m1, c_m1', nI_add, pk_mul, reduceIte, Nat.reduceEqDiff, Nat.reduceAdd, Nat.reduceMul, Nat.reduceLeDiff, eq_self, ↓pk_rem, pk_div, c_of, d_le, d_nle, d_lt, d_nlt, d_eq, d_ne]
    refine ih (i + 1) _ (by omega) (Ag_I hq rfl) ?_
    intro u hu
    simp only [HA, reduceIte, ua]
    split
    · rfl
    · exact h1 u (by omega)
def ld (H : Nat → Nat) (v u : Nat) : Nat → Bool := fun c => decide (H c = u) && decide (c < 28 * v)
theorem M_load2 (h : FxM σ) (hs : StM σ v H) (hw : Wf v H) : ∀ (n i : Nat) (τ : Hp), i + n = 224 → Qm σ τ → (∀ c, c < i → hI τ 72 c = nI (H c)) → (∀ u, u < 8 → hI τ 73 u = nI (cB (ld H v u) i)) → Ev (den (d + 2, 178, 23, [.ref 57, .int (nI i)], [], τ)) (fun a υ => a = none ∧ Qm σ υ ∧ LdM υ v H) := by
  have hv8 := hw.2.1
  intro n
  induction n with
  | zero =>
    intro i τ hi hq h1 h2
    obtain rfl : i = 224 := by omega
    rw [a178_23]
    simp (disch := first | omega | (repeat (first | assumption | exact Ag_r | refine Ag_I ?_ rfl | refine Ag_F ?_ rfl | refine Ag_J ?_ rfl))) only [A178, CO, HA, HB, HC, Nat.not_lt_zero, Nat.add_assoc, c_nlt, c_nle, c_neq, c_P, c_cl, c_m1, c_m1', nI_add, pk_mul, reduceIte, Nat.reduceEqDiff, Nat.reduceAdd, Nat.reduceMul, Nat.reduceLeDiff, eq_self, ↓pk_rem, pk_div, c_of, d_le, d_nle, d_lt, d_nlt, d_eq, d_ne]
    refine Ev_s ⟨rfl, hq, h1, fun u hu => ?_⟩
    rw [h2 u hu]
    unfold ld
    rw [cB_cut _ (by omega)]
    rfl
  | succ n ih =>
    intro i τ hi hq h1 h2
    have h' := Qm_M hq h
    have e1 := hs.2 i (by omega)
    have e2 := Wf_8 hw (c := i) (by omega)
    have e3 := Ag_i hq 59 rfl
    have e4 := h2 (H i) e2
    have e5 := cB_le (ld H v (H i)) i
    rw [a178_23]
    by_cases h28 : i < 28 * v
    · simp (disch := first | omega | (repeat (first | assumption | exact Ag_r | refine Ag_I ?_ rfl | refine Ag_F ?_ rfl | refine Ag_J ?_ rfl))) only [A178, FM h', e1, e3, e4, M_copies h hs.1 hv8, ua, h28, CO, HA, HB, HC, Nat.not_lt_zero, Nat.add_assoc, c_nlt, c_nle, c_neq, c_P, c_cl, c_m1, c_m1', nI_add, pk_mul, reduceIte, Nat.reduceEqDiff, Nat.reduceAdd, Nat.reduceMul, Nat.reduceLeDiff, eq_self, ↓pk_rem, pk_div, c_of, d_le, d_nle, d_lt, d_nlt, d_eq, d_ne]
      refine ih (i + 1) _ (by omega) (by repeat (first | assumption | exact Ag_r | refine Ag_I ?_ rfl | refine Ag_F ?_ rfl | refine Ag_J ?_ rfl)) ?_ ?_
      · intro c hc
        simp only [HA, reduceIte, ua, Nat.reduceEqDiff]
        split
        · next z => rw [z]
        · exact h1 c (by omega)
      · intro u hu
        simp only [HA, reduceIte, ua, Nat.reduceEqDiff]
        split
        · next z => subst z; rw [cB_y]; simp [ld, h28]
        · next z => rw [h2 u hu, cB_n]; simp [ld, Ne.symm z]
    · simp (disch := first | omega | (repeat (first | assumption | exact Ag_r | refine Ag_I ?_ rfl | refine Ag_F ?_ rfl | refine Ag_J ?_ rfl))) only [A178, FM h', e1, e3, e4, M_copies h hs.1 hv8, ua, h28, CO, HA, HB, HC, Nat.not_lt_zero, Nat.add_assoc, c_nlt, c_nle, c_neq, c_P, c_cl, c_m1, c_m1', nI_add, pk_mul, reduceIte, Nat.reduceEqDiff, Nat.reduceAdd, Nat.reduceMul, Nat.reduceLeDiff, eq_self, ↓pk_rem, pk_div, c_of, d_le, d_nle, d_lt, d_nlt, d_eq, d_ne]
      refine ih (i + 1) _ (by omega) (by repeat (first | assumption | exact Ag_r | refine Ag_I ?_ rfl | refine Ag_F ?_ rfl | refine Ag_J ?_ rfl)) ?_ ?_
      · intro c hc
        simp only [HA, reduceIte, ua, Nat.reduceEqDiff]
        split
        · next z => rw [z]
        · exact h1 c (by omega)
      · intro u hu
        simp only [HA, reduceIte, ua, Nat.reduceEqDiff]
        have z1 : ld H v u i = false := by simp [ld, h28]
        split
        · next z => subst z; rw [cB_n z1]; rfl
        · next z => rw [h2 u hu, cB_n z1]
theorem M_load (h : FxM σ) (hs : StM σ v H) (hw : Wf v H) {τ : Hp} (hq : Qm σ τ) : Ev (den (d + 2, 178, 0, [.ref 57, .float 0], [], τ)) (fun a υ => a = none ∧ Qm σ υ ∧ LdM υ v H) := by
  simp (disch := first | omega | (repeat (first | assumption | exact Ag_r | refine Ag_I ?_ rfl | refine Ag_F ?_ rfl | refine Ag_J ?_ rfl))) only [A178, CO, HA, HB, HC, Nat.not_lt_zero, Nat.add_assoc, c_nlt, c_nle, c_neq, c_P, c_cl, c_m1, c_m1', nI_add, pk_mul, reduceIte, Nat.reduceEqDiff, Nat.reduceAdd, Nat.reduceMul, Nat.reduceLeDiff, eq_self, ↓pk_rem, pk_div, c_of, d_le, d_nle, d_lt, d_nlt, d_eq, d_ne]
  obtain ⟨υ, e, hq', h1⟩ := M_load1 (d := d + 2) h 8 0 τ rfl hq (by intro u hu; omega)
  rw [e]
  exact M_load2 h hs hw 224 0 υ rfl hq' (by intro c hc; omega) h1
theorem C_held (h : FxC σ) (hs : StC σ v H) (hw : Wf v H) {u : Nat} (hu : u < 8) {τ : Hp} (hq : Qc σ τ) : den (d, 75, 0, [.ref 1, .int (nI u), .float 0, .float 0], [], τ) = some (some (.int (nI (hd H v u))), τ) := by
  have h' := Qc_C hq h
  have e1 := Ag_f hq 1 0 rfl
  have e2 := Ag_i hq 2 rfl
  have hv8 := hw.2.1
  have go : ∀ (n i : Nat), i + n = 28 * v → den (d, 75, 4, [.ref 1, .int (nI u), .int (nI (cB (fun c => decide (H c = u)) i)), .int (nI i)], [], τ) = some (some (.int (nI (hd H v u))), τ) := by
    intro n
    induction n with
    | zero =>
      intro i hi
      rw [a75_4]
      simp (disch := first | omega | (repeat (first | assumption | exact Ag_r | refine Ag_I ?_ rfl | refine Ag_F ?_ rfl | refine Ag_J ?_ rfl))) only [A75, FC h', e1, hs.1, CO, HA, HB, HC, Nat.not_lt_zero, Nat.add_assoc, c_nlt, c_nle, c_neq, c_P, c_cl, c_m1, c_m1', nI_add, pk_mul, reduceIte, Nat.reduceEqDiff, Nat.reduceAdd, Nat.reduceMul, Nat.reduceLeDiff, eq_self, ↓pk_rem, pk_div, c_of, d_le, d_nle, d_lt, d_nlt, d_eq, d_ne]
      rw [show i = 28 * v by omega]; rfl
    | succ n ih =>
      intro i hi
      have e3 := hs.2 i (by omega)
      have e4 := Wf_8 hw (c := i) (by omega)
      have e5 := ih (i + 1) (by omega)
      rw [a75_4]
      by_cases z : H i = u
      · rw [cB_y (by simp [z])] at e5
        simp (disch := first | omega | (repeat (first | assumption | exact Ag_r | refine Ag_I ?_ rfl | refine Ag_F ?_ rfl | refine Ag_J ?_ rfl))) only [A75, FC h', e1, e2, hs.1, e3, z, CO, HA, HB, HC, Nat.not_lt_zero, Nat.add_assoc, c_nlt, c_nle, c_neq, c_P, c_cl, c_m1, c_m1', nI_add, pk_mul, reduceIte, Nat.reduceEqDiff, Nat.reduceAdd, Nat.reduceMul, Nat.reduceLeDiff, eq_self, ↓pk_rem, pk_div, c_of, d_le, d_nle, d_lt, d_nlt, d_eq, d_ne]
        exact e5
      · rw [cB_n (by simp [z])] at e5
        simp (disch := first | omega | (repeat (first | assumption | exact Ag_r | refine Ag_I ?_ rfl | refine Ag_F ?_ rfl | refine Ag_J ?_ rfl))) only [A75, FC h', e1, e2, hs.1, e3, z, CO, HA, HB, HC, Nat.not_lt_zero, Nat.add_assoc, c_nlt, c_nle, c_neq, c_P, c_cl, c_m1, c_m1', nI_add, pk_mul, reduceIte, Nat.reduceEqDiff, Nat.reduceAdd, Nat.reduceMul, Nat.reduceLeDiff, eq_self, ↓pk_rem, pk_div, c_of, d_le, d_nle, d_lt, d_nlt, d_eq, d_ne]
        exact e5
  simp (disch := first | omega | (repeat (first | assumption | exact Ag_r | refine Ag_I ?_ rfl | refine Ag_F ?_ rfl | refine Ag_J ?_ rfl))) only [A75, CO, HA, HB, HC, Nat.not_lt_zero, Nat.add_assoc, c_nlt, c_nle, c_neq, c_P, c_cl, c_m1, c_m1', nI_add, pk_mul, reduceIte, Nat.reduceEqDiff, Nat.reduceAdd, Nat.reduceMul, Nat.reduceLeDiff, eq_self, ↓pk_rem, pk_div, c_of, d_le, d_nle, d_lt, d_nlt, d_eq, d_ne]
  exact go (28 * v) 0 (by omega)
/-- how many days of o's u holds -/
def ow (H : Nat → Nat) (u o : Nat) : Nat := cB (fun e => decide (H (28 * o + e) = u)) 28
theorem C_debt (h : FxC σ) (hs : StC σ v H) (hw : Wf v H) {u o : Nat} (hu : u < 8) (ho : o < 8) {τ : Hp} (hq : Qc σ τ) : den (d, 76, 0, [.ref 1, .int (nI u), .int (nI o), .float 0, .float 0], [], τ) = some (some (.int (nI (ow H u o))), τ) := by
  have h' := Qc_C hq h
  have e2 := Ag_i hq 2 rfl
  have go : ∀ (n i : Nat), i + n = 28 → den (d, 76, 5, [.ref 1, .int (nI u), .int (nI o), .int (nI (cB (fun e => decide (H (28 * o + e) = u)) i)), .int (nI i)], [], τ) = some (some (.int (nI (ow H u o))), τ) := by
    intro n
    induction n with
    | zero =>
      intro i hi
      obtain rfl : i = 28 := by omega
      rw [a76_5]
      simp (disch := first | omega | (repeat (first | assumption | exact Ag_r | refine Ag_I ?_ rfl | refine Ag_F ?_ rfl | refine Ag_J ?_ rfl))) only [A76, FC h', CO, HA, HB, HC, Nat.not_lt_zero, Nat.add_assoc, c_nlt, c_nle, c_neq, c_P, c_cl, c_m1, c_m1', nI_add, pk_mul, reduceIte, Nat.reduceEqDiff, Nat.reduceAdd, Nat.reduceMul, Nat.reduceLeDiff, eq_self, ↓pk_rem, pk_div, c_of, d_le, d_nle, d_lt, d_nlt, d_eq, d_ne]
      rfl
    | succ n ih =>
      intro i hi
      have e3 := hs.2 (28 * o + i) (by omega)
      have e4 := Wf_8 hw (c := 28 * o + i) (by omega)
      have e5 := ih (i + 1) (by omega)
      rw [a76_5]
      by_cases z : H (28 * o + i) = u
      · rw [cB_y (by simp [z])] at e5
        simp (disch := first | omega | (repeat (first | assumption | exact Ag_r | refine Ag_I ?_ rfl | refine Ag_F ?_ rfl | refine Ag_J ?_ rfl))) only [A76, FC h', e2, Nat.mul_comm o 28, e3, z, CO, HA, HB, HC, Nat.not_lt_zero, Nat.add_assoc, c_nlt, c_nle, c_neq, c_P, c_cl, c_m1, c_m1', nI_add, pk_mul, reduceIte, Nat.reduceEqDiff, Nat.reduceAdd, Nat.reduceMul, Nat.reduceLeDiff, eq_self, ↓pk_rem, pk_div, c_of, d_le, d_nle, d_lt, d_nlt, d_eq, d_ne]
        exact e5
      · rw [cB_n (by simp [z])] at e5
        simp (disch := first | omega | (repeat (first | assumption | exact Ag_r | refine Ag_I ?_ rfl | refine Ag_F ?_ rfl | refine Ag_J ?_ rfl))) only [A76, FC h', e2, Nat.mul_comm o 28, e3, z, CO, HA, HB, HC, Nat.not_lt_zero, Nat.add_assoc, c_nlt, c_nle, c_neq, c_P, c_cl, c_m1, c_m1', nI_add, pk_mul, reduceIte, Nat.reduceEqDiff, Nat.reduceAdd, Nat.reduceMul, Nat.reduceLeDiff, eq_self, ↓pk_rem, pk_div, c_of, d_le, d_nle, d_lt, d_nlt, d_eq, d_ne]
        exact e5
  simp (disch := first | omega | (repeat (first | assumption | exact Ag_r | refine Ag_I ?_ rfl | refine Ag_F ?_ rfl | refine Ag_J ?_ rfl))) only [A76, CO, HA, HB, HC, Nat.not_lt_zero, Nat.add_assoc, c_nlt, c_nle, c_neq, c_P, c_cl, c_m1, c_m1', nI_add, pk_mul, reduceIte, Nat.reduceEqDiff, Nat.reduceAdd, Nat.reduceMul, Nat.reduceLeDiff, eq_self, ↓pk_rem, pk_div, c_of, d_le, d_nle, d_lt, d_nlt, d_eq, d_ne]
  exact go 28 0 (by omega)
theorem M_owesOf (h : FxM σ) (hH : ∀ c, c < 224 → H c < 8) {u o : Nat} (hu : u < 8) (ho : o < 8) {τ : Hp} (hq : Qm σ τ) (hl : ∀ c, c < 224 → hI τ 72 c = nI (H c)) : den (d, 196, 0, [.ref 57, .int (nI u), .int (nI o), .float 0, .float 0], [], τ) = some (some (.int (nI (ow H u o))), τ) := by
  have h' := Qm_M hq h
  have go : ∀ (n i : Nat), i + n = 28 → den (d, 196, 5, [.ref 57, .int (nI u), .int (nI o), .int (nI (cB (fun e => decide (H (28 * o + e) = u)) i)), .int (nI i)], [], τ) = some (some (.int (nI (ow H u o))), τ) := by
    intro n
    induction n with
    | zero =>
      intro i hi
      obtain rfl : i = 28 := by omega
      rw [a196_5]
      simp (disch := first | omega | (repeat (first | assumption | exact Ag_r | refine Ag_I ?_ rfl | refine Ag_F ?_ rfl | refine Ag_J ?_ rfl))) only [A196, FM h', CO, HA, HB, HC, Nat.not_lt_zero, Nat.add_assoc, c_nlt, c_nle, c_neq, c_P, c_cl, c_m1, c_m1', nI_add, pk_mul, reduceIte, Nat.reduceEqDiff, Nat.reduceAdd, Nat.reduceMul, Nat.reduceLeDiff, eq_self, ↓pk_rem, pk_div, c_of, d_le, d_nle, d_lt, d_nlt, d_eq, d_ne]
      rfl
    | succ n ih =>
      intro i hi
      have e3 := hl (28 * o + i) (by omega)
      have e4 := hH (28 * o + i) (by omega)
      have e5 := ih (i + 1) (by omega)
      rw [a196_5]
      by_cases z : H (28 * o + i) = u
      · rw [cB_y (by simp [z])] at e5
        simp (disch := first | omega | (repeat (first | assumption | exact Ag_r | refine Ag_I ?_ rfl | refine Ag_F ?_ rfl | refine Ag_J ?_ rfl))) only [A196, FM h', e3, z, CO, HA, HB, HC, Nat.not_lt_zero, Nat.add_assoc, c_nlt, c_nle, c_neq, c_P, c_cl, c_m1, c_m1', nI_add, pk_mul, reduceIte, Nat.reduceEqDiff, Nat.reduceAdd, Nat.reduceMul, Nat.reduceLeDiff, eq_self, ↓pk_rem, pk_div, c_of, d_le, d_nle, d_lt, d_nlt, d_eq, d_ne]
        exact e5
      · rw [cB_n (by simp [z])] at e5
        simp (disch := first | omega | (repeat (first | assumption | exact Ag_r | refine Ag_I ?_ rfl | refine Ag_F ?_ rfl | refine Ag_J ?_ rfl))) only [A196, FM h', e3, z, Nat.add_zero, CO, HA, HB, HC, Nat.not_lt_zero, Nat.add_assoc, c_nlt, c_nle, c_neq, c_P, c_cl, c_m1, c_m1', nI_add, pk_mul, reduceIte, Nat.reduceEqDiff, Nat.reduceAdd, Nat.reduceMul, Nat.reduceLeDiff, eq_self, ↓pk_rem, pk_div, c_of, d_le, d_nle, d_lt, d_nlt, d_eq, d_ne]
        exact e5
  simp (disch := first | omega | (repeat (first | assumption | exact Ag_r | refine Ag_I ?_ rfl | refine Ag_F ?_ rfl | refine Ag_J ?_ rfl))) only [A196, CO, HA, HB, HC, Nat.not_lt_zero, Nat.add_assoc, c_nlt, c_nle, c_neq, c_P, c_cl, c_m1, c_m1', nI_add, pk_mul, reduceIte, Nat.reduceEqDiff, Nat.reduceAdd, Nat.reduceMul, Nat.reduceLeDiff, eq_self, ↓pk_rem, pk_div, c_of, d_le, d_nle, d_lt, d_nlt, d_eq, d_ne]
  exact go 28 0 (by omega)
end
