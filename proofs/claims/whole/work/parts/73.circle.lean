/-! ring: the class -/
def clr (t p : Nat) : Nat := if t.testBit p = true then t - 2 ^ p else t
theorem r_or : ∀ t, t < 256 → ∀ p, p < 8 → nI t ||| (nI 1 <<< (nI p &&& 31)) = nI (t ||| 2 ^ p) ∧ t ||| 2 ^ p < 256 := by decide +kernel
theorem r_clr : ∀ t, t < 256 → ∀ p, p < 8 → (nI t &&& ((nI 1 <<< (nI p &&& 31)) ^^^ -1)) = nI (clr t p) ∧ clr t p < 256 ∧ (t.testBit p = true → pop 8 (clr t p) + 1 = pop 8 t) := by decide +kernel
theorem r_clt : ∀ t, t < 256 → ∀ p, p < 8 → ∀ c, c < 8 → (clr t p).testBit c = (t.testBit c && !decide (c = p)) := by decide +kernel
theorem r_is : ∀ t, t < 256 → ∀ p, p < 8 → ((nI t >>> (nI p &&& 31)) &&& nI 1) = (if t.testBit p = true then nI 1 else nI 0) := by decide +kernel
theorem r_low : ∀ t, t < 256 → 0 < t → ∃ p, p < 8 ∧ (nI t &&& -nI t) - nI 1 = nI (2 ^ p - 1) ∧ pop 8 (2 ^ p - 1) = p ∧ t.testBit p = true ∧ 2 ^ p - 1 < 256 ∧ ∀ c, c < p → t.testBit c = false := by decide +kernel
theorem r_pop0 : ∀ t, t < 256 → pop 8 t = 0 → t = 0 := by decide +kernel
theorem r_and {s t : Nat} (hs : s < 256) (ht : t < 256) : (nI s &&& nI t) = nI (s &&& t) := by
  unfold nI
  apply Int32.toBitVec_inj.mp
  simp
def mk (p : Nat → Bool) : Nat → Nat
  | 0 => 0
  | n + 1 => if p n = true then mk p n ||| 2 ^ n else mk p n
theorem mk_t {p : Nat → Bool} : ∀ {n : Nat} (c : Nat), (mk p n).testBit c = (decide (c < n) && p c)
  | 0, c => by simp [mk]
  | n + 1, c => by
    simp only [mk]
    by_cases h : p n = true
    · rw [if_pos h, Nat.testBit_or, mk_t, Nat.testBit_two_pow]
      by_cases q : n = c
      · subst q; simp [h]
      · simp only [q, decide_false, Bool.or_false]
        congr 1
        exact decide_eq_decide.mpr (by omega)
    · rw [if_neg h, mk_t]
      by_cases q : n = c
      · subst q; simp [h]
      · congr 1
        exact decide_eq_decide.mpr (by omega)
theorem mk_lt {p : Nat → Bool} : ∀ {n : Nat}, mk p n < 2 ^ n
  | 0 => by simp [mk]
  | n + 1 => by
    have := mk_lt (p := p) (n := n)
    simp only [mk]
    split
    · exact Nat.or_lt_two_pow (by rw [Nat.pow_succ]; omega) (Nat.pow_lt_pow_right (by omega) (by omega))
    · rw [Nat.pow_succ]; omega
def Ed (H : Nat → Nat) (v u o : Nat) : Bool := decide (u < v ∧ o < v ∧ u ≠ o ∧ 0 < ow H u o)
/-- those of whom u holds copies -/
def ca (H : Nat → Nat) (u : Nat) : Nat → Nat
  | 0 => 0
  | i + 1 => if H i = u then ca H u i ||| 2 ^ (i / 28) else ca H u i
theorem ca_t {H : Nat → Nat} {u : Nat} : ∀ {i : Nat} (c : Nat), (ca H u i).testBit c = true ↔ ∃ j, j < i ∧ H j = u ∧ j / 28 = c
  | 0, c => by simp [ca]
  | i + 1, c => by
    simp only [ca]
    split
    · rw [Nat.testBit_or, Bool.or_eq_true, ca_t c, Nat.testBit_two_pow, decide_eq_true_eq]
      constructor
      · rintro (⟨j, h1, h2⟩ | h)
        · exact ⟨j, by omega, h2⟩
        · exact ⟨i, by omega, by assumption, h⟩
      · rintro ⟨j, h1, h2, h3⟩
        by_cases q : j = i
        · exact Or.inr (by rw [← q]; exact h3)
        · exact Or.inl ⟨j, by omega, h2, h3⟩
    · rw [ca_t c]
      constructor
      · rintro ⟨j, h1, h2⟩; exact ⟨j, by omega, h2⟩
      · rintro ⟨j, h1, h2, h3⟩
        exact ⟨j, by have : j ≠ i := fun q => by subst q; contradiction
                     omega, h2, h3⟩
theorem ca_lt {H : Nat → Nat} {u : Nat} : ∀ {i : Nat}, i ≤ 224 → ca H u i < 2 ^ 8
  | 0, _ => by simp [ca]
  | i + 1, h => by
    have := ca_lt (H := H) (u := u) (i := i) (by omega)
    simp only [ca]
    split
    · exact Nat.or_lt_two_pow this (Nat.pow_lt_pow_right (by omega) (by omega))
    · exact this
theorem cB_pos {p : Nat → Bool} : ∀ {n : Nat}, 0 < cB p n ↔ ∃ i, i < n ∧ p i = true
  | 0 => by simp [cB]
  | n + 1 => by
    simp only [cB]
    by_cases h : p n = true
    · rw [if_pos h]; exact ⟨fun _ => ⟨n, by omega, h⟩, fun _ => by omega⟩
    · rw [if_neg h, Nat.add_zero, cB_pos]
      constructor
      · rintro ⟨j, h1, h2⟩; exact ⟨j, by omega, h2⟩
      · rintro ⟨j, h1, h2⟩
        exact ⟨j, by have : j ≠ n := fun q => by subst q; contradiction
                     omega, h2⟩
theorem ow_pos {H : Nat → Nat} {u o : Nat} : 0 < ow H u o ↔ ∃ e, e < 28 ∧ H (28 * o + e) = u := by
  unfold ow
  rw [cB_pos]
  simp only [decide_eq_true_eq]
theorem ca_E {H : Nat → Nat} {v u : Nat} (hv : v ≤ 8) (hu : u < v) : clr (ca H u (28 * v)) u = mk (Ed H v u) 8 := by
  have l := ca_lt (H := H) (u := u) (i := 28 * v) (by omega)
  have l1 := (r_clr _ l u (by omega)).2.1
  refine Nat.eq_of_testBit_eq (fun c => ?_)
  by_cases hc : c < 8
  · rw [r_clt _ l u (by omega) c hc, mk_t, decide_eq_true hc, Bool.true_and, Bool.eq_iff_iff]
    simp only [Bool.and_eq_true, Bool.not_eq_true', decide_eq_false_iff_not, Ed, decide_eq_true_eq]
    rw [ca_t, ow_pos]
    constructor
    · rintro ⟨⟨j, h1, h2, h3⟩, h4⟩
      exact ⟨hu, by omega, fun q => h4 q.symm, j % 28, by omega, by rw [show 28 * c + j % 28 = j by omega]; exact h2⟩
    · rintro ⟨_, h2, h3, e, h4, h5⟩
      exact ⟨⟨28 * c + e, by omega, h5, by omega⟩, fun q => h3 q.symm⟩
  · rw [Nat.testBit_lt_two_pow (Nat.lt_of_lt_of_le l1 (Nat.pow_le_pow_right (n := 2) (i := 8) (by omega) (by omega))), Nat.testBit_lt_two_pow (Nat.lt_of_lt_of_le mk_lt (Nat.pow_le_pow_right (n := 2) (i := 8) (by omega) (by omega)))]
section
variable {d v : Nat} {H : Nat → Nat} {σ τ : Hp}
theorem C_cred (hC : FxC τ) (sC : StC τ v H) (hw : Wf v H) {u : Nat} (hu : u < v) : den (d, 8, 0, [.ref 1, .int (nI u), .float 0, .float 0], [], τ) = some (some (.int (nI (mk (Ed H v u) 8))), τ) := by
  have hv8 := hw.2.1
  have go : ∀ (n i : Nat), i + n = 28 * v → den (d, 8, 4, [.ref 1, .int (nI u), .int (nI (ca H u i)), .int (nI i)], [], τ) = some (some (.int (nI (mk (Ed H v u) 8))), τ) := by
    intro n
    induction n with
    | zero =>
      intro i hi
      obtain rfl : i = 28 * v := by omega
      rw [a8_4]
      simp (disch := first | omega | (repeat (first | assumption | exact Ag_r | refine Ag_I ?_ rfl | refine Ag_F ?_ rfl | refine Ag_J ?_ rfl))) only [A8, FC hC, sC.1, (r_clr _ (ca_lt (H := H) (u := u) (i := 28 * v) (by omega)) u (by omega)).1, ca_E hv8 hu, CO, HA, HB, HC, Nat.not_lt_zero, Nat.add_assoc, c_nlt, c_nle, c_neq, c_P, c_cl, c_m1, c_m1', nI_add, pk_mul, reduceIte, Nat.reduceEqDiff, Nat.reduceAdd, Nat.reduceMul, Nat.reduceLeDiff, eq_self, ↓pk_rem, pk_div, c_of, d_le, d_nle, d_lt, d_nlt, d_eq, d_ne]
    | succ n ih =>
      intro i hi
      have h8 : H i < 8 := Wf_8 hw (by omega)
      rw [a8_4]
      by_cases e : H i = u
      · simp (disch := first | omega | (repeat (first | assumption | exact Ag_r | refine Ag_I ?_ rfl | refine Ag_F ?_ rfl | refine Ag_J ?_ rfl))) only [A8, FC hC, sC.1, sC.2 i (by omega), e, (r_or _ (ca_lt (H := H) (u := u) (i := i) (by omega)) (i / 28) (by omega)).1, CO, HA, HB, HC, Nat.not_lt_zero, Nat.add_assoc, c_nlt, c_nle, c_neq, c_P, c_cl, c_m1, c_m1', nI_add, pk_mul, reduceIte, Nat.reduceEqDiff, Nat.reduceAdd, Nat.reduceMul, Nat.reduceLeDiff, eq_self, ↓pk_rem, pk_div, c_of, d_le, d_nle, d_lt, d_nlt, d_eq, d_ne]
        have := ih (i + 1) (by omega)
        simp only [ca, if_pos e] at this
        exact this
      · simp (disch := first | omega | (repeat (first | assumption | exact Ag_r | refine Ag_I ?_ rfl | refine Ag_F ?_ rfl | refine Ag_J ?_ rfl))) only [A8, FC hC, sC.1, sC.2 i (by omega), e, CO, HA, HB, HC, Nat.not_lt_zero, Nat.add_assoc, c_nlt, c_nle, c_neq, c_P, c_cl, c_m1, c_m1', nI_add, pk_mul, reduceIte, Nat.reduceEqDiff, Nat.reduceAdd, Nat.reduceMul, Nat.reduceLeDiff, eq_self, ↓pk_rem, pk_div, c_of, d_le, d_nle, d_lt, d_nlt, d_eq, d_ne]
        have := ih (i + 1) (by omega)
        simp only [ca, if_neg e] at this
        exact this
  have := go (28 * v) 0 (by omega)
  simp only [ca] at this
  simp (disch := first | omega | (repeat (first | assumption | exact Ag_r | refine Ag_I ?_ rfl | refine Ag_F ?_ rfl | refine Ag_J ?_ rfl))) only [A8, CO, HA, HB, HC, Nat.not_lt_zero, Nat.add_assoc, c_nlt, c_nle, c_neq, c_P, c_cl, c_m1, c_m1', nI_add, pk_mul, reduceIte, Nat.reduceEqDiff, Nat.reduceAdd, Nat.reduceMul, Nat.reduceLeDiff, eq_self, ↓pk_rem, pk_div, c_of, d_le, d_nle, d_lt, d_nlt, d_eq, d_ne]
  exact this
end
