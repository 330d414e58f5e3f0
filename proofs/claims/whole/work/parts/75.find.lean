/-! ring: find -/
def Qfr (σ τ : Hp) : Prop := Ag (fun k => Nat.beq k 29 || Nat.beq k 30) (fun k j => Nat.beq k 28 && Nat.beq j 1) σ τ
theorem Qfr_c {σ τ : Hp} (g : Qfr σ τ) : Qc σ τ := Ag_w g (fun k e => by
  simp only [Bool.or_eq_true] at e
  rcases e with e | e <;> (have := Nat.eq_of_beq_eq_true e; subst this; rfl)) (fun k j e => by
  simp only [Bool.and_eq_true] at e
  have h1 := Nat.eq_of_beq_eq_true e.1
  have h2 := Nat.eq_of_beq_eq_true e.2
  subst h1; subst h2; rfl)
theorem Qxe_f {σ τ : Hp} (g : Qxe σ τ) : Qfr σ τ := Ag_w g (fun k e => by
  show (Nat.beq k 29 || Nat.beq k 30) = true
  rw [show Nat.beq k 29 = true from e]; rfl) (fun k j e => nomatch e)
theorem Qfr_C {a b : Hp} (g : Qfr a b) (h : FxC a) : FxC b := FxC_a g (by decide) h
theorem Cy_0 {E : Nat → Nat → Bool} {y : Nat → Nat} {n : Nat} (h : Cy E y n) : 1 ≤ bs y n := by
  refine Nat.pos_of_ne_zero (fun q => ?_)
  have := pop_bs h.2.2.1
  rw [q, show pop 8 0 = 0 by decide] at this
  have := h.1
  omega
theorem Cy_v {E : Nat → Nat → Bool} {v : Nat} (hv : v ≤ 8) (hE : ∀ a b, E a b = true → a < v ∧ b < v) {y : Nat → Nat} {n : Nat} (h : Cy E y n) : bs y n < 2 ^ v ∧ n ≤ v := by
  have l : ∀ i, i < n → y i < v := fun i hi => by
    by_cases q : i + 1 < n
    · exact (hE _ _ (h.2.2.1.2.2.2 i q)).1
    · have := (hE _ _ h.2.2.2).1
      rw [show n - 1 = i by omega] at this
      exact this
  have b := bs_lt l
  refine ⟨b, ?_⟩
  have p1 := pop_8 v (by omega) _ b
  have p2 := pop_bs h.2.2.1
  have p3 : pop v (bs y n) ≤ v := by unfold pop; exact cB_le _ _
  rw [p1.1, p2] at p3
  exact p3
section
variable {d v : Nat} {E : Nat → Nat → Bool} {H : Nat → Nat} {σ τ : Hp}
theorem C_closes {few set : Nat} (hv : v ≤ 8) (hE : ∀ a b, E a b = true → a < v ∧ b < v) (h2 : 2 ≤ few) (h8 : few ≤ 8) (h0 : 0 < set) (hs : set < 2 ^ v) (hp : pop 8 set = few) (hC : FxC τ) (hsz : hF τ 28 1 = .int (nI few)) (hcr : Crd τ E v) : Ev (den (d + 8, 9, 0, [.ref 28, .int (nI set)], [], τ)) (fun a υ => Qxe τ υ ∧ ((a = some (.int (nI 0)) ∧ ∀ y, Cy E y few → ¬ bs y few = set) ∨ (a = some (.int (nI 1)) ∧ ∃ y, Cy E y few ∧ bs y few = set ∧ (∀ i, i < few → hI υ 29 i = nI (y i)) ∧ ∀ y', Cy E y' few → bs y' few = set → dg y few ≤ dg y' few))) := by
  have hs8 : set < 256 := Nat.lt_of_lt_of_le hs (show 2 ^ v ≤ 2 ^ 8 from Nat.pow_le_pow_right (by omega) hv)
  obtain ⟨p, hp8, e1, e2, e3, e4, e5⟩ := r_low set hs8 h0
  have pv : p < v := by
    refine Classical.byContradiction (fun q => ?_)
    rw [Nat.testBit_lt_two_pow (Nat.lt_of_lt_of_le hs (Nat.pow_le_pow_right (by omega) (by omega)))] at e3
    exact nomatch e3
  obtain ⟨c1, c2, c3⟩ := r_clr set hs8 p hp8
  have jb := fun (d : Nat) (σ : Hp) => J_bc (d := d) (σ := σ) e4
  have ga : Qxe τ (sI τ 29 (upd (hI τ 29) 0 (nI p))) := Ag_I Ag_r rfl
  have lo : ∀ c, c < 8 → set.testBit c = true → p ≤ c := fun c _ h => by
    refine Classical.byContradiction (fun q => ?_)
    rw [e5 c (by omega)] at h
    exact nomatch h
  have y0 : ∀ y, Cy E y few → bs y few = set → y 0 = p := by
    intro y hy e
    have a1 : set.testBit (y 0) = true := by rw [← e]; exact (bs_t _).mpr ⟨0, by omega, rfl⟩
    have a2 := lo _ (hy.2.2.1.1 0 (by omega)) a1
    rw [← e] at e3
    obtain ⟨i, i1, i2⟩ := (bs_t _).mp e3
    by_cases q : i = 0
    · rw [← q]; exact i2
    · have := hy.2.2.1.2.1 i i1 (by omega)
      omega
  have y00 : ∀ y, Cy E y few → bs y few = set → ∀ i, i < 1 → y i = p := fun y hy e i hi => by
    obtain rfl : i = 0 := by omega
    exact y0 y hy e
  simp (disch := first | omega | (repeat (first | assumption | exact Ag_r | refine Ag_I ?_ rfl | refine Ag_F ?_ rfl | refine Ag_J ?_ rfl))) only [a9_0, a9_1, a9_4, a9_5, a9_6, a9_7, a9_8, a9_9, a9_10, a9_11, a9_14, a9_16, a9_17, a9_18, a9_19, a9_20, a9_21, a9_22, a9_25, a9_26, a9_27, a9_28, a9_29, a9_30, a9_31, a9_32, FC hC, e1, jb, e2, Nat.mod_eq_of_lt hp8, ua, c1, CO, HA, HB, HC, Nat.not_lt_zero, Nat.add_assoc, c_nlt, c_nle, c_neq, c_P, c_cl, c_m1, c_m1', nI_add, pk_mul, reduceIte, Nat.reduceEqDiff, Nat.reduceAdd, Nat.reduceMul, Nat.reduceLeDiff, eq_self, ↓pk_rem, pk_div, c_of, d_le, d_nle, d_lt, d_nlt, d_eq, d_ne]
  have hm0 : ∀ j, j < 1 → hI (sI τ 29 (upd (hI τ 29) 0 (nI p))) 29 j = nI p := fun j hj => by
    obtain rfl : j = 0 := by omega
    simp only [HA, reduceIte, ua]
  refine Ev_b (C_ext (d := d) hv hE h2 h8 hs8 7 1 (clr set p) (fun _ => p) _ (by omega) (by omega) c2 (by have := c3 e3; omega) (Qxe_C ga hC) (by rw [Ag_f ga 28 1 rfl]; exact hsz) (fun u hu => by rw [Ag_i ga 30 rfl]; exact hcr u hu) (fun j hj => hm0 j hj) (fun j hj => pv) ⟨fun j hj => hp8, fun j hj h0 => absurd hj (by omega), fun j l h1 h2 => absurd h1 (by omega), fun j hj => absurd hj (by omega)⟩ (fun c hc => ?_) (fun j hj => e3) lo) ?_
  · rw [r_clt set hs8 p hp8 c hc, Bool.and_eq_true, Bool.not_eq_true', decide_eq_false_iff_not]
    exact ⟨fun z => ⟨z.1, fun _ _ q => z.2 q.symm⟩, fun z => ⟨z.1, fun q => z.2 0 (by omega) q.symm⟩⟩
  · rintro _ w ⟨gw, ⟨rfl, w1, w2⟩ | ⟨rfl, y, w1, w2, w3⟩⟩
    · simp (disch := first | omega | (repeat (first | assumption | exact Ag_r | refine Ag_I ?_ rfl | refine Ag_F ?_ rfl | refine Ag_J ?_ rfl))) only [a9_35, CO, HA, HB, HC, Nat.not_lt_zero, Nat.add_assoc, c_nlt, c_nle, c_neq, c_P, c_cl, c_m1, c_m1', nI_add, pk_mul, reduceIte, Nat.reduceEqDiff, Nat.reduceAdd, Nat.reduceMul, Nat.reduceLeDiff, eq_self, ↓pk_rem, pk_div, c_of, d_le, d_nle, d_lt, d_nlt, d_eq, d_ne]
      exact Ev_s ⟨Qxe_t ga gw, Or.inl ⟨rfl, fun y hy e => w2 y ⟨hy, e, fun i hi => y00 y hy e i hi⟩⟩⟩
    · simp (disch := first | omega | (repeat (first | assumption | exact Ag_r | refine Ag_I ?_ rfl | refine Ag_F ?_ rfl | refine Ag_J ?_ rfl))) only [a9_35, CO, HA, HB, HC, Nat.not_lt_zero, Nat.add_assoc, c_nlt, c_nle, c_neq, c_P, c_cl, c_m1, c_m1', nI_add, pk_mul, reduceIte, Nat.reduceEqDiff, Nat.reduceAdd, Nat.reduceMul, Nat.reduceLeDiff, eq_self, ↓pk_rem, pk_div, c_of, d_le, d_nle, d_lt, d_nlt, d_eq, d_ne]
      exact Ev_s ⟨Qxe_t ga gw, Or.inr ⟨rfl, y, w1.1, w1.2.1, w2, fun y' hy e => w3 y' ⟨hy, e, fun i hi => y00 y' hy e i hi⟩⟩⟩
end
