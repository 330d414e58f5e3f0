/-! law: the model's expressions -/
/-- the model between two expressions: nothing is said of the pile -/
def MC (τ : Hp) (X : Tx) (p m n : Nat) : Prop := (FxM τ ∧ hF τ 57 17 = .int (nI m) ∧ m ≤ 400) ∧ (TxM τ X ∧ WsM τ) ∧ (p ≤ X.1 ∧ TkM τ X p) ∧ (hF τ 57 14 = .int (nI 0) ∧ hF τ 57 13 = .int (-1)) ∧ hF τ 57 20 = .int (nI n) ∧ n ≤ 50
section
variable {d t p m n z o : Nat} {X : Tx} {τ : Hp}
theorem MC_of (h : MS τ X p m n z o) : MC τ X p m n := by
  obtain ⟨⟨m1, m2, m3, m4, m5⟩, h2, h3, h4, ⟨h6, h7⟩, h8, h9⟩ := h
  exact ⟨⟨m1, m2, by omega⟩, h2, h3, h4, h6, h8⟩
theorem MC_0 (h : MC τ X p m n) : MS (sF (sF τ 57 23 (.int (nI 0))) 57 24 (.int (nI 0))) X p m n 0 0 ∧ Qq τ (sF (sF τ 57 23 (.int (nI 0))) 57 24 (.int (nI 0))) := by
  obtain ⟨⟨m1, m2, m3⟩, ⟨h2, w1, w2⟩, ⟨h3, t1, t2, t3, t4⟩, ⟨h4, h5⟩, h6, h8⟩ := h
  have g : Qq τ (sF (sF τ 57 23 (.int (nI 0))) 57 24 (.int (nI 0))) := Ag_F (Ag_F Ag_r rfl) rfl
  refine ⟨⟨⟨Qq_M g m1, ?_, ?_, by omega, fun i hi => absurd hi (by omega)⟩, ⟨Qq_X g h2, ⟨w1, w2⟩⟩, ⟨h3, ?_, ?_, ?_, ?_⟩, ⟨?_, ?_⟩, ⟨?_, ?_⟩, h8, by omega⟩, g⟩
  · simp only [HA, Nat.reduceEqDiff, and_false, reduceIte]; exact m2
  · simp only [HA, Nat.reduceEqDiff, and_false, and_self, reduceIte]
  · simp only [HA, Nat.reduceEqDiff, and_false, reduceIte]; exact t1
  · simp only [HA, Nat.reduceEqDiff, and_false, reduceIte]; exact t2
  · simp only [HA, Nat.reduceEqDiff, and_false, reduceIte]; exact t3
  · simp only [HA, Nat.reduceEqDiff, and_false, reduceIte]; exact t4
  · simp only [HA, Nat.reduceEqDiff, and_false, reduceIte]; exact h4
  · simp only [HA, Nat.reduceEqDiff, and_false, reduceIte]; exact h5
  · simp only [HA, Nat.reduceEqDiff, and_false, reduceIte]; exact h6
  · simp only [HA, and_self, reduceIte]
theorem MC_nx {υ : Hp} {p' : Nat} (h : MC τ X p m n) (g : Qnx τ υ) (l : p' ≤ X.1) (t : TkM υ X p') : MC υ X p' m n := by
  obtain ⟨⟨m1, m2, m3⟩, ⟨h2, w1, w2⟩, -, ⟨h4, h5⟩, h6, h8⟩ := h
  refine ⟨⟨Qq_M (Qnx_q g) m1, by rw [Ag_f g 57 17 rfl]; exact m2, m3⟩, ⟨Qq_X (Qnx_q g) h2, ⟨fun k hk => ?_, fun k hk => ?_⟩⟩, ⟨l, t⟩, ⟨?_, ?_⟩, ?_, h8⟩
  · rw [Ag_j g 68 rfl]; exact w1 k hk
  · rw [Ag_j g 69 rfl]; exact w2 k hk
  · rw [Ag_f g 57 14 rfl]; exact h4
  · rw [Ag_f g 57 13 rfl]; exact h5
  · rw [Ag_f g 57 20 rfl]; exact h6
theorem MCW (h : MC τ X p m n) {c : Nat} (hc : 0 < c) (h2 : c < 2 ^ 45) : den (d, 153, 0, [.ref 57, .long (lN c), .float 0], [], τ) = some (some (.int (if wd_ X p = c then nI 1 else nI 0)), τ) := M_isWord h.1.1 h.2.1.1 h.2.2.1.1 h.2.2.1.2 hc h2
theorem MCG (h : MC τ X p m n) {c : Nat} (hc : 0 < c) (h2 : c < 256) : den (d, 154, 0, [.ref 57, .int (nI c)], [], τ) = some (some (.int (if sg_ X p = c then nI 1 else nI 0)), τ) := M_isSign h.1.1 h.2.1.1 h.2.2.1.1 h.2.2.1.2 hc h2
theorem MC_n (h : MC τ X p m n) : Ev (den (d + 1, 152, 0, [.ref 57], [], τ)) (fun a υ => a = none ∧ Qnx τ υ ∧ MC υ X (tE X p) m n) := by
  have b := tk_b h.2.2.1.1
  refine Ev_m (M_next (d := d) h.1.1 h.2.1.1 (by omega : tE X p ≤ X.1) h.2.2.1.2.2.1) (fun a υ r => ?_)
  exact ⟨r.1, r.2.1, MC_nx h r.2.1 (by omega) r.2.2⟩
theorem M_mu1 (h : MC τ X p m n) : Ev (den (d + 2, 155, 0, [.ref 57, .int (nI 1)], [], τ)) (fun a υ => a = none ∧ Qnx τ υ ∧ MC υ X (tE X p) m n) := by
  simp (disch := first | omega | (repeat (first | assumption | exact Ag_r | refine Ag_I ?_ rfl | refine Ag_F ?_ rfl | refine Ag_J ?_ rfl))) only [A155, FM h.1.1, h.2.2.2.1.1, CO, HA, HB, HC, Nat.not_lt_zero, Nat.add_assoc, c_nlt, c_nle, c_neq, c_P, c_cl, c_m1, c_m1', nI_add, pk_mul, reduceIte, Nat.reduceEqDiff, Nat.reduceAdd, Nat.reduceMul, Nat.reduceLeDiff, eq_self, ↓pk_rem, pk_div, c_of, d_le, d_nle, d_lt, d_nlt, d_eq, d_ne]
  refine Ev_b (MC_n (d := d) h) ?_
  rintro _ υ ⟨rfl, g, r⟩
  refine Ev_e (o' := some (none, υ)) ?_ (Ev_s ⟨rfl, g, r⟩)
  simp (disch := first | omega | (repeat (first | assumption | exact Ag_r | refine Ag_I ?_ rfl | refine Ag_F ?_ rfl | refine Ag_J ?_ rfl))) only [A155, CO, HA, HB, HC, Nat.not_lt_zero, Nat.add_assoc, c_nlt, c_nle, c_neq, c_P, c_cl, c_m1, c_m1', nI_add, pk_mul, reduceIte, Nat.reduceEqDiff, Nat.reduceAdd, Nat.reduceMul, Nat.reduceLeDiff, eq_self, ↓pk_rem, pk_div, c_of, d_le, d_nle, d_lt, d_nlt, d_eq, d_ne]
theorem M_mu0 (h : MC τ X p m n) : den (d + 2, 155, 0, [.ref 57, .int (nI 0)], [], τ) = some (none, sF (sF τ 57 14 (.int (nI 1))) 57 13 (.int (nI (tS X p)))) := by
  simp (disch := first | omega | (repeat (first | assumption | exact Ag_r | refine Ag_I ?_ rfl | refine Ag_F ?_ rfl | refine Ag_J ?_ rfl))) only [A155, FM h.1.1, h.2.2.2.1.1, h.2.2.1.2.1, CO, HA, HB, HC, Nat.not_lt_zero, Nat.add_assoc, c_nlt, c_nle, c_neq, c_P, c_cl, c_m1, c_m1', nI_add, pk_mul, reduceIte, Nat.reduceEqDiff, Nat.reduceAdd, Nat.reduceMul, Nat.reduceLeDiff, eq_self, ↓pk_rem, pk_div, c_of, d_le, d_nle, d_lt, d_nlt, d_eq, d_ne]
theorem M_fin {r K a L : Nat} {φ : Ph} (h : MS τ X p m n (0 + r) o) (hz : m + (0 + r) ≤ p) (q : Pd τ L r K 0 a m φ) (hL : 1 ≤ L) (hK : K ≤ 60) : Ev (den (hdE d t 4 τ)) (fun v υ => v = none ∧ Qq τ υ ∧ ∃ m', MC υ X p m' n ∧ m' ≤ p ∧ SgS (gM υ) a m' 60 φ ∧ Kp τ υ a 0) := by
  unfold hdE
  rw [a170_20]
  simp (disch := first | omega | (repeat (first | assumption | exact Ag_r | refine Ag_I ?_ rfl | refine Ag_F ?_ rfl | refine Ag_J ?_ rfl))) only [A170, FM h.1.1, h.2.2.2.1.1, CO, HA, HB, HC, Nat.not_lt_zero, Nat.add_assoc, c_nlt, c_nle, c_neq, c_P, c_cl, c_m1, c_m1', nI_add, pk_mul, reduceIte, Nat.reduceEqDiff, Nat.reduceAdd, Nat.reduceMul, Nat.reduceLeDiff, eq_self, ↓pk_rem, pk_div, c_of, d_le, d_nle, d_lt, d_nlt, d_eq, d_ne]
  refine Ev_b (M_settle (d := d + 6) hL (by omega) h q (fun y hy => by omega)) ?_
  rintro _ υ ⟨rfl, g, k, m', r1, s1, l1⟩
  refine Ev_e (o' := some (none, υ)) ?_ (Ev_s ⟨rfl, Qpe_q g, m', MC_of r1, by omega, SgS_k s1 hK, k 0⟩)
  simp (disch := first | omega | (repeat (first | assumption | exact Ag_r | refine Ag_I ?_ rfl | refine Ag_F ?_ rfl | refine Ag_J ?_ rfl))) only [A170, CO, HA, HB, HC, Nat.not_lt_zero, Nat.add_assoc, c_nlt, c_nle, c_neq, c_P, c_cl, c_m1, c_m1', nI_add, pk_mul, reduceIte, Nat.reduceEqDiff, Nat.reduceAdd, Nat.reduceMul, Nat.reduceLeDiff, eq_self, ↓pk_rem, pk_div, c_of, d_le, d_nle, d_lt, d_nlt, d_eq, d_ne]
theorem M_ov3 {r K a L : Nat} {φ : Ph} (h : MS τ X p m n (0 + r) o) (hs : nOps X p) (q : Pd τ L r K 0 a m φ) : den (hdE d 0 3 τ) = den (hdE d 0 4 τ) := by
  have im := fun (d : Nat) => M_inner (d := d) h.1
  have iv : inn (hI τ 66) (0 + r) = -1 := (inn_p q).trans rfl
  simp only [iv] at im
  obtain ⟨υ, e1, rfl⟩ := M_h3 (d := d) (t := 0) (T1 := 4) (R := fun υ => υ = τ) h (by
    refine Ev_e (o' := some (some (.int (nI 4)), τ)) ?_ (Ev_s ⟨rfl, rfl⟩)
    rw [M_bs83 h hs]
    simp (disch := first | omega | (repeat (first | assumption | exact Ag_r | refine Ag_I ?_ rfl | refine Ag_F ?_ rfl | refine Ag_J ?_ rfl))) only [A168, FM h.1.1, im, CO, HA, HB, HC, Nat.not_lt_zero, Nat.add_assoc, c_nlt, c_nle, c_neq, c_P, c_cl, c_m1, c_m1', nI_add, pk_mul, reduceIte, Nat.reduceEqDiff, Nat.reduceAdd, Nat.reduceMul, Nat.reduceLeDiff, eq_self, ↓pk_rem, pk_div, c_of, d_le, d_nle, d_lt, d_nlt, d_eq, d_ne]
    )
  exact e1
theorem M_ex0 (h : MC τ X p m n) (hm : m ≤ p) : (∀ q, pS X 8 p n = .inl q → Bd τ q (den (d + 8, 170, 0, [.ref 57, .int (nI 0), .float 0], [], τ))) ∧ ∀ p' n' φ, pS X 8 p n = .inr (p', n', φ) → Ev (den (d + 8, 170, 0, [.ref 57, .int (nI 0), .float 0], [], τ)) (fun v υ => v = none ∧ Qq τ υ ∧ ∃ m', MC υ X p' m' n' ∧ m' ≤ p' ∧ SgS (gM υ) m m' 60 φ ∧ Kp τ υ m 0) := by
  obtain ⟨r0, g0⟩ := MC_0 h
  have go : den (d + 8, 170, 0, [.ref 57, .int (nI 0), .float 0], [], τ) = den (hdE d 0 1 (sF (sF τ 57 23 (.int (nI 0))) 57 24 (.int (nI 0)))) := by
    unfold hdE
    simp (disch := first | omega | (repeat (first | assumption | exact Ag_r | refine Ag_I ?_ rfl | refine Ag_F ?_ rfl | refine Ag_J ?_ rfl))) only [A170, FM h.1.1, CO, HA, HB, HC, Nat.not_lt_zero, Nat.add_assoc, c_nlt, c_nle, c_neq, c_P, c_cl, c_m1, c_m1', nI_add, pk_mul, reduceIte, Nat.reduceEqDiff, Nat.reduceAdd, Nat.reduceMul, Nat.reduceLeDiff, eq_self, ↓pk_rem, pk_div, c_of, d_le, d_nle, d_lt, d_nlt, d_eq, d_ne]
  obtain ⟨i1, i2⟩ := M_S (X := X) 8 0 rfl d 0 1 _ p m n 0 r0 (by omega) (Or.inl rfl) (fun y hy => by omega)
  refine ⟨fun q e => Bd_e go g0 (i1 q e), fun p' n' φ e => ?_⟩
  obtain ⟨υ, f1, f2, m1, r, f3, f4, f5, f6, f7⟩ := i2 p' n' φ e
  refine Ev_e (go.trans (f1.trans (M_ov3 f3 f7 f5))) (Ev_m (M_fin f3 f4 f5 (by omega) (by omega)) (fun v ω r => ?_))
  obtain ⟨r1, r2, m2, r3, r4, r5, r6⟩ := r
  exact ⟨r1, Qq_t g0 (Qq_t f2 r2), m2, r3, r4, r5, Kp_t (⟨f6.1, f6.2⟩ : Kp τ _ m 0) r6 (Nat.le_refl _) (Nat.le_refl _)⟩
theorem M_ex1 (h : MC τ X p m n) (hm : m ≤ p) : (∀ q, pT X 8 p n = .inl q → Bd τ q (den (d + 8, 170, 0, [.ref 57, .int (nI 1), .float 0], [], τ))) ∧ ∀ p' n' φ, pT X 8 p n = .inr (p', n', φ) → Ev (den (d + 8, 170, 0, [.ref 57, .int (nI 1), .float 0], [], τ)) (fun v υ => v = none ∧ Qq τ υ ∧ ∃ m', MC υ X p' m' n' ∧ m' ≤ p' ∧ SgS (gM υ) m m' 60 φ ∧ Kp τ υ m 0) := by
  obtain ⟨r0, g0⟩ := MC_0 h
  have go : den (d + 8, 170, 0, [.ref 57, .int (nI 1), .float 0], [], τ) = den (hdE d 1 0 (sF (sF τ 57 23 (.int (nI 0))) 57 24 (.int (nI 0)))) := by
    unfold hdE
    simp (disch := first | omega | (repeat (first | assumption | exact Ag_r | refine Ag_I ?_ rfl | refine Ag_F ?_ rfl | refine Ag_J ?_ rfl))) only [A170, FM h.1.1, CO, HA, HB, HC, Nat.not_lt_zero, Nat.add_assoc, c_nlt, c_nle, c_neq, c_P, c_cl, c_m1, c_m1', nI_add, pk_mul, reduceIte, Nat.reduceEqDiff, Nat.reduceAdd, Nat.reduceMul, Nat.reduceLeDiff, eq_self, ↓pk_rem, pk_div, c_of, d_le, d_nle, d_lt, d_nlt, d_eq, d_ne]
  obtain ⟨i1, i2⟩ := M_T (X := X) 8 0 rfl d _ p m n 0 r0 (by omega) (fun y hy => by omega) (by show ¬ (-1 : Int32) = nI 31; decide)
  refine ⟨fun q e => Bd_e go g0 (i1 q e), fun p' n' φ e => ?_⟩
  obtain ⟨υ, f1, f2, m1, r, f3, f4, f5, f6, f7⟩ := i2 p' n' φ e
  refine Ev_e (go.trans (f1.trans (M_over f3 f7.1 f7.2 ((inn_p f5).trans rfl)))) (Ev_m (M_fin f3 f4 f5 (by omega) (by omega)) (fun v ω r => ?_))
  obtain ⟨r1, r2, m2, r3, r4, r5, r6⟩ := r
  exact ⟨r1, Qq_t g0 (Qq_t f2 r2), m2, r3, r4, r5, Kp_t (⟨f6.1, f6.2⟩ : Kp τ _ m 0) r6 (Nat.le_refl _) (Nat.le_refl _)⟩
/-! its clauses -/
theorem M_hd1 (h : MC τ X p m n) {k k' : Nat} (hk : k < 5) (hk' : k' = k + 1) (a : Int32) : den (d + 1, 171, 4, [.ref 57, .int a, .int (nI k), .float 0], [], τ) = den (d + 1, 171, 4, [.ref 57, .int (if wd_ X p = wHd k then nI k else a), .int (nI k'), .float 0], [], τ) := by
  subst hk'
  have e := h.2.1.2.2 k hk
  have b := wHd_b hk
  have w := fun (d : Nat) => MCW (d := d) h b.1 b.2
  rw [a171_4]
  by_cases q : wd_ X p = wHd k
  · simp only [if_pos q] at w ⊢
    simp (disch := first | omega | (repeat (first | assumption | exact Ag_r | refine Ag_I ?_ rfl | refine Ag_F ?_ rfl | refine Ag_J ?_ rfl))) only [A171, FM h.1.1, e, w, CO, HA, HB, HC, Nat.not_lt_zero, Nat.add_assoc, c_nlt, c_nle, c_neq, c_P, c_cl, c_m1, c_m1', nI_add, pk_mul, reduceIte, Nat.reduceEqDiff, Nat.reduceAdd, Nat.reduceMul, Nat.reduceLeDiff, eq_self, ↓pk_rem, pk_div, c_of, d_le, d_nle, d_lt, d_nlt, d_eq, d_ne]
  · simp only [if_neg q] at w ⊢
    simp (disch := first | omega | (repeat (first | assumption | exact Ag_r | refine Ag_I ?_ rfl | refine Ag_F ?_ rfl | refine Ag_J ?_ rfl))) only [A171, FM h.1.1, e, w, CO, HA, HB, HC, Nat.not_lt_zero, Nat.add_assoc, c_nlt, c_nle, c_neq, c_P, c_cl, c_m1, c_m1', nI_add, pk_mul, reduceIte, Nat.reduceEqDiff, Nat.reduceAdd, Nat.reduceMul, Nat.reduceLeDiff, eq_self, ↓pk_rem, pk_div, c_of, d_le, d_nle, d_lt, d_nlt, d_eq, d_ne]
theorem M_hdA (h : MC τ X p m n) : den (d + 1, 171, 0, [.ref 57, .float 0, .float 0, .float 0], [], τ) = den (d + 1, 171, 34, [.ref 57, .int (if hI_ X p = 5 then -1 else nI (hI_ X p)), .int (nI 5), .float 0], [], τ) := by
  have e5 : ∀ a : Int32, den (d + 1, 171, 4, [.ref 57, .int a, .int (nI 5), .float 0], [], τ) = den (d + 1, 171, 34, [.ref 57, .int a, .int (nI 5), .float 0], [], τ) := fun a => by
    rw [a171_4]
    simp (disch := omega) only [a171_5, a171_6, CO, HA, HB, HC, Nat.not_lt_zero, Nat.add_assoc, c_nlt, c_nle, c_neq, c_P, c_cl, c_m1, c_m1', nI_add, pk_mul, reduceIte, Nat.reduceEqDiff, Nat.reduceAdd, Nat.reduceMul, Nat.reduceLeDiff, eq_self]
  have go : den (d + 1, 171, 0, [.ref 57, .float 0, .float 0, .float 0], [], τ) = den (d + 1, 171, 4, [.ref 57, .int (-1), .int (nI 0), .float 0], [], τ) := by
    simp (disch := omega) only [a171_0, a171_1, a171_2, a171_3, CO, HA, HB, HC, Nat.not_lt_zero, Nat.add_assoc, c_nlt, c_nle, c_neq, c_P, c_cl, c_m1, c_m1', nI_add, pk_mul, reduceIte, Nat.reduceEqDiff, Nat.reduceAdd, Nat.reduceMul, Nat.reduceLeDiff, eq_self]
  rw [go, M_hd1 (k := 0) (k' := 1) h (by omega) rfl, M_hd1 (k := 1) (k' := 2) h (by omega) rfl, M_hd1 (k := 2) (k' := 3) h (by omega) rfl, M_hd1 (k := 3) (k' := 4) h (by omega) rfl, M_hd1 (k := 4) (k' := 5) h (by omega) rfl, e5]
  unfold hI_
  simp only [wHd, List.getD_cons_succ, List.getD_cons_zero, Nat.reduceAdd]
  by_cases z0 : wd_ X p = 526131
  · simp [z0]
  · by_cases z1 : wd_ X p = 3657363
    · simp [z1]
    · by_cases z2 : wd_ X p = 67155
      · simp [z2]
      · by_cases z3 : wd_ X p = 24165011
        · simp [z3]
        · by_cases z4 : wd_ X p = 20099475
          · simp [z4]
          · simp [z0, z1, z2, z3, z4]
/-- the rows of clauses, and their count -/
def Qcl (σ τ : Hp) : Prop := Ag (fun k => Nat.beq k 63) (fun k j => Nat.beq k 57 && Nat.beq j 15) σ τ
/-- the rows of clauses alone -/
def Qcc (σ τ : Hp) : Prop := Ag (fun k => Nat.beq k 63) (fun _ _ => false) σ τ
theorem Qcc_l {σ τ : Hp} (g : Qcc σ τ) : Qcl σ τ := Ag_w g (fun k e => e) (fun k j e => nomatch e)
theorem MC_cl {υ : Hp} (h : MC τ X p m n) (g : Qcl τ υ) : MC υ X p m n ∧ ∀ M Z, Kp τ υ M Z := by
  obtain ⟨⟨m1, m2, m3⟩, ⟨⟨x1, x2, x3⟩, w1, w2⟩, ⟨h3, t1, t2, t3, t4⟩, ⟨h4, h5⟩, h6, h8⟩ := h
  refine ⟨⟨⟨FxM_a g (by decide) m1, by rw [Ag_f g 57 17 rfl]; exact m2, m3⟩, ⟨⟨by rw [Ag_f g 57 8 rfl]; exact x1, fun i hi => by rw [Ag_i g 62 rfl]; exact x2 i hi, x3⟩, ⟨fun k hk => ?_, fun k hk => ?_⟩⟩, ⟨h3, ?_, ?_, ?_, ?_⟩, ⟨?_, ?_⟩, ?_, h8⟩, fun M Z => ⟨fun i _ => by rw [Ag_i g 64 rfl, Ag_i g 65 rfl]; exact ⟨rfl, rfl⟩, fun i _ => by rw [Ag_i g 66 rfl, Ag_i g 67 rfl]; exact ⟨rfl, rfl⟩⟩⟩
  · rw [Ag_j g 68 rfl]; exact w1 k hk
  · rw [Ag_j g 69 rfl]; exact w2 k hk
  · rw [Ag_f g 57 9 rfl]; exact t1
  · rw [Ag_f g 57 10 rfl]; exact t2
  · rw [Ag_f g 57 11 rfl]; exact t3
  · rw [Ag_f g 57 12 rfl]; exact t4
  · rw [Ag_f g 57 14 rfl]; exact h4
  · rw [Ag_f g 57 13 rfl]; exact h5
  · rw [Ag_f g 57 20 rfl]; exact h6
theorem M_clr {c : Nat} (hM : FxM τ) (hc : c < 12) {l1 : Value} : ∀ (k j : Nat) (υ : Hp), j + k = 8 → Qcc τ υ → (∀ i, i < 8 * c → hI υ 63 i = hI τ 63 i) → ∃ ω l3, den (d, 171, 75, [.ref 57, l1, .int (nI (8 * c)), .int (nI j)], [], υ) = den (d, 171, 96, [.ref 57, l1, .int (nI (8 * c)), l3], [], ω) ∧ Qcc τ ω ∧ ∀ i, i < 8 * c → hI ω 63 i = hI τ 63 i := by
  intro k
  induction k with
  | zero =>
    intro j υ hj g hk
    obtain rfl : j = 8 := by omega
    refine ⟨υ, .int (nI 8), ?_, g, hk⟩
    rw [a171_75]
    simp (disch := omega) only [a171_76, a171_78, CO, HA, HB, HC, Nat.not_lt_zero, Nat.add_assoc, c_nlt, c_nle, c_neq, c_P, c_cl, c_m1, c_m1', nI_add, pk_mul, reduceIte, Nat.reduceEqDiff, Nat.reduceAdd, Nat.reduceMul, Nat.reduceLeDiff, eq_self]
  | succ k ih =>
    intro j υ hj g hk
    have hM' : FxM υ := FxM_a g (by decide) hM
    obtain ⟨ω, l3, e1, e2, e3⟩ := ih (j + 1) (sI υ 63 (upd (hI υ 63) (8 * c + j) (nI 0))) (by omega) (Ag_t g (Ag_I Ag_r rfl)) (fun i hi => by simp only [HA, reduceIte, ua]; rw [if_neg (by omega)]; exact hk i hi)
    refine ⟨ω, l3, ?_, e2, e3⟩
    rw [← e1, a171_75]
    have j8 : ¬ 8 ≤ j := by omega
    simp (disch := omega) only [a171_76, a171_78, a171_81, a171_82, a171_85, a171_86, a171_87, a171_88, a171_89, a171_90, a171_93, FM hM', j8, CO, HA, HB, HC, Nat.not_lt_zero, Nat.add_assoc, c_nlt, c_nle, c_neq, c_P, c_cl, c_m1, c_m1', nI_add, pk_mul, reduceIte, Nat.reduceEqDiff, Nat.reduceAdd, Nat.reduceMul, Nat.reduceLeDiff, eq_self]
end
