/-! law: the model's clauses -/
def Qlw (σ τ : Hp) : Prop := Ag (fun k => Nat.ble 63 k && Nat.ble k 67) (fun k j => Nat.beq k 57 && ((Nat.ble 9 j && Nat.ble j 15) || (Nat.beq j 17 || (Nat.beq j 20 || (Nat.beq j 23 || Nat.beq j 24))))) σ τ
theorem Qq_l {σ τ : Hp} (g : Qq σ τ) : Qlw σ τ := Ag_w g (fun k e => by
  simp only [Bool.and_eq_true, Pq_] at e ⊢
  have := Nat.le_of_ble_eq_true e.1
  exact ⟨Nat.ble_eq_true_of_le (by omega), e.2⟩) (fun k j e => by
  simp only [Bool.and_eq_true, Fq_, Bool.or_eq_true] at e ⊢
  obtain ⟨e1, ⟨e2, e3⟩ | e2⟩ := e
  · have := Nat.le_of_ble_eq_true e3
    exact ⟨e1, Or.inl ⟨e2, Nat.ble_eq_true_of_le (by omega)⟩⟩
  · exact ⟨e1, Or.inr e2⟩)
theorem Qcl_l {σ τ : Hp} (g : Qcl σ τ) : Qlw σ τ := Ag_w g (fun k e => by
  have e := Nat.eq_of_beq_eq_true e
  subst e
  rfl) (fun k j e => by
  simp only [Bool.and_eq_true] at e
  have e1 := Nat.eq_of_beq_eq_true e.1
  have e2 := Nat.eq_of_beq_eq_true e.2
  subst e1 e2
  rfl)
theorem Qlw_t {a b c : Hp} (g : Qlw a b) (h : Qlw b c) : Qlw a c := Ag_t g h
theorem Qlw_M {a b : Hp} (g : Qlw a b) (h : FxM a) : FxM b := FxM_a g (by decide) h
def Blw (τ : Hp) (q : Nat) (o : Option Rs) : Prop := Ev o (fun v υ => v = none ∧ Qlw τ υ ∧ FxM υ ∧ hF υ 57 14 = .int (nI 1) ∧ hF υ 57 13 = .int (nI q))
def ClM (τ : Hp) (m : Nat) (w : Lw5) : Prop := ∃ b0 b1 b2 : Nat → Nat, ∀ i, i < w.1 → (w.2.1 i < 5 ∧ b2 i ≤ m ∧ b1 i ≤ b2 i ∧ b0 i ≤ b1 i) ∧ (hI τ 63 (8 * i) = nI (w.2.1 i) ∧ hI τ 63 (8 * i + 3) = nI (b0 i) ∧ hI τ 63 (8 * i + 4) = nI (b1 i) ∧ hI τ 63 (8 * i + 5) = nI (b1 i) ∧ hI τ 63 (8 * i + 6) = nI (b2 i)) ∧ ((w.2.1 i < 2 ∧ SgM (gM τ) (b0 i) (b1 i) 60 (w.2.2.2.1 i)) ∨ (2 ≤ w.2.1 i ∧ w.2.2.2.1 i = ph1)) ∧ ((w.2.2.1 i = true ∧ b1 i < b2 i ∧ SgM (gM τ) (b1 i) (b2 i) 60 (w.2.2.2.2 i)) ∨ (w.2.2.1 i = false ∧ b1 i = b2 i ∧ w.2.2.2.2 i = ph1))
theorem Kp_m {a b : Hp} {m z : Nat} (h : Kp a b m z) {x y k : Nat} {φ : Ph} (l : y ≤ m) (s : SgM (gM a) x y k φ) : SgM (gM b) x y k φ := SgM_e s (fun i h1 h2 => by
  rw [gM_0, gM_0, gM_1, gM_1]
  exact ⟨(h.1 i (by omega)).1.symm, (h.1 i (by omega)).2.symm⟩)
theorem ClM_a {τ υ : Hp} {m m1 m2 H : Nat} {w : Lw5} {t : Bool} {φ ψ : Ph} {f : Nat → Int32} (cl : ClM τ m w) (k : Kp τ υ m 0) (hf : ∀ i, i < 8 * w.1 → f i = hI τ 63 i) (e : hI υ 63 = upd (upd (upd (upd (upd f (8 * w.1) (nI H)) (8 * w.1 + 3) (nI m)) (8 * w.1 + 4) (nI m1)) (8 * w.1 + 5) (nI m1)) (8 * w.1 + 6) (nI m2)) (h5 : H < 5) (l1 : m ≤ m1) (l2 : m1 ≤ m2) (s1 : (H < 2 ∧ SgM (gM υ) m m1 60 φ) ∨ (2 ≤ H ∧ φ = ph1)) (s2 : (t = true ∧ m1 < m2 ∧ SgM (gM υ) m1 m2 60 ψ) ∨ (t = false ∧ m1 = m2 ∧ ψ = ph1)) : ClM υ m2 (adC w (H, t, φ, ψ)) := by
  obtain ⟨b0, b1, b2, h⟩ := cl
  refine ⟨fun i => if i = w.1 then m else b0 i, fun i => if i = w.1 then m1 else b1 i, fun i => if i = w.1 then m2 else b2 i, fun i hi => ?_⟩
  simp only [adC] at hi ⊢
  rw [e]
  by_cases q : i = w.1
  · subst q
    simp only [eq_self, reduceIte]
    refine ⟨⟨h5, Nat.le_refl _, l2, l1⟩, ⟨?_, ?_, ?_, ?_, ?_⟩, s1, s2⟩
    · simp only [ua]; rw [if_neg (by omega), if_neg (by omega), if_neg (by omega), if_neg (by omega), if_pos trivial]
    · simp only [ua]; rw [if_neg (by omega), if_neg (by omega), if_neg (by omega), if_pos trivial]
    · simp only [ua]; rw [if_neg (by omega), if_neg (by omega), if_pos trivial]
    · simp only [ua]; rw [if_neg (by omega), if_pos trivial]
    · simp only [ua, reduceIte]
  · simp only [if_neg q]
    obtain ⟨⟨y1, y2, y3, y4⟩, ⟨z1, z2, z3, z4, z5⟩, x1, x2⟩ := h i (by omega)
    have rd : ∀ j, j < 8 → upd (upd (upd (upd (upd f (8 * w.1) (nI H)) (8 * w.1 + 3) (nI m)) (8 * w.1 + 4) (nI m1)) (8 * w.1 + 5) (nI m1)) (8 * w.1 + 6) (nI m2) (8 * i + j) = hI τ 63 (8 * i + j) := fun j hj => by
      simp only [ua]
      rw [if_neg (by omega), if_neg (by omega), if_neg (by omega), if_neg (by omega), if_neg (by omega)]
      exact hf _ (by omega)
    refine ⟨⟨y1, by omega, y3, y4⟩, ⟨(rd 0 (by omega)).trans z1, (rd 3 (by omega)).trans z2, (rd 4 (by omega)).trans z3, (rd 5 (by omega)).trans z4, (rd 6 (by omega)).trans z5⟩, ?_, ?_⟩
    · rcases x1 with ⟨u1, u2⟩ | u
      · exact Or.inl ⟨u1, Kp_m k (by omega) u2⟩
      · exact Or.inr u
    · rcases x2 with ⟨u1, u2, u3⟩ | u
      · exact Or.inl ⟨u1, u2, Kp_m k (by omega) u3⟩
      · exact Or.inr u
section
variable {d p m n c H : Nat} {X : Tx} {τ : Hp} {l3 : Value}
theorem M_sA (hM : FxM τ) (hm : hF τ 57 17 = .int (nI m)) (hc : hF τ 57 15 = .int (nI c)) (h12 : c < 12) : den (d + 9, 171, 96, [.ref 57, .int (nI H), .int (nI (8 * c)), l3], [], τ) = den (d + 9, 171, 125, [.ref 57, .int (nI H), .int (nI (8 * c)), l3], [], sF (sI τ 63 (upd (upd (hI τ 63) (8 * c) (nI H)) (8 * c + 3) (nI m))) 57 15 (.int (nI (c + 1)))) := by
  simp (disch := omega) only [a171_96, a171_97, a171_100, a171_101, a171_102, a171_103, a171_104, a171_105, a171_108, a171_109, a171_110, a171_113, a171_114, a171_117, a171_118, a171_119, a171_120, a171_121, a171_124, FM hM, hm, hc, CO, HA, HB, HC, Nat.not_lt_zero, Nat.add_assoc, c_nlt, c_nle, c_neq, c_P, c_cl, c_m1, c_m1', nI_add, pk_mul, reduceIte, Nat.reduceEqDiff, Nat.reduceAdd, Nat.reduceMul, Nat.reduceLeDiff, eq_self]
theorem M_sC (hM : FxM τ) {x : Int32} (hm : hF τ 57 17 = .int x) (h12 : c < 12) : den (d + 9, 171, 135, [.ref 57, .int (nI H), .int (nI (8 * c)), l3], [], τ) = den (d + 9, 171, 159, [.ref 57, .int (nI H), .int (nI (8 * c)), l3], [], sI τ 63 (upd (upd (hI τ 63) (8 * c + 4) x) (8 * c + 5) x)) := by
  simp (disch := omega) only [a171_135, a171_136, a171_139, a171_140, a171_141, a171_142, a171_143, a171_146, a171_147, a171_148, a171_151, a171_152, a171_153, a171_154, a171_155, a171_158, FM hM, hm, CO, HA, HB, HC, Nat.not_lt_zero, Nat.add_assoc, c_nlt, c_nle, c_neq, c_P, c_cl, c_m1, c_m1', nI_add, pk_mul, reduceIte, Nat.reduceEqDiff, Nat.reduceAdd, Nat.reduceMul, Nat.reduceLeDiff, eq_self]
theorem M_sE (hM : FxM τ) {x : Int32} (hm : hF τ 57 17 = .int x) (h12 : c < 12) : den (d + 9, 171, 185, [.ref 57, .int (nI H), .int (nI (8 * c)), l3], [], τ) = some (none, sI τ 63 (upd (hI τ 63) (8 * c + 6) x)) := by
  simp (disch := omega) only [a171_185, a171_186, a171_189, a171_190, a171_192, a171_193, a171_194, a171_197, a171_198, FM hM, hm, CO, HA, HB, HC, Nat.not_lt_zero, Nat.add_assoc, c_nlt, c_nle, c_neq, c_P, c_cl, c_m1, c_m1', nI_add, pk_mul, reduceIte, Nat.reduceEqDiff, Nat.reduceAdd, Nat.reduceMul, Nat.reduceLeDiff, eq_self]
theorem M_tE {q : Nat} (hM : FxM τ) {x : Int32} (hm : hF τ 57 17 = .int x) (h12 : c < 12) (hb : hF τ 57 14 = .int (nI 1)) (hf : hF τ 57 13 = .int (nI q)) : Blw τ q (den (d + 9, 171, 185, [.ref 57, .int (nI H), .int (nI (8 * c)), l3], [], τ)) := by
  have g : Qlw τ (sI τ 63 (upd (hI τ 63) (8 * c + 6) x)) := Ag_I Ag_r rfl
  exact Ev_e (M_sE hM hm h12) (Ev_s ⟨rfl, g, Qlw_M g hM, hb, hf⟩)
theorem M_tC {q : Nat} (hM : FxM τ) {x : Int32} (hm : hF τ 57 17 = .int x) (h12 : c < 12) (hb : hF τ 57 14 = .int (nI 1)) (hf : hF τ 57 13 = .int (nI q)) : Blw τ q (den (d + 9, 171, 135, [.ref 57, .int (nI H), .int (nI (8 * c)), l3], [], τ)) := by
  have g : Qlw τ (sI τ 63 (upd (upd (hI τ 63) (8 * c + 4) x) (8 * c + 5) x)) := Ag_I Ag_r rfl
  have hM2 := Qlw_M g hM
  have e : den (d + 9, 171, 159, [.ref 57, .int (nI H), .int (nI (8 * c)), l3], [], sI τ 63 (upd (upd (hI τ 63) (8 * c + 4) x) (8 * c + 5) x)) = den (d + 9, 171, 185, [.ref 57, .int (nI H), .int (nI (8 * c)), l3], [], sI τ 63 (upd (upd (hI τ 63) (8 * c + 4) x) (8 * c + 5) x)) := by
    simp (disch := omega) only [a171_159, a171_160, a171_163, FM hM, hb, CO, HA, HB, HC, Nat.not_lt_zero, Nat.add_assoc, c_nlt, c_nle, c_neq, c_P, c_cl, c_m1, c_m1', nI_add, pk_mul, reduceIte, Nat.reduceEqDiff, Nat.reduceAdd, Nat.reduceMul, Nat.reduceLeDiff, eq_self]
  have := M_tE (d := d) (H := H) (l3 := l3) hM2 hm h12 hb hf
  exact Ev_e ((M_sC hM hm h12).trans e) (Ev_m this (fun v υ r => ⟨r.1, Qlw_t g r.2.1, r.2.2⟩))
theorem Blw_t {υ : Hp} {q : Nat} {x y : Option Rs} (e : x = y) (g : Qlw τ υ) (h : Blw υ q y) : Blw τ q x := Ev_e e (Ev_m h (fun v ω r => ⟨r.1, Qlw_t g r.2.1, r.2.2⟩))
/-- what is paid -/
theorem M_sB (h : MC τ X p m n) (hm : m ≤ p) (h12 : c < 12) (hH : H < 5) : (∀ q, pC1 X H p n = .inl q → Blw τ q (den (d + 9, 171, 125, [.ref 57, .int (nI H), .int (nI (8 * c)), l3], [], τ))) ∧ ∀ p' n' φ, pC1 X H p n = .inr (p', n', φ) → ∃ υ m1, den (d + 9, 171, 125, [.ref 57, .int (nI H), .int (nI (8 * c)), l3], [], τ) = den (d + 9, 171, 135, [.ref 57, .int (nI H), .int (nI (8 * c)), l3], [], υ) ∧ Qq τ υ ∧ MC υ X p' m1 n' ∧ m1 ≤ p' ∧ m ≤ m1 ∧ Kp τ υ m 0 ∧ ((H < 2 ∧ SgM (gM υ) m m1 60 φ) ∨ (2 ≤ H ∧ φ = ph1)) := by
  unfold pC1
  by_cases w : H < 2
  · rw [if_pos w]
    obtain ⟨i1, i2⟩ := M_ex0 (d := d) h hm
    have go : den (d + 9, 171, 125, [.ref 57, .int (nI H), .int (nI (8 * c)), l3], [], τ) = (den (d + 8, 170, 0, [.ref 57, .int (nI 0), .float 0], [], τ)).bind (fun q => den (d + 9, 171, 135, [.ref 57, .int (nI H), .int (nI (8 * c)), l3], q.1.toList ++ [], q.2)) := by
      have w' : ¬ 2 ≤ H := by omega
      simp (disch := omega) only [a171_125, a171_126, a171_127, a171_130, a171_131, a171_132, FM h.1.1, w', CO, HA, HB, HC, Nat.not_lt_zero, Nat.add_assoc, c_nlt, c_nle, c_neq, c_P, c_cl, c_m1, c_m1', nI_add, pk_mul, reduceIte, Nat.reduceEqDiff, Nat.reduceAdd, Nat.reduceMul, Nat.reduceLeDiff, eq_self]
    refine ⟨fun q e => ?_, fun p' n' φ e => ?_⟩
    · obtain ⟨v, υ, e1, rfl, g, r1, r2, r3, x, r4⟩ := i1 q e
      refine Blw_t ?_ (Qq_l g) (M_tC (d := d) (H := H) (l3 := l3) r1 r4 h12 r2 r3)
      rw [go, e1]; rfl
    · obtain ⟨v, υ, e1, rfl, g, m1, r1, r2, r3, r4⟩ := i2 p' n' φ e
      refine ⟨υ, m1, ?_, g, r1, r2, r3.1, r4, Or.inl ⟨w, r3.2.2⟩⟩
      rw [go, e1]; rfl
  · rw [if_neg w]
    refine ⟨fun q e => (nomatch e), fun p' n' φ e => ?_⟩
    cases e
    refine ⟨τ, m, ?_, Ag_r, h, hm, Nat.le_refl _, Kp_r, Or.inr ⟨by omega, rfl⟩⟩
    have w' : 2 ≤ H := by omega
    simp (disch := omega) only [a171_125, a171_126, a171_127, w', CO, HA, HB, HC, Nat.not_lt_zero, Nat.add_assoc, c_nlt, c_nle, c_neq, c_P, c_cl, c_m1, c_m1', nI_add, pk_mul, reduceIte, Nat.reduceEqDiff, Nat.reduceAdd, Nat.reduceMul, Nat.reduceLeDiff, eq_self]
/-- what is asked -/
theorem M_sD (h : MC τ X p m n) (hm : m ≤ p) (h12 : c < 12) : (∀ q, wd_ X p = 294 → pT X 8 (tE X p) n = .inl q → Blw τ q (den (d + 9, 171, 159, [.ref 57, .int (nI H), .int (nI (8 * c)), l3], [], τ))) ∧ (∀ p' n' ψ, wd_ X p = 294 → pT X 8 (tE X p) n = .inr (p', n', ψ) → ∃ υ m1, den (d + 9, 171, 159, [.ref 57, .int (nI H), .int (nI (8 * c)), l3], [], τ) = den (d + 9, 171, 185, [.ref 57, .int (nI H), .int (nI (8 * c)), l3], [], υ) ∧ Qq τ υ ∧ MC υ X p' m1 n' ∧ m1 ≤ p' ∧ m < m1 ∧ Kp τ υ m 0 ∧ SgM (gM υ) m m1 60 ψ) ∧ (¬ wd_ X p = 294 → den (d + 9, 171, 159, [.ref 57, .int (nI H), .int (nI (8 * c)), l3], [], τ) = den (d + 9, 171, 185, [.ref 57, .int (nI H), .int (nI (8 * c)), l3], [], τ)) := by
  have w := fun (d : Nat) => MCW (d := d) h (show 0 < 294 by omega) (show 294 < 2 ^ 45 by omega)
  obtain ⟨_, υ, e1, rfl, g1, r1⟩ := MC_n (d := d + 7) h
  have b := tk_b h.2.2.1.1
  have k1 : Kp τ υ m 0 := Qnx_k g1
  have go : wd_ X p = 294 → den (d + 9, 171, 159, [.ref 57, .int (nI H), .int (nI (8 * c)), l3], [], τ) = (den (d + 8, 170, 0, [.ref 57, .int (nI 1), .float 0], [], υ)).bind (fun q => den (d + 9, 171, 185, [.ref 57, .int (nI H), .int (nI (8 * c)), l3], q.1.toList ++ [], q.2)) := fun z => by
    simp only [if_pos z] at w
    simp (disch := omega) only [a171_159, a171_160, a171_163, a171_166, a171_167, a171_170, a171_173, a171_176, a171_177, a171_180, a171_181, a171_182, FM h.1.1, FM r1.1.1, h.2.2.2.1.1, w, e1, CO, HA, HB, HC, Nat.not_lt_zero, Nat.add_assoc, c_nlt, c_nle, c_neq, c_P, c_cl, c_m1, c_m1', nI_add, pk_mul, reduceIte, Nat.reduceEqDiff, Nat.reduceAdd, Nat.reduceMul, Nat.reduceLeDiff, eq_self]
  refine ⟨fun q z e => ?_, fun p' n' ψ z e => ?_, fun z => ?_⟩
  · obtain ⟨i1, -⟩ := M_ex1 (d := d) r1 (by omega)
    obtain ⟨_, ω, f1, rfl, g, r2, r3, r4, x, r5⟩ := i1 q e
    refine Blw_t ?_ (Qlw_t (Qq_l (Qnx_q g1)) (Qq_l g)) (M_tE (d := d) (H := H) (l3 := l3) r2 r5 h12 r3 r4)
    rw [go z, f1]; rfl
  · obtain ⟨-, i2⟩ := M_ex1 (d := d) r1 (by omega)
    obtain ⟨_, ω, f1, rfl, g, m1, r2, r3, r4, r5⟩ := i2 p' n' ψ e
    refine ⟨ω, m1, ?_, Qq_t (Qnx_q g1) g, r2, r3, r4.2.1, Kp_t k1 r5 (Nat.le_refl _) (Nat.le_refl _), r4.2.2⟩
    rw [go z, f1]; rfl
  · simp only [if_neg z] at w
    simp (disch := omega) only [a171_159, a171_160, a171_163, a171_166, a171_167, a171_170, a171_173, FM h.1.1, h.2.2.2.1.1, w, CO, HA, HB, HC, Nat.not_lt_zero, Nat.add_assoc, c_nlt, c_nle, c_neq, c_P, c_cl, c_m1, c_m1', nI_add, pk_mul, reduceIte, Nat.reduceEqDiff, Nat.reduceAdd, Nat.reduceMul, Nat.reduceLeDiff, eq_self]
theorem M_clause {w : Lw5} (h : MC τ X p m n) (hm : m ≤ p) (hc : hF τ 57 15 = .int (nI w.1)) (h12 : w.1 < 12) (cl : ClM τ m w) : (∀ q, pC X p n = .inl q → Blw τ q (den (d + 9, 171, 0, [.ref 57, .float 0, .float 0, .float 0], [], τ))) ∧ ∀ p' n' k, pC X p n = .inr (p', n', k) → Ev (den (d + 9, 171, 0, [.ref 57, .float 0, .float 0, .float 0], [], τ)) (fun v υ => v = none ∧ Qlw τ υ ∧ ∃ m', MC υ X p' m' n' ∧ m' ≤ p' ∧ hF υ 57 15 = .int (nI (w.1 + 1)) ∧ ClM υ m' (adC w k)) := by
  rw [M_hdA (d := d + 8) h]
  unfold pC
  by_cases h5 : hI_ X p = 5
  · rw [if_pos h5, if_pos h5]
    refine ⟨fun q e => ?_, fun p' n' k e => (nomatch e)⟩
    cases e
    have y2 : Qq τ (sF (sF τ 57 14 (.int (nI 1))) 57 13 (.int (nI (tS X p)))) := Ag_F (Ag_F Ag_r rfl) rfl
    have y1 : hF (sF (sF τ 57 14 (.int (nI 1))) 57 13 (.int (nI (tS X p)))) 57 14 = .int (nI 1) := by simp only [HA, Nat.reduceEqDiff, and_false, and_self, reduceIte]
    refine Ev_e (o' := some (none, sF (sF τ 57 14 (.int (nI 1))) 57 13 (.int (nI (tS X p))))) ?_ (Ev_s ⟨rfl, Qq_l y2, Qq_M y2 h.1.1, y1, by simp only [HA, and_self, reduceIte]⟩)
    simp (disch := omega) only [a171_34, a171_35, a171_36, a171_37, a171_53, a171_54, a171_57, a171_58, a171_61, a171_64, FM h.1.1, FM (Qq_M y2 h.1.1), M_mu0 h, y1, CO, HA, HB, HC, Nat.not_lt_zero, Nat.add_assoc, c_nlt, c_nle, c_neq, c_P, c_cl, c_m1, c_m1', nI_add, pk_mul, reduceIte, Nat.reduceEqDiff, Nat.reduceAdd, Nat.reduceMul, Nat.reduceLeDiff, eq_self]
  · rw [if_neg h5, if_neg h5]
    obtain ⟨hw, hH⟩ := hI_p h5
    generalize hHH : hI_ X p = H at hH ⊢
    have te := tE_w h.2.2.1.1 hw rfl
    obtain ⟨_, υ, e1, rfl, g1, r1⟩ := M_mu1 (d := d + 6) h
    have hc1 : hF υ 57 15 = .int (nI w.1) := by rw [Ag_f g1 57 15 rfl]; exact hc
    obtain ⟨ω, l3, e2, g2, k2⟩ := M_clr (d := d + 9) (l1 := .int (nI H)) r1.1.1 h12 8 0 υ rfl Ag_r (fun i _ => rfl)
    have m1 : (nI H = (-1 : Int32)) = False := c_m1' (by omega)
    have n12 : ¬ 12 ≤ w.1 := by omega
    have go : den (d + 9, 171, 34, [.ref 57, .int (nI H), .int (nI 5), .float 0], [], τ) = den (d + 9, 171, 96, [.ref 57, .int (nI H), .int (nI (8 * w.1)), l3], [], ω) := by
      rw [← e2]
      simp (disch := omega) only [a171_34, a171_35, a171_36, a171_37, a171_40, a171_41, a171_44, a171_46, a171_49, a171_50, a171_54, a171_57, a171_58, a171_61, a171_65, a171_67, a171_68, a171_71, a171_72, a171_73, a171_74, FM h.1.1, FM r1.1.1, m1, hc, hc1, n12, e1, r1.2.2.2.1.1, CO, HA, HB, HC, Nat.not_lt_zero, Nat.add_assoc, c_nlt, c_nle, c_neq, c_P, c_cl, c_m1, c_m1', nI_add, pk_mul, reduceIte, Nat.reduceEqDiff, Nat.reduceAdd, Nat.reduceMul, Nat.reduceLeDiff, eq_self]
    obtain ⟨r2, kk2⟩ := MC_cl r1 (Qcc_l g2)
    have hcω : hF ω 57 15 = .int (nI w.1) := by rw [Ag_f g2 57 15 rfl]; exact hc1
    have eA := M_sA (d := d) (H := H) (l3 := l3) r2.1.1 r2.1.2.1 hcω h12
    have gA : Qcl ω (sF (sI ω 63 (upd (upd (hI ω 63) (8 * w.1) (nI H)) (8 * w.1 + 3) (nI m))) 57 15 (.int (nI (w.1 + 1)))) := Ag_F (Ag_I Ag_r rfl) rfl
    have fA : hF (sF (sI ω 63 (upd (upd (hI ω 63) (8 * w.1) (nI H)) (8 * w.1 + 3) (nI m))) 57 15 (.int (nI (w.1 + 1)))) 57 15 = .int (nI (w.1 + 1)) := by simp only [HA, and_self, reduceIte]
    have iA : hI (sF (sI ω 63 (upd (upd (hI ω 63) (8 * w.1) (nI H)) (8 * w.1 + 3) (nI m))) 57 15 (.int (nI (w.1 + 1)))) 63 = upd (upd (hI ω 63) (8 * w.1) (nI H)) (8 * w.1 + 3) (nI m) := by simp only [HA, reduceIte]
    generalize sF (sI ω 63 (upd (upd (hI ω 63) (8 * w.1) (nI H)) (8 * w.1 + 3) (nI m))) 57 15 (.int (nI (w.1 + 1))) = ω1 at eA gA fA iA
    obtain ⟨r3, kk3⟩ := MC_cl r2 gA
    have goA := go.trans eA
    have gT : Qlw τ ω1 := Qlw_t (Qq_l (Qnx_q g1)) (Qlw_t (Qcl_l (Qcc_l g2)) (Qcl_l gA))
    have kT : Kp τ ω1 m 0 := Kp_t (Kp_t (Qnx_k g1) (kk2 m 0) (Nat.le_refl _) (Nat.le_refl _)) (kk3 m 0) (Nat.le_refl _) (Nat.le_refl _)
    have k63 : ∀ i, i < 8 * w.1 → hI ω 63 i = hI τ 63 i := fun i hi => by rw [k2 i hi, Ag_i g1 63 rfl]
    obtain ⟨i1, i2⟩ := M_sB (d := d) (l3 := l3) r3 (show m ≤ tE X p by omega) h12 hH
    cases e : pC1 X H (tE X p) n with
    | inl q0 =>
      refine ⟨fun q e' => ?_, fun p' n' k e' => (nomatch e')⟩
      cases e'
      exact Blw_t goA gT (i1 q0 e)
    | inr x =>
      obtain ⟨p1, n1, φ⟩ := x
      dsimp only
      obtain ⟨υ2, m1, b1, gB, r4, lm, lmm, kB, sB⟩ := i2 p1 n1 φ e
      have eC := M_sC (d := d) (c := w.1) (H := H) (l3 := l3) r4.1.1 r4.1.2.1 h12
      have gC : Qcl υ2 (sI υ2 63 (upd (upd (hI υ2 63) (8 * w.1 + 4) (nI m1)) (8 * w.1 + 5) (nI m1))) := Ag_I Ag_r rfl
      have fC : hF (sI υ2 63 (upd (upd (hI υ2 63) (8 * w.1 + 4) (nI m1)) (8 * w.1 + 5) (nI m1))) 57 15 = hF υ2 57 15 := rfl
      have iC : hI (sI υ2 63 (upd (upd (hI υ2 63) (8 * w.1 + 4) (nI m1)) (8 * w.1 + 5) (nI m1))) 63 = upd (upd (hI υ2 63) (8 * w.1 + 4) (nI m1)) (8 * w.1 + 5) (nI m1) := by simp only [HA, reduceIte]
      generalize sI υ2 63 (upd (upd (hI υ2 63) (8 * w.1 + 4) (nI m1)) (8 * w.1 + 5) (nI m1)) = υ3 at eC gC fC iC
      obtain ⟨r5, kk5⟩ := MC_cl r4 gC
      have goC := goA.trans (b1.trans eC)
      have gT3 : Qlw τ υ3 := Qlw_t gT (Qlw_t (Qq_l gB) (Qcl_l gC))
      have kT3 : Kp τ υ3 m 0 := Kp_t (Kp_t kT kB (Nat.le_refl _) (Nat.le_refl _)) (kk5 m 0) (Nat.le_refl _) (Nat.le_refl _)
      have f3 : hF υ3 57 15 = .int (nI (w.1 + 1)) := by rw [fC, Ag_f gB 57 15 rfl]; exact fA
      have i3 : hI υ3 63 = upd (upd (upd (upd (hI ω 63) (8 * w.1) (nI H)) (8 * w.1 + 3) (nI m)) (8 * w.1 + 4) (nI m1)) (8 * w.1 + 5) (nI m1) := by rw [iC, Ag_i gB 63 rfl, iA]
      have s3 : (H < 2 ∧ SgM (gM υ3) m m1 60 φ) ∨ (2 ≤ H ∧ φ = ph1) := by
        rcases sB with ⟨u1, u2⟩ | u
        · exact Or.inl ⟨u1, Kp_m (kk5 m1 0) (Nat.le_refl _) u2⟩
        · exact Or.inr u
      obtain ⟨j1, j2, j3⟩ := M_sD (d := d) (c := w.1) (H := H) (l3 := l3) r5 lm h12
      by_cases q2 : wd_ X p1 = 294
      · rw [if_pos q2]
        cases e3 : pT X 8 (tE X p1) n1 with
        | inl q0 =>
          refine ⟨fun q e' => ?_, fun p' n' k e' => (nomatch e')⟩
          cases e'
          exact Blw_t goC gT3 (j1 q0 q2 e3)
        | inr x =>
          obtain ⟨p2, n2, ψ⟩ := x
          refine ⟨fun q e' => (nomatch e'), fun p' n' k e' => ?_⟩
          cases e'
          obtain ⟨υ5, m2, b5, gD, r6, lm2, lmm2, kD, sD⟩ := j2 p2 n2 ψ q2 e3
          have gE : Qcl υ5 (sI υ5 63 (upd (hI υ5 63) (8 * w.1 + 6) (nI m2))) := Ag_I Ag_r rfl
          obtain ⟨r7, kk7⟩ := MC_cl r6 gE
          refine Ev_e (goC.trans (b5.trans (M_sE r6.1.1 r6.1.2.1 h12))) (Ev_s ⟨rfl, Qlw_t gT3 (Qlw_t (Qq_l gD) (Qcl_l gE)), m2, r7, lm2, ?_, ?_⟩)
          · show hF υ5 57 15 = _
            rw [Ag_f gD 57 15 rfl]; exact f3
          · refine ClM_a cl (Kp_t (Kp_t kT3 kD lmm (Nat.le_refl _)) (kk7 m 0) (Nat.le_refl _) (Nat.le_refl _)) k63 ?_ hH lmm (Nat.le_of_lt lmm2) ?_ (Or.inl ⟨rfl, lmm2, Kp_m (kk7 m2 0) (Nat.le_refl _) sD⟩)
            · simp only [HA, reduceIte]; rw [Ag_i gD 63 rfl, i3]
            · rcases s3 with ⟨u1, u2⟩ | u
              · exact Or.inl ⟨u1, Kp_m (kk7 m1 0) (Nat.le_refl _) (Kp_m kD (Nat.le_refl _) u2)⟩
              · exact Or.inr u
      · rw [if_neg q2]
        refine ⟨fun q e' => (nomatch e'), fun p' n' k e' => ?_⟩
        cases e'
        have gE : Qcl υ3 (sI υ3 63 (upd (hI υ3 63) (8 * w.1 + 6) (nI m1))) := Ag_I Ag_r rfl
        obtain ⟨r7, kk7⟩ := MC_cl r5 gE
        refine Ev_e (goC.trans ((j3 q2).trans (M_sE r5.1.1 r5.1.2.1 h12))) (Ev_s ⟨rfl, Qlw_t gT3 (Qcl_l gE), m1, r7, lm, f3, ?_⟩)
        refine ClM_a cl (Kp_t kT3 (kk7 m 0) (Nat.le_refl _) (Nat.le_refl _)) k63 ?_ hH lmm (Nat.le_refl _) ?_ (Or.inr ⟨rfl, rfl, rfl⟩)
        · simp only [HA, reduceIte]; rw [i3]
        · rcases s3 with ⟨u1, u2⟩ | u
          · exact Or.inl ⟨u1, Kp_m (kk7 m1 0) (Nat.le_refl _) u2⟩
          · exact Or.inr u
/-- a thirteenth clause -/
theorem M_cl12 (h : MC τ X p m n) (hc : hF τ 57 15 = .int (nI 12)) : Blw τ (tS X p) (den (d + 9, 171, 0, [.ref 57, .float 0, .float 0, .float 0], [], τ)) := by
  rw [M_hdA (d := d + 8) h]
  have y2 : Qq τ (sF (sF τ 57 14 (.int (nI 1))) 57 13 (.int (nI (tS X p)))) := Ag_F (Ag_F Ag_r rfl) rfl
  have y1 : hF (sF (sF τ 57 14 (.int (nI 1))) 57 13 (.int (nI (tS X p)))) 57 14 = .int (nI 1) := by simp only [HA, Nat.reduceEqDiff, and_false, and_self, reduceIte]
  refine Ev_e (o' := some (none, sF (sF τ 57 14 (.int (nI 1))) 57 13 (.int (nI (tS X p))))) ?_ (Ev_s ⟨rfl, Qq_l y2, Qq_M y2 h.1.1, y1, by simp only [HA, and_self, reduceIte]⟩)
  by_cases h5 : hI_ X p = 5
  · rw [if_pos h5]
    simp (disch := omega) only [a171_34, a171_35, a171_36, a171_37, a171_53, a171_54, a171_57, a171_58, a171_61, a171_64, FM h.1.1, FM (Qq_M y2 h.1.1), M_mu0 h, y1, CO, HA, HB, HC, Nat.not_lt_zero, Nat.add_assoc, c_nlt, c_nle, c_neq, c_P, c_cl, c_m1, c_m1', nI_add, pk_mul, reduceIte, Nat.reduceEqDiff, Nat.reduceAdd, Nat.reduceMul, Nat.reduceLeDiff, eq_self]
  · rw [if_neg h5]
    have hH := (hI_p h5).2
    have m1 : (nI (hI_ X p) = (-1 : Int32)) = False := c_m1' (by omega)
    simp (disch := omega) only [a171_34, a171_35, a171_36, a171_37, a171_40, a171_41, a171_44, a171_46, a171_53, a171_54, a171_57, a171_58, a171_61, a171_64, FM h.1.1, FM (Qq_M y2 h.1.1), M_mu0 h, m1, hc, y1, CO, HA, HB, HC, Nat.not_lt_zero, Nat.add_assoc, c_nlt, c_nle, c_neq, c_P, c_cl, c_m1, c_m1', nI_add, pk_mul, reduceIte, Nat.reduceEqDiff, Nat.reduceAdd, Nat.reduceMul, Nat.reduceLeDiff, eq_self]
end
