/-! law: the model's parts, terms, sums against the reading -/
/-- a part read from p -/
def PtM (X : Tx) (P : Nat → Nat → Pz) (K o : Nat) : Prop := ∀ (d t T : Nat) (τ : Hp) (p m n z : Nat), MS τ X p m n z o → m + z ≤ p → Tc X T p → (∀ q, P p n = .inl q → Bd τ q (den (hdE d t T τ))) ∧ ∀ p' n' φ, P p n = .inr (p', n', φ) → ∃ υ, den (hdE d t T τ) = den (hdE d t 3 υ) ∧ Qq τ υ ∧ ∃ m', MS υ X p' m' n' z o ∧ m' + z ≤ p' ∧ SgS (gM υ) m m' K φ ∧ Kp τ υ m z
/-- a term or a sum -/
def SmM (X : Tx) (P : Nat → Nat → Pz) (L K o : Nat) (E : Nat → Prop) : Prop := ∀ (d t T : Nat) (τ : Hp) (p m n z : Nat), MS τ X p m n z o → m + z ≤ p → Tc X T p → Bs τ L z → (∀ q, P p n = .inl q → Bd τ q (den (hdE d t T τ))) ∧ ∀ p' n' φ, P p n = .inr (p', n', φ) → ∃ υ, den (hdE d t T τ) = den (hdE d t 3 υ) ∧ Qq τ υ ∧ ∃ m' r, MS υ X p' m' n' (z + r) o ∧ m' + (z + r) ≤ p' ∧ Pd υ L r K z m m' φ ∧ Kp τ υ m z ∧ E p'
def LvM (X : Tx) (S : Option (Nat → Nat → Pz)) (K o : Nat) : Prop := (S = none ∧ o = 8) ∨ ∃ f, S = some f ∧ o < 8 ∧ SmM X f 5 K (o + 1) (nOps X) ∧ Fw X f
section
variable {X : Tx} {S : Option (Nat → Nat → Pz)} {K o : Nat}
theorem M_part (hK : 1 ≤ K) (hS : LvM X S K o) : PtM X (pPt X S) K o := by
  intro d t T τ p m n z h hz hT
  unfold pPt
  by_cases s91 : sg_ X p = 91
  · rw [if_pos s91]
    have te := tE_s h.2.2.1.1 (show 0 < 91 by omega) s91
    have w := fun (d : Nat) => MG (d := d) h (show 0 < 91 by omega) (by omega)
    simp only [s91, reduceIte] at w
    rcases hS with ⟨rfl, rfl⟩ | ⟨f, rfl, o8, hf, fw⟩
    · refine ⟨fun q e => ?_, fun p' n' φ e => (nomatch e)⟩
      simp only [pBr] at e
      cases e
      obtain ⟨υ, e1, g1, r1⟩ := M_h1 (d := d) (t := t) (T1 := 1) (R := fun υ => Qq τ υ ∧ MB υ (tS X p)) h hT (fun d => by
        simp (disch := first | omega | (repeat (first | assumption | exact Ag_r | refine Ag_I ?_ rfl | refine Ag_F ?_ rfl | refine Ag_J ?_ rfl))) only [A166, FM h.1.1, w, CO, HA, HB, HC, Nat.not_lt_zero, Nat.add_assoc, c_nlt, c_nle, c_neq, c_P, c_cl, c_m1, c_m1', nI_add, pk_mul, reduceIte, Nat.reduceEqDiff, Nat.reduceAdd, Nat.reduceMul, Nat.reduceLeDiff, eq_self, ↓pk_rem, pk_div, c_of, d_le, d_nle, d_lt, d_nlt, d_eq, d_ne]
        refine Ev_b (M_ob0 (d := d) h rfl) ?_
        rintro _ υ ⟨rfl, g, r⟩
        refine Ev_e (o' := some (some (.int (nI 1)), υ)) ?_ (Ev_s ⟨rfl, g, r⟩)
        simp (disch := first | omega | (repeat (first | assumption | exact Ag_r | refine Ag_I ?_ rfl | refine Ag_F ?_ rfl | refine Ag_J ?_ rfl))) only [A166, CO, HA, HB, HC, Nat.not_lt_zero, Nat.add_assoc, c_nlt, c_nle, c_neq, c_P, c_cl, c_m1, c_m1', nI_add, pk_mul, reduceIte, Nat.reduceEqDiff, Nat.reduceAdd, Nat.reduceMul, Nat.reduceLeDiff, eq_self, ↓pk_rem, pk_div, c_of, d_le, d_nle, d_lt, d_nlt, d_eq, d_ne]
        )
      exact Bd_e e1 g1 (M_hb r1 1)
    · obtain ⟨υ, e1, g1, r1, r2, r3⟩ := M_h1 (d := d) (t := t) (T1 := 1) (R := fun υ => Qq τ υ ∧ MS υ X (tE X p) m n (z + 1) (o + 1) ∧ hI υ 66 z = nI 31 ∧ ∀ M, Kp τ υ M z) h hT (fun d => by
        simp (disch := first | omega | (repeat (first | assumption | exact Ag_r | refine Ag_I ?_ rfl | refine Ag_F ?_ rfl | refine Ag_J ?_ rfl))) only [A166, FM h.1.1, w, CO, HA, HB, HC, Nat.not_lt_zero, Nat.add_assoc, c_nlt, c_nle, c_neq, c_P, c_cl, c_m1, c_m1', nI_add, pk_mul, reduceIte, Nat.reduceEqDiff, Nat.reduceAdd, Nat.reduceMul, Nat.reduceLeDiff, eq_self, ↓pk_rem, pk_div, c_of, d_le, d_nle, d_lt, d_nlt, d_eq, d_ne]
        refine Ev_b (M_ob1 (d := d) h hz te.1 o8 (Or.inr rfl)) ?_
        rintro _ υ ⟨rfl, g, r⟩
        refine Ev_e (o' := some (some (.int (nI 1)), υ)) ?_ (Ev_s ⟨rfl, g, r⟩)
        simp (disch := first | omega | (repeat (first | assumption | exact Ag_r | refine Ag_I ?_ rfl | refine Ag_F ?_ rfl | refine Ag_J ?_ rfl))) only [A166, CO, HA, HB, HC, Nat.not_lt_zero, Nat.add_assoc, c_nlt, c_nle, c_neq, c_P, c_cl, c_m1, c_m1', nI_add, pk_mul, reduceIte, Nat.reduceEqDiff, Nat.reduceAdd, Nat.reduceMul, Nat.reduceLeDiff, eq_self, ↓pk_rem, pk_div, c_of, d_le, d_nle, d_lt, d_nlt, d_eq, d_ne]
        )
      have b31 : Bs υ 5 (z + 1) := fun y hy => by
        obtain rfl : z = y := by omega
        exact ⟨31, r2, by omega, by omega, by decide⟩
      obtain ⟨i1, i2⟩ := hf d t 1 υ (tE X p) m n (z + 1) r1 (by omega) (Or.inl rfl) b31
      simp only [pBr]
      cases ef : f (tE X p) n with
      | inl q' =>
        refine ⟨fun q e => ?_, fun p' n' φ e => ?_⟩
        · simp only [pb] at e
          cases e
          exact Bd_e e1 g1 (i1 q' ef)
        · simp only [pb] at e
          exact nomatch e
      | inr x =>
        obtain ⟨p1, n1, φ1⟩ := x
        obtain ⟨ω, f1, f2, m1, r, f3, f4, f5, f6, f7⟩ := i2 p1 n1 φ1 ef
        have h31 : hI ω 66 z = nI 31 := by rw [(f6.2 z (by omega)).1]; exact r2
        simp only [pb]
        by_cases s93 : sg_ X p1 = 93
        · rw [if_pos s93]
          refine ⟨fun q e => (nomatch e), fun p' n' φ e => ?_⟩
          cases e
          obtain ⟨χ, c1, c2, m2, c3, c4, c5, c6⟩ := M_cl1 (d := d) (t := t) f3 f4 f7 f5 h31 s93
          exact ⟨χ, e1.trans (f1.trans c1), Qq_t g1 (Qq_t f2 c2), m2, c3, c4, c5, Kp_t (r3 m) (Kp_t (Kp_w f6 (Nat.le_refl _) (by omega)) c6 (Nat.le_refl _) (Nat.le_refl _)) (Nat.le_refl _) (Nat.le_refl _)⟩
        · rw [if_neg s93]
          refine ⟨fun q e => ?_, fun p' n' φ e => (nomatch e)⟩
          cases e
          exact Bd_e (e1.trans f1) (Qq_t g1 f2) (M_cl0 f3 f7 f5 h31 s93)
  · rw [if_neg s91]
    refine ⟨fun q e => ?_, fun p' n' φ e => ?_⟩
    · obtain ⟨υ, e1, g1, r1⟩ := M_h1 (d := d) (t := t) (T1 := 3) (R := fun υ => Qq τ υ ∧ MB υ q) h hT (fun d => (M_lf (d := d) h hz s91).1 q e)
      exact Bd_e e1 g1 (M_hb r1 3)
    · obtain ⟨υ, e1, g1, r1, r2, r3, r4⟩ := M_h1 (d := d) (t := t) (T1 := 3) (R := fun υ => Qq τ υ ∧ MS υ X p' (m + 1) n' z o ∧ SgS (gM υ) m (m + 1) 1 φ ∧ (∀ Z, Kp τ υ m Z) ∧ m + 1 + z ≤ p') h hT (fun d => (M_lf (d := d) h hz s91).2 p' n' φ e)
      exact ⟨υ, e1, g1, m + 1, r1, r4, SgS_k r2 hK, r3 z⟩
theorem sg_end {p : Nat} (h : X.1 ≤ p) (hp : p ≤ X.1) : sg_ X p = 0 ∧ wd_ X p = 0 := by
  have a := tS_b (X := X) _ p rfl hp
  have k : tK X p = 0 := kA_4.2.mpr (by omega)
  unfold sg_ wd_
  rw [k]
  exact ⟨rfl, rfl⟩
theorem M_tl (hP : PtM X (pPt X S) K o) (hF : Fo X S) (hK : 1 ≤ K) {d t a z : Nat} : ∀ (i : Nat) (τ : Hp) (p m n r : Nat) (φ : Ph), MS τ X p m n (z + r) o → m + (z + r) ≤ p → X.1 ≤ p + i → Pd τ 6 r (K + 1) z a m φ → Bs τ 6 z → (∀ q, pTL X S i φ p n = .inl q → Bd τ q (den (hdE d t 3 τ))) ∧ ∀ p' n' φ', pTL X S i φ p n = .inr (p', n', φ') → ∃ υ, den (hdE d t 3 τ) = den (hdE d t 3 υ) ∧ Qq τ υ ∧ ∃ m' r', MS υ X p' m' n' (z + r') o ∧ m' + (z + r') ≤ p' ∧ Pd υ 6 r' (K + 1) z a m' φ' ∧ Kp τ υ a z ∧ ¬ sg_ X p' = 42 ∧ ¬ sg_ X p' = 47 := by
  intro i
  induction i with
  | zero =>
    intro τ p m n r φ h hz hi q hb
    simp only [pTL]
    refine ⟨fun q e => (nomatch e), fun p' n' φ e => ?_⟩
    cases e
    have := sg_end (X := X) (p := p) (by omega) h.2.2.1.1
    exact ⟨τ, rfl, Ag_r, m, r, h, hz, q, Kp_r, by omega, by omega⟩
  | succ i ih =>
    intro τ p m n r φ h hz hi q hb
    simp only [pTL]
    by_cases s : sg_ X p = 42 ∨ sg_ X p = 47
    · rw [if_pos s]
      obtain ⟨e, he, e6, ec⟩ : ∃ e, ((sg_ X p = 42 ∧ e = 22) ∨ (sg_ X p = 47 ∧ e = 23)) ∧ bnd e = 6 ∧ (if sg_ X p = 42 then 2 else 3) = e - 20 := by
        rcases s with s | s
        · exact ⟨22, Or.inl ⟨s, rfl⟩, rfl, by rw [if_pos s]⟩
        · exact ⟨23, Or.inr ⟨s, rfl⟩, rfl, by rw [if_neg (by omega)]⟩
      rw [ec]
      have te := tE_s h.2.2.1.1 (show 0 < sg_ X p by omega) rfl
      obtain ⟨υ, e1, g1, m1, r1, l1, s1, p1, p2, k1⟩ := M_op (d := d) (t := t) h hz (c := sg_ X p) (e := e) rfl (by omega) q (by omega) (by rw [e6]; exact hb)
      obtain ⟨i1, i2⟩ := hP d t 1 υ (tE X p) m1 n (z + 1) r1 l1 (Or.inl rfl)
      cases ef : pPt X S (tE X p) n with
      | inl q' =>
        refine ⟨fun q e => ?_, fun p' n' φ e => ?_⟩
        · simp only [pb] at e
          cases e
          exact Bd_e e1 g1 (i1 q' ef)
        · simp only [pb] at e
          exact nomatch e
      | inr x =>
        obtain ⟨p2', n2, ψ⟩ := x
        obtain ⟨ω, f1, f2, m2, f3, f4, f5, f6⟩ := i2 p2' n2 ψ ef
        have fw := Fw_pt hF _ _ _ _ _ te.2.1 ef
        simp only [pb]
        have am := s1.1
        have pd : Pd ω 6 1 (K + 1) z a m2 (phO (e - 20) φ ψ) := ⟨e, 0, m1, φ, ψ, ⟨by rw [(f6.2 z (by omega)).1]; exact p1, by rw [(f6.2 z (by omega)).2]; exact p2, by omega, by omega, by omega, by omega⟩, Or.inl ⟨by omega, by omega, Kp_g f6 (Nat.le_refl _) s1, f5, rfl⟩⟩
        have k2 : Kp τ ω a z := Kp_t k1 (Kp_w f6 am (by omega)) (Nat.le_refl _) (Nat.le_refl _)
        have hb2 : Bs ω 6 z := fun y hy => by rw [(k2.2 y (by omega)).1]; exact hb y hy
        obtain ⟨j1, j2⟩ := ih ω p2' m2 n2 1 _ f3 f4 (by omega) pd hb2
        refine ⟨fun q e => Bd_e (e1.trans f1) (Qq_t g1 f2) (j1 q e), fun p' n' φ' e => ?_⟩
        obtain ⟨χ, c1, c2, m3, r3, c3, c4, c5, c6, c7⟩ := j2 p' n' φ' e
        exact ⟨χ, e1.trans (f1.trans c1), Qq_t g1 (Qq_t f2 c2), m3, r3, c3, c4, c5, Kp_t k2 c6 (Nat.le_refl _) (Nat.le_refl _), c7⟩
    · rw [if_neg s]
      refine ⟨fun q e => (nomatch e), fun p' n' φ e => ?_⟩
      cases e
      exact ⟨τ, rfl, Ag_r, m, r, h, hz, q, Kp_r, fun w => s (Or.inl w), fun w => s (Or.inr w)⟩
theorem M_term (hP : PtM X (pPt X S) K o) (hF : Fo X S) (hK : 1 ≤ K) : SmM X (pTm X S) 6 (K + 1) o (fun p' => ¬ sg_ X p' = 42 ∧ ¬ sg_ X p' = 47) := by
  intro d t T τ p m n z h hz hT hb
  obtain ⟨i1, i2⟩ := hP d t T τ p m n z h hz hT
  unfold pTm
  cases ef : pPt X S p n with
  | inl q' =>
    refine ⟨fun q e => ?_, fun p' n' φ e => ?_⟩
    · simp only [pb] at e
      cases e
      exact i1 q' ef
    · simp only [pb] at e
      exact nomatch e
  | inr x =>
    obtain ⟨p1, n1, φ1⟩ := x
    obtain ⟨υ, f1, f2, m1, f3, f4, f5, f6⟩ := i2 p1 n1 φ1 ef
    simp only [pb]
    have x3 := h.2.1.1.2.2.1
    obtain ⟨j1, j2⟩ := M_tl hP hF hK (d := d) (t := t) (a := m) (z := z) F4 υ p1 m1 n1 0 φ1 f3 f4 (by unfold F4; omega) (SgS_k f5 (by omega)) (fun y hy => by rw [(f6.2 y (by omega)).1]; exact hb y hy)
    refine ⟨fun q e => Bd_e f1 f2 (j1 q e), fun p' n' φ' e => ?_⟩
    obtain ⟨χ, c1, c2, m3, r3, c3, c4, c5, c6, c7⟩ := j2 p' n' φ' e
    exact ⟨χ, f1.trans c1, Qq_t f2 c2, m3, r3, c3, c4, c5, Kp_t f6 c6 (Nat.le_refl _) (Nat.le_refl _), c7⟩
theorem M_sl {P : Nat → Nat → Pz} (hP : SmM X (pTm X S) 6 (K + 1) o (fun p' => ¬ sg_ X p' = 42 ∧ ¬ sg_ X p' = 47)) (hF : Fo X S) (hK : 1 ≤ K) {d t a z : Nat} : ∀ (i : Nat) (τ : Hp) (p m n r : Nat) (φ : Ph), MS τ X p m n (z + r) o → m + (z + r) ≤ p → X.1 ≤ p + i → Pd τ 5 r (K + 2) z a m φ → Bs τ 5 z → ¬ sg_ X p = 42 → ¬ sg_ X p = 47 → (∀ q, pSL X S i φ p n = .inl q → Bd τ q (den (hdE d t 3 τ))) ∧ ∀ p' n' φ', pSL X S i φ p n = .inr (p', n', φ') → ∃ υ, den (hdE d t 3 τ) = den (hdE d t 3 υ) ∧ Qq τ υ ∧ ∃ m' r', MS υ X p' m' n' (z + r') o ∧ m' + (z + r') ≤ p' ∧ Pd υ 5 r' (K + 2) z a m' φ' ∧ Kp τ υ a z ∧ nOps X p' := by
  intro i
  induction i with
  | zero =>
    intro τ p m n r φ h hz hi q hb h42 h47
    simp only [pSL]
    refine ⟨fun q e => (nomatch e), fun p' n' φ e => ?_⟩
    cases e
    have := sg_end (X := X) (p := p) (by omega) h.2.2.1.1
    exact ⟨τ, rfl, Ag_r, m, r, h, hz, q, Kp_r, by omega, by omega, by omega, by omega⟩
  | succ i ih =>
    intro τ p m n r φ h hz hi q hb h42 h47
    simp only [pSL]
    by_cases s : sg_ X p = 43 ∨ sg_ X p = 45
    · rw [if_pos s]
      obtain ⟨e, he, e6, ec⟩ : ∃ e, ((sg_ X p = 43 ∧ e = 20) ∨ (sg_ X p = 45 ∧ e = 21)) ∧ bnd e = 5 ∧ (if sg_ X p = 43 then 0 else 1) = e - 20 := by
        rcases s with s | s
        · exact ⟨20, Or.inl ⟨s, rfl⟩, rfl, by rw [if_pos s]⟩
        · exact ⟨21, Or.inr ⟨s, rfl⟩, rfl, by rw [if_neg (by omega)]⟩
      rw [ec]
      have te := tE_s h.2.2.1.1 (show 0 < sg_ X p by omega) rfl
      obtain ⟨υ, e1, g1, m1, r1, l1, s1, p1, p2, k1⟩ := M_op (d := d) (t := t) h hz (c := sg_ X p) (e := e) rfl (by omega) q (by omega) (by rw [e6]; exact hb)
      have hb1 : Bs υ 6 (z + 1) := fun y hy => by
        obtain rfl : z = y := by omega
        exact ⟨e, p1, by omega, by omega, by omega⟩
      obtain ⟨i1, i2⟩ := hP d t 1 υ (tE X p) m1 n (z + 1) r1 l1 (Or.inl rfl) hb1
      cases ef : pTm X S (tE X p) n with
      | inl q' =>
        refine ⟨fun q e => ?_, fun p' n' φ e => ?_⟩
        · simp only [pb] at e
          cases e
          exact Bd_e e1 g1 (i1 q' ef)
        · simp only [pb] at e
          exact nomatch e
      | inr x =>
        obtain ⟨p2', n2, ψ⟩ := x
        obtain ⟨ω, f1, f2, m2, r2, f3, f4, f5, f6, f7⟩ := i2 p2' n2 ψ ef
        have fw := Fw_tm hF _ _ _ _ _ te.2.1 ef
        simp only [pb]
        have am := s1.1
        have pd : Pd ω 5 (r2 + 1) (K + 2) z a m2 (phO (e - 20) φ ψ) := ⟨e, 0, m1, φ, ψ, ⟨by rw [(f6.2 z (by omega)).1]; exact p1, by rw [(f6.2 z (by omega)).2]; exact p2, by omega, by omega, by omega, by omega⟩, Or.inl ⟨by omega, by omega, Kp_g f6 (Nat.le_refl _) s1, Pd_w (by omega) (by omega) f5, rfl⟩⟩
        have k2 : Kp τ ω a z := Kp_t k1 (Kp_w f6 am (by omega)) (Nat.le_refl _) (Nat.le_refl _)
        have hb2 : Bs ω 5 z := fun y hy => by rw [(k2.2 y (by omega)).1]; exact hb y hy
        rw [show z + 1 + r2 = z + (r2 + 1) by omega] at f3 f4
        obtain ⟨j1, j2⟩ := ih ω p2' m2 n2 (r2 + 1) _ f3 f4 (by omega) pd hb2 f7.1 f7.2
        refine ⟨fun q e => Bd_e (e1.trans f1) (Qq_t g1 f2) (j1 q e), fun p' n' φ' e => ?_⟩
        obtain ⟨χ, c1, c2, m3, r3, c3, c4, c5, c6, c7⟩ := j2 p' n' φ' e
        exact ⟨χ, e1.trans (f1.trans c1), Qq_t g1 (Qq_t f2 c2), m3, r3, c3, c4, c5, Kp_t k2 c6 (Nat.le_refl _) (Nat.le_refl _), c7⟩
    · rw [if_neg s]
      refine ⟨fun q e => (nomatch e), fun p' n' φ e => ?_⟩
      cases e
      exact ⟨τ, rfl, Ag_r, m, r, h, hz, q, Kp_r, fun w => s (Or.inl w), fun w => s (Or.inr w), h42, h47⟩
theorem M_sum1 (hS : LvM X S K o) (hF : Fo X S) (hK : 1 ≤ K) : SmM X (pSm X S) 5 (K + 2) o (nOps X) := by
  intro d t T τ p m n z h hz hT hb
  have hT1 := M_term (M_part hK hS) hF hK
  obtain ⟨i1, i2⟩ := hT1 d t T τ p m n z h hz hT (fun y hy => by
    obtain ⟨e, y1, y2, y3, y4⟩ := hb y hy
    exact ⟨e, y1, y2, y3, by omega⟩)
  unfold pSm
  cases ef : pTm X S p n with
  | inl q' =>
    refine ⟨fun q e => ?_, fun p' n' φ e => ?_⟩
    · simp only [pb] at e
      cases e
      exact i1 q' ef
    · simp only [pb] at e
      exact nomatch e
  | inr x =>
    obtain ⟨p1, n1, φ1⟩ := x
    obtain ⟨υ, f1, f2, m1, r1, f3, f4, f5, f6, f7⟩ := i2 p1 n1 φ1 ef
    simp only [pb]
    have x3 := h.2.1.1.2.2.1
    obtain ⟨j1, j2⟩ := M_sl (P := fun _ _ => .inl 0) hT1 hF hK (d := d) (t := t) (a := m) (z := z) F4 υ p1 m1 n1 r1 φ1 f3 f4 (by unfold F4; omega) (Pd_w (by omega) (by omega) f5) (fun y hy => by rw [(f6.2 y (by omega)).1]; exact hb y hy) f7.1 f7.2
    refine ⟨fun q e => Bd_e f1 f2 (j1 q e), fun p' n' φ' e => ?_⟩
    obtain ⟨χ, c1, c2, m3, r3, c3, c4, c5, c6, c7⟩ := j2 p' n' φ' e
    exact ⟨χ, f1.trans c1, Qq_t f2 c2, m3, r3, c3, c4, c5, Kp_t f6 c6 (Nat.le_refl _) (Nat.le_refl _), c7⟩
theorem M_S : ∀ (k o : Nat), o + k = 8 → SmM X (pS X k) 5 (2 * k + 3) o (nOps X)
  | 0, o, h => M_sum1 (K := 1) (Or.inl ⟨rfl, by omega⟩) (fun f h => nomatch h) (by omega)
  | k + 1, o, h => M_sum1 (K := 2 * k + 3) (Or.inr ⟨pS X k, rfl, by omega, M_S k (o + 1) (by omega), Fw_S k⟩) (fun f h => by cases h; exact Fw_S k) (by omega)
end
