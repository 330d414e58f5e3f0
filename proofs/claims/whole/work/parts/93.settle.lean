/-! law: the model's settling -/
/-- r operators pend above z: what they and the code a .. m - 1 will tell -/
def Pd (τ : Hp) (L : Nat) : Nat → Nat → Nat → Nat → Nat → Ph → Prop
  | 0, K, _, a, m, φ => SgS (gM τ) a m K φ
  | r + 1, K, z, a, m, φ => ∃ e t b φ1 ψ, (hI τ 66 z = nI e ∧ hI τ 67 z = nI t ∧ t < 400 ∧ 20 ≤ e ∧ e < 30 ∧ L ≤ bnd e) ∧ ((e < 27 ∧ 2 ≤ K ∧ SgS (gM τ) a b K φ1 ∧ Pd τ L r (K - 1) (z + 1) b m ψ ∧ φ = phO (e - 20) φ1 ψ) ∨ (e = 27 ∧ 1 ≤ K ∧ bl ψ ∧ Pd τ L r K (z + 1) a m ψ ∧ φ = phN ψ) ∨ (28 ≤ e ∧ 1 ≤ K ∧ SgS (gM τ) a t K φ1 ∧ bl φ1 ∧ hI τ 64 t = nI e ∧ Pd τ L r K (z + 1) (t + 1) m ψ ∧ φ = phS ((e - 28 : Nat) : Int) φ1 ψ))
section
variable {d L : Nat}
theorem Pd_le {τ : Hp} : ∀ {r K z a m : Nat} {φ : Ph}, Pd τ L r K z a m φ → a ≤ m
  | 0, _, _, _, _, _, h => h.1
  | r + 1, _, _, _, _, _, h => by
    obtain ⟨e, t, b, φ1, ψ, -, ⟨-, -, s, q, -⟩ | ⟨-, -, -, q, -⟩ | ⟨-, -, s, -, -, q, -⟩⟩ := h
    · exact Nat.le_trans s.1 (Pd_le q)
    · exact Pd_le q
    · have := s.1; have := Pd_le q; omega
theorem Pd_w {τ : Hp} {L' : Nat} (l : L' ≤ L) : ∀ {r K K' z a m : Nat} {φ : Ph}, K ≤ K' → Pd τ L r K z a m φ → Pd τ L' r K' z a m φ
  | 0, _, _, _, _, _, _, k, h => SgS_k h k
  | r + 1, K, K', _, _, _, _, k, h => by
    obtain ⟨e, t, b, φ1, ψ, h0, ⟨x1, x2, s, q, f⟩ | ⟨x1, x2, x3, q, f⟩ | ⟨x1, x2, s, x4, x5, q, f⟩⟩ := h
    · exact ⟨e, t, b, φ1, ψ, ⟨h0.1, h0.2.1, h0.2.2.1, h0.2.2.2.1, h0.2.2.2.2.1, by omega⟩, Or.inl ⟨x1, by omega, SgS_k s k, Pd_w l (by omega) q, f⟩⟩
    · exact ⟨e, t, b, φ1, ψ, ⟨h0.1, h0.2.1, h0.2.2.1, h0.2.2.2.1, h0.2.2.2.2.1, by omega⟩, Or.inr (Or.inl ⟨x1, by omega, x3, Pd_w l k q, f⟩)⟩
    · exact ⟨e, t, b, φ1, ψ, ⟨h0.1, h0.2.1, h0.2.2.1, h0.2.2.2.1, h0.2.2.2.2.1, by omega⟩, Or.inr (Or.inr ⟨x1, by omega, SgS_k s k, x4, x5, Pd_w l k q, f⟩)⟩
/-- what is kept below, keeps what pends -/
theorem Pd_k {τ υ : Hp} : ∀ {r K z a m m' z' : Nat} {φ : Ph}, Kp τ υ m' z' → m ≤ m' → z + r ≤ z' → Pd τ L r K z a m φ → Pd υ L r K z a m φ
  | 0, _, _, _, _, _, _, _, k, l, _, h => Kp_g k l h
  | r + 1, K, z, _, _, _, _, _, k, l, l', h => by
    obtain ⟨e, t, b, φ1, ψ, h0, ⟨x1, x2, s, q, f⟩ | ⟨x1, x2, x3, q, f⟩ | ⟨x1, x2, s, x4, x5, q, f⟩⟩ := h
    · have := Pd_le q
      exact ⟨e, t, b, φ1, ψ, ⟨by rw [(k.2 z (by omega)).1]; exact h0.1, by rw [(k.2 z (by omega)).2]; exact h0.2.1, h0.2.2⟩, Or.inl ⟨x1, x2, Kp_g k (by omega) s, Pd_k k l (by omega) q, f⟩⟩
    · exact ⟨e, t, b, φ1, ψ, ⟨by rw [(k.2 z (by omega)).1]; exact h0.1, by rw [(k.2 z (by omega)).2]; exact h0.2.1, h0.2.2⟩, Or.inr (Or.inl ⟨x1, x2, x3, Pd_k k l (by omega) q, f⟩)⟩
    · have := Pd_le q
      exact ⟨e, t, b, φ1, ψ, ⟨by rw [(k.2 z (by omega)).1]; exact h0.1, by rw [(k.2 z (by omega)).2]; exact h0.2.1, h0.2.2⟩, Or.inr (Or.inr ⟨x1, x2, Kp_g k (by omega) s, x4, by rw [(k.1 t (by omega)).1]; exact x5, Pd_k k l (by omega) q, f⟩)⟩
/-- the entries that pend -/
theorem Pd_e {τ : Hp} : ∀ {r K z a m : Nat} {φ : Ph}, Pd τ L r K z a m φ → ∀ i, z ≤ i → i < z + r → ∃ e, hI τ 66 i = nI e ∧ 20 ≤ e ∧ e < 30 ∧ L ≤ bnd e
  | 0, _, _, _, _, _, _, i, h1, h2 => absurd h2 (by omega)
  | r + 1, _, z, _, _, _, h, i, h1, h2 => by
    obtain ⟨e, t, b, φ1, ψ, h0, h⟩ := h
    by_cases w : i = z
    · rw [w]; exact ⟨e, h0.1, h0.2.2.2⟩
    · obtain ⟨-, -, -, q, -⟩ | ⟨-, -, -, q, -⟩ | ⟨-, -, -, -, -, q, -⟩ := h
      · exact Pd_e q i (by omega) (by omega)
      · exact Pd_e q i (by omega) (by omega)
      · exact Pd_e q i (by omega) (by omega)
/-- below z the pile binds less than L -/
def Bs (τ : Hp) (L z : Nat) : Prop := ∀ y, z = y + 1 → ∃ e, hI τ 66 y = nI e ∧ 20 ≤ e ∧ e < 32 ∧ bnd e < L
theorem M_stop {τ : Hp} {m z l : Nat} (h : MT τ m z) (hb : Bs τ l z) (h6 : l ≤ 6) : den (d + 1, 160, 0, [.ref 57, .int (nI l)], [], τ) = some (none, τ) := by
  obtain ⟨m1, m2, m3, m4, m5⟩ := h
  rw [a160_0]
  cases z with
  | zero => simp (disch := first | omega | (repeat (first | assumption | exact Ag_r | refine Ag_I ?_ rfl | refine Ag_F ?_ rfl | refine Ag_J ?_ rfl))) only [A160, FM m1, m3, CO, HA, HB, HC, Nat.not_lt_zero, Nat.add_assoc, c_nlt, c_nle, c_neq, c_P, c_cl, c_m1, c_m1', nI_add, pk_mul, reduceIte, Nat.reduceEqDiff, Nat.reduceAdd, Nat.reduceMul, Nat.reduceLeDiff, eq_self, ↓pk_rem, pk_div, c_of, d_le, d_nle, d_lt, d_nlt, d_eq, d_ne]
  | succ y =>
    obtain ⟨e, e1, e2, e3, e4⟩ := hb y rfl
    have bi := fun (d : Nat) (τ : Hp) => M_binds (d := d) (τ := τ) ⟨e2, e3⟩
    have cs := c_sub (show 1 ≤ y + 1 by omega)
    have b6 : bnd e ≤ 6 := by unfold bnd; repeat (first | omega | split)
    simp (disch := first | omega | (repeat (first | assumption | exact Ag_r | refine Ag_I ?_ rfl | refine Ag_F ?_ rfl | refine Ag_J ?_ rfl))) only [A160, FM m1, m3, cs, Nat.add_sub_cancel, e1, bi, CO, HA, HB, HC, Nat.not_lt_zero, Nat.add_assoc, c_nlt, c_nle, c_neq, c_P, c_cl, c_m1, c_m1', nI_add, pk_mul, reduceIte, Nat.reduceEqDiff, Nat.reduceAdd, Nat.reduceMul, Nat.reduceLeDiff, eq_self, ↓pk_rem, pk_div, c_of, d_le, d_nle, d_lt, d_nlt, d_eq, d_ne]
theorem M_pop {τ : Hp} {m z l e t : Nat} (h : MT τ m (z + 1)) (h1 : hI τ 66 z = nI e) (h2 : hI τ 67 z = nI t) (h3 : 20 ≤ e ∧ e < 30) (hl : l ≤ bnd e) (h28 : ¬ 28 ≤ e) : ∃ υ, den (d + 1, 160, 0, [.ref 57, .int (nI l)], [], τ) = den (d + 1, 160, 0, [.ref 57, .int (nI l)], [], υ) ∧ Qse τ υ ∧ MT υ (m + 1) z ∧ hI υ 64 m = nI e ∧ ∀ Z, Kp τ υ m Z := by
  obtain ⟨m1, m2, m3, m4, m5⟩ := h
  have g0 : Qse τ (sF τ 57 23 (.int (nI z))) := Ag_F Ag_r rfl
  have t0 : MT (sF τ 57 23 (.int (nI z))) m z := ⟨Qq_M (Qse_q g0) m1, by simp only [HA, Nat.reduceEqDiff, and_false, reduceIte]; exact m2, by simp only [HA, and_self, reduceIte], by omega, fun i hi => m5 i (by omega)⟩
  obtain ⟨v, υ, e1, rfl, e3, e4, e5, e6, e7⟩ := M_emitT (d := d) (e := nI e) (t := nI 0) t0 (by omega)
  refine ⟨υ, ?_, Ag_t g0 e3, e4, e5, fun Z => Kp_t (z' := Z) (m' := m) ⟨fun i _ => ⟨rfl, rfl⟩, fun i _ => ⟨rfl, rfl⟩⟩ (e7 Z) (Nat.le_refl _) (Nat.le_refl _)⟩
  have bi := fun (d : Nat) (τ : Hp) => M_binds (d := d) (τ := τ) (show 20 ≤ e ∧ e < 32 by omega)
  have cs := c_sub (show 1 ≤ z + 1 by omega)
  have b6 : bnd e ≤ 6 := by unfold bnd; repeat (first | omega | split)
  rw [a160_0]
  simp (disch := first | omega | (repeat (first | assumption | exact Ag_r | refine Ag_I ?_ rfl | refine Ag_F ?_ rfl | refine Ag_J ?_ rfl))) only [A160, FM m1, m3, cs, Nat.add_sub_cancel, h1, bi, e1, CO, HA, HB, HC, Nat.not_lt_zero, Nat.add_assoc, c_nlt, c_nle, c_neq, c_P, c_cl, c_m1, c_m1', nI_add, pk_mul, reduceIte, Nat.reduceEqDiff, Nat.reduceAdd, Nat.reduceMul, Nat.reduceLeDiff, eq_self, ↓pk_rem, pk_div, c_of, d_le, d_nle, d_lt, d_nlt, d_eq, d_ne]
theorem M_pop2 {τ : Hp} {m z l e t : Nat} (h : MT τ m (z + 1)) (h1 : hI τ 66 z = nI e) (h2 : hI τ 67 z = nI t) (ht : t < 400) (h3 : 28 ≤ e ∧ e < 30) (hl : l ≤ bnd e) : ∃ υ, den (d + 1, 160, 0, [.ref 57, .int (nI l)], [], τ) = den (d + 1, 160, 0, [.ref 57, .int (nI l)], [], υ) ∧ Qse τ υ ∧ MT υ m z ∧ hI υ 65 t = nI m ∧ (∀ i, hI υ 64 i = hI τ 64 i) ∧ ∀ i, i ≠ t → hI υ 65 i = hI τ 65 i := by
  obtain ⟨m1, m2, m3, m4, m5⟩ := h
  have g0 : Qse τ (sI (sF τ 57 23 (.int (nI z))) 65 (upd (hI τ 65) t (nI m))) := Ag_I (Ag_F Ag_r rfl) rfl
  have e7 : hI (sI (sF τ 57 23 (.int (nI z))) 65 (upd (hI τ 65) t (nI m))) 65 = upd (hI τ 65) t (nI m) := by simp only [HA, reduceIte]
  refine ⟨_, ?_, g0, ⟨Qq_M (Qse_q g0) m1, by simp only [HA, Nat.reduceEqDiff, and_false, reduceIte]; exact m2, by simp only [HA, and_self, reduceIte], by omega, PW_k (fun i hi => m5 i (by omega)) (Ag_i g0 66 rfl) (Ag_i g0 67 rfl)⟩, by rw [e7]; simp only [ua, reduceIte], fun i => by simp only [HA, Nat.reduceEqDiff, reduceIte], fun i hi => by rw [e7]; simp only [ua]; rw [if_neg hi]⟩
  have bi := fun (d : Nat) (τ : Hp) => M_binds (d := d) (τ := τ) (show 20 ≤ e ∧ e < 32 by omega)
  have cs := c_sub (show 1 ≤ z + 1 by omega)
  have b6 : bnd e ≤ 6 := by unfold bnd; repeat (first | omega | split)
  rw [a160_0]
  by_cases w : e = 28
  · subst w
    simp (disch := first | omega | (repeat (first | assumption | exact Ag_r | refine Ag_I ?_ rfl | refine Ag_F ?_ rfl | refine Ag_J ?_ rfl))) only [A160, FM m1, m2, m3, cs, Nat.add_sub_cancel, h1, h2, bi, CO, HA, HB, HC, Nat.not_lt_zero, Nat.add_assoc, c_nlt, c_nle, c_neq, c_P, c_cl, c_m1, c_m1', nI_add, pk_mul, reduceIte, Nat.reduceEqDiff, Nat.reduceAdd, Nat.reduceMul, Nat.reduceLeDiff, eq_self, ↓pk_rem, pk_div, c_of, d_le, d_nle, d_lt, d_nlt, d_eq, d_ne]
  · obtain rfl : e = 29 := by omega
    simp (disch := first | omega | (repeat (first | assumption | exact Ag_r | refine Ag_I ?_ rfl | refine Ag_F ?_ rfl | refine Ag_J ?_ rfl))) only [A160, FM m1, m2, m3, cs, Nat.add_sub_cancel, h1, h2, bi, CO, HA, HB, HC, Nat.not_lt_zero, Nat.add_assoc, c_nlt, c_nle, c_neq, c_P, c_cl, c_m1, c_m1', nI_add, pk_mul, reduceIte, Nat.reduceEqDiff, Nat.reduceAdd, Nat.reduceMul, Nat.reduceLeDiff, eq_self, ↓pk_rem, pk_div, c_of, d_le, d_nle, d_lt, d_nlt, d_eq, d_ne]
/-- settling, down to z -/
theorem M_set {l : Nat} (hl : l ≤ L) : ∀ {r K z a m : Nat} {φ : Ph} {τ : Hp}, MT τ m (z + r) → Pd τ L r K z a m φ → ∃ υ m', den (d + 1, 160, 0, [.ref 57, .int (nI l)], [], τ) = den (d + 1, 160, 0, [.ref 57, .int (nI l)], [], υ) ∧ Qse τ υ ∧ MT υ m' z ∧ SgS (gM υ) a m' K φ ∧ (∀ Z, Kp τ υ a Z) ∧ m' + z ≤ m + (z + r) := by
  intro r
  induction r with
  | zero => intro K z a m φ τ h q; exact ⟨τ, m, rfl, Ag_r, h, q, fun Z => Kp_r, by omega⟩
  | succ r ih =>
    intro K z a m φ τ h q
    rw [show z + (r + 1) = z + 1 + r by omega] at h
    obtain ⟨e, t, b, φ1, ψ, h0, ⟨x1, x2, s, q, f⟩ | ⟨x1, x2, x3, q, f⟩ | ⟨x1, x2, s, x4, x5, q, f⟩⟩ := q
    · obtain ⟨υ, m', i1, i2, i3, i4, i5, i6⟩ := ih h q
      obtain ⟨ω, j1, j2, j3, j4, j5⟩ := M_pop (d := d) (l := l) i3 (by rw [Ag_i i2 66 rfl]; exact h0.1) (by rw [Ag_i i2 67 rfl]; exact h0.2.1) ⟨h0.2.2.2.1, by omega⟩ (by omega) (by omega)
      have := i4.1
      have := s.1
      refine ⟨ω, m' + 1, i1.trans j1, Ag_t i2 j2, j3, ?_, fun Z => Kp_t (Kp_w (i5 Z) s.1 (Nat.le_refl _)) (j5 Z) (by omega) (Nat.le_refl _), by omega⟩
      rw [f]
      exact SgS_op (Kp_g (j5 0) (by omega) (Kp_g (i5 0) (Nat.le_refl _) s)) (Kp_g (j5 0) (Nat.le_refl _) i4) (by omega) (by rw [gM_0, j4]; congr 1; omega) (Nat.le_refl _) (by omega) x2
    · obtain ⟨υ, m', i1, i2, i3, i4, i5, i6⟩ := ih h q
      obtain ⟨ω, j1, j2, j3, j4, j5⟩ := M_pop (d := d) (l := l) i3 (by rw [Ag_i i2 66 rfl]; exact h0.1) (by rw [Ag_i i2 67 rfl]; exact h0.2.1) ⟨h0.2.2.2.1, by omega⟩ (by omega) (by omega)
      have := i4.1
      refine ⟨ω, m' + 1, i1.trans j1, Ag_t i2 j2, j3, ?_, fun Z => Kp_t (i5 Z) (j5 Z) (by omega) (Nat.le_refl _), by omega⟩
      rw [f]
      exact SgS_not (Kp_g (j5 0) (Nat.le_refl _) i4) x3 (by rw [gM_0, j4, x1]) x2
    · obtain ⟨υ, m', i1, i2, i3, i4, i5, i6⟩ := ih h q
      obtain ⟨ω, j1, j2, j3, j4, j5, j6⟩ := M_pop2 (d := d) (l := l) i3 (by rw [Ag_i i2 66 rfl]; exact h0.1) (by rw [Ag_i i2 67 rfl]; exact h0.2.1) h0.2.2.1 ⟨x1, h0.2.2.2.2.1⟩ (by omega)
      have := i4.1
      have := s.1
      have kt : ∀ Z, Kp υ ω t Z := fun Z => ⟨fun i hi => ⟨j5 i, j6 i (by omega)⟩, fun i hi => by rw [Ag_i j2 66 rfl, Ag_i j2 67 rfl]; exact ⟨rfl, rfl⟩⟩
      refine ⟨ω, m', i1.trans j1, Ag_t i2 j2, j3, ?_, fun Z => Kp_t (Kp_w (i5 Z) (by omega) (Nat.le_refl _)) (kt Z) s.1 (Nat.le_refl _), by omega⟩
      rw [f]
      refine SgS_skip (Kp_g (kt 0) (Nat.le_refl _) (Kp_g (i5 0) (by omega) s)) x4 (by omega) ?_ (by rw [gM_1, j4]) (SgS_e i4 (fun i h1 h2 => ?_)) (Nat.le_refl _) (Nat.le_refl _) x2
      · rw [gM_0, j5, ((i5 0).1 t (by omega)).1, x5]; congr 1; omega
      · rw [gM_0, gM_0, gM_1, gM_1, j5, j6 i (by omega)]; exact ⟨rfl, rfl⟩
theorem M_settle {l : Nat} (hl : l ≤ L) (h6 : l ≤ 6) {r K z a m n p o : Nat} {X : Tx} {φ : Ph} {τ : Hp} (h : MS τ X p m n (z + r) o) (q : Pd τ L r K z a m φ) (hb : Bs τ l z) : Ev (den (d + 1, 160, 0, [.ref 57, .int (nI l)], [], τ)) (fun v υ => v = none ∧ Qpe τ υ ∧ (∀ Z, Kp τ υ a Z) ∧ ∃ m', MS υ X p m' n z o ∧ SgS (gM υ) a m' K φ ∧ m' + z ≤ m + (z + r)) := by
  obtain ⟨υ, m', i1, i2, i3, i4, i5, i6⟩ := M_set (d := d) hl h.1 q
  refine Ev_e (i1.trans (M_stop i3 (fun y hy => by rw [Ag_i i2 66 rfl]; exact hb y hy) h6)) (Ev_s ⟨rfl, Qse_p i2, i5, m', MS_pe h (Qse_p i2) i3, i4, i6⟩)
/-- settling ends, whatever lies there -/
theorem M_setany : ∀ {z m : Nat} {τ : Hp}, MT τ m z → Ev (den (d + 1, 160, 0, [.ref 57, .int (nI 1)], [], τ)) (fun v υ => v = none ∧ Qse τ υ ∧ ∃ m' z', MT υ m' z') := by
  intro z
  induction z with
  | zero => intro m τ h; exact Ev_e (M_stop h (fun y hy => by omega) (by omega)) (Ev_s ⟨rfl, Ag_r, m, 0, h⟩)
  | succ z ih =>
    intro m τ h
    obtain ⟨e, t, e1, e2, e3, e4, e5⟩ := h.2.2.2.2 z (by omega)
    by_cases w : 30 ≤ e
    · refine Ev_e (M_stop h (fun y hy => ?_) (by omega)) (Ev_s ⟨rfl, Ag_r, m, z + 1, h⟩)
      obtain rfl : z = y := by omega
      exact ⟨e, e1, e3, e4, by unfold bnd; rw [if_pos w]; omega⟩
    · have b1 : 1 ≤ bnd e := by unfold bnd; rw [if_neg w]; repeat (first | omega | split)
      by_cases w2 : 28 ≤ e
      · obtain ⟨υ, j1, j2, j3, -⟩ := M_pop2 (d := d) h e1 e2 e5 ⟨w2, by omega⟩ b1
        exact Ev_e j1 (Ev_m (ih j3) (fun v ω r => ⟨r.1, Ag_t j2 r.2.1, r.2.2⟩))
      · obtain ⟨υ, j1, j2, j3, -⟩ := M_pop (d := d) h e1 e2 ⟨e3, by omega⟩ b1 w2
        exact Ev_e j1 (Ev_m (ih j3) (fun v ω r => ⟨r.1, Ag_t j2 r.2.1, r.2.2⟩))
end
