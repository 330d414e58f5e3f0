/-! what a piece of code lays, in the class -/
/-- the class stands ready for the code f of a .. b - 1, in the array q -/
def Cd (f : Nat → Int32) (a b q fr en : Nat) (τ : Hp) (w : Wd) : Prop := FxC τ ∧ (kd τ q = 100 ∧ ¬ q = 20 ∧ en ≤ hL τ q ∧ hL τ q ≤ 1024) ∧ (∀ i, a ≤ i → i < b → hI τ q i = f i) ∧ (fr ≤ a ∧ b ≤ en) ∧ WdC τ w
theorem WdC_k {σ τ : Hp} {w : Wd} (g : Qk σ τ) (h : WdC σ w) : WdC τ w := fun j hj => by rw [Ag_i g 19 rfl]; exact h j hj
theorem Cd_k {f : Nat → Int32} {a b q fr en : Nat} {σ τ : Hp} {w : Wd} (g : Qk σ τ) (h : Cd f a b q fr en σ w) : Cd f a b q fr en τ w := by
  obtain ⟨h1, ⟨h2, h3, h4, h5⟩, h6, h7, h8⟩ := h
  refine ⟨Qk_C g h1, ⟨by rw [Ag_k g]; exact h2, h3, by rw [Ag_l g]; exact h4, by rw [Ag_l g]; exact h5⟩, fun i hi hj => ?_, h7, WdC_k g h8⟩
  rw [Ag_i g q (by
    cases e : Nat.beq q 20 with
    | false => rfl
    | true => exact absurd (Nat.eq_of_beq_eq_true e) h3)]
  exact h6 i hi hj
theorem Cd_s {f : Nat → Int32} {a b a' b' q fr en : Nat} {τ : Hp} {w : Wd} (h : Cd f a b q fr en τ w) (ha : a ≤ a') (hb : b' ≤ b) : Cd f a' b' q fr en τ w := by
  obtain ⟨h1, h2, h6, h7, h8⟩ := h
  exact ⟨h1, h2, fun i hi hj => h6 i (by omega) (by omega), by omega, h8⟩
def hdC (d q fr en a : Nat) (l : Value) (τ : Hp) : Fr := (d + 2, 34, 8, [.ref 18, .ref q, .int (nI fr), .int (nI en), .int (nI a), l], [], τ)
def SgC (f : Nat → Int32) (a b k : Nat) (φ : Ph) : Prop := a ≤ b ∧ ∀ (d q fr en n : Nat) (s : Nat → Int) (w : Wd) (τ : Hp) (l : Value), Cd f a b q fr en τ w → StkC τ n s → n + k ≤ 64 → (φ w = none → Ev (den (hdC d q fr en a l τ)) (fun v υ => v = some (.int (nI 0)) ∧ Qk τ υ)) ∧ ∀ z, φ w = some z → ∃ υ l', den (hdC d q fr en a l τ) = den (hdC d q fr en b l' υ) ∧ Qk τ υ ∧ StkC υ (n + 1) (ud s n z)
theorem SgC_e {f g : Nat → Int32} {a b k : Nat} {φ : Ph} (h : SgC f a b k φ) (e : ∀ i, a ≤ i → i < b → f i = g i) : SgC g a b k φ := by
  refine ⟨h.1, fun d q fr en n s w τ l hc => ?_⟩
  exact h.2 d q fr en n s w τ l ⟨hc.1, hc.2.1, fun i hi hj => by rw [hc.2.2.1 i hi hj, e i hi hj], hc.2.2.2⟩
theorem SgC_k {f : Nat → Int32} {a b k k' : Nat} {φ : Ph} (h : SgC f a b k φ) (e : k ≤ k') : SgC f a b k' φ := ⟨h.1, fun d q fr en n s w τ l hc hs hn => h.2 d q fr en n s w τ l hc hs (by omega)⟩
section
variable {d n : Nat} {s : Nat → Int} {σ τ υ : Hp} {f : Nat → Int32} {a b q fr en : Nat} {w : Wd} {l : Value}
theorem C_h1 {x : Int32} (hc : Cd f a (a + 1) q fr en τ w) (hx : f a = x) (n8 : (x = -18) = False) (n9 : (x = -19) = False) (n0 : (x = -20) = False) (e : den (d + 1, 36, 0, [.ref 18, .int x, .float 0, .float 0, .float 0, .float 0], [], τ) = some (some (.int (nI 1)), υ)) : den (hdC d q fr en a l τ) = den (hdC d q fr en (a + 1) (.int x) υ) := by
  obtain ⟨h1, ⟨h2, h3, h4, h5⟩, h6, h7, h8⟩ := hc
  have e1 := h6 a (Nat.le_refl _) (Nat.lt_succ_self _)
  unfold hdC
  rw [a34_8]
  simp (disch := first | omega | (repeat (first | assumption | exact Ag_r | refine Ag_I ?_ rfl | refine Ag_F ?_ rfl | refine Ag_J ?_ rfl))) only [A34, FC h1, h2, e1, hx, n8, n9, n0, e, CO, HA, HB, HC, Nat.not_lt_zero, Nat.add_assoc, c_nlt, c_nle, c_neq, c_P, c_cl, c_m1, c_m1', nI_add, pk_mul, reduceIte, Nat.reduceEqDiff, Nat.reduceAdd, Nat.reduceMul, Nat.reduceLeDiff, eq_self, ↓pk_rem, pk_div, c_of, d_le, d_nle, d_lt, d_nlt, d_eq, d_ne]
theorem C_h0 {x : Int32} (hc : Cd f a (a + 1) q fr en τ w) (hx : f a = x) (n8 : (x = -18) = False) (n9 : (x = -19) = False) (n0 : (x = -20) = False) (e : den (d + 1, 36, 0, [.ref 18, .int x, .float 0, .float 0, .float 0, .float 0], [], τ) = some (some (.int (nI 0)), υ)) : den (hdC d q fr en a l τ) = some (some (.int (nI 0)), υ) := by
  obtain ⟨h1, ⟨h2, h3, h4, h5⟩, h6, h7, h8⟩ := hc
  have e1 := h6 a (Nat.le_refl _) (Nat.lt_succ_self _)
  unfold hdC
  rw [a34_8]
  simp (disch := first | omega | (repeat (first | assumption | exact Ag_r | refine Ag_I ?_ rfl | refine Ag_F ?_ rfl | refine Ag_J ?_ rfl))) only [A34, FC h1, h2, e1, hx, n8, n9, n0, e, CO, HA, HB, HC, Nat.not_lt_zero, Nat.add_assoc, c_nlt, c_nle, c_neq, c_P, c_cl, c_m1, c_m1', nI_add, pk_mul, reduceIte, Nat.reduceEqDiff, Nat.reduceAdd, Nat.reduceMul, Nat.reduceLeDiff, eq_self, ↓pk_rem, pk_div, c_of, d_le, d_nle, d_lt, d_nlt, d_eq, d_ne]
theorem zI_ne {x y : Int} (hx : -1000 ≤ x ∧ x ≤ 1000) (hy : -1000 ≤ y ∧ y ≤ 1000) (h : ¬ x = y) : (zI x = zI y) = False := by rw [zI_eq (by omega) (by omega)]; exact eq_false h
theorem m18 : (-18 : Int32) = zI (-18) ∧ (-19 : Int32) = zI (-19) ∧ (-20 : Int32) = zI (-20) := ⟨rfl, rfl, rfl⟩
theorem SgC_num {k : Nat} (hk : k ≤ 1000) (hf : f a = nI k) : SgC f a (a + 1) 1 (fun _ => some (k : Int)) := by
  refine ⟨by omega, fun d q fr en n s w τ l hc hs hn => ⟨fun z => (nomatch z), fun z hz => ?_⟩⟩
  obtain ⟨υ, e, g, s1⟩ := C_run_num (d := d) hc.1 hs (by omega) hk
  cases hz
  exact ⟨υ, _, C_h1 hc hf (by rw [m18.1, ← zI_n]; exact zI_ne (by omega) (by omega) (by omega)) (by rw [m18.2.1, ← zI_n]; exact zI_ne (by omega) (by omega) (by omega)) (by rw [m18.2.2, ← zI_n]; exact zI_ne (by omega) (by omega) (by omega)) e, g, s1⟩
theorem SgC_word {j : Nat} (hj : j < 8) (hf : f a = zI (-1 - (j : Int))) : SgC f a (a + 1) 1 (fun w => some (w j)) := by
  refine ⟨by omega, fun d q fr en n s w τ l hc hs hn => ⟨fun z => (nomatch z), fun z hz => ?_⟩⟩
  obtain ⟨υ, e, g, s1⟩ := C_run_word (d := d) hc.1 hs (by omega) hc.2.2.2.2 hj
  cases hz
  exact ⟨υ, _, C_h1 hc hf (by rw [m18.1]; exact zI_ne (by omega) (by omega) (by omega)) (by rw [m18.2.1]; exact zI_ne (by omega) (by omega) (by omega)) (by rw [m18.2.2]; exact zI_ne (by omega) (by omega) (by omega)) e, g, s1⟩
theorem SgC_op {b c k1 k2 k o : Nat} {φ ψ : Ph} (h1 : SgC f a b k1 φ) (h2 : SgC f b c k2 ψ) (ho : o < 7) (hf : f c = opC o) (hk1 : k1 ≤ k) (hk2 : k2 + 1 ≤ k) (hk : 2 ≤ k) : SgC f a (c + 1) k (phO o φ ψ) := by
  have l1 := h1.1
  have l2 := h2.1
  refine ⟨by omega, fun d q fr en n s w τ l hc hs hn => ?_⟩
  have A1 := h1.2 d q fr en n s w τ l (Cd_s hc (Nat.le_refl _) (by omega)) hs (by omega)
  cases p : φ w with
  | none => exact ⟨fun _ => A1.1 p, fun z hz => by simp [phO, p] at hz⟩
  | some x =>
    obtain ⟨τ1, v1, e1, g1, s1⟩ := A1.2 x p
    have hc1 := Cd_k g1 hc
    have A2 := h2.2 d q fr en (n + 1) (ud s n x) w τ1 v1 (Cd_s hc1 (by omega) (by omega)) s1 (by omega)
    cases p2 : ψ w with
    | none =>
      refine ⟨fun _ => ?_, fun z hz => by simp [phO, p, p2] at hz⟩
      rw [e1]
      exact Ev_m (A2.1 p2) (fun v υ h => ⟨h.1, Ag_t g1 h.2⟩)
    | some y =>
      obtain ⟨τ2, v2, e2, g2, s2⟩ := A2.2 y p2
      have hc2 := Cd_k g2 hc1
      obtain ⟨τ3, e3, g3, s3⟩ := C_run_op (d := d) hc2.1 s2 (by omega) ho
      have r1 : ud (ud s n x) (n + 1) y n = x := by unfold ud; rw [if_neg (by omega), if_pos rfl]
      have r2 : ud (ud s n x) (n + 1) y (n + 1) = y := by unfold ud; rw [if_pos rfl]
      rw [r1, r2] at e3 s3
      have pw : phO o φ ψ w = bop o x y := by simp [phO, p, p2]
      have n8 : (opC o = -18) = False := by rw [m18.1]; exact zI_ne (by omega) (by omega) (by omega)
      have n9 : (opC o = -19) = False := by rw [m18.2.1]; exact zI_ne (by omega) (by omega) (by omega)
      have n0 : (opC o = -20) = False := by rw [m18.2.2]; exact zI_ne (by omega) (by omega) (by omega)
      rw [pw]
      cases p3 : bop o x y with
      | none =>
        rw [p3] at e3
        refine ⟨fun _ => ?_, fun z hz => nomatch hz⟩
        rw [e1, e2, C_h0 (Cd_s hc2 (by omega) (Nat.le_refl _)) hf n8 n9 n0 e3]
        exact Ev_s ⟨rfl, Ag_t g1 (Ag_t g2 g3)⟩
      | some r =>
        rw [p3] at e3
        refine ⟨fun hz => (nomatch hz), fun z hz => ?_⟩
        cases hz
        refine ⟨τ3, .int (opC o), ?_, Ag_t g1 (Ag_t g2 g3), ?_⟩
        · rw [e1, e2, C_h1 (Cd_s hc2 (by omega) (Nat.le_refl _)) hf n8 n9 n0 e3]
        · have s4 := s3 r p3
          refine ⟨s4.1, fun i hi => ?_⟩
          have := s4.2 i hi
          unfold ud at this ⊢
          by_cases z : i = n
          · simpa [z] using this
          · simpa [z, show ¬ i = n + 1 by omega] using this
/-- what is told is 0 or 1 -/
def bl (φ : Ph) : Prop := ∀ w z, φ w = some z → z = 0 ∨ z = 1
theorem SgC_not {b k : Nat} {φ : Ph} (h1 : SgC f a b k φ) (hb : bl φ) (hf : f b = -17) (hk : 1 ≤ k) : SgC f a (b + 1) k (phN φ) := by
  have l1 := h1.1
  refine ⟨by omega, fun d q fr en n s w τ l hc hs hn => ?_⟩
  have A1 := h1.2 d q fr en n s w τ l (Cd_s hc (Nat.le_refl _) (by omega)) hs (by omega)
  cases p : φ w with
  | none => exact ⟨fun _ => A1.1 p, fun z hz => by simp [phN, p] at hz⟩
  | some x =>
    obtain ⟨τ1, v1, e1, g1, s1⟩ := A1.2 x p
    have hc1 := Cd_k g1 hc
    have r1 : ud s n x n = x := by unfold ud; rw [if_pos rfl]
    obtain ⟨τ3, e3, g3, s3⟩ := C_run_not (d := d) hc1.1 s1 (by omega) (by rw [r1]; exact hb w x p)
    rw [r1] at s3
    refine ⟨fun z => by simp [phN, p] at z, fun z hz => ?_⟩
    obtain rfl : 1 - x = z := by simpa [phN, p] using hz
    refine ⟨τ3, .int (-17), ?_, Ag_t g1 g3, ?_⟩
    · rw [e1, C_h1 (Cd_s hc1 (by omega) (Nat.le_refl _)) hf (eq_false (by decide)) (eq_false (by decide)) (eq_false (by decide)) e3]
    · refine ⟨s3.1, fun i hi => ?_⟩
      have := s3.2 i hi
      unfold ud at this ⊢
      by_cases z : i = n
      · simpa [z] using this
      · simpa [z] using this
theorem SgC_skip {b c k1 k2 k g : Nat} {φ ψ : Ph} (h1 : SgC f a b k1 φ) (hb : bl φ) (hg : g < 2) (hf : f b = zI (-18 - (g : Int))) (hf2 : f (b + 1) = nI c) (h2 : SgC f (b + 2) c k2 ψ) (hc4 : c ≤ 1024) (hk1 : k1 ≤ k) (hk2 : k2 ≤ k) (hk : 1 ≤ k) : SgC f a c k (phS (g : Int) φ ψ) := by
  have l1 := h1.1
  have l2 := h2.1
  refine ⟨by omega, fun d q fr en n s w τ l hc hs hn => ?_⟩
  have A1 := h1.2 d q fr en n s w τ l (Cd_s hc (Nat.le_refl _) (by omega)) hs (by omega)
  cases p : φ w with
  | none => exact ⟨fun _ => A1.1 p, fun z hz => by simp [phS, p] at hz⟩
  | some x =>
    obtain ⟨τ1, v1, e1, g1, s1⟩ := A1.2 x p
    have hc1 := Cd_k g1 hc
    have r1 : ud s n x n = x := by unfold ud; rw [if_pos rfl]
    obtain ⟨τ3, e3, g3, s3, s4⟩ := C_skips (d := d) hc1.1 s1 (by omega) (by rw [r1]; exact hb w x p) hg
    rw [r1] at e3 s3 s4
    have hc3 := Cd_k g3 hc1
    obtain ⟨k1', ⟨k2', k3', k4', k5'⟩, k6, k7, k8⟩ := hc1
    obtain ⟨j1', ⟨j2', j3', j4', j5'⟩, j6, j7, j8⟩ := hc3
    have x1 := k6 b (by omega) (by omega)
    have x2 := j6 (b + 1) (by omega) (by omega)
    rw [hf] at x1
    rw [hf2] at x2
    have n8 : (zI (-18 - (g : Int)) = -18) = (g = 0) := by
      rw [m18.1, zI_eq (by omega) (by omega), eq_iff_iff]; omega
    have n9 : (zI (-18 - (g : Int)) = -19) = (g = 1) := by
      rw [m18.2.1, zI_eq (by omega) (by omega), eq_iff_iff]; omega
    by_cases z : x = (g : Int)
    · have pw : phS (g : Int) φ ψ w = some (g : Int) := by simp [phS, p, z]
      rw [pw]
      refine ⟨fun hz => (nomatch hz), fun y hy => ?_⟩
      cases hy
      rw [if_pos z] at e3
      have hd : den (hdC d q fr en b v1 τ1) = den (hdC d q fr en c (.int (zI (-18 - (g : Int)))) τ3) := by
        unfold hdC
        rw [a34_8]
        obtain rfl | rfl : g = 0 ∨ g = 1 := by omega
        · simp (disch := first | omega | (repeat (first | assumption | exact Ag_r | refine Ag_I ?_ rfl | refine Ag_F ?_ rfl | refine Ag_J ?_ rfl))) only [A34, FC k1', k2', x1, n8, n9, e3, FC j1', j2', x2, CO, HA, HB, HC, Nat.not_lt_zero, Nat.add_assoc, c_nlt, c_nle, c_neq, c_P, c_cl, c_m1, c_m1', nI_add, pk_mul, reduceIte, Nat.reduceEqDiff, Nat.reduceAdd, Nat.reduceMul, Nat.reduceLeDiff, eq_self, ↓pk_rem, pk_div, c_of, d_le, d_nle, d_lt, d_nlt, d_eq, d_ne]
        · simp (disch := first | omega | (repeat (first | assumption | exact Ag_r | refine Ag_I ?_ rfl | refine Ag_F ?_ rfl | refine Ag_J ?_ rfl))) only [A34, FC k1', k2', x1, n8, n9, e3, FC j1', j2', x2, CO, HA, HB, HC, Nat.not_lt_zero, Nat.add_assoc, c_nlt, c_nle, c_neq, c_P, c_cl, c_m1, c_m1', nI_add, pk_mul, reduceIte, Nat.reduceEqDiff, Nat.reduceAdd, Nat.reduceMul, Nat.reduceLeDiff, eq_self, ↓pk_rem, pk_div, c_of, d_le, d_nle, d_lt, d_nlt, d_eq, d_ne]
      refine ⟨τ3, _, by rw [e1, hd], Ag_t g1 g3, ?_⟩
      have s5 := s3 z
      refine ⟨s5.1, fun i hi => ?_⟩
      have := s5.2 i hi
      unfold ud at this ⊢
      by_cases z : i = n
      · simpa [z] using this
      · simpa [z] using this
    · have pw : phS (g : Int) φ ψ w = ψ w := by simp [phS, p, z]
      rw [pw]
      rw [if_neg z] at e3
      have hd : den (hdC d q fr en b v1 τ1) = den (hdC d q fr en (b + 2) (.int (zI (-18 - (g : Int)))) τ3) := by
        unfold hdC
        rw [a34_8]
        obtain rfl | rfl : g = 0 ∨ g = 1 := by omega
        · simp (disch := first | omega | (repeat (first | assumption | exact Ag_r | refine Ag_I ?_ rfl | refine Ag_F ?_ rfl | refine Ag_J ?_ rfl))) only [A34, FC k1', k2', x1, n8, n9, e3, CO, HA, HB, HC, Nat.not_lt_zero, Nat.add_assoc, c_nlt, c_nle, c_neq, c_P, c_cl, c_m1, c_m1', nI_add, pk_mul, reduceIte, Nat.reduceEqDiff, Nat.reduceAdd, Nat.reduceMul, Nat.reduceLeDiff, eq_self, ↓pk_rem, pk_div, c_of, d_le, d_nle, d_lt, d_nlt, d_eq, d_ne]
        · simp (disch := first | omega | (repeat (first | assumption | exact Ag_r | refine Ag_I ?_ rfl | refine Ag_F ?_ rfl | refine Ag_J ?_ rfl))) only [A34, FC k1', k2', x1, n8, n9, e3, CO, HA, HB, HC, Nat.not_lt_zero, Nat.add_assoc, c_nlt, c_nle, c_neq, c_P, c_cl, c_m1, c_m1', nI_add, pk_mul, reduceIte, Nat.reduceEqDiff, Nat.reduceAdd, Nat.reduceMul, Nat.reduceLeDiff, eq_self, ↓pk_rem, pk_div, c_of, d_le, d_nle, d_lt, d_nlt, d_eq, d_ne]
      have s5 := s4 z
      have s6 : StkC τ3 n s := ⟨s5.1, fun i hi => by
        have := s5.2 i hi
        unfold ud at this
        rwa [if_neg (by omega)] at this⟩
      have A2 := h2.2 d q fr en n s w τ3 (.int (zI (-18 - (g : Int)))) ⟨j1', ⟨j2', j3', j4', j5'⟩, fun i hi hj => j6 i (by omega) (by omega), by omega, j8⟩ s6 (by omega)
      refine ⟨fun hz => ?_, fun y hy => ?_⟩
      · rw [e1, hd]
        exact Ev_m (A2.1 hz) (fun v υ h => ⟨h.1, Ag_t g1 (Ag_t g3 h.2)⟩)
      · obtain ⟨τ4, v4, e4, g4, s7⟩ := A2.2 y hy
        exact ⟨τ4, v4, by rw [e1, hd, e4], Ag_t g1 (Ag_t g3 g4), s7⟩
end
/-! what a piece of code lays, in the model -/
def Qj (σ τ : Hp) : Prop := Ag (fun k => Nat.beq k 71) (fun k j => Nat.beq k 57 && (Nat.beq j 30 || Nat.beq j 31 || Nat.beq j 32)) σ τ
theorem Qj_m {σ τ : Hp} (g : Qj σ τ) : Qm σ τ := Ag_w g (fun k e => by have := Nat.eq_of_beq_eq_true e; subst this; rfl) (fun k j e => by
  simp only [Bool.and_eq_true, Bool.or_eq_true] at e
  obtain ⟨e1, (e2 | e2) | e2⟩ := e <;>
  · have e1 := Nat.eq_of_beq_eq_true e1
    have e2 := Nat.eq_of_beq_eq_true e2
    subst e1 e2; rfl)
theorem Qj_M {σ τ : Hp} (g : Qj σ τ) (h : FxM σ) : FxM τ := Qm_M (Qj_m g) h
def SkM (τ : Hp) (n : Nat) (s : Nat → Int) : Prop := ∀ i, i < n → hJ τ 71 i = zL (s i) ∧ Bz (s i)
def WdM (σ : Hp) (w : Wd) : Prop := ∀ j, j < 8 → hJ σ 70 (j + 1) = zL (w j) ∧ -1000 ≤ w j ∧ w j ≤ 1000
/-- the model stands ready for the code g of a .. b - 1 of the law at B -/
def Md (g : Nat → Int32) (a b B en : Nat) (τ : Hp) (w : Wd) : Prop := FxM τ ∧ (hF τ 57 27 = .int (nI B) ∧ B + 900 ≤ 5790) ∧ (∀ i, a ≤ i → i < b → hI τ 59 (B + 98 + 2 * i) = g (98 + 2 * i) ∧ hI τ 59 (B + 98 + 2 * i + 1) = g (98 + 2 * i + 1)) ∧ (b ≤ en ∧ en ≤ 400) ∧ WdM τ w
theorem Md_k {g : Nat → Int32} {a b B en : Nat} {σ τ : Hp} {w : Wd} (q : Qj σ τ) (h : Md g a b B en σ w) : Md g a b B en τ w := by
  obtain ⟨h1, h2, h6, h7, h8⟩ := h
  refine ⟨Qj_M q h1, ⟨by rw [Ag_f q 57 27 rfl]; exact h2.1, h2.2⟩, fun i hi hj => ?_, h7, fun j hj => ?_⟩
  · rw [Ag_i q 59 rfl]; exact h6 i hi hj
  · rw [Ag_j q 70 rfl]; exact h8 j hj
theorem Md_s {g : Nat → Int32} {a b a' b' B en : Nat} {τ : Hp} {w : Wd} (h : Md g a b B en τ w) (ha : a ≤ a') (hb : b' ≤ b) : Md g a' b' B en τ w := by
  obtain ⟨h1, h2, h6, h7, h8⟩ := h
  exact ⟨h1, h2, fun i hi hj => h6 i (by omega) (by omega), by omega, h8⟩
def hdM (d fr en n a : Nat) (l l2 : Value) (τ : Hp) : Fr := (d + 2, 175, 10, [.ref 57, .int (nI fr), .int (nI en), .int (nI n), .int (nI a), l, l2], [], τ)
/-- it is broken and it ends -/
abbrev Brk (τ : Hp) (o : Option Rs) : Prop := Ev o (fun v υ => v = none ∧ Qj τ υ ∧ hF υ 57 30 = .int (nI 1) ∧ ∃ x, hF υ 57 31 = .long x)
def SgM (g : Nat → Int32) (a b k : Nat) (φ : Ph) : Prop := a ≤ b ∧ ∀ (d B fr en n : Nat) (s : Nat → Int) (w : Wd) (τ : Hp) (l l2 : Value), Md g a b B en τ w → SkM τ n s → n + k ≤ 400 → hF τ 57 30 = .int (nI 0) → (φ w = none → Brk τ (den (hdM d fr en n a l l2 τ))) ∧ ∀ z, φ w = some z → ∃ υ l' l2', den (hdM d fr en n a l l2 τ) = den (hdM d fr en (n + 1) b l' l2' υ) ∧ Qj τ υ ∧ SkM υ (n + 1) (ud s n z) ∧ hF υ 57 30 = .int (nI 0)
theorem SgM_e {f g : Nat → Int32} {a b k : Nat} {φ : Ph} (h : SgM f a b k φ) (e : ∀ i, a ≤ i → i < b → f (98 + 2 * i) = g (98 + 2 * i) ∧ f (98 + 2 * i + 1) = g (98 + 2 * i + 1)) : SgM g a b k φ := by
  refine ⟨h.1, fun d B fr en n s w τ l l2 hc => ?_⟩
  exact h.2 d B fr en n s w τ l l2 ⟨hc.1, hc.2.1, fun i hi hj => by rw [(hc.2.2.1 i hi hj).1, (hc.2.2.1 i hi hj).2, (e i hi hj).1, (e i hi hj).2]; exact ⟨rfl, rfl⟩, hc.2.2.2⟩
theorem SgM_k {f : Nat → Int32} {a b k k' : Nat} {φ : Ph} (h : SgM f a b k φ) (e : k ≤ k') : SgM f a b k' φ := ⟨h.1, fun d B fr en n s w τ l l2 hc hs hn => h.2 d B fr en n s w τ l l2 hc hs (by omega)⟩
theorem n_m1 {n : Nat} : nI (n + 1) + (-1) = nI n := by
  rw [← nI_add, Int32.add_assoc, show nI 1 + (-1 : Int32) = 0 from by decide, Int32.add_zero]
theorem n_s1 {n : Nat} : nI (n + 1) - nI 1 = nI n := by rw [pk_sub (by omega), Nat.add_sub_cancel]
theorem uL {f : Nat → Int64} {k j : Nat} {x : Int64} : vp_updL f k x j = if j = k then x else f j := rfl
section
variable {d n : Nat} {s : Nat → Int} {σ τ υ : Hp} {g : Nat → Int32} {a b B fr en : Nat} {w : Wd} {l l2 : Value}
theorem SkM_p {x : Int} (h : SkM τ n s) (hx : Bz x) : SkM (sJ τ 71 (vp_updL (hJ τ 71) n (zL x))) (n + 1) (ud s n x) := by
  intro i hi
  simp only [HA, reduceIte, uL, ud]
  by_cases z : i = n
  · rw [if_pos z, if_pos z]; exact ⟨rfl, hx⟩
  · rw [if_neg z, if_neg z]; exact h i (by omega)
theorem SgM_num {k : Nat} (hk : k ≤ 1000) (hf : g (98 + 2 * a) = nI 0) (hf2 : g (98 + 2 * a + 1) = nI k) : SgM g a (a + 1) 1 (fun _ => some (k : Int)) := by
  refine ⟨by omega, fun d B fr en n s w τ l l2 hc hs hn h0 => ⟨fun z => (nomatch z), fun z hz => ?_⟩⟩
  cases hz
  obtain ⟨h1, ⟨h2, h3⟩, h6, h7, h8⟩ := hc
  obtain ⟨e1, e2⟩ := h6 a (Nat.le_refl _) (Nat.lt_succ_self _)
  rw [hf] at e1
  rw [hf2] at e2
  have e3 : (nI k).toInt64 = zL (k : Int) := by rw [← zI_n, zI_L (by omega) (by omega)]
  refine ⟨sJ τ 71 (vp_updL (hJ τ 71) n (zL (k : Int))), .int (nI 0), .int (nI k), ?_, Ag_J Ag_r rfl, SkM_p hs ⟨by omega, by omega⟩, h0⟩
  unfold hdM
  rw [a175_10]
  simp only [Nat.add_assoc] at e1 e2
  simp (disch := first | omega | (repeat (first | assumption | exact Ag_r | refine Ag_I ?_ rfl | refine Ag_F ?_ rfl | refine Ag_J ?_ rfl))) only [A175, FM h1, h0, h2, e1, e2, e3, CO, HA, HB, HC, Nat.not_lt_zero, Nat.add_assoc, c_nlt, c_nle, c_neq, c_P, c_cl, c_m1, c_m1', nI_add, pk_mul, reduceIte, Nat.reduceEqDiff, Nat.reduceAdd, Nat.reduceMul, Nat.reduceLeDiff, eq_self, ↓pk_rem, pk_div, c_of, d_le, d_nle, d_lt, d_nlt, d_eq, d_ne]
theorem SgM_word {j : Nat} (hj : j < 8) (hf : g (98 + 2 * a) = nI (j + 1)) : SgM g a (a + 1) 1 (fun w => some (w j)) := by
  refine ⟨by omega, fun d B fr en n s w τ l l2 hc hs hn h0 => ⟨fun z => (nomatch z), fun z hz => ?_⟩⟩
  cases hz
  obtain ⟨h1, ⟨h2, h3⟩, h6, h7, h8⟩ := hc
  obtain ⟨e1, e2⟩ := h6 a (Nat.le_refl _) (Nat.lt_succ_self _)
  obtain ⟨e3, e4, e5⟩ := h8 j hj
  rw [hf] at e1
  refine ⟨sJ τ 71 (vp_updL (hJ τ 71) n (zL (w j))), .int (nI (j + 1)), .int (g (98 + 2 * a + 1)), ?_, Ag_J Ag_r rfl, SkM_p hs ⟨by omega, by omega⟩, h0⟩
  unfold hdM
  rw [a175_10]
  simp only [Nat.add_assoc] at e1 e2 ⊢
  simp (disch := first | omega | (repeat (first | assumption | exact Ag_r | refine Ag_I ?_ rfl | refine Ag_F ?_ rfl | refine Ag_J ?_ rfl))) only [A175, FM h1, h0, h2, e1, e2, e3, CO, HA, HB, HC, Nat.not_lt_zero, Nat.add_assoc, c_nlt, c_nle, c_neq, c_P, c_cl, c_m1, c_m1', nI_add, pk_mul, reduceIte, Nat.reduceEqDiff, Nat.reduceAdd, Nat.reduceMul, Nat.reduceLeDiff, eq_self, ↓pk_rem, pk_div, c_of, d_le, d_nle, d_lt, d_nlt, d_eq, d_ne]
/-- what an operation gives, before it is looked at -/
def raw (o : Nat) (x y : Int) : Int :=
  if o = 0 then x + y else if o = 1 then x - y else if o = 2 then x * y else if o = 3 then (if y = 0 then 0 else x.tdiv y)
  else if o = 4 then (if x < y then 1 else 0) else if o = 5 then (if y < x then 1 else 0) else (if x = y then 1 else 0)
theorem bop_raw {o : Nat} (ho : o < 7) {x y : Int} (hx : Bz x) : bop o x y = if (o = 3 ∧ y = 0) ∨ ¬ Bz (raw o x y) then none else some (raw o x y) := by
  obtain rfl | rfl | rfl | rfl | rfl | rfl | rfl : o = 0 ∨ o = 1 ∨ o = 2 ∨ o = 3 ∨ o = 4 ∨ o = 5 ∨ o = 6 := by omega
  · simp only [bop, raw, reduceIte, Nat.reduceEqDiff, false_and, false_or]
    by_cases h : Bz (x + y)
    · rw [if_pos h, if_neg (not_not_intro h)]
    · rw [if_neg h, if_pos h]
  · simp only [bop, raw, reduceIte, Nat.reduceEqDiff, false_and, false_or]
    by_cases h : Bz (x - y)
    · rw [if_pos h, if_neg (not_not_intro h)]
    · rw [if_neg h, if_pos h]
  · simp only [bop, raw, reduceIte, Nat.reduceEqDiff, false_and, false_or]
    by_cases h : Bz (x * y)
    · rw [if_pos h, if_neg (not_not_intro h)]
    · rw [if_neg h, if_pos h]
  · simp only [bop, raw, reduceIte, Nat.reduceEqDiff, true_and]
    by_cases h : y = 0
    · simp only [h, reduceIte, true_or]
    · have := tdiv_B hx h
      rw [if_neg h, if_neg h, if_neg (by rintro (z | z); exact h z; exact z this)]
  · simp only [bop, raw, reduceIte, Nat.reduceEqDiff, false_and, false_or]
    by_cases h : x < y
    · rw [if_pos h, if_neg (by unfold Bz; omega)]
    · rw [if_neg h, if_neg (by unfold Bz; omega)]
  · simp only [bop, raw, reduceIte, Nat.reduceEqDiff, false_and, false_or]
    by_cases h : y < x
    · rw [if_pos h, if_neg (by unfold Bz; omega)]
    · rw [if_neg h, if_neg (by unfold Bz; omega)]
  · simp only [bop, raw, reduceIte, Nat.reduceEqDiff, false_and, false_or]
    by_cases h : x = y
    · rw [if_pos h, if_neg (by unfold Bz; omega)]
    · rw [if_neg h, if_neg (by unfold Bz; omega)]
theorem raw_L (o : Nat) {x y : Int} (hx : Bz x) (hy : Bz y) : -1000000000000000000 ≤ raw o x y ∧ raw o x y ≤ 1000000000000000000 := by
  have h1 := mul_B hx hy
  have h2 := @tdiv_B x y hx
  unfold Bz at hx hy h2
  unfold raw
  split
  · omega
  · split
    · omega
    · split
      · omega
      · split
        · split
          · omega
          · next h => have := h2 h; omega
        · split
          · split <;> omega
          · split
            · split <;> omega
            · split <;> omega
theorem M_reckon (h : FxM τ) (h0 : hF τ 57 30 = .int (nI 0)) {o : Nat} (ho : o < 7) {x y : Int} (hx : Bz x) (hy : Bz y) : ∃ υ, den (d, 174, 0, [.ref 57, .int (nI (20 + o)), .long (zL x), .float 0, .long (zL y), .float 0], [], τ) = some (some (.long (zL (raw o x y))), υ) ∧ Ag (fun _ => false) (fun k j => Nat.beq k 57 && Nat.beq j 30) τ υ ∧ hF υ 57 30 = .int (if o = 3 ∧ y = 0 then nI 1 else nI 0) := by
  have bx : -9223372036854775808 ≤ x ∧ x < 9223372036854775808 := by unfold Bz at hx; omega
  have by' : -9223372036854775808 ≤ y ∧ y < 9223372036854775808 := by unfold Bz at hy; omega
  obtain rfl | rfl | rfl | rfl | rfl | rfl | rfl : o = 0 ∨ o = 1 ∨ o = 2 ∨ o = 3 ∨ o = 4 ∨ o = 5 ∨ o = 6 := by omega
  · refine ⟨τ, ?_, Ag_r, h0⟩
    simp (disch := first | omega | (repeat (first | assumption | exact Ag_r | refine Ag_I ?_ rfl | refine Ag_F ?_ rfl | refine Ag_J ?_ rfl))) only [A174, FM h, raw, zL_add, CO, HA, HB, HC, Nat.not_lt_zero, Nat.add_assoc, c_nlt, c_nle, c_neq, c_P, c_cl, c_m1, c_m1', nI_add, pk_mul, reduceIte, Nat.reduceEqDiff, Nat.reduceAdd, Nat.reduceMul, Nat.reduceLeDiff, eq_self, ↓pk_rem, pk_div, c_of, d_le, d_nle, d_lt, d_nlt, d_eq, d_ne]
  · refine ⟨τ, ?_, Ag_r, h0⟩
    simp (disch := first | omega | (repeat (first | assumption | exact Ag_r | refine Ag_I ?_ rfl | refine Ag_F ?_ rfl | refine Ag_J ?_ rfl))) only [A174, FM h, raw, zL_sub, CO, HA, HB, HC, Nat.not_lt_zero, Nat.add_assoc, c_nlt, c_nle, c_neq, c_P, c_cl, c_m1, c_m1', nI_add, pk_mul, reduceIte, Nat.reduceEqDiff, Nat.reduceAdd, Nat.reduceMul, Nat.reduceLeDiff, eq_self, ↓pk_rem, pk_div, c_of, d_le, d_nle, d_lt, d_nlt, d_eq, d_ne]
  · refine ⟨τ, ?_, Ag_r, h0⟩
    simp (disch := first | omega | (repeat (first | assumption | exact Ag_r | refine Ag_I ?_ rfl | refine Ag_F ?_ rfl | refine Ag_J ?_ rfl))) only [A174, FM h, raw, zL_mul, CO, HA, HB, HC, Nat.not_lt_zero, Nat.add_assoc, c_nlt, c_nle, c_neq, c_P, c_cl, c_m1, c_m1', nI_add, pk_mul, reduceIte, Nat.reduceEqDiff, Nat.reduceAdd, Nat.reduceMul, Nat.reduceLeDiff, eq_self, ↓pk_rem, pk_div, c_of, d_le, d_nle, d_lt, d_nlt, d_eq, d_ne]
  · have e0 : (zL y = lN 0) = (y = 0) := by rw [show lN 0 = zL 0 from rfl, zL_eq by' (by omega)]
    by_cases y0 : y = 0
    · refine ⟨sF τ 57 30 (.int (nI 1)), ?_, Ag_F Ag_r rfl, by simp only [HA, and_self, reduceIte, y0]⟩
      simp (disch := first | omega | (repeat (first | assumption | exact Ag_r | refine Ag_I ?_ rfl | refine Ag_F ?_ rfl | refine Ag_J ?_ rfl))) only [A174, FM h, lc_eq, e0, eq_true y0, raw, if_pos y0, CO, HA, HB, HC, Nat.not_lt_zero, Nat.add_assoc, c_nlt, c_nle, c_neq, c_P, c_cl, c_m1, c_m1', nI_add, pk_mul, reduceIte, Nat.reduceEqDiff, Nat.reduceAdd, Nat.reduceMul, Nat.reduceLeDiff, eq_self, ↓pk_rem, pk_div, c_of, d_le, d_nle, d_lt, d_nlt, d_eq, d_ne]
      all_goals rfl
    · refine ⟨sF τ 57 30 (.int (nI 0)), ?_, Ag_F Ag_r rfl, by simp only [HA, and_self, reduceIte, y0, and_false]⟩
      simp (disch := first | omega | (repeat (first | assumption | exact Ag_r | refine Ag_I ?_ rfl | refine Ag_F ?_ rfl | refine Ag_J ?_ rfl))) only [A174, FM h, lc_eq, e0, eq_false y0, raw, if_neg y0, zL_div hx hy, CO, HA, HB, HC, Nat.not_lt_zero, Nat.add_assoc, c_nlt, c_nle, c_neq, c_P, c_cl, c_m1, c_m1', nI_add, pk_mul, reduceIte, Nat.reduceEqDiff, Nat.reduceAdd, Nat.reduceMul, Nat.reduceLeDiff, eq_self, ↓pk_rem, pk_div, c_of, d_le, d_nle, d_lt, d_nlt, d_eq, d_ne]
  · by_cases c : x < y
    · refine ⟨τ, ?_, Ag_r, h0⟩
      simp (disch := first | omega | (repeat (first | assumption | exact Ag_r | refine Ag_I ?_ rfl | refine Ag_F ?_ rfl | refine Ag_J ?_ rfl))) only [A174, FM h, raw, lc_ge, zL_le by' bx, show (y ≤ x) = ¬ (x < y) from propext ⟨fun z => by omega, fun z => by omega⟩, eq_true c, show lN 1 = zL 1 from rfl, CO, HA, HB, HC, Nat.not_lt_zero, Nat.add_assoc, c_nlt, c_nle, c_neq, c_P, c_cl, c_m1, c_m1', nI_add, pk_mul, reduceIte, Nat.reduceEqDiff, Nat.reduceAdd, Nat.reduceMul, Nat.reduceLeDiff, eq_self, ↓pk_rem, pk_div, c_of, d_le, d_nle, d_lt, d_nlt, d_eq, d_ne]
    · refine ⟨τ, ?_, Ag_r, h0⟩
      simp (disch := first | omega | (repeat (first | assumption | exact Ag_r | refine Ag_I ?_ rfl | refine Ag_F ?_ rfl | refine Ag_J ?_ rfl))) only [A174, FM h, raw, lc_ge, zL_le by' bx, show (y ≤ x) = ¬ (x < y) from propext ⟨fun z => by omega, fun z => by omega⟩, eq_false c, show lN 0 = zL 0 from rfl, CO, HA, HB, HC, Nat.not_lt_zero, Nat.add_assoc, c_nlt, c_nle, c_neq, c_P, c_cl, c_m1, c_m1', nI_add, pk_mul, reduceIte, Nat.reduceEqDiff, Nat.reduceAdd, Nat.reduceMul, Nat.reduceLeDiff, eq_self, ↓pk_rem, pk_div, c_of, d_le, d_nle, d_lt, d_nlt, d_eq, d_ne]
  · by_cases c : y < x
    · refine ⟨τ, ?_, Ag_r, h0⟩
      simp (disch := first | omega | (repeat (first | assumption | exact Ag_r | refine Ag_I ?_ rfl | refine Ag_F ?_ rfl | refine Ag_J ?_ rfl))) only [A174, FM h, raw, lc_le, zL_le bx by', show (x ≤ y) = ¬ (y < x) from propext ⟨fun z => by omega, fun z => by omega⟩, eq_true c, show lN 1 = zL 1 from rfl, CO, HA, HB, HC, Nat.not_lt_zero, Nat.add_assoc, c_nlt, c_nle, c_neq, c_P, c_cl, c_m1, c_m1', nI_add, pk_mul, reduceIte, Nat.reduceEqDiff, Nat.reduceAdd, Nat.reduceMul, Nat.reduceLeDiff, eq_self, ↓pk_rem, pk_div, c_of, d_le, d_nle, d_lt, d_nlt, d_eq, d_ne]
    · refine ⟨τ, ?_, Ag_r, h0⟩
      simp (disch := first | omega | (repeat (first | assumption | exact Ag_r | refine Ag_I ?_ rfl | refine Ag_F ?_ rfl | refine Ag_J ?_ rfl))) only [A174, FM h, raw, lc_le, zL_le bx by', show (x ≤ y) = ¬ (y < x) from propext ⟨fun z => by omega, fun z => by omega⟩, eq_false c, show lN 0 = zL 0 from rfl, CO, HA, HB, HC, Nat.not_lt_zero, Nat.add_assoc, c_nlt, c_nle, c_neq, c_P, c_cl, c_m1, c_m1', nI_add, pk_mul, reduceIte, Nat.reduceEqDiff, Nat.reduceAdd, Nat.reduceMul, Nat.reduceLeDiff, eq_self, ↓pk_rem, pk_div, c_of, d_le, d_nle, d_lt, d_nlt, d_eq, d_ne]
  · by_cases c : x = y
    · refine ⟨τ, ?_, Ag_r, h0⟩
      simp (disch := first | omega | (repeat (first | assumption | exact Ag_r | refine Ag_I ?_ rfl | refine Ag_F ?_ rfl | refine Ag_J ?_ rfl))) only [A174, FM h, a174_1_d (s0i := nI 26) (by decide), raw, lc_eq, zL_eq bx by', eq_true c, show lN 1 = zL 1 from rfl, CO, HA, HB, HC, Nat.not_lt_zero, Nat.add_assoc, c_nlt, c_nle, c_neq, c_P, c_cl, c_m1, c_m1', nI_add, pk_mul, reduceIte, Nat.reduceEqDiff, Nat.reduceAdd, Nat.reduceMul, Nat.reduceLeDiff, eq_self, ↓pk_rem, pk_div, c_of, d_le, d_nle, d_lt, d_nlt, d_eq, d_ne]
    · refine ⟨τ, ?_, Ag_r, h0⟩
      simp (disch := first | omega | (repeat (first | assumption | exact Ag_r | refine Ag_I ?_ rfl | refine Ag_F ?_ rfl | refine Ag_J ?_ rfl))) only [A174, FM h, a174_1_d (s0i := nI 26) (by decide), raw, lc_eq, zL_eq bx by', eq_false c, show lN 0 = zL 0 from rfl, CO, HA, HB, HC, Nat.not_lt_zero, Nat.add_assoc, c_nlt, c_nle, c_neq, c_P, c_cl, c_m1, c_m1', nI_add, pk_mul, reduceIte, Nat.reduceEqDiff, Nat.reduceAdd, Nat.reduceMul, Nat.reduceLeDiff, eq_self, ↓pk_rem, pk_div, c_of, d_le, d_nle, d_lt, d_nlt, d_eq, d_ne]
theorem lN_in {x : Int} (hx : -1000000000000000000 ≤ x ∧ x ≤ 1000000000000000000) : (((-1000000000 : Int64) ≤ zL x) = (-1000000000 ≤ x)) ∧ ((zL x ≤ lN 1000000000) = (x ≤ 1000000000)) := by
  constructor
  · rw [show (-1000000000 : Int64) = zL (-1000000000) from rfl, zL_le (by omega) (by omega)]
  · rw [← zL_n, zL_le (by omega) (by omega)]; rfl
/-- the end of a row that is broken -/
theorem M_brk (h : FxM τ) (h1 : hF τ 57 30 = .int (nI 1)) {m k : Nat} (hm : m < 400) (hk : k < 2 ^ 31) (hen : en < 2 ^ 31) : Brk τ (den (hdM d fr en (m + 1) k l l2 τ)) := by
  unfold hdM
  rw [a175_10]
  by_cases z : en ≤ k
  · simp (disch := first | omega | (repeat (first | assumption | exact Ag_r | refine Ag_I ?_ rfl | refine Ag_F ?_ rfl | refine Ag_J ?_ rfl))) only [A175, FM h, h1, CO, HA, HB, HC, Nat.not_lt_zero, Nat.add_assoc, c_nlt, c_nle, c_neq, c_P, c_cl, c_m1, c_m1', nI_add, pk_mul, reduceIte, Nat.reduceEqDiff, Nat.reduceAdd, Nat.reduceMul, Nat.reduceLeDiff, eq_self, ↓pk_rem, pk_div, c_of, d_le, d_nle, d_lt, d_nlt, d_eq, d_ne]
    exact Ev_s ⟨rfl, Ag_F Ag_r rfl, by simp only [HA, Nat.reduceEqDiff, and_false, reduceIte, h1], hJ τ 71 0, by simp only [HA, and_self, reduceIte]⟩
  · simp (disch := first | omega | (repeat (first | assumption | exact Ag_r | refine Ag_I ?_ rfl | refine Ag_F ?_ rfl | refine Ag_J ?_ rfl))) only [A175, FM h, h1, CO, HA, HB, HC, Nat.not_lt_zero, Nat.add_assoc, c_nlt, c_nle, c_neq, c_P, c_cl, c_m1, c_m1', nI_add, pk_mul, reduceIte, Nat.reduceEqDiff, Nat.reduceAdd, Nat.reduceMul, Nat.reduceLeDiff, eq_self, ↓pk_rem, pk_div, c_of, d_le, d_nle, d_lt, d_nlt, d_eq, d_ne]
    exact Ev_s ⟨rfl, Ag_F Ag_r rfl, by simp only [HA, Nat.reduceEqDiff, and_false, reduceIte, h1], hJ τ 71 0, by simp only [HA, and_self, reduceIte]⟩
theorem SgM_op {b c k1 k2 k o : Nat} {φ ψ : Ph} (h1 : SgM g a b k1 φ) (h2 : SgM g b c k2 ψ) (ho : o < 7) (hf : g (98 + 2 * c) = nI (20 + o)) (hk1 : k1 ≤ k) (hk2 : k2 + 1 ≤ k) (hk : 2 ≤ k) : SgM g a (c + 1) k (phO o φ ψ) := by
  have l1 := h1.1
  have l2 := h2.1
  refine ⟨by omega, fun d B fr en n s w τ l l2 hc hs hn h0 => ?_⟩
  have A1 := h1.2 d B fr en n s w τ l l2 (Md_s hc (Nat.le_refl _) (by omega)) hs (by omega) h0
  cases p : φ w with
  | none => exact ⟨fun _ => A1.1 p, fun z hz => by simp [phO, p] at hz⟩
  | some x =>
    obtain ⟨τ1, v1, u1, e1, g1, s1, z1⟩ := A1.2 x p
    have hc1 := Md_k g1 hc
    have A2 := h2.2 d B fr en (n + 1) (ud s n x) w τ1 v1 u1 (Md_s hc1 (by omega) (by omega)) s1 (by omega) z1
    cases p2 : ψ w with
    | none =>
      refine ⟨fun _ => ?_, fun z hz => by simp [phO, p, p2] at hz⟩
      rw [e1]
      exact Ev_m (A2.1 p2) (fun v υ h => ⟨h.1, Ag_t g1 h.2.1, h.2.2⟩)
    | some y =>
      obtain ⟨τ2, v2, u2, e2, g2, s2, z2⟩ := A2.2 y p2
      have hc2 := Md_k g2 hc1
      obtain ⟨q1, ⟨q2, q3⟩, q6, q7, q8⟩ := hc2
      have m1 : nI (n + 2) + (-1) = nI (n + 1) := n_m1
      have m2 : nI (n + 1) - nI 1 = nI n := n_s1
      have r1 : ud (ud s n x) (n + 1) y n = x := by unfold ud; rw [if_neg (by omega), if_pos rfl]
      have r2 : ud (ud s n x) (n + 1) y (n + 1) = y := by unfold ud; rw [if_pos rfl]
      have sx := s2 n (by omega)
      have sy := s2 (n + 1) (by omega)
      rw [r1] at sx
      rw [r2] at sy
      obtain ⟨τ3, e3, g3, z3⟩ := M_reckon (d := d + 1) q1 z2 ho sx.2 sy.2
      have pw : phO o φ ψ w = bop o x y := by simp [phO, p, p2]
      have rl := raw_L o sx.2 sy.2
      have rin := lN_in rl
      obtain ⟨x1, x2⟩ := q6 c (by omega) (by omega)
      rw [hf] at x1
      simp only [Nat.add_assoc] at x1 x2
      have g3q : Qj τ2 τ3 := Ag_w g3 (fun _ e => nomatch e) (fun k j e => by
        simp only [Bool.and_eq_true] at e ⊢
        exact ⟨e.1, by rw [e.2]; rfl⟩)
      have f3 := Qj_M g3q q1
      have hj3 : hJ τ3 71 = hJ τ2 71 := Ag_j g3 71 rfl
      rw [pw, bop_raw ho sx.2]
      by_cases bad : (o = 3 ∧ y = 0) ∨ ¬ Bz (raw o x y)
      · rw [if_pos bad]
        refine ⟨fun _ => ?_, fun z hz => nomatch hz⟩
        have step : den (hdM d fr en (n + 1 + 1) c v2 u2 τ2) = den (hdM d fr en (n + 1) (c + 1) (.int (nI (20 + o))) (.int (g (98 + (2 * c + 1)))) (sF (sJ τ3 71 (vp_updL (hJ τ3 71) n (zL (raw o x y)))) 57 30 (.int (nI 1)))) := by
          unfold hdM
          rw [a175_10]
          by_cases z : o = 3 ∧ y = 0
          · rw [if_pos z] at z3
            simp (disch := first | omega | (repeat (first | assumption | exact Ag_r | refine Ag_I ?_ rfl | refine Ag_F ?_ rfl | refine Ag_J ?_ rfl))) only [A175, FM q1, z2, q2, x1, x2, m1, m2, sx.1, sy.1, e3, FM f3, z3, CO, HA, HB, HC, Nat.not_lt_zero, Nat.add_assoc, c_nlt, c_nle, c_neq, c_P, c_cl, c_m1, c_m1', nI_add, pk_mul, reduceIte, Nat.reduceEqDiff, Nat.reduceAdd, Nat.reduceMul, Nat.reduceLeDiff, eq_self, ↓pk_rem, pk_div, c_of, d_le, d_nle, d_lt, d_nlt, d_eq, d_ne]
          · rw [if_neg z] at z3
            have nb : ¬ (-1000000000 ≤ raw o x y ∧ raw o x y ≤ 1000000000) := bad.resolve_left z
            simp (disch := first | omega | (repeat (first | assumption | exact Ag_r | refine Ag_I ?_ rfl | refine Ag_F ?_ rfl | refine Ag_J ?_ rfl))) only [A175, FM q1, z2, q2, x1, x2, m1, m2, sx.1, sy.1, e3, FM f3, z3, M_in, uL, rin.1, rin.2, if_neg nb, CO, HA, HB, HC, Nat.not_lt_zero, Nat.add_assoc, c_nlt, c_nle, c_neq, c_P, c_cl, c_m1, c_m1', nI_add, pk_mul, reduceIte, Nat.reduceEqDiff, Nat.reduceAdd, Nat.reduceMul, Nat.reduceLeDiff, eq_self, ↓pk_rem, pk_div, c_of, d_le, d_nle, d_lt, d_nlt, d_eq, d_ne]
        rw [e1, e2, step]
        have gq : Qj τ2 (sF (sJ τ3 71 (vp_updL (hJ τ3 71) n (zL (raw o x y)))) 57 30 (.int (nI 1))) := Ag_F (Ag_J g3q rfl) rfl
        exact Ev_m (M_brk (Qj_M gq q1) (by simp only [HA, and_self, reduceIte]) (by omega) (by omega) (by omega)) (fun v υ h => ⟨h.1, Ag_t g1 (Ag_t g2 (Ag_t gq h.2.1)), h.2.2⟩)
      · rw [if_neg bad]
        refine ⟨fun hz => (nomatch hz), fun z hz => ?_⟩
        cases hz
        have nz : ¬ (o = 3 ∧ y = 0) := fun z => bad (Or.inl z)
        have nb : Bz (raw o x y) := Classical.byContradiction fun z => bad (Or.inr z)
        rw [if_neg nz] at z3
        have nb' : -1000000000 ≤ raw o x y ∧ raw o x y ≤ 1000000000 := nb
        refine ⟨sF (sJ τ3 71 (vp_updL (hJ τ3 71) n (zL (raw o x y)))) 57 30 (.int (nI 0)), .int (nI (20 + o)), .int (g (98 + (2 * c + 1))), ?_, Ag_t g1 (Ag_t g2 (Ag_F (Ag_J g3q rfl) rfl)), ?_, by simp only [HA, and_self, reduceIte]⟩
        · rw [e1, e2]
          unfold hdM
          rw [a175_10]
          simp (disch := first | omega | (repeat (first | assumption | exact Ag_r | refine Ag_I ?_ rfl | refine Ag_F ?_ rfl | refine Ag_J ?_ rfl))) only [A175, FM q1, z2, q2, x1, x2, m1, m2, sx.1, sy.1, e3, FM f3, z3, M_in, uL, rin.1, rin.2, if_pos nb', CO, HA, HB, HC, Nat.not_lt_zero, Nat.add_assoc, c_nlt, c_nle, c_neq, c_P, c_cl, c_m1, c_m1', nI_add, pk_mul, reduceIte, Nat.reduceEqDiff, Nat.reduceAdd, Nat.reduceMul, Nat.reduceLeDiff, eq_self, ↓pk_rem, pk_div, c_of, d_le, d_nle, d_lt, d_nlt, d_eq, d_ne]
        · intro i hi
          simp only [HA, reduceIte, uL, ud]
          by_cases z : i = n
          · rw [if_pos z, if_pos z]; exact ⟨rfl, nb⟩
          · rw [if_neg z, if_neg z, hj3]
            have := s2 i (by omega)
            unfold ud at this
            rwa [if_neg (by omega), if_neg z] at this
theorem SgM_not {b k : Nat} {φ : Ph} (h1 : SgM g a b k φ) (hb : bl φ) (hf : g (98 + 2 * b) = nI 27) (hk : 1 ≤ k) : SgM g a (b + 1) k (phN φ) := by
  have l1 := h1.1
  refine ⟨by omega, fun d B fr en n s w τ l l2 hc hs hn h0 => ?_⟩
  have A1 := h1.2 d B fr en n s w τ l l2 (Md_s hc (Nat.le_refl _) (by omega)) hs (by omega) h0
  cases p : φ w with
  | none => exact ⟨fun _ => A1.1 p, fun z hz => by simp [phN, p] at hz⟩
  | some x =>
    obtain ⟨τ1, v1, u1, e1, g1, s1, z1⟩ := A1.2 x p
    obtain ⟨q1, ⟨q2, q3⟩, q6, q7, q8⟩ := Md_k g1 hc
    have r1 : ud s n x n = x := by unfold ud; rw [if_pos rfl]
    have sx := s1 n (by omega)
    rw [r1] at sx
    obtain ⟨x1, x2⟩ := q6 b (by omega) (by omega)
    rw [hf] at x1
    simp only [Nat.add_assoc] at x1 x2
    have bx := hb w x p
    refine ⟨fun z => by simp [phN, p] at z, fun z hz => ?_⟩
    obtain rfl : 1 - x = z := by simpa [phN, p] using hz
    refine ⟨sJ τ1 71 (vp_updL (hJ τ1 71) n (zL (1 - x))), .int (nI 27), .int (g (98 + (2 * b + 1))), ?_, Ag_t g1 (Ag_J Ag_r rfl), ?_, z1⟩
    · rw [e1]
      unfold hdM
      rw [a175_10]
      simp (disch := first | omega | (repeat (first | assumption | exact Ag_r | refine Ag_I ?_ rfl | refine Ag_F ?_ rfl | refine Ag_J ?_ rfl))) only [A175, FM q1, z1, q2, x1, x2, n_s1, sx.1, show lN 1 = zL 1 from rfl, zL_sub, CO, HA, HB, HC, Nat.not_lt_zero, Nat.add_assoc, c_nlt, c_nle, c_neq, c_P, c_cl, c_m1, c_m1', nI_add, pk_mul, reduceIte, Nat.reduceEqDiff, Nat.reduceAdd, Nat.reduceMul, Nat.reduceLeDiff, eq_self, ↓pk_rem, pk_div, c_of, d_le, d_nle, d_lt, d_nlt, d_eq, d_ne]
    · intro i hi
      simp only [HA, reduceIte, uL, ud]
      by_cases z : i = n
      · rw [if_pos z, if_pos z]; exact ⟨rfl, by unfold Bz; omega⟩
      · rw [if_neg z, if_neg z]
        have := s1 i (by omega)
        unfold ud at this
        rwa [if_neg z] at this
theorem SgM_skip {b c k1 k2 k e : Nat} {φ ψ : Ph} (h1 : SgM g a b k1 φ) (hb : bl φ) (he : e < 2) (hf : g (98 + 2 * b) = nI (28 + e)) (hf2 : g (98 + 2 * b + 1) = nI c) (h2 : SgM g (b + 1) c k2 ψ) (hk1 : k1 ≤ k) (hk2 : k2 ≤ k) (hk : 1 ≤ k) : SgM g a c k (phS (e : Int) φ ψ) := by
  have l1 := h1.1
  have l2 := h2.1
  refine ⟨by omega, fun d B fr en n s w τ l l2 hc hs hn h0 => ?_⟩
  have A1 := h1.2 d B fr en n s w τ l l2 (Md_s hc (Nat.le_refl _) (by omega)) hs (by omega) h0
  cases p : φ w with
  | none => exact ⟨fun _ => A1.1 p, fun z hz => by simp [phS, p] at hz⟩
  | some x =>
    obtain ⟨τ1, v1, u1, e1, g1, s1, z1⟩ := A1.2 x p
    have hc1 := Md_k g1 hc
    obtain ⟨q1, ⟨q2, q3⟩, q6, q7, q8⟩ := hc1
    have r1 : ud s n x n = x := by unfold ud; rw [if_pos rfl]
    have sx := s1 n (by omega)
    rw [r1] at sx
    obtain ⟨x1, x2⟩ := q6 b (by omega) (by omega)
    rw [hf] at x1
    rw [hf2] at x2
    simp only [Nat.add_assoc] at x1 x2
    have bx := hb w x p
    have t0 : (zL x = lN 0) = (x = 0) := by rw [show lN 0 = zL 0 from rfl, zL_eq (by omega) (by omega)]
    have t1 : (zL x = lN 1) = (x = 1) := by rw [show lN 1 = zL 1 from rfl, zL_eq (by omega) (by omega)]
    by_cases z : x = (e : Int)
    · have pw : phS (e : Int) φ ψ w = some (e : Int) := by simp [phS, p, z]
      rw [pw]
      refine ⟨fun hz => (nomatch hz), fun y hy => ?_⟩
      cases hy
      refine ⟨τ1, .int (nI (28 + e)), .int (nI c), ?_, g1, by rw [← z]; exact s1, z1⟩
      rw [e1]
      unfold hdM
      rw [a175_10]
      obtain rfl | rfl : e = 0 ∨ e = 1 := by omega
      · have z' : x = 0 := z
        simp (disch := first | omega | (repeat (first | assumption | exact Ag_r | refine Ag_I ?_ rfl | refine Ag_F ?_ rfl | refine Ag_J ?_ rfl))) only [A175, FM q1, z1, q2, x1, x2, n_s1, sx.1, lc_eq, t0, eq_true z', CO, HA, HB, HC, Nat.not_lt_zero, Nat.add_assoc, c_nlt, c_nle, c_neq, c_P, c_cl, c_m1, c_m1', nI_add, pk_mul, reduceIte, Nat.reduceEqDiff, Nat.reduceAdd, Nat.reduceMul, Nat.reduceLeDiff, eq_self, ↓pk_rem, pk_div, c_of, d_le, d_nle, d_lt, d_nlt, d_eq, d_ne]
      · have z' : x = 1 := z
        simp (disch := first | omega | (repeat (first | assumption | exact Ag_r | refine Ag_I ?_ rfl | refine Ag_F ?_ rfl | refine Ag_J ?_ rfl))) only [A175, FM q1, z1, q2, x1, x2, n_s1, sx.1, lc_eq, t1, eq_true z', CO, HA, HB, HC, Nat.not_lt_zero, Nat.add_assoc, c_nlt, c_nle, c_neq, c_P, c_cl, c_m1, c_m1', nI_add, pk_mul, reduceIte, Nat.reduceEqDiff, Nat.reduceAdd, Nat.reduceMul, Nat.reduceLeDiff, eq_self, ↓pk_rem, pk_div, c_of, d_le, d_nle, d_lt, d_nlt, d_eq, d_ne]
    · have pw : phS (e : Int) φ ψ w = ψ w := by simp [phS, p, z]
      rw [pw]
      have hd : den (hdM d fr en (n + 1) b v1 u1 τ1) = den (hdM d fr en n (b + 1) (.int (nI (28 + e))) (.int (nI c)) τ1) := by
        unfold hdM
        rw [a175_10]
        obtain rfl | rfl : e = 0 ∨ e = 1 := by omega
        · have z' : ¬ x = 0 := z
          simp (disch := first | omega | (repeat (first | assumption | exact Ag_r | refine Ag_I ?_ rfl | refine Ag_F ?_ rfl | refine Ag_J ?_ rfl))) only [A175, FM q1, z1, q2, x1, x2, n_m1, n_s1, sx.1, lc_eq, t0, eq_false z', CO, HA, HB, HC, Nat.not_lt_zero, Nat.add_assoc, c_nlt, c_nle, c_neq, c_P, c_cl, c_m1, c_m1', nI_add, pk_mul, reduceIte, Nat.reduceEqDiff, Nat.reduceAdd, Nat.reduceMul, Nat.reduceLeDiff, eq_self, ↓pk_rem, pk_div, c_of, d_le, d_nle, d_lt, d_nlt, d_eq, d_ne]
        · have z' : ¬ x = 1 := z
          simp (disch := first | omega | (repeat (first | assumption | exact Ag_r | refine Ag_I ?_ rfl | refine Ag_F ?_ rfl | refine Ag_J ?_ rfl))) only [A175, FM q1, z1, q2, x1, x2, n_m1, n_s1, sx.1, lc_eq, t1, eq_false z', CO, HA, HB, HC, Nat.not_lt_zero, Nat.add_assoc, c_nlt, c_nle, c_neq, c_P, c_cl, c_m1, c_m1', nI_add, pk_mul, reduceIte, Nat.reduceEqDiff, Nat.reduceAdd, Nat.reduceMul, Nat.reduceLeDiff, eq_self, ↓pk_rem, pk_div, c_of, d_le, d_nle, d_lt, d_nlt, d_eq, d_ne]
      have s6 : SkM τ1 n s := fun i hi => by
        have := s1 i (by omega)
        unfold ud at this
        rwa [if_neg (by omega)] at this
      have A2 := h2.2 d B fr en n s w τ1 (.int (nI (28 + e))) (.int (nI c)) ⟨q1, ⟨q2, q3⟩, fun i hi hj => q6 i (by omega) (by omega), by omega, q8⟩ s6 (by omega) z1
      refine ⟨fun hz => ?_, fun y hy => ?_⟩
      · rw [e1, hd]
        exact Ev_m (A2.1 hz) (fun v υ h => ⟨h.1, Ag_t g1 h.2.1, h.2.2⟩)
      · obtain ⟨τ4, v4, u4, e4, g4, s7, z4⟩ := A2.2 y hy
        exact ⟨τ4, v4, u4, by rw [e1, hd, e4], Ag_t g1 g4, s7, z4⟩
end
/-! what the law in force tells, in the class -/
def phI (φ ψ : Ph) : Ph := fun w => (φ w).bind fun z => (ψ w).bind fun t => if t = 0 then none else some z
def ph1 : Ph := fun _ => some 1
/-- a clause's code of a .. b - 1: a sum, if u; a test, if t -/
def CuC (f : Nat → Int32) (a b : Nat) (u t : Bool) (φ ψ : Ph) : Prop := ∃ m, ((u = true ∧ SgC f a m 60 φ) ∨ (u = false ∧ m = a ∧ φ = ph1)) ∧ ((t = true ∧ ∃ m', SgC f m m' 60 ψ ∧ f m' = -20 ∧ b = m' + 1) ∨ (t = false ∧ b = m ∧ ψ = ph1))
/-- what the clauses tell: the last one that holds -/
def tel (hs : Nat → Nat) (χ : Nat → Ph) (h : Nat) (w : Wd) : Nat → Option Int
  | 0 => none
  | i + 1 => if hs i = h then (match χ i w with
    | some z => some z
    | none => tel hs χ h w i) else tel hs χ h w i
def LwC (L : Nat) (f : Nat → Int32) (n : Nat) (hs : Nat → Nat) (t : Nat → Bool) (φ ψ : Nat → Ph) : Prop := ∃ A : Nat → Nat, (n ≤ 12 ∧ A 0 = 0 ∧ A n = L) ∧ ∀ i, i < n → (A i + 2 ≤ A (i + 1) ∧ A (i + 1) ≤ L ∧ hs i < 5) ∧ (f (A i) = nI (hs i) ∧ f (A i + 1) = nI (A (i + 1))) ∧ CuC f (A i + 2) (A (i + 1)) (decide (hs i < 2)) (t i) (φ i) (ψ i)
def Qt (σ τ : Hp) : Prop := Ag (fun k => Nat.beq k 20) (fun k j => Nat.beq k 18 && (Nat.beq j 2 || Nat.beq j 3)) σ τ
theorem Qk_t {σ τ : Hp} (g : Qk σ τ) : Qt σ τ := Ag_w g (fun _ e => e) (fun k j e => by
  simp only [Bool.and_eq_true] at e ⊢
  exact ⟨e.1, by rw [e.2]; rfl⟩)
theorem Qt_c {σ τ : Hp} (g : Qt σ τ) : Qc σ τ := Ag_w g (fun k e => by have := Nat.eq_of_beq_eq_true e; subst this; rfl) (fun k j e => by
  simp only [Bool.and_eq_true, Bool.or_eq_true] at e
  obtain ⟨e1, e2 | e2⟩ := e <;>
  · have e1 := Nat.eq_of_beq_eq_true e1
    have e2 := Nat.eq_of_beq_eq_true e2
    subst e1 e2; rfl)
section
variable {d n : Nat} {s : Nat → Int} {σ τ υ : Hp} {f : Nat → Int32} {a b q fr en : Nat} {w : Wd} {l : Value}
theorem C_hend (h : FxC τ) (h1 : fr ≤ en) (h2 : en ≤ 1024) : den (hdC d q fr en en l τ) = some (some (.int (nI 1)), τ) := by
  unfold hdC
  rw [a34_8]
  simp (disch := first | omega | (repeat (first | assumption | exact Ag_r | refine Ag_I ?_ rfl | refine Ag_F ?_ rfl | refine Ag_J ?_ rfl))) only [A34, FC h, CO, HA, HB, HC, Nat.not_lt_zero, Nat.add_assoc, c_nlt, c_nle, c_neq, c_P, c_cl, c_m1, c_m1', nI_add, pk_mul, reduceIte, Nat.reduceEqDiff, Nat.reduceAdd, Nat.reduceMul, Nat.reduceLeDiff, eq_self, ↓pk_rem, pk_div, c_of, d_le, d_nle, d_lt, d_nlt, d_eq, d_ne]
theorem C_honly (hc : Cd f a (a + 1) q fr en τ w) (hf : f a = -20) (hs : StkC τ (n + 1) s) (hn : n < 64) : den (hdC d q fr en a l τ) = if s n = 0 then some (some (.int (nI 0)), sF τ 18 2 (.int (nI n))) else den (hdC d q fr en (a + 1) (.int (-20)) (sF τ 18 2 (.int (nI n)))) := by
  obtain ⟨h1, ⟨h2, h3, h4, h5⟩, h6, h7, h8⟩ := hc
  obtain ⟨p1, s1⟩ := C_pull (d := d + 1) (n := n) h1 hs hn
  have e1 := h6 a (Nat.le_refl _) (Nat.lt_succ_self _)
  rw [hf] at e1
  have b := (hs.2 n (by omega)).2
  have z0 : (zI (s n) = nI 0) = (s n = 0) := by
    unfold Bz at b
    rw [show nI 0 = zI 0 from rfl, zI_eq (by omega) (by omega)]
  unfold hdC
  rw [a34_8]
  by_cases z : s n = 0
  · simp (disch := first | omega | (repeat (first | assumption | exact Ag_r | refine Ag_I ?_ rfl | refine Ag_F ?_ rfl | refine Ag_J ?_ rfl))) only [A34, FC h1, h2, e1, p1, z0, eq_true z, show ((-20 : Int32) = -18) = False from eq_false (by decide), show ((-20 : Int32) = -19) = False from eq_false (by decide), CO, HA, HB, HC, Nat.not_lt_zero, Nat.add_assoc, c_nlt, c_nle, c_neq, c_P, c_cl, c_m1, c_m1', nI_add, pk_mul, reduceIte, Nat.reduceEqDiff, Nat.reduceAdd, Nat.reduceMul, Nat.reduceLeDiff, eq_self, ↓pk_rem, pk_div, c_of, d_le, d_nle, d_lt, d_nlt, d_eq, d_ne]
  · simp (disch := first | omega | (repeat (first | assumption | exact Ag_r | refine Ag_I ?_ rfl | refine Ag_F ?_ rfl | refine Ag_J ?_ rfl))) only [A34, FC h1, h2, e1, p1, z0, eq_false z, show ((-20 : Int32) = -18) = False from eq_false (by decide), show ((-20 : Int32) = -19) = False from eq_false (by decide), CO, HA, HB, HC, Nat.not_lt_zero, Nat.add_assoc, c_nlt, c_nle, c_neq, c_P, c_cl, c_m1, c_m1', nI_add, pk_mul, reduceIte, Nat.reduceEqDiff, Nat.reduceAdd, Nat.reduceMul, Nat.reduceLeDiff, eq_self, ↓pk_rem, pk_div, c_of, d_le, d_nle, d_lt, d_nlt, d_eq, d_ne]
/-- how a clause that holds leaves the stack -/
def Tp (υ : Hp) (z : Int) : Prop := (hF υ 18 2 = .int (nI 1) ∧ hI υ 20 0 = zI z ∧ Bz z) ∨ (hF υ 18 2 = .int (nI 0) ∧ z = 1)
theorem C_holds {u t : Bool} {φ ψ : Ph} (cu : CuC f a b u t φ ψ) (hc : Cd f a b q a b τ w) : (phI φ ψ w = none → Ev (den (d + 2, 34, 0, [.ref 18, .ref q, .int (nI a), .int (nI b), .float 0, .float 0], [], τ)) (fun v υ => v = some (.int (nI 0)) ∧ Qk τ υ)) ∧ ∀ z, phI φ ψ w = some z → Ev (den (d + 2, 34, 0, [.ref 18, .ref q, .int (nI a), .int (nI b), .float 0, .float 0], [], τ)) (fun v υ => v = some (.int (nI 1)) ∧ Qk τ υ ∧ Tp υ z) := by
  obtain ⟨m, c1, c2⟩ := cu
  have g0 : Qk τ (sF τ 18 2 (.int (nI 0))) := Ag_F Ag_r rfl
  have hc0 := Cd_k g0 hc
  have s0 : StkC (sF τ 18 2 (.int (nI 0))) 0 (fun _ => 0) := ⟨by simp only [HA, and_self, reduceIte], fun i hi => absurd hi (Nat.not_lt_zero i)⟩
  have bb : b ≤ 1024 := by have := hc.2.1.2.2; omega
  have en0 : den (d + 2, 34, 0, [.ref 18, .ref q, .int (nI a), .int (nI b), .float 0, .float 0], [], τ) = den (hdC d q a b a (.float 0) (sF τ 18 2 (.int (nI 0)))) := by
    unfold hdC
    simp (disch := first | omega | (repeat (first | assumption | exact Ag_r | refine Ag_I ?_ rfl | refine Ag_F ?_ rfl | refine Ag_J ?_ rfl))) only [A34, FC hc.1, CO, HA, HB, HC, Nat.not_lt_zero, Nat.add_assoc, c_nlt, c_nle, c_neq, c_P, c_cl, c_m1, c_m1', nI_add, pk_mul, reduceIte, Nat.reduceEqDiff, Nat.reduceAdd, Nat.reduceMul, Nat.reduceLeDiff, eq_self, ↓pk_rem, pk_div, c_of, d_le, d_nle, d_lt, d_nlt, d_eq, d_ne]
  rw [en0]
  have le2 : m ≤ b := by
    rcases c2 with ⟨-, m', x1, x2, rfl⟩ | ⟨-, rfl, -⟩
    · have := x1.1; omega
    · exact Nat.le_refl _
  have le1 : a ≤ m := by
    rcases c1 with ⟨-, x1⟩ | ⟨-, rfl, -⟩
    · exact x1.1
    · exact Nat.le_refl _
  -- behind the sum
  have P2 : ∀ (x : Int) (υ : Hp) (k : Nat) (s : Nat → Int) (l : Value), Qk τ υ → StkC υ k s → ((k = 1 ∧ s 0 = x) ∨ (k = 0 ∧ x = 1)) → (((ψ w).bind fun t => if t = 0 then none else some x) = none → Ev (den (hdC d q a b m l υ)) (fun v υ => v = some (.int (nI 0)) ∧ Qk τ υ)) ∧ ∀ z, ((ψ w).bind fun t => if t = 0 then none else some x) = some z → Ev (den (hdC d q a b m l υ)) (fun v υ => v = some (.int (nI 1)) ∧ Qk τ υ ∧ Tp υ z) := by
    intro x υ k s l gq sk hk
    have hc1 := Cd_k gq hc
    have tp : Tp υ x := by
      rcases hk with ⟨rfl, rfl⟩ | ⟨rfl, rfl⟩
      · exact Or.inl ⟨sk.1, sk.2 0 (by omega)⟩
      · exact Or.inr ⟨sk.1, rfl⟩
    rcases c2 with ⟨-, m', x1, x2, rfl⟩ | ⟨-, rfl, rfl⟩
    · have lm := x1.1
      have A1 := x1.2 d q a (m' + 1) k s w υ l (Cd_s hc1 le1 (by omega)) sk (by omega)
      cases p : ψ w with
      | none =>
        refine ⟨fun _ => Ev_m (A1.1 p) (fun v υ' h => ⟨h.1, Ag_t gq h.2⟩), fun z hz => by simp at hz⟩
      | some y =>
        obtain ⟨υ2, l2, e2, g2, s2⟩ := A1.2 y p
        have hc2 := Cd_k g2 hc1
        have ho := C_honly (d := d) (l := l2) (Cd_s hc2 (by omega) (Nat.le_refl _)) x2 s2 (by omega)
        have r1 : ud s k y k = y := by unfold ud; rw [if_pos rfl]
        rw [r1] at ho
        have g3 : Qk υ2 (sF υ2 18 2 (.int (nI k))) := Ag_F Ag_r rfl
        by_cases z0 : y = 0
        · rw [if_pos z0] at ho
          refine ⟨fun _ => ?_, fun z hz => by simp [z0] at hz⟩
          rw [e2, ho]
          exact Ev_s ⟨rfl, Ag_t gq (Ag_t g2 g3)⟩
        · rw [if_neg z0] at ho
          refine ⟨fun hz => by simp [z0] at hz, fun z hz => ?_⟩
          obtain rfl : x = z := by simpa [z0] using hz
          rw [e2, ho, C_hend (Qk_C g3 hc2.1) (by omega) bb]
          refine Ev_s ⟨rfl, Ag_t gq (Ag_t g2 g3), ?_⟩
          rcases hk with ⟨rfl, rfl⟩ | ⟨rfl, rfl⟩
          · refine Or.inl ⟨by simp only [HA, and_self, reduceIte], ?_⟩
            have := s2.2 0 (by omega)
            simp only [HA]
            unfold ud at this
            rwa [if_neg (by omega)] at this
          · exact Or.inr ⟨by simp only [HA, and_self, reduceIte], rfl⟩
    · refine ⟨fun hz => by simp [ph1] at hz, fun z hz => ?_⟩
      obtain rfl : x = z := by simpa [ph1] using hz
      rw [C_hend hc1.1 le1 bb]
      exact Ev_s ⟨rfl, gq, tp⟩
  rcases c1 with ⟨-, x1⟩ | ⟨-, rfl, rfl⟩
  · have A1 := x1.2 d q a b 0 (fun _ => 0) w _ (.float 0) (Cd_s hc0 (Nat.le_refl _) le2) s0 (by omega)
    cases p : φ w with
    | none => exact ⟨fun _ => Ev_m (A1.1 p) (fun v υ h => ⟨h.1, Ag_t g0 h.2⟩), fun z hz => by simp [phI, p] at hz⟩
    | some x =>
      obtain ⟨υ1, l1, e1, g1, s1⟩ := A1.2 x p
      have := P2 x υ1 1 _ l1 (Ag_t g0 g1) s1 (Or.inl ⟨rfl, by unfold ud; rw [if_pos rfl]⟩)
      rw [e1]
      simpa [phI, p] using this
  · have := P2 1 _ 0 _ (.float 0) g0 s0 (Or.inr ⟨rfl, rfl⟩)
    simpa [phI, ph1] using this
/-- the law in force, as it lies in the class -/
def InC (σ : Hp) (T : Nat → Wd → Option Int) : Prop := (hF σ 1 3 = .int (-1) ∧ T = fun _ _ => none) ∨ ∃ i nl ℓ c n hs t φ ψ, (hF σ 1 3 = .int (nI i) ∧ hF σ 1 2 = .int (nI nl) ∧ i < nl ∧ nl ≤ 6) ∧ (hR σ 4 i = some ℓ ∧ 85 ≤ ℓ ∧ kd σ ℓ = 5 ∧ hF σ ℓ 0 = .ref c) ∧ (85 ≤ c ∧ kd σ c = 100 ∧ hL σ c ≤ 1024) ∧ LwC (hL σ c) (hI σ c) n hs t φ ψ ∧ T = fun h w => tel hs (fun i => phI (φ i) (ψ i)) h w n
def LfC (σ : Hp) (T : Nat → Wd → Option Int) : Prop := ∀ (d : Nat) (τ : Hp) (w : Wd) (h : Nat), h < 5 → Qc σ τ → WdC τ w → Ev (den (d + 4, 33, 0, [.ref 18, .ref 1, .int (nI h), .float 0, .float 0, .float 0, .float 0, .float 0, .float 0], [], τ)) (fun v υ => v = some (.int (if (T h w).isSome = true then nI 1 else nI 0)) ∧ Qt τ υ ∧ ∀ z, T h w = some z → hF υ 18 3 = .int (zI z) ∧ Bz z)
theorem Fc_85 {k j : Nat} (h : 85 ≤ k) : Fc k j = false := by
  unfold Fc
  have e : ∀ x, x < 85 → Nat.beq k x = false := fun x hx => by
    cases q : Nat.beq k x with
    | false => rfl
    | true => have := Nat.eq_of_beq_eq_true q; omega
  rw [e 18 (by omega), e 23 (by omega), e 28 (by omega), e 0 (by omega)]; rfl
theorem Pc_85 {k : Nat} (h : 85 ≤ k) : Pc k = false := by
  unfold Pc
  cases q : Nat.ble k 30 with
  | false => rw [Bool.and_false]
  | true => have := Nat.le_of_ble_eq_true q; omega
theorem Qt_C {σ τ : Hp} (g : Qt σ τ) (h : FxC σ) : FxC τ := Qc_C (Qt_c g) h
theorem WdC_t {σ τ : Hp} {w : Wd} (g : Qt σ τ) (h : WdC σ w) : WdC τ w := fun j hj => by rw [Ag_i g 19 rfl]; exact h j hj
theorem C_tloop (hC : FxC σ) {c L nc : Nat} {hs : Nat → Nat} {t : Nat → Bool} {φ ψ : Nat → Ph} (hk : kd σ c = 100) (hl : hL σ c = L) (hL4 : L ≤ 1024) (hc85 : 85 ≤ c) (lw : LwC L (hI σ c) nc hs t φ ψ) {h ℓ : Nat} (h5 : h < 5) : ∀ (τ : Hp), Qc σ τ → WdC τ w → Ev (den (d + 4, 33, 26, [.ref 18, .ref 1, .int (nI h), .ref ℓ, .ref c, .int (nI 0), .int (nI 0), .int (nI 0), .float 0], [], τ)) (fun v υ => v = some (.int (if (tel hs (fun i => phI (φ i) (ψ i)) h w nc).isSome = true then nI 1 else nI 0)) ∧ Qt τ υ ∧ ∀ z, tel hs (fun i => phI (φ i) (ψ i)) h w nc = some z → hF υ 18 3 = .int (zI z) ∧ Bz z) := by
  obtain ⟨A, ⟨n12, A0, AL⟩, cl⟩ := lw
  intro τ hq hw
  have hmono : ∀ i, i ≤ nc → A i ≤ L := by
    intro i hi
    by_cases z : i = 0
    · subst z; rw [A0]; omega
    · have := (cl (i - 1) (by omega)).1.2.1
      rwa [show i - 1 + 1 = i by omega] at this
  have key := lp (α := Hp × Value) (h := fun i x => (d + 4, 33, 26, [.ref 18, .ref 1, .int (nI h), .ref ℓ, .ref c, .int (if (tel hs (fun i => phI (φ i) (ψ i)) h w i).isSome = true then nI 1 else nI 0), .int (nI (A i)), .int (nI i), x.2], [], x.1))
    (I := fun i x => Qt τ x.1 ∧ ∀ z, tel hs (fun i => phI (φ i) (ψ i)) h w i = some z → hF x.1 18 3 = .int (zI z) ∧ Bz z)
    (Q := fun v υ => v = some (.int (if (tel hs (fun i => phI (φ i) (ψ i)) h w nc).isSome = true then nI 1 else nI 0)) ∧ Qt τ υ ∧ ∀ z, tel hs (fun i => phI (φ i) (ψ i)) h w nc = some z → hF υ 18 3 = .int (zI z) ∧ Bz z) nc ?step ?fin 0 (τ, .float 0) (Nat.zero_le _) ⟨Ag_r, fun z hz => nomatch hz⟩
  · rw [A0] at key
    exact key
  case fin =>
    intro ⟨υ, l⟩ ⟨gq, hz⟩
    have hq2 : Qc σ υ := Ag_t hq (Qt_c gq)
    have e1 : kd υ c = 100 := by rw [Ag_k hq2]; exact hk
    have e2 : hL υ c = L := by rw [Ag_l hq2]; exact hl
    show Ev (den (d + 4, 33, 26, [.ref 18, .ref 1, .int (nI h), .ref ℓ, .ref c, .int (if (tel hs (fun i => phI (φ i) (ψ i)) h w nc).isSome = true then nI 1 else nI 0), .int (nI (A nc)), .int (nI nc), l], [], υ)) _
    rw [a33_26, AL]
    by_cases z : nc = 12
    · by_cases y : (tel hs (fun i => phI (φ i) (ψ i)) h w nc).isSome = true
      · rw [if_pos y]
        simp (disch := first | omega | (repeat (first | assumption | exact Ag_r | refine Ag_I ?_ rfl | refine Ag_F ?_ rfl | refine Ag_J ?_ rfl))) only [A33, e1, e2, CO, HA, HB, HC, Nat.not_lt_zero, Nat.add_assoc, c_nlt, c_nle, c_neq, c_P, c_cl, c_m1, c_m1', nI_add, pk_mul, reduceIte, Nat.reduceEqDiff, Nat.reduceAdd, Nat.reduceMul, Nat.reduceLeDiff, eq_self, ↓pk_rem, pk_div, c_of, d_le, d_nle, d_lt, d_nlt, d_eq, d_ne]
        exact Ev_s ⟨rfl, gq, hz⟩
      · rw [if_neg y]
        simp (disch := first | omega | (repeat (first | assumption | exact Ag_r | refine Ag_I ?_ rfl | refine Ag_F ?_ rfl | refine Ag_J ?_ rfl))) only [A33, e1, e2, CO, HA, HB, HC, Nat.not_lt_zero, Nat.add_assoc, c_nlt, c_nle, c_neq, c_P, c_cl, c_m1, c_m1', nI_add, pk_mul, reduceIte, Nat.reduceEqDiff, Nat.reduceAdd, Nat.reduceMul, Nat.reduceLeDiff, eq_self, ↓pk_rem, pk_div, c_of, d_le, d_nle, d_lt, d_nlt, d_eq, d_ne]
        exact Ev_s ⟨rfl, gq, hz⟩
    · by_cases y : (tel hs (fun i => phI (φ i) (ψ i)) h w nc).isSome = true
      · rw [if_pos y]
        simp (disch := first | omega | (repeat (first | assumption | exact Ag_r | refine Ag_I ?_ rfl | refine Ag_F ?_ rfl | refine Ag_J ?_ rfl))) only [A33, e1, e2, CO, HA, HB, HC, Nat.not_lt_zero, Nat.add_assoc, c_nlt, c_nle, c_neq, c_P, c_cl, c_m1, c_m1', nI_add, pk_mul, reduceIte, Nat.reduceEqDiff, Nat.reduceAdd, Nat.reduceMul, Nat.reduceLeDiff, eq_self, ↓pk_rem, pk_div, c_of, d_le, d_nle, d_lt, d_nlt, d_eq, d_ne]
        exact Ev_s ⟨rfl, gq, hz⟩
      · rw [if_neg y]
        simp (disch := first | omega | (repeat (first | assumption | exact Ag_r | refine Ag_I ?_ rfl | refine Ag_F ?_ rfl | refine Ag_J ?_ rfl))) only [A33, e1, e2, CO, HA, HB, HC, Nat.not_lt_zero, Nat.add_assoc, c_nlt, c_nle, c_neq, c_P, c_cl, c_m1, c_m1', nI_add, pk_mul, reduceIte, Nat.reduceEqDiff, Nat.reduceAdd, Nat.reduceMul, Nat.reduceLeDiff, eq_self, ↓pk_rem, pk_div, c_of, d_le, d_nle, d_lt, d_nlt, d_eq, d_ne]
        exact Ev_s ⟨rfl, gq, hz⟩
  case step =>
    intro i ⟨υ, l⟩ hi ⟨gq, hz⟩ next
    have hq2 : Qc σ υ := Ag_t hq (Qt_c gq)
    have h' := Qc_C hq2 hC
    have e1 : kd υ c = 100 := by rw [Ag_k hq2]; exact hk
    have e2 : hL υ c = L := by rw [Ag_l hq2]; exact hl
    have e3 : hI υ c = hI σ c := Ag_i hq2 c (Pc_85 hc85)
    obtain ⟨⟨a1, a2, a3⟩, ⟨f1, f2⟩, cu⟩ := cl i hi
    show Ev (den (d + 4, 33, 26, [.ref 18, .ref 1, .int (nI h), .ref ℓ, .ref c, .int (if (tel hs (fun i => phI (φ i) (ψ i)) h w i).isSome = true then nI 1 else nI 0), .int (nI (A i)), .int (nI i), l], [], υ)) _
    rw [a33_26]
    by_cases hh : hs i = h
    · have cd : Cd (hI σ c) (A i + 2) (A (i + 1)) c (A i + 2) (A (i + 1)) υ w := ⟨h', ⟨e1, by omega, by rw [e2]; exact a2, by rw [e2]; exact hL4⟩, fun j _ _ => by rw [e3], ⟨Nat.le_refl _, Nat.le_refl _⟩, WdC_t gq hw⟩
      have ch := C_holds (d := d + 1) cu cd
      cases p : phI (φ i) (ψ i) w with
      | none =>
        have te : tel hs (fun i => phI (φ i) (ψ i)) h w (i + 1) = tel hs (fun i => phI (φ i) (ψ i)) h w i := by simp only [tel, if_pos hh, p]
        by_cases y : A (i + 1) = L
        · by_cases yy : (tel hs (fun i => phI (φ i) (ψ i)) h w i).isSome = true
          · rw [if_pos yy]
            simp (disch := first | omega | (repeat (first | assumption | exact Ag_r | refine Ag_I ?_ rfl | refine Ag_F ?_ rfl | refine Ag_J ?_ rfl))) only [A33, e1, e2, e3, f1, f2, FC h', hh, CO, HA, HB, HC, Nat.not_lt_zero, Nat.add_assoc, c_nlt, c_nle, c_neq, c_P, c_cl, c_m1, c_m1', nI_add, pk_mul, reduceIte, Nat.reduceEqDiff, Nat.reduceAdd, Nat.reduceMul, Nat.reduceLeDiff, eq_self, ↓pk_rem, pk_div, c_of, d_le, d_nle, d_lt, d_nlt, d_eq, d_ne]
            refine Ev_b (ch.1 p) ?_
            rintro _ ω ⟨rfl, g2⟩
            simp (disch := first | omega | (repeat (first | assumption | exact Ag_r | refine Ag_I ?_ rfl | refine Ag_F ?_ rfl | refine Ag_J ?_ rfl))) only [A33, CO, HA, HB, HC, Nat.not_lt_zero, Nat.add_assoc, c_nlt, c_nle, c_neq, c_P, c_cl, c_m1, c_m1', nI_add, pk_mul, reduceIte, Nat.reduceEqDiff, Nat.reduceAdd, Nat.reduceMul, Nat.reduceLeDiff, eq_self, ↓pk_rem, pk_div, c_of, d_le, d_nle, d_lt, d_nlt, d_eq, d_ne]
            have nx := next (ω, .int (nI (A (i + 1)))) ⟨Ag_t gq (Qk_t g2), by rw [te]; intro z q; rw [Ag_f g2 18 3 rfl]; exact hz z q⟩
            rw [te, if_pos yy] at nx
            first | exact nx | (rw [y] at nx; exact nx)
          · rw [if_neg yy]
            simp (disch := first | omega | (repeat (first | assumption | exact Ag_r | refine Ag_I ?_ rfl | refine Ag_F ?_ rfl | refine Ag_J ?_ rfl))) only [A33, e1, e2, e3, f1, f2, FC h', hh, CO, HA, HB, HC, Nat.not_lt_zero, Nat.add_assoc, c_nlt, c_nle, c_neq, c_P, c_cl, c_m1, c_m1', nI_add, pk_mul, reduceIte, Nat.reduceEqDiff, Nat.reduceAdd, Nat.reduceMul, Nat.reduceLeDiff, eq_self, ↓pk_rem, pk_div, c_of, d_le, d_nle, d_lt, d_nlt, d_eq, d_ne]
            refine Ev_b (ch.1 p) ?_
            rintro _ ω ⟨rfl, g2⟩
            simp (disch := first | omega | (repeat (first | assumption | exact Ag_r | refine Ag_I ?_ rfl | refine Ag_F ?_ rfl | refine Ag_J ?_ rfl))) only [A33, CO, HA, HB, HC, Nat.not_lt_zero, Nat.add_assoc, c_nlt, c_nle, c_neq, c_P, c_cl, c_m1, c_m1', nI_add, pk_mul, reduceIte, Nat.reduceEqDiff, Nat.reduceAdd, Nat.reduceMul, Nat.reduceLeDiff, eq_self, ↓pk_rem, pk_div, c_of, d_le, d_nle, d_lt, d_nlt, d_eq, d_ne]
            have nx := next (ω, .int (nI (A (i + 1)))) ⟨Ag_t gq (Qk_t g2), by rw [te]; intro z q; rw [Ag_f g2 18 3 rfl]; exact hz z q⟩
            rw [te, if_neg yy] at nx
            first | exact nx | (rw [y] at nx; exact nx)
        · by_cases yy : (tel hs (fun i => phI (φ i) (ψ i)) h w i).isSome = true
          · rw [if_pos yy]
            simp (disch := first | omega | (repeat (first | assumption | exact Ag_r | refine Ag_I ?_ rfl | refine Ag_F ?_ rfl | refine Ag_J ?_ rfl))) only [A33, e1, e2, e3, f1, f2, FC h', hh, CO, HA, HB, HC, Nat.not_lt_zero, Nat.add_assoc, c_nlt, c_nle, c_neq, c_P, c_cl, c_m1, c_m1', nI_add, pk_mul, reduceIte, Nat.reduceEqDiff, Nat.reduceAdd, Nat.reduceMul, Nat.reduceLeDiff, eq_self, ↓pk_rem, pk_div, c_of, d_le, d_nle, d_lt, d_nlt, d_eq, d_ne]
            refine Ev_b (ch.1 p) ?_
            rintro _ ω ⟨rfl, g2⟩
            simp (disch := first | omega | (repeat (first | assumption | exact Ag_r | refine Ag_I ?_ rfl | refine Ag_F ?_ rfl | refine Ag_J ?_ rfl))) only [A33, CO, HA, HB, HC, Nat.not_lt_zero, Nat.add_assoc, c_nlt, c_nle, c_neq, c_P, c_cl, c_m1, c_m1', nI_add, pk_mul, reduceIte, Nat.reduceEqDiff, Nat.reduceAdd, Nat.reduceMul, Nat.reduceLeDiff, eq_self, ↓pk_rem, pk_div, c_of, d_le, d_nle, d_lt, d_nlt, d_eq, d_ne]
            have nx := next (ω, .int (nI (A (i + 1)))) ⟨Ag_t gq (Qk_t g2), by rw [te]; intro z q; rw [Ag_f g2 18 3 rfl]; exact hz z q⟩
            rw [te, if_pos yy] at nx
            exact nx
          · rw [if_neg yy]
            simp (disch := first | omega | (repeat (first | assumption | exact Ag_r | refine Ag_I ?_ rfl | refine Ag_F ?_ rfl | refine Ag_J ?_ rfl))) only [A33, e1, e2, e3, f1, f2, FC h', hh, CO, HA, HB, HC, Nat.not_lt_zero, Nat.add_assoc, c_nlt, c_nle, c_neq, c_P, c_cl, c_m1, c_m1', nI_add, pk_mul, reduceIte, Nat.reduceEqDiff, Nat.reduceAdd, Nat.reduceMul, Nat.reduceLeDiff, eq_self, ↓pk_rem, pk_div, c_of, d_le, d_nle, d_lt, d_nlt, d_eq, d_ne]
            refine Ev_b (ch.1 p) ?_
            rintro _ ω ⟨rfl, g2⟩
            simp (disch := first | omega | (repeat (first | assumption | exact Ag_r | refine Ag_I ?_ rfl | refine Ag_F ?_ rfl | refine Ag_J ?_ rfl))) only [A33, CO, HA, HB, HC, Nat.not_lt_zero, Nat.add_assoc, c_nlt, c_nle, c_neq, c_P, c_cl, c_m1, c_m1', nI_add, pk_mul, reduceIte, Nat.reduceEqDiff, Nat.reduceAdd, Nat.reduceMul, Nat.reduceLeDiff, eq_self, ↓pk_rem, pk_div, c_of, d_le, d_nle, d_lt, d_nlt, d_eq, d_ne]
            have nx := next (ω, .int (nI (A (i + 1)))) ⟨Ag_t gq (Qk_t g2), by rw [te]; intro z q; rw [Ag_f g2 18 3 rfl]; exact hz z q⟩
            rw [te, if_neg yy] at nx
            exact nx
      | some x =>
        have te : tel hs (fun i => phI (φ i) (ψ i)) h w (i + 1) = some x := by simp only [tel, if_pos hh, p]
        have fin : ∀ (ω : Hp) (r : Int32), Qk υ ω → Tp ω x → Ev (den (d + 4, 33, 82, [.ref 18, .ref 1, .int (nI h), .ref ℓ, .ref c, .int r, .int (nI (A i)), .int (nI i), .int (nI (A (i + 1)))], [], ω)) (fun v υ => v = some (.int (if (tel hs (fun i => phI (φ i) (ψ i)) h w nc).isSome = true then nI 1 else nI 0)) ∧ Qt τ υ ∧ ∀ z, tel hs (fun i => phI (φ i) (ψ i)) h w nc = some z → hF υ 18 3 = .int (zI z) ∧ Bz z) := by
          intro ω r g2 tp
          have h2 := Qk_C g2 h'
          rcases tp with ⟨t1, t2, t3⟩ | ⟨t1, t2⟩
          · simp (disch := first | omega | (repeat (first | assumption | exact Ag_r | refine Ag_I ?_ rfl | refine Ag_F ?_ rfl | refine Ag_J ?_ rfl))) only [A33, FC h2, t1, t2, CO, HA, HB, HC, Nat.not_lt_zero, Nat.add_assoc, c_nlt, c_nle, c_neq, c_P, c_cl, c_m1, c_m1', nI_add, pk_mul, reduceIte, Nat.reduceEqDiff, Nat.reduceAdd, Nat.reduceMul, Nat.reduceLeDiff, eq_self, ↓pk_rem, pk_div, c_of, d_le, d_nle, d_lt, d_nlt, d_eq, d_ne]
            have nx := next (sF ω 18 3 (.int (zI x)), .int (nI (A (i + 1)))) ⟨Ag_t gq (Ag_F (Qk_t g2) rfl), by rw [te]; intro z q; cases q; exact ⟨by simp only [HA, and_self, reduceIte], t3⟩⟩
            rw [te] at nx
            exact nx
          · simp (disch := first | omega | (repeat (first | assumption | exact Ag_r | refine Ag_I ?_ rfl | refine Ag_F ?_ rfl | refine Ag_J ?_ rfl))) only [A33, FC h2, t1, CO, HA, HB, HC, Nat.not_lt_zero, Nat.add_assoc, c_nlt, c_nle, c_neq, c_P, c_cl, c_m1, c_m1', nI_add, pk_mul, reduceIte, Nat.reduceEqDiff, Nat.reduceAdd, Nat.reduceMul, Nat.reduceLeDiff, eq_self, ↓pk_rem, pk_div, c_of, d_le, d_nle, d_lt, d_nlt, d_eq, d_ne]
            have nx := next (sF ω 18 3 (.int (nI 1)), .int (nI (A (i + 1)))) ⟨Ag_t gq (Ag_F (Qk_t g2) rfl), by rw [te]; intro z q; cases q; subst t2; exact ⟨by simp only [HA, and_self, reduceIte]; rfl, by unfold Bz; omega⟩⟩
            rw [te] at nx
            exact nx
        generalize rdef : (if (tel hs (fun i => phI (φ i) (ψ i)) h w i).isSome = true then nI 1 else nI 0) = r
        by_cases y : A (i + 1) = L
        · simp (disch := omega) only [a33_28, a33_30, a33_33, a33_35, a33_36, a33_37, a33_39, a33_40, a33_43, a33_45, a33_47, a33_48, a33_49, a33_50, a33_52, a33_53, a33_56, a33_58, a33_60, a33_62, a33_63, a33_64, a33_67, a33_68, a33_70, a33_72, a33_73, a33_74, a33_76, e1, e2, e3, f1, f2, FC h', hh, CO, HA, HB, HC, Nat.not_lt_zero, Nat.add_assoc, c_nlt, c_nle, c_neq, c_P, c_cl, c_m1, c_m1', nI_add, pk_mul, reduceIte, Nat.reduceEqDiff, Nat.reduceAdd, Nat.reduceMul, Nat.reduceLeDiff, eq_self, c_of, d_le, d_nle, d_lt, d_nlt, d_eq, d_ne]
          refine Ev_b (ch.2 x p) ?_
          rintro _ ω ⟨rfl, g2, tp⟩
          simp (disch := omega) only [a33_79, CO, reduceIte]
          first | exact fin ω r g2 tp | (rw [← y]; exact fin ω r g2 tp)
        · simp (disch := omega) only [a33_28, a33_30, a33_33, a33_35, a33_36, a33_37, a33_39, a33_40, a33_43, a33_45, a33_47, a33_48, a33_49, a33_50, a33_52, a33_53, a33_56, a33_58, a33_60, a33_62, a33_63, a33_64, a33_67, a33_68, a33_70, a33_72, a33_73, a33_74, a33_76, e1, e2, e3, f1, f2, FC h', hh, CO, HA, HB, HC, Nat.not_lt_zero, Nat.add_assoc, c_nlt, c_nle, c_neq, c_P, c_cl, c_m1, c_m1', nI_add, pk_mul, reduceIte, Nat.reduceEqDiff, Nat.reduceAdd, Nat.reduceMul, Nat.reduceLeDiff, eq_self, c_of, d_le, d_nle, d_lt, d_nlt, d_eq, d_ne]
          refine Ev_b (ch.2 x p) ?_
          rintro _ ω ⟨rfl, g2, tp⟩
          simp (disch := omega) only [a33_79, CO, reduceIte]
          exact fin ω r g2 tp
    · have te : tel hs (fun i => phI (φ i) (ψ i)) h w (i + 1) = tel hs (fun i => phI (φ i) (ψ i)) h w i := by simp only [tel, if_neg hh]
      have nx := next (υ, .int (nI (A (i + 1)))) ⟨gq, by rw [te]; exact hz⟩
      rw [te] at nx
      generalize rdef : (if (tel hs (fun i => phI (φ i) (ψ i)) h w i).isSome = true then nI 1 else nI 0) = r at nx ⊢
      by_cases y : A (i + 1) = L
      · simp (disch := first | omega | (repeat (first | assumption | exact Ag_r | refine Ag_I ?_ rfl | refine Ag_F ?_ rfl | refine Ag_J ?_ rfl))) only [A33, e1, e2, e3, f1, f2, FC h', hh, CO, HA, HB, HC, Nat.not_lt_zero, Nat.add_assoc, c_nlt, c_nle, c_neq, c_P, c_cl, c_m1, c_m1', nI_add, pk_mul, reduceIte, Nat.reduceEqDiff, Nat.reduceAdd, Nat.reduceMul, Nat.reduceLeDiff, eq_self, ↓pk_rem, pk_div, c_of, d_le, d_nle, d_lt, d_nlt, d_eq, d_ne]
        first | exact nx | (rw [y] at nx; exact nx)
      · simp (disch := first | omega | (repeat (first | assumption | exact Ag_r | refine Ag_I ?_ rfl | refine Ag_F ?_ rfl | refine Ag_J ?_ rfl))) only [A33, e1, e2, e3, f1, f2, FC h', hh, CO, HA, HB, HC, Nat.not_lt_zero, Nat.add_assoc, c_nlt, c_nle, c_neq, c_P, c_cl, c_m1, c_m1', nI_add, pk_mul, reduceIte, Nat.reduceEqDiff, Nat.reduceAdd, Nat.reduceMul, Nat.reduceLeDiff, eq_self, ↓pk_rem, pk_div, c_of, d_le, d_nle, d_lt, d_nlt, d_eq, d_ne]
        exact nx
theorem InC_Lf {T : Nat → Wd → Option Int} (hC : FxC σ) (hi : InC σ T) : LfC σ T := by
  intro d τ w h h5 hq hw
  have h' := Qc_C hq hC
  have e3 := Ag_f hq 1 3 rfl
  have e2 := Ag_f hq 1 2 rfl
  rcases hi with ⟨i1, rfl⟩ | ⟨i, nl, ℓ, c, n, hs, t, φ, ψ, ⟨i1, i2, i3, i4⟩, ⟨r1, r2, r3, r4⟩, ⟨c1, c2, c3⟩, lw, rfl⟩
  · simp (disch := first | omega | (repeat (first | assumption | exact Ag_r | refine Ag_I ?_ rfl | refine Ag_F ?_ rfl | refine Ag_J ?_ rfl))) only [A33, A79, FC h', e3, i1, m1n, CO, HA, HB, HC, Nat.not_lt_zero, Nat.add_assoc, c_nlt, c_nle, c_neq, c_P, c_cl, c_m1, c_m1', nI_add, pk_mul, reduceIte, Nat.reduceEqDiff, Nat.reduceAdd, Nat.reduceMul, Nat.reduceLeDiff, eq_self, ↓pk_rem, pk_div, c_of, d_le, d_nle, d_lt, d_nlt, d_eq, d_ne]
    exact Ev_s ⟨rfl, Ag_r, fun z hz => nomatch hz⟩
  · have q1 := Ag_R hq 4
    have q2 : kd τ ℓ = 5 := by rw [Ag_k hq]; exact r3
    have q3 : hF τ ℓ 0 = .ref c := by rw [Ag_f hq ℓ 0 (Fc_85 r2)]; exact r4
    simp (disch := first | omega | (repeat (first | assumption | exact Ag_r | refine Ag_I ?_ rfl | refine Ag_F ?_ rfl | refine Ag_J ?_ rfl))) only [A33, A79, FC h', e3, e2, i1, i2, q1, r1, mxQ, q2, q3, CO, HA, HB, HC, Nat.not_lt_zero, Nat.add_assoc, c_nlt, c_nle, c_neq, c_P, c_cl, c_m1, c_m1', nI_add, pk_mul, reduceIte, Nat.reduceEqDiff, Nat.reduceAdd, Nat.reduceMul, Nat.reduceLeDiff, eq_self, ↓pk_rem, pk_div, c_of, d_le, d_nle, d_lt, d_nlt, d_eq, d_ne]
    exact C_tloop hC c2 rfl c3 c1 lw h5 τ hq hw
end
/-! what the law in force tells, in the model -/
def RwM (τ : Hp) (B : Nat) (g : Nat → Int32) (w : Wd) : Prop := FxM τ ∧ (hF τ 57 27 = .int (nI B) ∧ B + 900 ≤ 5790) ∧ (∀ j, j < 900 → hI τ 59 (B + j) = g j) ∧ WdM τ w
theorem RwM_k {σ τ : Hp} {B : Nat} {g : Nat → Int32} {w : Wd} (q : Qj σ τ) (h : RwM σ B g w) : RwM τ B g w := by
  obtain ⟨h1, h2, h6, h8⟩ := h
  refine ⟨Qj_M q h1, ⟨by rw [Ag_f q 57 27 rfl]; exact h2.1, h2.2⟩, fun i hi => ?_, fun j hj => ?_⟩
  · rw [Ag_i q 59 rfl]; exact h6 i hi
  · rw [Ag_j q 70 rfl]; exact h8 j hj
theorem RwM_d {τ : Hp} {B : Nat} {g : Nat → Int32} {w : Wd} (h : RwM τ B g w) {a b en : Nat} (hb : b ≤ en) (he : en ≤ 400) : Md g a b B en τ w := by
  obtain ⟨h1, h2, h6, h8⟩ := h
  exact ⟨h1, h2, fun i hi hj => ⟨by rw [Nat.add_assoc]; exact h6 _ (by omega), by rw [Nat.add_assoc, Nat.add_assoc]; exact h6 _ (by omega)⟩, ⟨hb, he⟩, h8⟩
def LwM (g : Nat → Int32) (n : Nat) (hs : Nat → Nat) (t : Nat → Bool) (φ ψ : Nat → Ph) : Prop := ∃ b0 b1 b2 : Nat → Nat, (n ≤ 12 ∧ g 1 = nI n) ∧ ∀ i, i < n → hs i < 5 ∧ b2 i ≤ 400 ∧ (g (2 + 8 * i) = nI (hs i) ∧ g (2 + 8 * i + 3) = nI (b0 i) ∧ g (2 + 8 * i + 4) = nI (b1 i) ∧ g (2 + 8 * i + 5) = nI (b1 i) ∧ g (2 + 8 * i + 6) = nI (b2 i)) ∧ ((hs i < 2 ∧ SgM g (b0 i) (b1 i) 60 (φ i)) ∨ (2 ≤ hs i ∧ φ i = ph1)) ∧ ((t i = true ∧ b1 i < b2 i ∧ SgM g (b1 i) (b2 i) 60 (ψ i)) ∨ (t i = false ∧ b1 i = b2 i ∧ ψ i = ph1))
section
variable {d n : Nat} {s : Nat → Int} {σ τ υ ρ : Hp} {g : Nat → Int32} {a b B fr en : Nat} {w : Wd} {l l2 : Value}
theorem M_reckAll {φ : Ph} (sg : SgM g a b 60 φ) (hr : RwM τ B g w) (hb : b ≤ 400) : (φ w = none → Ev (den (d + 2, 175, 0, [.ref 57, .int (nI a), .int (nI b), .float 0, .float 0, .float 0, .float 0], [], τ)) (fun v υ => v = none ∧ Qj τ υ ∧ hF υ 57 30 = .int (nI 1) ∧ ∃ x, hF υ 57 31 = .long x)) ∧ ∀ z, φ w = some z → Ev (den (d + 2, 175, 0, [.ref 57, .int (nI a), .int (nI b), .float 0, .float 0, .float 0, .float 0], [], τ)) (fun v υ => v = none ∧ Qj τ υ ∧ hF υ 57 30 = .int (nI 0) ∧ hF υ 57 31 = .long (zL z) ∧ Bz z) := by
  have g0 : Qj τ (sF τ 57 30 (.int (nI 0))) := Ag_F Ag_r rfl
  have hr0 := RwM_k g0 hr
  have en0 : den (d + 2, 175, 0, [.ref 57, .int (nI a), .int (nI b), .float 0, .float 0, .float 0, .float 0], [], τ) = den (hdM d a b 0 a (.float 0) (.float 0) (sF τ 57 30 (.int (nI 0)))) := by
    unfold hdM
    simp (disch := first | omega | (repeat (first | assumption | exact Ag_r | refine Ag_I ?_ rfl | refine Ag_F ?_ rfl | refine Ag_J ?_ rfl))) only [A175, FM hr.1, CO, HA, HB, HC, Nat.not_lt_zero, Nat.add_assoc, c_nlt, c_nle, c_neq, c_P, c_cl, c_m1, c_m1', nI_add, pk_mul, reduceIte, Nat.reduceEqDiff, Nat.reduceAdd, Nat.reduceMul, Nat.reduceLeDiff, eq_self, ↓pk_rem, pk_div, c_of, d_le, d_nle, d_lt, d_nlt, d_eq, d_ne]
  rw [en0]
  have A1 := sg.2 d B a b 0 (fun _ => 0) w (sF τ 57 30 (.int (nI 0))) (.float 0) (.float 0) (RwM_d hr0 (Nat.le_refl _) hb) (fun i hi => absurd hi (Nat.not_lt_zero i)) (by omega) (by simp only [HA, and_self, reduceIte])
  refine ⟨fun p => ?_, fun z p => ?_⟩
  · refine Ev_m (A1.1 p) (fun v υ h => ⟨h.1, Ag_t g0 h.2.1, h.2.2.1, h.2.2.2⟩)
  · obtain ⟨υ1, l1, l2, e1, g1, s1, z1⟩ := A1.2 z p
    have hr1 := RwM_k g1 hr0
    have sx := s1 0 (by omega)
    have r1 : ud (fun _ => 0) 0 z 0 = z := by unfold ud; rw [if_pos rfl]
    rw [r1] at sx
    rw [e1]
    unfold hdM
    rw [a175_10]
    simp (disch := first | omega | (repeat (first | assumption | exact Ag_r | refine Ag_I ?_ rfl | refine Ag_F ?_ rfl | refine Ag_J ?_ rfl))) only [A175, FM hr1.1, z1, sx.1, CO, HA, HB, HC, Nat.not_lt_zero, Nat.add_assoc, c_nlt, c_nle, c_neq, c_P, c_cl, c_m1, c_m1', nI_add, pk_mul, reduceIte, Nat.reduceEqDiff, Nat.reduceAdd, Nat.reduceMul, Nat.reduceLeDiff, eq_self, ↓pk_rem, pk_div, c_of, d_le, d_nle, d_lt, d_nlt, d_eq, d_ne]
    exact Ev_s ⟨rfl, Ag_t g0 (Ag_t g1 (Ag_F Ag_r rfl)), by simp only [HA, Nat.reduceEqDiff, and_false, reduceIte, z1], by simp only [HA, and_self, reduceIte], sx.2⟩
theorem M_isSo {i n : Nat} {hs : Nat → Nat} {t : Nat → Bool} {φ ψ : Nat → Ph} (lw : LwM g n hs t φ ψ) (hi : i < n) (hr : RwM τ B g w) : (phI (φ i) (ψ i) w = none → Ev (den (d + 3, 176, 0, [.ref 57, .int (nI (B + (2 + 8 * i)))], [], τ)) (fun v υ => v = some (.int (nI 0)) ∧ Qj τ υ)) ∧ ∀ z, phI (φ i) (ψ i) w = some z → Ev (den (d + 3, 176, 0, [.ref 57, .int (nI (B + (2 + 8 * i)))], [], τ)) (fun v υ => v = some (.int (nI 1)) ∧ Qj τ υ ∧ (hs i < 2 → hF υ 57 32 = .long (zL z) ∧ Bz z)) := by
  obtain ⟨b0, b1, b2, ⟨n12, g1⟩, cl⟩ := lw
  obtain ⟨h5, hb2, ⟨k0, k3, k4, k5, k6⟩, c1, c2⟩ := cl i hi
  have row : ∀ (υ : Hp), RwM υ B g w → hI υ 59 (B + (2 + 8 * i)) = nI (hs i) ∧ hI υ 59 (B + (2 + (8 * i + 3))) = nI (b0 i) ∧ hI υ 59 (B + (2 + (8 * i + 4))) = nI (b1 i) ∧ hI υ 59 (B + (2 + (8 * i + 5))) = nI (b1 i) ∧ hI υ 59 (B + (2 + (8 * i + 6))) = nI (b2 i) := by
    intro υ h
    have h6 := h.2.2.1
    simp only [← Nat.add_assoc] at h6 ⊢
    refine ⟨?_, ?_, ?_, ?_, ?_⟩
    · rw [Nat.add_assoc, h6 _ (by omega)]; exact k0
    · rw [Nat.add_assoc, Nat.add_assoc, h6 _ (by omega), ← Nat.add_assoc]; exact k3
    · rw [Nat.add_assoc, Nat.add_assoc, h6 _ (by omega), ← Nat.add_assoc]; exact k4
    · rw [Nat.add_assoc, Nat.add_assoc, h6 _ (by omega), ← Nat.add_assoc]; exact k5
    · rw [Nat.add_assoc, Nat.add_assoc, h6 _ (by omega), ← Nat.add_assoc]; exact k6
  have hB := hr.2.1.2
  have b12 : b1 i ≤ b2 i := by rcases c2 with ⟨-, h, -⟩ | ⟨-, h, -⟩ <;> omega
  -- behind the test
  have P2 : ∀ (υ : Hp), Qj τ υ → (φ i w = none → Ev (den (d + 3, 176, 59, [.ref 57, .int (nI (B + (2 + 8 * i)))], [], υ)) (fun v υ => v = some (.int (nI 0)) ∧ Qj τ υ)) ∧ ∀ z, φ i w = some z → Ev (den (d + 3, 176, 59, [.ref 57, .int (nI (B + (2 + 8 * i)))], [], υ)) (fun v υ => v = some (.int (nI 1)) ∧ Qj τ υ ∧ (hs i < 2 → hF υ 57 32 = .long (zL z) ∧ Bz z)) := by
    intro υ gq
    have hr1 := RwM_k gq hr
    obtain ⟨w0, w3, w4, w5, w6⟩ := row υ hr1
    rcases c1 with ⟨h2, sg⟩ | ⟨h2, e⟩
    · have R := M_reckAll (d := d) sg hr1 (by omega)
      refine ⟨fun p => ?_, fun z p => ?_⟩
      · simp (disch := first | omega | (repeat (first | assumption | exact Ag_r | refine Ag_I ?_ rfl | refine Ag_F ?_ rfl | refine Ag_J ?_ rfl))) only [A176, FM hr1.1, w0, w3, w4, CO, HA, HB, HC, Nat.not_lt_zero, Nat.add_assoc, c_nlt, c_nle, c_neq, c_P, c_cl, c_m1, c_m1', nI_add, pk_mul, reduceIte, Nat.reduceEqDiff, Nat.reduceAdd, Nat.reduceMul, Nat.reduceLeDiff, eq_self, ↓pk_rem, pk_div, c_of, d_le, d_nle, d_lt, d_nlt, d_eq, d_ne]
        refine Ev_b (R.1 p) ?_
        rintro _ ω ⟨rfl, g2, z1, x, hx⟩
        have f2 := Qj_M g2 hr1.1
        simp (disch := first | omega | (repeat (first | assumption | exact Ag_r | refine Ag_I ?_ rfl | refine Ag_F ?_ rfl | refine Ag_J ?_ rfl))) only [A176, FM f2, z1, hx, CO, HA, HB, HC, Nat.not_lt_zero, Nat.add_assoc, c_nlt, c_nle, c_neq, c_P, c_cl, c_m1, c_m1', nI_add, pk_mul, reduceIte, Nat.reduceEqDiff, Nat.reduceAdd, Nat.reduceMul, Nat.reduceLeDiff, eq_self, ↓pk_rem, pk_div, c_of, d_le, d_nle, d_lt, d_nlt, d_eq, d_ne]
        exact Ev_s ⟨rfl, Ag_F (Ag_t gq g2) rfl⟩
      · simp (disch := first | omega | (repeat (first | assumption | exact Ag_r | refine Ag_I ?_ rfl | refine Ag_F ?_ rfl | refine Ag_J ?_ rfl))) only [A176, FM hr1.1, w0, w3, w4, CO, HA, HB, HC, Nat.not_lt_zero, Nat.add_assoc, c_nlt, c_nle, c_neq, c_P, c_cl, c_m1, c_m1', nI_add, pk_mul, reduceIte, Nat.reduceEqDiff, Nat.reduceAdd, Nat.reduceMul, Nat.reduceLeDiff, eq_self, ↓pk_rem, pk_div, c_of, d_le, d_nle, d_lt, d_nlt, d_eq, d_ne]
        refine Ev_b (R.2 z p) ?_
        rintro _ ω ⟨rfl, g2, z1, hx, bz⟩
        have f2 := Qj_M g2 hr1.1
        simp (disch := first | omega | (repeat (first | assumption | exact Ag_r | refine Ag_I ?_ rfl | refine Ag_F ?_ rfl | refine Ag_J ?_ rfl))) only [A176, FM f2, z1, hx, CO, HA, HB, HC, Nat.not_lt_zero, Nat.add_assoc, c_nlt, c_nle, c_neq, c_P, c_cl, c_m1, c_m1', nI_add, pk_mul, reduceIte, Nat.reduceEqDiff, Nat.reduceAdd, Nat.reduceMul, Nat.reduceLeDiff, eq_self, ↓pk_rem, pk_div, c_of, d_le, d_nle, d_lt, d_nlt, d_eq, d_ne]
        exact Ev_s ⟨rfl, Ag_F (Ag_t gq g2) rfl, fun _ => ⟨by simp only [HA, and_self, reduceIte], bz⟩⟩
    · refine ⟨fun p => by rw [e] at p; simp [ph1] at p, fun z p => ?_⟩
      simp (disch := first | omega | (repeat (first | assumption | exact Ag_r | refine Ag_I ?_ rfl | refine Ag_F ?_ rfl | refine Ag_J ?_ rfl))) only [A176, FM hr1.1, w0, CO, HA, HB, HC, Nat.not_lt_zero, Nat.add_assoc, c_nlt, c_nle, c_neq, c_P, c_cl, c_m1, c_m1', nI_add, pk_mul, reduceIte, Nat.reduceEqDiff, Nat.reduceAdd, Nat.reduceMul, Nat.reduceLeDiff, eq_self, ↓pk_rem, pk_div, c_of, d_le, d_nle, d_lt, d_nlt, d_eq, d_ne]
      exact Ev_s ⟨rfl, gq, fun h => by first | exact h.elim | (exfalso; omega)⟩
  obtain ⟨w0, w3, w4, w5, w6⟩ := row τ hr
  rcases c2 with ⟨-, hlt, sg⟩ | ⟨-, he, e⟩
  · have R := M_reckAll (d := d) sg hr hb2
    cases p : ψ i w with
    | none =>
      refine ⟨fun _ => ?_, fun z hz => by cases q : φ i w <;> simp [phI, p, q] at hz⟩
      simp (disch := first | omega | (repeat (first | assumption | exact Ag_r | refine Ag_I ?_ rfl | refine Ag_F ?_ rfl | refine Ag_J ?_ rfl))) only [A176, FM hr.1, w5, w6, CO, HA, HB, HC, Nat.not_lt_zero, Nat.add_assoc, c_nlt, c_nle, c_neq, c_P, c_cl, c_m1, c_m1', nI_add, pk_mul, reduceIte, Nat.reduceEqDiff, Nat.reduceAdd, Nat.reduceMul, Nat.reduceLeDiff, eq_self, ↓pk_rem, pk_div, c_of, d_le, d_nle, d_lt, d_nlt, d_eq, d_ne]
      refine Ev_b (R.1 p) ?_
      rintro _ ω ⟨rfl, g2, z1, x, hx⟩
      have f2 := Qj_M g2 hr.1
      simp (disch := first | omega | (repeat (first | assumption | exact Ag_r | refine Ag_I ?_ rfl | refine Ag_F ?_ rfl | refine Ag_J ?_ rfl))) only [A176, FM f2, z1, hx, CO, HA, HB, HC, Nat.not_lt_zero, Nat.add_assoc, c_nlt, c_nle, c_neq, c_P, c_cl, c_m1, c_m1', nI_add, pk_mul, reduceIte, Nat.reduceEqDiff, Nat.reduceAdd, Nat.reduceMul, Nat.reduceLeDiff, eq_self, ↓pk_rem, pk_div, c_of, d_le, d_nle, d_lt, d_nlt, d_eq, d_ne]
      exact Ev_s ⟨rfl, g2⟩
    | some y =>
      have t0 : Bz y → (zL y = lN 0) = (y = 0) := fun bz => by unfold Bz at bz; rw [show lN 0 = zL 0 from rfl, zL_eq (by omega) (by omega)]
      by_cases y0 : y = 0
      · refine ⟨fun _ => ?_, fun z hz => by cases q : φ i w <;> simp [phI, p, q, y0] at hz⟩
        simp (disch := first | omega | (repeat (first | assumption | exact Ag_r | refine Ag_I ?_ rfl | refine Ag_F ?_ rfl | refine Ag_J ?_ rfl))) only [A176, FM hr.1, w5, w6, CO, HA, HB, HC, Nat.not_lt_zero, Nat.add_assoc, c_nlt, c_nle, c_neq, c_P, c_cl, c_m1, c_m1', nI_add, pk_mul, reduceIte, Nat.reduceEqDiff, Nat.reduceAdd, Nat.reduceMul, Nat.reduceLeDiff, eq_self, ↓pk_rem, pk_div, c_of, d_le, d_nle, d_lt, d_nlt, d_eq, d_ne]
        refine Ev_b (R.2 y p) ?_
        rintro _ ω ⟨rfl, g2, z1, hx, bz⟩
        have f2 := Qj_M g2 hr.1
        simp (disch := first | omega | (repeat (first | assumption | exact Ag_r | refine Ag_I ?_ rfl | refine Ag_F ?_ rfl | refine Ag_J ?_ rfl))) only [A176, FM f2, z1, hx, lc_eq, t0 bz, eq_true y0, CO, HA, HB, HC, Nat.not_lt_zero, Nat.add_assoc, c_nlt, c_nle, c_neq, c_P, c_cl, c_m1, c_m1', nI_add, pk_mul, reduceIte, Nat.reduceEqDiff, Nat.reduceAdd, Nat.reduceMul, Nat.reduceLeDiff, eq_self, ↓pk_rem, pk_div, c_of, d_le, d_nle, d_lt, d_nlt, d_eq, d_ne]
        exact Ev_s ⟨rfl, g2⟩
      · have pe : phI (φ i) (ψ i) w = φ i w := by cases q : φ i w <;> simp [phI, p, q, y0]
        rw [pe]
        refine ⟨fun q => ?_, fun z q => ?_⟩
        · simp (disch := first | omega | (repeat (first | assumption | exact Ag_r | refine Ag_I ?_ rfl | refine Ag_F ?_ rfl | refine Ag_J ?_ rfl))) only [A176, FM hr.1, w5, w6, CO, HA, HB, HC, Nat.not_lt_zero, Nat.add_assoc, c_nlt, c_nle, c_neq, c_P, c_cl, c_m1, c_m1', nI_add, pk_mul, reduceIte, Nat.reduceEqDiff, Nat.reduceAdd, Nat.reduceMul, Nat.reduceLeDiff, eq_self, ↓pk_rem, pk_div, c_of, d_le, d_nle, d_lt, d_nlt, d_eq, d_ne]
          refine Ev_b (R.2 y p) ?_
          rintro _ ω ⟨rfl, g2, z1, hx, bz⟩
          have f2 := Qj_M g2 hr.1
          simp only [tl_n, a176_41, a176_42, FM f2, z1, a176_45, a176_48, a176_49, hx, a176_52, a176_53, a176_54, lc_eq, t0 bz, eq_false y0, CO, reduceIte]
          exact (P2 ω g2).1 q
        · simp (disch := first | omega | (repeat (first | assumption | exact Ag_r | refine Ag_I ?_ rfl | refine Ag_F ?_ rfl | refine Ag_J ?_ rfl))) only [A176, FM hr.1, w5, w6, CO, HA, HB, HC, Nat.not_lt_zero, Nat.add_assoc, c_nlt, c_nle, c_neq, c_P, c_cl, c_m1, c_m1', nI_add, pk_mul, reduceIte, Nat.reduceEqDiff, Nat.reduceAdd, Nat.reduceMul, Nat.reduceLeDiff, eq_self, ↓pk_rem, pk_div, c_of, d_le, d_nle, d_lt, d_nlt, d_eq, d_ne]
          refine Ev_b (R.2 y p) ?_
          rintro _ ω ⟨rfl, g2, z1, hx, bz⟩
          have f2 := Qj_M g2 hr.1
          simp only [tl_n, a176_41, a176_42, FM f2, z1, a176_45, a176_48, a176_49, hx, a176_52, a176_53, a176_54, lc_eq, t0 bz, eq_false y0, CO, reduceIte]
          exact (P2 ω g2).2 z q
  · have pe : phI (φ i) (ψ i) w = φ i w := by rw [e]; cases q : φ i w <;> simp [phI, ph1, q]
    have st : den (d + 3, 176, 0, [.ref 57, .int (nI (B + (2 + 8 * i)))], [], τ) = den (d + 3, 176, 59, [.ref 57, .int (nI (B + (2 + 8 * i)))], [], τ) := by
      simp (disch := omega) only [a176_0, a176_1, a176_4, a176_5, a176_6, a176_7, a176_8, a176_9, a176_12, a176_13, a176_15, a176_16, a176_17, FM hr.1, w5, w6, CO, HB, Nat.add_assoc, c_nle, c_P, c_cl, nI_add, reduceIte, d_le, d_lt, Nat.reduceAdd]
    rw [pe, st]
    exact P2 τ Ag_r
/-- the law in force, as it lies in the model -/
def InM (ρ : Hp) (T : Nat → Wd → Option Int) : Prop := (hI ρ 59 3 = -1 ∧ T = fun _ _ => none) ∨ ∃ i n hs t φ ψ, (hI ρ 59 3 = nI i ∧ i < 6) ∧ LwM (fun j => hI ρ 59 (390 + 900 * i + j)) n hs t φ ψ ∧ T = fun h w => tel hs (fun i => phI (φ i) (ψ i)) h w n
def Qs (σ τ : Hp) : Prop := Ag (fun k => Nat.beq k 70 || Nat.beq k 71) (fun k j => Nat.beq k 57 && (Nat.beq j 27 || Nat.beq j 30 || Nat.beq j 31 || Nat.beq j 32)) σ τ
theorem Qj_s {σ τ : Hp} (g : Qj σ τ) : Qs σ τ := Ag_w g (fun k e => by rw [e, Bool.or_true]) (fun k j e => by
  simp only [Bool.and_eq_true, Bool.or_eq_true] at e ⊢
  exact ⟨e.1, by rcases e.2 with (h | h) | h <;> simp [h]⟩)
theorem Qs_m {σ τ : Hp} (g : Qs σ τ) : Qm σ τ := Ag_w g (fun k e => by
  simp only [Bool.or_eq_true] at e
  rcases e with e | e <;> (have := Nat.eq_of_beq_eq_true e; subst this; rfl)) (fun k j e => by
  simp only [Bool.and_eq_true, Bool.or_eq_true] at e
  obtain ⟨e1, ((e2 | e2) | e2) | e2⟩ := e <;>
  · have e1 := Nat.eq_of_beq_eq_true e1
    have e2 := Nat.eq_of_beq_eq_true e2
    subst e1 e2; rfl)
/-- how the model's words are told -/
def WaM (τ : Hp) (w : Wd) : Prop := (∀ j, j < 8 → -1000 ≤ w j ∧ w j ≤ 1000) ∧ ((w 3 = -1 ∧ w 5 = -1) ∨ ∃ e : Nat, e < 28 ∧ w 3 = (e : Int) ∧ hI τ 59 (6 + e) = zI (w 5)) ∧ ((w 2 = -1 ∧ w 6 = 0) ∨ ∃ u : Nat, u < 8 ∧ w 2 = (u : Int) ∧ hI τ 73 u = zI (w 6))
def tlM (T : Nat → Wd → Option Int) (h : Nat) (w : Wd) (wo : Int) : Int := match T h w with
  | some z => if h < 2 then z else 1
  | none => wo
def LfM (ρ : Hp) (T : Nat → Wd → Option Int) : Prop := ∀ (d : Nat) (τ : Hp) (w : Wd) (h : Nat) (wo : Int), h < 5 → Qm ρ τ → WaM τ w → Ev (den (d + 5, 180, 0, [.ref 57, .int (nI h), .int (zI (w 0)), .int (zI (w 1)), .int (zI (w 2)), .int (zI (w 3)), .int (zI (w 4)), .int (zI (w 7)), .long (zL wo), .float 0, .float 0, .float 0, .float 0, .float 0], [], τ)) (fun v υ => v = some (.long (zL (tlM T h w wo))) ∧ Qs τ υ ∧ ∀ z, T h w = some z → h < 2 → Bz z)
theorem M_tloop {nc : Nat} {hs : Nat → Nat} {t : Nat → Bool} {φ ψ : Nat → Ph} (lw : LwM g nc hs t φ ψ) (hr : RwM τ B g w) {h : Nat} {wo : Int} (h5 : h < 5) (x2 x3 x4 x5 x6 x7 x8 : Value) : Ev (den (d + 4, 180, 146, [.ref 57, .int (nI h), x2, x3, x4, x5, x6, x7, x8, .float 0, .long (zL wo), .float 0, .int (nI 0), .float 0], [], τ)) (fun v υ => v = some (.long (zL (tlM (fun h w => tel hs (fun i => phI (φ i) (ψ i)) h w nc) h w wo))) ∧ Qj τ υ ∧ ∀ z, tel hs (fun i => phI (φ i) (ψ i)) h w nc = some z → h < 2 → Bz z) := by
  obtain ⟨b0, b1, b2, ⟨n12, g1⟩, cl⟩ := lw
  have key := lp (α := Hp × Value) (h := fun i x => (d + 4, 180, 146, [.ref 57, .int (nI h), x2, x3, x4, x5, x6, x7, x8, .float 0, .long (zL (tlM (fun h w => tel hs (fun i => phI (φ i) (ψ i)) h w i) h w wo)), .float 0, .int (nI i), x.2], [], x.1))
    (I := fun i x => Qj τ x.1 ∧ ∀ z, tel hs (fun i => phI (φ i) (ψ i)) h w i = some z → h < 2 → Bz z)
    (Q := fun v υ => v = some (.long (zL (tlM (fun h w => tel hs (fun i => phI (φ i) (ψ i)) h w nc) h w wo))) ∧ Qj τ υ ∧ ∀ z, tel hs (fun i => phI (φ i) (ψ i)) h w nc = some z → h < 2 → Bz z) nc ?step ?fin 0 (τ, .float 0) (Nat.zero_le _) ⟨Ag_r, fun z hz => nomatch hz⟩
  · exact key
  case fin =>
    intro ⟨υ, l⟩ ⟨gq, hz⟩
    have hr1 := RwM_k gq hr
    have e1 : hI υ 59 (B + 1) = nI nc := by rw [hr1.2.2.1 1 (by omega)]; exact g1
    have hB := hr.2.1.2
    show Ev (den (d + 4, 180, 146, [.ref 57, .int (nI h), x2, x3, x4, x5, x6, x7, x8, .float 0, .long (zL (tlM (fun h w => tel hs (fun i => phI (φ i) (ψ i)) h w nc) h w wo)), .float 0, .int (nI nc), l], [], υ)) _
    rw [a180_146]
    simp (disch := first | omega | (repeat (first | assumption | exact Ag_r | refine Ag_I ?_ rfl | refine Ag_F ?_ rfl | refine Ag_J ?_ rfl))) only [A180, FM hr1.1, hr1.2.1.1, e1, CO, HA, HB, HC, Nat.not_lt_zero, Nat.add_assoc, c_nlt, c_nle, c_neq, c_P, c_cl, c_m1, c_m1', nI_add, pk_mul, reduceIte, Nat.reduceEqDiff, Nat.reduceAdd, Nat.reduceMul, Nat.reduceLeDiff, eq_self, ↓pk_rem, pk_div, c_of, d_le, d_nle, d_lt, d_nlt, d_eq, d_ne]
    exact Ev_s ⟨rfl, gq, hz⟩
  case step =>
    intro i ⟨υ, l⟩ hi ⟨gq, hz⟩ next
    have hr1 := RwM_k gq hr
    have e1 : hI υ 59 (B + 1) = nI nc := by rw [hr1.2.2.1 1 (by omega)]; exact g1
    have hB := hr.2.1.2
    have k0 := (cl i hi).2.2.1.1
    have a3 := (cl i hi).1
    have e2 : hI υ 59 (B + (2 + 8 * i)) = nI (hs i) := by rw [hr1.2.2.1 _ (by omega)]; exact k0
    have so := M_isSo (d := d) ⟨b0, b1, b2, ⟨n12, g1⟩, cl⟩ hi hr1
    show Ev (den (d + 4, 180, 146, [.ref 57, .int (nI h), x2, x3, x4, x5, x6, x7, x8, .float 0, .long (zL (tlM (fun h w => tel hs (fun i => phI (φ i) (ψ i)) h w i) h w wo)), .float 0, .int (nI i), l], [], υ)) _
    rw [a180_146]
    by_cases hh : hs i = h
    · cases p : phI (φ i) (ψ i) w with
      | none =>
        have te : tel hs (fun i => phI (φ i) (ψ i)) h w (i + 1) = tel hs (fun i => phI (φ i) (ψ i)) h w i := by simp only [tel, if_pos hh, p]
        simp (disch := first | omega | (repeat (first | assumption | exact Ag_r | refine Ag_I ?_ rfl | refine Ag_F ?_ rfl | refine Ag_J ?_ rfl))) only [A180, FM hr1.1, hr1.2.1.1, e1, e2, hh, CO, HA, HB, HC, Nat.not_lt_zero, Nat.add_assoc, c_nlt, c_nle, c_neq, c_P, c_cl, c_m1, c_m1', nI_add, pk_mul, reduceIte, Nat.reduceEqDiff, Nat.reduceAdd, Nat.reduceMul, Nat.reduceLeDiff, eq_self, ↓pk_rem, pk_div, c_of, d_le, d_nle, d_lt, d_nlt, d_eq, d_ne]
        refine Ev_b (so.1 p) ?_
        rintro _ ω ⟨rfl, g2⟩
        simp (disch := first | omega | (repeat (first | assumption | exact Ag_r | refine Ag_I ?_ rfl | refine Ag_F ?_ rfl | refine Ag_J ?_ rfl))) only [A180, CO, HA, HB, HC, Nat.not_lt_zero, Nat.add_assoc, c_nlt, c_nle, c_neq, c_P, c_cl, c_m1, c_m1', nI_add, pk_mul, reduceIte, Nat.reduceEqDiff, Nat.reduceAdd, Nat.reduceMul, Nat.reduceLeDiff, eq_self, ↓pk_rem, pk_div, c_of, d_le, d_nle, d_lt, d_nlt, d_eq, d_ne]
        have nx := next (ω, .int (nI (B + (2 + 8 * i)))) ⟨Ag_t gq g2, by rw [te]; exact hz⟩
        simp only [tlM, te] at nx ⊢
        exact nx
      | some x =>
        have te : tel hs (fun i => phI (φ i) (ψ i)) h w (i + 1) = some x := by simp only [tel, if_pos hh, p]
        simp (disch := first | omega | (repeat (first | assumption | exact Ag_r | refine Ag_I ?_ rfl | refine Ag_F ?_ rfl | refine Ag_J ?_ rfl))) only [A180, FM hr1.1, hr1.2.1.1, e1, e2, hh, CO, HA, HB, HC, Nat.not_lt_zero, Nat.add_assoc, c_nlt, c_nle, c_neq, c_P, c_cl, c_m1, c_m1', nI_add, pk_mul, reduceIte, Nat.reduceEqDiff, Nat.reduceAdd, Nat.reduceMul, Nat.reduceLeDiff, eq_self, ↓pk_rem, pk_div, c_of, d_le, d_nle, d_lt, d_nlt, d_eq, d_ne]
        refine Ev_b (so.2 x p) ?_
        rintro _ ω ⟨rfl, g2, sm⟩
        have f2 := Qj_M g2 hr1.1
        by_cases h2 : h < 2
        · have s2 := sm (by rw [hh]; exact h2)
          have nx := next (ω, .int (nI (B + (2 + 8 * i)))) ⟨Ag_t gq g2, by rw [te]; intro z q; cases q; exact fun _ => s2.2⟩
          rw [show tlM (fun h w => tel hs (fun i => phI (φ i) (ψ i)) h w (i + 1)) h w wo = x from by simp only [tlM, te, if_pos h2]] at nx
          refine Ev_e ?_ nx
          simp (disch := first | omega | (repeat (first | assumption | exact Ag_r | refine Ag_I ?_ rfl | refine Ag_F ?_ rfl | refine Ag_J ?_ rfl))) only [A180, FM f2, s2.1, CO, HA, HB, HC, Nat.not_lt_zero, Nat.add_assoc, c_nlt, c_nle, c_neq, c_P, c_cl, c_m1, c_m1', nI_add, pk_mul, reduceIte, Nat.reduceEqDiff, Nat.reduceAdd, Nat.reduceMul, Nat.reduceLeDiff, eq_self, ↓pk_rem, pk_div, c_of, d_le, d_nle, d_lt, d_nlt, d_eq, d_ne]
          all_goals rfl
        · have nx := next (ω, .int (nI (B + (2 + 8 * i)))) ⟨Ag_t gq g2, by rw [te]; intro z q; cases q; exact fun z => absurd z h2⟩
          rw [show tlM (fun h w => tel hs (fun i => phI (φ i) (ψ i)) h w (i + 1)) h w wo = 1 from by simp only [tlM, te, if_neg h2]] at nx
          refine Ev_e ?_ nx
          simp (disch := first | omega | (repeat (first | assumption | exact Ag_r | refine Ag_I ?_ rfl | refine Ag_F ?_ rfl | refine Ag_J ?_ rfl))) only [A180, FM f2, CO, HA, HB, HC, Nat.not_lt_zero, Nat.add_assoc, c_nlt, c_nle, c_neq, c_P, c_cl, c_m1, c_m1', nI_add, pk_mul, reduceIte, Nat.reduceEqDiff, Nat.reduceAdd, Nat.reduceMul, Nat.reduceLeDiff, eq_self, ↓pk_rem, pk_div, c_of, d_le, d_nle, d_lt, d_nlt, d_eq, d_ne]
          all_goals rfl
    · have te : tel hs (fun i => phI (φ i) (ψ i)) h w (i + 1) = tel hs (fun i => phI (φ i) (ψ i)) h w i := by simp only [tel, if_neg hh]
      have nx := next (υ, .int (nI (B + (2 + 8 * i)))) ⟨gq, by rw [te]; exact hz⟩
      simp only [tlM, te] at nx ⊢
      simp (disch := first | omega | (repeat (first | assumption | exact Ag_r | refine Ag_I ?_ rfl | refine Ag_F ?_ rfl | refine Ag_J ?_ rfl))) only [A180, FM hr1.1, hr1.2.1.1, e1, e2, hh, CO, HA, HB, HC, Nat.not_lt_zero, Nat.add_assoc, c_nlt, c_nle, c_neq, c_P, c_cl, c_m1, c_m1', nI_add, pk_mul, reduceIte, Nat.reduceEqDiff, Nat.reduceAdd, Nat.reduceMul, Nat.reduceLeDiff, eq_self, ↓pk_rem, pk_div, c_of, d_le, d_nle, d_lt, d_nlt, d_eq, d_ne]
      exact nx
theorem InM_Lf {T : Nat → Wd → Option Int} (hM : FxM ρ) (hi : InM ρ T) : LfM ρ T := by
  intro d τ w h wo h5 hq ⟨wb, wr, wh⟩
  have h' := Qm_M hq hM
  have e3 := Ag_i hq 59 rfl
  have toL : ∀ j, j < 8 → (zI (w j)).toInt64 = zL (w j) := fun j hj => by have := wb j hj; exact zI_L (by omega) (by omega)
  have t0 := toL 0 (by omega)
  have t1 := toL 1 (by omega)
  have t2 := toL 2 (by omega)
  have t3 := toL 3 (by omega)
  have t4 := toL 4 (by omega)
  have t5 := toL 5 (by omega)
  have t6 := toL 6 (by omega)
  have t7 := toL 7 (by omega)
  rcases hi with ⟨i1, rfl⟩ | ⟨i, n, hs, t, φ, ψ, ⟨i1, i2⟩, lw, rfl⟩
  · have i1' : hI τ 59 3 = -1 := by rw [e3]; exact i1
    simp (disch := first | omega | (repeat (first | assumption | exact Ag_r | refine Ag_I ?_ rfl | refine Ag_F ?_ rfl | refine Ag_J ?_ rfl))) only [A180, FM h', i1', CO, HA, HB, HC, Nat.not_lt_zero, Nat.add_assoc, c_nlt, c_nle, c_neq, c_P, c_cl, c_m1, c_m1', nI_add, pk_mul, reduceIte, Nat.reduceEqDiff, Nat.reduceAdd, Nat.reduceMul, Nat.reduceLeDiff, eq_self, ↓pk_rem, pk_div, c_of, d_le, d_nle, d_lt, d_nlt, d_eq, d_ne]
    exact Ev_s ⟨rfl, Ag_r, fun z hz => nomatch hz⟩
  · have i1' : hI τ 59 3 = nI i := by rw [e3]; exact i1
    generalize fdef : vp_updL (vp_updL (vp_updL (vp_updL (vp_updL (vp_updL (vp_updL (vp_updL (hJ τ 70) 1 (zL (w 0))) 2 (zL (w 1))) 3 (zL (w 2))) 4 (zL (w 3))) 5 (zL (w 4))) 6 (zL (w 5))) 7 (zL (w 6))) 8 (zL (w 7)) = F
    have st : den (d + 5, 180, 0, [.ref 57, .int (nI h), .int (zI (w 0)), .int (zI (w 1)), .int (zI (w 2)), .int (zI (w 3)), .int (zI (w 4)), .int (zI (w 7)), .long (zL wo), .float 0, .float 0, .float 0, .float 0, .float 0], [], τ) = den (d + 5, 180, 146, [.ref 57, .int (nI h), .int (zI (w 0)), .int (zI (w 1)), .int (zI (w 2)), .int (zI (w 3)), .int (zI (w 4)), .int (zI (w 7)), .long (zL wo), .float 0, .long (zL wo), .float 0, .int (nI 0), .float 0], [], sF (sJ τ 70 F) 57 27 (.int (nI (390 + 900 * i)))) := by
      rw [← fdef]
      rcases wr with ⟨y1, y2⟩ | ⟨e, he, y1, y2⟩ <;> rcases wh with ⟨y3, y4⟩ | ⟨u, hu, y3, y4⟩
      · have q1 : (zI (w 3) = (-1 : Int32)) = True := eq_true (by rw [y1]; rfl)
        have q2 : (zI (w 2) = (-1 : Int32)) = True := eq_true (by rw [y3]; rfl)
        have q3 : (-1 : Int64) = zL (w 5) := by rw [y2]; rfl
        have q4 : lN 0 = zL (w 6) := by rw [y4]; rfl
        simp (disch := first | omega | (repeat (first | assumption | exact Ag_r | refine Ag_I ?_ rfl | refine Ag_F ?_ rfl | refine Ag_J ?_ rfl))) only [A180, FM h', i1', q1, q2, q3, q4, t0, t1, t2, t3, t4, t5, t6, t7, CO, HA, HB, HC, Nat.not_lt_zero, Nat.add_assoc, c_nlt, c_nle, c_neq, c_P, c_cl, c_m1, c_m1', nI_add, pk_mul, reduceIte, Nat.reduceEqDiff, Nat.reduceAdd, Nat.reduceMul, Nat.reduceLeDiff, eq_self, ↓pk_rem, pk_div, c_of, d_le, d_nle, d_lt, d_nlt, d_eq, d_ne]
      · have q1 : (zI (w 3) = (-1 : Int32)) = True := eq_true (by rw [y1]; rfl)
        have q2 : (zI (w 2) = (-1 : Int32)) = False := eq_false (by rw [y3, show (-1 : Int32) = zI (-1) from rfl, zI_eq (by omega) (by omega)]; omega)
        have q3 : (-1 : Int64) = zL (w 5) := by rw [y2]; rfl
        have q4 : zI (w 2) = nI u := by rw [y3, zI_n]
        have q5 : (nI u).toInt64 = zL (w 2) := by rw [← q4]; exact t2
        rw [q4] at q2
        rw [q4]
        simp (disch := first | omega | (repeat (first | assumption | exact Ag_r | refine Ag_I ?_ rfl | refine Ag_F ?_ rfl | refine Ag_J ?_ rfl))) only [A180, FM h', i1', q1, q2, q3, y4, q5, t0, t1, t3, t4, t5, t6, t7, CO, HA, HB, HC, Nat.not_lt_zero, Nat.add_assoc, c_nlt, c_nle, c_neq, c_P, c_cl, c_m1, c_m1', nI_add, pk_mul, reduceIte, Nat.reduceEqDiff, Nat.reduceAdd, Nat.reduceMul, Nat.reduceLeDiff, eq_self, ↓pk_rem, pk_div, c_of, d_le, d_nle, d_lt, d_nlt, d_eq, d_ne]
      · have q1 : (zI (w 3) = (-1 : Int32)) = False := eq_false (by rw [y1, show (-1 : Int32) = zI (-1) from rfl, zI_eq (by omega) (by omega)]; omega)
        have q2 : (zI (w 2) = (-1 : Int32)) = True := eq_true (by rw [y3]; rfl)
        have q3 : zI (w 3) = nI e := by rw [y1, zI_n]
        have q4 : lN 0 = zL (w 6) := by rw [y4]; rfl
        have q5 : (nI e).toInt64 = zL (w 3) := by rw [← q3]; exact t3
        rw [q3] at q1
        rw [q3]
        simp (disch := first | omega | (repeat (first | assumption | exact Ag_r | refine Ag_I ?_ rfl | refine Ag_F ?_ rfl | refine Ag_J ?_ rfl))) only [A180, FM h', i1', q1, q2, q4, y2, q5, t0, t1, t2, t4, t5, t6, t7, CO, HA, HB, HC, Nat.not_lt_zero, Nat.add_assoc, c_nlt, c_nle, c_neq, c_P, c_cl, c_m1, c_m1', nI_add, pk_mul, reduceIte, Nat.reduceEqDiff, Nat.reduceAdd, Nat.reduceMul, Nat.reduceLeDiff, eq_self, ↓pk_rem, pk_div, c_of, d_le, d_nle, d_lt, d_nlt, d_eq, d_ne]
      · have q1 : (zI (w 3) = (-1 : Int32)) = False := eq_false (by rw [y1, show (-1 : Int32) = zI (-1) from rfl, zI_eq (by omega) (by omega)]; omega)
        have q2 : (zI (w 2) = (-1 : Int32)) = False := eq_false (by rw [y3, show (-1 : Int32) = zI (-1) from rfl, zI_eq (by omega) (by omega)]; omega)
        have q3 : zI (w 3) = nI e := by rw [y1, zI_n]
        have q4 : zI (w 2) = nI u := by rw [y3, zI_n]
        have q5 : (nI e).toInt64 = zL (w 3) := by rw [← q3]; exact t3
        have q6 : (nI u).toInt64 = zL (w 2) := by rw [← q4]; exact t2
        rw [q3] at q1
        rw [q4] at q2
        rw [q3, q4]
        simp (disch := first | omega | (repeat (first | assumption | exact Ag_r | refine Ag_I ?_ rfl | refine Ag_F ?_ rfl | refine Ag_J ?_ rfl))) only [A180, FM h', i1', q1, q2, y2, y4, q5, q6, t0, t1, t4, t5, t6, t7, CO, HA, HB, HC, Nat.not_lt_zero, Nat.add_assoc, c_nlt, c_nle, c_neq, c_P, c_cl, c_m1, c_m1', nI_add, pk_mul, reduceIte, Nat.reduceEqDiff, Nat.reduceAdd, Nat.reduceMul, Nat.reduceLeDiff, eq_self, ↓pk_rem, pk_div, c_of, d_le, d_nle, d_lt, d_nlt, d_eq, d_ne]
    rw [st]
    have gq : Qs τ (sF (sJ τ 70 F) 57 27 (.int (nI (390 + 900 * i)))) := Ag_F (Ag_J Ag_r rfl) rfl
    have hr : RwM (sF (sJ τ 70 F) 57 27 (.int (nI (390 + 900 * i)))) (390 + 900 * i) (fun j => hI ρ 59 (390 + 900 * i + j)) w := by
      refine ⟨Qm_M (Qs_m gq) h', ⟨by simp only [HA, and_self, reduceIte], by omega⟩, fun j hj => ?_, fun j hj => ?_⟩
      · simp only [HA]; rw [e3]
      · have := wb j hj
        refine ⟨?_, this.1, this.2⟩
        simp only [HA, reduceIte]
        rw [← fdef]
        obtain rfl | rfl | rfl | rfl | rfl | rfl | rfl | rfl : j = 0 ∨ j = 1 ∨ j = 2 ∨ j = 3 ∨ j = 4 ∨ j = 5 ∨ j = 6 ∨ j = 7 := by omega
        all_goals rfl
    refine Ev_m (M_tloop (d := d + 1) (wo := wo) lw hr h5 _ _ _ _ _ _ _) ?_
    intro v υ ⟨h1, h2, h3⟩
    exact ⟨h1, Ag_t gq (Qj_s h2), h3⟩
end
/-! pays, costs, bars on both sides -/
def wdf (a0 a1 a2 a3 a4 a5 a6 a7 : Int) : Wd := fun j => if j = 0 then a0 else if j = 1 then a1 else if j = 2 then a2 else if j = 3 then a3 else if j = 4 then a4 else if j = 5 then a5 else if j = 6 then a6 else a7
def clp (lo hi z : Int) : Int := if z < lo then lo else if hi < z then hi else z
abbrev Tl : Type := Nat → Wd → Option Int
def tv (T : Tl) (h : Nat) (w : Wd) (lo hi : Int) : Int := match T h w with
  | some z => clp lo hi z
  | none => 1
def tb (T : Tl) (h : Nat) (w : Wd) : Bool := (T h w).isSome
def payW (H rn : Nat → Nat) (c : Nat) : Wd := wdf ((c / 28 : Nat) : Int) (H c) (-1) ((c % 28 : Nat) : Int) ((c % 28 % 7 : Nat) : Int) (rn (c % 28)) 0 (-1)
def cosW (a b h : Nat) : Wd := wdf (-1) a b (-1) (-1) (-1) h (-1)
def barW (rn : Nat → Nat) (c ho to h : Nat) : Wd := wdf ((c / 28 : Nat) : Int) ho to ((c % 28 : Nat) : Int) ((c % 28 % 7 : Nat) : Int) (rn (c % 28)) h (-1)
def RnC (σ : Hp) (rn : Nat → Nat) : Prop := ∀ e, e < 28 → hI σ 3 e = nI (rn e) ∧ rn e ≤ 1
def RnM (ρ : Hp) (rn : Nat → Nat) : Prop := ∀ e, e < 28 → hI ρ 59 (6 + e) = nI (rn e) ∧ rn e ≤ 1
def Qw (σ τ : Hp) : Prop := Ag (fun k => Nat.beq k 19 || Nat.beq k 20) (fun k j => Nat.beq k 18 && (Nat.beq j 2 || Nat.beq j 3)) σ τ
theorem Qt_w {σ τ : Hp} (g : Qt σ τ) : Qw σ τ := Ag_w g (fun k e => by rw [e, Bool.or_true]) (fun _ _ e => e)
theorem Qw_c {σ τ : Hp} (g : Qw σ τ) : Qc σ τ := Ag_w g (fun k e => by
  simp only [Bool.or_eq_true] at e
  rcases e with e | e <;> (have := Nat.eq_of_beq_eq_true e; subst this; rfl)) (fun k j e => by
  simp only [Bool.and_eq_true, Bool.or_eq_true] at e
  obtain ⟨e1, e2 | e2⟩ := e <;>
  · have e1 := Nat.eq_of_beq_eq_true e1
    have e2 := Nat.eq_of_beq_eq_true e2
    subst e1 e2; rfl)
theorem Qw_C {σ τ : Hp} (g : Qw σ τ) (h : FxC σ) : FxC τ := Qc_C (Qw_c g) h
theorem Cal_w {σ τ : Hp} {v : Nat} {H : Nat → Nat} (g : Qw σ τ) (h : Cal σ v H) : Cal τ v H := fun u e hu he => by rw [Ag_i g 22 rfl]; exact h u e hu he
section
variable {d v : Nat} {H rn : Nat → Nat} {σ ρ τ : Hp} {T : Tl}
theorem C_blank (h : FxC τ) : den (d + 1, 30, 0, [.ref 18], [], τ) = some (none, sI τ 19 (upd (fil (hI τ 19) (-1) 8) 6 (nI 0))) := by
  have k19 : kd τ 19 = 100 ∧ hL τ 19 = 8 := by have z := FC h; simp only [z, and_self]
  simp (disch := first | omega | (repeat (first | assumption | exact Ag_r | refine Ag_I ?_ rfl | refine Ag_F ?_ rfl | refine Ag_J ?_ rfl))) only [A30, FC h, J_fill τ k19.1 k19.2 (by omega), CO, HA, HB, HC, Nat.not_lt_zero, Nat.add_assoc, c_nlt, c_nle, c_neq, c_P, c_cl, c_m1, c_m1', nI_add, pk_mul, reduceIte, Nat.reduceEqDiff, Nat.reduceAdd, Nat.reduceMul, Nat.reduceLeDiff, eq_self, ↓pk_rem, pk_div, c_of, d_le, d_nle, d_lt, d_nlt, d_eq, d_ne]
theorem C_setCopy (h : FxC τ) {c : Nat} (hc : c < 224) : den (d, 31, 0, [.ref 18, .ref 1, .int (nI c), .float 0], [], τ) = some (none, sI τ 19 (upd (upd (upd (upd (hI τ 19) 0 (nI (c / 28))) 3 (nI (c % 28))) 4 (nI (c % 28 % 7))) 5 (hI τ 3 (c % 28)))) := by
  have hm : c % 28 < 28 := Nat.mod_lt _ (by omega)
  simp (disch := first | omega | (repeat (first | assumption | exact Ag_r | refine Ag_I ?_ rfl | refine Ag_F ?_ rfl | refine Ag_J ?_ rfl))) only [A31, FC h, CO, HA, HB, HC, Nat.not_lt_zero, Nat.add_assoc, c_nlt, c_nle, c_neq, c_P, c_cl, c_m1, c_m1', nI_add, pk_mul, reduceIte, Nat.reduceEqDiff, Nat.reduceAdd, Nat.reduceMul, Nat.reduceLeDiff, eq_self, ↓pk_rem, pk_div, c_of, d_le, d_nle, d_lt, d_nlt, d_eq, d_ne]
theorem C_setTaker (h : FxC τ) (x y : Int32) : den (d, 32, 0, [.ref 18, .int x, .int y], [], τ) = some (none, sI τ 19 (upd (upd (hI τ 19) 2 x) 6 y)) := by
  simp (disch := first | omega | (repeat (first | assumption | exact Ag_r | refine Ag_I ?_ rfl | refine Ag_F ?_ rfl | refine Ag_J ?_ rfl))) only [A32, FC h, CO, HA, HB, HC, Nat.not_lt_zero, Nat.add_assoc, c_nlt, c_nle, c_neq, c_P, c_cl, c_m1, c_m1', nI_add, pk_mul, reduceIte, Nat.reduceEqDiff, Nat.reduceAdd, Nat.reduceMul, Nat.reduceLeDiff, eq_self, ↓pk_rem, pk_div, c_of, d_le, d_nle, d_lt, d_nlt, d_eq, d_ne]
theorem clp_C {z lo hi : Int} (bz : Bz z) (h0 : -1000 ≤ lo) (h1 : lo ≤ hi) (h2 : hi ≤ 1000) : (if zI lo < (if zI z < zI hi then zI z else zI hi) then (if zI z < zI hi then zI z else zI hi) else zI lo) = zI (clp lo hi z) := by
  unfold Bz at bz
  unfold clp
  have q1 : (zI z < zI hi) = (z < hi) := zI_lt (by omega) (by omega)
  simp only [q1]
  by_cases a : z < hi
  · have q2 : (zI lo < zI z) = (lo < z) := zI_lt (by omega) (by omega)
    simp only [a, reduceIte, q2]
    by_cases b : z < lo
    · rw [if_neg (by omega), if_pos b]
    · rw [if_neg b, if_neg (show ¬ hi < z by omega)]
      by_cases e : lo < z
      · rw [if_pos e]
      · rw [if_neg e, show lo = z by omega]
  · have q2 : (zI lo < zI hi) = (lo < hi) := zI_lt (by omega) (by omega)
    simp only [a, reduceIte, q2]
    by_cases e : lo < hi
    · rw [if_pos e, if_neg (by omega)]
      by_cases f : hi < z
      · rw [if_pos f]
      · rw [if_neg f, show hi = z by omega]
    · rw [if_neg e]
      by_cases f : z < lo
      · rw [if_pos f]
      · rw [if_neg f]
        by_cases f : hi < z
        · rw [if_pos f, show lo = hi by omega]
        · rw [if_neg f, show lo = z by omega]
theorem j8 {P : Nat → Prop} (h0 : P 0) (h1 : P 1) (h2 : P 2) (h3 : P 3) (h4 : P 4) (h5 : P 5) (h6 : P 6) (h7 : P 7) : ∀ j, j < 8 → P j := by
  intro j hj
  obtain rfl | rfl | rfl | rfl | rfl | rfl | rfl | rfl : j = 0 ∨ j = 1 ∨ j = 2 ∨ j = 3 ∨ j = 4 ∨ j = 5 ∨ j = 6 ∨ j = 7 := by omega
  all_goals assumption
theorem C_payOf (hC : FxC σ) (sC : StC σ v H) (hw : Wf v H) (rC : RnC σ rn) (lf : LfC σ T) {o e : Nat} (ho : o < 8) (he : e < 28) (hq : Qc σ τ) : Ev (den (d + 5, 26, 0, [.ref 18, .ref 1, .int (nI o), .int (nI e)], [], τ)) (fun a υ => a = some (.int (zI (tv T 0 (payW H rn (28 * o + e)) (-99) 99))) ∧ Qw τ υ) := by
  have h' := Qc_C hq hC
  have e2 := Ag_i hq 2 rfl
  have e3 := Ag_i hq 3 rfl
  have s1 := sC.2 (28 * o + e) (by omega)
  have r1 := rC ((28 * o + e) % 28) (by omega)
  have H8 := Wf_8 hw (c := 28 * o + e) (by omega)
  have f2 := fun (d : Nat) (G : Nat → Int32) => C_setCopy (d := d) (τ := sI τ 19 G) h' (c := 28 * o + e) (by omega)
  generalize wdef : payW H rn (28 * o + e) = w
  have wd : WdC (sI τ 19 (upd (upd (upd (upd (upd (upd (fil (hI τ 19) (-1) 8) 6 (nI 0)) 0 (nI ((28 * o + e) / 28))) 3 (nI ((28 * o + e) % 28))) 4 (nI ((28 * o + e) % 28 % 7))) 5 (hI τ 3 ((28 * o + e) % 28))) 1 (hI τ 2 (28 * o + e)))) w := by
    rw [← wdef, e2, e3, s1, r1.1]
    have r2 := r1.2
    unfold WdC
    simp only [HA, reduceIte]
    refine j8 ?_ ?_ ?_ ?_ ?_ ?_ ?_ ?_ <;> refine ⟨?_, ?_, ?_⟩ <;> first | rfl | exact (zI_n _).symm | (simp only [payW, wdf, reduceIte, Nat.reduceEqDiff]; omega)
  have L := lf d _ w 0 (by omega) (Ag_I hq rfl) wd
  simp (disch := first | omega | (repeat (first | assumption | exact Ag_r | refine Ag_I ?_ rfl | refine Ag_F ?_ rfl | refine Ag_J ?_ rfl))) only [A26, FC h', C_blank h', f2, Nat.mul_comm o 28, CO, HA, HB, HC, Nat.not_lt_zero, Nat.add_assoc, c_nlt, c_nle, c_neq, c_P, c_cl, c_m1, c_m1', nI_add, pk_mul, reduceIte, Nat.reduceEqDiff, Nat.reduceAdd, Nat.reduceMul, Nat.reduceLeDiff, eq_self, ↓pk_rem, pk_div, c_of, d_le, d_nle, d_lt, d_nlt, d_eq, d_ne]
  refine Ev_b L ?_
  rintro _ υ ⟨rfl, g, hz⟩
  have h2 := Qc_C (Qt_c g) (show FxC (sI τ 19 _) from h')
  have gw : Qw τ υ := Ag_t (Ag_I Ag_r rfl) (Qt_w g)
  unfold tv
  cases p : T 0 w with
  | none =>
    simp only [Option.isSome_none, Bool.false_eq_true]
    simp (disch := first | omega | (repeat (first | assumption | exact Ag_r | refine Ag_I ?_ rfl | refine Ag_F ?_ rfl | refine Ag_J ?_ rfl))) only [A26, CO, HA, HB, HC, Nat.not_lt_zero, Nat.add_assoc, c_nlt, c_nle, c_neq, c_P, c_cl, c_m1, c_m1', nI_add, pk_mul, reduceIte, Nat.reduceEqDiff, Nat.reduceAdd, Nat.reduceMul, Nat.reduceLeDiff, eq_self, ↓pk_rem, pk_div, c_of, d_le, d_nle, d_lt, d_nlt, d_eq, d_ne]
    exact Ev_s ⟨rfl, gw⟩
  | some z =>
    have z2 := hz z p
    simp only [Option.isSome_some]
    simp (disch := first | omega | (repeat (first | assumption | exact Ag_r | refine Ag_I ?_ rfl | refine Ag_F ?_ rfl | refine Ag_J ?_ rfl))) only [A26, FC h2, z2.1, CO, HA, HB, HC, Nat.not_lt_zero, Nat.add_assoc, c_nlt, c_nle, c_neq, c_P, c_cl, c_m1, c_m1', nI_add, pk_mul, reduceIte, Nat.reduceEqDiff, Nat.reduceAdd, Nat.reduceMul, Nat.reduceLeDiff, eq_self, ↓pk_rem, pk_div, c_of, d_le, d_nle, d_lt, d_nlt, d_eq, d_ne]
    refine Ev_s ⟨?_, gw⟩
    rw [← clp_C z2.2 (lo := -99) (hi := 99) (by omega) (by omega) (by omega)]
    rfl
theorem C_costOf (hC : FxC σ) (lf : LfC σ T) {a b h : Nat} (ha : a < 8) (hb : b < 8) (hh : h ≤ 224) (hq : Qc σ τ) : Ev (den (d + 5, 27, 0, [.ref 18, .ref 1, .int (nI a), .int (nI b), .int (nI h)], [], τ)) (fun r υ => r = some (.int (zI (tv T 1 (cosW a b h) 0 99))) ∧ Qw τ υ) := by
  have h' := Qc_C hq hC
  have f3 := fun (d : Nat) (G : Nat → Int32) x y => C_setTaker (d := d) (τ := sI τ 19 G) h' x y
  generalize wdef : cosW a b h = w
  have wd : WdC (sI τ 19 (upd (upd (upd (upd (fil (hI τ 19) (-1) 8) 6 (nI 0)) 1 (nI a)) 2 (nI b)) 6 (nI h))) w := by
    rw [← wdef]
    unfold WdC
    simp only [HA, reduceIte]
    refine j8 ?_ ?_ ?_ ?_ ?_ ?_ ?_ ?_ <;> refine ⟨?_, ?_, ?_⟩ <;> first | rfl | exact (zI_n _).symm | (simp only [cosW, wdf, reduceIte, Nat.reduceEqDiff]; omega)
  have L := lf d _ w 1 (by omega) (Ag_I hq rfl) wd
  simp (disch := first | omega | (repeat (first | assumption | exact Ag_r | refine Ag_I ?_ rfl | refine Ag_F ?_ rfl | refine Ag_J ?_ rfl))) only [A27, FC h', C_blank h', f3, CO, HA, HB, HC, Nat.not_lt_zero, Nat.add_assoc, c_nlt, c_nle, c_neq, c_P, c_cl, c_m1, c_m1', nI_add, pk_mul, reduceIte, Nat.reduceEqDiff, Nat.reduceAdd, Nat.reduceMul, Nat.reduceLeDiff, eq_self, ↓pk_rem, pk_div, c_of, d_le, d_nle, d_lt, d_nlt, d_eq, d_ne]
  refine Ev_b L ?_
  rintro _ υ ⟨rfl, g, hz⟩
  have h2 := Qc_C (Qt_c g) (show FxC (sI τ 19 _) from h')
  have gw : Qw τ υ := Ag_t (Ag_I Ag_r rfl) (Qt_w g)
  unfold tv
  cases p : T 1 w with
  | none =>
    simp only [Option.isSome_none, Bool.false_eq_true]
    simp (disch := first | omega | (repeat (first | assumption | exact Ag_r | refine Ag_I ?_ rfl | refine Ag_F ?_ rfl | refine Ag_J ?_ rfl))) only [A27, CO, HA, HB, HC, Nat.not_lt_zero, Nat.add_assoc, c_nlt, c_nle, c_neq, c_P, c_cl, c_m1, c_m1', nI_add, pk_mul, reduceIte, Nat.reduceEqDiff, Nat.reduceAdd, Nat.reduceMul, Nat.reduceLeDiff, eq_self, ↓pk_rem, pk_div, c_of, d_le, d_nle, d_lt, d_nlt, d_eq, d_ne]
    exact Ev_s ⟨rfl, gw⟩
  | some z =>
    have z2 := hz z p
    simp only [Option.isSome_some]
    simp (disch := first | omega | (repeat (first | assumption | exact Ag_r | refine Ag_I ?_ rfl | refine Ag_F ?_ rfl | refine Ag_J ?_ rfl))) only [A27, FC h2, z2.1, CO, HA, HB, HC, Nat.not_lt_zero, Nat.add_assoc, c_nlt, c_nle, c_neq, c_P, c_cl, c_m1, c_m1', nI_add, pk_mul, reduceIte, Nat.reduceEqDiff, Nat.reduceAdd, Nat.reduceMul, Nat.reduceLeDiff, eq_self, ↓pk_rem, pk_div, c_of, d_le, d_nle, d_lt, d_nlt, d_eq, d_ne]
    refine Ev_s ⟨?_, gw⟩
    rw [← clp_C z2.2 (lo := 0) (hi := 99) (by omega) (by omega) (by omega)]
    rfl
theorem C_forbids (hC : FxC σ) (rC : RnC σ rn) (lf : LfC σ T) {c ho to h : Nat} (hc : c < 224) (h8 : ho < 8) (t8 : to < 8) (hh : h ≤ 224) (hq : Qc σ τ) : Ev (den (d + 5, 28, 0, [.ref 18, .ref 1, .int (nI c), .int (nI ho), .int (nI to), .int (nI h)], [], τ)) (fun r υ => r = some (.int (if tb T 2 (barW rn c ho to h) = true then nI 1 else nI 0)) ∧ Qw τ υ) := by
  have h' := Qc_C hq hC
  have e3 := Ag_i hq 3 rfl
  have r1 := rC (c % 28) (by omega)
  have f2 := fun (d : Nat) (G : Nat → Int32) => C_setCopy (d := d) (τ := sI τ 19 G) h' (c := c) hc
  have f3 := fun (d : Nat) (G : Nat → Int32) x y => C_setTaker (d := d) (τ := sI τ 19 G) h' x y
  generalize wdef : barW rn c ho to h = w
  have wd : WdC (sI τ 19 (upd (upd (upd (upd (upd (upd (upd (upd (fil (hI τ 19) (-1) 8) 6 (nI 0)) 0 (nI (c / 28))) 3 (nI (c % 28))) 4 (nI (c % 28 % 7))) 5 (hI τ 3 (c % 28))) 1 (nI ho)) 2 (nI to)) 6 (nI h))) w := by
    rw [← wdef, e3, r1.1]
    have r2 := r1.2
    unfold WdC
    simp only [HA, reduceIte]
    refine j8 ?_ ?_ ?_ ?_ ?_ ?_ ?_ ?_ <;> refine ⟨?_, ?_, ?_⟩ <;> first | rfl | exact (zI_n _).symm | (simp only [barW, wdf, reduceIte, Nat.reduceEqDiff]; omega)
  have L := lf d _ w 2 (by omega) (Ag_I hq rfl) wd
  simp (disch := first | omega | (repeat (first | assumption | exact Ag_r | refine Ag_I ?_ rfl | refine Ag_F ?_ rfl | refine Ag_J ?_ rfl))) only [A28, FC h', C_blank h', f2, f3, CO, HA, HB, HC, Nat.not_lt_zero, Nat.add_assoc, c_nlt, c_nle, c_neq, c_P, c_cl, c_m1, c_m1', nI_add, pk_mul, reduceIte, Nat.reduceEqDiff, Nat.reduceAdd, Nat.reduceMul, Nat.reduceLeDiff, eq_self, ↓pk_rem, pk_div, c_of, d_le, d_nle, d_lt, d_nlt, d_eq, d_ne]
  refine Ev_b L ?_
  rintro _ υ ⟨rfl, g, hz⟩
  have gw : Qw τ υ := Ag_t (Ag_I Ag_r rfl) (Qt_w g)
  unfold tb
  cases p : T 2 w with
  | none =>
    simp only [Option.isSome_none, Bool.false_eq_true]
    simp (disch := first | omega | (repeat (first | assumption | exact Ag_r | refine Ag_I ?_ rfl | refine Ag_F ?_ rfl | refine Ag_J ?_ rfl))) only [A28, CO, HA, HB, HC, Nat.not_lt_zero, Nat.add_assoc, c_nlt, c_nle, c_neq, c_P, c_cl, c_m1, c_m1', nI_add, pk_mul, reduceIte, Nat.reduceEqDiff, Nat.reduceAdd, Nat.reduceMul, Nat.reduceLeDiff, eq_self, ↓pk_rem, pk_div, c_of, d_le, d_nle, d_lt, d_nlt, d_eq, d_ne]
    exact Ev_s ⟨rfl, gw⟩
  | some z =>
    simp only [Option.isSome_some]
    simp (disch := first | omega | (repeat (first | assumption | exact Ag_r | refine Ag_I ?_ rfl | refine Ag_F ?_ rfl | refine Ag_J ?_ rfl))) only [A28, CO, HA, HB, HC, Nat.not_lt_zero, Nat.add_assoc, c_nlt, c_nle, c_neq, c_P, c_cl, c_m1, c_m1', nI_add, pk_mul, reduceIte, Nat.reduceEqDiff, Nat.reduceAdd, Nat.reduceMul, Nat.reduceLeDiff, eq_self, ↓pk_rem, pk_div, c_of, d_le, d_nle, d_lt, d_nlt, d_eq, d_ne]
    exact Ev_s ⟨rfl, gw⟩
theorem M_within {z lo hi : Int} (bz : Bz z) (h0 : -1000 ≤ lo) (h1 : lo ≤ hi) (h2 : hi ≤ 1000) : den (d, 181, 0, [.long (zL z), .float 0, .int (zI lo), .int (zI hi)], [], τ) = some (some (.int (zI (clp lo hi z))), τ) := by
  unfold Bz at bz
  have e1 : (zI lo).toInt64 = zL lo := zI_L (by omega) (by omega)
  have e2 : (zI hi).toInt64 = zL hi := zI_L (by omega) (by omega)
  unfold clp
  by_cases a : z < lo
  · simp (disch := first | omega | (repeat (first | assumption | exact Ag_r | refine Ag_I ?_ rfl | refine Ag_F ?_ rfl | refine Ag_J ?_ rfl))) only [A181, e1, e2, lc_ge, lc_le, zL_le, zL_I, show (lo ≤ z) = False from eq_false (by omega), if_pos a, CO, HA, HB, HC, Nat.not_lt_zero, Nat.add_assoc, c_nlt, c_nle, c_neq, c_P, c_cl, c_m1, c_m1', nI_add, pk_mul, reduceIte, Nat.reduceEqDiff, Nat.reduceAdd, Nat.reduceMul, Nat.reduceLeDiff, eq_self, ↓pk_rem, pk_div, c_of, d_le, d_nle, d_lt, d_nlt, d_eq, d_ne]
  · by_cases b : hi < z
    · simp (disch := first | omega | (repeat (first | assumption | exact Ag_r | refine Ag_I ?_ rfl | refine Ag_F ?_ rfl | refine Ag_J ?_ rfl))) only [A181, e1, e2, lc_ge, lc_le, zL_le, zL_I, show (lo ≤ z) = True from eq_true (by omega), show (z ≤ hi) = False from eq_false (by omega), if_neg a, if_pos b, CO, HA, HB, HC, Nat.not_lt_zero, Nat.add_assoc, c_nlt, c_nle, c_neq, c_P, c_cl, c_m1, c_m1', nI_add, pk_mul, reduceIte, Nat.reduceEqDiff, Nat.reduceAdd, Nat.reduceMul, Nat.reduceLeDiff, eq_self, ↓pk_rem, pk_div, c_of, d_le, d_nle, d_lt, d_nlt, d_eq, d_ne]
    · simp (disch := first | omega | (repeat (first | assumption | exact Ag_r | refine Ag_I ?_ rfl | refine Ag_F ?_ rfl | refine Ag_J ?_ rfl))) only [A181, e1, e2, lc_ge, lc_le, zL_le, zL_I, show (lo ≤ z) = True from eq_true (by omega), show (z ≤ hi) = True from eq_true (by omega), if_neg a, if_neg b, CO, HA, HB, HC, Nat.not_lt_zero, Nat.add_assoc, c_nlt, c_nle, c_neq, c_P, c_cl, c_m1, c_m1', nI_add, pk_mul, reduceIte, Nat.reduceEqDiff, Nat.reduceAdd, Nat.reduceMul, Nat.reduceLeDiff, eq_self, ↓pk_rem, pk_div, c_of, d_le, d_nle, d_lt, d_nlt, d_eq, d_ne]
/-- who holds what in the model's own rows, while it reckons -/
def HoM (τ : Hp) (K : Nat → Nat) (P : Nat → Nat) : Prop := (∀ c, c < 224 → hI τ 72 c = nI (K c) ∧ K c < 8) ∧ ∀ u, u < 8 → hI τ 73 u = nI (P u) ∧ P u ≤ 224
theorem HoM_s {τ υ : Hp} {K P : Nat → Nat} (g : Qs τ υ) (h : HoM τ K P) : HoM υ K P := ⟨fun c hc => by rw [Ag_i g 72 rfl]; exact h.1 c hc, fun u hu => by rw [Ag_i g 73 rfl]; exact h.2 u hu⟩
theorem HoM_ld {τ : Hp} (hw : Wf v H) (h : LdM τ v H) : HoM τ H (hd H v) := ⟨fun c hc => ⟨h.1 c hc, Wf_8 hw hc⟩, fun u hu => ⟨h.2 u hu, hd_le H u hw.2.1⟩⟩
theorem M_pays (hM : FxM ρ) (rM : RnM ρ rn) (lf : LfM ρ T) {K P : Nat → Nat} {c : Nat} (hc : c < 224) (hq : Qm ρ τ) (ho : HoM τ K P) : Ev (den (d + 6, 183, 0, [.ref 57, .int (nI c), .float 0], [], τ)) (fun a υ => a = some (.int (zI (tv T 0 (payW K rn c) (-99) 99))) ∧ Qs τ υ) := by
  have h' := Qm_M hq hM
  have k := ho.1 c hc
  have r := rM (c % 28) (by omega)
  rw [← Ag_i hq 59 rfl] at r
  have L := lf d τ (payW K rn c) 0 1 (by omega) hq ⟨by refine j8 ?_ ?_ ?_ ?_ ?_ ?_ ?_ ?_ <;> refine ⟨?_, ?_⟩ <;> simp only [payW, wdf, reduceIte, Nat.reduceEqDiff] <;> omega, Or.inr ⟨c % 28, by omega, rfl, by rw [r.1]; exact (zI_n _).symm⟩, Or.inl ⟨rfl, rfl⟩⟩
  have w0 : zI (payW K rn c 0) = nI (c / 28) := zI_n _
  have w1 : zI (payW K rn c 1) = nI (K c) := zI_n _
  have w2 : zI (payW K rn c 2) = -1 := rfl
  have w3 : zI (payW K rn c 3) = nI (c % 28) := zI_n _
  have w4 : zI (payW K rn c 4) = nI (c % 28 % 7) := zI_n _
  have w7 : zI (payW K rn c 7) = -1 := rfl
  rw [w0, w1, w2, w3, w4, w7] at L
  have hm : c % 28 < 28 := Nat.mod_lt _ (by omega)
  simp (disch := first | omega | (repeat (first | assumption | exact Ag_r | refine Ag_I ?_ rfl | refine Ag_F ?_ rfl | refine Ag_J ?_ rfl))) only [A183, FM h', k.1, show lN 1 = zL 1 from rfl, CO, HA, HB, HC, Nat.not_lt_zero, Nat.add_assoc, c_nlt, c_nle, c_neq, c_P, c_cl, c_m1, c_m1', nI_add, pk_mul, reduceIte, Nat.reduceEqDiff, Nat.reduceAdd, Nat.reduceMul, Nat.reduceLeDiff, eq_self, ↓pk_rem, pk_div, c_of, d_le, d_nle, d_lt, d_nlt, d_eq, d_ne]
  refine Ev_b L ?_
  rintro _ υ ⟨rfl, g, hz⟩
  have bz : Bz (tlM T 0 (payW K rn c) 1) := by
    unfold tlM
    cases p : T 0 (payW K rn c) with
    | none => show Bz 1; exact ⟨by omega, by omega⟩
    | some z => exact hz z p (by omega)
  have wn := M_within (d := d + 5) (τ := υ) bz (lo := -99) (hi := 99) (by omega) (by omega) (by omega)
  rw [show zI (-99) = (-99 : Int32) from rfl, show zI 99 = nI 99 from rfl] at wn
  simp (disch := first | omega | (repeat (first | assumption | exact Ag_r | refine Ag_I ?_ rfl | refine Ag_F ?_ rfl | refine Ag_J ?_ rfl))) only [A183, wn, CO, HA, HB, HC, Nat.not_lt_zero, Nat.add_assoc, c_nlt, c_nle, c_neq, c_P, c_cl, c_m1, c_m1', nI_add, pk_mul, reduceIte, Nat.reduceEqDiff, Nat.reduceAdd, Nat.reduceMul, Nat.reduceLeDiff, eq_self, ↓pk_rem, pk_div, c_of, d_le, d_nle, d_lt, d_nlt, d_eq, d_ne]
  refine Ev_s ⟨?_, g⟩
  unfold tlM tv
  cases p : T 0 (payW K rn c) with
  | none => rfl
  | some z => rfl
theorem M_isBarred (hM : FxM ρ) (rM : RnM ρ rn) (lf : LfM ρ T) {K P : Nat → Nat} {c to : Nat} (hc : c < 224) (ht : to < 8) (hq : Qm ρ τ) (ho : HoM τ K P) : Ev (den (d + 6, 182, 0, [.ref 57, .int (nI c), .int (nI to), .float 0], [], τ)) (fun a υ => a = some (.int (if tb T 2 (barW rn c (K c) to (P to)) = true then nI 1 else nI 0)) ∧ Qs τ υ) := by
  have h' := Qm_M hq hM
  have k := ho.1 c hc
  have k2 := ho.2 to ht
  have r := rM (c % 28) (by omega)
  rw [← Ag_i hq 59 rfl] at r
  have L := lf d τ (barW rn c (K c) to (P to)) 2 0 (by omega) hq ⟨by refine j8 ?_ ?_ ?_ ?_ ?_ ?_ ?_ ?_ <;> refine ⟨?_, ?_⟩ <;> simp only [barW, wdf, reduceIte, Nat.reduceEqDiff] <;> omega, Or.inr ⟨c % 28, by omega, rfl, by rw [r.1]; exact (zI_n _).symm⟩, Or.inr ⟨to, ht, rfl, by rw [k2.1]; exact (zI_n _).symm⟩⟩
  have w0 : zI (barW rn c (K c) to (P to) 0) = nI (c / 28) := zI_n _
  have w1 : zI (barW rn c (K c) to (P to) 1) = nI (K c) := zI_n _
  have w2 : zI (barW rn c (K c) to (P to) 2) = nI to := zI_n _
  have w3 : zI (barW rn c (K c) to (P to) 3) = nI (c % 28) := zI_n _
  have w4 : zI (barW rn c (K c) to (P to) 4) = nI (c % 28 % 7) := zI_n _
  have w7 : zI (barW rn c (K c) to (P to) 7) = -1 := rfl
  rw [w0, w1, w2, w3, w4, w7] at L
  have hm : c % 28 < 28 := Nat.mod_lt _ (by omega)
  simp (disch := first | omega | (repeat (first | assumption | exact Ag_r | refine Ag_I ?_ rfl | refine Ag_F ?_ rfl | refine Ag_J ?_ rfl))) only [A182, FM h', k.1, show lN 0 = zL 0 from rfl, CO, HA, HB, HC, Nat.not_lt_zero, Nat.add_assoc, c_nlt, c_nle, c_neq, c_P, c_cl, c_m1, c_m1', nI_add, pk_mul, reduceIte, Nat.reduceEqDiff, Nat.reduceAdd, Nat.reduceMul, Nat.reduceLeDiff, eq_self, ↓pk_rem, pk_div, c_of, d_le, d_nle, d_lt, d_nlt, d_eq, d_ne]
  refine Ev_b L ?_
  rintro _ υ ⟨rfl, g, hz⟩
  unfold tlM tb
  cases p : T 2 (barW rn c (K c) to (P to)) with
  | none =>
    simp only [Option.isSome_none, Bool.false_eq_true, reduceIte]
    simp (disch := first | omega | (repeat (first | assumption | exact Ag_r | refine Ag_I ?_ rfl | refine Ag_F ?_ rfl | refine Ag_J ?_ rfl))) only [A182, lc_eq, show (zL 0 = lN 1) = False from eq_false (by decide), CO, HA, HB, HC, Nat.not_lt_zero, Nat.add_assoc, c_nlt, c_nle, c_neq, c_P, c_cl, c_m1, c_m1', nI_add, pk_mul, reduceIte, Nat.reduceEqDiff, Nat.reduceAdd, Nat.reduceMul, Nat.reduceLeDiff, eq_self, ↓pk_rem, pk_div, c_of, d_le, d_nle, d_lt, d_nlt, d_eq, d_ne]
    exact Ev_s ⟨rfl, g⟩
  | some z =>
    simp only [Option.isSome_some, Nat.lt_irrefl, reduceIte]
    simp (disch := first | omega | (repeat (first | assumption | exact Ag_r | refine Ag_I ?_ rfl | refine Ag_F ?_ rfl | refine Ag_J ?_ rfl))) only [A182, lc_eq, show (zL 1 = lN 1) = True from eq_true rfl, CO, HA, HB, HC, Nat.not_lt_zero, Nat.add_assoc, c_nlt, c_nle, c_neq, c_P, c_cl, c_m1, c_m1', nI_add, pk_mul, reduceIte, Nat.reduceEqDiff, Nat.reduceAdd, Nat.reduceMul, Nat.reduceLeDiff, eq_self, ↓pk_rem, pk_div, c_of, d_le, d_nle, d_lt, d_nlt, d_eq, d_ne]
    exact Ev_s ⟨rfl, g⟩
end
/-! of, wages -/
section
variable {d v : Nat} {H rn : Nat → Nat} {σ ρ τ : Hp} {T : Tl}
theorem C_isB (hC : FxC σ) (sC : StC σ v H) (hw : Wf v H) (rC : RnC σ rn) (lf : LfC σ T) {c to : Nat} (hc : c < 224) (ht : to < 8) (hq : Qc σ τ) : Ev (den (d + 6, 125, 0, [.ref 0, .int (nI c), .int (nI to)], [], τ)) (fun a υ => a = some (.int (if tb T 2 (barW rn c (H c) to (hd H v to)) = true then nI 1 else nI 0)) ∧ Qw τ υ) := by
  have h' := Qc_C hq hC
  have e2 := Ag_i hq 2 rfl
  have s1 := sC.2 c hc
  have F := C_forbids (d := d) hC rC lf hc (Wf_8 hw hc) ht (hd_le H to hw.2.1) hq
  simp (disch := first | omega | (repeat (first | assumption | exact Ag_r | refine Ag_I ?_ rfl | refine Ag_F ?_ rfl | refine Ag_J ?_ rfl))) only [A125, FC h', e2, s1, C_held hC sC hw ht hq, CO, HA, HB, HC, Nat.not_lt_zero, Nat.add_assoc, c_nlt, c_nle, c_neq, c_P, c_cl, c_m1, c_m1', nI_add, pk_mul, reduceIte, Nat.reduceEqDiff, Nat.reduceAdd, Nat.reduceMul, Nat.reduceLeDiff, eq_self, ↓pk_rem, pk_div, c_of, d_le, d_nle, d_lt, d_nlt, d_eq, d_ne]
  refine Ev_b F ?_
  rintro _ υ ⟨rfl, g⟩
  by_cases b : tb T 2 (barW rn c (H c) to (hd H v to)) = true
  · simp only [if_pos b]
    simp (disch := first | omega | (repeat (first | assumption | exact Ag_r | refine Ag_I ?_ rfl | refine Ag_F ?_ rfl | refine Ag_J ?_ rfl))) only [A125, CO, HA, HB, HC, Nat.not_lt_zero, Nat.add_assoc, c_nlt, c_nle, c_neq, c_P, c_cl, c_m1, c_m1', nI_add, pk_mul, reduceIte, Nat.reduceEqDiff, Nat.reduceAdd, Nat.reduceMul, Nat.reduceLeDiff, eq_self, ↓pk_rem, pk_div, c_of, d_le, d_nle, d_lt, d_nlt, d_eq, d_ne]
    exact Ev_s ⟨rfl, g⟩
  · simp only [if_neg b]
    simp (disch := first | omega | (repeat (first | assumption | exact Ag_r | refine Ag_I ?_ rfl | refine Ag_F ?_ rfl | refine Ag_J ?_ rfl))) only [A125, CO, HA, HB, HC, Nat.not_lt_zero, Nat.add_assoc, c_nlt, c_nle, c_neq, c_P, c_cl, c_m1, c_m1', nI_add, pk_mul, reduceIte, Nat.reduceEqDiff, Nat.reduceAdd, Nat.reduceMul, Nat.reduceLeDiff, eq_self, ↓pk_rem, pk_div, c_of, d_le, d_nle, d_lt, d_nlt, d_eq, d_ne]
    exact Ev_s ⟨rfl, g⟩
theorem P_of (hC : FxC σ) (hM : FxM ρ) (sC : StC σ v H) (sM : StM ρ v H) (hw : Wf v H) (rC : RnC σ rn) (rM : RnM ρ rn) (lC : LfC σ T) (lM : LfM ρ T) (x y z k : Int32) : ∃ r, Ev (den (d + 8, 92, 0, [.ref 0, .int x, .int y, .int z, .int k], [], σ)) (fun a τ => a = some (.int r) ∧ Qc σ τ) ∧ Ev (den (d + 8, 184, 0, [.ref 57, .int x, .int y, .int z, .int k, .float 0], [], ρ)) (fun a τ => a = some (.int r) ∧ Qm ρ τ) := by
  have hv1 := hw.1
  have hv8 := hw.2.1
  have vC := fun (d : Nat) x => C_isVillage (d := d) hC sC.1 hw.1 hw.2.1 x
  by_cases hx : inr x (v - 1)
  · obtain ⟨a, ha, rfl⟩ := inr_of (by omega) hx
    have ha8 : a < 8 := by omega
    by_cases hy : inr y 27
    · obtain ⟨e, he, rfl⟩ := inr_of (by omega) hy
      have he8 : e < 28 := by omega
      have s1 := sC.2 (28 * a + e) (by omega)
      have H8 := Wf_8 hw (c := 28 * a + e) (by omega)
      rcases tri k 2 (by omega) with hk | ⟨m, hm, rfl⟩ | ⟨m, hm, hm2, rfl⟩
      · refine ⟨-1000000, ?_, ?_⟩
        · simp (disch := first | omega | (repeat (first | assumption | exact Ag_r | refine Ag_I ?_ rfl | refine Ag_F ?_ rfl | refine Ag_J ?_ rfl))) only [A92, FC hC, vC, if_pos hx, C_isDay', if_pos hy, ng hk, CO, HA, HB, HC, Nat.not_lt_zero, Nat.add_assoc, c_nlt, c_nle, c_neq, c_P, c_cl, c_m1, c_m1', nI_add, pk_mul, reduceIte, Nat.reduceEqDiff, Nat.reduceAdd, Nat.reduceMul, Nat.reduceLeDiff, eq_self, ↓pk_rem, pk_div, c_of, d_le, d_nle, d_lt, d_nlt, d_eq, d_ne]
          exact Ev_s ⟨rfl, (by repeat (first | assumption | exact Ag_r | refine Ag_I ?_ rfl | refine Ag_F ?_ rfl | refine Ag_J ?_ rfl))⟩
        · simp (disch := first | omega | (repeat (first | assumption | exact Ag_r | refine Ag_I ?_ rfl | refine Ag_F ?_ rfl | refine Ag_J ?_ rfl))) only [A184, FM hM, M_isVillage' hM sM.1 hv1 hv8, if_pos hx, M_isDay, if_pos hy, M_in, l_lo, l_hi, ng hk, CO, HA, HB, HC, Nat.not_lt_zero, Nat.add_assoc, c_nlt, c_nle, c_neq, c_P, c_cl, c_m1, c_m1', nI_add, pk_mul, reduceIte, Nat.reduceEqDiff, Nat.reduceAdd, Nat.reduceMul, Nat.reduceLeDiff, eq_self, ↓pk_rem, pk_div, c_of, d_le, d_nle, d_lt, d_nlt, d_eq, d_ne]
          exact Ev_s ⟨rfl, (by repeat (first | assumption | exact Ag_r | refine Ag_I ?_ rfl | refine Ag_F ?_ rfl | refine Ag_J ?_ rfl))⟩
      · obtain rfl | rfl | rfl : m = 0 ∨ m = 1 ∨ m = 2 := by omega
        · refine ⟨nI (H (28 * a + e)), ?_, ?_⟩
          · simp (disch := first | omega | (repeat (first | assumption | exact Ag_r | refine Ag_I ?_ rfl | refine Ag_F ?_ rfl | refine Ag_J ?_ rfl))) only [A92, FC hC, vC, if_pos hx, C_isDay', if_pos hy, Nat.mul_comm a 28, s1, CO, HA, HB, HC, Nat.not_lt_zero, Nat.add_assoc, c_nlt, c_nle, c_neq, c_P, c_cl, c_m1, c_m1', nI_add, pk_mul, reduceIte, Nat.reduceEqDiff, Nat.reduceAdd, Nat.reduceMul, Nat.reduceLeDiff, eq_self, ↓pk_rem, pk_div, c_of, d_le, d_nle, d_lt, d_nlt, d_eq, d_ne]
            exact Ev_s ⟨rfl, Ag_r⟩
          · simp (disch := first | omega | (repeat (first | assumption | exact Ag_r | refine Ag_I ?_ rfl | refine Ag_F ?_ rfl | refine Ag_J ?_ rfl))) only [A184, FM hM, M_isVillage' hM sM.1 hv1 hv8, if_pos hx, M_isDay, if_pos hy, M_in, l_lo, l_hi, CO, HA, HB, HC, Nat.not_lt_zero, Nat.add_assoc, c_nlt, c_nle, c_neq, c_P, c_cl, c_m1, c_m1', nI_add, pk_mul, reduceIte, Nat.reduceEqDiff, Nat.reduceAdd, Nat.reduceMul, Nat.reduceLeDiff, eq_self, ↓pk_rem, pk_div, c_of, d_le, d_nle, d_lt, d_nlt, d_eq, d_ne]
            refine Ev_b (M_load hM sM hw (by repeat (first | assumption | exact Ag_r | refine Ag_I ?_ rfl | refine Ag_F ?_ rfl | refine Ag_J ?_ rfl))) ?_
            rintro _ τ ⟨rfl, hq, hl⟩
            have h' := Qm_M hq hM
            simp (disch := first | omega | (repeat (first | assumption | exact Ag_r | refine Ag_I ?_ rfl | refine Ag_F ?_ rfl | refine Ag_J ?_ rfl))) only [A184, FM h', hl.1 (28 * a + e) (by omega), CO, HA, HB, HC, Nat.not_lt_zero, Nat.add_assoc, c_nlt, c_nle, c_neq, c_P, c_cl, c_m1, c_m1', nI_add, pk_mul, reduceIte, Nat.reduceEqDiff, Nat.reduceAdd, Nat.reduceMul, Nat.reduceLeDiff, eq_self, ↓pk_rem, pk_div, c_of, d_le, d_nle, d_lt, d_nlt, d_eq, d_ne]
            exact Ev_s ⟨rfl, hq⟩
        · by_cases hz : inr z (v - 1)
          · obtain ⟨b, hb, rfl⟩ := inr_of (by omega) hz
            refine ⟨if tb T 2 (barW rn (28 * a + e) (H (28 * a + e)) b (hd H v b)) = true then nI 1 else nI 0, ?_, ?_⟩
            · simp (disch := first | omega | (repeat (first | assumption | exact Ag_r | refine Ag_I ?_ rfl | refine Ag_F ?_ rfl | refine Ag_J ?_ rfl))) only [A92, FC hC, vC, if_pos hx, C_isDay', if_pos hy, if_pos hz, Nat.mul_comm a 28, CO, HA, HB, HC, Nat.not_lt_zero, Nat.add_assoc, c_nlt, c_nle, c_neq, c_P, c_cl, c_m1, c_m1', nI_add, pk_mul, reduceIte, Nat.reduceEqDiff, Nat.reduceAdd, Nat.reduceMul, Nat.reduceLeDiff, eq_self, ↓pk_rem, pk_div, c_of, d_le, d_nle, d_lt, d_nlt, d_eq, d_ne]
              refine Ev_b (C_isB (d := d + 1) hC sC hw rC lC (by omega) (by omega) Ag_r) ?_
              rintro _ υ ⟨rfl, g⟩
              by_cases b : tb T 2 (barW rn (28 * a + e) (H (28 * a + e)) b (hd H v b)) = true
              · simp only [if_pos b]
                simp (disch := first | omega | (repeat (first | assumption | exact Ag_r | refine Ag_I ?_ rfl | refine Ag_F ?_ rfl | refine Ag_J ?_ rfl))) only [A92, CO, HA, HB, HC, Nat.not_lt_zero, Nat.add_assoc, c_nlt, c_nle, c_neq, c_P, c_cl, c_m1, c_m1', nI_add, pk_mul, reduceIte, Nat.reduceEqDiff, Nat.reduceAdd, Nat.reduceMul, Nat.reduceLeDiff, eq_self, ↓pk_rem, pk_div, c_of, d_le, d_nle, d_lt, d_nlt, d_eq, d_ne]
                exact Ev_s ⟨rfl, Qw_c g⟩
              · simp only [if_neg b]
                simp (disch := first | omega | (repeat (first | assumption | exact Ag_r | refine Ag_I ?_ rfl | refine Ag_F ?_ rfl | refine Ag_J ?_ rfl))) only [A92, CO, HA, HB, HC, Nat.not_lt_zero, Nat.add_assoc, c_nlt, c_nle, c_neq, c_P, c_cl, c_m1, c_m1', nI_add, pk_mul, reduceIte, Nat.reduceEqDiff, Nat.reduceAdd, Nat.reduceMul, Nat.reduceLeDiff, eq_self, ↓pk_rem, pk_div, c_of, d_le, d_nle, d_lt, d_nlt, d_eq, d_ne]
                exact Ev_s ⟨rfl, Qw_c g⟩
            · simp (disch := first | omega | (repeat (first | assumption | exact Ag_r | refine Ag_I ?_ rfl | refine Ag_F ?_ rfl | refine Ag_J ?_ rfl))) only [A184, FM hM, M_isVillage' hM sM.1 hv1 hv8, if_pos hx, M_isDay, if_pos hy, if_pos hz, M_in, l_lo, l_hi, CO, HA, HB, HC, Nat.not_lt_zero, Nat.add_assoc, c_nlt, c_nle, c_neq, c_P, c_cl, c_m1, c_m1', nI_add, pk_mul, reduceIte, Nat.reduceEqDiff, Nat.reduceAdd, Nat.reduceMul, Nat.reduceLeDiff, eq_self, ↓pk_rem, pk_div, c_of, d_le, d_nle, d_lt, d_nlt, d_eq, d_ne]
              refine Ev_b (M_load hM sM hw (by repeat (first | assumption | exact Ag_r | refine Ag_I ?_ rfl | refine Ag_F ?_ rfl | refine Ag_J ?_ rfl))) ?_
              rintro _ τ ⟨rfl, hq, hl⟩
              have h' := Qm_M hq hM
              simp (disch := first | omega | (repeat (first | assumption | exact Ag_r | refine Ag_I ?_ rfl | refine Ag_F ?_ rfl | refine Ag_J ?_ rfl))) only [A184, FM h', CO, HA, HB, HC, Nat.not_lt_zero, Nat.add_assoc, c_nlt, c_nle, c_neq, c_P, c_cl, c_m1, c_m1', nI_add, pk_mul, reduceIte, Nat.reduceEqDiff, Nat.reduceAdd, Nat.reduceMul, Nat.reduceLeDiff, eq_self, ↓pk_rem, pk_div, c_of, d_le, d_nle, d_lt, d_nlt, d_eq, d_ne]
              refine Ev_b (M_isBarred (d := d + 1) hM rM lM (by omega) (by omega) hq (HoM_ld hw hl)) ?_
              rintro _ υ ⟨rfl, g⟩
              by_cases b : tb T 2 (barW rn (28 * a + e) (H (28 * a + e)) b (hd H v b)) = true
              · simp only [if_pos b]
                simp (disch := first | omega | (repeat (first | assumption | exact Ag_r | refine Ag_I ?_ rfl | refine Ag_F ?_ rfl | refine Ag_J ?_ rfl))) only [A184, CO, HA, HB, HC, Nat.not_lt_zero, Nat.add_assoc, c_nlt, c_nle, c_neq, c_P, c_cl, c_m1, c_m1', nI_add, pk_mul, reduceIte, Nat.reduceEqDiff, Nat.reduceAdd, Nat.reduceMul, Nat.reduceLeDiff, eq_self, ↓pk_rem, pk_div, c_of, d_le, d_nle, d_lt, d_nlt, d_eq, d_ne]
                exact Ev_s ⟨rfl, Ag_t hq (Qs_m g)⟩
              · simp only [if_neg b]
                simp (disch := first | omega | (repeat (first | assumption | exact Ag_r | refine Ag_I ?_ rfl | refine Ag_F ?_ rfl | refine Ag_J ?_ rfl))) only [A184, CO, HA, HB, HC, Nat.not_lt_zero, Nat.add_assoc, c_nlt, c_nle, c_neq, c_P, c_cl, c_m1, c_m1', nI_add, pk_mul, reduceIte, Nat.reduceEqDiff, Nat.reduceAdd, Nat.reduceMul, Nat.reduceLeDiff, eq_self, ↓pk_rem, pk_div, c_of, d_le, d_nle, d_lt, d_nlt, d_eq, d_ne]
                exact Ev_s ⟨rfl, Ag_t hq (Qs_m g)⟩
          · refine ⟨-1000000, ?_, ?_⟩
            · simp (disch := first | omega | (repeat (first | assumption | exact Ag_r | refine Ag_I ?_ rfl | refine Ag_F ?_ rfl | refine Ag_J ?_ rfl))) only [A92, FC hC, vC, if_pos hx, C_isDay', if_pos hy, if_neg hz, CO, HA, HB, HC, Nat.not_lt_zero, Nat.add_assoc, c_nlt, c_nle, c_neq, c_P, c_cl, c_m1, c_m1', nI_add, pk_mul, reduceIte, Nat.reduceEqDiff, Nat.reduceAdd, Nat.reduceMul, Nat.reduceLeDiff, eq_self, ↓pk_rem, pk_div, c_of, d_le, d_nle, d_lt, d_nlt, d_eq, d_ne]
              exact Ev_s ⟨rfl, (by repeat (first | assumption | exact Ag_r | refine Ag_I ?_ rfl | refine Ag_F ?_ rfl | refine Ag_J ?_ rfl))⟩
            · simp (disch := first | omega | (repeat (first | assumption | exact Ag_r | refine Ag_I ?_ rfl | refine Ag_F ?_ rfl | refine Ag_J ?_ rfl))) only [A184, FM hM, M_isVillage' hM sM.1 hv1 hv8, if_pos hx, M_isDay, if_pos hy, if_neg hz, M_in, l_lo, l_hi, CO, HA, HB, HC, Nat.not_lt_zero, Nat.add_assoc, c_nlt, c_nle, c_neq, c_P, c_cl, c_m1, c_m1', nI_add, pk_mul, reduceIte, Nat.reduceEqDiff, Nat.reduceAdd, Nat.reduceMul, Nat.reduceLeDiff, eq_self, ↓pk_rem, pk_div, c_of, d_le, d_nle, d_lt, d_nlt, d_eq, d_ne]
              exact Ev_s ⟨rfl, (by repeat (first | assumption | exact Ag_r | refine Ag_I ?_ rfl | refine Ag_F ?_ rfl | refine Ag_J ?_ rfl))⟩
        · refine ⟨zI (tv T 0 (payW H rn (28 * a + e)) (-99) 99), ?_, ?_⟩
          · simp (disch := first | omega | (repeat (first | assumption | exact Ag_r | refine Ag_I ?_ rfl | refine Ag_F ?_ rfl | refine Ag_J ?_ rfl))) only [A92, FC hC, vC, if_pos hx, C_isDay', if_pos hy, CO, HA, HB, HC, Nat.not_lt_zero, Nat.add_assoc, c_nlt, c_nle, c_neq, c_P, c_cl, c_m1, c_m1', nI_add, pk_mul, reduceIte, Nat.reduceEqDiff, Nat.reduceAdd, Nat.reduceMul, Nat.reduceLeDiff, eq_self, ↓pk_rem, pk_div, c_of, d_le, d_nle, d_lt, d_nlt, d_eq, d_ne]
            refine Ev_b (C_payOf (d := d + 2) hC sC hw rC lC ha8 he8 Ag_r) ?_
            rintro _ υ ⟨rfl, g⟩
            simp (disch := first | omega | (repeat (first | assumption | exact Ag_r | refine Ag_I ?_ rfl | refine Ag_F ?_ rfl | refine Ag_J ?_ rfl))) only [A92, CO, HA, HB, HC, Nat.not_lt_zero, Nat.add_assoc, c_nlt, c_nle, c_neq, c_P, c_cl, c_m1, c_m1', nI_add, pk_mul, reduceIte, Nat.reduceEqDiff, Nat.reduceAdd, Nat.reduceMul, Nat.reduceLeDiff, eq_self, ↓pk_rem, pk_div, c_of, d_le, d_nle, d_lt, d_nlt, d_eq, d_ne]
            exact Ev_s ⟨rfl, Qw_c g⟩
          · simp (disch := first | omega | (repeat (first | assumption | exact Ag_r | refine Ag_I ?_ rfl | refine Ag_F ?_ rfl | refine Ag_J ?_ rfl))) only [A184, FM hM, M_isVillage' hM sM.1 hv1 hv8, if_pos hx, M_isDay, if_pos hy, M_in, l_lo, l_hi, CO, HA, HB, HC, Nat.not_lt_zero, Nat.add_assoc, c_nlt, c_nle, c_neq, c_P, c_cl, c_m1, c_m1', nI_add, pk_mul, reduceIte, Nat.reduceEqDiff, Nat.reduceAdd, Nat.reduceMul, Nat.reduceLeDiff, eq_self, ↓pk_rem, pk_div, c_of, d_le, d_nle, d_lt, d_nlt, d_eq, d_ne]
            refine Ev_b (M_load hM sM hw (by repeat (first | assumption | exact Ag_r | refine Ag_I ?_ rfl | refine Ag_F ?_ rfl | refine Ag_J ?_ rfl))) ?_
            rintro _ τ ⟨rfl, hq, hl⟩
            have h' := Qm_M hq hM
            simp (disch := first | omega | (repeat (first | assumption | exact Ag_r | refine Ag_I ?_ rfl | refine Ag_F ?_ rfl | refine Ag_J ?_ rfl))) only [A184, FM h', CO, HA, HB, HC, Nat.not_lt_zero, Nat.add_assoc, c_nlt, c_nle, c_neq, c_P, c_cl, c_m1, c_m1', nI_add, pk_mul, reduceIte, Nat.reduceEqDiff, Nat.reduceAdd, Nat.reduceMul, Nat.reduceLeDiff, eq_self, ↓pk_rem, pk_div, c_of, d_le, d_nle, d_lt, d_nlt, d_eq, d_ne]
            refine Ev_b (M_pays (d := d + 1) hM rM lM (by omega) hq (HoM_ld hw hl)) ?_
            rintro _ υ ⟨rfl, g⟩
            simp (disch := first | omega | (repeat (first | assumption | exact Ag_r | refine Ag_I ?_ rfl | refine Ag_F ?_ rfl | refine Ag_J ?_ rfl))) only [A184, CO, HA, HB, HC, Nat.not_lt_zero, Nat.add_assoc, c_nlt, c_nle, c_neq, c_P, c_cl, c_m1, c_m1', nI_add, pk_mul, reduceIte, Nat.reduceEqDiff, Nat.reduceAdd, Nat.reduceMul, Nat.reduceLeDiff, eq_self, ↓pk_rem, pk_div, c_of, d_le, d_nle, d_lt, d_nlt, d_eq, d_ne]
            exact Ev_s ⟨rfl, Ag_t hq (Qs_m g)⟩
      · refine ⟨-1000000, ?_, ?_⟩
        · simp (disch := first | omega | (repeat (first | assumption | exact Ag_r | refine Ag_I ?_ rfl | refine Ag_F ?_ rfl | refine Ag_J ?_ rfl))) only [A92, FC hC, vC, if_pos hx, C_isDay', if_pos hy, CO, HA, HB, HC, Nat.not_lt_zero, Nat.add_assoc, c_nlt, c_nle, c_neq, c_P, c_cl, c_m1, c_m1', nI_add, pk_mul, reduceIte, Nat.reduceEqDiff, Nat.reduceAdd, Nat.reduceMul, Nat.reduceLeDiff, eq_self, ↓pk_rem, pk_div, c_of, d_le, d_nle, d_lt, d_nlt, d_eq, d_ne]
          exact Ev_s ⟨rfl, (by repeat (first | assumption | exact Ag_r | refine Ag_I ?_ rfl | refine Ag_F ?_ rfl | refine Ag_J ?_ rfl))⟩
        · simp (disch := first | omega | (repeat (first | assumption | exact Ag_r | refine Ag_I ?_ rfl | refine Ag_F ?_ rfl | refine Ag_J ?_ rfl))) only [A184, FM hM, M_isVillage' hM sM.1 hv1 hv8, if_pos hx, M_isDay, if_pos hy, M_in, l_lo, l_hi, CO, HA, HB, HC, Nat.not_lt_zero, Nat.add_assoc, c_nlt, c_nle, c_neq, c_P, c_cl, c_m1, c_m1', nI_add, pk_mul, reduceIte, Nat.reduceEqDiff, Nat.reduceAdd, Nat.reduceMul, Nat.reduceLeDiff, eq_self, ↓pk_rem, pk_div, c_of, d_le, d_nle, d_lt, d_nlt, d_eq, d_ne]
          exact Ev_s ⟨rfl, (by repeat (first | assumption | exact Ag_r | refine Ag_I ?_ rfl | refine Ag_F ?_ rfl | refine Ag_J ?_ rfl))⟩
    · refine ⟨-1000000, ?_, ?_⟩
      · simp (disch := first | omega | (repeat (first | assumption | exact Ag_r | refine Ag_I ?_ rfl | refine Ag_F ?_ rfl | refine Ag_J ?_ rfl))) only [A92, FC hC, vC, if_pos hx, C_isDay', if_neg hy, CO, HA, HB, HC, Nat.not_lt_zero, Nat.add_assoc, c_nlt, c_nle, c_neq, c_P, c_cl, c_m1, c_m1', nI_add, pk_mul, reduceIte, Nat.reduceEqDiff, Nat.reduceAdd, Nat.reduceMul, Nat.reduceLeDiff, eq_self, ↓pk_rem, pk_div, c_of, d_le, d_nle, d_lt, d_nlt, d_eq, d_ne]
        exact Ev_s ⟨rfl, (by repeat (first | assumption | exact Ag_r | refine Ag_I ?_ rfl | refine Ag_F ?_ rfl | refine Ag_J ?_ rfl))⟩
      · simp (disch := first | omega | (repeat (first | assumption | exact Ag_r | refine Ag_I ?_ rfl | refine Ag_F ?_ rfl | refine Ag_J ?_ rfl))) only [A184, FM hM, M_isVillage' hM sM.1 hv1 hv8, if_pos hx, M_isDay, if_neg hy, CO, HA, HB, HC, Nat.not_lt_zero, Nat.add_assoc, c_nlt, c_nle, c_neq, c_P, c_cl, c_m1, c_m1', nI_add, pk_mul, reduceIte, Nat.reduceEqDiff, Nat.reduceAdd, Nat.reduceMul, Nat.reduceLeDiff, eq_self, ↓pk_rem, pk_div, c_of, d_le, d_nle, d_lt, d_nlt, d_eq, d_ne]
        exact Ev_s ⟨rfl, (by repeat (first | assumption | exact Ag_r | refine Ag_I ?_ rfl | refine Ag_F ?_ rfl | refine Ag_J ?_ rfl))⟩
  · refine ⟨-1000000, ?_, ?_⟩
    · simp (disch := first | omega | (repeat (first | assumption | exact Ag_r | refine Ag_I ?_ rfl | refine Ag_F ?_ rfl | refine Ag_J ?_ rfl))) only [A92, FC hC, vC, if_neg hx, CO, HA, HB, HC, Nat.not_lt_zero, Nat.add_assoc, c_nlt, c_nle, c_neq, c_P, c_cl, c_m1, c_m1', nI_add, pk_mul, reduceIte, Nat.reduceEqDiff, Nat.reduceAdd, Nat.reduceMul, Nat.reduceLeDiff, eq_self, ↓pk_rem, pk_div, c_of, d_le, d_nle, d_lt, d_nlt, d_eq, d_ne]
      exact Ev_s ⟨rfl, (by repeat (first | assumption | exact Ag_r | refine Ag_I ?_ rfl | refine Ag_F ?_ rfl | refine Ag_J ?_ rfl))⟩
    · simp (disch := first | omega | (repeat (first | assumption | exact Ag_r | refine Ag_I ?_ rfl | refine Ag_F ?_ rfl | refine Ag_J ?_ rfl))) only [A184, FM hM, M_isVillage' hM sM.1 hv1 hv8, if_neg hx, CO, HA, HB, HC, Nat.not_lt_zero, Nat.add_assoc, c_nlt, c_nle, c_neq, c_P, c_cl, c_m1, c_m1', nI_add, pk_mul, reduceIte, Nat.reduceEqDiff, Nat.reduceAdd, Nat.reduceMul, Nat.reduceLeDiff, eq_self, ↓pk_rem, pk_div, c_of, d_le, d_nle, d_lt, d_nlt, d_eq, d_ne]
      exact Ev_s ⟨rfl, (by repeat (first | assumption | exact Ag_r | refine Ag_I ?_ rfl | refine Ag_F ?_ rfl | refine Ag_J ?_ rfl))⟩
/-- what the first k of a row of copies pay -/
def wsum (F : Nat → Int) : Nat → Int
  | 0 => 0
  | k + 1 => wsum F k + F k
theorem C_wagesL (hC : FxC σ) (sC : StC σ v H) (hw : Wf v H) (rC : RnC σ rn) (lC : LfC σ T) {a m : Nat} (ha : a < 8) (hm : m ≤ 224) (D : Nat → Nat) (hD : ∀ e o, e < 28 → o < v → H (28 * o + e) = a → D (rk H v a e o) = 28 * o + e) : ∀ (n e : Nat) (τ : Hp) (l : Value), e + n = 28 → Qc σ τ → Ev (den (d + 6, 99, 30, [.ref 0, .int (nI a), .int (nI m), .int (zI (wsum (fun k => tv T 0 (payW H rn (D k)) (-99) 99) (min (bef H v a e) m))), .int (nI (min (bef H v a e) m)), .int (nI e), l], [], τ)) (fun r τ => r = some (.int (zI (wsum (fun k => tv T 0 (payW H rn (D k)) (-99) 99) (min (hd H v a) m)))) ∧ Qc σ τ) := by
  have hv8 := hw.2.1
  intro n
  induction n with
  | zero =>
    intro e τ l hi hq
    obtain rfl : e = 28 := by omega
    rw [a99_30]
    simp (disch := first | omega | (repeat (first | assumption | exact Ag_r | refine Ag_I ?_ rfl | refine Ag_F ?_ rfl | refine Ag_J ?_ rfl))) only [A99, CO, HA, HB, HC, Nat.not_lt_zero, Nat.add_assoc, c_nlt, c_nle, c_neq, c_P, c_cl, c_m1, c_m1', nI_add, pk_mul, reduceIte, Nat.reduceEqDiff, Nat.reduceAdd, Nat.reduceMul, Nat.reduceLeDiff, eq_self, ↓pk_rem, pk_div, c_of, d_le, d_nle, d_lt, d_nlt, d_eq, d_ne]
    rw [bef_28]
    exact Ev_s ⟨rfl, hq⟩
  | succ n ih =>
    intro e τ l hi hq
    have inner : ∀ (k o : Nat) (τ : Hp), o + k = v → Qc σ τ → Ev (den (d + 6, 99, 40, [.ref 0, .int (nI a), .int (nI m), .int (zI (wsum (fun k => tv T 0 (payW H rn (D k)) (-99) 99) (min (rk H v a e o) m))), .int (nI (min (rk H v a e o) m)), .int (nI e), .int (nI o)], [], τ)) (fun r τ => r = some (.int (zI (wsum (fun k => tv T 0 (payW H rn (D k)) (-99) 99) (min (hd H v a) m)))) ∧ Qc σ τ) := by
      intro k
      induction k with
      | zero =>
        intro o τ ho hq
        obtain rfl : o = v := by omega
        have h' := Qc_C hq hC
        have e1 := Ag_f hq 1 0 rfl
        have er : rk H o a e o = bef H o a (e + 1) := by rw [bef_s]; rfl
        have nx := ih (e + 1) τ (.int (nI o)) (by omega) hq
        rw [← er] at nx
        rw [a99_40]
        simp (disch := first | omega | (repeat (first | assumption | exact Ag_r | refine Ag_I ?_ rfl | refine Ag_F ?_ rfl | refine Ag_J ?_ rfl))) only [A99, FC h', e1, sC.1, CO, HA, HB, HC, Nat.not_lt_zero, Nat.add_assoc, c_nlt, c_nle, c_neq, c_P, c_cl, c_m1, c_m1', nI_add, pk_mul, reduceIte, Nat.reduceEqDiff, Nat.reduceAdd, Nat.reduceMul, Nat.reduceLeDiff, eq_self, ↓pk_rem, pk_div, c_of, d_le, d_nle, d_lt, d_nlt, d_eq, d_ne]
        exact nx
      | succ k ihk =>
        intro o τ ho hq
        have h' := Qc_C hq hC
        have e1 := Ag_f hq 1 0 rfl
        have e2 := Ag_i hq 2 rfl
        have s1 := sC.2 (28 * o + e) (by omega)
        have H8 := Wf_8 hw (c := 28 * o + e) (by omega)
        rw [a99_40]
        by_cases full : m ≤ rk H v a e o
        · have nx := ih (e + 1) τ (.int (nI o)) (by omega) hq
          have b1 : rk H v a e o ≤ bef H v a (e + 1) := by
            rw [bef_s]
            unfold rk tm
            have := cB_mono (fun o' => decide (H (28 * o' + e) = a)) (show o ≤ v by omega)
            omega
          rw [show min (bef H v a (e + 1)) m = m by omega] at nx
          rw [show min (rk H v a e o) m = m by omega]
          simp (disch := first | omega | (repeat (first | assumption | exact Ag_r | refine Ag_I ?_ rfl | refine Ag_F ?_ rfl | refine Ag_J ?_ rfl))) only [A99, FC h', e1, sC.1, CO, HA, HB, HC, Nat.not_lt_zero, Nat.add_assoc, c_nlt, c_nle, c_neq, c_P, c_cl, c_m1, c_m1', nI_add, pk_mul, reduceIte, Nat.reduceEqDiff, Nat.reduceAdd, Nat.reduceMul, Nat.reduceLeDiff, eq_self, ↓pk_rem, pk_div, c_of, d_le, d_nle, d_lt, d_nlt, d_eq, d_ne]
          exact nx
        · rw [show min (rk H v a e o) m = rk H v a e o by omega]
          by_cases z : H (28 * o + e) = a
          · have e7 : rk H v a e (o + 1) = rk H v a e o + 1 := by unfold rk; rw [cB_y (by simp [z]), Nat.add_assoc]
            have dd := hD e o (by omega) (by omega) z
            simp (disch := first | omega | (repeat (first | assumption | exact Ag_r | refine Ag_I ?_ rfl | refine Ag_F ?_ rfl | refine Ag_J ?_ rfl))) only [A99, FC h', e1, e2, sC.1, Nat.mul_comm o 28, s1, z, CO, HA, HB, HC, Nat.not_lt_zero, Nat.add_assoc, c_nlt, c_nle, c_neq, c_P, c_cl, c_m1, c_m1', nI_add, pk_mul, reduceIte, Nat.reduceEqDiff, Nat.reduceAdd, Nat.reduceMul, Nat.reduceLeDiff, eq_self, ↓pk_rem, pk_div, c_of, d_le, d_nle, d_lt, d_nlt, d_eq, d_ne]
            refine Ev_b (C_payOf (d := d) hC sC hw rC lC (by omega) (by omega) hq) ?_
            rintro _ υ ⟨rfl, g⟩
            have nx := ihk (o + 1) υ (by omega) (Ag_t hq (Qw_c g))
            rw [e7, show min (rk H v a e o + 1) m = rk H v a e o + 1 by omega] at nx
            simp only [wsum, dd] at nx
            simp (disch := first | omega | (repeat (first | assumption | exact Ag_r | refine Ag_I ?_ rfl | refine Ag_F ?_ rfl | refine Ag_J ?_ rfl))) only [A99, zI_add, CO, HA, HB, HC, Nat.not_lt_zero, Nat.add_assoc, c_nlt, c_nle, c_neq, c_P, c_cl, c_m1, c_m1', nI_add, pk_mul, reduceIte, Nat.reduceEqDiff, Nat.reduceAdd, Nat.reduceMul, Nat.reduceLeDiff, eq_self, ↓pk_rem, pk_div, c_of, d_le, d_nle, d_lt, d_nlt, d_eq, d_ne]
            exact nx
          · have e7 : rk H v a e (o + 1) = rk H v a e o := by unfold rk; rw [cB_n (by simp [z])]
            have nx := ihk (o + 1) τ (by omega) hq
            rw [e7, show min (rk H v a e o) m = rk H v a e o by omega] at nx
            simp (disch := first | omega | (repeat (first | assumption | exact Ag_r | refine Ag_I ?_ rfl | refine Ag_F ?_ rfl | refine Ag_J ?_ rfl))) only [A99, FC h', e1, e2, sC.1, Nat.mul_comm o 28, s1, z, CO, HA, HB, HC, Nat.not_lt_zero, Nat.add_assoc, c_nlt, c_nle, c_neq, c_P, c_cl, c_m1, c_m1', nI_add, pk_mul, reduceIte, Nat.reduceEqDiff, Nat.reduceAdd, Nat.reduceMul, Nat.reduceLeDiff, eq_self, ↓pk_rem, pk_div, c_of, d_le, d_nle, d_lt, d_nlt, d_eq, d_ne]
            exact nx
    rw [a99_30]
    simp (disch := first | omega | (repeat (first | assumption | exact Ag_r | refine Ag_I ?_ rfl | refine Ag_F ?_ rfl | refine Ag_J ?_ rfl))) only [A99, CO, HA, HB, HC, Nat.not_lt_zero, Nat.add_assoc, c_nlt, c_nle, c_neq, c_P, c_cl, c_m1, c_m1', nI_add, pk_mul, reduceIte, Nat.reduceEqDiff, Nat.reduceAdd, Nat.reduceMul, Nat.reduceLeDiff, eq_self, ↓pk_rem, pk_div, c_of, d_le, d_nle, d_lt, d_nlt, d_eq, d_ne]
    have nx := inner v 0 τ (by omega) hq
    rw [show rk H v a e 0 = bef H v a e from rfl] at nx
    exact nx
theorem P_wages (hC : FxC σ) (hM : FxM ρ) (sC : StC σ v H) (sM : StM ρ v H) (hw : Wf v H) (rC : RnC σ rn) (rM : RnM ρ rn) (lC : LfC σ T) (lM : LfM ρ T) (x y : Int32) : ∃ r, Ev (den (d + 8, 99, 0, [.ref 0, .int x, .int y, .float 0, .float 0, .float 0, .float 0], [], σ)) (fun a τ => a = some (.int r) ∧ Qc σ τ) ∧ Ev (den (d + 8, 193, 0, [.ref 57, .int x, .int y, .float 0, .float 0], [], ρ)) (fun a τ => a = some (.int r) ∧ Qm ρ τ) := by
  have hv1 := hw.1
  have hv8 := hw.2.1
  have vC := fun (d : Nat) x => C_isVillage (d := d) hC sC.1 hw.1 hw.2.1 x
  have hH : ∀ c, c < 224 → H c < 8 := fun c hc => Wf_8 hw hc
  by_cases hx : inr x (v - 1)
  · obtain ⟨a, ha, rfl⟩ := inr_of (by omega) hx
    have ha8 : a < 8 := by omega
    have b0 := hd_le H a hv8
    rcases tri y 224 (by omega) with hy | ⟨m, hm, rfl⟩ | ⟨m, hm, hm2, rfl⟩
    · refine ⟨-1000000, ?_, ?_⟩
      · simp (disch := first | omega | (repeat (first | assumption | exact Ag_r | refine Ag_I ?_ rfl | refine Ag_F ?_ rfl | refine Ag_J ?_ rfl))) only [A99, FC hC, vC, if_pos hx, ng hy, CO, HA, HB, HC, Nat.not_lt_zero, Nat.add_assoc, c_nlt, c_nle, c_neq, c_P, c_cl, c_m1, c_m1', nI_add, pk_mul, reduceIte, Nat.reduceEqDiff, Nat.reduceAdd, Nat.reduceMul, Nat.reduceLeDiff, eq_self, ↓pk_rem, pk_div, c_of, d_le, d_nle, d_lt, d_nlt, d_eq, d_ne]
        exact Ev_s ⟨rfl, (by repeat (first | assumption | exact Ag_r | refine Ag_I ?_ rfl | refine Ag_F ?_ rfl | refine Ag_J ?_ rfl))⟩
      · simp (disch := first | omega | (repeat (first | assumption | exact Ag_r | refine Ag_I ?_ rfl | refine Ag_F ?_ rfl | refine Ag_J ?_ rfl))) only [A193, FM hM, M_isVillage' hM sM.1 hv1 hv8, if_pos hx, M_in, l_lo, l_hi, ng hy, CO, HA, HB, HC, Nat.not_lt_zero, Nat.add_assoc, c_nlt, c_nle, c_neq, c_P, c_cl, c_m1, c_m1', nI_add, pk_mul, reduceIte, Nat.reduceEqDiff, Nat.reduceAdd, Nat.reduceMul, Nat.reduceLeDiff, eq_self, ↓pk_rem, pk_div, c_of, d_le, d_nle, d_lt, d_nlt, d_eq, d_ne]
        exact Ev_s ⟨rfl, (by repeat (first | assumption | exact Ag_r | refine Ag_I ?_ rfl | refine Ag_F ?_ rfl | refine Ag_J ?_ rfl))⟩
    · obtain ⟨D, hD⟩ : ∃ D : Nat → Nat, ∀ k, k < hd H v a → ∃ e o, e < 28 ∧ o < v ∧ H (28 * o + e) = a ∧ rk H v a e o = k ∧ D k = 28 * o + e := by
        refine ⟨fun k => if h : k < hd H v a then 28 * (rk_all h).choose_spec.choose + (rk_all h).choose else 0, fun k hk => ?_⟩
        have q := (rk_all hk).choose_spec.choose_spec
        refine ⟨_, _, q.1, q.2.1, q.2.2.1, q.2.2.2.1, ?_⟩
        simp only [hk, dite_true]
      have hD1 : ∀ e o, e < 28 → o < v → H (28 * o + e) = a → D (rk H v a e o) = 28 * o + e := by
        intro e o he ho hh
        obtain ⟨e', o', g1, g2, g3, g4, g5⟩ := hD _ (rk_hd he ho hh)
        rw [g5]
        by_cases l1 : e' < e ∨ (e' = e ∧ o' < o)
        · have := rk_less (v := v) g1 g2 g3 l1; omega
        · by_cases l2 : e < e' ∨ (e = e' ∧ o < o')
          · have := rk_less (v := v) he ho hh l2; omega
          · have : e = e' := by omega
            have : o = o' := by omega
            subst e' o'; rfl
      refine ⟨zI (wsum (fun k => tv T 0 (payW H rn (D k)) (-99) 99) (min (hd H v a) m)), ?_, ?_⟩
      · simp (disch := first | omega | (repeat (first | assumption | exact Ag_r | refine Ag_I ?_ rfl | refine Ag_F ?_ rfl | refine Ag_J ?_ rfl))) only [A99, FC hC, vC, if_pos hx, CO, HA, HB, HC, Nat.not_lt_zero, Nat.add_assoc, c_nlt, c_nle, c_neq, c_P, c_cl, c_m1, c_m1', nI_add, pk_mul, reduceIte, Nat.reduceEqDiff, Nat.reduceAdd, Nat.reduceMul, Nat.reduceLeDiff, eq_self, ↓pk_rem, pk_div, c_of, d_le, d_nle, d_lt, d_nlt, d_eq, d_ne]
        have := C_wagesL (d := d + 2) hC sC hw rC lC ha8 hm D hD1 28 0 σ (.float 0) rfl Ag_r
        rw [bef_0, Nat.zero_min] at this
        exact this
      · simp (disch := first | omega | (repeat (first | assumption | exact Ag_r | refine Ag_I ?_ rfl | refine Ag_F ?_ rfl | refine Ag_J ?_ rfl))) only [A193, FM hM, M_isVillage' hM sM.1 hv1 hv8, if_pos hx, M_in, l_lo, l_hi, CO, HA, HB, HC, Nat.not_lt_zero, Nat.add_assoc, c_nlt, c_nle, c_neq, c_P, c_cl, c_m1, c_m1', nI_add, pk_mul, reduceIte, Nat.reduceEqDiff, Nat.reduceAdd, Nat.reduceMul, Nat.reduceLeDiff, eq_self, ↓pk_rem, pk_div, c_of, d_le, d_nle, d_lt, d_nlt, d_eq, d_ne]
        refine Ev_b (M_load hM sM hw (by repeat (first | assumption | exact Ag_r | refine Ag_I ?_ rfl | refine Ag_F ?_ rfl | refine Ag_J ?_ rfl))) ?_
        rintro _ τ ⟨rfl, hq, hl⟩
        have h' := Qm_M hq hM
        simp (disch := first | omega | (repeat (first | assumption | exact Ag_r | refine Ag_I ?_ rfl | refine Ag_F ?_ rfl | refine Ag_J ?_ rfl))) only [A193, FM h', CO, HA, HB, HC, Nat.not_lt_zero, Nat.add_assoc, c_nlt, c_nle, c_neq, c_P, c_cl, c_m1, c_m1', nI_add, pk_mul, reduceIte, Nat.reduceEqDiff, Nat.reduceAdd, Nat.reduceMul, Nat.reduceLeDiff, eq_self, ↓pk_rem, pk_div, c_of, d_le, d_nle, d_lt, d_nlt, d_eq, d_ne]
        refine Ev_b (M_findRow hM sM.1 hv8 hH ha8 hq hl.1) ?_
        rintro _ υ ⟨rfl, hq2, hl2, hdw, hdr⟩
        have h2 := Qm_M hq2 hM
        simp (disch := first | omega | (repeat (first | assumption | exact Ag_r | refine Ag_I ?_ rfl | refine Ag_F ?_ rfl | refine Ag_J ?_ rfl))) only [A193, CO, HA, HB, HC, Nat.not_lt_zero, Nat.add_assoc, c_nlt, c_nle, c_neq, c_P, c_cl, c_m1, c_m1', nI_add, pk_mul, reduceIte, Nat.reduceEqDiff, Nat.reduceAdd, Nat.reduceMul, Nat.reduceLeDiff, eq_self, ↓pk_rem, pk_div, c_of, d_le, d_nle, d_lt, d_nlt, d_eq, d_ne]
        have hoM : HoM υ H (hd H v) := ⟨fun c hc => ⟨by rw [hl2.1]; exact hl.1 c hc, hH c hc⟩, fun u hu => ⟨by rw [hl2.2]; exact hl.2 u hu, hd_le H u hv8⟩⟩
        have key := lp (α := Hp) (h := fun i x => (d + 8, 193, 43, [.ref 57, .int (nI a), .int (nI m), .int (zI (wsum (fun k => tv T 0 (payW H rn (D k)) (-99) 99) i)), .int (nI i)], [], x))
          (I := fun i x => Qs υ x)
          (Q := fun r τ => r = some (.int (zI (wsum (fun k => tv T 0 (payW H rn (D k)) (-99) 99) (min (hd H v a) m)))) ∧ Qm ρ τ) (min (hd H v a) m) ?step ?fin 0 υ (Nat.zero_le _) Ag_r
        · exact key
        case fin =>
          intro ω g
          have hq3 : Qm ρ ω := Ag_t hq2 (Qs_m g)
          have h3 := Qm_M hq3 hM
          have w36 : hF ω 57 36 = .int (nI (hd H v a)) := by rw [Ag_f g 57 36 rfl]; exact hdw
          show Ev (den (d + 8, 193, 43, [.ref 57, .int (nI a), .int (nI m), .int (zI (wsum (fun k => tv T 0 (payW H rn (D k)) (-99) 99) (min (hd H v a) m))), .int (nI (min (hd H v a) m))], [], ω)) _
          rw [a193_43]
          by_cases z : hd H v a ≤ m
          · rw [show min (hd H v a) m = hd H v a by omega]
            simp (disch := first | omega | (repeat (first | assumption | exact Ag_r | refine Ag_I ?_ rfl | refine Ag_F ?_ rfl | refine Ag_J ?_ rfl))) only [A193, FM h3, w36, CO, HA, HB, HC, Nat.not_lt_zero, Nat.add_assoc, c_nlt, c_nle, c_neq, c_P, c_cl, c_m1, c_m1', nI_add, pk_mul, reduceIte, Nat.reduceEqDiff, Nat.reduceAdd, Nat.reduceMul, Nat.reduceLeDiff, eq_self, ↓pk_rem, pk_div, c_of, d_le, d_nle, d_lt, d_nlt, d_eq, d_ne]
            exact Ev_s ⟨rfl, hq3⟩
          · rw [show min (hd H v a) m = m by omega]
            simp (disch := first | omega | (repeat (first | assumption | exact Ag_r | refine Ag_I ?_ rfl | refine Ag_F ?_ rfl | refine Ag_J ?_ rfl))) only [A193, FM h3, w36, CO, HA, HB, HC, Nat.not_lt_zero, Nat.add_assoc, c_nlt, c_nle, c_neq, c_P, c_cl, c_m1, c_m1', nI_add, pk_mul, reduceIte, Nat.reduceEqDiff, Nat.reduceAdd, Nat.reduceMul, Nat.reduceLeDiff, eq_self, ↓pk_rem, pk_div, c_of, d_le, d_nle, d_lt, d_nlt, d_eq, d_ne]
            exact Ev_s ⟨rfl, hq3⟩
        case step =>
          intro i ω hi g nx
          have hq3 : Qm ρ ω := Ag_t hq2 (Qs_m g)
          have h3 := Qm_M hq3 hM
          have w36 : hF ω 57 36 = .int (nI (hd H v a)) := by rw [Ag_f g 57 36 rfl]; exact hdw
          obtain ⟨e, o, g1, g2, g3, g4, g5⟩ := hD i (by omega)
          have w74 : hI ω 74 i = nI (28 * o + e) := by rw [Ag_i g 74 rfl, ← g4]; exact hdr e o g1 g2 g3
          show Ev (den (d + 8, 193, 43, [.ref 57, .int (nI a), .int (nI m), .int (zI (wsum (fun k => tv T 0 (payW H rn (D k)) (-99) 99) i)), .int (nI i)], [], ω)) _
          rw [a193_43]
          simp (disch := first | omega | (repeat (first | assumption | exact Ag_r | refine Ag_I ?_ rfl | refine Ag_F ?_ rfl | refine Ag_J ?_ rfl))) only [A193, FM h3, w36, w74, CO, HA, HB, HC, Nat.not_lt_zero, Nat.add_assoc, c_nlt, c_nle, c_neq, c_P, c_cl, c_m1, c_m1', nI_add, pk_mul, reduceIte, Nat.reduceEqDiff, Nat.reduceAdd, Nat.reduceMul, Nat.reduceLeDiff, eq_self, ↓pk_rem, pk_div, c_of, d_le, d_nle, d_lt, d_nlt, d_eq, d_ne]
          refine Ev_b (M_pays (d := d + 1) hM rM lM (by omega) hq3 (HoM_s g hoM)) ?_
          rintro _ ψ ⟨rfl, g6⟩
          have := nx ψ (Ag_t g g6)
          simp only [wsum, g5] at this
          simp (disch := first | omega | (repeat (first | assumption | exact Ag_r | refine Ag_I ?_ rfl | refine Ag_F ?_ rfl | refine Ag_J ?_ rfl))) only [A193, zI_add, CO, HA, HB, HC, Nat.not_lt_zero, Nat.add_assoc, c_nlt, c_nle, c_neq, c_P, c_cl, c_m1, c_m1', nI_add, pk_mul, reduceIte, Nat.reduceEqDiff, Nat.reduceAdd, Nat.reduceMul, Nat.reduceLeDiff, eq_self, ↓pk_rem, pk_div, c_of, d_le, d_nle, d_lt, d_nlt, d_eq, d_ne]
          exact this
    · refine ⟨-1000000, ?_, ?_⟩
      · simp (disch := first | omega | (repeat (first | assumption | exact Ag_r | refine Ag_I ?_ rfl | refine Ag_F ?_ rfl | refine Ag_J ?_ rfl))) only [A99, FC hC, vC, if_pos hx, CO, HA, HB, HC, Nat.not_lt_zero, Nat.add_assoc, c_nlt, c_nle, c_neq, c_P, c_cl, c_m1, c_m1', nI_add, pk_mul, reduceIte, Nat.reduceEqDiff, Nat.reduceAdd, Nat.reduceMul, Nat.reduceLeDiff, eq_self, ↓pk_rem, pk_div, c_of, d_le, d_nle, d_lt, d_nlt, d_eq, d_ne]
        exact Ev_s ⟨rfl, (by repeat (first | assumption | exact Ag_r | refine Ag_I ?_ rfl | refine Ag_F ?_ rfl | refine Ag_J ?_ rfl))⟩
      · simp (disch := first | omega | (repeat (first | assumption | exact Ag_r | refine Ag_I ?_ rfl | refine Ag_F ?_ rfl | refine Ag_J ?_ rfl))) only [A193, FM hM, M_isVillage' hM sM.1 hv1 hv8, if_pos hx, M_in, l_lo, l_hi, CO, HA, HB, HC, Nat.not_lt_zero, Nat.add_assoc, c_nlt, c_nle, c_neq, c_P, c_cl, c_m1, c_m1', nI_add, pk_mul, reduceIte, Nat.reduceEqDiff, Nat.reduceAdd, Nat.reduceMul, Nat.reduceLeDiff, eq_self, ↓pk_rem, pk_div, c_of, d_le, d_nle, d_lt, d_nlt, d_eq, d_ne]
        exact Ev_s ⟨rfl, (by repeat (first | assumption | exact Ag_r | refine Ag_I ?_ rfl | refine Ag_F ?_ rfl | refine Ag_J ?_ rfl))⟩
  · refine ⟨-1000000, ?_, ?_⟩
    · simp (disch := first | omega | (repeat (first | assumption | exact Ag_r | refine Ag_I ?_ rfl | refine Ag_F ?_ rfl | refine Ag_J ?_ rfl))) only [A99, FC hC, vC, if_neg hx, CO, HA, HB, HC, Nat.not_lt_zero, Nat.add_assoc, c_nlt, c_nle, c_neq, c_P, c_cl, c_m1, c_m1', nI_add, pk_mul, reduceIte, Nat.reduceEqDiff, Nat.reduceAdd, Nat.reduceMul, Nat.reduceLeDiff, eq_self, ↓pk_rem, pk_div, c_of, d_le, d_nle, d_lt, d_nlt, d_eq, d_ne]
      exact Ev_s ⟨rfl, (by repeat (first | assumption | exact Ag_r | refine Ag_I ?_ rfl | refine Ag_F ?_ rfl | refine Ag_J ?_ rfl))⟩
    · simp (disch := first | omega | (repeat (first | assumption | exact Ag_r | refine Ag_I ?_ rfl | refine Ag_F ?_ rfl | refine Ag_J ?_ rfl))) only [A193, FM hM, M_isVillage' hM sM.1 hv1 hv8, if_neg hx, CO, HA, HB, HC, Nat.not_lt_zero, Nat.add_assoc, c_nlt, c_nle, c_neq, c_P, c_cl, c_m1, c_m1', nI_add, pk_mul, reduceIte, Nat.reduceEqDiff, Nat.reduceAdd, Nat.reduceMul, Nat.reduceLeDiff, eq_self, ↓pk_rem, pk_div, c_of, d_le, d_nle, d_lt, d_nlt, d_eq, d_ne]
      exact Ev_s ⟨rfl, (by repeat (first | assumption | exact Ag_r | refine Ag_I ?_ rfl | refine Ag_F ?_ rfl | refine Ag_J ?_ rfl))⟩
end
