/-! ring: the model's walk -/
theorem M_is {d t p : Nat} {σ : Hp} (ht : t < 256) (hp : p < 8) : den (d, 134, 0, [.int (nI t), .int (nI p)], [], σ) = some (some (.int (if t.testBit p = true then nI 1 else nI 0)), σ) := by
  have ri := r_is t ht p hp
  by_cases q : t.testBit p = true
  · rw [if_pos q] at ri ⊢
    simp (disch := first | omega | (repeat (first | assumption | exact Ag_r | refine Ag_I ?_ rfl | refine Ag_F ?_ rfl | refine Ag_J ?_ rfl))) only [A134, ri, CO, HA, HB, HC, Nat.not_lt_zero, Nat.add_assoc, c_nlt, c_nle, c_neq, c_P, c_cl, c_m1, c_m1', nI_add, pk_mul, reduceIte, Nat.reduceEqDiff, Nat.reduceAdd, Nat.reduceMul, Nat.reduceLeDiff, eq_self, ↓pk_rem, pk_div, c_of, d_le, d_nle, d_lt, d_nlt, d_eq, d_ne]
  · rw [if_neg q] at ri ⊢
    simp (disch := first | omega | (repeat (first | assumption | exact Ag_r | refine Ag_I ?_ rfl | refine Ag_F ?_ rfl | refine Ag_J ?_ rfl))) only [A134, ri, CO, HA, HB, HC, Nat.not_lt_zero, Nat.add_assoc, c_nlt, c_nle, c_neq, c_P, c_cl, c_m1, c_m1', nI_add, pk_mul, reduceIte, Nat.reduceEqDiff, Nat.reduceAdd, Nat.reduceMul, Nat.reduceLeDiff, eq_self, ↓pk_rem, pk_div, c_of, d_le, d_nle, d_lt, d_nlt, d_eq, d_ne]
theorem r_co : ∀ t, t < 256 → ∀ p, p < 8 → t.testBit p = false → clr (t ||| 2 ^ p) p = t := by decide +kernel
def Qkr (σ τ : Hp) : Prop := Ag (fun k => Nat.beq k 77) (fun k j => Nat.beq k 57 && (Nat.beq j 40 || Nat.beq j 41)) σ τ
def Qwr (σ τ : Hp) : Prop := Ag (fun k => Nat.beq k 76 || Nat.beq k 77) (fun k j => Nat.beq k 57 && (Nat.beq j 40 || Nat.beq j 41)) σ τ
theorem Qkr_w {σ τ : Hp} (g : Qkr σ τ) : Qwr σ τ := Ag_w g (fun k e => by
  show (Nat.beq k 76 || Nat.beq k 77) = true
  rw [show Nat.beq k 77 = true from e, Bool.or_true]) (fun k j e => e)
theorem Qwr_t {a b c : Hp} (g : Qwr a b) (h : Qwr b c) : Qwr a c := Ag_t g h
theorem Qkr_t {a b c : Hp} (g : Qkr a b) (h : Qkr b c) : Qkr a c := Ag_t g h
theorem Qwr_M {a b : Hp} (g : Qwr a b) (h : FxM a) : FxM b := FxM_a g (by decide) h
theorem Qkr_M {a b : Hp} (g : Qkr a b) (h : FxM a) : FxM b := FxM_a g (by decide) h
def KR (τ : Hp) (n : Nat) (m : Nat → Nat) : Prop := hF τ 57 40 = .int (nI n) ∧ hF τ 57 41 = .int (nI (bs m n)) ∧ ∀ i, i < n → hI τ 77 i = nI (m i)
section
variable {d : Nat} {τ : Hp}
theorem M_keep {n n1 : Nat} {m t : Nat → Nat} (hM : FxM τ) (hn : n ≤ 8) (hb : bs m n < 256) (h1 : n1 ≤ 8) (hb1 : bs t n1 < 256) (k : KR τ n m) (ht : ∀ i, i < n1 → hI τ 76 i = nI (t i)) : Ev (den (d, 201, 0, [.ref 57, .int (nI n1), .int (nI (bs t n1)), .float 0], [], τ)) (fun a υ => a = none ∧ Qkr τ υ ∧ (((n = 0 ∨ n1 < n ∨ (n1 = n ∧ bs t n1 < bs m n)) ∧ KR υ n1 t) ∨ (¬ (n = 0 ∨ n1 < n ∨ (n1 = n ∧ bs t n1 < bs m n)) ∧ KR υ n m))) := by
  obtain ⟨k1, k2, k3⟩ := k
  have go : Ev (den (d, 201, 43, [.ref 57, .int (nI n1), .int (nI (bs t n1)), .int (nI 0)], [], sF (sF τ 57 40 (.int (nI n1))) 57 41 (.int (nI (bs t n1))))) (fun a υ => a = none ∧ Qkr τ υ ∧ KR υ n1 t) := by
    have g0 : Qkr τ (sF (sF τ 57 40 (.int (nI n1))) 57 41 (.int (nI (bs t n1)))) := Ag_F (Ag_F Ag_r rfl) rfl
    refine lp (α := Hp) (h := fun i υ => (d, 201, 43, [.ref 57, .int (nI n1), .int (nI (bs t n1)), .int (nI i)], [], υ)) (I := fun i υ => Qkr τ υ ∧ hF υ 57 40 = .int (nI n1) ∧ hF υ 57 41 = .int (nI (bs t n1)) ∧ ∀ j, j < i → hI υ 77 j = nI (t j)) n1 ?_ ?_ 0 _ (by omega) ⟨g0, by simp only [HA, Nat.reduceEqDiff, and_false, and_self, reduceIte], by simp only [HA, Nat.reduceEqDiff, and_false, and_self, reduceIte], fun j hj => absurd hj (by omega)⟩
    · rintro i υ hi ⟨g, f1, f2, f3⟩ nx
      have m2 := Qkr_M g hM
      show Ev (den (d, 201, 43, [.ref 57, .int (nI n1), .int (nI (bs t n1)), .int (nI i)], [], υ)) _
      rw [a201_43]
      have ti : hI υ 76 i = nI (t i) := by rw [Ag_i g 76 rfl]; exact ht i hi
      have ga : Qkr υ (sI υ 77 (upd (hI υ 77) i (nI (t i)))) := Ag_I Ag_r rfl
      refine Ev_e ?_ (nx (sI υ 77 (upd (hI υ 77) i (nI (t i)))) ⟨Qkr_t g ga, f1, f2, fun j hj => ?_⟩)
      · simp (disch := first | omega | (repeat (first | assumption | exact Ag_r | refine Ag_I ?_ rfl | refine Ag_F ?_ rfl | refine Ag_J ?_ rfl))) only [A201, FM m2, ti, CO, HA, HB, HC, Nat.not_lt_zero, Nat.add_assoc, c_nlt, c_nle, c_neq, c_P, c_cl, c_m1, c_m1', nI_add, pk_mul, reduceIte, Nat.reduceEqDiff, Nat.reduceAdd, Nat.reduceMul, Nat.reduceLeDiff, eq_self, ↓pk_rem, pk_div, c_of, d_le, d_nle, d_lt, d_nlt, d_eq, d_ne]
      · simp only [HA, reduceIte, ua]
        by_cases z : j = i
        · rw [if_pos z, z]
        · rw [if_neg z]; exact f3 j (by omega)
    · rintro υ ⟨g, f1, f2, f3⟩
      show Ev (den (d, 201, 43, [.ref 57, .int (nI n1), .int (nI (bs t n1)), .int (nI n1)], [], υ)) _
      rw [a201_43]
      simp (disch := first | omega | (repeat (first | assumption | exact Ag_r | refine Ag_I ?_ rfl | refine Ag_F ?_ rfl | refine Ag_J ?_ rfl))) only [A201, CO, HA, HB, HC, Nat.not_lt_zero, Nat.add_assoc, c_nlt, c_nle, c_neq, c_P, c_cl, c_m1, c_m1', nI_add, pk_mul, reduceIte, Nat.reduceEqDiff, Nat.reduceAdd, Nat.reduceMul, Nat.reduceLeDiff, eq_self, ↓pk_rem, pk_div, c_of, d_le, d_nle, d_lt, d_nlt, d_eq, d_ne]
      exact Ev_s ⟨rfl, g, f1, f2, f3⟩
  by_cases q : n = 0 ∨ n1 < n ∨ (n1 = n ∧ bs t n1 < bs m n)
  · refine Ev_e ?_ (Ev_m go (fun a υ h => ⟨h.1, h.2.1, Or.inl ⟨q, h.2.2⟩⟩))
    by_cases z : n = 0
    · subst z
      simp (disch := first | omega | (repeat (first | assumption | exact Ag_r | refine Ag_I ?_ rfl | refine Ag_F ?_ rfl | refine Ag_J ?_ rfl))) only [A201, FM hM, k1, k2, CO, HA, HB, HC, Nat.not_lt_zero, Nat.add_assoc, c_nlt, c_nle, c_neq, c_P, c_cl, c_m1, c_m1', nI_add, pk_mul, reduceIte, Nat.reduceEqDiff, Nat.reduceAdd, Nat.reduceMul, Nat.reduceLeDiff, eq_self, ↓pk_rem, pk_div, c_of, d_le, d_nle, d_lt, d_nlt, d_eq, d_ne]
    · by_cases w : n1 < n
      · simp (disch := first | omega | (repeat (first | assumption | exact Ag_r | refine Ag_I ?_ rfl | refine Ag_F ?_ rfl | refine Ag_J ?_ rfl))) only [A201, FM hM, k1, k2, CO, HA, HB, HC, Nat.not_lt_zero, Nat.add_assoc, c_nlt, c_nle, c_neq, c_P, c_cl, c_m1, c_m1', nI_add, pk_mul, reduceIte, Nat.reduceEqDiff, Nat.reduceAdd, Nat.reduceMul, Nat.reduceLeDiff, eq_self, ↓pk_rem, pk_div, c_of, d_le, d_nle, d_lt, d_nlt, d_eq, d_ne]
      · obtain ⟨rfl, q2⟩ : n1 = n ∧ bs t n1 < bs m n := by omega
        simp (disch := first | omega | (repeat (first | assumption | exact Ag_r | refine Ag_I ?_ rfl | refine Ag_F ?_ rfl | refine Ag_J ?_ rfl))) only [A201, FM hM, k1, k2, CO, HA, HB, HC, Nat.not_lt_zero, Nat.add_assoc, c_nlt, c_nle, c_neq, c_P, c_cl, c_m1, c_m1', nI_add, pk_mul, reduceIte, Nat.reduceEqDiff, Nat.reduceAdd, Nat.reduceMul, Nat.reduceLeDiff, eq_self, ↓pk_rem, pk_div, c_of, d_le, d_nle, d_lt, d_nlt, d_eq, d_ne]
  · refine Ev_e (o' := some (none, τ)) ?_ (Ev_s ⟨rfl, Ag_r, Or.inr ⟨q, k1, k2, k3⟩⟩)
    by_cases w : n1 = n
    · subst w
      simp (disch := first | omega | (repeat (first | assumption | exact Ag_r | refine Ag_I ?_ rfl | refine Ag_F ?_ rfl | refine Ag_J ?_ rfl))) only [A201, FM hM, k1, k2, CO, HA, HB, HC, Nat.not_lt_zero, Nat.add_assoc, c_nlt, c_nle, c_neq, c_P, c_cl, c_m1, c_m1', nI_add, pk_mul, reduceIte, Nat.reduceEqDiff, Nat.reduceAdd, Nat.reduceMul, Nat.reduceLeDiff, eq_self, ↓pk_rem, pk_div, c_of, d_le, d_nle, d_lt, d_nlt, d_eq, d_ne]
    · simp (disch := first | omega | (repeat (first | assumption | exact Ag_r | refine Ag_I ?_ rfl | refine Ag_F ?_ rfl | refine Ag_J ?_ rfl))) only [A201, FM hM, k1, k2, CO, HA, HB, HC, Nat.not_lt_zero, Nat.add_assoc, c_nlt, c_nle, c_neq, c_P, c_cl, c_m1, c_m1', nI_add, pk_mul, reduceIte, Nat.reduceEqDiff, Nat.reduceAdd, Nat.reduceMul, Nat.reduceLeDiff, eq_self, ↓pk_rem, pk_div, c_of, d_le, d_nle, d_lt, d_nlt, d_eq, d_ne]
end
def Wk (E : Nat → Nat → Bool) (τ0 : Hp) (s : Nat) (τ : Hp) (dep : Nat) (t : Nat → Nat) (c : Nat) : Prop := Qwr τ0 τ ∧ (1 ≤ dep ∧ dep ≤ 7) ∧ (s ≤ c ∧ c ≤ 7) ∧ t 0 = s ∧ Pt E t dep ∧ (∀ i, i < dep → hI τ 76 i = nI (t i)) ∧ hI τ 76 dep = nI c ∧ ∃ n m, Bst (Sn E s dep t c) n m ∧ KR τ n m
theorem Bst_b {X : Nat → (Nat → Nat) → Prop} {E : Nat → Nat → Bool} {n : Nat} {m : Nat → Nat} (hX : ∀ n m, X n m → Cy E m n) (h : Bst X n m) : n ≤ 8 ∧ bs m n < 256 := by
  rcases h with ⟨rfl, h⟩ | ⟨h1, h⟩
  · exact ⟨by omega, by simp only [bs]; omega⟩
  · have c := hX _ _ h1
    exact ⟨c.2.1, bs_lt (v := 8) c.2.2.1.1⟩
section
variable {d : Nat} {E : Nat → Nat → Bool} {τ0 : Hp} {s : Nat} {Q : Option Value → Hp → Prop}
abbrev WH (d s : Nat) (t : Nat → Nat) (dep : Nat) (x : Value) (τ : Hp) : Fr := (d + 1, 200, 20, [.ref 57, .int (nI s), .int (nI dep), .int (nI (bs t dep)), x], [], τ)
theorem M_135 (hM : FxM τ0) (hO : ∀ u, u < 8 → hI τ0 75 u = nI (mk (E u) 8)) {dep c : Nat} {t t' : Nat → Nat} {τ : Hp} (h1 : 1 ≤ dep) (h7 : dep ≤ 7) (hc : s ≤ c) (hc7 : c + 1 ≤ 7) (t0 : t 0 = s) (e : ∀ i, i < dep → t' i = t i) (ec : t' dep = c + 1) (hp : Pt E t' (dep + 1)) (g : Qwr τ0 τ) (ht : ∀ i, i < dep + 1 → hI τ 76 i = nI (t' i)) {n : Nat} {m : Nat → Nat} (hB : Bst (fun n m => Sn E s dep t c n m ∨ (Cy E m n ∧ n = dep + 1 ∧ ∀ i, i < n → m i = t' i)) n m) (hK : KR τ n m)
    (out : dep < 7 → ∀ (c : Nat) (t : Nat → Nat) (τ : Hp) (x : Value), Wk E τ0 s τ (dep + 1) t c → (∀ τ' x, Wk E τ0 s τ' (dep + 1) t 7 → Ev (den (WH d s t (dep + 1) x τ')) Q) → Ev (den (WH d s t (dep + 1) x τ)) Q)
    (inn : ∀ (τ : Hp) (x : Value), Wk E τ0 s τ dep t (c + 1) → Ev (den (WH d s t dep x τ)) Q) :
    Ev (den (d + 1, 200, 135, [.ref 57, .int (nI s), .int (nI dep), .int (nI (bs t' (dep + 1))), .int (nI (c + 1))], [], τ)) Q := by
  have m2 := Qwr_M g hM
  have bl : bs t' dep < 256 := bs_lt (v := 8) (fun i hi => hp.1 i (by omega))
  have bl1 : bs t' (dep + 1) < 256 := bs_lt (v := 8) hp.1
  have bt : bs t' dep = bs t dep := bs_e e
  have no := bs_no hp
  have co := r_co _ bl _ (hp.1 dep (by omega)) no
  have cl := (r_clr _ bl1 _ (hp.1 dep (by omega))).1
  rw [show clr (bs t' (dep + 1)) (t' dep) = bs t dep by rw [← bt]; exact co] at cl
  have pt : Pt E t dep := Pt_e e (Pt_m (by omega) hp)
  by_cases q : dep < 7
  · have ga : Qwr τ (sI τ 76 (upd (hI τ 76) (dep + 1) (nI s))) := Ag_I Ag_r rfl
    refine Ev_e ?_ (out q s t' (sI τ 76 (upd (hI τ 76) (dep + 1) (nI s))) (.int (nI (c + 1))) ⟨Qwr_t g ga, by omega, by omega, by rw [e 0 (by omega)]; exact t0, hp, fun i hi => ?_, ?_, n, m, Bst_X (fun n m => Sn_push h1 t0 e ec) hB, ?_⟩ ?_)
    · simp (disch := first | omega | (repeat (first | assumption | exact Ag_r | refine Ag_I ?_ rfl | refine Ag_F ?_ rfl | refine Ag_J ?_ rfl))) only [A200, FM m2, CO, HA, HB, HC, Nat.not_lt_zero, Nat.add_assoc, c_nlt, c_nle, c_neq, c_P, c_cl, c_m1, c_m1', nI_add, pk_mul, reduceIte, Nat.reduceEqDiff, Nat.reduceAdd, Nat.reduceMul, Nat.reduceLeDiff, eq_self, ↓pk_rem, pk_div, c_of, d_le, d_nle, d_lt, d_nlt, d_eq, d_ne]
    · simp only [HA, reduceIte, ua]
      rw [if_neg (by omega)]
      exact ht i hi
    · simp only [HA, reduceIte, ua]
    · obtain ⟨k1, k2, k3⟩ := hK
      exact ⟨k1, k2, fun i hi => by simp only [HA, Nat.reduceEqDiff, reduceIte]; exact k3 i hi⟩
    · rintro τ' x ⟨w1, w2, w3, w4, w5, w6, w7, n', m', w8, w9⟩
      have m3 := Qwr_M w1 hM
      have gb : Qwr τ' (sI τ' 76 (upd (hI τ' 76) (dep + 1) (nI 8))) := Ag_I Ag_r rfl
      show Ev (den (d + 1, 200, 20, [.ref 57, .int (nI s), .int (nI (dep + 1)), .int (nI (bs t' (dep + 1))), x], [], τ')) _
      rw [a200_20]
      refine Ev_e ?_ (inn (sI τ' 76 (upd (hI τ' 76) (dep + 1) (nI 8))) (.int (nI 8)) ⟨Qwr_t w1 gb, ⟨h1, h7⟩, by omega, t0, pt, fun i hi => ?_, ?_, n', m', ?_, ?_⟩)
      · have wd := w6 dep (by omega)
        simp (disch := first | omega | (repeat (first | assumption | exact Ag_r | refine Ag_I ?_ rfl | refine Ag_F ?_ rfl | refine Ag_J ?_ rfl))) only [A200, FM m3, w7, ua, n_m1, show ¬ dep = dep + 1 by omega, wd, cl, CO, HA, HB, HC, Nat.not_lt_zero, Nat.add_assoc, c_nlt, c_nle, c_neq, c_P, c_cl, c_m1, c_m1', nI_add, pk_mul, reduceIte, Nat.reduceEqDiff, Nat.reduceAdd, Nat.reduceMul, Nat.reduceLeDiff, eq_self, ↓pk_rem, pk_div, c_of, d_le, d_nle, d_lt, d_nlt, d_eq, d_ne]
      · simp only [HA, reduceIte, ua]
        rw [if_neg (by omega), w6 i (by omega), e i hi]
      · simp only [HA, reduceIte, ua]
        rw [if_neg (by omega), w6 dep (by omega), ec]
      · refine Bst_X (fun n m => ?_) w8
        rw [Sn_pop h1, ec]
        exact Sn_e e
      · obtain ⟨k1, k2, k3⟩ := w9
        exact ⟨k1, k2, fun i hi => by simp only [HA, Nat.reduceEqDiff, reduceIte]; exact k3 i hi⟩
  · obtain rfl : dep = 7 := by omega
    rw [ec] at cl
    refine Ev_e ?_ (inn τ (.int (nI (c + 1))) ⟨g, ⟨h1, h7⟩, by omega, t0, pt, fun i hi => by rw [ht i (by omega), e i hi], by rw [ht 7 (by omega), ec], n, m, Bst_X (fun n m => Sn_deep rfl t0 e ec) hB, hK⟩)
    simp (disch := first | omega | (repeat (first | assumption | exact Ag_r | refine Ag_I ?_ rfl | refine Ag_F ?_ rfl | refine Ag_J ?_ rfl))) only [A200, FM m2, cl, CO, HA, HB, HC, Nat.not_lt_zero, Nat.add_assoc, c_nlt, c_nle, c_neq, c_P, c_cl, c_m1, c_m1', nI_add, pk_mul, reduceIte, Nat.reduceEqDiff, Nat.reduceAdd, Nat.reduceMul, Nat.reduceLeDiff, eq_self, ↓pk_rem, pk_div, c_of, d_le, d_nle, d_lt, d_nlt, d_eq, d_ne]
end
