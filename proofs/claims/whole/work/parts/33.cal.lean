/-! the calendar of the class, the rows of days of the model -/
theorem cB_surj {p : Nat → Bool} : ∀ {n k : Nat}, k < cB p n → ∃ i, i < n ∧ p i = true ∧ cB p i = k
  | 0, k, h => absurd h (Nat.not_lt_zero k)
  | n + 1, k, h => by
    by_cases hp : p n = true
    · rw [cB_y hp] at h
      by_cases hk : k < cB p n
      · obtain ⟨i, h1, h2, h3⟩ := cB_surj hk
        exact ⟨i, by omega, h2, h3⟩
      · exact ⟨n, by omega, hp, by omega⟩
    · rw [cB_n (by simpa using hp)] at h
      obtain ⟨i, h1, h2, h3⟩ := cB_surj h
      exact ⟨i, by omega, h2, h3⟩
theorem ivt (f : Nat → Nat) {k : Nat} (h0 : f 0 ≤ k) : ∀ {n : Nat}, k < f n → ∃ e, e < n ∧ f e ≤ k ∧ k < f (e + 1)
  | 0, h => by omega
  | n + 1, h => by
    by_cases hk : k < f n
    · obtain ⟨e, h1, h2, h3⟩ := ivt f h0 hk
      exact ⟨e, by omega, h2, h3⟩
    · exact ⟨n, by omega, by omega, h⟩
theorem cB_one (p : Nat → Bool) (e : Nat) : ∀ n, cB (fun i => p i && decide (i = e)) n = if e < n ∧ p e = true then 1 else 0
  | 0 => by simp [cB]
  | n + 1 => by
    rw [cB, cB_one p e n]
    by_cases h1 : n = e
    · subst h1
      cases hp : p n <;> simp [hp]
    · by_cases h2 : e < n
      · cases hp : p e <;> simp [h1, h2, hp, show e < n + 1 by omega]
      · have : ¬ e < n + 1 := by omega
        simp [h1, h2, this]
/-- of the copies ahead of day e, how many u lives through -/
def bef (H : Nat → Nat) : Nat → Nat → Nat → Nat
  | 0, _, _ => 0
  | v + 1, u, e => bef H v u e + cB (fun i => decide (H (28 * v + i) = u)) e
/-- how often u lives day e -/
def tm (H : Nat → Nat) (v u e : Nat) : Nat := cB (fun o => decide (H (28 * o + e) = u)) v
theorem bef_0 (H : Nat → Nat) (u : Nat) : ∀ v, bef H v u 0 = 0
  | 0 => rfl
  | v + 1 => by rw [bef, bef_0 H u v]; rfl
theorem bef_s (H : Nat → Nat) (u e : Nat) : ∀ v, bef H v u (e + 1) = bef H v u e + tm H v u e
  | 0 => rfl
  | v + 1 => by
    have := bef_s H u e v
    simp only [bef, tm, cB] at this ⊢
    omega
theorem bef_28 (H : Nat → Nat) (u : Nat) : ∀ v, bef H v u 28 = hd H v u
  | 0 => rfl
  | v + 1 => by
    have := bef_28 H u v
    unfold hd at this ⊢
    rw [Nat.mul_add, Nat.mul_one, cB_add, bef, this]
theorem bef_mono (H : Nat → Nat) (v u : Nat) {a b : Nat} (h : a ≤ b) : bef H v u a ≤ bef H v u b := by
  obtain ⟨c, rfl⟩ := Nat.le.dest h
  clear h
  induction c with
  | zero => exact Nat.le_refl _
  | succ c ih => rw [← Nat.add_assoc, bef_s]; omega
theorem bef_le (H : Nat → Nat) (u : Nat) {e : Nat} (he : e ≤ 28) : ∀ v, bef H v u e ≤ 28 * v
  | 0 => Nat.le_refl _
  | v + 1 => by
    have := bef_le H u he v
    have := cB_le (fun i => decide (H (28 * v + i) = u)) e
    rw [bef]; omega
theorem tm_le (H : Nat → Nat) (v u e : Nat) : tm H v u e ≤ v := cB_le _ _
theorem raw_tm (H : Nat → Nat) (w : Nat) {e : Nat} (he : e < 28) : ∀ v, cB (fun c => decide (H c = w) && decide (c % 28 + 1 = e + 1)) (28 * v) = tm H v w e
  | 0 => rfl
  | v + 1 => by
    rw [Nat.mul_add, Nat.mul_one, cB_add, raw_tm H w he v]
    rw [cB_ext (n := 28) (q := fun i => (fun i => decide (H (28 * v + i) = w)) i && decide (i = e)) (fun i hi => by
      have : (28 * v + i) % 28 = i := by omega
      simp only [this, Nat.add_right_cancel_iff])]
    rw [cB_one]
    unfold tm
    rw [cB]
    simp [he]
/-- the place in u's row of o's copy of day e -/
def rk (H : Nat → Nat) (v u e o : Nat) : Nat := bef H v u e + cB (fun o' => decide (H (28 * o' + e) = u)) o
theorem rk_lt {H : Nat → Nat} {v u e o : Nat} (he : e < 28) (ho : o < v) (h : H (28 * o + e) = u) : rk H v u e o < bef H v u (e + 1) := by
  rw [bef_s]
  unfold rk tm
  have h1 := cB_mono (fun o' => decide (H (28 * o' + e) = u)) (show o + 1 ≤ v by omega)
  rw [cB_y (by simp [h])] at h1
  omega
theorem rk_hd {H : Nat → Nat} {v u e o : Nat} (he : e < 28) (ho : o < v) (h : H (28 * o + e) = u) : rk H v u e o < hd H v u := by
  have h1 := rk_lt he ho h
  have h2 := bef_mono H v u (show e + 1 ≤ 28 by omega)
  rw [bef_28] at h2
  omega
theorem rk_all {H : Nat → Nat} {v u k : Nat} (hk : k < hd H v u) : ∃ e o, e < 28 ∧ o < v ∧ H (28 * o + e) = u ∧ rk H v u e o = k ∧ bef H v u e ≤ k ∧ k < bef H v u (e + 1) := by
  rw [← bef_28] at hk
  obtain ⟨e, h1, h2, h3⟩ := ivt (bef H v u) (by rw [bef_0]; exact Nat.zero_le _) hk
  have h4 := h3
  rw [bef_s] at h4
  obtain ⟨o, h5, h6, h7⟩ := cB_surj (p := fun o' => decide (H (28 * o' + e) = u)) (n := v) (k := k - bef H v u e) (by unfold tm at h4; omega)
  exact ⟨e, o, h1, h5, by simpa using h6, by unfold rk; omega, h2, h3⟩
theorem rk_less {H : Nat → Nat} {v u e o e' o' : Nat} (he : e' < 28) (ho : o' < v) (h : H (28 * o' + e') = u) (hl : e' < e ∨ (e' = e ∧ o' < o)) : rk H v u e' o' < rk H v u e o := by
  rcases hl with hl | ⟨rfl, hl⟩
  · have h1 := rk_lt he ho h
    have h2 := bef_mono H v u (show e' + 1 ≤ e by omega)
    unfold rk at h1 ⊢
    omega
  · unfold rk
    have h1 := cB_mono (fun o' => decide (H (28 * o' + e') = u)) (show o' + 1 ≤ o by omega)
    rw [cB_y (by simp [h])] at h1
    omega
/-- the calendar as it is drawn up -/
def Cal (σ : Hp) (v : Nat) (H : Nat → Nat) : Prop := ∀ u e, u < 8 → e ≤ 28 → hI σ 22 (29 * u + e) = nI (bef H v u e)
/-- u's row as it is found -/
def Dw (σ : Hp) (v : Nat) (H : Nat → Nat) (u : Nat) : Prop := hF σ 57 36 = .int (nI (hd H v u)) ∧ ∀ e o, e < 28 → o < v → H (28 * o + e) = u → hI σ 74 (rk H v u e o) = nI (28 * o + e)
def fil (f : Nat → Int32) (x : Int32) (n : Nat) : Nat → Int32 := fun j => if j < n then x else f j
theorem fil_0 (f : Nat → Int32) (x : Int32) : fil f x 0 = f := by funext j; simp [fil]
theorem fil_s (f : Nat → Int32) (x : Int32) (n : Nat) : upd (fil f x n) n x = fil f x (n + 1) := by
  funext j
  rw [ua]
  unfold fil
  by_cases h : j = n
  · subst h; simp
  · by_cases h2 : j < n
    · simp [h, h2, show j < n + 1 by omega]
    · simp [h, h2, show ¬ j < n + 1 by omega]
section
variable {d v : Nat} {H : Nat → Nat} {σ : Hp}
theorem J_fill (σ : Hp) {q m : Nat} (hk : kd σ q = 100) (hl : hL σ q = m) (hm : m < 10000) (x : Int32) : den (d, 225, 0, [.ref q, .int x, .float 0, .float 0], [], σ) = some (none, sI σ q (fil (hI σ q) x m)) := by
  have go : ∀ (n i : Nat), i + n = m → den (d, 225, 5, [.ref q, .int x, .int (nI i), .int (nI m)], [], sI σ q (fil (hI σ q) x i)) = some (none, sI σ q (fil (hI σ q) x m)) := by
    intro n
    induction n with
    | zero =>
      intro i hi
      obtain rfl : i = m := by omega
      rw [a225_5]
      simp (disch := first | omega | (repeat (first | assumption | exact Ag_r | refine Ag_I ?_ rfl | refine Ag_F ?_ rfl | refine Ag_J ?_ rfl))) only [A225, hk, hl, CO, HA, HB, HC, Nat.not_lt_zero, Nat.add_assoc, c_nlt, c_nle, c_neq, c_P, c_cl, c_m1, c_m1', nI_add, pk_mul, reduceIte, Nat.reduceEqDiff, Nat.reduceAdd, Nat.reduceMul, Nat.reduceLeDiff, eq_self, ↓pk_rem, pk_div, c_of, d_le, d_nle, d_lt, d_nlt, d_eq, d_ne]
    | succ n ih =>
      intro i hi
      rw [a225_5]
      simp (disch := first | omega | (repeat (first | assumption | exact Ag_r | refine Ag_I ?_ rfl | refine Ag_F ?_ rfl | refine Ag_J ?_ rfl))) only [A225, hk, hl, fil_s, CO, HA, HB, HC, Nat.not_lt_zero, Nat.add_assoc, c_nlt, c_nle, c_neq, c_P, c_cl, c_m1, c_m1', nI_add, pk_mul, reduceIte, Nat.reduceEqDiff, Nat.reduceAdd, Nat.reduceMul, Nat.reduceLeDiff, eq_self, ↓pk_rem, pk_div, c_of, d_le, d_nle, d_lt, d_nlt, d_eq, d_ne]
      exact ih (i + 1) (by omega)
  simp (disch := first | omega | (repeat (first | assumption | exact Ag_r | refine Ag_I ?_ rfl | refine Ag_F ?_ rfl | refine Ag_J ?_ rfl))) only [A225, hk, hl, CO, HA, HB, HC, Nat.not_lt_zero, Nat.add_assoc, c_nlt, c_nle, c_neq, c_P, c_cl, c_m1, c_m1', nI_add, pk_mul, reduceIte, Nat.reduceEqDiff, Nat.reduceAdd, Nat.reduceMul, Nat.reduceLeDiff, eq_self, ↓pk_rem, pk_div, c_of, d_le, d_nle, d_lt, d_nlt, d_eq, d_ne]
  have := go m 0 (by omega)
  rw [fil_0, sI_self] at this
  exact this
/-- the row of counts -/
def q1 (H : Nat → Nat) (w e : Nat) : Nat → Bool := fun c => decide (H c = w) && decide (c % 28 + 1 = e)
theorem C_draw1 (h : FxC σ) (hs : StC σ v H) (hw : Wf v H) : ∀ (n i : Nat) (τ : Hp), i + n = 28 * v → Qc σ τ → (∀ w e, w < 8 → e < 29 → hI τ 22 (29 * w + e) = nI (cB (q1 H w e) i)) → ∃ υ l, den (d, 1, 10, [.ref 21, .ref 1, .int (nI i), .float 0], [], τ) = den (d, 1, 54, [.ref 21, .ref 1, .int (nI 0), l], [], υ) ∧ Qc σ υ ∧ (∀ w e, w < 8 → e < 29 → hI υ 22 (29 * w + e) = nI (cB (q1 H w e) (28 * v))) := by
  have hv8 := hw.2.1
  intro n
  induction n with
  | zero =>
    intro i τ hi hq h1
    obtain rfl : i = 28 * v := by omega
    have h' := Qc_C hq h
    refine ⟨τ, .float 0, ?_, hq, h1⟩
    rw [a1_10]
    simp (disch := first | omega | (repeat (first | assumption | exact Ag_r | refine Ag_I ?_ rfl | refine Ag_F ?_ rfl | refine Ag_J ?_ rfl))) only [A1, FC h', Ag_f hq 1 0 rfl, hs.1, CO, HA, HB, HC, Nat.not_lt_zero, Nat.add_assoc, c_nlt, c_nle, c_neq, c_P, c_cl, c_m1, c_m1', nI_add, pk_mul, reduceIte, Nat.reduceEqDiff, Nat.reduceAdd, Nat.reduceMul, Nat.reduceLeDiff, eq_self, ↓pk_rem, pk_div, c_of, d_le, d_nle, d_lt, d_nlt, d_eq, d_ne]
  | succ n ih =>
    intro i τ hi hq h1
    have h' := Qc_C hq h
    have e1 := hs.2 i (by omega)
    have e2 := Wf_8 hw (c := i) (by omega)
    have e3 := Ag_i hq 2 rfl
    have e4 := h1 (H i) (i % 28 + 1) e2 (by omega)
    have e5 := cB_le (q1 H (H i) (i % 28 + 1)) i
    rw [a1_10]
    simp (disch := first | omega | (repeat (first | assumption | exact Ag_r | refine Ag_I ?_ rfl | refine Ag_F ?_ rfl | refine Ag_J ?_ rfl))) only [A1, FC h', Ag_f hq 1 0 rfl, hs.1, e1, e3, Nat.mul_comm (H i) 29, e4, CO, HA, HB, HC, Nat.not_lt_zero, Nat.add_assoc, c_nlt, c_nle, c_neq, c_P, c_cl, c_m1, c_m1', nI_add, pk_mul, reduceIte, Nat.reduceEqDiff, Nat.reduceAdd, Nat.reduceMul, Nat.reduceLeDiff, eq_self, ↓pk_rem, pk_div, c_of, d_le, d_nle, d_lt, d_nlt, d_eq, d_ne]
    refine ih (i + 1) _ (by omega) (by repeat (first | assumption | exact Ag_r | refine Ag_I ?_ rfl | refine Ag_F ?_ rfl | refine Ag_J ?_ rfl)) ?_
    intro w e hw8 he
    simp only [HA, reduceIte, ua]
    split
    · next z =>
      have z1 : w = H i := by omega
      have z2 : e = i % 28 + 1 := by omega
      subst z1 z2
      rw [cB_y (by simp [q1])]
    · next z =>
      rw [h1 w e hw8 he, cB_n]
      unfold q1
      by_cases z1 : H i = w
      · have : ¬ i % 28 + 1 = e := by omega
        simp [this]
      · simp [z1]
theorem C_draw3 (h : FxC σ) {w : Nat} (hw8 : w < 8) (hv8 : v ≤ 8) : ∀ (n i : Nat) (τ : Hp), i + n = 28 → Qc σ τ → (∀ w' e, w' < 8 → e < 29 → hI τ 22 (29 * w' + e) = if w' < w ∨ (w' = w ∧ e ≤ i) then nI (bef H v w' e) else nI (cB (q1 H w' e) (28 * v))) → ∃ υ l, den (d, 1, 62, [.ref 21, .ref 1, .int (nI w), .int (nI i)], [], τ) = den (d, 1, 54, [.ref 21, .ref 1, .int (nI (w + 1)), l], [], υ) ∧ Qc σ υ ∧ (∀ w' e, w' < 8 → e < 29 → hI υ 22 (29 * w' + e) = if w' < w + 1 then nI (bef H v w' e) else nI (cB (q1 H w' e) (28 * v))) := by
  intro n
  induction n with
  | zero =>
    intro i τ hi hq h1
    obtain rfl : i = 28 := by omega
    have h' := Qc_C hq h
    refine ⟨τ, .int (nI 28), ?_, hq, fun w' e h2 h3 => ?_⟩
    · rw [a1_62]
      simp (disch := first | omega | (repeat (first | assumption | exact Ag_r | refine Ag_I ?_ rfl | refine Ag_F ?_ rfl | refine Ag_J ?_ rfl))) only [A1, FC h', CO, HA, HB, HC, Nat.not_lt_zero, Nat.add_assoc, c_nlt, c_nle, c_neq, c_P, c_cl, c_m1, c_m1', nI_add, pk_mul, reduceIte, Nat.reduceEqDiff, Nat.reduceAdd, Nat.reduceMul, Nat.reduceLeDiff, eq_self, ↓pk_rem, pk_div, c_of, d_le, d_nle, d_lt, d_nlt, d_eq, d_ne]
    · rw [h1 w' e h2 h3]
      by_cases z : w' < w + 1
      · rw [if_pos (by omega), if_pos z]
      · rw [if_neg (by omega), if_neg z]
  | succ n ih =>
    intro i τ hi hq h1
    have h' := Qc_C hq h
    have e1 := h1 w i hw8 (by omega)
    rw [if_pos (by omega)] at e1
    have e2 := h1 w (i + 1) hw8 (by omega)
    rw [if_neg (by omega), show q1 H w (i + 1) = fun c => decide (H c = w) && decide (c % 28 + 1 = i + 1) from rfl, raw_tm H w (by omega) v] at e2
    have e3 := bef_le H w (show i ≤ 28 by omega) v
    have e4 := tm_le H v w i
    have e5 : tm H v w i + bef H v w i = bef H v w (i + 1) := by rw [bef_s]; omega
    rw [a1_62]
    simp (disch := first | omega | (repeat (first | assumption | exact Ag_r | refine Ag_I ?_ rfl | refine Ag_F ?_ rfl | refine Ag_J ?_ rfl))) only [A1, FC h', Nat.mul_comm w 29, e1, e2, e5, CO, HA, HB, HC, Nat.not_lt_zero, Nat.add_assoc, c_nlt, c_nle, c_neq, c_P, c_cl, c_m1, c_m1', nI_add, pk_mul, reduceIte, Nat.reduceEqDiff, Nat.reduceAdd, Nat.reduceMul, Nat.reduceLeDiff, eq_self, ↓pk_rem, pk_div, c_of, d_le, d_nle, d_lt, d_nlt, d_eq, d_ne]
    refine ih (i + 1) _ (by omega) (by repeat (first | assumption | exact Ag_r | refine Ag_I ?_ rfl | refine Ag_F ?_ rfl | refine Ag_J ?_ rfl)) ?_
    intro w' e h2 h3
    simp only [HA, reduceIte, ua]
    split
    · next z =>
      have z1 : w' = w := by omega
      have z2 : e = i + 1 := by omega
      subst z1 z2
      rw [if_pos (by omega)]
    · next z =>
      rw [h1 w' e h2 h3]
      by_cases z1 : w' < w ∨ (w' = w ∧ e ≤ i)
      · rw [if_pos z1, if_pos (by omega)]
      · rw [if_neg z1, if_neg (by omega)]
theorem C_draw2 (h : FxC σ) (hv8 : v ≤ 8) : ∀ (n w : Nat) (τ : Hp) (l : Value), w + n = 8 → Qc σ τ → (∀ w' e, w' < 8 → e < 29 → hI τ 22 (29 * w' + e) = if w' < w then nI (bef H v w' e) else nI (cB (q1 H w' e) (28 * v))) → Ev (den (d, 1, 54, [.ref 21, .ref 1, .int (nI w), l], [], τ)) (fun a υ => a = none ∧ Qc σ υ ∧ Cal υ v H) := by
  intro n
  induction n with
  | zero =>
    intro w τ l hi hq h1
    obtain rfl : w = 8 := by omega
    rw [a1_54]
    simp (disch := first | omega | (repeat (first | assumption | exact Ag_r | refine Ag_I ?_ rfl | refine Ag_F ?_ rfl | refine Ag_J ?_ rfl))) only [A1, CO, HA, HB, HC, Nat.not_lt_zero, Nat.add_assoc, c_nlt, c_nle, c_neq, c_P, c_cl, c_m1, c_m1', nI_add, pk_mul, reduceIte, Nat.reduceEqDiff, Nat.reduceAdd, Nat.reduceMul, Nat.reduceLeDiff, eq_self, ↓pk_rem, pk_div, c_of, d_le, d_nle, d_lt, d_nlt, d_eq, d_ne]
    refine Ev_s ⟨rfl, hq, fun u e hu he => ?_⟩
    rw [h1 u e hu (by omega), if_pos hu]
  | succ n ih =>
    intro w τ l hi hq h1
    have h' := Qc_C hq h
    rw [a1_54]
    simp (disch := first | omega | (repeat (first | assumption | exact Ag_r | refine Ag_I ?_ rfl | refine Ag_F ?_ rfl | refine Ag_J ?_ rfl))) only [A1, CO, HA, HB, HC, Nat.not_lt_zero, Nat.add_assoc, c_nlt, c_nle, c_neq, c_P, c_cl, c_m1, c_m1', nI_add, pk_mul, reduceIte, Nat.reduceEqDiff, Nat.reduceAdd, Nat.reduceMul, Nat.reduceLeDiff, eq_self, ↓pk_rem, pk_div, c_of, d_le, d_nle, d_lt, d_nlt, d_eq, d_ne]
    obtain ⟨υ, l2, e, hq2, h2⟩ := C_draw3 (d := d) (H := H) h (show w < 8 by omega) hv8 28 0 τ rfl hq (by
      intro w' e h2 h3
      rw [h1 w' e h2 h3]
      by_cases z : w' < w
      · rw [if_pos z, if_pos (Or.inl z)]
      · by_cases z2 : w' = w ∧ e ≤ 0
        · obtain ⟨rfl, z3⟩ := z2
          obtain rfl : e = 0 := by omega
          rw [if_neg z, if_pos (by omega), bef_0]
          have : ∀ n, cB (q1 H w' 0) n = 0 := by
            intro n
            induction n with
            | zero => rfl
            | succ n ih => simp [cB, ih, q1]
          rw [this]
        · rw [if_neg z, if_neg (by omega)])
    rw [e]
    exact ih (w + 1) υ l2 (by omega) hq2 h2
theorem C_drawUp (h : FxC σ) (hs : StC σ v H) (hw : Wf v H) {τ : Hp} (hq : Qc σ τ) : Ev (den (d + 1, 1, 0, [.ref 21, .ref 1, .float 0, .float 0], [], τ)) (fun a υ => a = none ∧ Qc σ υ ∧ Cal υ v H) := by
  have h' := Qc_C hq h
  have k22 : kd τ 22 = 100 ∧ hL τ 22 = 232 := by have z := FC h'; simp only [z, and_self]
  simp (disch := first | omega | (repeat (first | assumption | exact Ag_r | refine Ag_I ?_ rfl | refine Ag_F ?_ rfl | refine Ag_J ?_ rfl))) only [A1, FC h', J_fill τ k22.1 k22.2 (by omega), CO, HA, HB, HC, Nat.not_lt_zero, Nat.add_assoc, c_nlt, c_nle, c_neq, c_P, c_cl, c_m1, c_m1', nI_add, pk_mul, reduceIte, Nat.reduceEqDiff, Nat.reduceAdd, Nat.reduceMul, Nat.reduceLeDiff, eq_self, ↓pk_rem, pk_div, c_of, d_le, d_nle, d_lt, d_nlt, d_eq, d_ne]
  obtain ⟨υ, l, e, hq2, h2⟩ := C_draw1 (d := d + 1) h hs hw (28 * v) 0 (sI τ 22 (fil (hI τ 22) (nI 0) 232)) (by omega) (by repeat (first | assumption | exact Ag_r | refine Ag_I ?_ rfl | refine Ag_F ?_ rfl | refine Ag_J ?_ rfl)) (by
    intro w e hw8 he
    simp only [HA, reduceIte]
    unfold fil
    rw [if_pos (by omega)]; rfl)
  rw [e]
  refine C_draw2 h hw.2.1 8 0 υ l rfl hq2 (fun w' e h3 h4 => ?_)
  rw [if_neg (by omega)]
  exact h2 w' e h3 h4
theorem C_before (h : FxC σ) (hv8 : v ≤ 8) {u e : Nat} (hu : u < 8) (he : e ≤ 28) {τ : Hp} (hq : Qc σ τ) (hc : Cal τ v H) : den (d, 2, 0, [.ref 21, .int (nI u), .int (nI e)], [], τ) = some (some (.int (nI (bef H v u e))), τ) := by
  have h' := Qc_C hq h
  simp (disch := first | omega | (repeat (first | assumption | exact Ag_r | refine Ag_I ?_ rfl | refine Ag_F ?_ rfl | refine Ag_J ?_ rfl))) only [A2, FC h', Nat.mul_comm u 29, hc u e hu he, CO, HA, HB, HC, Nat.not_lt_zero, Nat.add_assoc, c_nlt, c_nle, c_neq, c_P, c_cl, c_m1, c_m1', nI_add, pk_mul, reduceIte, Nat.reduceEqDiff, Nat.reduceAdd, Nat.reduceMul, Nat.reduceLeDiff, eq_self, ↓pk_rem, pk_div, c_of, d_le, d_nle, d_lt, d_nlt, d_eq, d_ne]
theorem C_times (h : FxC σ) (hv8 : v ≤ 8) {u e : Nat} (hu : u < 8) (he : e < 28) {τ : Hp} (hq : Qc σ τ) (hc : Cal τ v H) : den (d + 1, 3, 0, [.ref 21, .int (nI u), .int (nI e)], [], τ) = some (some (.int (nI (tm H v u e))), τ) := by
  have h' := Qc_C hq h
  have e1 := bef_s H u e v
  simp (disch := first | omega | (repeat (first | assumption | exact Ag_r | refine Ag_I ?_ rfl | refine Ag_F ?_ rfl | refine Ag_J ?_ rfl))) only [A3, FC h', C_before h hv8 hu he hq hc, C_before h hv8 hu (Nat.le_of_lt he) hq hc, pk_sub, e1, Nat.add_sub_cancel_left, CO, HA, HB, HC, Nat.not_lt_zero, Nat.add_assoc, c_nlt, c_nle, c_neq, c_P, c_cl, c_m1, c_m1', nI_add, pk_mul, reduceIte, Nat.reduceEqDiff, Nat.reduceAdd, Nat.reduceMul, Nat.reduceLeDiff, eq_self, ↓pk_rem, pk_div, c_of, d_le, d_nle, d_lt, d_nlt, d_eq, d_ne]
theorem C_total (h : FxC σ) (hv8 : v ≤ 8) {u : Nat} (hu : u < 8) {τ : Hp} (hq : Qc σ τ) (hc : Cal τ v H) : den (d + 1, 4, 0, [.ref 21, .int (nI u)], [], τ) = some (some (.int (nI (hd H v u))), τ) := by
  have h' := Qc_C hq h
  simp (disch := first | omega | (repeat (first | assumption | exact Ag_r | refine Ag_I ?_ rfl | refine Ag_F ?_ rfl | refine Ag_J ?_ rfl))) only [A4, FC h', C_before h hv8 hu (Nat.le_refl 28) hq hc, bef_28, CO, HA, HB, HC, Nat.not_lt_zero, Nat.add_assoc, c_nlt, c_nle, c_neq, c_P, c_cl, c_m1, c_m1', nI_add, pk_mul, reduceIte, Nat.reduceEqDiff, Nat.reduceAdd, Nat.reduceMul, Nat.reduceLeDiff, eq_self, ↓pk_rem, pk_div, c_of, d_le, d_nle, d_lt, d_nlt, d_eq, d_ne]
theorem C_dayAt (h : FxC σ) (hv8 : v ≤ 8) {u e k : Nat} (hu : u < 8) (he : e < 28) (h1 : bef H v u e ≤ k) (h2 : k < bef H v u (e + 1)) {τ : Hp} (hq : Qc σ τ) (hc : Cal τ v H) : den (d + 1, 5, 0, [.ref 21, .int (nI u), .int (nI k), .float 0], [], τ) = some (some (.int (nI e)), τ) := by
  have h' := Qc_C hq h
  have b1 := bef_le H u (show e + 1 ≤ 28 by omega) v
  have go : ∀ (n i : Nat), i + n = e → den (d + 1, 5, 2, [.ref 21, .int (nI u), .int (nI k), .int (nI i)], [], τ) = some (some (.int (nI e)), τ) := by
    intro n
    induction n with
    | zero =>
      intro i hi
      obtain rfl : i = e := by omega
      rw [a5_2]
      by_cases z : i < 27
      · simp (disch := first | omega | (repeat (first | assumption | exact Ag_r | refine Ag_I ?_ rfl | refine Ag_F ?_ rfl | refine Ag_J ?_ rfl))) only [A5, FC h', C_before h hv8 hu (show i + 1 ≤ 28 by omega) hq hc, CO, HA, HB, HC, Nat.not_lt_zero, Nat.add_assoc, c_nlt, c_nle, c_neq, c_P, c_cl, c_m1, c_m1', nI_add, pk_mul, reduceIte, Nat.reduceEqDiff, Nat.reduceAdd, Nat.reduceMul, Nat.reduceLeDiff, eq_self, ↓pk_rem, pk_div, c_of, d_le, d_nle, d_lt, d_nlt, d_eq, d_ne]
      · simp (disch := first | omega | (repeat (first | assumption | exact Ag_r | refine Ag_I ?_ rfl | refine Ag_F ?_ rfl | refine Ag_J ?_ rfl))) only [A5, FC h', CO, HA, HB, HC, Nat.not_lt_zero, Nat.add_assoc, c_nlt, c_nle, c_neq, c_P, c_cl, c_m1, c_m1', nI_add, pk_mul, reduceIte, Nat.reduceEqDiff, Nat.reduceAdd, Nat.reduceMul, Nat.reduceLeDiff, eq_self, ↓pk_rem, pk_div, c_of, d_le, d_nle, d_lt, d_nlt, d_eq, d_ne]
    | succ n ih =>
      intro i hi
      have b2 := bef_mono H v u (show i + 1 ≤ e by omega)
      rw [a5_2]
      simp (disch := first | omega | (repeat (first | assumption | exact Ag_r | refine Ag_I ?_ rfl | refine Ag_F ?_ rfl | refine Ag_J ?_ rfl))) only [A5, FC h', C_before h hv8 hu (show i + 1 ≤ 28 by omega) hq hc, CO, HA, HB, HC, Nat.not_lt_zero, Nat.add_assoc, c_nlt, c_nle, c_neq, c_P, c_cl, c_m1, c_m1', nI_add, pk_mul, reduceIte, Nat.reduceEqDiff, Nat.reduceAdd, Nat.reduceMul, Nat.reduceLeDiff, eq_self, ↓pk_rem, pk_div, c_of, d_le, d_nle, d_lt, d_nlt, d_eq, d_ne]
      exact ih (i + 1) (by omega)
  simp (disch := first | omega | (repeat (first | assumption | exact Ag_r | refine Ag_I ?_ rfl | refine Ag_F ?_ rfl | refine Ag_J ?_ rfl))) only [A5, CO, HA, HB, HC, Nat.not_lt_zero, Nat.add_assoc, c_nlt, c_nle, c_neq, c_P, c_cl, c_m1, c_m1', nI_add, pk_mul, reduceIte, Nat.reduceEqDiff, Nat.reduceAdd, Nat.reduceMul, Nat.reduceLeDiff, eq_self, ↓pk_rem, pk_div, c_of, d_le, d_nle, d_lt, d_nlt, d_eq, d_ne]
  exact go e 0 (by omega)
theorem C_ownerAt (h : FxC σ) (hs : StC σ v H) (hw : Wf v H) {u e o k : Nat} (hu : u < 8) (he : e < 28) (ho : o < v) (h1 : H (28 * o + e) = u) (h2 : cB (fun o' => decide (H (28 * o' + e) = u)) o = k) {τ : Hp} (hq : Qc σ τ) : den (d, 77, 0, [.ref 1, .int (nI u), .int (nI e), .int (nI k), .float 0, .float 0], [], τ) = some (some (.int (nI o)), τ) := by
  have h' := Qc_C hq h
  have e1 := Ag_f hq 1 0 rfl
  have e2 := Ag_i hq 2 rfl
  have hv8 := hw.2.1
  have go : ∀ (n i : Nat), i + n = o → den (d, 77, 6, [.ref 1, .int (nI u), .int (nI e), .int (nI k), .int (nI (cB (fun o' => decide (H (28 * o' + e) = u)) i)), .int (nI i)], [], τ) = some (some (.int (nI o)), τ) := by
    intro n
    induction n with
    | zero =>
      intro i hi
      obtain rfl : i = o := by omega
      have e3 := hs.2 (28 * i + e) (by omega)
      rw [a77_6, h2]
      simp (disch := first | omega | (repeat (first | assumption | exact Ag_r | refine Ag_I ?_ rfl | refine Ag_F ?_ rfl | refine Ag_J ?_ rfl))) only [A77, FC h', e1, e2, hs.1, Nat.mul_comm i 28, e3, h1, CO, HA, HB, HC, Nat.not_lt_zero, Nat.add_assoc, c_nlt, c_nle, c_neq, c_P, c_cl, c_m1, c_m1', nI_add, pk_mul, reduceIte, Nat.reduceEqDiff, Nat.reduceAdd, Nat.reduceMul, Nat.reduceLeDiff, eq_self, ↓pk_rem, pk_div, c_of, d_le, d_nle, d_lt, d_nlt, d_eq, d_ne]
    | succ n ih =>
      intro i hi
      have e3 := hs.2 (28 * i + e) (by omega)
      have e4 := Wf_8 hw (c := 28 * i + e) (by omega)
      have e5 := ih (i + 1) (by omega)
      have e6 := cB_le (fun o' => decide (H (28 * o' + e) = u)) i
      have e7 := cB_le (fun o' => decide (H (28 * o' + e) = u)) o
      have e8 := cB_mono (fun o' => decide (H (28 * o' + e) = u)) (show i + 1 ≤ o by omega)
      rw [a77_6]
      by_cases z : H (28 * i + e) = u
      · rw [cB_y (by simp [z])] at e5 e8
        simp (disch := first | omega | (repeat (first | assumption | exact Ag_r | refine Ag_I ?_ rfl | refine Ag_F ?_ rfl | refine Ag_J ?_ rfl))) only [A77, FC h', e1, e2, hs.1, Nat.mul_comm i 28, e3, z, CO, HA, HB, HC, Nat.not_lt_zero, Nat.add_assoc, c_nlt, c_nle, c_neq, c_P, c_cl, c_m1, c_m1', nI_add, pk_mul, reduceIte, Nat.reduceEqDiff, Nat.reduceAdd, Nat.reduceMul, Nat.reduceLeDiff, eq_self, ↓pk_rem, pk_div, c_of, d_le, d_nle, d_lt, d_nlt, d_eq, d_ne]
        exact e5
      · rw [cB_n (by simp [z])] at e5
        simp (disch := first | omega | (repeat (first | assumption | exact Ag_r | refine Ag_I ?_ rfl | refine Ag_F ?_ rfl | refine Ag_J ?_ rfl))) only [A77, FC h', e1, e2, hs.1, Nat.mul_comm i 28, e3, z, CO, HA, HB, HC, Nat.not_lt_zero, Nat.add_assoc, c_nlt, c_nle, c_neq, c_P, c_cl, c_m1, c_m1', nI_add, pk_mul, reduceIte, Nat.reduceEqDiff, Nat.reduceAdd, Nat.reduceMul, Nat.reduceLeDiff, eq_self, ↓pk_rem, pk_div, c_of, d_le, d_nle, d_lt, d_nlt, d_eq, d_ne]
        exact e5
  simp (disch := first | omega | (repeat (first | assumption | exact Ag_r | refine Ag_I ?_ rfl | refine Ag_F ?_ rfl | refine Ag_J ?_ rfl))) only [A77, CO, HA, HB, HC, Nat.not_lt_zero, Nat.add_assoc, c_nlt, c_nle, c_neq, c_P, c_cl, c_m1, c_m1', nI_add, pk_mul, reduceIte, Nat.reduceEqDiff, Nat.reduceAdd, Nat.reduceMul, Nat.reduceLeDiff, eq_self, ↓pk_rem, pk_div, c_of, d_le, d_nle, d_lt, d_nlt, d_eq, d_ne]
  exact go o 0 (by omega)
/-- how many of o's days are away -/
def aw (H : Nat → Nat) (o : Nat) : Nat := cB (fun e => decide (¬ H (28 * o + e) = o)) 28
theorem C_awayOf {o q : Nat} (ho : o < 8) {τ : Hp} (hk : kd τ q = 100) (hl : hL τ q = 224) (hH : ∀ c, c < 224 → hI τ q c = nI (H c) ∧ H c < 8) : den (d, 127, 0, [.ref q, .int (nI o), .float 0, .float 0], [], τ) = some (some (.int (nI (aw H o))), τ) := by
  have go : ∀ (n i : Nat), i + n = 28 → den (d, 127, 4, [.ref q, .int (nI o), .int (nI (cB (fun e => decide (¬ H (28 * o + e) = o)) i)), .int (nI i)], [], τ) = some (some (.int (nI (aw H o))), τ) := by
    intro n
    induction n with
    | zero =>
      intro i hi
      obtain rfl : i = 28 := by omega
      rw [a127_4]
      simp (disch := first | omega | (repeat (first | assumption | exact Ag_r | refine Ag_I ?_ rfl | refine Ag_F ?_ rfl | refine Ag_J ?_ rfl))) only [A127, CO, HA, HB, HC, Nat.not_lt_zero, Nat.add_assoc, c_nlt, c_nle, c_neq, c_P, c_cl, c_m1, c_m1', nI_add, pk_mul, reduceIte, Nat.reduceEqDiff, Nat.reduceAdd, Nat.reduceMul, Nat.reduceLeDiff, eq_self, ↓pk_rem, pk_div, c_of, d_le, d_nle, d_lt, d_nlt, d_eq, d_ne]
      rfl
    | succ n ih =>
      intro i hi
      obtain ⟨e3, e4⟩ := hH (28 * o + i) (by omega)
      have e5 := ih (i + 1) (by omega)
      rw [a127_4]
      by_cases z : H (28 * o + i) = o
      · rw [cB_n (by simp [z])] at e5
        simp (disch := first | omega | (repeat (first | assumption | exact Ag_r | refine Ag_I ?_ rfl | refine Ag_F ?_ rfl | refine Ag_J ?_ rfl))) only [A127, hk, hl, Nat.mul_comm o 28, e3, z, CO, HA, HB, HC, Nat.not_lt_zero, Nat.add_assoc, c_nlt, c_nle, c_neq, c_P, c_cl, c_m1, c_m1', nI_add, pk_mul, reduceIte, Nat.reduceEqDiff, Nat.reduceAdd, Nat.reduceMul, Nat.reduceLeDiff, eq_self, ↓pk_rem, pk_div, c_of, d_le, d_nle, d_lt, d_nlt, d_eq, d_ne]
        exact e5
      · rw [cB_y (by simp [z])] at e5
        simp (disch := first | omega | (repeat (first | assumption | exact Ag_r | refine Ag_I ?_ rfl | refine Ag_F ?_ rfl | refine Ag_J ?_ rfl))) only [A127, hk, hl, Nat.mul_comm o 28, e3, z, CO, HA, HB, HC, Nat.not_lt_zero, Nat.add_assoc, c_nlt, c_nle, c_neq, c_P, c_cl, c_m1, c_m1', nI_add, pk_mul, reduceIte, Nat.reduceEqDiff, Nat.reduceAdd, Nat.reduceMul, Nat.reduceLeDiff, eq_self, ↓pk_rem, pk_div, c_of, d_le, d_nle, d_lt, d_nlt, d_eq, d_ne]
        exact e5
  simp (disch := first | omega | (repeat (first | assumption | exact Ag_r | refine Ag_I ?_ rfl | refine Ag_F ?_ rfl | refine Ag_J ?_ rfl))) only [A127, CO, HA, HB, HC, Nat.not_lt_zero, Nat.add_assoc, c_nlt, c_nle, c_neq, c_P, c_cl, c_m1, c_m1', nI_add, pk_mul, reduceIte, Nat.reduceEqDiff, Nat.reduceAdd, Nat.reduceMul, Nat.reduceLeDiff, eq_self, ↓pk_rem, pk_div, c_of, d_le, d_nle, d_lt, d_nlt, d_eq, d_ne]
  exact go 28 0 (by omega)
/-- how many copies of the villages' are away -/
def awa (H : Nat → Nat) (v : Nat) : Nat := cB (fun c => decide (¬ H c = c / 28)) (28 * v)
theorem awa_s (H : Nat → Nat) (v : Nat) : awa H (v + 1) = awa H v + aw H v := by
  unfold awa aw
  rw [Nat.mul_add, Nat.mul_one, cB_add]
  congr 1
  refine cB_ext (fun i hi => ?_)
  rw [show (28 * v + i) / 28 = v by omega]
theorem C_away (h : FxC σ) (hs : StC σ v H) (hw : Wf v H) : den (d + 1, 102, 0, [.ref 0, .float 0, .float 0], [], σ) = some (some (.int (nI (awa H v))), σ) := by
  have k2 : kd σ 2 = 100 ∧ hL σ 2 = 224 := by have z := FC h; simp only [z, and_self]
  have hv8 := hw.2.1
  have go : ∀ (n i : Nat), i + n = v → den (d + 1, 102, 4, [.ref 0, .int (nI (awa H i)), .int (nI i)], [], σ) = some (some (.int (nI (awa H v))), σ) := by
    intro n
    induction n with
    | zero =>
      intro i hi
      obtain rfl : i = v := by omega
      rw [a102_4]
      simp (disch := first | omega | (repeat (first | assumption | exact Ag_r | refine Ag_I ?_ rfl | refine Ag_F ?_ rfl | refine Ag_J ?_ rfl))) only [A102, FC h, hs.1, CO, HA, HB, HC, Nat.not_lt_zero, Nat.add_assoc, c_nlt, c_nle, c_neq, c_P, c_cl, c_m1, c_m1', nI_add, pk_mul, reduceIte, Nat.reduceEqDiff, Nat.reduceAdd, Nat.reduceMul, Nat.reduceLeDiff, eq_self, ↓pk_rem, pk_div, c_of, d_le, d_nle, d_lt, d_nlt, d_eq, d_ne]
    | succ n ih =>
      intro i hi
      have e5 := ih (i + 1) (by omega)
      rw [awa_s] at e5
      rw [a102_4]
      simp (disch := first | omega | (repeat (first | assumption | exact Ag_r | refine Ag_I ?_ rfl | refine Ag_F ?_ rfl | refine Ag_J ?_ rfl))) only [A102, FC h, hs.1, C_awayOf (H := H) (show i < 8 by omega) k2.1 k2.2 (fun c hc => ⟨hs.2 c hc, Wf_8 hw hc⟩), CO, HA, HB, HC, Nat.not_lt_zero, Nat.add_assoc, c_nlt, c_nle, c_neq, c_P, c_cl, c_m1, c_m1', nI_add, pk_mul, reduceIte, Nat.reduceEqDiff, Nat.reduceAdd, Nat.reduceMul, Nat.reduceLeDiff, eq_self, ↓pk_rem, pk_div, c_of, d_le, d_nle, d_lt, d_nlt, d_eq, d_ne]
      exact e5
  simp (disch := first | omega | (repeat (first | assumption | exact Ag_r | refine Ag_I ?_ rfl | refine Ag_F ?_ rfl | refine Ag_J ?_ rfl))) only [A102, CO, HA, HB, HC, Nat.not_lt_zero, Nat.add_assoc, c_nlt, c_nle, c_neq, c_P, c_cl, c_m1, c_m1', nI_add, pk_mul, reduceIte, Nat.reduceEqDiff, Nat.reduceAdd, Nat.reduceMul, Nat.reduceLeDiff, eq_self, ↓pk_rem, pk_div, c_of, d_le, d_nle, d_lt, d_nlt, d_eq, d_ne]
  exact go v 0 (by omega)
theorem M_away (h : FxM σ) (hs : StM σ v H) (hw : Wf v H) : den (d + 2, 198, 0, [.ref 57, .float 0, .float 0], [], σ) = some (some (.int (nI (awa H v))), sF σ 57 0 (.int (nI 0))) := by
  have hv8 := hw.2.1
  have hq : Qm σ (sF σ 57 0 (.int (nI 0))) := Ag_F Ag_r rfl
  have h' := Qm_M hq h
  have go : ∀ (n i : Nat), i + n = 28 * v → den (d + 2, 198, 9, [.ref 57, .int (nI (cB (fun c => decide (¬ H c = c / 28)) i)), .int (nI i)], [], sF σ 57 0 (.int (nI 0))) = some (some (.int (nI (awa H v))), sF σ 57 0 (.int (nI 0))) := by
    intro n
    induction n with
    | zero =>
      intro i hi
      obtain rfl : i = 28 * v := by omega
      rw [a198_9]
      simp (disch := first | omega | (repeat (first | assumption | exact Ag_r | refine Ag_I ?_ rfl | refine Ag_F ?_ rfl | refine Ag_J ?_ rfl))) only [A198, FM h', M_copies h hs.1 hv8 hq, CO, HA, HB, HC, Nat.not_lt_zero, Nat.add_assoc, c_nlt, c_nle, c_neq, c_P, c_cl, c_m1, c_m1', nI_add, pk_mul, reduceIte, Nat.reduceEqDiff, Nat.reduceAdd, Nat.reduceMul, Nat.reduceLeDiff, eq_self, ↓pk_rem, pk_div, c_of, d_le, d_nle, d_lt, d_nlt, d_eq, d_ne]
      rfl
    | succ n ih =>
      intro i hi
      have e3 := hs.2 i (by omega)
      have e4 := Wf_8 hw (c := i) (by omega)
      have e5 := ih (i + 1) (by omega)
      rw [a198_9]
      by_cases z : H i = i / 28
      · rw [cB_n (by simp [z])] at e5
        simp (disch := first | omega | (repeat (first | assumption | exact Ag_r | refine Ag_I ?_ rfl | refine Ag_F ?_ rfl | refine Ag_J ?_ rfl))) only [A198, FM h, M_copies h hs.1 hv8 hq, e3, z, Nat.add_zero, CO, HA, HB, HC, Nat.not_lt_zero, Nat.add_assoc, c_nlt, c_nle, c_neq, c_P, c_cl, c_m1, c_m1', nI_add, pk_mul, reduceIte, Nat.reduceEqDiff, Nat.reduceAdd, Nat.reduceMul, Nat.reduceLeDiff, eq_self, ↓pk_rem, pk_div, c_of, d_le, d_nle, d_lt, d_nlt, d_eq, d_ne]
        exact e5
      · rw [cB_y (by simp [z])] at e5
        simp (disch := first | omega | (repeat (first | assumption | exact Ag_r | refine Ag_I ?_ rfl | refine Ag_F ?_ rfl | refine Ag_J ?_ rfl))) only [A198, FM h, M_copies h hs.1 hv8 hq, e3, z, CO, HA, HB, HC, Nat.not_lt_zero, Nat.add_assoc, c_nlt, c_nle, c_neq, c_P, c_cl, c_m1, c_m1', nI_add, pk_mul, reduceIte, Nat.reduceEqDiff, Nat.reduceAdd, Nat.reduceMul, Nat.reduceLeDiff, eq_self, ↓pk_rem, pk_div, c_of, d_le, d_nle, d_lt, d_nlt, d_eq, d_ne]
        exact e5
  simp (disch := first | omega | (repeat (first | assumption | exact Ag_r | refine Ag_I ?_ rfl | refine Ag_F ?_ rfl | refine Ag_J ?_ rfl))) only [A198, FM h, CO, HA, HB, HC, Nat.not_lt_zero, Nat.add_assoc, c_nlt, c_nle, c_neq, c_P, c_cl, c_m1, c_m1', nI_add, pk_mul, reduceIte, Nat.reduceEqDiff, Nat.reduceAdd, Nat.reduceMul, Nat.reduceLeDiff, eq_self, ↓pk_rem, pk_div, c_of, d_le, d_nle, d_lt, d_nlt, d_eq, d_ne]
  exact go (28 * v) 0 (by omega)
theorem M_row2 (h : FxM σ) (hv : hI σ 59 0 = nI v) (hv8 : v ≤ 8) (hH : ∀ c, c < 224 → H c < 8) {u e : Nat} (hu : u < 8) (he : e < 28) : ∀ (n o : Nat) (τ : Hp), o + n = v → Qm σ τ → (∀ c, c < 224 → hI τ 72 c = nI (H c)) → hF τ 57 36 = .int (nI (rk H v u e o)) → (∀ e' o', e' < 28 → o' < v → (e' < e ∨ (e' = e ∧ o' < o)) → H (28 * o' + e') = u → hI τ 74 (rk H v u e' o') = nI (28 * o' + e')) → ∃ υ, den (d + 1, 189, 15, [.ref 57, .int (nI u), .int (nI e), .int (nI o)], [], τ) = den (d + 1, 189, 7, [.ref 57, .int (nI u), .int (nI (e + 1)), .int (nI v)], [], υ) ∧ Qm σ υ ∧ (hI υ 72 = hI τ 72 ∧ hI υ 73 = hI τ 73) ∧ hF υ 57 36 = .int (nI (bef H v u (e + 1))) ∧ (∀ e' o', e' < 28 → o' < v → (e' < e + 1) → H (28 * o' + e') = u → hI υ 74 (rk H v u e' o') = nI (28 * o' + e')) := by
  intro n
  induction n with
  | zero =>
    intro o τ hi hq h72 h1 h2
    obtain rfl : o = v := by omega
    have h' := Qm_M hq h
    refine ⟨τ, ?_, hq, ⟨rfl, rfl⟩, ?_, ?_⟩
    · rw [a189_15]
      simp (disch := first | omega | (repeat (first | assumption | exact Ag_r | refine Ag_I ?_ rfl | refine Ag_F ?_ rfl | refine Ag_J ?_ rfl))) only [A189, FM h', M_villages' h hq, hv, CO, HA, HB, HC, Nat.not_lt_zero, Nat.add_assoc, c_nlt, c_nle, c_neq, c_P, c_cl, c_m1, c_m1', nI_add, pk_mul, reduceIte, Nat.reduceEqDiff, Nat.reduceAdd, Nat.reduceMul, Nat.reduceLeDiff, eq_self, ↓pk_rem, pk_div, c_of, d_le, d_nle, d_lt, d_nlt, d_eq, d_ne]
    · rw [h1, bef_s]; rfl
    · intro e' o' h3 h4 h5 h6
      exact h2 e' o' h3 h4 (by omega) h6
  | succ n ih =>
    intro o τ hi hq h72 h1 h2
    have h' := Qm_M hq h
    have e3 := h72 (28 * o + e) (by omega)
    have e4 := hH (28 * o + e) (by omega)
    rw [a189_15]
    by_cases z : H (28 * o + e) = u
    · have e5 := rk_hd he (show o < v by omega) z
      have e6 := hd_le H u hv8
      have e7 : rk H v u e (o + 1) = rk H v u e o + 1 := by unfold rk; rw [cB_y (by simp [z]), Nat.add_assoc]
      simp (disch := first | omega | (repeat (first | assumption | exact Ag_r | refine Ag_I ?_ rfl | refine Ag_F ?_ rfl | refine Ag_J ?_ rfl))) only [A189, FM h', M_villages' h hq, hv, e3, z, h1, CO, HA, HB, HC, Nat.not_lt_zero, Nat.add_assoc, c_nlt, c_nle, c_neq, c_P, c_cl, c_m1, c_m1', nI_add, pk_mul, reduceIte, Nat.reduceEqDiff, Nat.reduceAdd, Nat.reduceMul, Nat.reduceLeDiff, eq_self, ↓pk_rem, pk_div, c_of, d_le, d_nle, d_lt, d_nlt, d_eq, d_ne]
      obtain ⟨υ, g1, g2, g3, g4⟩ := ih (o + 1) (sF (sI τ 74 (upd (hI τ 74) (rk H v u e o) (nI (28 * o + e)))) 57 36 (.int (nI (rk H v u e o + 1)))) (by omega) (by repeat (first | assumption | exact Ag_r | refine Ag_I ?_ rfl | refine Ag_F ?_ rfl | refine Ag_J ?_ rfl)) (by simpa only [HA, Nat.reduceEqDiff, reduceIte] using h72) (by simp only [HA, and_self, reduceIte, e7]) (by
        intro e' o' h3 h4 h5 h6
        simp only [HA, reduceIte, ua]
        by_cases y : e' = e ∧ o' = o
        · obtain ⟨rfl, rfl⟩ := y
          rw [if_pos rfl]
        · have := rk_less (v := v) h3 h4 h6 (show e' < e ∨ (e' = e ∧ o' < o) by omega)
          rw [if_neg (by omega)]
          exact h2 e' o' h3 h4 (by omega) h6)
      refine ⟨υ, g1, g2, ?_, g4⟩
      simpa only [HA, Nat.reduceEqDiff, reduceIte] using g3
    · have e7 : rk H v u e (o + 1) = rk H v u e o := by unfold rk; rw [cB_n (by simp [z])]
      simp (disch := first | omega | (repeat (first | assumption | exact Ag_r | refine Ag_I ?_ rfl | refine Ag_F ?_ rfl | refine Ag_J ?_ rfl))) only [A189, FM h', M_villages' h hq, hv, e3, z, h1, CO, HA, HB, HC, Nat.not_lt_zero, Nat.add_assoc, c_nlt, c_nle, c_neq, c_P, c_cl, c_m1, c_m1', nI_add, pk_mul, reduceIte, Nat.reduceEqDiff, Nat.reduceAdd, Nat.reduceMul, Nat.reduceLeDiff, eq_self, ↓pk_rem, pk_div, c_of, d_le, d_nle, d_lt, d_nlt, d_eq, d_ne]
      exact ih (o + 1) τ (by omega) hq h72 (by rw [h1, e7]) (fun e' o' h3 h4 h5 h6 => h2 e' o' h3 h4 (by
        by_cases y : e' = e ∧ o' = o
        · obtain ⟨rfl, rfl⟩ := y; exact absurd h6 z
        · omega) h6)
theorem M_row1 (h : FxM σ) (hv : hI σ 59 0 = nI v) (hv8 : v ≤ 8) (hH : ∀ c, c < 224 → H c < 8) {u : Nat} (hu : u < 8) : ∀ (n e : Nat) (τ : Hp) (l : Value), e + n = 28 → Qm σ τ → (∀ c, c < 224 → hI τ 72 c = nI (H c)) → hF τ 57 36 = .int (nI (bef H v u e)) → (∀ e' o', e' < 28 → o' < v → e' < e → H (28 * o' + e') = u → hI τ 74 (rk H v u e' o') = nI (28 * o' + e')) → Ev (den (d + 1, 189, 7, [.ref 57, .int (nI u), .int (nI e), l], [], τ)) (fun a υ => a = none ∧ Qm σ υ ∧ (hI υ 72 = hI τ 72 ∧ hI υ 73 = hI τ 73) ∧ Dw υ v H u) := by
  intro n
  induction n with
  | zero =>
    intro e τ l hi hq h72 h1 h2
    obtain rfl : e = 28 := by omega
    rw [a189_7]
    simp (disch := first | omega | (repeat (first | assumption | exact Ag_r | refine Ag_I ?_ rfl | refine Ag_F ?_ rfl | refine Ag_J ?_ rfl))) only [A189, CO, HA, HB, HC, Nat.not_lt_zero, Nat.add_assoc, c_nlt, c_nle, c_neq, c_P, c_cl, c_m1, c_m1', nI_add, pk_mul, reduceIte, Nat.reduceEqDiff, Nat.reduceAdd, Nat.reduceMul, Nat.reduceLeDiff, eq_self, ↓pk_rem, pk_div, c_of, d_le, d_nle, d_lt, d_nlt, d_eq, d_ne]
    refine Ev_s ⟨rfl, hq, ⟨rfl, rfl⟩, by rw [h1, bef_28], fun e o h3 h4 h5 => h2 e o h3 h4 h3 h5⟩
  | succ n ih =>
    intro e τ l hi hq h72 h1 h2
    rw [a189_7]
    simp (disch := first | omega | (repeat (first | assumption | exact Ag_r | refine Ag_I ?_ rfl | refine Ag_F ?_ rfl | refine Ag_J ?_ rfl))) only [A189, CO, HA, HB, HC, Nat.not_lt_zero, Nat.add_assoc, c_nlt, c_nle, c_neq, c_P, c_cl, c_m1, c_m1', nI_add, pk_mul, reduceIte, Nat.reduceEqDiff, Nat.reduceAdd, Nat.reduceMul, Nat.reduceLeDiff, eq_self, ↓pk_rem, pk_div, c_of, d_le, d_nle, d_lt, d_nlt, d_eq, d_ne]
    obtain ⟨υ, g1, g2, g3, g4, g5⟩ := M_row2 (d := d) h hv hv8 hH hu (show e < 28 by omega) v 0 τ (by omega) hq h72 (by rw [h1]; rfl) (fun e' o' h3 h4 h5 h6 => h2 e' o' h3 h4 (by omega) h6)
    rw [g1]
    refine Ev_m (ih (e + 1) υ _ (by omega) g2 (fun c hc => by rw [g3.1]; exact h72 c hc) g4 g5) ?_
    intro a ω ⟨k1, k2, k3, k4⟩
    exact ⟨k1, k2, ⟨k3.1.trans g3.1, k3.2.trans g3.2⟩, k4⟩
theorem M_findRow (h : FxM σ) (hv : hI σ 59 0 = nI v) (hv8 : v ≤ 8) (hH : ∀ c, c < 224 → H c < 8) {u : Nat} (hu : u < 8) {τ : Hp} (hq : Qm σ τ) (h72 : ∀ c, c < 224 → hI τ 72 c = nI (H c)) : Ev (den (d + 1, 189, 0, [.ref 57, .int (nI u), .float 0, .float 0], [], τ)) (fun a υ => a = none ∧ Qm σ υ ∧ (hI υ 72 = hI τ 72 ∧ hI υ 73 = hI τ 73) ∧ Dw υ v H u) := by
  have h' := Qm_M hq h
  simp (disch := first | omega | (repeat (first | assumption | exact Ag_r | refine Ag_I ?_ rfl | refine Ag_F ?_ rfl | refine Ag_J ?_ rfl))) only [A189, FM h', CO, HA, HB, HC, Nat.not_lt_zero, Nat.add_assoc, c_nlt, c_nle, c_neq, c_P, c_cl, c_m1, c_m1', nI_add, pk_mul, reduceIte, Nat.reduceEqDiff, Nat.reduceAdd, Nat.reduceMul, Nat.reduceLeDiff, eq_self, ↓pk_rem, pk_div, c_of, d_le, d_nle, d_lt, d_nlt, d_eq, d_ne]
  refine Ev_m (M_row1 h hv hv8 hH hu 28 0 (sF τ 57 36 (.int (nI 0))) _ rfl (by repeat (first | assumption | exact Ag_r | refine Ag_I ?_ rfl | refine Ag_F ?_ rfl | refine Ag_J ?_ rfl)) (by simpa only [HA] using h72) (by simp only [HA, and_self, reduceIte, bef_0]) (fun e' o' h3 h4 h5 => absurd h5 (Nat.not_lt_zero _))) ?_
  intro a ω ⟨k1, k2, k3, k4⟩
  exact ⟨k1, k2, k3, k4⟩
end
