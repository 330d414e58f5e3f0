/-! bad days passed on -/
theorem bt1' : ∀ m, m < 256 → ∀ t, t < 8 → ((nI m >>> (nI t &&& 31)) &&& nI 1) = (if m.testBit t = true then nI 1 else nI 0) := by decide +kernel
theorem bt2' : ∀ m, m < 256 → ∀ t, t < 8 → (nI m ||| (nI 1 <<< (nI t &&& 31))) = nI (m ||| 2 ^ t) ∧ m ||| 2 ^ t < 256 := by decide +kernel
theorem bt3' : ∀ t, t < 8 → (nI 1 <<< (nI t &&& 31)) = nI (2 ^ t) ∧ 2 ^ t < 256 := by decide +kernel
theorem bt1 {m t : Nat} (h : m < 256) (h2 : t < 8) : ((nI m >>> (nI t &&& 31)) &&& nI 1) = (if m.testBit t = true then nI 1 else nI 0) := bt1' m h t h2
theorem bt2 {m t : Nat} (h : m < 256) (h2 : t < 8) : (nI m ||| (nI 1 <<< (nI t &&& 31))) = nI (m ||| 2 ^ t) := (bt2' m h t h2).1
theorem bt3 {t : Nat} (h2 : t < 8) : (nI 1 <<< (nI t &&& 31)) = nI (2 ^ t) := (bt3' t h2).1
/-- the first below n -/
def fnd (p : Nat → Bool) : Nat → Option Nat
  | 0 => none
  | n + 1 => match fnd p n with
    | some i => some i
    | none => if p n = true then some n else none
def ofo : Option Nat → Int32
  | none => -1
  | some i => nI i
theorem fnd_s {p : Nat → Bool} : ∀ {n i : Nat}, fnd p n = some i → i < n ∧ p i = true ∧ ∀ j, j < i → p j = false
  | 0, _, h => nomatch h
  | n + 1, i, h => by
    simp only [fnd] at h
    cases q : fnd p n with
    | some j =>
      rw [q] at h
      cases h
      obtain ⟨a, b, c⟩ := fnd_s q
      exact ⟨by omega, b, c⟩
    | none =>
      rw [q] at h
      simp only at h
      split at h
      · next e =>
        cases h
        refine ⟨by omega, e, fun j hj => ?_⟩
        exact fnd_n q j hj
      · cases h
where fnd_n {p : Nat → Bool} : ∀ {n : Nat}, fnd p n = none → ∀ j, j < n → p j = false
  | 0, _, j, hj => absurd hj (Nat.not_lt_zero j)
  | n + 1, h, j, hj => by
    simp only [fnd] at h
    cases q : fnd p n with
    | some i => rw [q] at h; cases h
    | none =>
      rw [q] at h
      simp only at h
      split at h
      · cases h
      · next e =>
        by_cases z : j = n
        · subst z; simpa using e
        · exact fnd_n q j (by omega)
theorem fnd_none {p : Nat → Bool} {n : Nat} (h : ∀ j, j < n → p j = false) : fnd p n = none := by
  cases q : fnd p n with
  | none => rfl
  | some i =>
    obtain ⟨a, b, c⟩ := fnd_s q
    rw [h i a] at b; cases b
theorem fnd_some {p : Nat → Bool} {n i : Nat} (h1 : i < n) (h2 : p i = true) (h3 : ∀ j, j < i → p j = false) : fnd p n = some i := by
  cases q : fnd p n with
  | none => rw [fnd_s.fnd_n q i h1] at h2; cases h2
  | some j =>
    obtain ⟨a, b, c⟩ := fnd_s q
    rcases Nat.lt_trichotomy i j with h | h | h
    · rw [c i h] at h2; cases h2
    · rw [h]
    · rw [h3 j h] at b; cases b
section
variable {d v : Nat} {H rn : Nat → Nat} {σ ρ τ : Hp} {T : Tl}
theorem M_isB2 (hM : FxM ρ) (rM : RnM ρ rn) (lf : LfM ρ T) {c to h p : Nat} (hc : c < 224) (ht : to < 8) (hq : Qm ρ τ) (k : hI τ 72 c = nI h) (h8 : h < 8) (k2 : hI τ 73 to = nI p) (p9 : p ≤ 900) : Ev (den (d + 6, 182, 0, [.ref 57, .int (nI c), .int (nI to), .float 0], [], τ)) (fun a υ => a = some (.int (if tb T 2 (barW rn c h to p) = true then nI 1 else nI 0)) ∧ Qs τ υ) := by
  have h' := Qm_M hq hM
  have r := rM (c % 28) (by omega)
  rw [← Ag_i hq 59 rfl] at r
  have L := lf d τ (barW rn c h to p) 2 0 (by omega) hq ⟨by refine j8 ?_ ?_ ?_ ?_ ?_ ?_ ?_ ?_ <;> refine ⟨?_, ?_⟩ <;> simp only [barW, wdf, reduceIte, Nat.reduceEqDiff] <;> omega, Or.inr ⟨c % 28, by omega, rfl, by rw [r.1]; exact (zI_n _).symm⟩, Or.inr ⟨to, ht, rfl, by rw [k2]; exact (zI_n _).symm⟩⟩
  have w0 : zI (barW rn c h to p 0) = nI (c / 28) := zI_n _
  have w1 : zI (barW rn c h to p 1) = nI h := zI_n _
  have w2 : zI (barW rn c h to p 2) = nI to := zI_n _
  have w3 : zI (barW rn c h to p 3) = nI (c % 28) := zI_n _
  have w4 : zI (barW rn c h to p 4) = nI (c % 28 % 7) := zI_n _
  have w7 : zI (barW rn c h to p 7) = -1 := rfl
  rw [w0, w1, w2, w3, w4, w7] at L
  have hm : c % 28 < 28 := Nat.mod_lt _ (by omega)
  simp (disch := first | omega | (repeat (first | assumption | exact Ag_r | refine Ag_I ?_ rfl | refine Ag_F ?_ rfl | refine Ag_J ?_ rfl))) only [A182, FM h', k, show lN 0 = zL 0 from rfl, CO, HA, HB, HC, Nat.not_lt_zero, Nat.add_assoc, c_nlt, c_nle, c_neq, c_P, c_cl, c_m1, c_m1', nI_add, pk_mul, reduceIte, Nat.reduceEqDiff, Nat.reduceAdd, Nat.reduceMul, Nat.reduceLeDiff, eq_self, ↓pk_rem, pk_div, c_of, d_le, d_nle, d_lt, d_nlt, d_eq, d_ne]
  refine Ev_b L ?_
  rintro _ υ ⟨rfl, g, hz⟩
  unfold tlM tb
  cases p : T 2 (barW rn c h to p) with
  | none =>
    simp only [Option.isSome_none, Bool.false_eq_true, reduceIte]
    simp (disch := first | omega | (repeat (first | assumption | exact Ag_r | refine Ag_I ?_ rfl | refine Ag_F ?_ rfl | refine Ag_J ?_ rfl))) only [A182, lc_eq, show (zL 0 = lN 1) = False from eq_false (by decide), CO, HA, HB, HC, Nat.not_lt_zero, Nat.add_assoc, c_nlt, c_nle, c_neq, c_P, c_cl, c_m1, c_m1', nI_add, pk_mul, reduceIte, Nat.reduceEqDiff, Nat.reduceAdd, Nat.reduceMul, Nat.reduceLeDiff, eq_self, ↓pk_rem, pk_div, c_of, d_le, d_nle, d_lt, d_nlt, d_eq, d_ne]
    exact Ev_s ⟨rfl, g⟩
  | some z =>
    simp only [Option.isSome_some, Nat.lt_irrefl, reduceIte]
    simp (disch := first | omega | (repeat (first | assumption | exact Ag_r | refine Ag_I ?_ rfl | refine Ag_F ?_ rfl | refine Ag_J ?_ rfl))) only [A182, lc_eq, show (zL 1 = lN 1) = True from eq_true rfl, CO, HA, HB, HC, Nat.not_lt_zero, Nat.add_assoc, c_nlt, c_nle, c_neq, c_P, c_cl, c_m1, c_m1', nI_add, pk_mul, reduceIte, Nat.reduceEqDiff, Nat.reduceAdd, Nat.reduceMul, Nat.reduceLeDiff, eq_self, ↓pk_rem, pk_div, c_of, d_le, d_nle, d_lt, d_nlt, d_eq, d_ne]
    exact Ev_s ⟨rfl, g⟩
/-- may t take the copy c next? -/
def tak (T : Tl) (H rn : Nat → Nat) (v c h m : Nat) : Nat → Bool := fun t => !m.testBit t && !tb T 2 (barW rn c h t (hd H v t))
theorem C_nextTaker (hC : FxC σ) (sC : StC σ v H) (hw : Wf v H) (rC : RnC σ rn) (lf : LfC σ T) {c h m : Nat} (hc : c < 224) (h8 : h < 8) (hm : m < 256) (hq : Qc σ τ) : Ev (den (d + 6, 126, 0, [.ref 0, .int (nI c), .int (nI h), .int (nI m), .float 0, .float 0], [], τ)) (fun a υ => a = some (.int (ofo (fnd (tak T H rn v c h m) v))) ∧ Qw τ υ) := by
  have hv8 := hw.2.1
  simp (disch := first | omega | (repeat (first | assumption | exact Ag_r | refine Ag_I ?_ rfl | refine Ag_F ?_ rfl | refine Ag_J ?_ rfl))) only [A126, CO, HA, HB, HC, Nat.not_lt_zero, Nat.add_assoc, c_nlt, c_nle, c_neq, c_P, c_cl, c_m1, c_m1', nI_add, pk_mul, reduceIte, Nat.reduceEqDiff, Nat.reduceAdd, Nat.reduceMul, Nat.reduceLeDiff, eq_self, ↓pk_rem, pk_div, c_of, d_le, d_nle, d_lt, d_nlt, d_eq, d_ne]
  refine lp (α := Hp × Value) (h := fun i x => (d + 6, 126, 3, [.ref 0, .int (nI c), .int (nI h), .int (nI m), .int (nI i), x.2], [], x.1)) (I := fun i x => Qw τ x.1 ∧ ∀ j, j < i → tak T H rn v c h m j = false) v ?_ ?_ 0 (τ, .float 0) (Nat.zero_le _) ⟨Ag_r, fun j hj => absurd hj (Nat.not_lt_zero j)⟩
  · intro t ⟨υ, l⟩ ht ⟨g, no⟩ nx
    dsimp only at g no
    have hq2 : Qc σ υ := Ag_t hq (Qw_c g)
    have h2 := Qc_C hq2 hC
    have e1 := Ag_f hq2 1 0 rfl
    show Ev (den (d + 6, 126, 3, [.ref 0, .int (nI c), .int (nI h), .int (nI m), .int (nI t), l], [], υ)) _
    rw [a126_3]
    have more : tak T H rn v c h m t = false → ∀ (ω : Hp) (l : Value), Qw υ ω → Ev (den (d + 6, 126, 3, [.ref 0, .int (nI c), .int (nI h), .int (nI m), .int (nI (t + 1)), l], [], ω)) (fun a υ => a = some (.int (ofo (fnd (tak T H rn v c h m) v))) ∧ Qw τ υ) := fun z ω l g2 => nx (ω, l) ⟨Ag_t g g2, fun j hj => by
      by_cases y : j = t
      · rw [y]; exact z
      · exact no j (by omega)⟩
    by_cases b : m.testBit t = true
    · have nn := more (by unfold tak; rw [b]; rfl) υ (.int (nI 0)) Ag_r
      refine Ev_e ?_ nn
      simp (disch := first | omega | (repeat (first | assumption | exact Ag_r | refine Ag_I ?_ rfl | refine Ag_F ?_ rfl | refine Ag_J ?_ rfl))) only [A126, FC h2, e1, sC.1, bt1, if_pos b, CO, HA, HB, HC, Nat.not_lt_zero, Nat.add_assoc, c_nlt, c_nle, c_neq, c_P, c_cl, c_m1, c_m1', nI_add, pk_mul, reduceIte, Nat.reduceEqDiff, Nat.reduceAdd, Nat.reduceMul, Nat.reduceLeDiff, eq_self, ↓pk_rem, pk_div, c_of, d_le, d_nle, d_lt, d_nlt, d_eq, d_ne]
    · simp (disch := first | omega | (repeat (first | assumption | exact Ag_r | refine Ag_I ?_ rfl | refine Ag_F ?_ rfl | refine Ag_J ?_ rfl))) only [A126, FC h2, e1, sC.1, bt1, if_neg b, C_held hC sC hw (show t < 8 by omega) hq2, CO, HA, HB, HC, Nat.not_lt_zero, Nat.add_assoc, c_nlt, c_nle, c_neq, c_P, c_cl, c_m1, c_m1', nI_add, pk_mul, reduceIte, Nat.reduceEqDiff, Nat.reduceAdd, Nat.reduceMul, Nat.reduceLeDiff, eq_self, ↓pk_rem, pk_div, c_of, d_le, d_nle, d_lt, d_nlt, d_eq, d_ne]
      refine Ev_b (C_forbids (d := d) hC rC lf hc h8 (by omega) (hd_le H t hv8) hq2) ?_
      rintro _ ω ⟨rfl, g2⟩
      by_cases f : tb T 2 (barW rn c h t (hd H v t)) = true
      · have nn := more (by unfold tak; rw [f, Bool.not_true, Bool.and_false]) ω (.int (nI 1)) g2
        refine Ev_e ?_ nn
        rw [if_pos f]
        simp (disch := first | omega | (repeat (first | assumption | exact Ag_r | refine Ag_I ?_ rfl | refine Ag_F ?_ rfl | refine Ag_J ?_ rfl))) only [A126, CO, HA, HB, HC, Nat.not_lt_zero, Nat.add_assoc, c_nlt, c_nle, c_neq, c_P, c_cl, c_m1, c_m1', nI_add, pk_mul, reduceIte, Nat.reduceEqDiff, Nat.reduceAdd, Nat.reduceMul, Nat.reduceLeDiff, eq_self, ↓pk_rem, pk_div, c_of, d_le, d_nle, d_lt, d_nlt, d_eq, d_ne]
      · rw [if_neg f]
        simp (disch := first | omega | (repeat (first | assumption | exact Ag_r | refine Ag_I ?_ rfl | refine Ag_F ?_ rfl | refine Ag_J ?_ rfl))) only [A126, CO, HA, HB, HC, Nat.not_lt_zero, Nat.add_assoc, c_nlt, c_nle, c_neq, c_P, c_cl, c_m1, c_m1', nI_add, pk_mul, reduceIte, Nat.reduceEqDiff, Nat.reduceAdd, Nat.reduceMul, Nat.reduceLeDiff, eq_self, ↓pk_rem, pk_div, c_of, d_le, d_nle, d_lt, d_nlt, d_eq, d_ne]
        refine Ev_s ⟨?_, Ag_t g g2⟩
        rw [fnd_some ht (by unfold tak; simp [b, f]) no]
        rfl
  · intro ⟨υ, l⟩ ⟨g, no⟩
    dsimp only at g no
    have hq2 : Qc σ υ := Ag_t hq (Qw_c g)
    have h2 := Qc_C hq2 hC
    have e1 := Ag_f hq2 1 0 rfl
    show Ev (den (d + 6, 126, 3, [.ref 0, .int (nI c), .int (nI h), .int (nI m), .int (nI v), l], [], υ)) _
    rw [a126_3]
    simp (disch := first | omega | (repeat (first | assumption | exact Ag_r | refine Ag_I ?_ rfl | refine Ag_F ?_ rfl | refine Ag_J ?_ rfl))) only [A126, FC h2, e1, sC.1, CO, HA, HB, HC, Nat.not_lt_zero, Nat.add_assoc, c_nlt, c_nle, c_neq, c_P, c_cl, c_m1, c_m1', nI_add, pk_mul, reduceIte, Nat.reduceEqDiff, Nat.reduceAdd, Nat.reduceMul, Nat.reduceLeDiff, eq_self, ↓pk_rem, pk_div, c_of, d_le, d_nle, d_lt, d_nlt, d_eq, d_ne]
    refine Ev_s ⟨?_, g⟩
    rw [fnd_none no]
    rfl
/-- where a copy comes to rest, and how often it went -/
def rest (T : Tl) (H rn : Nat → Nat) (v c : Nat) : Nat → Nat → Nat → Nat → Nat × Nat
  | 0, h, _, n => (h, n)
  | k + 1, h, m, n => match fnd (tak T H rn v c h m) v with
    | none => (h, n)
    | some t => rest T H rn v c k t (m ||| 2 ^ t) (n + 1)
theorem rest_b (T : Tl) (H rn : Nat → Nat) {v : Nat} (c : Nat) (hv : v ≤ 8) : ∀ (k h m n : Nat), h < 8 → (rest T H rn v c k h m n).1 < 8 ∧ (rest T H rn v c k h m n).2 ≤ n + k
  | 0, h, m, n, hh => ⟨hh, Nat.le_refl _⟩
  | k + 1, h, m, n, hh => by
    simp only [rest]
    cases q : fnd (tak T H rn v c h m) v with
    | none => exact ⟨hh, by show n ≤ _; omega⟩
    | some t =>
      have := (fnd_s q).1
      have := rest_b T H rn c hv k t (m ||| 2 ^ t) (n + 1) (by omega)
      exact ⟨this.1, by have := this.2; show (rest T H rn v c k t (m ||| 2 ^ t) (n + 1)).2 ≤ _; omega⟩
theorem tb_or : ∀ m, m < 256 → ∀ t, t < 8 → ∀ j, j < 8 → (m ||| 2 ^ t).testBit j = (m.testBit j || decide (j = t)) := by decide +kernel
def fresh (m v : Nat) : Nat := cB (fun t => !m.testBit t) v
theorem fresh_lt {m v t : Nat} (hv : v ≤ 8) (hm : m < 256) (ht : t < v) (hb : m.testBit t = false) : fresh (m ||| 2 ^ t) v < fresh m v := by
  have : ∀ n, n ≤ v → cB (fun t' => !(m ||| 2 ^ t).testBit t') n + (if t < n then 1 else 0) = cB (fun t => !m.testBit t) n := by
    intro n
    induction n with
    | zero => intro _; simp [cB]
    | succ n ih =>
      intro hn
      have i2 := ih (by omega)
      have e := tb_or m hm t (by omega) n (by omega)
      by_cases z : n = t
      · have e1 : (fun t' => !(m ||| 2 ^ t).testBit t') n = false := by show (!(m ||| 2 ^ t).testBit n) = false; rw [e, decide_eq_true z, Bool.or_true]; rfl
        have e2 : (fun t => !m.testBit t) n = true := by show (!m.testBit n) = true; rw [z, hb]; rfl
        rw [cB_n e1, cB_y e2]
        rw [if_neg (by omega)] at i2
        rw [if_pos (by omega)]
        omega
      · have e0 : (!(m ||| 2 ^ t).testBit n) = (!m.testBit n) := by rw [e, decide_eq_false z, Bool.or_false]
        have i3 : (if t < n + 1 then 1 else 0) = (if t < n then 1 else 0) := by
          by_cases y : t < n
          · rw [if_pos y, if_pos (by omega)]
          · rw [if_neg y, if_neg (by omega)]
        rw [i3]
        cases q : (!m.testBit n) with
        | true =>
          have e1 : (fun t' => !(m ||| 2 ^ t).testBit t') n = true := e0.trans q
          have e2 : (fun t => !m.testBit t) n = true := q
          rw [cB_y e1, cB_y e2]; omega
        | false =>
          have e1 : (fun t' => !(m ||| 2 ^ t).testBit t') n = false := e0.trans q
          have e2 : (fun t => !m.testBit t) n = false := q
          rw [cB_n e1, cB_n e2]; omega
  have := this v (Nat.le_refl _)
  rw [if_pos ht] at this
  unfold fresh
  omega
theorem C_lastL (hC : FxC σ) (sC : StC σ v H) (hw : Wf v H) (rC : RnC σ rn) (lf : LfC σ T) {o e : Nat} (ho : o < 8) (he : e < 28) {y3 : Int32} : ∀ (k i h m n : Nat) (τ : Hp) (l : Value), i + k = 8 → h < 8 → m < 256 → n ≤ i → Qc σ τ → ∃ τ' x5 x7 x8, den (d + 7, 107, 54, [.ref 0, .int (nI o), .int (nI e), .int y3, .int (nI h), .int (nI m), .int (nI n), .int (nI i), l], [], τ) = den (d + 7, 107, 108, [.ref 0, .int (nI o), .int (nI e), .int y3, .int (nI (rest T H rn v (28 * o + e) k h m n).1), x5, .int (nI (rest T H rn v (28 * o + e) k h m n).2), x7, x8], [], τ') ∧ Qc σ τ' := by
  intro k
  induction k with
  | zero =>
    intro i h m n τ l hi hh hm hn hq
    obtain rfl : i = 8 := by omega
    refine ⟨τ, .int (nI m), .int (nI 8), l, ?_, hq⟩
    rw [a107_54]
    simp (disch := omega) only [a107_56, a107_58, c_nle, Nat.le_refl, reduceIte, rest]
  | succ k ih =>
    intro i h m n τ l hi hh hm hn hq
    have h' := Qc_C hq hC
    obtain ⟨a, ω, eq, rfl, g⟩ := C_nextTaker (d := d) hC sC hw rC lf (c := 28 * o + e) (by omega) hh hm hq
    have e1 : den (d + 7, 107, 54, [.ref 0, .int (nI o), .int (nI e), .int y3, .int (nI h), .int (nI m), .int (nI n), .int (nI i), l], [], τ) = den (d + 7, 107, 75, [.ref 0, .int (nI o), .int (nI e), .int y3, .int (nI h), .int (nI m), .int (nI n), .int (nI i), l], [.int (ofo (fnd (tak T H rn v (28 * o + e) h m) v))], ω) := by
      rw [a107_54]
      simp (disch := omega) only [a107_56, a107_58, a107_61, a107_62, a107_63, a107_65, a107_66, a107_67, a107_68, a107_70, a107_72, FC h', c_nle, d_nle, reduceIte, pk_mul, nI_add, Nat.mul_comm o 28, eq, CO]
    rw [e1]
    cases q : fnd (tak T H rn v (28 * o + e) h m) v with
    | none =>
      refine ⟨ω, .int (nI m), .int (nI i), .int (-1), ?_, Ag_t hq (Qw_c g)⟩
      simp only [rest, q, ofo, a107_75, a107_77, a107_79, a107_80, a107_83, reduceIte]
    | some t =>
      obtain ⟨t1, t2, t3⟩ := fnd_s q
      have hv8 := hw.2.1
      have b2 := bt2' m hm t (by omega)
      obtain ⟨τ', x5, x7, x8, e2, hq2⟩ := ih (i + 1) t (m ||| 2 ^ t) (n + 1) ω (.int (nI t)) (by omega) (by omega) b2.2 (by omega) (Ag_t hq (Qw_c g))
      refine ⟨τ', x5, x7, x8, ?_, hq2⟩
      simp only [rest, q]
      rw [← e2]
      simp (disch := first | omega | (repeat (first | assumption | exact Ag_r | refine Ag_I ?_ rfl | refine Ag_F ?_ rfl | refine Ag_J ?_ rfl))) only [A107, ofo, bt2, CO, HA, HB, HC, Nat.not_lt_zero, Nat.add_assoc, c_nlt, c_nle, c_neq, c_P, c_cl, c_m1, c_m1', nI_add, pk_mul, reduceIte, Nat.reduceEqDiff, Nat.reduceAdd, Nat.reduceMul, Nat.reduceLeDiff, eq_self, ↓pk_rem, pk_div, c_of, d_le, d_nle, d_lt, d_nlt, d_eq, d_ne]
theorem M_lastIn (hM : FxM ρ) (sM : StM ρ v H) (hw : Wf v H) (rM : RnM ρ rn) (lf : LfM ρ T) {c h m : Nat} (hc : c < 224) (h8 : h < 8) (hm : m < 256) {x1 x2 x3 : Value} {y6 : Int32} : ∀ (i : Nat) (τ : Hp) (r : Option Nat), i ≤ v → Qm ρ τ → hI τ 72 c = nI h → (∀ t, t < 8 → m.testBit t = false → hI τ 73 t = nI (hd H v t)) → ((r = none ∧ ∀ j, i ≤ j → j < v → tak T H rn v c h m j = false) ∨ ∃ t, r = some t ∧ i ≤ t ∧ t < v ∧ tak T H rn v c h m t = true ∧ ∀ j, i ≤ j → j < t → tak T H rn v c h m j = false) → ∃ υ, den (d + 7, 210, 78, [.ref 57, x1, x2, x3, .int (nI c), .int (nI m), .int y6, .int (ofo r), .int (zI ((i : Int) - 1))], [], τ) = den (d + 7, 210, 119, [.ref 57, x1, x2, x3, .int (nI c), .int (nI m), .int y6, .int (ofo (fnd (tak T H rn v c h m) v)), .int (-1)], [], υ) ∧ Qs τ υ := by
  have hv8 := hw.2.1
  intro i
  induction i with
  | zero =>
    intro τ r hi hq k1 k2 hr
    refine ⟨τ, ?_, Ag_r⟩
    have e : fnd (tak T H rn v c h m) v = r := by
      rcases hr with ⟨rfl, h1⟩ | ⟨t, rfl, h1, h2, h3, h4⟩
      · exact fnd_none (fun j hj => h1 j (Nat.zero_le _) hj)
      · exact fnd_some h2 h3 (fun j hj => h4 j (Nat.zero_le _) hj)
    rw [e, a210_78]
    simp only [a210_80, show zI (((0 : Nat) : Int) - 1) = (-1 : Int32) from rfl, m1n, reduceIte]
  | succ i ih =>
    intro τ r hi hq k1 k2 hr
    have h' := Qm_M hq hM
    have ei : zI (((i + 1 : Nat) : Int) - 1) = nI i := by rw [show ((i + 1 : Nat) : Int) - 1 = (i : Int) by omega, zI_n]
    have em : nI i + (-1 : Int32) = zI ((i : Int) - 1) := by rw [← zI_n, show (-1 : Int32) = zI (-1) from rfl, zI_add]; congr 1
    rw [ei, a210_78]
    by_cases b : m.testBit i = true
    · have z : tak T H rn v c h m i = false := by unfold tak; rw [b]; rfl
      obtain ⟨υ, e, g⟩ := ih τ r (by omega) hq k1 k2 (by
        rcases hr with ⟨rfl, h1⟩ | ⟨t, rfl, h1, h2, h3, h4⟩
        · refine Or.inl ⟨rfl, fun j hj hj2 => ?_⟩
          by_cases y : j = i
          · rw [y]; exact z
          · exact h1 j (by omega) hj2
        · refine Or.inr ⟨t, rfl, by omega, h2, h3, fun j hj hj2 => ?_⟩
          by_cases y : j = i
          · rw [y]; exact z
          · exact h4 j (by omega) hj2)
      refine ⟨υ, ?_, g⟩
      rw [← e]
      simp (disch := first | omega | (repeat (first | assumption | exact Ag_r | refine Ag_I ?_ rfl | refine Ag_F ?_ rfl | refine Ag_J ?_ rfl))) only [A210, A134, bt1, if_pos b, em, CO, HA, HB, HC, Nat.not_lt_zero, Nat.add_assoc, c_nlt, c_nle, c_neq, c_P, c_cl, c_m1, c_m1', nI_add, pk_mul, reduceIte, Nat.reduceEqDiff, Nat.reduceAdd, Nat.reduceMul, Nat.reduceLeDiff, eq_self, ↓pk_rem, pk_div, c_of, d_le, d_nle, d_lt, d_nlt, d_eq, d_ne]
    · obtain ⟨a, ω, eq, rfl, g⟩ := M_isB2 (d := d) hM rM lf hc (show i < 8 by omega) hq k1 h8 (k2 i (by omega) (by simpa using b)) (by have := hd_le H i hv8; omega)
      have hq2 : Qm ρ ω := Ag_t hq (Qs_m g)
      have k1' : hI ω 72 c = nI h := by rw [Ag_i g 72 rfl]; exact k1
      have k2' : ∀ t, t < 8 → m.testBit t = false → hI ω 73 t = nI (hd H v t) := fun t ht hb => by rw [Ag_i g 73 rfl]; exact k2 t ht hb
      by_cases f : tb T 2 (barW rn c h i (hd H v i)) = true
      · have z : tak T H rn v c h m i = false := by unfold tak; rw [f, Bool.not_true, Bool.and_false]
        obtain ⟨υ, e, g2⟩ := ih ω r (by omega) hq2 k1' k2' (by
          rcases hr with ⟨rfl, h1⟩ | ⟨t, rfl, h1, h2, h3, h4⟩
          · refine Or.inl ⟨rfl, fun j hj hj2 => ?_⟩
            by_cases y : j = i
            · rw [y]; exact z
            · exact h1 j (by omega) hj2
          · refine Or.inr ⟨t, rfl, by omega, h2, h3, fun j hj hj2 => ?_⟩
            by_cases y : j = i
            · rw [y]; exact z
            · exact h4 j (by omega) hj2)
        refine ⟨υ, ?_, Ag_t g g2⟩
        rw [← e]
        rw [if_pos f] at eq
        simp (disch := first | omega | (repeat (first | assumption | exact Ag_r | refine Ag_I ?_ rfl | refine Ag_F ?_ rfl | refine Ag_J ?_ rfl))) only [A210, A134, bt1, if_neg b, FM h', eq, em, CO, HA, HB, HC, Nat.not_lt_zero, Nat.add_assoc, c_nlt, c_nle, c_neq, c_P, c_cl, c_m1, c_m1', nI_add, pk_mul, reduceIte, Nat.reduceEqDiff, Nat.reduceAdd, Nat.reduceMul, Nat.reduceLeDiff, eq_self, ↓pk_rem, pk_div, c_of, d_le, d_nle, d_lt, d_nlt, d_eq, d_ne]
      · have z : tak T H rn v c h m i = true := by unfold tak; simp [b, f]
        obtain ⟨υ, e, g2⟩ := ih ω (some i) (by omega) hq2 k1' k2' (Or.inr ⟨i, rfl, Nat.le_refl _, by omega, z, fun j hj hj2 => by omega⟩)
        refine ⟨υ, ?_, Ag_t g g2⟩
        rw [← e]
        rw [if_neg f] at eq
        simp (disch := first | omega | (repeat (first | assumption | exact Ag_r | refine Ag_I ?_ rfl | refine Ag_F ?_ rfl | refine Ag_J ?_ rfl))) only [A210, A134, bt1, if_neg b, FM h', eq, em, ofo, CO, HA, HB, HC, Nat.not_lt_zero, Nat.add_assoc, c_nlt, c_nle, c_neq, c_P, c_cl, c_m1, c_m1', nI_add, pk_mul, reduceIte, Nat.reduceEqDiff, Nat.reduceAdd, Nat.reduceMul, Nat.reduceLeDiff, eq_self, ↓pk_rem, pk_div, c_of, d_le, d_nle, d_lt, d_nlt, d_eq, d_ne]
theorem M_lastL (hM : FxM ρ) (sM : StM ρ v H) (hw : Wf v H) (rM : RnM ρ rn) (lf : LfM ρ T) {c : Nat} (hc : c < 224) {x1 x2 x3 : Value} : ∀ (k h m n q : Nat) (τ : Hp) (l : Value), fresh m v < k → h < v → m < 256 → n + k < 100 → q < 8 → m.testBit h = true → Qm ρ τ → hI τ 72 c = nI h → (∀ t, t < 8 → m.testBit t = false → hI τ 73 t = nI (hd H v t)) → ∃ υ x5 x8, den (d + 7, 210, 61, [.ref 57, x1, x2, x3, .int (nI c), .int (nI m), .int (nI n), .int (nI q), l], [], τ) = den (d + 7, 210, 148, [.ref 57, x1, x2, x3, .int (nI c), x5, .int (nI (rest T H rn v c k h m n).2), .int (-1), x8], [], υ) ∧ Qm ρ υ ∧ hI υ 72 c = nI (rest T H rn v c k h m n).1 := by
  have hv8 := hw.2.1
  have hv1 := hw.1
  intro k
  induction k with
  | zero => intro h m n q τ l hf; exact absurd hf (Nat.not_lt_zero _)
  | succ k ih =>
    intro h m n q τ l hf hh hm hn hq8 hb hq k1 k2
    have h' := Qm_M hq hM
    obtain ⟨υ, e, g⟩ := M_lastIn (d := d) (x1 := x1) (x2 := x2) (x3 := x3) (y6 := nI n) hM sM hw rM lf hc (show h < 8 by omega) hm v τ none (Nat.le_refl _) hq k1 k2 (Or.inl ⟨rfl, fun j hj hj2 => by omega⟩)
    have hq2 : Qm ρ υ := Ag_t hq (Qs_m g)
    have h2 := Qm_M hq2 hM
    have ev : nI v - nI 1 = zI ((v : Int) - 1) := by rw [← zI_n, show nI 1 = zI 1 from rfl, zI_sub]
    have e0 : den (d + 7, 210, 61, [.ref 57, x1, x2, x3, .int (nI c), .int (nI m), .int (nI n), .int (nI q), l], [], τ) = den (d + 7, 210, 78, [.ref 57, x1, x2, x3, .int (nI c), .int (nI m), .int (nI n), .int (ofo none), .int (zI ((v : Int) - 1))], [], τ) := by
      rw [a210_61]
      simp (disch := first | omega | assumption) only [a210_63, a210_64, a210_67, a210_68, a210_70, a210_71, a210_74, a210_75, a210_76, M_villages' hM hq, sM.1, FM h', c_m1', ev, CO, reduceIte, ofo]
    rw [e0, e]
    cases r : fnd (tak T H rn v c h m) v with
    | none =>
      refine ⟨υ, .int (nI m), .int (-1), ?_, hq2, ?_⟩
      · simp only [rest, r, ofo, a210_119, a210_121, a210_122, reduceIte]
        rw [a210_61]
        simp only [a210_63, a210_64, reduceIte]
      · simp only [rest, r]
        rw [Ag_i g 72 rfl]; exact k1
    | some t =>
      obtain ⟨t1, t2, t3⟩ := fnd_s r
      have tb0 : m.testBit t = false := by
        unfold tak at t2
        simp only [Bool.and_eq_true, Bool.not_eq_true'] at t2
        exact t2.1
      have b2 := bt2' m hm t (by omega)
      have k1' : hI υ 72 c = nI h := by rw [Ag_i g 72 rfl]; exact k1
      have tne : ¬ t = h := fun z => by rw [z, hb] at tb0; cases tb0
      obtain ⟨ω, x5, x8, e3, hq3, k3⟩ := ih t (m ||| 2 ^ t) (n + 1) t (sI (sI (sI υ 73 (upd (hI υ 73) h (hI υ 73 h - nI 1))) 72 (upd (hI υ 72) c (nI t))) 73 (upd (upd (hI υ 73) h (hI υ 73 h - nI 1)) t (hI υ 73 t + nI 1))) (.int (-1)) (by have := fresh_lt hv8 hm t1 tb0; omega) t1 b2.2 (by omega) (by omega) (by rw [tb_or m hm t (by omega) t (by omega)]; simp) (Ag_I (Ag_I (Ag_I hq2 rfl) rfl) rfl) (by simp only [HA, Nat.reduceEqDiff, reduceIte, ua]) (by
        intro t' ht' hb'
        rw [tb_or m hm t (by omega) t' ht', Bool.or_eq_false_iff] at hb'
        have n1 : ¬ t' = t := by simpa using hb'.2
        have n2 : ¬ t' = h := fun z => by rw [z, hb] at hb'; cases hb'.1
        simp only [HA, reduceIte, ua, n1, n2]
        rw [Ag_i g 73 rfl]
        exact k2 t' ht' hb'.1)
      refine ⟨ω, x5, x8, ?_, hq3, ?_⟩
      · simp only [rest, r]
        rw [← e3]
        simp (disch := first | omega | (repeat (first | assumption | exact Ag_r | refine Ag_I ?_ rfl | refine Ag_F ?_ rfl | refine Ag_J ?_ rfl))) only [A210, A179, FM h2, ofo, bt2, k1', ua, tne, HA, CO, HA, HB, HC, Nat.not_lt_zero, Nat.add_assoc, c_nlt, c_nle, c_neq, c_P, c_cl, c_m1, c_m1', nI_add, pk_mul, reduceIte, Nat.reduceEqDiff, Nat.reduceAdd, Nat.reduceMul, Nat.reduceLeDiff, eq_self, ↓pk_rem, pk_div, c_of, d_le, d_nle, d_lt, d_nlt, d_eq, d_ne]
      · simp only [rest, r]; exact k3
end
