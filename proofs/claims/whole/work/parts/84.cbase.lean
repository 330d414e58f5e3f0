/-! law: the class's small steps of reading -/
def wT : List Nat := [526131, 3657363, 67155, 24165011, 20099475, 16496818, 284561586, 655, 4153, 24869441593, 591150, 267652, 17376357, 294, 14836, 1476, 498]
theorem st_ok : ∀ j, j < 17 → stAll[j]? = some (stAll.getD j (0, [])) ∧ 0 < (stAll.getD j (0, [])).2.length ∧ (stAll.getD j (0, [])).2.length ≤ 10 ∧ (∀ i, i < (stAll.getD j (0, [])).2.length → 97 ≤ (stAll.getD j (0, [])).2.getD i 0 ∧ (stAll.getD j (0, [])).2.getD i 0 ≤ 122) ∧ vl (stAll.getD j (0, [])).2 (stAll.getD j (0, [])).2.length = wT.getD j 0 := by decide +kernel
section
variable {d p a n : Nat} {X : Tx} {τ : Hp}
theorem C_isWd (hC : FxC τ) (hX : TxC τ X) (hp : p ≤ X.1) (hT : TkC τ X p) {j : Nat} (hj : j < 17) : den (d + 5, 53, 0, [.ref 14, .retAddr (j + 1), .float 0], [], τ) = some (some (.int (if wd_ X p = wT.getD j 0 then nI 1 else nI 0)), τ) := by
  obtain ⟨s1, s2, s3, s4, s5⟩ := st_ok j hj
  generalize stAll.getD j (0, []) = q at s1 s2 s3 s4 s5
  rw [← s5]
  have ww := wd_w hp s4 s2
  obtain ⟨x1, x2, x3, x4⟩ := hX
  obtain ⟨t1, t2, t3⟩ := hT
  obtain ⟨b1, b2, b3, b4⟩ := tk_b hp
  by_cases k : tK X p = 1
  · by_cases l : tE X p - tS X p = q.2.length
    · have go : ∀ (m i : Nat), i + m = q.2.length → (∀ k, k < i → X.2 (tS X p + k) = q.2.getD k 0) → den (d + 5, 53, 28, [.ref 14, .retAddr (j + 1), .int (nI i)], [], τ) = some (some (.int (if wd_ X p = vl q.2 q.2.length then nI 1 else nI 0)), τ) := by
        intro m
        induction m with
        | zero =>
          intro i hi h
          obtain rfl : i = q.2.length := by omega
          rw [if_pos (ww.mpr ⟨k, l, h⟩), a53_28]
          simp (disch := first | omega | (repeat (first | assumption | exact Ag_r | refine Ag_I ?_ rfl | refine Ag_F ?_ rfl | refine Ag_J ?_ rfl))) only [A53, a53_29T, a53_30 s1, CO, HA, HB, HC, Nat.not_lt_zero, Nat.add_assoc, c_nlt, c_nle, c_neq, c_P, c_cl, c_m1, c_m1', nI_add, pk_mul, reduceIte, Nat.reduceEqDiff, Nat.reduceAdd, Nat.reduceMul, Nat.reduceLeDiff, eq_self, ↓pk_rem, pk_div, c_of, d_le, d_nle, d_lt, d_nlt, d_eq, d_ne]
        | succ m ih =>
          intro i hi h
          have e := x2 (tS X p + i) (by omega)
          have l4 := x4 (tS X p + i) (by omega)
          have l5 := s4 i (by omega)
          rw [a53_28]
          by_cases z : X.2 (tS X p + i) = q.2.getD i 0
          · have := ih (i + 1) (by omega) (fun k hk => by
              by_cases w : k = i
              · rw [w]; exact z
              · exact h k (by omega))
            rw [← this]
            simp (disch := first | omega | (repeat (first | assumption | exact Ag_r | refine Ag_I ?_ rfl | refine Ag_F ?_ rfl | refine Ag_J ?_ rfl))) only [A53, a53_29T, a53_30 s1, FC hC, t1, t2, t3, e, a53_50T, a53_52 s1, z, unL, CO, HA, HB, HC, Nat.not_lt_zero, Nat.add_assoc, c_nlt, c_nle, c_neq, c_P, c_cl, c_m1, c_m1', nI_add, pk_mul, reduceIte, Nat.reduceEqDiff, Nat.reduceAdd, Nat.reduceMul, Nat.reduceLeDiff, eq_self, ↓pk_rem, pk_div, c_of, d_le, d_nle, d_lt, d_nlt, d_eq, d_ne]
          · rw [if_neg (fun w => z ((ww.mp w).2.2 i (by omega)))]
            simp (disch := first | omega | (repeat (first | assumption | exact Ag_r | refine Ag_I ?_ rfl | refine Ag_F ?_ rfl | refine Ag_J ?_ rfl))) only [A53, a53_29T, a53_30 s1, FC hC, t1, t2, t3, e, a53_50T, a53_52 s1, z, CO, HA, HB, HC, Nat.not_lt_zero, Nat.add_assoc, c_nlt, c_nle, c_neq, c_P, c_cl, c_m1, c_m1', nI_add, pk_mul, reduceIte, Nat.reduceEqDiff, Nat.reduceAdd, Nat.reduceMul, Nat.reduceLeDiff, eq_self, ↓pk_rem, pk_div, c_of, d_le, d_nle, d_lt, d_nlt, d_eq, d_ne]
      have g0 := go q.2.length 0 (by omega) (fun k hk => absurd hk (by omega))
      rw [← g0]
      have cs := c_sub (show tS X p ≤ tE X p by omega)
      simp (disch := first | omega | (repeat (first | assumption | exact Ag_r | refine Ag_I ?_ rfl | refine Ag_F ?_ rfl | refine Ag_J ?_ rfl))) only [A53, FC hC, t1, t2, t3, k, a53_17T, a53_18 s1, cs, l, unL, CO, HA, HB, HC, Nat.not_lt_zero, Nat.add_assoc, c_nlt, c_nle, c_neq, c_P, c_cl, c_m1, c_m1', nI_add, pk_mul, reduceIte, Nat.reduceEqDiff, Nat.reduceAdd, Nat.reduceMul, Nat.reduceLeDiff, eq_self, ↓pk_rem, pk_div, c_of, d_le, d_nle, d_lt, d_nlt, d_eq, d_ne]
    · rw [if_neg (fun w => l (ww.mp w).2.1)]
      have cs := c_sub (show tS X p ≤ tE X p by omega)
      simp (disch := first | omega | (repeat (first | assumption | exact Ag_r | refine Ag_I ?_ rfl | refine Ag_F ?_ rfl | refine Ag_J ?_ rfl))) only [A53, FC hC, t1, t2, t3, k, a53_17T, a53_18 s1, cs, l, CO, HA, HB, HC, Nat.not_lt_zero, Nat.add_assoc, c_nlt, c_nle, c_neq, c_P, c_cl, c_m1, c_m1', nI_add, pk_mul, reduceIte, Nat.reduceEqDiff, Nat.reduceAdd, Nat.reduceMul, Nat.reduceLeDiff, eq_self, ↓pk_rem, pk_div, c_of, d_le, d_nle, d_lt, d_nlt, d_eq, d_ne]
  · rw [if_neg (fun w => k (ww.mp w).1)]
    simp (disch := first | omega | (repeat (first | assumption | exact Ag_r | refine Ag_I ?_ rfl | refine Ag_F ?_ rfl | refine Ag_J ?_ rfl))) only [A53, FC hC, t1, t2, t3, k, CO, HA, HB, HC, Nat.not_lt_zero, Nat.add_assoc, c_nlt, c_nle, c_neq, c_P, c_cl, c_m1, c_m1', nI_add, pk_mul, reduceIte, Nat.reduceEqDiff, Nat.reduceAdd, Nat.reduceMul, Nat.reduceLeDiff, eq_self, ↓pk_rem, pk_div, c_of, d_le, d_nle, d_lt, d_nlt, d_eq, d_ne]
/-- the reader stands at the token behind p, with a of code and n parts -/
def RdC (τ : Hp) (X : Tx) (p a n : Nat) : Prop := FxC τ ∧ TxC τ X ∧ p ≤ X.1 ∧ TkC τ X p ∧ hF τ 14 2 = .int (nI a) ∧ hF τ 14 6 = .int (nI n) ∧ n ≤ 50
theorem CW (h : RdC τ X p a n) {j : Nat} (hj : j < 17) : den (d + 5, 53, 0, [.ref 14, .retAddr (j + 1), .float 0], [], τ) = some (some (.int (if wd_ X p = wT.getD j 0 then nI 1 else nI 0)), τ) := C_isWd h.1 h.2.1 h.2.2.1 h.2.2.2.1 hj
theorem CS (h : RdC τ X p a n) {c : Nat} (hc : 0 < c) (h2 : c < 256) : den (d, 52, 0, [.ref 14, .int (nI c)], [], τ) = some (some (.int (if sg_ X p = c then nI 1 else nI 0)), τ) := C_isSign h.1 h.2.1 h.2.2.1 h.2.2.2.1 hc h2
def Kc (a : Nat) (τ υ : Hp) : Prop := ∀ i, i < a → hI υ 15 i = hI τ 15 i
theorem Kc_t {b : Nat} {x y z : Hp} (h : Kc a x y) (h' : Kc b y z) (l : a ≤ b) : Kc a x z := fun i hi => by rw [h' i (by omega), h i hi]
theorem C_pu (h : RdC τ X p a n) (ha : a < 1024) (x : Int32) : Ev (den (d, 54, 0, [.ref 14, .int x], [], τ)) (fun r υ => r = none ∧ Qrd τ υ ∧ RdC υ X p (a + 1) n ∧ Kc a τ υ ∧ hI υ 15 a = x) := by
  obtain ⟨h1, h2, h3, ⟨t1, t2, t3⟩, h5, h6⟩ := h
  have g : Qrd τ (sF (sI τ 15 (upd (hI τ 15) a x)) 14 2 (.int (nI (a + 1)))) := Ag_F (Ag_I Ag_r rfl) rfl
  refine Ev_e (o' := some (none, sF (sI τ 15 (upd (hI τ 15) a x)) 14 2 (.int (nI (a + 1))))) ?_ (Ev_s ⟨rfl, g, ⟨Qrd_C g h1, Qrd_X g h2, h3, ⟨?_, ?_, ?_⟩, ?_, ?_⟩, fun i hi => ?_, ?_⟩)
  · simp (disch := first | omega | (repeat (first | assumption | exact Ag_r | refine Ag_I ?_ rfl | refine Ag_F ?_ rfl | refine Ag_J ?_ rfl))) only [A54, FC h1, h5, CO, HA, HB, HC, Nat.not_lt_zero, Nat.add_assoc, c_nlt, c_nle, c_neq, c_P, c_cl, c_m1, c_m1', nI_add, pk_mul, reduceIte, Nat.reduceEqDiff, Nat.reduceAdd, Nat.reduceMul, Nat.reduceLeDiff, eq_self, ↓pk_rem, pk_div, c_of, d_le, d_nle, d_lt, d_nlt, d_eq, d_ne]
  · simp only [HA, Nat.reduceEqDiff, and_false, reduceIte]; exact t1
  · simp only [HA, Nat.reduceEqDiff, and_false, reduceIte]; exact t2
  · simp only [HA, Nat.reduceEqDiff, and_false, reduceIte]; exact t3
  · simp only [HA, and_self, reduceIte]
  · simp only [HA, Nat.reduceEqDiff, and_false, reduceIte]; exact h6
  · simp only [HA, reduceIte, ua]; rw [if_neg (by omega)]
  · simp only [HA, reduceIte, ua]
theorem C_po (h : RdC τ X p a n) (ha : a < 1024) : Ev (den (d + 1, 55, 0, [.ref 14], [], τ)) (fun r υ => r = some (.int (nI a)) ∧ Qrd τ υ ∧ RdC υ X p (a + 1) n ∧ Kc a τ υ) := by
  simp (disch := first | omega | (repeat (first | assumption | exact Ag_r | refine Ag_I ?_ rfl | refine Ag_F ?_ rfl | refine Ag_J ?_ rfl))) only [a55_0, a55_1, a55_2, FC h.1, CO, HA, HB, HC, Nat.not_lt_zero, Nat.add_assoc, c_nlt, c_nle, c_neq, c_P, c_cl, c_m1, c_m1', nI_add, pk_mul, reduceIte, Nat.reduceEqDiff, Nat.reduceAdd, Nat.reduceMul, Nat.reduceLeDiff, eq_self, ↓pk_rem, pk_div, c_of, d_le, d_nle, d_lt, d_nlt, d_eq, d_ne]
  refine Ev_b (C_pu (d := d) h ha (nI 0)) ?_
  rintro _ υ ⟨rfl, g, r, k, -⟩
  have cs := c_sub (show 1 ≤ a + 1 by omega)
  refine Ev_e (o' := some (some (.int (nI a)), υ)) ?_ (Ev_s ⟨rfl, g, r, k⟩)
  simp (disch := first | omega | (repeat (first | assumption | exact Ag_r | refine Ag_I ?_ rfl | refine Ag_F ?_ rfl | refine Ag_J ?_ rfl))) only [A55, FC r.1, r.2.2.2.2.1, cs, Nat.add_sub_cancel, CO, HA, HB, HC, Nat.not_lt_zero, Nat.add_assoc, c_nlt, c_nle, c_neq, c_P, c_cl, c_m1, c_m1', nI_add, pk_mul, reduceIte, Nat.reduceEqDiff, Nat.reduceAdd, Nat.reduceMul, Nat.reduceLeDiff, eq_self, ↓pk_rem, pk_div, c_of, d_le, d_nle, d_lt, d_nlt, d_eq, d_ne]
theorem C_cl (h : RdC τ X p a n) {b : Nat} (hb : b < 1024) : Ev (den (d, 56, 0, [.ref 14, .int (nI b)], [], τ)) (fun r υ => r = none ∧ Qrd τ υ ∧ RdC υ X p a n ∧ hI υ 15 b = nI a ∧ ∀ i, i ≠ b → hI υ 15 i = hI τ 15 i) := by
  obtain ⟨h1, h2, h3, ⟨t1, t2, t3⟩, h5, h6⟩ := h
  have g : Qrd τ (sI τ 15 (upd (hI τ 15) b (nI a))) := Ag_I Ag_r rfl
  refine Ev_e (o' := some (none, sI τ 15 (upd (hI τ 15) b (nI a)))) ?_ (Ev_s ⟨rfl, g, ⟨Qrd_C g h1, Qrd_X g h2, h3, ⟨t1, t2, t3⟩, h5, h6⟩, ?_, fun i hi => ?_⟩)
  · simp (disch := first | omega | (repeat (first | assumption | exact Ag_r | refine Ag_I ?_ rfl | refine Ag_F ?_ rfl | refine Ag_J ?_ rfl))) only [A56, FC h1, h5, CO, HA, HB, HC, Nat.not_lt_zero, Nat.add_assoc, c_nlt, c_nle, c_neq, c_P, c_cl, c_m1, c_m1', nI_add, pk_mul, reduceIte, Nat.reduceEqDiff, Nat.reduceAdd, Nat.reduceMul, Nat.reduceLeDiff, eq_self, ↓pk_rem, pk_div, c_of, d_le, d_nle, d_lt, d_nlt, d_eq, d_ne]
  · simp only [HA, reduceIte, ua]
  · simp only [HA, reduceIte, ua]; rw [if_neg hi]
theorem C_sp (h : RdC τ X p a n) : Ev (den (d + 1, 50, 0, [.ref 14], [], τ)) (fun r υ => r = none ∧ Qrd τ υ ∧ RdC υ X (tE X p) a n ∧ hI υ 15 = hI τ 15) := by
  obtain ⟨h1, h2, h3, ⟨t1, t2, t3⟩, h5, h6⟩ := h
  have b := tk_b h3
  refine Ev_m (C_step (d := d) h1 h2 (by omega : tE X p ≤ X.1) t2) (fun r υ z => ?_)
  obtain ⟨z1, z2, z3⟩ := z
  exact ⟨z1, Qst_r z2, ⟨Qrd_C (Qst_r z2) h1, Qrd_X (Qst_r z2) h2, by omega, z3, by rw [Ag_f z2 14 2 rfl]; exact h5, by rw [Ag_f z2 14 6 rfl]; exact h6⟩, Ag_i z2 15 rfl⟩
theorem C_number (h : RdC τ X p a n) (k : tK X p = 2) : den (d + 2, 68, 0, [.ref 14, .float 0, .float 0], [], τ) = some (some (.int (nI (nm_ X p))), τ) := by
  obtain ⟨h1, ⟨x1, x2, x3, x4⟩, h3, ⟨t1, t2, t3⟩, h5, h6⟩ := h
  obtain ⟨b1, b2, b3, b4⟩ := tk_b h3
  have go : ∀ (m i : Nat), i + m = tE X p - tS X p → den (d + 2, 68, 7, [.ref 14, .int (nI (nv X (tS X p) i)), .int (nI (tS X p + i))], [], τ) = some (some (.int (nI (nm_ X p))), τ) := by
    intro m
    induction m with
    | zero =>
      intro i hi
      rw [a68_7]
      have e : tS X p + i = tE X p := by omega
      have e2 : nv X (tS X p) i = nm_ X p := by unfold nm_; rw [show i = tE X p - tS X p by omega]
      have l := nv_le (X := X) (s := tS X p) i
      simp (disch := first | omega | (repeat (first | assumption | exact Ag_r | refine Ag_I ?_ rfl | refine Ag_F ?_ rfl | refine Ag_J ?_ rfl))) only [A68, FC h1, t1, t2, e, e2, CO, HA, HB, HC, Nat.not_lt_zero, Nat.add_assoc, c_nlt, c_nle, c_neq, c_P, c_cl, c_m1, c_m1', nI_add, pk_mul, reduceIte, Nat.reduceEqDiff, Nat.reduceAdd, Nat.reduceMul, Nat.reduceLeDiff, eq_self, ↓pk_rem, pk_div, c_of, d_le, d_nle, d_lt, d_nlt, d_eq, d_ne]
    | succ m ih =>
      intro i hi
      have l := nv_le (X := X) (s := tS X p) i
      have kk := b4 (Or.inr k) (tS X p + i) (by omega) (by omega)
      rw [k] at kk
      have dg := (kA_2.mp kk).2
      have e := x2 (tS X p + i) (by omega)
      rw [a68_7, ← ih (i + 1) (by omega)]
      have e3 : nI (nv X (tS X p) i * 10 + X.2 (tS X p + i)) - nI 48 = nI (nv X (tS X p) i * 10 + (X.2 (tS X p + i) - 48)) := by rw [c_sub (by omega)]; congr 1; omega
      simp (disch := first | omega | (repeat (first | assumption | exact Ag_r | refine Ag_I ?_ rfl | refine Ag_F ?_ rfl | refine Ag_J ?_ rfl))) only [A68, FC h1, t1, t2, e, e3, nv, CO, HA, HB, HC, Nat.not_lt_zero, Nat.add_assoc, c_nlt, c_nle, c_neq, c_P, c_cl, c_m1, c_m1', nI_add, pk_mul, reduceIte, Nat.reduceEqDiff, Nat.reduceAdd, Nat.reduceMul, Nat.reduceLeDiff, eq_self, ↓pk_rem, pk_div, c_of, d_le, d_nle, d_lt, d_nlt, d_eq, d_ne]
      generalize nv X (tS X p) i * 10 + (X.2 (tS X p + i) - 48) = y
      by_cases z : 1001 < y
      · rw [if_pos z, show min y 1001 = 1001 by omega]
      · rw [if_neg z, show min y 1001 = y by omega]
  have := go (tE X p - tS X p) 0 (by omega)
  simp only [nv, Nat.add_zero] at this
  rw [← this]
  simp (disch := first | omega | (repeat (first | assumption | exact Ag_r | refine Ag_I ?_ rfl | refine Ag_F ?_ rfl | refine Ag_J ?_ rfl))) only [A68, FC h1, t1, t2, CO, HA, HB, HC, Nat.not_lt_zero, Nat.add_assoc, c_nlt, c_nle, c_neq, c_P, c_cl, c_m1, c_m1', nI_add, pk_mul, reduceIte, Nat.reduceEqDiff, Nat.reduceAdd, Nat.reduceMul, Nat.reduceLeDiff, eq_self, ↓pk_rem, pk_div, c_of, d_le, d_nle, d_lt, d_nlt, d_eq, d_ne]
theorem C_wordH (h : RdC τ X p a n) : den (d + 6, 69, 0, [.ref 14], [], τ) = some (some (.int (if wI X p < 8 then nI (wI X p) else -1)), τ) := by
  have w0 := fun (d : Nat) => CW (d := d) h (show 5 < 17 by omega)
  have w1 := fun (d : Nat) => CW (d := d) h (show 6 < 17 by omega)
  have w2 := fun (d : Nat) => CW (d := d) h (show 7 < 17 by omega)
  have w3 := fun (d : Nat) => CW (d := d) h (show 8 < 17 by omega)
  have w4 := fun (d : Nat) => CW (d := d) h (show 9 < 17 by omega)
  have w5 := fun (d : Nat) => CW (d := d) h (show 10 < 17 by omega)
  have w6 := fun (d : Nat) => CW (d := d) h (show 11 < 17 by omega)
  have w7 := fun (d : Nat) => CW (d := d) h (show 12 < 17 by omega)
  simp only [wT, List.getD_cons_succ, List.getD_cons_zero, Nat.reduceAdd] at w0 w1 w2 w3 w4 w5 w6 w7
  unfold wI
  by_cases z0 : wd_ X p = 16496818
  · simp (disch := first | omega | (repeat (first | assumption | exact Ag_r | refine Ag_I ?_ rfl | refine Ag_F ?_ rfl | refine Ag_J ?_ rfl))) only [A69, FC h.1, w0, z0, CO, HA, HB, HC, Nat.not_lt_zero, Nat.add_assoc, c_nlt, c_nle, c_neq, c_P, c_cl, c_m1, c_m1', nI_add, pk_mul, reduceIte, Nat.reduceEqDiff, Nat.reduceAdd, Nat.reduceMul, Nat.reduceLeDiff, eq_self, ↓pk_rem, pk_div, c_of, d_le, d_nle, d_lt, d_nlt, d_eq, d_ne]
  · by_cases z1 : wd_ X p = 284561586
    · simp (disch := first | omega | (repeat (first | assumption | exact Ag_r | refine Ag_I ?_ rfl | refine Ag_F ?_ rfl | refine Ag_J ?_ rfl))) only [A69, FC h.1, w0, w1, z1, CO, HA, HB, HC, Nat.not_lt_zero, Nat.add_assoc, c_nlt, c_nle, c_neq, c_P, c_cl, c_m1, c_m1', nI_add, pk_mul, reduceIte, Nat.reduceEqDiff, Nat.reduceAdd, Nat.reduceMul, Nat.reduceLeDiff, eq_self, ↓pk_rem, pk_div, c_of, d_le, d_nle, d_lt, d_nlt, d_eq, d_ne]
    · by_cases z2 : wd_ X p = 655
      · simp (disch := first | omega | (repeat (first | assumption | exact Ag_r | refine Ag_I ?_ rfl | refine Ag_F ?_ rfl | refine Ag_J ?_ rfl))) only [A69, FC h.1, w0, w1, w2, z2, CO, HA, HB, HC, Nat.not_lt_zero, Nat.add_assoc, c_nlt, c_nle, c_neq, c_P, c_cl, c_m1, c_m1', nI_add, pk_mul, reduceIte, Nat.reduceEqDiff, Nat.reduceAdd, Nat.reduceMul, Nat.reduceLeDiff, eq_self, ↓pk_rem, pk_div, c_of, d_le, d_nle, d_lt, d_nlt, d_eq, d_ne]
      · by_cases z3 : wd_ X p = 4153
        · simp (disch := first | omega | (repeat (first | assumption | exact Ag_r | refine Ag_I ?_ rfl | refine Ag_F ?_ rfl | refine Ag_J ?_ rfl))) only [A69, FC h.1, w0, w1, w2, w3, z3, CO, HA, HB, HC, Nat.not_lt_zero, Nat.add_assoc, c_nlt, c_nle, c_neq, c_P, c_cl, c_m1, c_m1', nI_add, pk_mul, reduceIte, Nat.reduceEqDiff, Nat.reduceAdd, Nat.reduceMul, Nat.reduceLeDiff, eq_self, ↓pk_rem, pk_div, c_of, d_le, d_nle, d_lt, d_nlt, d_eq, d_ne]
        · by_cases z4 : wd_ X p = 24869441593
          · simp (disch := first | omega | (repeat (first | assumption | exact Ag_r | refine Ag_I ?_ rfl | refine Ag_F ?_ rfl | refine Ag_J ?_ rfl))) only [A69, FC h.1, w0, w1, w2, w3, w4, z4, CO, HA, HB, HC, Nat.not_lt_zero, Nat.add_assoc, c_nlt, c_nle, c_neq, c_P, c_cl, c_m1, c_m1', nI_add, pk_mul, reduceIte, Nat.reduceEqDiff, Nat.reduceAdd, Nat.reduceMul, Nat.reduceLeDiff, eq_self, ↓pk_rem, pk_div, c_of, d_le, d_nle, d_lt, d_nlt, d_eq, d_ne]
          · by_cases z5 : wd_ X p = 591150
            · simp (disch := first | omega | (repeat (first | assumption | exact Ag_r | refine Ag_I ?_ rfl | refine Ag_F ?_ rfl | refine Ag_J ?_ rfl))) only [A69, FC h.1, w0, w1, w2, w3, w4, w5, z5, CO, HA, HB, HC, Nat.not_lt_zero, Nat.add_assoc, c_nlt, c_nle, c_neq, c_P, c_cl, c_m1, c_m1', nI_add, pk_mul, reduceIte, Nat.reduceEqDiff, Nat.reduceAdd, Nat.reduceMul, Nat.reduceLeDiff, eq_self, ↓pk_rem, pk_div, c_of, d_le, d_nle, d_lt, d_nlt, d_eq, d_ne]
            · by_cases z6 : wd_ X p = 267652
              · simp (disch := first | omega | (repeat (first | assumption | exact Ag_r | refine Ag_I ?_ rfl | refine Ag_F ?_ rfl | refine Ag_J ?_ rfl))) only [A69, FC h.1, w0, w1, w2, w3, w4, w5, w6, z6, CO, HA, HB, HC, Nat.not_lt_zero, Nat.add_assoc, c_nlt, c_nle, c_neq, c_P, c_cl, c_m1, c_m1', nI_add, pk_mul, reduceIte, Nat.reduceEqDiff, Nat.reduceAdd, Nat.reduceMul, Nat.reduceLeDiff, eq_self, ↓pk_rem, pk_div, c_of, d_le, d_nle, d_lt, d_nlt, d_eq, d_ne]
              · by_cases z7 : wd_ X p = 17376357
                · simp (disch := first | omega | (repeat (first | assumption | exact Ag_r | refine Ag_I ?_ rfl | refine Ag_F ?_ rfl | refine Ag_J ?_ rfl))) only [A69, FC h.1, w0, w1, w2, w3, w4, w5, w6, w7, z7, CO, HA, HB, HC, Nat.not_lt_zero, Nat.add_assoc, c_nlt, c_nle, c_neq, c_P, c_cl, c_m1, c_m1', nI_add, pk_mul, reduceIte, Nat.reduceEqDiff, Nat.reduceAdd, Nat.reduceMul, Nat.reduceLeDiff, eq_self, ↓pk_rem, pk_div, c_of, d_le, d_nle, d_lt, d_nlt, d_eq, d_ne]
                · simp (disch := first | omega | (repeat (first | assumption | exact Ag_r | refine Ag_I ?_ rfl | refine Ag_F ?_ rfl | refine Ag_J ?_ rfl))) only [A69, FC h.1, w0, w1, w2, w3, w4, w5, w6, w7, z0, z1, z2, z3, z4, z5, z6, z7, CO, HA, HB, HC, Nat.not_lt_zero, Nat.add_assoc, c_nlt, c_nle, c_neq, c_P, c_cl, c_m1, c_m1', nI_add, pk_mul, reduceIte, Nat.reduceEqDiff, Nat.reduceAdd, Nat.reduceMul, Nat.reduceLeDiff, eq_self, ↓pk_rem, pk_div, c_of, d_le, d_nle, d_lt, d_nlt, d_eq, d_ne]
theorem C_headH (h : RdC τ X p a n) : den (d + 6, 58, 0, [.ref 14], [], τ) = some (some (.int (if hI_ X p = 5 then -1 else nI (hI_ X p))), τ) := by
  have w0 := fun (d : Nat) => CW (d := d) h (show 0 < 17 by omega)
  have w1 := fun (d : Nat) => CW (d := d) h (show 1 < 17 by omega)
  have w2 := fun (d : Nat) => CW (d := d) h (show 2 < 17 by omega)
  have w3 := fun (d : Nat) => CW (d := d) h (show 3 < 17 by omega)
  have w4 := fun (d : Nat) => CW (d := d) h (show 4 < 17 by omega)
  simp only [wT, List.getD_cons_succ, List.getD_cons_zero, Nat.reduceAdd] at w0 w1 w2 w3 w4
  unfold hI_
  by_cases z0 : wd_ X p = 526131
  · simp (disch := first | omega | (repeat (first | assumption | exact Ag_r | refine Ag_I ?_ rfl | refine Ag_F ?_ rfl | refine Ag_J ?_ rfl))) only [A58, FC h.1, w0, z0, CO, HA, HB, HC, Nat.not_lt_zero, Nat.add_assoc, c_nlt, c_nle, c_neq, c_P, c_cl, c_m1, c_m1', nI_add, pk_mul, reduceIte, Nat.reduceEqDiff, Nat.reduceAdd, Nat.reduceMul, Nat.reduceLeDiff, eq_self, ↓pk_rem, pk_div, c_of, d_le, d_nle, d_lt, d_nlt, d_eq, d_ne]
  · by_cases z1 : wd_ X p = 3657363
    · simp (disch := first | omega | (repeat (first | assumption | exact Ag_r | refine Ag_I ?_ rfl | refine Ag_F ?_ rfl | refine Ag_J ?_ rfl))) only [A58, FC h.1, w0, w1, z1, CO, HA, HB, HC, Nat.not_lt_zero, Nat.add_assoc, c_nlt, c_nle, c_neq, c_P, c_cl, c_m1, c_m1', nI_add, pk_mul, reduceIte, Nat.reduceEqDiff, Nat.reduceAdd, Nat.reduceMul, Nat.reduceLeDiff, eq_self, ↓pk_rem, pk_div, c_of, d_le, d_nle, d_lt, d_nlt, d_eq, d_ne]
    · by_cases z2 : wd_ X p = 67155
      · simp (disch := first | omega | (repeat (first | assumption | exact Ag_r | refine Ag_I ?_ rfl | refine Ag_F ?_ rfl | refine Ag_J ?_ rfl))) only [A58, FC h.1, w0, w1, w2, z2, CO, HA, HB, HC, Nat.not_lt_zero, Nat.add_assoc, c_nlt, c_nle, c_neq, c_P, c_cl, c_m1, c_m1', nI_add, pk_mul, reduceIte, Nat.reduceEqDiff, Nat.reduceAdd, Nat.reduceMul, Nat.reduceLeDiff, eq_self, ↓pk_rem, pk_div, c_of, d_le, d_nle, d_lt, d_nlt, d_eq, d_ne]
      · by_cases z3 : wd_ X p = 24165011
        · simp (disch := first | omega | (repeat (first | assumption | exact Ag_r | refine Ag_I ?_ rfl | refine Ag_F ?_ rfl | refine Ag_J ?_ rfl))) only [A58, FC h.1, w0, w1, w2, w3, z3, CO, HA, HB, HC, Nat.not_lt_zero, Nat.add_assoc, c_nlt, c_nle, c_neq, c_P, c_cl, c_m1, c_m1', nI_add, pk_mul, reduceIte, Nat.reduceEqDiff, Nat.reduceAdd, Nat.reduceMul, Nat.reduceLeDiff, eq_self, ↓pk_rem, pk_div, c_of, d_le, d_nle, d_lt, d_nlt, d_eq, d_ne]
        · by_cases z4 : wd_ X p = 20099475
          · simp (disch := first | omega | (repeat (first | assumption | exact Ag_r | refine Ag_I ?_ rfl | refine Ag_F ?_ rfl | refine Ag_J ?_ rfl))) only [A58, FC h.1, w0, w1, w2, w3, w4, z4, CO, HA, HB, HC, Nat.not_lt_zero, Nat.add_assoc, c_nlt, c_nle, c_neq, c_P, c_cl, c_m1, c_m1', nI_add, pk_mul, reduceIte, Nat.reduceEqDiff, Nat.reduceAdd, Nat.reduceMul, Nat.reduceLeDiff, eq_self, ↓pk_rem, pk_div, c_of, d_le, d_nle, d_lt, d_nlt, d_eq, d_ne]
          · simp (disch := first | omega | (repeat (first | assumption | exact Ag_r | refine Ag_I ?_ rfl | refine Ag_F ?_ rfl | refine Ag_J ?_ rfl))) only [A58, FC h.1, w0, w1, w2, w3, w4, z0, z1, z2, z3, z4, CO, HA, HB, HC, Nat.not_lt_zero, Nat.add_assoc, c_nlt, c_nle, c_neq, c_P, c_cl, c_m1, c_m1', nI_add, pk_mul, reduceIte, Nat.reduceEqDiff, Nat.reduceAdd, Nat.reduceMul, Nat.reduceLeDiff, eq_self, ↓pk_rem, pk_div, c_of, d_le, d_nle, d_lt, d_nlt, d_eq, d_ne]
theorem C_cmpH (h : RdC τ X p a n) : den (d + 1, 63, 0, [.ref 14], [], τ) = some (some (.int (if cm_ X p = 0 then nI 0 else opC (cm_ X p + 3))), τ) := by
  have w := fun (d c : Nat) (hc : 0 < c) (h2 : c < 256) => CS (d := d) h hc h2
  unfold cm_
  by_cases z0 : sg_ X p = 60
  · simp (disch := first | omega | (repeat (first | assumption | exact Ag_r | refine Ag_I ?_ rfl | refine Ag_F ?_ rfl | refine Ag_J ?_ rfl))) only [A63, FC h.1, w, z0, CO, HA, HB, HC, Nat.not_lt_zero, Nat.add_assoc, c_nlt, c_nle, c_neq, c_P, c_cl, c_m1, c_m1', nI_add, pk_mul, reduceIte, Nat.reduceEqDiff, Nat.reduceAdd, Nat.reduceMul, Nat.reduceLeDiff, eq_self, ↓pk_rem, pk_div, c_of, d_le, d_nle, d_lt, d_nlt, d_eq, d_ne]
    rfl
  · by_cases z1 : sg_ X p = 62
    · simp (disch := first | omega | (repeat (first | assumption | exact Ag_r | refine Ag_I ?_ rfl | refine Ag_F ?_ rfl | refine Ag_J ?_ rfl))) only [A63, FC h.1, w, z1, CO, HA, HB, HC, Nat.not_lt_zero, Nat.add_assoc, c_nlt, c_nle, c_neq, c_P, c_cl, c_m1, c_m1', nI_add, pk_mul, reduceIte, Nat.reduceEqDiff, Nat.reduceAdd, Nat.reduceMul, Nat.reduceLeDiff, eq_self, ↓pk_rem, pk_div, c_of, d_le, d_nle, d_lt, d_nlt, d_eq, d_ne]
      rfl
    · by_cases z2 : sg_ X p = 61
      · simp (disch := first | omega | (repeat (first | assumption | exact Ag_r | refine Ag_I ?_ rfl | refine Ag_F ?_ rfl | refine Ag_J ?_ rfl))) only [A63, FC h.1, w, z2, CO, HA, HB, HC, Nat.not_lt_zero, Nat.add_assoc, c_nlt, c_nle, c_neq, c_P, c_cl, c_m1, c_m1', nI_add, pk_mul, reduceIte, Nat.reduceEqDiff, Nat.reduceAdd, Nat.reduceMul, Nat.reduceLeDiff, eq_self, ↓pk_rem, pk_div, c_of, d_le, d_nle, d_lt, d_nlt, d_eq, d_ne]
        rfl
      · simp (disch := first | omega | (repeat (first | assumption | exact Ag_r | refine Ag_I ?_ rfl | refine Ag_F ?_ rfl | refine Ag_J ?_ rfl))) only [A63, FC h.1, w, z0, z1, z2, CO, HA, HB, HC, Nat.not_lt_zero, Nat.add_assoc, c_nlt, c_nle, c_neq, c_P, c_cl, c_m1, c_m1', nI_add, pk_mul, reduceIte, Nat.reduceEqDiff, Nat.reduceAdd, Nat.reduceMul, Nat.reduceLeDiff, eq_self, ↓pk_rem, pk_div, c_of, d_le, d_nle, d_lt, d_nlt, d_eq, d_ne]
end
