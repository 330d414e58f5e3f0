/-! chains of cheapest trades on both sides -/
def upN (m : Nat → Nat) (i x : Nat) : Nat → Nat := fun j => if j = i then x else m j
def fst1 (k a b : Nat) (m : Nat → Nat) : Nat → Nat := upN m (8 * a + b) (min (m (8 * a + b)) (m (8 * a + k) + m (8 * k + b)))
def flb (k a : Nat) (m : Nat → Nat) : Nat → Nat → Nat
  | 0 => m
  | n + 1 => fst1 k a n (flb k a m n)
def fla (v k : Nat) (m : Nat → Nat) : Nat → Nat → Nat
  | 0 => m
  | n + 1 => flb k n (fla v k m n) v
def flk (v : Nat) (m : Nat → Nat) : Nat → Nat → Nat
  | 0 => m
  | n + 1 => fla v n (flk v m n) v
/-- what one trade costs -/
def co0 (T : Tl) (H : Nat → Nat) (v : Nat) : Nat → Nat := fun x => if x / 8 = x % 8 then 0 else (tv T 1 (cosW (x / 8) (x % 8) (hd H v (x % 8))) 0 99).toNat
def Mx (c : Nat) (τ : Hp) (v : Nat) (m : Nat → Nat) : Prop := ∀ a b, a < v → b < v → hI τ c (8 * a + b) = nI (m (8 * a + b)) ∧ m (8 * a + b) ≤ 99
theorem Mx_st {c : Nat} {τ : Hp} {v : Nat} {m : Nat → Nat} (h : Mx c τ v m) (hv : v ≤ 8) {k a b : Nat} (hk : k < v) (ha : a < v) (hb : b < v) : Mx c (sI τ c (upd (hI τ c) (8 * a + b) (nI (min (m (8 * a + b)) (m (8 * a + k) + m (8 * k + b)))))) v (fst1 k a b m) := by
  intro a' b' ha' hb'
  simp only [HA, reduceIte, ua, fst1, upN]
  have h1 := (h a b ha hb).2
  by_cases z : 8 * a' + b' = 8 * a + b
  · rw [if_pos z, if_pos z]
    exact ⟨rfl, by omega⟩
  · rw [if_neg z, if_neg z]
    exact h a' b' ha' hb'
theorem tv_n (T : Tl) (h : Nat) (w : Wd) : zI (tv T h w 0 99) = nI (tv T h w 0 99).toNat ∧ (tv T h w 0 99).toNat ≤ 99 := by
  have b : 0 ≤ tv T h w 0 99 ∧ tv T h w 0 99 ≤ 99 := by
    unfold tv
    cases T h w with
    | none => exact ⟨by decide, by decide⟩
    | some z => show 0 ≤ clp 0 99 z ∧ clp 0 99 z ≤ 99; unfold clp; split <;> (try split) <;> omega
  refine ⟨?_, by omega⟩
  rw [← zI_n]
  congr 1
  omega
/-- what the class's feast may change while it lays roads -/
def Qr (σ τ : Hp) : Prop := Ag (fun k => Nat.beq k 19 || Nat.beq k 20 || Nat.beq k 24) (fun k j => Nat.beq k 18 && (Nat.beq j 2 || Nat.beq j 3)) σ τ
theorem Qw_r {σ τ : Hp} (g : Qw σ τ) : Qr σ τ := Ag_w g (fun k e => by rw [e, Bool.true_or]) (fun _ _ e => e)
theorem Qr_c {σ τ : Hp} (g : Qr σ τ) : Qc σ τ := Ag_w g (fun k e => by
  simp only [Bool.or_eq_true] at e
  rcases e with (e | e) | e <;> (have := Nat.eq_of_beq_eq_true e; subst this; rfl)) (fun k j e => by
  simp only [Bool.and_eq_true, Bool.or_eq_true] at e
  obtain ⟨e1, e2 | e2⟩ := e <;>
  · have e1 := Nat.eq_of_beq_eq_true e1
    have e2 := Nat.eq_of_beq_eq_true e2
    subst e1 e2; rfl)
theorem Cal_r {σ τ : Hp} {v : Nat} {H : Nat → Nat} (g : Qr σ τ) (h : Cal σ v H) : Cal τ v H := fun u e hu he => by rw [Ag_i g 22 rfl]; exact h u e hu he
def Qy (σ τ : Hp) : Prop := Ag (fun k => Nat.beq k 70 || Nat.beq k 71 || Nat.beq k 78) (fun k j => Nat.beq k 57 && (Nat.beq j 27 || Nat.beq j 30 || Nat.beq j 31 || Nat.beq j 32)) σ τ
theorem Qs_y {σ τ : Hp} (g : Qs σ τ) : Qy σ τ := Ag_w g (fun k e => by rw [e, Bool.true_or]) (fun _ _ e => e)
theorem Qy_m {σ τ : Hp} (g : Qy σ τ) : Qm σ τ := Ag_w g (fun k e => by
  simp only [Bool.or_eq_true] at e
  rcases e with (e | e) | e <;> (have := Nat.eq_of_beq_eq_true e; subst this; rfl)) (fun k j e => by
  simp only [Bool.and_eq_true, Bool.or_eq_true] at e
  obtain ⟨e1, ((e2 | e2) | e2) | e2⟩ := e <;>
  · have e1 := Nat.eq_of_beq_eq_true e1
    have e2 := Nat.eq_of_beq_eq_true e2
    subst e1 e2; rfl)
theorem HoM_y {τ υ : Hp} {K P : Nat → Nat} (g : Qy τ υ) (h : HoM τ K P) : HoM υ K P := ⟨fun c hc => by rw [Ag_i g 72 rfl]; exact h.1 c hc, fun u hu => by rw [Ag_i g 73 rfl]; exact h.2 u hu⟩
theorem mn_if {x y : Nat} (h : x < 2 ^ 31) (h2 : y < 2 ^ 31) : (if x < y then nI x else nI y) = nI (min y x) := by
  by_cases z : x < y
  · rw [if_pos z, show min y x = x by omega]
  · rw [if_neg z, show min y x = y by omega]
section
variable {d v : Nat} {H rn : Nat → Nat} {σ ρ τ : Hp} {T : Tl}
theorem C_layRoads (hC : FxC σ) (sC : StC σ v H) (hw : Wf v H) (lf : LfC σ T) (hq : Qc σ τ) (hcal : Cal τ v H) : Ev (den (d + 6, 19, 0, [.ref 23, .ref 1, .ref 21, .ref 18, .float 0, .float 0, .float 0, .float 0, .float 0], [], τ)) (fun a υ => a = none ∧ Qr τ υ ∧ Mx 24 υ v (flk v (co0 T H v) v)) := by
  have hv8 := hw.2.1
  have h' := Qc_C hq hC
  -- the second half
  have ph2 : ∀ (x : Hp × Value × Value × Value), (Qr τ x.1 ∧ Mx 24 x.1 v (co0 T H v)) → Ev (den (d + 6, 19, 84, [.ref 23, .ref 1, .ref 21, .ref 18, .int (nI v), .int (nI 0), x.2.1, x.2.2.1, x.2.2.2], [], x.1)) (fun a υ => a = none ∧ Qr τ υ ∧ Mx 24 υ v (flk v (co0 T H v) v)) := by
    intro x hx
    refine lp (α := Hp × Value × Value × Value) (h := fun i x => (d + 6, 19, 84, [.ref 23, .ref 1, .ref 21, .ref 18, .int (nI v), .int (nI i), x.2.1, x.2.2.1, x.2.2.2], [], x.1)) (I := fun i x => Qr τ x.1 ∧ Mx 24 x.1 v (flk v (co0 T H v) i)) v ?_ ?_ 0 x (Nat.zero_le _) hx
    · intro k ⟨υ, l1, l2, l3⟩ hk ⟨g1, m1⟩ nx1
      show Ev (den (d + 6, 19, 84, [.ref 23, .ref 1, .ref 21, .ref 18, .int (nI v), .int (nI k), l1, l2, l3], [], υ)) _
      rw [a19_84]
      simp (disch := first | omega | (repeat (first | assumption | exact Ag_r | refine Ag_I ?_ rfl | refine Ag_F ?_ rfl | refine Ag_J ?_ rfl))) only [A19, CO, HA, HB, HC, Nat.not_lt_zero, Nat.add_assoc, c_nlt, c_nle, c_neq, c_P, c_cl, c_m1, c_m1', nI_add, pk_mul, reduceIte, Nat.reduceEqDiff, Nat.reduceAdd, Nat.reduceMul, Nat.reduceLeDiff, eq_self, ↓pk_rem, pk_div, c_of, d_le, d_nle, d_lt, d_nlt, d_eq, d_ne]
      refine lp (α := Hp × Value × Value) (h := fun i x => (d + 6, 19, 94, [.ref 23, .ref 1, .ref 21, .ref 18, .int (nI v), .int (nI k), .int (nI i), x.2.1, x.2.2], [], x.1)) (I := fun i x => Qr τ x.1 ∧ Mx 24 x.1 v (fla v k (flk v (co0 T H v) k) i)) v ?_ ?_ 0 (υ, l2, l3) (Nat.zero_le _) ⟨g1, m1⟩
      · intro a ⟨υ, l2, l3⟩ ha ⟨g1, m1⟩ nx2
        show Ev (den (d + 6, 19, 94, [.ref 23, .ref 1, .ref 21, .ref 18, .int (nI v), .int (nI k), .int (nI a), l2, l3], [], υ)) _
        rw [a19_94]
        simp (disch := first | omega | (repeat (first | assumption | exact Ag_r | refine Ag_I ?_ rfl | refine Ag_F ?_ rfl | refine Ag_J ?_ rfl))) only [A19, CO, HA, HB, HC, Nat.not_lt_zero, Nat.add_assoc, c_nlt, c_nle, c_neq, c_P, c_cl, c_m1, c_m1', nI_add, pk_mul, reduceIte, Nat.reduceEqDiff, Nat.reduceAdd, Nat.reduceMul, Nat.reduceLeDiff, eq_self, ↓pk_rem, pk_div, c_of, d_le, d_nle, d_lt, d_nlt, d_eq, d_ne]
        refine lp (α := Hp × Value) (h := fun i x => (d + 6, 19, 104, [.ref 23, .ref 1, .ref 21, .ref 18, .int (nI v), .int (nI k), .int (nI a), .int (nI i), x.2], [], x.1)) (I := fun i x => Qr τ x.1 ∧ Mx 24 x.1 v (flb k a (fla v k (flk v (co0 T H v) k) a) i)) v ?_ ?_ 0 (υ, l3) (Nat.zero_le _) ⟨g1, m1⟩
        · intro b ⟨υ, l3⟩ hb ⟨g1, m1⟩ nx3
          show Ev (den (d + 6, 19, 104, [.ref 23, .ref 1, .ref 21, .ref 18, .int (nI v), .int (nI k), .int (nI a), .int (nI b), l3], [], υ)) _
          have h2 := Qc_C (Ag_t hq (Qr_c g1)) hC
          obtain ⟨p1, q1⟩ := m1 a k ha hk
          obtain ⟨p2, q2⟩ := m1 k b hk hb
          obtain ⟨p3, q3⟩ := m1 a b ha hb
          have nx := nx3 (sI υ 24 (upd (hI υ 24) (8 * a + b) (nI (min (flb k a (fla v k (flk v (co0 T H v) k) a) b (8 * a + b)) (flb k a (fla v k (flk v (co0 T H v) k) a) b (8 * a + k) + flb k a (fla v k (flk v (co0 T H v) k) a) b (8 * k + b))))), .int (nI (flb k a (fla v k (flk v (co0 T H v) k) a) b (8 * a + k) + flb k a (fla v k (flk v (co0 T H v) k) a) b (8 * k + b)))) ⟨Ag_I g1 rfl, Mx_st m1 hv8 hk ha hb⟩
          generalize flb k a (fla v k (flk v (co0 T H v) k) a) b = m at nx p1 p2 p3 q1 q2 q3
          refine Ev_e ?_ nx
          rw [a19_104]
          simp (disch := first | omega | (repeat (first | assumption | exact Ag_r | refine Ag_I ?_ rfl | refine Ag_F ?_ rfl | refine Ag_J ?_ rfl))) only [A19, A20, FC h2, Nat.mul_comm a 8, Nat.mul_comm k 8, p1, p2, p3, mn_if, CO, HA, HB, HC, Nat.not_lt_zero, Nat.add_assoc, c_nlt, c_nle, c_neq, c_P, c_cl, c_m1, c_m1', nI_add, pk_mul, reduceIte, Nat.reduceEqDiff, Nat.reduceAdd, Nat.reduceMul, Nat.reduceLeDiff, eq_self, ↓pk_rem, pk_div, c_of, d_le, d_nle, d_lt, d_nlt, d_eq, d_ne]
        · intro ⟨υ, l3⟩ ⟨g1, m1⟩
          refine Ev_e ?_ (nx2 (υ, .int (nI v), l3) ⟨g1, m1⟩)
          show den (d + 6, 19, 104, [.ref 23, .ref 1, .ref 21, .ref 18, .int (nI v), .int (nI k), .int (nI a), .int (nI v), l3], [], υ) = _
          rw [a19_104]
          simp (disch := first | omega | (repeat (first | assumption | exact Ag_r | refine Ag_I ?_ rfl | refine Ag_F ?_ rfl | refine Ag_J ?_ rfl))) only [A19, CO, HA, HB, HC, Nat.not_lt_zero, Nat.add_assoc, c_nlt, c_nle, c_neq, c_P, c_cl, c_m1, c_m1', nI_add, pk_mul, reduceIte, Nat.reduceEqDiff, Nat.reduceAdd, Nat.reduceMul, Nat.reduceLeDiff, eq_self, ↓pk_rem, pk_div, c_of, d_le, d_nle, d_lt, d_nlt, d_eq, d_ne]
      · intro ⟨υ, l2, l3⟩ ⟨g1, m1⟩
        refine Ev_e ?_ (nx1 (υ, .int (nI v), l2, l3) ⟨g1, m1⟩)
        show den (d + 6, 19, 94, [.ref 23, .ref 1, .ref 21, .ref 18, .int (nI v), .int (nI k), .int (nI v), l2, l3], [], υ) = _
        rw [a19_94]
        simp (disch := first | omega | (repeat (first | assumption | exact Ag_r | refine Ag_I ?_ rfl | refine Ag_F ?_ rfl | refine Ag_J ?_ rfl))) only [A19, CO, HA, HB, HC, Nat.not_lt_zero, Nat.add_assoc, c_nlt, c_nle, c_neq, c_P, c_cl, c_m1, c_m1', nI_add, pk_mul, reduceIte, Nat.reduceEqDiff, Nat.reduceAdd, Nat.reduceMul, Nat.reduceLeDiff, eq_self, ↓pk_rem, pk_div, c_of, d_le, d_nle, d_lt, d_nlt, d_eq, d_ne]
    · intro ⟨υ, l1, l2, l3⟩ ⟨g1, m1⟩
      show Ev (den (d + 6, 19, 84, [.ref 23, .ref 1, .ref 21, .ref 18, .int (nI v), .int (nI v), l1, l2, l3], [], υ)) _
      rw [a19_84]
      simp (disch := first | omega | (repeat (first | assumption | exact Ag_r | refine Ag_I ?_ rfl | refine Ag_F ?_ rfl | refine Ag_J ?_ rfl))) only [A19, CO, HA, HB, HC, Nat.not_lt_zero, Nat.add_assoc, c_nlt, c_nle, c_neq, c_P, c_cl, c_m1, c_m1', nI_add, pk_mul, reduceIte, Nat.reduceEqDiff, Nat.reduceAdd, Nat.reduceMul, Nat.reduceLeDiff, eq_self, ↓pk_rem, pk_div, c_of, d_le, d_nle, d_lt, d_nlt, d_eq, d_ne]
      exact Ev_s ⟨rfl, g1, m1⟩
  have e1 := Ag_f hq 1 0 rfl
  simp (disch := first | omega | (repeat (first | assumption | exact Ag_r | refine Ag_I ?_ rfl | refine Ag_F ?_ rfl | refine Ag_J ?_ rfl))) only [A19, FC h', e1, sC.1, CO, HA, HB, HC, Nat.not_lt_zero, Nat.add_assoc, c_nlt, c_nle, c_neq, c_P, c_cl, c_m1, c_m1', nI_add, pk_mul, reduceIte, Nat.reduceEqDiff, Nat.reduceAdd, Nat.reduceMul, Nat.reduceLeDiff, eq_self, ↓pk_rem, pk_div, c_of, d_le, d_nle, d_lt, d_nlt, d_eq, d_ne]
  refine lp (α := Hp × Value × Value × Value) (h := fun i x => (d + 6, 19, 9, [.ref 23, .ref 1, .ref 21, .ref 18, .int (nI v), .int (nI i), x.2.1, x.2.2.1, x.2.2.2], [], x.1)) (I := fun i x => Qr τ x.1 ∧ ∀ a b, a < i → b < v → hI x.1 24 (8 * a + b) = nI (co0 T H v (8 * a + b))) v ?_ ?_ 0 (τ, .float 0, .float 0, .float 0) (Nat.zero_le _) ⟨Ag_r, fun a b ha => absurd ha (Nat.not_lt_zero a)⟩
  · intro a ⟨υ, l1, l2, l3⟩ ha ⟨g1, m1⟩ nx1
    show Ev (den (d + 6, 19, 9, [.ref 23, .ref 1, .ref 21, .ref 18, .int (nI v), .int (nI a), l1, l2, l3], [], υ)) _
    rw [a19_9]
    simp (disch := first | omega | (repeat (first | assumption | exact Ag_r | refine Ag_I ?_ rfl | refine Ag_F ?_ rfl | refine Ag_J ?_ rfl))) only [A19, CO, HA, HB, HC, Nat.not_lt_zero, Nat.add_assoc, c_nlt, c_nle, c_neq, c_P, c_cl, c_m1, c_m1', nI_add, pk_mul, reduceIte, Nat.reduceEqDiff, Nat.reduceAdd, Nat.reduceMul, Nat.reduceLeDiff, eq_self, ↓pk_rem, pk_div, c_of, d_le, d_nle, d_lt, d_nlt, d_eq, d_ne]
    refine lp (α := Hp × Value × Value) (h := fun i x => (d + 6, 19, 19, [.ref 23, .ref 1, .ref 21, .ref 18, .int (nI v), .int (nI a), .int (nI i), x.2.1, x.2.2], [], x.1)) (I := fun i x => Qr τ x.1 ∧ ∀ a' b, b < v → (a' < a ∨ (a' = a ∧ b < i)) → hI x.1 24 (8 * a' + b) = nI (co0 T H v (8 * a' + b))) v ?_ ?_ 0 (υ, l2, l3) (Nat.zero_le _) ⟨g1, fun a' b hb hz => m1 a' b (by omega) hb⟩
    · intro b ⟨υ, l2, l3⟩ hb ⟨g1, m1⟩ nx2
      have hq2 : Qc σ υ := Ag_t hq (Qr_c g1)
      have h2 := Qc_C hq2 hC
      have dv : (8 * a + b) / 8 = a := by omega
      have dm : (8 * a + b) % 8 = b := by omega
      have put : ∀ (ω : Hp) (x : Int32), Qr υ ω → hI ω 24 = hI υ 24 → x = nI (co0 T H v (8 * a + b)) → Ev (den (d + 6, 19, 19, [.ref 23, .ref 1, .ref 21, .ref 18, .int (nI v), .int (nI a), .int (nI (b + 1)), .int x, l3], [], sI ω 24 (upd (hI ω 24) (8 * a + b) x))) (fun a υ => a = none ∧ Qr τ υ ∧ Mx 24 υ v (flk v (co0 T H v) v)) := by
        intro ω x g g24 hx
        subst hx
        refine nx2 (sI ω 24 (upd (hI ω 24) (8 * a + b) (nI (co0 T H v (8 * a + b)))), .int (nI (co0 T H v (8 * a + b))), l3) ⟨Ag_I (Ag_t g1 g) rfl, fun a' b' hb' hz => ?_⟩
        simp only [HA, reduceIte, ua]
        by_cases y : 8 * a' + b' = 8 * a + b
        · rw [if_pos y, y]
        · rw [if_neg y, g24]
          exact m1 a' b' hb' (by omega)
      show Ev (den (d + 6, 19, 19, [.ref 23, .ref 1, .ref 21, .ref 18, .int (nI v), .int (nI a), .int (nI b), l2, l3], [], υ)) _
      rw [a19_19]
      by_cases z : a = b
      · simp (disch := first | omega | (repeat (first | assumption | exact Ag_r | refine Ag_I ?_ rfl | refine Ag_F ?_ rfl | refine Ag_J ?_ rfl))) only [A19, FC h2, z, Nat.mul_comm b 8, CO, HA, HB, HC, Nat.not_lt_zero, Nat.add_assoc, c_nlt, c_nle, c_neq, c_P, c_cl, c_m1, c_m1', nI_add, pk_mul, reduceIte, Nat.reduceEqDiff, Nat.reduceAdd, Nat.reduceMul, Nat.reduceLeDiff, eq_self, ↓pk_rem, pk_div, c_of, d_le, d_nle, d_lt, d_nlt, d_eq, d_ne]
        have := put υ (nI 0) Ag_r rfl (by unfold co0; rw [if_pos (by omega)])
        rw [z] at this
        exact this
      · simp (disch := first | omega | (repeat (first | assumption | exact Ag_r | refine Ag_I ?_ rfl | refine Ag_F ?_ rfl | refine Ag_J ?_ rfl))) only [A19, FC h2, z, C_total hC hv8 (show b < 8 by omega) hq2 (Cal_r g1 hcal), CO, HA, HB, HC, Nat.not_lt_zero, Nat.add_assoc, c_nlt, c_nle, c_neq, c_P, c_cl, c_m1, c_m1', nI_add, pk_mul, reduceIte, Nat.reduceEqDiff, Nat.reduceAdd, Nat.reduceMul, Nat.reduceLeDiff, eq_self, ↓pk_rem, pk_div, c_of, d_le, d_nle, d_lt, d_nlt, d_eq, d_ne]
        refine Ev_b (C_costOf (d := d) hC lf (by omega) (by omega) (hd_le H b hv8) hq2) ?_
        rintro _ ω ⟨rfl, g2⟩
        have h3 := Qc_C (Ag_t hq2 (Qw_c g2)) hC
        have tn := tv_n T 1 (cosW a b (hd H v b))
        have := put ω (zI (tv T 1 (cosW a b (hd H v b)) 0 99)) (Qw_r g2) (Ag_i g2 24 rfl) (by unfold co0; rw [if_neg (by omega), dv, dm]; exact tn.1)
        refine Ev_e ?_ this
        simp (disch := first | omega | (repeat (first | assumption | exact Ag_r | refine Ag_I ?_ rfl | refine Ag_F ?_ rfl | refine Ag_J ?_ rfl))) only [A19, FC h3, Nat.mul_comm a 8, CO, HA, HB, HC, Nat.not_lt_zero, Nat.add_assoc, c_nlt, c_nle, c_neq, c_P, c_cl, c_m1, c_m1', nI_add, pk_mul, reduceIte, Nat.reduceEqDiff, Nat.reduceAdd, Nat.reduceMul, Nat.reduceLeDiff, eq_self, ↓pk_rem, pk_div, c_of, d_le, d_nle, d_lt, d_nlt, d_eq, d_ne]
    · intro ⟨υ, l2, l3⟩ ⟨g1, m1⟩
      refine Ev_e ?_ (nx1 (υ, .int (nI v), l2, l3) ⟨g1, fun a' b ha' hb => m1 a' b hb (by omega)⟩)
      show den (d + 6, 19, 19, [.ref 23, .ref 1, .ref 21, .ref 18, .int (nI v), .int (nI a), .int (nI v), l2, l3], [], υ) = _
      rw [a19_19]
      simp (disch := first | omega | (repeat (first | assumption | exact Ag_r | refine Ag_I ?_ rfl | refine Ag_F ?_ rfl | refine Ag_J ?_ rfl))) only [A19, CO, HA, HB, HC, Nat.not_lt_zero, Nat.add_assoc, c_nlt, c_nle, c_neq, c_P, c_cl, c_m1, c_m1', nI_add, pk_mul, reduceIte, Nat.reduceEqDiff, Nat.reduceAdd, Nat.reduceMul, Nat.reduceLeDiff, eq_self, ↓pk_rem, pk_div, c_of, d_le, d_nle, d_lt, d_nlt, d_eq, d_ne]
  · intro ⟨υ, l1, l2, l3⟩ ⟨g1, m1⟩
    refine Ev_e ?_ (ph2 (υ, l1, l2, l3) ⟨g1, fun a b ha hb => ⟨m1 a b ha hb, ?_⟩⟩)
    · show den (d + 6, 19, 9, [.ref 23, .ref 1, .ref 21, .ref 18, .int (nI v), .int (nI v), l1, l2, l3], [], υ) = _
      rw [a19_9]
      simp (disch := first | omega | (repeat (first | assumption | exact Ag_r | refine Ag_I ?_ rfl | refine Ag_F ?_ rfl | refine Ag_J ?_ rfl))) only [A19, CO, HA, HB, HC, Nat.not_lt_zero, Nat.add_assoc, c_nlt, c_nle, c_neq, c_P, c_cl, c_m1, c_m1', nI_add, pk_mul, reduceIte, Nat.reduceEqDiff, Nat.reduceAdd, Nat.reduceMul, Nat.reduceLeDiff, eq_self, ↓pk_rem, pk_div, c_of, d_le, d_nle, d_lt, d_nlt, d_eq, d_ne]
    · unfold co0
      split
      · omega
      · exact (tv_n T 1 _).2
theorem M_findChains (hM : FxM ρ) (sM : StM ρ v H) (hw : Wf v H) (lf : LfM ρ T) {K : Nat → Nat} (hq : Qm ρ τ) (ho : HoM τ K (hd H v)) : Ev (den (d + 6, 203, 0, [.ref 57, .float 0, .float 0, .float 0, .float 0, .float 0], [], τ)) (fun a υ => a = none ∧ Qy τ υ ∧ Mx 78 υ v (flk v (co0 T H v) v)) := by
  have hv8 := hw.2.1
  have h' := Qm_M hq hM
  -- the second half
  have ph2 : ∀ (x : Hp × Value × Value × Value), (Qy τ x.1 ∧ Mx 78 x.1 v (co0 T H v)) → Ev (den (d + 6, 203, 71, [.ref 57, .int (nI v), .int (nI 0), x.2.1, x.2.2.1, x.2.2.2], [], x.1)) (fun a υ => a = none ∧ Qy τ υ ∧ Mx 78 υ v (flk v (co0 T H v) v)) := by
    intro x hx
    refine lp (α := Hp × Value × Value × Value) (h := fun i x => (d + 6, 203, 71, [.ref 57, .int (nI v), .int (nI i), x.2.1, x.2.2.1, x.2.2.2], [], x.1)) (I := fun i x => Qy τ x.1 ∧ Mx 78 x.1 v (flk v (co0 T H v) i)) v ?_ ?_ 0 x (Nat.zero_le _) hx
    · intro k ⟨υ, l1, l2, l3⟩ hk ⟨g1, m1⟩ nx1
      show Ev (den (d + 6, 203, 71, [.ref 57, .int (nI v), .int (nI k), l1, l2, l3], [], υ)) _
      rw [a203_71]
      simp (disch := first | omega | (repeat (first | assumption | exact Ag_r | refine Ag_I ?_ rfl | refine Ag_F ?_ rfl | refine Ag_J ?_ rfl))) only [A203, CO, HA, HB, HC, Nat.not_lt_zero, Nat.add_assoc, c_nlt, c_nle, c_neq, c_P, c_cl, c_m1, c_m1', nI_add, pk_mul, reduceIte, Nat.reduceEqDiff, Nat.reduceAdd, Nat.reduceMul, Nat.reduceLeDiff, eq_self, ↓pk_rem, pk_div, c_of, d_le, d_nle, d_lt, d_nlt, d_eq, d_ne]
      refine lp (α := Hp × Value × Value) (h := fun i x => (d + 6, 203, 78, [.ref 57, .int (nI v), .int (nI k), .int (nI i), x.2.1, x.2.2], [], x.1)) (I := fun i x => Qy τ x.1 ∧ Mx 78 x.1 v (fla v k (flk v (co0 T H v) k) i)) v ?_ ?_ 0 (υ, l2, l3) (Nat.zero_le _) ⟨g1, m1⟩
      · intro a ⟨υ, l2, l3⟩ ha ⟨g1, m1⟩ nx2
        show Ev (den (d + 6, 203, 78, [.ref 57, .int (nI v), .int (nI k), .int (nI a), l2, l3], [], υ)) _
        rw [a203_78]
        simp (disch := first | omega | (repeat (first | assumption | exact Ag_r | refine Ag_I ?_ rfl | refine Ag_F ?_ rfl | refine Ag_J ?_ rfl))) only [A203, CO, HA, HB, HC, Nat.not_lt_zero, Nat.add_assoc, c_nlt, c_nle, c_neq, c_P, c_cl, c_m1, c_m1', nI_add, pk_mul, reduceIte, Nat.reduceEqDiff, Nat.reduceAdd, Nat.reduceMul, Nat.reduceLeDiff, eq_self, ↓pk_rem, pk_div, c_of, d_le, d_nle, d_lt, d_nlt, d_eq, d_ne]
        refine lp (α := Hp × Value) (h := fun i x => (d + 6, 203, 86, [.ref 57, .int (nI v), .int (nI k), .int (nI a), .int (nI i), x.2], [], x.1)) (I := fun i x => Qy τ x.1 ∧ Mx 78 x.1 v (flb k a (fla v k (flk v (co0 T H v) k) a) i)) v ?_ ?_ 0 (υ, l3) (Nat.zero_le _) ⟨g1, m1⟩
        · intro b ⟨υ, l3⟩ hb ⟨g1, m1⟩ nx3
          show Ev (den (d + 6, 203, 86, [.ref 57, .int (nI v), .int (nI k), .int (nI a), .int (nI b), l3], [], υ)) _
          have h2 := Qm_M (Ag_t hq (Qy_m g1)) hM
          obtain ⟨p1, q1⟩ := m1 a k ha hk
          obtain ⟨p2, q2⟩ := m1 k b hk hb
          obtain ⟨p3, q3⟩ := m1 a b ha hb
          have nx := nx3 (sI υ 78 (upd (hI υ 78) (8 * a + b) (nI (min (flb k a (fla v k (flk v (co0 T H v) k) a) b (8 * a + b)) (flb k a (fla v k (flk v (co0 T H v) k) a) b (8 * a + k) + flb k a (fla v k (flk v (co0 T H v) k) a) b (8 * k + b))))), .int (nI (flb k a (fla v k (flk v (co0 T H v) k) a) b (8 * a + k) + flb k a (fla v k (flk v (co0 T H v) k) a) b (8 * k + b)))) ⟨Ag_I g1 rfl, Mx_st m1 hv8 hk ha hb⟩
          generalize flb k a (fla v k (flk v (co0 T H v) k) a) b = m at nx p1 p2 p3 q1 q2 q3
          refine Ev_e ?_ nx
          rw [a203_86]
          by_cases z : m (8 * a + k) + m (8 * k + b) < m (8 * a + b)
          · rw [show min (m (8 * a + b)) (m (8 * a + k) + m (8 * k + b)) = m (8 * a + k) + m (8 * k + b) by omega]
            simp (disch := first | omega | (repeat (first | assumption | exact Ag_r | refine Ag_I ?_ rfl | refine Ag_F ?_ rfl | refine Ag_J ?_ rfl))) only [A203, FM h2, p1, p2, p3, z, CO, HA, HB, HC, Nat.not_lt_zero, Nat.add_assoc, c_nlt, c_nle, c_neq, c_P, c_cl, c_m1, c_m1', nI_add, pk_mul, reduceIte, Nat.reduceEqDiff, Nat.reduceAdd, Nat.reduceMul, Nat.reduceLeDiff, eq_self, ↓pk_rem, pk_div, c_of, d_le, d_nle, d_lt, d_nlt, d_eq, d_ne]
          · rw [show min (m (8 * a + b)) (m (8 * a + k) + m (8 * k + b)) = m (8 * a + b) by omega]
            simp (disch := first | omega | (repeat (first | assumption | exact Ag_r | refine Ag_I ?_ rfl | refine Ag_F ?_ rfl | refine Ag_J ?_ rfl))) only [A203, FM h2, p1, p2, p3, z, CO, HA, HB, HC, Nat.not_lt_zero, Nat.add_assoc, c_nlt, c_nle, c_neq, c_P, c_cl, c_m1, c_m1', nI_add, pk_mul, reduceIte, Nat.reduceEqDiff, Nat.reduceAdd, Nat.reduceMul, Nat.reduceLeDiff, eq_self, ↓pk_rem, pk_div, c_of, d_le, d_nle, d_lt, d_nlt, d_eq, d_ne]
        · intro ⟨υ, l3⟩ ⟨g1, m1⟩
          refine Ev_e ?_ (nx2 (υ, .int (nI v), l3) ⟨g1, m1⟩)
          show den (d + 6, 203, 86, [.ref 57, .int (nI v), .int (nI k), .int (nI a), .int (nI v), l3], [], υ) = _
          rw [a203_86]
          simp (disch := first | omega | (repeat (first | assumption | exact Ag_r | refine Ag_I ?_ rfl | refine Ag_F ?_ rfl | refine Ag_J ?_ rfl))) only [A203, CO, HA, HB, HC, Nat.not_lt_zero, Nat.add_assoc, c_nlt, c_nle, c_neq, c_P, c_cl, c_m1, c_m1', nI_add, pk_mul, reduceIte, Nat.reduceEqDiff, Nat.reduceAdd, Nat.reduceMul, Nat.reduceLeDiff, eq_self, ↓pk_rem, pk_div, c_of, d_le, d_nle, d_lt, d_nlt, d_eq, d_ne]
      · intro ⟨υ, l2, l3⟩ ⟨g1, m1⟩
        refine Ev_e ?_ (nx1 (υ, .int (nI v), l2, l3) ⟨g1, m1⟩)
        show den (d + 6, 203, 78, [.ref 57, .int (nI v), .int (nI k), .int (nI v), l2, l3], [], υ) = _
        rw [a203_78]
        simp (disch := first | omega | (repeat (first | assumption | exact Ag_r | refine Ag_I ?_ rfl | refine Ag_F ?_ rfl | refine Ag_J ?_ rfl))) only [A203, CO, HA, HB, HC, Nat.not_lt_zero, Nat.add_assoc, c_nlt, c_nle, c_neq, c_P, c_cl, c_m1, c_m1', nI_add, pk_mul, reduceIte, Nat.reduceEqDiff, Nat.reduceAdd, Nat.reduceMul, Nat.reduceLeDiff, eq_self, ↓pk_rem, pk_div, c_of, d_le, d_nle, d_lt, d_nlt, d_eq, d_ne]
    · intro ⟨υ, l1, l2, l3⟩ ⟨g1, m1⟩
      show Ev (den (d + 6, 203, 71, [.ref 57, .int (nI v), .int (nI v), l1, l2, l3], [], υ)) _
      rw [a203_71]
      simp (disch := first | omega | (repeat (first | assumption | exact Ag_r | refine Ag_I ?_ rfl | refine Ag_F ?_ rfl | refine Ag_J ?_ rfl))) only [A203, CO, HA, HB, HC, Nat.not_lt_zero, Nat.add_assoc, c_nlt, c_nle, c_neq, c_P, c_cl, c_m1, c_m1', nI_add, pk_mul, reduceIte, Nat.reduceEqDiff, Nat.reduceAdd, Nat.reduceMul, Nat.reduceLeDiff, eq_self, ↓pk_rem, pk_div, c_of, d_le, d_nle, d_lt, d_nlt, d_eq, d_ne]
      exact Ev_s ⟨rfl, g1, m1⟩
  simp (disch := first | omega | (repeat (first | assumption | exact Ag_r | refine Ag_I ?_ rfl | refine Ag_F ?_ rfl | refine Ag_J ?_ rfl))) only [A203, FM h', M_villages' hM hq, sM.1, CO, HA, HB, HC, Nat.not_lt_zero, Nat.add_assoc, c_nlt, c_nle, c_neq, c_P, c_cl, c_m1, c_m1', nI_add, pk_mul, reduceIte, Nat.reduceEqDiff, Nat.reduceAdd, Nat.reduceMul, Nat.reduceLeDiff, eq_self, ↓pk_rem, pk_div, c_of, d_le, d_nle, d_lt, d_nlt, d_eq, d_ne]
  refine lp (α := Hp × Value × Value × Value) (h := fun i x => (d + 6, 203, 7, [.ref 57, .int (nI v), .int (nI i), x.2.1, x.2.2.1, x.2.2.2], [], x.1)) (I := fun i x => Qy τ x.1 ∧ ∀ a b, a < i → b < v → hI x.1 78 (8 * a + b) = nI (co0 T H v (8 * a + b))) v ?_ ?_ 0 (τ, .float 0, .float 0, .float 0) (Nat.zero_le _) ⟨Ag_r, fun a b ha => absurd ha (Nat.not_lt_zero a)⟩
  · intro a ⟨υ, l1, l2, l3⟩ ha ⟨g1, m1⟩ nx1
    show Ev (den (d + 6, 203, 7, [.ref 57, .int (nI v), .int (nI a), l1, l2, l3], [], υ)) _
    rw [a203_7]
    simp (disch := first | omega | (repeat (first | assumption | exact Ag_r | refine Ag_I ?_ rfl | refine Ag_F ?_ rfl | refine Ag_J ?_ rfl))) only [A203, CO, HA, HB, HC, Nat.not_lt_zero, Nat.add_assoc, c_nlt, c_nle, c_neq, c_P, c_cl, c_m1, c_m1', nI_add, pk_mul, reduceIte, Nat.reduceEqDiff, Nat.reduceAdd, Nat.reduceMul, Nat.reduceLeDiff, eq_self, ↓pk_rem, pk_div, c_of, d_le, d_nle, d_lt, d_nlt, d_eq, d_ne]
    refine lp (α := Hp) (h := fun i x => (d + 6, 203, 14, [.ref 57, .int (nI v), .int (nI a), .int (nI i), l2, l3], [], x)) (I := fun i x => Qy τ x ∧ ∀ a' b, b < v → (a' < a ∨ (a' = a ∧ b < i)) → hI x 78 (8 * a' + b) = nI (co0 T H v (8 * a' + b))) v ?_ ?_ 0 υ (Nat.zero_le _) ⟨g1, fun a' b hb hz => m1 a' b (by omega) hb⟩
    · intro b υ hb ⟨g1, m1⟩ nx2
      have hq2 : Qm ρ υ := Ag_t hq (Qy_m g1)
      have h2 := Qm_M hq2 hM
      have dv : (8 * a + b) / 8 = a := by omega
      have dm : (8 * a + b) % 8 = b := by omega
      have put : ∀ (ω : Hp) (x : Int32), Qy υ ω → hI ω 78 = hI υ 78 → x = nI (co0 T H v (8 * a + b)) → Ev (den (d + 6, 203, 14, [.ref 57, .int (nI v), .int (nI a), .int (nI (b + 1)), l2, l3], [], sI ω 78 (upd (hI ω 78) (8 * a + b) x))) (fun a υ => a = none ∧ Qy τ υ ∧ Mx 78 υ v (flk v (co0 T H v) v)) := by
        intro ω x g g24 hx
        subst hx
        refine nx2 (sI ω 78 (upd (hI ω 78) (8 * a + b) (nI (co0 T H v (8 * a + b))))) ⟨Ag_I (Ag_t g1 g) rfl, fun a' b' hb' hz => ?_⟩
        simp only [HA, reduceIte, ua]
        by_cases y : 8 * a' + b' = 8 * a + b
        · rw [if_pos y, y]
        · rw [if_neg y, g24]
          exact m1 a' b' hb' (by omega)
      show Ev (den (d + 6, 203, 14, [.ref 57, .int (nI v), .int (nI a), .int (nI b), l2, l3], [], υ)) _
      rw [a203_14]
      by_cases z : a = b
      · simp (disch := first | omega | (repeat (first | assumption | exact Ag_r | refine Ag_I ?_ rfl | refine Ag_F ?_ rfl | refine Ag_J ?_ rfl))) only [A203, FM h2, z, CO, HA, HB, HC, Nat.not_lt_zero, Nat.add_assoc, c_nlt, c_nle, c_neq, c_P, c_cl, c_m1, c_m1', nI_add, pk_mul, reduceIte, Nat.reduceEqDiff, Nat.reduceAdd, Nat.reduceMul, Nat.reduceLeDiff, eq_self, ↓pk_rem, pk_div, c_of, d_le, d_nle, d_lt, d_nlt, d_eq, d_ne]
        have := put υ (nI 0) Ag_r rfl (by unfold co0; rw [if_pos (by omega)])
        rw [z] at this
        exact this
      · have k2 := (HoM_y g1 ho).2 b (by omega)
        have L := lf d υ (cosW a b (hd H v b)) 1 1 (by omega) hq2 ⟨by refine j8 ?_ ?_ ?_ ?_ ?_ ?_ ?_ ?_ <;> refine ⟨?_, ?_⟩ <;> simp only [cosW, wdf, reduceIte, Nat.reduceEqDiff] <;> omega, Or.inl ⟨rfl, rfl⟩, Or.inr ⟨b, by omega, rfl, by rw [k2.1]; exact (zI_n _).symm⟩⟩
        have w0 : zI (cosW a b (hd H v b) 0) = -1 := rfl
        have w1 : zI (cosW a b (hd H v b) 1) = nI a := zI_n _
        have w2 : zI (cosW a b (hd H v b) 2) = nI b := zI_n _
        have w3 : zI (cosW a b (hd H v b) 3) = -1 := rfl
        have w4 : zI (cosW a b (hd H v b) 4) = -1 := rfl
        have w7 : zI (cosW a b (hd H v b) 7) = -1 := rfl
        rw [w0, w1, w2, w3, w4, w7] at L
        simp (disch := first | omega | (repeat (first | assumption | exact Ag_r | refine Ag_I ?_ rfl | refine Ag_F ?_ rfl | refine Ag_J ?_ rfl))) only [A203, FM h2, z, show lN 1 = zL 1 from rfl, CO, HA, HB, HC, Nat.not_lt_zero, Nat.add_assoc, c_nlt, c_nle, c_neq, c_P, c_cl, c_m1, c_m1', nI_add, pk_mul, reduceIte, Nat.reduceEqDiff, Nat.reduceAdd, Nat.reduceMul, Nat.reduceLeDiff, eq_self, ↓pk_rem, pk_div, c_of, d_le, d_nle, d_lt, d_nlt, d_eq, d_ne]
        refine Ev_b L ?_
        rintro _ ω ⟨rfl, g2, hz⟩
        have h3 := Qm_M (Ag_t hq2 (Qs_m g2)) hM
        have tn := tv_n T 1 (cosW a b (hd H v b))
        have bz : Bz (tlM T 1 (cosW a b (hd H v b)) 1) := by
          unfold tlM
          cases p : T 1 (cosW a b (hd H v b)) with
          | none => show Bz 1; exact ⟨by omega, by omega⟩
          | some z => exact hz z p (by omega)
        have wn := M_within (d := d + 5) (τ := ω) bz (lo := 0) (hi := 99) (by omega) (by omega) (by omega)
        have cl : clp 0 99 (tlM T 1 (cosW a b (hd H v b)) 1) = tv T 1 (cosW a b (hd H v b)) 0 99 := by
          unfold tlM tv
          cases p : T 1 (cosW a b (hd H v b)) with
          | none => rfl
          | some z => rfl
        rw [show zI 0 = nI 0 from rfl, show zI 99 = nI 99 from rfl, cl] at wn
        have := put ω (zI (tv T 1 (cosW a b (hd H v b)) 0 99)) (Qs_y g2) (Ag_i g2 78 rfl) (by unfold co0; rw [if_neg (by omega), dv, dm]; exact tn.1)
        refine Ev_e ?_ this
        simp (disch := first | omega | (repeat (first | assumption | exact Ag_r | refine Ag_I ?_ rfl | refine Ag_F ?_ rfl | refine Ag_J ?_ rfl))) only [A203, FM h3, wn, CO, HA, HB, HC, Nat.not_lt_zero, Nat.add_assoc, c_nlt, c_nle, c_neq, c_P, c_cl, c_m1, c_m1', nI_add, pk_mul, reduceIte, Nat.reduceEqDiff, Nat.reduceAdd, Nat.reduceMul, Nat.reduceLeDiff, eq_self, ↓pk_rem, pk_div, c_of, d_le, d_nle, d_lt, d_nlt, d_eq, d_ne]
    · intro υ ⟨g1, m1⟩
      refine Ev_e ?_ (nx1 (υ, .int (nI v), l2, l3) ⟨g1, fun a' b ha' hb => m1 a' b hb (by omega)⟩)
      show den (d + 6, 203, 14, [.ref 57, .int (nI v), .int (nI a), .int (nI v), l2, l3], [], υ) = _
      rw [a203_14]
      simp (disch := first | omega | (repeat (first | assumption | exact Ag_r | refine Ag_I ?_ rfl | refine Ag_F ?_ rfl | refine Ag_J ?_ rfl))) only [A203, CO, HA, HB, HC, Nat.not_lt_zero, Nat.add_assoc, c_nlt, c_nle, c_neq, c_P, c_cl, c_m1, c_m1', nI_add, pk_mul, reduceIte, Nat.reduceEqDiff, Nat.reduceAdd, Nat.reduceMul, Nat.reduceLeDiff, eq_self, ↓pk_rem, pk_div, c_of, d_le, d_nle, d_lt, d_nlt, d_eq, d_ne]
  · intro ⟨υ, l1, l2, l3⟩ ⟨g1, m1⟩
    refine Ev_e ?_ (ph2 (υ, l1, l2, l3) ⟨g1, fun a b ha hb => ⟨m1 a b ha hb, ?_⟩⟩)
    · show den (d + 6, 203, 7, [.ref 57, .int (nI v), .int (nI v), l1, l2, l3], [], υ) = _
      rw [a203_7]
      simp (disch := first | omega | (repeat (first | assumption | exact Ag_r | refine Ag_I ?_ rfl | refine Ag_F ?_ rfl | refine Ag_J ?_ rfl))) only [A203, CO, HA, HB, HC, Nat.not_lt_zero, Nat.add_assoc, c_nlt, c_nle, c_neq, c_P, c_cl, c_m1, c_m1', nI_add, pk_mul, reduceIte, Nat.reduceEqDiff, Nat.reduceAdd, Nat.reduceMul, Nat.reduceLeDiff, eq_self, ↓pk_rem, pk_div, c_of, d_le, d_nle, d_lt, d_nlt, d_eq, d_ne]
    · unfold co0
      split
      · omega
      · exact (tv_n T 1 _).2
theorem P_chain (hC : FxC σ) (hM : FxM ρ) (sC : StC σ v H) (sM : StM ρ v H) (hw : Wf v H) (lC : LfC σ T) (lM : LfM ρ T) (x y : Int32) : ∃ r, Ev (den (d + 8, 106, 0, [.ref 0, .int x, .int y], [], σ)) (fun a τ => a = some (.int r) ∧ Qc σ τ) ∧ Ev (den (d + 8, 204, 0, [.ref 57, .int x, .int y], [], ρ)) (fun a τ => a = some (.int r) ∧ Qm ρ τ) := by
  have hv1 := hw.1
  have hv8 := hw.2.1
  have vC := fun (d : Nat) x => C_isVillage (d := d) hC sC.1 hw.1 hw.2.1 x
  by_cases hx : inr x (v - 1)
  · obtain ⟨a, ha, rfl⟩ := inr_of (by omega) hx
    by_cases hy : inr y (v - 1)
    · obtain ⟨b, hb, rfl⟩ := inr_of (by omega) hy
      refine ⟨nI (flk v (co0 T H v) v (8 * a + b)), ?_, ?_⟩
      · simp (disch := first | omega | (repeat (first | assumption | exact Ag_r | refine Ag_I ?_ rfl | refine Ag_F ?_ rfl | refine Ag_J ?_ rfl))) only [A106, FC hC, vC, if_pos hx, if_pos hy, CO, HA, HB, HC, Nat.not_lt_zero, Nat.add_assoc, c_nlt, c_nle, c_neq, c_P, c_cl, c_m1, c_m1', nI_add, pk_mul, reduceIte, Nat.reduceEqDiff, Nat.reduceAdd, Nat.reduceMul, Nat.reduceLeDiff, eq_self, ↓pk_rem, pk_div, c_of, d_le, d_nle, d_lt, d_nlt, d_eq, d_ne]
        refine Ev_b (C_drawUp hC sC hw (by repeat (first | assumption | exact Ag_r | refine Ag_I ?_ rfl | refine Ag_F ?_ rfl | refine Ag_J ?_ rfl))) ?_
        rintro _ τ ⟨rfl, hq, hc⟩
        have h' := Qc_C hq hC
        simp (disch := first | omega | (repeat (first | assumption | exact Ag_r | refine Ag_I ?_ rfl | refine Ag_F ?_ rfl | refine Ag_J ?_ rfl))) only [A106, FC h', CO, HA, HB, HC, Nat.not_lt_zero, Nat.add_assoc, c_nlt, c_nle, c_neq, c_P, c_cl, c_m1, c_m1', nI_add, pk_mul, reduceIte, Nat.reduceEqDiff, Nat.reduceAdd, Nat.reduceMul, Nat.reduceLeDiff, eq_self, ↓pk_rem, pk_div, c_of, d_le, d_nle, d_lt, d_nlt, d_eq, d_ne]
        refine Ev_b (C_layRoads (d := d + 1) hC sC hw lC hq hc) ?_
        rintro _ υ ⟨rfl, g, mx⟩
        have h2 := Qc_C (Qr_c g) h'
        simp (disch := first | omega | (repeat (first | assumption | exact Ag_r | refine Ag_I ?_ rfl | refine Ag_F ?_ rfl | refine Ag_J ?_ rfl))) only [A106, FC h2, Nat.mul_comm a 8, (mx a b (by omega) (by omega)).1, CO, HA, HB, HC, Nat.not_lt_zero, Nat.add_assoc, c_nlt, c_nle, c_neq, c_P, c_cl, c_m1, c_m1', nI_add, pk_mul, reduceIte, Nat.reduceEqDiff, Nat.reduceAdd, Nat.reduceMul, Nat.reduceLeDiff, eq_self, ↓pk_rem, pk_div, c_of, d_le, d_nle, d_lt, d_nlt, d_eq, d_ne]
        exact Ev_s ⟨rfl, Ag_t hq (Qr_c g)⟩
      · simp (disch := first | omega | (repeat (first | assumption | exact Ag_r | refine Ag_I ?_ rfl | refine Ag_F ?_ rfl | refine Ag_J ?_ rfl))) only [A204, FM hM, M_isVillage' hM sM.1 hv1 hv8, if_pos hx, if_pos hy, CO, HA, HB, HC, Nat.not_lt_zero, Nat.add_assoc, c_nlt, c_nle, c_neq, c_P, c_cl, c_m1, c_m1', nI_add, pk_mul, reduceIte, Nat.reduceEqDiff, Nat.reduceAdd, Nat.reduceMul, Nat.reduceLeDiff, eq_self, ↓pk_rem, pk_div, c_of, d_le, d_nle, d_lt, d_nlt, d_eq, d_ne]
        refine Ev_b (M_load hM sM hw (by repeat (first | assumption | exact Ag_r | refine Ag_I ?_ rfl | refine Ag_F ?_ rfl | refine Ag_J ?_ rfl))) ?_
        rintro _ τ ⟨rfl, hq, hl⟩
        have h' := Qm_M hq hM
        simp (disch := first | omega | (repeat (first | assumption | exact Ag_r | refine Ag_I ?_ rfl | refine Ag_F ?_ rfl | refine Ag_J ?_ rfl))) only [A204, FM h', CO, HA, HB, HC, Nat.not_lt_zero, Nat.add_assoc, c_nlt, c_nle, c_neq, c_P, c_cl, c_m1, c_m1', nI_add, pk_mul, reduceIte, Nat.reduceEqDiff, Nat.reduceAdd, Nat.reduceMul, Nat.reduceLeDiff, eq_self, ↓pk_rem, pk_div, c_of, d_le, d_nle, d_lt, d_nlt, d_eq, d_ne]
        refine Ev_b (M_findChains (d := d + 1) hM sM hw lM hq (HoM_ld hw hl)) ?_
        rintro _ υ ⟨rfl, g, mx⟩
        have h2 := Qm_M (Qy_m g) h'
        simp (disch := first | omega | (repeat (first | assumption | exact Ag_r | refine Ag_I ?_ rfl | refine Ag_F ?_ rfl | refine Ag_J ?_ rfl))) only [A204, FM h2, (mx a b (by omega) (by omega)).1, CO, HA, HB, HC, Nat.not_lt_zero, Nat.add_assoc, c_nlt, c_nle, c_neq, c_P, c_cl, c_m1, c_m1', nI_add, pk_mul, reduceIte, Nat.reduceEqDiff, Nat.reduceAdd, Nat.reduceMul, Nat.reduceLeDiff, eq_self, ↓pk_rem, pk_div, c_of, d_le, d_nle, d_lt, d_nlt, d_eq, d_ne]
        exact Ev_s ⟨rfl, Ag_t hq (Qy_m g)⟩
    · refine ⟨-1, ?_, ?_⟩
      · simp (disch := first | omega | (repeat (first | assumption | exact Ag_r | refine Ag_I ?_ rfl | refine Ag_F ?_ rfl | refine Ag_J ?_ rfl))) only [A106, FC hC, vC, if_pos hx, if_neg hy, CO, HA, HB, HC, Nat.not_lt_zero, Nat.add_assoc, c_nlt, c_nle, c_neq, c_P, c_cl, c_m1, c_m1', nI_add, pk_mul, reduceIte, Nat.reduceEqDiff, Nat.reduceAdd, Nat.reduceMul, Nat.reduceLeDiff, eq_self, ↓pk_rem, pk_div, c_of, d_le, d_nle, d_lt, d_nlt, d_eq, d_ne]
        exact Ev_s ⟨rfl, (by repeat (first | assumption | exact Ag_r | refine Ag_I ?_ rfl | refine Ag_F ?_ rfl | refine Ag_J ?_ rfl))⟩
      · simp (disch := first | omega | (repeat (first | assumption | exact Ag_r | refine Ag_I ?_ rfl | refine Ag_F ?_ rfl | refine Ag_J ?_ rfl))) only [A204, FM hM, M_isVillage' hM sM.1 hv1 hv8, if_pos hx, if_neg hy, CO, HA, HB, HC, Nat.not_lt_zero, Nat.add_assoc, c_nlt, c_nle, c_neq, c_P, c_cl, c_m1, c_m1', nI_add, pk_mul, reduceIte, Nat.reduceEqDiff, Nat.reduceAdd, Nat.reduceMul, Nat.reduceLeDiff, eq_self, ↓pk_rem, pk_div, c_of, d_le, d_nle, d_lt, d_nlt, d_eq, d_ne]
        exact Ev_s ⟨rfl, (by repeat (first | assumption | exact Ag_r | refine Ag_I ?_ rfl | refine Ag_F ?_ rfl | refine Ag_J ?_ rfl))⟩
  · refine ⟨-1, ?_, ?_⟩
    · simp (disch := first | omega | (repeat (first | assumption | exact Ag_r | refine Ag_I ?_ rfl | refine Ag_F ?_ rfl | refine Ag_J ?_ rfl))) only [A106, FC hC, vC, if_neg hx, CO, HA, HB, HC, Nat.not_lt_zero, Nat.add_assoc, c_nlt, c_nle, c_neq, c_P, c_cl, c_m1, c_m1', nI_add, pk_mul, reduceIte, Nat.reduceEqDiff, Nat.reduceAdd, Nat.reduceMul, Nat.reduceLeDiff, eq_self, ↓pk_rem, pk_div, c_of, d_le, d_nle, d_lt, d_nlt, d_eq, d_ne]
      exact Ev_s ⟨rfl, (by repeat (first | assumption | exact Ag_r | refine Ag_I ?_ rfl | refine Ag_F ?_ rfl | refine Ag_J ?_ rfl))⟩
    · simp (disch := first | omega | (repeat (first | assumption | exact Ag_r | refine Ag_I ?_ rfl | refine Ag_F ?_ rfl | refine Ag_J ?_ rfl))) only [A204, FM hM, M_isVillage' hM sM.1 hv1 hv8, if_neg hx, CO, HA, HB, HC, Nat.not_lt_zero, Nat.add_assoc, c_nlt, c_nle, c_neq, c_P, c_cl, c_m1, c_m1', nI_add, pk_mul, reduceIte, Nat.reduceEqDiff, Nat.reduceAdd, Nat.reduceMul, Nat.reduceLeDiff, eq_self, ↓pk_rem, pk_div, c_of, d_le, d_nle, d_lt, d_nlt, d_eq, d_ne]
      exact Ev_s ⟨rfl, (by repeat (first | assumption | exact Ag_r | refine Ag_I ?_ rfl | refine Ag_F ?_ rfl | refine Ag_J ?_ rfl))⟩
end
