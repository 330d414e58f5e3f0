/-! the least cost, on both sides -/
def pop (s t : Nat) : Nat := cB (fun p => t.testBit p) s
def us (x : Int32) (k : Nat) : Int32 := (x.toUInt32 >>> ((nI k).toUInt32 &&& Int32.toUInt32 31)).toInt32
def bc1 (x : Int32) : Int32 := x - (us x 1 &&& nI 1431655765)
def bc2 (x : Int32) : Int32 := (x &&& nI 858993459) + (us x 2 &&& nI 858993459)
def bc3 (x : Int32) : Int32 := (x + us x 4) &&& nI 252645135
def bc4 (x : Int32) : Int32 := x + us x 8
def bc5 (x : Int32) : Int32 := x + us x 16
def bc6 (x : Int32) : Int32 := x &&& nI 63
theorem bc_v : ∀ t, t < 256 → bc6 (bc5 (bc4 (bc3 (bc2 (bc1 (nI t)))))) = nI (pop 8 t) := by decide +kernel
theorem J_bit {d : Nat} {σ : Hp} (x : Int32) : den (d, 224, 0, [.int x], [], σ) = some (some (.int (bc6 (bc5 (bc4 (bc3 (bc2 (bc1 x))))))), σ) := by
  simp only [A224]
  rfl
theorem J_bc {d t : Nat} {σ : Hp} (h : t < 256) : den (d, 224, 0, [.int (nI t)], [], σ) = some (some (.int (nI (pop 8 t))), σ) := by rw [J_bit, bc_v t h]
theorem pop_8 : ∀ s, s < 9 → ∀ t, t < 2 ^ s → pop s t = pop 8 t ∧ t < 256 := by decide +kernel
theorem pop_lt : ∀ s, s < 9 → ∀ t, t < 2 ^ s - 1 → pop s t < s := by decide +kernel
theorem pop_f : ∀ s, s < 9 → pop s (2 ^ s - 1) = s := by decide +kernel
theorem or_b : ∀ s, s < 9 → ∀ t, t < 2 ^ s → ∀ p, p < s → t.testBit p = false → t ||| 2 ^ p < 2 ^ s ∧ t < t ||| 2 ^ p ∧ pop s (t ||| 2 ^ p) = pop s t + 1 := by decide +kernel
theorem bt9 : ∀ s, s < 9 → (nI 1 <<< (nI s &&& 31)) = nI (2 ^ s) ∧ 1 ≤ 2 ^ s ∧ 2 ^ s ≤ 256 := by decide +kernel
def bst (C : Nat → Nat → Nat) (L : Nat → Nat) (k t : Nat) : Nat → Nat
  | 0 => 1000000
  | p + 1 => if t.testBit p = true then bst C L k t p else min (bst C L k t p) (C k p + L (t ||| 2 ^ p))
def lea (C : Nat → Nat → Nat) (s : Nat) : Nat → Nat → Nat
  | 0 => fun _ => 0
  | j + 1 => upN (lea C s j) (2 ^ s - 1 - (j + 1)) (bst C (lea C s j) (pop s (2 ^ s - 1 - (j + 1))) (2 ^ s - 1 - (j + 1)) s)
theorem bst_le (C : Nat → Nat → Nat) (L : Nat → Nat) (k t : Nat) : ∀ p, bst C L k t p ≤ 1000000
  | 0 => Nat.le_refl _
  | p + 1 => by
    have := bst_le C L k t p
    simp only [bst]
    split <;> omega
theorem bst_at {C : Nat → Nat → Nat} {L : Nat → Nat} {k t : Nat} : ∀ {n p : Nat}, p < n → t.testBit p = false → bst C L k t n ≤ C k p + L (t ||| 2 ^ p)
  | 0, p, h, _ => by omega
  | n + 1, p, h, hb => by
    simp only [bst]
    by_cases z : p = n
    · subst z
      rw [hb]
      simp only [Bool.false_eq_true, reduceIte]
      omega
    · have := bst_at (C := C) (L := L) (k := k) (t := t) (show p < n by omega) hb
      split <;> omega
theorem bst_ex {C : Nat → Nat → Nat} {L : Nat → Nat} {k t : Nat} : ∀ {n : Nat}, bst C L k t n < 1000000 → ∃ p, p < n ∧ t.testBit p = false ∧ C k p + L (t ||| 2 ^ p) = bst C L k t n
  | 0, h => by simp [bst] at h
  | n + 1, h => by
    simp only [bst] at h ⊢
    cases b : t.testBit n with
    | true =>
      rw [b] at h
      simp only [reduceIte] at h ⊢
      obtain ⟨p, h1, h2, h3⟩ := bst_ex h
      exact ⟨p, by omega, h2, h3⟩
    | false =>
      rw [b] at h
      simp only [Bool.false_eq_true, reduceIte] at h ⊢
      by_cases z : C k n + L (t ||| 2 ^ n) ≤ bst C L k t n
      · exact ⟨n, by omega, b, by omega⟩
      · obtain ⟨p, h1, h2, h3⟩ := bst_ex (C := C) (L := L) (k := k) (t := t) (n := n) (by omega)
        exact ⟨p, by omega, h2, by omega⟩
theorem bst_ext {C : Nat → Nat → Nat} {L L' : Nat → Nat} {k t : Nat} : ∀ {n : Nat}, (∀ p, p < n → t.testBit p = false → L (t ||| 2 ^ p) = L' (t ||| 2 ^ p)) → bst C L k t n = bst C L' k t n
  | 0, _ => rfl
  | n + 1, h => by
    simp only [bst]
    rw [bst_ext (fun p hp => h p (by omega))]
    cases b : t.testBit n with
    | true => rfl
    | false => simp only [Bool.false_eq_true, reduceIte]; rw [h n (by omega) b]
/-- behind j steps the rows above stay -/
theorem lea_st (C : Nat → Nat → Nat) (s : Nat) {j t : Nat} (ht : 2 ^ s - 1 - j ≤ t) (htl : t ≤ 2 ^ s - 1) : ∀ k, j + k ≤ 2 ^ s - 1 → lea C s (j + k) t = lea C s j t
  | 0, _ => rfl
  | k + 1, h => by
    rw [← Nat.add_assoc]
    show upN (lea C s (j + k)) _ _ t = _
    unfold upN
    rw [if_neg (by omega)]
    exact lea_st C s ht htl k (by omega)
theorem lea_eq {C : Nat → Nat → Nat} {s t : Nat} (hs : s < 9) (ht : t < 2 ^ s - 1) : lea C s (2 ^ s - 1) t = bst C (lea C s (2 ^ s - 1)) (pop s t) t s := by
  have h1 := lea_st C s (j := 2 ^ s - 1 - t) (t := t) (by omega) (by omega) t (by omega)
  rw [show 2 ^ s - 1 - t + t = 2 ^ s - 1 by omega] at h1
  obtain ⟨j, hj⟩ : ∃ j, 2 ^ s - 1 - t = j + 1 := ⟨2 ^ s - 1 - t - 1, by omega⟩
  rw [h1, hj]
  show upN (lea C s j) _ _ t = _
  unfold upN
  rw [if_pos (by omega), show 2 ^ s - 1 - (j + 1) = t by omega]
  refine bst_ext (fun p hp hb => ?_)
  obtain ⟨o1, o2, -⟩ := or_b s hs t (by omega) p hp hb
  have h2 := lea_st C s (j := j) (t := t ||| 2 ^ p) (by omega) (by omega) (2 ^ s - 1 - j) (by omega)
  rw [show j + (2 ^ s - 1 - j) = 2 ^ s - 1 by omega] at h2
  exact h2.symm
theorem lea_bd {C : Nat → Nat → Nat} {s : Nat} (hs : s < 9) (hC : ∀ k p, k < s → p < s → C k p ≤ 99) : ∀ n t, t + n = 2 ^ s - 1 → lea C s (2 ^ s - 1) t ≤ 99 * n := by
  intro n
  induction n using Nat.strongRecOn with
  | _ n ih =>
    intro t ht
    by_cases z : n = 0
    · subst z
      have h2 := lea_st C s (j := 0) (t := t) (by omega) (by omega) (2 ^ s - 1) (by omega)
      rw [Nat.zero_add] at h2
      rw [h2]; exact Nat.le_refl _
    · have pl := pop_lt s hs t (by omega)
      rw [lea_eq hs (by omega)]
      obtain ⟨p, hp, hb⟩ : ∃ p, p < s ∧ t.testBit p = false := by
        refine Classical.byContradiction fun no => ?_
        have all : ∀ p, p < s → t.testBit p = true := fun p hp => by
          cases b : t.testBit p with
          | true => rfl
          | false => exact absurd ⟨p, hp, b⟩ no
        have : ∀ m, m ≤ s → cB (fun p => t.testBit p) m = m := by
          intro m
          induction m with
          | zero => intro _; rfl
          | succ m ihm => intro hm; rw [cB_y (all m (by omega)), ihm (by omega)]
        have := this s (Nat.le_refl _)
        unfold pop at pl
        omega
      obtain ⟨o1, o2, -⟩ := or_b s hs t (by omega) p hp hb
      have b1 := bst_at (C := C) (L := lea C s (2 ^ s - 1)) (k := pop s t) (t := t) hp hb
      have b2 := ih (2 ^ s - 1 - (t ||| 2 ^ p)) (by omega) (t ||| 2 ^ p) (by omega)
      have b3 := hC (pop s t) p pl hp
      omega
/-- what it costs that the k-th giver's day comes to the p-th place -/
def fC (T : Tl) (H : Nat → Nat) (v e : Nat) (k p : Nat) : Nat := flk v (co0 T H v) v (8 * gvl (fG H v e) v k + gvl (fW H v e) v p)
theorem flb_le {v : Nat} {m : Nat → Nat} {k a : Nat} (h : ∀ a b, a < v → b < v → m (8 * a + b) ≤ 99) : ∀ n, ∀ a' b', a' < v → b' < v → flb k a m n (8 * a' + b') ≤ 99
  | 0 => h
  | n + 1 => fun a' b' ha hb => by
    have := flb_le (k := k) (a := a) h n a' b' ha hb
    simp only [flb, fst1, upN]
    split
    · next z => rw [← z]; omega
    · exact this
theorem fla_le {v : Nat} {m : Nat → Nat} {k : Nat} (h : ∀ a b, a < v → b < v → m (8 * a + b) ≤ 99) : ∀ n, ∀ a' b', a' < v → b' < v → fla v k m n (8 * a' + b') ≤ 99
  | 0 => h
  | n + 1 => flb_le (fla_le h n) v
theorem flk_le {v : Nat} {m : Nat → Nat} (h : ∀ a b, a < v → b < v → m (8 * a + b) ≤ 99) : ∀ n, ∀ a' b', a' < v → b' < v → flk v m n (8 * a' + b') ≤ 99
  | 0 => h
  | n + 1 => fla_le (flk_le h n) v
theorem fC_le (T : Tl) (H : Nat → Nat) {v : Nat} (e : Nat) (hv : 1 ≤ v) (k p : Nat) : fC T H v e k p ≤ 99 := by
  refine flk_le (fun a b _ _ => ?_) v _ _ (gvl_lt _ _ v hv) (gvl_lt _ _ v hv)
  unfold co0
  split
  · omega
  · exact (tv_n T 1 _).2
def Lf (c : Nat) (υ : Hp) (s : Nat) (C : Nat → Nat → Nat) : Prop := ∀ t, t ≤ 2 ^ s - 1 → hI υ c t = nI (lea C s (2 ^ s - 1) t)
def Qwe (σ τ : Hp) : Prop := Ag (fun k => Nat.beq k 27) (fun _ _ => false) σ τ
theorem Qwe_c {σ τ : Hp} (g : Qwe σ τ) : Qc σ τ := Ag_w g (fun k e => by have := Nat.eq_of_beq_eq_true e; subst this; rfl) (fun k j e => nomatch e)
def Qle (σ τ : Hp) : Prop := Ag (fun k => Nat.beq k 81) (fun _ _ => false) σ τ
theorem Qle_m {σ τ : Hp} (g : Qle σ τ) : Qm σ τ := Ag_w g (fun k e => by have := Nat.eq_of_beq_eq_true e; subst this; rfl) (fun k j e => nomatch e)
section
variable {d v e : Nat} {H : Nat → Nat} {σ ρ τ : Hp} {T : Tl}
theorem C_weigh (hC : FxC τ) (hv1 : 1 ≤ v) (hv8 : v ≤ 8) (gv : GvC τ H v e) (h8 : fG H v e v ≤ 8) (mx : Mx 24 τ v (flk v (co0 T H v) v)) : Ev (den (d + 2, 21, 0, [.ref 23, .float 0, .float 0, .float 0, .float 0, .float 0], [], τ)) (fun a υ => a = none ∧ Qwe τ υ ∧ Lf 27 υ (fG H v e v) (fC T H v e)) := by
  obtain ⟨g1, g2, g3⟩ := gv
  generalize sdef : fG H v e v = s at *
  have b9 := bt9 s (by omega)
  have cz := fC_le T H e hv1
  simp (disch := first | omega | (repeat (first | assumption | exact Ag_r | refine Ag_I ?_ rfl | refine Ag_F ?_ rfl | refine Ag_J ?_ rfl))) only [A21, FC hC, g1, b9.1, pk_sub, CO, HA, HB, HC, Nat.not_lt_zero, Nat.add_assoc, c_nlt, c_nle, c_neq, c_P, c_cl, c_m1, c_m1', nI_add, pk_mul, reduceIte, Nat.reduceEqDiff, Nat.reduceAdd, Nat.reduceMul, Nat.reduceLeDiff, eq_self, ↓pk_rem, pk_div, c_of, d_le, d_nle, d_lt, d_nlt, d_eq, d_ne]
  generalize fdef : 2 ^ s - 1 = full at *
  have lp0 := lp (α := Hp × Value × Value × Value) (h := fun j x => (d + 2, 21, 20, [.ref 23, .int (nI full), .int (zI ((full : Int) - 1 - j)), x.2.1, x.2.2.1, x.2.2.2], [], x.1)) (I := fun j x => Qwe τ x.1 ∧ ∀ t, full - j ≤ t → t ≤ full → hI x.1 27 t = nI (lea (fC T H v e) s j t)) (Q := fun a υ => a = none ∧ Qwe τ υ ∧ Lf 27 υ s (fC T H v e)) full ?_ ?_ 0 (sI τ 27 (upd (hI τ 27) full (nI 0)), .float 0, .float 0, .float 0) (Nat.zero_le _) ⟨Ag_I Ag_r rfl, fun t h1 h2 => by
    obtain rfl : t = full := by omega
    simp only [HA, reduceIte, ua]; rfl⟩
  · have e0 : nI full - nI 1 = zI ((full : Int) - 1 - ((0 : Nat) : Int)) := by rw [zI_sub_n]; congr 1; omega
    rw [e0]
    exact lp0
  · intro j ⟨υ, l1, l2, l3⟩ hj ⟨g, a1⟩ nx
    dsimp only at g a1
    have h2 : FxC υ := Qc_C (Qwe_c g) hC
    obtain ⟨t, ht⟩ : ∃ t, full = t + (j + 1) := ⟨full - (j + 1), by omega⟩
    have et : zI ((full : Int) - 1 - (j : Int)) = nI t := by rw [← zI_n]; congr 1; omega
    have et2 : nI t + (-1 : Int32) = zI ((full : Int) - 1 - ((j + 1 : Nat) : Int)) := by rw [← zI_n, show (-1 : Int32) = zI (-1) from rfl, zI_add]; congr 1; omega
    have pl := pop_lt s (by omega) t (by omega)
    have p8 := pop_8 s (by omega) t (by omega)
    have q1 : hF υ 23 2 = .int (nI s) := by rw [Ag_f g 23 2 rfl]; exact g1
    have q3 := (g3 (pop s t) pl).1
    rw [← Ag_i g 25 rfl] at q3
    have gl := gvl_lt (fG H v e) (pop s t) v hv1
    show Ev (den (d + 2, 21, 20, [.ref 23, .int (nI full), .int (zI ((full : Int) - 1 - (j : Int))), l1, l2, l3], [], υ)) _
    rw [et, a21_20]
    simp (disch := first | omega | (repeat (first | assumption | exact Ag_r | refine Ag_I ?_ rfl | refine Ag_F ?_ rfl | refine Ag_J ?_ rfl))) only [A21, FC h2, J_bc p8.2, ← p8.1, q3, CO, HA, HB, HC, Nat.not_lt_zero, Nat.add_assoc, c_nlt, c_nle, c_neq, c_P, c_cl, c_m1, c_m1', nI_add, pk_mul, reduceIte, Nat.reduceEqDiff, Nat.reduceAdd, Nat.reduceMul, Nat.reduceLeDiff, eq_self, ↓pk_rem, pk_div, c_of, d_le, d_nle, d_lt, d_nlt, d_eq, d_ne]
    have key := lp (α := Unit) (h := fun p _ => (d + 2, 21, 41, [.ref 23, .int (nI full), .int (nI t), .int (nI (gvl (fG H v e) v (pop s t))), .int (nI (bst (fC T H v e) (lea (fC T H v e) s j) (pop s t) t p)), .int (nI p)], [], υ)) (I := fun p _ => True) (Q := fun a υ => a = none ∧ Qwe τ υ ∧ Lf 27 υ s (fC T H v e)) s ?_ ?_ 0 () (Nat.zero_le _) trivial
    · exact key
    · intro p _ hp _ nx2
      have q4 := (g3 p (by omega)).2
      rw [← Ag_i g 26 rfl] at q4
      have gl2 := gvl_lt (fW H v e) p v hv1
      have bl := bst_le (fC T H v e) (lea (fC T H v e) s j) (pop s t) t p
      have nn := nx2 () trivial
      simp only [bst] at nn
      show Ev (den (d + 2, 21, 41, [.ref 23, .int (nI full), .int (nI t), .int (nI (gvl (fG H v e) v (pop s t))), .int (nI (bst (fC T H v e) (lea (fC T H v e) s j) (pop s t) t p)), .int (nI p)], [], υ)) _
      rw [a21_41]
      cases b : t.testBit p with
      | true =>
        rw [b] at nn
        refine Ev_e ?_ nn
        have b1 := @bt1 t p p8.2 (by omega)
        rw [b] at b1
        simp (disch := first | omega | (repeat (first | assumption | exact Ag_r | refine Ag_I ?_ rfl | refine Ag_F ?_ rfl | refine Ag_J ?_ rfl))) only [A21, FC h2, q1, b1, CO, HA, HB, HC, Nat.not_lt_zero, Nat.add_assoc, c_nlt, c_nle, c_neq, c_P, c_cl, c_m1, c_m1', nI_add, pk_mul, reduceIte, Nat.reduceEqDiff, Nat.reduceAdd, Nat.reduceMul, Nat.reduceLeDiff, eq_self, ↓pk_rem, pk_div, c_of, d_le, d_nle, d_lt, d_nlt, d_eq, d_ne]
      | false =>
        rw [b] at nn
        simp only [Bool.false_eq_true, reduceIte] at nn
        have b1 := @bt1 t p p8.2 (by omega)
        rw [b] at b1
        simp only [Bool.false_eq_true, reduceIte] at b1
        obtain ⟨o1, o2, o3⟩ := or_b s (by omega) t (by omega) p hp b
        have m1 := (mx (gvl (fG H v e) v (pop s t)) (gvl (fW H v e) v p) gl gl2).1
        rw [← Ag_i g 24 rfl] at m1
        have m2 : hI υ 24 (8 * gvl (fG H v e) v (pop s t) + gvl (fW H v e) v p) = nI (fC T H v e (pop s t) p) := m1
        have a2 := a1 (t ||| 2 ^ p) (by omega) (by omega)
        have lb : lea (fC T H v e) s j (t ||| 2 ^ p) ≤ 1000000 := by
          cases j with
          | zero => exact Nat.zero_le _
          | succ j =>
            have h3 := lea_st (fC T H v e) s (j := 2 ^ s - 1 - (t ||| 2 ^ p)) (t := t ||| 2 ^ p) (by omega) (by omega) (j + 1 - (2 ^ s - 1 - (t ||| 2 ^ p))) (by omega)
            rw [show 2 ^ s - 1 - (t ||| 2 ^ p) + (j + 1 - (2 ^ s - 1 - (t ||| 2 ^ p))) = j + 1 by omega] at h3
            have h4 := lea_st (fC T H v e) s (j := 2 ^ s - 1 - (t ||| 2 ^ p)) (t := t ||| 2 ^ p) (by omega) (by omega) (t ||| 2 ^ p) (by omega)
            rw [show 2 ^ s - 1 - (t ||| 2 ^ p) + (t ||| 2 ^ p) = 2 ^ s - 1 by omega] at h4
            rw [h3, ← h4]
            have := lea_bd (C := fC T H v e) (show s < 9 by omega) (fun k p _ _ => cz k p) (2 ^ s - 1 - (t ||| 2 ^ p)) (t ||| 2 ^ p) (by omega)
            omega
        have c99 := cz (pop s t) p
        refine Ev_e ?_ nn
        simp (disch := first | omega | (repeat (first | assumption | exact Ag_r | refine Ag_I ?_ rfl | refine Ag_F ?_ rfl | refine Ag_J ?_ rfl))) only [A21, A20, FC h2, q1, b1, q4, bt2, Nat.mul_comm (gvl (fG H v e) v (pop s t)) 8, m2, a2, mn_if, CO, HA, HB, HC, Nat.not_lt_zero, Nat.add_assoc, c_nlt, c_nle, c_neq, c_P, c_cl, c_m1, c_m1', nI_add, pk_mul, reduceIte, Nat.reduceEqDiff, Nat.reduceAdd, Nat.reduceMul, Nat.reduceLeDiff, eq_self, ↓pk_rem, pk_div, c_of, d_le, d_nle, d_lt, d_nlt, d_eq, d_ne]
    · intro _ _
      have nn := nx (sI υ 27 (upd (hI υ 27) t (nI (bst (fC T H v e) (lea (fC T H v e) s j) (pop s t) t s))), .int (nI (gvl (fG H v e) v (pop s t))), .int (nI (bst (fC T H v e) (lea (fC T H v e) s j) (pop s t) t s)), .int (nI s)) ⟨Ag_I g rfl, fun t' h1 h2 => by
        simp only [HA, reduceIte, ua, lea, upN]
        rw [show 2 ^ s - 1 - (j + 1) = t by omega]
        by_cases y : t' = t
        · rw [if_pos y, if_pos y]
        · rw [if_neg y, if_neg y]; exact a1 t' (by omega) h2⟩
      refine Ev_e ?_ nn
      show den (d + 2, 21, 41, [.ref 23, .int (nI full), .int (nI t), .int (nI (gvl (fG H v e) v (pop s t))), .int (nI (bst (fC T H v e) (lea (fC T H v e) s j) (pop s t) t s)), .int (nI s)], [], υ) = _
      rw [a21_41]
      simp (disch := first | omega | (repeat (first | assumption | exact Ag_r | refine Ag_I ?_ rfl | refine Ag_F ?_ rfl | refine Ag_J ?_ rfl))) only [A21, FC h2, q1, et2, CO, HA, HB, HC, Nat.not_lt_zero, Nat.add_assoc, c_nlt, c_nle, c_neq, c_P, c_cl, c_m1, c_m1', nI_add, pk_mul, reduceIte, Nat.reduceEqDiff, Nat.reduceAdd, Nat.reduceMul, Nat.reduceLeDiff, eq_self, ↓pk_rem, pk_div, c_of, d_le, d_nle, d_lt, d_nlt, d_eq, d_ne]
  · intro ⟨υ, l1, l2, l3⟩ ⟨g, a1⟩
    dsimp only at g a1
    show Ev (den (d + 2, 21, 20, [.ref 23, .int (nI full), .int (zI ((full : Int) - 1 - (full : Int))), l1, l2, l3], [], υ)) _
    rw [a21_20, show (full : Int) - 1 - (full : Int) = -1 by omega, show zI (-1) = (-1 : Int32) from rfl]
    simp (disch := first | omega | (repeat (first | assumption | exact Ag_r | refine Ag_I ?_ rfl | refine Ag_F ?_ rfl | refine Ag_J ?_ rfl))) only [A21, m1n, CO, HA, HB, HC, Nat.not_lt_zero, Nat.add_assoc, c_nlt, c_nle, c_neq, c_P, c_cl, c_m1, c_m1', nI_add, pk_mul, reduceIte, Nat.reduceEqDiff, Nat.reduceAdd, Nat.reduceMul, Nat.reduceLeDiff, eq_self, ↓pk_rem, pk_div, c_of, d_le, d_nle, d_lt, d_nlt, d_eq, d_ne]
    refine Ev_s ⟨rfl, g, fun t ht => ?_⟩
    rw [fdef] at ht ⊢
    exact a1 t (by omega) ht
theorem M_findLeast (hM : FxM ρ) (sM : StM ρ v H) (hw : Wf v H) (lf : LfM ρ T) {K : Nat → Nat} (hq : Qm ρ τ) (ho : HoM τ K (hd H v)) (gv : GvM τ H v e) (h8 : fG H v e v ≤ 8) : Ev (den (d + 7, 207, 0, [.ref 57, .float 0, .float 0, .float 0, .float 0, .float 0], [], τ)) (fun a υ => a = none ∧ Qm ρ υ ∧ GvM υ H v e ∧ Mx 78 υ v (flk v (co0 T H v) v) ∧ Lf 81 υ (fG H v e v) (fC T H v e)) := by
  have hv8 := hw.2.1
  have hv1 := hw.1
  have h' := Qm_M hq hM
  simp (disch := first | omega | (repeat (first | assumption | exact Ag_r | refine Ag_I ?_ rfl | refine Ag_F ?_ rfl | refine Ag_J ?_ rfl))) only [A207, FM h', CO, HA, HB, HC, Nat.not_lt_zero, Nat.add_assoc, c_nlt, c_nle, c_neq, c_P, c_cl, c_m1, c_m1', nI_add, pk_mul, reduceIte, Nat.reduceEqDiff, Nat.reduceAdd, Nat.reduceMul, Nat.reduceLeDiff, eq_self, ↓pk_rem, pk_div, c_of, d_le, d_nle, d_lt, d_nlt, d_eq, d_ne]
  refine Ev_b (M_findChains (d := d) hM sM hw lf hq ho) ?_
  rintro _ τ2 ⟨rfl, gy, mx⟩
  have hq2 : Qm ρ τ2 := Ag_t hq (Qy_m gy)
  have h2 := Qm_M hq2 hM
  have gv2 : GvM τ2 H v e := ⟨by rw [Ag_f gy 57 46 rfl]; exact gv.1, by rw [Ag_f gy 57 47 rfl]; exact gv.2.1, fun i hi => by rw [Ag_i gy 79 rfl, Ag_i gy 80 rfl]; exact gv.2.2 i hi⟩
  obtain ⟨g1, g2, g3⟩ := gv2
  have fin : ∀ υ, Qle τ2 υ → Lf 81 υ (fG H v e v) (fC T H v e) → Qm ρ υ ∧ GvM υ H v e ∧ Mx 78 υ v (flk v (co0 T H v) v) ∧ Lf 81 υ (fG H v e v) (fC T H v e) := fun υ g l => ⟨Ag_t hq2 (Qle_m g), ⟨by rw [Ag_f g 57 46 rfl]; exact g1, by rw [Ag_f g 57 47 rfl]; exact g2, fun i hi => by rw [Ag_i g 79 rfl, Ag_i g 80 rfl]; exact g3 i hi⟩, fun a b ha hb => by rw [Ag_i g 78 rfl]; exact mx a b ha hb, l⟩
  generalize sdef : fG H v e v = s at *
  have b9 := bt9 s (by omega)
  have cz := fC_le T H e hv1
  simp (disch := first | omega | (repeat (first | assumption | exact Ag_r | refine Ag_I ?_ rfl | refine Ag_F ?_ rfl | refine Ag_J ?_ rfl))) only [A207, FM h2, g1, b9.1, pk_sub, CO, HA, HB, HC, Nat.not_lt_zero, Nat.add_assoc, c_nlt, c_nle, c_neq, c_P, c_cl, c_m1, c_m1', nI_add, pk_mul, reduceIte, Nat.reduceEqDiff, Nat.reduceAdd, Nat.reduceMul, Nat.reduceLeDiff, eq_self, ↓pk_rem, pk_div, c_of, d_le, d_nle, d_lt, d_nlt, d_eq, d_ne]
  generalize fdef : 2 ^ s - 1 = full at *
  have lp0 := lp (α := Hp × Value × Value × Value) (h := fun j x => (d + 7, 207, 15, [.ref 57, .int (nI full), .int (zI ((full : Int) - j)), x.2.1, x.2.2.1, x.2.2.2], [], x.1)) (I := fun j x => Qle τ2 x.1 ∧ ∀ t, full < t + j → t ≤ full → hI x.1 81 t = nI (lea (fC T H v e) s (j - 1) t)) (Q := fun a υ => a = none ∧ Qm ρ υ ∧ GvM υ H v e ∧ Mx 78 υ v (flk v (co0 T H v) v) ∧ Lf 81 υ s (fC T H v e)) (full + 1) ?_ ?_ 0 (τ2, .float 0, .float 0, .float 0) (Nat.zero_le _) ⟨Ag_r, fun t h1 h2 => by omega⟩
  · have e0 : zI ((full : Int) - ((0 : Nat) : Int)) = nI full := by rw [← zI_n]; congr 1
    rw [e0] at lp0
    exact lp0
  · intro j ⟨υ, l1, l2, l3⟩ hj ⟨g, a1⟩ nx
    dsimp only at g a1
    have hq3 : Qm ρ υ := Ag_t hq2 (Qle_m g)
    have h3 := Qm_M hq3 hM
    obtain ⟨t, ht⟩ : ∃ t, full = t + j := ⟨full - j, by omega⟩
    have et : zI ((full : Int) - (j : Int)) = nI t := by rw [← zI_n]; congr 1; omega
    have et2 : nI t + (-1 : Int32) = zI ((full : Int) - ((j + 1 : Nat) : Int)) := by rw [← zI_n, show (-1 : Int32) = zI (-1) from rfl, zI_add]; congr 1; omega
    have p8 := pop_8 s (by omega) t (by omega)
    have q1 : hF υ 57 46 = .int (nI s) := by rw [Ag_f g 57 46 rfl]; exact g1
    show Ev (den (d + 7, 207, 15, [.ref 57, .int (nI full), .int (zI ((full : Int) - (j : Int))), l1, l2, l3], [], υ)) _
    rw [et, a207_15]
    simp (disch := first | omega | (repeat (first | assumption | exact Ag_r | refine Ag_I ?_ rfl | refine Ag_F ?_ rfl | refine Ag_J ?_ rfl))) only [A207, CO, HA, HB, HC, Nat.not_lt_zero, Nat.add_assoc, c_nlt, c_nle, c_neq, c_P, c_cl, c_m1, c_m1', nI_add, pk_mul, reduceIte, Nat.reduceEqDiff, Nat.reduceAdd, Nat.reduceMul, Nat.reduceLeDiff, eq_self, ↓pk_rem, pk_div, c_of, d_le, d_nle, d_lt, d_nlt, d_eq, d_ne]
    have cnt := lq (h := fun p => (d + 7, 207, 24, [.ref 57, .int (nI full), .int (nI t), .int (nI (pop p t)), .int (nI p), l3], [], υ)) s (by
      intro p hp
      have cl := cB_le (fun p => t.testBit p) p
      have cl2 : pop p t ≤ p := cl
      have b1 := @bt1 t p p8.2 (by omega)
      rw [a207_24]
      cases b : t.testBit p with
      | true =>
        have w1 : pop (p + 1) t = pop p t + 1 := cB_y b
        rw [b] at b1
        rw [w1]
        simp (disch := first | omega | (repeat (first | assumption | exact Ag_r | refine Ag_I ?_ rfl | refine Ag_F ?_ rfl | refine Ag_J ?_ rfl))) only [A207, FM h3, q1, b1, CO, HA, HB, HC, Nat.not_lt_zero, Nat.add_assoc, c_nlt, c_nle, c_neq, c_P, c_cl, c_m1, c_m1', nI_add, pk_mul, reduceIte, Nat.reduceEqDiff, Nat.reduceAdd, Nat.reduceMul, Nat.reduceLeDiff, eq_self, ↓pk_rem, pk_div, c_of, d_le, d_nle, d_lt, d_nlt, d_eq, d_ne]
      | false =>
        have w1 : pop (p + 1) t = pop p t := cB_n b
        rw [b] at b1
        simp only [Bool.false_eq_true, reduceIte] at b1
        rw [w1]
        simp (disch := first | omega | (repeat (first | assumption | exact Ag_r | refine Ag_I ?_ rfl | refine Ag_F ?_ rfl | refine Ag_J ?_ rfl))) only [A207, FM h3, q1, b1, Nat.add_zero, CO, HA, HB, HC, Nat.not_lt_zero, Nat.add_assoc, c_nlt, c_nle, c_neq, c_P, c_cl, c_m1, c_m1', nI_add, pk_mul, reduceIte, Nat.reduceEqDiff, Nat.reduceAdd, Nat.reduceMul, Nat.reduceLeDiff, eq_self, ↓pk_rem, pk_div, c_of, d_le, d_nle, d_lt, d_nlt, d_eq, d_ne]
      ) 0 (Nat.zero_le _)
    have z0 : pop 0 t = 0 := rfl
    rw [z0] at cnt
    rw [cnt, a207_24]
    by_cases j0 : j = 0
    · subst j0
      obtain rfl : t = full := by omega
      have pf := pop_f s (by omega)
      rw [fdef] at pf
      have nn := nx (sI υ 81 (upd (hI υ 81) t (nI 0)), .int (nI s), .int (nI 0), l3) ⟨Ag_I g rfl, fun t' h4 h5 => by
        obtain rfl : t' = t := by omega
        simp only [HA, reduceIte, ua]; rfl⟩
      refine Ev_e ?_ nn
      rw [pf]
      simp (disch := first | omega | (repeat (first | assumption | exact Ag_r | refine Ag_I ?_ rfl | refine Ag_F ?_ rfl | refine Ag_J ?_ rfl))) only [A207, FM h3, q1, CO, HA, HB, HC, Nat.not_lt_zero, Nat.add_assoc, c_nlt, c_nle, c_neq, c_P, c_cl, c_m1, c_m1', nI_add, pk_mul, reduceIte, Nat.reduceEqDiff, Nat.reduceAdd, Nat.reduceMul, Nat.reduceLeDiff, eq_self, ↓pk_rem, pk_div, c_of, d_le, d_nle, d_lt, d_nlt, d_eq, d_ne]
      rw [a207_69]
      simp (disch := first | omega | (repeat (first | assumption | exact Ag_r | refine Ag_I ?_ rfl | refine Ag_F ?_ rfl | refine Ag_J ?_ rfl))) only [A207, FM h3, q1, et2, ite_self, CO, HA, HB, HC, Nat.not_lt_zero, Nat.add_assoc, c_nlt, c_nle, c_neq, c_P, c_cl, c_m1, c_m1', nI_add, pk_mul, reduceIte, Nat.reduceEqDiff, Nat.reduceAdd, Nat.reduceMul, Nat.reduceLeDiff, eq_self, ↓pk_rem, pk_div, c_of, d_le, d_nle, d_lt, d_nlt, d_eq, d_ne]
    · have pl := pop_lt s (by omega) t (by omega)
      have q3 := (g3 (pop s t) pl).1
      rw [← Ag_i g 79 rfl] at q3
      have gl := gvl_lt (fG H v e) (pop s t) v hv1
      simp (disch := first | omega | (repeat (first | assumption | exact Ag_r | refine Ag_I ?_ rfl | refine Ag_F ?_ rfl | refine Ag_J ?_ rfl))) only [A207, FM h3, q1, CO, HA, HB, HC, Nat.not_lt_zero, Nat.add_assoc, c_nlt, c_nle, c_neq, c_P, c_cl, c_m1, c_m1', nI_add, pk_mul, reduceIte, Nat.reduceEqDiff, Nat.reduceAdd, Nat.reduceMul, Nat.reduceLeDiff, eq_self, ↓pk_rem, pk_div, c_of, d_le, d_nle, d_lt, d_nlt, d_eq, d_ne]
      have key := lp (α := (Nat → Int32) × Value) (h := fun p x => (d + 7, 207, 69, [.ref 57, .int (nI full), .int (nI t), .int (nI (pop s t)), .int (nI p), x.2], [], sI υ 81 x.1)) (I := fun p x => x.1 t = nI (bst (fC T H v e) (lea (fC T H v e) s (j - 1)) (pop s t) t p) ∧ ∀ t', ¬ t' = t → x.1 t' = hI υ 81 t') (Q := fun a υ => a = none ∧ Qm ρ υ ∧ GvM υ H v e ∧ Mx 78 υ v (flk v (co0 T H v) v) ∧ Lf 81 υ s (fC T H v e)) s ?_ ?_ 0 (upd (hI υ 81) t (nI 1000000), l3) (Nat.zero_le _) ⟨by show upd (hI υ 81) t (nI 1000000) t = _; rw [ua, if_pos rfl]; rfl, fun t' ht' => by show upd (hI υ 81) t (nI 1000000) t' = _; rw [ua, if_neg ht']⟩
      · exact key
      · intro p ⟨f, l3⟩ hp ⟨f1, f2⟩ nx2
        dsimp only at f1 f2
        have q4 := (g3 p (by omega)).2
        rw [← Ag_i g 80 rfl] at q4
        have gl2 := gvl_lt (fW H v e) p v hv1
        have bl := bst_le (fC T H v e) (lea (fC T H v e) s (j - 1)) (pop s t) t p
        have b1 := @bt1 t p p8.2 (by omega)
        show Ev (den (d + 7, 207, 69, [.ref 57, .int (nI full), .int (nI t), .int (nI (pop s t)), .int (nI p), l3], [], sI υ 81 f)) _
        rw [a207_69]
        cases b : t.testBit p with
        | true =>
          rw [b] at b1
          have nn := nx2 (upd f t (nI (bst (fC T H v e) (lea (fC T H v e) s (j - 1)) (pop s t) t p)), .int (nI 1000000)) ⟨by show upd f t _ t = _; rw [ua, if_pos rfl]; simp only [bst, b, reduceIte], fun t' ht' => by show upd f t _ t' = _; rw [ua, if_neg ht']; exact f2 t' ht'⟩
          refine Ev_e ?_ nn
          simp (disch := first | omega | (repeat (first | assumption | exact Ag_r | refine Ag_I ?_ rfl | refine Ag_F ?_ rfl | refine Ag_J ?_ rfl))) only [A207, A134, FM h3, q1, b1, f1, CO, HA, HB, HC, Nat.not_lt_zero, Nat.add_assoc, c_nlt, c_nle, c_neq, c_P, c_cl, c_m1, c_m1', nI_add, pk_mul, reduceIte, Nat.reduceEqDiff, Nat.reduceAdd, Nat.reduceMul, Nat.reduceLeDiff, eq_self, ↓pk_rem, pk_div, c_of, d_le, d_nle, d_lt, d_nlt, d_eq, d_ne]
        | false =>
          rw [b] at b1
          simp only [Bool.false_eq_true, reduceIte] at b1
          obtain ⟨o1, o2, o3⟩ := or_b s (by omega) t (by omega) p hp b
          have m1 := (mx (gvl (fG H v e) v (pop s t)) (gvl (fW H v e) v p) gl gl2).1
          rw [← Ag_i g 78 rfl] at m1
          have m2 : hI υ 78 (8 * gvl (fG H v e) v (pop s t) + gvl (fW H v e) v p) = nI (fC T H v e (pop s t) p) := m1
          have a2 := a1 (t ||| 2 ^ p) (by omega) (by omega)
          have f3 := f2 (t ||| 2 ^ p) (by omega)
          rw [a2] at f3
          have lb : lea (fC T H v e) s (j - 1) (t ||| 2 ^ p) ≤ 1000000 := by
            have h4 := lea_st (fC T H v e) s (j := j - 1) (t := t ||| 2 ^ p) (by omega) (by omega) (full - (j - 1)) (by omega)
            rw [show j - 1 + (full - (j - 1)) = 2 ^ s - 1 by omega] at h4
            rw [← h4]
            have := lea_bd (C := fC T H v e) (show s < 9 by omega) (fun k p _ _ => cz k p) (2 ^ s - 1 - (t ||| 2 ^ p)) (t ||| 2 ^ p) (by omega)
            omega
          have c99 := cz (pop s t) p
          by_cases y : fC T H v e (pop s t) p + lea (fC T H v e) s (j - 1) (t ||| 2 ^ p) < bst (fC T H v e) (lea (fC T H v e) s (j - 1)) (pop s t) t p
          · have nn := nx2 (upd f t (nI (fC T H v e (pop s t) p + lea (fC T H v e) s (j - 1) (t ||| 2 ^ p))), .int (nI (fC T H v e (pop s t) p + lea (fC T H v e) s (j - 1) (t ||| 2 ^ p)))) ⟨by show upd f t _ t = _; rw [ua, if_pos rfl]; simp only [bst, b, Bool.false_eq_true, reduceIte]; congr 1; omega, fun t' ht' => by show upd f t _ t' = _; rw [ua, if_neg ht']; exact f2 t' ht'⟩
            refine Ev_e ?_ nn
            simp (disch := first | omega | (repeat (first | assumption | exact Ag_r | refine Ag_I ?_ rfl | refine Ag_F ?_ rfl | refine Ag_J ?_ rfl))) only [A207, A134, FM h3, q1, b1, f1, q3, q4, bt2, m2, f3, y, CO, HA, HB, HC, Nat.not_lt_zero, Nat.add_assoc, c_nlt, c_nle, c_neq, c_P, c_cl, c_m1, c_m1', nI_add, pk_mul, reduceIte, Nat.reduceEqDiff, Nat.reduceAdd, Nat.reduceMul, Nat.reduceLeDiff, eq_self, ↓pk_rem, pk_div, c_of, d_le, d_nle, d_lt, d_nlt, d_eq, d_ne]
          · have nn := nx2 (upd f t (nI (bst (fC T H v e) (lea (fC T H v e) s (j - 1)) (pop s t) t p)), .int (nI (fC T H v e (pop s t) p + lea (fC T H v e) s (j - 1) (t ||| 2 ^ p)))) ⟨by show upd f t _ t = _; rw [ua, if_pos rfl]; simp only [bst, b, Bool.false_eq_true, reduceIte]; congr 1; omega, fun t' ht' => by show upd f t _ t' = _; rw [ua, if_neg ht']; exact f2 t' ht'⟩
            refine Ev_e ?_ nn
            simp (disch := first | omega | (repeat (first | assumption | exact Ag_r | refine Ag_I ?_ rfl | refine Ag_F ?_ rfl | refine Ag_J ?_ rfl))) only [A207, A134, FM h3, q1, b1, f1, q3, q4, bt2, m2, f3, y, CO, HA, HB, HC, Nat.not_lt_zero, Nat.add_assoc, c_nlt, c_nle, c_neq, c_P, c_cl, c_m1, c_m1', nI_add, pk_mul, reduceIte, Nat.reduceEqDiff, Nat.reduceAdd, Nat.reduceMul, Nat.reduceLeDiff, eq_self, ↓pk_rem, pk_div, c_of, d_le, d_nle, d_lt, d_nlt, d_eq, d_ne]
      · intro ⟨f, l3⟩ ⟨f1, f2⟩
        dsimp only at f1 f2
        have nn := nx (sI υ 81 f, .int (nI (pop s t)), .int (nI s), l3) ⟨Ag_I g rfl, fun t' h4 h5 => by
          simp only [HA, reduceIte]
          obtain ⟨j', rfl⟩ : ∃ j', j = j' + 1 := ⟨j - 1, by omega⟩
          simp only [Nat.add_sub_cancel] at f1 a1 ⊢
          simp only [lea, upN]
          rw [show 2 ^ s - 1 - (j' + 1) = t by omega]
          by_cases y : t' = t
          · rw [if_pos y, y]; exact f1
          · rw [if_neg y, f2 t' y]; exact a1 t' (by omega) h5⟩
        refine Ev_e ?_ nn
        show den (d + 7, 207, 69, [.ref 57, .int (nI full), .int (nI t), .int (nI (pop s t)), .int (nI s), l3], [], sI υ 81 f) = _
        rw [a207_69]
        simp (disch := first | omega | (repeat (first | assumption | exact Ag_r | refine Ag_I ?_ rfl | refine Ag_F ?_ rfl | refine Ag_J ?_ rfl))) only [A207, FM h3, q1, et2, CO, HA, HB, HC, Nat.not_lt_zero, Nat.add_assoc, c_nlt, c_nle, c_neq, c_P, c_cl, c_m1, c_m1', nI_add, pk_mul, reduceIte, Nat.reduceEqDiff, Nat.reduceAdd, Nat.reduceMul, Nat.reduceLeDiff, eq_self, ↓pk_rem, pk_div, c_of, d_le, d_nle, d_lt, d_nlt, d_eq, d_ne]
  · intro ⟨υ, l1, l2, l3⟩ ⟨g, a1⟩
    dsimp only at g a1
    show Ev (den (d + 7, 207, 15, [.ref 57, .int (nI full), .int (zI ((full : Int) - ((full + 1 : Nat) : Int))), l1, l2, l3], [], υ)) _
    rw [a207_15, show (full : Int) - ((full + 1 : Nat) : Int) = -1 by omega, show zI (-1) = (-1 : Int32) from rfl]
    simp (disch := first | omega | (repeat (first | assumption | exact Ag_r | refine Ag_I ?_ rfl | refine Ag_F ?_ rfl | refine Ag_J ?_ rfl))) only [A207, m1n, CO, HA, HB, HC, Nat.not_lt_zero, Nat.add_assoc, c_nlt, c_nle, c_neq, c_P, c_cl, c_m1, c_m1', nI_add, pk_mul, reduceIte, Nat.reduceEqDiff, Nat.reduceAdd, Nat.reduceMul, Nat.reduceLeDiff, eq_self, ↓pk_rem, pk_div, c_of, d_le, d_nle, d_lt, d_nlt, d_eq, d_ne]
    refine Ev_s ⟨rfl, fin υ g (fun t ht => ?_)⟩
    rw [fdef] at ht ⊢
    have := a1 t (by omega) ht
    rwa [Nat.add_sub_cancel] at this
/-- the places that are due one after another -/
def canP (C : Nat → Nat → Nat) (L : Nat → Nat) (k t : Nat) : Nat → Bool := fun p => !t.testBit p && decide (C k p + L (t ||| 2 ^ p) = L t)
def filP (C : Nat → Nat → Nat) (L : Nat → Nat) (s : Nat) : Nat → Nat
  | 0 => 0
  | k + 1 => filP C L s k ||| 2 ^ ((fnd (canP C L k (filP C L s k)) s).getD 0)
theorem filP_ok {C : Nat → Nat → Nat} {s : Nat} (hs : s < 9) (hC : ∀ k p, k < s → p < s → C k p ≤ 99) : ∀ k, k ≤ s → filP C (lea C s (2 ^ s - 1)) s k < 2 ^ s ∧ pop s (filP C (lea C s (2 ^ s - 1)) s k) = k ∧ ∀ j, j < k → ∃ p, fnd (canP C (lea C s (2 ^ s - 1)) j (filP C (lea C s (2 ^ s - 1)) s j)) s = some p
  | 0, _ => by
    refine ⟨Nat.two_pow_pos s, ?_, fun j hj => absurd hj (Nat.not_lt_zero j)⟩
    have : ∀ m, cB (fun p => (0 : Nat).testBit p) m = 0 := by
      intro m
      induction m with
      | zero => rfl
      | succ m ih => rw [cB_n (Nat.zero_testBit m), ih]
    exact this s
  | k + 1, hk => by
    obtain ⟨h1, h2, h3⟩ := filP_ok hs hC k (by omega)
    generalize ft : filP C (lea C s (2 ^ s - 1)) s k = t at *
    have tl : t < 2 ^ s - 1 := by
      refine Classical.byContradiction fun no => ?_
      obtain rfl : t = 2 ^ s - 1 := by omega
      rw [pop_f s hs] at h2
      omega
    have eq := lea_eq (C := C) hs tl
    have bd := lea_bd (C := C) hs hC (2 ^ s - 1 - t) t (by omega)
    have p9 := (bt9 s hs).2.2
    rw [h2] at eq
    obtain ⟨p, p1, p2, p3⟩ := bst_ex (C := C) (L := lea C s (2 ^ s - 1)) (k := k) (t := t) (n := s) (by rw [← eq]; omega)
    obtain ⟨q, hq⟩ : ∃ q, fnd (canP C (lea C s (2 ^ s - 1)) k t) s = some q := by
      cases f : fnd (canP C (lea C s (2 ^ s - 1)) k t) s with
      | some q => exact ⟨q, rfl⟩
      | none =>
        have := fnd_s.fnd_n f p p1
        unfold canP at this
        rw [p2, p3, ← eq] at this
        simp at this
    obtain ⟨q1, q2, q3⟩ := fnd_s hq
    have qb : t.testBit q = false := by
      unfold canP at q2
      simp only [Bool.and_eq_true, Bool.not_eq_true'] at q2
      exact q2.1
    obtain ⟨o1, o2, o3⟩ := or_b s hs t h1 q q1 qb
    have fe : filP C (lea C s (2 ^ s - 1)) s (k + 1) = t ||| 2 ^ q := by
      simp only [filP, ft, hq, Option.getD_some]
    rw [fe]
    refine ⟨o1, by omega, fun j hj => ?_⟩
    by_cases z : j = k
    · subst z; rw [ft]; exact ⟨q, hq⟩
    · exact h3 j (by omega)
theorem C_firstPlace (hC : FxC τ) {s k t : Nat} {C : Nat → Nat → Nat} {L gv pl : Nat → Nat} (hs : s ≤ 8) (hk : k < s) (ht : t < 2 ^ s) (g1 : hF τ 23 2 = .int (nI s)) (g3 : ∀ i, i < s → hI τ 25 i = nI (gv i) ∧ hI τ 26 i = nI (pl i) ∧ gv i < 8 ∧ pl i < 8) (m : ∀ k p, k < s → p < s → hI τ 24 (8 * gv k + pl p) = nI (C k p) ∧ C k p ≤ 99) (l : ∀ t, t < 2 ^ s → hI τ 27 t = nI (L t) ∧ L t ≤ 1000000) : Ev (den (d + 1, 24, 0, [.ref 23, .int (nI k), .int (nI t), .float 0], [], τ)) (fun a υ => a = some (.int (ofo (fnd (canP C L k t) s))) ∧ υ = τ) := by
  have p8 := pop_8 s (by omega) t ht
  have p9 := (bt9 s (by omega)).2.2
  simp (disch := first | omega | (repeat (first | assumption | exact Ag_r | refine Ag_I ?_ rfl | refine Ag_F ?_ rfl | refine Ag_J ?_ rfl))) only [A24, CO, HA, HB, HC, Nat.not_lt_zero, Nat.add_assoc, c_nlt, c_nle, c_neq, c_P, c_cl, c_m1, c_m1', nI_add, pk_mul, reduceIte, Nat.reduceEqDiff, Nat.reduceAdd, Nat.reduceMul, Nat.reduceLeDiff, eq_self, ↓pk_rem, pk_div, c_of, d_le, d_nle, d_lt, d_nlt, d_eq, d_ne]
  refine lp (α := Unit) (h := fun p _ => (d + 1, 24, 2, [.ref 23, .int (nI k), .int (nI t), .int (nI p)], [], τ)) (I := fun p _ => ∀ j, j < p → canP C L k t j = false) s ?_ ?_ 0 () (Nat.zero_le _) (fun j hj => absurd hj (Nat.not_lt_zero j))
  · intro p _ hp no nx
    have b1 := @bt1 t p p8.2 (by omega)
    show Ev (den (d + 1, 24, 2, [.ref 23, .int (nI k), .int (nI t), .int (nI p)], [], τ)) _
    rw [a24_2]
    cases b : t.testBit p with
    | true =>
      rw [b] at b1
      refine Ev_e ?_ (nx () (fun j hj => by
        by_cases y : j = p
        · rw [y]; unfold canP; rw [b]; rfl
        · exact no j (by omega)))
      simp (disch := first | omega | (repeat (first | assumption | exact Ag_r | refine Ag_I ?_ rfl | refine Ag_F ?_ rfl | refine Ag_J ?_ rfl))) only [A24, FC hC, g1, b1, CO, HA, HB, HC, Nat.not_lt_zero, Nat.add_assoc, c_nlt, c_nle, c_neq, c_P, c_cl, c_m1, c_m1', nI_add, pk_mul, reduceIte, Nat.reduceEqDiff, Nat.reduceAdd, Nat.reduceMul, Nat.reduceLeDiff, eq_self, ↓pk_rem, pk_div, c_of, d_le, d_nle, d_lt, d_nlt, d_eq, d_ne]
    | false =>
      rw [b] at b1
      simp only [Bool.false_eq_true, reduceIte] at b1
      obtain ⟨o1, o2, o3⟩ := or_b s (by omega) t ht p hp b
      obtain ⟨m1, m2⟩ := m k p hk hp
      obtain ⟨l1, l2⟩ := l t ht
      obtain ⟨l3, l4⟩ := l (t ||| 2 ^ p) o1
      obtain ⟨x1, -, x3, -⟩ := g3 k hk
      obtain ⟨-, y2, -, y4⟩ := g3 p hp
      by_cases y : C k p + L (t ||| 2 ^ p) = L t
      · rw [fnd_some hp (by unfold canP; rw [b]; simp [y]) no]
        simp (disch := first | omega | (repeat (first | assumption | exact Ag_r | refine Ag_I ?_ rfl | refine Ag_F ?_ rfl | refine Ag_J ?_ rfl))) only [A24, A20, FC hC, g1, b1, x1, y2, Nat.mul_comm (gv k) 8, m1, l1, bt2, l3, y, CO, HA, HB, HC, Nat.not_lt_zero, Nat.add_assoc, c_nlt, c_nle, c_neq, c_P, c_cl, c_m1, c_m1', nI_add, pk_mul, reduceIte, Nat.reduceEqDiff, Nat.reduceAdd, Nat.reduceMul, Nat.reduceLeDiff, eq_self, ↓pk_rem, pk_div, c_of, d_le, d_nle, d_lt, d_nlt, d_eq, d_ne]
        exact Ev_s ⟨rfl, rfl⟩
      · refine Ev_e ?_ (nx () (fun j hj => by
          by_cases z : j = p
          · rw [z]; unfold canP; simp [y]
          · exact no j (by omega)))
        simp (disch := first | omega | (repeat (first | assumption | exact Ag_r | refine Ag_I ?_ rfl | refine Ag_F ?_ rfl | refine Ag_J ?_ rfl))) only [A24, A20, FC hC, g1, b1, x1, y2, Nat.mul_comm (gv k) 8, m1, l1, bt2, l3, y, CO, HA, HB, HC, Nat.not_lt_zero, Nat.add_assoc, c_nlt, c_nle, c_neq, c_P, c_cl, c_m1, c_m1', nI_add, pk_mul, reduceIte, Nat.reduceEqDiff, Nat.reduceAdd, Nat.reduceMul, Nat.reduceLeDiff, eq_self, ↓pk_rem, pk_div, c_of, d_le, d_nle, d_lt, d_nlt, d_eq, d_ne]
  · intro _ no
    show Ev (den (d + 1, 24, 2, [.ref 23, .int (nI k), .int (nI t), .int (nI s)], [], τ)) _
    rw [a24_2, fnd_none no]
    simp (disch := first | omega | (repeat (first | assumption | exact Ag_r | refine Ag_I ?_ rfl | refine Ag_F ?_ rfl | refine Ag_J ?_ rfl))) only [A24, FC hC, g1, CO, HA, HB, HC, Nat.not_lt_zero, Nat.add_assoc, c_nlt, c_nle, c_neq, c_P, c_cl, c_m1, c_m1', nI_add, pk_mul, reduceIte, Nat.reduceEqDiff, Nat.reduceAdd, Nat.reduceMul, Nat.reduceLeDiff, eq_self, ↓pk_rem, pk_div, c_of, d_le, d_nle, d_lt, d_nlt, d_eq, d_ne]
    exact Ev_s ⟨rfl, rfl⟩
/-- the place that falls to the k-th -/
def dueP (C : Nat → Nat → Nat) (L : Nat → Nat) (s k : Nat) : Nat := (fnd (canP C L k (filP C L s k)) s).getD 0
theorem C_takerOf (hC : FxC τ) {s i : Nat} {C : Nat → Nat → Nat} {gv pl : Nat → Nat} (hs : s ≤ 8) (hi : i < s) (hC9 : ∀ k p, k < s → p < s → C k p ≤ 99) (g1 : hF τ 23 2 = .int (nI s)) (g3 : ∀ i, i < s → hI τ 25 i = nI (gv i) ∧ hI τ 26 i = nI (pl i) ∧ gv i < 8 ∧ pl i < 8) (m : ∀ k p, k < s → p < s → hI τ 24 (8 * gv k + pl p) = nI (C k p) ∧ C k p ≤ 99) (l : Lf 27 τ s C) : Ev (den (d + 2, 23, 0, [.ref 23, .int (nI i), .float 0, .float 0, .float 0, .float 0], [], τ)) (fun a υ => a = some (.int (nI (pl (dueP C (lea C s (2 ^ s - 1)) s i)))) ∧ υ = τ) := by
  have p9 := bt9 s (by omega)
  have l' : ∀ t, t < 2 ^ s → hI τ 27 t = nI (lea C s (2 ^ s - 1) t) ∧ lea C s (2 ^ s - 1) t ≤ 1000000 := fun t ht => ⟨l t (by omega), by
    have := lea_bd (C := C) (show s < 9 by omega) hC9 (2 ^ s - 1 - t) t (by omega); omega⟩
  generalize Ldef : lea C s (2 ^ s - 1) = L at *
  have fo := fun k hk => filP_ok (C := C) (s := s) (by omega) hC9 k hk
  rw [Ldef] at fo
  simp (disch := first | omega | (repeat (first | assumption | exact Ag_r | refine Ag_I ?_ rfl | refine Ag_F ?_ rfl | refine Ag_J ?_ rfl))) only [A23, CO, HA, HB, HC, Nat.not_lt_zero, Nat.add_assoc, c_nlt, c_nle, c_neq, c_P, c_cl, c_m1, c_m1', nI_add, pk_mul, reduceIte, Nat.reduceEqDiff, Nat.reduceAdd, Nat.reduceMul, Nat.reduceLeDiff, eq_self, ↓pk_rem, pk_div, c_of, d_le, d_nle, d_lt, d_nlt, d_eq, d_ne]
  refine lp (α := Value) (h := fun k x => (d + 2, 23, 7, [.ref 23, .int (nI i), .int (nI (filP C L s k)), .int (if k = 0 then -1 else nI (pl (dueP C L s (k - 1)))), .int (nI k), x], [], τ)) (I := fun _ _ => True) (i + 1) ?_ ?_ 0 (.float 0) (Nat.zero_le _) trivial
  · intro k x hk _ nx
    obtain ⟨f1, f2, -⟩ := fo k (by omega)
    obtain ⟨p, hp⟩ := (fo (k + 1) (by omega)).2.2 k (by omega)
    have fp := C_firstPlace (d := d) hC hs (show k < s by omega) f1 g1 g3 m l'
    rw [hp] at fp
    obtain ⟨a, υ, e1, rfl, hυ⟩ := fp
    rw [hυ] at e1
    obtain ⟨q1, q2, q3⟩ := fnd_s hp
    have p8 := pop_8 s (by omega) _ f1
    have du : dueP C L s k = p := by unfold dueP; rw [hp]; rfl
    have fs : filP C L s (k + 1) = filP C L s k ||| 2 ^ p := by simp only [filP, hp, Option.getD_some]
    have nn := nx (.int (nI p)) trivial
    rw [if_neg (Nat.succ_ne_zero k), Nat.add_sub_cancel, du, fs] at nn
    show Ev (den (d + 2, 23, 7, [.ref 23, .int (nI i), .int (nI (filP C L s k)), .int (if k = 0 then -1 else nI (pl (dueP C L s (k - 1)))), .int (nI k), x], [], τ)) _
    generalize (if k = 0 then (-1 : Int32) else nI (pl (dueP C L s (k - 1)))) = w
    refine Ev_e ?_ nn
    rw [a23_7]
    simp (disch := first | omega | (repeat (first | assumption | exact Ag_r | refine Ag_I ?_ rfl | refine Ag_F ?_ rfl | refine Ag_J ?_ rfl))) only [A23, FC hC, g1, e1, ofo, (g3 p q1).2.1, bt2, CO, HA, HB, HC, Nat.not_lt_zero, Nat.add_assoc, c_nlt, c_nle, c_neq, c_P, c_cl, c_m1, c_m1', nI_add, pk_mul, reduceIte, Nat.reduceEqDiff, Nat.reduceAdd, Nat.reduceMul, Nat.reduceLeDiff, eq_self, ↓pk_rem, pk_div, c_of, d_le, d_nle, d_lt, d_nlt, d_eq, d_ne]
  · intro x _
    show Ev (den (d + 2, 23, 7, [.ref 23, .int (nI i), .int (nI (filP C L s (i + 1))), .int (if i + 1 = 0 then -1 else nI (pl (dueP C L s (i + 1 - 1)))), .int (nI (i + 1)), x], [], τ)) _
    rw [a23_7, if_neg (Nat.succ_ne_zero i), Nat.add_sub_cancel]
    simp (disch := first | omega | (repeat (first | assumption | exact Ag_r | refine Ag_I ?_ rfl | refine Ag_F ?_ rfl | refine Ag_J ?_ rfl))) only [A23, CO, HA, HB, HC, Nat.not_lt_zero, Nat.add_assoc, c_nlt, c_nle, c_neq, c_P, c_cl, c_m1, c_m1', nI_add, pk_mul, reduceIte, Nat.reduceEqDiff, Nat.reduceAdd, Nat.reduceMul, Nat.reduceLeDiff, eq_self, ↓pk_rem, pk_div, c_of, d_le, d_nle, d_lt, d_nlt, d_eq, d_ne]
    exact Ev_s ⟨rfl, rfl⟩
theorem M_tradeIn (hM : FxM τ) {s k t : Nat} {C : Nat → Nat → Nat} {L gv pl : Nat → Nat} (hs : s ≤ 8) (hk : k < s) (ht : t < 2 ^ s) (g3 : ∀ i, i < s → hI τ 79 i = nI (gv i) ∧ hI τ 80 i = nI (pl i) ∧ gv i < 8 ∧ pl i < 8) (m : ∀ k p, k < s → p < s → hI τ 78 (8 * gv k + pl p) = nI (C k p) ∧ C k p ≤ 99) (l : ∀ t, t < 2 ^ s → hI τ 81 t = nI (L t) ∧ L t ≤ 1000000) {x1 x2 x3 : Value} : ∀ (i : Nat) (r : Option Nat) (l8 : Value), i ≤ s → ((r = none ∧ ∀ j, i ≤ j → j < s → canP C L k t j = false) ∨ ∃ q, r = some q ∧ i ≤ q ∧ q < s ∧ canP C L k t q = true ∧ ∀ j, i ≤ j → j < q → canP C L k t j = false) → ∃ l8', den (d + 1, 209, 84, [.ref 57, x1, x2, x3, .int (nI t), .int (ofo r), .int (nI k), .int (zI ((i : Int) - 1)), l8], [], τ) = den (d + 1, 209, 172, [.ref 57, x1, x2, x3, .int (nI t), .int (ofo (fnd (canP C L k t) s)), .int (nI k), .int (-1), l8'], [], τ) := by
  have p8 := pop_8 s (by omega) t ht
  have p9 := (bt9 s (by omega)).2.2
  intro i
  induction i with
  | zero =>
    intro r l8 hi hr
    refine ⟨l8, ?_⟩
    have e : fnd (canP C L k t) s = r := by
      rcases hr with ⟨rfl, h1⟩ | ⟨q, rfl, h1, h2, h3, h4⟩
      · exact fnd_none (fun j hj => h1 j (Nat.zero_le _) hj)
      · exact fnd_some h2 h3 (fun j hj => h4 j (Nat.zero_le _) hj)
    rw [e, a209_84]
    simp only [a209_86, show zI (((0 : Nat) : Int) - 1) = (-1 : Int32) from rfl, m1n, reduceIte]
  | succ i ih =>
    intro r l8 hi hr
    have ei : zI (((i + 1 : Nat) : Int) - 1) = nI i := by rw [show ((i + 1 : Nat) : Int) - 1 = (i : Int) by omega, zI_n]
    have em : nI i + (-1 : Int32) = zI ((i : Int) - 1) := by rw [← zI_n, show (-1 : Int32) = zI (-1) from rfl, zI_add]; congr 1
    have b1 := @bt1 t i p8.2 (by omega)
    have down : canP C L k t i = false → (r = none ∧ ∀ j, i ≤ j → j < s → canP C L k t j = false) ∨ ∃ q, r = some q ∧ i ≤ q ∧ q < s ∧ canP C L k t q = true ∧ ∀ j, i ≤ j → j < q → canP C L k t j = false := by
      intro z
      rcases hr with ⟨rfl, h1⟩ | ⟨q, rfl, h1, h2, h3, h4⟩
      · refine Or.inl ⟨rfl, fun j hj hj2 => ?_⟩
        by_cases y : j = i
        · rw [y]; exact z
        · exact h1 j (by omega) hj2
      · refine Or.inr ⟨q, rfl, by omega, h2, h3, fun j hj hj2 => ?_⟩
        by_cases y : j = i
        · rw [y]; exact z
        · exact h4 j (by omega) hj2
    rw [ei, a209_84]
    cases b : t.testBit i with
    | true =>
      rw [b] at b1
      obtain ⟨l8', e⟩ := ih r (.int (nI 0)) (by omega) (down (by unfold canP; rw [b]; rfl))
      refine ⟨l8', ?_⟩
      rw [← e]
      simp (disch := first | omega | (repeat (first | assumption | exact Ag_r | refine Ag_I ?_ rfl | refine Ag_F ?_ rfl | refine Ag_J ?_ rfl))) only [A209, A134, b1, em, CO, HA, HB, HC, Nat.not_lt_zero, Nat.add_assoc, c_nlt, c_nle, c_neq, c_P, c_cl, c_m1, c_m1', nI_add, pk_mul, reduceIte, Nat.reduceEqDiff, Nat.reduceAdd, Nat.reduceMul, Nat.reduceLeDiff, eq_self, ↓pk_rem, pk_div, c_of, d_le, d_nle, d_lt, d_nlt, d_eq, d_ne]
    | false =>
      rw [b] at b1
      simp only [Bool.false_eq_true, reduceIte] at b1
      obtain ⟨o1, o2, o3⟩ := or_b s (by omega) t ht i (by omega) b
      obtain ⟨m1, m2⟩ := m k i hk (by omega)
      obtain ⟨l1, l2⟩ := l t ht
      obtain ⟨l3, l4⟩ := l (t ||| 2 ^ i) o1
      obtain ⟨x1, -, x3, -⟩ := g3 k hk
      obtain ⟨-, y2, -, y4⟩ := g3 i (by omega)
      by_cases y : C k i + L (t ||| 2 ^ i) = L t
      · obtain ⟨l8', e⟩ := ih (some i) (.int (nI 1)) (by omega) (Or.inr ⟨i, rfl, Nat.le_refl _, by omega, by unfold canP; rw [b]; simp [y], fun j hj hj2 => by omega⟩)
        refine ⟨l8', ?_⟩
        rw [← e]
        simp (disch := first | omega | (repeat (first | assumption | exact Ag_r | refine Ag_I ?_ rfl | refine Ag_F ?_ rfl | refine Ag_J ?_ rfl))) only [A209, A134, FM hM, b1, em, x1, y2, m1, l1, bt2, l3, y, ofo, CO, HA, HB, HC, Nat.not_lt_zero, Nat.add_assoc, c_nlt, c_nle, c_neq, c_P, c_cl, c_m1, c_m1', nI_add, pk_mul, reduceIte, Nat.reduceEqDiff, Nat.reduceAdd, Nat.reduceMul, Nat.reduceLeDiff, eq_self, ↓pk_rem, pk_div, c_of, d_le, d_nle, d_lt, d_nlt, d_eq, d_ne]
      · obtain ⟨l8', e⟩ := ih r (.int (nI 0)) (by omega) (down (by unfold canP; simp [y]))
        refine ⟨l8', ?_⟩
        rw [← e]
        simp (disch := first | omega | (repeat (first | assumption | exact Ag_r | refine Ag_I ?_ rfl | refine Ag_F ?_ rfl | refine Ag_J ?_ rfl))) only [A209, A134, FM hM, b1, em, x1, y2, m1, l1, bt2, l3, y, CO, HA, HB, HC, Nat.not_lt_zero, Nat.add_assoc, c_nlt, c_nle, c_neq, c_P, c_cl, c_m1, c_m1', nI_add, pk_mul, reduceIte, Nat.reduceEqDiff, Nat.reduceAdd, Nat.reduceMul, Nat.reduceLeDiff, eq_self, ↓pk_rem, pk_div, c_of, d_le, d_nle, d_lt, d_nlt, d_eq, d_ne]
theorem gvs_C (hv1 : 1 ≤ v) (hv8 : v ≤ 8) (gv : GvC τ H v e) : ∀ i, i < fG H v e v → hI τ 25 i = nI (gvl (fG H v e) v i) ∧ hI τ 26 i = nI (gvl (fW H v e) v i) ∧ gvl (fG H v e) v i < 8 ∧ gvl (fW H v e) v i < 8 := fun i hi => by
  have a := gvl_lt (fG H v e) i v hv1
  have b := gvl_lt (fW H v e) i v hv1
  exact ⟨(gv.2.2 i hi).1, (gv.2.2 i hi).2, by omega, by omega⟩
theorem gvs_M (hv1 : 1 ≤ v) (hv8 : v ≤ 8) (gv : GvM τ H v e) : ∀ i, i < fG H v e v → hI τ 79 i = nI (gvl (fG H v e) v i) ∧ hI τ 80 i = nI (gvl (fW H v e) v i) ∧ gvl (fG H v e) v i < 8 ∧ gvl (fW H v e) v i < 8 := fun i hi => by
  have a := gvl_lt (fG H v e) i v hv1
  have b := gvl_lt (fW H v e) i v hv1
  exact ⟨(gv.2.2 i hi).1, (gv.2.2 i hi).2, by omega, by omega⟩
theorem mx_fC {c : Nat} (hv1 : 1 ≤ v) (mx : Mx c τ v (flk v (co0 T H v) v)) (k p : Nat) : hI τ c (8 * gvl (fG H v e) v k + gvl (fW H v e) v p) = nI (fC T H v e k p) ∧ fC T H v e k p ≤ 99 := ⟨(mx _ _ (gvl_lt (fG H v e) k v hv1) (gvl_lt (fW H v e) p v hv1)).1, fC_le T H e hv1 k p⟩
theorem C_isFeast (hC : FxC σ) (sC : StC σ v H) (hw : Wf v H) (he : e < 28) (hq : Qc σ τ) : Ev (den (d + 3, 128, 0, [.ref 0, .int (nI e)], [], τ)) (fun a υ => Qc σ υ ∧ Cal υ v H ∧ ((¬ Fst H v e ∧ a = some (.int (nI 0))) ∨ (Fst H v e ∧ a = some (.int (nI 1)) ∧ GvC υ H v e))) := by
  have h' := Qc_C hq hC
  simp (disch := first | omega | (repeat (first | assumption | exact Ag_r | refine Ag_I ?_ rfl | refine Ag_F ?_ rfl | refine Ag_J ?_ rfl))) only [A128, FC h', C_isDay', if_pos (inr_nI (show e ≤ 27 by omega) (show 27 < 2 ^ 31 by omega)), CO, HA, HB, HC, Nat.not_lt_zero, Nat.add_assoc, c_nlt, c_nle, c_neq, c_P, c_cl, c_m1, c_m1', nI_add, pk_mul, reduceIte, Nat.reduceEqDiff, Nat.reduceAdd, Nat.reduceMul, Nat.reduceLeDiff, eq_self, ↓pk_rem, pk_div, c_of, d_le, d_nle, d_lt, d_nlt, d_eq, d_ne]
  refine Ev_b (C_drawUp (d := d + 1) hC sC hw hq) ?_
  rintro _ τ2 ⟨rfl, hq2, hc⟩
  have h2 := Qc_C hq2 hC
  simp (disch := first | omega | (repeat (first | assumption | exact Ag_r | refine Ag_I ?_ rfl | refine Ag_F ?_ rfl | refine Ag_J ?_ rfl))) only [A128, FC h2, CO, HA, HB, HC, Nat.not_lt_zero, Nat.add_assoc, c_nlt, c_nle, c_neq, c_P, c_cl, c_m1, c_m1', nI_add, pk_mul, reduceIte, Nat.reduceEqDiff, Nat.reduceAdd, Nat.reduceMul, Nat.reduceLeDiff, eq_self, ↓pk_rem, pk_div, c_of, d_le, d_nle, d_lt, d_nlt, d_eq, d_ne]
  refine Ev_b (C_invite (d := d) hC sC hw he hq2 hc) ?_
  rintro a υ ⟨g, hh⟩
  rcases hh with ⟨h1, rfl⟩ | ⟨h1, rfl, h3⟩
  · simp (disch := first | omega | (repeat (first | assumption | exact Ag_r | refine Ag_I ?_ rfl | refine Ag_F ?_ rfl | refine Ag_J ?_ rfl))) only [A128, CO, HA, HB, HC, Nat.not_lt_zero, Nat.add_assoc, c_nlt, c_nle, c_neq, c_P, c_cl, c_m1, c_m1', nI_add, pk_mul, reduceIte, Nat.reduceEqDiff, Nat.reduceAdd, Nat.reduceMul, Nat.reduceLeDiff, eq_self, ↓pk_rem, pk_div, c_of, d_le, d_nle, d_lt, d_nlt, d_eq, d_ne]
    exact Ev_s ⟨Ag_t hq2 (Qf_c g), Cal_f g hc, Or.inl ⟨h1, rfl⟩⟩
  · simp (disch := first | omega | (repeat (first | assumption | exact Ag_r | refine Ag_I ?_ rfl | refine Ag_F ?_ rfl | refine Ag_J ?_ rfl))) only [A128, CO, HA, HB, HC, Nat.not_lt_zero, Nat.add_assoc, c_nlt, c_nle, c_neq, c_P, c_cl, c_m1, c_m1', nI_add, pk_mul, reduceIte, Nat.reduceEqDiff, Nat.reduceAdd, Nat.reduceMul, Nat.reduceLeDiff, eq_self, ↓pk_rem, pk_div, c_of, d_le, d_nle, d_lt, d_nlt, d_eq, d_ne]
    exact Ev_s ⟨Ag_t hq2 (Qf_c g), Cal_f g hc, Or.inr ⟨h1, rfl, h3⟩⟩
theorem GvC_r {τ υ : Hp} (g : Qr τ υ) (h : GvC τ H v e) : GvC υ H v e := ⟨by rw [Ag_f g 23 2 rfl]; exact h.1, by rw [Ag_f g 23 3 rfl]; exact h.2.1, fun i hi => by rw [Ag_i g 25 rfl, Ag_i g 26 rfl]; exact h.2.2 i hi⟩
theorem GvC_we {τ υ : Hp} (g : Qwe τ υ) (h : GvC τ H v e) : GvC υ H v e := ⟨by rw [Ag_f g 23 2 rfl]; exact h.1, by rw [Ag_f g 23 3 rfl]; exact h.2.1, fun i hi => by rw [Ag_i g 25 rfl, Ag_i g 26 rfl]; exact h.2.2 i hi⟩
theorem Mx_we {c : Nat} {m : Nat → Nat} {τ υ : Hp} (hc : ¬ c = 27) (g : Qwe τ υ) (h : Mx c τ v m) : Mx c υ v m := fun a b ha hb => by rw [Ag_i g c (bq hc)]; exact h a b ha hb
theorem P_easter (hC : FxC σ) (hM : FxM ρ) (sC : StC σ v H) (sM : StM ρ v H) (hw : Wf v H) (lC : LfC σ T) (lM : LfM ρ T) (x y : Int32) : ∃ r, Ev (den (d + 8, 104, 0, [.ref 0, .int x, .int y], [], σ)) (fun a τ => a = some (.int r) ∧ Qc σ τ) ∧ Ev (den (d + 8, 208, 0, [.ref 57, .int x, .int y], [], ρ)) (fun a τ => a = some (.int r) ∧ Qm ρ τ) := by
  have hv1 := hw.1
  have hv8 := hw.2.1
  rcases tri y 2 (by omega) with hy | ⟨m, hm, rfl⟩ | ⟨m, hm, hm2, rfl⟩
  · by_cases hx : inr x 27
    · refine ⟨-1, ?_, ?_⟩
      · simp (disch := first | omega | (repeat (first | assumption | exact Ag_r | refine Ag_I ?_ rfl | refine Ag_F ?_ rfl | refine Ag_J ?_ rfl))) only [A104, FC hC, ng hy, CO, HA, HB, HC, Nat.not_lt_zero, Nat.add_assoc, c_nlt, c_nle, c_neq, c_P, c_cl, c_m1, c_m1', nI_add, pk_mul, reduceIte, Nat.reduceEqDiff, Nat.reduceAdd, Nat.reduceMul, Nat.reduceLeDiff, eq_self, ↓pk_rem, pk_div, c_of, d_le, d_nle, d_lt, d_nlt, d_eq, d_ne]
        exact Ev_s ⟨rfl, (by repeat (first | assumption | exact Ag_r | refine Ag_I ?_ rfl | refine Ag_F ?_ rfl | refine Ag_J ?_ rfl))⟩
      · simp (disch := first | omega | (repeat (first | assumption | exact Ag_r | refine Ag_I ?_ rfl | refine Ag_F ?_ rfl | refine Ag_J ?_ rfl))) only [A208, FM hM, M_isDay, if_pos hx, M_in, l_lo, l_hi, ng hy, CO, HA, HB, HC, Nat.not_lt_zero, Nat.add_assoc, c_nlt, c_nle, c_neq, c_P, c_cl, c_m1, c_m1', nI_add, pk_mul, reduceIte, Nat.reduceEqDiff, Nat.reduceAdd, Nat.reduceMul, Nat.reduceLeDiff, eq_self, ↓pk_rem, pk_div, c_of, d_le, d_nle, d_lt, d_nlt, d_eq, d_ne]
        exact Ev_s ⟨rfl, (by repeat (first | assumption | exact Ag_r | refine Ag_I ?_ rfl | refine Ag_F ?_ rfl | refine Ag_J ?_ rfl))⟩
    · refine ⟨-1, ?_, ?_⟩
      · simp (disch := first | omega | (repeat (first | assumption | exact Ag_r | refine Ag_I ?_ rfl | refine Ag_F ?_ rfl | refine Ag_J ?_ rfl))) only [A104, FC hC, ng hy, CO, HA, HB, HC, Nat.not_lt_zero, Nat.add_assoc, c_nlt, c_nle, c_neq, c_P, c_cl, c_m1, c_m1', nI_add, pk_mul, reduceIte, Nat.reduceEqDiff, Nat.reduceAdd, Nat.reduceMul, Nat.reduceLeDiff, eq_self, ↓pk_rem, pk_div, c_of, d_le, d_nle, d_lt, d_nlt, d_eq, d_ne]
        exact Ev_s ⟨rfl, (by repeat (first | assumption | exact Ag_r | refine Ag_I ?_ rfl | refine Ag_F ?_ rfl | refine Ag_J ?_ rfl))⟩
      · simp (disch := first | omega | (repeat (first | assumption | exact Ag_r | refine Ag_I ?_ rfl | refine Ag_F ?_ rfl | refine Ag_J ?_ rfl))) only [A208, FM hM, M_isDay, if_neg hx, M_in, l_lo, l_hi, ng hy, CO, HA, HB, HC, Nat.not_lt_zero, Nat.add_assoc, c_nlt, c_nle, c_neq, c_P, c_cl, c_m1, c_m1', nI_add, pk_mul, reduceIte, Nat.reduceEqDiff, Nat.reduceAdd, Nat.reduceMul, Nat.reduceLeDiff, eq_self, ↓pk_rem, pk_div, c_of, d_le, d_nle, d_lt, d_nlt, d_eq, d_ne]
        exact Ev_s ⟨rfl, (by repeat (first | assumption | exact Ag_r | refine Ag_I ?_ rfl | refine Ag_F ?_ rfl | refine Ag_J ?_ rfl))⟩
  · by_cases hx : inr x 27
    · obtain ⟨e, he, rfl⟩ := inr_of (by omega) hx
      by_cases F : Fst H v e
      · have h8 : fG H v e v ≤ 8 := F.2.2
        have dle : fD H v e ≤ 1792 := by
          have gb := gsm_le (fun u => bef H v u e) (m := 224) (u := v) (fun i _ => by have := bef_le H i (show e ≤ 28 by omega) v; omega)
          unfold fD; have := Nat.div_le_self (gsm (fun u => bef H v u e) v) v; omega
        have cz := fC_le T H e hv1
        have l0 := lea_bd (C := fC T H v e) (show fG H v e v < 9 by omega) (fun k p _ _ => cz k p) (2 ^ fG H v e v - 1) 0 (by omega)
        have p9 := bt9 (fG H v e v) (by omega)
        refine ⟨if m = 0 then nI (lea (fC T H v e) (fG H v e v) (2 ^ fG H v e v - 1) 0) else if m = 1 then nI (fD H v e) else nI (fG H v e v), ?_, ?_⟩
        · simp (disch := first | omega | (repeat (first | assumption | exact Ag_r | refine Ag_I ?_ rfl | refine Ag_F ?_ rfl | refine Ag_J ?_ rfl))) only [A104, FC hC, CO, HA, HB, HC, Nat.not_lt_zero, Nat.add_assoc, c_nlt, c_nle, c_neq, c_P, c_cl, c_m1, c_m1', nI_add, pk_mul, reduceIte, Nat.reduceEqDiff, Nat.reduceAdd, Nat.reduceMul, Nat.reduceLeDiff, eq_self, ↓pk_rem, pk_div, c_of, d_le, d_nle, d_lt, d_nlt, d_eq, d_ne]
          refine Ev_b (C_isFeast (d := d + 4) hC sC hw (show e < 28 by omega) Ag_r) ?_
          rintro a τ ⟨hq, hc, hh⟩
          rcases hh with ⟨h1, -⟩ | ⟨-, rfl, gv⟩
          · exact absurd F h1
          have h' := Qc_C hq hC
          by_cases m0 : m = 0
          · rw [if_pos m0]
            simp (disch := first | omega | (repeat (first | assumption | exact Ag_r | refine Ag_I ?_ rfl | refine Ag_F ?_ rfl | refine Ag_J ?_ rfl))) only [A104, m0, FC h', CO, HA, HB, HC, Nat.not_lt_zero, Nat.add_assoc, c_nlt, c_nle, c_neq, c_P, c_cl, c_m1, c_m1', nI_add, pk_mul, reduceIte, Nat.reduceEqDiff, Nat.reduceAdd, Nat.reduceMul, Nat.reduceLeDiff, eq_self, ↓pk_rem, pk_div, c_of, d_le, d_nle, d_lt, d_nlt, d_eq, d_ne]
            refine Ev_b (C_layRoads (d := d + 1) hC sC hw lC hq hc) ?_
            rintro _ τ2 ⟨rfl, g2, mx⟩
            have h2 := Qc_C (Qr_c g2) h'
            simp (disch := first | omega | (repeat (first | assumption | exact Ag_r | refine Ag_I ?_ rfl | refine Ag_F ?_ rfl | refine Ag_J ?_ rfl))) only [A104, FC h2, CO, HA, HB, HC, Nat.not_lt_zero, Nat.add_assoc, c_nlt, c_nle, c_neq, c_P, c_cl, c_m1, c_m1', nI_add, pk_mul, reduceIte, Nat.reduceEqDiff, Nat.reduceAdd, Nat.reduceMul, Nat.reduceLeDiff, eq_self, ↓pk_rem, pk_div, c_of, d_le, d_nle, d_lt, d_nlt, d_eq, d_ne]
            refine Ev_b (C_weigh (d := d + 5) h2 hv1 hv8 (GvC_r g2 gv) h8 mx) ?_
            rintro _ τ3 ⟨rfl, g3, lf⟩
            have h3 := Qc_C (Qwe_c g3) h2
            have lf0 := lf 0 (Nat.zero_le _)
            simp (disch := first | omega | (repeat (first | assumption | exact Ag_r | refine Ag_I ?_ rfl | refine Ag_F ?_ rfl | refine Ag_J ?_ rfl))) only [A104, A22, FC h3, lf0, CO, HA, HB, HC, Nat.not_lt_zero, Nat.add_assoc, c_nlt, c_nle, c_neq, c_P, c_cl, c_m1, c_m1', nI_add, pk_mul, reduceIte, Nat.reduceEqDiff, Nat.reduceAdd, Nat.reduceMul, Nat.reduceLeDiff, eq_self, ↓pk_rem, pk_div, c_of, d_le, d_nle, d_lt, d_nlt, d_eq, d_ne]
            exact Ev_s ⟨rfl, Ag_t hq (Ag_t (Qr_c g2) (Qwe_c g3))⟩
          · rw [if_neg m0]
            by_cases m1 : m = 1
            · rw [if_pos m1]
              simp (disch := first | omega | (repeat (first | assumption | exact Ag_r | refine Ag_I ?_ rfl | refine Ag_F ?_ rfl | refine Ag_J ?_ rfl))) only [A104, m1, FC h', gv.2.1, CO, HA, HB, HC, Nat.not_lt_zero, Nat.add_assoc, c_nlt, c_nle, c_neq, c_P, c_cl, c_m1, c_m1', nI_add, pk_mul, reduceIte, Nat.reduceEqDiff, Nat.reduceAdd, Nat.reduceMul, Nat.reduceLeDiff, eq_self, ↓pk_rem, pk_div, c_of, d_le, d_nle, d_lt, d_nlt, d_eq, d_ne]
              exact Ev_s ⟨rfl, hq⟩
            · rw [if_neg m1]
              simp (disch := first | omega | (repeat (first | assumption | exact Ag_r | refine Ag_I ?_ rfl | refine Ag_F ?_ rfl | refine Ag_J ?_ rfl))) only [A104, m0, m1, FC h', gv.1, CO, HA, HB, HC, Nat.not_lt_zero, Nat.add_assoc, c_nlt, c_nle, c_neq, c_P, c_cl, c_m1, c_m1', nI_add, pk_mul, reduceIte, Nat.reduceEqDiff, Nat.reduceAdd, Nat.reduceMul, Nat.reduceLeDiff, eq_self, ↓pk_rem, pk_div, c_of, d_le, d_nle, d_lt, d_nlt, d_eq, d_ne]
              exact Ev_s ⟨rfl, hq⟩
        · simp (disch := first | omega | (repeat (first | assumption | exact Ag_r | refine Ag_I ?_ rfl | refine Ag_F ?_ rfl | refine Ag_J ?_ rfl))) only [A208, FM hM, M_isDay, if_pos hx, M_in, l_lo, l_hi, CO, HA, HB, HC, Nat.not_lt_zero, Nat.add_assoc, c_nlt, c_nle, c_neq, c_P, c_cl, c_m1, c_m1', nI_add, pk_mul, reduceIte, Nat.reduceEqDiff, Nat.reduceAdd, Nat.reduceMul, Nat.reduceLeDiff, eq_self, ↓pk_rem, pk_div, c_of, d_le, d_nle, d_lt, d_nlt, d_eq, d_ne]
          refine Ev_b (M_load hM sM hw (by repeat (first | assumption | exact Ag_r | refine Ag_I ?_ rfl | refine Ag_F ?_ rfl | refine Ag_J ?_ rfl))) ?_
          rintro _ τ ⟨rfl, hq, hl⟩
          have h' := Qm_M hq hM
          simp (disch := first | omega | (repeat (first | assumption | exact Ag_r | refine Ag_I ?_ rfl | refine Ag_F ?_ rfl | refine Ag_J ?_ rfl))) only [A208, FM h', CO, HA, HB, HC, Nat.not_lt_zero, Nat.add_assoc, c_nlt, c_nle, c_neq, c_P, c_cl, c_m1, c_m1', nI_add, pk_mul, reduceIte, Nat.reduceEqDiff, Nat.reduceAdd, Nat.reduceMul, Nat.reduceLeDiff, eq_self, ↓pk_rem, pk_div, c_of, d_le, d_nle, d_lt, d_nlt, d_eq, d_ne]
          refine Ev_b (M_isEaster (d := d + 5) hM sM hw (show e < 28 by omega) hq hl.1) ?_
          rintro a τ2 ⟨g2, hh⟩
          rcases hh with ⟨h1, -⟩ | ⟨-, rfl, gv⟩
          · exact absurd F h1
          have hq2 : Qm ρ τ2 := Ag_t hq (Qg_m g2)
          have h2 := Qm_M hq2 hM
          simp (disch := first | omega | (repeat (first | assumption | exact Ag_r | refine Ag_I ?_ rfl | refine Ag_F ?_ rfl | refine Ag_J ?_ rfl))) only [A208, FM h2, CO, HA, HB, HC, Nat.not_lt_zero, Nat.add_assoc, c_nlt, c_nle, c_neq, c_P, c_cl, c_m1, c_m1', nI_add, pk_mul, reduceIte, Nat.reduceEqDiff, Nat.reduceAdd, Nat.reduceMul, Nat.reduceLeDiff, eq_self, ↓pk_rem, pk_div, c_of, d_le, d_nle, d_lt, d_nlt, d_eq, d_ne]
          refine Ev_b (M_findLeast (d := d) (T := T) hM sM hw lM hq2 (K := H) ⟨fun c hc => ⟨by rw [Ag_i g2 72 rfl]; exact hl.1 c hc, Wf_8 hw hc⟩, fun u hu => ⟨by rw [Ag_i g2 73 rfl]; exact hl.2 u hu, hd_le H u hv8⟩⟩ gv h8) ?_
          rintro _ τ3 ⟨rfl, hq3, gv3, mx, lf⟩
          have h3 := Qm_M hq3 hM
          have lf0 := lf 0 (Nat.zero_le _)
          by_cases m0 : m = 0
          · rw [if_pos m0]
            simp (disch := first | omega | (repeat (first | assumption | exact Ag_r | refine Ag_I ?_ rfl | refine Ag_F ?_ rfl | refine Ag_J ?_ rfl))) only [A208, m0, FM h3, lf0, CO, HA, HB, HC, Nat.not_lt_zero, Nat.add_assoc, c_nlt, c_nle, c_neq, c_P, c_cl, c_m1, c_m1', nI_add, pk_mul, reduceIte, Nat.reduceEqDiff, Nat.reduceAdd, Nat.reduceMul, Nat.reduceLeDiff, eq_self, ↓pk_rem, pk_div, c_of, d_le, d_nle, d_lt, d_nlt, d_eq, d_ne]
            exact Ev_s ⟨rfl, hq3⟩
          · rw [if_neg m0]
            by_cases m1 : m = 1
            · rw [if_pos m1]
              simp (disch := first | omega | (repeat (first | assumption | exact Ag_r | refine Ag_I ?_ rfl | refine Ag_F ?_ rfl | refine Ag_J ?_ rfl))) only [A208, m1, FM h3, gv3.2.1, CO, HA, HB, HC, Nat.not_lt_zero, Nat.add_assoc, c_nlt, c_nle, c_neq, c_P, c_cl, c_m1, c_m1', nI_add, pk_mul, reduceIte, Nat.reduceEqDiff, Nat.reduceAdd, Nat.reduceMul, Nat.reduceLeDiff, eq_self, ↓pk_rem, pk_div, c_of, d_le, d_nle, d_lt, d_nlt, d_eq, d_ne]
              exact Ev_s ⟨rfl, hq3⟩
            · rw [if_neg m1]
              simp (disch := first | omega | (repeat (first | assumption | exact Ag_r | refine Ag_I ?_ rfl | refine Ag_F ?_ rfl | refine Ag_J ?_ rfl))) only [A208, m0, m1, FM h3, gv3.1, CO, HA, HB, HC, Nat.not_lt_zero, Nat.add_assoc, c_nlt, c_nle, c_neq, c_P, c_cl, c_m1, c_m1', nI_add, pk_mul, reduceIte, Nat.reduceEqDiff, Nat.reduceAdd, Nat.reduceMul, Nat.reduceLeDiff, eq_self, ↓pk_rem, pk_div, c_of, d_le, d_nle, d_lt, d_nlt, d_eq, d_ne]
              exact Ev_s ⟨rfl, hq3⟩
      · refine ⟨-1, ?_, ?_⟩
        · simp (disch := first | omega | (repeat (first | assumption | exact Ag_r | refine Ag_I ?_ rfl | refine Ag_F ?_ rfl | refine Ag_J ?_ rfl))) only [A104, FC hC, CO, HA, HB, HC, Nat.not_lt_zero, Nat.add_assoc, c_nlt, c_nle, c_neq, c_P, c_cl, c_m1, c_m1', nI_add, pk_mul, reduceIte, Nat.reduceEqDiff, Nat.reduceAdd, Nat.reduceMul, Nat.reduceLeDiff, eq_self, ↓pk_rem, pk_div, c_of, d_le, d_nle, d_lt, d_nlt, d_eq, d_ne]
          refine Ev_b (C_isFeast (d := d + 4) hC sC hw (show e < 28 by omega) Ag_r) ?_
          rintro a τ ⟨hq, hc, hh⟩
          rcases hh with ⟨-, rfl⟩ | ⟨h1, -, -⟩
          · simp (disch := first | omega | (repeat (first | assumption | exact Ag_r | refine Ag_I ?_ rfl | refine Ag_F ?_ rfl | refine Ag_J ?_ rfl))) only [A104, CO, HA, HB, HC, Nat.not_lt_zero, Nat.add_assoc, c_nlt, c_nle, c_neq, c_P, c_cl, c_m1, c_m1', nI_add, pk_mul, reduceIte, Nat.reduceEqDiff, Nat.reduceAdd, Nat.reduceMul, Nat.reduceLeDiff, eq_self, ↓pk_rem, pk_div, c_of, d_le, d_nle, d_lt, d_nlt, d_eq, d_ne]
            exact Ev_s ⟨rfl, hq⟩
          · exact absurd h1 F
        · simp (disch := first | omega | (repeat (first | assumption | exact Ag_r | refine Ag_I ?_ rfl | refine Ag_F ?_ rfl | refine Ag_J ?_ rfl))) only [A208, FM hM, M_isDay, if_pos hx, M_in, l_lo, l_hi, CO, HA, HB, HC, Nat.not_lt_zero, Nat.add_assoc, c_nlt, c_nle, c_neq, c_P, c_cl, c_m1, c_m1', nI_add, pk_mul, reduceIte, Nat.reduceEqDiff, Nat.reduceAdd, Nat.reduceMul, Nat.reduceLeDiff, eq_self, ↓pk_rem, pk_div, c_of, d_le, d_nle, d_lt, d_nlt, d_eq, d_ne]
          refine Ev_b (M_load hM sM hw (by repeat (first | assumption | exact Ag_r | refine Ag_I ?_ rfl | refine Ag_F ?_ rfl | refine Ag_J ?_ rfl))) ?_
          rintro _ τ ⟨rfl, hq, hl⟩
          have h' := Qm_M hq hM
          simp (disch := first | omega | (repeat (first | assumption | exact Ag_r | refine Ag_I ?_ rfl | refine Ag_F ?_ rfl | refine Ag_J ?_ rfl))) only [A208, FM h', CO, HA, HB, HC, Nat.not_lt_zero, Nat.add_assoc, c_nlt, c_nle, c_neq, c_P, c_cl, c_m1, c_m1', nI_add, pk_mul, reduceIte, Nat.reduceEqDiff, Nat.reduceAdd, Nat.reduceMul, Nat.reduceLeDiff, eq_self, ↓pk_rem, pk_div, c_of, d_le, d_nle, d_lt, d_nlt, d_eq, d_ne]
          refine Ev_b (M_isEaster (d := d + 5) hM sM hw (show e < 28 by omega) hq hl.1) ?_
          rintro a τ2 ⟨g2, hh⟩
          rcases hh with ⟨-, rfl⟩ | ⟨h1, -, -⟩
          · simp (disch := first | omega | (repeat (first | assumption | exact Ag_r | refine Ag_I ?_ rfl | refine Ag_F ?_ rfl | refine Ag_J ?_ rfl))) only [A208, CO, HA, HB, HC, Nat.not_lt_zero, Nat.add_assoc, c_nlt, c_nle, c_neq, c_P, c_cl, c_m1, c_m1', nI_add, pk_mul, reduceIte, Nat.reduceEqDiff, Nat.reduceAdd, Nat.reduceMul, Nat.reduceLeDiff, eq_self, ↓pk_rem, pk_div, c_of, d_le, d_nle, d_lt, d_nlt, d_eq, d_ne]
            exact Ev_s ⟨rfl, Ag_t hq (Qg_m g2)⟩
          · exact absurd h1 F
    · refine ⟨-1, ?_, ?_⟩
      · simp (disch := first | omega | (repeat (first | assumption | exact Ag_r | refine Ag_I ?_ rfl | refine Ag_F ?_ rfl | refine Ag_J ?_ rfl))) only [A104, FC hC, A128, C_isDay', if_neg hx, CO, HA, HB, HC, Nat.not_lt_zero, Nat.add_assoc, c_nlt, c_nle, c_neq, c_P, c_cl, c_m1, c_m1', nI_add, pk_mul, reduceIte, Nat.reduceEqDiff, Nat.reduceAdd, Nat.reduceMul, Nat.reduceLeDiff, eq_self, ↓pk_rem, pk_div, c_of, d_le, d_nle, d_lt, d_nlt, d_eq, d_ne]
        exact Ev_s ⟨rfl, (by repeat (first | assumption | exact Ag_r | refine Ag_I ?_ rfl | refine Ag_F ?_ rfl | refine Ag_J ?_ rfl))⟩
      · simp (disch := first | omega | (repeat (first | assumption | exact Ag_r | refine Ag_I ?_ rfl | refine Ag_F ?_ rfl | refine Ag_J ?_ rfl))) only [A208, FM hM, M_isDay, if_neg hx, CO, HA, HB, HC, Nat.not_lt_zero, Nat.add_assoc, c_nlt, c_nle, c_neq, c_P, c_cl, c_m1, c_m1', nI_add, pk_mul, reduceIte, Nat.reduceEqDiff, Nat.reduceAdd, Nat.reduceMul, Nat.reduceLeDiff, eq_self, ↓pk_rem, pk_div, c_of, d_le, d_nle, d_lt, d_nlt, d_eq, d_ne]
        exact Ev_s ⟨rfl, (by repeat (first | assumption | exact Ag_r | refine Ag_I ?_ rfl | refine Ag_F ?_ rfl | refine Ag_J ?_ rfl))⟩
  · by_cases hx : inr x 27
    · refine ⟨-1, ?_, ?_⟩
      · simp (disch := first | omega | (repeat (first | assumption | exact Ag_r | refine Ag_I ?_ rfl | refine Ag_F ?_ rfl | refine Ag_J ?_ rfl))) only [A104, FC hC, CO, HA, HB, HC, Nat.not_lt_zero, Nat.add_assoc, c_nlt, c_nle, c_neq, c_P, c_cl, c_m1, c_m1', nI_add, pk_mul, reduceIte, Nat.reduceEqDiff, Nat.reduceAdd, Nat.reduceMul, Nat.reduceLeDiff, eq_self, ↓pk_rem, pk_div, c_of, d_le, d_nle, d_lt, d_nlt, d_eq, d_ne]
        exact Ev_s ⟨rfl, (by repeat (first | assumption | exact Ag_r | refine Ag_I ?_ rfl | refine Ag_F ?_ rfl | refine Ag_J ?_ rfl))⟩
      · simp (disch := first | omega | (repeat (first | assumption | exact Ag_r | refine Ag_I ?_ rfl | refine Ag_F ?_ rfl | refine Ag_J ?_ rfl))) only [A208, FM hM, M_isDay, if_pos hx, M_in, l_lo, l_hi, CO, HA, HB, HC, Nat.not_lt_zero, Nat.add_assoc, c_nlt, c_nle, c_neq, c_P, c_cl, c_m1, c_m1', nI_add, pk_mul, reduceIte, Nat.reduceEqDiff, Nat.reduceAdd, Nat.reduceMul, Nat.reduceLeDiff, eq_self, ↓pk_rem, pk_div, c_of, d_le, d_nle, d_lt, d_nlt, d_eq, d_ne]
        exact Ev_s ⟨rfl, (by repeat (first | assumption | exact Ag_r | refine Ag_I ?_ rfl | refine Ag_F ?_ rfl | refine Ag_J ?_ rfl))⟩
    · refine ⟨-1, ?_, ?_⟩
      · simp (disch := first | omega | (repeat (first | assumption | exact Ag_r | refine Ag_I ?_ rfl | refine Ag_F ?_ rfl | refine Ag_J ?_ rfl))) only [A104, FC hC, CO, HA, HB, HC, Nat.not_lt_zero, Nat.add_assoc, c_nlt, c_nle, c_neq, c_P, c_cl, c_m1, c_m1', nI_add, pk_mul, reduceIte, Nat.reduceEqDiff, Nat.reduceAdd, Nat.reduceMul, Nat.reduceLeDiff, eq_self, ↓pk_rem, pk_div, c_of, d_le, d_nle, d_lt, d_nlt, d_eq, d_ne]
        exact Ev_s ⟨rfl, (by repeat (first | assumption | exact Ag_r | refine Ag_I ?_ rfl | refine Ag_F ?_ rfl | refine Ag_J ?_ rfl))⟩
      · simp (disch := first | omega | (repeat (first | assumption | exact Ag_r | refine Ag_I ?_ rfl | refine Ag_F ?_ rfl | refine Ag_J ?_ rfl))) only [A208, FM hM, M_isDay, if_neg hx, M_in, l_lo, l_hi, CO, HA, HB, HC, Nat.not_lt_zero, Nat.add_assoc, c_nlt, c_nle, c_neq, c_P, c_cl, c_m1, c_m1', nI_add, pk_mul, reduceIte, Nat.reduceEqDiff, Nat.reduceAdd, Nat.reduceMul, Nat.reduceLeDiff, eq_self, ↓pk_rem, pk_div, c_of, d_le, d_nle, d_lt, d_nlt, d_eq, d_ne]
        exact Ev_s ⟨rfl, (by repeat (first | assumption | exact Ag_r | refine Ag_I ?_ rfl | refine Ag_F ?_ rfl | refine Ag_J ?_ rfl))⟩
theorem M_tradeL (hM : FxM τ) {s i : Nat} {C : Nat → Nat → Nat} {gv pl : Nat → Nat} (hs : s ≤ 8) (hi : i < s) (hC9 : ∀ k p, k < s → p < s → C k p ≤ 99) (g1 : hF τ 57 46 = .int (nI s)) (g3 : ∀ i, i < s → hI τ 79 i = nI (gv i) ∧ hI τ 80 i = nI (pl i) ∧ gv i < 8 ∧ pl i < 8) (m : ∀ k p, k < s → p < s → hI τ 78 (8 * gv k + pl p) = nI (C k p) ∧ C k p ≤ 99) (l : Lf 81 τ s C) {x1 : Value} {y3 : Int32} : ∃ x4 x6 x7 x8, den (d + 1, 209, 67, [.ref 57, x1, .int (nI i), .int y3, .int (nI 0), .int (-1), .int (nI 0), .float 0, .float 0], [], τ) = den (d + 1, 209, 187, [.ref 57, x1, .int (nI i), .int y3, x4, .int (nI (dueP C (lea C s (2 ^ s - 1)) s i)), x6, x7, x8], [], τ) := by
  have p9 := bt9 s (by omega)
  have l' : ∀ t, t < 2 ^ s → hI τ 81 t = nI (lea C s (2 ^ s - 1) t) ∧ lea C s (2 ^ s - 1) t ≤ 1000000 := fun t ht => ⟨l t (by omega), by
    have := lea_bd (C := C) (show s < 9 by omega) hC9 (2 ^ s - 1 - t) t (by omega); omega⟩
  generalize Ldef : lea C s (2 ^ s - 1) = L at *
  have fo := fun k hk => filP_ok (C := C) (s := s) (by omega) hC9 k hk
  rw [Ldef] at fo
  have es : nI s - nI 1 = zI ((s : Int) - 1) := by rw [← zI_n, show nI 1 = zI 1 from rfl, zI_sub]
  have one : ∀ (k : Nat) (w : Int32) (l7 l8 : Value), k ≤ i → ∃ l8', den (d + 1, 209, 67, [.ref 57, x1, .int (nI i), .int y3, .int (nI (filP C L s k)), .int w, .int (nI k), l7, l8], [], τ) = den (d + 1, 209, 67, [.ref 57, x1, .int (nI i), .int y3, .int (nI (filP C L s (k + 1))), .int (nI (dueP C L s k)), .int (nI (k + 1)), .int (-1), l8'], [], τ) := by
    intro k w l7 l8 hk
    obtain ⟨f1, f2, -⟩ := fo k (by omega)
    obtain ⟨p, hp⟩ := (fo (k + 1) (by omega)).2.2 k (by omega)
    obtain ⟨q1, q2, q3⟩ := fnd_s hp
    have p8 := pop_8 s (by omega) _ f1
    have du : dueP C L s k = p := by unfold dueP; rw [hp]; rfl
    have fs : filP C L s (k + 1) = filP C L s k ||| 2 ^ p := by simp only [filP, hp, Option.getD_some]
    obtain ⟨l8', e⟩ := M_tradeIn (d := d) (x1 := x1) (x2 := .int (nI i)) (x3 := .int y3) hM hs (show k < s by omega) f1 g3 m l' s none l8 (Nat.le_refl _) (Or.inl ⟨rfl, fun j hj hj2 => by omega⟩)
    rw [hp] at e
    refine ⟨l8', ?_⟩
    rw [du, fs]
    have e0 : den (d + 1, 209, 67, [.ref 57, x1, .int (nI i), .int y3, .int (nI (filP C L s k)), .int w, .int (nI k), l7, l8], [], τ) = den (d + 1, 209, 84, [.ref 57, x1, .int (nI i), .int y3, .int (nI (filP C L s k)), .int (ofo none), .int (nI k), .int (zI ((s : Int) - 1)), l8], [], τ) := by
      rw [a209_67]
      simp (disch := first | omega | (repeat (first | assumption | exact Ag_r | refine Ag_I ?_ rfl | refine Ag_F ?_ rfl | refine Ag_J ?_ rfl))) only [A209, FM hM, g1, es, ofo, CO, HA, HB, HC, Nat.not_lt_zero, Nat.add_assoc, c_nlt, c_nle, c_neq, c_P, c_cl, c_m1, c_m1', nI_add, pk_mul, reduceIte, Nat.reduceEqDiff, Nat.reduceAdd, Nat.reduceMul, Nat.reduceLeDiff, eq_self, ↓pk_rem, pk_div, c_of, d_le, d_nle, d_lt, d_nlt, d_eq, d_ne]
    rw [e0, e]
    simp (disch := first | omega | (repeat (first | assumption | exact Ag_r | refine Ag_I ?_ rfl | refine Ag_F ?_ rfl | refine Ag_J ?_ rfl))) only [A209, ofo, bt2, CO, HA, HB, HC, Nat.not_lt_zero, Nat.add_assoc, c_nlt, c_nle, c_neq, c_P, c_cl, c_m1, c_m1', nI_add, pk_mul, reduceIte, Nat.reduceEqDiff, Nat.reduceAdd, Nat.reduceMul, Nat.reduceLeDiff, eq_self, ↓pk_rem, pk_div, c_of, d_le, d_nle, d_lt, d_nlt, d_eq, d_ne]
  have all : ∀ k, k ≤ i → ∃ l8', den (d + 1, 209, 67, [.ref 57, x1, .int (nI i), .int y3, .int (nI 0), .int (-1), .int (nI 0), .float 0, .float 0], [], τ) = den (d + 1, 209, 67, [.ref 57, x1, .int (nI i), .int y3, .int (nI (filP C L s (k + 1))), .int (nI (dueP C L s k)), .int (nI (k + 1)), .int (-1), l8'], [], τ) := by
    intro k
    induction k with
    | zero => intro _; exact one 0 (-1) (.float 0) (.float 0) (Nat.zero_le _)
    | succ k ih =>
      intro hk
      obtain ⟨l8, e⟩ := ih (by omega)
      obtain ⟨l9, e2⟩ := one (k + 1) (nI (dueP C L s k)) (.int (-1)) l8 hk
      exact ⟨l9, e.trans e2⟩
  obtain ⟨l8, e⟩ := all i (Nat.le_refl _)
  refine ⟨.int (nI (filP C L s (i + 1))), .int (nI (i + 1)), .int (-1), l8, ?_⟩
  rw [e, a209_67]
  simp (disch := omega) only [a209_69, a209_70, c_nlt, d_lt, reduceIte]
theorem P_trade (hC : FxC σ) (hM : FxM ρ) (sC : StC σ v H) (sM : StM ρ v H) (hw : Wf v H) (lC : LfC σ T) (lM : LfM ρ T) (x z y : Int32) : ∃ r, Ev (den (d + 8, 105, 0, [.ref 0, .int x, .int z, .int y], [], σ)) (fun a τ => a = some (.int r) ∧ Qc σ τ) ∧ Ev (den (d + 8, 209, 0, [.ref 57, .int x, .int z, .int y, .float 0, .float 0, .float 0, .float 0, .float 0], [], ρ)) (fun a τ => a = some (.int r) ∧ Qm ρ τ) := by
  have hv1 := hw.1
  have hv8 := hw.2.1
  rcases tri y 1 (by omega) with hy | ⟨m, hm, rfl⟩ | ⟨m, hm, hm2, rfl⟩
  · by_cases hx : inr x 27
    · refine ⟨-1, ?_, ?_⟩
      · simp (disch := first | omega | (repeat (first | assumption | exact Ag_r | refine Ag_I ?_ rfl | refine Ag_F ?_ rfl | refine Ag_J ?_ rfl))) only [A105, FC hC, ng hy, CO, HA, HB, HC, Nat.not_lt_zero, Nat.add_assoc, c_nlt, c_nle, c_neq, c_P, c_cl, c_m1, c_m1', nI_add, pk_mul, reduceIte, Nat.reduceEqDiff, Nat.reduceAdd, Nat.reduceMul, Nat.reduceLeDiff, eq_self, ↓pk_rem, pk_div, c_of, d_le, d_nle, d_lt, d_nlt, d_eq, d_ne]
        exact Ev_s ⟨rfl, (by repeat (first | assumption | exact Ag_r | refine Ag_I ?_ rfl | refine Ag_F ?_ rfl | refine Ag_J ?_ rfl))⟩
      · simp (disch := first | omega | (repeat (first | assumption | exact Ag_r | refine Ag_I ?_ rfl | refine Ag_F ?_ rfl | refine Ag_J ?_ rfl))) only [A209, FM hM, M_isDay, if_pos hx, M_in, l_lo, l_hi, ng hy, CO, HA, HB, HC, Nat.not_lt_zero, Nat.add_assoc, c_nlt, c_nle, c_neq, c_P, c_cl, c_m1, c_m1', nI_add, pk_mul, reduceIte, Nat.reduceEqDiff, Nat.reduceAdd, Nat.reduceMul, Nat.reduceLeDiff, eq_self, ↓pk_rem, pk_div, c_of, d_le, d_nle, d_lt, d_nlt, d_eq, d_ne]
        exact Ev_s ⟨rfl, (by repeat (first | assumption | exact Ag_r | refine Ag_I ?_ rfl | refine Ag_F ?_ rfl | refine Ag_J ?_ rfl))⟩
    · refine ⟨-1, ?_, ?_⟩
      · simp (disch := first | omega | (repeat (first | assumption | exact Ag_r | refine Ag_I ?_ rfl | refine Ag_F ?_ rfl | refine Ag_J ?_ rfl))) only [A105, FC hC, ng hy, CO, HA, HB, HC, Nat.not_lt_zero, Nat.add_assoc, c_nlt, c_nle, c_neq, c_P, c_cl, c_m1, c_m1', nI_add, pk_mul, reduceIte, Nat.reduceEqDiff, Nat.reduceAdd, Nat.reduceMul, Nat.reduceLeDiff, eq_self, ↓pk_rem, pk_div, c_of, d_le, d_nle, d_lt, d_nlt, d_eq, d_ne]
        exact Ev_s ⟨rfl, (by repeat (first | assumption | exact Ag_r | refine Ag_I ?_ rfl | refine Ag_F ?_ rfl | refine Ag_J ?_ rfl))⟩
      · simp (disch := first | omega | (repeat (first | assumption | exact Ag_r | refine Ag_I ?_ rfl | refine Ag_F ?_ rfl | refine Ag_J ?_ rfl))) only [A209, FM hM, M_isDay, if_neg hx, M_in, l_lo, l_hi, ng hy, CO, HA, HB, HC, Nat.not_lt_zero, Nat.add_assoc, c_nlt, c_nle, c_neq, c_P, c_cl, c_m1, c_m1', nI_add, pk_mul, reduceIte, Nat.reduceEqDiff, Nat.reduceAdd, Nat.reduceMul, Nat.reduceLeDiff, eq_self, ↓pk_rem, pk_div, c_of, d_le, d_nle, d_lt, d_nlt, d_eq, d_ne]
        exact Ev_s ⟨rfl, (by repeat (first | assumption | exact Ag_r | refine Ag_I ?_ rfl | refine Ag_F ?_ rfl | refine Ag_J ?_ rfl))⟩
  · by_cases hx : inr x 27
    · obtain ⟨e, he, rfl⟩ := inr_of (by omega) hx
      by_cases F : Fst H v e
      · have h8 : fG H v e v ≤ 8 := F.2.2
        have cz := fC_le T H e hv1
        have p9 := bt9 (fG H v e v) (by omega)
        have no : (¬ ∃ i, i < fG H v e v ∧ z = nI i) → ∃ r, Ev (den (d + 8, 105, 0, [.ref 0, .int (nI e), .int z, .int (nI m)], [], σ)) (fun a τ => a = some (.int r) ∧ Qc σ τ) ∧ Ev (den (d + 8, 209, 0, [.ref 57, .int (nI e), .int z, .int (nI m), .float 0, .float 0, .float 0, .float 0, .float 0], [], ρ)) (fun a τ => a = some (.int r) ∧ Qm ρ τ) := by
          intro nz
          refine ⟨-1, ?_, ?_⟩
          · simp (disch := first | omega | (repeat (first | assumption | exact Ag_r | refine Ag_I ?_ rfl | refine Ag_F ?_ rfl | refine Ag_J ?_ rfl))) only [A105, FC hC, CO, HA, HB, HC, Nat.not_lt_zero, Nat.add_assoc, c_nlt, c_nle, c_neq, c_P, c_cl, c_m1, c_m1', nI_add, pk_mul, reduceIte, Nat.reduceEqDiff, Nat.reduceAdd, Nat.reduceMul, Nat.reduceLeDiff, eq_self, ↓pk_rem, pk_div, c_of, d_le, d_nle, d_lt, d_nlt, d_eq, d_ne]
            refine Ev_b (C_isFeast (d := d + 4) hC sC hw (show e < 28 by omega) Ag_r) ?_
            rintro a τ ⟨hq, hc, hh⟩
            rcases hh with ⟨h1, -⟩ | ⟨-, rfl, gv⟩
            · exact absurd F h1
            have h' := Qc_C hq hC
            rcases trs z (fG H v e v) (by omega) with hz | ⟨i, hi, rfl⟩ | ⟨i, hi, hi2, rfl⟩
            · simp (disch := first | omega | (repeat (first | assumption | exact Ag_r | refine Ag_I ?_ rfl | refine Ag_F ?_ rfl | refine Ag_J ?_ rfl))) only [A105, FC h', gv.1, ng hz, CO, HA, HB, HC, Nat.not_lt_zero, Nat.add_assoc, c_nlt, c_nle, c_neq, c_P, c_cl, c_m1, c_m1', nI_add, pk_mul, reduceIte, Nat.reduceEqDiff, Nat.reduceAdd, Nat.reduceMul, Nat.reduceLeDiff, eq_self, ↓pk_rem, pk_div, c_of, d_le, d_nle, d_lt, d_nlt, d_eq, d_ne]
              exact Ev_s ⟨rfl, hq⟩
            · exact absurd ⟨i, hi, rfl⟩ nz
            · simp (disch := first | omega | (repeat (first | assumption | exact Ag_r | refine Ag_I ?_ rfl | refine Ag_F ?_ rfl | refine Ag_J ?_ rfl))) only [A105, FC h', gv.1, CO, HA, HB, HC, Nat.not_lt_zero, Nat.add_assoc, c_nlt, c_nle, c_neq, c_P, c_cl, c_m1, c_m1', nI_add, pk_mul, reduceIte, Nat.reduceEqDiff, Nat.reduceAdd, Nat.reduceMul, Nat.reduceLeDiff, eq_self, ↓pk_rem, pk_div, c_of, d_le, d_nle, d_lt, d_nlt, d_eq, d_ne]
              exact Ev_s ⟨rfl, hq⟩
          · simp (disch := first | omega | (repeat (first | assumption | exact Ag_r | refine Ag_I ?_ rfl | refine Ag_F ?_ rfl | refine Ag_J ?_ rfl))) only [A209, FM hM, M_isDay, if_pos hx, M_in, l_lo, l_hi, CO, HA, HB, HC, Nat.not_lt_zero, Nat.add_assoc, c_nlt, c_nle, c_neq, c_P, c_cl, c_m1, c_m1', nI_add, pk_mul, reduceIte, Nat.reduceEqDiff, Nat.reduceAdd, Nat.reduceMul, Nat.reduceLeDiff, eq_self, ↓pk_rem, pk_div, c_of, d_le, d_nle, d_lt, d_nlt, d_eq, d_ne]
            refine Ev_b (M_load hM sM hw (by repeat (first | assumption | exact Ag_r | refine Ag_I ?_ rfl | refine Ag_F ?_ rfl | refine Ag_J ?_ rfl))) ?_
            rintro _ τ ⟨rfl, hq, hl⟩
            have h' := Qm_M hq hM
            simp (disch := first | omega | (repeat (first | assumption | exact Ag_r | refine Ag_I ?_ rfl | refine Ag_F ?_ rfl | refine Ag_J ?_ rfl))) only [A209, FM h', CO, HA, HB, HC, Nat.not_lt_zero, Nat.add_assoc, c_nlt, c_nle, c_neq, c_P, c_cl, c_m1, c_m1', nI_add, pk_mul, reduceIte, Nat.reduceEqDiff, Nat.reduceAdd, Nat.reduceMul, Nat.reduceLeDiff, eq_self, ↓pk_rem, pk_div, c_of, d_le, d_nle, d_lt, d_nlt, d_eq, d_ne]
            refine Ev_b (M_isEaster (d := d + 5) hM sM hw (show e < 28 by omega) hq hl.1) ?_
            rintro a τ2 ⟨g2, hh⟩
            rcases hh with ⟨h1, -⟩ | ⟨-, rfl, gv⟩
            · exact absurd F h1
            have hq2 : Qm ρ τ2 := Ag_t hq (Qg_m g2)
            have h2 := Qm_M hq2 hM
            rcases trs z (fG H v e v) (by omega) with hz | ⟨i, hi, rfl⟩ | ⟨i, hi, hi2, rfl⟩
            · simp (disch := first | omega | (repeat (first | assumption | exact Ag_r | refine Ag_I ?_ rfl | refine Ag_F ?_ rfl | refine Ag_J ?_ rfl))) only [A209, FM h2, gv.1, M_in, l_lo, l_hi1, ng hz, CO, HA, HB, HC, Nat.not_lt_zero, Nat.add_assoc, c_nlt, c_nle, c_neq, c_P, c_cl, c_m1, c_m1', nI_add, pk_mul, reduceIte, Nat.reduceEqDiff, Nat.reduceAdd, Nat.reduceMul, Nat.reduceLeDiff, eq_self, ↓pk_rem, pk_div, c_of, d_le, d_nle, d_lt, d_nlt, d_eq, d_ne]
              exact Ev_s ⟨rfl, hq2⟩
            · exact absurd ⟨i, hi, rfl⟩ nz
            · simp (disch := first | omega | (repeat (first | assumption | exact Ag_r | refine Ag_I ?_ rfl | refine Ag_F ?_ rfl | refine Ag_J ?_ rfl))) only [A209, FM h2, gv.1, M_in, l_lo, l_hi1, CO, HA, HB, HC, Nat.not_lt_zero, Nat.add_assoc, c_nlt, c_nle, c_neq, c_P, c_cl, c_m1, c_m1', nI_add, pk_mul, reduceIte, Nat.reduceEqDiff, Nat.reduceAdd, Nat.reduceMul, Nat.reduceLeDiff, eq_self, ↓pk_rem, pk_div, c_of, d_le, d_nle, d_lt, d_nlt, d_eq, d_ne]
              exact Ev_s ⟨rfl, hq2⟩
        by_cases ex : ∃ i, i < fG H v e v ∧ z = nI i
        · obtain ⟨i, hi, rfl⟩ := ex
          obtain ⟨dd1, dd2, dd3⟩ := filP_ok (C := fC T H v e) (s := fG H v e v) (by omega) (fun k p _ _ => cz k p) (i + 1) (by omega)
          obtain ⟨p, hp⟩ := dd3 i (by omega)
          obtain ⟨q1, -, -⟩ := fnd_s hp
          have du : dueP (fC T H v e) (lea (fC T H v e) (fG H v e v) (2 ^ fG H v e v - 1)) (fG H v e v) i = p := by unfold dueP; rw [hp]; rfl
          refine ⟨if m = 0 then nI (gvl (fG H v e) v i) else nI (gvl (fW H v e) v p), ?_, ?_⟩
          · simp (disch := first | omega | (repeat (first | assumption | exact Ag_r | refine Ag_I ?_ rfl | refine Ag_F ?_ rfl | refine Ag_J ?_ rfl))) only [A105, FC hC, CO, HA, HB, HC, Nat.not_lt_zero, Nat.add_assoc, c_nlt, c_nle, c_neq, c_P, c_cl, c_m1, c_m1', nI_add, pk_mul, reduceIte, Nat.reduceEqDiff, Nat.reduceAdd, Nat.reduceMul, Nat.reduceLeDiff, eq_self, ↓pk_rem, pk_div, c_of, d_le, d_nle, d_lt, d_nlt, d_eq, d_ne]
            refine Ev_b (C_isFeast (d := d + 4) hC sC hw (show e < 28 by omega) Ag_r) ?_
            rintro a τ ⟨hq, hc, hh⟩
            rcases hh with ⟨h1, -⟩ | ⟨-, rfl, gv⟩
            · exact absurd F h1
            have h' := Qc_C hq hC
            by_cases m0 : m = 0
            · rw [if_pos m0]
              simp (disch := first | omega | (repeat (first | assumption | exact Ag_r | refine Ag_I ?_ rfl | refine Ag_F ?_ rfl | refine Ag_J ?_ rfl))) only [A105, m0, FC h', gv.1, (gv.2.2 i hi).1, CO, HA, HB, HC, Nat.not_lt_zero, Nat.add_assoc, c_nlt, c_nle, c_neq, c_P, c_cl, c_m1, c_m1', nI_add, pk_mul, reduceIte, Nat.reduceEqDiff, Nat.reduceAdd, Nat.reduceMul, Nat.reduceLeDiff, eq_self, ↓pk_rem, pk_div, c_of, d_le, d_nle, d_lt, d_nlt, d_eq, d_ne]
              exact Ev_s ⟨rfl, hq⟩
            · rw [if_neg m0]
              simp (disch := first | omega | (repeat (first | assumption | exact Ag_r | refine Ag_I ?_ rfl | refine Ag_F ?_ rfl | refine Ag_J ?_ rfl))) only [A105, m0, FC h', gv.1, CO, HA, HB, HC, Nat.not_lt_zero, Nat.add_assoc, c_nlt, c_nle, c_neq, c_P, c_cl, c_m1, c_m1', nI_add, pk_mul, reduceIte, Nat.reduceEqDiff, Nat.reduceAdd, Nat.reduceMul, Nat.reduceLeDiff, eq_self, ↓pk_rem, pk_div, c_of, d_le, d_nle, d_lt, d_nlt, d_eq, d_ne]
              refine Ev_b (C_layRoads (d := d + 1) hC sC hw lC hq hc) ?_
              rintro _ τ2 ⟨rfl, g2, mx⟩
              have h2 := Qc_C (Qr_c g2) h'
              simp (disch := first | omega | (repeat (first | assumption | exact Ag_r | refine Ag_I ?_ rfl | refine Ag_F ?_ rfl | refine Ag_J ?_ rfl))) only [A105, FC h2, CO, HA, HB, HC, Nat.not_lt_zero, Nat.add_assoc, c_nlt, c_nle, c_neq, c_P, c_cl, c_m1, c_m1', nI_add, pk_mul, reduceIte, Nat.reduceEqDiff, Nat.reduceAdd, Nat.reduceMul, Nat.reduceLeDiff, eq_self, ↓pk_rem, pk_div, c_of, d_le, d_nle, d_lt, d_nlt, d_eq, d_ne]
              refine Ev_b (C_weigh (d := d + 5) h2 hv1 hv8 (GvC_r g2 gv) h8 mx) ?_
              rintro _ τ3 ⟨rfl, g3, lf⟩
              have h3 := Qc_C (Qwe_c g3) h2
              have gv3 := GvC_we g3 (GvC_r g2 gv)
              have mx3 := Mx_we (by omega) g3 mx
              simp (disch := first | omega | (repeat (first | assumption | exact Ag_r | refine Ag_I ?_ rfl | refine Ag_F ?_ rfl | refine Ag_J ?_ rfl))) only [A105, FC h3, CO, HA, HB, HC, Nat.not_lt_zero, Nat.add_assoc, c_nlt, c_nle, c_neq, c_P, c_cl, c_m1, c_m1', nI_add, pk_mul, reduceIte, Nat.reduceEqDiff, Nat.reduceAdd, Nat.reduceMul, Nat.reduceLeDiff, eq_self, ↓pk_rem, pk_div, c_of, d_le, d_nle, d_lt, d_nlt, d_eq, d_ne]
              refine Ev_b (C_takerOf (d := d + 5) h3 h8 hi (fun k p _ _ => cz k p) gv3.1 (gvs_C hv1 hv8 gv3) (fun k p _ _ => mx_fC hv1 mx3 k p) lf) ?_
              rintro _ τ4 ⟨rfl, rfl⟩
              rw [du]
              simp (disch := first | omega | (repeat (first | assumption | exact Ag_r | refine Ag_I ?_ rfl | refine Ag_F ?_ rfl | refine Ag_J ?_ rfl))) only [A105, CO, HA, HB, HC, Nat.not_lt_zero, Nat.add_assoc, c_nlt, c_nle, c_neq, c_P, c_cl, c_m1, c_m1', nI_add, pk_mul, reduceIte, Nat.reduceEqDiff, Nat.reduceAdd, Nat.reduceMul, Nat.reduceLeDiff, eq_self, ↓pk_rem, pk_div, c_of, d_le, d_nle, d_lt, d_nlt, d_eq, d_ne]
              exact Ev_s ⟨rfl, Ag_t hq (Ag_t (Qr_c g2) (Qwe_c g3))⟩
          · simp (disch := first | omega | (repeat (first | assumption | exact Ag_r | refine Ag_I ?_ rfl | refine Ag_F ?_ rfl | refine Ag_J ?_ rfl))) only [A209, FM hM, M_isDay, if_pos hx, M_in, l_lo, l_hi, CO, HA, HB, HC, Nat.not_lt_zero, Nat.add_assoc, c_nlt, c_nle, c_neq, c_P, c_cl, c_m1, c_m1', nI_add, pk_mul, reduceIte, Nat.reduceEqDiff, Nat.reduceAdd, Nat.reduceMul, Nat.reduceLeDiff, eq_self, ↓pk_rem, pk_div, c_of, d_le, d_nle, d_lt, d_nlt, d_eq, d_ne]
            refine Ev_b (M_load hM sM hw (by repeat (first | assumption | exact Ag_r | refine Ag_I ?_ rfl | refine Ag_F ?_ rfl | refine Ag_J ?_ rfl))) ?_
            rintro _ τ ⟨rfl, hq, hl⟩
            have h' := Qm_M hq hM
            simp (disch := first | omega | (repeat (first | assumption | exact Ag_r | refine Ag_I ?_ rfl | refine Ag_F ?_ rfl | refine Ag_J ?_ rfl))) only [A209, FM h', CO, HA, HB, HC, Nat.not_lt_zero, Nat.add_assoc, c_nlt, c_nle, c_neq, c_P, c_cl, c_m1, c_m1', nI_add, pk_mul, reduceIte, Nat.reduceEqDiff, Nat.reduceAdd, Nat.reduceMul, Nat.reduceLeDiff, eq_self, ↓pk_rem, pk_div, c_of, d_le, d_nle, d_lt, d_nlt, d_eq, d_ne]
            refine Ev_b (M_isEaster (d := d + 5) hM sM hw (show e < 28 by omega) hq hl.1) ?_
            rintro a τ2 ⟨g2, hh⟩
            rcases hh with ⟨h1, -⟩ | ⟨-, rfl, gv⟩
            · exact absurd F h1
            have hq2 : Qm ρ τ2 := Ag_t hq (Qg_m g2)
            have h2 := Qm_M hq2 hM
            simp (disch := first | omega | (repeat (first | assumption | exact Ag_r | refine Ag_I ?_ rfl | refine Ag_F ?_ rfl | refine Ag_J ?_ rfl))) only [A209, FM h2, gv.1, M_in, l_lo, l_hi1, CO, HA, HB, HC, Nat.not_lt_zero, Nat.add_assoc, c_nlt, c_nle, c_neq, c_P, c_cl, c_m1, c_m1', nI_add, pk_mul, reduceIte, Nat.reduceEqDiff, Nat.reduceAdd, Nat.reduceMul, Nat.reduceLeDiff, eq_self, ↓pk_rem, pk_div, c_of, d_le, d_nle, d_lt, d_nlt, d_eq, d_ne]
            refine Ev_b (M_findLeast (d := d) (T := T) hM sM hw lM hq2 (K := H) ⟨fun c hc => ⟨by rw [Ag_i g2 72 rfl]; exact hl.1 c hc, Wf_8 hw hc⟩, fun u hu => ⟨by rw [Ag_i g2 73 rfl]; exact hl.2 u hu, hd_le H u hv8⟩⟩ gv h8) ?_
            rintro _ τ3 ⟨rfl, hq3, gv3, mx, lf⟩
            have h3 := Qm_M hq3 hM
            obtain ⟨x4, x6, x7, x8, e9⟩ := M_tradeL (d := d + 7) (x1 := .int (nI e)) (y3 := nI m) h3 h8 hi (fun k p _ _ => cz k p) gv3.1 (gvs_M hv1 hv8 gv3) (fun k p _ _ => mx_fC hv1 mx k p) lf
            rw [du] at e9
            refine Ev_e (o' := den (d + 7 + 1, 209, 187, [.ref 57, .int (nI e), .int (nI i), .int (nI m), x4, .int (nI p), x6, x7, x8], [], τ3)) ?_ ?_
            · rw [← e9]
              simp (disch := first | omega | (repeat (first | assumption | exact Ag_r | refine Ag_I ?_ rfl | refine Ag_F ?_ rfl | refine Ag_J ?_ rfl))) only [A209, CO, HA, HB, HC, Nat.not_lt_zero, Nat.add_assoc, c_nlt, c_nle, c_neq, c_P, c_cl, c_m1, c_m1', nI_add, pk_mul, reduceIte, Nat.reduceEqDiff, Nat.reduceAdd, Nat.reduceMul, Nat.reduceLeDiff, eq_self, ↓pk_rem, pk_div, c_of, d_le, d_nle, d_lt, d_nlt, d_eq, d_ne]
            · by_cases m0 : m = 0
              · rw [if_pos m0]
                simp (disch := first | omega | (repeat (first | assumption | exact Ag_r | refine Ag_I ?_ rfl | refine Ag_F ?_ rfl | refine Ag_J ?_ rfl))) only [A209, m0, FM h3, (gv3.2.2 i hi).1, CO, HA, HB, HC, Nat.not_lt_zero, Nat.add_assoc, c_nlt, c_nle, c_neq, c_P, c_cl, c_m1, c_m1', nI_add, pk_mul, reduceIte, Nat.reduceEqDiff, Nat.reduceAdd, Nat.reduceMul, Nat.reduceLeDiff, eq_self, ↓pk_rem, pk_div, c_of, d_le, d_nle, d_lt, d_nlt, d_eq, d_ne]
                exact Ev_s ⟨rfl, hq3⟩
              · rw [if_neg m0]
                simp (disch := first | omega | (repeat (first | assumption | exact Ag_r | refine Ag_I ?_ rfl | refine Ag_F ?_ rfl | refine Ag_J ?_ rfl))) only [A209, m0, FM h3, (gv3.2.2 p q1).2, CO, HA, HB, HC, Nat.not_lt_zero, Nat.add_assoc, c_nlt, c_nle, c_neq, c_P, c_cl, c_m1, c_m1', nI_add, pk_mul, reduceIte, Nat.reduceEqDiff, Nat.reduceAdd, Nat.reduceMul, Nat.reduceLeDiff, eq_self, ↓pk_rem, pk_div, c_of, d_le, d_nle, d_lt, d_nlt, d_eq, d_ne]
                exact Ev_s ⟨rfl, hq3⟩
        · exact no ex
      · refine ⟨-1, ?_, ?_⟩
        · simp (disch := first | omega | (repeat (first | assumption | exact Ag_r | refine Ag_I ?_ rfl | refine Ag_F ?_ rfl | refine Ag_J ?_ rfl))) only [A105, FC hC, CO, HA, HB, HC, Nat.not_lt_zero, Nat.add_assoc, c_nlt, c_nle, c_neq, c_P, c_cl, c_m1, c_m1', nI_add, pk_mul, reduceIte, Nat.reduceEqDiff, Nat.reduceAdd, Nat.reduceMul, Nat.reduceLeDiff, eq_self, ↓pk_rem, pk_div, c_of, d_le, d_nle, d_lt, d_nlt, d_eq, d_ne]
          refine Ev_b (C_isFeast (d := d + 4) hC sC hw (show e < 28 by omega) Ag_r) ?_
          rintro a τ ⟨hq, hc, hh⟩
          rcases hh with ⟨-, rfl⟩ | ⟨h1, -, -⟩
          · simp (disch := first | omega | (repeat (first | assumption | exact Ag_r | refine Ag_I ?_ rfl | refine Ag_F ?_ rfl | refine Ag_J ?_ rfl))) only [A105, CO, HA, HB, HC, Nat.not_lt_zero, Nat.add_assoc, c_nlt, c_nle, c_neq, c_P, c_cl, c_m1, c_m1', nI_add, pk_mul, reduceIte, Nat.reduceEqDiff, Nat.reduceAdd, Nat.reduceMul, Nat.reduceLeDiff, eq_self, ↓pk_rem, pk_div, c_of, d_le, d_nle, d_lt, d_nlt, d_eq, d_ne]
            exact Ev_s ⟨rfl, hq⟩
          · exact absurd h1 F
        · simp (disch := first | omega | (repeat (first | assumption | exact Ag_r | refine Ag_I ?_ rfl | refine Ag_F ?_ rfl | refine Ag_J ?_ rfl))) only [A209, FM hM, M_isDay, if_pos hx, M_in, l_lo, l_hi, CO, HA, HB, HC, Nat.not_lt_zero, Nat.add_assoc, c_nlt, c_nle, c_neq, c_P, c_cl, c_m1, c_m1', nI_add, pk_mul, reduceIte, Nat.reduceEqDiff, Nat.reduceAdd, Nat.reduceMul, Nat.reduceLeDiff, eq_self, ↓pk_rem, pk_div, c_of, d_le, d_nle, d_lt, d_nlt, d_eq, d_ne]
          refine Ev_b (M_load hM sM hw (by repeat (first | assumption | exact Ag_r | refine Ag_I ?_ rfl | refine Ag_F ?_ rfl | refine Ag_J ?_ rfl))) ?_
          rintro _ τ ⟨rfl, hq, hl⟩
          have h' := Qm_M hq hM
          simp (disch := first | omega | (repeat (first | assumption | exact Ag_r | refine Ag_I ?_ rfl | refine Ag_F ?_ rfl | refine Ag_J ?_ rfl))) only [A209, FM h', CO, HA, HB, HC, Nat.not_lt_zero, Nat.add_assoc, c_nlt, c_nle, c_neq, c_P, c_cl, c_m1, c_m1', nI_add, pk_mul, reduceIte, Nat.reduceEqDiff, Nat.reduceAdd, Nat.reduceMul, Nat.reduceLeDiff, eq_self, ↓pk_rem, pk_div, c_of, d_le, d_nle, d_lt, d_nlt, d_eq, d_ne]
          refine Ev_b (M_isEaster (d := d + 5) hM sM hw (show e < 28 by omega) hq hl.1) ?_
          rintro a τ2 ⟨g2, hh⟩
          rcases hh with ⟨-, rfl⟩ | ⟨h1, -, -⟩
          · simp (disch := first | omega | (repeat (first | assumption | exact Ag_r | refine Ag_I ?_ rfl | refine Ag_F ?_ rfl | refine Ag_J ?_ rfl))) only [A209, CO, HA, HB, HC, Nat.not_lt_zero, Nat.add_assoc, c_nlt, c_nle, c_neq, c_P, c_cl, c_m1, c_m1', nI_add, pk_mul, reduceIte, Nat.reduceEqDiff, Nat.reduceAdd, Nat.reduceMul, Nat.reduceLeDiff, eq_self, ↓pk_rem, pk_div, c_of, d_le, d_nle, d_lt, d_nlt, d_eq, d_ne]
            exact Ev_s ⟨rfl, Ag_t hq (Qg_m g2)⟩
          · exact absurd h1 F
    · refine ⟨-1, ?_, ?_⟩
      · simp (disch := first | omega | (repeat (first | assumption | exact Ag_r | refine Ag_I ?_ rfl | refine Ag_F ?_ rfl | refine Ag_J ?_ rfl))) only [A105, FC hC, A128, C_isDay', if_neg hx, CO, HA, HB, HC, Nat.not_lt_zero, Nat.add_assoc, c_nlt, c_nle, c_neq, c_P, c_cl, c_m1, c_m1', nI_add, pk_mul, reduceIte, Nat.reduceEqDiff, Nat.reduceAdd, Nat.reduceMul, Nat.reduceLeDiff, eq_self, ↓pk_rem, pk_div, c_of, d_le, d_nle, d_lt, d_nlt, d_eq, d_ne]
        exact Ev_s ⟨rfl, (by repeat (first | assumption | exact Ag_r | refine Ag_I ?_ rfl | refine Ag_F ?_ rfl | refine Ag_J ?_ rfl))⟩
      · simp (disch := first | omega | (repeat (first | assumption | exact Ag_r | refine Ag_I ?_ rfl | refine Ag_F ?_ rfl | refine Ag_J ?_ rfl))) only [A209, FM hM, M_isDay, if_neg hx, CO, HA, HB, HC, Nat.not_lt_zero, Nat.add_assoc, c_nlt, c_nle, c_neq, c_P, c_cl, c_m1, c_m1', nI_add, pk_mul, reduceIte, Nat.reduceEqDiff, Nat.reduceAdd, Nat.reduceMul, Nat.reduceLeDiff, eq_self, ↓pk_rem, pk_div, c_of, d_le, d_nle, d_lt, d_nlt, d_eq, d_ne]
        exact Ev_s ⟨rfl, (by repeat (first | assumption | exact Ag_r | refine Ag_I ?_ rfl | refine Ag_F ?_ rfl | refine Ag_J ?_ rfl))⟩
  · by_cases hx : inr x 27
    · refine ⟨-1, ?_, ?_⟩
      · simp (disch := first | omega | (repeat (first | assumption | exact Ag_r | refine Ag_I ?_ rfl | refine Ag_F ?_ rfl | refine Ag_J ?_ rfl))) only [A105, FC hC, CO, HA, HB, HC, Nat.not_lt_zero, Nat.add_assoc, c_nlt, c_nle, c_neq, c_P, c_cl, c_m1, c_m1', nI_add, pk_mul, reduceIte, Nat.reduceEqDiff, Nat.reduceAdd, Nat.reduceMul, Nat.reduceLeDiff, eq_self, ↓pk_rem, pk_div, c_of, d_le, d_nle, d_lt, d_nlt, d_eq, d_ne]
        exact Ev_s ⟨rfl, (by repeat (first | assumption | exact Ag_r | refine Ag_I ?_ rfl | refine Ag_F ?_ rfl | refine Ag_J ?_ rfl))⟩
      · simp (disch := first | omega | (repeat (first | assumption | exact Ag_r | refine Ag_I ?_ rfl | refine Ag_F ?_ rfl | refine Ag_J ?_ rfl))) only [A209, FM hM, M_isDay, if_pos hx, M_in, l_lo, l_hi, CO, HA, HB, HC, Nat.not_lt_zero, Nat.add_assoc, c_nlt, c_nle, c_neq, c_P, c_cl, c_m1, c_m1', nI_add, pk_mul, reduceIte, Nat.reduceEqDiff, Nat.reduceAdd, Nat.reduceMul, Nat.reduceLeDiff, eq_self, ↓pk_rem, pk_div, c_of, d_le, d_nle, d_lt, d_nlt, d_eq, d_ne]
        exact Ev_s ⟨rfl, (by repeat (first | assumption | exact Ag_r | refine Ag_I ?_ rfl | refine Ag_F ?_ rfl | refine Ag_J ?_ rfl))⟩
    · refine ⟨-1, ?_, ?_⟩
      · simp (disch := first | omega | (repeat (first | assumption | exact Ag_r | refine Ag_I ?_ rfl | refine Ag_F ?_ rfl | refine Ag_J ?_ rfl))) only [A105, FC hC, CO, HA, HB, HC, Nat.not_lt_zero, Nat.add_assoc, c_nlt, c_nle, c_neq, c_P, c_cl, c_m1, c_m1', nI_add, pk_mul, reduceIte, Nat.reduceEqDiff, Nat.reduceAdd, Nat.reduceMul, Nat.reduceLeDiff, eq_self, ↓pk_rem, pk_div, c_of, d_le, d_nle, d_lt, d_nlt, d_eq, d_ne]
        exact Ev_s ⟨rfl, (by repeat (first | assumption | exact Ag_r | refine Ag_I ?_ rfl | refine Ag_F ?_ rfl | refine Ag_J ?_ rfl))⟩
      · simp (disch := first | omega | (repeat (first | assumption | exact Ag_r | refine Ag_I ?_ rfl | refine Ag_F ?_ rfl | refine Ag_J ?_ rfl))) only [A209, FM hM, M_isDay, if_neg hx, M_in, l_lo, l_hi, CO, HA, HB, HC, Nat.not_lt_zero, Nat.add_assoc, c_nlt, c_nle, c_neq, c_P, c_cl, c_m1, c_m1', nI_add, pk_mul, reduceIte, Nat.reduceEqDiff, Nat.reduceAdd, Nat.reduceMul, Nat.reduceLeDiff, eq_self, ↓pk_rem, pk_div, c_of, d_le, d_nle, d_lt, d_nlt, d_eq, d_ne]
        exact Ev_s ⟨rfl, (by repeat (first | assumption | exact Ag_r | refine Ag_I ?_ rfl | refine Ag_F ?_ rfl | refine Ag_J ?_ rfl))⟩
end
