/-! law: the class reads tests -/
theorem tE_l {X : Tx} {p j : Nat} (hj : j < 17) (hp : p ≤ X.1) (h : wd_ X p = wT.getD j 0) : p + (stAll.getD j (0, [])).2.length ≤ tE X p ∧ tE X p ≤ X.1 := by
  obtain ⟨s1, s2, s3, s4, s5⟩ := st_ok j hj
  have := (wd_w hp s4 s2).mp (by rw [h, s5])
  have b := tk_b hp
  omega
theorem pNL_c {X : Tx} : ∀ (i : Nat) (t : Bool) (p : Nat), p ≤ X.1 → (pNL X i t p).1 ≠ t → p < (pNL X i t p).2 := by
  intro i
  cases i with
  | zero => intro t p hp h; simp only [pNL] at h; exact absurd rfl h
  | succ i =>
    intro t p hp h
    simp only [pNL] at h ⊢
    split at h
    · next z =>
      rw [if_pos z]
      have a := tE_w hp (by omega) z
      have := pNL_b i (!t) (tE X p) a.2.1
      omega
    · exact absurd rfl h
section
variable {X : Tx}
theorem CP_m {D D' m K : Nat} {ls : List Value} {P : Nat → Nat → Pz} (h : CP X D m ls K P) (l : D ≤ D') : CP X D' m ls K P := fun d p a n τ hd => h d p a n τ (by omega)
theorem CP_k {D m K K' : Nat} {ls : List Value} {P : Nat → Nat → Pz} (h : CP X D m ls K P) (l : K ≤ K') : CP X D m ls K' P := by
  intro d p a n τ hd r ha
  refine Ev_m (h d p a n τ hd r ha) (fun v υ z => ?_)
  obtain ⟨z1, z2, z3⟩ := z
  refine ⟨z1, z2, ?_⟩
  revert z3
  cases P p n with
  | inl q => exact id
  | inr x =>
    rintro ⟨y1, b, y2, y3, y4, y5⟩
    exact ⟨y1, b, y2, y3, y4, SgC_k y5 l⟩
theorem Fo_0 : Fo X none := fun f h => nomatch h
theorem Bo_0 : ∀ f : Nat → Nat → Pz, none = some f → Bo f := fun f h => nomatch h
theorem C_S : ∀ k, k ≤ 8 → CP X (16 * (k + 1)) 64 [.ref 14, .int (nI (8 - k)), .float 0, .float 0] (2 * k + 3) (pS X k)
  | 0, _ => CP_m (C_sum1 (by omega) (by omega) (Fw_tm (fun f h => nomatch h)) (C_term (by omega) (by omega) (Fw_pt (fun f h => nomatch h)) (C_part (D := 0) (K := 1) (by omega) (Or.inl ⟨rfl, rfl⟩)))) (by omega)
  | k + 1, h => by
    have ih := C_S k (by omega)
    have fo : Fo X (some (pS X k)) := fun f h => by cases h; exact Fw_S k
    exact CP_m (C_sum1 (by omega) (by omega) (Fw_tm fo) (C_term (by omega) (by omega) (Fw_pt fo) (C_part (by omega) (Or.inr ⟨by omega, pS X k, rfl, Fw_S k, by rw [show 8 - (k + 1) + 1 = 8 - k by omega]; exact ih⟩)))) (by omega)
theorem C_nots {δ a n : Nat} {τ : Hp} {Q : Option Value → Hp → Prop} {e : Nat} (l4 : Value) : ∀ (f i : Nat) (t : Bool) (p1 : Nat) (υ : Hp), i + f = 400 → RdC υ X p1 a n → Qrd τ υ → hI υ 15 = hI τ 15 → (∀ υ' l3, RdC υ' X (pNL X f t p1).2 a n → Qrd τ υ' → hI υ' 15 = hI τ 15 → Ev (den (e + 8, 61, 40, [.ref 14, .int (nI δ), .int (if (pNL X f t p1).1 = true then nI 1 else nI 0), l3, l4], [], υ')) Q) → Ev (den (e + 8, 61, 4, [.ref 14, .int (nI δ), .int (if t = true then nI 1 else nI 0), .int (nI i), l4], [], υ)) Q := by
  intro f
  induction f with
  | zero =>
    intro i t p1 υ hi r g c nx
    obtain rfl : i = 400 := by omega
    rw [a61_4]
    refine Ev_e ?_ (nx υ (.int (nI 400)) r g c)
    simp (disch := first | omega | (repeat (first | assumption | exact Ag_r | refine Ag_I ?_ rfl | refine Ag_F ?_ rfl | refine Ag_J ?_ rfl))) only [a61_5, a61_8, pNL, CO, HA, HB, HC, Nat.not_lt_zero, Nat.add_assoc, c_nlt, c_nle, c_neq, c_P, c_cl, c_m1, c_m1', nI_add, pk_mul, reduceIte, Nat.reduceEqDiff, Nat.reduceAdd, Nat.reduceMul, Nat.reduceLeDiff, eq_self, ↓pk_rem, pk_div, c_of, d_le, d_nle, d_lt, d_nlt, d_eq, d_ne]
    rfl
  | succ f ih =>
    intro i t p1 υ hi r g c nx
    have w := fun (d : Nat) => CW (d := d) r (show 14 < 17 by omega)
    simp only [wT, List.getD_cons_succ, List.getD_cons_zero, Nat.reduceAdd] at w
    rw [a61_4]
    by_cases q : wd_ X p1 = 14836
    · simp only [pNL, if_pos q] at nx
      simp (disch := first | omega | (repeat (first | assumption | exact Ag_r | refine Ag_I ?_ rfl | refine Ag_F ?_ rfl | refine Ag_J ?_ rfl))) only [a61_5, a61_8, a61_11, a61_12, a61_14, a61_17, a61_20, a61_21, FC r.1, w, q, CO, HA, HB, HC, Nat.not_lt_zero, Nat.add_assoc, c_nlt, c_nle, c_neq, c_P, c_cl, c_m1, c_m1', nI_add, pk_mul, reduceIte, Nat.reduceEqDiff, Nat.reduceAdd, Nat.reduceMul, Nat.reduceLeDiff, eq_self, ↓pk_rem, pk_div, c_of, d_le, d_nle, d_lt, d_nlt, d_eq, d_ne]
      refine Ev_b (C_sp (d := e + 6) r) ?_
      rintro _ υ1 ⟨rfl, g1, r1, c1⟩
      refine Ev_e ?_ (ih (i + 1) (!t) (tE X p1) υ1 (by omega) r1 (Qrd_t g g1) (by rw [c1, c]) nx)
      cases t
      · simp (disch := first | omega | (repeat (first | assumption | exact Ag_r | refine Ag_I ?_ rfl | refine Ag_F ?_ rfl | refine Ag_J ?_ rfl))) only [a61_24, a61_25, a61_28, a61_29, a61_32, a61_33, a61_34, a61_37, Bool.not_false, Bool.not_true, Bool.false_eq_true, CO, HA, HB, HC, Nat.not_lt_zero, Nat.add_assoc, c_nlt, c_nle, c_neq, c_P, c_cl, c_m1, c_m1', nI_add, pk_mul, reduceIte, Nat.reduceEqDiff, Nat.reduceAdd, Nat.reduceMul, Nat.reduceLeDiff, eq_self, ↓pk_rem, pk_div, c_of, d_le, d_nle, d_lt, d_nlt, d_eq, d_ne]
      · simp (disch := first | omega | (repeat (first | assumption | exact Ag_r | refine Ag_I ?_ rfl | refine Ag_F ?_ rfl | refine Ag_J ?_ rfl))) only [a61_24, a61_25, a61_28, a61_29, a61_32, a61_33, a61_34, a61_37, Bool.not_false, Bool.not_true, Bool.false_eq_true, CO, HA, HB, HC, Nat.not_lt_zero, Nat.add_assoc, c_nlt, c_nle, c_neq, c_P, c_cl, c_m1, c_m1', nI_add, pk_mul, reduceIte, Nat.reduceEqDiff, Nat.reduceAdd, Nat.reduceMul, Nat.reduceLeDiff, eq_self, ↓pk_rem, pk_div, c_of, d_le, d_nle, d_lt, d_nlt, d_eq, d_ne]
    · simp only [pNL, if_neg q] at nx
      refine Ev_e ?_ (nx υ (.int (nI i)) r g c)
      simp (disch := first | omega | (repeat (first | assumption | exact Ag_r | refine Ag_I ?_ rfl | refine Ag_F ?_ rfl | refine Ag_J ?_ rfl))) only [a61_5, a61_8, a61_11, a61_12, a61_14, a61_17, FC r.1, w, q, CO, HA, HB, HC, Nat.not_lt_zero, Nat.add_assoc, c_nlt, c_nle, c_neq, c_P, c_cl, c_m1, c_m1', nI_add, pk_mul, reduceIte, Nat.reduceEqDiff, Nat.reduceAdd, Nat.reduceMul, Nat.reduceLeDiff, eq_self, ↓pk_rem, pk_div, c_of, d_le, d_nle, d_lt, d_nlt, d_eq, d_ne]
theorem C_fin {δ K e : Nat} {τ ω : Hp} {p p' a b n : Nat} {φ : Ph} {t : Bool} {l3 l4 : Value} (hK : 1 ≤ K) (r : RdC ω X p' b n) (g : Qrd τ ω) (k : Kc a τ ω) (l : b + p + (if t = true then 1 else 0) ≤ a + p') (la : a ≤ b) (lb : b ≤ p') (sg : SgC (hI ω 15) a b K φ) (hb : bl φ) : Ev (den (e + 8, 61, 109, [.ref 14, .int (nI δ), .int (if t = true then nI 1 else nI 0), l3, l4], [], ω)) (PoC τ X p a K (.inr (p', n, if t = true then phN φ else φ))) := by
  have x4 := r.2.1.2.2.1
  have hp := r.2.2.1
  cases t
  · simp only [Bool.false_eq_true, reduceIte] at l ⊢
    simp (disch := first | omega | (repeat (first | assumption | exact Ag_r | refine Ag_I ?_ rfl | refine Ag_F ?_ rfl | refine Ag_J ?_ rfl))) only [a61_109, a61_110, a61_119, a61_120, CO, HA, HB, HC, Nat.not_lt_zero, Nat.add_assoc, c_nlt, c_nle, c_neq, c_P, c_cl, c_m1, c_m1', nI_add, pk_mul, reduceIte, Nat.reduceEqDiff, Nat.reduceAdd, Nat.reduceMul, Nat.reduceLeDiff, eq_self, ↓pk_rem, pk_div, c_of, d_le, d_nle, d_lt, d_nlt, d_eq, d_ne]
    exact Ev_s ⟨g, k, rfl, b, r, by omega, la, sg⟩
  · simp only [reduceIte] at l ⊢
    simp (disch := first | omega | (repeat (first | assumption | exact Ag_r | refine Ag_I ?_ rfl | refine Ag_F ?_ rfl | refine Ag_J ?_ rfl))) only [a61_109, a61_110, a61_113, a61_114, a61_116, FC r.1, CO, HA, HB, HC, Nat.not_lt_zero, Nat.add_assoc, c_nlt, c_nle, c_neq, c_P, c_cl, c_m1, c_m1', nI_add, pk_mul, reduceIte, Nat.reduceEqDiff, Nat.reduceAdd, Nat.reduceMul, Nat.reduceLeDiff, eq_self, ↓pk_rem, pk_div, c_of, d_le, d_nle, d_lt, d_nlt, d_eq, d_ne]
    refine Ev_b (C_pu (d := e + 7) r (by omega) (-17)) ?_
    rintro _ υ ⟨rfl, g2, r2, k2, c2⟩
    simp (disch := first | omega | (repeat (first | assumption | exact Ag_r | refine Ag_I ?_ rfl | refine Ag_F ?_ rfl | refine Ag_J ?_ rfl))) only [a61_119, a61_120, CO, HA, HB, HC, Nat.not_lt_zero, Nat.add_assoc, c_nlt, c_nle, c_neq, c_P, c_cl, c_m1, c_m1', nI_add, pk_mul, reduceIte, Nat.reduceEqDiff, Nat.reduceAdd, Nat.reduceMul, Nat.reduceLeDiff, eq_self, ↓pk_rem, pk_div, c_of, d_le, d_nle, d_lt, d_nlt, d_eq, d_ne]
    exact Ev_s ⟨Qrd_t g g2, Kc_t k k2 la, rfl, b + 1, r2, by omega, by omega, SgC_not (SgC_e sg (fun i h1 h2 => (k2 i h2).symm)) hb c2 hK⟩
theorem C_plain {P : Nat → Nat → Pz} {T : Option (Nat → Nat → Pz)} {δ K D : Nat} (hK : 1 ≤ K) (hF : Fw X P) (hP : CP X D 64 [.ref 14, .int (nI δ), .float 0, .float 0] K P) (hT : (δ = 8 ∧ T = none) ∨ (δ < 8 ∧ ∃ f, T = some f ∧ Fw X f ∧ CP X D 59 [.ref 14, .int (nI (δ + 1)), .float 0, .float 0] (K + 1) f)) (hB : ∀ f, T = some f → Bo f) : CP X (D + 8) 61 [.ref 14, .int (nI δ), .float 0, .float 0, .float 0] (K + 1) (pPl X P T) := by
  intro d p a n τ hd h hap
  obtain ⟨e, rfl⟩ : ∃ e, d = e + 8 := ⟨d - 8, by omega⟩
  have x4 := h.2.1.2.2.1
  have hp := h.2.2.1
  refine Ev_e (o' := den (e + 8, 61, 4, [.ref 14, .int (nI δ), .int (if false = true then nI 1 else nI 0), .int (nI 0), .float 0], [], τ)) ?_ ?_
  · simp (disch := first | omega | (repeat (first | assumption | exact Ag_r | refine Ag_I ?_ rfl | refine Ag_F ?_ rfl | refine Ag_J ?_ rfl))) only [a61_0, a61_1, a61_2, a61_3, Bool.false_eq_true, CO, HA, HB, HC, Nat.not_lt_zero, Nat.add_assoc, c_nlt, c_nle, c_neq, c_P, c_cl, c_m1, c_m1', nI_add, pk_mul, reduceIte, Nat.reduceEqDiff, Nat.reduceAdd, Nat.reduceMul, Nat.reduceLeDiff, eq_self, ↓pk_rem, pk_div, c_of, d_le, d_nle, d_lt, d_nlt, d_eq, d_ne]
  refine C_nots (.float 0) F4 0 false p τ rfl h Ag_r rfl ?_
  intro υ l3 r g c
  have nb := pNL_b F4 false p hp
  have nc := pNL_c F4 false p hp
  have fT : Fo X T := by
    rcases hT with ⟨-, rfl⟩ | ⟨-, f, rfl, h1, -⟩
    · exact fun f h => nomatch h
    · exact fun f h => by cases h; exact h1
  have ba := Bo_pl (X := X) (P := P) hB
  unfold pPl
  generalize pNL X F4 false p = R at r nb nc ⊢
  obtain ⟨t, p1⟩ := R
  simp only at r nb nc ⊢
  have nt : (if t = true then 1 else 0) + p ≤ p1 := by
    cases t
    · simp only [Bool.false_eq_true, reduceIte]; omega
    · simp only [reduceIte]; have := nc (by decide); omega
  have w := fun (d c : Nat) (hc : 0 < c) (h2 : c < 256) => CS (d := d) r hc h2
  have kc : ∀ {ω : Hp}, Kc a υ ω → Kc a τ ω := fun h i hi => by rw [h i hi, c]
  unfold pQ
  by_cases q : sg_ X p1 = 40
  · rw [if_pos q]
    have ff := fun p' n' ψ => Fw_br (X := X) (S := T) (p := p1) (n := n) (c := 41) (p' := p') (n' := n') (φ := ψ) (by omega) fT (by omega) nb.2 q
    have bb : ∀ p' n' ψ, pBr X 41 T p1 n = .inr (p', n', ψ) → bl ψ := by
      intro p' n' ψ e1
      unfold pBr at e1
      cases T with
      | none => exact nomatch e1
      | some f =>
        obtain ⟨p3, n3, φ3, e3, e4⟩ := pb_i e1
        have := hB f rfl _ _ _ _ _ e3
        split at e4
        · cases e4; exact this
        · exact nomatch e4
    simp (disch := first | omega | (repeat (first | assumption | exact Ag_r | refine Ag_I ?_ rfl | refine Ag_F ?_ rfl | refine Ag_J ?_ rfl))) only [a61_40, a61_41, a61_43, a61_46, a61_47, a61_48, a61_51, a61_52, a61_53, FC r.1, w, q, CO, HA, HB, HC, Nat.not_lt_zero, Nat.add_assoc, c_nlt, c_nle, c_neq, c_P, c_cl, c_m1, c_m1', nI_add, pk_mul, reduceIte, Nat.reduceEqDiff, Nat.reduceAdd, Nat.reduceMul, Nat.reduceLeDiff, eq_self, ↓pk_rem, pk_div, c_of, d_le, d_nle, d_lt, d_nlt, d_eq, d_ne]
    refine Ev_b (C_brT hT (d := e + 7) (by omega) r (by omega) q) ?_
    intro v υ2 B
    revert B ff bb
    cases pBr X 41 T p1 n with
    | inl q =>
      rintro ff bb ⟨g2, k2, rfl, s2⟩
      simp (disch := first | omega | (repeat (first | assumption | exact Ag_r | refine Ag_I ?_ rfl | refine Ag_F ?_ rfl | refine Ag_J ?_ rfl))) only [a61_56, a61_59, a61_70, a61_71, CO, HA, HB, HC, Nat.not_lt_zero, Nat.add_assoc, c_nlt, c_nle, c_neq, c_P, c_cl, c_m1, c_m1', nI_add, pk_mul, reduceIte, Nat.reduceEqDiff, Nat.reduceAdd, Nat.reduceMul, Nat.reduceLeDiff, eq_self, ↓pk_rem, pk_div, c_of, d_le, d_nle, d_lt, d_nlt, d_eq, d_ne]
      exact Ev_s ⟨Qrd_t g g2, kc k2, rfl, s2⟩
    | inr x =>
      obtain ⟨p2, n2, ψ⟩ := x
      rintro ff bb ⟨g2, k2, rfl, b2, r2, m1, m2, sg2⟩
      have f2 := ff p2 n2 ψ rfl
      refine Ev_e ?_ (C_fin (δ := δ) (e := e) (K := K + 1) (l3 := .int (nI 1)) (l4 := .float 0) (by omega) r2 (Qrd_t g g2) (kc k2) (by omega) m2 (by omega) sg2 (bb p2 n2 ψ rfl))
      simp (disch := first | omega | (repeat (first | assumption | exact Ag_r | refine Ag_I ?_ rfl | refine Ag_F ?_ rfl | refine Ag_J ?_ rfl))) only [a61_56, a61_72, a61_73, CO, HA, HB, HC, Nat.not_lt_zero, Nat.add_assoc, c_nlt, c_nle, c_neq, c_P, c_cl, c_m1, c_m1', nI_add, pk_mul, reduceIte, Nat.reduceEqDiff, Nat.reduceAdd, Nat.reduceMul, Nat.reduceLeDiff, eq_self, ↓pk_rem, pk_div, c_of, d_le, d_nle, d_lt, d_nlt, d_eq, d_ne]
  · rw [if_neg q]
    unfold pCm
    simp (disch := first | omega | (repeat (first | assumption | exact Ag_r | refine Ag_I ?_ rfl | refine Ag_F ?_ rfl | refine Ag_J ?_ rfl))) only [a61_40, a61_41, a61_43, a61_46, a61_47, a61_48, a61_62, a61_63, a61_64, FC r.1, w, q, CO, HA, HB, HC, Nat.not_lt_zero, Nat.add_assoc, c_nlt, c_nle, c_neq, c_P, c_cl, c_m1, c_m1', nI_add, pk_mul, reduceIte, Nat.reduceEqDiff, Nat.reduceAdd, Nat.reduceMul, Nat.reduceLeDiff, eq_self, ↓pk_rem, pk_div, c_of, d_le, d_nle, d_lt, d_nlt, d_eq, d_ne]
    refine Ev_b (hP (e + 7) p1 a n υ (by omega) r (by omega)) ?_
    intro v υ2 B
    have ff := fun p' n' ψ => hF p1 n p' n' ψ nb.2
    revert B ff
    cases P p1 n with
    | inl q =>
      rintro ⟨g2, k2, rfl, s2⟩ ff
      simp (disch := first | omega | (repeat (first | assumption | exact Ag_r | refine Ag_I ?_ rfl | refine Ag_F ?_ rfl | refine Ag_J ?_ rfl))) only [a61_67, a61_70, a61_71, CO, HA, HB, HC, Nat.not_lt_zero, Nat.add_assoc, c_nlt, c_nle, c_neq, c_P, c_cl, c_m1, c_m1', nI_add, pk_mul, reduceIte, Nat.reduceEqDiff, Nat.reduceAdd, Nat.reduceMul, Nat.reduceLeDiff, eq_self, ↓pk_rem, pk_div, c_of, d_le, d_nle, d_lt, d_nlt, d_eq, d_ne]
      exact Ev_s ⟨Qrd_t g g2, kc k2, rfl, s2⟩
    | inr x =>
      obtain ⟨p2, n2, φ⟩ := x
      rintro ⟨g2, k2, rfl, b2, r2, m1, m2, sg2⟩ ff
      have f2 := ff p2 n2 φ rfl
      have ch := fun (d : Nat) => C_cmpH (d := d) r2
      simp only [pb]
      by_cases z : cm_ X p2 = 0
      · rw [if_pos z]
        simp only [if_pos z] at ch
        refine Ev_e (o' := some (some (.int (nI 0)), υ2)) ?_ (Ev_s ⟨Qrd_t g g2, kc k2, rfl, r2.2.2.2.1.1⟩)
        simp (disch := first | omega | (repeat (first | assumption | exact Ag_r | refine Ag_I ?_ rfl | refine Ag_F ?_ rfl | refine Ag_J ?_ rfl))) only [a61_67, a61_72, a61_73, a61_76, a61_77, a61_80, a61_82, a61_84, a61_87, a61_88, FC r2.1, ch, CO, HA, HB, HC, Nat.not_lt_zero, Nat.add_assoc, c_nlt, c_nle, c_neq, c_P, c_cl, c_m1, c_m1', nI_add, pk_mul, reduceIte, Nat.reduceEqDiff, Nat.reduceAdd, Nat.reduceMul, Nat.reduceLeDiff, eq_self, ↓pk_rem, pk_div, c_of, d_le, d_nle, d_lt, d_nlt, d_eq, d_ne]
      · rw [if_neg z]
        simp only [if_neg z] at ch
        have cp := cm_p z
        have te := tE_s f2.2 cp.1 rfl
        have on : (opC (cm_ X p2 + 3) = nI 0) = False := by
          unfold opC
          rw [show nI 0 = zI 0 from rfl]
          exact zI_ne (by omega) (by omega) (by omega)
        simp (disch := first | omega | (repeat (first | assumption | exact Ag_r | refine Ag_I ?_ rfl | refine Ag_F ?_ rfl | refine Ag_J ?_ rfl))) only [a61_67, a61_72, a61_73, a61_76, a61_77, a61_80, a61_82, a61_84, a61_89, a61_90, FC r2.1, ch, on, CO, HA, HB, HC, Nat.not_lt_zero, Nat.add_assoc, c_nlt, c_nle, c_neq, c_P, c_cl, c_m1, c_m1', nI_add, pk_mul, reduceIte, Nat.reduceEqDiff, Nat.reduceAdd, Nat.reduceMul, Nat.reduceLeDiff, eq_self, ↓pk_rem, pk_div, c_of, d_le, d_nle, d_lt, d_nlt, d_eq, d_ne]
        refine Ev_b (C_sp (d := e + 6) r2) ?_
        rintro _ υ3 ⟨rfl, g3, r3, c3⟩
        simp (disch := first | omega | (repeat (first | assumption | exact Ag_r | refine Ag_I ?_ rfl | refine Ag_F ?_ rfl | refine Ag_J ?_ rfl))) only [a61_93, a61_94, a61_95, FC r3.1, CO, HA, HB, HC, Nat.not_lt_zero, Nat.add_assoc, c_nlt, c_nle, c_neq, c_P, c_cl, c_m1, c_m1', nI_add, pk_mul, reduceIte, Nat.reduceEqDiff, Nat.reduceAdd, Nat.reduceMul, Nat.reduceLeDiff, eq_self, ↓pk_rem, pk_div, c_of, d_le, d_nle, d_lt, d_nlt, d_eq, d_ne]
        refine Ev_b (hP (e + 7) (tE X p2) b2 n2 υ3 (by omega) r3 (by omega)) ?_
        intro v υ4 B
        have ff := fun p' n' ψ => hF (tE X p2) n2 p' n' ψ te.2.1
        revert B ff
        cases P (tE X p2) n2 with
        | inl q =>
          rintro ⟨g4, k4, rfl, s4⟩ ff
          simp (disch := first | omega | (repeat (first | assumption | exact Ag_r | refine Ag_I ?_ rfl | refine Ag_F ?_ rfl | refine Ag_J ?_ rfl))) only [a61_98, a61_101, a61_102, CO, HA, HB, HC, Nat.not_lt_zero, Nat.add_assoc, c_nlt, c_nle, c_neq, c_P, c_cl, c_m1, c_m1', nI_add, pk_mul, reduceIte, Nat.reduceEqDiff, Nat.reduceAdd, Nat.reduceMul, Nat.reduceLeDiff, eq_self, ↓pk_rem, pk_div, c_of, d_le, d_nle, d_lt, d_nlt, d_eq, d_ne]
          exact Ev_s ⟨Qrd_t g (Qrd_t g2 (Qrd_t g3 g4)), kc (Kc_t k2 (fun i hi => by rw [k4 i hi, c3]) m2), rfl, s4⟩
        | inr x =>
          obtain ⟨p4, n4, ψ⟩ := x
          rintro ⟨g4, k4, rfl, b4, r4, m3, m4, sg4⟩ ff
          have f4 := ff p4 n4 ψ rfl
          simp (disch := first | omega | (repeat (first | assumption | exact Ag_r | refine Ag_I ?_ rfl | refine Ag_F ?_ rfl | refine Ag_J ?_ rfl))) only [a61_98, a61_103, a61_104, a61_106, FC r4.1, CO, HA, HB, HC, Nat.not_lt_zero, Nat.add_assoc, c_nlt, c_nle, c_neq, c_P, c_cl, c_m1, c_m1', nI_add, pk_mul, reduceIte, Nat.reduceEqDiff, Nat.reduceAdd, Nat.reduceMul, Nat.reduceLeDiff, eq_self, ↓pk_rem, pk_div, c_of, d_le, d_nle, d_lt, d_nlt, d_eq, d_ne]
          refine Ev_b (C_pu (d := e + 7) r4 (by omega) (opC (cm_ X p2 + 3))) ?_
          rintro _ υ5 ⟨rfl, g5, r5, k5, c5⟩
          have kk : ∀ i, i < b2 → hI υ5 15 i = hI υ2 15 i := fun i hi => by rw [k5 i (by omega), k4 i hi, c3]
          refine C_fin (δ := δ) (e := e) (K := K + 1) (by omega) r5 (Qrd_t g (Qrd_t g2 (Qrd_t g3 (Qrd_t g4 g5)))) (kc (Kc_t k2 kk m2)) (by omega) (by omega) (by omega) ?_ (bl_o (by omega))
          exact SgC_op (SgC_e sg2 (fun i h1 h2 => (kk i h2).symm)) (SgC_e sg4 (fun i h1 h2 => (k5 i h2).symm)) (by omega) c5 (by omega) (by omega) (by omega)
theorem C_both {P : Nat → Nat → Pz} {δ K D : Nat} (hK : 1 ≤ K) (hF : Fw X P) (hB : Bo P) (hP : CP X D 61 [.ref 14, .int (nI δ), .float 0, .float 0, .float 0] K P) : CP X (D + 8) 60 [.ref 14, .int (nI δ), .float 0, .float 0] K (pA X P 1476 0) := by
  intro d p a n τ hd h hap
  obtain ⟨e, rfl⟩ : ∃ e, d = e + 8 := ⟨d - 8, by omega⟩
  have x4 := h.2.1.2.2.1
  have hp := h.2.2.1
  have go : ∀ (f i : Nat) (φ : Ph) (p1 b n1 : Nat) (υ : Hp) (l3 : Value), i + f = 400 → RdC υ X p1 b n1 → Qrd τ υ → Kc a τ υ → b + p ≤ a + p1 → a ≤ b → p ≤ p1 → SgC (hI υ 15) a b K φ → bl φ → Ev (den (e + 8, 60, 12, [.ref 14, .int (nI δ), .int (nI i), l3], [], υ)) (PoC τ X p a K (pAL X P 1476 0 f φ p1 n1)) := by
    intro f
    induction f with
    | zero =>
      intro i φ p1 b n1 υ l3 hi r g k l1 l2 l3' sg hb
      obtain rfl : i = 400 := by omega
      rw [a60_12]
      simp (disch := first | omega | (repeat (first | assumption | exact Ag_r | refine Ag_I ?_ rfl | refine Ag_F ?_ rfl | refine Ag_J ?_ rfl))) only [A60, CO, HA, HB, HC, Nat.not_lt_zero, Nat.add_assoc, c_nlt, c_nle, c_neq, c_P, c_cl, c_m1, c_m1', nI_add, pk_mul, reduceIte, Nat.reduceEqDiff, Nat.reduceAdd, Nat.reduceMul, Nat.reduceLeDiff, eq_self, ↓pk_rem, pk_div, c_of, d_le, d_nle, d_lt, d_nlt, d_eq, d_ne]
      exact Ev_s ⟨g, k, rfl, b, r, l1, l2, sg⟩
    | succ f ih =>
      intro i φ p1 b n1 υ l3 hi r g k l1 l2 l3' sg hb
      have w := fun (d : Nat) => CW (d := d) r (show 15 < 17 by omega)
      simp only [wT, List.getD_cons_succ, List.getD_cons_zero, Nat.reduceAdd] at w
      have hp1 := r.2.2.1
      rw [a60_12]
      simp only [pAL]
      by_cases q : wd_ X p1 = 1476
      · rw [if_pos q]
        have te := tE_l (j := 15) (by omega) hp1 q
        simp only [stAll, List.getD_cons_succ, List.getD_cons_zero, List.length_cons, List.length_nil, Nat.reduceAdd] at te
        simp (disch := first | omega | (repeat (first | assumption | exact Ag_r | refine Ag_I ?_ rfl | refine Ag_F ?_ rfl | refine Ag_J ?_ rfl))) only [a60_13, a60_16, a60_19, a60_20, a60_22, a60_25, a60_28, a60_29, FC r.1, w, q, CO, HA, HB, HC, Nat.not_lt_zero, Nat.add_assoc, c_nlt, c_nle, c_neq, c_P, c_cl, c_m1, c_m1', nI_add, pk_mul, reduceIte, Nat.reduceEqDiff, Nat.reduceAdd, Nat.reduceMul, Nat.reduceLeDiff, eq_self, ↓pk_rem, pk_div, c_of, d_le, d_nle, d_lt, d_nlt, d_eq, d_ne]
        refine Ev_b (C_sp (d := e + 6) r) ?_
        rintro _ υ1 ⟨rfl, g1, r1, c1⟩
        simp (disch := first | omega | (repeat (first | assumption | exact Ag_r | refine Ag_I ?_ rfl | refine Ag_F ?_ rfl | refine Ag_J ?_ rfl))) only [a60_32, a60_33, a60_35, FC r1.1, CO, HA, HB, HC, Nat.not_lt_zero, Nat.add_assoc, c_nlt, c_nle, c_neq, c_P, c_cl, c_m1, c_m1', nI_add, pk_mul, reduceIte, Nat.reduceEqDiff, Nat.reduceAdd, Nat.reduceMul, Nat.reduceLeDiff, eq_self, ↓pk_rem, pk_div, c_of, d_le, d_nle, d_lt, d_nlt, d_eq, d_ne]
        refine Ev_b (C_pu (d := e + 7) r1 (by omega) (-18)) ?_
        rintro _ υ2 ⟨rfl, g2, r2, k2, c2⟩
        simp (disch := first | omega | (repeat (first | assumption | exact Ag_r | refine Ag_I ?_ rfl | refine Ag_F ?_ rfl | refine Ag_J ?_ rfl))) only [a60_38, a60_39, FC r2.1, CO, HA, HB, HC, Nat.not_lt_zero, Nat.add_assoc, c_nlt, c_nle, c_neq, c_P, c_cl, c_m1, c_m1', nI_add, pk_mul, reduceIte, Nat.reduceEqDiff, Nat.reduceAdd, Nat.reduceMul, Nat.reduceLeDiff, eq_self, ↓pk_rem, pk_div, c_of, d_le, d_nle, d_lt, d_nlt, d_eq, d_ne]
        refine Ev_b (C_po (d := e + 6) r2 (by omega)) ?_
        rintro _ υ3 ⟨rfl, g3, r3, k3⟩
        simp (disch := first | omega | (repeat (first | assumption | exact Ag_r | refine Ag_I ?_ rfl | refine Ag_F ?_ rfl | refine Ag_J ?_ rfl))) only [a60_42, a60_43, a60_44, a60_45, FC r3.1, CO, HA, HB, HC, Nat.not_lt_zero, Nat.add_assoc, c_nlt, c_nle, c_neq, c_P, c_cl, c_m1, c_m1', nI_add, pk_mul, reduceIte, Nat.reduceEqDiff, Nat.reduceAdd, Nat.reduceMul, Nat.reduceLeDiff, eq_self, ↓pk_rem, pk_div, c_of, d_le, d_nle, d_lt, d_nlt, d_eq, d_ne]
        refine Ev_b (hP (e + 7) (tE X p1) (b + 2) n1 υ3 (by omega) r3 (by omega)) ?_
        intro v υ4 B
        have ff := fun p' n' ψ => hF (tE X p1) n1 p' n' ψ te.2
        have bb := fun p' n' ψ => hB (tE X p1) n1 p' n' ψ
        revert B ff bb
        cases P (tE X p1) n1 with
        | inl q =>
          rintro ⟨g4, k4, rfl, s4⟩ ff bb
          simp (disch := first | omega | (repeat (first | assumption | exact Ag_r | refine Ag_I ?_ rfl | refine Ag_F ?_ rfl | refine Ag_J ?_ rfl))) only [a60_48, a60_51, a60_52, CO, HA, HB, HC, Nat.not_lt_zero, Nat.add_assoc, c_nlt, c_nle, c_neq, c_P, c_cl, c_m1, c_m1', nI_add, pk_mul, reduceIte, Nat.reduceEqDiff, Nat.reduceAdd, Nat.reduceMul, Nat.reduceLeDiff, eq_self, ↓pk_rem, pk_div, c_of, d_le, d_nle, d_lt, d_nlt, d_eq, d_ne]
          exact Ev_s ⟨Qrd_t g (Qrd_t g1 (Qrd_t g2 (Qrd_t g3 g4))), Kc_t k (fun i hi => by rw [k4 i (by omega), k3 i (by omega), k2 i (by omega), c1]) l2, rfl, s4⟩
        | inr x =>
          obtain ⟨p2, n2, ψ⟩ := x
          rintro ⟨g4, k4, rfl, b2, r4, m1, m2, sg4⟩ ff bb
          have f4 := ff p2 n2 ψ rfl
          have b4 := bb p2 n2 ψ rfl
          simp (disch := first | omega | (repeat (first | assumption | exact Ag_r | refine Ag_I ?_ rfl | refine Ag_F ?_ rfl | refine Ag_J ?_ rfl))) only [a60_48, a60_53, a60_54, a60_55, FC r4.1, CO, HA, HB, HC, Nat.not_lt_zero, Nat.add_assoc, c_nlt, c_nle, c_neq, c_P, c_cl, c_m1, c_m1', nI_add, pk_mul, reduceIte, Nat.reduceEqDiff, Nat.reduceAdd, Nat.reduceMul, Nat.reduceLeDiff, eq_self, ↓pk_rem, pk_div, c_of, d_le, d_nle, d_lt, d_nlt, d_eq, d_ne]
          refine Ev_b (C_cl (d := e + 7) r4 (b := b + 1) (by omega)) ?_
          rintro _ υ5 ⟨rfl, g5, r5, c5, k5⟩
          have kk : ∀ i, i < b → hI υ5 15 i = hI υ 15 i := fun i hi => by rw [k5 i (by omega), k4 i (by omega), k3 i (by omega), k2 i hi, c1]
          refine Ev_e ?_ (ih (i + 1) (phS ((0 : Nat) : Int) φ ψ) p2 b2 n2 υ5 (.int (nI (b + 1))) (by omega) r5 (Qrd_t g (Qrd_t g1 (Qrd_t g2 (Qrd_t g3 (Qrd_t g4 g5))))) (Kc_t k kk l2) (by omega) (by omega) (by omega) ?_ (bl_s (by omega) b4))
          · simp (disch := first | omega | (repeat (first | assumption | exact Ag_r | refine Ag_I ?_ rfl | refine Ag_F ?_ rfl | refine Ag_J ?_ rfl))) only [a60_58, a60_61, CO, HA, HB, HC, Nat.not_lt_zero, Nat.add_assoc, c_nlt, c_nle, c_neq, c_P, c_cl, c_m1, c_m1', nI_add, pk_mul, reduceIte, Nat.reduceEqDiff, Nat.reduceAdd, Nat.reduceMul, Nat.reduceLeDiff, eq_self, ↓pk_rem, pk_div, c_of, d_le, d_nle, d_lt, d_nlt, d_eq, d_ne]
          · refine SgC_skip (b := b) (SgC_e sg (fun i h1 h2 => (kk i h2).symm)) hb (by omega) ?_ c5 (SgC_e sg4 (fun i h1 h2 => (k5 i (by omega)).symm)) (by omega) (Nat.le_refl _) (Nat.le_refl _) hK
            rw [k5 b (by omega), k4 b (by omega), k3 b (by omega), c2]
            rfl
      · rw [if_neg q]
        refine Ev_e (o' := some (some (.int (nI 1)), υ)) ?_ (Ev_s ⟨g, k, rfl, b, r, l1, l2, sg⟩)
        simp (disch := first | omega | (repeat (first | assumption | exact Ag_r | refine Ag_I ?_ rfl | refine Ag_F ?_ rfl | refine Ag_J ?_ rfl))) only [A60, FC r.1, w, q, CO, HA, HB, HC, Nat.not_lt_zero, Nat.add_assoc, c_nlt, c_nle, c_neq, c_P, c_cl, c_m1, c_m1', nI_add, pk_mul, reduceIte, Nat.reduceEqDiff, Nat.reduceAdd, Nat.reduceMul, Nat.reduceLeDiff, eq_self, ↓pk_rem, pk_div, c_of, d_le, d_nle, d_lt, d_nlt, d_eq, d_ne]
  simp (disch := first | omega | (repeat (first | assumption | exact Ag_r | refine Ag_I ?_ rfl | refine Ag_F ?_ rfl | refine Ag_J ?_ rfl))) only [a60_0, a60_1, a60_2, FC h.1, CO, HA, HB, HC, Nat.not_lt_zero, Nat.add_assoc, c_nlt, c_nle, c_neq, c_P, c_cl, c_m1, c_m1', nI_add, pk_mul, reduceIte, Nat.reduceEqDiff, Nat.reduceAdd, Nat.reduceMul, Nat.reduceLeDiff, eq_self, ↓pk_rem, pk_div, c_of, d_le, d_nle, d_lt, d_nlt, d_eq, d_ne]
  refine Ev_b (hP (e + 7) p a n τ (by omega) h hap) ?_
  intro v υ2 B
  have ff := fun p' n' ψ => hF p n p' n' ψ hp
  have bb := fun p' n' ψ => hB p n p' n' ψ
  unfold pA
  revert B ff bb
  cases P p n with
  | inl q =>
    rintro ⟨g2, k2, rfl, s2⟩ ff bb
    simp (disch := first | omega | (repeat (first | assumption | exact Ag_r | refine Ag_I ?_ rfl | refine Ag_F ?_ rfl | refine Ag_J ?_ rfl))) only [a60_5, a60_8, a60_9, CO, HA, HB, HC, Nat.not_lt_zero, Nat.add_assoc, c_nlt, c_nle, c_neq, c_P, c_cl, c_m1, c_m1', nI_add, pk_mul, reduceIte, Nat.reduceEqDiff, Nat.reduceAdd, Nat.reduceMul, Nat.reduceLeDiff, eq_self, ↓pk_rem, pk_div, c_of, d_le, d_nle, d_lt, d_nlt, d_eq, d_ne]
    exact Ev_s ⟨g2, k2, rfl, s2⟩
  | inr x =>
    obtain ⟨p2, n2, ψ⟩ := x
    rintro ⟨g2, k2, rfl, b2, r2, m1, m2, sg2⟩ ff bb
    have f2 := ff p2 n2 ψ rfl
    refine Ev_e (o' := den (e + 8, 60, 12, [.ref 14, .int (nI δ), .int (nI 0), .float 0], [], υ2)) ?_ (go F4 0 ψ p2 b2 n2 υ2 (.float 0) rfl r2 g2 k2 m1 m2 (by omega) sg2 (bb p2 n2 ψ rfl))
    simp (disch := first | omega | (repeat (first | assumption | exact Ag_r | refine Ag_I ?_ rfl | refine Ag_F ?_ rfl | refine Ag_J ?_ rfl))) only [a60_5, a60_10, a60_11, CO, HA, HB, HC, Nat.not_lt_zero, Nat.add_assoc, c_nlt, c_nle, c_neq, c_P, c_cl, c_m1, c_m1', nI_add, pk_mul, reduceIte, Nat.reduceEqDiff, Nat.reduceAdd, Nat.reduceMul, Nat.reduceLeDiff, eq_self, ↓pk_rem, pk_div, c_of, d_le, d_nle, d_lt, d_nlt, d_eq, d_ne]
theorem C_test {P : Nat → Nat → Pz} {δ K D : Nat} (hK : 1 ≤ K) (hF : Fw X P) (hB : Bo P) (hP : CP X D 60 [.ref 14, .int (nI δ), .float 0, .float 0] K P) : CP X (D + 8) 59 [.ref 14, .int (nI δ), .float 0, .float 0] K (pA X P 498 1) := by
  intro d p a n τ hd h hap
  obtain ⟨e, rfl⟩ : ∃ e, d = e + 8 := ⟨d - 8, by omega⟩
  have x4 := h.2.1.2.2.1
  have hp := h.2.2.1
  have go : ∀ (f i : Nat) (φ : Ph) (p1 b n1 : Nat) (υ : Hp) (l3 : Value), i + f = 400 → RdC υ X p1 b n1 → Qrd τ υ → Kc a τ υ → b + p ≤ a + p1 → a ≤ b → p ≤ p1 → SgC (hI υ 15) a b K φ → bl φ → Ev (den (e + 8, 59, 12, [.ref 14, .int (nI δ), .int (nI i), l3], [], υ)) (PoC τ X p a K (pAL X P 498 1 f φ p1 n1)) := by
    intro f
    induction f with
    | zero =>
      intro i φ p1 b n1 υ l3 hi r g k l1 l2 l3' sg hb
      obtain rfl : i = 400 := by omega
      rw [a59_12]
      simp (disch := first | omega | (repeat (first | assumption | exact Ag_r | refine Ag_I ?_ rfl | refine Ag_F ?_ rfl | refine Ag_J ?_ rfl))) only [A59, CO, HA, HB, HC, Nat.not_lt_zero, Nat.add_assoc, c_nlt, c_nle, c_neq, c_P, c_cl, c_m1, c_m1', nI_add, pk_mul, reduceIte, Nat.reduceEqDiff, Nat.reduceAdd, Nat.reduceMul, Nat.reduceLeDiff, eq_self, ↓pk_rem, pk_div, c_of, d_le, d_nle, d_lt, d_nlt, d_eq, d_ne]
      exact Ev_s ⟨g, k, rfl, b, r, l1, l2, sg⟩
    | succ f ih =>
      intro i φ p1 b n1 υ l3 hi r g k l1 l2 l3' sg hb
      have w := fun (d : Nat) => CW (d := d) r (show 16 < 17 by omega)
      simp only [wT, List.getD_cons_succ, List.getD_cons_zero, Nat.reduceAdd] at w
      have hp1 := r.2.2.1
      rw [a59_12]
      simp only [pAL]
      by_cases q : wd_ X p1 = 498
      · rw [if_pos q]
        have te := tE_l (j := 16) (by omega) hp1 q
        simp only [stAll, List.getD_cons_succ, List.getD_cons_zero, List.length_cons, List.length_nil, Nat.reduceAdd] at te
        simp (disch := first | omega | (repeat (first | assumption | exact Ag_r | refine Ag_I ?_ rfl | refine Ag_F ?_ rfl | refine Ag_J ?_ rfl))) only [a59_13, a59_16, a59_19, a59_20, a59_22, a59_25, a59_28, a59_29, FC r.1, w, q, CO, HA, HB, HC, Nat.not_lt_zero, Nat.add_assoc, c_nlt, c_nle, c_neq, c_P, c_cl, c_m1, c_m1', nI_add, pk_mul, reduceIte, Nat.reduceEqDiff, Nat.reduceAdd, Nat.reduceMul, Nat.reduceLeDiff, eq_self, ↓pk_rem, pk_div, c_of, d_le, d_nle, d_lt, d_nlt, d_eq, d_ne]
        refine Ev_b (C_sp (d := e + 6) r) ?_
        rintro _ υ1 ⟨rfl, g1, r1, c1⟩
        simp (disch := first | omega | (repeat (first | assumption | exact Ag_r | refine Ag_I ?_ rfl | refine Ag_F ?_ rfl | refine Ag_J ?_ rfl))) only [a59_32, a59_33, a59_35, FC r1.1, CO, HA, HB, HC, Nat.not_lt_zero, Nat.add_assoc, c_nlt, c_nle, c_neq, c_P, c_cl, c_m1, c_m1', nI_add, pk_mul, reduceIte, Nat.reduceEqDiff, Nat.reduceAdd, Nat.reduceMul, Nat.reduceLeDiff, eq_self, ↓pk_rem, pk_div, c_of, d_le, d_nle, d_lt, d_nlt, d_eq, d_ne]
        refine Ev_b (C_pu (d := e + 7) r1 (by omega) (-19)) ?_
        rintro _ υ2 ⟨rfl, g2, r2, k2, c2⟩
        simp (disch := first | omega | (repeat (first | assumption | exact Ag_r | refine Ag_I ?_ rfl | refine Ag_F ?_ rfl | refine Ag_J ?_ rfl))) only [a59_38, a59_39, FC r2.1, CO, HA, HB, HC, Nat.not_lt_zero, Nat.add_assoc, c_nlt, c_nle, c_neq, c_P, c_cl, c_m1, c_m1', nI_add, pk_mul, reduceIte, Nat.reduceEqDiff, Nat.reduceAdd, Nat.reduceMul, Nat.reduceLeDiff, eq_self, ↓pk_rem, pk_div, c_of, d_le, d_nle, d_lt, d_nlt, d_eq, d_ne]
        refine Ev_b (C_po (d := e + 6) r2 (by omega)) ?_
        rintro _ υ3 ⟨rfl, g3, r3, k3⟩
        simp (disch := first | omega | (repeat (first | assumption | exact Ag_r | refine Ag_I ?_ rfl | refine Ag_F ?_ rfl | refine Ag_J ?_ rfl))) only [a59_42, a59_43, a59_44, a59_45, FC r3.1, CO, HA, HB, HC, Nat.not_lt_zero, Nat.add_assoc, c_nlt, c_nle, c_neq, c_P, c_cl, c_m1, c_m1', nI_add, pk_mul, reduceIte, Nat.reduceEqDiff, Nat.reduceAdd, Nat.reduceMul, Nat.reduceLeDiff, eq_self, ↓pk_rem, pk_div, c_of, d_le, d_nle, d_lt, d_nlt, d_eq, d_ne]
        refine Ev_b (hP (e + 7) (tE X p1) (b + 2) n1 υ3 (by omega) r3 (by omega)) ?_
        intro v υ4 B
        have ff := fun p' n' ψ => hF (tE X p1) n1 p' n' ψ te.2
        have bb := fun p' n' ψ => hB (tE X p1) n1 p' n' ψ
        revert B ff bb
        cases P (tE X p1) n1 with
        | inl q =>
          rintro ⟨g4, k4, rfl, s4⟩ ff bb
          simp (disch := first | omega | (repeat (first | assumption | exact Ag_r | refine Ag_I ?_ rfl | refine Ag_F ?_ rfl | refine Ag_J ?_ rfl))) only [a59_48, a59_51, a59_52, CO, HA, HB, HC, Nat.not_lt_zero, Nat.add_assoc, c_nlt, c_nle, c_neq, c_P, c_cl, c_m1, c_m1', nI_add, pk_mul, reduceIte, Nat.reduceEqDiff, Nat.reduceAdd, Nat.reduceMul, Nat.reduceLeDiff, eq_self, ↓pk_rem, pk_div, c_of, d_le, d_nle, d_lt, d_nlt, d_eq, d_ne]
          exact Ev_s ⟨Qrd_t g (Qrd_t g1 (Qrd_t g2 (Qrd_t g3 g4))), Kc_t k (fun i hi => by rw [k4 i (by omega), k3 i (by omega), k2 i (by omega), c1]) l2, rfl, s4⟩
        | inr x =>
          obtain ⟨p2, n2, ψ⟩ := x
          rintro ⟨g4, k4, rfl, b2, r4, m1, m2, sg4⟩ ff bb
          have f4 := ff p2 n2 ψ rfl
          have b4 := bb p2 n2 ψ rfl
          simp (disch := first | omega | (repeat (first | assumption | exact Ag_r | refine Ag_I ?_ rfl | refine Ag_F ?_ rfl | refine Ag_J ?_ rfl))) only [a59_48, a59_53, a59_54, a59_55, FC r4.1, CO, HA, HB, HC, Nat.not_lt_zero, Nat.add_assoc, c_nlt, c_nle, c_neq, c_P, c_cl, c_m1, c_m1', nI_add, pk_mul, reduceIte, Nat.reduceEqDiff, Nat.reduceAdd, Nat.reduceMul, Nat.reduceLeDiff, eq_self, ↓pk_rem, pk_div, c_of, d_le, d_nle, d_lt, d_nlt, d_eq, d_ne]
          refine Ev_b (C_cl (d := e + 7) r4 (b := b + 1) (by omega)) ?_
          rintro _ υ5 ⟨rfl, g5, r5, c5, k5⟩
          have kk : ∀ i, i < b → hI υ5 15 i = hI υ 15 i := fun i hi => by rw [k5 i (by omega), k4 i (by omega), k3 i (by omega), k2 i hi, c1]
          refine Ev_e ?_ (ih (i + 1) (phS ((1 : Nat) : Int) φ ψ) p2 b2 n2 υ5 (.int (nI (b + 1))) (by omega) r5 (Qrd_t g (Qrd_t g1 (Qrd_t g2 (Qrd_t g3 (Qrd_t g4 g5))))) (Kc_t k kk l2) (by omega) (by omega) (by omega) ?_ (bl_s (by omega) b4))
          · simp (disch := first | omega | (repeat (first | assumption | exact Ag_r | refine Ag_I ?_ rfl | refine Ag_F ?_ rfl | refine Ag_J ?_ rfl))) only [a59_58, a59_61, CO, HA, HB, HC, Nat.not_lt_zero, Nat.add_assoc, c_nlt, c_nle, c_neq, c_P, c_cl, c_m1, c_m1', nI_add, pk_mul, reduceIte, Nat.reduceEqDiff, Nat.reduceAdd, Nat.reduceMul, Nat.reduceLeDiff, eq_self, ↓pk_rem, pk_div, c_of, d_le, d_nle, d_lt, d_nlt, d_eq, d_ne]
          · refine SgC_skip (b := b) (SgC_e sg (fun i h1 h2 => (kk i h2).symm)) hb (by omega) ?_ c5 (SgC_e sg4 (fun i h1 h2 => (k5 i (by omega)).symm)) (by omega) (Nat.le_refl _) (Nat.le_refl _) hK
            rw [k5 b (by omega), k4 b (by omega), k3 b (by omega), c2]
            rfl
      · rw [if_neg q]
        refine Ev_e (o' := some (some (.int (nI 1)), υ)) ?_ (Ev_s ⟨g, k, rfl, b, r, l1, l2, sg⟩)
        simp (disch := first | omega | (repeat (first | assumption | exact Ag_r | refine Ag_I ?_ rfl | refine Ag_F ?_ rfl | refine Ag_J ?_ rfl))) only [A59, FC r.1, w, q, CO, HA, HB, HC, Nat.not_lt_zero, Nat.add_assoc, c_nlt, c_nle, c_neq, c_P, c_cl, c_m1, c_m1', nI_add, pk_mul, reduceIte, Nat.reduceEqDiff, Nat.reduceAdd, Nat.reduceMul, Nat.reduceLeDiff, eq_self, ↓pk_rem, pk_div, c_of, d_le, d_nle, d_lt, d_nlt, d_eq, d_ne]
  simp (disch := first | omega | (repeat (first | assumption | exact Ag_r | refine Ag_I ?_ rfl | refine Ag_F ?_ rfl | refine Ag_J ?_ rfl))) only [a59_0, a59_1, a59_2, FC h.1, CO, HA, HB, HC, Nat.not_lt_zero, Nat.add_assoc, c_nlt, c_nle, c_neq, c_P, c_cl, c_m1, c_m1', nI_add, pk_mul, reduceIte, Nat.reduceEqDiff, Nat.reduceAdd, Nat.reduceMul, Nat.reduceLeDiff, eq_self, ↓pk_rem, pk_div, c_of, d_le, d_nle, d_lt, d_nlt, d_eq, d_ne]
  refine Ev_b (hP (e + 7) p a n τ (by omega) h hap) ?_
  intro v υ2 B
  have ff := fun p' n' ψ => hF p n p' n' ψ hp
  have bb := fun p' n' ψ => hB p n p' n' ψ
  unfold pA
  revert B ff bb
  cases P p n with
  | inl q =>
    rintro ⟨g2, k2, rfl, s2⟩ ff bb
    simp (disch := first | omega | (repeat (first | assumption | exact Ag_r | refine Ag_I ?_ rfl | refine Ag_F ?_ rfl | refine Ag_J ?_ rfl))) only [a59_5, a59_8, a59_9, CO, HA, HB, HC, Nat.not_lt_zero, Nat.add_assoc, c_nlt, c_nle, c_neq, c_P, c_cl, c_m1, c_m1', nI_add, pk_mul, reduceIte, Nat.reduceEqDiff, Nat.reduceAdd, Nat.reduceMul, Nat.reduceLeDiff, eq_self, ↓pk_rem, pk_div, c_of, d_le, d_nle, d_lt, d_nlt, d_eq, d_ne]
    exact Ev_s ⟨g2, k2, rfl, s2⟩
  | inr x =>
    obtain ⟨p2, n2, ψ⟩ := x
    rintro ⟨g2, k2, rfl, b2, r2, m1, m2, sg2⟩ ff bb
    have f2 := ff p2 n2 ψ rfl
    refine Ev_e (o' := den (e + 8, 59, 12, [.ref 14, .int (nI δ), .int (nI 0), .float 0], [], υ2)) ?_ (go F4 0 ψ p2 b2 n2 υ2 (.float 0) rfl r2 g2 k2 m1 m2 (by omega) sg2 (bb p2 n2 ψ rfl))
    simp (disch := first | omega | (repeat (first | assumption | exact Ag_r | refine Ag_I ?_ rfl | refine Ag_F ?_ rfl | refine Ag_J ?_ rfl))) only [a59_5, a59_10, a59_11, CO, HA, HB, HC, Nat.not_lt_zero, Nat.add_assoc, c_nlt, c_nle, c_neq, c_P, c_cl, c_m1, c_m1', nI_add, pk_mul, reduceIte, Nat.reduceEqDiff, Nat.reduceAdd, Nat.reduceMul, Nat.reduceLeDiff, eq_self, ↓pk_rem, pk_div, c_of, d_le, d_nle, d_lt, d_nlt, d_eq, d_ne]
theorem C_T : ∀ k, k ≤ 8 → CP X (40 * (k + 1)) 59 [.ref 14, .int (nI (8 - k)), .float 0, .float 0] (2 * k + 4) (pT X k)
  | 0, _ => CP_m (C_test (by omega) (Fw_a (Fw_pl (Fw_S 0) Fo_0) (by omega)) (Bo_a (Bo_pl Bo_0) (by omega)) (C_both (by omega) (Fw_pl (Fw_S 0) Fo_0) (Bo_pl Bo_0) (C_plain (by omega) (Fw_S 0) (C_S 0 (by omega)) (Or.inl ⟨rfl, rfl⟩) Bo_0))) (by omega)
  | k + 1, h => by
    have ih := C_T k (by omega)
    have fo : Fo X (some (pT X k)) := fun f h => by cases h; exact Fw_T k
    have bo : ∀ f, some (pT X k) = some f → Bo f := fun f h => by cases h; exact Bo_T k
    exact CP_m (C_test (by omega) (Fw_a (Fw_pl (Fw_S (k + 1)) fo) (by omega)) (Bo_a (Bo_pl bo) (by omega)) (C_both (by omega) (Fw_pl (Fw_S (k + 1)) fo) (Bo_pl bo) (C_plain (D := 40 * (k + 1)) (by omega) (Fw_S (k + 1)) (CP_m (C_S (k + 1) (by omega)) (by omega)) (Or.inr ⟨by omega, pT X k, rfl, Fw_T k, by rw [show 8 - (k + 1) + 1 = 8 - k by omega]; exact CP_k ih (by omega)⟩) bo))) (by omega)
end
