/-! ring: the walk goes round -/
section
variable {d : Nat} {E : Nat → Nat → Bool} {τ0 : Hp} {s : Nat} {Q : Option Value → Hp → Prop}
theorem M_step (hM : FxM τ0) (hO : ∀ u, u < 8 → hI τ0 75 u = nI (mk (E u) 8)) {dep c : Nat} {t : Nat → Nat} {τ : Hp} (x : Value) (hc7 : c + 1 ≤ 7) (h : Wk E τ0 s τ dep t c)
    (out : dep < 7 → ∀ (c : Nat) (t : Nat → Nat) (τ : Hp) (x : Value), Wk E τ0 s τ (dep + 1) t c → (∀ τ' x, Wk E τ0 s τ' (dep + 1) t 7 → Ev (den (WH d s t (dep + 1) x τ')) Q) → Ev (den (WH d s t (dep + 1) x τ)) Q)
    (inn : ∀ (τ : Hp) (x : Value), Wk E τ0 s τ dep t (c + 1) → Ev (den (WH d s t dep x τ)) Q) : Ev (den (WH d s t dep x τ)) Q := by
  obtain ⟨g, ⟨h1, h7⟩, ⟨hs, hc⟩, t0, pt, ht, hd, n, m, hB, hK⟩ := h
  have m2 := Qwr_M g hM
  have bl : bs t dep < 256 := bs_lt (v := 8) (fun i hi => pt.1 i (by omega))
  have ga : Qwr τ (sI τ 76 (upd (hI τ 76) dep (nI (c + 1)))) := Ag_I Ag_r rfl
  have gt := Qwr_t g ga
  have m3 := Qwr_M gt hM
  have is1 := fun (d : Nat) (σ : Hp) => M_is (d := d) (σ := σ) bl (show c + 1 < 8 by omega)
  have l8 := pt.1 (dep - 1) (by omega)
  have ml : mk (E (t (dep - 1))) 8 < 256 := mk_lt
  have ml2 : mk (E (c + 1)) 8 < 256 := mk_lt
  have is2 := fun (d : Nat) (σ : Hp) => M_is (d := d) (σ := σ) ml (show c + 1 < 8 by omega)
  have s8 : s < 8 := by omega
  have is3 := fun (d : Nat) (σ : Hp) => M_is (d := d) (σ := σ) ml2 s8
  have ov : hI τ 75 (t (dep - 1)) = nI (mk (E (t (dep - 1))) 8) := by rw [Ag_i g 75 rfl]; exact hO _ l8
  have ov2 : hI τ 75 (c + 1) = nI (mk (E (c + 1)) 8) := by rw [Ag_i g 75 rfl]; exact hO _ (by omega)
  have tp := ht (dep - 1) (by omega)
  have kr : KR (sI τ 76 (upd (hI τ 76) dep (nI (c + 1)))) n m := by
    obtain ⟨k1, k2, k3⟩ := hK
    exact ⟨k1, k2, fun i hi => by simp only [HA, Nat.reduceEqDiff, reduceIte]; exact k3 i hi⟩
  have tr : ∀ i, i < dep → hI (sI τ 76 (upd (hI τ 76) dep (nI (c + 1)))) 76 i = nI (t i) := fun i hi => by
    simp only [HA, reduceIte, ua]
    rw [if_neg (by omega)]
    exact ht i hi
  have td : hI (sI τ 76 (upd (hI τ 76) dep (nI (c + 1)))) 76 dep = nI (c + 1) := by simp only [HA, reduceIte, ua]
  have skip : (∀ n m, Cy E m n → dep < n → (∀ i, i < dep → m i = t i) → m dep ≠ c + 1) → Wk E τ0 s (sI τ 76 (upd (hI τ 76) dep (nI (c + 1)))) dep t (c + 1) := fun z => ⟨gt, ⟨h1, h7⟩, by omega, t0, pt, tr, td, n, m, Bst_X (fun n m => Sn_skip z) hB, kr⟩
  show Ev (den (d + 1, 200, 20, [.ref 57, .int (nI s), .int (nI dep), .int (nI (bs t dep)), x], [], τ)) _
  rw [a200_20]
  have cs := c_sub (show 1 ≤ dep by omega)
  have nd : ¬ dep - 1 = dep := by omega
  by_cases q1 : (bs t dep).testBit (c + 1) = true
  · refine Ev_e ?_ (inn _ (.int (nI (c + 1))) (skip (fun n m hy hn ha e => ?_)))
    · simp only [q1, reduceIte] at is1
      simp (disch := first | omega | (repeat (first | assumption | exact Ag_r | refine Ag_I ?_ rfl | refine Ag_F ?_ rfl | refine Ag_J ?_ rfl))) only [A200, FM m2, hd, ua, is1, CO, HA, HB, HC, Nat.not_lt_zero, Nat.add_assoc, c_nlt, c_nle, c_neq, c_P, c_cl, c_m1, c_m1', nI_add, pk_mul, reduceIte, Nat.reduceEqDiff, Nat.reduceAdd, Nat.reduceMul, Nat.reduceLeDiff, eq_self, ↓pk_rem, pk_div, c_of, d_le, d_nle, d_lt, d_nlt, d_eq, d_ne]
    · obtain ⟨i, i1, i2⟩ := (bs_t _).mp q1
      rw [← ha i i1, ← e] at i2
      exact hy.2.2.1.2.2.1 i dep i1 hn i2
  · simp only [q1, Bool.false_eq_true, reduceIte] at is1
    have e2 : (mk (E (t (dep - 1))) 8).testBit (c + 1) = E (t (dep - 1)) (c + 1) := by rw [mk_t, decide_eq_true (by omega), Bool.true_and]
    by_cases q2 : E (t (dep - 1)) (c + 1) = true
    · rw [q2] at e2
      simp only [e2, reduceIte] at is2
      obtain ⟨t', ec, e⟩ : ∃ t' : Nat → Nat, t' dep = c + 1 ∧ ∀ j, j < dep → t' j = t j := ⟨fun j => if j = dep then c + 1 else t j, if_pos rfl, fun j hj => if_neg (by omega)⟩
      have hp : Pt E t' (dep + 1) := by
        refine ⟨fun j hj => ?_, fun j hj h0 => ?_, fun j l hj hl => ?_, fun j hj => ?_⟩
        · by_cases z : j = dep
          · rw [z, ec]; omega
          · rw [e j (by omega)]; exact pt.1 j (by omega)
        · rw [e 0 (by omega)]
          by_cases z : j = dep
          · rw [z, ec]; omega
          · rw [e j (by omega)]; exact pt.2.1 j (by omega) h0
        · rw [e j (by omega)]
          by_cases z : l = dep
          · rw [z, ec]
            exact fun w => q1 ((bs_t _).mpr ⟨j, by omega, w⟩)
          · rw [e l (by omega)]; exact pt.2.2.1 j l hj (by omega)
        · rw [e j (by omega)]
          by_cases z : j + 1 = dep
          · rw [z, ec, show j = dep - 1 by omega]; exact q2
          · rw [e (j + 1) (by omega)]; exact pt.2.2.2 j (by omega)
      have tr' : ∀ i, i < dep + 1 → hI (sI τ 76 (upd (hI τ 76) dep (nI (c + 1)))) 76 i = nI (t' i) := fun i hi => by
        by_cases z : i = dep
        · rw [z, td, ec]
        · rw [tr i (by omega), e i (by omega)]
      have orr := (r_or _ bl (c + 1) (by omega)).1
      have bse : bs t dep ||| 2 ^ (c + 1) = bs t' (dep + 1) := by simp only [bs]; rw [bs_e e, ec]
      rw [bse] at orr
      have e3 : (mk (E (c + 1)) 8).testBit s = E (c + 1) s := by rw [mk_t, decide_eq_true s8, Bool.true_and]
      by_cases q3 : E (c + 1) s = true
      · rw [q3] at e3
        simp only [e3, reduceIte] at is3
        have cy : Cy E t' (dep + 1) := ⟨by omega, by omega, hp, by rw [Nat.add_sub_cancel, ec, e 0 (by omega), t0]; exact q3⟩
        have bb := Bst_b (E := E) (fun n m (z : Sn E s dep t c n m) => z.1) hB
        have bl1 : bs t' (dep + 1) < 256 := bs_lt (v := 8) hp.1
        simp (disch := first | omega | (repeat (first | assumption | exact Ag_r | refine Ag_I ?_ rfl | refine Ag_F ?_ rfl | refine Ag_J ?_ rfl))) only [a200_21, a200_24, a200_25, a200_28, a200_29, a200_30, a200_31, a200_32, a200_33, a200_34, a200_35, a200_38, a200_39, a200_40, a200_42, a200_44, a200_46, a200_76, a200_77, a200_79, a200_82, a200_85, a200_86, a200_89, a200_90, a200_93, a200_94, a200_95, a200_96, a200_97, a200_98, a200_100, a200_103, a200_106, a200_107, a200_108, a200_110, a200_111, a200_112, a200_113, a200_114, a200_117, a200_119, a200_120, a200_121, a200_124, a200_127, a200_128, a200_129, a200_130, a200_131, a200_132, FM m2, hd, is1, cs, ua, nd, tp, ov, is2, orr, ov2, is3, CO, HA, HB, HC, Nat.not_lt_zero, Nat.add_assoc, c_nlt, c_nle, c_neq, c_P, c_cl, c_m1, c_m1', nI_add, pk_mul, reduceIte, Nat.reduceEqDiff, Nat.reduceAdd, Nat.reduceMul, Nat.reduceLeDiff, eq_self, ↓pk_rem, pk_div, c_of, d_le, d_nle, d_lt, d_nlt, d_eq, d_ne]
        refine Ev_b (M_keep (d := d) m3 bb.1 bb.2 (by omega) bl1 kr tr') ?_
        rintro _ w ⟨rfl, gw, hw⟩
        have gw2 := Qwr_t gt (Qkr_w gw)
        refine Ev_e (o' := den (d + 1, 200, 135, [.ref 57, .int (nI s), .int (nI dep), .int (nI (bs t' (dep + 1))), .int (nI (c + 1))], [], w)) ?_ ?_
        · simp (disch := first | omega | (repeat (first | assumption | exact Ag_r | refine Ag_I ?_ rfl | refine Ag_F ?_ rfl | refine Ag_J ?_ rfl))) only [A134, CO, HA, HB, HC, Nat.not_lt_zero, Nat.add_assoc, c_nlt, c_nle, c_neq, c_P, c_cl, c_m1, c_m1', nI_add, pk_mul, reduceIte, Nat.reduceEqDiff, Nat.reduceAdd, Nat.reduceMul, Nat.reduceLeDiff, eq_self, ↓pk_rem, pk_div, c_of, d_le, d_nle, d_lt, d_nlt, d_eq, d_ne]
        have tw : ∀ i, i < dep + 1 → hI w 76 i = nI (t' i) := fun i hi => by rw [Ag_i gw 76 rfl]; exact tr' i hi
        rcases hw with ⟨w1, w2⟩ | ⟨w1, w2⟩
        · exact M_135 hM hO h1 h7 hs hc7 t0 e ec hp gw2 tw (Bst_new (fun n' m' z => z.1.1) cy hB w1) w2 out inn
        · exact M_135 hM hO h1 h7 hs hc7 t0 e ec hp gw2 tw (Bst_old (fun n' m' z z1 z2 => Sn_lex hp t0 h1 e ec z z1 z2) hB w1) w2 out inn
      · have e3' : (mk (E (c + 1)) 8).testBit s = false := by rw [e3]; exact Bool.eq_false_iff.mpr q3
        simp only [e3', Bool.false_eq_true, reduceIte] at is3
        refine Ev_e (o' := den (d + 1, 200, 135, [.ref 57, .int (nI s), .int (nI dep), .int (nI (bs t' (dep + 1))), .int (nI (c + 1))], [], sI τ 76 (upd (hI τ 76) dep (nI (c + 1))))) ?_ ?_
        · simp (disch := first | omega | (repeat (first | assumption | exact Ag_r | refine Ag_I ?_ rfl | refine Ag_F ?_ rfl | refine Ag_J ?_ rfl))) only [a200_21, a200_24, a200_25, a200_28, a200_29, a200_30, a200_31, a200_32, a200_33, a200_34, a200_35, a200_38, a200_39, a200_40, a200_42, a200_44, a200_46, a200_76, a200_77, a200_79, a200_82, a200_85, a200_86, a200_89, a200_90, a200_93, a200_94, a200_95, a200_96, a200_97, a200_98, a200_100, a200_103, a200_106, a200_107, a200_108, a200_110, a200_111, a200_112, a200_113, a200_114, a200_117, a200_119, a200_120, a200_121, a200_124, FM m2, hd, is1, cs, ua, nd, tp, ov, is2, orr, ov2, is3, CO, HA, HB, HC, Nat.not_lt_zero, Nat.add_assoc, c_nlt, c_nle, c_neq, c_P, c_cl, c_m1, c_m1', nI_add, pk_mul, reduceIte, Nat.reduceEqDiff, Nat.reduceAdd, Nat.reduceMul, Nat.reduceLeDiff, eq_self, ↓pk_rem, pk_div, c_of, d_le, d_nle, d_lt, d_nlt, d_eq, d_ne]
        · refine M_135 hM hO h1 h7 hs hc7 t0 e ec hp gt tr' (Bst_X (fun n m => ⟨Or.inl, fun z => ?_⟩) hB) kr out inn
          rcases z with z | ⟨z1, rfl, z3⟩
          · exact z
          · have := z1.2.2.2
            rw [Nat.add_sub_cancel, z3 dep (by omega), z3 0 (by omega), ec, e 0 (by omega), t0] at this
            exact absurd this q3
    · have e2' : (mk (E (t (dep - 1))) 8).testBit (c + 1) = false := by rw [e2]; exact Bool.eq_false_iff.mpr q2
      simp only [e2', Bool.false_eq_true, reduceIte] at is2
      refine Ev_e ?_ (inn _ (.int (nI (c + 1))) (skip (fun n m hy hn ha e => ?_)))
      · simp (disch := first | omega | (repeat (first | assumption | exact Ag_r | refine Ag_I ?_ rfl | refine Ag_F ?_ rfl | refine Ag_J ?_ rfl))) only [A200, FM m2, hd, ua, is1, cs, nd, tp, ov, is2, CO, HA, HB, HC, Nat.not_lt_zero, Nat.add_assoc, c_nlt, c_nle, c_neq, c_P, c_cl, c_m1, c_m1', nI_add, pk_mul, reduceIte, Nat.reduceEqDiff, Nat.reduceAdd, Nat.reduceMul, Nat.reduceLeDiff, eq_self, ↓pk_rem, pk_div, c_of, d_le, d_nle, d_lt, d_nlt, d_eq, d_ne]
      · have := hy.2.2.1.2.2.2 (dep - 1) (by omega)
        rw [show dep - 1 + 1 = dep by omega, e, ha (dep - 1) (by omega)] at this
        exact q2 this
theorem M_walk (hM : FxM τ0) (hO : ∀ u, u < 8 → hI τ0 75 u = nI (mk (E u) 8)) : ∀ (k dep : Nat), dep + k = 7 → ∀ (j c : Nat), c + j = 7 → ∀ (t : Nat → Nat) (τ : Hp) (x : Value), Wk E τ0 s τ dep t c → (∀ τ' x, Wk E τ0 s τ' dep t 7 → Ev (den (WH d s t dep x τ')) Q) → Ev (den (WH d s t dep x τ)) Q := by
  intro k
  induction k with
  | zero =>
    intro dep hk j
    induction j with
    | zero =>
      intro c hj t τ x h nx
      obtain rfl : c = 7 := by omega
      exact nx τ x h
    | succ j ihj =>
      intro c hj t τ x h nx
      exact M_step hM hO x (by omega) h (fun q => absurd q (by omega)) (fun τ x w => ihj (c + 1) (by omega) t τ x w nx)
  | succ k ih =>
    intro dep hk j
    induction j with
    | zero =>
      intro c hj t τ x h nx
      obtain rfl : c = 7 := by omega
      exact nx τ x h
    | succ j ihj =>
      intro c hj t τ x h nx
      exact M_step hM hO x (by omega) h (fun q c t τ x w nx => ih (dep + 1) (by omega) (7 - c) c (by have := w.2.2.1.2; omega) t τ x w nx) (fun τ x w => ihj (c + 1) (by omega) t τ x w nx)
theorem M_goRound {τ : Hp} (hM : FxM τ) (hO : ∀ u, u < 8 → hI τ 75 u = nI (mk (E u) 8)) (hs : s < 8) {n : Nat} {m : Nat → Nat} (hB : Bst (fun n m => Cy E m n ∧ m 0 < s) n m) (hK : KR τ n m) : Ev (den (d + 1, 200, 0, [.ref 57, .int (nI s), .float 0, .float 0, .float 0], [], τ)) (fun a υ => a = none ∧ Qwr τ υ ∧ ∃ n m, Bst (fun n m => Cy E m n ∧ m 0 < s + 1) n m ∧ KR υ n m) := by
  have ga : Qwr τ (sI τ 76 (upd (upd (hI τ 76) 0 (nI s)) 1 (nI s))) := Ag_I Ag_r rfl
  have b1 := (bt9 s (by omega)).1
  have be : bs (fun _ => s) 1 = 2 ^ s := by simp only [bs, Nat.zero_or]
  refine Ev_e (o' := den (WH d s (fun _ => s) 1 (.float 0) (sI τ 76 (upd (upd (hI τ 76) 0 (nI s)) 1 (nI s))))) ?_ ?_
  · simp (disch := first | omega | (repeat (first | assumption | exact Ag_r | refine Ag_I ?_ rfl | refine Ag_F ?_ rfl | refine Ag_J ?_ rfl))) only [A200, FM hM, b1, WH, be, CO, HA, HB, HC, Nat.not_lt_zero, Nat.add_assoc, c_nlt, c_nle, c_neq, c_P, c_cl, c_m1, c_m1', nI_add, pk_mul, reduceIte, Nat.reduceEqDiff, Nat.reduceAdd, Nat.reduceMul, Nat.reduceLeDiff, eq_self, ↓pk_rem, pk_div, c_of, d_le, d_nle, d_lt, d_nlt, d_eq, d_ne]
  · refine M_walk hM hO 6 1 rfl (7 - s) s (by omega) (fun _ => s) _ _ ⟨ga, by omega, by omega, rfl, ⟨fun j hj => hs, fun j hj h0 => absurd hj (by omega), fun j l h1 h2 => absurd h1 (by omega), fun j hj => absurd hj (by omega)⟩, fun i hi => ?_, ?_, n, m, ?_, ?_⟩ ?_
    · obtain rfl : i = 0 := by omega
      simp only [HA, reduceIte, ua, Nat.reduceEqDiff]
    · simp only [HA, reduceIte, ua]
    · refine Bst_X (fun n m => ?_) hB
      constructor
      · rintro ⟨h1, h2⟩; exact ⟨h1, Or.inl h2⟩
      · rintro ⟨h1, h2⟩
        refine ⟨h1, ?_⟩
        have := h1.1
        rcases h2 with h2 | ⟨h0, ⟨j, j1, j2, j3, j4, j5⟩ | ⟨a1, a2⟩ | ⟨a1, a2, a3⟩⟩
        · exact h2
        · omega
        · omega
        · have := h1.2.2.1.2.1 1 (by omega) (by omega)
          omega
    · obtain ⟨k1, k2, k3⟩ := hK
      exact ⟨k1, k2, fun i hi => by simp only [HA, Nat.reduceEqDiff, reduceIte]; exact k3 i hi⟩
    · rintro τ' x ⟨w1, w2, w3, w4, w5, w6, w7, n', m', w8, w9⟩
      have m3 := Qwr_M w1 hM
      have gb : Qwr τ' (sI τ' 76 (upd (hI τ' 76) 1 (nI 8))) := Ag_I Ag_r rfl
      show Ev (den (d + 1, 200, 20, [.ref 57, .int (nI s), .int (nI 1), .int (nI (bs (fun _ => s) 1)), x], [], τ')) _
      rw [a200_20]
      refine Ev_e (o' := den (d + 1, 200, 20, [.ref 57, .int (nI s), .int (nI 0), .int (nI (bs (fun _ => s) 1)), .int (nI 8)], [], sI τ' 76 (upd (hI τ' 76) 1 (nI 8)))) ?_ ?_
      · simp (disch := first | omega | (repeat (first | assumption | exact Ag_r | refine Ag_I ?_ rfl | refine Ag_F ?_ rfl | refine Ag_J ?_ rfl))) only [A200, FM m3, w7, ua, show nI 1 + (-1 : Int32) = nI 0 from by decide, CO, HA, HB, HC, Nat.not_lt_zero, Nat.add_assoc, c_nlt, c_nle, c_neq, c_P, c_cl, c_m1, c_m1', nI_add, pk_mul, reduceIte, Nat.reduceEqDiff, Nat.reduceAdd, Nat.reduceMul, Nat.reduceLeDiff, eq_self, ↓pk_rem, pk_div, c_of, d_le, d_nle, d_lt, d_nlt, d_eq, d_ne]
      · rw [a200_20]
        simp (disch := first | omega | (repeat (first | assumption | exact Ag_r | refine Ag_I ?_ rfl | refine Ag_F ?_ rfl | refine Ag_J ?_ rfl))) only [A200, CO, HA, HB, HC, Nat.not_lt_zero, Nat.add_assoc, c_nlt, c_nle, c_neq, c_P, c_cl, c_m1, c_m1', nI_add, pk_mul, reduceIte, Nat.reduceEqDiff, Nat.reduceAdd, Nat.reduceMul, Nat.reduceLeDiff, eq_self, ↓pk_rem, pk_div, c_of, d_le, d_nle, d_lt, d_nlt, d_eq, d_ne]
        refine Ev_s ⟨rfl, Qwr_t w1 gb, n', m', Bst_X (fun n m => ?_) w8, ?_⟩
        · constructor
          · rintro ⟨h1, h2⟩
            refine ⟨h1, ?_⟩
            rcases h2 with h2 | ⟨h0, _⟩ <;> omega
          · rintro ⟨h1, h2⟩
            have := h1.1
            refine ⟨h1, ?_⟩
            by_cases q : m 0 < s
            · exact Or.inl q
            · refine Or.inr ⟨by omega, Or.inr (Or.inr ⟨by omega, fun i hi => ?_, ?_⟩)⟩
              · obtain rfl : i = 0 := by omega
                show m 0 = s
                omega
              · have := h1.2.2.1.1 1 (by omega); omega
        · obtain ⟨k1, k2, k3⟩ := w9
          exact ⟨k1, k2, fun i hi => by simp only [HA, Nat.reduceEqDiff, reduceIte]; exact k3 i hi⟩
end
