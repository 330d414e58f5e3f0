/-! a state becomes another one -/
theorem FxC_f {σ τ : Hp} (hk : kd τ = kd σ) (hl : hL τ = hL σ) (hr : hR τ 12 = hR σ 12) (hf : ∀ p, p ∈ rfC → hF τ p.1 p.2 = hF σ p.1 p.2) (h : FxC σ) : FxC τ := by
  unfold FxC at h ⊢
  simp only [hk, hl, hr, hf (0, 0) (by decide), hf (0, 1) (by decide), hf (0, 2) (by decide), hf (0, 3) (by decide), hf (0, 4) (by decide), hf (0, 5) (by decide), hf (0, 6) (by decide), hf (0, 7) (by decide), hf (0, 8) (by decide), hf (0, 9) (by decide), hf (0, 10) (by decide), hf (1, 4) (by decide), hf (1, 5) (by decide), hf (1, 6) (by decide), hf (1, 7) (by decide), hf (1, 8) (by decide), hf (5, 0) (by decide), hf (5, 1) (by decide), hf (8, 0) (by decide), hf (8, 1) (by decide), hf (8, 2) (by decide), hf (14, 0) (by decide), hf (14, 1) (by decide), hf (16, 0) (by decide), hf (18, 0) (by decide), hf (18, 1) (by decide), hf (21, 0) (by decide), hf (23, 0) (by decide), hf (23, 1) (by decide), hf (23, 4) (by decide), hf (23, 5) (by decide), hf (28, 0) (by decide), hf (28, 2) (by decide), hf (31, 0) (by decide), hf (31, 1) (by decide), hf (35, 4) (by decide), hf (35, 5) (by decide), hf (35, 6) (by decide), hf (35, 7) (by decide), hf (35, 8) (by decide), hf (39, 0) (by decide), hf (39, 1) (by decide), hf (42, 0) (by decide), hf (42, 1) (by decide), hf (42, 2) (by decide), hf (46, 4) (by decide), hf (46, 5) (by decide), hf (46, 6) (by decide), hf (46, 7) (by decide), hf (46, 8) (by decide), hf (50, 0) (by decide), hf (50, 1) (by decide), hf (53, 0) (by decide), hf (53, 1) (by decide), hf (53, 2) (by decide)]
  exact h
def tyL (σ : Hp) (a : Nat) : Prop := ∀ i, i < 6 → hR σ a i = none ∨ ∃ ℓ, hR σ a i = some ℓ ∧ 85 ≤ ℓ ∧ kd σ ℓ = 5
/-- all but the cells of the state at b is as it was, and who points where -/
def Bf (b : Nat) (σ υ : Hp) : Prop := (hN υ = hN σ ∧ hS υ = hS σ ∧ hX υ = hX σ) ∧ (kd υ = kd σ ∧ hL υ = hL σ ∧ hJ υ = hJ σ) ∧ (∀ k, ¬ (b ≤ k ∧ k ≤ b + 10) → hI υ k = hI σ k ∧ hR υ k = hR σ k ∧ ∀ j, hF υ k j = hF σ k j) ∧ ∀ p, p ∈ rfC → hF υ p.1 p.2 = hF σ p.1 p.2
theorem sR_sR {σ : Hp} {k : Nat} {f f' : Nat → Option Nat} : sR (sR σ k f) k f' = sR σ k f' := by
  unfold sR; simp only [Prod.mk.injEq, true_and]; funext z; dsimp only [hR]; split <;> rfl
theorem va_u {f : Nat → Option Nat} {i j : Nat} {x : Option Nat} : va_up f i x j = if j = i then x else f j := rfl
section
variable {d : Nat} {σ : Hp} {S : StT}
set_option maxHeartbeats 4000000 in
theorem C_bec_35_1 (hC : FxC σ) (hS : SC σ 1 S) (hw : WS S) (hl : tyL σ 4) : Ev (den (d + 2, 71, 0, [.ref 35, .ref 1, .float 0], [], σ)) (fun r υ => r = none ∧ Bf 35 σ υ ∧ SC υ 35 S ∧ tyL υ 38) := by
  obtain ⟨v, H, fp, nl, fc, rn, ⟨nd, dv, dd, de⟩, ⟨nu, uc, uh⟩, lw⟩ := S
  simp only [SC, Nat.reduceAdd] at hS
  obtain ⟨⟨a1, a2⟩, ⟨a3, a4, a5⟩, a6, ⟨a7, a8⟩, ⟨tq, b1, b2, b3, b4⟩, a9⟩ := hS
  obtain ⟨w1, w2, w3, w5, w6, w7⟩ := hw
  have n10 := w6.1
  have key := lp (α := Nat → Option Nat) (h := fun i f => (d + 2, 71, 65, [.ref 35, .ref 1, .int (nI i)], [], sF (sF (sF (sF (sI (sI (sR σ 38 f) 36 (va_cpy (hI σ 2) (hI σ 36) 0 0 224)) 37 (va_cpy (hI σ 3) (hI σ 37) 0 0 28)) 35 0 (.int (nI v))) 35 1 (.int (nI fp))) 35 2 (.int (nI nl))) 35 3 (.int (ofo fc)))) (I := fun i f => ∀ j, j < i → f j = hR σ 4 j) (Q := fun r υ => ∃ f, r = none ∧ υ = sF (sF (sF (sF (sF (sF (sF (sI (sI (sI (sI (sI (sI (sI (sR σ 38 f) 36 (va_cpy (hI σ 2) (hI σ 36) 0 0 224)) 37 (va_cpy (hI σ 3) (hI σ 37) 0 0 28)) 40 (va_cpy (hI σ 6) (hI σ 40) 0 0 32)) 41 (va_cpy (hI σ 7) (hI σ 41) 0 0 32)) 43 (va_cpy (hI σ 9) (hI σ 43) 0 0 10)) 44 (va_cpy (hI σ 10) (hI σ 44) 0 0 10)) 45 (va_cpy (hI σ 11) (hI σ 45) 0 0 10)) 35 0 (.int (nI v))) 35 1 (.int (nI fp))) 35 2 (.int (nI nl))) 35 3 (.int (ofo fc))) 39 2 (.int (nI tq))) 39 3 (.int (nI nu))) 42 3 (.int (nI nd)) ∧ ∀ j, j < 6 → f j = hR σ 4 j) 6 ?_ ?_ 0 (hR σ 38) (Nat.zero_le _) (fun j hj => absurd hj (Nat.not_lt_zero j))
  · obtain ⟨r, υ, e, f, rfl, rfl, hf⟩ := key
    refine Ev_e (o' := _) ?_ (Ev_s (v := none) (τ := sF (sF (sF (sF (sF (sF (sF (sI (sI (sI (sI (sI (sI (sI (sR σ 38 f) 36 (va_cpy (hI σ 2) (hI σ 36) 0 0 224)) 37 (va_cpy (hI σ 3) (hI σ 37) 0 0 28)) 40 (va_cpy (hI σ 6) (hI σ 40) 0 0 32)) 41 (va_cpy (hI σ 7) (hI σ 41) 0 0 32)) 43 (va_cpy (hI σ 9) (hI σ 43) 0 0 10)) 44 (va_cpy (hI σ 10) (hI σ 44) 0 0 10)) 45 (va_cpy (hI σ 11) (hI σ 45) 0 0 10)) 35 0 (.int (nI v))) 35 1 (.int (nI fp))) 35 2 (.int (nI nl))) 35 3 (.int (ofo fc))) 39 2 (.int (nI tq))) 39 3 (.int (nI nu))) 42 3 (.int (nI nd))) ⟨rfl, ⟨⟨by simp only [HB], by simp only [HB], by simp only [HB]⟩, ⟨funext fun k => by simp only [HB], funext fun k => by simp only [HB], funext fun k => by simp only [HA]⟩, ?_, ?_⟩, ?_, ?_⟩)
    · rw [← e]
      have sr : sR σ 38 (hR σ 38) = σ := by
        unfold sR
        have : (fun k' => if k' = 38 then hR σ 38 else hR σ k') = hR σ := by funext z; split <;> simp_all
        rw [this]; rfl
      rw [sr]
      simp (disch := first | omega | (repeat (first | assumption | exact Ag_r | refine Ag_I ?_ rfl | refine Ag_F ?_ rfl | refine Ag_J ?_ rfl))) only [A71, FC hC, a1, a3, a4, a5, c_n0, CO, HA, HB, HC, Nat.not_lt_zero, Nat.add_assoc, c_nlt, c_nle, c_neq, c_P, c_cl, c_m1, c_m1', nI_add, pk_mul, reduceIte, Nat.reduceEqDiff, Nat.reduceAdd, Nat.reduceMul, Nat.reduceLeDiff, eq_self, ↓pk_rem, pk_div, c_of, d_le, d_nle, d_lt, d_nlt, d_eq, d_ne]
    · intro k hk
      refine ⟨?_, ?_, fun j => ?_⟩
      · simp only [HA]
        iterate 7 rw [if_neg (by omega)]
      · simp only [HA]
        rw [if_neg (by omega)]
      · simp only [HA]
        iterate 7 rw [if_neg (by omega)]
    · intro p hp
      simp only [HA]
      have q := (show ∀ p, p ∈ rfC → ¬ (p.1 = 35 ∧ p.2 = 0) ∧ ¬ (p.1 = 35 ∧ p.2 = 1) ∧ ¬ (p.1 = 35 ∧ p.2 = 2) ∧ ¬ (p.1 = 35 ∧ p.2 = 3) ∧ ¬ (p.1 = 39 ∧ p.2 = 2) ∧ ¬ (p.1 = 39 ∧ p.2 = 3) ∧ ¬ (p.1 = 42 ∧ p.2 = 3) by decide) p hp
      rw [if_neg q.2.2.2.2.2.2, if_neg q.2.2.2.2.2.1, if_neg q.2.2.2.2.1, if_neg q.2.2.2.1, if_neg q.2.2.1, if_neg q.2.1, if_neg q.1]
    · simp only [SC, Nat.reduceAdd]
      refine ⟨⟨?_, fun c hc => ?_⟩, ⟨?_, ?_, ?_⟩, fun e he => ?_, ⟨?_, fun k hk => ?_⟩, ⟨tq, b1, ?_, ?_, fun i hi => ?_⟩, fun i hi => ?_⟩
      · simp only [HA, Nat.reduceEqDiff, false_and, and_false, and_self, reduceIte]
      · simp only [HA, Nat.reduceEqDiff, reduceIte]; rw [cpy_at hc]; exact a2 c hc
      · simp only [HA, Nat.reduceEqDiff, false_and, and_false, and_self, reduceIte]
      · simp only [HA, Nat.reduceEqDiff, false_and, and_false, and_self, reduceIte]
      · simp only [HA, Nat.reduceEqDiff, false_and, and_false, and_self, reduceIte]
      · simp only [HA, Nat.reduceEqDiff, reduceIte]; rw [cpy_at he]; exact a6 e he
      · simp only [HA, and_self, reduceIte]
      · simp only [HA, Nat.reduceEqDiff, reduceIte]; rw [cpy_at (by omega), cpy_at (by omega), cpy_at (by omega)]; exact a8 k hk
      · simp only [HA, Nat.reduceEqDiff, false_and, and_false, and_self, reduceIte]
      · simp only [HA, Nat.reduceEqDiff, false_and, and_false, and_self, reduceIte]
      · simp only [HA, Nat.reduceEqDiff, reduceIte]
        rw [cpy_at (Nat.mod_lt _ (by omega)), cpy_at (Nat.mod_lt _ (by omega))]
        exact b4 i hi
      · obtain ⟨ℓ, c, ⟨r1, r2, r3, r4⟩, ⟨c1, c2, c3⟩, lww⟩ := a9 i hi
        refine ⟨ℓ, c, ⟨?_, r2, by simp only [HB]; exact r3, ?_⟩, ⟨c1, by simp only [HB]; exact c2, by simp only [HB]; exact c3⟩, ?_⟩
        · simp only [HA, reduceIte]; rw [hf i (by have := w3.1; omega)]; exact r1
        · simp only [HA]
          iterate 7 rw [if_neg (by omega)]
          exact r4
        · have ne : ∀ x, x < 85 → ¬ c = x := fun x hx => Nat.ne_of_gt (Nat.lt_of_lt_of_le hx c1)
          simp only [HA, HB]
          iterate 7 rw [if_neg (ne _ (by decide))]
          exact lww
    · intro i hi
      simp only [HA, HB, reduceIte]
      rw [hf i hi]
      exact hl i hi
  · intro i f hi hf nx
    have nn := nx (va_up f i (hR σ 4 i)) (fun j hj => by
      rw [va_u]
      by_cases q : j = i
      · rw [if_pos q, q]
      · rw [if_neg q]; exact hf j (by omega))
    refine Ev_e ?_ nn
    show den (d + 2, 71, 65, [.ref 35, .ref 1, .int (nI i)], [], sF (sF (sF (sF (sI (sI (sR σ 38 f) 36 (va_cpy (hI σ 2) (hI σ 36) 0 0 224)) 37 (va_cpy (hI σ 3) (hI σ 37) 0 0 28)) 35 0 (.int (nI v))) 35 1 (.int (nI fp))) 35 2 (.int (nI nl))) 35 3 (.int (ofo fc))) = _
    rw [a71_65]
    rcases hl i hi with h0 | ⟨ℓ, h1, h2, h3⟩
    · rw [h0]
      simp (disch := first | omega | (repeat (first | assumption | exact Ag_r | refine Ag_I ?_ rfl | refine Ag_F ?_ rfl | refine Ag_J ?_ rfl))) only [A71, FC hC, h0, mxQ, sR_sR, CO, HA, HB, HC, Nat.not_lt_zero, Nat.add_assoc, c_nlt, c_nle, c_neq, c_P, c_cl, c_m1, c_m1', nI_add, pk_mul, reduceIte, Nat.reduceEqDiff, Nat.reduceAdd, Nat.reduceMul, Nat.reduceLeDiff, eq_self, ↓pk_rem, pk_div, c_of, d_le, d_nle, d_lt, d_nlt, d_eq, d_ne]
    · rw [h1]
      simp (disch := first | omega | (repeat (first | assumption | exact Ag_r | refine Ag_I ?_ rfl | refine Ag_F ?_ rfl | refine Ag_J ?_ rfl))) only [A71, FC hC, h1, mxQ, h3, sR_sR, CO, HA, HB, HC, Nat.not_lt_zero, Nat.add_assoc, c_nlt, c_nle, c_neq, c_P, c_cl, c_m1, c_m1', nI_add, pk_mul, reduceIte, Nat.reduceEqDiff, Nat.reduceAdd, Nat.reduceMul, Nat.reduceLeDiff, eq_self, ↓pk_rem, pk_div, c_of, d_le, d_nle, d_lt, d_nlt, d_eq, d_ne]
  · intro f hf
    show Ev (den (d + 2, 71, 65, [.ref 35, .ref 1, .int (nI 6)], [], sF (sF (sF (sF (sI (sI (sR σ 38 f) 36 (va_cpy (hI σ 2) (hI σ 36) 0 0 224)) 37 (va_cpy (hI σ 3) (hI σ 37) 0 0 28)) 35 0 (.int (nI v))) 35 1 (.int (nI fp))) 35 2 (.int (nI nl))) 35 3 (.int (ofo fc)))) _
    rw [a71_65]
    simp (disch := first | omega | (repeat (first | assumption | exact Ag_r | refine Ag_I ?_ rfl | refine Ag_F ?_ rfl | refine Ag_J ?_ rfl))) only [A71, A43, A15, FC hC, b2, b3, a7, c_n0, CO, HA, HB, HC, Nat.not_lt_zero, Nat.add_assoc, c_nlt, c_nle, c_neq, c_P, c_cl, c_m1, c_m1', nI_add, pk_mul, reduceIte, Nat.reduceEqDiff, Nat.reduceAdd, Nat.reduceMul, Nat.reduceLeDiff, eq_self, ↓pk_rem, pk_div, c_of, d_le, d_nle, d_lt, d_nlt, d_eq, d_ne]
    exact Ev_s ⟨f, rfl, rfl, hf⟩
set_option maxHeartbeats 4000000 in
theorem C_bec_46_1 (hC : FxC σ) (hS : SC σ 1 S) (hw : WS S) (hl : tyL σ 4) : Ev (den (d + 2, 71, 0, [.ref 46, .ref 1, .float 0], [], σ)) (fun r υ => r = none ∧ Bf 46 σ υ ∧ SC υ 46 S ∧ tyL υ 49) := by
  obtain ⟨v, H, fp, nl, fc, rn, ⟨nd, dv, dd, de⟩, ⟨nu, uc, uh⟩, lw⟩ := S
  simp only [SC, Nat.reduceAdd] at hS
  obtain ⟨⟨a1, a2⟩, ⟨a3, a4, a5⟩, a6, ⟨a7, a8⟩, ⟨tq, b1, b2, b3, b4⟩, a9⟩ := hS
  obtain ⟨w1, w2, w3, w5, w6, w7⟩ := hw
  have n10 := w6.1
  have key := lp (α := Nat → Option Nat) (h := fun i f => (d + 2, 71, 65, [.ref 46, .ref 1, .int (nI i)], [], sF (sF (sF (sF (sI (sI (sR σ 49 f) 47 (va_cpy (hI σ 2) (hI σ 47) 0 0 224)) 48 (va_cpy (hI σ 3) (hI σ 48) 0 0 28)) 46 0 (.int (nI v))) 46 1 (.int (nI fp))) 46 2 (.int (nI nl))) 46 3 (.int (ofo fc)))) (I := fun i f => ∀ j, j < i → f j = hR σ 4 j) (Q := fun r υ => ∃ f, r = none ∧ υ = sF (sF (sF (sF (sF (sF (sF (sI (sI (sI (sI (sI (sI (sI (sR σ 49 f) 47 (va_cpy (hI σ 2) (hI σ 47) 0 0 224)) 48 (va_cpy (hI σ 3) (hI σ 48) 0 0 28)) 51 (va_cpy (hI σ 6) (hI σ 51) 0 0 32)) 52 (va_cpy (hI σ 7) (hI σ 52) 0 0 32)) 54 (va_cpy (hI σ 9) (hI σ 54) 0 0 10)) 55 (va_cpy (hI σ 10) (hI σ 55) 0 0 10)) 56 (va_cpy (hI σ 11) (hI σ 56) 0 0 10)) 46 0 (.int (nI v))) 46 1 (.int (nI fp))) 46 2 (.int (nI nl))) 46 3 (.int (ofo fc))) 50 2 (.int (nI tq))) 50 3 (.int (nI nu))) 53 3 (.int (nI nd)) ∧ ∀ j, j < 6 → f j = hR σ 4 j) 6 ?_ ?_ 0 (hR σ 49) (Nat.zero_le _) (fun j hj => absurd hj (Nat.not_lt_zero j))
  · obtain ⟨r, υ, e, f, rfl, rfl, hf⟩ := key
    refine Ev_e (o' := _) ?_ (Ev_s (v := none) (τ := sF (sF (sF (sF (sF (sF (sF (sI (sI (sI (sI (sI (sI (sI (sR σ 49 f) 47 (va_cpy (hI σ 2) (hI σ 47) 0 0 224)) 48 (va_cpy (hI σ 3) (hI σ 48) 0 0 28)) 51 (va_cpy (hI σ 6) (hI σ 51) 0 0 32)) 52 (va_cpy (hI σ 7) (hI σ 52) 0 0 32)) 54 (va_cpy (hI σ 9) (hI σ 54) 0 0 10)) 55 (va_cpy (hI σ 10) (hI σ 55) 0 0 10)) 56 (va_cpy (hI σ 11) (hI σ 56) 0 0 10)) 46 0 (.int (nI v))) 46 1 (.int (nI fp))) 46 2 (.int (nI nl))) 46 3 (.int (ofo fc))) 50 2 (.int (nI tq))) 50 3 (.int (nI nu))) 53 3 (.int (nI nd))) ⟨rfl, ⟨⟨by simp only [HB], by simp only [HB], by simp only [HB]⟩, ⟨funext fun k => by simp only [HB], funext fun k => by simp only [HB], funext fun k => by simp only [HA]⟩, ?_, ?_⟩, ?_, ?_⟩)
    · rw [← e]
      have sr : sR σ 49 (hR σ 49) = σ := by
        unfold sR
        have : (fun k' => if k' = 49 then hR σ 49 else hR σ k') = hR σ := by funext z; split <;> simp_all
        rw [this]; rfl
      rw [sr]
      simp (disch := first | omega | (repeat (first | assumption | exact Ag_r | refine Ag_I ?_ rfl | refine Ag_F ?_ rfl | refine Ag_J ?_ rfl))) only [A71, FC hC, a1, a3, a4, a5, c_n0, CO, HA, HB, HC, Nat.not_lt_zero, Nat.add_assoc, c_nlt, c_nle, c_neq, c_P, c_cl, c_m1, c_m1', nI_add, pk_mul, reduceIte, Nat.reduceEqDiff, Nat.reduceAdd, Nat.reduceMul, Nat.reduceLeDiff, eq_self, ↓pk_rem, pk_div, c_of, d_le, d_nle, d_lt, d_nlt, d_eq, d_ne]
    · intro k hk
      refine ⟨?_, ?_, fun j => ?_⟩
      · simp only [HA]
        iterate 7 rw [if_neg (by omega)]
      · simp only [HA]
        rw [if_neg (by omega)]
      · simp only [HA]
        iterate 7 rw [if_neg (by omega)]
    · intro p hp
      simp only [HA]
      have q := (show ∀ p, p ∈ rfC → ¬ (p.1 = 46 ∧ p.2 = 0) ∧ ¬ (p.1 = 46 ∧ p.2 = 1) ∧ ¬ (p.1 = 46 ∧ p.2 = 2) ∧ ¬ (p.1 = 46 ∧ p.2 = 3) ∧ ¬ (p.1 = 50 ∧ p.2 = 2) ∧ ¬ (p.1 = 50 ∧ p.2 = 3) ∧ ¬ (p.1 = 53 ∧ p.2 = 3) by decide) p hp
      rw [if_neg q.2.2.2.2.2.2, if_neg q.2.2.2.2.2.1, if_neg q.2.2.2.2.1, if_neg q.2.2.2.1, if_neg q.2.2.1, if_neg q.2.1, if_neg q.1]
    · simp only [SC, Nat.reduceAdd]
      refine ⟨⟨?_, fun c hc => ?_⟩, ⟨?_, ?_, ?_⟩, fun e he => ?_, ⟨?_, fun k hk => ?_⟩, ⟨tq, b1, ?_, ?_, fun i hi => ?_⟩, fun i hi => ?_⟩
      · simp only [HA, Nat.reduceEqDiff, false_and, and_false, and_self, reduceIte]
      · simp only [HA, Nat.reduceEqDiff, reduceIte]; rw [cpy_at hc]; exact a2 c hc
      · simp only [HA, Nat.reduceEqDiff, false_and, and_false, and_self, reduceIte]
      · simp only [HA, Nat.reduceEqDiff, false_and, and_false, and_self, reduceIte]
      · simp only [HA, Nat.reduceEqDiff, false_and, and_false, and_self, reduceIte]
      · simp only [HA, Nat.reduceEqDiff, reduceIte]; rw [cpy_at he]; exact a6 e he
      · simp only [HA, and_self, reduceIte]
      · simp only [HA, Nat.reduceEqDiff, reduceIte]; rw [cpy_at (by omega), cpy_at (by omega), cpy_at (by omega)]; exact a8 k hk
      · simp only [HA, Nat.reduceEqDiff, false_and, and_false, and_self, reduceIte]
      · simp only [HA, Nat.reduceEqDiff, false_and, and_false, and_self, reduceIte]
      · simp only [HA, Nat.reduceEqDiff, reduceIte]
        rw [cpy_at (Nat.mod_lt _ (by omega)), cpy_at (Nat.mod_lt _ (by omega))]
        exact b4 i hi
      · obtain ⟨ℓ, c, ⟨r1, r2, r3, r4⟩, ⟨c1, c2, c3⟩, lww⟩ := a9 i hi
        refine ⟨ℓ, c, ⟨?_, r2, by simp only [HB]; exact r3, ?_⟩, ⟨c1, by simp only [HB]; exact c2, by simp only [HB]; exact c3⟩, ?_⟩
        · simp only [HA, reduceIte]; rw [hf i (by have := w3.1; omega)]; exact r1
        · simp only [HA]
          iterate 7 rw [if_neg (by omega)]
          exact r4
        · have ne : ∀ x, x < 85 → ¬ c = x := fun x hx => Nat.ne_of_gt (Nat.lt_of_lt_of_le hx c1)
          simp only [HA, HB]
          iterate 7 rw [if_neg (ne _ (by decide))]
          exact lww
    · intro i hi
      simp only [HA, HB, reduceIte]
      rw [hf i hi]
      exact hl i hi
  · intro i f hi hf nx
    have nn := nx (va_up f i (hR σ 4 i)) (fun j hj => by
      rw [va_u]
      by_cases q : j = i
      · rw [if_pos q, q]
      · rw [if_neg q]; exact hf j (by omega))
    refine Ev_e ?_ nn
    show den (d + 2, 71, 65, [.ref 46, .ref 1, .int (nI i)], [], sF (sF (sF (sF (sI (sI (sR σ 49 f) 47 (va_cpy (hI σ 2) (hI σ 47) 0 0 224)) 48 (va_cpy (hI σ 3) (hI σ 48) 0 0 28)) 46 0 (.int (nI v))) 46 1 (.int (nI fp))) 46 2 (.int (nI nl))) 46 3 (.int (ofo fc))) = _
    rw [a71_65]
    rcases hl i hi with h0 | ⟨ℓ, h1, h2, h3⟩
    · rw [h0]
      simp (disch := first | omega | (repeat (first | assumption | exact Ag_r | refine Ag_I ?_ rfl | refine Ag_F ?_ rfl | refine Ag_J ?_ rfl))) only [A71, FC hC, h0, mxQ, sR_sR, CO, HA, HB, HC, Nat.not_lt_zero, Nat.add_assoc, c_nlt, c_nle, c_neq, c_P, c_cl, c_m1, c_m1', nI_add, pk_mul, reduceIte, Nat.reduceEqDiff, Nat.reduceAdd, Nat.reduceMul, Nat.reduceLeDiff, eq_self, ↓pk_rem, pk_div, c_of, d_le, d_nle, d_lt, d_nlt, d_eq, d_ne]
    · rw [h1]
      simp (disch := first | omega | (repeat (first | assumption | exact Ag_r | refine Ag_I ?_ rfl | refine Ag_F ?_ rfl | refine Ag_J ?_ rfl))) only [A71, FC hC, h1, mxQ, h3, sR_sR, CO, HA, HB, HC, Nat.not_lt_zero, Nat.add_assoc, c_nlt, c_nle, c_neq, c_P, c_cl, c_m1, c_m1', nI_add, pk_mul, reduceIte, Nat.reduceEqDiff, Nat.reduceAdd, Nat.reduceMul, Nat.reduceLeDiff, eq_self, ↓pk_rem, pk_div, c_of, d_le, d_nle, d_lt, d_nlt, d_eq, d_ne]
  · intro f hf
    show Ev (den (d + 2, 71, 65, [.ref 46, .ref 1, .int (nI 6)], [], sF (sF (sF (sF (sI (sI (sR σ 49 f) 47 (va_cpy (hI σ 2) (hI σ 47) 0 0 224)) 48 (va_cpy (hI σ 3) (hI σ 48) 0 0 28)) 46 0 (.int (nI v))) 46 1 (.int (nI fp))) 46 2 (.int (nI nl))) 46 3 (.int (ofo fc)))) _
    rw [a71_65]
    simp (disch := first | omega | (repeat (first | assumption | exact Ag_r | refine Ag_I ?_ rfl | refine Ag_F ?_ rfl | refine Ag_J ?_ rfl))) only [A71, A43, A15, FC hC, b2, b3, a7, c_n0, CO, HA, HB, HC, Nat.not_lt_zero, Nat.add_assoc, c_nlt, c_nle, c_neq, c_P, c_cl, c_m1, c_m1', nI_add, pk_mul, reduceIte, Nat.reduceEqDiff, Nat.reduceAdd, Nat.reduceMul, Nat.reduceLeDiff, eq_self, ↓pk_rem, pk_div, c_of, d_le, d_nle, d_lt, d_nlt, d_eq, d_ne]
    exact Ev_s ⟨f, rfl, rfl, hf⟩
set_option maxHeartbeats 4000000 in
theorem C_bec_1_35 (hC : FxC σ) (hS : SC σ 35 S) (hw : WS S) (hl : tyL σ 38) : Ev (den (d + 2, 71, 0, [.ref 1, .ref 35, .float 0], [], σ)) (fun r υ => r = none ∧ Bf 1 σ υ ∧ SC υ 1 S ∧ tyL υ 4) := by
  obtain ⟨v, H, fp, nl, fc, rn, ⟨nd, dv, dd, de⟩, ⟨nu, uc, uh⟩, lw⟩ := S
  simp only [SC, Nat.reduceAdd] at hS
  obtain ⟨⟨a1, a2⟩, ⟨a3, a4, a5⟩, a6, ⟨a7, a8⟩, ⟨tq, b1, b2, b3, b4⟩, a9⟩ := hS
  obtain ⟨w1, w2, w3, w5, w6, w7⟩ := hw
  have n10 := w6.1
  have key := lp (α := Nat → Option Nat) (h := fun i f => (d + 2, 71, 65, [.ref 1, .ref 35, .int (nI i)], [], sF (sF (sF (sF (sI (sI (sR σ 4 f) 2 (va_cpy (hI σ 36) (hI σ 2) 0 0 224)) 3 (va_cpy (hI σ 37) (hI σ 3) 0 0 28)) 1 0 (.int (nI v))) 1 1 (.int (nI fp))) 1 2 (.int (nI nl))) 1 3 (.int (ofo fc)))) (I := fun i f => ∀ j, j < i → f j = hR σ 38 j) (Q := fun r υ => ∃ f, r = none ∧ υ = sF (sF (sF (sF (sF (sF (sF (sI (sI (sI (sI (sI (sI (sI (sR σ 4 f) 2 (va_cpy (hI σ 36) (hI σ 2) 0 0 224)) 3 (va_cpy (hI σ 37) (hI σ 3) 0 0 28)) 6 (va_cpy (hI σ 40) (hI σ 6) 0 0 32)) 7 (va_cpy (hI σ 41) (hI σ 7) 0 0 32)) 9 (va_cpy (hI σ 43) (hI σ 9) 0 0 10)) 10 (va_cpy (hI σ 44) (hI σ 10) 0 0 10)) 11 (va_cpy (hI σ 45) (hI σ 11) 0 0 10)) 1 0 (.int (nI v))) 1 1 (.int (nI fp))) 1 2 (.int (nI nl))) 1 3 (.int (ofo fc))) 5 2 (.int (nI tq))) 5 3 (.int (nI nu))) 8 3 (.int (nI nd)) ∧ ∀ j, j < 6 → f j = hR σ 38 j) 6 ?_ ?_ 0 (hR σ 4) (Nat.zero_le _) (fun j hj => absurd hj (Nat.not_lt_zero j))
  · obtain ⟨r, υ, e, f, rfl, rfl, hf⟩ := key
    refine Ev_e (o' := _) ?_ (Ev_s (v := none) (τ := sF (sF (sF (sF (sF (sF (sF (sI (sI (sI (sI (sI (sI (sI (sR σ 4 f) 2 (va_cpy (hI σ 36) (hI σ 2) 0 0 224)) 3 (va_cpy (hI σ 37) (hI σ 3) 0 0 28)) 6 (va_cpy (hI σ 40) (hI σ 6) 0 0 32)) 7 (va_cpy (hI σ 41) (hI σ 7) 0 0 32)) 9 (va_cpy (hI σ 43) (hI σ 9) 0 0 10)) 10 (va_cpy (hI σ 44) (hI σ 10) 0 0 10)) 11 (va_cpy (hI σ 45) (hI σ 11) 0 0 10)) 1 0 (.int (nI v))) 1 1 (.int (nI fp))) 1 2 (.int (nI nl))) 1 3 (.int (ofo fc))) 5 2 (.int (nI tq))) 5 3 (.int (nI nu))) 8 3 (.int (nI nd))) ⟨rfl, ⟨⟨by simp only [HB], by simp only [HB], by simp only [HB]⟩, ⟨funext fun k => by simp only [HB], funext fun k => by simp only [HB], funext fun k => by simp only [HA]⟩, ?_, ?_⟩, ?_, ?_⟩)
    · rw [← e]
      have sr : sR σ 4 (hR σ 4) = σ := by
        unfold sR
        have : (fun k' => if k' = 4 then hR σ 4 else hR σ k') = hR σ := by funext z; split <;> simp_all
        rw [this]; rfl
      rw [sr]
      simp (disch := first | omega | (repeat (first | assumption | exact Ag_r | refine Ag_I ?_ rfl | refine Ag_F ?_ rfl | refine Ag_J ?_ rfl))) only [A71, FC hC, a1, a3, a4, a5, c_n0, CO, HA, HB, HC, Nat.not_lt_zero, Nat.add_assoc, c_nlt, c_nle, c_neq, c_P, c_cl, c_m1, c_m1', nI_add, pk_mul, reduceIte, Nat.reduceEqDiff, Nat.reduceAdd, Nat.reduceMul, Nat.reduceLeDiff, eq_self, ↓pk_rem, pk_div, c_of, d_le, d_nle, d_lt, d_nlt, d_eq, d_ne]
    · intro k hk
      refine ⟨?_, ?_, fun j => ?_⟩
      · simp only [HA]
        iterate 7 rw [if_neg (by omega)]
      · simp only [HA]
        rw [if_neg (by omega)]
      · simp only [HA]
        iterate 7 rw [if_neg (by omega)]
    · intro p hp
      simp only [HA]
      have q := (show ∀ p, p ∈ rfC → ¬ (p.1 = 1 ∧ p.2 = 0) ∧ ¬ (p.1 = 1 ∧ p.2 = 1) ∧ ¬ (p.1 = 1 ∧ p.2 = 2) ∧ ¬ (p.1 = 1 ∧ p.2 = 3) ∧ ¬ (p.1 = 5 ∧ p.2 = 2) ∧ ¬ (p.1 = 5 ∧ p.2 = 3) ∧ ¬ (p.1 = 8 ∧ p.2 = 3) by decide) p hp
      rw [if_neg q.2.2.2.2.2.2, if_neg q.2.2.2.2.2.1, if_neg q.2.2.2.2.1, if_neg q.2.2.2.1, if_neg q.2.2.1, if_neg q.2.1, if_neg q.1]
    · simp only [SC, Nat.reduceAdd]
      refine ⟨⟨?_, fun c hc => ?_⟩, ⟨?_, ?_, ?_⟩, fun e he => ?_, ⟨?_, fun k hk => ?_⟩, ⟨tq, b1, ?_, ?_, fun i hi => ?_⟩, fun i hi => ?_⟩
      · simp only [HA, Nat.reduceEqDiff, false_and, and_false, and_self, reduceIte]
      · simp only [HA, Nat.reduceEqDiff, reduceIte]; rw [cpy_at hc]; exact a2 c hc
      · simp only [HA, Nat.reduceEqDiff, false_and, and_false, and_self, reduceIte]
      · simp only [HA, Nat.reduceEqDiff, false_and, and_false, and_self, reduceIte]
      · simp only [HA, Nat.reduceEqDiff, false_and, and_false, and_self, reduceIte]
      · simp only [HA, Nat.reduceEqDiff, reduceIte]; rw [cpy_at he]; exact a6 e he
      · simp only [HA, and_self, reduceIte]
      · simp only [HA, Nat.reduceEqDiff, reduceIte]; rw [cpy_at (by omega), cpy_at (by omega), cpy_at (by omega)]; exact a8 k hk
      · simp only [HA, Nat.reduceEqDiff, false_and, and_false, and_self, reduceIte]
      · simp only [HA, Nat.reduceEqDiff, false_and, and_false, and_self, reduceIte]
      · simp only [HA, Nat.reduceEqDiff, reduceIte]
        rw [cpy_at (Nat.mod_lt _ (by omega)), cpy_at (Nat.mod_lt _ (by omega))]
        exact b4 i hi
      · obtain ⟨ℓ, c, ⟨r1, r2, r3, r4⟩, ⟨c1, c2, c3⟩, lww⟩ := a9 i hi
        refine ⟨ℓ, c, ⟨?_, r2, by simp only [HB]; exact r3, ?_⟩, ⟨c1, by simp only [HB]; exact c2, by simp only [HB]; exact c3⟩, ?_⟩
        · simp only [HA, reduceIte]; rw [hf i (by have := w3.1; omega)]; exact r1
        · simp only [HA]
          iterate 7 rw [if_neg (by omega)]
          exact r4
        · have ne : ∀ x, x < 85 → ¬ c = x := fun x hx => Nat.ne_of_gt (Nat.lt_of_lt_of_le hx c1)
          simp only [HA, HB]
          iterate 7 rw [if_neg (ne _ (by decide))]
          exact lww
    · intro i hi
      simp only [HA, HB, reduceIte]
      rw [hf i hi]
      exact hl i hi
  · intro i f hi hf nx
    have nn := nx (va_up f i (hR σ 38 i)) (fun j hj => by
      rw [va_u]
      by_cases q : j = i
      · rw [if_pos q, q]
      · rw [if_neg q]; exact hf j (by omega))
    refine Ev_e ?_ nn
    show den (d + 2, 71, 65, [.ref 1, .ref 35, .int (nI i)], [], sF (sF (sF (sF (sI (sI (sR σ 4 f) 2 (va_cpy (hI σ 36) (hI σ 2) 0 0 224)) 3 (va_cpy (hI σ 37) (hI σ 3) 0 0 28)) 1 0 (.int (nI v))) 1 1 (.int (nI fp))) 1 2 (.int (nI nl))) 1 3 (.int (ofo fc))) = _
    rw [a71_65]
    rcases hl i hi with h0 | ⟨ℓ, h1, h2, h3⟩
    · rw [h0]
      simp (disch := first | omega | (repeat (first | assumption | exact Ag_r | refine Ag_I ?_ rfl | refine Ag_F ?_ rfl | refine Ag_J ?_ rfl))) only [A71, FC hC, h0, mxQ, sR_sR, CO, HA, HB, HC, Nat.not_lt_zero, Nat.add_assoc, c_nlt, c_nle, c_neq, c_P, c_cl, c_m1, c_m1', nI_add, pk_mul, reduceIte, Nat.reduceEqDiff, Nat.reduceAdd, Nat.reduceMul, Nat.reduceLeDiff, eq_self, ↓pk_rem, pk_div, c_of, d_le, d_nle, d_lt, d_nlt, d_eq, d_ne]
    · rw [h1]
      simp (disch := first | omega | (repeat (first | assumption | exact Ag_r | refine Ag_I ?_ rfl | refine Ag_F ?_ rfl | refine Ag_J ?_ rfl))) only [A71, FC hC, h1, mxQ, h3, sR_sR, CO, HA, HB, HC, Nat.not_lt_zero, Nat.add_assoc, c_nlt, c_nle, c_neq, c_P, c_cl, c_m1, c_m1', nI_add, pk_mul, reduceIte, Nat.reduceEqDiff, Nat.reduceAdd, Nat.reduceMul, Nat.reduceLeDiff, eq_self, ↓pk_rem, pk_div, c_of, d_le, d_nle, d_lt, d_nlt, d_eq, d_ne]
  · intro f hf
    show Ev (den (d + 2, 71, 65, [.ref 1, .ref 35, .int (nI 6)], [], sF (sF (sF (sF (sI (sI (sR σ 4 f) 2 (va_cpy (hI σ 36) (hI σ 2) 0 0 224)) 3 (va_cpy (hI σ 37) (hI σ 3) 0 0 28)) 1 0 (.int (nI v))) 1 1 (.int (nI fp))) 1 2 (.int (nI nl))) 1 3 (.int (ofo fc)))) _
    rw [a71_65]
    simp (disch := first | omega | (repeat (first | assumption | exact Ag_r | refine Ag_I ?_ rfl | refine Ag_F ?_ rfl | refine Ag_J ?_ rfl))) only [A71, A43, A15, FC hC, b2, b3, a7, c_n0, CO, HA, HB, HC, Nat.not_lt_zero, Nat.add_assoc, c_nlt, c_nle, c_neq, c_P, c_cl, c_m1, c_m1', nI_add, pk_mul, reduceIte, Nat.reduceEqDiff, Nat.reduceAdd, Nat.reduceMul, Nat.reduceLeDiff, eq_self, ↓pk_rem, pk_div, c_of, d_le, d_nle, d_lt, d_nlt, d_eq, d_ne]
    exact Ev_s ⟨f, rfl, rfl, hf⟩
set_option maxHeartbeats 4000000 in
theorem C_bec_1_46 (hC : FxC σ) (hS : SC σ 46 S) (hw : WS S) (hl : tyL σ 49) : Ev (den (d + 2, 71, 0, [.ref 1, .ref 46, .float 0], [], σ)) (fun r υ => r = none ∧ Bf 1 σ υ ∧ SC υ 1 S ∧ tyL υ 4) := by
  obtain ⟨v, H, fp, nl, fc, rn, ⟨nd, dv, dd, de⟩, ⟨nu, uc, uh⟩, lw⟩ := S
  simp only [SC, Nat.reduceAdd] at hS
  obtain ⟨⟨a1, a2⟩, ⟨a3, a4, a5⟩, a6, ⟨a7, a8⟩, ⟨tq, b1, b2, b3, b4⟩, a9⟩ := hS
  obtain ⟨w1, w2, w3, w5, w6, w7⟩ := hw
  have n10 := w6.1
  have key := lp (α := Nat → Option Nat) (h := fun i f => (d + 2, 71, 65, [.ref 1, .ref 46, .int (nI i)], [], sF (sF (sF (sF (sI (sI (sR σ 4 f) 2 (va_cpy (hI σ 47) (hI σ 2) 0 0 224)) 3 (va_cpy (hI σ 48) (hI σ 3) 0 0 28)) 1 0 (.int (nI v))) 1 1 (.int (nI fp))) 1 2 (.int (nI nl))) 1 3 (.int (ofo fc)))) (I := fun i f => ∀ j, j < i → f j = hR σ 49 j) (Q := fun r υ => ∃ f, r = none ∧ υ = sF (sF (sF (sF (sF (sF (sF (sI (sI (sI (sI (sI (sI (sI (sR σ 4 f) 2 (va_cpy (hI σ 47) (hI σ 2) 0 0 224)) 3 (va_cpy (hI σ 48) (hI σ 3) 0 0 28)) 6 (va_cpy (hI σ 51) (hI σ 6) 0 0 32)) 7 (va_cpy (hI σ 52) (hI σ 7) 0 0 32)) 9 (va_cpy (hI σ 54) (hI σ 9) 0 0 10)) 10 (va_cpy (hI σ 55) (hI σ 10) 0 0 10)) 11 (va_cpy (hI σ 56) (hI σ 11) 0 0 10)) 1 0 (.int (nI v))) 1 1 (.int (nI fp))) 1 2 (.int (nI nl))) 1 3 (.int (ofo fc))) 5 2 (.int (nI tq))) 5 3 (.int (nI nu))) 8 3 (.int (nI nd)) ∧ ∀ j, j < 6 → f j = hR σ 49 j) 6 ?_ ?_ 0 (hR σ 4) (Nat.zero_le _) (fun j hj => absurd hj (Nat.not_lt_zero j))
  · obtain ⟨r, υ, e, f, rfl, rfl, hf⟩ := key
    refine Ev_e (o' := _) ?_ (Ev_s (v := none) (τ := sF (sF (sF (sF (sF (sF (sF (sI (sI (sI (sI (sI (sI (sI (sR σ 4 f) 2 (va_cpy (hI σ 47) (hI σ 2) 0 0 224)) 3 (va_cpy (hI σ 48) (hI σ 3) 0 0 28)) 6 (va_cpy (hI σ 51) (hI σ 6) 0 0 32)) 7 (va_cpy (hI σ 52) (hI σ 7) 0 0 32)) 9 (va_cpy (hI σ 54) (hI σ 9) 0 0 10)) 10 (va_cpy (hI σ 55) (hI σ 10) 0 0 10)) 11 (va_cpy (hI σ 56) (hI σ 11) 0 0 10)) 1 0 (.int (nI v))) 1 1 (.int (nI fp))) 1 2 (.int (nI nl))) 1 3 (.int (ofo fc))) 5 2 (.int (nI tq))) 5 3 (.int (nI nu))) 8 3 (.int (nI nd))) ⟨rfl, ⟨⟨by simp only [HB], by simp only [HB], by simp only [HB]⟩, ⟨funext fun k => by simp only [HB], funext fun k => by simp only [HB], funext fun k => by simp only [HA]⟩, ?_, ?_⟩, ?_, ?_⟩)
    · rw [← e]
      have sr : sR σ 4 (hR σ 4) = σ := by
        unfold sR
        have : (fun k' => if k' = 4 then hR σ 4 else hR σ k') = hR σ := by funext z; split <;> simp_all
        rw [this]; rfl
      rw [sr]
      simp (disch := first | omega | (repeat (first | assumption | exact Ag_r | refine Ag_I ?_ rfl | refine Ag_F ?_ rfl | refine Ag_J ?_ rfl))) only [A71, FC hC, a1, a3, a4, a5, c_n0, CO, HA, HB, HC, Nat.not_lt_zero, Nat.add_assoc, c_nlt, c_nle, c_neq, c_P, c_cl, c_m1, c_m1', nI_add, pk_mul, reduceIte, Nat.reduceEqDiff, Nat.reduceAdd, Nat.reduceMul, Nat.reduceLeDiff, eq_self, ↓pk_rem, pk_div, c_of, d_le, d_nle, d_lt, d_nlt, d_eq, d_ne]
    · intro k hk
      refine ⟨?_, ?_, fun j => ?_⟩
      · simp only [HA]
        iterate 7 rw [if_neg (by omega)]
      · simp only [HA]
        rw [if_neg (by omega)]
      · simp only [HA]
        iterate 7 rw [if_neg (by omega)]
    · intro p hp
      simp only [HA]
      have q := (show ∀ p, p ∈ rfC → ¬ (p.1 = 1 ∧ p.2 = 0) ∧ ¬ (p.1 = 1 ∧ p.2 = 1) ∧ ¬ (p.1 = 1 ∧ p.2 = 2) ∧ ¬ (p.1 = 1 ∧ p.2 = 3) ∧ ¬ (p.1 = 5 ∧ p.2 = 2) ∧ ¬ (p.1 = 5 ∧ p.2 = 3) ∧ ¬ (p.1 = 8 ∧ p.2 = 3) by decide) p hp
      rw [if_neg q.2.2.2.2.2.2, if_neg q.2.2.2.2.2.1, if_neg q.2.2.2.2.1, if_neg q.2.2.2.1, if_neg q.2.2.1, if_neg q.2.1, if_neg q.1]
    · simp only [SC, Nat.reduceAdd]
      refine ⟨⟨?_, fun c hc => ?_⟩, ⟨?_, ?_, ?_⟩, fun e he => ?_, ⟨?_, fun k hk => ?_⟩, ⟨tq, b1, ?_, ?_, fun i hi => ?_⟩, fun i hi => ?_⟩
      · simp only [HA, Nat.reduceEqDiff, false_and, and_false, and_self, reduceIte]
      · simp only [HA, Nat.reduceEqDiff, reduceIte]; rw [cpy_at hc]; exact a2 c hc
      · simp only [HA, Nat.reduceEqDiff, false_and, and_false, and_self, reduceIte]
      · simp only [HA, Nat.reduceEqDiff, false_and, and_false, and_self, reduceIte]
      · simp only [HA, Nat.reduceEqDiff, false_and, and_false, and_self, reduceIte]
      · simp only [HA, Nat.reduceEqDiff, reduceIte]; rw [cpy_at he]; exact a6 e he
      · simp only [HA, and_self, reduceIte]
      · simp only [HA, Nat.reduceEqDiff, reduceIte]; rw [cpy_at (by omega), cpy_at (by omega), cpy_at (by omega)]; exact a8 k hk
      · simp only [HA, Nat.reduceEqDiff, false_and, and_false, and_self, reduceIte]
      · simp only [HA, Nat.reduceEqDiff, false_and, and_false, and_self, reduceIte]
      · simp only [HA, Nat.reduceEqDiff, reduceIte]
        rw [cpy_at (Nat.mod_lt _ (by omega)), cpy_at (Nat.mod_lt _ (by omega))]
        exact b4 i hi
      · obtain ⟨ℓ, c, ⟨r1, r2, r3, r4⟩, ⟨c1, c2, c3⟩, lww⟩ := a9 i hi
        refine ⟨ℓ, c, ⟨?_, r2, by simp only [HB]; exact r3, ?_⟩, ⟨c1, by simp only [HB]; exact c2, by simp only [HB]; exact c3⟩, ?_⟩
        · simp only [HA, reduceIte]; rw [hf i (by have := w3.1; omega)]; exact r1
        · simp only [HA]
          iterate 7 rw [if_neg (by omega)]
          exact r4
        · have ne : ∀ x, x < 85 → ¬ c = x := fun x hx => Nat.ne_of_gt (Nat.lt_of_lt_of_le hx c1)
          simp only [HA, HB]
          iterate 7 rw [if_neg (ne _ (by decide))]
          exact lww
    · intro i hi
      simp only [HA, HB, reduceIte]
      rw [hf i hi]
      exact hl i hi
  · intro i f hi hf nx
    have nn := nx (va_up f i (hR σ 49 i)) (fun j hj => by
      rw [va_u]
      by_cases q : j = i
      · rw [if_pos q, q]
      · rw [if_neg q]; exact hf j (by omega))
    refine Ev_e ?_ nn
    show den (d + 2, 71, 65, [.ref 1, .ref 46, .int (nI i)], [], sF (sF (sF (sF (sI (sI (sR σ 4 f) 2 (va_cpy (hI σ 47) (hI σ 2) 0 0 224)) 3 (va_cpy (hI σ 48) (hI σ 3) 0 0 28)) 1 0 (.int (nI v))) 1 1 (.int (nI fp))) 1 2 (.int (nI nl))) 1 3 (.int (ofo fc))) = _
    rw [a71_65]
    rcases hl i hi with h0 | ⟨ℓ, h1, h2, h3⟩
    · rw [h0]
      simp (disch := first | omega | (repeat (first | assumption | exact Ag_r | refine Ag_I ?_ rfl | refine Ag_F ?_ rfl | refine Ag_J ?_ rfl))) only [A71, FC hC, h0, mxQ, sR_sR, CO, HA, HB, HC, Nat.not_lt_zero, Nat.add_assoc, c_nlt, c_nle, c_neq, c_P, c_cl, c_m1, c_m1', nI_add, pk_mul, reduceIte, Nat.reduceEqDiff, Nat.reduceAdd, Nat.reduceMul, Nat.reduceLeDiff, eq_self, ↓pk_rem, pk_div, c_of, d_le, d_nle, d_lt, d_nlt, d_eq, d_ne]
    · rw [h1]
      simp (disch := first | omega | (repeat (first | assumption | exact Ag_r | refine Ag_I ?_ rfl | refine Ag_F ?_ rfl | refine Ag_J ?_ rfl))) only [A71, FC hC, h1, mxQ, h3, sR_sR, CO, HA, HB, HC, Nat.not_lt_zero, Nat.add_assoc, c_nlt, c_nle, c_neq, c_P, c_cl, c_m1, c_m1', nI_add, pk_mul, reduceIte, Nat.reduceEqDiff, Nat.reduceAdd, Nat.reduceMul, Nat.reduceLeDiff, eq_self, ↓pk_rem, pk_div, c_of, d_le, d_nle, d_lt, d_nlt, d_eq, d_ne]
  · intro f hf
    show Ev (den (d + 2, 71, 65, [.ref 1, .ref 46, .int (nI 6)], [], sF (sF (sF (sF (sI (sI (sR σ 4 f) 2 (va_cpy (hI σ 47) (hI σ 2) 0 0 224)) 3 (va_cpy (hI σ 48) (hI σ 3) 0 0 28)) 1 0 (.int (nI v))) 1 1 (.int (nI fp))) 1 2 (.int (nI nl))) 1 3 (.int (ofo fc)))) _
    rw [a71_65]
    simp (disch := first | omega | (repeat (first | assumption | exact Ag_r | refine Ag_I ?_ rfl | refine Ag_F ?_ rfl | refine Ag_J ?_ rfl))) only [A71, A43, A15, FC hC, b2, b3, a7, c_n0, CO, HA, HB, HC, Nat.not_lt_zero, Nat.add_assoc, c_nlt, c_nle, c_neq, c_P, c_cl, c_m1, c_m1', nI_add, pk_mul, reduceIte, Nat.reduceEqDiff, Nat.reduceAdd, Nat.reduceMul, Nat.reduceLeDiff, eq_self, ↓pk_rem, pk_div, c_of, d_le, d_nle, d_lt, d_nlt, d_eq, d_ne]
    exact Ev_s ⟨f, rfl, rfl, hf⟩
end
