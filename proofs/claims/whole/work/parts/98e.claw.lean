/-! law: the class keeps what it has read; cells that are made -/
section
variable {σ : Hp} {c n q j : Nat} {fs : Nat → Value}
theorem kd_nO : kd (nO σ c n fs) q = if q = hN σ then c else kd σ q := by
  unfold kd
  show (if q < hN σ + 1 then (if q = hN σ then c else hK σ q) else 999) = _
  by_cases e : q = hN σ
  · rw [if_pos e, if_pos (by omega), if_pos e]
  · rw [if_neg e, if_neg e]
    by_cases l : q < hN σ
    · rw [if_pos l, if_pos (by omega)]
    · rw [if_neg l, if_neg (by omega)]
theorem kd_nA : kd (nA σ c n) q = if q = hN σ then c else kd σ q := by
  unfold kd
  show (if q < hN σ + 1 then (if q = hN σ then c else hK σ q) else 999) = _
  by_cases e : q = hN σ
  · rw [if_pos e, if_pos (by omega), if_pos e]
  · rw [if_neg e, if_neg e]
    by_cases l : q < hN σ
    · rw [if_pos l, if_pos (by omega)]
    · rw [if_neg l, if_neg (by omega)]
theorem hL_nO : hL (nO σ c n fs) q = hL σ q := rfl
theorem hL_nA : hL (nA σ c n) q = if q = hN σ then n else hL σ q := rfl
theorem hF_nO : hF (nO σ c n fs) q j = if q = hN σ then fs j else hF σ q j := by
  show (if q = hN σ then fs j else hF σ q j) = _
  rfl
theorem hF_nA : hF (nA σ c n) q j = hF σ q j := rfl
theorem hI_nO : hI (nO σ c n fs) q = hI σ q := rfl
theorem hI_nA : hI (nA σ c n) q = if q = hN σ then (fun _ => 0) else hI σ q := rfl
theorem hJ_nO : hJ (nO σ c n fs) q = hJ σ q := rfl
theorem hJ_nA : hJ (nA σ c n) q = if q = hN σ then (fun _ => 0) else hJ σ q := rfl
theorem hR_nO : hR (nO σ c n fs) q = hR σ q := rfl
theorem hR_nA : hR (nA σ c n) q = if q = hN σ then (fun _ => none) else hR σ q := rfl
theorem hN_nO : hN (nO σ c n fs) = hN σ + 1 := rfl
theorem hN_nA : hN (nA σ c n) = hN σ + 1 := rfl
theorem hS_nO : hS (nO σ c n fs) = hS σ + n := rfl
theorem hS_nA : hS (nA σ c n) = hS σ + n := rfl
theorem hX_nO : hX (nO σ c n fs) = hX σ := rfl
theorem hX_nA : hX (nA σ c n) = hX σ := rfl
end
def Fx_ : Nat → Nat → Bool := fun k j => (Nat.beq k 16 && Nat.beq j 1) || ((Nat.beq k 0 && (Nat.beq j 11 || Nat.beq j 13)) || (Nat.beq k 1 && Nat.beq j 2))
theorem Fx_x {k j : Nat} (h : 17 ≤ k) : Fx_ k j = false := by
  unfold Fx_
  rw [bq (show ¬ k = 16 by omega), bq (show ¬ k = 0 by omega), bq (show ¬ k = 1 by omega)]; rfl
/-- cells below N are as they were, but for these fields, and the row of laws -/
def Ex (N : Nat) (σ τ : Hp) : Prop := ∀ q, q < N → (kd τ q = kd σ q ∧ hL τ q = hL σ q) ∧ (∀ j, Fx_ q j = false → hF τ q j = hF σ q j) ∧ (hI τ q = hI σ q ∧ hJ τ q = hJ σ q) ∧ (q ≠ 4 → hR τ q = hR σ q)
section
variable {N : Nat} {σ τ : Hp}
theorem Ex_r : Ex N σ σ := fun q hq => ⟨⟨rfl, rfl⟩, fun _ _ => rfl, ⟨rfl, rfl⟩, fun _ => rfl⟩
theorem Ex_F (h : Ex N σ τ) {k j : Nat} {v : Value} (hk : Fx_ k j = true) : Ex N σ (sF τ k j v) := fun q hq => by
  obtain ⟨h1, h2, h3, h4⟩ := h q hq
  refine ⟨h1, fun j' e => ?_, h3, h4⟩
  rw [hF_sF, if_neg (fun z => by rw [z.1, z.2, hk] at e; cases e)]
  exact h2 j' e
theorem Ex_Fo (h : Ex N σ τ) {k j : Nat} {v : Value} (hk : N ≤ k) : Ex N σ (sF τ k j v) := fun q hq => by
  obtain ⟨h1, h2, h3, h4⟩ := h q hq
  refine ⟨h1, fun j' e => ?_, h3, h4⟩
  rw [hF_sF, if_neg (fun z => by omega)]
  exact h2 j' e
theorem Ex_Io (h : Ex N σ τ) {k : Nat} {f : Nat → Int32} (hk : N ≤ k) : Ex N σ (sI τ k f) := fun q hq => by
  obtain ⟨h1, h2, h3, h4⟩ := h q hq
  refine ⟨h1, h2, ⟨?_, h3.2⟩, h4⟩
  rw [hI_sI, if_neg (by omega)]
  exact h3.1
theorem Ex_R (h : Ex N σ τ) {f : Nat → Option Nat} : Ex N σ (sR τ 4 f) := fun q hq => by
  obtain ⟨h1, h2, h3, h4⟩ := h q hq
  refine ⟨h1, h2, h3, fun z => ?_⟩
  rw [hR_sR, if_neg z]
  exact h4 z
theorem Ex_O (h : Ex N σ τ) {c n : Nat} {fs : Nat → Value} (l : N ≤ hN τ) : Ex N σ (nO τ c n fs) := fun q hq => by
  obtain ⟨⟨h1, h1'⟩, h2, h3, h4⟩ := h q hq
  refine ⟨⟨by rw [kd_nO, if_neg (by omega)]; exact h1, h1'⟩, fun j e => ?_, h3, h4⟩
  rw [hF_nO, if_neg (by omega)]
  exact h2 j e
theorem Ex_A (h : Ex N σ τ) {c n : Nat} (l : N ≤ hN τ) : Ex N σ (nA τ c n) := fun q hq => by
  obtain ⟨⟨h1, h1'⟩, h2, h3, h4⟩ := h q hq
  refine ⟨⟨by rw [kd_nA, if_neg (by omega)]; exact h1, by rw [hL_nA, if_neg (by omega)]; exact h1'⟩, h2, ⟨by rw [hI_nA, if_neg (by omega)]; exact h3.1, by rw [hJ_nA, if_neg (by omega)]; exact h3.2⟩, fun z => by rw [hR_nA, if_neg (by omega)]; exact h4 z⟩
theorem rfC_b : ∀ p, p ∈ rfC → p.1 < 57 ∧ Fx_ p.1 p.2 = false := by decide
theorem FxC_x (h : Ex N σ τ) (l : 57 ≤ N) (hC : FxC σ) : FxC τ := by
  have k := fun (q : Nat) (hq : q < 57) => (h q (by omega)).1.1
  have le := fun (q : Nat) (hq : q < 57) => (h q (by omega)).1.2
  have f := fun (q j : Nat) (m : (q, j) ∈ rfC) => (h q (by have := (rfC_b (q, j) m).1; simp only at this; omega)).2.1 j (rfC_b (q, j) m).2
  have r := (h 12 (by omega)).2.2.2 (by omega)
  unfold FxC at hC ⊢
  simp (disch := decide) only [k, le, f, r]
  exact hC
theorem LaC_x (h : Ex N σ τ) (hn : hN σ = N) {a i : Nat} {w : Lw5} (ha : a < N) (ha4 : a ≠ 4) (hl : LaC σ a i w) : LaC τ a i w := by
  obtain ⟨ℓ, c, ⟨r1, r2, r3, r4⟩, ⟨c1, c2, c3⟩, lw⟩ := hl
  have l1 : ℓ < N := by rw [← hn]; exact (kd_s r3 (by decide)).1
  have l2 : c < N := by rw [← hn]; exact (kd_s c2 (by decide)).1
  refine ⟨ℓ, c, ⟨by rw [(h a ha).2.2.2 ha4]; exact r1, r2, by rw [(h ℓ l1).1.1]; exact r3, by rw [(h ℓ l1).2.1 0 (Fx_x (by omega))]; exact r4⟩, ⟨c1, by rw [(h c l2).1.1]; exact c2, by rw [(h c l2).1.2]; exact c3⟩, ?_⟩
  rw [(h c l2).1.2, (h c l2).2.2.1.1]; exact lw
theorem LaC_4 (h : Ex N σ τ) (hn : hN σ = N) {i : Nat} {w : Lw5} (h4 : hR τ 4 i = hR σ 4 i) (hl : LaC σ 4 i w) : LaC τ 4 i w := by
  obtain ⟨ℓ, c, ⟨r1, r2, r3, r4⟩, ⟨c1, c2, c3⟩, lw⟩ := hl
  have l1 : ℓ < N := by rw [← hn]; exact (kd_s r3 (by decide)).1
  have l2 : c < N := by rw [← hn]; exact (kd_s c2 (by decide)).1
  refine ⟨ℓ, c, ⟨by rw [h4]; exact r1, r2, by rw [(h ℓ l1).1.1]; exact r3, by rw [(h ℓ l1).2.1 0 (Fx_x (by omega))]; exact r4⟩, ⟨c1, by rw [(h c l2).1.1]; exact c2, by rw [(h c l2).1.2]; exact c3⟩, ?_⟩
  rw [(h c l2).1.2, (h c l2).2.2.1.1]; exact lw
theorem SC_x (h : Ex N σ τ) (hn : hN σ = N) (l : 85 ≤ N) {b : Nat} (hb : 35 ≤ b) (hb2 : b ≤ 46) {S : StT} (hs : SC σ b S) : SC τ b S := by
  obtain ⟨v, H, fp, nl, fc, rn, ⟨nd, dv, dd, de⟩, ⟨nu, uc, uh⟩, lw⟩ := S
  have i := fun (j : Nat) (hj : j ≤ 10) => (h (b + j) (by omega)).2.2.1.1
  have f := fun (j k : Nat) (hj : j ≤ 10) => (h (b + j) (by omega)).2.1 k (Fx_x (by omega))
  have f0 := fun (k : Nat) => f 0 k (by omega)
  rw [Nat.add_zero] at f0
  obtain ⟨⟨a1, a2⟩, ⟨a3, a4, a5⟩, a6, ⟨a7, a8⟩, ⟨tp, t1, t2, t3, t4⟩, a9⟩ := hs
  exact ⟨⟨by rw [f0]; exact a1, by rw [i 1 (by omega)]; exact a2⟩, ⟨by rw [f0]; exact a3, by rw [f0]; exact a4, by rw [f0]; exact a5⟩, by rw [i 2 (by omega)]; exact a6, ⟨by rw [f 7 3 (by omega)]; exact a7, by rw [i 8 (by omega), i 9 (by omega), i 10 (by omega)]; exact a8⟩, ⟨tp, t1, by rw [f 4 2 (by omega)]; exact t2, by rw [f 4 3 (by omega)]; exact t3, by rw [i 5 (by omega), i 6 (by omega)]; exact t4⟩, fun j hj => LaC_x h hn (by omega) (by omega) (a9 j hj)⟩
theorem SaM_x (h : Ex N σ τ) (l : 85 ≤ N) (hx : hX τ = hX σ) : SaM σ τ := ⟨hx, fun k h1 h2 => by
  obtain ⟨⟨a1, a2⟩, a3, ⟨a4, a5⟩, -⟩ := h k (by omega)
  exact ⟨⟨a1, a2⟩, fun j => a3 j (Fx_x (by omega)), a4, a5⟩⟩
end
section
variable {N : Nat} {σ τ : Hp} {S S' : StT} {im : Nat → Option StT} {tl yv : Nat} {tp yK : Nat → Nat} {st fg ft st' ft' : Int32} {rf : Nat → Int32}
theorem RC_x (h : Ex N σ τ) (hn : hN σ = N) (l : 85 ≤ N) (hC : RC σ (S, im, (tl, tp), (st, fg, ft), rf, (yv, yK))) (hS : S1 τ S') (ht : hF τ 16 1 = .int (nI 0)) (h11 : hF τ 0 11 = .int st') (h13 : hF τ 0 13 = .int ft') : RC τ (S', im, (0, tp), (st', fg, ft'), rf, (yv, yK)) := by
  obtain ⟨h1, -, h3, -, ⟨-, u2, -⟩, r1, ⟨y1, y2, y3⟩⟩ := hC
  refine ⟨FxC_x h (by omega) h1, S1_SC.mp hS, fun k hk => ⟨by rw [(h 13 (by omega)).2.2.1.1]; exact (h3 k hk).1, fun S' e => SC_x h hn l (by omega) (by omega) ((h3 k hk).2 S' e)⟩, ⟨ht, fun i hi => absurd hi (Nat.not_lt_zero i)⟩, ⟨h11, by rw [(h 0 (by omega)).2.1 12 rfl]; exact u2, h13⟩, by rw [(h 34 (by omega)).2.2.1.1]; exact r1, ⟨by rw [(h 31 (by omega)).2.1 2 rfl]; exact y1, by rw [(h 32 (by omega)).2.2.1.1]; exact y2, by rw [(h 33 (by omega)).2.2.1.1]; exact y3⟩⟩
end
theorem RC_rd {σ τ : Hp} (g : Qrd σ τ) {R : AllT} (h : RC σ R) : RC τ R := by
  refine RC_a g ?_ ?_ (by decide) ⟨rfl, rfl, rfl, rfl, rfl⟩ h
  · intro k hk
    exact bq (by unfold Yc Xc at hk; omega)
  · intro k j hk
    rw [bq (show ¬ k = 14 by unfold Xc at hk; omega)]; rfl
theorem SaM_rd {σ τ : Hp} (g : Qrd σ τ) : SaM σ τ := SaM_a g (fun k h1 h2 => ⟨bq (by omega), fun j => by rw [bq (show ¬ k = 14 by omega)]; rfl⟩)
section
variable {d M b : Nat} {σ : Hp}
theorem C_copy (h : FxC σ) (hM : hN σ = M) (hl : 85 ≤ M) (hb : b ≤ 400) : den (d + 1, 226, 0, [.ref 15, .int (nI b), .float 0], [], σ) = some (some (.ref M), sI (nA σ 100 b) M (va_cpy (hI σ 15) (fun _ => 0) 0 0 b)) := by
  have k15 : kd σ 15 = 100 := by simp only [FC h]
  have l15 : hL σ 15 = 1024 := by simp only [FC h]
  have a15 : kd (nA σ 100 b) 15 = 100 := by rw [kd_nA, if_neg (by omega)]; exact k15
  have aM : kd (nA σ 100 b) M = 100 := by rw [kd_nA, if_pos hM.symm]
  have b15 : hL (nA σ 100 b) 15 = 1024 := by rw [hL_nA, if_neg (by omega)]; exact l15
  have bM : hL (nA σ 100 b) M = b := by rw [hL_nA, if_pos hM.symm]
  have i15 : hI (nA σ 100 b) 15 = hI σ 15 := by rw [hI_nA, if_neg (by omega)]
  have iM : hI (nA σ 100 b) M = fun _ => 0 := by rw [hI_nA, if_pos hM.symm]
  have nb : ¬ b = 1024 := by omega
  simp (disch := first | omega | (repeat (first | assumption | exact Ag_r | refine Ag_I ?_ rfl | refine Ag_F ?_ rfl | refine Ag_J ?_ rfl))) only [A226, k15, l15, a15, aM, b15, bM, i15, iM, nb, hM, c_n0, Nat.zero_add, Nat.le_refl, CO, HA, HB, HC, Nat.not_lt_zero, Nat.add_assoc, c_nlt, c_nle, c_neq, c_P, c_cl, c_m1, c_m1', nI_add, pk_mul, reduceIte, Nat.reduceEqDiff, Nat.reduceAdd, Nat.reduceMul, Nat.reduceLeDiff, eq_self, ↓pk_rem, pk_div, c_of, d_le, d_nle, d_lt, d_nlt, d_eq, d_ne]
theorem C_lawI {ℓ : Nat} (hk : kd σ ℓ = 5) : den (d + 1, 39, 0, [.ref ℓ, .ref M], [], σ) = some (none, sF σ ℓ 0 (.ref M)) := by
  simp (disch := first | omega | (repeat (first | assumption | exact Ag_r | refine Ag_I ?_ rfl | refine Ag_F ?_ rfl | refine Ag_J ?_ rfl))) only [A39, hk, CO, HA, HB, HC, Nat.not_lt_zero, Nat.add_assoc, c_nlt, c_nle, c_neq, c_P, c_cl, c_m1, c_m1', nI_add, pk_mul, reduceIte, Nat.reduceEqDiff, Nat.reduceAdd, Nat.reduceMul, Nat.reduceLeDiff, eq_self, ↓pk_rem, pk_div, c_of, d_le, d_nle, d_lt, d_nlt, d_eq, d_ne]
end
