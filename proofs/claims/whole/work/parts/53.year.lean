/-! frames in general -/
theorem FxC_a {P : Nat → Bool} {F : Nat → Nat → Bool} {σ τ : Hp} (g : Ag P F σ τ) (hF : ∀ p, p ∈ rfC → F p.1 p.2 = false) (h : FxC σ) : FxC τ := by
  unfold FxC at h ⊢
  simp only [Ag_k g, Ag_l g, Ag_R g, Ag_f g 0 0 (hF (0, 0) (by decide)), Ag_f g 0 1 (hF (0, 1) (by decide)), Ag_f g 0 2 (hF (0, 2) (by decide)), Ag_f g 0 3 (hF (0, 3) (by decide)), Ag_f g 0 4 (hF (0, 4) (by decide)), Ag_f g 0 5 (hF (0, 5) (by decide)), Ag_f g 0 6 (hF (0, 6) (by decide)), Ag_f g 0 7 (hF (0, 7) (by decide)), Ag_f g 0 8 (hF (0, 8) (by decide)), Ag_f g 0 9 (hF (0, 9) (by decide)), Ag_f g 0 10 (hF (0, 10) (by decide)), Ag_f g 1 4 (hF (1, 4) (by decide)), Ag_f g 1 5 (hF (1, 5) (by decide)), Ag_f g 1 6 (hF (1, 6) (by decide)), Ag_f g 1 7 (hF (1, 7) (by decide)), Ag_f g 1 8 (hF (1, 8) (by decide)), Ag_f g 5 0 (hF (5, 0) (by decide)), Ag_f g 5 1 (hF (5, 1) (by decide)), Ag_f g 8 0 (hF (8, 0) (by decide)), Ag_f g 8 1 (hF (8, 1) (by decide)), Ag_f g 8 2 (hF (8, 2) (by decide)), Ag_f g 14 0 (hF (14, 0) (by decide)), Ag_f g 14 1 (hF (14, 1) (by decide)), Ag_f g 16 0 (hF (16, 0) (by decide)), Ag_f g 18 0 (hF (18, 0) (by decide)), Ag_f g 18 1 (hF (18, 1) (by decide)), Ag_f g 21 0 (hF (21, 0) (by decide)), Ag_f g 23 0 (hF (23, 0) (by decide)), Ag_f g 23 1 (hF (23, 1) (by decide)), Ag_f g 23 4 (hF (23, 4) (by decide)), Ag_f g 23 5 (hF (23, 5) (by decide)), Ag_f g 28 0 (hF (28, 0) (by decide)), Ag_f g 28 2 (hF (28, 2) (by decide)), Ag_f g 31 0 (hF (31, 0) (by decide)), Ag_f g 31 1 (hF (31, 1) (by decide)), Ag_f g 35 4 (hF (35, 4) (by decide)), Ag_f g 35 5 (hF (35, 5) (by decide)), Ag_f g 35 6 (hF (35, 6) (by decide)), Ag_f g 35 7 (hF (35, 7) (by decide)), Ag_f g 35 8 (hF (35, 8) (by decide)), Ag_f g 39 0 (hF (39, 0) (by decide)), Ag_f g 39 1 (hF (39, 1) (by decide)), Ag_f g 42 0 (hF (42, 0) (by decide)), Ag_f g 42 1 (hF (42, 1) (by decide)), Ag_f g 42 2 (hF (42, 2) (by decide)), Ag_f g 46 4 (hF (46, 4) (by decide)), Ag_f g 46 5 (hF (46, 5) (by decide)), Ag_f g 46 6 (hF (46, 6) (by decide)), Ag_f g 46 7 (hF (46, 7) (by decide)), Ag_f g 46 8 (hF (46, 8) (by decide)), Ag_f g 50 0 (hF (50, 0) (by decide)), Ag_f g 50 1 (hF (50, 1) (by decide)), Ag_f g 53 0 (hF (53, 0) (by decide)), Ag_f g 53 1 (hF (53, 1) (by decide)), Ag_f g 53 2 (hF (53, 2) (by decide))]
  exact h
def rfM : List Nat := [2, 3, 4, 5, 7, 16, 18, 19, 21, 22, 25, 26, 28, 29, 33, 34, 35, 37, 38, 39, 42, 43, 44, 45, 48, 49, 51]
theorem FxM_a {P : Nat → Bool} {F : Nat → Nat → Bool} {σ τ : Hp} (g : Ag P F σ τ) (hF : ∀ j, j ∈ rfM → F 57 j = false) (h : FxM σ) : FxM τ := by
  unfold FxM at h ⊢
  simp only [Ag_k g, Ag_l g, Ag_R g, Ag_f g 57 2 (hF 2 (by decide)), Ag_f g 57 3 (hF 3 (by decide)), Ag_f g 57 4 (hF 4 (by decide)), Ag_f g 57 5 (hF 5 (by decide)), Ag_f g 57 7 (hF 7 (by decide)), Ag_f g 57 16 (hF 16 (by decide)), Ag_f g 57 18 (hF 18 (by decide)), Ag_f g 57 19 (hF 19 (by decide)), Ag_f g 57 21 (hF 21 (by decide)), Ag_f g 57 22 (hF 22 (by decide)), Ag_f g 57 25 (hF 25 (by decide)), Ag_f g 57 26 (hF 26 (by decide)), Ag_f g 57 28 (hF 28 (by decide)), Ag_f g 57 29 (hF 29 (by decide)), Ag_f g 57 33 (hF 33 (by decide)), Ag_f g 57 34 (hF 34 (by decide)), Ag_f g 57 35 (hF 35 (by decide)), Ag_f g 57 37 (hF 37 (by decide)), Ag_f g 57 38 (hF 38 (by decide)), Ag_f g 57 39 (hF 39 (by decide)), Ag_f g 57 42 (hF 42 (by decide)), Ag_f g 57 43 (hF 43 (by decide)), Ag_f g 57 44 (hF 44 (by decide)), Ag_f g 57 45 (hF 45 (by decide)), Ag_f g 57 48 (hF 48 (by decide)), Ag_f g 57 49 (hF 49 (by decide)), Ag_f g 57 51 (hF 51 (by decide))]
  exact h
theorem InC_a {P : Nat → Bool} {F : Nat → Nat → Bool} {σ τ : Hp} {T : Tl} (g : Ag P F σ τ) (h1 : F 1 2 = false ∧ F 1 3 = false) (h2 : ∀ k, 85 ≤ k → P k = false ∧ F k 0 = false) (h : InC σ T) : InC τ T := by
  rcases h with ⟨i1, e⟩ | ⟨i, nl, ℓ, c, n, hs, t, φ, ψ, ⟨i1, i2, i3, i4⟩, ⟨r1, r2, r3, r4⟩, ⟨c1, c2, c3⟩, lw, e⟩
  · exact Or.inl ⟨by rw [Ag_f g 1 3 h1.2]; exact i1, e⟩
  · refine Or.inr ⟨i, nl, ℓ, c, n, hs, t, φ, ψ, ⟨by rw [Ag_f g 1 3 h1.2]; exact i1, by rw [Ag_f g 1 2 h1.1]; exact i2, i3, i4⟩, ⟨by rw [Ag_R g]; exact r1, r2, by rw [Ag_k g]; exact r3, by rw [Ag_f g ℓ 0 (h2 ℓ r2).2]; exact r4⟩, ⟨c1, by rw [Ag_k g]; exact c2, by rw [Ag_l g]; exact c3⟩, ?_, e⟩
    rw [Ag_l g, Ag_i g c (h2 c c1).1]; exact lw
theorem InM_a {P : Nat → Bool} {F : Nat → Nat → Bool} {σ τ : Hp} {T : Tl} (g : Ag P F σ τ) (h1 : P 59 = false) (h : InM σ T) : InM τ T := by
  unfold InM at h ⊢
  rw [Ag_i g 59 h1]; exact h
theorem c_n0 {a : Nat} (h : a < 2 ^ 31) : (nI a < (0 : Int32)) = False := by
  rw [eq_iff_iff, iff_false, Int32.lt_iff_toInt_lt, nI_toInt h]
  have : (0 : Int32).toInt = 0 := by decide
  omega
theorem cpy_at {f g : Nat → Int32} {n i : Nat} (h : i < n) : va_cpy f g 0 0 n i = f i := by
  unfold va_cpy
  rw [if_pos (by omega)]
  congr 1
  omega
theorem lN_rem {a b : Nat} (ha : a < 2 ^ 40) (hb : 0 < b) (hb2 : b < 2 ^ 31) : lN a - lN a / lN b * lN b = lN (a % b) := by
  rw [← zL_n, ← zL_n, ← zL_n, show zL (a : Int) / zL (b : Int) = zL ((a : Int).tdiv (b : Int)) from (Int64.ofInt_tdiv (by show (-9223372036854775808 : Int) ≤ a; omega) (by show (a : Int) ≤ 9223372036854775807; omega) (by show (-9223372036854775808 : Int) ≤ b; omega) (by show (b : Int) ≤ 9223372036854775807; omega)).symm, zL_mul, zL_sub]
  congr 1
  rw [← Int.ofNat_tdiv]
  have h := Nat.div_add_mod a b
  have h2 : ((b : Int) * ((a / b : Nat) : Int)) + ((a % b : Nat) : Int) = (a : Int) := by exact_mod_cast h
  rw [Int.mul_comm, ← h2]
  have h3 : ((b : Int) * ((a / b : Nat) : Int)) + ((a % b : Nat) : Int) - (b : Int) * ((a / b : Nat) : Int) = ((a % b : Nat) : Int) := by rw [Int.add_comm, Int.add_sub_cancel]
  rw [h2] at h3 ⊢
  exact h3
theorem lN_I {n : Nat} : (lN n).toInt32 = nI n := by rw [← zL_n, zL_I, zI_n]
theorem lN_ne {a b : Nat} (ha : a < 2 ^ 31) (hb : b < 2 ^ 31) (h : ¬ a = b) : (lN a = lN b) = False := by
  rw [eq_iff_iff, iff_false]
  intro e
  have := congrArg Int64.toInt e
  rw [lN_toInt ha, lN_toInt hb] at this
  omega
theorem cB_upd {p q : Nat → Bool} {c : Nat} (h : ∀ i, ¬ i = c → q i = p i) : ∀ n, c < n → cB q n + (if p c = true then 1 else 0) = cB p n + (if q c = true then 1 else 0)
  | 0, hc => absurd hc (Nat.not_lt_zero c)
  | n + 1, hc => by
    by_cases z : c = n
    · subst z
      have e : cB q c = cB p c := cB_ext (fun i hi => h i (by omega))
      simp only [cB, e]
      omega
    · have ih := cB_upd h n (by omega)
      have e := h n (by omega)
      simp only [cB, e]
      omega
theorem hd_upd {K : Nat → Nat} {v c t : Nat} (hc : c < 28 * v) (ht : ¬ K c = t) (u : Nat) : hd (upN K c t) v u = if u = t then hd K v u + 1 else if u = K c then hd K v u - 1 else hd K v u := by
  have h := cB_upd (p := fun i => decide (K i = u)) (q := fun i => decide (upN K c t i = u)) (c := c) (fun i hi => by simp only [upN, if_neg hi]) (28 * v) hc
  have e : upN K c t c = t := by unfold upN; rw [if_pos rfl]
  simp only [e, decide_eq_true_eq] at h
  unfold hd
  by_cases z : u = t
  · subst z
    rw [if_pos rfl]
    simp only [ht, reduceIte] at h
    omega
  · rw [if_neg z]
    by_cases y : u = K c
    · rw [if_pos y]
      rw [if_pos y.symm, if_neg (fun e => z e.symm)] at h
      omega
    · rw [if_neg y]
      rw [if_neg (fun e => y e.symm), if_neg (fun e => z e.symm)] at h
      omega
theorem hd_pos {K : Nat → Nat} {v c : Nat} (hc : c < 28 * v) : 1 ≤ hd K v (K c) := by
  have h := cB_mono (fun i => decide (K i = K c)) (show c + 1 ≤ 28 * v by omega)
  rw [cB_y (by simp)] at h
  unfold hd
  omega
theorem Wf_upd {K : Nat → Nat} {v c t : Nat} (h : Wf v K) (hc : c < 28 * v) (ht : t < v) : Wf v (upN K c t) := by
  refine ⟨h.1, h.2.1, fun i hi => ?_, fun i hi hi2 => ?_⟩
  · unfold upN; split
    · exact ht
    · exact h.2.2.1 i hi
  · unfold upN; rw [if_neg (by omega)]; exact h.2.2.2 i hi hi2
/-! last; years by draws -/
theorem fresh_8 : ∀ v, v < 9 → ∀ h, h < v → fresh (2 ^ h) v < 8 := by decide +kernel
section
variable {d v : Nat} {H rn : Nat → Nat} {σ ρ τ : Hp} {T : Tl}
theorem P_last (hC : FxC σ) (hM : FxM ρ) (sC : StC σ v H) (sM : StM ρ v H) (hw : Wf v H) (rC : RnC σ rn) (rM : RnM ρ rn) (lC : LfC σ T) (lM : LfM ρ T) (x y z : Int32) : ∃ r, Ev (den (d + 8, 107, 0, [.ref 0, .int x, .int y, .int z, .float 0, .float 0, .float 0, .float 0, .float 0], [], σ)) (fun a τ => a = some (.int r) ∧ Qc σ τ) ∧ Ev (den (d + 8, 210, 0, [.ref 57, .int x, .int y, .int z, .float 0, .float 0, .float 0, .float 0, .float 0], [], ρ)) (fun a τ => a = some (.int r) ∧ Qm ρ τ) := by
  have hv1 := hw.1
  have hv8 := hw.2.1
  have vC := fun (d : Nat) x => C_isVillage (d := d) hC sC.1 hw.1 hw.2.1 x
  by_cases hx : inr x (v - 1)
  · obtain ⟨o, ha, rfl⟩ := inr_of (by omega) hx
    by_cases hy : inr y 27
    · obtain ⟨e, he, rfl⟩ := inr_of (by omega) hy
      have s1 := sC.2 (28 * o + e) (by omega)
      have H8 := Wf_8 hw (c := 28 * o + e) (by omega)
      have Hv := hw.2.2.1 (28 * o + e) (by omega)
      have b3 := bt3' (H (28 * o + e)) H8
      have rb := rest_b T H rn (28 * o + e) hv8 8 (H (28 * o + e)) (2 ^ H (28 * o + e)) 0 H8
      rcases tri z 1 (by omega) with hz | ⟨m, hm, rfl⟩ | ⟨m, hm, hm2, rfl⟩
      · refine ⟨-1, ?_, ?_⟩
        · simp (disch := first | omega | (repeat (first | assumption | exact Ag_r | refine Ag_I ?_ rfl | refine Ag_F ?_ rfl | refine Ag_J ?_ rfl))) only [A107, FC hC, vC, if_pos hx, C_isDay', if_pos hy, ng hz, CO, HA, HB, HC, Nat.not_lt_zero, Nat.add_assoc, c_nlt, c_nle, c_neq, c_P, c_cl, c_m1, c_m1', nI_add, pk_mul, reduceIte, Nat.reduceEqDiff, Nat.reduceAdd, Nat.reduceMul, Nat.reduceLeDiff, eq_self, ↓pk_rem, pk_div, c_of, d_le, d_nle, d_lt, d_nlt, d_eq, d_ne]
          exact Ev_s ⟨rfl, (by repeat (first | assumption | exact Ag_r | refine Ag_I ?_ rfl | refine Ag_F ?_ rfl | refine Ag_J ?_ rfl))⟩
        · simp (disch := first | omega | (repeat (first | assumption | exact Ag_r | refine Ag_I ?_ rfl | refine Ag_F ?_ rfl | refine Ag_J ?_ rfl))) only [A210, FM hM, M_isVillage' hM sM.1 hv1 hv8, if_pos hx, M_isDay, if_pos hy, M_in, l_lo, l_hi, ng hz, CO, HA, HB, HC, Nat.not_lt_zero, Nat.add_assoc, c_nlt, c_nle, c_neq, c_P, c_cl, c_m1, c_m1', nI_add, pk_mul, reduceIte, Nat.reduceEqDiff, Nat.reduceAdd, Nat.reduceMul, Nat.reduceLeDiff, eq_self, ↓pk_rem, pk_div, c_of, d_le, d_nle, d_lt, d_nlt, d_eq, d_ne]
          exact Ev_s ⟨rfl, (by repeat (first | assumption | exact Ag_r | refine Ag_I ?_ rfl | refine Ag_F ?_ rfl | refine Ag_J ?_ rfl))⟩
      · refine ⟨if m = 0 then nI (rest T H rn v (28 * o + e) 8 (H (28 * o + e)) (2 ^ H (28 * o + e)) 0).1 else nI (rest T H rn v (28 * o + e) 8 (H (28 * o + e)) (2 ^ H (28 * o + e)) 0).2, ?_, ?_⟩
        · obtain ⟨τ', x5, x7, x8, e2, hq⟩ := C_lastL (d := d + 1) (y3 := nI m) hC sC hw rC lC (show o < 8 by omega) (show e < 28 by omega) 8 0 (H (28 * o + e)) (2 ^ H (28 * o + e)) 0 σ (.float 0) rfl H8 b3.2 (Nat.le_refl _) Ag_r
          refine Ev_e (o' := den (d + 1 + 7, 107, 108, [.ref 0, .int (nI o), .int (nI e), .int (nI m), .int (nI (rest T H rn v (28 * o + e) 8 (H (28 * o + e)) (2 ^ H (28 * o + e)) 0).1), x5, .int (nI (rest T H rn v (28 * o + e) 8 (H (28 * o + e)) (2 ^ H (28 * o + e)) 0).2), x7, x8], [], τ')) ?_ ?_
          · rw [← e2]
            simp (disch := first | omega | (repeat (first | assumption | exact Ag_r | refine Ag_I ?_ rfl | refine Ag_F ?_ rfl | refine Ag_J ?_ rfl))) only [A107, FC hC, vC, if_pos hx, C_isDay', if_pos hy, Nat.mul_comm o 28, s1, bt3, CO, HA, HB, HC, Nat.not_lt_zero, Nat.add_assoc, c_nlt, c_nle, c_neq, c_P, c_cl, c_m1, c_m1', nI_add, pk_mul, reduceIte, Nat.reduceEqDiff, Nat.reduceAdd, Nat.reduceMul, Nat.reduceLeDiff, eq_self, ↓pk_rem, pk_div, c_of, d_le, d_nle, d_lt, d_nlt, d_eq, d_ne]
          · by_cases m0 : m = 0
            · rw [if_pos m0]
              simp (disch := first | omega | (repeat (first | assumption | exact Ag_r | refine Ag_I ?_ rfl | refine Ag_F ?_ rfl | refine Ag_J ?_ rfl))) only [A107, m0, CO, HA, HB, HC, Nat.not_lt_zero, Nat.add_assoc, c_nlt, c_nle, c_neq, c_P, c_cl, c_m1, c_m1', nI_add, pk_mul, reduceIte, Nat.reduceEqDiff, Nat.reduceAdd, Nat.reduceMul, Nat.reduceLeDiff, eq_self, ↓pk_rem, pk_div, c_of, d_le, d_nle, d_lt, d_nlt, d_eq, d_ne]
              exact Ev_s ⟨rfl, hq⟩
            · rw [if_neg m0]
              simp (disch := first | omega | (repeat (first | assumption | exact Ag_r | refine Ag_I ?_ rfl | refine Ag_F ?_ rfl | refine Ag_J ?_ rfl))) only [A107, m0, CO, HA, HB, HC, Nat.not_lt_zero, Nat.add_assoc, c_nlt, c_nle, c_neq, c_P, c_cl, c_m1, c_m1', nI_add, pk_mul, reduceIte, Nat.reduceEqDiff, Nat.reduceAdd, Nat.reduceMul, Nat.reduceLeDiff, eq_self, ↓pk_rem, pk_div, c_of, d_le, d_nle, d_lt, d_nlt, d_eq, d_ne]
              exact Ev_s ⟨rfl, hq⟩
        · simp (disch := first | omega | (repeat (first | assumption | exact Ag_r | refine Ag_I ?_ rfl | refine Ag_F ?_ rfl | refine Ag_J ?_ rfl))) only [A210, FM hM, M_isVillage' hM sM.1 hv1 hv8, if_pos hx, M_isDay, if_pos hy, M_in, l_lo, l_hi, CO, HA, HB, HC, Nat.not_lt_zero, Nat.add_assoc, c_nlt, c_nle, c_neq, c_P, c_cl, c_m1, c_m1', nI_add, pk_mul, reduceIte, Nat.reduceEqDiff, Nat.reduceAdd, Nat.reduceMul, Nat.reduceLeDiff, eq_self, ↓pk_rem, pk_div, c_of, d_le, d_nle, d_lt, d_nlt, d_eq, d_ne]
          refine Ev_b (M_load hM sM hw (by repeat (first | assumption | exact Ag_r | refine Ag_I ?_ rfl | refine Ag_F ?_ rfl | refine Ag_J ?_ rfl))) ?_
          rintro _ τ ⟨rfl, hq, hl⟩
          have h' := Qm_M hq hM
          obtain ⟨υ, x5, x8, e2, hq2, k2⟩ := M_lastL (d := d + 1) (x1 := .int (nI o)) (x2 := .int (nI e)) (x3 := .int (nI m)) hM sM hw rM lM (c := 28 * o + e) (by omega) 8 (H (28 * o + e)) (2 ^ H (28 * o + e)) 0 0 τ (.float 0) (fresh_8 v (by omega) _ Hv) Hv b3.2 (by omega) (by omega) Nat.testBit_two_pow_self hq (hl.1 _ (by omega)) (fun t ht _ => hl.2 t ht)
          have h2 := Qm_M hq2 hM
          refine Ev_e (o' := den (d + 1 + 7, 210, 148, [.ref 57, .int (nI o), .int (nI e), .int (nI m), .int (nI (28 * o + e)), x5, .int (nI (rest T H rn v (28 * o + e) 8 (H (28 * o + e)) (2 ^ H (28 * o + e)) 0).2), .int (-1), x8], [], υ)) ?_ ?_
          · rw [← e2]
            simp (disch := first | omega | (repeat (first | assumption | exact Ag_r | refine Ag_I ?_ rfl | refine Ag_F ?_ rfl | refine Ag_J ?_ rfl))) only [A210, FM h', hl.1 (28 * o + e) (by omega), bt3, CO, HA, HB, HC, Nat.not_lt_zero, Nat.add_assoc, c_nlt, c_nle, c_neq, c_P, c_cl, c_m1, c_m1', nI_add, pk_mul, reduceIte, Nat.reduceEqDiff, Nat.reduceAdd, Nat.reduceMul, Nat.reduceLeDiff, eq_self, ↓pk_rem, pk_div, c_of, d_le, d_nle, d_lt, d_nlt, d_eq, d_ne]
          · by_cases m0 : m = 0
            · rw [if_pos m0]
              simp (disch := first | omega | (repeat (first | assumption | exact Ag_r | refine Ag_I ?_ rfl | refine Ag_F ?_ rfl | refine Ag_J ?_ rfl))) only [A210, FM h2, m0, k2, CO, HA, HB, HC, Nat.not_lt_zero, Nat.add_assoc, c_nlt, c_nle, c_neq, c_P, c_cl, c_m1, c_m1', nI_add, pk_mul, reduceIte, Nat.reduceEqDiff, Nat.reduceAdd, Nat.reduceMul, Nat.reduceLeDiff, eq_self, ↓pk_rem, pk_div, c_of, d_le, d_nle, d_lt, d_nlt, d_eq, d_ne]
              exact Ev_s ⟨rfl, hq2⟩
            · rw [if_neg m0]
              simp (disch := first | omega | (repeat (first | assumption | exact Ag_r | refine Ag_I ?_ rfl | refine Ag_F ?_ rfl | refine Ag_J ?_ rfl))) only [A210, m0, CO, HA, HB, HC, Nat.not_lt_zero, Nat.add_assoc, c_nlt, c_nle, c_neq, c_P, c_cl, c_m1, c_m1', nI_add, pk_mul, reduceIte, Nat.reduceEqDiff, Nat.reduceAdd, Nat.reduceMul, Nat.reduceLeDiff, eq_self, ↓pk_rem, pk_div, c_of, d_le, d_nle, d_lt, d_nlt, d_eq, d_ne]
              exact Ev_s ⟨rfl, hq2⟩
      · refine ⟨-1, ?_, ?_⟩
        · simp (disch := first | omega | (repeat (first | assumption | exact Ag_r | refine Ag_I ?_ rfl | refine Ag_F ?_ rfl | refine Ag_J ?_ rfl))) only [A107, FC hC, vC, if_pos hx, C_isDay', if_pos hy, CO, HA, HB, HC, Nat.not_lt_zero, Nat.add_assoc, c_nlt, c_nle, c_neq, c_P, c_cl, c_m1, c_m1', nI_add, pk_mul, reduceIte, Nat.reduceEqDiff, Nat.reduceAdd, Nat.reduceMul, Nat.reduceLeDiff, eq_self, ↓pk_rem, pk_div, c_of, d_le, d_nle, d_lt, d_nlt, d_eq, d_ne]
          exact Ev_s ⟨rfl, (by repeat (first | assumption | exact Ag_r | refine Ag_I ?_ rfl | refine Ag_F ?_ rfl | refine Ag_J ?_ rfl))⟩
        · simp (disch := first | omega | (repeat (first | assumption | exact Ag_r | refine Ag_I ?_ rfl | refine Ag_F ?_ rfl | refine Ag_J ?_ rfl))) only [A210, FM hM, M_isVillage' hM sM.1 hv1 hv8, if_pos hx, M_isDay, if_pos hy, M_in, l_lo, l_hi, CO, HA, HB, HC, Nat.not_lt_zero, Nat.add_assoc, c_nlt, c_nle, c_neq, c_P, c_cl, c_m1, c_m1', nI_add, pk_mul, reduceIte, Nat.reduceEqDiff, Nat.reduceAdd, Nat.reduceMul, Nat.reduceLeDiff, eq_self, ↓pk_rem, pk_div, c_of, d_le, d_nle, d_lt, d_nlt, d_eq, d_ne]
          exact Ev_s ⟨rfl, (by repeat (first | assumption | exact Ag_r | refine Ag_I ?_ rfl | refine Ag_F ?_ rfl | refine Ag_J ?_ rfl))⟩
    · refine ⟨-1, ?_, ?_⟩
      · simp (disch := first | omega | (repeat (first | assumption | exact Ag_r | refine Ag_I ?_ rfl | refine Ag_F ?_ rfl | refine Ag_J ?_ rfl))) only [A107, FC hC, vC, if_pos hx, C_isDay', if_neg hy, CO, HA, HB, HC, Nat.not_lt_zero, Nat.add_assoc, c_nlt, c_nle, c_neq, c_P, c_cl, c_m1, c_m1', nI_add, pk_mul, reduceIte, Nat.reduceEqDiff, Nat.reduceAdd, Nat.reduceMul, Nat.reduceLeDiff, eq_self, ↓pk_rem, pk_div, c_of, d_le, d_nle, d_lt, d_nlt, d_eq, d_ne]
        exact Ev_s ⟨rfl, (by repeat (first | assumption | exact Ag_r | refine Ag_I ?_ rfl | refine Ag_F ?_ rfl | refine Ag_J ?_ rfl))⟩
      · simp (disch := first | omega | (repeat (first | assumption | exact Ag_r | refine Ag_I ?_ rfl | refine Ag_F ?_ rfl | refine Ag_J ?_ rfl))) only [A210, FM hM, M_isVillage' hM sM.1 hv1 hv8, if_pos hx, M_isDay, if_neg hy, CO, HA, HB, HC, Nat.not_lt_zero, Nat.add_assoc, c_nlt, c_nle, c_neq, c_P, c_cl, c_m1, c_m1', nI_add, pk_mul, reduceIte, Nat.reduceEqDiff, Nat.reduceAdd, Nat.reduceMul, Nat.reduceLeDiff, eq_self, ↓pk_rem, pk_div, c_of, d_le, d_nle, d_lt, d_nlt, d_eq, d_ne]
        exact Ev_s ⟨rfl, (by repeat (first | assumption | exact Ag_r | refine Ag_I ?_ rfl | refine Ag_F ?_ rfl | refine Ag_J ?_ rfl))⟩
  · refine ⟨-1, ?_, ?_⟩
    · simp (disch := first | omega | (repeat (first | assumption | exact Ag_r | refine Ag_I ?_ rfl | refine Ag_F ?_ rfl | refine Ag_J ?_ rfl))) only [A107, FC hC, vC, if_neg hx, CO, HA, HB, HC, Nat.not_lt_zero, Nat.add_assoc, c_nlt, c_nle, c_neq, c_P, c_cl, c_m1, c_m1', nI_add, pk_mul, reduceIte, Nat.reduceEqDiff, Nat.reduceAdd, Nat.reduceMul, Nat.reduceLeDiff, eq_self, ↓pk_rem, pk_div, c_of, d_le, d_nle, d_lt, d_nlt, d_eq, d_ne]
      exact Ev_s ⟨rfl, (by repeat (first | assumption | exact Ag_r | refine Ag_I ?_ rfl | refine Ag_F ?_ rfl | refine Ag_J ?_ rfl))⟩
    · simp (disch := first | omega | (repeat (first | assumption | exact Ag_r | refine Ag_I ?_ rfl | refine Ag_F ?_ rfl | refine Ag_J ?_ rfl))) only [A210, FM hM, M_isVillage' hM sM.1 hv1 hv8, if_neg hx, CO, HA, HB, HC, Nat.not_lt_zero, Nat.add_assoc, c_nlt, c_nle, c_neq, c_P, c_cl, c_m1, c_m1', nI_add, pk_mul, reduceIte, Nat.reduceEqDiff, Nat.reduceAdd, Nat.reduceMul, Nat.reduceLeDiff, eq_self, ↓pk_rem, pk_div, c_of, d_le, d_nle, d_lt, d_nlt, d_eq, d_ne]
      exact Ev_s ⟨rfl, (by repeat (first | assumption | exact Ag_r | refine Ag_I ?_ rfl | refine Ag_F ?_ rfl | refine Ag_J ?_ rfl))⟩
def rs (s : Nat) : Nat := (s * 1103 + 12345) % 1000003
theorem rs_lt (s : Nat) : rs s < 1000003 := Nat.mod_lt _ (by omega)
theorem C_draw (h : FxC τ) {s n : Nat} (hs : s < 1000003) (h1 : hF τ 31 3 = .long (lN s)) (hn : 1 ≤ n) (hn2 : n ≤ 28) : den (d, 47, 0, [.ref 31, .int (nI n)], [], τ) = some (some (.int (nI (rs s % n))), sF τ 31 3 (.long (lN (rs s)))) := by
  have r1 := rs_lt s
  simp (disch := first | omega | (repeat (first | assumption | exact Ag_r | refine Ag_I ?_ rfl | refine Ag_F ?_ rfl | refine Ag_J ?_ rfl))) only [A47, FC h, h1, lN_mul, lN_add, lN_rem, lN_ne, nI_l, lN_I, show (s * 1103 + 12345) % 1000003 = rs s from rfl, CO, HA, HB, HC, Nat.not_lt_zero, Nat.add_assoc, c_nlt, c_nle, c_neq, c_P, c_cl, c_m1, c_m1', nI_add, pk_mul, reduceIte, Nat.reduceEqDiff, Nat.reduceAdd, Nat.reduceMul, Nat.reduceLeDiff, eq_self, ↓pk_rem, pk_div, c_of, d_le, d_nle, d_lt, d_nlt, d_eq, d_ne]
theorem M_draw (h : FxM τ) {s n : Nat} (hs : s < 1000003) (h1 : hF τ 57 50 = .long (lN s)) (hn : 1 ≤ n) (hn2 : n ≤ 28) : den (d, 219, 0, [.ref 57, .int (nI n)], [], τ) = some (some (.int (nI (rs s % n))), sF τ 57 50 (.long (lN (rs s)))) := by
  have r1 := rs_lt s
  simp (disch := first | omega | (repeat (first | assumption | exact Ag_r | refine Ag_I ?_ rfl | refine Ag_F ?_ rfl | refine Ag_J ?_ rfl))) only [A219, FM h, h1, lN_mul, lN_add, lN_rem, lN_ne, nI_l, lN_I, show (s * 1103 + 12345) % 1000003 = rs s from rfl, CO, HA, HB, HC, Nat.not_lt_zero, Nat.add_assoc, c_nlt, c_nle, c_neq, c_P, c_cl, c_m1, c_m1', nI_add, pk_mul, reduceIte, Nat.reduceEqDiff, Nat.reduceAdd, Nat.reduceMul, Nat.reduceLeDiff, eq_self, ↓pk_rem, pk_div, c_of, d_le, d_nle, d_lt, d_nlt, d_eq, d_ne]
/-- a year's draw: who holds what, the seed, how many went -/
abbrev Ys : Type := (Nat → Nat) × Nat × Nat
def ysO (v s : Nat) : Nat := rs s % v
def ysC (v s : Nat) : Nat := 28 * (rs s % v) + rs (rs s) % 28
def ysT (v s : Nat) : Nat := rs (rs (rs s)) % v
def ysB (T : Tl) (rn : Nat → Nat) (v : Nat) (x : Ys) : Prop := x.1 (ysC v x.2.1) = ysT v x.2.1 ∨ tb T 2 (barW rn (ysC v x.2.1) (x.1 (ysC v x.2.1)) (ysT v x.2.1) (hd x.1 v (ysT v x.2.1))) = true
noncomputable def ys1 (T : Tl) (rn : Nat → Nat) (v : Nat) (x : Ys) : Ys := @ite _ (ysB T rn v x) (Classical.propDecidable _) (x.1, rs (rs (rs x.2.1)), x.2.2) (upN x.1 (ysC v x.2.1) (ysT v x.2.1), rs (rs (rs x.2.1)), x.2.2 + 1)
noncomputable def ysn (T : Tl) (rn : Nat → Nat) (v : Nat) (x : Ys) : Nat → Ys
  | 0 => x
  | n + 1 => ys1 T rn v (ysn T rn v x n)
theorem ys_y {T : Tl} {rn : Nat → Nat} {v : Nat} {x : Ys} (h : ysB T rn v x) : ys1 T rn v x = (x.1, rs (rs (rs x.2.1)), x.2.2) := if_pos h
theorem ys_n {T : Tl} {rn : Nat → Nat} {v : Nat} {x : Ys} (h : ¬ ysB T rn v x) : ys1 T rn v x = (upN x.1 (ysC v x.2.1) (ysT v x.2.1), rs (rs (rs x.2.1)), x.2.2 + 1) := if_neg h
theorem ysC_lt {v s : Nat} (hv : 1 ≤ v) : ysC v s < 28 * v := by
  have h1 : rs s % v < v := Nat.mod_lt _ (by omega)
  have h2 : rs (rs s) % 28 < 28 := Nat.mod_lt _ (by omega)
  unfold ysC
  omega
theorem ysT_lt {v s : Nat} (hv : 1 ≤ v) : ysT v s < v := Nat.mod_lt _ (by omega)
theorem ysn_ok (T : Tl) (rn : Nat → Nat) {v : Nat} {x : Ys} (h : Wf v x.1 ∧ x.2.1 < 1000003) : ∀ n, Wf v (ysn T rn v x n).1 ∧ (ysn T rn v x n).2.1 < 1000003 ∧ (ysn T rn v x n).2.2 ≤ x.2.2 + n
  | 0 => ⟨h.1, h.2, Nat.le_refl _⟩
  | n + 1 => by
    obtain ⟨a, b, c⟩ := ysn_ok T rn h n
    show Wf v (ys1 T rn v (ysn T rn v x n)).1 ∧ (ys1 T rn v (ysn T rn v x n)).2.1 < 1000003 ∧ (ys1 T rn v (ysn T rn v x n)).2.2 ≤ x.2.2 + (n + 1)
    by_cases z : ysB T rn v (ysn T rn v x n)
    · rw [ys_y z]; exact ⟨a, rs_lt _, by show (ysn T rn v x n).2.2 ≤ _; omega⟩
    · rw [ys_n z]; exact ⟨Wf_upd a (ysC_lt a.1) (ysT_lt a.1), rs_lt _, by show (ysn T rn v x n).2.2 + 1 ≤ _; omega⟩
def PaC (τ : Hp) (v : Nat) (x : Ys) : Prop := hF τ 31 2 = .int (nI v) ∧ hF τ 31 3 = .long (lN x.2.1) ∧ (∀ c, c < 224 → hI τ 32 c = nI (x.1 c)) ∧ ∀ u, u < 8 → hI τ 33 u = nI (hd x.1 v u)
def PaM (τ : Hp) (v : Nat) (x : Ys) : Prop := hF τ 57 52 = .int (nI v) ∧ hF τ 57 50 = .long (lN x.2.1) ∧ (∀ c, c < 224 → hI τ 72 c = nI (x.1 c)) ∧ ∀ u, u < 8 → hI τ 73 u = nI (hd x.1 v u)
/-- what a year may change in the class -/
def Fy : Nat → Nat → Bool := fun k j => (Nat.beq k 18 && (Nat.beq j 2 || Nat.beq j 3)) || (Nat.beq k 31 && (Nat.beq j 2 || Nat.beq j 3)) || (Nat.beq k 0 && Nat.beq j 11)
def Qya (σ τ : Hp) : Prop := Ag (fun k => Nat.beq k 19 || Nat.beq k 20 || Nat.beq k 32 || Nat.beq k 33) Fy σ τ
theorem bq {k x : Nat} (h : ¬ k = x) : Nat.beq k x = false := by
  cases q : Nat.beq k x with
  | false => rfl
  | true => exact absurd (Nat.eq_of_beq_eq_true q) h
theorem Fy_85 {k j : Nat} (h : 85 ≤ k) : Fy k j = false := by
  unfold Fy
  rw [bq (show ¬ k = 18 by omega), bq (show ¬ k = 31 by omega), bq (show ¬ k = 0 by omega)]; rfl
theorem Qya_C {σ τ : Hp} (g : Qya σ τ) (h : FxC σ) : FxC τ := FxC_a g (by decide) h
theorem Qya_I {σ τ : Hp} {T : Tl} (g : Qya σ τ) (h : InC σ T) : InC τ T := InC_a g ⟨rfl, rfl⟩ (fun k hk => ⟨by rw [bq (show ¬ k = 19 by omega), bq (show ¬ k = 20 by omega), bq (show ¬ k = 32 by omega), bq (show ¬ k = 33 by omega)]; rfl, Fy_85 hk⟩) h
theorem Qya_R {σ τ : Hp} {rn : Nat → Nat} (g : Qya σ τ) (h : RnC σ rn) : RnC τ rn := fun e he => by rw [Ag_i g 3 rfl]; exact h e he
theorem Qw_ya {σ τ : Hp} (g : Qw σ τ) : Qya σ τ := Ag_w g (fun k e => by rw [e]; rfl) (fun k j e => by unfold Fy; rw [e]; rfl)
theorem C_drawLoan (hC : FxC τ) (iC : InC τ T) (rC : RnC τ rn) {x : Ys} (hw : Wf v x.1) (hs : x.2.1 < 1000003) (pa : PaC τ v x) : Ev (den (d + 6, 46, 0, [.ref 31, .ref 1, .ref 18, .float 0, .float 0, .float 0, .float 0], [], τ)) (fun a υ => a = some (.int (nI ((ys1 T rn v x).2.2 - x.2.2))) ∧ Qya τ υ ∧ PaC υ v (ys1 T rn v x)) := by
  have hv1 := hw.1
  have hv8 := hw.2.1
  obtain ⟨p1, p2, p3, p4⟩ := pa
  have d0 := fun (d : Nat) => C_draw (d := d) hC hs p2 hv1 (by omega)
  have d1 := fun (d : Nat) => C_draw (d := d) (τ := sF τ 31 3 (.long (lN (rs x.2.1)))) (FxC_sF hC (by decide)) (rs_lt x.2.1) (by simp only [HA, and_self, reduceIte]) (show 1 ≤ 28 by omega) (Nat.le_refl _)
  have d2 := fun (d : Nat) => C_draw (d := d) (τ := sF τ 31 3 (.long (lN (rs (rs x.2.1))))) (FxC_sF hC (by decide)) (rs_lt (rs x.2.1)) (by simp only [HA, and_self, reduceIte]) hv1 (show v ≤ 28 by omega)
  simp only [HC] at d1 d2
  have cl := ysC_lt (v := v) (s := x.2.1) hv1
  have tl := ysT_lt (v := v) (s := x.2.1) hv1
  have ol : rs x.2.1 % v < v := Nat.mod_lt _ (by omega)
  have el : rs (rs x.2.1) % 28 < 28 := Nat.mod_lt _ (by omega)
  have k1 := p3 (ysC v x.2.1) (by omega)
  have k8 := Wf_8 hw (c := ysC v x.2.1) (by omega)
  have g0 : Qya τ (sF τ 31 3 (.long (lN (rs (rs (rs x.2.1)))))) := Ag_F Ag_r rfl
  have ec : 28 * (rs x.2.1 % v) + rs (rs x.2.1) % 28 = ysC v x.2.1 := rfl
  have et : rs (rs (rs x.2.1)) % v = ysT v x.2.1 := rfl
  by_cases z : x.1 (ysC v x.2.1) = ysT v x.2.1
  · have yb : ysB T rn v x := Or.inl z
    rw [ys_y yb]
    simp (disch := first | omega | (repeat (first | assumption | exact Ag_r | refine Ag_I ?_ rfl | refine Ag_F ?_ rfl | refine Ag_J ?_ rfl))) only [A46, FC hC, p1, d0, d1, d2, Nat.mul_comm (rs x.2.1 % v) 28, ec, et, k1, z, CO, HA, HB, HC, Nat.not_lt_zero, Nat.add_assoc, c_nlt, c_nle, c_neq, c_P, c_cl, c_m1, c_m1', nI_add, pk_mul, reduceIte, Nat.reduceEqDiff, Nat.reduceAdd, Nat.reduceMul, Nat.reduceLeDiff, eq_self, ↓pk_rem, pk_div, c_of, d_le, d_nle, d_lt, d_nlt, d_eq, d_ne]
    refine Ev_s ⟨by rw [Nat.sub_self], g0, by simp only [HA, Nat.reduceEqDiff, and_false, reduceIte]; exact p1, by simp only [HA, and_self, reduceIte], by simpa only [HA] using p3, by simpa only [HA] using p4⟩
  · have hh := p4 (ysT v x.2.1) (by omega)
    have hq := C_forbids (d := d) (σ := sF τ 31 3 (.long (lN (rs (rs (rs x.2.1)))))) (Qya_C g0 hC) (Qya_R g0 rC) (InC_Lf (Qya_C g0 hC) (Qya_I g0 iC)) (c := ysC v x.2.1) (ho := x.1 (ysC v x.2.1)) (to := ysT v x.2.1) (h := hd x.1 v (ysT v x.2.1)) (by omega) k8 (by omega) (hd_le x.1 _ hv8) Ag_r
    simp (disch := first | omega | (repeat (first | assumption | exact Ag_r | refine Ag_I ?_ rfl | refine Ag_F ?_ rfl | refine Ag_J ?_ rfl))) only [A46, FC hC, p1, d0, d1, d2, Nat.mul_comm (rs x.2.1 % v) 28, ec, et, k1, z, hh, CO, HA, HB, HC, Nat.not_lt_zero, Nat.add_assoc, c_nlt, c_nle, c_neq, c_P, c_cl, c_m1, c_m1', nI_add, pk_mul, reduceIte, Nat.reduceEqDiff, Nat.reduceAdd, Nat.reduceMul, Nat.reduceLeDiff, eq_self, ↓pk_rem, pk_div, c_of, d_le, d_nle, d_lt, d_nlt, d_eq, d_ne]
    refine Ev_b hq ?_
    rintro _ υ ⟨rfl, g1⟩
    have gq : Qya τ υ := Ag_t g0 (Qw_ya g1)
    have h2 := Qya_C gq hC
    have q1 : hF υ 31 2 = .int (nI v) := by rw [Ag_f g1 31 2 rfl]; simp only [HA, Nat.reduceEqDiff, and_false, reduceIte]; exact p1
    have q2 : hF υ 31 3 = .long (lN (rs (rs (rs x.2.1)))) := by rw [Ag_f g1 31 3 rfl]; simp only [HA, and_self, reduceIte]
    have q3 : ∀ c, c < 224 → hI υ 32 c = nI (x.1 c) := fun c hc => by rw [Ag_i g1 32 rfl]; simp only [HA]; exact p3 c hc
    have q4 : ∀ u, u < 8 → hI υ 33 u = nI (hd x.1 v u) := fun u hu => by rw [Ag_i g1 33 rfl]; simp only [HA]; exact p4 u hu
    by_cases b : tb T 2 (barW rn (ysC v x.2.1) (x.1 (ysC v x.2.1)) (ysT v x.2.1) (hd x.1 v (ysT v x.2.1))) = true
    · rw [ys_y (Or.inr b), if_pos b]
      simp (disch := first | omega | (repeat (first | assumption | exact Ag_r | refine Ag_I ?_ rfl | refine Ag_F ?_ rfl | refine Ag_J ?_ rfl))) only [A46, CO, HA, HB, HC, Nat.not_lt_zero, Nat.add_assoc, c_nlt, c_nle, c_neq, c_P, c_cl, c_m1, c_m1', nI_add, pk_mul, reduceIte, Nat.reduceEqDiff, Nat.reduceAdd, Nat.reduceMul, Nat.reduceLeDiff, eq_self, ↓pk_rem, pk_div, c_of, d_le, d_nle, d_lt, d_nlt, d_eq, d_ne]
      exact Ev_s ⟨by rw [Nat.sub_self], gq, q1, q2, q3, q4⟩
    · have nb : ¬ ysB T rn v x := fun h => h.elim z b
      rw [ys_n nb, if_neg b]
      have z1 := q4 (x.1 (ysC v x.2.1)) k8
      have z2 := q4 (ysT v x.2.1) (by omega)
      have hp := hd_pos (K := x.1) (v := v) cl
      have hl1 := hd_le x.1 (ysT v x.2.1) hv8
      have hl2 := hd_le x.1 (x.1 (ysC v x.2.1)) hv8
      have zz : ¬ ysT v x.2.1 = x.1 (ysC v x.2.1) := fun e => z e.symm
      simp (disch := first | omega | (repeat (first | assumption | exact Ag_r | refine Ag_I ?_ rfl | refine Ag_F ?_ rfl | refine Ag_J ?_ rfl))) only [A46, FC h2, z1, pk_sub, ua, z, zz, z2, CO, HA, HB, HC, Nat.not_lt_zero, Nat.add_assoc, c_nlt, c_nle, c_neq, c_P, c_cl, c_m1, c_m1', nI_add, pk_mul, reduceIte, Nat.reduceEqDiff, Nat.reduceAdd, Nat.reduceMul, Nat.reduceLeDiff, eq_self, ↓pk_rem, pk_div, c_of, d_le, d_nle, d_lt, d_nlt, d_eq, d_ne]
      refine Ev_s ⟨by rw [Nat.add_sub_cancel_left], Ag_I (Ag_I gq rfl) rfl, by simp only [HA]; exact q1, by simp only [HA]; exact q2, fun c hc => ?_, fun u hu => ?_⟩
      · simp only [HA, Nat.reduceEqDiff, reduceIte, ua, upN]
        split
        · rfl
        · exact q3 c hc
      · simp only [HA, Nat.reduceEqDiff, reduceIte, ua]
        rw [hd_upd cl z u]
        by_cases y1 : u = ysT v x.2.1
        · rw [if_pos y1, if_pos y1, y1]
        · rw [if_neg y1, if_neg y1]
          by_cases y2 : u = x.1 (ysC v x.2.1)
          · rw [if_pos y2, if_pos y2, y2]
          · rw [if_neg y2, if_neg y2]; exact q4 u hu
end
/-! year, drawn -/
def RfC (k : Nat) (w : Int32) (σ τ : Hp) : Prop := τ = sI (sF σ 0 11 (.int w)) 34 (upd (hI σ 34) k (hI σ 34 k + nI 1))
def RfM (j : Nat) (w : Int32) (ρ τ : Hp) : Prop := τ = sI (sF (sF ρ 57 0 (.int (nI 0))) 57 1 (.int w)) 58 (upd (hI ρ 58) j (hI ρ 58 j + nI 1))
def Fyb : Nat → Nat → Bool := fun k j => Fm k j || (Nat.beq k 57 && (Nat.beq j 1 || Nat.beq j 52))
def Qyb (σ τ : Hp) : Prop := Ag (fun k => Pm k || Nat.beq k 84) Fyb σ τ
theorem Qyb_M {σ τ : Hp} (g : Qyb σ τ) (h : FxM σ) : FxM τ := FxM_a g (by decide) h
theorem Qyb_I {σ τ : Hp} {T : Tl} (g : Qyb σ τ) (h : InM σ T) : InM τ T := InM_a g rfl h
theorem Qyb_R {σ τ : Hp} {rn : Nat → Nat} (g : Qyb σ τ) (h : RnM σ rn) : RnM τ rn := fun e he => by rw [Ag_i g 59 rfl]; exact h e he
theorem Qm_yb {σ τ : Hp} (g : Qm σ τ) : Qyb σ τ := Ag_w g (fun k e => by rw [e, Bool.true_or]) (fun k j e => by unfold Fyb; rw [e, Bool.true_or])
theorem Qs_yb {σ τ : Hp} (g : Qs σ τ) : Qyb σ τ := Qm_yb (Qs_m g)
/-- a year as it is told -/
def YrC (τ : Hp) (v : Nat) (K : Nat → Nat) : Prop := hF τ 31 2 = .int (nI v) ∧ (∀ c, c < 224 → hI τ 32 c = nI (K c) ∧ K c < 8) ∧ ∀ u, u < 8 → hI τ 33 u = nI (hd K v u)
def YrM (τ : Hp) (v : Nat) (K : Nat → Nat) : Prop := hF τ 57 52 = .int (nI v) ∧ ∀ u, u < v → hI τ 84 (2 * u) = nI (hd K v u) ∧ hI τ 84 (2 * u + 1) = nI (aw K u)
section
variable {d v : Nat} {H rn : Nat → Nat} {σ ρ τ : Hp} {T : Tl}
theorem C_begin (hC : FxC σ) (sC : StC σ v H) (hw : Wf v H) {s : Nat} (hs : s ≤ 1000000) : Ev (den (d + 1, 45, 0, [.ref 31, .ref 1, .int (nI s), .float 0], [], σ)) (fun a υ => a = none ∧ Qya σ υ ∧ PaC υ v (H, s, 0)) := by
  simp (disch := first | omega | (repeat (first | assumption | exact Ag_r | refine Ag_I ?_ rfl | refine Ag_F ?_ rfl | refine Ag_J ?_ rfl))) only [A45, FC hC, c_n0, sC.1, nI_l, CO, HA, HB, HC, Nat.not_lt_zero, Nat.add_assoc, c_nlt, c_nle, c_neq, c_P, c_cl, c_m1, c_m1', nI_add, pk_mul, reduceIte, Nat.reduceEqDiff, Nat.reduceAdd, Nat.reduceMul, Nat.reduceLeDiff, eq_self, ↓pk_rem, pk_div, c_of, d_le, d_nle, d_lt, d_nlt, d_eq, d_ne]
  have g0 : Qya σ (sF (sF (sI σ 32 (va_cpy (hI σ 2) (hI σ 32) 0 0 224)) 31 2 (.int (nI v))) 31 3 (.long (lN s))) := Ag_F (Ag_F (Ag_I Ag_r rfl) rfl) rfl
  refine lp (α := Hp) (h := fun i x => (d + 1, 45, 32, [.ref 31, .ref 1, .int (nI s), .int (nI i)], [], x)) (I := fun i x => Qya σ x ∧ hF x 31 2 = .int (nI v) ∧ hF x 31 3 = .long (lN s) ∧ (∀ c, c < 224 → hI x 32 c = nI (H c)) ∧ ∀ u, u < i → hI x 33 u = nI (hd H v u)) 8 ?_ ?_ 0 _ (Nat.zero_le _) ⟨g0, by simp only [HA, Nat.reduceEqDiff, and_false, and_self, reduceIte], by simp only [HA, and_self, reduceIte], fun c hc => by simp only [HA, reduceIte]; rw [cpy_at hc]; exact sC.2 c hc, fun u hu => absurd hu (Nat.not_lt_zero u)⟩
  · intro i υ hi ⟨g, p1, p2, p3, p4⟩ nx
    have h2 := Qya_C g hC
    have s2 : StC υ v H := ⟨by rw [Ag_f g 1 0 rfl]; exact sC.1, fun c hc => by rw [Ag_i g 2 rfl]; exact sC.2 c hc⟩
    have nn := nx (sI υ 33 (upd (hI υ 33) i (nI (hd H v i)))) ⟨Ag_I g rfl, p1, p2, by simpa only [HA, Nat.reduceEqDiff, reduceIte] using p3, fun u hu => by
      simp only [HA, reduceIte, ua]
      split
      · next y => rw [y]
      · exact p4 u (by omega)⟩
    refine Ev_e ?_ nn
    show den (d + 1, 45, 32, [.ref 31, .ref 1, .int (nI s), .int (nI i)], [], υ) = _
    rw [a45_32]
    simp (disch := first | omega | (repeat (first | assumption | exact Ag_r | refine Ag_I ?_ rfl | refine Ag_F ?_ rfl | refine Ag_J ?_ rfl))) only [A45, FC h2, C_held h2 s2 hw hi Ag_r, CO, HA, HB, HC, Nat.not_lt_zero, Nat.add_assoc, c_nlt, c_nle, c_neq, c_P, c_cl, c_m1, c_m1', nI_add, pk_mul, reduceIte, Nat.reduceEqDiff, Nat.reduceAdd, Nat.reduceMul, Nat.reduceLeDiff, eq_self, ↓pk_rem, pk_div, c_of, d_le, d_nle, d_lt, d_nlt, d_eq, d_ne]
  · intro υ ⟨g, p1, p2, p3, p4⟩
    show Ev (den (d + 1, 45, 32, [.ref 31, .ref 1, .int (nI s), .int (nI 8)], [], υ)) _
    rw [a45_32]
    simp (disch := first | omega | (repeat (first | assumption | exact Ag_r | refine Ag_I ?_ rfl | refine Ag_F ?_ rfl | refine Ag_J ?_ rfl))) only [A45, CO, HA, HB, HC, Nat.not_lt_zero, Nat.add_assoc, c_nlt, c_nle, c_neq, c_P, c_cl, c_m1, c_m1', nI_add, pk_mul, reduceIte, Nat.reduceEqDiff, Nat.reduceAdd, Nat.reduceMul, Nat.reduceLeDiff, eq_self, ↓pk_rem, pk_div, c_of, d_le, d_nle, d_lt, d_nlt, d_eq, d_ne]
    exact Ev_s ⟨rfl, g, p1, p2, p3, p4⟩
theorem C_year (hC : FxC σ) (sC : StC σ v H) (hw : Wf v H) (rC : RnC σ rn) (iC : InC σ T) {s n : Nat} (hs : s ≤ 1000000) (hn : 1 ≤ n) (hn2 : n ≤ 60) : Ev (den (d + 8, 113, 0, [.ref 0, .int (nI s), .int (nI n), .float 0, .float 0], [], σ)) (fun a υ => a = some (.int (nI (ysn T rn v (H, s, 0) n).2.2)) ∧ Qya σ υ ∧ YrC υ v (ysn T rn v (H, s, 0) n).1 ∧ hF υ 0 11 = .int (nI 0)) := by
  have W0 : Wf v ((H, s, 0) : Ys).1 ∧ ((H, s, 0) : Ys).2.1 < 1000003 := ⟨hw, by show s < 1000003; omega⟩
  simp (disch := first | omega | (repeat (first | assumption | exact Ag_r | refine Ag_I ?_ rfl | refine Ag_F ?_ rfl | refine Ag_J ?_ rfl))) only [A113, FC hC, CO, HA, HB, HC, Nat.not_lt_zero, Nat.add_assoc, c_nlt, c_nle, c_neq, c_P, c_cl, c_m1, c_m1', nI_add, pk_mul, reduceIte, Nat.reduceEqDiff, Nat.reduceAdd, Nat.reduceMul, Nat.reduceLeDiff, eq_self, ↓pk_rem, pk_div, c_of, d_le, d_nle, d_lt, d_nlt, d_eq, d_ne]
  refine Ev_b (C_begin (d := d + 6) hC sC hw hs) ?_
  rintro _ τ ⟨rfl, g0, pa⟩
  simp (disch := first | omega | (repeat (first | assumption | exact Ag_r | refine Ag_I ?_ rfl | refine Ag_F ?_ rfl | refine Ag_J ?_ rfl))) only [A113, CO, HA, HB, HC, Nat.not_lt_zero, Nat.add_assoc, c_nlt, c_nle, c_neq, c_P, c_cl, c_m1, c_m1', nI_add, pk_mul, reduceIte, Nat.reduceEqDiff, Nat.reduceAdd, Nat.reduceMul, Nat.reduceLeDiff, eq_self, ↓pk_rem, pk_div, c_of, d_le, d_nle, d_lt, d_nlt, d_eq, d_ne]
  refine lp (α := Hp) (h := fun i x => (d + 8, 113, 45, [.ref 0, .int (nI s), .int (nI n), .int (nI (ysn T rn v (H, s, 0) i).2.2), .int (nI i)], [], x)) (I := fun i x => Qya σ x ∧ PaC x v (ysn T rn v (H, s, 0) i)) n ?_ ?_ 0 τ (Nat.zero_le _) ⟨g0, pa⟩
  · intro i υ hi ⟨g, p⟩ nx
    have h2 := Qya_C g hC
    obtain ⟨w1, w2, w3⟩ := ysn_ok T rn W0 i
    have w3' : (ysn T rn v (H, s, 0) i).2.2 ≤ 0 + i := w3
    show Ev (den (d + 8, 113, 45, [.ref 0, .int (nI s), .int (nI n), .int (nI (ysn T rn v (H, s, 0) i).2.2), .int (nI i)], [], υ)) _
    rw [a113_45]
    simp (disch := first | omega | (repeat (first | assumption | exact Ag_r | refine Ag_I ?_ rfl | refine Ag_F ?_ rfl | refine Ag_J ?_ rfl))) only [A113, FC h2, CO, HA, HB, HC, Nat.not_lt_zero, Nat.add_assoc, c_nlt, c_nle, c_neq, c_P, c_cl, c_m1, c_m1', nI_add, pk_mul, reduceIte, Nat.reduceEqDiff, Nat.reduceAdd, Nat.reduceMul, Nat.reduceLeDiff, eq_self, ↓pk_rem, pk_div, c_of, d_le, d_nle, d_lt, d_nlt, d_eq, d_ne]
    refine Ev_b (C_drawLoan (d := d + 1) h2 (Qya_I g iC) (Qya_R g rC) w1 w2 p) ?_
    rintro _ ω ⟨rfl, g2, p2⟩
    have nn := nx ω ⟨Ag_t g g2, p2⟩
    have st : ysn T rn v (H, s, 0) (i + 1) = ys1 T rn v (ysn T rn v (H, s, 0) i) := rfl
    rw [st] at nn
    by_cases z : ysB T rn v (ysn T rn v (H, s, 0) i)
    · rw [ys_y z] at nn ⊢
      refine Ev_e ?_ nn
      simp (disch := first | omega | (repeat (first | assumption | exact Ag_r | refine Ag_I ?_ rfl | refine Ag_F ?_ rfl | refine Ag_J ?_ rfl))) only [A113, Nat.sub_self, CO, HA, HB, HC, Nat.not_lt_zero, Nat.add_assoc, c_nlt, c_nle, c_neq, c_P, c_cl, c_m1, c_m1', nI_add, pk_mul, reduceIte, Nat.reduceEqDiff, Nat.reduceAdd, Nat.reduceMul, Nat.reduceLeDiff, eq_self, ↓pk_rem, pk_div, c_of, d_le, d_nle, d_lt, d_nlt, d_eq, d_ne]
    · rw [ys_n z] at nn ⊢
      refine Ev_e ?_ nn
      simp (disch := first | omega | (repeat (first | assumption | exact Ag_r | refine Ag_I ?_ rfl | refine Ag_F ?_ rfl | refine Ag_J ?_ rfl))) only [A113, Nat.add_sub_cancel_left, CO, HA, HB, HC, Nat.not_lt_zero, Nat.add_assoc, c_nlt, c_nle, c_neq, c_P, c_cl, c_m1, c_m1', nI_add, pk_mul, reduceIte, Nat.reduceEqDiff, Nat.reduceAdd, Nat.reduceMul, Nat.reduceLeDiff, eq_self, ↓pk_rem, pk_div, c_of, d_le, d_nle, d_lt, d_nlt, d_eq, d_ne]
  · intro υ ⟨g, p⟩
    have h2 := Qya_C g hC
    obtain ⟨w1, w2, w3⟩ := ysn_ok T rn W0 n
    show Ev (den (d + 8, 113, 45, [.ref 0, .int (nI s), .int (nI n), .int (nI (ysn T rn v (H, s, 0) n).2.2), .int (nI n)], [], υ)) _
    rw [a113_45]
    simp (disch := first | omega | (repeat (first | assumption | exact Ag_r | refine Ag_I ?_ rfl | refine Ag_F ?_ rfl | refine Ag_J ?_ rfl))) only [A113, FC h2, C_accept h2, CO, HA, HB, HC, Nat.not_lt_zero, Nat.add_assoc, c_nlt, c_nle, c_neq, c_P, c_cl, c_m1, c_m1', nI_add, pk_mul, reduceIte, Nat.reduceEqDiff, Nat.reduceAdd, Nat.reduceMul, Nat.reduceLeDiff, eq_self, ↓pk_rem, pk_div, c_of, d_le, d_nle, d_lt, d_nlt, d_eq, d_ne]
    refine Ev_s ⟨rfl, Ag_F g rfl, ⟨?_, fun c hc => ⟨?_, Wf_8 w1 hc⟩, fun u hu => ?_⟩, by simp only [HA, and_self, reduceIte]⟩
    · simp only [HA, Nat.reduceEqDiff, false_and, reduceIte]; exact p.1
    · simp only [HA]; exact p.2.2.1 c hc
    · simp only [HA]; exact p.2.2.2 u hu
theorem sI_sw {k k' : Nat} {f g : Nat → Int32} (h : ¬ k = k') : sI (sI τ k' g) k f = sI (sI τ k f) k' g := by
  unfold sI
  simp only [Prod.mk.injEq, true_and, and_true]
  funext z
  dsimp only [hI]
  by_cases a : z = k
  · subst a; simp [h]
  · by_cases b : z = k'
    · subst b; simp [a]
    · simp [a, b]
/-- load, from the call's first row on -/
theorem M_loadY (hM : FxM ρ) (sM : StM ρ v H) (hw : Wf v H) : Ev (den (d + 2, 178, 0, [.ref 57, .float 0], [], sF ρ 57 0 (.int (nI 0)))) (fun a υ => a = none ∧ Qyb ρ υ ∧ LdM υ v H) := Ev_m (M_load hM sM hw (Ag_F Ag_r rfl)) (fun a υ h => ⟨h.1, Qm_yb h.2.1, h.2.2⟩)
theorem M_year (hM : FxM ρ) (sM : StM ρ v H) (hw : Wf v H) (rM : RnM ρ rn) (iM : InM ρ T) {s n : Nat} (hs : s ≤ 1000000) (hn : 1 ≤ n) (hn2 : n ≤ 60) : Ev (den (d + 8, 220, 0, [.ref 57, .int (nI s), .int (nI n), .float 0, .float 0, .float 0, .float 0, .float 0], [], ρ)) (fun a υ => a = some (.int (nI (ysn T rn v (H, s, 0) n).2.2)) ∧ Qyb ρ υ ∧ YrM υ v (ysn T rn v (H, s, 0) n).1 ∧ hF υ 57 1 = .int (nI 0)) := by
  have W0 : Wf v ((H, s, 0) : Ys).1 ∧ ((H, s, 0) : Ys).2.1 < 1000003 := ⟨hw, by show s < 1000003; omega⟩
  have hv1 := hw.1
  have hv8 := hw.2.1
  simp (disch := first | omega | (repeat (first | assumption | exact Ag_r | refine Ag_I ?_ rfl | refine Ag_F ?_ rfl | refine Ag_J ?_ rfl))) only [A220, FM hM, M_in, l_lo, l_hi, CO, HA, HB, HC, Nat.not_lt_zero, Nat.add_assoc, c_nlt, c_nle, c_neq, c_P, c_cl, c_m1, c_m1', nI_add, pk_mul, reduceIte, Nat.reduceEqDiff, Nat.reduceAdd, Nat.reduceMul, Nat.reduceLeDiff, eq_self, ↓pk_rem, pk_div, c_of, d_le, d_nle, d_lt, d_nlt, d_eq, d_ne]
  refine Ev_b (M_loadY hM sM hw) ?_
  rintro _ τ ⟨rfl, g0, ld⟩
  have h0 := Qyb_M g0 hM
  have v0 : hI τ 59 0 = nI v := by rw [Ag_i g0 59 rfl]; exact sM.1
  simp (disch := first | omega | (repeat (first | assumption | exact Ag_r | refine Ag_I ?_ rfl | refine Ag_F ?_ rfl | refine Ag_J ?_ rfl))) only [A220, FM h0, nI_l, M_villages h0, v0, M_villages (FxM_sF h0 (k := 57) (j := 50) (v := .long (lN s)) (Or.inr (by decide))), CO, HA, HB, HC, Nat.not_lt_zero, Nat.add_assoc, c_nlt, c_nle, c_neq, c_P, c_cl, c_m1, c_m1', nI_add, pk_mul, reduceIte, Nat.reduceEqDiff, Nat.reduceAdd, Nat.reduceMul, Nat.reduceLeDiff, eq_self, ↓pk_rem, pk_div, c_of, d_le, d_nle, d_lt, d_nlt, d_eq, d_ne]
  refine lp (α := Hp × Value × Value × Value) (h := fun i x => (d + 8, 220, 58, [.ref 57, .int (nI s), .int (nI n), .int (nI (ysn T rn v (H, s, 0) i).2.2), .int (nI i), x.2.1, x.2.2.1, x.2.2.2], [], x.1)) (I := fun i x => Qyb ρ x.1 ∧ PaM x.1 v (ysn T rn v (H, s, 0) i)) n ?_ ?_ 0 (sF (sF τ 57 50 (.long (lN s))) 57 52 (.int (nI v)), .float 0, .float 0, .float 0) (Nat.zero_le _) ⟨Ag_F (Ag_F g0 rfl) rfl, by simp only [HA, and_self, reduceIte], by simp only [HA, Nat.reduceEqDiff, and_false, and_self, reduceIte]; rfl, fun c hc => by simp only [HA]; exact ld.1 c hc, fun u hu => by simp only [HA]; exact ld.2 u hu⟩
  · intro i ⟨υ, l1, l2, l3⟩ hi ⟨g, pa⟩ nx
    dsimp only at g pa
    have h2 := Qyb_M g hM
    obtain ⟨w1, w2, w3⟩ := ysn_ok T rn W0 i
    have w3' : (ysn T rn v (H, s, 0) i).2.2 ≤ 0 + i := w3
    have st : ysn T rn v (H, s, 0) (i + 1) = ys1 T rn v (ysn T rn v (H, s, 0) i) := rfl
    rw [st] at nx
    show Ev (den (d + 8, 220, 58, [.ref 57, .int (nI s), .int (nI n), .int (nI (ysn T rn v (H, s, 0) i).2.2), .int (nI i), l1, l2, l3], [], υ)) _
    generalize ysn T rn v (H, s, 0) i = x at *
    obtain ⟨p1, p2, p3, p4⟩ := pa
    have d0 := fun (d : Nat) => M_draw (d := d) h2 w2 p2 hv1 (show v ≤ 28 by omega)
    have d1 := fun (d : Nat) => M_draw (d := d) (τ := sF υ 57 50 (.long (lN (rs x.2.1)))) (FxM_sF h2 (Or.inr (by decide))) (rs_lt x.2.1) (by simp only [HA, and_self, reduceIte]) (show 1 ≤ 28 by omega) (Nat.le_refl _)
    have d2 := fun (d : Nat) => M_draw (d := d) (τ := sF υ 57 50 (.long (lN (rs (rs x.2.1))))) (FxM_sF h2 (Or.inr (by decide))) (rs_lt (rs x.2.1)) (by simp only [HA, and_self, reduceIte]) hv1 (show v ≤ 28 by omega)
    simp only [HC] at d1 d2
    have cl := ysC_lt (v := v) (s := x.2.1) hv1
    have tl := ysT_lt (v := v) (s := x.2.1) hv1
    have ol : rs x.2.1 % v < v := Nat.mod_lt _ (by omega)
    have el : rs (rs x.2.1) % 28 < 28 := Nat.mod_lt _ (by omega)
    have k1 := p3 (ysC v x.2.1) (by omega)
    have k8 := Wf_8 w1 (c := ysC v x.2.1) (by omega)
    have g1 : Qyb υ (sF υ 57 50 (.long (lN (rs (rs (rs x.2.1)))))) := Ag_F Ag_r rfl
    have ec : 28 * (rs x.2.1 % v) + rs (rs x.2.1) % 28 = ysC v x.2.1 := rfl
    have et : rs (rs (rs x.2.1)) % v = ysT v x.2.1 := rfl
    have qa : hF (sF υ 57 50 (.long (lN (rs (rs (rs x.2.1)))))) 57 52 = .int (nI v) := by simp only [HA, Nat.reduceEqDiff, and_false, reduceIte]; exact p1
    rw [a220_58]
    by_cases z : x.1 (ysC v x.2.1) = ysT v x.2.1
    · have yb : ysB T rn v x := Or.inl z
      rw [ys_y yb] at nx
      refine Ev_e ?_ (nx (sF υ 57 50 (.long (lN (rs (rs (rs x.2.1))))), .int (nI (rs x.2.1 % v)), .int (nI (ysC v x.2.1)), .int (nI (ysT v x.2.1))) ⟨Ag_t g g1, qa, by simp only [HA, and_self, reduceIte], by simpa only [HA] using p3, by simpa only [HA] using p4⟩)
      simp (disch := first | omega | (repeat (first | assumption | exact Ag_r | refine Ag_I ?_ rfl | refine Ag_F ?_ rfl | refine Ag_J ?_ rfl))) only [A220, FM h2, p1, d0, d1, d2, ec, et, k1, z, CO, HA, HB, HC, Nat.not_lt_zero, Nat.add_assoc, c_nlt, c_nle, c_neq, c_P, c_cl, c_m1, c_m1', nI_add, pk_mul, reduceIte, Nat.reduceEqDiff, Nat.reduceAdd, Nat.reduceMul, Nat.reduceLeDiff, eq_self, ↓pk_rem, pk_div, c_of, d_le, d_nle, d_lt, d_nlt, d_eq, d_ne]
    · have hh := p4 (ysT v x.2.1) (by omega)
      have h3 := Qyb_M g1 h2
      have hq := M_isB2 (d := d + 1) (ρ := sF υ 57 50 (.long (lN (rs (rs (rs x.2.1)))))) (τ := sF υ 57 50 (.long (lN (rs (rs (rs x.2.1)))))) (Qyb_M g1 h2) (Qyb_R (Ag_t g g1) rM) (InM_Lf (Qyb_M g1 h2) (Qyb_I (Ag_t g g1) iM)) (c := ysC v x.2.1) (to := ysT v x.2.1) (by omega) (by omega) Ag_r (by simpa only [HA] using k1) k8 (by simpa only [HA] using hh) (by have := hd_le x.1 (ysT v x.2.1) hv8; omega)
      simp (disch := first | omega | (repeat (first | assumption | exact Ag_r | refine Ag_I ?_ rfl | refine Ag_F ?_ rfl | refine Ag_J ?_ rfl))) only [A220, FM h2, p1, d0, d1, d2, ec, et, k1, z, CO, HA, HB, HC, Nat.not_lt_zero, Nat.add_assoc, c_nlt, c_nle, c_neq, c_P, c_cl, c_m1, c_m1', nI_add, pk_mul, reduceIte, Nat.reduceEqDiff, Nat.reduceAdd, Nat.reduceMul, Nat.reduceLeDiff, eq_self, ↓pk_rem, pk_div, c_of, d_le, d_nle, d_lt, d_nlt, d_eq, d_ne]
      refine Ev_b hq ?_
      rintro _ ω ⟨rfl, g2⟩
      have gq : Qyb υ ω := Ag_t g1 (Qs_yb g2)
      have h4 := Qyb_M gq h2
      have q1 : hF ω 57 52 = .int (nI v) := by rw [Ag_f g2 57 52 rfl]; exact qa
      have q2 : hF ω 57 50 = .long (lN (rs (rs (rs x.2.1)))) := by rw [Ag_f g2 57 50 rfl]; simp only [HA, and_self, reduceIte]
      have q3 : ∀ c, c < 224 → hI ω 72 c = nI (x.1 c) := fun c hc => by rw [Ag_i g2 72 rfl]; simp only [HA]; exact p3 c hc
      have q4 : ∀ u, u < 8 → hI ω 73 u = nI (hd x.1 v u) := fun u hu => by rw [Ag_i g2 73 rfl]; simp only [HA]; exact p4 u hu
      by_cases b : tb T 2 (barW rn (ysC v x.2.1) (x.1 (ysC v x.2.1)) (ysT v x.2.1) (hd x.1 v (ysT v x.2.1))) = true
      · rw [ys_y (Or.inr b)] at nx
        rw [if_pos b]
        refine Ev_e ?_ (nx (ω, .int (nI (rs x.2.1 % v)), .int (nI (ysC v x.2.1)), .int (nI (ysT v x.2.1))) ⟨Ag_t g gq, q1, q2, q3, q4⟩)
        simp (disch := first | omega | (repeat (first | assumption | exact Ag_r | refine Ag_I ?_ rfl | refine Ag_F ?_ rfl | refine Ag_J ?_ rfl))) only [A220, CO, HA, HB, HC, Nat.not_lt_zero, Nat.add_assoc, c_nlt, c_nle, c_neq, c_P, c_cl, c_m1, c_m1', nI_add, pk_mul, reduceIte, Nat.reduceEqDiff, Nat.reduceAdd, Nat.reduceMul, Nat.reduceLeDiff, eq_self, ↓pk_rem, pk_div, c_of, d_le, d_nle, d_lt, d_nlt, d_eq, d_ne]
      · have nb : ¬ ysB T rn v x := fun h => h.elim z b
        rw [ys_n nb] at nx
        rw [if_neg b]
        have z1 := q4 (x.1 (ysC v x.2.1)) k8
        have z2 := q4 (ysT v x.2.1) (by omega)
        have z0 := q3 (ysC v x.2.1) (by omega)
        have hp := hd_pos (K := x.1) (v := v) cl
        have hl1 := hd_le x.1 (ysT v x.2.1) hv8
        have hl2 := hd_le x.1 (x.1 (ysC v x.2.1)) hv8
        have zz : ¬ ysT v x.2.1 = x.1 (ysC v x.2.1) := fun e => z e.symm
        refine Ev_e ?_ (nx (sI (sI ω 72 (upd (hI ω 72) (ysC v x.2.1) (nI (ysT v x.2.1)))) 73 (upd (upd (hI ω 73) (x.1 (ysC v x.2.1)) (nI (hd x.1 v (x.1 (ysC v x.2.1)) - 1))) (ysT v x.2.1) (nI (hd x.1 v (ysT v x.2.1) + 1))), .int (nI (rs x.2.1 % v)), .int (nI (ysC v x.2.1)), .int (nI (ysT v x.2.1))) ⟨Ag_t g (Ag_I (Ag_I gq rfl) rfl), q1, q2, fun c hc => ?_, fun u hu => ?_⟩)
        · simp (disch := first | omega | (repeat (first | assumption | exact Ag_r | refine Ag_I ?_ rfl | refine Ag_F ?_ rfl | refine Ag_J ?_ rfl))) only [A220, A179, FM h4, z0, z1, pk_sub, ua, z, zz, z2, CO, HA, HB, HC, Nat.not_lt_zero, Nat.add_assoc, c_nlt, c_nle, c_neq, c_P, c_cl, c_m1, c_m1', nI_add, pk_mul, reduceIte, Nat.reduceEqDiff, Nat.reduceAdd, Nat.reduceMul, Nat.reduceLeDiff, eq_self, ↓pk_rem, pk_div, c_of, d_le, d_nle, d_lt, d_nlt, d_eq, d_ne]
          rw [sI_sw (show ¬ 72 = 73 by omega), sI_sI]
        · simp only [HA, Nat.reduceEqDiff, reduceIte, ua, upN]
          split
          · rfl
          · exact q3 c hc
        · simp only [HA, Nat.reduceEqDiff, reduceIte, ua]
          rw [hd_upd cl z u]
          by_cases y1 : u = ysT v x.2.1
          · rw [if_pos y1, if_pos y1, y1]
          · rw [if_neg y1, if_neg y1]
            by_cases y2 : u = x.1 (ysC v x.2.1)
            · rw [if_pos y2, if_pos y2, y2]
            · rw [if_neg y2, if_neg y2]; exact q4 u hu
  · intro ⟨υ, l1, l2, l3⟩ ⟨g, pa⟩
    dsimp only at g pa
    obtain ⟨w1, w2, w3⟩ := ysn_ok T rn W0 n
    have w3' : (ysn T rn v (H, s, 0) n).2.2 ≤ 0 + n := w3
    show Ev (den (d + 8, 220, 58, [.ref 57, .int (nI s), .int (nI n), .int (nI (ysn T rn v (H, s, 0) n).2.2), .int (nI n), l1, l2, l3], [], υ)) _
    generalize ysn T rn v (H, s, 0) n = x at *
    obtain ⟨p1, p2, p3, p4⟩ := pa
    rw [a220_58]
    simp (disch := first | omega | (repeat (first | assumption | exact Ag_r | refine Ag_I ?_ rfl | refine Ag_F ?_ rfl | refine Ag_J ?_ rfl))) only [A220, CO, HA, HB, HC, Nat.not_lt_zero, Nat.add_assoc, c_nlt, c_nle, c_neq, c_P, c_cl, c_m1, c_m1', nI_add, pk_mul, reduceIte, Nat.reduceEqDiff, Nat.reduceAdd, Nat.reduceMul, Nat.reduceLeDiff, eq_self, ↓pk_rem, pk_div, c_of, d_le, d_nle, d_lt, d_nlt, d_eq, d_ne]
    refine lp (α := Hp × Value) (h := fun u y => (d + 8, 220, 141, [.ref 57, .int (nI s), .int (nI n), .int (nI x.2.2), .int (nI u), y.2, l2, l3], [], y.1)) (I := fun u y => Qyb ρ y.1 ∧ hF y.1 57 52 = .int (nI v) ∧ (∀ c, c < 224 → hI y.1 72 c = nI (x.1 c)) ∧ (∀ u, u < 8 → hI y.1 73 u = nI (hd x.1 v u)) ∧ ∀ u', u' < u → hI y.1 84 (2 * u') = nI (hd x.1 v u') ∧ hI y.1 84 (2 * u' + 1) = nI (aw x.1 u')) v ?_ ?_ 0 (υ, l1) (Nat.zero_le _) ⟨g, p1, p3, p4, fun u hu => absurd hu (Nat.not_lt_zero u)⟩
    · clear p1 p3 p4 g
      intro u ⟨υ, l1⟩ hu ⟨g, p1, p3, p4, p5⟩ nx
      dsimp only at g p1 p3 p4 p5
      have h2 := Qyb_M g hM
      show Ev (den (d + 8, 220, 141, [.ref 57, .int (nI s), .int (nI n), .int (nI x.2.2), .int (nI u), l1, l2, l3], [], υ)) _
      rw [a220_141]
      simp (disch := first | omega | (repeat (first | assumption | exact Ag_r | refine Ag_I ?_ rfl | refine Ag_F ?_ rfl | refine Ag_J ?_ rfl))) only [A220, FM h2, p1, p4 u (by omega), CO, HA, HB, HC, Nat.not_lt_zero, Nat.add_assoc, c_nlt, c_nle, c_neq, c_P, c_cl, c_m1, c_m1', nI_add, pk_mul, reduceIte, Nat.reduceEqDiff, Nat.reduceAdd, Nat.reduceMul, Nat.reduceLeDiff, eq_self, ↓pk_rem, pk_div, c_of, d_le, d_nle, d_lt, d_nlt, d_eq, d_ne]
      refine lp (α := Hp) (h := fun e y => (d + 8, 220, 181, [.ref 57, .int (nI s), .int (nI n), .int (nI x.2.2), .int (nI u), .int (nI e), l2, l3], [], y)) (I := fun e y => Qyb ρ y ∧ hF y 57 52 = .int (nI v) ∧ (∀ c, c < 224 → hI y 72 c = nI (x.1 c)) ∧ (∀ u, u < 8 → hI y 73 u = nI (hd x.1 v u)) ∧ hI y 84 (2 * u) = nI (hd x.1 v u) ∧ hI y 84 (2 * u + 1) = nI (cB (fun e => decide (¬ x.1 (28 * u + e) = u)) e) ∧ ∀ u', u' < u → hI y 84 (2 * u') = nI (hd x.1 v u') ∧ hI y 84 (2 * u' + 1) = nI (aw x.1 u')) 28 ?_ ?_ 0 _ (Nat.zero_le _) ⟨Ag_I g rfl, p1, by simpa only [HA, Nat.reduceEqDiff, reduceIte] using p3, by simpa only [HA, Nat.reduceEqDiff, reduceIte] using p4, ?_, ?_, fun u' hu' => ?_⟩
      · clear p1 p3 p4 p5 g h2
        intro e υ he ⟨g, p1, p3, p4, p6, p7, p5⟩ nx2
        have h2 := Qyb_M g hM
        have k1 := p3 (28 * u + e) (by omega)
        have k8 := Wf_8 w1 (c := 28 * u + e) (by omega)
        have cb := cB_le (fun e => decide (¬ x.1 (28 * u + e) = u)) e
        have nn := nx2 (sI υ 84 (upd (hI υ 84) (2 * u + 1) (nI (cB (fun e => decide (¬ x.1 (28 * u + e) = u)) (e + 1))))) ⟨Ag_I g rfl, p1, by simpa only [HA, Nat.reduceEqDiff, reduceIte] using p3, by simpa only [HA, Nat.reduceEqDiff, reduceIte] using p4, by simp only [HA, reduceIte, ua]; rw [if_neg (by omega)]; exact p6, by simp only [HA, reduceIte, ua], fun u' hu' => by simp only [HA, reduceIte, ua]; rw [if_neg (by omega), if_neg (by omega)]; exact p5 u' hu'⟩
        refine Ev_e ?_ nn
        show den (d + 8, 220, 181, [.ref 57, .int (nI s), .int (nI n), .int (nI x.2.2), .int (nI u), .int (nI e), l2, l3], [], υ) = _
        rw [a220_181]
        by_cases z : x.1 (28 * u + e) = u
        · rw [cB_n (by simp [z])]
          simp (disch := first | omega | (repeat (first | assumption | exact Ag_r | refine Ag_I ?_ rfl | refine Ag_F ?_ rfl | refine Ag_J ?_ rfl))) only [A220, FM h2, k1, z, p7, Nat.add_zero, CO, HA, HB, HC, Nat.not_lt_zero, Nat.add_assoc, c_nlt, c_nle, c_neq, c_P, c_cl, c_m1, c_m1', nI_add, pk_mul, reduceIte, Nat.reduceEqDiff, Nat.reduceAdd, Nat.reduceMul, Nat.reduceLeDiff, eq_self, ↓pk_rem, pk_div, c_of, d_le, d_nle, d_lt, d_nlt, d_eq, d_ne]
        · rw [cB_y (by simp [z])]
          simp (disch := first | omega | (repeat (first | assumption | exact Ag_r | refine Ag_I ?_ rfl | refine Ag_F ?_ rfl | refine Ag_J ?_ rfl))) only [A220, FM h2, k1, z, p7, CO, HA, HB, HC, Nat.not_lt_zero, Nat.add_assoc, c_nlt, c_nle, c_neq, c_P, c_cl, c_m1, c_m1', nI_add, pk_mul, reduceIte, Nat.reduceEqDiff, Nat.reduceAdd, Nat.reduceMul, Nat.reduceLeDiff, eq_self, ↓pk_rem, pk_div, c_of, d_le, d_nle, d_lt, d_nlt, d_eq, d_ne]
      · clear p1 p3 p4 p5 g h2
        intro υ ⟨g, p1, p3, p4, p6, p7, p5⟩
        have nn := nx (υ, .int (nI 28)) ⟨g, p1, p3, p4, fun u' hu' => by
          by_cases y : u' = u
          · subst y; exact ⟨p6, p7⟩
          · exact p5 u' (by omega)⟩
        refine Ev_e ?_ nn
        show den (d + 8, 220, 181, [.ref 57, .int (nI s), .int (nI n), .int (nI x.2.2), .int (nI u), .int (nI 28), l2, l3], [], υ) = _
        rw [a220_181]
        simp (disch := first | omega | (repeat (first | assumption | exact Ag_r | refine Ag_I ?_ rfl | refine Ag_F ?_ rfl | refine Ag_J ?_ rfl))) only [A220, CO, HA, HB, HC, Nat.not_lt_zero, Nat.add_assoc, c_nlt, c_nle, c_neq, c_P, c_cl, c_m1, c_m1', nI_add, pk_mul, reduceIte, Nat.reduceEqDiff, Nat.reduceAdd, Nat.reduceMul, Nat.reduceLeDiff, eq_self, ↓pk_rem, pk_div, c_of, d_le, d_nle, d_lt, d_nlt, d_eq, d_ne]
      · simp only [HA, reduceIte, ua]; rw [if_neg (by omega)]
      · simp only [HA, reduceIte, ua]; rfl
      · simp only [HA, reduceIte, ua]
        rw [if_neg (by omega), if_neg (by omega), if_neg (by omega), if_neg (by omega)]
        exact p5 u' hu'
    · clear p1 p3 p4 g
      intro ⟨υ, l1⟩ ⟨g, p1, p3, p4, p5⟩
      dsimp only at g p1 p3 p4 p5
      have h2 := Qyb_M g hM
      show Ev (den (d + 8, 220, 141, [.ref 57, .int (nI s), .int (nI n), .int (nI x.2.2), .int (nI v), l1, l2, l3], [], υ)) _
      rw [a220_141]
      simp (disch := first | omega | (repeat (first | assumption | exact Ag_r | refine Ag_I ?_ rfl | refine Ag_F ?_ rfl | refine Ag_J ?_ rfl))) only [A220, FM h2, p1, M_tell h2 (show ¬ nI x.2.2 < nI 0 by rw [c_nlt (by omega) (by omega)]; omega), CO, HA, HB, HC, Nat.not_lt_zero, Nat.add_assoc, c_nlt, c_nle, c_neq, c_P, c_cl, c_m1, c_m1', nI_add, pk_mul, reduceIte, Nat.reduceEqDiff, Nat.reduceAdd, Nat.reduceMul, Nat.reduceLeDiff, eq_self, ↓pk_rem, pk_div, c_of, d_le, d_nle, d_lt, d_nlt, d_eq, d_ne]
      exact Ev_s ⟨rfl, Ag_F g rfl, ⟨by simp only [HA, Nat.reduceEqDiff, and_false, reduceIte]; exact p1, fun u hu => by simp only [HA]; exact p5 u hu⟩, by simp only [HA, and_self, reduceIte]⟩
theorem P_year (hC : FxC σ) (hM : FxM ρ) (sC : StC σ v H) (sM : StM ρ v H) (hw : Wf v H) (rC : RnC σ rn) (rM : RnM ρ rn) (iC : InC σ T) (iM : InM ρ T) (x y : Int32) :
    (Ev (den (d + 8, 113, 0, [.ref 0, .int x, .int y, .float 0, .float 0], [], σ)) (fun a τ => a = some (.int (-1)) ∧ RfC 0 (-1) σ τ) ∧ Ev (den (d + 8, 220, 0, [.ref 57, .int x, .int y, .float 0, .float 0, .float 0, .float 0, .float 0], [], ρ)) (fun a τ => a = some (.int (-1)) ∧ RfM 1 (-1) ρ τ)) ∨
    ∃ r K, Ev (den (d + 8, 113, 0, [.ref 0, .int x, .int y, .float 0, .float 0], [], σ)) (fun a τ => a = some (.int r) ∧ Qya σ τ ∧ YrC τ v K ∧ hF τ 0 11 = .int (nI 0)) ∧ Ev (den (d + 8, 220, 0, [.ref 57, .int x, .int y, .float 0, .float 0, .float 0, .float 0, .float 0], [], ρ)) (fun a τ => a = some (.int r) ∧ Qyb ρ τ ∧ YrM τ v K ∧ hF τ 57 1 = .int (nI 0)) := by
  have h00 : FxM (sF ρ 57 0 (.int (nI 0))) := FxM_sF hM (Or.inr (by decide))
  rcases tri x 1000000 (by omega) with hx | ⟨s, hs, rfl⟩ | ⟨s, hs, hs2, rfl⟩
  · refine Or.inl ⟨?_, ?_⟩
    · simp (disch := first | omega | (repeat (first | assumption | exact Ag_r | refine Ag_I ?_ rfl | refine Ag_F ?_ rfl | refine Ag_J ?_ rfl))) only [A113, FC hC, ng hx, C_refuse1 hC, CO, HA, HB, HC, Nat.not_lt_zero, Nat.add_assoc, c_nlt, c_nle, c_neq, c_P, c_cl, c_m1, c_m1', nI_add, pk_mul, reduceIte, Nat.reduceEqDiff, Nat.reduceAdd, Nat.reduceMul, Nat.reduceLeDiff, eq_self, ↓pk_rem, pk_div, c_of, d_le, d_nle, d_lt, d_nlt, d_eq, d_ne]
      exact Ev_s ⟨rfl, rfl⟩
    · simp (disch := first | omega | (repeat (first | assumption | exact Ag_r | refine Ag_I ?_ rfl | refine Ag_F ?_ rfl | refine Ag_J ?_ rfl))) only [A220, FM hM, M_in, l_lo, l_hi, ng hx, M_tell1 h00, CO, HA, HB, HC, Nat.not_lt_zero, Nat.add_assoc, c_nlt, c_nle, c_neq, c_P, c_cl, c_m1, c_m1', nI_add, pk_mul, reduceIte, Nat.reduceEqDiff, Nat.reduceAdd, Nat.reduceMul, Nat.reduceLeDiff, eq_self, ↓pk_rem, pk_div, c_of, d_le, d_nle, d_lt, d_nlt, d_eq, d_ne]
      exact Ev_s ⟨rfl, rfl⟩
  · rcases tri y 60 (by omega) with hy | ⟨n, hn, rfl⟩ | ⟨n, hn, hn2, rfl⟩
    · refine Or.inl ⟨?_, ?_⟩
      · simp (disch := first | omega | (repeat (first | assumption | exact Ag_r | refine Ag_I ?_ rfl | refine Ag_F ?_ rfl | refine Ag_J ?_ rfl))) only [A113, FC hC, ng hy, C_refuse1 hC, CO, HA, HB, HC, Nat.not_lt_zero, Nat.add_assoc, c_nlt, c_nle, c_neq, c_P, c_cl, c_m1, c_m1', nI_add, pk_mul, reduceIte, Nat.reduceEqDiff, Nat.reduceAdd, Nat.reduceMul, Nat.reduceLeDiff, eq_self, ↓pk_rem, pk_div, c_of, d_le, d_nle, d_lt, d_nlt, d_eq, d_ne]
        exact Ev_s ⟨rfl, rfl⟩
      · simp (disch := first | omega | (repeat (first | assumption | exact Ag_r | refine Ag_I ?_ rfl | refine Ag_F ?_ rfl | refine Ag_J ?_ rfl))) only [A220, FM hM, M_in, l_lo, l_hi, ng hy, M_tell1 h00, CO, HA, HB, HC, Nat.not_lt_zero, Nat.add_assoc, c_nlt, c_nle, c_neq, c_P, c_cl, c_m1, c_m1', nI_add, pk_mul, reduceIte, Nat.reduceEqDiff, Nat.reduceAdd, Nat.reduceMul, Nat.reduceLeDiff, eq_self, ↓pk_rem, pk_div, c_of, d_le, d_nle, d_lt, d_nlt, d_eq, d_ne]
        exact Ev_s ⟨rfl, rfl⟩
    · by_cases n0 : n = 0
      · subst n0
        refine Or.inl ⟨?_, ?_⟩
        · simp (disch := first | omega | (repeat (first | assumption | exact Ag_r | refine Ag_I ?_ rfl | refine Ag_F ?_ rfl | refine Ag_J ?_ rfl))) only [A113, FC hC, C_refuse1 hC, CO, HA, HB, HC, Nat.not_lt_zero, Nat.add_assoc, c_nlt, c_nle, c_neq, c_P, c_cl, c_m1, c_m1', nI_add, pk_mul, reduceIte, Nat.reduceEqDiff, Nat.reduceAdd, Nat.reduceMul, Nat.reduceLeDiff, eq_self, ↓pk_rem, pk_div, c_of, d_le, d_nle, d_lt, d_nlt, d_eq, d_ne]
          exact Ev_s ⟨rfl, rfl⟩
        · simp (disch := first | omega | (repeat (first | assumption | exact Ag_r | refine Ag_I ?_ rfl | refine Ag_F ?_ rfl | refine Ag_J ?_ rfl))) only [A220, FM hM, M_in, l_lo, l_hi, M_tell1 h00, CO, HA, HB, HC, Nat.not_lt_zero, Nat.add_assoc, c_nlt, c_nle, c_neq, c_P, c_cl, c_m1, c_m1', nI_add, pk_mul, reduceIte, Nat.reduceEqDiff, Nat.reduceAdd, Nat.reduceMul, Nat.reduceLeDiff, eq_self, ↓pk_rem, pk_div, c_of, d_le, d_nle, d_lt, d_nlt, d_eq, d_ne]
          exact Ev_s ⟨rfl, rfl⟩
      · exact Or.inr ⟨_, _, C_year hC sC hw rC iC hs (by omega) hn, M_year hM sM hw rM iM hs (by omega) hn⟩
    · refine Or.inl ⟨?_, ?_⟩
      · simp (disch := first | omega | (repeat (first | assumption | exact Ag_r | refine Ag_I ?_ rfl | refine Ag_F ?_ rfl | refine Ag_J ?_ rfl))) only [A113, FC hC, C_refuse1 hC, CO, HA, HB, HC, Nat.not_lt_zero, Nat.add_assoc, c_nlt, c_nle, c_neq, c_P, c_cl, c_m1, c_m1', nI_add, pk_mul, reduceIte, Nat.reduceEqDiff, Nat.reduceAdd, Nat.reduceMul, Nat.reduceLeDiff, eq_self, ↓pk_rem, pk_div, c_of, d_le, d_nle, d_lt, d_nlt, d_eq, d_ne]
        exact Ev_s ⟨rfl, rfl⟩
      · simp (disch := first | omega | (repeat (first | assumption | exact Ag_r | refine Ag_I ?_ rfl | refine Ag_F ?_ rfl | refine Ag_J ?_ rfl))) only [A220, FM hM, M_in, l_lo, l_hi, M_tell1 h00, CO, HA, HB, HC, Nat.not_lt_zero, Nat.add_assoc, c_nlt, c_nle, c_neq, c_P, c_cl, c_m1, c_m1', nI_add, pk_mul, reduceIte, Nat.reduceEqDiff, Nat.reduceAdd, Nat.reduceMul, Nat.reduceLeDiff, eq_self, ↓pk_rem, pk_div, c_of, d_le, d_nle, d_lt, d_nlt, d_eq, d_ne]
        exact Ev_s ⟨rfl, rfl⟩
  · refine Or.inl ⟨?_, ?_⟩
    · simp (disch := first | omega | (repeat (first | assumption | exact Ag_r | refine Ag_I ?_ rfl | refine Ag_F ?_ rfl | refine Ag_J ?_ rfl))) only [A113, FC hC, C_refuse1 hC, CO, HA, HB, HC, Nat.not_lt_zero, Nat.add_assoc, c_nlt, c_nle, c_neq, c_P, c_cl, c_m1, c_m1', nI_add, pk_mul, reduceIte, Nat.reduceEqDiff, Nat.reduceAdd, Nat.reduceMul, Nat.reduceLeDiff, eq_self, ↓pk_rem, pk_div, c_of, d_le, d_nle, d_lt, d_nlt, d_eq, d_ne]
      exact Ev_s ⟨rfl, rfl⟩
    · simp (disch := first | omega | (repeat (first | assumption | exact Ag_r | refine Ag_I ?_ rfl | refine Ag_F ?_ rfl | refine Ag_J ?_ rfl))) only [A220, FM hM, M_in, l_lo, l_hi, M_tell1 h00, CO, HA, HB, HC, Nat.not_lt_zero, Nat.add_assoc, c_nlt, c_nle, c_neq, c_P, c_cl, c_m1, c_m1', nI_add, pk_mul, reduceIte, Nat.reduceEqDiff, Nat.reduceAdd, Nat.reduceMul, Nat.reduceLeDiff, eq_self, ↓pk_rem, pk_div, c_of, d_le, d_nle, d_lt, d_nlt, d_eq, d_ne]
      exact Ev_s ⟨rfl, rfl⟩
theorem P_drawn (hC : FxC σ) (hM : FxM ρ) {K : Nat → Nat} (hv : v ≤ 8) (yC : YrC σ v K) (yM : YrM ρ v K) (x y : Int32) : ∃ r, Ev (den (d + 4, 114, 0, [.ref 0, .int x, .int y], [], σ)) (fun a τ => a = some (.int r) ∧ Qc σ τ) ∧ Ev (den (d + 4, 221, 0, [.ref 57, .int x, .int y], [], ρ)) (fun a τ => a = some (.int r) ∧ Qm ρ τ) := by
  obtain ⟨y1, y2, y3⟩ := yC
  obtain ⟨m1, m2⟩ := yM
  have k32 : kd σ 32 = 100 ∧ hL σ 32 = 224 := by have z := FC hC; simp only [z, and_self]
  rcases trs x v (by omega) with hx | ⟨u, hu, rfl⟩ | ⟨u, hu, hu2, rfl⟩
  · refine ⟨-1, ?_, ?_⟩
    · simp (disch := first | omega | (repeat (first | assumption | exact Ag_r | refine Ag_I ?_ rfl | refine Ag_F ?_ rfl | refine Ag_J ?_ rfl))) only [A114, FC hC, y1, ng hx, CO, HA, HB, HC, Nat.not_lt_zero, Nat.add_assoc, c_nlt, c_nle, c_neq, c_P, c_cl, c_m1, c_m1', nI_add, pk_mul, reduceIte, Nat.reduceEqDiff, Nat.reduceAdd, Nat.reduceMul, Nat.reduceLeDiff, eq_self, ↓pk_rem, pk_div, c_of, d_le, d_nle, d_lt, d_nlt, d_eq, d_ne]
      exact Ev_s ⟨rfl, (by repeat (first | assumption | exact Ag_r | refine Ag_I ?_ rfl | refine Ag_F ?_ rfl | refine Ag_J ?_ rfl))⟩
    · simp (disch := first | omega | (repeat (first | assumption | exact Ag_r | refine Ag_I ?_ rfl | refine Ag_F ?_ rfl | refine Ag_J ?_ rfl))) only [A221, FM hM, m1, M_in, l_lo, l_hi1, ng hx, CO, HA, HB, HC, Nat.not_lt_zero, Nat.add_assoc, c_nlt, c_nle, c_neq, c_P, c_cl, c_m1, c_m1', nI_add, pk_mul, reduceIte, Nat.reduceEqDiff, Nat.reduceAdd, Nat.reduceMul, Nat.reduceLeDiff, eq_self, ↓pk_rem, pk_div, c_of, d_le, d_nle, d_lt, d_nlt, d_eq, d_ne]
      exact Ev_s ⟨rfl, (by repeat (first | assumption | exact Ag_r | refine Ag_I ?_ rfl | refine Ag_F ?_ rfl | refine Ag_J ?_ rfl))⟩
  · rcases tri y 1 (by omega) with hy | ⟨m, hm, rfl⟩ | ⟨m, hm, hm2, rfl⟩
    · refine ⟨-1, ?_, ?_⟩
      · simp (disch := first | omega | (repeat (first | assumption | exact Ag_r | refine Ag_I ?_ rfl | refine Ag_F ?_ rfl | refine Ag_J ?_ rfl))) only [A114, FC hC, y1, ng hy, CO, HA, HB, HC, Nat.not_lt_zero, Nat.add_assoc, c_nlt, c_nle, c_neq, c_P, c_cl, c_m1, c_m1', nI_add, pk_mul, reduceIte, Nat.reduceEqDiff, Nat.reduceAdd, Nat.reduceMul, Nat.reduceLeDiff, eq_self, ↓pk_rem, pk_div, c_of, d_le, d_nle, d_lt, d_nlt, d_eq, d_ne]
        exact Ev_s ⟨rfl, (by repeat (first | assumption | exact Ag_r | refine Ag_I ?_ rfl | refine Ag_F ?_ rfl | refine Ag_J ?_ rfl))⟩
      · simp (disch := first | omega | (repeat (first | assumption | exact Ag_r | refine Ag_I ?_ rfl | refine Ag_F ?_ rfl | refine Ag_J ?_ rfl))) only [A221, FM hM, m1, M_in, l_lo, l_hi1, l_hi, ng hy, CO, HA, HB, HC, Nat.not_lt_zero, Nat.add_assoc, c_nlt, c_nle, c_neq, c_P, c_cl, c_m1, c_m1', nI_add, pk_mul, reduceIte, Nat.reduceEqDiff, Nat.reduceAdd, Nat.reduceMul, Nat.reduceLeDiff, eq_self, ↓pk_rem, pk_div, c_of, d_le, d_nle, d_lt, d_nlt, d_eq, d_ne]
        exact Ev_s ⟨rfl, (by repeat (first | assumption | exact Ag_r | refine Ag_I ?_ rfl | refine Ag_F ?_ rfl | refine Ag_J ?_ rfl))⟩
    · by_cases m0 : m = 0
      · subst m0
        refine ⟨nI (hd K v u), ?_, ?_⟩
        · simp (disch := first | omega | (repeat (first | assumption | exact Ag_r | refine Ag_I ?_ rfl | refine Ag_F ?_ rfl | refine Ag_J ?_ rfl))) only [A114, FC hC, y1, y3 u (by omega), CO, HA, HB, HC, Nat.not_lt_zero, Nat.add_assoc, c_nlt, c_nle, c_neq, c_P, c_cl, c_m1, c_m1', nI_add, pk_mul, reduceIte, Nat.reduceEqDiff, Nat.reduceAdd, Nat.reduceMul, Nat.reduceLeDiff, eq_self, ↓pk_rem, pk_div, c_of, d_le, d_nle, d_lt, d_nlt, d_eq, d_ne]
          exact Ev_s ⟨rfl, Ag_r⟩
        · simp (disch := first | omega | (repeat (first | assumption | exact Ag_r | refine Ag_I ?_ rfl | refine Ag_F ?_ rfl | refine Ag_J ?_ rfl))) only [A221, FM hM, m1, M_in, l_lo, l_hi1, l_hi, Nat.add_zero, (m2 u hu).1, CO, HA, HB, HC, Nat.not_lt_zero, Nat.add_assoc, c_nlt, c_nle, c_neq, c_P, c_cl, c_m1, c_m1', nI_add, pk_mul, reduceIte, Nat.reduceEqDiff, Nat.reduceAdd, Nat.reduceMul, Nat.reduceLeDiff, eq_self, ↓pk_rem, pk_div, c_of, d_le, d_nle, d_lt, d_nlt, d_eq, d_ne]
          exact Ev_s ⟨rfl, (by repeat (first | assumption | exact Ag_r | refine Ag_I ?_ rfl | refine Ag_F ?_ rfl | refine Ag_J ?_ rfl))⟩
      · obtain rfl : m = 1 := by omega
        refine ⟨nI (aw K u), ?_, ?_⟩
        · simp (disch := first | omega | (repeat (first | assumption | exact Ag_r | refine Ag_I ?_ rfl | refine Ag_F ?_ rfl | refine Ag_J ?_ rfl))) only [A114, FC hC, y1, C_awayOf (H := K) (show u < 8 by omega) k32.1 k32.2 y2, CO, HA, HB, HC, Nat.not_lt_zero, Nat.add_assoc, c_nlt, c_nle, c_neq, c_P, c_cl, c_m1, c_m1', nI_add, pk_mul, reduceIte, Nat.reduceEqDiff, Nat.reduceAdd, Nat.reduceMul, Nat.reduceLeDiff, eq_self, ↓pk_rem, pk_div, c_of, d_le, d_nle, d_lt, d_nlt, d_eq, d_ne]
          exact Ev_s ⟨rfl, Ag_r⟩
        · simp (disch := first | omega | (repeat (first | assumption | exact Ag_r | refine Ag_I ?_ rfl | refine Ag_F ?_ rfl | refine Ag_J ?_ rfl))) only [A221, FM hM, m1, M_in, l_lo, l_hi1, l_hi, (m2 u hu).2, CO, HA, HB, HC, Nat.not_lt_zero, Nat.add_assoc, c_nlt, c_nle, c_neq, c_P, c_cl, c_m1, c_m1', nI_add, pk_mul, reduceIte, Nat.reduceEqDiff, Nat.reduceAdd, Nat.reduceMul, Nat.reduceLeDiff, eq_self, ↓pk_rem, pk_div, c_of, d_le, d_nle, d_lt, d_nlt, d_eq, d_ne]
          exact Ev_s ⟨rfl, (by repeat (first | assumption | exact Ag_r | refine Ag_I ?_ rfl | refine Ag_F ?_ rfl | refine Ag_J ?_ rfl))⟩
    · refine ⟨-1, ?_, ?_⟩
      · simp (disch := first | omega | (repeat (first | assumption | exact Ag_r | refine Ag_I ?_ rfl | refine Ag_F ?_ rfl | refine Ag_J ?_ rfl))) only [A114, FC hC, y1, CO, HA, HB, HC, Nat.not_lt_zero, Nat.add_assoc, c_nlt, c_nle, c_neq, c_P, c_cl, c_m1, c_m1', nI_add, pk_mul, reduceIte, Nat.reduceEqDiff, Nat.reduceAdd, Nat.reduceMul, Nat.reduceLeDiff, eq_self, ↓pk_rem, pk_div, c_of, d_le, d_nle, d_lt, d_nlt, d_eq, d_ne]
        exact Ev_s ⟨rfl, (by repeat (first | assumption | exact Ag_r | refine Ag_I ?_ rfl | refine Ag_F ?_ rfl | refine Ag_J ?_ rfl))⟩
      · simp (disch := first | omega | (repeat (first | assumption | exact Ag_r | refine Ag_I ?_ rfl | refine Ag_F ?_ rfl | refine Ag_J ?_ rfl))) only [A221, FM hM, m1, M_in, l_lo, l_hi1, l_hi, CO, HA, HB, HC, Nat.not_lt_zero, Nat.add_assoc, c_nlt, c_nle, c_neq, c_P, c_cl, c_m1, c_m1', nI_add, pk_mul, reduceIte, Nat.reduceEqDiff, Nat.reduceAdd, Nat.reduceMul, Nat.reduceLeDiff, eq_self, ↓pk_rem, pk_div, c_of, d_le, d_nle, d_lt, d_nlt, d_eq, d_ne]
        exact Ev_s ⟨rfl, (by repeat (first | assumption | exact Ag_r | refine Ag_I ?_ rfl | refine Ag_F ?_ rfl | refine Ag_J ?_ rfl))⟩
  · refine ⟨-1, ?_, ?_⟩
    · simp (disch := first | omega | (repeat (first | assumption | exact Ag_r | refine Ag_I ?_ rfl | refine Ag_F ?_ rfl | refine Ag_J ?_ rfl))) only [A114, FC hC, y1, CO, HA, HB, HC, Nat.not_lt_zero, Nat.add_assoc, c_nlt, c_nle, c_neq, c_P, c_cl, c_m1, c_m1', nI_add, pk_mul, reduceIte, Nat.reduceEqDiff, Nat.reduceAdd, Nat.reduceMul, Nat.reduceLeDiff, eq_self, ↓pk_rem, pk_div, c_of, d_le, d_nle, d_lt, d_nlt, d_eq, d_ne]
      exact Ev_s ⟨rfl, (by repeat (first | assumption | exact Ag_r | refine Ag_I ?_ rfl | refine Ag_F ?_ rfl | refine Ag_J ?_ rfl))⟩
    · simp (disch := first | omega | (repeat (first | assumption | exact Ag_r | refine Ag_I ?_ rfl | refine Ag_F ?_ rfl | refine Ag_J ?_ rfl))) only [A221, FM hM, m1, M_in, l_lo, l_hi1, CO, HA, HB, HC, Nat.not_lt_zero, Nat.add_assoc, c_nlt, c_nle, c_neq, c_P, c_cl, c_m1, c_m1', nI_add, pk_mul, reduceIte, Nat.reduceEqDiff, Nat.reduceAdd, Nat.reduceMul, Nat.reduceLeDiff, eq_self, ↓pk_rem, pk_div, c_of, d_le, d_nle, d_lt, d_nlt, d_eq, d_ne]
      exact Ev_s ⟨rfl, (by repeat (first | assumption | exact Ag_r | refine Ag_I ?_ rfl | refine Ag_F ?_ rfl | refine Ag_J ?_ rfl))⟩
end
