/-! ranges, refusals, rain, force on both sides -/
abbrev inr (x : Int32) (n : Nat) : Prop := nI 0 ≤ x ∧ x ≤ nI n
theorem lt0 (x : Int32) : (x < nI 0) = ¬ nI 0 ≤ x := by rw [eq_iff_iff]; exact Int32.not_le.symm
theorem ge1 (x : Int32) {k : Nat} (hk : k + 1 < 2 ^ 31) : (nI (k + 1) ≤ x) = ¬ x ≤ nI k := by
  rw [eq_iff_iff, Int32.not_le, Int32.le_iff_toInt_le, Int32.lt_iff_toInt_lt, nI_toInt hk, nI_toInt (by omega)]
  omega
theorem gt1 (x : Int32) {k : Nat} : (nI k < x) = ¬ x ≤ nI k := by rw [eq_iff_iff]; exact Int32.not_le.symm
theorem l_lo (x : Int32) {a : Nat} (ha : a < 2 ^ 31) : (lN a ≤ x.toInt64) = (nI a ≤ x) := by
  rw [eq_iff_iff, Int64.le_iff_toInt_le, Int32.le_iff_toInt_le, lN_toInt ha, nI_toInt ha, Int32.toInt_toInt64]
theorem l_hi (x : Int32) {b : Nat} (hb : b < 2 ^ 31) : (x.toInt64 ≤ lN b) = (x ≤ nI b) := by
  rw [eq_iff_iff, Int64.le_iff_toInt_le, Int32.le_iff_toInt_le, lN_toInt hb, nI_toInt hb, Int32.toInt_toInt64]
theorem inr_of {x : Int32} {n : Nat} (hn : n < 2 ^ 31) (h : inr x n) : ∃ k, k ≤ n ∧ x = nI k := by
  rcases three x hn with h1 | h1 | h1
  · exact absurd h.1 (Int32.not_le.mpr h1)
  · exact absurd h.2 (Int32.not_le.mpr h1)
  · exact h1
theorem inr_nI {k n : Nat} (hk : k ≤ n) (hn : n < 2 ^ 31) : inr (nI k) n := ⟨nI_le (Nat.zero_le _) (by omega), nI_le hk hn⟩
theorem m_neg : ((-1 : Int32) < nI 0) = True ∧ ((-2 : Int32) < nI 0) = True ∧ ((-3 : Int32) < nI 0) = True ∧ ((-5 : Int32) < nI 0) = True ∧ ((-6 : Int32) < nI 0) = True ∧ (-(-1 : Int32)) = nI 1 ∧ (-(-2 : Int32)) = nI 2 ∧ (-(-3 : Int32)) = nI 3 ∧ (-(-5 : Int32)) = nI 5 ∧ (-(-6 : Int32)) = nI 6 := by
  simp only [eq_iff_iff, iff_true]; decide
section
variable {d : Nat} {σ : Hp}
theorem M_tell (h : FxM σ) {v : Int32} (hv : ¬ v < nI 0) : den (d, 135, 0, [.ref 57, .int v], [], σ) = some (some (.int v), sF σ 57 1 (.int (nI 0))) := by
  have hv' : (v < nI 0) = False := by simp [hv]
  have hv2 : (nI 0 ≤ v) = True := by simp; exact Int32.not_lt.mp hv
  unfold FxM at h
  simp (disch := omega) only [A135, h, hv', hv2, CO, HA, HB, HC, Nat.not_lt_zero, Nat.add_assoc, c_nlt, c_nle, c_neq, c_P, c_cl, c_m1, c_m1', nI_add, pk_mul, reduceIte, Nat.reduceEqDiff, Nat.reduceAdd, Nat.reduceMul, Nat.reduceLeDiff, eq_self]
theorem M_tell1 (h : FxM σ) : den (d, 135, 0, [.ref 57, .int (-1)], [], σ) = some (some (.int (-1)), sI (sF σ 57 1 (.int (-1))) 58 (upd (hI σ 58) 1 (hI σ 58 1 + nI 1))) := by
  have e : (nI 0 ≤ (-1 : Int32)) = False := by simp only [eq_iff_iff, iff_false]; decide
  unfold FxM at h
  simp (disch := omega) only [A135, h, m_neg, e, CO, HA, HB, HC, Nat.not_lt_zero, Nat.add_assoc, c_nlt, c_nle, c_neq, c_P, c_cl, c_m1, c_m1', nI_add, pk_mul, reduceIte, Nat.reduceEqDiff, Nat.reduceAdd, Nat.reduceMul, Nat.reduceLeDiff, eq_self]
theorem M_tell2 (h : FxM σ) : den (d, 135, 0, [.ref 57, .int (-2)], [], σ) = some (some (.int (-2)), sI (sF σ 57 1 (.int (-2))) 58 (upd (hI σ 58) 2 (hI σ 58 2 + nI 1))) := by
  have e : (nI 0 ≤ (-2 : Int32)) = False := by simp only [eq_iff_iff, iff_false]; decide
  unfold FxM at h
  simp (disch := omega) only [A135, h, m_neg, e, CO, HA, HB, HC, Nat.not_lt_zero, Nat.add_assoc, c_nlt, c_nle, c_neq, c_P, c_cl, c_m1, c_m1', nI_add, pk_mul, reduceIte, Nat.reduceEqDiff, Nat.reduceAdd, Nat.reduceMul, Nat.reduceLeDiff, eq_self]
theorem M_tell3 (h : FxM σ) : den (d, 135, 0, [.ref 57, .int (-3)], [], σ) = some (some (.int (-3)), sI (sF σ 57 1 (.int (-3))) 58 (upd (hI σ 58) 3 (hI σ 58 3 + nI 1))) := by
  have e : (nI 0 ≤ (-3 : Int32)) = False := by simp only [eq_iff_iff, iff_false]; decide
  unfold FxM at h
  simp (disch := omega) only [A135, h, m_neg, e, CO, HA, HB, HC, Nat.not_lt_zero, Nat.add_assoc, c_nlt, c_nle, c_neq, c_P, c_cl, c_m1, c_m1', nI_add, pk_mul, reduceIte, Nat.reduceEqDiff, Nat.reduceAdd, Nat.reduceMul, Nat.reduceLeDiff, eq_self]
theorem M_tell5 (h : FxM σ) : den (d, 135, 0, [.ref 57, .int (-5)], [], σ) = some (some (.int (-5)), sI (sF σ 57 1 (.int (-5))) 58 (upd (hI σ 58) 5 (hI σ 58 5 + nI 1))) := by
  have e : (nI 0 ≤ (-5 : Int32)) = False := by simp only [eq_iff_iff, iff_false]; decide
  unfold FxM at h
  simp (disch := omega) only [A135, h, m_neg, e, CO, HA, HB, HC, Nat.not_lt_zero, Nat.add_assoc, c_nlt, c_nle, c_neq, c_P, c_cl, c_m1, c_m1', nI_add, pk_mul, reduceIte, Nat.reduceEqDiff, Nat.reduceAdd, Nat.reduceMul, Nat.reduceLeDiff, eq_self]
theorem M_tell6 (h : FxM σ) : den (d, 135, 0, [.ref 57, .int (-6)], [], σ) = some (some (.int (-6)), sI (sF σ 57 1 (.int (-6))) 58 (upd (hI σ 58) 6 (hI σ 58 6 + nI 1))) := by
  have e : (nI 0 ≤ (-6 : Int32)) = False := by simp only [eq_iff_iff, iff_false]; decide
  unfold FxM at h
  simp (disch := omega) only [A135, h, m_neg, e, CO, HA, HB, HC, Nat.not_lt_zero, Nat.add_assoc, c_nlt, c_nle, c_neq, c_P, c_cl, c_m1, c_m1', nI_add, pk_mul, reduceIte, Nat.reduceEqDiff, Nat.reduceAdd, Nat.reduceMul, Nat.reduceLeDiff, eq_self]
theorem C_refuse1 (h : FxC σ) : den (d + 1, 120, 0, [.ref 0, .int (-1), .float 0], [], σ) = some (some (.int (-1)), sI (sF σ 0 11 (.int (-1))) 34 (upd (hI σ 34) 0 (hI σ 34 0 + nI 1))) := by
  unfold FxC at h
  simp (disch := omega) only [A120, A121, h, m_neg, Nat.le_refl, Nat.not_lt_zero, Nat.lt_irrefl, CO, HA, HB, HC, Nat.not_lt_zero, Nat.add_assoc, c_nlt, c_nle, c_neq, c_P, c_cl, c_m1, c_m1', nI_add, pk_mul, reduceIte, Nat.reduceEqDiff, Nat.reduceAdd, Nat.reduceMul, Nat.reduceLeDiff, eq_self]
theorem C_refuse2 (h : FxC σ) : den (d + 1, 120, 0, [.ref 0, .int (-2), .float 0], [], σ) = some (some (.int (-2)), sI (sF σ 0 11 (.int (-2))) 34 (upd (hI σ 34) 1 (hI σ 34 1 + nI 1))) := by
  unfold FxC at h
  simp (disch := omega) only [A120, A121, h, m_neg, Nat.le_refl, Nat.not_lt_zero, Nat.lt_irrefl, CO, HA, HB, HC, Nat.not_lt_zero, Nat.add_assoc, c_nlt, c_nle, c_neq, c_P, c_cl, c_m1, c_m1', nI_add, pk_mul, reduceIte, Nat.reduceEqDiff, Nat.reduceAdd, Nat.reduceMul, Nat.reduceLeDiff, eq_self]
theorem C_refuse3 (h : FxC σ) : den (d + 1, 120, 0, [.ref 0, .int (-3), .float 0], [], σ) = some (some (.int (-3)), sI (sF σ 0 11 (.int (-3))) 34 (upd (hI σ 34) 2 (hI σ 34 2 + nI 1))) := by
  unfold FxC at h
  simp (disch := omega) only [A120, A121, h, m_neg, Nat.le_refl, Nat.not_lt_zero, Nat.lt_irrefl, CO, HA, HB, HC, Nat.not_lt_zero, Nat.add_assoc, c_nlt, c_nle, c_neq, c_P, c_cl, c_m1, c_m1', nI_add, pk_mul, reduceIte, Nat.reduceEqDiff, Nat.reduceAdd, Nat.reduceMul, Nat.reduceLeDiff, eq_self]
theorem C_refuse5 (h : FxC σ) : den (d + 1, 120, 0, [.ref 0, .int (-5), .float 0], [], σ) = some (some (.int (-5)), sI (sF σ 0 11 (.int (-5))) 34 (upd (hI σ 34) 3 (hI σ 34 3 + nI 1))) := by
  unfold FxC at h
  simp (disch := omega) only [A120, A121, h, m_neg, Nat.le_refl, Nat.not_lt_zero, Nat.lt_irrefl, CO, HA, HB, HC, Nat.not_lt_zero, Nat.add_assoc, c_nlt, c_nle, c_neq, c_P, c_cl, c_m1, c_m1', nI_add, pk_mul, reduceIte, Nat.reduceEqDiff, Nat.reduceAdd, Nat.reduceMul, Nat.reduceLeDiff, eq_self]
theorem C_refuse6 (h : FxC σ) : den (d + 1, 120, 0, [.ref 0, .int (-6), .float 0], [], σ) = some (some (.int (-6)), sI (sF σ 0 11 (.int (-6))) 34 (upd (hI σ 34) 4 (hI σ 34 4 + nI 1))) := by
  unfold FxC at h
  simp (disch := omega) only [A120, A121, h, m_neg, Nat.le_refl, Nat.not_lt_zero, Nat.lt_irrefl, CO, HA, HB, HC, Nat.not_lt_zero, Nat.add_assoc, c_nlt, c_nle, c_neq, c_P, c_cl, c_m1, c_m1', nI_add, pk_mul, reduceIte, Nat.reduceEqDiff, Nat.reduceAdd, Nat.reduceMul, Nat.reduceLeDiff, eq_self]
theorem M_isDay (x : Int32) : den (d + 1, 141, 0, [.int x], [], σ) = some (some (.int (if inr x 27 then nI 1 else nI 0)), σ) := by
  simp (disch := omega) only [A141, M_in, l_lo, l_hi, CO, HA, HB, HC, Nat.not_lt_zero, Nat.add_assoc, c_nlt, c_nle, c_neq, c_P, c_cl, c_m1, c_m1', nI_add, pk_mul, reduceIte, Nat.reduceEqDiff, Nat.reduceAdd, Nat.reduceMul, Nat.reduceLeDiff, eq_self]
  by_cases h : inr x 27
  · simp only [if_pos h, reduceIte, CO]
  · simp only [if_neg h, reduceIte, CO]
theorem C_isDay' (x : Int32) : den (d, 123, 0, [.int x], [], σ) = some (some (.int (if inr x 27 then nI 1 else nI 0)), σ) := by
  rw [C_isDay]
  by_cases h1 : nI 0 ≤ x <;> by_cases h2 : x ≤ nI 27 <;> simp [lt0, ge1 x (k := 27) (by omega), h1, h2]
theorem M_isVillage (h : FxM σ) {v : Nat} (hv : hI σ 59 0 = nI v) (hv1 : 1 ≤ v) (hv8 : v ≤ 8) (x : Int32) : den (d + 1, 140, 0, [.ref 57, .int x], [], σ) = some (some (.int (if inr x (v - 1) then nI 1 else nI 0)), σ) := by
  have h0 := h
  unfold FxM at h
  simp (disch := omega) only [A140, h, M_villages h0, hv, nI_l, lN_sub, M_in, l_lo, l_hi, CO, HA, HB, HC, Nat.not_lt_zero, Nat.add_assoc, c_nlt, c_nle, c_neq, c_P, c_cl, c_m1, c_m1', nI_add, pk_mul, reduceIte, Nat.reduceEqDiff, Nat.reduceAdd, Nat.reduceMul, Nat.reduceLeDiff, eq_self]
  by_cases h : inr x (v - 1)
  · simp only [if_pos h, reduceIte, CO]
  · simp only [if_neg h, reduceIte, CO]
theorem C_isVillage (h : FxC σ) {v : Nat} (hv : hF σ 1 0 = .int (nI v)) (hv1 : 1 ≤ v) (hv8 : v ≤ 8) (x : Int32) : den (d, 122, 0, [.ref 0, .int x], [], σ) = some (some (.int (if inr x (v - 1) then nI 1 else nI 0)), σ) := by
  unfold FxC at h
  obtain ⟨w, rfl⟩ : ∃ w, v = w + 1 := ⟨v - 1, by omega⟩
  simp (disch := omega) only [A122, h, hv, CO, HA, HB, HC, Nat.not_lt_zero, Nat.add_assoc, c_nlt, c_nle, c_neq, c_P, c_cl, c_m1, c_m1', nI_add, pk_mul, reduceIte, Nat.reduceEqDiff, Nat.reduceAdd, Nat.reduceMul, Nat.reduceLeDiff, eq_self]
  by_cases h1 : nI 0 ≤ x <;> by_cases h2 : x ≤ nI w <;> simp [lt0, ge1 x (k := w) (by omega), h1, h2]
theorem C_rain (h : FxC σ) (x y : Int32) : den (d + 2, 84, 0, [.ref 0, .int x, .int y, .float 0], [], σ) = if inr x 27 ∧ inr y 1 then some (some (.int (hI σ 3 x.toNatClampNeg)), sF (sI σ 3 (upd (hI σ 3) x.toNatClampNeg y)) 0 11 (.int (nI 0))) else some (some (.int (-1)), sI (sF σ 0 11 (.int (-1))) 34 (upd (hI σ 34) 0 (hI σ 34 0 + nI 1))) := by
  have h0 := h
  unfold FxC at h
  by_cases h1 : inr x 27
  · obtain ⟨k, hk, rfl⟩ := inr_of (by omega) h1
    by_cases h2 : inr y 1
    · have e1 : (y < nI 0) = False := by rw [lt0]; simp [h2.1]
      have e2 : (y ≤ nI 1) = True := by simp [h2.2]
      rw [if_pos ⟨h1, h2⟩]
      simp (disch := omega) only [A84, h, C_isDay', if_pos h1, e1, e2, C_accept (show FxC (sI σ 3 (upd (hI σ 3) k y)) from h0), CO, HA, HB, HC, Nat.not_lt_zero, Nat.add_assoc, c_nlt, c_nle, c_neq, c_P, c_cl, c_m1, c_m1', nI_add, pk_mul, reduceIte, Nat.reduceEqDiff, Nat.reduceAdd, Nat.reduceMul, Nat.reduceLeDiff, eq_self]
    · rw [if_neg (fun z => h2 z.2)]
      by_cases e1 : y < nI 0
      · simp (disch := omega) only [A84, h, C_isDay', if_pos h1, e1, C_refuse1 h0, CO, HA, HB, HC, Nat.not_lt_zero, Nat.add_assoc, c_nlt, c_nle, c_neq, c_P, c_cl, c_m1, c_m1', nI_add, pk_mul, reduceIte, Nat.reduceEqDiff, Nat.reduceAdd, Nat.reduceMul, Nat.reduceLeDiff, eq_self]
      · have e2 : (y ≤ nI 1) = False := by
          rw [eq_iff_iff, iff_false]; intro z; exact h2 ⟨Int32.not_lt.mp e1, z⟩
        simp (disch := omega) only [A84, h, C_isDay', if_pos h1, e1, e2, C_refuse1 h0, CO, HA, HB, HC, Nat.not_lt_zero, Nat.add_assoc, c_nlt, c_nle, c_neq, c_P, c_cl, c_m1, c_m1', nI_add, pk_mul, reduceIte, Nat.reduceEqDiff, Nat.reduceAdd, Nat.reduceMul, Nat.reduceLeDiff, eq_self]
  · rw [if_neg (fun z => h1 z.1)]
    simp (disch := omega) only [A84, h, C_isDay', if_neg h1, C_refuse1 h0, CO, HA, HB, HC, Nat.not_lt_zero, Nat.add_assoc, c_nlt, c_nle, c_neq, c_P, c_cl, c_m1, c_m1', nI_add, pk_mul, reduceIte, Nat.reduceEqDiff, Nat.reduceAdd, Nat.reduceMul, Nat.reduceLeDiff, eq_self]
theorem M_rain (h : FxM σ) (x y : Int32) : den (d + 2, 143, 0, [.ref 57, .int x, .int y, .float 0], [], σ) = if inr x 27 ∧ inr y 1 then some (some (.int (hI σ 59 (6 + x.toNatClampNeg))), sF (sI (sF σ 57 0 (.int (nI 0))) 59 (upd (hI σ 59) (6 + x.toNatClampNeg) y)) 57 1 (.int (nI 0))) else some (some (.int (-1)), sI (sF (sF σ 57 0 (.int (nI 0))) 57 1 (.int (-1))) 58 (upd (hI σ 58) 1 (hI σ 58 1 + nI 1))) := by
  have h0 := h
  have h00 : FxM (sF σ 57 0 (.int (nI 0))) := FxM_sF h (Or.inr (by decide))
  unfold FxM at h
  by_cases h1 : inr x 27
  · obtain ⟨k, hk, rfl⟩ := inr_of (by omega) h1
    by_cases h2 : inr y 1
    · rw [if_pos ⟨h1, h2⟩]
      simp (disch := omega) only [A143, h, M_isDay, M_in, l_lo, l_hi, if_pos h1, if_pos h2, M_was (show FxM (sF (sI σ 59 (upd (hI σ 59) (6 + k) y)) 57 0 (.int (nI 0))) from h00), CO, HA, HB, HC, Nat.not_lt_zero, Nat.add_assoc, c_nlt, c_nle, c_neq, c_P, c_cl, c_m1, c_m1', nI_add, pk_mul, reduceIte, Nat.reduceEqDiff, Nat.reduceAdd, Nat.reduceMul, Nat.reduceLeDiff, eq_self]
    · rw [if_neg (fun z => h2 z.2)]
      simp (disch := omega) only [A143, h, M_isDay, M_in, l_lo, l_hi, if_pos h1, if_neg h2, M_tell1 h00, CO, HA, HB, HC, Nat.not_lt_zero, Nat.add_assoc, c_nlt, c_nle, c_neq, c_P, c_cl, c_m1, c_m1', nI_add, pk_mul, reduceIte, Nat.reduceEqDiff, Nat.reduceAdd, Nat.reduceMul, Nat.reduceLeDiff, eq_self]
  · rw [if_neg (fun z => h1 z.1)]
    simp (disch := omega) only [A143, h, M_isDay, if_neg h1, M_tell1 h00, CO, HA, HB, HC, Nat.not_lt_zero, Nat.add_assoc, c_nlt, c_nle, c_neq, c_P, c_cl, c_m1, c_m1', nI_add, pk_mul, reduceIte, Nat.reduceEqDiff, Nat.reduceAdd, Nat.reduceMul, Nat.reduceLeDiff, eq_self]
end
