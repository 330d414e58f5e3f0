/-! heap algebra, for simp -/
section
variable {σ : Hp} {k j k' j' c n : Nat} {v : Value} {f : Nat → Int32} {g : Nat → Int64} {h : Nat → Option Nat} {fs : Nat → Value}
theorem hF_sF : hF (sF σ k j v) k' j' = if k' = k ∧ j' = j then v else hF σ k' j' := rfl
theorem hF_sI : hF (sI σ k f) k' j' = hF σ k' j' := rfl
theorem hF_sJ : hF (sJ σ k g) k' j' = hF σ k' j' := rfl
theorem hF_sR : hF (sR σ k h) k' j' = hF σ k' j' := rfl
theorem hI_sF : hI (sF σ k j v) k' = hI σ k' := rfl
theorem hI_sI : hI (sI σ k f) k' = if k' = k then f else hI σ k' := rfl
theorem hI_sJ : hI (sJ σ k g) k' = hI σ k' := rfl
theorem hI_sR : hI (sR σ k h) k' = hI σ k' := rfl
theorem hJ_sF : hJ (sF σ k j v) k' = hJ σ k' := rfl
theorem hJ_sI : hJ (sI σ k f) k' = hJ σ k' := rfl
theorem hJ_sJ : hJ (sJ σ k g) k' = if k' = k then g else hJ σ k' := rfl
theorem hJ_sR : hJ (sR σ k h) k' = hJ σ k' := rfl
theorem hR_sF : hR (sF σ k j v) k' = hR σ k' := rfl
theorem hR_sI : hR (sI σ k f) k' = hR σ k' := rfl
theorem hR_sJ : hR (sJ σ k g) k' = hR σ k' := rfl
theorem hR_sR : hR (sR σ k h) k' = if k' = k then h else hR σ k' := rfl
theorem kd_sF : kd (sF σ k j v) k' = kd σ k' := rfl
theorem kd_sI : kd (sI σ k f) k' = kd σ k' := rfl
theorem kd_sJ : kd (sJ σ k g) k' = kd σ k' := rfl
theorem kd_sR : kd (sR σ k h) k' = kd σ k' := rfl
theorem hL_sF : hL (sF σ k j v) k' = hL σ k' := rfl
theorem hL_sI : hL (sI σ k f) k' = hL σ k' := rfl
theorem hL_sJ : hL (sJ σ k g) k' = hL σ k' := rfl
theorem hL_sR : hL (sR σ k h) k' = hL σ k' := rfl
theorem hN_sF : hN (sF σ k j v) = hN σ := rfl
theorem hN_sI : hN (sI σ k f) = hN σ := rfl
theorem hN_sJ : hN (sJ σ k g) = hN σ := rfl
theorem hN_sR : hN (sR σ k h) = hN σ := rfl
theorem hS_sF : hS (sF σ k j v) = hS σ := rfl
theorem hS_sI : hS (sI σ k f) = hS σ := rfl
theorem hS_sJ : hS (sJ σ k g) = hS σ := rfl
theorem hS_sR : hS (sR σ k h) = hS σ := rfl
theorem hX_sF : hX (sF σ k j v) = hX σ := rfl
theorem hX_sI : hX (sI σ k f) = hX σ := rfl
theorem hX_sJ : hX (sJ σ k g) = hX σ := rfl
theorem hX_sR : hX (sR σ k h) = hX σ := rfl
def HA := And.intro @hF_sF (And.intro @hF_sI (And.intro @hF_sJ (And.intro @hF_sR (And.intro @hI_sF (And.intro @hI_sI (And.intro @hI_sJ (And.intro @hI_sR (And.intro @hJ_sF (And.intro @hJ_sI (And.intro @hJ_sJ (And.intro @hJ_sR (And.intro @hR_sF (And.intro @hR_sI (And.intro @hR_sJ @hR_sR))))))))))))))
def HB := And.intro @kd_sF (And.intro @kd_sI (And.intro @kd_sJ (And.intro @kd_sR (And.intro @hL_sF (And.intro @hL_sI (And.intro @hL_sJ (And.intro @hL_sR (And.intro @hN_sF (And.intro @hN_sI (And.intro @hN_sJ (And.intro @hN_sR (And.intro @hS_sF (And.intro @hS_sI (And.intro @hS_sJ (And.intro @hS_sR (And.intro @hX_sF (And.intro @hX_sI (And.intro @hX_sJ @hX_sR))))))))))))))))))
-- writes that meet
theorem sI_sI {f' : Nat → Int32} : sI (sI σ k f) k f' = sI σ k f' := by
  unfold sI; simp only [Prod.mk.injEq, true_and, and_true]; funext z; dsimp only [hI]; split <;> rfl
theorem sJ_sJ {g' : Nat → Int64} : sJ (sJ σ k g) k g' = sJ σ k g' := by
  unfold sJ; simp only [Prod.mk.injEq, true_and, and_true]; funext z; dsimp only [hJ]; split <;> rfl
theorem sF_sF {v' : Value} : sF (sF σ k j v) k j v' = sF σ k j v' := by
  unfold sF; simp only [Prod.mk.injEq, true_and, and_true]; funext y z; dsimp only [hF]; split <;> rfl
theorem sI_sF : sI (sF σ k j v) k' f = sF (sI σ k' f) k j v := rfl
theorem sJ_sF : sJ (sF σ k j v) k' g = sF (sJ σ k' g) k j v := rfl
theorem sR_sF : sR (sF σ k j v) k' h = sF (sR σ k' h) k j v := rfl
theorem sJ_sI : sJ (sI σ k f) k' g = sI (sJ σ k' g) k f := rfl
theorem sR_sI : sR (sI σ k f) k' h = sI (sR σ k' h) k f := rfl
def HC := And.intro @sI_sF (And.intro @sJ_sF (And.intro @sR_sF (And.intro @sJ_sI (And.intro @sR_sI (And.intro @sI_sI (And.intro @sJ_sJ @sF_sF))))))
theorem sI_self : sI σ k (hI σ k) = σ := by
  unfold sI
  have : (fun k' => if k' = k then hI σ k else hI σ k') = hI σ := by funext z; split <;> simp_all
  rw [this]; rfl
end
-- indices
theorem mxP_nI {a n : Nat} (h : a < n) (hn : n < 2 ^ 31) : mxP (nI a) n := vp_in_nI h hn
