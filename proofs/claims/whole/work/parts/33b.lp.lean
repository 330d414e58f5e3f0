/-! loops, once for all -/
theorem lp {α : Type} {h : Nat → α → Fr} {I : Nat → α → Prop} {Q : Option Value → Hp → Prop} (N : Nat)
    (step : ∀ i x, i < N → I i x → (∀ y, I (i + 1) y → Ev (den (h (i + 1) y)) Q) → Ev (den (h i x)) Q)
    (fin : ∀ x, I N x → Ev (den (h N x)) Q) : ∀ i x, i ≤ N → I i x → Ev (den (h i x)) Q := by
  have go : ∀ (n i : Nat) (x : α), i + n = N → I i x → Ev (den (h i x)) Q := by
    intro n
    induction n with
    | zero => intro i x hi hx; obtain rfl : i = N := by omega
              exact fin x hx
    | succ n ih => intro i x hi hx; exact step i x (by omega) hx (fun y hy => ih (i + 1) y (by omega) hy)
  intro i x hi hx
  exact go (N - i) i x (by omega) hx
/-- where the heap stays -/
theorem lq {h : Nat → Fr} (N : Nat) (step : ∀ i, i < N → den (h i) = den (h (i + 1))) : ∀ i, i ≤ N → den (h i) = den (h N) := by
  have go : ∀ (n i : Nat), i + n = N → den (h i) = den (h N) := by
    intro n
    induction n with
    | zero => intro i hi; obtain rfl : i = N := by omega
              rfl
    | succ n ih => intro i hi; rw [step i (by omega)]; exact ih (i + 1) (by omega)
  intro i hi
  exact go (N - i) i (by omega)
theorem trs (x : Int32) (n : Nat) (hn : n ≤ 2 ^ 31) : x < nI 0 ∨ (∃ k, k < n ∧ x = nI k) ∨ ∃ k, n ≤ k ∧ k < 2 ^ 31 ∧ x = nI k := by
  by_cases h : x < nI 0
  · exact Or.inl h
  · obtain ⟨k, hk, rfl⟩ := nI_of (x := x) (by rw [← nI_0]; exact h)
    by_cases e : k < n
    · exact Or.inr (Or.inl ⟨k, e, rfl⟩)
    · exact Or.inr (Or.inr ⟨k, by omega, hk, rfl⟩)
