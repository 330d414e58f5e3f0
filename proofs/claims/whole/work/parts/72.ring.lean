/-! ring: the pure part -/
def bs (m : Nat → Nat) : Nat → Nat
  | 0 => 0
  | k + 1 => bs m k ||| 2 ^ (m k)
def dg (m : Nat → Nat) : Nat → Nat
  | 0 => 0
  | k + 1 => dg m k * 8 + m k
def Pt (E : Nat → Nat → Bool) (m : Nat → Nat) (k : Nat) : Prop := (∀ i, i < k → m i < 8) ∧ (∀ i, i < k → 0 < i → m 0 < m i) ∧ (∀ i j, i < j → j < k → m i ≠ m j) ∧ ∀ i, i + 1 < k → E (m i) (m (i + 1)) = true
def Cy (E : Nat → Nat → Bool) (m : Nat → Nat) (n : Nat) : Prop := 2 ≤ n ∧ n ≤ 8 ∧ Pt E m n ∧ E (m (n - 1)) (m 0) = true
theorem bs_t {m : Nat → Nat} : ∀ {k : Nat} (c : Nat), (bs m k).testBit c = true ↔ ∃ i, i < k ∧ m i = c
  | 0, c => by simp only [bs, Nat.zero_testBit]; exact ⟨fun h => (nomatch h), fun ⟨i, h, _⟩ => absurd h (by omega)⟩
  | k + 1, c => by
    simp only [bs, Nat.testBit_or, Nat.testBit_two_pow, Bool.or_eq_true, decide_eq_true_eq]
    rw [bs_t c]
    constructor
    · rintro (⟨i, h1, h2⟩ | h)
      · exact ⟨i, by omega, h2⟩
      · exact ⟨k, by omega, h⟩
    · rintro ⟨i, h1, h2⟩
      by_cases q : i = k
      · exact Or.inr (by rw [← q]; exact h2)
      · exact Or.inl ⟨i, by omega, h2⟩
theorem bs_e {m m' : Nat → Nat} : ∀ {k : Nat}, (∀ i, i < k → m i = m' i) → bs m k = bs m' k
  | 0, _ => rfl
  | k + 1, h => by simp only [bs]; rw [bs_e (fun i hi => h i (by omega)), h k (by omega)]
theorem dg_e {m m' : Nat → Nat} : ∀ {k : Nat}, (∀ i, i < k → m i = m' i) → dg m k = dg m' k
  | 0, _ => rfl
  | k + 1, h => by simp only [dg]; rw [dg_e (fun i hi => h i (by omega)), h k (by omega)]
theorem bs_lt {m : Nat → Nat} {v : Nat} : ∀ {k : Nat}, (∀ i, i < k → m i < v) → bs m k < 2 ^ v
  | 0, _ => by simp only [bs]; exact Nat.two_pow_pos v
  | k + 1, h => Nat.or_lt_two_pow (bs_lt (fun i hi => h i (by omega))) (Nat.pow_lt_pow_right (by omega) (h k (by omega)))
theorem bs_no {E : Nat → Nat → Bool} {m : Nat → Nat} {k : Nat} (h : Pt E m (k + 1)) : (bs m k).testBit (m k) = false := by
  cases q : (bs m k).testBit (m k) with
  | false => rfl
  | true =>
    obtain ⟨i, h1, h2⟩ := (bs_t _).mp q
    exact absurd h2 (h.2.2.1 i k h1 (by omega))
theorem Pt_m {E : Nat → Nat → Bool} {m : Nat → Nat} {k j : Nat} (hj : j ≤ k) (h : Pt E m k) : Pt E m j := ⟨fun i hi => h.1 i (by omega), fun i hi h0 => h.2.1 i (by omega) h0, fun i l h1 h2 => h.2.2.1 i l h1 (by omega), fun i hi => h.2.2.2 i (by omega)⟩
theorem Pt_e {E : Nat → Nat → Bool} {m m' : Nat → Nat} {k : Nat} (e : ∀ i, i < k → m i = m' i) (h : Pt E m k) : Pt E m' k := ⟨fun i hi => by rw [← e i hi]; exact h.1 i hi, fun i hi h0 => by rw [← e i hi, ← e 0 (by omega)]; exact h.2.1 i hi h0, fun i l h1 h2 => by rw [← e i (by omega), ← e l h2]; exact h.2.2.1 i l h1 h2, fun i hi => by rw [← e i (by omega), ← e (i + 1) hi]; exact h.2.2.2 i hi⟩
theorem Cy_e {E : Nat → Nat → Bool} {m m' : Nat → Nat} {k : Nat} (e : ∀ i, i < k → m i = m' i) (h : Cy E m k) : Cy E m' k := ⟨h.1, h.2.1, Pt_e e h.2.2.1, by have := h.1; rw [← e _ (by omega), ← e 0 (by omega)]; exact h.2.2.2⟩
theorem pop_bs {E : Nat → Nat → Bool} {m : Nat → Nat} : ∀ {k : Nat}, Pt E m k → pop 8 (bs m k) = k
  | 0, _ => (by decide : pop 8 0 = 0)
  | k + 1, h => by
    have l : bs m k < 2 ^ 8 := bs_lt (fun i hi => h.1 i (by omega))
    have := (or_b 8 (by omega) (bs m k) l (m k) (h.1 k (by omega)) (bs_no h)).2.2
    simp only [bs]
    rw [this, pop_bs (Pt_m (by omega) h)]
theorem dg_lex {m m' : Nat → Nat} {i : Nat} (e : ∀ j, j < i → m j = m' j) (l : m i < m' i) : ∀ {n : Nat}, i < n → (∀ j, j < n → m j < 8) → dg m n < dg m' n
  | 0, h, _ => absurd h (by omega)
  | n + 1, h, b => by
    simp only [dg]
    by_cases q : n = i
    · rw [q, dg_e e]; omega
    · have := dg_lex e l (n := n) (by omega) (fun j hj => b j (by omega))
      have := b n (by omega)
      omega
theorem dg_inj {m m' : Nat → Nat} : ∀ {n : Nat}, (∀ j, j < n → m j < 8) → (∀ j, j < n → m' j < 8) → dg m n = dg m' n → ∀ j, j < n → m j = m' j
  | 0, _, _, _, j, h => absurd h (by omega)
  | n + 1, a, b, e, j, h => by
    simp only [dg] at e
    have h1 := a n (by omega)
    have h2 := b n (by omega)
    by_cases q : j = n
    · rw [q]; omega
    · exact dg_inj (n := n) (fun j hj => a j (by omega)) (fun j hj => b j (by omega)) (by omega) j (by omega)
def Bt (n : Nat) (m : Nat → Nat) (n' : Nat) (m' : Nat → Nat) : Prop := n < n' ∨ (n = n' ∧ (bs m n < bs m' n' ∨ (bs m n = bs m' n' ∧ dg m n ≤ dg m' n')))
/-- the best of those in X -/
def Bst (X : Nat → (Nat → Nat) → Prop) (n : Nat) (m : Nat → Nat) : Prop := (n = 0 ∧ ∀ n' m', ¬ X n' m') ∨ (X n m ∧ ∀ n' m', X n' m' → Bt n m n' m')
def Rg (E : Nat → Nat → Bool) : Nat → (Nat → Nat) → Prop := Bst (fun n m => Cy E m n)
theorem Rg_u {E : Nat → Nat → Bool} {n n' : Nat} {m m' : Nat → Nat} (h : Rg E n m) (h' : Rg E n' m') : n = n' ∧ n ≤ 8 ∧ ∀ i, i < n → m i = m' i ∧ m i < 8 := by
  rcases h with ⟨rfl, h⟩ | ⟨c, h⟩
  · rcases h' with ⟨rfl, h'⟩ | ⟨c', h'⟩
    · exact ⟨rfl, by omega, fun i hi => absurd hi (by omega)⟩
    · exact absurd c' (h _ _)
  · rcases h' with ⟨rfl, h'⟩ | ⟨c', h'⟩
    · exact absurd c (h' _ _)
    · have a := h _ _ c'
      have b := h' _ _ c
      unfold Bt at a b
      have en : n = n' := by omega
      subst en
      have ed : dg m n = dg m' n := by omega
      exact ⟨rfl, c.2.1, fun i hi => ⟨dg_inj c.2.2.1.1 c'.2.2.1.1 ed i hi, c.2.2.1.1 i hi⟩⟩
theorem Bst_X {X Y : Nat → (Nat → Nat) → Prop} {n : Nat} {m : Nat → Nat} (e : ∀ n m, X n m ↔ Y n m) (h : Bst X n m) : Bst Y n m := by
  rcases h with ⟨rfl, h⟩ | ⟨c, h⟩
  · exact Or.inl ⟨rfl, fun n' m' y => h _ _ ((e _ _).mpr y)⟩
  · exact Or.inr ⟨(e _ _).mp c, fun n' m' y => h _ _ ((e _ _).mpr y)⟩
