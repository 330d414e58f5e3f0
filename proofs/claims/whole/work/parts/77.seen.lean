/-! ring: what the model's walk has seen -/
def Sn (E : Nat → Nat → Bool) (s dep : Nat) (t : Nat → Nat) (c n : Nat) (m : Nat → Nat) : Prop := Cy E m n ∧ (m 0 < s ∨ (m 0 = s ∧ ((∃ j, 1 ≤ j ∧ j < dep ∧ j < n ∧ (∀ i, i < j → m i = t i) ∧ m j < t j) ∨ (n ≤ dep ∧ ∀ i, i < n → m i = t i) ∨ (dep < n ∧ (∀ i, i < dep → m i = t i) ∧ m dep ≤ c))))
section
variable {E : Nat → Nat → Bool} {s dep c n : Nat} {t t' m : Nat → Nat}
theorem Sn_e1 (e : ∀ i, i < dep → t i = t' i) (h : Sn E s dep t c n m) : Sn E s dep t' c n m := by
  obtain ⟨h1, h2⟩ := h
  refine ⟨h1, ?_⟩
  rcases h2 with h2 | ⟨h0, ⟨j, j1, j2, j3, j4, j5⟩ | ⟨a1, a2⟩ | ⟨a1, a2, a3⟩⟩
  · exact Or.inl h2
  · exact Or.inr ⟨h0, Or.inl ⟨j, j1, j2, j3, fun i hi => by rw [j4 i hi, e i (by omega)], by rw [← e j j2]; exact j5⟩⟩
  · exact Or.inr ⟨h0, Or.inr (Or.inl ⟨a1, fun i hi => by rw [a2 i hi, e i (by omega)]⟩)⟩
  · exact Or.inr ⟨h0, Or.inr (Or.inr ⟨a1, fun i hi => by rw [a2 i hi, e i hi], a3⟩)⟩
theorem Sn_e (e : ∀ i, i < dep → t i = t' i) : Sn E s dep t c n m ↔ Sn E s dep t' c n m := ⟨Sn_e1 e, Sn_e1 (fun i hi => (e i hi).symm)⟩
theorem Sn_pop (hd : 1 ≤ dep) : Sn E s (dep + 1) t 7 n m ↔ Sn E s dep t (t dep) n m := by
  constructor
  · rintro ⟨h1, h2⟩
    refine ⟨h1, ?_⟩
    rcases h2 with h2 | ⟨h0, ⟨j, j1, j2, j3, j4, j5⟩ | ⟨a1, a2⟩ | ⟨a1, a2, a3⟩⟩
    · exact Or.inl h2
    · by_cases q : j = dep
      · subst q; exact Or.inr ⟨h0, Or.inr (Or.inr ⟨j3, j4, by omega⟩)⟩
      · exact Or.inr ⟨h0, Or.inl ⟨j, j1, by omega, j3, j4, j5⟩⟩
    · by_cases q : n = dep + 1
      · exact Or.inr ⟨h0, Or.inr (Or.inr ⟨by omega, fun i hi => a2 i (by omega), by rw [a2 dep (by omega)]; omega⟩)⟩
      · exact Or.inr ⟨h0, Or.inr (Or.inl ⟨by omega, a2⟩)⟩
    · exact Or.inr ⟨h0, Or.inr (Or.inr ⟨by omega, fun i hi => a2 i (by omega), by rw [a2 dep (by omega)]; omega⟩)⟩
  · rintro ⟨h1, h2⟩
    refine ⟨h1, ?_⟩
    rcases h2 with h2 | ⟨h0, ⟨j, j1, j2, j3, j4, j5⟩ | ⟨a1, a2⟩ | ⟨a1, a2, a3⟩⟩
    · exact Or.inl h2
    · exact Or.inr ⟨h0, Or.inl ⟨j, j1, by omega, j3, j4, j5⟩⟩
    · exact Or.inr ⟨h0, Or.inr (Or.inl ⟨by omega, a2⟩)⟩
    · by_cases q : m dep = t dep
      · by_cases z : n = dep + 1
        · refine Or.inr ⟨h0, Or.inr (Or.inl ⟨by omega, fun i hi => ?_⟩)⟩
          by_cases w : i = dep
          · rw [w]; exact q
          · exact a2 i (by omega)
        · refine Or.inr ⟨h0, Or.inr (Or.inr ⟨by omega, fun i hi => ?_, ?_⟩)⟩
          · by_cases w : i = dep
            · rw [w]; exact q
            · exact a2 i (by omega)
          · have := h1.2.2.1.1 (dep + 1) (by omega); omega
      · exact Or.inr ⟨h0, Or.inl ⟨dep, hd, by omega, a1, a2, by omega⟩⟩
theorem Sn_skip (h : ∀ n m, Cy E m n → dep < n → (∀ i, i < dep → m i = t i) → m dep ≠ c + 1) : Sn E s dep t c n m ↔ Sn E s dep t (c + 1) n m := by
  constructor
  · rintro ⟨h1, h2⟩
    refine ⟨h1, ?_⟩
    rcases h2 with h2 | ⟨h0, h2 | h2 | ⟨a1, a2, a3⟩⟩
    · exact Or.inl h2
    · exact Or.inr ⟨h0, Or.inl h2⟩
    · exact Or.inr ⟨h0, Or.inr (Or.inl h2)⟩
    · exact Or.inr ⟨h0, Or.inr (Or.inr ⟨a1, a2, by omega⟩)⟩
  · rintro ⟨h1, h2⟩
    refine ⟨h1, ?_⟩
    rcases h2 with h2 | ⟨h0, h2 | h2 | ⟨a1, a2, a3⟩⟩
    · exact Or.inl h2
    · exact Or.inr ⟨h0, Or.inl h2⟩
    · exact Or.inr ⟨h0, Or.inr (Or.inl h2)⟩
    · have := h n m h1 a1 a2
      exact Or.inr ⟨h0, Or.inr (Or.inr ⟨a1, a2, by omega⟩)⟩
theorem Sn_push (hd : 1 ≤ dep) (t0 : t 0 = s) (e : ∀ i, i < dep → t' i = t i) (ec : t' dep = c + 1) : (Sn E s dep t c n m ∨ (Cy E m n ∧ n = dep + 1 ∧ ∀ i, i < n → m i = t' i)) ↔ Sn E s (dep + 1) t' s n m := by
  constructor
  · rintro (⟨h1, h2⟩ | ⟨h1, rfl, h3⟩)
    · refine ⟨h1, ?_⟩
      rcases h2 with h2 | ⟨h0, ⟨j, j1, j2, j3, j4, j5⟩ | ⟨a1, a2⟩ | ⟨a1, a2, a3⟩⟩
      · exact Or.inl h2
      · exact Or.inr ⟨h0, Or.inl ⟨j, j1, by omega, j3, fun i hi => by rw [j4 i hi, e i (by omega)], by rw [e j j2]; exact j5⟩⟩
      · exact Or.inr ⟨h0, Or.inr (Or.inl ⟨by omega, fun i hi => by rw [a2 i hi, e i (by omega)]⟩)⟩
      · exact Or.inr ⟨h0, Or.inl ⟨dep, hd, by omega, a1, fun i hi => by rw [a2 i hi, e i hi], by omega⟩⟩
    · exact ⟨h1, Or.inr ⟨by rw [h3 0 (by omega), e 0 (by omega), t0], Or.inr (Or.inl ⟨by omega, h3⟩)⟩⟩
  · rintro ⟨h1, h2⟩
    rcases h2 with h2 | ⟨h0, ⟨j, j1, j2, j3, j4, j5⟩ | ⟨a1, a2⟩ | ⟨a1, a2, a3⟩⟩
    · exact Or.inl ⟨h1, Or.inl h2⟩
    · by_cases q : j = dep
      · subst q
        exact Or.inl ⟨h1, Or.inr ⟨h0, Or.inr (Or.inr ⟨j3, fun i hi => by rw [j4 i hi, e i hi], by omega⟩)⟩⟩
      · exact Or.inl ⟨h1, Or.inr ⟨h0, Or.inl ⟨j, j1, by omega, j3, fun i hi => by rw [j4 i hi, e i (by omega)], by rw [← e j (by omega)]; exact j5⟩⟩⟩
    · by_cases q : n = dep + 1
      · exact Or.inr ⟨h1, q, a2⟩
      · exact Or.inl ⟨h1, Or.inr ⟨h0, Or.inr (Or.inl ⟨by omega, fun i hi => by rw [a2 i hi, e i (by omega)]⟩)⟩⟩
    · have := h1.2.2.1.2.1 (dep + 1) (by omega) (by omega)
      omega
theorem Sn_deep (hd : dep = 7) (t0 : t 0 = s) (e : ∀ i, i < dep → t' i = t i) (ec : t' dep = c + 1) : (Sn E s dep t c n m ∨ (Cy E m n ∧ n = dep + 1 ∧ ∀ i, i < n → m i = t' i)) ↔ Sn E s dep t (c + 1) n m := by
  constructor
  · rintro (⟨h1, h2⟩ | ⟨h1, rfl, h3⟩)
    · refine ⟨h1, ?_⟩
      rcases h2 with h2 | ⟨h0, h2 | h2 | ⟨a1, a2, a3⟩⟩
      · exact Or.inl h2
      · exact Or.inr ⟨h0, Or.inl h2⟩
      · exact Or.inr ⟨h0, Or.inr (Or.inl h2)⟩
      · exact Or.inr ⟨h0, Or.inr (Or.inr ⟨a1, a2, by omega⟩)⟩
    · exact ⟨h1, Or.inr ⟨by rw [h3 0 (by omega), e 0 (by omega), t0], Or.inr (Or.inr ⟨by omega, fun i hi => by rw [h3 i (by omega), e i hi], by rw [h3 dep (by omega)]; omega⟩)⟩⟩
  · rintro ⟨h1, h2⟩
    rcases h2 with h2 | ⟨h0, h2 | h2 | ⟨a1, a2, a3⟩⟩
    · exact Or.inl ⟨h1, Or.inl h2⟩
    · exact Or.inl ⟨h1, Or.inr ⟨h0, Or.inl h2⟩⟩
    · exact Or.inl ⟨h1, Or.inr ⟨h0, Or.inr (Or.inl h2)⟩⟩
    · by_cases q : m dep = c + 1
      · have := h1.2.1
        have e8 : n = dep + 1 := by omega
        refine Or.inr ⟨h1, e8, fun i hi => ?_⟩
        by_cases w : i = dep
        · rw [w, q, ec]
        · rw [e i (by omega)]; exact a2 i (by omega)
      · exact Or.inl ⟨h1, Or.inr ⟨h0, Or.inr (Or.inr ⟨a1, a2, by omega⟩)⟩⟩
theorem Sn_lex (hp : Pt E t' (dep + 1)) (t0 : t 0 = s) (hd : 1 ≤ dep) (e : ∀ i, i < dep → t' i = t i) (ec : t' dep = c + 1) (h : Sn E s dep t c n m) (en : n = dep + 1) (eb : bs m n = bs t' (dep + 1)) : dg m n ≤ dg t' (dep + 1) := by
  obtain ⟨h1, h2⟩ := h
  subst en
  rcases h2 with h2 | ⟨h0, ⟨j, j1, j2, j3, j4, j5⟩ | ⟨a1, a2⟩ | ⟨a1, a2, a3⟩⟩
  · have a : (bs t' (dep + 1)).testBit (m 0) = true := by rw [← eb]; exact (bs_t _).mpr ⟨0, by omega, rfl⟩
    obtain ⟨i, i1, i2⟩ := (bs_t _).mp a
    have e0 := e 0 (by omega)
    by_cases q : i = 0
    · subst q; omega
    · have := hp.2.1 i i1 (by omega)
      omega
  · exact Nat.le_of_lt (dg_lex (i := j) (fun i hi => by rw [j4 i hi, e i (by omega)]) (by rw [e j j2]; exact j5) (by omega) h1.2.2.1.1)
  · omega
  · exact Nat.le_of_lt (dg_lex (i := dep) (fun i hi => by rw [a2 i hi, e i hi]) (by omega) (by omega) h1.2.2.1.1)
end
theorem Bst_new {X : Nat → (Nat → Nat) → Prop} {E : Nat → Nat → Bool} {n n1 : Nat} {m m1 : Nat → Nat} (hX : ∀ n' m', X n' m' → 2 ≤ n') (c1 : Cy E m1 n1) (h : Bst X n m) (b : n = 0 ∨ n1 < n ∨ (n1 = n ∧ bs m1 n1 < bs m n)) : Bst (fun n' m' => X n' m' ∨ (Cy E m' n' ∧ n' = n1 ∧ ∀ i, i < n' → m' i = m1 i)) n1 m1 := by
  refine Or.inr ⟨Or.inr ⟨c1, rfl, fun i hi => rfl⟩, fun n' m' hm => ?_⟩
  rcases hm with hm | ⟨-, rfl, e⟩
  · rcases h with ⟨rfl, h⟩ | ⟨h1, h⟩
    · exact absurd hm (h _ _)
    · have := hX _ _ h1
      have := h _ _ hm
      unfold Bt at this ⊢
      omega
  · exact Or.inr ⟨rfl, Or.inr ⟨(bs_e e).symm, Nat.le_of_eq (dg_e e).symm⟩⟩
theorem Bst_old {X : Nat → (Nat → Nat) → Prop} {E : Nat → Nat → Bool} {n n1 : Nat} {m m1 : Nat → Nat} (hl : ∀ n' m', X n' m' → n' = n1 → bs m' n' = bs m1 n1 → dg m' n' ≤ dg m1 n1) (h : Bst X n m) (b : ¬ (n = 0 ∨ n1 < n ∨ (n1 = n ∧ bs m1 n1 < bs m n))) : Bst (fun n' m' => X n' m' ∨ (Cy E m' n' ∧ n' = n1 ∧ ∀ i, i < n' → m' i = m1 i)) n m := by
  rcases h with ⟨rfl, h⟩ | ⟨h1, h⟩
  · exact absurd (Or.inl rfl) b
  · refine Or.inr ⟨Or.inl h1, fun n' m' hm => ?_⟩
    rcases hm with hm | ⟨-, rfl, e⟩
    · exact h _ _ hm
    · have a := hl n m h1
      rw [← bs_e e] at a b
      rw [← dg_e e] at a
      unfold Bt
      by_cases q : n = n'
      · by_cases z : bs m n = bs m' n'
        · exact Or.inr ⟨q, Or.inr ⟨z, a q z⟩⟩
        · exact Or.inr ⟨q, Or.inl (by omega)⟩
      · exact Or.inl (by omega)
