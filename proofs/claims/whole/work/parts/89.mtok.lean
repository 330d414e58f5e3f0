/-! law: the model's tokens -/
def TxM (τ : Hp) (X : Tx) : Prop := hF τ 57 8 = .int (nI X.1) ∧ (∀ i, i < X.1 → hI τ 62 i = nI (X.2 i)) ∧ X.1 ≤ 400 ∧ ∀ i, i < X.1 → X.2 i < 256
/-- the reading changes its rows and its fields -/
def Pq_ : Nat → Bool := fun k => Nat.ble 64 k && Nat.ble k 67
def Fq_ : Nat → Nat → Bool := fun k j => Nat.beq k 57 && ((Nat.ble 9 j && Nat.ble j 14) || (Nat.beq j 17 || (Nat.beq j 20 || (Nat.beq j 23 || Nat.beq j 24))))
def Qq (σ τ : Hp) : Prop := Ag Pq_ Fq_ σ τ
theorem Qq_t {a b c : Hp} (g : Qq a b) (h : Qq b c) : Qq a c := Ag_t g h
theorem Qq_M {a b : Hp} (g : Qq a b) (h : FxM a) : FxM b := FxM_a g (by decide) h
theorem Qq_X {a b : Hp} {X : Tx} (g : Qq a b) (h : TxM a X) : TxM b X := ⟨by rw [Ag_f g 57 8 rfl]; exact h.1, fun i hi => by rw [Ag_i g 62 rfl]; exact h.2.1 i hi, h.2.2⟩
/-- a step changes these fields alone -/
def Qnx (σ τ : Hp) : Prop := Ag (fun _ => false) (fun k j => Nat.beq k 57 && (Nat.ble 9 j && Nat.ble j 12)) σ τ
theorem Qnx_t {a b c : Hp} (g : Qnx a b) (h : Qnx b c) : Qnx a c := Ag_t g h
theorem Qnx_q {σ τ : Hp} (g : Qnx σ τ) : Qq σ τ := Ag_w g (fun k e => nomatch e) (fun k j e => by
  simp only [Bool.and_eq_true, Fq_, Bool.or_eq_true] at e ⊢
  refine ⟨e.1, Or.inl ⟨e.2.1, ?_⟩⟩
  have := Nat.le_of_ble_eq_true e.2.2
  exact Nat.ble_eq_true_of_le (by omega))
def dv_ (X : Tx) (s : Nat) : Nat → Nat
  | 0 => 0
  | n + 1 => if 1000000 < dv_ X s n then dv_ X s n else dv_ X s n * 10 + (X.2 (s + n) - 48)
def wo (X : Tx) (p : Nat) : Int64 := if tK X p = 0 then lN 0 else if tK X p = 3 then lN (X.2 (tS X p)) else if tK X p = 1 then (if tE X p - tS X p ≤ 10 then lN (wv X (tS X p) (tE X p - tS X p)) else -1) else lN (dv_ X (tS X p) (tE X p - tS X p))
def TkM (τ : Hp) (X : Tx) (p : Nat) : Prop := hF τ 57 9 = .int (nI (tS X p)) ∧ hF τ 57 10 = .int (nI (tE X p)) ∧ hF τ 57 11 = .int (nI (tK X p)) ∧ hF τ 57 12 = .long (wo X p)
theorem wv_lt {X : Tx} {s : Nat} : ∀ {n : Nat}, (∀ i, i < n → X.2 (s + i) ≤ 122) → wv X s n < 32 ^ n
  | 0, _ => by simp [wv]
  | n + 1, h => by
    have a := wv_lt (X := X) (s := s) (n := n) (fun i hi => h i (by omega))
    have b := h n (by omega)
    simp only [wv, Nat.pow_succ]
    omega
theorem wv_ge {X : Tx} {s : Nat} : ∀ {n : Nat}, (∀ i, i < n → 97 ≤ X.2 (s + i)) → 0 < n → 32 ^ (n - 1) ≤ wv X s n
  | 0, _, h => absurd h (by omega)
  | 1, h, _ => by have := h 0 (by omega); simp only [wv]; omega
  | n + 2, h, _ => by
    have a := wv_ge (X := X) (s := s) (n := n + 1) (fun i hi => h i (by omega)) (by omega)
    have e : 32 ^ (n + 2 - 1) = 32 ^ (n + 1 - 1) * 32 := by rw [← Nat.pow_succ]; rfl
    rw [e]
    simp only [wv] at a ⊢
    omega
theorem dv_b {X : Tx} {s : Nat} : ∀ {n : Nat}, (∀ i, i < n → 48 ≤ X.2 (s + i) ∧ X.2 (s + i) ≤ 57) → dv_ X s n ≤ 10000009 ∧ ((dv_ X s n = nv X s n ∧ nv X s n ≤ 1000) ∨ (1001 ≤ dv_ X s n ∧ nv X s n = 1001))
  | 0, _ => by simp [dv_, nv]
  | n + 1, h => by
    have a := dv_b (X := X) (s := s) (n := n) (fun i hi => h i (by omega))
    have b := h n (by omega)
    simp only [dv_, nv]
    split <;> omega
