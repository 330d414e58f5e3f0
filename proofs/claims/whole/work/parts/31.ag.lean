/-! what a run leaves as it was; goals on answers -/
/-- a run comes to an answer and a heap of which Q holds -/
def Ev (o : Option Rs) (Q : Option Value → Hp → Prop) : Prop := ∃ v τ, o = some (v, τ) ∧ Q v τ
theorem Ev_s {v : Option Value} {τ : Hp} {Q : Option Value → Hp → Prop} (h : Q v τ) : Ev (some (v, τ)) Q := ⟨v, τ, rfl, h⟩
theorem Ev_b {o : Option Rs} {k : Rs → Option Rs} {Q Q' : Option Value → Hp → Prop} (h : Ev o Q') (hk : ∀ v τ, Q' v τ → Ev (k (v, τ)) Q) : Ev (o.bind k) Q := by
  obtain ⟨v, τ, rfl, hq⟩ := h
  exact hk v τ hq
theorem Ev_m {o : Option Rs} {Q Q' : Option Value → Hp → Prop} (h : Ev o Q') (hk : ∀ v τ, Q' v τ → Q v τ) : Ev o Q := by
  obtain ⟨v, τ, rfl, hq⟩ := h
  exact ⟨v, τ, rfl, hk v τ hq⟩
theorem Ev_e {o o' : Option Rs} {Q : Option Value → Hp → Prop} (h : o = o') (hk : Ev o' Q) : Ev o Q := h ▸ hk
/-- only ints and longs of the cells P, only the fields F may differ -/
def Ag (P : Nat → Bool) (F : Nat → Nat → Bool) (σ τ : Hp) : Prop := (hN τ = hN σ ∧ hS τ = hS σ ∧ hX τ = hX σ) ∧ (kd τ = kd σ ∧ hL τ = hL σ ∧ hR τ = hR σ) ∧ (∀ k j, F k j = false → hF τ k j = hF σ k j) ∧ (∀ k, P k = false → hI τ k = hI σ k ∧ hJ τ k = hJ σ k)
section
variable {P : Nat → Bool} {F : Nat → Nat → Bool} {σ τ υ : Hp}
theorem Ag_r : Ag P F σ σ := ⟨⟨rfl, rfl, rfl⟩, ⟨rfl, rfl, rfl⟩, fun _ _ _ => rfl, fun _ _ => ⟨rfl, rfl⟩⟩
theorem Ag_t (h1 : Ag P F σ τ) (h2 : Ag P F τ υ) : Ag P F σ υ := ⟨⟨h2.1.1.trans h1.1.1, h2.1.2.1.trans h1.1.2.1, h2.1.2.2.trans h1.1.2.2⟩, ⟨h2.2.1.1.trans h1.2.1.1, h2.2.1.2.1.trans h1.2.1.2.1, h2.2.1.2.2.trans h1.2.1.2.2⟩, fun k j e => (h2.2.2.1 k j e).trans (h1.2.2.1 k j e), fun k e => ⟨(h2.2.2.2 k e).1.trans (h1.2.2.2 k e).1, (h2.2.2.2 k e).2.trans (h1.2.2.2 k e).2⟩⟩
theorem Ag_I (h : Ag P F σ τ) {k : Nat} {f : Nat → Int32} (hk : P k = true) : Ag P F σ (sI τ k f) := Ag_t h ⟨⟨rfl, rfl, rfl⟩, ⟨rfl, rfl, rfl⟩, fun _ _ _ => rfl, fun k' e => ⟨(by rw [hI_sI, if_neg]; intro z; rw [z, hk] at e; cases e), rfl⟩⟩
theorem Ag_J (h : Ag P F σ τ) {k : Nat} {f : Nat → Int64} (hk : P k = true) : Ag P F σ (sJ τ k f) := Ag_t h ⟨⟨rfl, rfl, rfl⟩, ⟨rfl, rfl, rfl⟩, fun _ _ _ => rfl, fun k' e => ⟨rfl, (by rw [hJ_sJ, if_neg]; intro z; rw [z, hk] at e; cases e)⟩⟩
theorem Ag_F (h : Ag P F σ τ) {k j : Nat} {v : Value} (hk : F k j = true) : Ag P F σ (sF τ k j v) := Ag_t h ⟨⟨rfl, rfl, rfl⟩, ⟨rfl, rfl, rfl⟩, fun k' j' e => (by rw [hF_sF, if_neg]; intro z; rw [z.1, z.2, hk] at e; cases e), fun k' e => ⟨rfl, rfl⟩⟩
theorem Ag_i (h : Ag P F σ τ) (k : Nat) (e : P k = false) : hI τ k = hI σ k := (h.2.2.2 k e).1
theorem Ag_j (h : Ag P F σ τ) (k : Nat) (e : P k = false) : hJ τ k = hJ σ k := (h.2.2.2 k e).2
theorem Ag_f (h : Ag P F σ τ) (k j : Nat) (e : F k j = false) : hF τ k j = hF σ k j := h.2.2.1 k j e
theorem Ag_k (h : Ag P F σ τ) (k : Nat) : kd τ k = kd σ k := congrFun h.2.1.1 k
theorem Ag_l (h : Ag P F σ τ) (k : Nat) : hL τ k = hL σ k := congrFun h.2.1.2.1 k
theorem Ag_R (h : Ag P F σ τ) (k : Nat) : hR τ k = hR σ k := congrFun h.2.1.2.2 k
theorem Ag_w {P' : Nat → Bool} {F' : Nat → Nat → Bool} (h : Ag P F σ τ) (h1 : ∀ k, P k = true → P' k = true) (h2 : ∀ k j, F k j = true → F' k j = true) : Ag P' F' σ τ :=
  ⟨h.1, h.2.1, fun k j e => h.2.2.1 k j (by cases q : F k j with | false => rfl | true => rw [h2 k j q] at e; cases e), fun k e => h.2.2.2 k (by cases q : P k with | false => rfl | true => rw [h1 k q] at e; cases e)⟩
end
/-- the class's cells that a question may change: the judge's, the calendar's, the feast's, the circle's -/
def Pc : Nat → Bool := fun k => Nat.ble 18 k && Nat.ble k 30
def Fc : Nat → Nat → Bool := fun k j => (Nat.beq k 18 && (Nat.beq j 2 || Nat.beq j 3)) || (Nat.beq k 23 && (Nat.beq j 2 || Nat.beq j 3)) || (Nat.beq k 28 && Nat.beq j 1) || (Nat.beq k 0 && Nat.beq j 14)
abbrev Qc (σ τ : Hp) : Prop := Ag Pc Fc σ τ
/-- the model's -/
def Pm : Nat → Bool := fun k => Nat.ble 70 k && Nat.ble k 83
def Fm : Nat → Nat → Bool := fun k j => Nat.beq k 57 && (Nat.beq j 0 || Nat.beq j 27 || Nat.beq j 30 || Nat.beq j 31 || Nat.beq j 32 || Nat.beq j 36 || Nat.beq j 40 || Nat.beq j 41 || Nat.beq j 46 || Nat.beq j 47 || Nat.beq j 50)
abbrev Qm (σ τ : Hp) : Prop := Ag Pm Fm σ τ
theorem Qc_C {σ τ : Hp} (g : Qc σ τ) (h : FxC σ) : FxC τ := by
  unfold FxC at h ⊢
  simp only [Ag_k g, Ag_l g, Ag_R g, Ag_f g 0 0 rfl, Ag_f g 0 1 rfl, Ag_f g 0 2 rfl, Ag_f g 0 3 rfl, Ag_f g 0 4 rfl, Ag_f g 0 5 rfl, Ag_f g 0 6 rfl, Ag_f g 0 7 rfl, Ag_f g 0 8 rfl, Ag_f g 0 9 rfl, Ag_f g 0 10 rfl, Ag_f g 1 4 rfl, Ag_f g 1 5 rfl, Ag_f g 1 6 rfl, Ag_f g 1 7 rfl, Ag_f g 1 8 rfl, Ag_f g 5 0 rfl, Ag_f g 5 1 rfl, Ag_f g 8 0 rfl, Ag_f g 8 1 rfl, Ag_f g 8 2 rfl, Ag_f g 14 0 rfl, Ag_f g 14 1 rfl, Ag_f g 16 0 rfl, Ag_f g 18 0 rfl, Ag_f g 18 1 rfl, Ag_f g 21 0 rfl, Ag_f g 23 0 rfl, Ag_f g 23 1 rfl, Ag_f g 23 4 rfl, Ag_f g 23 5 rfl, Ag_f g 28 0 rfl, Ag_f g 28 2 rfl, Ag_f g 31 0 rfl, Ag_f g 31 1 rfl, Ag_f g 35 4 rfl, Ag_f g 35 5 rfl, Ag_f g 35 6 rfl, Ag_f g 35 7 rfl, Ag_f g 35 8 rfl, Ag_f g 39 0 rfl, Ag_f g 39 1 rfl, Ag_f g 42 0 rfl, Ag_f g 42 1 rfl, Ag_f g 42 2 rfl, Ag_f g 46 4 rfl, Ag_f g 46 5 rfl, Ag_f g 46 6 rfl, Ag_f g 46 7 rfl, Ag_f g 46 8 rfl, Ag_f g 50 0 rfl, Ag_f g 50 1 rfl, Ag_f g 53 0 rfl, Ag_f g 53 1 rfl, Ag_f g 53 2 rfl]
  exact h
theorem Qc_M {σ τ : Hp} (g : Qc σ τ) (h : FxM σ) : FxM τ := by
  unfold FxM at h ⊢
  simp only [Ag_k g, Ag_l g, Ag_R g, Ag_f g 57 2 rfl, Ag_f g 57 3 rfl, Ag_f g 57 4 rfl, Ag_f g 57 5 rfl, Ag_f g 57 7 rfl, Ag_f g 57 16 rfl, Ag_f g 57 18 rfl, Ag_f g 57 19 rfl, Ag_f g 57 21 rfl, Ag_f g 57 22 rfl, Ag_f g 57 25 rfl, Ag_f g 57 26 rfl, Ag_f g 57 28 rfl, Ag_f g 57 29 rfl, Ag_f g 57 33 rfl, Ag_f g 57 34 rfl, Ag_f g 57 35 rfl, Ag_f g 57 37 rfl, Ag_f g 57 38 rfl, Ag_f g 57 39 rfl, Ag_f g 57 42 rfl, Ag_f g 57 43 rfl, Ag_f g 57 44 rfl, Ag_f g 57 45 rfl, Ag_f g 57 48 rfl, Ag_f g 57 49 rfl, Ag_f g 57 51 rfl]
  exact h
theorem Qm_C {σ τ : Hp} (g : Qm σ τ) (h : FxC σ) : FxC τ := by
  unfold FxC at h ⊢
  simp only [Ag_k g, Ag_l g, Ag_R g, Ag_f g 0 0 rfl, Ag_f g 0 1 rfl, Ag_f g 0 2 rfl, Ag_f g 0 3 rfl, Ag_f g 0 4 rfl, Ag_f g 0 5 rfl, Ag_f g 0 6 rfl, Ag_f g 0 7 rfl, Ag_f g 0 8 rfl, Ag_f g 0 9 rfl, Ag_f g 0 10 rfl, Ag_f g 1 4 rfl, Ag_f g 1 5 rfl, Ag_f g 1 6 rfl, Ag_f g 1 7 rfl, Ag_f g 1 8 rfl, Ag_f g 5 0 rfl, Ag_f g 5 1 rfl, Ag_f g 8 0 rfl, Ag_f g 8 1 rfl, Ag_f g 8 2 rfl, Ag_f g 14 0 rfl, Ag_f g 14 1 rfl, Ag_f g 16 0 rfl, Ag_f g 18 0 rfl, Ag_f g 18 1 rfl, Ag_f g 21 0 rfl, Ag_f g 23 0 rfl, Ag_f g 23 1 rfl, Ag_f g 23 4 rfl, Ag_f g 23 5 rfl, Ag_f g 28 0 rfl, Ag_f g 28 2 rfl, Ag_f g 31 0 rfl, Ag_f g 31 1 rfl, Ag_f g 35 4 rfl, Ag_f g 35 5 rfl, Ag_f g 35 6 rfl, Ag_f g 35 7 rfl, Ag_f g 35 8 rfl, Ag_f g 39 0 rfl, Ag_f g 39 1 rfl, Ag_f g 42 0 rfl, Ag_f g 42 1 rfl, Ag_f g 42 2 rfl, Ag_f g 46 4 rfl, Ag_f g 46 5 rfl, Ag_f g 46 6 rfl, Ag_f g 46 7 rfl, Ag_f g 46 8 rfl, Ag_f g 50 0 rfl, Ag_f g 50 1 rfl, Ag_f g 53 0 rfl, Ag_f g 53 1 rfl, Ag_f g 53 2 rfl]
  exact h
theorem Qm_M {σ τ : Hp} (g : Qm σ τ) (h : FxM σ) : FxM τ := by
  unfold FxM at h ⊢
  simp only [Ag_k g, Ag_l g, Ag_R g, Ag_f g 57 2 rfl, Ag_f g 57 3 rfl, Ag_f g 57 4 rfl, Ag_f g 57 5 rfl, Ag_f g 57 7 rfl, Ag_f g 57 16 rfl, Ag_f g 57 18 rfl, Ag_f g 57 19 rfl, Ag_f g 57 21 rfl, Ag_f g 57 22 rfl, Ag_f g 57 25 rfl, Ag_f g 57 26 rfl, Ag_f g 57 28 rfl, Ag_f g 57 29 rfl, Ag_f g 57 33 rfl, Ag_f g 57 34 rfl, Ag_f g 57 35 rfl, Ag_f g 57 37 rfl, Ag_f g 57 38 rfl, Ag_f g 57 39 rfl, Ag_f g 57 42 rfl, Ag_f g 57 43 rfl, Ag_f g 57 44 rfl, Ag_f g 57 45 rfl, Ag_f g 57 48 rfl, Ag_f g 57 49 rfl, Ag_f g 57 51 rfl]
  exact h
