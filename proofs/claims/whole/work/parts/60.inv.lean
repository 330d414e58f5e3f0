/-! the whole state, on both sides -/
abbrev Lw5 : Type := Nat × (Nat → Nat) × (Nat → Bool) × (Nat → Ph) × (Nat → Ph)
abbrev StT : Type := Nat × (Nat → Nat) × Nat × Nat × Option Nat × (Nat → Nat) × (Nat × (Nat → Nat) × (Nat → Nat) × (Nat → Nat)) × (Nat × (Nat → Nat) × (Nat → Nat)) × (Nat → Lw5)
/-- a law as it lies in the class -/
def LaC (σ : Hp) (a i : Nat) (w : Lw5) : Prop := ∃ ℓ c, (hR σ a i = some ℓ ∧ 85 ≤ ℓ ∧ kd σ ℓ = 5 ∧ hF σ ℓ 0 = .ref c) ∧ (85 ≤ c ∧ kd σ c = 100 ∧ hL σ c ≤ 1024) ∧ LwC (hL σ c) (hI σ c) w.1 w.2.1 w.2.2.1 w.2.2.2.1 w.2.2.2.2
def LaM (σ : Hp) (q o i : Nat) (w : Lw5) : Prop := LwM (fun j => hI σ q (o + (390 + 900 * i + j))) w.1 w.2.1 w.2.2.1 w.2.2.2.1 w.2.2.2.2
def SC (σ : Hp) (b : Nat) : StT → Prop
  | (v, H, fp, nl, fc, rn, (nd, dv, dd, de), (nu, uc, uh), lw) => (hF σ b 0 = .int (nI v) ∧ ∀ c, c < 224 → hI σ (b + 1) c = nI (H c)) ∧ (hF σ b 1 = .int (nI fp) ∧ hF σ b 2 = .int (nI nl) ∧ hF σ b 3 = .int (ofo fc)) ∧ (∀ e, e < 28 → hI σ (b + 2) e = nI (rn e)) ∧ (hF σ (b + 7) 3 = .int (nI nd) ∧ ∀ k, k < nd → hI σ (b + 8) k = nI (dv k) ∧ hI σ (b + 9) k = nI (dd k) ∧ hI σ (b + 10) k = nI (de k)) ∧ (∃ tp, tp < 32 ∧ hF σ (b + 4) 2 = .int (nI tp) ∧ hF σ (b + 4) 3 = .int (nI nu) ∧ ∀ i, i < nu → hI σ (b + 5) ((tp + 32 - nu + i) % 32) = nI (uc i) ∧ hI σ (b + 6) ((tp + 32 - nu + i) % 32) = nI (uh i)) ∧ ∀ i, i < nl → LaC σ (b + 3) i (lw i)
def SM (σ : Hp) (q o : Nat) : StT → Prop
  | (v, H, fp, nl, fc, rn, (nd, dv, dd, de), (nu, uc, uh), lw) => (hI σ q (o + 0) = nI v ∧ ∀ c, c < 224 → hI σ q (o + (34 + c)) = nI (H c)) ∧ (hI σ q (o + 1) = nI fp ∧ hI σ q (o + 2) = nI nl ∧ hI σ q (o + 3) = ofo fc) ∧ (∀ e, e < 28 → hI σ q (o + (6 + e)) = nI (rn e)) ∧ (hI σ q (o + 4) = nI nd ∧ ∀ k, k < nd → hI σ q (o + (258 + 3 * k)) = nI (dv k) ∧ hI σ q (o + (258 + (3 * k + 1))) = nI (dd k) ∧ hI σ q (o + (258 + (3 * k + 2))) = nI (de k)) ∧ (hI σ q (o + 5) = nI nu ∧ ∀ i, i < nu → hI σ q (o + (288 + 3 * i)) = nI (uc i / 28) ∧ hI σ q (o + (288 + (3 * i + 1))) = nI (uc i % 28) ∧ hI σ q (o + (288 + (3 * i + 2))) = nI (uh i)) ∧ ∀ i, i < nl → LaM σ q o i (lw i)
def WS : StT → Prop
  | (v, H, fp, nl, fc, rn, (nd, dv, dd, de), (nu, uc, uh), _) => Wf v H ∧ (1 ≤ fp ∧ fp ≤ 99) ∧ (nl ≤ 6 ∧ ∀ i, fc = some i → i < nl) ∧ (∀ e, e < 28 → rn e ≤ 1) ∧ DeW v nd dv dd de ∧ (nu ≤ 32 ∧ ∀ i, i < nu → uc i < 28 * v ∧ uh i < v)
/-- now, the images that are kept, the tape, status, fog, fault, refusals, the latest year -/
abbrev AllT : Type := StT × (Nat → Option StT) × (Nat × (Nat → Nat)) × (Int32 × Int32 × Int32) × (Nat → Int32) × (Nat × (Nat → Nat))
def RC (σ : Hp) : AllT → Prop
  | (S, im, (tl, tp), (st, fg, ft), rf, (yv, yK)) => FxC σ ∧ SC σ 1 S ∧ (∀ k, k < 2 → hI σ 13 k = (if (im k).isSome = true then nI 1 else nI 0) ∧ ∀ S', im k = some S' → SC σ (35 + 11 * k) S') ∧ (hF σ 16 1 = .int (nI tl) ∧ ∀ i, i < tl → hI σ 17 i = nI (tp i)) ∧ (hF σ 0 11 = .int st ∧ hF σ 0 12 = .int fg ∧ hF σ 0 13 = .int ft) ∧ (∀ i, i < 5 → hI σ 34 i = rf i) ∧ YrC σ yv yK
def wK (k : Nat) : Nat := [16496818, 284561586, 655, 4153, 24869441593, 591150, 267652, 17376357].getD k 0
def wHd (k : Nat) : Nat := [526131, 3657363, 67155, 24165011, 20099475].getD k 0
def rfp (i : Nat) : Nat := if i < 3 then i + 1 else i + 2
def RM (σ : Hp) : AllT → Prop
  | (S, im, (tl, tp), (st, fg, ft), rf, (yv, yK)) => FxM σ ∧ SM σ 59 0 S ∧ (∀ k, k < 2 → hI σ 61 k = (if (im k).isSome = true then nI 1 else nI 0) ∧ ∀ S', im k = some S' → SM σ 60 (5790 * k) S') ∧ (hF σ 57 8 = .int (nI tl) ∧ ∀ i, i < tl → hI σ 62 i = nI (tp i)) ∧ (hF σ 57 1 = .int st ∧ hF σ 57 6 = .int fg ∧ hF σ 57 13 = .int ft) ∧ (∀ i, i < 5 → hI σ 58 (rfp i) = rf i) ∧ YrM σ yv yK ∧ (∀ k, k < 8 → hJ σ 68 k = lN (wK k)) ∧ (∀ k, k < 5 → hJ σ 69 k = lN (wHd k))
def RW : AllT → Prop
  | (S, im, (tl, tp), _, _, (yv, _)) => WS S ∧ (∀ k S', k < 2 → im k = some S' → WS S') ∧ (tl ≤ 400 ∧ ∀ i, i < tl → tp i < 256) ∧ yv ≤ 8
/-- the model's cells are as they were -/
def SaM (σ τ : Hp) : Prop := hX τ = hX σ ∧ ∀ k, 57 ≤ k → k ≤ 84 → (kd τ k = kd σ k ∧ hL τ k = hL σ k) ∧ (∀ j, hF τ k j = hF σ k j) ∧ hI τ k = hI σ k ∧ hJ τ k = hJ σ k
def KM (σ τ : Hp) : Prop := Ag (fun k => Nat.ble 57 k && Nat.ble k 84) (fun k _ => Nat.beq k 57) σ τ
def Rm (σ τ : Hp) : Prop := (hN τ = hN σ ∧ hS τ = hS σ) ∧ hR τ = hR σ ∧ kd τ = kd σ
/-- the rows of laws hold laws alone -/
def RLw (σ : Hp) : Prop := ∀ a, a = 4 ∨ a = 38 ∨ a = 49 → ∀ i, i < 6 → hR σ a i = none ∨ ∃ ℓ, hR σ a i = some ℓ ∧ 85 ≤ ℓ ∧ kd σ ℓ = 5
def Pr (fc fm : Hp → Fr) (σ : Hp) (Q : Hp → Prop) : Prop := ∃ r τ υ, den (fc σ) = some (some (.int r), τ) ∧ den (fm τ) = some (some (.int r), υ) ∧ Q υ
theorem FxM_s {σ τ : Hp} (h : SaM σ τ) (hM : FxM σ) : FxM τ := by
  have k := fun (k : Nat) (h1 : 57 ≤ k) (h2 : k ≤ 84) => h.2 k h1 h2
  unfold FxM at hM ⊢
  simp only [(k 57 (by decide) (by decide)).1.1, (k 57 (by decide) (by decide)).1.2, (k 58 (by decide) (by decide)).1.1, (k 58 (by decide) (by decide)).1.2, (k 59 (by decide) (by decide)).1.1, (k 59 (by decide) (by decide)).1.2, (k 60 (by decide) (by decide)).1.1, (k 60 (by decide) (by decide)).1.2, (k 61 (by decide) (by decide)).1.1, (k 61 (by decide) (by decide)).1.2, (k 62 (by decide) (by decide)).1.1, (k 62 (by decide) (by decide)).1.2, (k 63 (by decide) (by decide)).1.1, (k 63 (by decide) (by decide)).1.2, (k 64 (by decide) (by decide)).1.1, (k 64 (by decide) (by decide)).1.2, (k 65 (by decide) (by decide)).1.1, (k 65 (by decide) (by decide)).1.2, (k 66 (by decide) (by decide)).1.1, (k 66 (by decide) (by decide)).1.2, (k 67 (by decide) (by decide)).1.1, (k 67 (by decide) (by decide)).1.2, (k 68 (by decide) (by decide)).1.1, (k 68 (by decide) (by decide)).1.2, (k 69 (by decide) (by decide)).1.1, (k 69 (by decide) (by decide)).1.2, (k 70 (by decide) (by decide)).1.1, (k 70 (by decide) (by decide)).1.2, (k 71 (by decide) (by decide)).1.1, (k 71 (by decide) (by decide)).1.2, (k 72 (by decide) (by decide)).1.1, (k 72 (by decide) (by decide)).1.2, (k 73 (by decide) (by decide)).1.1, (k 73 (by decide) (by decide)).1.2, (k 74 (by decide) (by decide)).1.1, (k 74 (by decide) (by decide)).1.2, (k 75 (by decide) (by decide)).1.1, (k 75 (by decide) (by decide)).1.2, (k 76 (by decide) (by decide)).1.1, (k 76 (by decide) (by decide)).1.2, (k 77 (by decide) (by decide)).1.1, (k 77 (by decide) (by decide)).1.2, (k 78 (by decide) (by decide)).1.1, (k 78 (by decide) (by decide)).1.2, (k 79 (by decide) (by decide)).1.1, (k 79 (by decide) (by decide)).1.2, (k 80 (by decide) (by decide)).1.1, (k 80 (by decide) (by decide)).1.2, (k 81 (by decide) (by decide)).1.1, (k 81 (by decide) (by decide)).1.2, (k 82 (by decide) (by decide)).1.1, (k 82 (by decide) (by decide)).1.2, (k 83 (by decide) (by decide)).1.1, (k 83 (by decide) (by decide)).1.2, (k 84 (by decide) (by decide)).1.1, (k 84 (by decide) (by decide)).1.2, (k 57 (by decide) (by decide)).2.1 2, (k 57 (by decide) (by decide)).2.1 3, (k 57 (by decide) (by decide)).2.1 4, (k 57 (by decide) (by decide)).2.1 5, (k 57 (by decide) (by decide)).2.1 7, (k 57 (by decide) (by decide)).2.1 16, (k 57 (by decide) (by decide)).2.1 18, (k 57 (by decide) (by decide)).2.1 19, (k 57 (by decide) (by decide)).2.1 21, (k 57 (by decide) (by decide)).2.1 22, (k 57 (by decide) (by decide)).2.1 25, (k 57 (by decide) (by decide)).2.1 26, (k 57 (by decide) (by decide)).2.1 28, (k 57 (by decide) (by decide)).2.1 29, (k 57 (by decide) (by decide)).2.1 33, (k 57 (by decide) (by decide)).2.1 34, (k 57 (by decide) (by decide)).2.1 35, (k 57 (by decide) (by decide)).2.1 37, (k 57 (by decide) (by decide)).2.1 38, (k 57 (by decide) (by decide)).2.1 39, (k 57 (by decide) (by decide)).2.1 42, (k 57 (by decide) (by decide)).2.1 43, (k 57 (by decide) (by decide)).2.1 44, (k 57 (by decide) (by decide)).2.1 45, (k 57 (by decide) (by decide)).2.1 48, (k 57 (by decide) (by decide)).2.1 49, (k 57 (by decide) (by decide)).2.1 51]
  exact hM
theorem SM_e {σ τ : Hp} {q o : Nat} {S : StT} (h : hI τ q = hI σ q) (hs : SM σ q o S) : SM τ q o S := by
  obtain ⟨v, H, fp, nl, fc, rn, ⟨nd, dv, dd, de⟩, ⟨nu, uc, uh⟩, lw⟩ := S
  simp only [SM, LaM] at hs ⊢
  rw [h]
  exact hs
def Xc (k : Nat) : Prop := (1 ≤ k ∧ k ≤ 11) ∨ (35 ≤ k ∧ k ≤ 56) ∨ 85 ≤ k
theorem LaC_a {P : Nat → Bool} {F : Nat → Nat → Bool} {σ τ : Hp} (g : Ag P F σ τ) (hP : ∀ k, Xc k → P k = false) (hF : ∀ k j, Xc k → F k j = false) {a i : Nat} {w : Lw5} (h : LaC σ a i w) : LaC τ a i w := by
  obtain ⟨ℓ, c, ⟨r1, r2, r3, r4⟩, ⟨c1, c2, c3⟩, lw⟩ := h
  refine ⟨ℓ, c, ⟨by rw [Ag_R g]; exact r1, r2, by rw [Ag_k g]; exact r3, by rw [Ag_f g ℓ 0 (hF ℓ 0 (Or.inr (Or.inr r2)))]; exact r4⟩, ⟨c1, by rw [Ag_k g]; exact c2, by rw [Ag_l g]; exact c3⟩, ?_⟩
  rw [Ag_l g, Ag_i g c (hP c (Or.inr (Or.inr c1)))]; exact lw
theorem SC_a {P : Nat → Bool} {F : Nat → Nat → Bool} {σ τ : Hp} (g : Ag P F σ τ) (hP : ∀ k, Xc k → P k = false) (hF : ∀ k j, Xc k → F k j = false) {b : Nat} (hb : b = 1 ∨ b = 35 ∨ b = 46) {S : StT} (h : SC σ b S) : SC τ b S := by
  obtain ⟨v, H, fp, nl, fc, rn, ⟨nd, dv, dd, de⟩, ⟨nu, uc, uh⟩, lw⟩ := S
  have i := fun (j : Nat) (hj : j ≤ 10) => Ag_i g (b + j) (hP (b + j) (by unfold Xc; omega))
  have f := fun (j k : Nat) (hj : j ≤ 10) => Ag_f g (b + j) k (hF (b + j) k (by unfold Xc; omega))
  have f0 := fun (k : Nat) => f 0 k (by omega)
  rw [Nat.add_zero] at f0
  obtain ⟨⟨a1, a2⟩, ⟨a3, a4, a5⟩, a6, ⟨a7, a8⟩, ⟨tp, t1, t2, t3, t4⟩, a9⟩ := h
  refine ⟨⟨by rw [f0]; exact a1, by rw [i 1 (by omega)]; exact a2⟩, ⟨by rw [f0]; exact a3, by rw [f0]; exact a4, by rw [f0]; exact a5⟩, by rw [i 2 (by omega)]; exact a6, ⟨by rw [f 7 3 (by omega)]; exact a7, by rw [i 8 (by omega), i 9 (by omega), i 10 (by omega)]; exact a8⟩, ⟨tp, t1, by rw [f 4 2 (by omega)]; exact t2, by rw [f 4 3 (by omega)]; exact t3, by rw [i 5 (by omega), i 6 (by omega)]; exact t4⟩, fun j hj => LaC_a g hP hF (a9 j hj)⟩
/-- what else the class's part rests on -/
def Yc (k : Nat) : Prop := Xc k ∨ k = 13 ∨ k = 17 ∨ k = 32 ∨ k = 33 ∨ k = 34
theorem RC_a {P : Nat → Bool} {F : Nat → Nat → Bool} {σ τ : Hp} (g : Ag P F σ τ) (hP : ∀ k, Yc k → P k = false) (hF : ∀ k j, Xc k → F k j = false) (hr : ∀ p, p ∈ rfC → F p.1 p.2 = false) (hf : F 16 1 = false ∧ F 0 11 = false ∧ F 0 12 = false ∧ F 0 13 = false ∧ F 31 2 = false) {R : AllT} (h : RC σ R) : RC τ R := by
  obtain ⟨S, im, ⟨tl, tp⟩, ⟨st, fg, ft⟩, rf, ⟨yv, yK⟩⟩ := R
  obtain ⟨h1, h2, h3, ⟨h4, h5⟩, ⟨h6, h7, h8⟩, h9, ⟨y1, y2, y3⟩⟩ := h
  have hX : ∀ k, Xc k → P k = false := fun k hk => hP k (Or.inl hk)
  refine ⟨FxC_a g hr h1, SC_a g hX hF (Or.inl rfl) h2, fun k hk => ⟨?_, fun S' e => ?_⟩, ⟨?_, ?_⟩, ⟨?_, ?_, ?_⟩, ?_, ⟨?_, ?_, ?_⟩⟩
  · rw [Ag_i g 13 (hP 13 (by simp [Yc]))]; exact (h3 k hk).1
  · exact SC_a g hX hF (by omega) ((h3 k hk).2 S' e)
  · rw [Ag_f g 16 1 hf.1]; exact h4
  · rw [Ag_i g 17 (hP 17 (by simp [Yc]))]; exact h5
  · rw [Ag_f g 0 11 hf.2.1]; exact h6
  · rw [Ag_f g 0 12 hf.2.2.1]; exact h7
  · rw [Ag_f g 0 13 hf.2.2.2.1]; exact h8
  · rw [Ag_i g 34 (hP 34 (by simp [Yc]))]; exact h9
  · rw [Ag_f g 31 2 hf.2.2.2.2]; exact y1
  · rw [Ag_i g 32 (hP 32 (by simp [Yc]))]; exact y2
  · rw [Ag_i g 33 (hP 33 (by simp [Yc]))]; exact y3
theorem RC_q {σ τ : Hp} (g : Qc σ τ) {R : AllT} (h : RC σ R) : RC τ R := by
  refine RC_a g ?_ ?_ (by decide) ⟨rfl, rfl, rfl, rfl, rfl⟩ h
  · intro k hk
    unfold Pc
    cases a : Nat.ble 18 k with
    | false => rfl
    | true =>
      cases b : Nat.ble k 30 with
      | false => rfl
      | true =>
        have a := Nat.le_of_ble_eq_true a
        have b := Nat.le_of_ble_eq_true b
        unfold Yc Xc at hk; omega
  · intro k j hk
    unfold Fc
    rw [bq (show ¬ k = 18 by unfold Xc at hk; omega), bq (show ¬ k = 23 by unfold Xc at hk; omega), bq (show ¬ k = 28 by unfold Xc at hk; omega), bq (show ¬ k = 0 by unfold Xc at hk; omega)]; rfl
theorem RC_k {σ τ : Hp} (g : KM σ τ) {R : AllT} (h : RC σ R) : RC τ R := by
  refine RC_a g ?_ ?_ (by decide) ⟨rfl, rfl, rfl, rfl, rfl⟩ h
  · intro k hk
    cases a : Nat.ble 57 k with
    | false => rfl
    | true =>
      cases b : Nat.ble k 84 with
      | false => rfl
      | true =>
        have a := Nat.le_of_ble_eq_true a
        have b := Nat.le_of_ble_eq_true b
        unfold Yc Xc at hk; omega
  · intro k j hk
    exact bq (by unfold Xc at hk; omega)
theorem RM_a {σ τ : Hp} (hM : FxM σ → FxM τ) (hi : ∀ k, k = 58 ∨ k = 59 ∨ k = 60 ∨ k = 61 ∨ k = 62 ∨ k = 84 → hI τ k = hI σ k) (hj : hJ τ 68 = hJ σ 68 ∧ hJ τ 69 = hJ σ 69) (hf : ∀ j, j = 1 ∨ j = 6 ∨ j = 8 ∨ j = 13 ∨ j = 52 → hF τ 57 j = hF σ 57 j) {R : AllT} (h : RM σ R) : RM τ R := by
  obtain ⟨S, im, ⟨tl, tp⟩, ⟨st, fg, ft⟩, rf, ⟨yv, yK⟩⟩ := R
  obtain ⟨h1, h2, h3, ⟨h4, h5⟩, ⟨h6, h7, h8⟩, h9, ⟨y1, y2⟩, w1, w2⟩ := h
  refine ⟨hM h1, SM_e (hi 59 (by simp)) h2, fun k hk => ⟨?_, fun S' e => SM_e (hi 60 (by simp)) ((h3 k hk).2 S' e)⟩, ⟨?_, ?_⟩, ⟨?_, ?_, ?_⟩, ?_, ⟨?_, ?_⟩, ?_, ?_⟩
  · rw [hi 61 (by simp)]; exact (h3 k hk).1
  · rw [hf 8 (by simp)]; exact h4
  · rw [hi 62 (by simp)]; exact h5
  · rw [hf 1 (by simp)]; exact h6
  · rw [hf 6 (by simp)]; exact h7
  · rw [hf 13 (by simp)]; exact h8
  · rw [hi 58 (by simp)]; exact h9
  · rw [hf 52 (by simp)]; exact y1
  · rw [hi 84 (by simp)]; exact y2
  · rw [hj.1]; exact w1
  · rw [hj.2]; exact w2
theorem RM_s {σ τ : Hp} (g : SaM σ τ) {R : AllT} (h : RM σ R) : RM τ R := RM_a (FxM_s g) (fun k hk => (g.2 k (by omega) (by omega)).2.2.1) ⟨(g.2 68 (by omega) (by omega)).2.2.2, (g.2 69 (by omega) (by omega)).2.2.2⟩ (fun j _ => (g.2 57 (by omega) (by omega)).2.1 j) h
theorem RM_q {σ τ : Hp} (g : Qm σ τ) {R : AllT} (h : RM σ R) : RM τ R := RM_a (Qm_M g) (fun k hk => by rcases hk with rfl | rfl | rfl | rfl | rfl | rfl <;> exact Ag_i g _ rfl) ⟨Ag_j g 68 rfl, Ag_j g 69 rfl⟩ (fun j hj => by rcases hj with rfl | rfl | rfl | rfl | rfl <;> exact Ag_f g _ _ rfl) h
theorem SaM_a {P : Nat → Bool} {F : Nat → Nat → Bool} {σ τ : Hp} (g : Ag P F σ τ) (hP : ∀ k, 57 ≤ k → k ≤ 84 → P k = false ∧ ∀ j, F k j = false) : SaM σ τ := ⟨g.1.2.2, fun k h1 h2 => ⟨⟨Ag_k g k, Ag_l g k⟩, fun j => Ag_f g k j ((hP k h1 h2).2 j), Ag_i g k (hP k h1 h2).1, Ag_j g k (hP k h1 h2).1⟩⟩
theorem SaM_q {σ τ : Hp} (g : Qc σ τ) : SaM σ τ := SaM_a g (fun k h1 h2 => ⟨by
  unfold Pc
  cases b : Nat.ble k 30 with
  | false => rw [Bool.and_false]
  | true => have := Nat.le_of_ble_eq_true b; omega, fun j => by
  unfold Fc
  rw [bq (show ¬ k = 18 by omega), bq (show ¬ k = 23 by omega), bq (show ¬ k = 28 by omega), bq (show ¬ k = 0 by omega)]; rfl⟩)
theorem KM_q {σ τ : Hp} (g : Qm σ τ) : KM σ τ := Ag_w g (fun k e => by
  unfold Pm at e
  simp only [Bool.and_eq_true] at e ⊢
  have a := Nat.le_of_ble_eq_true e.1
  have b := Nat.le_of_ble_eq_true e.2
  exact ⟨Nat.ble_eq_true_of_le (by omega), Nat.ble_eq_true_of_le (by omega)⟩) (fun k j e => by
  unfold Fm at e
  simp only [Bool.and_eq_true] at e
  exact e.1)
theorem Rm_a {P : Nat → Bool} {F : Nat → Nat → Bool} {σ τ : Hp} (g : Ag P F σ τ) : Rm σ τ := ⟨⟨g.1.1, g.1.2.1⟩, g.2.1.2.2, g.2.1.1⟩
/-- what is kept behind a call -/
def Ok (σ υ : Hp) (R : AllT) : Prop := RC υ R ∧ RM υ R ∧ RW R ∧ hX υ = hX σ ∧ (hN υ ≤ hN σ + 2 ∧ hS υ ≤ hS σ + 1025) ∧ (RLw σ → RLw υ)
def Rm2 (σ τ : Hp) : Prop := (hN τ ≤ hN σ + 2 ∧ hS τ ≤ hS σ + 1025) ∧ (RLw σ → RLw τ)
theorem Rm_2 {σ τ : Hp} (h : Rm σ τ) : Rm2 σ τ := ⟨⟨by rw [h.1.1]; omega, by rw [h.1.2]; omega⟩, fun r => by unfold RLw at r ⊢; rw [h.2.1, h.2.2]; exact r⟩
theorem Pmut {fc fm : Hp → Fr} {σ : Hp} {R : AllT} (hC : RC σ R) (hM : RM σ R) (hW : RW R) (h : ∀ ρ, RM ρ R → ∃ r R', RW R' ∧ Ev (den (fc σ)) (fun a τ => a = some (.int r) ∧ RC τ R' ∧ SaM σ τ ∧ Rm2 σ τ) ∧ Ev (den (fm ρ)) (fun a τ => a = some (.int r) ∧ RM τ R' ∧ KM ρ τ)) : Pr fc fm σ (fun υ => ∃ R', Ok σ υ R') := by
  obtain ⟨r, R1, -, ⟨_, τ, e1, rfl, -, s1, -⟩, -⟩ := h σ hM
  obtain ⟨r2, R2, w2, ⟨_, τ2, e2, rfl, c2, s2, n2⟩, ⟨_, υ, e3, rfl, m3, k3⟩⟩ := h τ (RM_s s1 hM)
  rw [e1] at e2
  cases e2
  refine ⟨r, τ, υ, e1, e3, R2, RC_k k3 c2, m3, w2, by rw [k3.1.2.2, s2.1], ⟨by rw [k3.1.1]; exact n2.1.1, by rw [k3.1.2.1]; exact n2.1.2⟩, fun r => by have q := n2.2 r; unfold RLw at q ⊢; rw [k3.2.1.2.2, k3.2.1.1]; exact q⟩
theorem Pq {fc fm : Hp → Fr} {σ : Hp} {R : AllT} (hC : RC σ R) (hM : RM σ R) (hW : RW R) (h : ∀ ρ, RM ρ R → ∃ r, Ev (den (fc σ)) (fun a τ => a = some (.int r) ∧ Qc σ τ) ∧ Ev (den (fm ρ)) (fun a τ => a = some (.int r) ∧ Qm ρ τ)) : Pr fc fm σ (fun υ => ∃ R', Ok σ υ R') := by
  refine Pmut hC hM hW (fun ρ hρ => ?_)
  obtain ⟨r, h1, h2⟩ := h ρ hρ
  exact ⟨r, R, hW, Ev_m h1 (fun a τ z => ⟨z.1, RC_q z.2 hC, SaM_q z.2, Rm_2 (Rm_a z.2)⟩), Ev_m h2 (fun a τ z => ⟨z.1, RM_q z.2 hρ, KM_q z.2⟩)⟩
/-! questions, with the whole state -/
def lawT (fc : Option Nat) (lw : Nat → Lw5) : Tl := match fc with
  | none => fun _ _ => none
  | some i => fun h w => tel (lw i).2.1 (fun j => phI ((lw i).2.2.2.1 j) ((lw i).2.2.2.2 j)) h w (lw i).1
section
variable {σ ρ : Hp} {v fp nl nd nu tl yv : Nat} {H rn dv dd de uc uh tp yK : Nat → Nat} {fc : Option Nat} {lw : Nat → Lw5} {im : Nat → Option StT} {st fg ft : Int32} {rf : Nat → Int32}
theorem RC_g (h : RC σ ((v, H, fp, nl, fc, rn, (nd, dv, dd, de), (nu, uc, uh), lw), im, (tl, tp), (st, fg, ft), rf, (yv, yK))) (w : RW ((v, H, fp, nl, fc, rn, (nd, dv, dd, de), (nu, uc, uh), lw), im, (tl, tp), (st, fg, ft), rf, (yv, yK))) : FxC σ ∧ StC σ v H ∧ RnC σ rn ∧ InC σ (lawT fc lw) ∧ DeC σ nd dv dd de ∧ hF σ 1 1 = .int (nI fp) ∧ YrC σ yv yK := by
  obtain ⟨h1, ⟨⟨a1, a2⟩, ⟨a3, a4, a5⟩, a6, ⟨a7, a8⟩, -, a9⟩, -, -, -, -, h7⟩ := h
  obtain ⟨⟨w1, w2, ⟨w3, w4⟩, w5, w6, w7⟩, -, -, -⟩ := w
  refine ⟨h1, ⟨a1, a2⟩, fun e he => ⟨a6 e he, w5 e he⟩, ?_, ⟨a7, a8⟩, a3, h7⟩
  cases fc with
  | none => exact Or.inl ⟨a5, rfl⟩
  | some i =>
    obtain ⟨ℓ, c, r, s, t⟩ := a9 i (w4 i rfl)
    exact Or.inr ⟨i, nl, ℓ, c, (lw i).1, (lw i).2.1, (lw i).2.2.1, (lw i).2.2.2.1, (lw i).2.2.2.2, ⟨a5, a4, w4 i rfl, w3⟩, r, s, t, rfl⟩
theorem RM_g (h : RM ρ ((v, H, fp, nl, fc, rn, (nd, dv, dd, de), (nu, uc, uh), lw), im, (tl, tp), (st, fg, ft), rf, (yv, yK))) (w : RW ((v, H, fp, nl, fc, rn, (nd, dv, dd, de), (nu, uc, uh), lw), im, (tl, tp), (st, fg, ft), rf, (yv, yK))) : FxM ρ ∧ StM ρ v H ∧ RnM ρ rn ∧ InM ρ (lawT fc lw) ∧ DeM ρ nd dv dd de ∧ hI ρ 59 1 = nI fp ∧ YrM ρ yv yK := by
  obtain ⟨h1, ⟨⟨a1, a2⟩, ⟨a3, a4, a5⟩, a6, ⟨a7, a8⟩, -, a9⟩, -, -, -, -, h7, -⟩ := h
  obtain ⟨⟨w1, w2, ⟨w3, w4⟩, w5, w6, w7⟩, -, -, -⟩ := w
  simp only [Nat.zero_add] at a1 a2 a3 a4 a5 a6 a7 a8
  refine ⟨h1, ⟨a1, a2⟩, fun e he => ⟨a6 e he, w5 e he⟩, ?_, ⟨a7, a8⟩, a3, h7⟩
  cases fc with
  | none => exact Or.inl ⟨a5, rfl⟩
  | some i =>
    have := a9 i (w4 i rfl)
    unfold LaM at this
    simp only [Nat.zero_add] at this
    exact Or.inr ⟨i, (lw i).1, (lw i).2.1, (lw i).2.2.1, (lw i).2.2.2.1, (lw i).2.2.2.2, ⟨a5, by have := w4 i rfl; omega⟩, this, rfl⟩
end
section
variable {σ : Hp} {R : AllT}
theorem K_live (hC : RC σ R) (hM : RM σ R) (hW : RW R) (x y z : Int32) : Pr (fun σ => (499, 96, 0, [.ref 0, .int x, .int y, .int z, .float 0, .float 0], [], σ)) (fun σ => (499, 190, 0, [.ref 57, .int x, .int y, .int z], [], σ)) σ (fun υ => ∃ R', Ok σ υ R') := by
  obtain ⟨⟨v, H, fp, nl, fc, rn, ⟨nd, dv, dd, de⟩, ⟨nu, uc, uh⟩, lw⟩, im, ⟨tl, tp⟩, ⟨st, fg, ft⟩, rf, ⟨yv, yK⟩⟩ := R
  refine Pq hC hM hW (fun ρ hρ => ?_)
  obtain ⟨c1, c2, c3, c4, c5, c6, c7⟩ := RC_g hC hW
  obtain ⟨m1, m2, m3, m4, m5, m6, m7⟩ := RM_g hρ hW
  exact P_live (d := 495) c1 m1 c2 m2 hW.1.1 x y z
theorem K_when (hC : RC σ R) (hM : RM σ R) (hW : RW R) (x y z : Int32) : Pr (fun σ => (499, 97, 0, [.ref 0, .int x, .int y, .int z, .float 0], [], σ)) (fun σ => (499, 191, 0, [.ref 57, .int x, .int y, .int z, .float 0, .float 0, .float 0], [], σ)) σ (fun υ => ∃ R', Ok σ υ R') := by
  obtain ⟨⟨v, H, fp, nl, fc, rn, ⟨nd, dv, dd, de⟩, ⟨nu, uc, uh⟩, lw⟩, im, ⟨tl, tp⟩, ⟨st, fg, ft⟩, rf, ⟨yv, yK⟩⟩ := R
  refine Pq hC hM hW (fun ρ hρ => ?_)
  obtain ⟨c1, c2, c3, c4, c5, c6, c7⟩ := RC_g hC hW
  obtain ⟨m1, m2, m3, m4, m5, m6, m7⟩ := RM_g hρ hW
  exact P_when (d := 495) c1 m1 c2 m2 hW.1.1 x y z
theorem K_age (hC : RC σ R) (hM : RM σ R) (hW : RW R) (x y z : Int32) : Pr (fun σ => (499, 98, 0, [.ref 0, .int x, .int y, .int z, .float 0], [], σ)) (fun σ => (499, 192, 0, [.ref 57, .int x, .int y, .int z, .float 0, .float 0], [], σ)) σ (fun υ => ∃ R', Ok σ υ R') := by
  obtain ⟨⟨v, H, fp, nl, fc, rn, ⟨nd, dv, dd, de⟩, ⟨nu, uc, uh⟩, lw⟩, im, ⟨tl, tp⟩, ⟨st, fg, ft⟩, rf, ⟨yv, yK⟩⟩ := R
  refine Pq hC hM hW (fun ρ hρ => ?_)
  obtain ⟨c1, c2, c3, c4, c5, c6, c7⟩ := RC_g hC hW
  obtain ⟨m1, m2, m3, m4, m5, m6, m7⟩ := RM_g hρ hW
  exact P_age (d := 495) c1 m1 c2 m2 hW.1.1 x y z
theorem K_gap (hC : RC σ R) (hM : RM σ R) (hW : RW R) (x : Int32) : Pr (fun σ => (499, 100, 0, [.ref 0, .int x, .float 0, .float 0, .float 0], [], σ)) (fun σ => (499, 195, 0, [.ref 57, .int x, .float 0, .float 0, .float 0], [], σ)) σ (fun υ => ∃ R', Ok σ υ R') := by
  obtain ⟨⟨v, H, fp, nl, fc, rn, ⟨nd, dv, dd, de⟩, ⟨nu, uc, uh⟩, lw⟩, im, ⟨tl, tp⟩, ⟨st, fg, ft⟩, rf, ⟨yv, yK⟩⟩ := R
  refine Pq hC hM hW (fun ρ hρ => ?_)
  obtain ⟨c1, c2, c3, c4, c5, c6, c7⟩ := RC_g hC hW
  obtain ⟨m1, m2, m3, m4, m5, m6, m7⟩ := RM_g hρ hW
  exact P_gap (d := 495) c1 m1 c2 m2 hW.1.1 x
theorem K_owes (hC : RC σ R) (hM : RM σ R) (hW : RW R) (x y : Int32) : Pr (fun σ => (499, 101, 0, [.ref 0, .int x, .int y], [], σ)) (fun σ => (499, 197, 0, [.ref 57, .int x, .int y], [], σ)) σ (fun υ => ∃ R', Ok σ υ R') := by
  obtain ⟨⟨v, H, fp, nl, fc, rn, ⟨nd, dv, dd, de⟩, ⟨nu, uc, uh⟩, lw⟩, im, ⟨tl, tp⟩, ⟨st, fg, ft⟩, rf, ⟨yv, yK⟩⟩ := R
  refine Pq hC hM hW (fun ρ hρ => ?_)
  obtain ⟨c1, c2, c3, c4, c5, c6, c7⟩ := RC_g hC hW
  obtain ⟨m1, m2, m3, m4, m5, m6, m7⟩ := RM_g hρ hW
  exact P_owes (d := 495) c1 m1 c2 m2 hW.1.1 x y
theorem K_away (hC : RC σ R) (hM : RM σ R) (hW : RW R) : Pr (fun σ => (499, 102, 0, [.ref 0, .float 0, .float 0], [], σ)) (fun σ => (499, 198, 0, [.ref 57, .float 0, .float 0], [], σ)) σ (fun υ => ∃ R', Ok σ υ R') := by
  obtain ⟨⟨v, H, fp, nl, fc, rn, ⟨nd, dv, dd, de⟩, ⟨nu, uc, uh⟩, lw⟩, im, ⟨tl, tp⟩, ⟨st, fg, ft⟩, rf, ⟨yv, yK⟩⟩ := R
  refine Pq hC hM hW (fun ρ hρ => ?_)
  obtain ⟨c1, c2, c3, c4, c5, c6, c7⟩ := RC_g hC hW
  obtain ⟨m1, m2, m3, m4, m5, m6, m7⟩ := RM_g hρ hW
  exact P_away (d := 495) c1 m1 c2 m2 hW.1.1
theorem K_of (hC : RC σ R) (hM : RM σ R) (hW : RW R) (x y z k : Int32) : Pr (fun σ => (499, 92, 0, [.ref 0, .int x, .int y, .int z, .int k], [], σ)) (fun σ => (499, 184, 0, [.ref 57, .int x, .int y, .int z, .int k, .float 0], [], σ)) σ (fun υ => ∃ R', Ok σ υ R') := by
  obtain ⟨⟨v, H, fp, nl, fc, rn, ⟨nd, dv, dd, de⟩, ⟨nu, uc, uh⟩, lw⟩, im, ⟨tl, tp⟩, ⟨st, fg, ft⟩, rf, ⟨yv, yK⟩⟩ := R
  refine Pq hC hM hW (fun ρ hρ => ?_)
  obtain ⟨c1, c2, c3, c4, c5, c6, c7⟩ := RC_g hC hW
  obtain ⟨m1, m2, m3, m4, m5, m6, m7⟩ := RM_g hρ hW
  exact P_of (d := 491) c1 m1 c2 m2 hW.1.1 c3 m3 (InC_Lf c1 c4) (InM_Lf m1 m4) x y z k
theorem K_wages (hC : RC σ R) (hM : RM σ R) (hW : RW R) (x y : Int32) : Pr (fun σ => (499, 99, 0, [.ref 0, .int x, .int y, .float 0, .float 0, .float 0, .float 0], [], σ)) (fun σ => (499, 193, 0, [.ref 57, .int x, .int y, .float 0, .float 0], [], σ)) σ (fun υ => ∃ R', Ok σ υ R') := by
  obtain ⟨⟨v, H, fp, nl, fc, rn, ⟨nd, dv, dd, de⟩, ⟨nu, uc, uh⟩, lw⟩, im, ⟨tl, tp⟩, ⟨st, fg, ft⟩, rf, ⟨yv, yK⟩⟩ := R
  refine Pq hC hM hW (fun ρ hρ => ?_)
  obtain ⟨c1, c2, c3, c4, c5, c6, c7⟩ := RC_g hC hW
  obtain ⟨m1, m2, m3, m4, m5, m6, m7⟩ := RM_g hρ hW
  exact P_wages (d := 491) c1 m1 c2 m2 hW.1.1 c3 m3 (InC_Lf c1 c4) (InM_Lf m1 m4) x y
theorem K_chain (hC : RC σ R) (hM : RM σ R) (hW : RW R) (x y : Int32) : Pr (fun σ => (499, 106, 0, [.ref 0, .int x, .int y], [], σ)) (fun σ => (499, 204, 0, [.ref 57, .int x, .int y], [], σ)) σ (fun υ => ∃ R', Ok σ υ R') := by
  obtain ⟨⟨v, H, fp, nl, fc, rn, ⟨nd, dv, dd, de⟩, ⟨nu, uc, uh⟩, lw⟩, im, ⟨tl, tp⟩, ⟨st, fg, ft⟩, rf, ⟨yv, yK⟩⟩ := R
  refine Pq hC hM hW (fun ρ hρ => ?_)
  obtain ⟨c1, c2, c3, c4, c5, c6, c7⟩ := RC_g hC hW
  obtain ⟨m1, m2, m3, m4, m5, m6, m7⟩ := RM_g hρ hW
  exact P_chain (d := 491) c1 m1 c2 m2 hW.1.1 (InC_Lf c1 c4) (InM_Lf m1 m4) x y
theorem K_easter (hC : RC σ R) (hM : RM σ R) (hW : RW R) (x y : Int32) : Pr (fun σ => (499, 104, 0, [.ref 0, .int x, .int y], [], σ)) (fun σ => (499, 208, 0, [.ref 57, .int x, .int y], [], σ)) σ (fun υ => ∃ R', Ok σ υ R') := by
  obtain ⟨⟨v, H, fp, nl, fc, rn, ⟨nd, dv, dd, de⟩, ⟨nu, uc, uh⟩, lw⟩, im, ⟨tl, tp⟩, ⟨st, fg, ft⟩, rf, ⟨yv, yK⟩⟩ := R
  refine Pq hC hM hW (fun ρ hρ => ?_)
  obtain ⟨c1, c2, c3, c4, c5, c6, c7⟩ := RC_g hC hW
  obtain ⟨m1, m2, m3, m4, m5, m6, m7⟩ := RM_g hρ hW
  exact P_easter (d := 491) c1 m1 c2 m2 hW.1.1 (InC_Lf c1 c4) (InM_Lf m1 m4) x y
theorem K_trade (hC : RC σ R) (hM : RM σ R) (hW : RW R) (x y z : Int32) : Pr (fun σ => (499, 105, 0, [.ref 0, .int x, .int y, .int z], [], σ)) (fun σ => (499, 209, 0, [.ref 57, .int x, .int y, .int z, .float 0, .float 0, .float 0, .float 0, .float 0], [], σ)) σ (fun υ => ∃ R', Ok σ υ R') := by
  obtain ⟨⟨v, H, fp, nl, fc, rn, ⟨nd, dv, dd, de⟩, ⟨nu, uc, uh⟩, lw⟩, im, ⟨tl, tp⟩, ⟨st, fg, ft⟩, rf, ⟨yv, yK⟩⟩ := R
  refine Pq hC hM hW (fun ρ hρ => ?_)
  obtain ⟨c1, c2, c3, c4, c5, c6, c7⟩ := RC_g hC hW
  obtain ⟨m1, m2, m3, m4, m5, m6, m7⟩ := RM_g hρ hW
  exact P_trade (d := 491) c1 m1 c2 m2 hW.1.1 (InC_Lf c1 c4) (InM_Lf m1 m4) x y z
theorem K_last (hC : RC σ R) (hM : RM σ R) (hW : RW R) (x y z : Int32) : Pr (fun σ => (499, 107, 0, [.ref 0, .int x, .int y, .int z, .float 0, .float 0, .float 0, .float 0, .float 0], [], σ)) (fun σ => (499, 210, 0, [.ref 57, .int x, .int y, .int z, .float 0, .float 0, .float 0, .float 0, .float 0], [], σ)) σ (fun υ => ∃ R', Ok σ υ R') := by
  obtain ⟨⟨v, H, fp, nl, fc, rn, ⟨nd, dv, dd, de⟩, ⟨nu, uc, uh⟩, lw⟩, im, ⟨tl, tp⟩, ⟨st, fg, ft⟩, rf, ⟨yv, yK⟩⟩ := R
  refine Pq hC hM hW (fun ρ hρ => ?_)
  obtain ⟨c1, c2, c3, c4, c5, c6, c7⟩ := RC_g hC hW
  obtain ⟨m1, m2, m3, m4, m5, m6, m7⟩ := RM_g hρ hW
  exact P_last (d := 491) c1 m1 c2 m2 hW.1.1 c3 m3 (InC_Lf c1 c4) (InM_Lf m1 m4) x y z
theorem K_price (hC : RC σ R) (hM : RM σ R) (hW : RW R) (x : Int32) : Pr (fun σ => (499, 108, 0, [.ref 0, .int x, .float 0, .float 0], [], σ)) (fun σ => (499, 212, 0, [.ref 57, .int x, .float 0], [], σ)) σ (fun υ => ∃ R', Ok σ υ R') := by
  obtain ⟨⟨v, H, fp, nl, fc, rn, ⟨nd, dv, dd, de⟩, ⟨nu, uc, uh⟩, lw⟩, im, ⟨tl, tp⟩, ⟨st, fg, ft⟩, rf, ⟨yv, yK⟩⟩ := R
  refine Pq hC hM hW (fun ρ hρ => ?_)
  obtain ⟨c1, c2, c3, c4, c5, c6, c7⟩ := RC_g hC hW
  obtain ⟨m1, m2, m3, m4, m5, m6, m7⟩ := RM_g hρ hW
  exact P_price (d := 491) c1 m1 c2 m2 hW.1.1 (InC_Lf c1 c4) (InM_Lf m1 m4) c6 m6 hW.1.2.1 x
theorem K_forged (hC : RC σ R) (hM : RM σ R) (hW : RW R) (x : Int32) : Pr (fun σ => (499, 111, 0, [.ref 0, .int x, .float 0, .float 0], [], σ)) (fun σ => (499, 216, 0, [.ref 57, .int x, .float 0, .float 0], [], σ)) σ (fun υ => ∃ R', Ok σ υ R') := by
  obtain ⟨⟨v, H, fp, nl, fc, rn, ⟨nd, dv, dd, de⟩, ⟨nu, uc, uh⟩, lw⟩, im, ⟨tl, tp⟩, ⟨st, fg, ft⟩, rf, ⟨yv, yK⟩⟩ := R
  refine Pq hC hM hW (fun ρ hρ => ?_)
  obtain ⟨c1, c2, c3, c4, c5, c6, c7⟩ := RC_g hC hW
  obtain ⟨m1, m2, m3, m4, m5, m6, m7⟩ := RM_g hρ hW
  exact P_forged (d := 495) c1 m1 c2 m2 hW.1.1 c5 m5 hW.1.2.2.2.2.1 x
theorem K_explains (hC : RC σ R) (hM : RM σ R) (hW : RW R) (x : Int32) : Pr (fun σ => (499, 112, 0, [.ref 0, .int x, .float 0, .float 0, .float 0, .float 0], [], σ)) (fun σ => (499, 218, 0, [.ref 57, .int x, .float 0, .float 0, .float 0, .float 0, .float 0], [], σ)) σ (fun υ => ∃ R', Ok σ υ R') := by
  obtain ⟨⟨v, H, fp, nl, fc, rn, ⟨nd, dv, dd, de⟩, ⟨nu, uc, uh⟩, lw⟩, im, ⟨tl, tp⟩, ⟨st, fg, ft⟩, rf, ⟨yv, yK⟩⟩ := R
  refine Pq hC hM hW (fun ρ hρ => ?_)
  obtain ⟨c1, c2, c3, c4, c5, c6, c7⟩ := RC_g hC hW
  obtain ⟨m1, m2, m3, m4, m5, m6, m7⟩ := RM_g hρ hW
  exact P_explains (d := 494) c1 m1 c2 m2 hW.1.1 c5 m5 hW.1.2.2.2.2.1 x
theorem K_drawn (hC : RC σ R) (hM : RM σ R) (hW : RW R) (x y : Int32) : Pr (fun σ => (499, 114, 0, [.ref 0, .int x, .int y], [], σ)) (fun σ => (499, 221, 0, [.ref 57, .int x, .int y], [], σ)) σ (fun υ => ∃ R', Ok σ υ R') := by
  obtain ⟨⟨v, H, fp, nl, fc, rn, ⟨nd, dv, dd, de⟩, ⟨nu, uc, uh⟩, lw⟩, im, ⟨tl, tp⟩, ⟨st, fg, ft⟩, rf, ⟨yv, yK⟩⟩ := R
  refine Pq hC hM hW (fun ρ hρ => ?_)
  obtain ⟨c1, c2, c3, c4, c5, c6, c7⟩ := RC_g hC hW
  obtain ⟨m1, m2, m3, m4, m5, m6, m7⟩ := RM_g hρ hW
  exact P_drawn (d := 495) c1 m1 hW.2.2.2 c7 m7 x y
theorem K_fog (hC : RC σ R) (hM : RM σ R) (hW : RW R) : Pr (fun σ => (499, 88, 0, [.ref 0], [], σ)) (fun σ => (499, 145, 0, [.ref 57], [], σ)) σ (fun υ => ∃ R', Ok σ υ R') := by
  obtain ⟨⟨v, H, fp, nl, fc, rn, ⟨nd, dv, dd, de⟩, ⟨nu, uc, uh⟩, lw⟩, im, ⟨tl, tp⟩, ⟨st, fg, ft⟩, rf, ⟨yv, yK⟩⟩ := R
  refine Pq hC hM hW (fun ρ hρ => ?_)
  obtain ⟨c1, c2, c3, c4, c5, c6, c7⟩ := RC_g hC hW
  obtain ⟨m1, m2, m3, m4, m5, m6, m7⟩ := RM_g hρ hW
  exact ⟨fg, by rw [C_fog c1 hC.2.2.2.2.1.2.1]; exact Ev_s ⟨rfl, Ag_r⟩, by rw [M_fog m1 hρ.2.2.2.2.1.2.1]; exact Ev_s ⟨rfl, Ag_F Ag_r rfl⟩⟩
theorem K_status (hC : RC σ R) (hM : RM σ R) (hW : RW R) : Pr (fun σ => (499, 118, 0, [.ref 0], [], σ)) (fun σ => (499, 223, 0, [.ref 57], [], σ)) σ (fun υ => ∃ R', Ok σ υ R') := by
  obtain ⟨⟨v, H, fp, nl, fc, rn, ⟨nd, dv, dd, de⟩, ⟨nu, uc, uh⟩, lw⟩, im, ⟨tl, tp⟩, ⟨st, fg, ft⟩, rf, ⟨yv, yK⟩⟩ := R
  refine Pq hC hM hW (fun ρ hρ => ?_)
  obtain ⟨c1, c2, c3, c4, c5, c6, c7⟩ := RC_g hC hW
  obtain ⟨m1, m2, m3, m4, m5, m6, m7⟩ := RM_g hρ hW
  exact ⟨st, by rw [C_status c1 hC.2.2.2.2.1.1]; exact Ev_s ⟨rfl, Ag_r⟩, by rw [M_status m1 hρ.2.2.2.2.1.1]; exact Ev_s ⟨rfl, Ag_F Ag_r rfl⟩⟩
theorem K_fault (hC : RC σ R) (hM : RM σ R) (hW : RW R) : Pr (fun σ => (499, 90, 0, [.ref 0], [], σ)) (fun σ => (499, 156, 0, [.ref 57], [], σ)) σ (fun υ => ∃ R', Ok σ υ R') := by
  obtain ⟨⟨v, H, fp, nl, fc, rn, ⟨nd, dv, dd, de⟩, ⟨nu, uc, uh⟩, lw⟩, im, ⟨tl, tp⟩, ⟨st, fg, ft⟩, rf, ⟨yv, yK⟩⟩ := R
  refine Pq hC hM hW (fun ρ hρ => ?_)
  obtain ⟨c1, c2, c3, c4, c5, c6, c7⟩ := RC_g hC hW
  obtain ⟨m1, m2, m3, m4, m5, m6, m7⟩ := RM_g hρ hW
  exact ⟨ft, by rw [C_fault c1 hC.2.2.2.2.1.2.2]; exact Ev_s ⟨rfl, Ag_r⟩, by rw [M_fault m1 hρ.2.2.2.2.1.2.2]; exact Ev_s ⟨rfl, Ag_F Ag_r rfl⟩⟩
end
