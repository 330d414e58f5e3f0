/-! law: the text's tokens -/
abbrev Tx : Type := Nat × (Nat → Nat)
def kA (X : Tx) (p : Nat) : Nat := if X.1 ≤ p then 0 else if 97 ≤ X.2 p ∧ X.2 p ≤ 122 then 1 else if 48 ≤ X.2 p ∧ X.2 p ≤ 57 then 2 else 3
def skp (X : Tx) : Nat → Nat → Nat
  | 0, p => p
  | n + 1, p => if X.2 p = 32 then skp X n (p + 1) else p
def tS (X : Tx) (p : Nat) : Nat := skp X (X.1 - p) p
def rnf (X : Tx) (k : Nat) : Nat → Nat → Nat
  | 0, q => q
  | n + 1, q => if kA X q = k then rnf X k n (q + 1) else q
def rn_ (X : Tx) (k q : Nat) : Nat := rnf X k (X.1 - q) q
def tK (X : Tx) (p : Nat) : Nat := kA X (tS X p)
def tE (X : Tx) (p : Nat) : Nat := if tK X p = 0 then tS X p else if tK X p = 3 then tS X p + 1 else rn_ X (tK X p) (tS X p + 1)
theorem tS_y {X : Tx} {p : Nat} (h : p < X.1) (e : X.2 p = 32) : tS X p = tS X (p + 1) := by
  unfold tS
  rw [show X.1 - p = (X.1 - (p + 1)) + 1 by omega]
  simp only [skp, e, reduceIte]
theorem tS_n {X : Tx} {p : Nat} (h : ¬ (p < X.1 ∧ X.2 p = 32)) : tS X p = p := by
  unfold tS
  by_cases q : p < X.1
  · rw [show X.1 - p = (X.1 - (p + 1)) + 1 by omega]
    simp only [skp, show ¬ X.2 p = 32 from fun z => h ⟨q, z⟩, reduceIte]
  · rw [show X.1 - p = 0 by omega]; rfl
theorem tS_b {X : Tx} : ∀ (n p : Nat), X.1 - p = n → p ≤ X.1 → p ≤ tS X p ∧ tS X p ≤ X.1 ∧ (tS X p < X.1 → X.2 (tS X p) ≠ 32) := by
  intro n
  induction n with
  | zero => intro p h1 h2; rw [tS_n (by omega)]; exact ⟨by omega, by omega, fun z => by omega⟩
  | succ n ih =>
    intro p h1 h2
    by_cases e : X.2 p = 32
    · rw [tS_y (by omega) e]
      have := ih (p + 1) (by omega) (by omega)
      exact ⟨by omega, this.2.1, this.2.2⟩
    · rw [tS_n (fun z => e z.2)]
      exact ⟨by omega, by omega, fun _ => e⟩
theorem rn_y {X : Tx} {k q : Nat} (h : q < X.1) (e : kA X q = k) : rn_ X k q = rn_ X k (q + 1) := by
  unfold rn_
  rw [show X.1 - q = (X.1 - (q + 1)) + 1 by omega]
  simp only [rnf, e, reduceIte]
theorem rn_n {X : Tx} {k q : Nat} (h : ¬ (q < X.1 ∧ kA X q = k)) : rn_ X k q = q := by
  unfold rn_
  by_cases z : q < X.1
  · rw [show X.1 - q = (X.1 - (q + 1)) + 1 by omega]
    simp only [rnf, show ¬ kA X q = k from fun w => h ⟨z, w⟩, reduceIte]
  · rw [show X.1 - q = 0 by omega]; rfl
theorem rn_b {X : Tx} {k : Nat} : ∀ (n q : Nat), X.1 - q = n → q ≤ X.1 → q ≤ rn_ X k q ∧ rn_ X k q ≤ X.1 ∧ ∀ i, q ≤ i → i < rn_ X k q → kA X i = k := by
  intro n
  induction n with
  | zero => intro q h1 h2; rw [rn_n (by omega)]; exact ⟨by omega, by omega, fun i h1 h2 => by omega⟩
  | succ n ih =>
    intro q h1 h2
    by_cases e : kA X q = k
    · rw [rn_y (by omega) e]
      have := ih (q + 1) (by omega) (by omega)
      refine ⟨by omega, this.2.1, fun i h1 h2 => ?_⟩
      by_cases z : i = q
      · rw [z]; exact e
      · exact this.2.2 i (by omega) h2
    · rw [rn_n (fun z => e z.2)]
      exact ⟨by omega, by omega, fun i h1 h2 => by omega⟩
theorem kA_4 {X : Tx} {p : Nat} : kA X p < 4 ∧ (kA X p = 0 ↔ X.1 ≤ p) := by
  unfold kA
  split
  · omega
  · split
    · omega
    · split <;> omega
theorem kA_1 {X : Tx} {p : Nat} : kA X p = 1 ↔ p < X.1 ∧ 97 ≤ X.2 p ∧ X.2 p ≤ 122 := by
  unfold kA
  split
  · omega
  · split
    · omega
    · split <;> omega
theorem kA_2 {X : Tx} {p : Nat} : kA X p = 2 ↔ p < X.1 ∧ 48 ≤ X.2 p ∧ X.2 p ≤ 57 := by
  unfold kA
  split
  · omega
  · split
    · omega
    · split <;> omega
/-- a token's bounds -/
theorem tk_b {X : Tx} {p : Nat} (hp : p ≤ X.1) : (p ≤ tS X p ∧ tS X p ≤ tE X p ∧ tE X p ≤ X.1) ∧ tK X p < 4 ∧ (tK X p ≠ 0 → tS X p < tE X p) ∧ (tK X p = 1 ∨ tK X p = 2 → ∀ i, tS X p ≤ i → i < tE X p → kA X i = tK X p) := by
  obtain ⟨a1, a2, a3⟩ := tS_b _ p rfl hp
  have k4 : tK X p < 4 ∧ (tK X p = 0 ↔ X.1 ≤ tS X p) := kA_4
  by_cases k0 : tK X p = 0
  · have e : tE X p = tS X p := by unfold tE; rw [if_pos k0]
    exact ⟨by omega, by omega, fun z => absurd k0 z, fun z => by omega⟩
  · by_cases k3 : tK X p = 3
    · have e : tE X p = tS X p + 1 := by unfold tE; rw [if_neg k0, if_pos k3]
      exact ⟨by omega, by omega, fun z => by omega, fun z => by omega⟩
    · have e : tE X p = rn_ X (tK X p) (tS X p + 1) := by unfold tE; rw [if_neg k0, if_neg k3]
      obtain ⟨b1, b2, b3⟩ := rn_b (X := X) (k := tK X p) _ (tS X p + 1) rfl (by omega)
      refine ⟨by omega, by omega, fun z => by omega, fun z i h1 h2 => ?_⟩
      by_cases w : i = tS X p
      · rw [w]; rfl
      · exact b3 i (by omega) (by omega)
/-- the value of a word of n letters from s on -/
def wv (X : Tx) (s : Nat) : Nat → Nat
  | 0 => 0
  | n + 1 => wv X s n * 32 + (X.2 (s + n) - 96)
def wd_ (X : Tx) (p : Nat) : Nat := if tK X p = 1 then wv X (tS X p) (tE X p - tS X p) else 0
def sg_ (X : Tx) (p : Nat) : Nat := if tK X p = 3 then X.2 (tS X p) else 0
def nv (X : Tx) (s : Nat) : Nat → Nat
  | 0 => 0
  | n + 1 => min (nv X s n * 10 + (X.2 (s + n) - 48)) 1001
def nm_ (X : Tx) (p : Nat) : Nat := nv X (tS X p) (tE X p - tS X p)
theorem nv_le {X : Tx} {s : Nat} : ∀ n, nv X s n ≤ 1001
  | 0 => by simp [nv]
  | n + 1 => by simp only [nv]; omega
/-- the value of a list of letters -/
def vl (w : List Nat) (n : Nat) : Nat := match n with
  | 0 => 0
  | n + 1 => vl w n * 32 + (w.getD n 0 - 96)
theorem wv_pos {X : Tx} {s : Nat} : ∀ {n : Nat}, (∀ i, i < n → 97 ≤ X.2 (s + i) ∧ X.2 (s + i) ≤ 122) → 0 < n → 0 < wv X s n
  | 0, _, h => absurd h (by omega)
  | n + 1, h, _ => by simp only [wv]; have := h n (by omega); omega
theorem wv_i {X : Tx} {s : Nat} {w : List Nat} : ∀ {n m : Nat}, (∀ i, i < n → 97 ≤ X.2 (s + i) ∧ X.2 (s + i) ≤ 122) → (∀ i, i < m → 97 ≤ w.getD i 0 ∧ w.getD i 0 ≤ 122) → wv X s n = vl w m → n = m ∧ ∀ i, i < n → X.2 (s + i) = w.getD i 0
  | 0, 0, _, _, _ => ⟨rfl, fun i h => absurd h (by omega)⟩
  | 0, m + 1, _, h, e => by simp only [wv, vl] at e; have := h m (by omega); omega
  | n + 1, 0, h, _, e => by simp only [wv, vl] at e; have := h n (by omega); omega
  | n + 1, m + 1, h, h', e => by
    simp only [wv, vl] at e
    have a := h n (by omega)
    have b := h' m (by omega)
    obtain ⟨r1, r2⟩ := wv_i (n := n) (m := m) (fun i hi => h i (by omega)) (fun i hi => h' i (by omega)) (by omega)
    subst r1
    refine ⟨rfl, fun i hi => ?_⟩
    by_cases z : i = n
    · rw [z]; omega
    · exact r2 i (by omega)
theorem wv_e {X : Tx} {s : Nat} {w : List Nat} : ∀ {n : Nat}, (∀ i, i < n → X.2 (s + i) = w.getD i 0) → wv X s n = vl w n
  | 0, _ => rfl
  | n + 1, h => by simp only [wv, vl]; rw [wv_e (fun i hi => h i (by omega)), h n (by omega)]
/-- the token is the word w, just when its value is w's -/
theorem wd_w {X : Tx} {p : Nat} (hp : p ≤ X.1) {w : List Nat} (hw : ∀ i, i < w.length → 97 ≤ w.getD i 0 ∧ w.getD i 0 ≤ 122) (h0 : 0 < w.length) : wd_ X p = vl w w.length ↔ tK X p = 1 ∧ tE X p - tS X p = w.length ∧ ∀ i, i < w.length → X.2 (tS X p + i) = w.getD i 0 := by
  obtain ⟨b1, b2, b3, b4⟩ := tk_b hp
  have vp : 0 < vl w w.length := by
    obtain ⟨m, e⟩ : ∃ m, w.length = m + 1 := ⟨w.length - 1, by omega⟩
    rw [e]; simp only [vl]; have := hw m (by omega); omega
  unfold wd_
  by_cases k : tK X p = 1
  · rw [if_pos k]
    have l : ∀ i, i < tE X p - tS X p → 97 ≤ X.2 (tS X p + i) ∧ X.2 (tS X p + i) ≤ 122 := fun i hi => by
      have := b4 (Or.inl k) (tS X p + i) (by omega) (by omega)
      rw [k] at this
      exact (kA_1.mp this).2
    constructor
    · intro e
      obtain ⟨r1, r2⟩ := wv_i l hw e
      exact ⟨k, r1, fun i hi => r2 i (by omega)⟩
    · rintro ⟨-, r1, r2⟩
      rw [r1]
      exact wv_e (fun i hi => r2 i hi)
  · rw [if_neg k]
    exact ⟨fun z => by omega, fun z => absurd z.1 k⟩
