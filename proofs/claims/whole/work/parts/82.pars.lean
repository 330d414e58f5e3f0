/-! law: the reading, purely -/
abbrev Pz : Type := Nat ⊕ (Nat × Nat × Ph)
def pb (r : Pz) (f : Nat → Nat → Ph → Pz) : Pz := match r with
  | .inl q => .inl q
  | .inr (p, n, φ) => f p n φ
def F4 : Nat := 400
def wI (X : Tx) (p : Nat) : Nat := if wd_ X p = 16496818 then 0 else if wd_ X p = 284561586 then 1 else if wd_ X p = 655 then 2 else if wd_ X p = 4153 then 3 else if wd_ X p = 24869441593 then 4 else if wd_ X p = 591150 then 5 else if wd_ X p = 267652 then 6 else if wd_ X p = 17376357 then 7 else 8
def hI_ (X : Tx) (p : Nat) : Nat := if wd_ X p = 526131 then 0 else if wd_ X p = 3657363 then 1 else if wd_ X p = 67155 then 2 else if wd_ X p = 24165011 then 3 else if wd_ X p = 20099475 then 4 else 5
def cm_ (X : Tx) (p : Nat) : Nat := if sg_ X p = 60 then 1 else if sg_ X p = 62 then 2 else if sg_ X p = 61 then 3 else 0
def pBr (X : Tx) (c : Nat) (S : Option (Nat → Nat → Pz)) (p n : Nat) : Pz := match S with
  | none => .inl (tS X p)
  | some f => pb (f (tE X p) n) (fun p' n' φ => if sg_ X p' = c then .inr (tE X p', n', φ) else .inl (tS X p'))
def pLf (X : Tx) (p n : Nat) : Pz :=
  if tK X p = 2 then (if nm_ X p ≤ 1000 ∧ n < 50 then .inr (tE X p, n + 1, fun _ => some (nm_ X p : Int)) else .inl (tS X p))
  else (if wI X p < 8 ∧ n < 50 then .inr (tE X p, n + 1, fun w => some (w (wI X p))) else .inl (tS X p))
def pPt (X : Tx) (S : Option (Nat → Nat → Pz)) (p n : Nat) : Pz := if sg_ X p = 91 then pBr X 93 S p n else pLf X p n
def pTL (X : Tx) (S : Option (Nat → Nat → Pz)) : Nat → Ph → Nat → Nat → Pz
  | 0, φ, p, n => .inr (p, n, φ)
  | i + 1, φ, p, n => if sg_ X p = 42 ∨ sg_ X p = 47 then pb (pPt X S (tE X p) n) (fun p' n' ψ => pTL X S i (phO (if sg_ X p = 42 then 2 else 3) φ ψ) p' n') else .inr (p, n, φ)
def pTm (X : Tx) (S : Option (Nat → Nat → Pz)) (p n : Nat) : Pz := pb (pPt X S p n) (fun p' n' φ => pTL X S F4 φ p' n')
def pSL (X : Tx) (S : Option (Nat → Nat → Pz)) : Nat → Ph → Nat → Nat → Pz
  | 0, φ, p, n => .inr (p, n, φ)
  | i + 1, φ, p, n => if sg_ X p = 43 ∨ sg_ X p = 45 then pb (pTm X S (tE X p) n) (fun p' n' ψ => pSL X S i (phO (if sg_ X p = 43 then 0 else 1) φ ψ) p' n') else .inr (p, n, φ)
def pSm (X : Tx) (S : Option (Nat → Nat → Pz)) (p n : Nat) : Pz := pb (pTm X S p n) (fun p' n' φ => pSL X S F4 φ p' n')
def pS (X : Tx) : Nat → Nat → Nat → Pz
  | 0 => pSm X none
  | k + 1 => pSm X (some (pS X k))
def pNL (X : Tx) : Nat → Bool → Nat → Bool × Nat
  | 0, t, p => (t, p)
  | i + 1, t, p => if wd_ X p = 14836 then pNL X i (!t) (tE X p) else (t, p)
def pCm (X : Tx) (S : Nat → Nat → Pz) (p n : Nat) : Pz := pb (S p n) (fun p1 n1 φ => if cm_ X p1 = 0 then .inl (tS X p1) else pb (S (tE X p1) n1) (fun p2 n2 ψ => .inr (p2, n2, phO (cm_ X p1 + 3) φ ψ)))
def pQ (X : Tx) (S : Nat → Nat → Pz) (T : Option (Nat → Nat → Pz)) (p n : Nat) : Pz := if sg_ X p = 40 then pBr X 41 T p n else pCm X S p n
def pPl (X : Tx) (S : Nat → Nat → Pz) (T : Option (Nat → Nat → Pz)) (p n : Nat) : Pz := pb (pQ X S T (pNL X F4 false p).2 n) (fun p' n' φ => .inr (p', n', if (pNL X F4 false p).1 = true then phN φ else φ))
def pAL (X : Tx) (P : Nat → Nat → Pz) (c : Nat) (g : Nat) : Nat → Ph → Nat → Nat → Pz
  | 0, φ, p, n => .inr (p, n, φ)
  | i + 1, φ, p, n => if wd_ X p = c then pb (P (tE X p) n) (fun p' n' ψ => pAL X P c g i (phS (g : Int) φ ψ) p' n') else .inr (p, n, φ)
def pA (X : Tx) (P : Nat → Nat → Pz) (c : Nat) (g : Nat) (p n : Nat) : Pz := pb (P p n) (fun p' n' φ => pAL X P c g F4 φ p' n')
def pTs (X : Tx) (S : Nat → Nat → Pz) (T : Option (Nat → Nat → Pz)) : Nat → Nat → Pz := pA X (pA X (pPl X S T) 1476 0) 498 1
def pT (X : Tx) : Nat → Nat → Nat → Pz
  | 0 => pTs X (pS X 0) none
  | k + 1 => pTs X (pS X (k + 1)) (some (pT X k))
abbrev Cl : Type := Nat × Bool × Ph × Ph
abbrev Pc_ : Type := Nat ⊕ (Nat × Nat × Cl)
def pC1 (X : Tx) (h p n : Nat) : Pz := if h < 2 then pS X 8 p n else .inr (p, n, ph1)
def pC (X : Tx) (p n : Nat) : Pc_ := if hI_ X p = 5 then .inl (tS X p) else match pC1 X (hI_ X p) (tE X p) n with
  | .inl q => .inl q
  | .inr (p1, n1, φ) => if wd_ X p1 = 294 then (match pT X 8 (tE X p1) n1 with
    | .inl q => .inl q
    | .inr (p2, n2, ψ) => .inr (p2, n2, (hI_ X p, true, φ, ψ))) else .inr (p1, n1, (hI_ X p, false, φ, ph1))
def adC (w : Lw5) (c : Cl) : Lw5 := (w.1 + 1, (fun i => if i = w.1 then c.1 else w.2.1 i), (fun i => if i = w.1 then c.2.1 else w.2.2.1 i), (fun i => if i = w.1 then c.2.2.1 else w.2.2.2.1 i), (fun i => if i = w.1 then c.2.2.2 else w.2.2.2.2 i))
def pLw (X : Tx) : Nat → Lw5 → Nat → Nat → Nat ⊕ Lw5
  | 0, _, p, _ => .inl (tS X p)
  | i + 1, w, p, n => match pC X p n with
    | .inl q => .inl q
    | .inr (p', n', c) => if tK X p' = 0 then .inr (adC w c) else if sg_ X p' = 59 then pLw X i (adC w c) (tE X p') n' else .inl (tS X p')
/-- a reading goes on, and stays within the text -/
def Fw (X : Tx) (P : Nat → Nat → Pz) : Prop := ∀ p n p' n' φ, p ≤ X.1 → P p n = .inr (p', n', φ) → p < p' ∧ p' ≤ X.1
def Fo (X : Tx) (S : Option (Nat → Nat → Pz)) : Prop := ∀ f, S = some f → Fw X f
theorem pb_i {r : Pz} {f : Nat → Nat → Ph → Pz} {x : Nat × Nat × Ph} (h : pb r f = .inr x) : ∃ p n φ, r = .inr (p, n, φ) ∧ f p n φ = .inr x := by
  unfold pb at h
  split at h
  · exact nomatch h
  · exact ⟨_, _, _, rfl, h⟩
section
variable {X : Tx} {S T : Option (Nat → Nat → Pz)} {p n : Nat}
theorem tE_s (hp : p ≤ X.1) {c : Nat} (hc : 0 < c) (h : sg_ X p = c) : p < tE X p ∧ tE X p ≤ X.1 ∧ tK X p = 3 ∧ X.2 (tS X p) = c ∧ tS X p < X.1 := by
  have b := tk_b hp
  unfold sg_ at h
  by_cases k : tK X p = 3
  · rw [if_pos k] at h
    have := b.2.2.1 (by omega)
    omega
  · rw [if_neg k] at h; omega
theorem tE_w (hp : p ≤ X.1) {c : Nat} (hc : 0 < c) (h : wd_ X p = c) : p < tE X p ∧ tE X p ≤ X.1 ∧ tK X p = 1 := by
  have b := tk_b hp
  unfold wd_ at h
  by_cases k : tK X p = 1
  · have := b.2.2.1 (by omega)
    omega
  · rw [if_neg k] at h; omega
theorem wI_p (h : wI X p < 8) : 0 < wd_ X p := by
  unfold wI at h
  refine Nat.pos_of_ne_zero (fun z => ?_)
  rw [z] at h
  simp at h
theorem hI_p (h : ¬ hI_ X p = 5) : 0 < wd_ X p ∧ hI_ X p < 5 := by
  unfold hI_ at h ⊢
  refine ⟨Nat.pos_of_ne_zero (fun z => ?_), ?_⟩
  · rw [z] at h
    simp at h
  · repeat (first | omega | split)
    all_goals (first | omega | (exfalso; simp_all))
theorem cm_p (h : ¬ cm_ X p = 0) : 0 < sg_ X p ∧ cm_ X p < 4 := by
  unfold cm_ at h ⊢
  by_cases h1 : sg_ X p = 60
  · simp [h1]
  · by_cases h2 : sg_ X p = 62
    · simp [h2]
    · by_cases h3 : sg_ X p = 61
      · simp [h3]
      · simp [h1, h2, h3] at h
theorem Fw_br {c : Nat} (hc : 0 < c) (hS : Fo X S) {c0 : Nat} (h0 : 0 < c0) {p' n' : Nat} {φ : Ph} (hp : p ≤ X.1) (hs : sg_ X p = c0) (h : pBr X c S p n = .inr (p', n', φ)) : p < p' ∧ p' ≤ X.1 := by
  unfold pBr at h
  cases S with
  | none => exact nomatch h
  | some f =>
    obtain ⟨p1, n1, φ1, e1, e2⟩ := pb_i h
    have a := tE_s hp h0 hs
    have b := hS f rfl _ _ _ _ _ a.2.1 e1
    split at e2
    · next z =>
      cases e2
      have := tE_s b.2 hc z
      omega
    · exact nomatch e2
theorem Fw_lf : Fw X (pLf X) := by
  intro p n p' n' φ hp h
  have b := tk_b hp
  unfold pLf at h
  split at h
  · next k =>
    split at h
    · cases h; have := b.2.2.1 (by omega); omega
    · exact nomatch h
  · split at h
    · next z =>
      cases h
      have := tE_w hp (wI_p z.1) rfl
      omega
    · exact nomatch h
theorem Fw_pt (hS : Fo X S) : Fw X (pPt X S) := by
  intro p n p' n' φ hp h
  unfold pPt at h
  split at h
  · next z => exact Fw_br (by omega) hS (by omega) hp z h
  · exact Fw_lf p n p' n' φ hp h
theorem Fw_tl (hS : Fo X S) : ∀ (i : Nat) (φ : Ph) (p n p' n' : Nat) (φ' : Ph), p ≤ X.1 → pTL X S i φ p n = .inr (p', n', φ') → p ≤ p' ∧ p' ≤ X.1 := by
  intro i
  induction i with
  | zero => intro φ p n p' n' φ' hp h; simp only [pTL] at h; cases h; omega
  | succ i ih =>
    intro φ p n p' n' φ' hp h
    simp only [pTL] at h
    split at h
    · next z =>
      obtain ⟨p1, n1, φ1, e1, e2⟩ := pb_i h
      have a : p < tE X p ∧ tE X p ≤ X.1 := by
        rcases z with z | z
        · have := tE_s hp (by omega) z; omega
        · have := tE_s hp (by omega) z; omega
      have b := Fw_pt hS _ _ _ _ _ a.2 e1
      have c := ih _ _ _ _ _ _ b.2 e2
      omega
    · cases h; omega
theorem Fw_tm (hS : Fo X S) : Fw X (pTm X S) := by
  intro p n p' n' φ hp h
  obtain ⟨p1, n1, φ1, e1, e2⟩ := pb_i h
  have b := Fw_pt hS _ _ _ _ _ hp e1
  have c := Fw_tl hS _ _ _ _ _ _ _ b.2 e2
  omega
theorem Fw_sl (hS : Fo X S) : ∀ (i : Nat) (φ : Ph) (p n p' n' : Nat) (φ' : Ph), p ≤ X.1 → pSL X S i φ p n = .inr (p', n', φ') → p ≤ p' ∧ p' ≤ X.1 := by
  intro i
  induction i with
  | zero => intro φ p n p' n' φ' hp h; simp only [pSL] at h; cases h; omega
  | succ i ih =>
    intro φ p n p' n' φ' hp h
    simp only [pSL] at h
    split at h
    · next z =>
      obtain ⟨p1, n1, φ1, e1, e2⟩ := pb_i h
      have a : p < tE X p ∧ tE X p ≤ X.1 := by
        rcases z with z | z
        · have := tE_s hp (by omega) z; omega
        · have := tE_s hp (by omega) z; omega
      have b := Fw_tm hS _ _ _ _ _ a.2 e1
      have c := ih _ _ _ _ _ _ b.2 e2
      omega
    · cases h; omega
theorem Fw_sm (hS : Fo X S) : Fw X (pSm X S) := by
  intro p n p' n' φ hp h
  obtain ⟨p1, n1, φ1, e1, e2⟩ := pb_i h
  have b := Fw_tm hS _ _ _ _ _ hp e1
  have c := Fw_sl hS _ _ _ _ _ _ _ b.2 e2
  omega
theorem Fw_S : ∀ k, Fw X (pS X k)
  | 0 => Fw_sm (fun f h => nomatch h)
  | k + 1 => Fw_sm (fun f h => by cases h; exact Fw_S k)
theorem pNL_b : ∀ (i : Nat) (t : Bool) (p : Nat), p ≤ X.1 → p ≤ (pNL X i t p).2 ∧ (pNL X i t p).2 ≤ X.1 := by
  intro i
  induction i with
  | zero => intro t p hp; simp only [pNL]; omega
  | succ i ih =>
    intro t p hp
    simp only [pNL]
    split
    · next z =>
      have a := tE_w hp (by omega) z
      have := ih (!t) (tE X p) a.2.1
      omega
    · simp only; omega
/-- what is told is 0 or 1 -/
def Bo (P : Nat → Nat → Pz) : Prop := ∀ p n p' n' φ, P p n = .inr (p', n', φ) → bl φ
theorem bl_o {o : Nat} {φ ψ : Ph} (h : 4 ≤ o) : bl (phO o φ ψ) := by
  intro w z e
  unfold phO at e
  cases a : φ w with
  | none => simp [a] at e
  | some x =>
    cases b : ψ w with
    | none => simp [a, b] at e
    | some y =>
      simp only [a, b, Option.bind_some] at e
      unfold bop at e
      rw [if_neg (by omega), if_neg (by omega), if_neg (by omega), if_neg (by omega)] at e
      split at e <;> (try split at e) <;> (try split at e) <;> simp at e <;> omega
theorem bl_n {φ : Ph} (h : bl φ) : bl (phN φ) := by
  intro w z e
  unfold phN at e
  cases a : φ w with
  | none => simp [a] at e
  | some x => have := h w x a; simp [a] at e; omega
theorem bl_s {g : Nat} (hg : g < 2) {φ ψ : Ph} (h : bl ψ) : bl (phS (g : Int) φ ψ) := by
  intro w z e
  unfold phS at e
  cases a : φ w with
  | none => simp [a] at e
  | some x =>
    simp only [a, Option.bind_some] at e
    split at e
    · simp at e; omega
    · exact h w z e
theorem Fw_cm {P : Nat → Nat → Pz} (hP : Fw X P) : Fw X (pCm X P) := by
  intro p n p' n' φ hp h
  obtain ⟨p1, n1, φ1, e1, e2⟩ := pb_i h
  have b := hP _ _ _ _ _ hp e1
  split at e2
  · exact nomatch e2
  · next z =>
    obtain ⟨p2, n2, φ2, e3, e4⟩ := pb_i e2
    cases e4
    have a := tE_s b.2 (cm_p z).1 rfl
    have := hP _ _ _ _ _ a.2.1 e3
    omega
theorem Fw_pl {P : Nat → Nat → Pz} (hP : Fw X P) (hT : Fo X T) : Fw X (pPl X P T) := by
  intro p n p' n' φ hp h
  obtain ⟨p1, n1, φ1, e1, e2⟩ := pb_i h
  have a := pNL_b F4 false p hp
  cases e2
  unfold pQ at e1
  split at e1
  · next z => have := Fw_br (by omega) hT (by omega) a.2 z e1; omega
  · have := Fw_cm hP _ _ _ _ _ a.2 e1; omega
theorem Bo_pl {P : Nat → Nat → Pz} (hT : ∀ f, T = some f → Bo f) : Bo (pPl X P T) := by
  intro p n p' n' φ h
  obtain ⟨p1, n1, φ1, e1, e2⟩ := pb_i h
  have b : bl φ1 := by
    unfold pQ at e1
    split at e1
    · unfold pBr at e1
      cases T with
      | none => exact nomatch e1
      | some f =>
        obtain ⟨p3, n3, φ3, e3, e4⟩ := pb_i e1
        have := hT f rfl _ _ _ _ _ e3
        split at e4
        · cases e4; exact this
        · exact nomatch e4
    · obtain ⟨p3, n3, φ3, e3, e4⟩ := pb_i e1
      split at e4
      · exact nomatch e4
      · next z =>
        obtain ⟨p2, n2, φ2, e5, e6⟩ := pb_i e4
        cases e6
        exact bl_o (by omega)
  cases e2
  split
  · exact bl_n b
  · exact b
theorem Fw_al {P : Nat → Nat → Pz} (hP : Fw X P) {c g : Nat} (hc : 0 < c) : ∀ (i : Nat) (φ : Ph) (p n p' n' : Nat) (φ' : Ph), p ≤ X.1 → pAL X P c g i φ p n = .inr (p', n', φ') → p ≤ p' ∧ p' ≤ X.1 := by
  intro i
  induction i with
  | zero => intro φ p n p' n' φ' hp h; simp only [pAL] at h; cases h; omega
  | succ i ih =>
    intro φ p n p' n' φ' hp h
    simp only [pAL] at h
    split at h
    · next z =>
      obtain ⟨p1, n1, φ1, e1, e2⟩ := pb_i h
      have a := tE_w hp hc z
      have b := hP _ _ _ _ _ a.2.1 e1
      have c := ih _ _ _ _ _ _ b.2 e2
      omega
    · cases h; omega
theorem Fw_a {P : Nat → Nat → Pz} (hP : Fw X P) {c g : Nat} (hc : 0 < c) : Fw X (pA X P c g) := by
  intro p n p' n' φ hp h
  obtain ⟨p1, n1, φ1, e1, e2⟩ := pb_i h
  have b := hP _ _ _ _ _ hp e1
  have c := Fw_al hP hc _ _ _ _ _ _ _ b.2 e2
  omega
theorem Bo_al {P : Nat → Nat → Pz} (hP : Bo P) {c g : Nat} (hg : g < 2) : ∀ (i : Nat) (φ : Ph) (p n p' n' : Nat) (φ' : Ph), bl φ → pAL X P c g i φ p n = .inr (p', n', φ') → bl φ' := by
  intro i
  induction i with
  | zero => intro φ p n p' n' φ' hp h; simp only [pAL] at h; cases h; exact hp
  | succ i ih =>
    intro φ p n p' n' φ' hp h
    simp only [pAL] at h
    split at h
    · obtain ⟨p1, n1, φ1, e1, e2⟩ := pb_i h
      exact ih _ _ _ _ _ _ (bl_s hg (hP _ _ _ _ _ e1)) e2
    · cases h; exact hp
theorem Bo_a {P : Nat → Nat → Pz} (hP : Bo P) {c g : Nat} (hg : g < 2) : Bo (pA X P c g) := by
  intro p n p' n' φ h
  obtain ⟨p1, n1, φ1, e1, e2⟩ := pb_i h
  exact Bo_al hP hg _ _ _ _ _ _ _ (hP _ _ _ _ _ e1) e2
theorem Fw_ts {P : Nat → Nat → Pz} (hP : Fw X P) (hT : Fo X T) : Fw X (pTs X P T) := Fw_a (Fw_a (Fw_pl hP hT) (by omega)) (by omega)
theorem Bo_ts {P : Nat → Nat → Pz} (hT : ∀ f, T = some f → Bo f) : Bo (pTs X P T) := Bo_a (Bo_a (Bo_pl hT) (by omega)) (by omega)
theorem Fw_T : ∀ k, Fw X (pT X k)
  | 0 => Fw_ts (Fw_S 0) (fun f h => nomatch h)
  | k + 1 => Fw_ts (Fw_S (k + 1)) (fun f h => by cases h; exact Fw_T k)
theorem Bo_T : ∀ k, Bo (pT X k)
  | 0 => Bo_ts (fun f h => nomatch h)
  | k + 1 => Bo_ts (fun f h => by cases h; exact Bo_T k)
end
