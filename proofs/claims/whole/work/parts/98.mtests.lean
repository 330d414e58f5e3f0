/-! law: the model's tests against the reading -/
def TsM (X : Tx) (P : Nat → Nat → Pz) (L K o : Nat) (E : Nat → Prop) : Prop := ∀ (d : Nat) (τ : Hp) (p m n z : Nat), MS τ X p m n z o → m + z ≤ p → Bs τ L z → ¬ inn (hI τ 66) z = nI 31 → (∀ q, P p n = .inl q → Bd τ q (den (hdE d 1 0 τ))) ∧ ∀ p' n' φ, P p n = .inr (p', n', φ) → ∃ υ, den (hdE d 1 0 τ) = den (hdE d 1 2 υ) ∧ Qq τ υ ∧ ∃ m' r, MS υ X p' m' n' (z + r) o ∧ m' + (z + r) ≤ p' ∧ Pd υ L r K z m m' φ ∧ Kp τ υ m z ∧ E p'
def LvT (X : Tx) (T : Option (Nat → Nat → Pz)) (K o : Nat) : Prop := (T = none ∧ o = 8) ∨ ∃ f, T = some f ∧ o < 8 ∧ TsM X f 1 K (o + 1) (fun p' => ¬ wd_ X p' = 1476 ∧ ¬ wd_ X p' = 498) ∧ Fw X f
theorem phN_n (φ : Ph) : phN (phN φ) = φ := by
  funext w
  unfold phN
  cases φ w with
  | none => rfl
  | some x => simp only [Option.map_some]; congr 1; omega
theorem pNL_f {X : Tx} : ∀ (i : Nat) (b : Bool) (p : Nat), pNL X i (!b) p = (!(pNL X i b p).1, (pNL X i b p).2)
  | 0, b, p => rfl
  | i + 1, b, p => by
    simp only [pNL]
    split
    · exact pNL_f i (!b) (tE X p)
    · rfl
section
variable {X : Tx} {S : Nat → Nat → Pz} {T : Option (Nat → Nat → Pz)} {K o : Nat}
theorem inn_kp {τ υ : Hp} {m z : Nat} (k : Kp τ υ m z) : inn (hI υ 66) z = inn (hI τ 66) z := inn_k (fun i hi => (k.2 i hi).1)
theorem Bs_kp {τ υ : Hp} {m z L : Nat} (k : Kp τ υ m z) (h : Bs τ L z) : Bs υ L z := fun y hy => by rw [(k.2 y (by omega)).1]; exact h y hy
theorem inn_s {f : Nat → Int32} {z e : Nat} (h : f z = nI e) (he : e < 30) : inn f (z + 1) = inn f z := inn_r (r := 1) (fun i h1 h2 => by
  obtain rfl : i = z := by omega
  exact ⟨e, h, he⟩)
theorem M_Q (hK : 1 ≤ K) (hS : SmM X S 5 K o (nOps X)) (hF : Fw X S) (hT : LvT X T (K + 1) o) {d : Nat} {τ : Hp} {p m n z : Nat} (h : MS τ X p m n z o) (hz : m + z ≤ p) (hb : Bs τ 4 z) (hi : ¬ inn (hI τ 66) z = nI 31) (hw : ¬ wd_ X p = 14836) : (∀ q, pQ X S T p n = .inl q → Bd τ q (den (hdE d 1 0 τ))) ∧ ∀ p' n' φ, pQ X S T p n = .inr (p', n', φ) → ∃ υ, den (hdE d 1 0 τ) = den (hdE d 1 2 υ) ∧ Qq τ υ ∧ ∃ m' r, MS υ X p' m' n' (z + r) o ∧ m' + (z + r) ≤ p' ∧ Pd υ 3 r (K + 1) z m m' φ ∧ Kp τ υ m z := by
  unfold pQ
  by_cases s40 : sg_ X p = 40
  · rw [if_pos s40]
    have te := tE_s h.2.2.1.1 (show 0 < 40 by omega) s40
    rcases hT with ⟨rfl, o8⟩ | ⟨f, rfl, o8, hf, fw⟩
    · refine ⟨fun q e => ?_, fun p' n' φ e => (nomatch e)⟩
      simp only [pBr] at e
      cases e
      exact M_po0 h s40 o8
    · obtain ⟨υ, e1, g1, r1, r2, r3⟩ := M_po1 (d := d) (t := 1) h hz s40 o8
      have b30 : Bs υ 1 (z + 1) := fun y hy => by
        obtain rfl : z = y := by omega
        exact ⟨30, r2, by omega, by omega, by decide⟩
      have in30 : inn (hI υ 66) (z + 1) = nI 30 := inn_b r2 (by omega)
      obtain ⟨i1, i2⟩ := hf d υ (tE X p) m n (z + 1) r1 (by omega) b30 (by rw [in30]; decide)
      simp only [pBr]
      cases ef : f (tE X p) n with
      | inl q' =>
        refine ⟨fun q e => ?_, fun p' n' φ e => ?_⟩
        · simp only [pb] at e
          cases e
          exact Bd_e e1 g1 (i1 q' ef)
        · simp only [pb] at e
          exact nomatch e
      | inr x =>
        obtain ⟨p1, n1, φ1⟩ := x
        obtain ⟨ω, f1, f2, m1, r, f3, f4, f5, f6, f7⟩ := i2 p1 n1 φ1 ef
        have h30 : hI ω 66 z = nI 30 := by rw [(f6.2 z (by omega)).1]; exact r2
        simp only [pb]
        by_cases s41 : sg_ X p1 = 41
        · rw [if_pos s41]
          refine ⟨fun q e => (nomatch e), fun p' n' φ e => ?_⟩
          cases e
          obtain ⟨χ, c1, c2, m2, c3, c4, c5, c6⟩ := M_pc1 (d := d) (t := 1) f3 f4 f7.1 f7.2 f5 h30 s41
          exact ⟨χ, e1.trans (f1.trans c1), Qq_t g1 (Qq_t f2 c2), m2, 0, c3, c4, c5, Kp_t (r3 m) (Kp_t (Kp_w f6 (Nat.le_refl _) (by omega)) c6 (Nat.le_refl _) (Nat.le_refl _)) (Nat.le_refl _) (Nat.le_refl _)⟩
        · rw [if_neg s41]
          refine ⟨fun q e => ?_, fun p' n' φ e => (nomatch e)⟩
          cases e
          exact Bd_e (e1.trans f1) (Qq_t g1 f2) (M_pc0 f3 f7.1 f7.2 f5 h30 s41)
  · rw [if_neg s40]
    have hb5 : Bs τ 5 z := fun y hy => by
      obtain ⟨e, y1, y2, y3, y4⟩ := hb y hy
      exact ⟨e, y1, y2, y3, by omega⟩
    obtain ⟨i1, i2⟩ := hS d 1 0 τ p m n z h hz (Or.inr ⟨rfl, hw, s40⟩) hb5
    unfold pCm
    cases ef : S p n with
    | inl q' =>
      refine ⟨fun q e => ?_, fun p' n' φ e => ?_⟩
      · simp only [pb] at e
        cases e
        exact i1 q' ef
      · simp only [pb] at e
        exact nomatch e
    | inr x =>
      obtain ⟨p1, n1, φ1⟩ := x
      obtain ⟨υ, f1, f2, m1, r, f3, f4, f5, f6, f7⟩ := i2 p1 n1 φ1 ef
      have fw1 := hF _ _ _ _ _ h.2.2.1.1 ef
      have hi1 : ¬ inn (hI υ 66) (z + r) = nI 31 := by rw [inn_p f5, inn_kp f6]; exact hi
      have hb1 := Bs_kp f6 hb
      simp only [pb]
      by_cases c0 : cm_ X p1 = 0
      · rw [if_pos c0]
        refine ⟨fun q e => ?_, fun p' n' φ e => (nomatch e)⟩
        cases e
        exact Bd_e f1 f2 (M_cmp0 f3 f7 f5 hi1 hb1 c0)
      · rw [if_neg c0]
        have cp := cm_p c0
        obtain ⟨ω, e1, g1, m2, r1, l1, s1, p1', p2', k1⟩ := M_cmp1 (d := d) f3 f4 f7 f5 hi1 hb1 c0
        have hb2 : Bs ω 5 (z + 1) := fun y hy => by
          obtain rfl : z = y := by omega
          refine ⟨23 + cm_ X p1, p1', by omega, by omega, ?_⟩
          unfold bnd
          rw [if_neg (by omega), if_neg (by omega), if_neg (by omega), if_neg (by omega), if_pos (by omega)]
          omega
        obtain ⟨j1, j2⟩ := hS d 1 1 ω (tE X p1) m2 n1 (z + 1) r1 l1 (Or.inl rfl) hb2
        cases eg : S (tE X p1) n1 with
        | inl q' =>
          refine ⟨fun q e => ?_, fun p' n' φ e => ?_⟩
          · cases e
            exact Bd_e (f1.trans e1) (Qq_t f2 g1) (j1 q' eg)
          · exact nomatch e
        | inr x =>
          obtain ⟨p2, n2, φ2⟩ := x
          refine ⟨fun q e => (nomatch e), fun p' n' φ e => ?_⟩
          cases e
          obtain ⟨χ, c1, c2, m3, r3, c3, c4, c5, c6, c7⟩ := j2 p2 n2 φ2 eg
          have h66 : hI χ 66 z = nI (23 + cm_ X p1) := by rw [(c6.2 z (by omega)).1]; exact p1'
          have k2 : Kp ω χ m z := Kp_w c6 s1.1 (by omega)
          have k3 : Kp τ χ m z := Kp_t f6 (Kp_t k1 k2 (Nat.le_refl _) (Nat.le_refl _)) (Nat.le_refl _) (Nat.le_refl _)
          have hi2 : ¬ inn (hI χ 66) (z + 1 + r3) = nI 31 := by rw [inn_p c5, inn_s h66 (by omega), inn_kp k3]; exact hi
          have ec := M_cmp2 (d := d) c3 c7 c5 hi2 rfl h66 (by omega) (by omega)
          rw [show z + 1 + r3 = z + (r3 + 1) by omega] at c3 c4
          refine ⟨χ, f1.trans (e1.trans (c1.trans ec)), Qq_t f2 (Qq_t g1 c2), m3, r3 + 1, c3, c4, ?_, k3⟩
          refine ⟨23 + cm_ X p1, 0, m2, φ1, φ2, ⟨h66, by rw [(c6.2 z (by omega)).2]; exact p2', by omega, by omega, by omega, ?_⟩, Or.inl ⟨by omega, ?_, Kp_g c6 (Nat.le_refl _) (SgS_k s1 (by omega)), Pd_w (by omega) (by omega) c5, ?_⟩⟩
          · unfold bnd
            rw [if_neg (by omega), if_neg (by omega), if_neg (by omega), if_neg (by omega), if_pos (by omega)]
            omega
          · omega
          · rw [show 23 + cm_ X p1 - 20 = cm_ X p1 + 3 by omega]
theorem Bo_Q (hB : ∀ f, T = some f → Bo f) {p n p' n' : Nat} {φ : Ph} (h : pQ X S T p n = .inr (p', n', φ)) : bl φ := by
  unfold pQ at h
  split at h
  · unfold pBr at h
    cases T with
    | none => exact nomatch h
    | some f =>
      obtain ⟨p3, n3, φ3, e3, e4⟩ := pb_i h
      have := hB f rfl _ _ _ _ _ e3
      split at e4
      · cases e4; exact this
      · exact nomatch e4
  · obtain ⟨p3, n3, φ3, e3, e4⟩ := pb_i h
    split at e4
    · exact nomatch e4
    · next z =>
      obtain ⟨p2, n2, φ2, e5, e6⟩ := pb_i e4
      cases e6
      exact bl_o (by omega)
theorem M_pl (hK : 1 ≤ K) (hS : SmM X S 5 K o (nOps X)) (hF : Fw X S) (hT : LvT X T (K + 1) o) (hB : ∀ f, T = some f → Bo f) {d : Nat} : ∀ (i : Nat) (τ : Hp) (p m n z : Nat), MS τ X p m n z o → m + z ≤ p → Bs τ 4 z → ¬ inn (hI τ 66) z = nI 31 → X.1 ≤ p + i → (∀ q, pQ X S T (pNL X i false p).2 n = .inl q → Bd τ q (den (hdE d 1 0 τ))) ∧ ∀ p' n' φ, pQ X S T (pNL X i false p).2 n = .inr (p', n', φ) → ∃ υ, den (hdE d 1 0 τ) = den (hdE d 1 2 υ) ∧ Qq τ υ ∧ ∃ m' r, MS υ X p' m' n' (z + r) o ∧ m' + (z + r) ≤ p' ∧ Pd υ 3 r (K + 1) z m m' (if (pNL X i false p).1 = true then phN φ else φ) ∧ Kp τ υ m z := by
  intro i
  induction i with
  | zero =>
    intro τ p m n z h hz hb hi hx
    have := sg_end (X := X) (p := p) (by omega) h.2.2.1.1
    simp only [pNL, Bool.false_eq_true, reduceIte]
    exact M_Q hK hS hF hT h hz hb hi (by omega)
  | succ i ih =>
    intro τ p m n z h hz hb hi hx
    by_cases w : wd_ X p = 14836
    · have te := tE_w h.2.2.1.1 (show 0 < 14836 by omega) w
      obtain ⟨υ, e1, g1, r1, r2, r3, k1⟩ := M_not (d := d) (t := 1) h hz w
      have hb1 : Bs υ 4 (z + 1) := fun y hy => by
        obtain rfl : z = y := by omega
        exact ⟨27, r2, by omega, by omega, by decide⟩
      have hi1 : ¬ inn (hI υ 66) (z + 1) = nI 31 := by rw [inn_s r2 (by omega), inn_kp (k1 0)]; exact hi
      obtain ⟨i1, i2⟩ := ih υ (tE X p) m n (z + 1) r1 (by omega) hb1 hi1 (by omega)
      have pe : pNL X (i + 1) false p = (!(pNL X i false (tE X p)).1, (pNL X i false (tE X p)).2) := by
        simp only [pNL, if_pos w]
        exact pNL_f i false (tE X p)
      rw [pe]
      refine ⟨fun q e => Bd_e e1 g1 (i1 q e), fun p' n' φ e => ?_⟩
      obtain ⟨ω, f1, f2, m1, r, f3, f4, f5, f6⟩ := i2 p' n' φ e
      have bφ := Bo_Q hB e
      rw [show z + 1 + r = z + (r + 1) by omega] at f3 f4
      refine ⟨ω, e1.trans f1, Qq_t g1 f2, m1, r + 1, f3, f4, ?_, Kp_t (k1 m) (Kp_w f6 (Nat.le_refl _) (by omega)) (Nat.le_refl _) (Nat.le_refl _)⟩
      refine ⟨27, 0, 0, φ, _, ⟨by rw [(f6.2 z (by omega)).1]; exact r2, by rw [(f6.2 z (by omega)).2]; exact r3, by omega, by omega, by omega, by decide⟩, Or.inr (Or.inl ⟨rfl, by omega, ?_, f5, ?_⟩)⟩
      · split
        · exact bl_n bφ
        · exact bφ
      · cases (pNL X i false (tE X p)).1 with
        | true => simp only [Bool.not_true, Bool.false_eq_true, reduceIte]; exact (phN_n φ).symm
        | false => simp only [Bool.not_false, Bool.false_eq_true, reduceIte]
    · have pe : pNL X (i + 1) false p = (false, p) := by simp only [pNL, if_neg w]
      rw [pe]
      simp only [Bool.false_eq_true, reduceIte]
      exact M_Q hK hS hF hT h hz hb hi w
theorem M_plain (hK : 1 ≤ K) (hS : SmM X S 5 K o (nOps X)) (hF : Fw X S) (hT : LvT X T (K + 1) o) (hB : ∀ f, T = some f → Bo f) : TsM X (pPl X S T) 3 (K + 1) o (fun _ => True) := by
  intro d τ p m n z h hz hb hi
  have x3 := h.2.1.1.2.2.1
  obtain ⟨i1, i2⟩ := M_pl hK hS hF hT hB (d := d) F4 τ p m n z h hz (fun y hy => by
    obtain ⟨e, y1, y2, y3, y4⟩ := hb y hy
    exact ⟨e, y1, y2, y3, by omega⟩) hi (by unfold F4; omega)
  unfold pPl
  cases ef : pQ X S T (pNL X F4 false p).2 n with
  | inl q' =>
    refine ⟨fun q e => ?_, fun p' n' φ e => ?_⟩
    · simp only [pb] at e
      cases e
      exact i1 q' ef
    · simp only [pb] at e
      exact nomatch e
  | inr x =>
    obtain ⟨p1, n1, φ1⟩ := x
    simp only [pb]
    refine ⟨fun q e => (nomatch e), fun p' n' φ e => ?_⟩
    cases e
    obtain ⟨υ, f1, f2, m1, r, f3, f4, f5, f6⟩ := i2 p1 n1 φ1 ef
    exact ⟨υ, f1, f2, m1, r, f3, f4, f5, f6, trivial⟩
theorem M_al {P : Nat → Nat → Pz} {E : Nat → Prop} {g c : Nat} (hg : (g = 0 ∧ c = 1476) ∨ (g = 1 ∧ c = 498)) (hP : TsM X P (3 - g) K o E) (hF : Fw X P) (hB : Bo P) (hK : 1 ≤ K) {d a z : Nat} : ∀ (i : Nat) (τ : Hp) (p m n r : Nat) (φ : Ph), MS τ X p m n (z + r) o → m + (z + r) ≤ p → X.1 ≤ p + i → Pd τ (2 - g) r K z a m φ → bl φ → Bs τ (2 - g) z → ¬ inn (hI τ 66) z = nI 31 → E p → (∀ q, pAL X P c g i φ p n = .inl q → Bd τ q (den (hdE d 1 2 τ))) ∧ ∀ p' n' φ', pAL X P c g i φ p n = .inr (p', n', φ') → ∃ υ, den (hdE d 1 2 τ) = den (hdE d 1 2 υ) ∧ Qq τ υ ∧ ∃ m' r', MS υ X p' m' n' (z + r') o ∧ m' + (z + r') ≤ p' ∧ Pd υ (2 - g) r' K z a m' φ' ∧ Kp τ υ a z ∧ E p' ∧ ¬ wd_ X p' = c := by
  intro i
  induction i with
  | zero =>
    intro τ p m n r φ h hz hi q bφ hb hn he
    simp only [pAL]
    refine ⟨fun q e => (nomatch e), fun p' n' φ e => ?_⟩
    cases e
    have := sg_end (X := X) (p := p) (by omega) h.2.2.1.1
    exact ⟨τ, rfl, Ag_r, m, r, h, hz, q, Kp_r, he, by omega⟩
  | succ i ih =>
    intro τ p m n r φ h hz hi q bφ hb hn he
    simp only [pAL]
    by_cases s : wd_ X p = c
    · rw [if_pos s]
      have te := tE_w h.2.2.1.1 (show 0 < c by omega) s
      obtain ⟨υ, e1, g1, m1, r1, l1, s1, p1, p2, p3, k1⟩ := M_ao (d := d) (t := 1) (g := g) h hz (by rw [s]; omega) q (Nat.le_refl _) hb
      have bg : bnd (28 + g) = 2 - g := by
        rcases hg with ⟨rfl, -⟩ | ⟨rfl, -⟩
        · rfl
        · rfl
      have hb1 : Bs υ (3 - g) (z + 1) := fun y hy => by
        obtain rfl : z = y := by omega
        exact ⟨28 + g, p1, by omega, by omega, by omega⟩
      have hn1 : ¬ inn (hI υ 66) (z + 1) = nI 31 := by rw [inn_s p1 (by omega), inn_kp k1]; exact hn
      obtain ⟨i1, i2⟩ := hP d υ (tE X p) (m1 + 1) n (z + 1) r1 l1 hb1 hn1
      cases ef : P (tE X p) n with
      | inl q' =>
        refine ⟨fun q e => ?_, fun p' n' φ e => ?_⟩
        · simp only [pb] at e
          cases e
          exact Bd_e e1 g1 (i1 q' ef)
        · simp only [pb] at e
          exact nomatch e
      | inr x =>
        obtain ⟨p2', n2, ψ⟩ := x
        obtain ⟨ω, f1, f2, m2, r2, f3, f4, f5, f6, f7⟩ := i2 p2' n2 ψ ef
        have fw := hF _ _ _ _ _ te.2.1 ef
        have bψ := hB _ _ _ _ _ ef
        simp only [pb]
        have am := s1.1
        have x3 := h.2.1.1.2.2.1
        have k2 : Kp τ ω a z := Kp_t k1 (Kp_w f6 (by omega) (by omega)) (Nat.le_refl _) (Nat.le_refl _)
        have pd : Pd ω (2 - g) (r2 + 1) K z a m2 (phS (g : Int) φ ψ) := ⟨28 + g, m1, 0, φ, ψ, ⟨by rw [(f6.2 z (by omega)).1]; exact p1, by rw [(f6.2 z (by omega)).2]; exact p2, by omega, by omega, by omega, by omega⟩, Or.inr (Or.inr ⟨by omega, hK, Kp_g f6 (by omega) s1, bφ, by rw [(f6.1 m1 (by omega)).1]; exact p3, Pd_w (by omega) (Nat.le_refl _) f5, by rw [show 28 + g - 28 = g by omega]⟩)⟩
        rw [show z + 1 + r2 = z + (r2 + 1) by omega] at f3 f4
        obtain ⟨j1, j2⟩ := ih ω p2' m2 n2 (r2 + 1) _ f3 f4 (by omega) pd (bl_s (by omega) bψ) (Bs_kp k2 hb) (by rw [inn_kp k2]; exact hn) f7
        refine ⟨fun q e => Bd_e (e1.trans f1) (Qq_t g1 f2) (j1 q e), fun p' n' φ' e => ?_⟩
        obtain ⟨χ, c1, c2, m3, r3, c3, c4, c5, c6, c7⟩ := j2 p' n' φ' e
        exact ⟨χ, e1.trans (f1.trans c1), Qq_t g1 (Qq_t f2 c2), m3, r3, c3, c4, c5, Kp_t k2 c6 (Nat.le_refl _) (Nat.le_refl _), c7⟩
    · rw [if_neg s]
      refine ⟨fun q e => (nomatch e), fun p' n' φ e => ?_⟩
      cases e
      exact ⟨τ, rfl, Ag_r, m, r, h, hz, q, Kp_r, he, s⟩
theorem M_a {P : Nat → Nat → Pz} {E : Nat → Prop} {g c : Nat} (hg : (g = 0 ∧ c = 1476) ∨ (g = 1 ∧ c = 498)) (hP : TsM X P (3 - g) K o E) (hF : Fw X P) (hB : Bo P) (hK : 1 ≤ K) : TsM X (pA X P c g) (2 - g) K o (fun p' => E p' ∧ ¬ wd_ X p' = c) := by
  intro d τ p m n z h hz hb hi
  obtain ⟨i1, i2⟩ := hP d τ p m n z h hz (fun y hy => by
    obtain ⟨e, y1, y2, y3, y4⟩ := hb y hy
    exact ⟨e, y1, y2, y3, by omega⟩) hi
  unfold pA
  cases ef : P p n with
  | inl q' =>
    refine ⟨fun q e => ?_, fun p' n' φ e => ?_⟩
    · simp only [pb] at e
      cases e
      exact i1 q' ef
    · simp only [pb] at e
      exact nomatch e
  | inr x =>
    obtain ⟨p1, n1, φ1⟩ := x
    obtain ⟨υ, f1, f2, m1, r, f3, f4, f5, f6, f7⟩ := i2 p1 n1 φ1 ef
    simp only [pb]
    have x3 := h.2.1.1.2.2.1
    obtain ⟨j1, j2⟩ := M_al hg hP hF hB hK (d := d) (a := m) (z := z) F4 υ p1 m1 n1 r φ1 f3 f4 (by unfold F4; omega) (Pd_w (by omega) (Nat.le_refl _) f5) (hB _ _ _ _ _ ef) (Bs_kp f6 hb) (by rw [inn_kp f6]; exact hi) f7
    refine ⟨fun q e => Bd_e f1 f2 (j1 q e), fun p' n' φ' e => ?_⟩
    obtain ⟨χ, c1, c2, m3, r3, c3, c4, c5, c6, c7⟩ := j2 p' n' φ' e
    exact ⟨χ, f1.trans c1, Qq_t f2 c2, m3, r3, c3, c4, c5, Kp_t f6 c6 (Nat.le_refl _) (Nat.le_refl _), c7⟩
theorem M_ts (hK : 1 ≤ K) (hS : SmM X S 5 K o (nOps X)) (hF : Fw X S) (hT : LvT X T (K + 1) o) (hB : ∀ f, T = some f → Bo f) (hFo : Fo X T) : TsM X (pTs X S T) 1 (K + 1) o (fun p' => ¬ wd_ X p' = 1476 ∧ ¬ wd_ X p' = 498) := by
  have f1 : Fw X (pPl X S T) := Fw_pl hF hFo
  have b1 : Bo (pPl X S T) := Bo_pl hB
  have a1 := M_a (g := 0) (c := 1476) (Or.inl ⟨rfl, rfl⟩) (M_plain hK hS hF hT hB) f1 b1 (by omega)
  have f2 : Fw X (pA X (pPl X S T) 1476 0) := Fw_a f1 (by omega)
  have b2 : Bo (pA X (pPl X S T) 1476 0) := Bo_a b1 (by omega)
  have a2 := M_a (g := 1) (c := 498) (Or.inr ⟨rfl, rfl⟩) a1 f2 b2 (by omega)
  intro d τ p m n z h hz hb hi
  obtain ⟨i1, i2⟩ := a2 d τ p m n z h hz hb hi
  refine ⟨i1, fun p' n' φ e => ?_⟩
  obtain ⟨υ, c1, c2, m3, r3, c3, c4, c5, c6, c7⟩ := i2 p' n' φ e
  exact ⟨υ, c1, c2, m3, r3, c3, c4, c5, c6, c7.1.2, c7.2⟩
theorem TsM_k {P : Nat → Nat → Pz} {L K' : Nat} {E : Nat → Prop} (hP : TsM X P L K o E) (l : K ≤ K') : TsM X P L K' o E := by
  intro d τ p m n z h hz hb hi
  obtain ⟨i1, i2⟩ := hP d τ p m n z h hz hb hi
  refine ⟨i1, fun p' n' φ e => ?_⟩
  obtain ⟨υ, c1, c2, m3, r3, c3, c4, c5, c6, c7⟩ := i2 p' n' φ e
  exact ⟨υ, c1, c2, m3, r3, c3, c4, Pd_w (Nat.le_refl _) l c5, c6, c7⟩
theorem M_T : ∀ (k o : Nat), o + k = 8 → TsM X (pT X k) 1 (2 * k + 3 + 1) o (fun p' => ¬ wd_ X p' = 1476 ∧ ¬ wd_ X p' = 498)
  | 0, o, h => M_ts (by omega) (M_S 0 o h) (Fw_S 0) (Or.inl ⟨rfl, by omega⟩) (fun f h => nomatch h) (fun f h => nomatch h)
  | k + 1, o, h => M_ts (by omega) (M_S (k + 1) o h) (Fw_S (k + 1)) (Or.inr ⟨pT X k, rfl, by omega, TsM_k (M_T k (o + 1) (by omega)) (by omega), Fw_T k⟩) (fun f h => by cases h; exact Bo_T k) (fun f h => by cases h; exact Fw_T k)
end
