/-! law: the model's small steps of reading -/
/-- a piece of code that is not empty -/
def SgS (g : Nat → Int32) (a b k : Nat) (φ : Ph) : Prop := a ≤ b ∧ a < b ∧ SgM g a b k φ
theorem SgS_e {f g : Nat → Int32} {a b k : Nat} {φ : Ph} (h : SgS f a b k φ) (e : ∀ i, a ≤ i → i < b → f (98 + 2 * i) = g (98 + 2 * i) ∧ f (98 + 2 * i + 1) = g (98 + 2 * i + 1)) : SgS g a b k φ := ⟨h.1, h.2.1, SgM_e h.2.2 e⟩
theorem SgS_k {f : Nat → Int32} {a b k k' : Nat} {φ : Ph} (h : SgS f a b k φ) (e : k ≤ k') : SgS f a b k' φ := ⟨h.1, h.2.1, SgM_k h.2.2 e⟩
theorem SgS_num {g : Nat → Int32} {a k : Nat} (hk : k ≤ 1000) (hf : g (98 + 2 * a) = nI 0) (hf2 : g (98 + 2 * a + 1) = nI k) : SgS g a (a + 1) 1 (fun _ => some (k : Int)) := ⟨by omega, by omega, SgM_num hk hf hf2⟩
theorem SgS_word {g : Nat → Int32} {a j : Nat} (hj : j < 8) (hf : g (98 + 2 * a) = nI (j + 1)) : SgS g a (a + 1) 1 (fun w => some (w j)) := ⟨by omega, by omega, SgM_word hj hf⟩
theorem SgS_op {g : Nat → Int32} {a b c k1 k2 k o : Nat} {φ ψ : Ph} (h1 : SgS g a b k1 φ) (h2 : SgS g b c k2 ψ) (ho : o < 7) (hf : g (98 + 2 * c) = nI (20 + o)) (hk1 : k1 ≤ k) (hk2 : k2 + 1 ≤ k) (hk : 2 ≤ k) : SgS g a (c + 1) k (phO o φ ψ) := ⟨by have := h1.1; have := h2.1; omega, by have := h1.1; have := h2.1; omega, SgM_op h1.2.2 h2.2.2 ho hf hk1 hk2 hk⟩
theorem SgS_not {g : Nat → Int32} {a b k : Nat} {φ : Ph} (h1 : SgS g a b k φ) (hb : bl φ) (hf : g (98 + 2 * b) = nI 27) (hk : 1 ≤ k) : SgS g a (b + 1) k (phN φ) := ⟨by have := h1.1; omega, by have := h1.1; omega, SgM_not h1.2.2 hb hf hk⟩
theorem SgS_skip {g : Nat → Int32} {a b c k1 k2 k e : Nat} {φ ψ : Ph} (h1 : SgS g a b k1 φ) (hb : bl φ) (he : e < 2) (hf : g (98 + 2 * b) = nI (28 + e)) (hf2 : g (98 + 2 * b + 1) = nI c) (h2 : SgS g (b + 1) c k2 ψ) (hk1 : k1 ≤ k) (hk2 : k2 ≤ k) (hk : 1 ≤ k) : SgS g a c k (phS (e : Int) φ ψ) := ⟨by have := h1.1; have := h2.1; omega, by have := h1.1; have := h2.1; omega, SgM_skip h1.2.2 hb he hf hf2 h2.2.2 hk1 hk2 hk⟩
/-- the code that is laid -/
def gM (τ : Hp) : Nat → Int32 := fun j => if (j - 98) % 2 = 0 then hI τ 64 ((j - 98) / 2) else hI τ 65 ((j - 98) / 2)
theorem gM_0 {τ : Hp} {i : Nat} : gM τ (98 + 2 * i) = hI τ 64 i := by
  unfold gM
  rw [if_pos (by omega), show (98 + 2 * i - 98) / 2 = i by omega]
theorem gM_1 {τ : Hp} {i : Nat} : gM τ (98 + 2 * i + 1) = hI τ 65 i := by
  unfold gM
  rw [if_neg (by omega), show (98 + 2 * i + 1 - 98) / 2 = i by omega]
def WsM (τ : Hp) : Prop := (∀ k, k < 8 → hJ τ 68 k = lN (wK k)) ∧ ∀ k, k < 5 → hJ τ 69 k = lN (wHd k)
def PW (τ : Hp) (z : Nat) : Prop := ∀ i, i < z → ∃ e t, hI τ 66 i = nI e ∧ hI τ 67 i = nI t ∧ 20 ≤ e ∧ e < 32 ∧ t < 400
/-- code of m, a pile of z -/
def MT (τ : Hp) (m z : Nat) : Prop := FxM τ ∧ hF τ 57 17 = .int (nI m) ∧ hF τ 57 23 = .int (nI z) ∧ m + z ≤ 400 ∧ PW τ z
/-- the model stands at the token behind p, nothing bad -/
def MS (τ : Hp) (X : Tx) (p m n z o : Nat) : Prop := MT τ m z ∧ (TxM τ X ∧ WsM τ) ∧ (p ≤ X.1 ∧ TkM τ X p) ∧ (hF τ 57 14 = .int (nI 0) ∧ hF τ 57 13 = .int (-1)) ∧ (hF τ 57 20 = .int (nI n) ∧ hF τ 57 24 = .int (nI o)) ∧ n ≤ 50 ∧ o ≤ 8
/-- it is bad at q -/
def MB (τ : Hp) (q : Nat) : Prop := (hF τ 57 14 = .int (nI 1) ∧ hF τ 57 13 = .int (nI q)) ∧ ∃ m z, MT τ m z
def Kp (τ υ : Hp) (m z : Nat) : Prop := (∀ i, i < m → hI υ 64 i = hI τ 64 i ∧ hI υ 65 i = hI τ 65 i) ∧ ∀ i, i < z → hI υ 66 i = hI τ 66 i ∧ hI υ 67 i = hI τ 67 i
theorem Kp_r {τ : Hp} {m z : Nat} : Kp τ τ m z := ⟨fun _ _ => ⟨rfl, rfl⟩, fun _ _ => ⟨rfl, rfl⟩⟩
theorem Kp_t {a b c : Hp} {m z m' z' : Nat} (h : Kp a b m z) (h' : Kp b c m' z') (l : m ≤ m') (l' : z ≤ z') : Kp a c m z := ⟨fun i hi => by rw [(h'.1 i (by omega)).1, (h'.1 i (by omega)).2]; exact h.1 i hi, fun i hi => by rw [(h'.2 i (by omega)).1, (h'.2 i (by omega)).2]; exact h.2 i hi⟩
theorem Kp_w {a b : Hp} {m z m' z' : Nat} (h : Kp a b m z) (l : m' ≤ m) (l' : z' ≤ z) : Kp a b m' z' := ⟨fun i hi => h.1 i (by omega), fun i hi => h.2 i (by omega)⟩
theorem Kp_g {a b : Hp} {m z : Nat} (h : Kp a b m z) {x y k : Nat} {φ : Ph} (l : y ≤ m) (s : SgS (gM a) x y k φ) : SgS (gM b) x y k φ := SgS_e s (fun i h1 h2 => by
  rw [gM_0, gM_0, gM_1, gM_1]
  exact ⟨(h.1 i (by omega)).1.symm, (h.1 i (by omega)).2.symm⟩)
/-- settling changes code, and the two counts -/
def Qse (σ τ : Hp) : Prop := Ag (fun k => Nat.beq k 64 || Nat.beq k 65) (fun k j => Nat.beq k 57 && (Nat.beq j 17 || Nat.beq j 23)) σ τ
/-- what lies outside the token -/
def Qpe (σ τ : Hp) : Prop := Ag (fun k => Nat.ble 64 k && Nat.ble k 67) (fun k j => Nat.beq k 57 && (Nat.beq j 17 || Nat.beq j 23)) σ τ
theorem Qpe_q {σ τ : Hp} (g : Qpe σ τ) : Qq σ τ := Ag_w g (fun k e => by
  simp only [Bool.and_eq_true, Pq_] at e ⊢
  have := Nat.le_of_ble_eq_true e.1
  exact ⟨Nat.ble_eq_true_of_le (by omega), e.2⟩) (fun k j e => by
  simp only [Bool.and_eq_true, Fq_, Bool.or_eq_true] at e ⊢
  obtain ⟨e1, e2 | e2⟩ := e
  · exact ⟨e1, Or.inr (Or.inl e2)⟩
  · exact ⟨e1, Or.inr (Or.inr (Or.inr (Or.inl e2)))⟩)
theorem Qse_p {σ τ : Hp} (g : Qse σ τ) : Qpe σ τ := Ag_w g (fun k e => by
  simp only [Bool.or_eq_true] at e
  rcases e with e | e <;> (have e := Nat.eq_of_beq_eq_true e; subst e; rfl)) (fun k j e => e)
theorem Qse_q {σ τ : Hp} (g : Qse σ τ) : Qq σ τ := Qpe_q (Qse_p g)
section
variable {d p m n z o : Nat} {X : Tx} {τ : Hp}
theorem MS_pe {υ : Hp} {m' z' : Nat} (h : MS τ X p m n z o) (g : Qpe τ υ) (t : MT υ m' z') : MS υ X p m' n z' o := by
  obtain ⟨-, ⟨h2, w1, w2⟩, ⟨h3, t1, t2, t3, t4⟩, ⟨h4, h5⟩, ⟨h6, h7⟩, h8⟩ := h
  refine ⟨t, ⟨Qq_X (Qpe_q g) h2, ⟨fun k hk => ?_, fun k hk => ?_⟩⟩, ⟨h3, ?_, ?_, ?_, ?_⟩, ⟨?_, ?_⟩, ⟨?_, ?_⟩, h8⟩
  · rw [Ag_j g 68 rfl]; exact w1 k hk
  · rw [Ag_j g 69 rfl]; exact w2 k hk
  · rw [Ag_f g 57 9 rfl]; exact t1
  · rw [Ag_f g 57 10 rfl]; exact t2
  · rw [Ag_f g 57 11 rfl]; exact t3
  · rw [Ag_f g 57 12 rfl]; exact t4
  · rw [Ag_f g 57 14 rfl]; exact h4
  · rw [Ag_f g 57 13 rfl]; exact h5
  · rw [Ag_f g 57 20 rfl]; exact h6
  · rw [Ag_f g 57 24 rfl]; exact h7
theorem PW_k {υ : Hp} (h : PW τ z) (e6 : hI υ 66 = hI τ 66) (e7 : hI υ 67 = hI τ 67) : PW υ z := fun i hi => by rw [e6, e7]; exact h i hi
theorem MS_nx {υ : Hp} {p' : Nat} (h : MS τ X p m n z o) (g : Qnx τ υ) (l : p' ≤ X.1) (t : TkM υ X p') : MS υ X p' m n z o := by
  obtain ⟨⟨m1, m2, m3, m4, m5⟩, ⟨h2, w1, w2⟩, -, ⟨h4, h5⟩, ⟨h6, h7⟩, h8⟩ := h
  refine ⟨⟨Qq_M (Qnx_q g) m1, by rw [Ag_f g 57 17 rfl]; exact m2, by rw [Ag_f g 57 23 rfl]; exact m3, m4, PW_k m5 (Ag_i g 66 rfl) (Ag_i g 67 rfl)⟩, ⟨Qq_X (Qnx_q g) h2, ⟨fun k hk => ?_, fun k hk => ?_⟩⟩, ⟨l, t⟩, ⟨?_, ?_⟩, ⟨?_, ?_⟩, h8⟩
  · rw [Ag_j g 68 rfl]; exact w1 k hk
  · rw [Ag_j g 69 rfl]; exact w2 k hk
  · rw [Ag_f g 57 14 rfl]; exact h4
  · rw [Ag_f g 57 13 rfl]; exact h5
  · rw [Ag_f g 57 20 rfl]; exact h6
  · rw [Ag_f g 57 24 rfl]; exact h7
theorem Qnx_k {υ : Hp} (g : Qnx τ υ) {m z : Nat} : Kp τ υ m z := ⟨fun i _ => by rw [Ag_i g 64 rfl, Ag_i g 65 rfl]; exact ⟨rfl, rfl⟩, fun i _ => by rw [Ag_i g 66 rfl, Ag_i g 67 rfl]; exact ⟨rfl, rfl⟩⟩
theorem M_nxt (h : MS τ X p m n z o) : Ev (den (d + 1, 152, 0, [.ref 57], [], τ)) (fun a υ => a = none ∧ Qnx τ υ ∧ MS υ X (tE X p) m n z o) := by
  have b := tk_b h.2.2.1.1
  refine Ev_m (M_next (d := d) h.1.1 h.2.1.1 (by omega : tE X p ≤ X.1) h.2.2.1.2.2.1) (fun a υ r => ?_)
  exact ⟨r.1, r.2.1, MS_nx h r.2.1 (by omega) r.2.2⟩
theorem M_must1 (h : MS τ X p m n z o) : Ev (den (d + 2, 155, 0, [.ref 57, .int (nI 1)], [], τ)) (fun a υ => a = none ∧ Qnx τ υ ∧ MS υ X (tE X p) m n z o) := by
  simp (disch := first | omega | (repeat (first | assumption | exact Ag_r | refine Ag_I ?_ rfl | refine Ag_F ?_ rfl | refine Ag_J ?_ rfl))) only [A155, FM h.1.1, h.2.2.2.1.1, CO, HA, HB, HC, Nat.not_lt_zero, Nat.add_assoc, c_nlt, c_nle, c_neq, c_P, c_cl, c_m1, c_m1', nI_add, pk_mul, reduceIte, Nat.reduceEqDiff, Nat.reduceAdd, Nat.reduceMul, Nat.reduceLeDiff, eq_self, ↓pk_rem, pk_div, c_of, d_le, d_nle, d_lt, d_nlt, d_eq, d_ne]
  refine Ev_b (M_nxt (d := d) h) ?_
  rintro _ υ ⟨rfl, g, r⟩
  refine Ev_e (o' := some (none, υ)) ?_ (Ev_s ⟨rfl, g, r⟩)
  simp (disch := first | omega | (repeat (first | assumption | exact Ag_r | refine Ag_I ?_ rfl | refine Ag_F ?_ rfl | refine Ag_J ?_ rfl))) only [A155, CO, HA, HB, HC, Nat.not_lt_zero, Nat.add_assoc, c_nlt, c_nle, c_neq, c_P, c_cl, c_m1, c_m1', nI_add, pk_mul, reduceIte, Nat.reduceEqDiff, Nat.reduceAdd, Nat.reduceMul, Nat.reduceLeDiff, eq_self, ↓pk_rem, pk_div, c_of, d_le, d_nle, d_lt, d_nlt, d_eq, d_ne]
theorem M_must0 (h : MS τ X p m n z o) : den (d + 2, 155, 0, [.ref 57, .int (nI 0)], [], τ) = some (none, sF (sF τ 57 14 (.int (nI 1))) 57 13 (.int (nI (tS X p)))) := by
  simp (disch := first | omega | (repeat (first | assumption | exact Ag_r | refine Ag_I ?_ rfl | refine Ag_F ?_ rfl | refine Ag_J ?_ rfl))) only [A155, FM h.1.1, h.2.2.2.1.1, h.2.2.1.2.1, CO, HA, HB, HC, Nat.not_lt_zero, Nat.add_assoc, c_nlt, c_nle, c_neq, c_P, c_cl, c_m1, c_m1', nI_add, pk_mul, reduceIte, Nat.reduceEqDiff, Nat.reduceAdd, Nat.reduceMul, Nat.reduceLeDiff, eq_self, ↓pk_rem, pk_div, c_of, d_le, d_nle, d_lt, d_nlt, d_eq, d_ne]
theorem MB_0 (h : MS τ X p m n z o) : MB (sF (sF τ 57 14 (.int (nI 1))) 57 13 (.int (nI (tS X p)))) (tS X p) ∧ Qq τ (sF (sF τ 57 14 (.int (nI 1))) 57 13 (.int (nI (tS X p)))) := by
  have g : Qq τ (sF (sF τ 57 14 (.int (nI 1))) 57 13 (.int (nI (tS X p)))) := Ag_F (Ag_F Ag_r rfl) rfl
  obtain ⟨⟨m1, m2, m3, m4, m5⟩, -⟩ := h
  refine ⟨⟨⟨?_, ?_⟩, m, z, Qq_M g m1, ?_, ?_, m4, PW_k m5 rfl rfl⟩, g⟩
  · simp only [HA, Nat.reduceEqDiff, and_false, and_self, reduceIte]
  · simp only [HA, and_self, reduceIte]
  · simp only [HA, Nat.reduceEqDiff, and_false, reduceIte]; exact m2
  · simp only [HA, Nat.reduceEqDiff, and_false, reduceIte]; exact m3
theorem MW (h : MS τ X p m n z o) {c : Nat} (hc : 0 < c) (h2 : c < 2 ^ 45) : den (d, 153, 0, [.ref 57, .long (lN c), .float 0], [], τ) = some (some (.int (if wd_ X p = c then nI 1 else nI 0)), τ) := M_isWord h.1.1 h.2.1.1 h.2.2.1.1 h.2.2.1.2 hc h2
theorem MG (h : MS τ X p m n z o) {c : Nat} (hc : 0 < c) (h2 : c < 256) : den (d, 154, 0, [.ref 57, .int (nI c)], [], τ) = some (some (.int (if sg_ X p = c then nI 1 else nI 0)), τ) := M_isSign h.1.1 h.2.1.1 h.2.2.1.1 h.2.2.1.2 hc h2
theorem M_push (h : MS τ X p m n z o) (l : m + z < 400) {e t : Nat} (he : 20 ≤ e ∧ e < 32) (ht : t < 400) : Ev (den (d, 158, 0, [.ref 57, .int (nI e), .int (nI t)], [], τ)) (fun a υ => a = none ∧ Qpe τ υ ∧ MS υ X p m n (z + 1) o ∧ hI υ 66 z = nI e ∧ hI υ 67 z = nI t ∧ ∀ M, Kp τ υ M z) := by
  obtain ⟨m1, m2, m3, m4, m5⟩ := h.1
  have g : Qpe τ (sF (sI (sI τ 66 (upd (hI τ 66) z (nI e))) 67 (upd (hI τ 67) z (nI t))) 57 23 (.int (nI (z + 1)))) := Ag_F (Ag_I (Ag_I Ag_r rfl) rfl) rfl
  have e6 : hI (sF (sI (sI τ 66 (upd (hI τ 66) z (nI e))) 67 (upd (hI τ 67) z (nI t))) 57 23 (.int (nI (z + 1)))) 66 = upd (hI τ 66) z (nI e) := by simp only [HA, Nat.reduceEqDiff, reduceIte]
  have e7 : hI (sF (sI (sI τ 66 (upd (hI τ 66) z (nI e))) 67 (upd (hI τ 67) z (nI t))) 57 23 (.int (nI (z + 1)))) 67 = upd (hI τ 67) z (nI t) := by simp only [HA, Nat.reduceEqDiff, reduceIte]
  refine Ev_e (o' := some (none, sF (sI (sI τ 66 (upd (hI τ 66) z (nI e))) 67 (upd (hI τ 67) z (nI t))) 57 23 (.int (nI (z + 1))))) ?_ (Ev_s ⟨rfl, g, MS_pe h g ⟨Qq_M (Qpe_q g) m1, ?_, ?_, by omega, fun i hi => ?_⟩, ?_, ?_, fun M => ⟨fun i hi => ?_, fun i hi => ?_⟩⟩)
  · simp (disch := first | omega | (repeat (first | assumption | exact Ag_r | refine Ag_I ?_ rfl | refine Ag_F ?_ rfl | refine Ag_J ?_ rfl))) only [A158, FM m1, m3, CO, HA, HB, HC, Nat.not_lt_zero, Nat.add_assoc, c_nlt, c_nle, c_neq, c_P, c_cl, c_m1, c_m1', nI_add, pk_mul, reduceIte, Nat.reduceEqDiff, Nat.reduceAdd, Nat.reduceMul, Nat.reduceLeDiff, eq_self, ↓pk_rem, pk_div, c_of, d_le, d_nle, d_lt, d_nlt, d_eq, d_ne]
  · simp only [HA, Nat.reduceEqDiff, and_false, reduceIte]; exact m2
  · simp only [HA, and_self, reduceIte]
  · rw [e6, e7]
    simp only [ua]
    by_cases w : i = z
    · rw [if_pos w, if_pos w]; exact ⟨e, t, rfl, rfl, he.1, he.2, ht⟩
    · rw [if_neg w, if_neg w]; exact m5 i (by omega)
  · rw [e6]; simp only [ua, reduceIte]
  · rw [e7]; simp only [ua, reduceIte]
  · simp only [HA, Nat.reduceEqDiff, reduceIte, and_self]
  · rw [e6, e7]
    simp only [ua]
    rw [if_neg (by omega), if_neg (by omega)]; exact ⟨rfl, rfl⟩
theorem M_emitT (h : MT τ m z) (l : m + z < 400) {e t : Int32} : Ev (den (d, 157, 0, [.ref 57, .int e, .int t], [], τ)) (fun a υ => a = none ∧ Qse τ υ ∧ MT υ (m + 1) z ∧ hI υ 64 m = e ∧ hI υ 65 m = t ∧ ∀ Z, Kp τ υ m Z) := by
  obtain ⟨m1, m2, m3, m4, m5⟩ := h
  have g : Qse τ (sF (sI (sI τ 64 (upd (hI τ 64) m e)) 65 (upd (hI τ 65) m t)) 57 17 (.int (nI (m + 1)))) := Ag_F (Ag_I (Ag_I Ag_r rfl) rfl) rfl
  have e6 : hI (sF (sI (sI τ 64 (upd (hI τ 64) m e)) 65 (upd (hI τ 65) m t)) 57 17 (.int (nI (m + 1)))) 64 = upd (hI τ 64) m e := by simp only [HA, Nat.reduceEqDiff, reduceIte]
  have e7 : hI (sF (sI (sI τ 64 (upd (hI τ 64) m e)) 65 (upd (hI τ 65) m t)) 57 17 (.int (nI (m + 1)))) 65 = upd (hI τ 65) m t := by simp only [HA, Nat.reduceEqDiff, reduceIte]
  refine Ev_e (o' := some (none, sF (sI (sI τ 64 (upd (hI τ 64) m e)) 65 (upd (hI τ 65) m t)) 57 17 (.int (nI (m + 1))))) ?_ (Ev_s ⟨rfl, g, ⟨Qq_M (Qse_q g) m1, ?_, ?_, by omega, PW_k m5 (Ag_i g 66 rfl) (Ag_i g 67 rfl)⟩, ?_, ?_, fun M => ⟨fun i hi => ?_, fun i hi => ?_⟩⟩)
  · simp (disch := first | omega | (repeat (first | assumption | exact Ag_r | refine Ag_I ?_ rfl | refine Ag_F ?_ rfl | refine Ag_J ?_ rfl))) only [A157, FM m1, m2, CO, HA, HB, HC, Nat.not_lt_zero, Nat.add_assoc, c_nlt, c_nle, c_neq, c_P, c_cl, c_m1, c_m1', nI_add, pk_mul, reduceIte, Nat.reduceEqDiff, Nat.reduceAdd, Nat.reduceMul, Nat.reduceLeDiff, eq_self, ↓pk_rem, pk_div, c_of, d_le, d_nle, d_lt, d_nlt, d_eq, d_ne]
  · simp only [HA, and_self, reduceIte]
  · simp only [HA, Nat.reduceEqDiff, and_false, reduceIte]; exact m3
  · rw [e6]; simp only [ua, reduceIte]
  · rw [e7]; simp only [ua, reduceIte]
  · rw [e6, e7]
    simp only [ua]
    rw [if_neg (by omega), if_neg (by omega)]; exact ⟨rfl, rfl⟩
  · rw [Ag_i g 66 rfl, Ag_i g 67 rfl]; exact ⟨rfl, rfl⟩
theorem M_emit (h : MS τ X p m n z o) (l : m + z < 400) {e t : Int32} : Ev (den (d, 157, 0, [.ref 57, .int e, .int t], [], τ)) (fun a υ => a = none ∧ Qpe τ υ ∧ MS υ X p (m + 1) n z o ∧ hI υ 64 m = e ∧ hI υ 65 m = t ∧ ∀ Z, Kp τ υ m Z) := Ev_m (M_emitT h.1 l) (fun a υ r => ⟨r.1, Qse_p r.2.1, MS_pe h (Qse_p r.2.1) r.2.2.1, r.2.2.2⟩)
/-- how an operator binds -/
def bnd (e : Nat) : Nat := if 30 ≤ e then 0 else if e = 29 then 1 else if e = 28 then 2 else if e = 27 then 3 else if 24 ≤ e then 4 else if 22 ≤ e then 6 else 5
theorem M_binds {e : Nat} (he : 20 ≤ e ∧ e < 32) : den (d, 159, 0, [.int (nI e)], [], τ) = some (some (.int (nI (bnd e))), τ) := by
  unfold bnd
  by_cases h1 : 30 ≤ e
  · simp (disch := first | omega | (repeat (first | assumption | exact Ag_r | refine Ag_I ?_ rfl | refine Ag_F ?_ rfl | refine Ag_J ?_ rfl))) only [A159, h1, CO, HA, HB, HC, Nat.not_lt_zero, Nat.add_assoc, c_nlt, c_nle, c_neq, c_P, c_cl, c_m1, c_m1', nI_add, pk_mul, reduceIte, Nat.reduceEqDiff, Nat.reduceAdd, Nat.reduceMul, Nat.reduceLeDiff, eq_self, ↓pk_rem, pk_div, c_of, d_le, d_nle, d_lt, d_nlt, d_eq, d_ne]
  · by_cases h2 : e = 29
    · simp (disch := first | omega | (repeat (first | assumption | exact Ag_r | refine Ag_I ?_ rfl | refine Ag_F ?_ rfl | refine Ag_J ?_ rfl))) only [A159, h2, CO, HA, HB, HC, Nat.not_lt_zero, Nat.add_assoc, c_nlt, c_nle, c_neq, c_P, c_cl, c_m1, c_m1', nI_add, pk_mul, reduceIte, Nat.reduceEqDiff, Nat.reduceAdd, Nat.reduceMul, Nat.reduceLeDiff, eq_self, ↓pk_rem, pk_div, c_of, d_le, d_nle, d_lt, d_nlt, d_eq, d_ne]
    · by_cases h3 : e = 28
      · simp (disch := first | omega | (repeat (first | assumption | exact Ag_r | refine Ag_I ?_ rfl | refine Ag_F ?_ rfl | refine Ag_J ?_ rfl))) only [A159, h3, CO, HA, HB, HC, Nat.not_lt_zero, Nat.add_assoc, c_nlt, c_nle, c_neq, c_P, c_cl, c_m1, c_m1', nI_add, pk_mul, reduceIte, Nat.reduceEqDiff, Nat.reduceAdd, Nat.reduceMul, Nat.reduceLeDiff, eq_self, ↓pk_rem, pk_div, c_of, d_le, d_nle, d_lt, d_nlt, d_eq, d_ne]
      · by_cases h4 : e = 27
        · simp (disch := first | omega | (repeat (first | assumption | exact Ag_r | refine Ag_I ?_ rfl | refine Ag_F ?_ rfl | refine Ag_J ?_ rfl))) only [A159, h4, CO, HA, HB, HC, Nat.not_lt_zero, Nat.add_assoc, c_nlt, c_nle, c_neq, c_P, c_cl, c_m1, c_m1', nI_add, pk_mul, reduceIte, Nat.reduceEqDiff, Nat.reduceAdd, Nat.reduceMul, Nat.reduceLeDiff, eq_self, ↓pk_rem, pk_div, c_of, d_le, d_nle, d_lt, d_nlt, d_eq, d_ne]
        · by_cases h5 : 24 ≤ e
          · simp (disch := first | omega | (repeat (first | assumption | exact Ag_r | refine Ag_I ?_ rfl | refine Ag_F ?_ rfl | refine Ag_J ?_ rfl))) only [A159, h1, h2, h3, h4, h5, CO, HA, HB, HC, Nat.not_lt_zero, Nat.add_assoc, c_nlt, c_nle, c_neq, c_P, c_cl, c_m1, c_m1', nI_add, pk_mul, reduceIte, Nat.reduceEqDiff, Nat.reduceAdd, Nat.reduceMul, Nat.reduceLeDiff, eq_self, ↓pk_rem, pk_div, c_of, d_le, d_nle, d_lt, d_nlt, d_eq, d_ne]
          · by_cases h6 : 22 ≤ e
            · simp (disch := first | omega | (repeat (first | assumption | exact Ag_r | refine Ag_I ?_ rfl | refine Ag_F ?_ rfl | refine Ag_J ?_ rfl))) only [A159, h1, h2, h3, h4, h5, h6, CO, HA, HB, HC, Nat.not_lt_zero, Nat.add_assoc, c_nlt, c_nle, c_neq, c_P, c_cl, c_m1, c_m1', nI_add, pk_mul, reduceIte, Nat.reduceEqDiff, Nat.reduceAdd, Nat.reduceMul, Nat.reduceLeDiff, eq_self, ↓pk_rem, pk_div, c_of, d_le, d_nle, d_lt, d_nlt, d_eq, d_ne]
            · simp (disch := first | omega | (repeat (first | assumption | exact Ag_r | refine Ag_I ?_ rfl | refine Ag_F ?_ rfl | refine Ag_J ?_ rfl))) only [A159, h1, h2, h3, h4, h5, h6, CO, HA, HB, HC, Nat.not_lt_zero, Nat.add_assoc, c_nlt, c_nle, c_neq, c_P, c_cl, c_m1, c_m1', nI_add, pk_mul, reduceIte, Nat.reduceEqDiff, Nat.reduceAdd, Nat.reduceMul, Nat.reduceLeDiff, eq_self, ↓pk_rem, pk_div, c_of, d_le, d_nle, d_lt, d_nlt, d_eq, d_ne]
end
