/-! calls that change the state -/
def Pb : Nat → Bool := fun k => Pc k || (Nat.beq k 2 || Nat.beq k 3 || Nat.beq k 6 || Nat.beq k 7 || Nat.beq k 9 || Nat.beq k 10 || Nat.beq k 11 || Nat.beq k 17 || Nat.beq k 34)
def Fb : Nat → Nat → Bool := fun k j => Fc k j || ((Nat.beq k 0 && (Nat.beq j 11 || Nat.beq j 12 || Nat.beq j 13)) || (Nat.beq k 1 && Nat.ble j 3) || (Nat.beq k 5 && (Nat.beq j 2 || Nat.beq j 3)) || (Nat.beq k 8 && Nat.beq j 3) || (Nat.beq k 16 && Nat.beq j 1))
def Qb (σ τ : Hp) : Prop := Ag Pb Fb σ τ
def Pn : Nat → Bool := fun k => Pm k || (Nat.beq k 58 || Nat.beq k 59 || Nat.beq k 62)
def Fn : Nat → Nat → Bool := fun k j => Fm k j || (Nat.beq k 57 && (Nat.beq j 1 || Nat.beq j 6 || Nat.beq j 8 || Nat.beq j 13))
def Qn (σ τ : Hp) : Prop := Ag Pn Fn σ τ
theorem Qc_b {σ τ : Hp} (g : Qc σ τ) : Qb σ τ := Ag_w g (fun k e => by unfold Pb; rw [e, Bool.true_or]) (fun k j e => by unfold Fb; rw [e, Bool.true_or])
theorem Qm_n {σ τ : Hp} (g : Qm σ τ) : Qn σ τ := Ag_w g (fun k e => by unfold Pn; rw [e, Bool.true_or]) (fun k j e => by unfold Fn; rw [e, Bool.true_or])
theorem Pb_x {k : Nat} (h : 35 ≤ k) : Pb k = false := by
  unfold Pb Pc
  have b : Nat.ble k 30 = false := by
    cases b : Nat.ble k 30 with
    | false => rfl
    | true => have := Nat.le_of_ble_eq_true b; omega
  rw [b, Bool.and_false, bq (show ¬ k = 2 by omega), bq (show ¬ k = 3 by omega), bq (show ¬ k = 6 by omega), bq (show ¬ k = 7 by omega), bq (show ¬ k = 9 by omega), bq (show ¬ k = 10 by omega), bq (show ¬ k = 11 by omega), bq (show ¬ k = 17 by omega), bq (show ¬ k = 34 by omega)]; rfl
theorem Fb_x {k j : Nat} (h : 29 ≤ k) : Fb k j = false := by
  unfold Fb Fc
  rw [bq (show ¬ k = 18 by omega), bq (show ¬ k = 23 by omega), bq (show ¬ k = 28 by omega), bq (show ¬ k = 0 by omega), bq (show ¬ k = 1 by omega), bq (show ¬ k = 5 by omega), bq (show ¬ k = 8 by omega), bq (show ¬ k = 16 by omega)]; rfl
theorem Qb_C {σ τ : Hp} (g : Qb σ τ) (h : FxC σ) : FxC τ := FxC_a g (by decide) h
theorem SaM_b {σ τ : Hp} (g : Qb σ τ) : SaM σ τ := SaM_a g (fun k h1 h2 => ⟨Pb_x (by omega), fun j => Fb_x (by omega)⟩)
theorem KM_n {σ τ : Hp} (g : Qn σ τ) : KM σ τ := Ag_w g (fun k e => by
  unfold Pn Pm at e
  simp only [Bool.and_eq_true, Bool.or_eq_true] at e ⊢
  rcases e with ⟨e1, e2⟩ | ((e | e) | e)
  · have a := Nat.le_of_ble_eq_true e1
    have b := Nat.le_of_ble_eq_true e2
    exact ⟨Nat.ble_eq_true_of_le (by omega), Nat.ble_eq_true_of_le (by omega)⟩
  all_goals (have := Nat.eq_of_beq_eq_true e; subst this; exact ⟨rfl, rfl⟩)) (fun k j e => by
  unfold Fn Fm at e
  simp only [Bool.and_eq_true, Bool.or_eq_true] at e
  rcases e with ⟨e1, -⟩ | ⟨e1, -⟩ <;> exact e1)
theorem LaC_b {σ τ : Hp} (g : Qb σ τ) {i : Nat} {w : Lw5} (h : LaC σ 4 i w) : LaC τ 4 i w := by
  obtain ⟨ℓ, c, ⟨r1, r2, r3, r4⟩, ⟨c1, c2, c3⟩, lw⟩ := h
  refine ⟨ℓ, c, ⟨by rw [Ag_R g]; exact r1, r2, by rw [Ag_k g]; exact r3, by rw [Ag_f g ℓ 0 (Fb_x (by omega))]; exact r4⟩, ⟨c1, by rw [Ag_k g]; exact c2, by rw [Ag_l g]; exact c3⟩, ?_⟩
  rw [Ag_l g, Ag_i g c (Pb_x (Nat.le_trans (show 35 ≤ 85 by omega) c1))]; exact lw
theorem SC_b {σ τ : Hp} (g : Qb σ τ) {b : Nat} (hb : 35 ≤ b) {S : StT} (h : SC σ b S) : SC τ b S := by
  obtain ⟨v, H, fp, nl, fc, rn, ⟨nd, dv, dd, de⟩, ⟨nu, uc, uh⟩, lw⟩ := S
  have i := fun (j : Nat) => Ag_i g (b + j) (Pb_x (by omega))
  have f := fun (j k : Nat) => Ag_f g (b + j) k (Fb_x (by omega))
  have f0 := fun (k : Nat) => f 0 k
  rw [Nat.add_zero] at f0
  obtain ⟨⟨a1, a2⟩, ⟨a3, a4, a5⟩, a6, ⟨a7, a8⟩, ⟨tp, t1, t2, t3, t4⟩, a9⟩ := h
  refine ⟨⟨by rw [f0]; exact a1, by rw [i]; exact a2⟩, ⟨by rw [f0]; exact a3, by rw [f0]; exact a4, by rw [f0]; exact a5⟩, by rw [i]; exact a6, ⟨by rw [f]; exact a7, by rw [i, i, i]; exact a8⟩, ⟨tp, t1, by rw [f]; exact t2, by rw [f]; exact t3, by rw [i, i]; exact t4⟩, fun j hj => ?_⟩
  obtain ⟨ℓ, c, ⟨r1, r2, r3, r4⟩, ⟨c1, c2, c3⟩, lw⟩ := a9 j hj
  refine ⟨ℓ, c, ⟨by rw [Ag_R g]; exact r1, r2, by rw [Ag_k g]; exact r3, by rw [Ag_f g ℓ 0 (Fb_x (by omega))]; exact r4⟩, ⟨c1, by rw [Ag_k g]; exact c2, by rw [Ag_l g]; exact c3⟩, ?_⟩
  rw [Ag_l g, Ag_i g c (Pb_x (Nat.le_trans (show 35 ≤ 85 by omega) c1))]; exact lw
/-- the state of now, with its cells by name -/
def S1 (σ : Hp) : StT → Prop
  | (v, H, fp, nl, fc, rn, (nd, dv, dd, de), (nu, uc, uh), lw) => (hF σ 1 0 = .int (nI v) ∧ ∀ c, c < 224 → hI σ 2 c = nI (H c)) ∧ (hF σ 1 1 = .int (nI fp) ∧ hF σ 1 2 = .int (nI nl) ∧ hF σ 1 3 = .int (ofo fc)) ∧ (∀ e, e < 28 → hI σ 3 e = nI (rn e)) ∧ (hF σ 8 3 = .int (nI nd) ∧ ∀ k, k < nd → hI σ 9 k = nI (dv k) ∧ hI σ 10 k = nI (dd k) ∧ hI σ 11 k = nI (de k)) ∧ (∃ tp, tp < 32 ∧ hF σ 5 2 = .int (nI tp) ∧ hF σ 5 3 = .int (nI nu) ∧ ∀ i, i < nu → hI σ 6 ((tp + 32 - nu + i) % 32) = nI (uc i) ∧ hI σ 7 ((tp + 32 - nu + i) % 32) = nI (uh i)) ∧ ∀ i, i < nl → LaC σ 4 i (lw i)
theorem S1_SC {σ : Hp} {S : StT} : S1 σ S ↔ SC σ 1 S := by
  obtain ⟨v, H, fp, nl, fc, rn, ⟨nd, dv, dd, de⟩, ⟨nu, uc, uh⟩, lw⟩ := S
  exact Iff.rfl
def M1 (σ : Hp) : StT → Prop
  | (v, H, fp, nl, fc, rn, (nd, dv, dd, de), (nu, uc, uh), lw) => (hI σ 59 0 = nI v ∧ ∀ c, c < 224 → hI σ 59 (34 + c) = nI (H c)) ∧ (hI σ 59 1 = nI fp ∧ hI σ 59 2 = nI nl ∧ hI σ 59 3 = ofo fc) ∧ (∀ e, e < 28 → hI σ 59 (6 + e) = nI (rn e)) ∧ (hI σ 59 4 = nI nd ∧ ∀ k, k < nd → hI σ 59 (258 + 3 * k) = nI (dv k) ∧ hI σ 59 (258 + (3 * k + 1)) = nI (dd k) ∧ hI σ 59 (258 + (3 * k + 2)) = nI (de k)) ∧ (hI σ 59 5 = nI nu ∧ ∀ i, i < nu → hI σ 59 (288 + 3 * i) = nI (uc i / 28) ∧ hI σ 59 (288 + (3 * i + 1)) = nI (uc i % 28) ∧ hI σ 59 (288 + (3 * i + 2)) = nI (uh i)) ∧ ∀ i, i < nl → LaM σ 59 0 i (lw i)
theorem M1_SM {σ : Hp} {S : StT} : M1 σ S ↔ SM σ 59 0 S := by
  obtain ⟨v, H, fp, nl, fc, rn, ⟨nd, dv, dd, de⟩, ⟨nu, uc, uh⟩, lw⟩ := S
  simp only [M1, SM, Nat.zero_add]
theorem LaM_n {σ τ : Hp} (h : ∀ x, 390 ≤ x → hI τ 59 x = hI σ 59 x) {i : Nat} {w : Lw5} (hl : LaM σ 59 0 i w) : LaM τ 59 0 i w := by
  unfold LaM at hl ⊢
  have : (fun j => hI τ 59 (0 + (390 + 900 * i + j))) = fun j => hI σ 59 (0 + (390 + 900 * i + j)) := funext fun j => h _ (by omega)
  rw [this]; exact hl
section
variable {σ τ : Hp} {S S' : StT} {im : Nat → Option StT} {tl tl' yv : Nat} {tp tp' yK : Nat → Nat} {st fg ft st' fg' ft' : Int32} {rf rf' : Nat → Int32}
theorem RC_b (g : Qb σ τ) (h : RC σ (S, im, (tl, tp), (st, fg, ft), rf, (yv, yK))) (hS : S1 τ S') (ht : hF τ 16 1 = .int (nI tl') ∧ ∀ i, i < tl' → hI τ 17 i = nI (tp' i)) (hs : hF τ 0 11 = .int st' ∧ hF τ 0 12 = .int fg' ∧ hF τ 0 13 = .int ft') (hr : ∀ i, i < 5 → hI τ 34 i = rf' i) : RC τ (S', im, (tl', tp'), (st', fg', ft'), rf', (yv, yK)) := by
  obtain ⟨h1, -, h3, -, -, -, ⟨y1, y2, y3⟩⟩ := h
  refine ⟨Qb_C g h1, S1_SC.mp hS, fun k hk => ⟨by rw [Ag_i g 13 rfl]; exact (h3 k hk).1, fun S' e => SC_b g (by omega) ((h3 k hk).2 S' e)⟩, ht, hs, hr, ⟨by rw [Ag_f g 31 2 rfl]; exact y1, by rw [Ag_i g 32 rfl]; exact y2, by rw [Ag_i g 33 rfl]; exact y3⟩⟩
theorem RM_n (g : Qn σ τ) (h : RM σ (S, im, (tl, tp), (st, fg, ft), rf, (yv, yK))) (hS : M1 τ S') (ht : hF τ 57 8 = .int (nI tl') ∧ ∀ i, i < tl' → hI τ 62 i = nI (tp' i)) (hs : hF τ 57 1 = .int st' ∧ hF τ 57 6 = .int fg' ∧ hF τ 57 13 = .int ft') (hr : ∀ i, i < 5 → hI τ 58 (rfp i) = rf' i) : RM τ (S', im, (tl', tp'), (st', fg', ft'), rf', (yv, yK)) := by
  obtain ⟨h1, -, h3, -, -, -, ⟨y1, y2⟩, w1, w2⟩ := h
  refine ⟨FxM_a g (by decide) h1, M1_SM.mp hS, fun k hk => ⟨by rw [Ag_i g 61 rfl]; exact (h3 k hk).1, fun S' e => SM_e (Ag_i g 60 rfl) ((h3 k hk).2 S' e)⟩, ht, hs, hr, ⟨by rw [Ag_f g 57 52 rfl]; exact y1, by rw [Ag_i g 84 rfl]; exact y2⟩, by rw [Ag_j g 68 rfl]; exact w1, by rw [Ag_j g 69 rfl]; exact w2⟩
end
theorem S1_e {σ τ : Hp} {S : StT} (g : Qb σ τ) (hi : ∀ k, k = 2 ∨ k = 3 ∨ k = 6 ∨ k = 7 ∨ k = 9 ∨ k = 10 ∨ k = 11 → hI τ k = hI σ k) (hf : ∀ k j, (k = 1 ∨ k = 5 ∨ k = 8) → hF τ k j = hF σ k j) (h : S1 σ S) : S1 τ S := by
  obtain ⟨v, H, fp, nl, fc, rn, ⟨nd, dv, dd, de⟩, ⟨nu, uc, uh⟩, lw⟩ := S
  obtain ⟨⟨a1, a2⟩, ⟨a3, a4, a5⟩, a6, ⟨a7, a8⟩, ⟨tp, t1, t2, t3, t4⟩, a9⟩ := h
  refine ⟨⟨by rw [hf 1 _ (by simp)]; exact a1, by rw [hi 2 (by simp)]; exact a2⟩, ⟨by rw [hf 1 _ (by simp)]; exact a3, by rw [hf 1 _ (by simp)]; exact a4, by rw [hf 1 _ (by simp)]; exact a5⟩, by rw [hi 3 (by simp)]; exact a6, ⟨by rw [hf 8 _ (by simp)]; exact a7, by rw [hi 9 (by simp), hi 10 (by simp), hi 11 (by simp)]; exact a8⟩, ⟨tp, t1, by rw [hf 5 _ (by simp)]; exact t2, by rw [hf 5 _ (by simp)]; exact t3, by rw [hi 6 (by simp), hi 7 (by simp)]; exact t4⟩, fun i hn => LaC_b g (a9 i hn)⟩
theorem M1_e {σ τ : Hp} {S : StT} (h : hI τ 59 = hI σ 59) (hs : M1 σ S) : M1 τ S := M1_SM.mpr (SM_e h (M1_SM.mp hs))
/-- the refusals, on both sides -/
def rfu (rf : Nat → Int32) (k : Nat) : Nat → Int32 := fun i => if i = k then rf i + nI 1 else rf i
theorem RC_rf {σ τ : Hp} {k : Nat} {w : Int32} {S : StT} {im : Nat → Option StT} {tl yv : Nat} {tp yK : Nat → Nat} {st fg ft : Int32} {rf : Nat → Int32} (hk : k < 5) (h : RC σ (S, im, (tl, tp), (st, fg, ft), rf, (yv, yK))) (e : RfC k w σ τ) : RC τ (S, im, (tl, tp), (w, fg, ft), rfu rf k, (yv, yK)) ∧ SaM σ τ ∧ Rm2 σ τ := by
  have g : Qb σ τ := by rw [e]; exact Ag_I (Ag_F Ag_r rfl) rfl
  obtain ⟨f1, s1, im1, ⟨t1, t2⟩, ⟨u1, u2, u3⟩, r1, y1⟩ := id h
  refine ⟨RC_b g h (S1_e g ?_ ?_ (S1_SC.mpr s1)) ⟨?_, ?_⟩ ⟨?_, ?_, ?_⟩ ?_, SaM_b g, Rm_2 (Rm_a g)⟩
  · intro k hk; rw [e]; rcases hk with rfl | rfl | rfl | rfl | rfl | rfl | rfl <;> simp only [HA, Nat.reduceEqDiff, reduceIte]
  · intro k j hk; rw [e]; rcases hk with rfl | rfl | rfl <;> simp only [HA, Nat.reduceEqDiff, false_and, reduceIte]
  · rw [e]; simp only [HA, Nat.reduceEqDiff, false_and, reduceIte]; exact t1
  · rw [e]; simp only [HA, Nat.reduceEqDiff, reduceIte]; exact t2
  · rw [e]; simp only [HA, and_self, reduceIte]
  · rw [e]; simp only [HA, Nat.reduceEqDiff, and_false, reduceIte]; exact u2
  · rw [e]; simp only [HA, Nat.reduceEqDiff, and_false, reduceIte]; exact u3
  · intro i hi
    rw [e]
    simp only [HA, reduceIte, ua, rfu]
    split
    · next z => rw [z, r1 k hk]
    · exact r1 i hi
theorem RM_rf {ρ τ : Hp} {k : Nat} {w : Int32} {S : StT} {im : Nat → Option StT} {tl yv : Nat} {tp yK : Nat → Nat} {st fg ft : Int32} {rf : Nat → Int32} (hk : k < 5) (h : RM ρ (S, im, (tl, tp), (st, fg, ft), rf, (yv, yK))) (e : RfM (rfp k) w ρ τ) : RM τ (S, im, (tl, tp), (w, fg, ft), rfu rf k, (yv, yK)) ∧ KM ρ τ := by
  have g : Qn ρ τ := by rw [e]; exact Ag_I (Ag_F (Ag_F Ag_r rfl) rfl) rfl
  obtain ⟨f1, s1, im1, ⟨t1, t2⟩, ⟨u1, u2, u3⟩, r1, y1⟩ := id h
  refine ⟨RM_n g h (M1_e ?_ (M1_SM.mpr s1)) ⟨?_, ?_⟩ ⟨?_, ?_, ?_⟩ ?_, KM_n g⟩
  · rw [e]; simp only [HA, Nat.reduceEqDiff, reduceIte]
  · rw [e]; simp only [HA, Nat.reduceEqDiff, and_false, reduceIte]; exact t1
  · rw [e]; simp only [HA, Nat.reduceEqDiff, reduceIte]; exact t2
  · rw [e]; simp only [HA, and_self, reduceIte]
  · rw [e]; simp only [HA, Nat.reduceEqDiff, and_false, reduceIte]; exact u2
  · rw [e]; simp only [HA, Nat.reduceEqDiff, and_false, reduceIte]; exact u3
  · intro i hi
    rw [e]
    simp only [HA, reduceIte, ua, rfu]
    have : (rfp i = rfp k) ↔ i = k := by unfold rfp; split <;> split <;> omega
    by_cases z : i = k
    · rw [if_pos (this.mpr z), if_pos z, z, r1 k hk]
    · rw [if_neg (fun q => z (this.mp q)), if_neg z]; exact r1 i hi
theorem Prf {o1 o2 : Option Rs} {σ ρ : Hp} {R : AllT} {k : Nat} {w : Int32} (hk : k < 5) (hC : RC σ R) (hM : RM ρ R) (hW : RW R) (h1 : Ev o1 (fun a τ => a = some (.int w) ∧ RfC k w σ τ)) (h2 : Ev o2 (fun a τ => a = some (.int w) ∧ RfM (rfp k) w ρ τ)) : ∃ r R', RW R' ∧ Ev o1 (fun a τ => a = some (.int r) ∧ RC τ R' ∧ SaM σ τ ∧ Rm2 σ τ) ∧ Ev o2 (fun a τ => a = some (.int r) ∧ RM τ R' ∧ KM ρ τ) := by
  obtain ⟨S, im, ⟨tl, tp⟩, ⟨st, fg, ft⟩, rf, ⟨yv, yK⟩⟩ := R
  exact ⟨w, (S, im, (tl, tp), (w, fg, ft), rfu rf k, (yv, yK)), hW, Ev_m h1 (fun a τ z => ⟨z.1, RC_rf hk hC z.2⟩), Ev_m h2 (fun a τ z => ⟨z.1, RM_rf hk hM z.2⟩)⟩
section
variable {σ τ : Hp}
theorem tH {v : Nat} {H : Nat → Nat} (e : ∀ x, (x = 0 ∨ (34 ≤ x ∧ x < 258)) → hI τ 59 x = hI σ 59 x) (h : hI σ 59 0 = nI v ∧ ∀ c, c < 224 → hI σ 59 (34 + c) = nI (H c)) : hI τ 59 0 = nI v ∧ ∀ c, c < 224 → hI τ 59 (34 + c) = nI (H c) := ⟨by rw [e 0 (by omega)]; exact h.1, fun c hc => by rw [e (34 + c) (by omega)]; exact h.2 c hc⟩
theorem tP {x1 x2 x3 : Int32} (e : ∀ x, (1 ≤ x ∧ x ≤ 3) → hI τ 59 x = hI σ 59 x) (h : hI σ 59 1 = x1 ∧ hI σ 59 2 = x2 ∧ hI σ 59 3 = x3) : hI τ 59 1 = x1 ∧ hI τ 59 2 = x2 ∧ hI τ 59 3 = x3 := by rw [e 1 (by omega), e 2 (by omega), e 3 (by omega)]; exact h
theorem tR {rn : Nat → Nat} (e : ∀ x, (6 ≤ x ∧ x < 34) → hI τ 59 x = hI σ 59 x) (h : ∀ e, e < 28 → hI σ 59 (6 + e) = nI (rn e)) : ∀ e, e < 28 → hI τ 59 (6 + e) = nI (rn e) := fun i hi => by rw [e (6 + i) (by omega)]; exact h i hi
theorem tD {nd : Nat} {dv dd de : Nat → Nat} (h10 : nd ≤ 10) (e : ∀ x, (x = 4 ∨ (258 ≤ x ∧ x < 288)) → hI τ 59 x = hI σ 59 x) (h : hI σ 59 4 = nI nd ∧ ∀ k, k < nd → hI σ 59 (258 + 3 * k) = nI (dv k) ∧ hI σ 59 (258 + (3 * k + 1)) = nI (dd k) ∧ hI σ 59 (258 + (3 * k + 2)) = nI (de k)) : hI τ 59 4 = nI nd ∧ ∀ k, k < nd → hI τ 59 (258 + 3 * k) = nI (dv k) ∧ hI τ 59 (258 + (3 * k + 1)) = nI (dd k) ∧ hI τ 59 (258 + (3 * k + 2)) = nI (de k) := ⟨by rw [e 4 (by omega)]; exact h.1, fun k hk => by rw [e _ (by omega), e _ (by omega), e _ (by omega)]; exact h.2 k hk⟩
theorem tU {nu : Nat} {uc uh : Nat → Nat} (h32 : nu ≤ 32) (e : ∀ x, (x = 5 ∨ (288 ≤ x ∧ x < 384)) → hI τ 59 x = hI σ 59 x) (h : hI σ 59 5 = nI nu ∧ ∀ i, i < nu → hI σ 59 (288 + 3 * i) = nI (uc i / 28) ∧ hI σ 59 (288 + (3 * i + 1)) = nI (uc i % 28) ∧ hI σ 59 (288 + (3 * i + 2)) = nI (uh i)) : hI τ 59 5 = nI nu ∧ ∀ i, i < nu → hI τ 59 (288 + 3 * i) = nI (uc i / 28) ∧ hI τ 59 (288 + (3 * i + 1)) = nI (uc i % 28) ∧ hI τ 59 (288 + (3 * i + 2)) = nI (uh i) := ⟨by rw [e 5 (by omega)]; exact h.1, fun k hk => by rw [e _ (by omega), e _ (by omega), e _ (by omega)]; exact h.2 k hk⟩
theorem tL {nl : Nat} {lw : Nat → Lw5} (e : ∀ x, 390 ≤ x → hI τ 59 x = hI σ 59 x) (h : ∀ i, i < nl → LaM σ 59 0 i (lw i)) : ∀ i, i < nl → LaM τ 59 0 i (lw i) := fun i hi => LaM_n e (h i hi)
end
/-! rain, feed, end, force, row, deed, burn, count -/
theorem sum_l {a b c : Nat} : a + (b + c) = a + b + c := by omega
section
variable {σ : Hp} {R : AllT}
theorem K_rain (hC : RC σ R) (hM : RM σ R) (hW : RW R) (x y : Int32) : Pr (fun σ => (499, 84, 0, [.ref 0, .int x, .int y, .float 0], [], σ)) (fun σ => (499, 143, 0, [.ref 57, .int x, .int y, .float 0], [], σ)) σ (fun υ => ∃ R', Ok σ υ R') := by
  refine Pmut hC hM hW (fun ρ hρ => ?_)
  by_cases z : inr x 27 ∧ inr y 1
  · obtain ⟨⟨v, H, fp, nl, fc, rn, ⟨nd, dv, dd, de⟩, ⟨nu, uc, uh⟩, lw⟩, im, ⟨tl, tp⟩, ⟨st, fg, ft⟩, rf, ⟨yv, yK⟩⟩ := R
    obtain ⟨k, hk, rfl⟩ := inr_of (by omega) z.1
    obtain ⟨j, hj, rfl⟩ := inr_of (by omega) z.2
    obtain ⟨f1, s1, im1, ⟨t1, t2⟩, ⟨u1, u2, u3⟩, r1, y1⟩ := id hC
    obtain ⟨⟨a1, a2⟩, ⟨a3, a4, a5⟩, a6, ⟨a7, a8⟩, ⟨tq, b1, b2, b3, b4⟩, a9⟩ := S1_SC.mpr s1
    obtain ⟨F1, S1', IM1, ⟨T1, T2⟩, ⟨U1, U2, U3⟩, R1, Y1⟩ := id hρ
    obtain ⟨⟨A1, A2⟩, ⟨A3, A4, A5⟩, A6, ⟨A7, A8⟩, ⟨B3, B4⟩, A9⟩ := M1_SM.mpr S1'
    obtain ⟨⟨w1, w2, w3, w5, w6, w7⟩, w8⟩ := id hW
    refine ⟨nI (rn k), ((v, H, fp, nl, fc, upN rn k j, (nd, dv, dd, de), (nu, uc, uh), lw), im, (tl, tp), (nI 0, fg, ft), rf, (yv, yK)), ⟨⟨w1, w2, w3, fun e he => by unfold upN; split; exact hj; exact w5 e he, w6, w7⟩, w8⟩, ?_, ?_⟩
    · rw [C_rain (d := 497) f1, if_pos z, c_cl (by omega)]
      have g : Qb σ (sF (sI σ 3 (upd (hI σ 3) k (nI j))) 0 11 (.int (nI 0))) := Ag_F (Ag_I Ag_r rfl) rfl
      refine Ev_s ⟨by rw [a6 k (by omega)], RC_b g hC ⟨⟨(by first | (simp only [HA, Nat.reduceEqDiff, false_and, and_false, and_self, reduceIte]; assumption) | assumption), (by first | (simp only [HA, Nat.reduceEqDiff, false_and, and_false, and_self, reduceIte]; assumption) | assumption)⟩, ⟨(by first | (simp only [HA, Nat.reduceEqDiff, false_and, and_false, and_self, reduceIte]; assumption) | assumption), (by first | (simp only [HA, Nat.reduceEqDiff, false_and, and_false, and_self, reduceIte]; assumption) | assumption), (by first | (simp only [HA, Nat.reduceEqDiff, false_and, and_false, and_self, reduceIte]; assumption) | assumption)⟩, fun e he => ?_, ⟨(by first | (simp only [HA, Nat.reduceEqDiff, false_and, and_false, and_self, reduceIte]; assumption) | assumption), (by first | (simp only [HA, Nat.reduceEqDiff, false_and, and_false, and_self, reduceIte]; assumption) | assumption)⟩, ⟨tq, b1, (by first | (simp only [HA, Nat.reduceEqDiff, false_and, and_false, and_self, reduceIte]; assumption) | assumption), (by first | (simp only [HA, Nat.reduceEqDiff, false_and, and_false, and_self, reduceIte]; assumption) | assumption), (by first | (simp only [HA, Nat.reduceEqDiff, false_and, and_false, and_self, reduceIte]; assumption) | assumption)⟩, fun i hi => LaC_b g (a9 i hi)⟩ ⟨(by first | (simp only [HA, Nat.reduceEqDiff, false_and, and_false, and_self, reduceIte]; assumption) | assumption), (by first | (simp only [HA, Nat.reduceEqDiff, false_and, and_false, and_self, reduceIte]; assumption) | assumption)⟩ ⟨by simp only [HA, and_self, reduceIte], (by first | (simp only [HA, Nat.reduceEqDiff, false_and, and_false, and_self, reduceIte]; assumption) | assumption), (by first | (simp only [HA, Nat.reduceEqDiff, false_and, and_false, and_self, reduceIte]; assumption) | assumption)⟩ (by first | (simp only [HA, Nat.reduceEqDiff, false_and, and_false, and_self, reduceIte]; assumption) | assumption), SaM_b g, Rm_2 (Rm_a g)⟩
      simp only [HA, reduceIte, ua, upN]
      split
      · rfl
      · exact a6 e he
    · rw [M_rain (d := 497) F1, if_pos z, c_cl (by omega)]
      have g : Qn ρ (sF (sI (sF ρ 57 0 (.int (nI 0))) 59 (upd (hI ρ 59) (6 + k) (nI j))) 57 1 (.int (nI 0))) := Ag_F (Ag_I (Ag_F Ag_r rfl) rfl) rfl
      refine Ev_s ⟨by rw [A6 k (by omega)], RM_n g hρ ⟨⟨?_, fun c hc => ?_⟩, ⟨?_, ?_, ?_⟩, fun e he => ?_, ⟨?_, fun i hi => ?_⟩, ⟨?_, fun i hi => ?_⟩, fun i hi => LaM_n (fun x hx => ?_) (A9 i hi)⟩ ⟨(by first | (simp only [HA, Nat.reduceEqDiff, false_and, and_false, and_self, reduceIte]; assumption) | assumption), (by first | (simp only [HA, Nat.reduceEqDiff, false_and, and_false, and_self, reduceIte]; assumption) | assumption)⟩ ⟨by simp only [HA, and_self, reduceIte], (by first | (simp only [HA, Nat.reduceEqDiff, false_and, and_false, and_self, reduceIte]; assumption) | assumption), (by first | (simp only [HA, Nat.reduceEqDiff, false_and, and_false, and_self, reduceIte]; assumption) | assumption)⟩ (by first | (simp only [HA, Nat.reduceEqDiff, false_and, and_false, and_self, reduceIte]; assumption) | assumption), KM_n g⟩
      all_goals simp only [HA, reduceIte, ua]
      · rw [if_neg (by omega)]; exact A1
      · rw [if_neg (by omega)]; exact A2 c hc
      · rw [if_neg (by omega)]; exact A3
      · rw [if_neg (by omega)]; exact A4
      · rw [if_neg (by omega)]; exact A5
      · by_cases y : e = k
        · rw [if_pos (by omega)]; unfold upN; rw [if_pos y]
        · rw [if_neg (by omega)]; unfold upN; rw [if_neg y]; exact A6 e he
      · rw [if_neg (by omega)]; exact A7
      · rw [if_neg (by omega), if_neg (by omega), if_neg (by omega)]; exact A8 i hi
      · rw [if_neg (by omega)]; exact B3
      · rw [if_neg (by omega), if_neg (by omega), if_neg (by omega)]; exact B4 i hi
      · rw [if_neg (by omega)]
  · have f1 : FxC σ := by obtain ⟨S, im, ⟨tl, tp⟩, ⟨st, fg, ft⟩, rf, ⟨yv, yK⟩⟩ := R; exact hC.1
    have F1 : FxM ρ := by obtain ⟨S, im, ⟨tl, tp⟩, ⟨st, fg, ft⟩, rf, ⟨yv, yK⟩⟩ := R; exact hρ.1
    exact Prf (k := 0) (w := -1) (by omega) hC hρ hW (by rw [C_rain (d := 497) f1, if_neg z]; exact Ev_s ⟨rfl, rfl⟩) (by rw [M_rain (d := 497) F1, if_neg z]; exact Ev_s ⟨rfl, rfl⟩)
theorem K_end (hC : RC σ R) (hM : RM σ R) (hW : RW R) (n : Int32) : Pr (fun σ => (499, 86, 0, [.ref 0, .int n], [], σ)) (fun σ => (499, 148, 0, [.ref 57, .int n], [], σ)) σ (fun υ => ∃ R', Ok σ υ R') := by
  refine Pmut hC hM hW (fun ρ hρ => ?_)
  obtain ⟨⟨v, H, fp, nl, fc, rn, ⟨nd, dv, dd, de⟩, ⟨nu, uc, uh⟩, lw⟩, im, ⟨tl, tp⟩, ⟨st, fg, ft⟩, rf, ⟨yv, yK⟩⟩ := R
  obtain ⟨f1, s1, im1, ⟨t1, t2⟩, ⟨u1, u2, u3⟩, r1, y1⟩ := id hC
  obtain ⟨⟨a1, a2⟩, ⟨a3, a4, a5⟩, a6, ⟨a7, a8⟩, ⟨tq, b1, b2, b3, b4⟩, a9⟩ := S1_SC.mpr s1
  obtain ⟨F1, S1', IM1, ⟨T1, T2⟩, ⟨U1, U2, U3⟩, R1, Y1⟩ := id hρ
  obtain ⟨⟨A1, A2⟩, ⟨A3, A4, A5⟩, A6, ⟨A7, A8⟩, ⟨B3, B4⟩, A9⟩ := M1_SM.mpr S1'
  obtain ⟨⟨w1, w2, ⟨w3, w4⟩, w5, w6, w7⟩, w8, ⟨w9, w10⟩, w11⟩ := id hW
  have e1 := C_end (d := 499) f1 t1 n
  have e2 := M_end (d := 499) F1 T1 n
  have same : Ev (some (some (Value.int (-1)), σ)) (fun a τ => a = some (.int (-1)) ∧ RC τ ((v, H, fp, nl, fc, rn, (nd, dv, dd, de), (nu, uc, uh), lw), im, (tl, tp), (st, fg, ft), rf, (yv, yK)) ∧ SaM σ τ ∧ Rm2 σ τ) ∧ Ev (some (some (Value.int (-1)), sF ρ 57 0 (.int (nI 0)))) (fun a τ => a = some (.int (-1)) ∧ RM τ ((v, H, fp, nl, fc, rn, (nd, dv, dd, de), (nu, uc, uh), lw), im, (tl, tp), (st, fg, ft), rf, (yv, yK)) ∧ KM ρ τ) := ⟨Ev_s ⟨rfl, hC, SaM_b Ag_r, Rm_2 (Rm_a (P := Pb) (F := Fb) Ag_r)⟩, Ev_s ⟨rfl, RM_q (Ag_F Ag_r rfl) hρ, KM_q (Ag_F Ag_r rfl)⟩⟩
  by_cases z1 : n < nI 0
  · rw [if_pos z1] at e1 e2
    exact ⟨-1, _, hW, by rw [e1]; exact same.1, by rw [e2]; exact same.2⟩
  · rw [if_neg z1] at e1 e2
    by_cases z2 : n ≤ nI tl
    · rw [if_pos z2] at e1 e2
      obtain ⟨k, hk, rfl⟩ := inr_of (x := n) (n := tl) (by omega) ⟨Int32.not_lt.mp z1, z2⟩
      refine ⟨nI k, ((v, H, fp, nl, fc, rn, (nd, dv, dd, de), (nu, uc, uh), lw), im, (k, tp), (st, fg, ft), rf, (yv, yK)), ⟨⟨w1, w2, ⟨w3, w4⟩, w5, w6, w7⟩, w8, ⟨by omega, fun i hi => w10 i (by omega)⟩, w11⟩, ?_, ?_⟩
      · rw [e1]
        have g : Qb σ (sF σ 16 1 (.int (nI k))) := Ag_F Ag_r rfl
        exact Ev_s ⟨rfl, RC_b g hC ⟨⟨(by first | (simp only [HA, Nat.reduceEqDiff, false_and, and_false, and_self, reduceIte]; assumption) | assumption), (by first | (simp only [HA, Nat.reduceEqDiff, false_and, and_false, and_self, reduceIte]; assumption) | assumption)⟩, ⟨(by first | (simp only [HA, Nat.reduceEqDiff, false_and, and_false, and_self, reduceIte]; assumption) | assumption), (by first | (simp only [HA, Nat.reduceEqDiff, false_and, and_false, and_self, reduceIte]; assumption) | assumption), (by first | (simp only [HA, Nat.reduceEqDiff, false_and, and_false, and_self, reduceIte]; assumption) | assumption)⟩, (by first | (simp only [HA, Nat.reduceEqDiff, false_and, and_false, and_self, reduceIte]; assumption) | assumption), ⟨(by first | (simp only [HA, Nat.reduceEqDiff, false_and, and_false, and_self, reduceIte]; assumption) | assumption), (by first | (simp only [HA, Nat.reduceEqDiff, false_and, and_false, and_self, reduceIte]; assumption) | assumption)⟩, ⟨tq, b1, (by first | (simp only [HA, Nat.reduceEqDiff, false_and, and_false, and_self, reduceIte]; assumption) | assumption), (by first | (simp only [HA, Nat.reduceEqDiff, false_and, and_false, and_self, reduceIte]; assumption) | assumption), (by first | (simp only [HA, Nat.reduceEqDiff, false_and, and_false, and_self, reduceIte]; assumption) | assumption)⟩, fun i hi => LaC_b g (a9 i hi)⟩ ⟨by simp only [HA, and_self, reduceIte], fun i hi => t2 i (by omega)⟩ ⟨(by first | (simp only [HA, Nat.reduceEqDiff, false_and, and_false, and_self, reduceIte]; assumption) | assumption), (by first | (simp only [HA, Nat.reduceEqDiff, false_and, and_false, and_self, reduceIte]; assumption) | assumption), (by first | (simp only [HA, Nat.reduceEqDiff, false_and, and_false, and_self, reduceIte]; assumption) | assumption)⟩ (by first | (simp only [HA, Nat.reduceEqDiff, false_and, and_false, and_self, reduceIte]; assumption) | assumption), SaM_b g, Rm_2 (Rm_a g)⟩
      · rw [e2]
        have g : Qn ρ (sF (sF ρ 57 0 (.int (nI 0))) 57 8 (.int (nI k))) := Ag_F (Ag_F Ag_r rfl) rfl
        exact Ev_s ⟨rfl, RM_n g hρ ⟨⟨(by first | (simp only [HA, Nat.reduceEqDiff, false_and, and_false, and_self, reduceIte]; assumption) | assumption), (by first | (simp only [HA, Nat.reduceEqDiff, false_and, and_false, and_self, reduceIte]; assumption) | assumption)⟩, ⟨(by first | (simp only [HA, Nat.reduceEqDiff, false_and, and_false, and_self, reduceIte]; assumption) | assumption), (by first | (simp only [HA, Nat.reduceEqDiff, false_and, and_false, and_self, reduceIte]; assumption) | assumption), (by first | (simp only [HA, Nat.reduceEqDiff, false_and, and_false, and_self, reduceIte]; assumption) | assumption)⟩, (by first | (simp only [HA, Nat.reduceEqDiff, false_and, and_false, and_self, reduceIte]; assumption) | assumption), ⟨(by first | (simp only [HA, Nat.reduceEqDiff, false_and, and_false, and_self, reduceIte]; assumption) | assumption), (by first | (simp only [HA, Nat.reduceEqDiff, false_and, and_false, and_self, reduceIte]; assumption) | assumption)⟩, ⟨(by first | (simp only [HA, Nat.reduceEqDiff, false_and, and_false, and_self, reduceIte]; assumption) | assumption), (by first | (simp only [HA, Nat.reduceEqDiff, false_and, and_false, and_self, reduceIte]; assumption) | assumption)⟩, tL (fun x hx => by first | rfl | simp only [HA, Nat.reduceEqDiff, reduceIte]) A9⟩ ⟨by simp only [HA, and_self, reduceIte], fun i hi => T2 i (by omega)⟩ ⟨(by first | (simp only [HA, Nat.reduceEqDiff, false_and, and_false, and_self, reduceIte]; assumption) | assumption), (by first | (simp only [HA, Nat.reduceEqDiff, false_and, and_false, and_self, reduceIte]; assumption) | assumption), (by first | (simp only [HA, Nat.reduceEqDiff, false_and, and_false, and_self, reduceIte]; assumption) | assumption)⟩ (by first | (simp only [HA, Nat.reduceEqDiff, false_and, and_false, and_self, reduceIte]; assumption) | assumption), KM_n g⟩
    · rw [if_neg z2] at e1 e2
      exact ⟨-1, _, hW, by rw [e1]; exact same.1, by rw [e2]; exact same.2⟩
theorem K_feed (hC : RC σ R) (hM : RM σ R) (hW : RW R) (a b c e g : Int32) : Pr (fun σ => (499, 85, 0, [.ref 0, .int a, .int b, .int c, .int e, .int g], [], σ)) (fun σ => (499, 147, 0, [.ref 57, .int a, .int b, .int c, .int e, .int g], [], σ)) σ (fun υ => ∃ R', Ok σ υ R') := by
  refine Pmut hC hM hW (fun ρ hρ => ?_)
  obtain ⟨⟨v, H, fp, nl, fc, rn, ⟨nd, dv, dd, de⟩, ⟨nu, uc, uh⟩, lw⟩, im, ⟨tl, tp⟩, ⟨st, fg, ft⟩, rf, ⟨yv, yK⟩⟩ := R
  obtain ⟨f1, s1, im1, ⟨t1, t2⟩, ⟨u1, u2, u3⟩, r1, y1⟩ := id hC
  obtain ⟨⟨a1, a2⟩, ⟨a3, a4, a5⟩, a6, ⟨a7, a8⟩, ⟨tq, b1, b2, b3, b4⟩, a9⟩ := S1_SC.mpr s1
  obtain ⟨F1, S1', IM1, ⟨T1, T2⟩, ⟨U1, U2, U3⟩, R1, Y1⟩ := id hρ
  obtain ⟨⟨A1, A2⟩, ⟨A3, A4, A5⟩, A6, ⟨A7, A8⟩, ⟨B3, B4⟩, A9⟩ := M1_SM.mpr S1'
  obtain ⟨⟨w1, w2, ⟨w3, w4⟩, w5, w6, w7⟩, w8, ⟨w9, w10⟩, w11⟩ := id hW
  have e1 := C_feed (d := 498) f1 t1 w9 a b c e g
  have e2 := M_feed (d := 498) F1 T1 w9 a b c e g
  by_cases z : tl + 20 ≤ 400
  · rw [if_pos z] at e1 e2
    -- the bytes of twenty more
    have by4 : ∀ (f : Nat → Int32) (t : Nat) (x : Int32), (∀ i, i < t → ∃ n, n < 256 ∧ f i = nI n) → ∀ i, i < t + 4 → ∃ n, n < 256 ∧ up4 f t x i = nI n := by
      intro f t x h i hi
      unfold up4
      simp only [ua]
      split
      · exact byt_lt x 0
      · split
        · exact byt_lt x 8
        · split
          · exact byt_lt x 16
          · split
            · exact byt_lt x 24
            · exact h i (by omega)
    have by20 : ∀ (f : Nat → Int32), (∀ i, i < tl → ∃ n, n < 256 ∧ f i = nI n) → ∀ i, i < tl + 20 → ∃ n, n < 256 ∧ up20 f tl a b c e g i = nI n := fun f h => by4 _ (tl + 16) g (by4 _ (tl + 12) e (by4 _ (tl + 8) c (by4 _ (tl + 4) b (by4 _ tl a h))))
    have old := by20 (hI σ 17) (fun i hi => ⟨tp i, w10 i hi, t2 i hi⟩)
    have up4e : ∀ (f h : Nat → Int32) (t : Nat) (x : Int32), (∀ i, i < t → f i = h i) → ∀ i, i < t + 4 → up4 f t x i = up4 h t x i := by
      intro f h t x eq i hi
      unfold up4
      simp only [ua]
      split
      · rfl
      · split
        · rfl
        · split
          · rfl
          · split
            · rfl
            · exact eq i (by omega)
    have up20e : ∀ i, i < tl + 20 → up20 (hI ρ 62) tl a b c e g i = up20 (hI σ 17) tl a b c e g i := up4e _ _ (tl + 16) g (up4e _ _ (tl + 12) e (up4e _ _ (tl + 8) c (up4e _ _ (tl + 4) b (up4e _ _ tl a (fun i hi => by rw [T2 i hi, t2 i hi])))))
    have nt : ∀ i, i < tl + 20 → (up20 (hI σ 17) tl a b c e g i).toNatClampNeg < 256 ∧ up20 (hI σ 17) tl a b c e g i = nI (up20 (hI σ 17) tl a b c e g i).toNatClampNeg := fun i hi => by
      obtain ⟨n, h1, h2⟩ := old i hi
      rw [h2, c_cl (by omega)]
      exact ⟨h1, rfl⟩
    refine ⟨nI (tl + 20), ((v, H, fp, nl, fc, rn, (nd, dv, dd, de), (nu, uc, uh), lw), im, (tl + 20, fun i => (up20 (hI σ 17) tl a b c e g i).toNatClampNeg), (st, fg, ft), rf, (yv, yK)), ⟨⟨w1, w2, ⟨w3, w4⟩, w5, w6, w7⟩, w8, ⟨z, fun i hi => (nt i hi).1⟩, w11⟩, ?_, ?_⟩
    · rw [e1]
      have gg : Qb σ (sF (sI σ 17 (up20 (hI σ 17) tl a b c e g)) 16 1 (.int (nI (tl + 20)))) := Ag_F (Ag_I Ag_r rfl) rfl
      exact Ev_s ⟨rfl, RC_b gg hC ⟨⟨(by first | (simp only [HA, Nat.reduceEqDiff, false_and, and_false, and_self, reduceIte]; assumption) | assumption), (by first | (simp only [HA, Nat.reduceEqDiff, false_and, and_false, and_self, reduceIte]; assumption) | assumption)⟩, ⟨(by first | (simp only [HA, Nat.reduceEqDiff, false_and, and_false, and_self, reduceIte]; assumption) | assumption), (by first | (simp only [HA, Nat.reduceEqDiff, false_and, and_false, and_self, reduceIte]; assumption) | assumption), (by first | (simp only [HA, Nat.reduceEqDiff, false_and, and_false, and_self, reduceIte]; assumption) | assumption)⟩, (by first | (simp only [HA, Nat.reduceEqDiff, false_and, and_false, and_self, reduceIte]; assumption) | assumption), ⟨(by first | (simp only [HA, Nat.reduceEqDiff, false_and, and_false, and_self, reduceIte]; assumption) | assumption), (by first | (simp only [HA, Nat.reduceEqDiff, false_and, and_false, and_self, reduceIte]; assumption) | assumption)⟩, ⟨tq, b1, (by first | (simp only [HA, Nat.reduceEqDiff, false_and, and_false, and_self, reduceIte]; assumption) | assumption), (by first | (simp only [HA, Nat.reduceEqDiff, false_and, and_false, and_self, reduceIte]; assumption) | assumption), (by first | (simp only [HA, Nat.reduceEqDiff, false_and, and_false, and_self, reduceIte]; assumption) | assumption)⟩, fun i hi => LaC_b gg (a9 i hi)⟩ ⟨by simp only [HA, and_self, reduceIte], fun i hi => by simp only [HA, reduceIte]; exact (nt i hi).2⟩ ⟨(by first | (simp only [HA, Nat.reduceEqDiff, false_and, and_false, and_self, reduceIte]; assumption) | assumption), (by first | (simp only [HA, Nat.reduceEqDiff, false_and, and_false, and_self, reduceIte]; assumption) | assumption), (by first | (simp only [HA, Nat.reduceEqDiff, false_and, and_false, and_self, reduceIte]; assumption) | assumption)⟩ (by first | (simp only [HA, Nat.reduceEqDiff, false_and, and_false, and_self, reduceIte]; assumption) | assumption), SaM_b gg, Rm_2 (Rm_a gg)⟩
    · rw [e2]
      have gg : Qn ρ (sF (sF (sI ρ 62 (up20 (hI ρ 62) tl a b c e g)) 57 0 (.int (nI 0))) 57 8 (.int (nI (tl + 20)))) := Ag_F (Ag_F (Ag_I Ag_r rfl) rfl) rfl
      exact Ev_s ⟨rfl, RM_n gg hρ ⟨⟨(by first | (simp only [HA, Nat.reduceEqDiff, false_and, and_false, and_self, reduceIte]; assumption) | assumption), (by first | (simp only [HA, Nat.reduceEqDiff, false_and, and_false, and_self, reduceIte]; assumption) | assumption)⟩, ⟨(by first | (simp only [HA, Nat.reduceEqDiff, false_and, and_false, and_self, reduceIte]; assumption) | assumption), (by first | (simp only [HA, Nat.reduceEqDiff, false_and, and_false, and_self, reduceIte]; assumption) | assumption), (by first | (simp only [HA, Nat.reduceEqDiff, false_and, and_false, and_self, reduceIte]; assumption) | assumption)⟩, (by first | (simp only [HA, Nat.reduceEqDiff, false_and, and_false, and_self, reduceIte]; assumption) | assumption), ⟨(by first | (simp only [HA, Nat.reduceEqDiff, false_and, and_false, and_self, reduceIte]; assumption) | assumption), (by first | (simp only [HA, Nat.reduceEqDiff, false_and, and_false, and_self, reduceIte]; assumption) | assumption)⟩, ⟨(by first | (simp only [HA, Nat.reduceEqDiff, false_and, and_false, and_self, reduceIte]; assumption) | assumption), (by first | (simp only [HA, Nat.reduceEqDiff, false_and, and_false, and_self, reduceIte]; assumption) | assumption)⟩, tL (fun x hx => by first | rfl | simp only [HA, Nat.reduceEqDiff, reduceIte]) A9⟩ ⟨by simp only [HA, and_self, reduceIte], fun i hi => by simp only [HA, reduceIte]; rw [up20e i hi]; exact (nt i hi).2⟩ ⟨(by first | (simp only [HA, Nat.reduceEqDiff, false_and, and_false, and_self, reduceIte]; assumption) | assumption), (by first | (simp only [HA, Nat.reduceEqDiff, false_and, and_false, and_self, reduceIte]; assumption) | assumption), (by first | (simp only [HA, Nat.reduceEqDiff, false_and, and_false, and_self, reduceIte]; assumption) | assumption)⟩ (by first | (simp only [HA, Nat.reduceEqDiff, false_and, and_false, and_self, reduceIte]; assumption) | assumption), KM_n gg⟩
  · rw [if_neg z] at e1 e2
    exact ⟨-1, _, hW, by rw [e1]; exact Ev_s ⟨rfl, hC, SaM_b Ag_r, Rm_2 (Rm_a (P := Pb) (F := Fb) Ag_r)⟩, by rw [e2]; exact Ev_s ⟨rfl, RM_q (Ag_F Ag_r rfl) hρ, KM_q (Ag_F Ag_r rfl)⟩⟩
theorem K_force (hC : RC σ R) (hM : RM σ R) (hW : RW R) (x : Int32) : Pr (fun σ => (499, 91, 0, [.ref 0, .int x, .float 0], [], σ)) (fun σ => (499, 173, 0, [.ref 57, .int x, .float 0], [], σ)) σ (fun υ => ∃ R', Ok σ υ R') := by
  refine Pmut hC hM hW (fun ρ hρ => ?_)
  obtain ⟨⟨v, H, fp, nl, fc, rn, ⟨nd, dv, dd, de⟩, ⟨nu, uc, uh⟩, lw⟩, im, ⟨tl, tp⟩, ⟨st, fg, ft⟩, rf, ⟨yv, yK⟩⟩ := R
  obtain ⟨f1, s1, im1, ⟨t1, t2⟩, ⟨u1, u2, u3⟩, r1, y1⟩ := id hC
  obtain ⟨⟨a1, a2⟩, ⟨a3, a4, a5⟩, a6, ⟨a7, a8⟩, ⟨tq, b1, b2, b3, b4⟩, a9⟩ := S1_SC.mpr s1
  obtain ⟨F1, S1', IM1, ⟨T1, T2⟩, ⟨U1, U2, U3⟩, R1, Y1⟩ := id hρ
  obtain ⟨⟨A1, A2⟩, ⟨A3, A4, A5⟩, A6, ⟨A7, A8⟩, ⟨B3, B4⟩, A9⟩ := M1_SM.mpr S1'
  obtain ⟨⟨w1, w2, ⟨w3, w4⟩, w5, w6, w7⟩, w8, ⟨w9, w10⟩, w11⟩ := id hW
  by_cases z : x = -1 ∨ (nI 0 ≤ x ∧ ¬ nI nl ≤ x)
  · obtain ⟨fx, hfx, hfl⟩ : ∃ fx : Option Nat, x = ofo fx ∧ ∀ i, fx = some i → i < nl := by
      rcases z with rfl | ⟨h1, h2⟩
      · exact ⟨none, rfl, fun i hi => nomatch hi⟩
      · obtain ⟨k, hk, rfl⟩ := inr_of (x := x) (n := 6) (by omega) ⟨h1, Int32.le_of_lt (Int32.lt_of_lt_of_le (Int32.not_le.mp h2) (by rw [c_nle (by omega) (by omega)]; exact w3))⟩
        rw [c_nle (by omega) (by omega)] at h2
        exact ⟨some k, rfl, fun i hi => by cases hi; omega⟩
    have q1 : ¬ x < -1 := by
      rcases z with rfl | ⟨h1, h2⟩
      · rw [m1_m1.1]; exact id
      · obtain ⟨k, hk, rfl⟩ := inr_of (x := x) (n := 6) (by omega) ⟨h1, Int32.le_of_lt (Int32.lt_of_lt_of_le (Int32.not_le.mp h2) (by rw [c_nle (by omega) (by omega)]; exact w3))⟩
        rw [m1_lt (by omega)]; exact id
    have q2 : ¬ nI nl ≤ x := by
      rcases z with rfl | ⟨h1, h2⟩
      · rw [m1_le (by omega)]; exact id
      · exact h2
    refine ⟨ofo fc, ((v, H, fp, nl, fx, rn, (nd, dv, dd, de), (nu, uc, uh), lw), im, (tl, tp), (nI 0, fg, ft), rf, (yv, yK)), ⟨⟨w1, w2, ⟨w3, hfl⟩, w5, w6, w7⟩, w8, ⟨w9, w10⟩, w11⟩, ?_, ?_⟩
    · rw [C_force (d := 497) f1 a4 a5 q1 q2]
      have g : Qb σ (sF (sF σ 1 3 (.int x)) 0 11 (.int (nI 0))) := Ag_F (Ag_F Ag_r rfl) rfl
      exact Ev_s ⟨rfl, RC_b g hC ⟨⟨(by first | (simp only [HA, Nat.reduceEqDiff, false_and, and_false, and_self, reduceIte]; assumption) | assumption), (by first | (simp only [HA, Nat.reduceEqDiff, false_and, and_false, and_self, reduceIte]; assumption) | assumption)⟩, ⟨(by first | (simp only [HA, Nat.reduceEqDiff, false_and, and_false, and_self, reduceIte]; assumption) | assumption), (by first | (simp only [HA, Nat.reduceEqDiff, false_and, and_false, and_self, reduceIte]; assumption) | assumption), by simp only [HA, Nat.reduceEqDiff, false_and, and_self, reduceIte, hfx]⟩, (by first | (simp only [HA, Nat.reduceEqDiff, false_and, and_false, and_self, reduceIte]; assumption) | assumption), ⟨(by first | (simp only [HA, Nat.reduceEqDiff, false_and, and_false, and_self, reduceIte]; assumption) | assumption), (by first | (simp only [HA, Nat.reduceEqDiff, false_and, and_false, and_self, reduceIte]; assumption) | assumption)⟩, ⟨tq, b1, (by first | (simp only [HA, Nat.reduceEqDiff, false_and, and_false, and_self, reduceIte]; assumption) | assumption), (by first | (simp only [HA, Nat.reduceEqDiff, false_and, and_false, and_self, reduceIte]; assumption) | assumption), (by first | (simp only [HA, Nat.reduceEqDiff, false_and, and_false, and_self, reduceIte]; assumption) | assumption)⟩, fun i hi => LaC_b g (a9 i hi)⟩ ⟨(by first | (simp only [HA, Nat.reduceEqDiff, false_and, and_false, and_self, reduceIte]; assumption) | assumption), (by first | (simp only [HA, Nat.reduceEqDiff, false_and, and_false, and_self, reduceIte]; assumption) | assumption)⟩ ⟨by simp only [HA, and_self, reduceIte], (by first | (simp only [HA, Nat.reduceEqDiff, false_and, and_false, and_self, reduceIte]; assumption) | assumption), (by first | (simp only [HA, Nat.reduceEqDiff, false_and, and_false, and_self, reduceIte]; assumption) | assumption)⟩ (by first | (simp only [HA, Nat.reduceEqDiff, false_and, and_false, and_self, reduceIte]; assumption) | assumption), SaM_b g, Rm_2 (Rm_a g)⟩
    · rw [M_force (d := 497) F1 A4 w3 z, A5]
      have g : Qn ρ (sF (sF (sI ρ 59 (upd (hI ρ 59) 3 x)) 57 0 (.int (nI 0))) 57 1 (.int (nI 0))) := Ag_F (Ag_F (Ag_I Ag_r rfl) rfl) rfl
      have ag : ∀ y, ¬ y = 3 → hI (sF (sF (sI ρ 59 (upd (hI ρ 59) 3 x)) 57 0 (.int (nI 0))) 57 1 (.int (nI 0))) 59 y = hI ρ 59 y := fun y hy => by simp only [HA, reduceIte, ua]; rw [if_neg hy]
      exact Ev_s ⟨rfl, RM_n g hρ ⟨tH (fun y hy => ag y (by omega)) ⟨A1, A2⟩, ⟨by rw [ag 1 (by omega)]; exact A3, by rw [ag 2 (by omega)]; exact A4, by simp only [HA, reduceIte, ua, hfx]⟩, tR (fun y hy => ag y (by omega)) A6, tD w6.1 (fun y hy => ag y (by omega)) ⟨A7, A8⟩, tU w7.1 (fun y hy => ag y (by omega)) ⟨B3, B4⟩, tL (fun y hy => ag y (by omega)) A9⟩ ⟨(by first | (simp only [HA, Nat.reduceEqDiff, false_and, and_false, and_self, reduceIte]; assumption) | assumption), (by first | (simp only [HA, Nat.reduceEqDiff, false_and, and_false, and_self, reduceIte]; assumption) | assumption)⟩ ⟨by simp only [HA, and_self, reduceIte], (by first | (simp only [HA, Nat.reduceEqDiff, false_and, and_false, and_self, reduceIte]; assumption) | assumption), (by first | (simp only [HA, Nat.reduceEqDiff, false_and, and_false, and_self, reduceIte]; assumption) | assumption)⟩ (by first | (simp only [HA, Nat.reduceEqDiff, false_and, and_false, and_self, reduceIte]; assumption) | assumption), KM_n g⟩
  · have n1 : ¬ x = -1 := fun e => z (Or.inl e)
    have n2 : ¬ (nI 0 ≤ x ∧ ¬ nI nl ≤ x) := fun e => z (Or.inr e)
    have n3 : x < -1 ∨ nI nl ≤ x := by
      rcases tri x 2147483647 (by omega) with hx | ⟨k, hk, rfl⟩ | ⟨k, hk, hk2, rfl⟩
      · refine Or.inl ?_
        rw [Int32.lt_iff_toInt_lt] at hx ⊢
        rw [nI_toInt (by omega)] at hx
        have q : (-1 : Int32).toInt = -1 := by decide
        have n4 : x.toInt ≠ -1 := fun e => n1 (Int32.toInt_inj.mp (by rw [e, q]))
        omega
      · refine Or.inr (Classical.byContradiction fun n => n2 ⟨by rw [c_nle (by omega) (by omega)]; omega, n⟩)
      · omega
    exact Prf (k := 1) (w := -2) (by omega) hC hρ hW (by rw [C_force_no (d := 497) f1 a4 n3]; exact Ev_s ⟨rfl, rfl⟩) (by rw [M_force_no (d := 497) F1 A4 w3 n1 n2]; exact Ev_s ⟨rfl, rfl⟩)
end
