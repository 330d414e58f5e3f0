-- slots: 15 + 3455 + 53 + 22796
/-- how all begins -/
def R0 : AllT := ((4, (fun c => c / 28), 10, 0, none, (fun _ => 0), (0, (fun _ => 0), (fun _ => 0), (fun _ => 0)), (0, (fun _ => 0), (fun _ => 0)), (fun _ => L0)), (fun _ => none), (0, (fun _ => 0)), (nI 0, nI 0, -1), (fun _ => nI 0), (0, (fun _ => 0)))
theorem W0 : RW R0 := by
  refine ⟨⟨⟨by decide, by decide, fun c hc => ?_, fun c _ _ => rfl⟩, ⟨by decide, by decide⟩, ⟨by decide, fun i e => nomatch e⟩, fun e _ => Nat.zero_le _, ⟨Nat.zero_le _, fun k hk => absurd hk (Nat.not_lt_zero k)⟩, ⟨Nat.zero_le _, fun k hk => absurd hk (Nat.not_lt_zero k)⟩⟩, fun k S' _ e => (nomatch e), ⟨Nat.zero_le _, fun k hk => absurd hk (Nat.not_lt_zero k)⟩, Nat.zero_le _⟩
  show c / 28 < 4
  omega
section
variable {τ : Hp}
set_option maxRecDepth 20000 in
theorem I_FxC (mp : MidP τ) (s1 : StP τ 1) (s2 : StP τ 35) (s3 : StP τ 46) (hr : hR τ 12 0 = some 35 ∧ hR τ 12 1 = some 46) : FxC τ := by
  unfold MidP at mp
  unfold StP at s1 s2 s3
  simp only [Nat.reduceAdd] at s1 s2 s3
  unfold FxC
  simp only [mp, s1, s2, s3, hr, and_self]
theorem I_RC (mp : MidP τ) (s1 : StP τ 1) (s2 : StP τ 35) (s3 : StP τ 46) (hr : hR τ 12 0 = some 35 ∧ hR τ 12 1 = some 46) (h2 : ∀ c, c < 224 → hI τ 2 c = nI (c / 28)) : RC τ R0 ∧ RLw τ := by
  have fx := I_FxC mp s1 s2 s3 hr
  unfold MidP at mp
  unfold StP at s1 s2 s3
  simp only [Nat.reduceAdd] at s1 s2 s3
  have z : (0 : Int32) = nI 0 := nI_0.symm
  have i3 : hI τ 3 = fun _ => 0 := by simp only [s1]
  have i13 : hI τ 13 = fun _ => 0 := by simp only [mp]
  have i32 : hI τ 32 = fun _ => 0 := by simp only [mp]
  have i33 : hI τ 33 = fun _ => 0 := by simp only [mp]
  have i34 : hI τ 34 = fun _ => 0 := by simp only [mp]
  refine ⟨⟨fx, S1_SC.mp ⟨⟨by simp only [s1], h2⟩, ⟨by simp only [s1], by simp only [s1], by simp only [s1]; rfl⟩, fun e _ => by rw [i3]; exact z, ⟨by simp only [s1], fun k hk => absurd hk (Nat.not_lt_zero k)⟩, ⟨0, by decide, by simp only [s1], by simp only [s1], fun k hk => absurd hk (Nat.not_lt_zero k)⟩, fun k hk => absurd hk (Nat.not_lt_zero k)⟩, fun k _ => ⟨by rw [i13]; exact z, fun S' e => nomatch e⟩, ⟨by simp only [mp], fun k hk => absurd hk (Nat.not_lt_zero k)⟩, ⟨by simp only [mp], by simp only [mp], by simp only [mp]⟩, fun i _ => by rw [i34]; exact z, ⟨by simp only [mp], fun c _ => ⟨by rw [i32]; exact z, Nat.zero_lt_succ 7⟩, fun u _ => by rw [i33]; exact z⟩⟩, ?_⟩
  intro a ha i hi
  rcases ha with rfl | rfl | rfl
  · exact Or.inl (by simp only [s1])
  · exact Or.inl (by simp only [s2])
  · exact Or.inl (by simp only [s3])
theorem I_RM (mp : ModP τ) (h59 : ∀ y, hI τ 59 y = if 34 ≤ y ∧ y < 258 then nI ((y - 34) / 28) else (upd (upd (upd (fun _ => 0) 3 (-1)) 0 (nI 4)) 1 (nI 10)) y) (hf : ∀ j, (j = 1 ∨ j = 6 ∨ j = 8 ∨ j = 52) → hF τ 57 j = .int (nI 0)) : RM τ R0 := by
  obtain ⟨fm, m13, m58, m61, m68, m69⟩ := mp
  have z : (0 : Int32) = nI 0 := nI_0.symm
  have lo : ∀ y, y < 34 → hI τ 59 y = (upd (upd (upd (fun _ => 0) 3 (-1)) 0 (nI 4)) 1 (nI 10)) y := fun y hy => by rw [h59 y, if_neg (by omega)]
  refine ⟨fm, M1_SM.mp ⟨⟨by rw [lo 0 (by omega)]; rfl, fun c hc => ?_⟩, ⟨by rw [lo 1 (by omega)]; rfl, by rw [lo 2 (by omega)]; exact z, by rw [lo 3 (by omega)]; rfl⟩, fun e he => ?_, ⟨by rw [lo 4 (by omega)]; exact z, fun k hk => absurd hk (Nat.not_lt_zero k)⟩, ⟨by rw [lo 5 (by omega)]; exact z, fun k hk => absurd hk (Nat.not_lt_zero k)⟩, fun k hk => absurd hk (Nat.not_lt_zero k)⟩, fun k _ => ⟨by rw [m61]; exact z, fun S' e => nomatch e⟩, ⟨hf 8 (by omega), fun k hk => absurd hk (Nat.not_lt_zero k)⟩, ⟨hf 1 (by omega), hf 6 (by omega), m13⟩, fun i _ => by rw [m58]; exact z, ⟨hf 52 (by omega), fun k hk => absurd hk (Nat.not_lt_zero k)⟩, fun k hk => ?_, fun k hk => ?_⟩
  · rw [h59 (34 + c), if_pos (by omega), show 34 + c - 34 = c by omega]
  · rw [lo (6 + e) (by omega)]
    simp only [ua]
    rw [if_neg (by omega), if_neg (by omega), if_neg (by omega)]
    exact z
  · rw [m68]
    obtain rfl | rfl | rfl | rfl | rfl | rfl | rfl | rfl : k = 0 ∨ k = 1 ∨ k = 2 ∨ k = 3 ∨ k = 4 ∨ k = 5 ∨ k = 6 ∨ k = 7 := by omega
    all_goals rfl
  · rw [m69]
    obtain rfl | rfl | rfl | rfl | rfl : k = 0 ∨ k = 1 ∨ k = 2 ∨ k = 3 ∨ k = 4 := by omega
    all_goals rfl
end
theorem mB_0 : mxB 12 1 = .int (nI 0) ∧ mxB 12 6 = .int (nI 0) ∧ mxB 12 8 = .int (nI 0) ∧ mxB 12 52 = .int (nI 0) := ⟨rfl, rfl, rfl, rfl⟩
set_option maxRecDepth 20000 in
theorem law_goal : LawGoal := by
  intro L xs hL
  obtain ⟨d, hd⟩ : ∃ d, 500 = d + 6 := ⟨494, rfl⟩
  have n0 : hN (sg0 (L, xs)) = 0 := rfl
  have n1 : hN (nO (sg0 (L, xs)) 11 15 (mxB 11)) = 1 := rfl
  have k1 : kd (nO (sg0 (L, xs)) 11 15 (mxB 11)) 0 = 11 := by rw [kd_nO, if_pos n0.symm]
  obtain ⟨τ, e1, mp, ⟨p1, p2, p3⟩, i2, hr, ⟨n2, s2, x2⟩⟩ := C_init (d := d) n1 k1
  have n3 : hN (nO τ 12 53 (mxB 12)) = 58 := by rw [hN_nO, n2]
  have k3 : kd (nO τ 12 53 (mxB 12)) 57 = 12 := by rw [kd_nO, if_pos n2.symm]
  obtain ⟨_, υ, e2, rfl, mo, h59, ⟨n4, s4, x4⟩, kq, hf, hr2⟩ := M_init (d := d + 3) n3 k3
  have kk : Kq 0 57 τ υ := Kq_t (Kq_O Kq_r (by omega)) kq
  have mp' : MidP υ := MidP_k (Kq_w kk (Nat.le_refl _) (by omega)) mp
  have hr' : hR υ 12 0 = some 35 ∧ hR υ 12 1 = some 46 := by rw [hr2]; exact hr
  have i2' : ∀ c, c < 224 → hI υ 2 c = nI (c / 28) := fun c hc => by rw [(kk 2 (by omega) (by omega)).2.2.1.1]; exact i2 c hc
  obtain ⟨rc, rl⟩ := I_RC mp' (StP_k kk (Nat.zero_le _) (by omega) (by omega) p1) (StP_k kk (Nat.zero_le _) (by omega) (by omega) p2) (StP_k kk (Nat.zero_le _) (by omega) (by omega) p3) hr' i2'
  have ff : ∀ j, hF (nO τ 12 53 (mxB 12)) 57 j = mxB 12 j := fun j => by rw [hF_nO, if_pos n2.symm]
  have rm : RM υ R0 := I_RM mo h59 (fun j hj => by
    rw [hf j hj, ff]
    rcases hj with rfl | rfl | rfl | rfl
    · exact mB_0.1
    · exact mB_0.2.1
    · exact mB_0.2.2.1
    · exact mB_0.2.2.2)
  have hx : hX υ = (L, xs) := by rw [x4, hX_nO, x2]; rfl
  have h0 : hS (nO (sg0 (L, xs)) 11 15 (mxB 11)) = 15 := by rw [hS_nO]; rfl
  have hs : hS υ ≤ 26319 + 1025 * 0 := by rw [s4, hS_nO, s2, h0]; omega
  obtain ⟨ω, f1, f2⟩ := Lall (L := L) (xs := xs) 26319 (by omega) hL (L + 6) 0 υ R0 (by omega) (by omega) rc rm W0 rl hx (by omega) hs
  refine ⟨ω, ?_, f2⟩
  rw [← f1, hd]
  simp (disch := omega) only [a227_0, a227_3, a227_4, a227_7, a227_8, a227_11, a227_12, a227_15, a227_16, a227_17, n0, k1, k3, e1, e2, n2, CO, HA, HB, HC, Nat.not_lt_zero, Nat.add_assoc, c_nlt, c_nle, c_neq, c_P, c_cl, c_m1, c_m1', nI_add, pk_mul, reduceIte, Nat.reduceEqDiff, Nat.reduceAdd, Nat.reduceMul, Nat.reduceLeDiff, eq_self]
