/-! bundles for simp, small facts on numbers -/
theorem it_t {a b : Option Rs} : (if True then a else b) = a := if_pos trivial
theorem it_f {a b : Option Rs} : (if False then a else b) = b := if_neg id
theorem bd_s {r : Rs} {k : Rs → Option Rs} : (some r).bind k = k r := rfl
theorem bd_n {k : Rs → Option Rs} : (none : Option Rs).bind k = none := rfl
theorem tl_s {v : Value} {l : List Value} : (some v).toList ++ l = v :: l := rfl
theorem tl_n {l : List Value} : (none : Option Value).toList ++ l = l := rfl
theorem n_01 : (nI 0 = nI 1) = False := by simp only [eq_iff_iff, iff_false]; decide
theorem n_10 : (nI 1 = nI 0) = False := by simp only [eq_iff_iff, iff_false]; decide
theorem un_i {x : Int32} : unL (.int x) = .int x := rfl
theorem un_r {x : Nat} : unL (.ref x) = .ref x := rfl
theorem un_n : unL .null = .null := rfl
theorem un_t {x : Nat} : unL (.retAddr x) = .retAddr x := rfl
theorem un_f : unL (.float 0) = .float 0 := rfl
theorem un_l {x : Int64} : unL (.long x) = .float 0 := rfl
def CO := And.intro @it_t (And.intro @it_f (And.intro @bd_s (And.intro @bd_n (And.intro @tl_s (And.intro @tl_n (And.intro @true_and (And.intro @and_true (And.intro @false_and (And.intro @and_false (And.intro @true_or (And.intro @or_true (And.intro @false_or (And.intro @or_false (And.intro @not_true_eq_false (And.intro @not_false_eq_true (And.intro n_01 (And.intro n_10 (And.intro @un_i (And.intro @un_r (And.intro un_n (And.intro @un_t (And.intro un_f @un_l))))))))))))))))))))))
/-- a number below 0, above n, or one of 0 .. n -/
theorem three (x : Int32) {n : Nat} (hn : n < 2 ^ 31) : x < nI 0 ∨ nI n < x ∨ ∃ k, k ≤ n ∧ x = nI k := by
  by_cases h0 : x < nI 0
  · exact Or.inl h0
  · by_cases h1 : nI n < x
    · exact Or.inr (Or.inl h1)
    · refine Or.inr (Or.inr ?_)
      obtain ⟨j, hj, e⟩ := nI_of2 (M := nI n) (nI_toInt hn) h0 (Int32.not_lt.mp h1)
      exact ⟨j, hj, e⟩
theorem c_nlt {a b : Nat} (ha : a < 2 ^ 31) (hb : b < 2 ^ 31) : (nI a < nI b) = (a < b) := by rw [eq_iff_iff]; exact nI_ltI ha hb
theorem c_nle {a b : Nat} (ha : a < 2 ^ 31) (hb : b < 2 ^ 31) : (nI a ≤ nI b) = (a ≤ b) := by rw [eq_iff_iff]; exact nI_leI ha hb
theorem c_neq {a b : Nat} (ha : a < 2 ^ 31) (hb : b < 2 ^ 31) : (nI a = nI b) = (a = b) := by rw [eq_iff_iff]; exact nI_eq ha hb
theorem c_P {a n : Nat} (h : a < n) (hn : n < 2 ^ 31) : mxP (nI a) n = True := by rw [eq_iff_iff, iff_true]; exact mxP_nI h hn
theorem c_cl {a : Nat} (h : a < 2 ^ 31) : (nI a).toNatClampNeg = a := nI_clamp h
theorem c_m1 {a : Nat} (h : a < 2 ^ 31) : ((-1 : Int32) = nI a) = False := by
  rw [eq_iff_iff, iff_false]
  intro e
  have := congrArg Int32.toInt e
  rw [nI_toInt h] at this
  have h2 : (-1 : Int32).toInt = -1 := by decide
  omega
theorem c_m1' {a : Nat} (h : a < 2 ^ 31) : (nI a = (-1 : Int32)) = False := by
  rw [eq_iff_iff, iff_false]
  intro e
  exact (Eq.mp (c_m1 h) e.symm)
