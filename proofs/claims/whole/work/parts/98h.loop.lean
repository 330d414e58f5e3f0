/-! the law's cases -/
theorem hXd {x : Fr} {r : Rs} (h : den x = some r) : hX r.2 = hX x.2.2.2.2.2 := (snd_den ((fun _ => 0, fun _ _ => 0), fun _ => 0) (0, 0, fun _ => 0) h).1.1
section
variable {d i L : Nat} {xs : Nat → Int32} {σ : Hp} {Q : Hp → Prop}
theorem Lc_terms (x1 : (hX σ).1 = L) (x2 : (hX σ).2 = xs) (hi : i + 6 ≤ L) (hL : L ≤ 3072) (k0 : kd σ 0 = 11) (h : Pr (fun σ => (d, 83, 0, [.ref 0, .int (xs (i + 1)), .int (xs (i + 2)), .float 0], [], σ)) (fun σ => (d, 142, 0, [.ref 57, .int (xs (i + 1)), .int (xs (i + 2)), .float 0, .float 0, .float 0, .float 0], [], σ)) σ Q) : ∃ υ, den (d + 1, 227, 192, [.retAddr 0, .ref 0, .ref 57, .int (nI i)], [], σ) = den (d + 1, 227, 18, [.retAddr 0, .ref 0, .ref 57, .int (nI (i + 6))], [], υ) ∧ Q υ := by
  obtain ⟨r, τ, υ, e1, e2, q⟩ := h
  have xx := hXd e1
  have y1 : (hX τ).1 = L := by rw [show hX τ = hX σ from xx]; exact x1
  have y2 : (hX τ).2 = xs := by rw [show hX τ = hX σ from xx]; exact x2
  have k57 : kd τ 57 = 12 := by
    refine Classical.byContradiction (fun z => ?_)
    rw [a142_0, a142_1, a142_2, if_neg z] at e2
    exact nomatch e2
  refine ⟨υ, ?_, q⟩
  simp (disch := omega) only [a227_192, a227_193T, a227_194, a227_195, a227_196, a227_197T, a227_198T, a227_199, a227_200, a227_201, a227_202T, a227_203, a227_206, a227_207T, a227_208, a227_209, a227_210, a227_211T, a227_212T, a227_213, a227_214, a227_215, a227_216T, a227_217, a227_220, a227_1250, a227_1253, x1, x2, y1, y2, k0, k57, e1, e2, CO, HA, HB, HC, Nat.not_lt_zero, Nat.add_assoc, c_nlt, c_nle, c_neq, c_P, c_cl, c_m1, c_m1', nI_add, pk_mul, reduceIte, Nat.reduceEqDiff, Nat.reduceAdd, Nat.reduceMul, Nat.reduceLeDiff, eq_self]
theorem Lc_rain (x1 : (hX σ).1 = L) (x2 : (hX σ).2 = xs) (hi : i + 6 ≤ L) (hL : L ≤ 3072) (k0 : kd σ 0 = 11) (h : Pr (fun σ => (d, 84, 0, [.ref 0, .int (xs (i + 1)), .int (xs (i + 2)), .float 0], [], σ)) (fun σ => (d, 143, 0, [.ref 57, .int (xs (i + 1)), .int (xs (i + 2)), .float 0], [], σ)) σ Q) : ∃ υ, den (d + 1, 227, 225, [.retAddr 0, .ref 0, .ref 57, .int (nI i)], [], σ) = den (d + 1, 227, 18, [.retAddr 0, .ref 0, .ref 57, .int (nI (i + 6))], [], υ) ∧ Q υ := by
  obtain ⟨r, τ, υ, e1, e2, q⟩ := h
  have xx := hXd e1
  have y1 : (hX τ).1 = L := by rw [show hX τ = hX σ from xx]; exact x1
  have y2 : (hX τ).2 = xs := by rw [show hX τ = hX σ from xx]; exact x2
  have k57 : kd τ 57 = 12 := by
    refine Classical.byContradiction (fun z => ?_)
    rw [a143_0, a143_1, a143_2, if_neg z] at e2
    exact nomatch e2
  refine ⟨υ, ?_, q⟩
  simp (disch := omega) only [a227_225, a227_226T, a227_227, a227_228, a227_229, a227_230T, a227_231T, a227_232, a227_233, a227_234, a227_235T, a227_236, a227_239, a227_240T, a227_241, a227_242, a227_243, a227_244T, a227_245T, a227_246, a227_247, a227_248, a227_249T, a227_250, a227_253, a227_1250, a227_1253, x1, x2, y1, y2, k0, k57, e1, e2, CO, HA, HB, HC, Nat.not_lt_zero, Nat.add_assoc, c_nlt, c_nle, c_neq, c_P, c_cl, c_m1, c_m1', nI_add, pk_mul, reduceIte, Nat.reduceEqDiff, Nat.reduceAdd, Nat.reduceMul, Nat.reduceLeDiff, eq_self]
theorem Lc_feed (x1 : (hX σ).1 = L) (x2 : (hX σ).2 = xs) (hi : i + 6 ≤ L) (hL : L ≤ 3072) (k0 : kd σ 0 = 11) (h : Pr (fun σ => (d, 85, 0, [.ref 0, .int (xs (i + 1)), .int (xs (i + 2)), .int (xs (i + 3)), .int (xs (i + 4)), .int (xs (i + 5))], [], σ)) (fun σ => (d, 147, 0, [.ref 57, .int (xs (i + 1)), .int (xs (i + 2)), .int (xs (i + 3)), .int (xs (i + 4)), .int (xs (i + 5))], [], σ)) σ Q) : ∃ υ, den (d + 1, 227, 258, [.retAddr 0, .ref 0, .ref 57, .int (nI i)], [], σ) = den (d + 1, 227, 18, [.retAddr 0, .ref 0, .ref 57, .int (nI (i + 6))], [], υ) ∧ Q υ := by
  obtain ⟨r, τ, υ, e1, e2, q⟩ := h
  have xx := hXd e1
  have y1 : (hX τ).1 = L := by rw [show hX τ = hX σ from xx]; exact x1
  have y2 : (hX τ).2 = xs := by rw [show hX τ = hX σ from xx]; exact x2
  have k57 : kd τ 57 = 12 := by
    refine Classical.byContradiction (fun z => ?_)
    rw [a147_0, a147_1, a147_2, if_neg z] at e2
    exact nomatch e2
  refine ⟨υ, ?_, q⟩
  simp (disch := omega) only [a227_258, a227_259T, a227_260, a227_261, a227_262, a227_263T, a227_264T, a227_265, a227_266, a227_267, a227_268T, a227_269T, a227_270, a227_271, a227_272, a227_273T, a227_274T, a227_275, a227_276, a227_277, a227_278T, a227_279T, a227_280, a227_281, a227_282, a227_283T, a227_284, a227_287, a227_288T, a227_289, a227_290, a227_291, a227_292T, a227_293T, a227_294, a227_295, a227_296, a227_297T, a227_298T, a227_299, a227_300, a227_301, a227_302T, a227_303T, a227_304, a227_305, a227_306, a227_307T, a227_308T, a227_309, a227_310, a227_311, a227_312T, a227_313, a227_316, a227_1250, a227_1253, x1, x2, y1, y2, k0, k57, e1, e2, CO, HA, HB, HC, Nat.not_lt_zero, Nat.add_assoc, c_nlt, c_nle, c_neq, c_P, c_cl, c_m1, c_m1', nI_add, pk_mul, reduceIte, Nat.reduceEqDiff, Nat.reduceAdd, Nat.reduceMul, Nat.reduceLeDiff, eq_self]
theorem Lc_end (x1 : (hX σ).1 = L) (x2 : (hX σ).2 = xs) (hi : i + 6 ≤ L) (hL : L ≤ 3072) (k0 : kd σ 0 = 11) (h : Pr (fun σ => (d, 86, 0, [.ref 0, .int (xs (i + 1))], [], σ)) (fun σ => (d, 148, 0, [.ref 57, .int (xs (i + 1))], [], σ)) σ Q) : ∃ υ, den (d + 1, 227, 321, [.retAddr 0, .ref 0, .ref 57, .int (nI i)], [], σ) = den (d + 1, 227, 18, [.retAddr 0, .ref 0, .ref 57, .int (nI (i + 6))], [], υ) ∧ Q υ := by
  obtain ⟨r, τ, υ, e1, e2, q⟩ := h
  have xx := hXd e1
  have y1 : (hX τ).1 = L := by rw [show hX τ = hX σ from xx]; exact x1
  have y2 : (hX τ).2 = xs := by rw [show hX τ = hX σ from xx]; exact x2
  have k57 : kd τ 57 = 12 := by
    refine Classical.byContradiction (fun z => ?_)
    rw [a148_0, a148_1, a148_2, if_neg z] at e2
    exact nomatch e2
  refine ⟨υ, ?_, q⟩
  simp (disch := omega) only [a227_321, a227_322T, a227_323, a227_324, a227_325, a227_326T, a227_327, a227_330, a227_331T, a227_332, a227_333, a227_334, a227_335T, a227_336, a227_339, a227_1250, a227_1253, x1, x2, y1, y2, k0, k57, e1, e2, CO, HA, HB, HC, Nat.not_lt_zero, Nat.add_assoc, c_nlt, c_nle, c_neq, c_P, c_cl, c_m1, c_m1', nI_add, pk_mul, reduceIte, Nat.reduceEqDiff, Nat.reduceAdd, Nat.reduceMul, Nat.reduceLeDiff, eq_self]
theorem Lc_row (x1 : (hX σ).1 = L) (x2 : (hX σ).2 = xs) (hi : i + 6 ≤ L) (hL : L ≤ 3072) (k0 : kd σ 0 = 11) (h : Pr (fun σ => (d, 87, 0, [.ref 0, .float 0, .float 0, .float 0, .float 0], [], σ)) (fun σ => (d, 144, 0, [.ref 57, .float 0, .float 0, .float 0], [], σ)) σ Q) : ∃ υ, den (d + 1, 227, 344, [.retAddr 0, .ref 0, .ref 57, .int (nI i)], [], σ) = den (d + 1, 227, 18, [.retAddr 0, .ref 0, .ref 57, .int (nI (i + 6))], [], υ) ∧ Q υ := by
  obtain ⟨r, τ, υ, e1, e2, q⟩ := h
  have xx := hXd e1
  have y1 : (hX τ).1 = L := by rw [show hX τ = hX σ from xx]; exact x1
  have y2 : (hX τ).2 = xs := by rw [show hX τ = hX σ from xx]; exact x2
  have k57 : kd τ 57 = 12 := by
    refine Classical.byContradiction (fun z => ?_)
    rw [a144_0, a144_1, a144_2, if_neg z] at e2
    exact nomatch e2
  refine ⟨υ, ?_, q⟩
  simp (disch := omega) only [a227_344, a227_345, a227_348, a227_349, a227_352, a227_1250, a227_1253, x1, x2, y1, y2, k0, k57, e1, e2, CO, HA, HB, HC, Nat.not_lt_zero, Nat.add_assoc, c_nlt, c_nle, c_neq, c_P, c_cl, c_m1, c_m1', nI_add, pk_mul, reduceIte, Nat.reduceEqDiff, Nat.reduceAdd, Nat.reduceMul, Nat.reduceLeDiff, eq_self]
theorem Lc_fog (x1 : (hX σ).1 = L) (x2 : (hX σ).2 = xs) (hi : i + 6 ≤ L) (hL : L ≤ 3072) (k0 : kd σ 0 = 11) (h : Pr (fun σ => (d, 88, 0, [.ref 0], [], σ)) (fun σ => (d, 145, 0, [.ref 57], [], σ)) σ Q) : ∃ υ, den (d + 1, 227, 357, [.retAddr 0, .ref 0, .ref 57, .int (nI i)], [], σ) = den (d + 1, 227, 18, [.retAddr 0, .ref 0, .ref 57, .int (nI (i + 6))], [], υ) ∧ Q υ := by
  obtain ⟨r, τ, υ, e1, e2, q⟩ := h
  have xx := hXd e1
  have y1 : (hX τ).1 = L := by rw [show hX τ = hX σ from xx]; exact x1
  have y2 : (hX τ).2 = xs := by rw [show hX τ = hX σ from xx]; exact x2
  have k57 : kd τ 57 = 12 := by
    refine Classical.byContradiction (fun z => ?_)
    rw [a145_0, a145_1, a145_2, if_neg z] at e2
    exact nomatch e2
  refine ⟨υ, ?_, q⟩
  simp (disch := omega) only [a227_357, a227_358, a227_361, a227_362, a227_365, a227_1250, a227_1253, x1, x2, y1, y2, k0, k57, e1, e2, CO, HA, HB, HC, Nat.not_lt_zero, Nat.add_assoc, c_nlt, c_nle, c_neq, c_P, c_cl, c_m1, c_m1', nI_add, pk_mul, reduceIte, Nat.reduceEqDiff, Nat.reduceAdd, Nat.reduceMul, Nat.reduceLeDiff, eq_self]
theorem Lc_law (x1 : (hX σ).1 = L) (x2 : (hX σ).2 = xs) (hi : i + 6 ≤ L) (hL : L ≤ 3072) (k0 : kd σ 0 = 11) (h : Pr (fun σ => (d, 89, 0, [.ref 0, .float 0], [], σ)) (fun σ => (d, 172, 0, [.ref 57, .float 0, .float 0], [], σ)) σ Q) : ∃ υ, den (d + 1, 227, 370, [.retAddr 0, .ref 0, .ref 57, .int (nI i)], [], σ) = den (d + 1, 227, 18, [.retAddr 0, .ref 0, .ref 57, .int (nI (i + 6))], [], υ) ∧ Q υ := by
  obtain ⟨r, τ, υ, e1, e2, q⟩ := h
  have xx := hXd e1
  have y1 : (hX τ).1 = L := by rw [show hX τ = hX σ from xx]; exact x1
  have y2 : (hX τ).2 = xs := by rw [show hX τ = hX σ from xx]; exact x2
  have k57 : kd τ 57 = 12 := by
    refine Classical.byContradiction (fun z => ?_)
    rw [a172_0, a172_1, a172_2, if_neg z] at e2
    exact nomatch e2
  refine ⟨υ, ?_, q⟩
  simp (disch := omega) only [a227_370, a227_371, a227_374, a227_375, a227_378, a227_1250, a227_1253, x1, x2, y1, y2, k0, k57, e1, e2, CO, HA, HB, HC, Nat.not_lt_zero, Nat.add_assoc, c_nlt, c_nle, c_neq, c_P, c_cl, c_m1, c_m1', nI_add, pk_mul, reduceIte, Nat.reduceEqDiff, Nat.reduceAdd, Nat.reduceMul, Nat.reduceLeDiff, eq_self]
theorem Lc_fault (x1 : (hX σ).1 = L) (x2 : (hX σ).2 = xs) (hi : i + 6 ≤ L) (hL : L ≤ 3072) (k0 : kd σ 0 = 11) (h : Pr (fun σ => (d, 90, 0, [.ref 0], [], σ)) (fun σ => (d, 156, 0, [.ref 57], [], σ)) σ Q) : ∃ υ, den (d + 1, 227, 383, [.retAddr 0, .ref 0, .ref 57, .int (nI i)], [], σ) = den (d + 1, 227, 18, [.retAddr 0, .ref 0, .ref 57, .int (nI (i + 6))], [], υ) ∧ Q υ := by
  obtain ⟨r, τ, υ, e1, e2, q⟩ := h
  have xx := hXd e1
  have y1 : (hX τ).1 = L := by rw [show hX τ = hX σ from xx]; exact x1
  have y2 : (hX τ).2 = xs := by rw [show hX τ = hX σ from xx]; exact x2
  have k57 : kd τ 57 = 12 := by
    refine Classical.byContradiction (fun z => ?_)
    rw [a156_0, a156_1, a156_2, if_neg z] at e2
    exact nomatch e2
  refine ⟨υ, ?_, q⟩
  simp (disch := omega) only [a227_383, a227_384, a227_387, a227_388, a227_391, a227_1250, a227_1253, x1, x2, y1, y2, k0, k57, e1, e2, CO, HA, HB, HC, Nat.not_lt_zero, Nat.add_assoc, c_nlt, c_nle, c_neq, c_P, c_cl, c_m1, c_m1', nI_add, pk_mul, reduceIte, Nat.reduceEqDiff, Nat.reduceAdd, Nat.reduceMul, Nat.reduceLeDiff, eq_self]
theorem Lc_force (x1 : (hX σ).1 = L) (x2 : (hX σ).2 = xs) (hi : i + 6 ≤ L) (hL : L ≤ 3072) (k0 : kd σ 0 = 11) (h : Pr (fun σ => (d, 91, 0, [.ref 0, .int (xs (i + 1)), .float 0], [], σ)) (fun σ => (d, 173, 0, [.ref 57, .int (xs (i + 1)), .float 0], [], σ)) σ Q) : ∃ υ, den (d + 1, 227, 396, [.retAddr 0, .ref 0, .ref 57, .int (nI i)], [], σ) = den (d + 1, 227, 18, [.retAddr 0, .ref 0, .ref 57, .int (nI (i + 6))], [], υ) ∧ Q υ := by
  obtain ⟨r, τ, υ, e1, e2, q⟩ := h
  have xx := hXd e1
  have y1 : (hX τ).1 = L := by rw [show hX τ = hX σ from xx]; exact x1
  have y2 : (hX τ).2 = xs := by rw [show hX τ = hX σ from xx]; exact x2
  have k57 : kd τ 57 = 12 := by
    refine Classical.byContradiction (fun z => ?_)
    rw [a173_0, a173_1, a173_2, if_neg z] at e2
    exact nomatch e2
  refine ⟨υ, ?_, q⟩
  simp (disch := omega) only [a227_396, a227_397T, a227_398, a227_399, a227_400, a227_401T, a227_402, a227_405, a227_406T, a227_407, a227_408, a227_409, a227_410T, a227_411, a227_414, a227_1250, a227_1253, x1, x2, y1, y2, k0, k57, e1, e2, CO, HA, HB, HC, Nat.not_lt_zero, Nat.add_assoc, c_nlt, c_nle, c_neq, c_P, c_cl, c_m1, c_m1', nI_add, pk_mul, reduceIte, Nat.reduceEqDiff, Nat.reduceAdd, Nat.reduceMul, Nat.reduceLeDiff, eq_self]
theorem Lc_of (x1 : (hX σ).1 = L) (x2 : (hX σ).2 = xs) (hi : i + 6 ≤ L) (hL : L ≤ 3072) (k0 : kd σ 0 = 11) (h : Pr (fun σ => (d, 92, 0, [.ref 0, .int (xs (i + 1)), .int (xs (i + 2)), .int (xs (i + 3)), .int (xs (i + 4))], [], σ)) (fun σ => (d, 184, 0, [.ref 57, .int (xs (i + 1)), .int (xs (i + 2)), .int (xs (i + 3)), .int (xs (i + 4)), .float 0], [], σ)) σ Q) : ∃ υ, den (d + 1, 227, 419, [.retAddr 0, .ref 0, .ref 57, .int (nI i)], [], σ) = den (d + 1, 227, 18, [.retAddr 0, .ref 0, .ref 57, .int (nI (i + 6))], [], υ) ∧ Q υ := by
  obtain ⟨r, τ, υ, e1, e2, q⟩ := h
  have xx := hXd e1
  have y1 : (hX τ).1 = L := by rw [show hX τ = hX σ from xx]; exact x1
  have y2 : (hX τ).2 = xs := by rw [show hX τ = hX σ from xx]; exact x2
  have k57 : kd τ 57 = 12 := by
    refine Classical.byContradiction (fun z => ?_)
    rw [a184_0, a184_1, a184_2, if_neg z] at e2
    exact nomatch e2
  refine ⟨υ, ?_, q⟩
  simp (disch := omega) only [a227_419, a227_420T, a227_421, a227_422, a227_423, a227_424T, a227_425T, a227_426, a227_427, a227_428, a227_429T, a227_430T, a227_431, a227_432, a227_433, a227_434T, a227_435T, a227_436, a227_437, a227_438, a227_439T, a227_440, a227_443, a227_444T, a227_445, a227_446, a227_447, a227_448T, a227_449T, a227_450, a227_451, a227_452, a227_453T, a227_454T, a227_455, a227_456, a227_457, a227_458T, a227_459T, a227_460, a227_461, a227_462, a227_463T, a227_464, a227_467, a227_1250, a227_1253, x1, x2, y1, y2, k0, k57, e1, e2, CO, HA, HB, HC, Nat.not_lt_zero, Nat.add_assoc, c_nlt, c_nle, c_neq, c_P, c_cl, c_m1, c_m1', nI_add, pk_mul, reduceIte, Nat.reduceEqDiff, Nat.reduceAdd, Nat.reduceMul, Nat.reduceLeDiff, eq_self]
theorem Lc_lend (x1 : (hX σ).1 = L) (x2 : (hX σ).2 = xs) (hi : i + 6 ≤ L) (hL : L ≤ 3072) (k0 : kd σ 0 = 11) (h : Pr (fun σ => (d, 93, 0, [.ref 0, .int (xs (i + 1)), .int (xs (i + 2)), .int (xs (i + 3)), .float 0], [], σ)) (fun σ => (d, 186, 0, [.ref 57, .int (xs (i + 1)), .int (xs (i + 2)), .int (xs (i + 3)), .float 0], [], σ)) σ Q) : ∃ υ, den (d + 1, 227, 472, [.retAddr 0, .ref 0, .ref 57, .int (nI i)], [], σ) = den (d + 1, 227, 18, [.retAddr 0, .ref 0, .ref 57, .int (nI (i + 6))], [], υ) ∧ Q υ := by
  obtain ⟨r, τ, υ, e1, e2, q⟩ := h
  have xx := hXd e1
  have y1 : (hX τ).1 = L := by rw [show hX τ = hX σ from xx]; exact x1
  have y2 : (hX τ).2 = xs := by rw [show hX τ = hX σ from xx]; exact x2
  have k57 : kd τ 57 = 12 := by
    refine Classical.byContradiction (fun z => ?_)
    rw [a186_0, a186_1, a186_2, if_neg z] at e2
    exact nomatch e2
  refine ⟨υ, ?_, q⟩
  simp (disch := omega) only [a227_472, a227_473T, a227_474, a227_475, a227_476, a227_477T, a227_478T, a227_479, a227_480, a227_481, a227_482T, a227_483T, a227_484, a227_485, a227_486, a227_487T, a227_488, a227_491, a227_492T, a227_493, a227_494, a227_495, a227_496T, a227_497T, a227_498, a227_499, a227_500, a227_501T, a227_502T, a227_503, a227_504, a227_505, a227_506T, a227_507, a227_510, a227_1250, a227_1253, x1, x2, y1, y2, k0, k57, e1, e2, CO, HA, HB, HC, Nat.not_lt_zero, Nat.add_assoc, c_nlt, c_nle, c_neq, c_P, c_cl, c_m1, c_m1', nI_add, pk_mul, reduceIte, Nat.reduceEqDiff, Nat.reduceAdd, Nat.reduceMul, Nat.reduceLeDiff, eq_self]
theorem Lc_home (x1 : (hX σ).1 = L) (x2 : (hX σ).2 = xs) (hi : i + 6 ≤ L) (hL : L ≤ 3072) (k0 : kd σ 0 = 11) (h : Pr (fun σ => (d, 94, 0, [.ref 0, .int (xs (i + 1)), .int (xs (i + 2)), .float 0], [], σ)) (fun σ => (d, 187, 0, [.ref 57, .int (xs (i + 1)), .int (xs (i + 2)), .float 0], [], σ)) σ Q) : ∃ υ, den (d + 1, 227, 515, [.retAddr 0, .ref 0, .ref 57, .int (nI i)], [], σ) = den (d + 1, 227, 18, [.retAddr 0, .ref 0, .ref 57, .int (nI (i + 6))], [], υ) ∧ Q υ := by
  obtain ⟨r, τ, υ, e1, e2, q⟩ := h
  have xx := hXd e1
  have y1 : (hX τ).1 = L := by rw [show hX τ = hX σ from xx]; exact x1
  have y2 : (hX τ).2 = xs := by rw [show hX τ = hX σ from xx]; exact x2
  have k57 : kd τ 57 = 12 := by
    refine Classical.byContradiction (fun z => ?_)
    rw [a187_0, a187_1, a187_2, if_neg z] at e2
    exact nomatch e2
  refine ⟨υ, ?_, q⟩
  simp (disch := omega) only [a227_515, a227_516T, a227_517, a227_518, a227_519, a227_520T, a227_521T, a227_522, a227_523, a227_524, a227_525T, a227_526, a227_529, a227_530T, a227_531, a227_532, a227_533, a227_534T, a227_535T, a227_536, a227_537, a227_538, a227_539T, a227_540, a227_543, a227_1250, a227_1253, x1, x2, y1, y2, k0, k57, e1, e2, CO, HA, HB, HC, Nat.not_lt_zero, Nat.add_assoc, c_nlt, c_nle, c_neq, c_P, c_cl, c_m1, c_m1', nI_add, pk_mul, reduceIte, Nat.reduceEqDiff, Nat.reduceAdd, Nat.reduceMul, Nat.reduceLeDiff, eq_self]
theorem Lc_undo (x1 : (hX σ).1 = L) (x2 : (hX σ).2 = xs) (hi : i + 6 ≤ L) (hL : L ≤ 3072) (k0 : kd σ 0 = 11) (h : Pr (fun σ => (d, 95, 0, [.ref 0], [], σ)) (fun σ => (d, 188, 0, [.ref 57, .float 0], [], σ)) σ Q) : ∃ υ, den (d + 1, 227, 548, [.retAddr 0, .ref 0, .ref 57, .int (nI i)], [], σ) = den (d + 1, 227, 18, [.retAddr 0, .ref 0, .ref 57, .int (nI (i + 6))], [], υ) ∧ Q υ := by
  obtain ⟨r, τ, υ, e1, e2, q⟩ := h
  have xx := hXd e1
  have y1 : (hX τ).1 = L := by rw [show hX τ = hX σ from xx]; exact x1
  have y2 : (hX τ).2 = xs := by rw [show hX τ = hX σ from xx]; exact x2
  have k57 : kd τ 57 = 12 := by
    refine Classical.byContradiction (fun z => ?_)
    rw [a188_0, a188_1, a188_2, if_neg z] at e2
    exact nomatch e2
  refine ⟨υ, ?_, q⟩
  simp (disch := omega) only [a227_548, a227_549, a227_552, a227_553, a227_556, a227_1250, a227_1253, x1, x2, y1, y2, k0, k57, e1, e2, CO, HA, HB, HC, Nat.not_lt_zero, Nat.add_assoc, c_nlt, c_nle, c_neq, c_P, c_cl, c_m1, c_m1', nI_add, pk_mul, reduceIte, Nat.reduceEqDiff, Nat.reduceAdd, Nat.reduceMul, Nat.reduceLeDiff, eq_self]
theorem Lc_live (x1 : (hX σ).1 = L) (x2 : (hX σ).2 = xs) (hi : i + 6 ≤ L) (hL : L ≤ 3072) (k0 : kd σ 0 = 11) (h : Pr (fun σ => (d, 96, 0, [.ref 0, .int (xs (i + 1)), .int (xs (i + 2)), .int (xs (i + 3)), .float 0, .float 0], [], σ)) (fun σ => (d, 190, 0, [.ref 57, .int (xs (i + 1)), .int (xs (i + 2)), .int (xs (i + 3))], [], σ)) σ Q) : ∃ υ, den (d + 1, 227, 561, [.retAddr 0, .ref 0, .ref 57, .int (nI i)], [], σ) = den (d + 1, 227, 18, [.retAddr 0, .ref 0, .ref 57, .int (nI (i + 6))], [], υ) ∧ Q υ := by
  obtain ⟨r, τ, υ, e1, e2, q⟩ := h
  have xx := hXd e1
  have y1 : (hX τ).1 = L := by rw [show hX τ = hX σ from xx]; exact x1
  have y2 : (hX τ).2 = xs := by rw [show hX τ = hX σ from xx]; exact x2
  have k57 : kd τ 57 = 12 := by
    refine Classical.byContradiction (fun z => ?_)
    rw [a190_0, a190_1, a190_2, if_neg z] at e2
    exact nomatch e2
  refine ⟨υ, ?_, q⟩
  simp (disch := omega) only [a227_561, a227_562T, a227_563, a227_564, a227_565, a227_566T, a227_567T, a227_568, a227_569, a227_570, a227_571T, a227_572T, a227_573, a227_574, a227_575, a227_576T, a227_577, a227_580, a227_581T, a227_582, a227_583, a227_584, a227_585T, a227_586T, a227_587, a227_588, a227_589, a227_590T, a227_591T, a227_592, a227_593, a227_594, a227_595T, a227_596, a227_599, a227_1250, a227_1253, x1, x2, y1, y2, k0, k57, e1, e2, CO, HA, HB, HC, Nat.not_lt_zero, Nat.add_assoc, c_nlt, c_nle, c_neq, c_P, c_cl, c_m1, c_m1', nI_add, pk_mul, reduceIte, Nat.reduceEqDiff, Nat.reduceAdd, Nat.reduceMul, Nat.reduceLeDiff, eq_self]
theorem Lc_when (x1 : (hX σ).1 = L) (x2 : (hX σ).2 = xs) (hi : i + 6 ≤ L) (hL : L ≤ 3072) (k0 : kd σ 0 = 11) (h : Pr (fun σ => (d, 97, 0, [.ref 0, .int (xs (i + 1)), .int (xs (i + 2)), .int (xs (i + 3)), .float 0], [], σ)) (fun σ => (d, 191, 0, [.ref 57, .int (xs (i + 1)), .int (xs (i + 2)), .int (xs (i + 3)), .float 0, .float 0, .float 0], [], σ)) σ Q) : ∃ υ, den (d + 1, 227, 604, [.retAddr 0, .ref 0, .ref 57, .int (nI i)], [], σ) = den (d + 1, 227, 18, [.retAddr 0, .ref 0, .ref 57, .int (nI (i + 6))], [], υ) ∧ Q υ := by
  obtain ⟨r, τ, υ, e1, e2, q⟩ := h
  have xx := hXd e1
  have y1 : (hX τ).1 = L := by rw [show hX τ = hX σ from xx]; exact x1
  have y2 : (hX τ).2 = xs := by rw [show hX τ = hX σ from xx]; exact x2
  have k57 : kd τ 57 = 12 := by
    refine Classical.byContradiction (fun z => ?_)
    rw [a191_0, a191_1, a191_2, if_neg z] at e2
    exact nomatch e2
  refine ⟨υ, ?_, q⟩
  simp (disch := omega) only [a227_604, a227_605T, a227_606, a227_607, a227_608, a227_609T, a227_610T, a227_611, a227_612, a227_613, a227_614T, a227_615T, a227_616, a227_617, a227_618, a227_619T, a227_620, a227_623, a227_624T, a227_625, a227_626, a227_627, a227_628T, a227_629T, a227_630, a227_631, a227_632, a227_633T, a227_634T, a227_635, a227_636, a227_637, a227_638T, a227_639, a227_642, a227_1250, a227_1253, x1, x2, y1, y2, k0, k57, e1, e2, CO, HA, HB, HC, Nat.not_lt_zero, Nat.add_assoc, c_nlt, c_nle, c_neq, c_P, c_cl, c_m1, c_m1', nI_add, pk_mul, reduceIte, Nat.reduceEqDiff, Nat.reduceAdd, Nat.reduceMul, Nat.reduceLeDiff, eq_self]
theorem Lc_age (x1 : (hX σ).1 = L) (x2 : (hX σ).2 = xs) (hi : i + 6 ≤ L) (hL : L ≤ 3072) (k0 : kd σ 0 = 11) (h : Pr (fun σ => (d, 98, 0, [.ref 0, .int (xs (i + 1)), .int (xs (i + 2)), .int (xs (i + 3)), .float 0], [], σ)) (fun σ => (d, 192, 0, [.ref 57, .int (xs (i + 1)), .int (xs (i + 2)), .int (xs (i + 3)), .float 0, .float 0], [], σ)) σ Q) : ∃ υ, den (d + 1, 227, 647, [.retAddr 0, .ref 0, .ref 57, .int (nI i)], [], σ) = den (d + 1, 227, 18, [.retAddr 0, .ref 0, .ref 57, .int (nI (i + 6))], [], υ) ∧ Q υ := by
  obtain ⟨r, τ, υ, e1, e2, q⟩ := h
  have xx := hXd e1
  have y1 : (hX τ).1 = L := by rw [show hX τ = hX σ from xx]; exact x1
  have y2 : (hX τ).2 = xs := by rw [show hX τ = hX σ from xx]; exact x2
  have k57 : kd τ 57 = 12 := by
    refine Classical.byContradiction (fun z => ?_)
    rw [a192_0, a192_1, a192_2, if_neg z] at e2
    exact nomatch e2
  refine ⟨υ, ?_, q⟩
  simp (disch := omega) only [a227_647, a227_648T, a227_649, a227_650, a227_651, a227_652T, a227_653T, a227_654, a227_655, a227_656, a227_657T, a227_658T, a227_659, a227_660, a227_661, a227_662T, a227_663, a227_666, a227_667T, a227_668, a227_669, a227_670, a227_671T, a227_672T, a227_673, a227_674, a227_675, a227_676T, a227_677T, a227_678, a227_679, a227_680, a227_681T, a227_682, a227_685, a227_1250, a227_1253, x1, x2, y1, y2, k0, k57, e1, e2, CO, HA, HB, HC, Nat.not_lt_zero, Nat.add_assoc, c_nlt, c_nle, c_neq, c_P, c_cl, c_m1, c_m1', nI_add, pk_mul, reduceIte, Nat.reduceEqDiff, Nat.reduceAdd, Nat.reduceMul, Nat.reduceLeDiff, eq_self]
theorem Lc_wages (x1 : (hX σ).1 = L) (x2 : (hX σ).2 = xs) (hi : i + 6 ≤ L) (hL : L ≤ 3072) (k0 : kd σ 0 = 11) (h : Pr (fun σ => (d, 99, 0, [.ref 0, .int (xs (i + 1)), .int (xs (i + 2)), .float 0, .float 0, .float 0, .float 0], [], σ)) (fun σ => (d, 193, 0, [.ref 57, .int (xs (i + 1)), .int (xs (i + 2)), .float 0, .float 0], [], σ)) σ Q) : ∃ υ, den (d + 1, 227, 690, [.retAddr 0, .ref 0, .ref 57, .int (nI i)], [], σ) = den (d + 1, 227, 18, [.retAddr 0, .ref 0, .ref 57, .int (nI (i + 6))], [], υ) ∧ Q υ := by
  obtain ⟨r, τ, υ, e1, e2, q⟩ := h
  have xx := hXd e1
  have y1 : (hX τ).1 = L := by rw [show hX τ = hX σ from xx]; exact x1
  have y2 : (hX τ).2 = xs := by rw [show hX τ = hX σ from xx]; exact x2
  have k57 : kd τ 57 = 12 := by
    refine Classical.byContradiction (fun z => ?_)
    rw [a193_0, a193_1, a193_2, if_neg z] at e2
    exact nomatch e2
  refine ⟨υ, ?_, q⟩
  simp (disch := omega) only [a227_690, a227_691T, a227_692, a227_693, a227_694, a227_695T, a227_696T, a227_697, a227_698, a227_699, a227_700T, a227_701, a227_704, a227_705T, a227_706, a227_707, a227_708, a227_709T, a227_710T, a227_711, a227_712, a227_713, a227_714T, a227_715, a227_718, a227_1250, a227_1253, x1, x2, y1, y2, k0, k57, e1, e2, CO, HA, HB, HC, Nat.not_lt_zero, Nat.add_assoc, c_nlt, c_nle, c_neq, c_P, c_cl, c_m1, c_m1', nI_add, pk_mul, reduceIte, Nat.reduceEqDiff, Nat.reduceAdd, Nat.reduceMul, Nat.reduceLeDiff, eq_self]
theorem Lc_gap (x1 : (hX σ).1 = L) (x2 : (hX σ).2 = xs) (hi : i + 6 ≤ L) (hL : L ≤ 3072) (k0 : kd σ 0 = 11) (h : Pr (fun σ => (d, 100, 0, [.ref 0, .int (xs (i + 1)), .float 0, .float 0, .float 0], [], σ)) (fun σ => (d, 195, 0, [.ref 57, .int (xs (i + 1)), .float 0, .float 0, .float 0], [], σ)) σ Q) : ∃ υ, den (d + 1, 227, 723, [.retAddr 0, .ref 0, .ref 57, .int (nI i)], [], σ) = den (d + 1, 227, 18, [.retAddr 0, .ref 0, .ref 57, .int (nI (i + 6))], [], υ) ∧ Q υ := by
  obtain ⟨r, τ, υ, e1, e2, q⟩ := h
  have xx := hXd e1
  have y1 : (hX τ).1 = L := by rw [show hX τ = hX σ from xx]; exact x1
  have y2 : (hX τ).2 = xs := by rw [show hX τ = hX σ from xx]; exact x2
  have k57 : kd τ 57 = 12 := by
    refine Classical.byContradiction (fun z => ?_)
    rw [a195_0, a195_1, a195_2, if_neg z] at e2
    exact nomatch e2
  refine ⟨υ, ?_, q⟩
  simp (disch := omega) only [a227_723, a227_724T, a227_725, a227_726, a227_727, a227_728T, a227_729, a227_732, a227_733T, a227_734, a227_735, a227_736, a227_737T, a227_738, a227_741, a227_1250, a227_1253, x1, x2, y1, y2, k0, k57, e1, e2, CO, HA, HB, HC, Nat.not_lt_zero, Nat.add_assoc, c_nlt, c_nle, c_neq, c_P, c_cl, c_m1, c_m1', nI_add, pk_mul, reduceIte, Nat.reduceEqDiff, Nat.reduceAdd, Nat.reduceMul, Nat.reduceLeDiff, eq_self]
theorem Lc_owes (x1 : (hX σ).1 = L) (x2 : (hX σ).2 = xs) (hi : i + 6 ≤ L) (hL : L ≤ 3072) (k0 : kd σ 0 = 11) (h : Pr (fun σ => (d, 101, 0, [.ref 0, .int (xs (i + 1)), .int (xs (i + 2))], [], σ)) (fun σ => (d, 197, 0, [.ref 57, .int (xs (i + 1)), .int (xs (i + 2))], [], σ)) σ Q) : ∃ υ, den (d + 1, 227, 746, [.retAddr 0, .ref 0, .ref 57, .int (nI i)], [], σ) = den (d + 1, 227, 18, [.retAddr 0, .ref 0, .ref 57, .int (nI (i + 6))], [], υ) ∧ Q υ := by
  obtain ⟨r, τ, υ, e1, e2, q⟩ := h
  have xx := hXd e1
  have y1 : (hX τ).1 = L := by rw [show hX τ = hX σ from xx]; exact x1
  have y2 : (hX τ).2 = xs := by rw [show hX τ = hX σ from xx]; exact x2
  have k57 : kd τ 57 = 12 := by
    refine Classical.byContradiction (fun z => ?_)
    rw [a197_0, a197_1, a197_2, if_neg z] at e2
    exact nomatch e2
  refine ⟨υ, ?_, q⟩
  simp (disch := omega) only [a227_746, a227_747T, a227_748, a227_749, a227_750, a227_751T, a227_752T, a227_753, a227_754, a227_755, a227_756T, a227_757, a227_760, a227_761T, a227_762, a227_763, a227_764, a227_765T, a227_766T, a227_767, a227_768, a227_769, a227_770T, a227_771, a227_774, a227_1250, a227_1253, x1, x2, y1, y2, k0, k57, e1, e2, CO, HA, HB, HC, Nat.not_lt_zero, Nat.add_assoc, c_nlt, c_nle, c_neq, c_P, c_cl, c_m1, c_m1', nI_add, pk_mul, reduceIte, Nat.reduceEqDiff, Nat.reduceAdd, Nat.reduceMul, Nat.reduceLeDiff, eq_self]
theorem Lc_away (x1 : (hX σ).1 = L) (x2 : (hX σ).2 = xs) (hi : i + 6 ≤ L) (hL : L ≤ 3072) (k0 : kd σ 0 = 11) (h : Pr (fun σ => (d, 102, 0, [.ref 0, .float 0, .float 0], [], σ)) (fun σ => (d, 198, 0, [.ref 57, .float 0, .float 0], [], σ)) σ Q) : ∃ υ, den (d + 1, 227, 779, [.retAddr 0, .ref 0, .ref 57, .int (nI i)], [], σ) = den (d + 1, 227, 18, [.retAddr 0, .ref 0, .ref 57, .int (nI (i + 6))], [], υ) ∧ Q υ := by
  obtain ⟨r, τ, υ, e1, e2, q⟩ := h
  have xx := hXd e1
  have y1 : (hX τ).1 = L := by rw [show hX τ = hX σ from xx]; exact x1
  have y2 : (hX τ).2 = xs := by rw [show hX τ = hX σ from xx]; exact x2
  have k57 : kd τ 57 = 12 := by
    refine Classical.byContradiction (fun z => ?_)
    rw [a198_0, a198_1, a198_2, if_neg z] at e2
    exact nomatch e2
  refine ⟨υ, ?_, q⟩
  simp (disch := omega) only [a227_779, a227_780, a227_783, a227_784, a227_787, a227_1250, a227_1253, x1, x2, y1, y2, k0, k57, e1, e2, CO, HA, HB, HC, Nat.not_lt_zero, Nat.add_assoc, c_nlt, c_nle, c_neq, c_P, c_cl, c_m1, c_m1', nI_add, pk_mul, reduceIte, Nat.reduceEqDiff, Nat.reduceAdd, Nat.reduceMul, Nat.reduceLeDiff, eq_self]
theorem Lc_ring (x1 : (hX σ).1 = L) (x2 : (hX σ).2 = xs) (hi : i + 6 ≤ L) (hL : L ≤ 3072) (k0 : kd σ 0 = 11) (h : Pr (fun σ => (d, 103, 0, [.ref 0, .int (xs (i + 1))], [], σ)) (fun σ => (d, 202, 0, [.ref 57, .int (xs (i + 1))], [], σ)) σ Q) : ∃ υ, den (d + 1, 227, 792, [.retAddr 0, .ref 0, .ref 57, .int (nI i)], [], σ) = den (d + 1, 227, 18, [.retAddr 0, .ref 0, .ref 57, .int (nI (i + 6))], [], υ) ∧ Q υ := by
  obtain ⟨r, τ, υ, e1, e2, q⟩ := h
  have xx := hXd e1
  have y1 : (hX τ).1 = L := by rw [show hX τ = hX σ from xx]; exact x1
  have y2 : (hX τ).2 = xs := by rw [show hX τ = hX σ from xx]; exact x2
  have k57 : kd τ 57 = 12 := by
    refine Classical.byContradiction (fun z => ?_)
    rw [a202_0, a202_1, a202_2, if_neg z] at e2
    exact nomatch e2
  refine ⟨υ, ?_, q⟩
  simp (disch := omega) only [a227_792, a227_793T, a227_794, a227_795, a227_796, a227_797T, a227_798, a227_801, a227_802T, a227_803, a227_804, a227_805, a227_806T, a227_807, a227_810, a227_1250, a227_1253, x1, x2, y1, y2, k0, k57, e1, e2, CO, HA, HB, HC, Nat.not_lt_zero, Nat.add_assoc, c_nlt, c_nle, c_neq, c_P, c_cl, c_m1, c_m1', nI_add, pk_mul, reduceIte, Nat.reduceEqDiff, Nat.reduceAdd, Nat.reduceMul, Nat.reduceLeDiff, eq_self]
theorem Lc_easter (x1 : (hX σ).1 = L) (x2 : (hX σ).2 = xs) (hi : i + 6 ≤ L) (hL : L ≤ 3072) (k0 : kd σ 0 = 11) (h : Pr (fun σ => (d, 104, 0, [.ref 0, .int (xs (i + 1)), .int (xs (i + 2))], [], σ)) (fun σ => (d, 208, 0, [.ref 57, .int (xs (i + 1)), .int (xs (i + 2))], [], σ)) σ Q) : ∃ υ, den (d + 1, 227, 815, [.retAddr 0, .ref 0, .ref 57, .int (nI i)], [], σ) = den (d + 1, 227, 18, [.retAddr 0, .ref 0, .ref 57, .int (nI (i + 6))], [], υ) ∧ Q υ := by
  obtain ⟨r, τ, υ, e1, e2, q⟩ := h
  have xx := hXd e1
  have y1 : (hX τ).1 = L := by rw [show hX τ = hX σ from xx]; exact x1
  have y2 : (hX τ).2 = xs := by rw [show hX τ = hX σ from xx]; exact x2
  have k57 : kd τ 57 = 12 := by
    refine Classical.byContradiction (fun z => ?_)
    rw [a208_0, a208_1, a208_2, if_neg z] at e2
    exact nomatch e2
  refine ⟨υ, ?_, q⟩
  simp (disch := omega) only [a227_815, a227_816T, a227_817, a227_818, a227_819, a227_820T, a227_821T, a227_822, a227_823, a227_824, a227_825T, a227_826, a227_829, a227_830T, a227_831, a227_832, a227_833, a227_834T, a227_835T, a227_836, a227_837, a227_838, a227_839T, a227_840, a227_843, a227_1250, a227_1253, x1, x2, y1, y2, k0, k57, e1, e2, CO, HA, HB, HC, Nat.not_lt_zero, Nat.add_assoc, c_nlt, c_nle, c_neq, c_P, c_cl, c_m1, c_m1', nI_add, pk_mul, reduceIte, Nat.reduceEqDiff, Nat.reduceAdd, Nat.reduceMul, Nat.reduceLeDiff, eq_self]
theorem Lc_trade (x1 : (hX σ).1 = L) (x2 : (hX σ).2 = xs) (hi : i + 6 ≤ L) (hL : L ≤ 3072) (k0 : kd σ 0 = 11) (h : Pr (fun σ => (d, 105, 0, [.ref 0, .int (xs (i + 1)), .int (xs (i + 2)), .int (xs (i + 3))], [], σ)) (fun σ => (d, 209, 0, [.ref 57, .int (xs (i + 1)), .int (xs (i + 2)), .int (xs (i + 3)), .float 0, .float 0, .float 0, .float 0, .float 0], [], σ)) σ Q) : ∃ υ, den (d + 1, 227, 848, [.retAddr 0, .ref 0, .ref 57, .int (nI i)], [], σ) = den (d + 1, 227, 18, [.retAddr 0, .ref 0, .ref 57, .int (nI (i + 6))], [], υ) ∧ Q υ := by
  obtain ⟨r, τ, υ, e1, e2, q⟩ := h
  have xx := hXd e1
  have y1 : (hX τ).1 = L := by rw [show hX τ = hX σ from xx]; exact x1
  have y2 : (hX τ).2 = xs := by rw [show hX τ = hX σ from xx]; exact x2
  have k57 : kd τ 57 = 12 := by
    refine Classical.byContradiction (fun z => ?_)
    rw [a209_0, a209_1, a209_2, if_neg z] at e2
    exact nomatch e2
  refine ⟨υ, ?_, q⟩
  simp (disch := omega) only [a227_848, a227_849T, a227_850, a227_851, a227_852, a227_853T, a227_854T, a227_855, a227_856, a227_857, a227_858T, a227_859T, a227_860, a227_861, a227_862, a227_863T, a227_864, a227_867, a227_868T, a227_869, a227_870, a227_871, a227_872T, a227_873T, a227_874, a227_875, a227_876, a227_877T, a227_878T, a227_879, a227_880, a227_881, a227_882T, a227_883, a227_886, a227_1250, a227_1253, x1, x2, y1, y2, k0, k57, e1, e2, CO, HA, HB, HC, Nat.not_lt_zero, Nat.add_assoc, c_nlt, c_nle, c_neq, c_P, c_cl, c_m1, c_m1', nI_add, pk_mul, reduceIte, Nat.reduceEqDiff, Nat.reduceAdd, Nat.reduceMul, Nat.reduceLeDiff, eq_self]
theorem Lc_chain (x1 : (hX σ).1 = L) (x2 : (hX σ).2 = xs) (hi : i + 6 ≤ L) (hL : L ≤ 3072) (k0 : kd σ 0 = 11) (h : Pr (fun σ => (d, 106, 0, [.ref 0, .int (xs (i + 1)), .int (xs (i + 2))], [], σ)) (fun σ => (d, 204, 0, [.ref 57, .int (xs (i + 1)), .int (xs (i + 2))], [], σ)) σ Q) : ∃ υ, den (d + 1, 227, 891, [.retAddr 0, .ref 0, .ref 57, .int (nI i)], [], σ) = den (d + 1, 227, 18, [.retAddr 0, .ref 0, .ref 57, .int (nI (i + 6))], [], υ) ∧ Q υ := by
  obtain ⟨r, τ, υ, e1, e2, q⟩ := h
  have xx := hXd e1
  have y1 : (hX τ).1 = L := by rw [show hX τ = hX σ from xx]; exact x1
  have y2 : (hX τ).2 = xs := by rw [show hX τ = hX σ from xx]; exact x2
  have k57 : kd τ 57 = 12 := by
    refine Classical.byContradiction (fun z => ?_)
    rw [a204_0, a204_1, a204_2, if_neg z] at e2
    exact nomatch e2
  refine ⟨υ, ?_, q⟩
  simp (disch := omega) only [a227_891, a227_892T, a227_893, a227_894, a227_895, a227_896T, a227_897T, a227_898, a227_899, a227_900, a227_901T, a227_902, a227_905, a227_906T, a227_907, a227_908, a227_909, a227_910T, a227_911T, a227_912, a227_913, a227_914, a227_915T, a227_916, a227_919, a227_1250, a227_1253, x1, x2, y1, y2, k0, k57, e1, e2, CO, HA, HB, HC, Nat.not_lt_zero, Nat.add_assoc, c_nlt, c_nle, c_neq, c_P, c_cl, c_m1, c_m1', nI_add, pk_mul, reduceIte, Nat.reduceEqDiff, Nat.reduceAdd, Nat.reduceMul, Nat.reduceLeDiff, eq_self]
theorem Lc_last (x1 : (hX σ).1 = L) (x2 : (hX σ).2 = xs) (hi : i + 6 ≤ L) (hL : L ≤ 3072) (k0 : kd σ 0 = 11) (h : Pr (fun σ => (d, 107, 0, [.ref 0, .int (xs (i + 1)), .int (xs (i + 2)), .int (xs (i + 3)), .float 0, .float 0, .float 0, .float 0, .float 0], [], σ)) (fun σ => (d, 210, 0, [.ref 57, .int (xs (i + 1)), .int (xs (i + 2)), .int (xs (i + 3)), .float 0, .float 0, .float 0, .float 0, .float 0], [], σ)) σ Q) : ∃ υ, den (d + 1, 227, 924, [.retAddr 0, .ref 0, .ref 57, .int (nI i)], [], σ) = den (d + 1, 227, 18, [.retAddr 0, .ref 0, .ref 57, .int (nI (i + 6))], [], υ) ∧ Q υ := by
  obtain ⟨r, τ, υ, e1, e2, q⟩ := h
  have xx := hXd e1
  have y1 : (hX τ).1 = L := by rw [show hX τ = hX σ from xx]; exact x1
  have y2 : (hX τ).2 = xs := by rw [show hX τ = hX σ from xx]; exact x2
  have k57 : kd τ 57 = 12 := by
    refine Classical.byContradiction (fun z => ?_)
    rw [a210_0, a210_1, a210_2, if_neg z] at e2
    exact nomatch e2
  refine ⟨υ, ?_, q⟩
  simp (disch := omega) only [a227_924, a227_925T, a227_926, a227_927, a227_928, a227_929T, a227_930T, a227_931, a227_932, a227_933, a227_934T, a227_935T, a227_936, a227_937, a227_938, a227_939T, a227_940, a227_943, a227_944T, a227_945, a227_946, a227_947, a227_948T, a227_949T, a227_950, a227_951, a227_952, a227_953T, a227_954T, a227_955, a227_956, a227_957, a227_958T, a227_959, a227_962, a227_1250, a227_1253, x1, x2, y1, y2, k0, k57, e1, e2, CO, HA, HB, HC, Nat.not_lt_zero, Nat.add_assoc, c_nlt, c_nle, c_neq, c_P, c_cl, c_m1, c_m1', nI_add, pk_mul, reduceIte, Nat.reduceEqDiff, Nat.reduceAdd, Nat.reduceMul, Nat.reduceLeDiff, eq_self]
theorem Lc_price (x1 : (hX σ).1 = L) (x2 : (hX σ).2 = xs) (hi : i + 6 ≤ L) (hL : L ≤ 3072) (k0 : kd σ 0 = 11) (h : Pr (fun σ => (d, 108, 0, [.ref 0, .int (xs (i + 1)), .float 0, .float 0], [], σ)) (fun σ => (d, 212, 0, [.ref 57, .int (xs (i + 1)), .float 0], [], σ)) σ Q) : ∃ υ, den (d + 1, 227, 967, [.retAddr 0, .ref 0, .ref 57, .int (nI i)], [], σ) = den (d + 1, 227, 18, [.retAddr 0, .ref 0, .ref 57, .int (nI (i + 6))], [], υ) ∧ Q υ := by
  obtain ⟨r, τ, υ, e1, e2, q⟩ := h
  have xx := hXd e1
  have y1 : (hX τ).1 = L := by rw [show hX τ = hX σ from xx]; exact x1
  have y2 : (hX τ).2 = xs := by rw [show hX τ = hX σ from xx]; exact x2
  have k57 : kd τ 57 = 12 := by
    refine Classical.byContradiction (fun z => ?_)
    rw [a212_0, a212_1, a212_2, if_neg z] at e2
    exact nomatch e2
  refine ⟨υ, ?_, q⟩
  simp (disch := omega) only [a227_967, a227_968T, a227_969, a227_970, a227_971, a227_972T, a227_973, a227_976, a227_977T, a227_978, a227_979, a227_980, a227_981T, a227_982, a227_985, a227_1250, a227_1253, x1, x2, y1, y2, k0, k57, e1, e2, CO, HA, HB, HC, Nat.not_lt_zero, Nat.add_assoc, c_nlt, c_nle, c_neq, c_P, c_cl, c_m1, c_m1', nI_add, pk_mul, reduceIte, Nat.reduceEqDiff, Nat.reduceAdd, Nat.reduceMul, Nat.reduceLeDiff, eq_self]
theorem Lc_deed (x1 : (hX σ).1 = L) (x2 : (hX σ).2 = xs) (hi : i + 6 ≤ L) (hL : L ≤ 3072) (k0 : kd σ 0 = 11) (h : Pr (fun σ => (d, 109, 0, [.ref 0, .int (xs (i + 1)), .int (xs (i + 2)), .int (xs (i + 3))], [], σ)) (fun σ => (d, 213, 0, [.ref 57, .int (xs (i + 1)), .int (xs (i + 2)), .int (xs (i + 3)), .float 0], [], σ)) σ Q) : ∃ υ, den (d + 1, 227, 990, [.retAddr 0, .ref 0, .ref 57, .int (nI i)], [], σ) = den (d + 1, 227, 18, [.retAddr 0, .ref 0, .ref 57, .int (nI (i + 6))], [], υ) ∧ Q υ := by
  obtain ⟨r, τ, υ, e1, e2, q⟩ := h
  have xx := hXd e1
  have y1 : (hX τ).1 = L := by rw [show hX τ = hX σ from xx]; exact x1
  have y2 : (hX τ).2 = xs := by rw [show hX τ = hX σ from xx]; exact x2
  have k57 : kd τ 57 = 12 := by
    refine Classical.byContradiction (fun z => ?_)
    rw [a213_0, a213_1, a213_2, if_neg z] at e2
    exact nomatch e2
  refine ⟨υ, ?_, q⟩
  simp (disch := omega) only [a227_990, a227_991T, a227_992, a227_993, a227_994, a227_995T, a227_996T, a227_997, a227_998, a227_999, a227_1000T, a227_1001T, a227_1002, a227_1003, a227_1004, a227_1005T, a227_1006, a227_1009, a227_1010T, a227_1011, a227_1012, a227_1013, a227_1014T, a227_1015T, a227_1016, a227_1017, a227_1018, a227_1019T, a227_1020T, a227_1021, a227_1022, a227_1023, a227_1024T, a227_1025, a227_1028, a227_1250, a227_1253, x1, x2, y1, y2, k0, k57, e1, e2, CO, HA, HB, HC, Nat.not_lt_zero, Nat.add_assoc, c_nlt, c_nle, c_neq, c_P, c_cl, c_m1, c_m1', nI_add, pk_mul, reduceIte, Nat.reduceEqDiff, Nat.reduceAdd, Nat.reduceMul, Nat.reduceLeDiff, eq_self]
theorem Lc_burn (x1 : (hX σ).1 = L) (x2 : (hX σ).2 = xs) (hi : i + 6 ≤ L) (hL : L ≤ 3072) (k0 : kd σ 0 = 11) (h : Pr (fun σ => (d, 110, 0, [.ref 0, .int (xs (i + 1))], [], σ)) (fun σ => (d, 214, 0, [.ref 57, .int (xs (i + 1)), .float 0], [], σ)) σ Q) : ∃ υ, den (d + 1, 227, 1033, [.retAddr 0, .ref 0, .ref 57, .int (nI i)], [], σ) = den (d + 1, 227, 18, [.retAddr 0, .ref 0, .ref 57, .int (nI (i + 6))], [], υ) ∧ Q υ := by
  obtain ⟨r, τ, υ, e1, e2, q⟩ := h
  have xx := hXd e1
  have y1 : (hX τ).1 = L := by rw [show hX τ = hX σ from xx]; exact x1
  have y2 : (hX τ).2 = xs := by rw [show hX τ = hX σ from xx]; exact x2
  have k57 : kd τ 57 = 12 := by
    refine Classical.byContradiction (fun z => ?_)
    rw [a214_0, a214_1, a214_2, if_neg z] at e2
    exact nomatch e2
  refine ⟨υ, ?_, q⟩
  simp (disch := omega) only [a227_1033, a227_1034T, a227_1035, a227_1036, a227_1037, a227_1038T, a227_1039, a227_1042, a227_1043T, a227_1044, a227_1045, a227_1046, a227_1047T, a227_1048, a227_1051, a227_1250, a227_1253, x1, x2, y1, y2, k0, k57, e1, e2, CO, HA, HB, HC, Nat.not_lt_zero, Nat.add_assoc, c_nlt, c_nle, c_neq, c_P, c_cl, c_m1, c_m1', nI_add, pk_mul, reduceIte, Nat.reduceEqDiff, Nat.reduceAdd, Nat.reduceMul, Nat.reduceLeDiff, eq_self]
theorem Lc_forged (x1 : (hX σ).1 = L) (x2 : (hX σ).2 = xs) (hi : i + 6 ≤ L) (hL : L ≤ 3072) (k0 : kd σ 0 = 11) (h : Pr (fun σ => (d, 111, 0, [.ref 0, .int (xs (i + 1)), .float 0, .float 0], [], σ)) (fun σ => (d, 216, 0, [.ref 57, .int (xs (i + 1)), .float 0, .float 0], [], σ)) σ Q) : ∃ υ, den (d + 1, 227, 1056, [.retAddr 0, .ref 0, .ref 57, .int (nI i)], [], σ) = den (d + 1, 227, 18, [.retAddr 0, .ref 0, .ref 57, .int (nI (i + 6))], [], υ) ∧ Q υ := by
  obtain ⟨r, τ, υ, e1, e2, q⟩ := h
  have xx := hXd e1
  have y1 : (hX τ).1 = L := by rw [show hX τ = hX σ from xx]; exact x1
  have y2 : (hX τ).2 = xs := by rw [show hX τ = hX σ from xx]; exact x2
  have k57 : kd τ 57 = 12 := by
    refine Classical.byContradiction (fun z => ?_)
    rw [a216_0, a216_1, a216_2, if_neg z] at e2
    exact nomatch e2
  refine ⟨υ, ?_, q⟩
  simp (disch := omega) only [a227_1056, a227_1057T, a227_1058, a227_1059, a227_1060, a227_1061T, a227_1062, a227_1065, a227_1066T, a227_1067, a227_1068, a227_1069, a227_1070T, a227_1071, a227_1074, a227_1250, a227_1253, x1, x2, y1, y2, k0, k57, e1, e2, CO, HA, HB, HC, Nat.not_lt_zero, Nat.add_assoc, c_nlt, c_nle, c_neq, c_P, c_cl, c_m1, c_m1', nI_add, pk_mul, reduceIte, Nat.reduceEqDiff, Nat.reduceAdd, Nat.reduceMul, Nat.reduceLeDiff, eq_self]
theorem Lc_explains (x1 : (hX σ).1 = L) (x2 : (hX σ).2 = xs) (hi : i + 6 ≤ L) (hL : L ≤ 3072) (k0 : kd σ 0 = 11) (h : Pr (fun σ => (d, 112, 0, [.ref 0, .int (xs (i + 1)), .float 0, .float 0, .float 0, .float 0], [], σ)) (fun σ => (d, 218, 0, [.ref 57, .int (xs (i + 1)), .float 0, .float 0, .float 0, .float 0, .float 0], [], σ)) σ Q) : ∃ υ, den (d + 1, 227, 1079, [.retAddr 0, .ref 0, .ref 57, .int (nI i)], [], σ) = den (d + 1, 227, 18, [.retAddr 0, .ref 0, .ref 57, .int (nI (i + 6))], [], υ) ∧ Q υ := by
  obtain ⟨r, τ, υ, e1, e2, q⟩ := h
  have xx := hXd e1
  have y1 : (hX τ).1 = L := by rw [show hX τ = hX σ from xx]; exact x1
  have y2 : (hX τ).2 = xs := by rw [show hX τ = hX σ from xx]; exact x2
  have k57 : kd τ 57 = 12 := by
    refine Classical.byContradiction (fun z => ?_)
    rw [a218_0, a218_1, a218_2, if_neg z] at e2
    exact nomatch e2
  refine ⟨υ, ?_, q⟩
  simp (disch := omega) only [a227_1079, a227_1080T, a227_1081, a227_1082, a227_1083, a227_1084T, a227_1085, a227_1088, a227_1089T, a227_1090, a227_1091, a227_1092, a227_1093T, a227_1094, a227_1097, a227_1250, a227_1253, x1, x2, y1, y2, k0, k57, e1, e2, CO, HA, HB, HC, Nat.not_lt_zero, Nat.add_assoc, c_nlt, c_nle, c_neq, c_P, c_cl, c_m1, c_m1', nI_add, pk_mul, reduceIte, Nat.reduceEqDiff, Nat.reduceAdd, Nat.reduceMul, Nat.reduceLeDiff, eq_self]
theorem Lc_year (x1 : (hX σ).1 = L) (x2 : (hX σ).2 = xs) (hi : i + 6 ≤ L) (hL : L ≤ 3072) (k0 : kd σ 0 = 11) (h : Pr (fun σ => (d, 113, 0, [.ref 0, .int (xs (i + 1)), .int (xs (i + 2)), .float 0, .float 0], [], σ)) (fun σ => (d, 220, 0, [.ref 57, .int (xs (i + 1)), .int (xs (i + 2)), .float 0, .float 0, .float 0, .float 0, .float 0], [], σ)) σ Q) : ∃ υ, den (d + 1, 227, 1102, [.retAddr 0, .ref 0, .ref 57, .int (nI i)], [], σ) = den (d + 1, 227, 18, [.retAddr 0, .ref 0, .ref 57, .int (nI (i + 6))], [], υ) ∧ Q υ := by
  obtain ⟨r, τ, υ, e1, e2, q⟩ := h
  have xx := hXd e1
  have y1 : (hX τ).1 = L := by rw [show hX τ = hX σ from xx]; exact x1
  have y2 : (hX τ).2 = xs := by rw [show hX τ = hX σ from xx]; exact x2
  have k57 : kd τ 57 = 12 := by
    refine Classical.byContradiction (fun z => ?_)
    rw [a220_0, a220_1, a220_2, if_neg z] at e2
    exact nomatch e2
  refine ⟨υ, ?_, q⟩
  simp (disch := omega) only [a227_1102, a227_1103T, a227_1104, a227_1105, a227_1106, a227_1107T, a227_1108T, a227_1109, a227_1110, a227_1111, a227_1112T, a227_1113, a227_1116, a227_1117T, a227_1118, a227_1119, a227_1120, a227_1121T, a227_1122T, a227_1123, a227_1124, a227_1125, a227_1126T, a227_1127, a227_1130, a227_1250, a227_1253, x1, x2, y1, y2, k0, k57, e1, e2, CO, HA, HB, HC, Nat.not_lt_zero, Nat.add_assoc, c_nlt, c_nle, c_neq, c_P, c_cl, c_m1, c_m1', nI_add, pk_mul, reduceIte, Nat.reduceEqDiff, Nat.reduceAdd, Nat.reduceMul, Nat.reduceLeDiff, eq_self]
theorem Lc_drawn (x1 : (hX σ).1 = L) (x2 : (hX σ).2 = xs) (hi : i + 6 ≤ L) (hL : L ≤ 3072) (k0 : kd σ 0 = 11) (h : Pr (fun σ => (d, 114, 0, [.ref 0, .int (xs (i + 1)), .int (xs (i + 2))], [], σ)) (fun σ => (d, 221, 0, [.ref 57, .int (xs (i + 1)), .int (xs (i + 2))], [], σ)) σ Q) : ∃ υ, den (d + 1, 227, 1135, [.retAddr 0, .ref 0, .ref 57, .int (nI i)], [], σ) = den (d + 1, 227, 18, [.retAddr 0, .ref 0, .ref 57, .int (nI (i + 6))], [], υ) ∧ Q υ := by
  obtain ⟨r, τ, υ, e1, e2, q⟩ := h
  have xx := hXd e1
  have y1 : (hX τ).1 = L := by rw [show hX τ = hX σ from xx]; exact x1
  have y2 : (hX τ).2 = xs := by rw [show hX τ = hX σ from xx]; exact x2
  have k57 : kd τ 57 = 12 := by
    refine Classical.byContradiction (fun z => ?_)
    rw [a221_0, a221_1, a221_2, if_neg z] at e2
    exact nomatch e2
  refine ⟨υ, ?_, q⟩
  simp (disch := omega) only [a227_1135, a227_1136T, a227_1137, a227_1138, a227_1139, a227_1140T, a227_1141T, a227_1142, a227_1143, a227_1144, a227_1145T, a227_1146, a227_1149, a227_1150T, a227_1151, a227_1152, a227_1153, a227_1154T, a227_1155T, a227_1156, a227_1157, a227_1158, a227_1159T, a227_1160, a227_1163, a227_1250, a227_1253, x1, x2, y1, y2, k0, k57, e1, e2, CO, HA, HB, HC, Nat.not_lt_zero, Nat.add_assoc, c_nlt, c_nle, c_neq, c_P, c_cl, c_m1, c_m1', nI_add, pk_mul, reduceIte, Nat.reduceEqDiff, Nat.reduceAdd, Nat.reduceMul, Nat.reduceLeDiff, eq_self]
theorem Lc_image (x1 : (hX σ).1 = L) (x2 : (hX σ).2 = xs) (hi : i + 6 ≤ L) (hL : L ≤ 3072) (k0 : kd σ 0 = 11) (h : Pr (fun σ => (d, 115, 0, [.ref 0, .int (xs (i + 1))], [], σ)) (fun σ => (d, 137, 0, [.ref 57, .int (xs (i + 1)), .float 0], [], σ)) σ Q) : ∃ υ, den (d + 1, 227, 1168, [.retAddr 0, .ref 0, .ref 57, .int (nI i)], [], σ) = den (d + 1, 227, 18, [.retAddr 0, .ref 0, .ref 57, .int (nI (i + 6))], [], υ) ∧ Q υ := by
  obtain ⟨r, τ, υ, e1, e2, q⟩ := h
  have xx := hXd e1
  have y1 : (hX τ).1 = L := by rw [show hX τ = hX σ from xx]; exact x1
  have y2 : (hX τ).2 = xs := by rw [show hX τ = hX σ from xx]; exact x2
  have k57 : kd τ 57 = 12 := by
    refine Classical.byContradiction (fun z => ?_)
    rw [a137_0, a137_1, a137_2, if_neg z] at e2
    exact nomatch e2
  refine ⟨υ, ?_, q⟩
  simp (disch := omega) only [a227_1168, a227_1169T, a227_1170, a227_1171, a227_1172, a227_1173T, a227_1174, a227_1177, a227_1178T, a227_1179, a227_1180, a227_1181, a227_1182T, a227_1183, a227_1186, a227_1250, a227_1253, x1, x2, y1, y2, k0, k57, e1, e2, CO, HA, HB, HC, Nat.not_lt_zero, Nat.add_assoc, c_nlt, c_nle, c_neq, c_P, c_cl, c_m1, c_m1', nI_add, pk_mul, reduceIte, Nat.reduceEqDiff, Nat.reduceAdd, Nat.reduceMul, Nat.reduceLeDiff, eq_self]
theorem Lc_back (x1 : (hX σ).1 = L) (x2 : (hX σ).2 = xs) (hi : i + 6 ≤ L) (hL : L ≤ 3072) (k0 : kd σ 0 = 11) (h : Pr (fun σ => (d, 116, 0, [.ref 0, .int (xs (i + 1))], [], σ)) (fun σ => (d, 138, 0, [.ref 57, .int (xs (i + 1)), .float 0], [], σ)) σ Q) : ∃ υ, den (d + 1, 227, 1191, [.retAddr 0, .ref 0, .ref 57, .int (nI i)], [], σ) = den (d + 1, 227, 18, [.retAddr 0, .ref 0, .ref 57, .int (nI (i + 6))], [], υ) ∧ Q υ := by
  obtain ⟨r, τ, υ, e1, e2, q⟩ := h
  have xx := hXd e1
  have y1 : (hX τ).1 = L := by rw [show hX τ = hX σ from xx]; exact x1
  have y2 : (hX τ).2 = xs := by rw [show hX τ = hX σ from xx]; exact x2
  have k57 : kd τ 57 = 12 := by
    refine Classical.byContradiction (fun z => ?_)
    rw [a138_0, a138_1, a138_2, if_neg z] at e2
    exact nomatch e2
  refine ⟨υ, ?_, q⟩
  simp (disch := omega) only [a227_1191, a227_1192T, a227_1193, a227_1194, a227_1195, a227_1196T, a227_1197, a227_1200, a227_1201T, a227_1202, a227_1203, a227_1204, a227_1205T, a227_1206, a227_1209, a227_1250, a227_1253, x1, x2, y1, y2, k0, k57, e1, e2, CO, HA, HB, HC, Nat.not_lt_zero, Nat.add_assoc, c_nlt, c_nle, c_neq, c_P, c_cl, c_m1, c_m1', nI_add, pk_mul, reduceIte, Nat.reduceEqDiff, Nat.reduceAdd, Nat.reduceMul, Nat.reduceLeDiff, eq_self]
theorem Lc_count (x1 : (hX σ).1 = L) (x2 : (hX σ).2 = xs) (hi : i + 6 ≤ L) (hL : L ≤ 3072) (k0 : kd σ 0 = 11) (h : Pr (fun σ => (d, 117, 0, [.ref 0, .int (xs (i + 1))], [], σ)) (fun σ => (d, 222, 0, [.ref 57, .int (xs (i + 1)), .float 0, .float 0], [], σ)) σ Q) : ∃ υ, den (d + 1, 227, 1214, [.retAddr 0, .ref 0, .ref 57, .int (nI i)], [], σ) = den (d + 1, 227, 18, [.retAddr 0, .ref 0, .ref 57, .int (nI (i + 6))], [], υ) ∧ Q υ := by
  obtain ⟨r, τ, υ, e1, e2, q⟩ := h
  have xx := hXd e1
  have y1 : (hX τ).1 = L := by rw [show hX τ = hX σ from xx]; exact x1
  have y2 : (hX τ).2 = xs := by rw [show hX τ = hX σ from xx]; exact x2
  have k57 : kd τ 57 = 12 := by
    refine Classical.byContradiction (fun z => ?_)
    rw [a222_0, a222_1, a222_2, if_neg z] at e2
    exact nomatch e2
  refine ⟨υ, ?_, q⟩
  simp (disch := omega) only [a227_1214, a227_1215T, a227_1216, a227_1217, a227_1218, a227_1219T, a227_1220, a227_1223, a227_1224T, a227_1225, a227_1226, a227_1227, a227_1228T, a227_1229, a227_1232, a227_1250, a227_1253, x1, x2, y1, y2, k0, k57, e1, e2, CO, HA, HB, HC, Nat.not_lt_zero, Nat.add_assoc, c_nlt, c_nle, c_neq, c_P, c_cl, c_m1, c_m1', nI_add, pk_mul, reduceIte, Nat.reduceEqDiff, Nat.reduceAdd, Nat.reduceMul, Nat.reduceLeDiff, eq_self]
theorem Lc_status (x1 : (hX σ).1 = L) (x2 : (hX σ).2 = xs) (hi : i + 6 ≤ L) (hL : L ≤ 3072) (k0 : kd σ 0 = 11) (h : Pr (fun σ => (d, 118, 0, [.ref 0], [], σ)) (fun σ => (d, 223, 0, [.ref 57], [], σ)) σ Q) : ∃ υ, den (d + 1, 227, 1237, [.retAddr 0, .ref 0, .ref 57, .int (nI i)], [], σ) = den (d + 1, 227, 18, [.retAddr 0, .ref 0, .ref 57, .int (nI (i + 6))], [], υ) ∧ Q υ := by
  obtain ⟨r, τ, υ, e1, e2, q⟩ := h
  have xx := hXd e1
  have y1 : (hX τ).1 = L := by rw [show hX τ = hX σ from xx]; exact x1
  have y2 : (hX τ).2 = xs := by rw [show hX τ = hX σ from xx]; exact x2
  have k57 : kd τ 57 = 12 := by
    refine Classical.byContradiction (fun z => ?_)
    rw [a223_0, a223_1, a223_2, if_neg z] at e2
    exact nomatch e2
  refine ⟨υ, ?_, q⟩
  simp (disch := omega) only [a227_1237, a227_1238, a227_1241, a227_1242, a227_1245, a227_1250, a227_1253, x1, x2, y1, y2, k0, k57, e1, e2, CO, HA, HB, HC, Nat.not_lt_zero, Nat.add_assoc, c_nlt, c_nle, c_neq, c_P, c_cl, c_m1, c_m1', nI_add, pk_mul, reduceIte, Nat.reduceEqDiff, Nat.reduceAdd, Nat.reduceMul, Nat.reduceLeDiff, eq_self]
end
section
variable {L : Nat} {xs : Nat → Int32}
theorem sub6 {i : Nat} (hL : L ≤ 3072) (hi : i ≤ 4000) : (nI L - nI 6 < nI i) = (L < i + 6) := by
  rw [eq_iff_iff, ← zI_n L, ← zI_n 6, ← zI_n i, zI_sub, zI_lt (by omega) (by omega)]
  omega
theorem and63 (x : Int32) : ∃ k, k < 64 ∧ x &&& nI 63 = nI k := by
  obtain ⟨j, hj, e⟩ := pk_andE x (m := nI 63) 6 (by decide)
  exact ⟨j, hj, e⟩
theorem Lhd {d i : Nat} {σ : Hp} (x1 : (hX σ).1 = L) (x2 : (hX σ).2 = xs) (hi : i + 6 ≤ L) (hL : L ≤ 3072) : den (d + 1, 227, 18, [.retAddr 0, .ref 0, .ref 57, .int (nI i)], [], σ) = den (d + 1, 227, 33, [.retAddr 0, .ref 0, .ref 57, .int (nI i)], [.int (xs i &&& nI 63)], σ) := by
  have s6 := sub6 (i := i) hL (by omega)
  have n6 : ¬ L < i + 6 := by omega
  rw [a227_18]
  simp (disch := omega) only [a227_19T, a227_20T, a227_21, a227_23, a227_24, a227_27T, a227_28, a227_29T, a227_30, a227_32, x1, x2, c_of, s6, n6, CO, HA, HB, HC, Nat.not_lt_zero, Nat.add_assoc, c_nlt, c_nle, c_neq, c_P, c_cl, c_m1, c_m1', nI_add, pk_mul, reduceIte, Nat.reduceEqDiff, Nat.reduceAdd, Nat.reduceMul, Nat.reduceLeDiff, eq_self]
theorem Lex {d i : Nat} {σ : Hp} (x1 : (hX σ).1 = L) (hi : ¬ i + 6 ≤ L) (hi2 : i ≤ 4000) (hL : L ≤ 3072) : den (d + 1, 227, 18, [.retAddr 0, .ref 0, .ref 57, .int (nI i)], [], σ) = some (some (.int 1), σ) := by
  have s6 := sub6 (i := i) hL hi2
  have n6 : L < i + 6 := by omega
  rw [a227_18]
  simp (disch := omega) only [a227_19T, a227_20T, a227_21, a227_23, a227_24, a227_1256, a227_1257, x1, c_of, s6, n6, CO, HA, HB, HC, Nat.not_lt_zero, Nat.add_assoc, c_nlt, c_nle, c_neq, c_P, c_cl, c_m1, c_m1', nI_add, pk_mul, reduceIte, Nat.reduceEqDiff, Nat.reduceAdd, Nat.reduceMul, Nat.reduceLeDiff, eq_self]
  rfl
/-- one turn -/
theorem Lstep {i : Nat} {σ : Hp} {R : AllT} (hC : RC σ R) (hM : RM σ R) (hW : RW R) (hW2 : RLw σ) (x1 : (hX σ).1 = L) (x2 : (hX σ).2 = xs) (hi : i + 6 ≤ L) (hL : L ≤ 3072) : ∃ υ, den (499 + 1, 227, 18, [.retAddr 0, .ref 0, .ref 57, .int (nI i)], [], σ) = den (499 + 1, 227, 18, [.retAddr 0, .ref 0, .ref 57, .int (nI (i + 6))], [], υ) ∧ ∃ R', Ok σ υ R' := by
  have k0 : kd σ 0 = 11 := by obtain ⟨S, im, ⟨tl, tp⟩, ⟨st, fg, ft⟩, rf, ⟨yv, yK⟩⟩ := R; exact hC.1.1
  have hd := Lhd (d := 499) x1 x2 hi hL
  obtain ⟨k, hk, ek⟩ := and63 (xs i)
  rw [ek] at hd
  have alt : k = 0 ∨ k = 1 ∨ k = 2 ∨ k = 3 ∨ k = 4 ∨ k = 5 ∨ k = 6 ∨ k = 7 ∨ k = 8 ∨ k = 9 ∨ k = 10 ∨ k = 11 ∨ k = 12 ∨ k = 13 ∨ k = 14 ∨ k = 15 ∨ k = 16 ∨ k = 17 ∨ k = 18 ∨ k = 19 ∨ k = 20 ∨ k = 21 ∨ k = 22 ∨ k = 23 ∨ k = 24 ∨ k = 25 ∨ k = 26 ∨ k = 27 ∨ k = 28 ∨ k = 29 ∨ k = 30 ∨ k = 31 ∨ k = 32 ∨ k = 33 ∨ k = 34 ∨ k = 35 ∨ 36 ≤ k := by omega
  rcases alt with rfl | rfl | rfl | rfl | rfl | rfl | rfl | rfl | rfl | rfl | rfl | rfl | rfl | rfl | rfl | rfl | rfl | rfl | rfl | rfl | rfl | rfl | rfl | rfl | rfl | rfl | rfl | rfl | rfl | rfl | rfl | rfl | rfl | rfl | rfl | rfl | hk2
  · obtain ⟨υ, e, q⟩ := Lc_terms (d := 499) x1 x2 hi hL k0 (K_terms hC hM hW (xs (i + 1)) (xs (i + 2)))
    exact ⟨υ, (hd.trans a227_33_0).trans e, q⟩
  · obtain ⟨υ, e, q⟩ := Lc_rain (d := 499) x1 x2 hi hL k0 (K_rain hC hM hW (xs (i + 1)) (xs (i + 2)))
    exact ⟨υ, (hd.trans a227_33_1).trans e, q⟩
  · obtain ⟨υ, e, q⟩ := Lc_feed (d := 499) x1 x2 hi hL k0 (K_feed hC hM hW (xs (i + 1)) (xs (i + 2)) (xs (i + 3)) (xs (i + 4)) (xs (i + 5)))
    exact ⟨υ, (hd.trans a227_33_2).trans e, q⟩
  · obtain ⟨υ, e, q⟩ := Lc_end (d := 499) x1 x2 hi hL k0 (K_end hC hM hW (xs (i + 1)))
    exact ⟨υ, (hd.trans a227_33_3).trans e, q⟩
  · obtain ⟨υ, e, q⟩ := Lc_row (d := 499) x1 x2 hi hL k0 (K_row hC hM hW)
    exact ⟨υ, (hd.trans a227_33_4).trans e, q⟩
  · obtain ⟨υ, e, q⟩ := Lc_fog (d := 499) x1 x2 hi hL k0 (K_fog hC hM hW)
    exact ⟨υ, (hd.trans a227_33_5).trans e, q⟩
  · obtain ⟨υ, e, q⟩ := Lc_law (d := 499) x1 x2 hi hL k0 (K_law hC hM hW)
    exact ⟨υ, (hd.trans a227_33_6).trans e, q⟩
  · obtain ⟨υ, e, q⟩ := Lc_fault (d := 499) x1 x2 hi hL k0 (K_fault hC hM hW)
    exact ⟨υ, (hd.trans a227_33_7).trans e, q⟩
  · obtain ⟨υ, e, q⟩ := Lc_force (d := 499) x1 x2 hi hL k0 (K_force hC hM hW (xs (i + 1)))
    exact ⟨υ, (hd.trans a227_33_8).trans e, q⟩
  · obtain ⟨υ, e, q⟩ := Lc_of (d := 499) x1 x2 hi hL k0 (K_of hC hM hW (xs (i + 1)) (xs (i + 2)) (xs (i + 3)) (xs (i + 4)))
    exact ⟨υ, (hd.trans a227_33_9).trans e, q⟩
  · obtain ⟨υ, e, q⟩ := Lc_lend (d := 499) x1 x2 hi hL k0 (K_lend hC hM hW (xs (i + 1)) (xs (i + 2)) (xs (i + 3)))
    exact ⟨υ, (hd.trans a227_33_10).trans e, q⟩
  · obtain ⟨υ, e, q⟩ := Lc_home (d := 499) x1 x2 hi hL k0 (K_home hC hM hW (xs (i + 1)) (xs (i + 2)))
    exact ⟨υ, (hd.trans a227_33_11).trans e, q⟩
  · obtain ⟨υ, e, q⟩ := Lc_undo (d := 499) x1 x2 hi hL k0 (K_undo hC hM hW)
    exact ⟨υ, (hd.trans a227_33_12).trans e, q⟩
  · obtain ⟨υ, e, q⟩ := Lc_live (d := 499) x1 x2 hi hL k0 (K_live hC hM hW (xs (i + 1)) (xs (i + 2)) (xs (i + 3)))
    exact ⟨υ, (hd.trans a227_33_13).trans e, q⟩
  · obtain ⟨υ, e, q⟩ := Lc_when (d := 499) x1 x2 hi hL k0 (K_when hC hM hW (xs (i + 1)) (xs (i + 2)) (xs (i + 3)))
    exact ⟨υ, (hd.trans a227_33_14).trans e, q⟩
  · obtain ⟨υ, e, q⟩ := Lc_age (d := 499) x1 x2 hi hL k0 (K_age hC hM hW (xs (i + 1)) (xs (i + 2)) (xs (i + 3)))
    exact ⟨υ, (hd.trans a227_33_15).trans e, q⟩
  · obtain ⟨υ, e, q⟩ := Lc_wages (d := 499) x1 x2 hi hL k0 (K_wages hC hM hW (xs (i + 1)) (xs (i + 2)))
    exact ⟨υ, (hd.trans a227_33_16).trans e, q⟩
  · obtain ⟨υ, e, q⟩ := Lc_gap (d := 499) x1 x2 hi hL k0 (K_gap hC hM hW (xs (i + 1)))
    exact ⟨υ, (hd.trans a227_33_17).trans e, q⟩
  · obtain ⟨υ, e, q⟩ := Lc_owes (d := 499) x1 x2 hi hL k0 (K_owes hC hM hW (xs (i + 1)) (xs (i + 2)))
    exact ⟨υ, (hd.trans a227_33_18).trans e, q⟩
  · obtain ⟨υ, e, q⟩ := Lc_away (d := 499) x1 x2 hi hL k0 (K_away hC hM hW)
    exact ⟨υ, (hd.trans a227_33_19).trans e, q⟩
  · obtain ⟨υ, e, q⟩ := Lc_ring (d := 499) x1 x2 hi hL k0 (K_ring hC hM hW (xs (i + 1)))
    exact ⟨υ, (hd.trans a227_33_20).trans e, q⟩
  · obtain ⟨υ, e, q⟩ := Lc_easter (d := 499) x1 x2 hi hL k0 (K_easter hC hM hW (xs (i + 1)) (xs (i + 2)))
    exact ⟨υ, (hd.trans a227_33_21).trans e, q⟩
  · obtain ⟨υ, e, q⟩ := Lc_trade (d := 499) x1 x2 hi hL k0 (K_trade hC hM hW (xs (i + 1)) (xs (i + 2)) (xs (i + 3)))
    exact ⟨υ, (hd.trans a227_33_22).trans e, q⟩
  · obtain ⟨υ, e, q⟩ := Lc_chain (d := 499) x1 x2 hi hL k0 (K_chain hC hM hW (xs (i + 1)) (xs (i + 2)))
    exact ⟨υ, (hd.trans a227_33_23).trans e, q⟩
  · obtain ⟨υ, e, q⟩ := Lc_last (d := 499) x1 x2 hi hL k0 (K_last hC hM hW (xs (i + 1)) (xs (i + 2)) (xs (i + 3)))
    exact ⟨υ, (hd.trans a227_33_24).trans e, q⟩
  · obtain ⟨υ, e, q⟩ := Lc_price (d := 499) x1 x2 hi hL k0 (K_price hC hM hW (xs (i + 1)))
    exact ⟨υ, (hd.trans a227_33_25).trans e, q⟩
  · obtain ⟨υ, e, q⟩ := Lc_deed (d := 499) x1 x2 hi hL k0 (K_deed hC hM hW (xs (i + 1)) (xs (i + 2)) (xs (i + 3)))
    exact ⟨υ, (hd.trans a227_33_26).trans e, q⟩
  · obtain ⟨υ, e, q⟩ := Lc_burn (d := 499) x1 x2 hi hL k0 (K_burn hC hM hW (xs (i + 1)))
    exact ⟨υ, (hd.trans a227_33_27).trans e, q⟩
  · obtain ⟨υ, e, q⟩ := Lc_forged (d := 499) x1 x2 hi hL k0 (K_forged hC hM hW (xs (i + 1)))
    exact ⟨υ, (hd.trans a227_33_28).trans e, q⟩
  · obtain ⟨υ, e, q⟩ := Lc_explains (d := 499) x1 x2 hi hL k0 (K_explains hC hM hW (xs (i + 1)))
    exact ⟨υ, (hd.trans a227_33_29).trans e, q⟩
  · obtain ⟨υ, e, q⟩ := Lc_year (d := 499) x1 x2 hi hL k0 (K_year hC hM hW (xs (i + 1)) (xs (i + 2)))
    exact ⟨υ, (hd.trans a227_33_30).trans e, q⟩
  · obtain ⟨υ, e, q⟩ := Lc_drawn (d := 499) x1 x2 hi hL k0 (K_drawn hC hM hW (xs (i + 1)) (xs (i + 2)))
    exact ⟨υ, (hd.trans a227_33_31).trans e, q⟩
  · obtain ⟨υ, e, q⟩ := Lc_image (d := 499) x1 x2 hi hL k0 (K_image hC hM hW hW2 (xs (i + 1)))
    exact ⟨υ, (hd.trans a227_33_32).trans e, q⟩
  · obtain ⟨υ, e, q⟩ := Lc_back (d := 499) x1 x2 hi hL k0 (K_back hC hM hW hW2 (xs (i + 1)))
    exact ⟨υ, (hd.trans a227_33_33).trans e, q⟩
  · obtain ⟨υ, e, q⟩ := Lc_count (d := 499) x1 x2 hi hL k0 (K_count hC hM hW (xs (i + 1)))
    exact ⟨υ, (hd.trans a227_33_34).trans e, q⟩
  · obtain ⟨υ, e, q⟩ := Lc_status (d := 499) x1 x2 hi hL k0 (K_status hC hM hW)
    exact ⟨υ, (hd.trans a227_33_35).trans e, q⟩
  · refine ⟨σ, (hd.trans (a227_33_d (Or.inr (by rw [nI_toInt (by omega)]; omega)))).trans ?_, R, hC, hM, hW, rfl, ⟨by omega, by omega⟩, id⟩
    simp (disch := omega) only [a227_1250, a227_1253, CO, HA, HB, HC, Nat.not_lt_zero, Nat.add_assoc, c_nlt, c_nle, c_neq, c_P, c_cl, c_m1, c_m1', nI_add, pk_mul, reduceIte, Nat.reduceEqDiff, Nat.reduceAdd, Nat.reduceMul, Nat.reduceLeDiff, eq_self]
set_option maxRecDepth 20000 in
theorem Lall (B : Nat) (hB : B ≤ 100000) (hL : L ≤ 3072) : ∀ (n i : Nat) (σ : Hp) (R : AllT), L + 6 ≤ i + n → i ≤ L + 6 → RC σ R → RM σ R → RW R → RLw σ → hX σ = (L, xs) → hN σ ≤ 85 + 2 * i → hS σ ≤ B + 1025 * i → ∃ υ, den (500, 227, 18, [.retAddr 0, .ref 0, .ref 57, .int (nI i)], [], σ) = some (some (.int 1), υ) ∧ hN υ ≤ 600000 ∧ hS υ ≤ 7302250 := by
  intro n
  induction n with
  | zero =>
    intro i σ R h1 h2 hC hM hW hl hx hn hs
    exact ⟨σ, Lex (d := 499) (L := L) (by rw [hx]) (by omega) (by omega) hL, by omega, by omega⟩
  | succ n ih =>
    intro i σ R h1 h2 hC hM hW hl hx hn hs
    by_cases hi : i + 6 ≤ L
    · obtain ⟨υ, e, R', c1, c2, c3, c4, ⟨c5, c6⟩, c7⟩ := Lstep (xs := xs) hC hM hW hl (by rw [hx]) (by rw [hx]) hi hL
      have b1 : hN υ ≤ 85 + 2 * (i + 6) := by clear e c1 c2 c3 c7 hC hM hW hl ih; omega
      have b2 : hS υ ≤ B + 1025 * (i + 6) := by clear e c1 c2 c3 c7 hC hM hW hl ih; omega
      obtain ⟨ω, f1, f2⟩ := ih (i + 6) υ R' (by omega) (by omega) c1 c2 c3 (c7 hl) (c4.trans hx) b1 b2
      exact ⟨ω, e.trans f1, f2⟩
    · exact ⟨σ, Lex (d := 499) (L := L) (by rw [hx]) hi (by omega) hL, by omega, by omega⟩
end
