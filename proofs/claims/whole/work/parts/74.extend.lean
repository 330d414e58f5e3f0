/-! ring: extend -/
theorem c_sub {a b : Nat} (h : b ≤ a) : nI a - nI b = nI (a - b) := by rw [zI_sub_n, ← Int.ofNat_sub h, zI_n]
def Qxe (τ υ : Hp) : Prop := Ag (fun z => Nat.beq z 29) (fun _ _ => false) τ υ
theorem Qxe_t {a b c : Hp} (g : Qxe a b) (h : Qxe b c) : Qxe a c := Ag_t g h
theorem Qxe_C {a b : Hp} (g : Qxe a b) (h : FxC a) : FxC b := FxC_a g (by decide) h
def Crd (τ : Hp) (E : Nat → Nat → Bool) (v : Nat) : Prop := ∀ u, u < v → hI τ 30 u = nI (mk (E u) 8)
def Cm (E : Nat → Nat → Bool) (few set dep : Nat) (m y : Nat → Nat) : Prop := Cy E y few ∧ bs y few = set ∧ ∀ i, i < dep → y i = m i
section
variable {d v : Nat} {E : Nat → Nat → Bool}
theorem C_ext0 {few set dep L : Nat} {m : Nat → Nat} {τ : Hp} (hv : v ≤ 8) (hE : ∀ a b, E a b = true → a < v ∧ b < v) (h2 : 2 ≤ few) (h8 : few ≤ 8) (hs : set < 256) (hd : 1 ≤ dep) (hL : L < 256) (hp : pop 8 L + dep = few) (hC : FxC τ) (hsz : hF τ 28 1 = .int (nI few)) (hcr : Crd τ E v) (hm : ∀ i, i < dep → hI τ 29 i = nI (m i)) (hmv : ∀ i, i < dep → m i < v) (hpt : Pt E m dep) (hLb : ∀ c, c < 8 → (L.testBit c = true ↔ set.testBit c = true ∧ ∀ i, i < dep → m i ≠ c)) (hsb : ∀ i, i < dep → set.testBit (m i) = true) (hlo : ∀ c, c < 8 → set.testBit c = true → m 0 ≤ c) (hz : L = 0) : Ev (den (d, 10, 0, [.ref 28, .int (nI L), .int (nI dep), .float 0, .float 0], [], τ)) (fun a υ => Qxe τ υ ∧ ((a = some (.int (nI 0)) ∧ (∀ i, i < dep → hI υ 29 i = nI (m i)) ∧ ∀ y, ¬ Cm E few set dep m y) ∨ (a = some (.int (nI 1)) ∧ ∃ y, Cm E few set dep m y ∧ (∀ i, i < few → hI υ 29 i = nI (y i)) ∧ ∀ y', Cm E few set dep m y' → dg y few ≤ dg y' few))) := by
  subst hz
  have p0 : pop 8 0 = 0 := by decide
  rw [p0] at hp
  obtain rfl : dep = few := by omega
  have bse : bs m dep = set := by
    refine Nat.eq_of_testBit_eq (fun c => ?_)
    by_cases hc : c < 8
    · rw [Bool.eq_iff_iff, bs_t]
      constructor
      · rintro ⟨i, h1, rfl⟩; exact hsb i h1
      · intro h
        have z := hLb c hc
        simp only [Nat.zero_testBit, Bool.false_eq_true, false_iff, h, true_and] at z
        exact Classical.byContradiction (fun n => z (fun i hi q => n ⟨i, hi, q⟩))
    · have l1 : bs m dep < 2 ^ 8 := bs_lt hpt.1
      rw [Nat.testBit_lt_two_pow (Nat.lt_of_lt_of_le l1 (Nat.pow_le_pow_right (by omega) (by omega))), Nat.testBit_lt_two_pow (Nat.lt_of_lt_of_le (show set < 2 ^ 8 from hs) (Nat.pow_le_pow_right (by omega) (by omega)))]
  have cl : mk (E (m (dep - 1))) 8 < 2 ^ 8 := mk_lt
  have ri := r_is _ cl (m 0) (hpt.1 0 (by omega))
  rw [mk_t, decide_eq_true (hpt.1 0 (by omega)), Bool.true_and] at ri
  have h1 := hm (dep - 1) (by omega)
  have h0 := hm 0 (by omega)
  have h3 := hcr _ (hmv (dep - 1) (by omega))
  have m8 := hpt.1 (dep - 1) (by omega)
  by_cases q : E (m (dep - 1)) (m 0) = true
  · rw [if_pos q] at ri
    refine Ev_e (o' := some (some (.int (nI 1)), τ)) ?_ (Ev_s ⟨Ag_r, Or.inr ⟨rfl, m, ⟨⟨h2, h8, hpt, q⟩, bse, fun i hi => rfl⟩, hm, fun y' hy' => ?_⟩⟩)
    · by_cases e8 : dep < 8
      · simp (disch := first | omega | (repeat (first | assumption | exact Ag_r | refine Ag_I ?_ rfl | refine Ag_F ?_ rfl | refine Ag_J ?_ rfl))) only [A10, FC hC, hsz, c_sub (show 1 ≤ dep by omega), h1, h0, h3, ri, CO, HA, HB, HC, Nat.not_lt_zero, Nat.add_assoc, c_nlt, c_nle, c_neq, c_P, c_cl, c_m1, c_m1', nI_add, pk_mul, reduceIte, Nat.reduceEqDiff, Nat.reduceAdd, Nat.reduceMul, Nat.reduceLeDiff, eq_self, ↓pk_rem, pk_div, c_of, d_le, d_nle, d_lt, d_nlt, d_eq, d_ne]
      · obtain rfl : dep = 8 := by omega
        simp (disch := first | omega | (repeat (first | assumption | exact Ag_r | refine Ag_I ?_ rfl | refine Ag_F ?_ rfl | refine Ag_J ?_ rfl))) only [A10, FC hC, hsz, c_sub (show 1 ≤ 8 by omega), h1, h0, h3, ri, CO, HA, HB, HC, Nat.not_lt_zero, Nat.add_assoc, c_nlt, c_nle, c_neq, c_P, c_cl, c_m1, c_m1', nI_add, pk_mul, reduceIte, Nat.reduceEqDiff, Nat.reduceAdd, Nat.reduceMul, Nat.reduceLeDiff, eq_self, ↓pk_rem, pk_div, c_of, d_le, d_nle, d_lt, d_nlt, d_eq, d_ne]
    · exact Nat.le_of_eq (dg_e (fun i hi => (hy'.2.2 i hi).symm))
  · rw [if_neg q] at ri
    refine Ev_e (o' := some (some (.int (nI 0)), τ)) ?_ (Ev_s ⟨Ag_r, Or.inl ⟨rfl, hm, fun y hy => q ?_⟩⟩)
    · by_cases e8 : dep < 8
      · simp (disch := first | omega | (repeat (first | assumption | exact Ag_r | refine Ag_I ?_ rfl | refine Ag_F ?_ rfl | refine Ag_J ?_ rfl))) only [A10, FC hC, hsz, c_sub (show 1 ≤ dep by omega), h1, h0, h3, ri, CO, HA, HB, HC, Nat.not_lt_zero, Nat.add_assoc, c_nlt, c_nle, c_neq, c_P, c_cl, c_m1, c_m1', nI_add, pk_mul, reduceIte, Nat.reduceEqDiff, Nat.reduceAdd, Nat.reduceMul, Nat.reduceLeDiff, eq_self, ↓pk_rem, pk_div, c_of, d_le, d_nle, d_lt, d_nlt, d_eq, d_ne]
      · obtain rfl : dep = 8 := by omega
        simp (disch := first | omega | (repeat (first | assumption | exact Ag_r | refine Ag_I ?_ rfl | refine Ag_F ?_ rfl | refine Ag_J ?_ rfl))) only [A10, FC hC, hsz, c_sub (show 1 ≤ 8 by omega), h1, h0, h3, ri, CO, HA, HB, HC, Nat.not_lt_zero, Nat.add_assoc, c_nlt, c_nle, c_neq, c_P, c_cl, c_m1, c_m1', nI_add, pk_mul, reduceIte, Nat.reduceEqDiff, Nat.reduceAdd, Nat.reduceMul, Nat.reduceLeDiff, eq_self, ↓pk_rem, pk_div, c_of, d_le, d_nle, d_lt, d_nlt, d_eq, d_ne]
    · rw [← hy.2.2 (dep - 1) (by omega), ← hy.2.2 0 (by omega)]; exact hy.1.2.2.2
theorem C_ext {few set : Nat} (hv : v ≤ 8) (hE : ∀ a b, E a b = true → a < v ∧ b < v) (h2 : 2 ≤ few) (h8 : few ≤ 8) (hs : set < 256) : ∀ (k dep L : Nat) (m : Nat → Nat) (τ : Hp), dep + k = 8 → 1 ≤ dep → L < 256 → pop 8 L + dep = few → FxC τ → hF τ 28 1 = .int (nI few) → Crd τ E v → (∀ i, i < dep → hI τ 29 i = nI (m i)) → (∀ i, i < dep → m i < v) → Pt E m dep → (∀ c, c < 8 → (L.testBit c = true ↔ set.testBit c = true ∧ ∀ i, i < dep → m i ≠ c)) → (∀ i, i < dep → set.testBit (m i) = true) → (∀ c, c < 8 → set.testBit c = true → m 0 ≤ c) → Ev (den (d + k, 10, 0, [.ref 28, .int (nI L), .int (nI dep), .float 0, .float 0], [], τ)) (fun a υ => Qxe τ υ ∧ ((a = some (.int (nI 0)) ∧ (∀ i, i < dep → hI υ 29 i = nI (m i)) ∧ ∀ y, ¬ Cm E few set dep m y) ∨ (a = some (.int (nI 1)) ∧ ∃ y, Cm E few set dep m y ∧ (∀ i, i < few → hI υ 29 i = nI (y i)) ∧ ∀ y', Cm E few set dep m y' → dg y few ≤ dg y' few))) := by
  intro k
  induction k with
  | zero =>
    intro dep L m τ hk hd hL hp hC hsz hcr hm hmv hpt hLb hsb hlo
    exact C_ext0 hv hE h2 h8 hs hd hL hp hC hsz hcr hm hmv hpt hLb hsb hlo (r_pop0 L hL (by omega))
  | succ k ih =>
    intro dep L m τ hk hd hL hp hC hsz hcr hm hmv hpt hLb hsb hlo
    by_cases hz : L = 0
    · exact C_ext0 hv hE h2 h8 hs hd hL hp hC hsz hcr hm hmv hpt hLb hsb hlo hz
    · have hpos : 0 < pop 8 L := Nat.pos_of_ne_zero (fun q => hz (r_pop0 L hL q))
      have ml := hmv (dep - 1) (by omega)
      have cl : mk (E (m (dep - 1))) 8 < 2 ^ 8 := mk_lt
      have al : (L &&& mk (E (m (dep - 1))) 8) < 256 := Nat.and_lt_two_pow (n := 8) L cl
      have bt : ∀ i, i < 8 → ((L &&& mk (E (m (dep - 1))) 8).testBit i = true ↔ L.testBit i = true ∧ E (m (dep - 1)) i = true) := fun i hi => by rw [Nat.testBit_and, mk_t, decide_eq_true hi, Bool.true_and, Bool.and_eq_true]
      have yb : ∀ y, Cm E few set dep m y → y dep < 8 ∧ L.testBit (y dep) = true ∧ E (m (dep - 1)) (y dep) = true := by
        intro y hy
        have y8 := hy.1.2.2.1.1 dep (by omega)
        refine ⟨y8, (hLb _ y8).mpr ⟨?_, fun i hi => ?_⟩, ?_⟩
        · rw [← hy.2.1]; exact (bs_t _).mpr ⟨dep, by omega, rfl⟩
        · rw [← hy.2.2 i hi]; exact hy.1.2.2.1.2.2.1 i dep hi (by omega)
        · have := hy.1.2.2.1.2.2.2 (dep - 1) (by omega)
          rw [hy.2.2 (dep - 1) (by omega), show dep - 1 + 1 = dep by omega] at this
          exact this
      rw [← Nat.add_assoc]
      generalize d + k = e at ih ⊢
      refine Ev_e (o' := den (e + 1, 10, 73, [.ref 28, .int (nI L), .int (nI dep), .int (nI (L &&& mk (E (m (dep - 1))) 8)), .int (nI 0)], [], τ)) ?_ ?_
      · have h1 := hm (dep - 1) (by omega)
        have h3 := hcr _ ml
        simp (disch := first | omega | (repeat (first | assumption | exact Ag_r | refine Ag_I ?_ rfl | refine Ag_F ?_ rfl | refine Ag_J ?_ rfl))) only [A10, FC hC, hz, c_sub (show 1 ≤ dep by omega), h1, h3, r_and hL cl, CO, HA, HB, HC, Nat.not_lt_zero, Nat.add_assoc, c_nlt, c_nle, c_neq, c_P, c_cl, c_m1, c_m1', nI_add, pk_mul, reduceIte, Nat.reduceEqDiff, Nat.reduceAdd, Nat.reduceMul, Nat.reduceLeDiff, eq_self, ↓pk_rem, pk_div, c_of, d_le, d_nle, d_lt, d_nlt, d_eq, d_ne]
      refine lp (α := Hp) (h := fun i υ => (e + 1, 10, 73, [.ref 28, .int (nI L), .int (nI dep), .int (nI (L &&& mk (E (m (dep - 1))) 8)), .int (nI i)], [], υ)) (I := fun i υ => Qxe τ υ ∧ (∀ j, j < dep → hI υ 29 j = nI (m j)) ∧ ∀ y, Cm E few set dep m y → i ≤ y dep) 8 ?_ ?_ 0 τ (by omega) ⟨Ag_r, hm, fun y hy => Nat.zero_le _⟩
      · rintro i υ hi ⟨g, hm', hy⟩ nx
        have c2 := Qxe_C g hC
        show Ev (den (e + 1, 10, 73, [.ref 28, .int (nI L), .int (nI dep), .int (nI (L &&& mk (E (m (dep - 1))) 8)), .int (nI i)], [], υ)) _
        rw [a10_73]
        have ri := r_is _ al i hi
        by_cases q : (L &&& mk (E (m (dep - 1))) 8).testBit i = true
        · obtain ⟨q1, q2⟩ := (bt i hi).mp q
          rw [if_pos q] at ri
          obtain ⟨rc1, rc2, rc3⟩ := r_clr L hL i hi
          simp (disch := first | omega | (repeat (first | assumption | exact Ag_r | refine Ag_I ?_ rfl | refine Ag_F ?_ rfl | refine Ag_J ?_ rfl))) only [a10_75, a10_77, a10_80, a10_81, a10_83, a10_84, a10_85, a10_86, a10_87, a10_90, a10_91, a10_94, a10_95, a10_97, a10_98, a10_99, a10_100, a10_101, a10_103, a10_104, a10_105, a10_106, a10_107, a10_108, a10_109, a10_110, FC c2, ri, rc1, CO, HA, HB, HC, Nat.not_lt_zero, Nat.add_assoc, c_nlt, c_nle, c_neq, c_P, c_cl, c_m1, c_m1', nI_add, pk_mul, reduceIte, Nat.reduceEqDiff, Nat.reduceAdd, Nat.reduceMul, Nat.reduceLeDiff, eq_self, ↓pk_rem, pk_div, c_of, d_le, d_nle, d_lt, d_nlt, d_eq, d_ne]
          have ga : Qxe υ (sI υ 29 (upd (hI υ 29) dep (nI i))) := Ag_I Ag_r rfl
          have gg := Qxe_t g ga
          obtain ⟨m', mi, mo⟩ : ∃ m' : Nat → Nat, m' dep = i ∧ ∀ j, j < dep → m' j = m j := ⟨fun j => if j = dep then i else m j, if_pos rfl, fun j hj => if_neg (by omega)⟩
          have iv := (hE _ _ q2).2
          have qs := (hLb i hi).mp q1
          refine Ev_b (ih (dep + 1) (clr L i) m' _ (by omega) (by omega) rc2 (by have := rc3 q1; omega) (Qxe_C gg hC) (by rw [Ag_f gg 28 1 rfl]; exact hsz) (fun u hu => by rw [Ag_i gg 30 rfl]; exact hcr u hu) (fun j hj => ?_) (fun j hj => ?_) ?_ (fun c hc => ?_) (fun j hj => ?_) (fun c hc hc2 => ?_)) ?_
          · simp only [HA, reduceIte, ua]
            by_cases z : j = dep
            · rw [if_pos z, z, mi]
            · rw [if_neg z, mo j (by omega)]; exact hm' j (by omega)
          · by_cases z : j = dep
            · rw [z, mi]; exact iv
            · rw [mo j (by omega)]; exact hmv j (by omega)
          · refine ⟨fun j hj => ?_, fun j hj h0 => ?_, fun j l hj hl => ?_, fun j hj => ?_⟩
            · by_cases z : j = dep
              · rw [z, mi]; exact hi
              · rw [mo j (by omega)]; exact hpt.1 j (by omega)
            · rw [mo 0 (by omega)]
              by_cases z : j = dep
              · rw [z, mi]
                have := hlo i hi qs.1
                have := qs.2 0 (by omega)
                omega
              · rw [mo j (by omega)]; exact hpt.2.1 j (by omega) h0
            · rw [mo j (by omega)]
              by_cases z : l = dep
              · rw [z, mi]; exact qs.2 j (by omega)
              · rw [mo l (by omega)]; exact hpt.2.2.1 j l hj (by omega)
            · rw [mo j (by omega)]
              by_cases z : j + 1 = dep
              · rw [z, mi, show j = dep - 1 by omega]; exact q2
              · rw [mo (j + 1) (by omega)]; exact hpt.2.2.2 j (by omega)
          · rw [r_clt L hL i hi c hc, Bool.and_eq_true, hLb c hc, Bool.not_eq_true', decide_eq_false_iff_not]
            constructor
            · rintro ⟨⟨z1, z2⟩, z3⟩
              refine ⟨z1, fun j hj => ?_⟩
              by_cases z : j = dep
              · rw [z, mi]; exact fun w => z3 w.symm
              · rw [mo j (by omega)]; exact z2 j (by omega)
            · rintro ⟨z1, z2⟩
              refine ⟨⟨z1, fun j hj => ?_⟩, fun w => ?_⟩
              · have := z2 j (by omega)
                rw [mo j hj] at this
                exact this
              · have := z2 dep (by omega)
                rw [mi] at this
                exact this w.symm
          · by_cases z : j = dep
            · rw [z, mi]; exact qs.1
            · rw [mo j (by omega)]; exact hsb j (by omega)
          · rw [mo 0 (by omega)]; exact hlo c hc hc2
          · rintro _ w ⟨gw, ⟨rfl, w1, w2⟩ | ⟨rfl, y, w1, w2, w3⟩⟩
            · have gt := Qxe_t gg gw
              refine Ev_e ?_ (nx w ⟨gt, fun j hj => by rw [w1 j (by omega), mo j hj], fun y hy' => ?_⟩)
              · simp (disch := first | omega | (repeat (first | assumption | exact Ag_r | refine Ag_I ?_ rfl | refine Ag_F ?_ rfl | refine Ag_J ?_ rfl))) only [A10, CO, HA, HB, HC, Nat.not_lt_zero, Nat.add_assoc, c_nlt, c_nle, c_neq, c_P, c_cl, c_m1, c_m1', nI_add, pk_mul, reduceIte, Nat.reduceEqDiff, Nat.reduceAdd, Nat.reduceMul, Nat.reduceLeDiff, eq_self, ↓pk_rem, pk_div, c_of, d_le, d_nle, d_lt, d_nlt, d_eq, d_ne]
              · have a1 := hy y hy'
                have a2 : y dep ≠ i := fun z => w2 y ⟨hy'.1, hy'.2.1, fun j hj => by
                  by_cases zz : j = dep
                  · rw [zz, mi]; exact z
                  · rw [mo j (by omega)]; exact hy'.2.2 j (by omega)⟩
                omega
            · have gt := Qxe_t gg gw
              have yd : y dep = i := by rw [w1.2.2 dep (by omega), mi]
              simp (disch := first | omega | (repeat (first | assumption | exact Ag_r | refine Ag_I ?_ rfl | refine Ag_F ?_ rfl | refine Ag_J ?_ rfl))) only [A10, CO, HA, HB, HC, Nat.not_lt_zero, Nat.add_assoc, c_nlt, c_nle, c_neq, c_P, c_cl, c_m1, c_m1', nI_add, pk_mul, reduceIte, Nat.reduceEqDiff, Nat.reduceAdd, Nat.reduceMul, Nat.reduceLeDiff, eq_self, ↓pk_rem, pk_div, c_of, d_le, d_nle, d_lt, d_nlt, d_eq, d_ne]
              refine Ev_s ⟨gt, Or.inr ⟨rfl, y, ⟨w1.1, w1.2.1, fun j hj => by rw [w1.2.2 j (by omega), mo j hj]⟩, w2, fun y' hy' => ?_⟩⟩
              have a1 := hy y' hy'
              by_cases z : y' dep = i
              · exact w3 y' ⟨hy'.1, hy'.2.1, fun j hj => by
                  by_cases zz : j = dep
                  · rw [zz, mi]; exact z
                  · rw [mo j (by omega)]; exact hy'.2.2 j (by omega)⟩
              · refine Nat.le_of_lt (dg_lex (i := dep) (fun j hj => ?_) (by omega) (by omega) w1.1.2.2.1.1)
                rw [w1.2.2 j (by omega), mo j hj, hy'.2.2 j hj]
        · rw [if_neg q] at ri
          refine Ev_e ?_ (nx υ ⟨g, hm', fun y hy' => ?_⟩)
          · simp (disch := first | omega | (repeat (first | assumption | exact Ag_r | refine Ag_I ?_ rfl | refine Ag_F ?_ rfl | refine Ag_J ?_ rfl))) only [A10, FC c2, ri, CO, HA, HB, HC, Nat.not_lt_zero, Nat.add_assoc, c_nlt, c_nle, c_neq, c_P, c_cl, c_m1, c_m1', nI_add, pk_mul, reduceIte, Nat.reduceEqDiff, Nat.reduceAdd, Nat.reduceMul, Nat.reduceLeDiff, eq_self, ↓pk_rem, pk_div, c_of, d_le, d_nle, d_lt, d_nlt, d_eq, d_ne]
          · have a1 := hy y hy'
            obtain ⟨b1, b2, b3⟩ := yb y hy'
            have a2 : y dep ≠ i := fun z => q ((bt i hi).mpr ⟨by rw [← z]; exact b2, by rw [← z]; exact b3⟩)
            omega
      · rintro υ ⟨g, hm', hy⟩
        show Ev (den (e + 1, 10, 73, [.ref 28, .int (nI L), .int (nI dep), .int (nI (L &&& mk (E (m (dep - 1))) 8)), .int (nI 8)], [], υ)) _
        rw [a10_73]
        simp (disch := first | omega | (repeat (first | assumption | exact Ag_r | refine Ag_I ?_ rfl | refine Ag_F ?_ rfl | refine Ag_J ?_ rfl))) only [A10, CO, HA, HB, HC, Nat.not_lt_zero, Nat.add_assoc, c_nlt, c_nle, c_neq, c_P, c_cl, c_m1, c_m1', nI_add, pk_mul, reduceIte, Nat.reduceEqDiff, Nat.reduceAdd, Nat.reduceMul, Nat.reduceLeDiff, eq_self, ↓pk_rem, pk_div, c_of, d_le, d_nle, d_lt, d_nlt, d_eq, d_ne]
        exact Ev_s ⟨g, Or.inl ⟨rfl, hm', fun y hy' => by have a1 := hy y hy'; have a2 := (yb y hy').1; omega⟩⟩
end
