section
variable {G : Gx} {B : Bas} {m d pc n : Nat} {ls st : List Value} {σ : Hp} {y : Fr}
theorem csum_cv (l : List Value) : ((l.map (cv B)).map fun v => v.category).sum = csum l := by
  unfold csum
  rw [List.map_map]
  congr 1
  refine List.map_congr_left fun v _ => ?_
  exact cv_cat B v
theorem stp_inv {z : Sx} (h : stp (d, m, pc, ls, st, σ) = some z) : ∃ (i : Instr) (n : Nat), mxC m pc = some (i, n) ∧ stI i n d m pc ls st σ = some z := by
  unfold stp at h
  dsimp only at h
  split at h
  · next q e => exact ⟨q.1, q.2, e, h⟩
  · cases h
theorem end_q {s : State} {H : Heap} {locs : List Loc} {args : Array Value} {v : Option Value} (hH : HR G B σ H) (hW : va_S (fr0 B) s.heap H locs) (hB : B.1 ≤ s.heap.size) : ∀ t : State, t.heap = H → s.WarmedH t.vm → Qe G B (v, σ) args s (.returned (v.map (cv B))) t :=
  fun t ht _ => ⟨rfl, by rw [ht]; exact hH, fun q hq => by rw [ht]; exact hW.2.1 q (Nat.lt_of_lt_of_le hq hB) (Nat.not_le.mpr hq)⟩
theorem snd_ret {i : Instr} {r : Rs} (hC : mxC m pc = some (i, n)) (h : stI i n d m pc ls st σ = some (.inl r)) : Snd G B (d, m, pc, ls, st, σ) r := by
  obtain ⟨hd, hlen⟩ := mx_dec hC
  rcases st_ret h with rfl | rfl | rfl | rfl
  · obtain rfl : n = 1 := hlen.resolve_left (by decide)
    dsimp only [stI] at h
    split at h
    · split at h
      · next t et =>
        split at h
        · next ht =>
          cases h
          refine ⟨⟨rfl, Nat.le_refl _, Nat.le_refl _⟩, ?_⟩
          intro p l e R s mm args below meth c H locs lsC nE sE C hRm h1 h2 h3 h4 hH hW hl
          obtain ⟨hx, hb, hml, hr, hlk, hown, hnm, hts, hKn, hB⟩ := C
          exact W.zret hx hb (hr.trans et) (mxT_spec (B := B) ht).1 (end_q (v := some (.int _)) hH hW hB) hW.2.2 hd hlk
        · cases h
      · cases h
    · cases h
  · obtain rfl : n = 1 := hlen.resolve_left (by decide)
    dsimp only [stI] at h
    split at h
    · split at h
      · next et =>
        cases h
        refine ⟨⟨rfl, Nat.le_refl _, Nat.le_refl _⟩, ?_⟩
        intro p l e R s mm args below meth c H locs lsC nE sE C hRm h1 h2 h3 h4 hH hW hl
        obtain ⟨hx, hb, hml, hr, hlk, hown, hnm, hts, hKn, hB⟩ := C
        exact W.lret hx hb (hr.trans et) (end_q (v := some (.long _)) hH hW hB) hW.2.2 hd hlk
      · cases h
    · cases h
  · obtain rfl : n = 1 := hlen.resolve_left (by decide)
    dsimp only [stI] at h
    split at h
    · split at h
      · next t et =>
        split at h
        · next ht =>
          cases h
          refine ⟨⟨rfl, Nat.le_refl _, Nat.le_refl _⟩, ?_⟩
          intro p l e R s mm args below meth c H locs lsC nE sE C hRm h1 h2 h3 h4 hH hW hl
          obtain ⟨hx, hb, hml, hr, hlk, hown, hnm, hts, hKn, hB⟩ := C
          refine W.aret hx hb (hr.trans et) ?_ (Or.inr ⟨_, rfl⟩) (end_q (v := some (.ref _)) hH hW hB) hW.2.2 hd hlk
          cases t <;> first | (cases ht; done) | exact Or.inl ⟨_, rfl⟩ | exact Or.inr ⟨_, rfl⟩
        · cases h
      · cases h
    · split at h
      · next t et =>
        split at h
        · next ht =>
          cases h
          refine ⟨⟨rfl, Nat.le_refl _, Nat.le_refl _⟩, ?_⟩
          intro p l e R s mm args below meth c H locs lsC nE sE C hRm h1 h2 h3 h4 hH hW hl
          obtain ⟨hx, hb, hml, hr, hlk, hown, hnm, hts, hKn, hB⟩ := C
          refine W.aret hx hb (hr.trans et) ?_ (Or.inl rfl) (end_q (v := some .null) hH hW hB) hW.2.2 hd hlk
          cases t <;> first | (cases ht; done) | exact Or.inl ⟨_, rfl⟩ | exact Or.inr ⟨_, rfl⟩
        · cases h
      · cases h
    · cases h
  · obtain rfl : n = 1 := hlen.resolve_left (by decide)
    dsimp only [stI] at h
    split at h
    · split at h
      · next et =>
        cases h
        refine ⟨⟨rfl, Nat.le_refl _, Nat.le_refl _⟩, ?_⟩
        intro p l e R s mm args below meth c H locs lsC nE sE C hRm h1 h2 h3 h4 hH hW hl
        obtain ⟨hx, hb, hml, hr, hlk, hown, hnm, hts, hKn, hB⟩ := C
        exact W.vret hx hb (hr.trans et) (end_q (v := none) hH hW hB) hW.2.2 hd hlk
      · cases h
    · cases h
theorem snd_core {e cal : Nat} {as rest : List Value} {r1 r : Rs} (h1 : Snd G B (e, cal, 0, mxE cal as, [], σ) r1) (h2 : Snd G B (e + 1, m, pc + 3, ls, r1.1.toList ++ rest, r1.2) r)
    (hrun : ∀ (p : Program) (l : Launch) (e' : Env) (R : Room) (s : State) (mm : MethodId) (args : Array Value) (below : List Frame) (meth : Method) (c : Code) (H : Heap) (locs : List Loc) (lsC : Array Slot) (cells slots : Nat), Cx G B (hX σ) p s mm args meth c m → RmOK R (e + 1) → HR G B σ H → va_S (fr0 B) s.heap H locs → LH B lsC (mxI m).2.1 ls → cells + (hN r1.2 - hN σ) ≤ R.cells → slots + (hS r1.2 - hS σ) ≤ R.slots →
      ∃ a : Array Value, va_Run p l e' R s mm args below meth c H locs cells slots (hN r1.2 - hN σ) (hS r1.2 - hS σ) (F0 mm pc lsC (st.map (cv B))) (rest.map (cv B)) (Qe G B r1 a) (fr0 B)) : Snd G B (e + 1, m, pc, ls, st, σ) r := by
  have m1 : hX r1.2 = hX σ := h1.1.1
  have m2 : hN σ ≤ hN r1.2 := h1.1.2.1
  have m3 : hS σ ≤ hS r1.2 := h1.1.2.2
  have m4 : hX r.2 = hX r1.2 := h2.1.1
  have m5 : hN r1.2 ≤ hN r.2 := h2.1.2.1
  have m6 : hS r1.2 ≤ hS r.2 := h2.1.2.2
  refine ⟨⟨m4.trans m1, Nat.le_trans m2 m5, Nat.le_trans m3 m6⟩, ?_⟩
  intro p l e' R s mm args below meth c H locs lsC nE sE C hRm g1 g2 g3 g4 hH hW hl
  dsimp only at C hRm g1 g2 g3 g4 hH hl ⊢
  obtain ⟨a, hr⟩ := hrun p l e' R s mm args below meth c H locs lsC (hN σ - nE) (hS σ - sE) C hRm hH hW hl (by omega) (by omega)
  refine after_call hr C.2.2.2.2.2.2.2.2.2 hW hH m2 (fun H1 locs1 hH1 hW1 => ?_)
  have := h2.2 p l e' R s mm args below meth c H1 locs1 lsC nE sE (by rw [← m1] at C; exact C) hRm g1 g2 (Nat.le_trans g3 m2) (Nat.le_trans g4 m3) hH1 hW1 hl
  dsimp only at this
  rw [show hN σ - nE + (hN r1.2 - hN σ) = hN r1.2 - nE by omega, show hS σ - sE + (hS r1.2 - hS σ) = hS r1.2 - sE by omega, toList_cv]
  exact this
theorem mi_lt : miAll.all (fun q => decide (q.1 < 100)) = true := by decide +kernel
theorem mxI_lt (m : Nat) : (mxI m).1 < 100 := by
  unfold mxI
  rw [List.getD_eq_getElem?_getD]
  cases h : miAll[m]? with
  | none => show 0 < 100; omega
  | some q => exact of_decide_eq_true (List.all_eq_true.mp mi_lt q (List.mem_of_getElem? h))
theorem mx_recv {H : Heap} {X : Nat × (Nat → Int32)} {s : State} {q c : Nat} (hKn : Kn G B X s) (hH : HR G B σ H) (hq : q < hN σ) (hk : hK σ q = c) (hc : c < 100) : ∃ cell : Cell, H[B.1 + q]? = some cell ∧ cell.vm.isStatics = false ∧ s.vm.findClass (owAll.getD c "") = some cell.cls := by
  have h := hH.2 q hq
  unfold cOK at h
  rw [if_pos (by omega), hk] at h
  obtain ⟨r, e, cell, g1, g2, g3, -⟩ := h
  exact ⟨cell, g1, by rw [g3]; rfl, by rw [ow_cl e, g2]; exact (hKn.1.1 c r e).2.1⟩
theorem snd_call {i : Instr} {z : Fr × (Option Value → Hp → Fr)} {r1 r : Rs} (hC : mxC m pc = some (i, n)) (h : stI i n d m pc ls st σ = some (.inr (.inr z))) (h1 : Snd G B z.1 r1) (h2 : Snd G B (z.2 r1.1 r1.2) r) : Snd G B (d, m, pc, ls, st, σ) r := by
  obtain ⟨hd, hlen⟩ := mx_dec hC
  rcases st_inv h with ⟨j, rfl⟩ | ⟨j, rfl⟩ | ⟨j, rfl⟩
  · obtain rfl : n = 3 := hlen.resolve_left (fun z => absurd (show (3 : Nat) = 0 from z) (by decide))
    obtain ⟨k, cal, as, rest, e, hk, ⟨na, hm, hcase⟩, rfl, ⟨hr4, hall⟩, hle, rfl⟩ := mxInv_inv h
    have hk0 : k = 0 := by
      rcases hcase with ⟨a, -⟩ | ⟨a, b, -⟩
      · exact a
      · simp only [Bool.or_eq_true, beq_iff_eq] at hk; omega
    subst hk0
    obtain ⟨hna, hst⟩ : as.length = na ∧ st = as.reverse ++ rest := by
      rcases hcase with ⟨-, a⟩ | ⟨a, -⟩
      · exact a
      · exact absurd rfl a
    obtain ⟨hcal, hdesc, hstat, hlink⟩ : cal < 227 ∧ (parseMethodDescriptor (mnG cal).desc).map (fun d => d.parameters.length) = some na ∧ Cond.static (mnG cal) ∈ TG ∧ Cond.methodLink (owG m) j (mnG cal) ∈ TG := by
      rcases ml_spec hm with ⟨a, -⟩ | ⟨a, -⟩ | ⟨a, -⟩ | ⟨a, -⟩ | ⟨a, -⟩ | ⟨a, b, ⟨-, c⟩ | ⟨c, -⟩ | ⟨c, -⟩ | ⟨c, -⟩⟩
      any_goals omega
      exact ⟨a, b, c⟩
    refine snd_core h1 h2 ?_
    intro p l e' R s mm args below meth c H locs lsC cells slots C hRm hH hW hl g1 g2
    obtain ⟨hx, hb, hml, hr, hlk, hown, hnm, hts, hKn, hB⟩ := C
    have hms := me_spec hcal
    refine ⟨_, va_runS (As := as.map (cv B)) ⟨hx, hb, hml, hown, hts⟩ (met_of h1 hcal hall hle l) ⟨callB_of na hts (wsM_good hcal) rfl rfl rfl (hts _ hms.1) (hts _ hlink) ⟨hms.2.2.1.1, hms.2.2.1.2, hdesc⟩ ⟨hRm.1, ?_⟩, hts _ hstat⟩ ⟨Pe_blind, fun U hU hWm => ⟨rfl, by rw [hU]; exact hH, Kn_warm hKn hWm (fun q hq => by rw [hU]; exact hW.2.1 q (Nat.lt_of_lt_of_le hq hB) (Nat.not_le.mpr hq))⟩⟩ rfl (by rw [List.length_map]; exact hna) hl.1 ?_ (lv_room (by rw [csum_cv]; exact hr4)) hd ⟨g1, g2⟩⟩
    · have := hRm.2; have := hms.2.2.2.2; show 8 + ((mxI cal).2.1 + 11) + 100 * e ≤ R.locals; omega
    · show st.map (cv B) = _
      rw [hst, List.map_append, List.map_reverse]
  · obtain rfl : n = 3 := hlen.resolve_left (fun z => absurd (show (3 : Nat) = 0 from z) (by decide))
    obtain ⟨k, cal, as, rest, e, hk, ⟨na, hm, hcase⟩, rfl, ⟨hr4, hall⟩, hle, rfl⟩ := mxInv_inv h
    have hk1 : k = 1 := by
      rcases hcase with ⟨a, -⟩ | ⟨a, b, -⟩ <;> (simp only [Bool.or_eq_true, beq_iff_eq] at hk; omega)
    subst hk1
    obtain ⟨q, as', rfl, hna, hst, hkd⟩ : ∃ (q : Nat) (as' : List Value), as = .ref q :: as' ∧ as'.length = na ∧ st = as'.reverse ++ .ref q :: rest ∧ kd σ q = (mxI cal).1 := by
      rcases hcase with ⟨a, -⟩ | ⟨-, -, a⟩
      · exact absurd a (by decide)
      · exact a
    obtain ⟨hq, hkq⟩ := kd_s hkd (Nat.lt_trans (mxI_lt cal) (by omega))
    obtain ⟨hcal, hdesc, hinst, hsel, hlink⟩ : cal < 227 ∧ (parseMethodDescriptor (mnG cal).desc).map (fun d => d.parameters.length) = some na ∧ Cond.instanceMethod (mnG cal) ∈ TG ∧ Cond.selects (mnG cal).cls (mnG cal) (mnG cal) ∈ TG ∧ Cond.methodLink (owG m) j (mnG cal) ∈ TG := by
      rcases ml_spec hm with ⟨a, -⟩ | ⟨a, -⟩ | ⟨a, -⟩ | ⟨a, -⟩ | ⟨a, -⟩ | ⟨a, b, ⟨c, -⟩ | ⟨-, c⟩ | ⟨c, -⟩ | ⟨c, -⟩⟩
      any_goals omega
      exact ⟨a, b, c⟩
    refine snd_core h1 h2 ?_
    intro p l e' R s mm args below meth c H locs lsC cells slots C hRm hH hW hl g1 g2
    obtain ⟨hx, hb, hml, hr, hlk, hown, hnm, hts, hKn, hB⟩ := C
    have hms := me_spec hcal
    refine ⟨_, va_runV (b := B.1 + q) (C := (mnG cal).cls) (As := as'.map (cv B)) ⟨hx, hb, hml, hown, hts⟩ (met_of h1 hcal hall hle l) ⟨callB_of na hts (wsM_good hcal) rfl rfl rfl (hts _ hms.1) (hts _ hlink) ⟨hms.2.2.1.1, hms.2.2.1.2, hdesc⟩ ⟨hRm.1, ?_⟩, hts _ hinst, hts _ hsel⟩ ⟨Pe_blind, by rw [hms.2.2.2.1]; exact mx_recv hKn hH hq hkq (mxI_lt cal), fun U hU hWm => ⟨rfl, by rw [hU]; exact hH, Kn_warm hKn hWm (fun q hq => by rw [hU]; exact hW.2.1 q (Nat.lt_of_lt_of_le hq hB) (Nat.not_le.mpr hq))⟩⟩ rfl (by rw [List.length_map]; exact hna) hl.1 ?_ (lv_room (by rw [csum_cv]; exact hr4)) hd ⟨g1, g2⟩⟩
    · have := hRm.2; have := hms.2.2.2.2; show 8 + ((mxI cal).2.1 + 11) + 100 * e ≤ R.locals; omega
    · show st.map (cv B) = _
      rw [hst, List.map_append, List.map_reverse]
      rfl
  · obtain rfl : n = 3 := hlen.resolve_left (fun z => absurd (show (3 : Nat) = 0 from z) (by decide))
    obtain ⟨k, cal, as, rest, e, hk, ⟨na, hm, hcase⟩, rfl, ⟨hr4, hall⟩, hle, rfl⟩ := mxInv_inv h
    have hk1 : k = 2 ∨ k = 12 := by
      rcases hcase with ⟨a, -⟩ | ⟨a, b, -⟩ <;> (simp only [Bool.or_eq_true, beq_iff_eq] at hk; omega)
    obtain ⟨q, as', rfl, hna, hst, hkd⟩ : ∃ (q : Nat) (as' : List Value), as = .ref q :: as' ∧ as'.length = na ∧ st = as'.reverse ++ .ref q :: rest ∧ kd σ q = (mxI cal).1 := by
      rcases hcase with ⟨a, -⟩ | ⟨-, -, a⟩
      · omega
      · exact a
    obtain ⟨hq, hkq⟩ := kd_s hkd (Nat.lt_trans (mxI_lt cal) (by omega))
    rcases hk1 with rfl | rfl
    · obtain ⟨hcal, hdesc, hini, hret, hinst, hlink⟩ : cal < 227 ∧ (parseMethodDescriptor (mnG cal).desc).map (fun d => d.parameters.length) = some na ∧ (mnG cal).name = "<init>" ∧ (mxI cal).2.2 = none ∧ Cond.instanceMethod (mnG cal) ∈ TG ∧ Cond.methodLink (owG m) j (mnG cal) ∈ TG := by
        rcases ml_spec hm with ⟨a, -⟩ | ⟨a, -⟩ | ⟨a, -⟩ | ⟨a, -⟩ | ⟨a, -⟩ | ⟨a, b, ⟨c, -⟩ | ⟨c, -⟩ | ⟨-, c⟩ | ⟨c, -⟩⟩
        any_goals omega
        exact ⟨a, b, c⟩
      refine snd_core h1 h2 ?_
      intro p l e' R s mm args below meth c H locs lsC cells slots C hRm hH hW hl g1 g2
      obtain ⟨hx, hb, hml, hr, hlk, hown, hnm, hts, hKn, hB⟩ := C
      have hms := me_spec hcal
      have cb := callB_of (rm := rmD e (hN r1.2 - hN σ) (hS r1.2 - hS σ)) (R := R) na hts (wsM_good hcal) rfl rfl rfl (hts _ hms.1) (hts _ hlink) ⟨hms.2.2.1.1, hms.2.2.1.2, hdesc⟩ ⟨hRm.1, by have := hRm.2; have := hms.2.2.2.2; show 8 + ((mxI cal).2.1 + 11) + 100 * e ≤ R.locals; omega⟩
      rw [hret] at cb
      refine ⟨_, va_runI (b := B.1 + q) (As := as'.map (cv B)) ⟨hx, hb, hml, hown, hts⟩ (met_of h1 hcal hall hle l) ⟨cb, hini, hts _ hinst⟩ ⟨Pe_blind, fun U hU hWm => ⟨rfl, by rw [hU]; exact hH, Kn_warm hKn hWm (fun q hq => by rw [hU]; exact hW.2.1 q (Nat.lt_of_lt_of_le hq hB) (Nat.not_le.mpr hq))⟩⟩ rfl (by rw [List.length_map]; exact hna) hl.1 ?_ (lv_room (by rw [csum_cv]; exact hr4)) hd ⟨g1, g2⟩⟩
      show st.map (cv B) = _
      rw [hst, List.map_append, List.map_reverse]
      rfl
    · obtain ⟨hcal, hdesc, hini, hret, hinst, hnest⟩ : cal < 227 ∧ (parseMethodDescriptor (mnG cal).desc).map (fun d => d.parameters.length) = some na ∧ (mnG cal).name = "<init>" ∧ (mxI cal).2.2 = none ∧ Cond.instanceMethod (mnG cal) ∈ TG ∧ (owG m, j, mnG cal) ∈ nests := by
        rcases ml_spec hm with ⟨a, -⟩ | ⟨a, -⟩ | ⟨a, -⟩ | ⟨a, -⟩ | ⟨a, -⟩ | ⟨a, b, ⟨c, -⟩ | ⟨c, -⟩ | ⟨c, -⟩ | ⟨-, c⟩⟩
        any_goals omega
        exact ⟨a, b, c⟩
      refine snd_core h1 h2 ?_
      intro p l e' R s mm args below meth c H locs lsC cells slots C hRm hH hW hl g1 g2
      obtain ⟨hx, hb, hml, hr, hlk, hown, hnm, hts, hKn, hB⟩ := C
      have hms := me_spec hcal
      have cb := va_cnB (rm := rmD e (hN r1.2 - hN σ) (hS r1.2 - hS σ)) (R := R) (host := RX11) na hts (wsM_good hcal) rfl rfl rfl (hKn.2.2.1 _ hnest) (hts _ hms.1) ⟨hms.2.2.1.1, hms.2.2.1.2, hdesc⟩ ⟨hRm.1, by have := hRm.2; have := hms.2.2.2.2; show 8 + ((mxI cal).2.1 + 11) + 100 * e ≤ R.locals; omega⟩
      rw [hret] at cb
      refine ⟨_, va_runIN (b := B.1 + q) (As := as'.map (cv B)) ⟨hx, hb, hml, hown, hts⟩ (met_of h1 hcal hall hle l) ⟨cb, hini, hts _ hinst⟩ ⟨Pe_blind, fun U hU hWm => ⟨rfl, by rw [hU]; exact hH, Kn_warm hKn hWm (fun q hq => by rw [hU]; exact hW.2.1 q (Nat.lt_of_lt_of_le hq hB) (Nat.not_le.mpr hq))⟩⟩ rfl (by rw [List.length_map]; exact hna) hl.1 ?_ (lv_room (by rw [csum_cv]; exact hr4)) hd ⟨g1, g2⟩⟩
      show st.map (cv B) = _
      rw [hst, List.map_append, List.map_reverse]
      rfl
theorem snd_next {i : Instr} {r : Rs} (hC : mxC m pc = some (i, n)) (h : stI i n d m pc ls st σ = some (.inr (.inl y))) (h2 : Snd G B y r) : Snd G B (d, m, pc, ls, st, σ) r := by
  obtain ⟨d', m', pc', ls', st', τ⟩ := y
  obtain ⟨e1, e2, e3, e4, e5, hg⟩ := go_next (G := G) (B := B) hC h
  dsimp only at e1 e2 e3 e4 e5 hg
  subst e1
  subst e2
  have m1 : hX r.2 = hX τ := h2.1.1
  have m2 : hN τ ≤ hN r.2 := h2.1.2.1
  have m3 : hS τ ≤ hS r.2 := h2.1.2.2
  refine ⟨⟨m1.trans e3, Nat.le_trans e4 m2, Nat.le_trans e5 m3⟩, ?_⟩
  intro p l e R s mm args below meth c H locs lsC nE sE C hRm g1 g2 g3 g4 hH hW hl
  dsimp only at C hRm g1 g2 g3 g4 hH hl ⊢
  refine hg p l e R s mm args below meth c H locs lsC nE sE _ C hRm (by dsimp only; omega) (by dsimp only; omega) g3 g4 hH hW hl (fun H1 locs1 lsC1 hH1 hW1 hl1 => ?_)
  exact h2.2 p l e R s mm args below meth c H1 locs1 lsC1 nE sE (by dsimp only; rw [e3]; exact C) hRm g1 g2 (Nat.le_trans g3 e4) (Nat.le_trans g4 e5) hH1 hW1 hl1
end
/-- SOUNDNESS -/
theorem snd_all (G : Gx) (B : Bas) : ∀ (n : Nat) (x : Fr) (r : Rs), run n x = some r → Snd G B x r := by
  intro n
  induction n with
  | zero => intro x r h; cases h
  | succ n ih =>
    intro x r h
    obtain ⟨d, m, pc, ls, st, σ⟩ := x
    rcases e : stp (d, m, pc, ls, st, σ) with _ | (q | y | ⟨y, k⟩)
    · rw [run_none e] at h; cases h
    · rw [run_ret e] at h
      cases h
      obtain ⟨i, n', hC, hI⟩ := stp_inv e
      exact snd_ret hC hI
    · rw [run_next e] at h
      obtain ⟨i, n', hC, hI⟩ := stp_inv e
      exact snd_next hC hI (ih y r h)
    · rw [run_call e, Option.bind_eq_some_iff] at h
      obtain ⟨r1, h1, h2⟩ := h
      obtain ⟨i, n', hC, hI⟩ := stp_inv e
      exact snd_call hC hI (ih y r1 h1) (ih _ r h2)
theorem snd_den (G : Gx) (B : Bas) {x : Fr} {r : Rs} (h : den x = some r) : Snd G B x r := by
  obtain ⟨n, hn⟩ := den_iff.mp h
  exact snd_all G B n x r hn
