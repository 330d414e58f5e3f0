/-! instructions that read, write or make cells -/
section
variable {G : Gx} {B : Bas} {m d pc : Nat} {ls : List Value} {σ : Hp} {r : List Value}
theorem Kn_ty {X : Nat × (Nat → Int32)} {s : State} (h : Kn G B X s) (t : Nat) {q : ClassId × FieldType} (e : (tysG G)[t]? = some q) : ArrOfT s q.1 q.2 ∧ va_RA s q.1 q.2 := h.1.2 t q e
theorem vS_put {H0 H H1 : Heap} {locs : List Loc} {q k : Nat} (h : va_S (fr0 B) H0 H locs) (z : H1.size = H.size) (oq : ∀ a : Nat, a ≠ B.1 + q → H1[a]? = H[a]?) : va_S (fr0 B) H0 H1 (locs ++ [⟨B.1 + q, k⟩]) := h.put z oq (Nat.le_add_right _ _)
theorem vS_push {H0 H H1 : Heap} {locs : List Loc} (h : va_S (fr0 B) H0 H locs) (z : H1.size = H.size + 1) (oq : ∀ a : Nat, a < H.size → H1[a]? = H[a]?) : va_S (fr0 B) H0 H1 locs := ⟨Nat.le_trans h.1 (by omega), fun q g1 g2 => (oq q (Nat.lt_of_lt_of_le g1 h.1)).trans (h.2.1 q g1 g2), h.2.2⟩
theorem go_get {i c j q : Nat} {fin : Bool} {ty : FieldType} (hd : decode (mbG m) pc = .ok (.getfield i, 3)) (hf : mxF m i = some (c, j, fin, ty)) (hq : q < hN σ) (hk : hK σ q = c) : Go G B m d (pc, ls, .ref q :: r, σ) (pc + 3, ls, hF σ q j :: r, σ) := by
  intro p l e R s mm args below meth cc H locs lsC nE sE Q C hRm h1 h2 h3 h4 hH hW hl k
  obtain ⟨hx, hb, hml, hr, hlk, hown, hnm, hts, hKn, hB⟩ := C
  obtain ⟨r0, g1, g2, g3, g4, g5, g6, g7⟩ := fl_spec hf
  obtain ⟨cell, q1, q2, q3, q4⟩ := cOK_obj (hH.2 q hq) hk g1
  obtain ⟨hSl, hfc, kC, hkC, hkind⟩ := hKn.1.1 c _ g1
  obtain ⟨cf, kf, fi, f, hi, hsl⟩ := hSl j g2
  refine W.getf hx hb hown (hts _ g3) hi (u_facts hfc hkC (u_lays hts (cl_P g1).1 g2) hi).1 q1 (by rw [q3]; exact fun h => by cases h) (v := cv B (hF σ q j)) ?_ rfl rfl hd (k H locs lsC hH hW hl)
  rw [hsl]
  exact q4 j g2
theorem mxT_spec {ty : FieldType} {v : Value} (h : mxT ty v = true) : narrow ty (cv B v) = cv B v ∧ fits ty (cv B v) = true := by
  cases ty <;> cases v <;> first | (simp [mxT] at h; done) | exact ⟨rfl, rfl⟩ | (simp only [mxT, Bool.or_eq_true, beq_iff_eq] at h; rcases h with rfl | rfl <;> exact ⟨rfl, rfl⟩)
theorem sF_fields {q j j' : Nat} {v : Value} : hF (sF σ q j v) q j' = if j' = j then v else hF σ q j' := by
  show (if q = q ∧ j' = j then v else hF σ q j') = _
  by_cases e : j' = j
  · rw [if_pos ⟨rfl, e⟩, if_pos e]
  · rw [if_neg (fun z => e z.2), if_neg e]
theorem go_put {i c j q : Nat} {fin : Bool} {ty : FieldType} {v : Value} (hd : decode (mbG m) pc = .ok (.putfield i, 3)) (hf : mxF m i = some (c, j, fin, ty)) (hq : q < hN σ) (hk : hK σ q = c) (ht : mxT ty v = true) (hfin : fin = false ∨ (c = (mxI m).1 ∧ (mnG m).name = "<init>")) : Go G B m d (pc, ls, v :: .ref q :: r, σ) (pc + 3, ls, r, sF σ q j v) := by
  intro p l e R s mm args below meth cc H locs lsC nE sE Q C hRm h1 h2 h3 h4 hH hW hl k
  obtain ⟨hx, hb, hml, hr, hlk, hown, hnm, hts, hKn, hB⟩ := C
  obtain ⟨r0, g1, g2, g3, g4, g5, g6, g7⟩ := fl_spec hf
  obtain ⟨cell, q1, q2, q3, q4⟩ := cOK_obj (hH.2 q hq) hk g1
  obtain ⟨hSl, hfc, kC, hkC, hkind⟩ := hKn.1.1 c _ g1
  obtain ⟨cf, kf, fi, f, hi, hsl⟩ := hSl j g2
  obtain ⟨cP1, ⟨ty0, cP2⟩, cP3⟩ := cl_P g1
  have hap := va_apart (own := owG m) hts cP1 ty0 cP2 cP3 hKn.1 g1
  have hst := (u_facts hfc hkC (u_lays hts cP1 g2) hi).1
  obtain ⟨n1, n2⟩ := mxT_spec (B := B) ht
  have fin1 : ∀ H' : Heap, H'[B.1 + q]? = some (cell.setSlot f.slot (cv B v)) → H'.size = H.size → (∀ a, a ≠ B.1 + q → H'[a]? = H[a]?) → W p l e R s mm args below meth cc H' (locs ++ [⟨B.1 + q, f.slot⟩]) (hN σ - nE) (hS σ - sE) Q (F0 mm (pc + 3) lsC (r.map (cv B))) := by
    intro H' e1 e2 e3
    refine k H' _ lsC (HR_set hH rfl (fun k' hk' => sF_same hk') e2 e3 (cOK_obj_of (r := r0) (show hK σ q = c from hk) g1 ?_)) (vS_put hW e2 e3) hl
    rw [hsl] at e1
    refine t_OB.to (V := updV (fun j' => cv B (hF σ q j')) j (cv B v)) ⟨_, e1, q2, q3, t_set q4 hap g2 (cv B v)⟩ (fun j' _ => ?_)
    rw [sF_fields]
    unfold updV
    split <;> rfl
  have hlay := hts _ (cP1 _ (u_in_lay g2))
  unfold u_lay at hlay
  cases fin with
  | false =>
    rw [if_neg (by rw [g4]; decide)] at hlay
    have h6 := u_store hfc hkC hkind hlay hi g5 n1 n2
    exact W.putK hx hb (f := f) ⟨hown, hts _ g3, ⟨_, _, _, hi⟩, hst⟩ (by rw [q2]; exact h6) q1 q3 (by rw [hsl]; exact k2_hasslot (q4 j g2)) rfl rfl hd fin1
  | true =>
    rw [if_pos g4] at hlay
    obtain ⟨hco, hin⟩ : c = (mxI m).1 ∧ (mnG m).name = "<init>" := hfin.resolve_left (by decide)
    have hcf : mm.cls = cf := by
      obtain ⟨_, _, c', _, _, _, -, -, hf', -, -, -, hown2, -⟩ := Cond.laysFinal_spec hlay
      have e1 : c' = cf := by have := hi.symm.trans hf'; simp at this; exact this.1.symm
      rw [g6, ← g7, hco] at hown2
      rw [← e1]; exact Option.some.inj (hown.symm.trans hown2)
    have h6 := u_fits hfc hkC hkind (Or.inr hlay) hi g5 n1 n2
    exact W.putFinK hx hb hown (hts _ g3) hi hst hcf (hnm.trans hin) (by rw [q2]; exact h6) q1 q3 (by rw [hsl]; exact k2_hasslot (q4 j g2)) rfl rfl hd fin1
theorem go_alen {q c t : Nat} {ty : FieldType} (hd : decode (mbG m) pc = .ok (.arraylength, 1)) (hq : q < hN σ) (hk : hK σ q = c) (hc : 100 ≤ c) (ht : (tysG G)[t]? = some (G.2 c, ty)) : Go G B m d (pc, ls, .ref q :: r, σ) (pc + 1, ls, .int (Int32.ofNat (hL σ q)) :: r, σ) := by
  intro p l e R s mm args below meth cc H locs lsC nE sE Q C hRm h1 h2 h3 h4 hH hW hl k
  obtain ⟨hx, hb, hml, hr, hlk, hown, hnm, hts, hKn, hB⟩ := C
  have hc1 := cOK_arr (hH.2 q hq) hk hc
  have ha := (Kn_ty hKn t ht).1
  have sz : (vp_cell (G.2 c) (hL σ q, rowE B σ q)).slots.size = hL σ q := by
    rcases rowE B σ q with f | f | f | f | f <;> exact arrV_size _ _ _
  have arr : s.isArrayOf (vp_cell (G.2 c) (hL σ q, rowE B σ q)) ty := by
    rcases rowE B σ q with f | f | f | f | f <;> exact ha _ _
  exact W.alen (n := Int32.ofNat (hL σ q)) hx hb hc1 arr (by rw [sz]) rfl rfl hd (k H locs lsC hH hW hl)
theorem go_slen (hd : decode (mbG m) pc = .ok (.arraylength, 1)) : Go G B m d (pc, ls, .retAddr 0 :: r, σ) (pc + 1, ls, .int (Int32.ofNat (hX σ).1) :: r, σ) := by
  intro p l e R s mm args below meth cc H locs lsC nE sE Q C hRm h1 h2 h3 h4 hH hW hl k
  obtain ⟨hx, hb, hml, hr, hlk, hown, hnm, hts, hKn, hB⟩ := C
  obtain ⟨hX1, hb1⟩ := hKn.2.2.2.1
  exact va_slen hx hb hX1 (Nat.lt_of_lt_of_le hb1 hB) (Nat.not_le.mpr hb1) hW hd (k H locs lsC hH hW hl)
theorem go_sld {i : Int32} (hd : decode (mbG m) pc = .ok (.iaload, 1)) (hi : mxP i (hX σ).1) : Go G B m d (pc, ls, .int i :: .retAddr 0 :: r, σ) (pc + 1, ls, .int ((hX σ).2 i.toNatClampNeg) :: r, σ) := by
  intro p l e R s mm args below meth cc H locs lsC nE sE Q C hRm h1 h2 h3 h4 hH hW hl k
  obtain ⟨hx, hb, hml, hr, hlk, hown, hnm, hts, hKn, hB⟩ := C
  obtain ⟨hX1, hb1⟩ := hKn.2.2.2.1
  exact va_sld hx hb hX1 (Nat.lt_of_lt_of_le hb1 hB) (Nat.not_le.mpr hb1) hW hi hd (k H locs lsC hH hW hl)
theorem go_iald {i : Int32} {q : Nat} (hd : decode (mbG m) pc = .ok (.iaload, 1)) (hq : q < hN σ) (hk : hK σ q = 100) (hi : mxP i (hL σ q)) : Go G B m d (pc, ls, .int i :: .ref q :: r, σ) (pc + 1, ls, .int (hI σ q i.toNatClampNeg) :: r, σ) := by
  intro p l e R s mm args below meth cc H locs lsC nE sE Q C hRm h1 h2 h3 h4 hH hW hl k
  obtain ⟨hx, hb, hml, hr, hlk, hown, hnm, hts, hKn, hB⟩ := C
  have hc1 := cOK_arr (hH.2 q hq) hk (by omega)
  rw [rowE_I hk (Or.inl rfl), vp_cell_i] at hc1
  have hlt : i.toNatClampNeg < hL σ q := Nat.not_le.mp fun z => hi (Or.inr z)
  exact W.iald (v := .int (hI σ q i.toNatClampNeg)) hx hb hc1 ((Kn_ty hKn 0 rfl).1 _ _) (fun z => by cases z) (by rw [arrV_size]; exact hi) (arrV_read _ _ hlt) rfl rfl hd (k H locs lsC hH hW hl)
theorem go_zald {i : Int32} {q : Nat} (hd : decode (mbG m) pc = .ok (.baload, 1)) (hq : q < hN σ) (hk : hK σ q = 102) (hi : mxP i (hL σ q)) : Go G B m d (pc, ls, .int i :: .ref q :: r, σ) (pc + 1, ls, .int (hI σ q i.toNatClampNeg) :: r, σ) := by
  intro p l e R s mm args below meth cc H locs lsC nE sE Q C hRm h1 h2 h3 h4 hH hW hl k
  obtain ⟨hx, hb, hml, hr, hlk, hown, hnm, hts, hKn, hB⟩ := C
  have hc1 := cOK_arr (hH.2 q hq) hk (by omega)
  rw [rowE_I hk (Or.inr rfl), vp_cell_i] at hc1
  have hlt : i.toNatClampNeg < hL σ q := Nat.not_le.mp fun z => hi (Or.inr z)
  exact W.zald (v := .int (hI σ q i.toNatClampNeg)) hx hb hc1 ((Kn_ty hKn 2 rfl).1 _ _) (fun z => by cases z) (by rw [arrV_size]; exact hi) (arrV_read _ _ hlt) rfl rfl hd (k H locs lsC hH hW hl)
theorem go_lald {i : Int32} {q : Nat} (hd : decode (mbG m) pc = .ok (.laload, 1)) (hq : q < hN σ) (hk : hK σ q = 101) (hi : mxP i (hL σ q)) : Go G B m d (pc, ls, .int i :: .ref q :: r, σ) (pc + 1, ls, .long (hJ σ q i.toNatClampNeg) :: r, σ) := by
  intro p l e R s mm args below meth cc H locs lsC nE sE Q C hRm h1 h2 h3 h4 hH hW hl k
  obtain ⟨hx, hb, hml, hr, hlk, hown, hnm, hts, hKn, hB⟩ := C
  have hc1 := cOK_arr (hH.2 q hq) hk (by omega)
  rw [rowE_J hk, vp_cell_l] at hc1
  have hlt : i.toNatClampNeg < hL σ q := Nat.not_le.mp fun z => hi (Or.inr z)
  exact W.lald (v := .long (hJ σ q i.toNatClampNeg)) hx hb hc1 ((Kn_ty hKn 1 rfl).1 _ _) (fun z => by cases z) (by rw [arrV_size]; exact hi) (arrV_read _ _ hlt) rfl rfl hd (k H locs lsC hH hW hl)
theorem cv_mxQ (o : Option Nat) : cv B (mxQ o) = va_rf (o.map (fun q => B.1 + q)) := by cases o <;> rfl
theorem ref_ty {q : Nat} (hk : hK σ q = 103 ∨ hK σ q = 104) : ∃ (t : Nat) (C : String), (tysG G)[t]? = some (G.2 (hK σ q), .object C) := by
  rcases hk with h | h <;> rw [h]
  · exact ⟨3, _, rfl⟩
  · exact ⟨4, _, rfl⟩
theorem go_aald {i : Int32} {q : Nat} (hd : decode (mbG m) pc = .ok (.aaload, 1)) (hq : q < hN σ) (hk : hK σ q = 103 ∨ hK σ q = 104) (hi : mxP i (hL σ q)) : Go G B m d (pc, ls, .int i :: .ref q :: r, σ) (pc + 1, ls, mxQ (hR σ q i.toNatClampNeg) :: r, σ) := by
  intro p l e R s mm args below meth cc H locs lsC nE sE Q C hRm h1 h2 h3 h4 hH hW hl k
  obtain ⟨hx, hb, hml, hr, hlk, hown, hnm, hts, hKn, hB⟩ := C
  have hc1 := cOK_arr (c := hK σ q) (hH.2 q hq) rfl (by omega)
  rw [rowE_R hk, vp_cell_q] at hc1
  obtain ⟨t, C0, ht⟩ := ref_ty (G := G) hk
  have hlt : i.toNatClampNeg < hL σ q := Nat.not_le.mp fun z => hi (Or.inr z)
  refine W.aald (v := cv B (mxQ (hR σ q i.toNatClampNeg))) hx hb hc1 ((Kn_ty hKn t ht).1 _ _) rfl (fun z => by cases z) (by rw [arrV_size]; exact hi) ?_ rfl rfl hd (k H locs lsC hH hW hl)
  rw [arrV_read _ _ hlt, cv_mxQ]
theorem go_iast {i x : Int32} {q : Nat} (hd : decode (mbG m) pc = .ok (.iastore, 1)) (hq : q < hN σ) (hk : hK σ q = 100) (hi : mxP i (hL σ q)) : Go G B m d (pc, ls, .int x :: .int i :: .ref q :: r, σ) (pc + 1, ls, r, sI σ q (upd (hI σ q) i.toNatClampNeg x)) := by
  intro p l e R s mm args below meth cc H locs lsC nE sE Q C hRm h1 h2 h3 h4 hH hW hl k
  obtain ⟨hx, hb, hml, hr, hlk, hown, hnm, hts, hKn, hB⟩ := C
  have hc1 := cOK_arr (hH.2 q hq) hk (by omega)
  rw [rowE_I hk (Or.inl rfl), vp_cell_i] at hc1
  refine W.iast hx hb hc1 ((Kn_ty hKn 0 rfl).1 _ _) (fun z => by cases z) (by rw [arrV_size]; exact hi) rfl rfl hd fun H1 e1 e2 e3 => ?_
  refine k H1 _ lsC (HR_set hH rfl (fun k' hk' => sI_same hk') e2 e3 (cOK_arr_of (show hK σ q = 100 from hk) (by omega) ?_)) (vS_put hW e2 e3) hl
  rw [e1, rowE_I (show hK (sI σ q _) q = 100 from hk) (Or.inl rfl), vp_cell_i, arrV_store]
  have : hI (sI σ q (upd (hI σ q) i.toNatClampNeg x)) q = upd (hI σ q) i.toNatClampNeg x := by show (if q = q then _ else _) = _; rw [if_pos rfl]
  rw [this]
  congr 2
  funext j
  unfold updV upd
  split <;> rfl
theorem nar_bool (x : Int32) : narrow .boolean (.int x) = .int (vp_nar .boolean x) := rfl
theorem go_zast {i x : Int32} {q : Nat} (hd : decode (mbG m) pc = .ok (.bastore, 1)) (hq : q < hN σ) (hk : hK σ q = 102) (hi : mxP i (hL σ q)) : Go G B m d (pc, ls, .int x :: .int i :: .ref q :: r, σ) (pc + 1, ls, r, sI σ q (upd (hI σ q) i.toNatClampNeg (vp_nar .boolean x))) := by
  intro p l e R s mm args below meth cc H locs lsC nE sE Q C hRm h1 h2 h3 h4 hH hW hl k
  obtain ⟨hx, hb, hml, hr, hlk, hown, hnm, hts, hKn, hB⟩ := C
  have hc1 := cOK_arr (hH.2 q hq) hk (by omega)
  rw [rowE_I hk (Or.inr rfl), vp_cell_i] at hc1
  refine W.zast hx hb hc1 ((Kn_ty hKn 2 rfl).1 _ _) (fun z => by cases z) (by rw [arrV_size]; exact hi) rfl rfl hd fun H1 e1 e2 e3 => ?_
  refine k H1 _ lsC (HR_set hH rfl (fun k' hk' => sI_same hk') e2 e3 (cOK_arr_of (show hK σ q = 102 from hk) (by omega) ?_)) (vS_put hW e2 e3) hl
  rw [e1, rowE_I (show hK (sI σ q _) q = 102 from hk) (Or.inr rfl), vp_cell_i, arrV_store, nar_bool]
  have : hI (sI σ q (upd (hI σ q) i.toNatClampNeg (vp_nar .boolean x))) q = upd (hI σ q) i.toNatClampNeg (vp_nar .boolean x) := by show (if q = q then _ else _) = _; rw [if_pos rfl]
  rw [this]
  congr 2
  funext j
  unfold updV upd
  split <;> rfl
theorem go_last {i : Int32} {x : Int64} {q : Nat} (hd : decode (mbG m) pc = .ok (.lastore, 1)) (hq : q < hN σ) (hk : hK σ q = 101) (hi : mxP i (hL σ q)) : Go G B m d (pc, ls, .long x :: .int i :: .ref q :: r, σ) (pc + 1, ls, r, sJ σ q (vp_updL (hJ σ q) i.toNatClampNeg x)) := by
  intro p l e R s mm args below meth cc H locs lsC nE sE Q C hRm h1 h2 h3 h4 hH hW hl k
  obtain ⟨hx, hb, hml, hr, hlk, hown, hnm, hts, hKn, hB⟩ := C
  have hc1 := cOK_arr (hH.2 q hq) hk (by omega)
  rw [rowE_J hk, vp_cell_l] at hc1
  refine W.last hx hb hc1 ((Kn_ty hKn 1 rfl).1 _ _) (fun z => by cases z) (by rw [arrV_size]; exact hi) rfl rfl hd fun H1 e1 e2 e3 => ?_
  refine k H1 _ lsC (HR_set hH rfl (fun k' hk' => sJ_same hk') e2 e3 (cOK_arr_of (show hK σ q = 101 from hk) (by omega) ?_)) (vS_put hW e2 e3) hl
  rw [e1, rowE_J (show hK (sJ σ q _) q = 101 from hk), vp_cell_l, arrV_store]
  have : hJ (sJ σ q (vp_updL (hJ σ q) i.toNatClampNeg x)) q = vp_updL (hJ σ q) i.toNatClampNeg x := by show (if q = q then _ else _) = _; rw [if_pos rfl]
  rw [this]
  congr 2
  funext j
  unfold updV vp_updL
  split <;> rfl
theorem sR_row {q i : Nat} {o : Option Nat} : (fun j => va_rf ((hR (sR σ q (va_up (hR σ q) i o)) q j).map (fun z => B.1 + z))) = updV (fun j => va_rf ((hR σ q j).map (fun z => B.1 + z))) i (va_rf (o.map (fun z => B.1 + z))) := by
  have : hR (sR σ q (va_up (hR σ q) i o)) q = va_up (hR σ q) i o := by show (if q = q then _ else _) = _; rw [if_pos rfl]
  rw [this]
  funext j
  unfold updV va_up
  split <;> rfl
theorem go_aast {i : Int32} {q x cx : Nat} {t : Nat} {r0 : vw_C} (hd : decode (mbG m) pc = .ok (.aastore, 1)) (hq : q < hN σ) (hx0 : x < hN σ) (hk : hK σ q = 103 ∨ hK σ q = 104) (hkx : hK σ x = cx) (hr0 : vwCl[cx]? = some r0) (ht : (tysG G)[t]? = some (G.2 (hK σ q), .object r0.1)) (hi : mxP i (hL σ q)) : Go G B m d (pc, ls, .ref x :: .int i :: .ref q :: r, σ) (pc + 1, ls, r, sR σ q (va_up (hR σ q) i.toNatClampNeg (some x))) := by
  intro p l e R s mm args below meth cc H locs lsC nE sE Q C hRm h1 h2 h3 h4 hH hW hl k
  obtain ⟨hx, hb, hml, hr, hlk, hown, hnm, hts, hKn, hB⟩ := C
  have hc1 := cOK_arr (c := hK σ q) (hH.2 q hq) rfl (by omega)
  rw [rowE_R hk, vp_cell_q] at hc1
  have hlt : i.toNatClampNeg < hL σ q := Nat.not_le.mp fun z => hi (Or.inr z)
  have h0 : ¬ i < 0 := fun z => hi (Or.inl z)
  obtain ⟨cellV, g1, g2, g3, -⟩ := cOK_obj (hH.2 x hx0) hkx hr0
  have hcls := (hKn.1.1 cx r0 hr0).2
  obtain ⟨kA, comp, k1, k2, k3, -⟩ := (Kn_ty hKn t ht).2
  have hcomp : comp = G.1.1 cx := Option.some.inj (k3.symm.trans hcls.1)
  subst hcomp
  obtain ⟨kC, hkC, -⟩ := hcls.2
  refine W.aast hx hb hc1 (fun z h => by cases h) (fun h => by cases h) k1 k2 rfl hkC ⟨h0, by rw [arrV_size]; exact hlt⟩ g1 (fun z h => by rw [g3] at h; cases h) (by rw [g2]; exact hkC) (by rw [g2]; exact va_assign hcls) rfl rfl hd fun H1 e1 e2 e3 => ?_
  refine k H1 _ lsC (HR_set hH rfl (fun k' hk' => sR_same hk') e2 e3 (cOK_arr_of (c := hK σ q) rfl (by omega) ?_)) (vS_put hW e2 e3) hl
  rw [e1, rowE_R (show hK (sR σ q _) q = 103 ∨ hK (sR σ q _) q = 104 from hk), vp_cell_q, arrV_store, sR_row]
  rfl
theorem go_aastN {i : Int32} {q : Nat} (hd : decode (mbG m) pc = .ok (.aastore, 1)) (hq : q < hN σ) (hk : hK σ q = 103 ∨ hK σ q = 104) (hi : mxP i (hL σ q)) : Go G B m d (pc, ls, .null :: .int i :: .ref q :: r, σ) (pc + 1, ls, r, sR σ q (va_up (hR σ q) i.toNatClampNeg none)) := by
  intro p l e R s mm args below meth cc H locs lsC nE sE Q C hRm h1 h2 h3 h4 hH hW hl k
  obtain ⟨hx, hb, hml, hr, hlk, hown, hnm, hts, hKn, hB⟩ := C
  have hc1 := cOK_arr (c := hK σ q) (hH.2 q hq) rfl (by omega)
  rw [rowE_R hk, vp_cell_q] at hc1
  obtain ⟨t, C0, ht⟩ := ref_ty (G := G) hk
  refine va_WaastN (C := C0) hx hb hc1 ((Kn_ty hKn t ht).1 _ _) (fun h => by cases h) (by rw [arrV_size]; exact hi) rfl rfl hd fun H1 e1 e2 e3 => ?_
  refine k H1 _ lsC (HR_set hH rfl (fun k' hk' => sR_same hk') e2 e3 (cOK_arr_of (c := hK σ q) rfl (by omega) ?_)) (vS_put hW e2 e3) hl
  rw [e1, rowE_R (show hK (sR σ q _) q = 103 ∨ hK (sR σ q _) q = 104 from hk), vp_cell_q, arrV_store, sR_row]
  rfl
theorem nA_K {c n : Nat} : hK (nA σ c n) (hN σ) = c := by show (if hN σ = hN σ then c else _) = c; rw [if_pos rfl]
theorem nA_L {c n : Nat} : hL (nA σ c n) (hN σ) = n := by show (if hN σ = hN σ then n else _) = n; rw [if_pos rfl]
theorem nA_I {c n : Nat} : hI (nA σ c n) (hN σ) = fun _ => 0 := by show (if hN σ = hN σ then _ else _) = _; rw [if_pos rfl]
theorem nA_J {c n : Nat} : hJ (nA σ c n) (hN σ) = fun _ => 0 := by show (if hN σ = hN σ then _ else _) = _; rw [if_pos rfl]
theorem nA_R {c n : Nat} : hR (nA σ c n) (hN σ) = fun _ => none := by show (if hN σ = hN σ then _ else _) = _; rw [if_pos rfl]
theorem go_newa {x : Int32} {c t : Nat} {at0 : ArrayType} (hd : decode (mbG m) pc = .ok (.newarray at0, 2)) (hx0 : ¬ (x < 0 ∨ 65536 < x.toNatClampNeg)) (ht : (tysG G)[t]? = some (G.2 c, newarray.typeOf at0)) (hw : Cond.arrayClass (newarray.typeOf at0) ∈ TG) (hc : 100 ≤ c) (hby : componentBytes (newarray.typeOf at0) ≤ 8) (hra : ∀ (s : State) (cA : ClassId), va_RA s cA (newarray.typeOf at0) → s.vm.findClass ("[" ++ (newarray.typeOf at0).toString) = some cA)
    (hrow : ∀ n, vp_cell (G.2 c) (n, rowE B (nA σ c n) (hN σ)) = arrV (G.2 c) n (fun _ => defaultValue (newarray.typeOf at0))) : Go G B m d (pc, ls, .int x :: r, σ) (pc + 2, ls, .ref (hN σ) :: r, nA σ c x.toNatClampNeg) := by
  intro p l e R s mm args below meth cc H locs lsC nE sE Q C hRm h1 h2 h3 h4 hH hW hl k
  obtain ⟨hx, hb, hml, hr, hlk, hown, hnm, hts, hKn, hB⟩ := C
  have n1 : hN (nA σ c x.toNatClampNeg) = hN σ + 1 := rfl
  have n2 : hS (nA σ c x.toNatClampNeg) = hS σ + x.toNatClampNeg := rfl
  have h3 : nE ≤ hN σ := h3
  have h4 : sE ≤ hS σ := h4
  dsimp only at h1 h2 k
  rw [n1] at h1
  rw [n2] at h2
  rw [n1, n2] at k
  have hx1 : ¬ x < 0 := fun z => hx0 (Or.inl z)
  have hx2 : x.toNatClampNeg ≤ 65536 := Nat.not_lt.mp fun z => hx0 (Or.inr z)
  have e3' : hN σ + 1 - nE = hN σ - nE + 1 := by omega
  have e4' : hS σ + x.toNatClampNeg - sE = hS σ - sE + x.toNatClampNeg := by omega
  rw [e3'] at h1 k
  rw [e4'] at h2 k
  refine va_newaK hx hb (hts _ hw) rfl hd rfl hx1 rfl (Nat.le_trans (Nat.mul_le_mul hx2 hby) (by decide)) h1 h2 hH.1 fun H1 cA e1 z1 o1 hAr hNm => ?_
  have hcA : cA = G.2 c := Option.some.inj (hNm.symm.trans (hra s _ (Kn_ty hKn t ht).2))
  subst hcA
  have z1' : H1.size = H.size + 1 := by rw [z1, hH.1]
  have o1' : ∀ a, a < H.size → H1[a]? = H[a]? := fun a ha => o1 a (by rw [← hH.1]; exact ha)
  exact k H1 locs lsC (HR_push hH rfl (fun k' hk' => nA_same hk') z1' o1' (cOK_arr_of nA_K hc (by rw [e1, nA_L, hrow]))) (vS_push hW z1' o1') hl
theorem go_anew {x : Int32} {i c cx n : Nat} {t : Nat} {r0 : vw_C} (hd : decode (mbG m) pc = .ok (.anewarray i, 3)) (hn : mxN m i = some (cx, n)) (hr0 : vwCl[cx]? = some r0) (hx0 : ¬ (x < 0 ∨ 65536 < x.toNatClampNeg)) (ht : (tysG G)[t]? = some (G.2 c, .object r0.1)) (hc : c = 103 ∨ c = 104) (hao : ∀ s : State, va_AO RX5 s → va_AO RX9 s → va_AO r0.1 s) : Go G B m d (pc, ls, .int x :: r, σ) (pc + 3, ls, .ref (hN σ) :: r, nA σ c x.toNatClampNeg) := by
  intro p l e R s mm args below meth cc H locs lsC nE sE Q C hRm h1 h2 h3 h4 hH hW hl k
  obtain ⟨hx, hb, hml, hr, hlk, hown, hnm, hts, hKn, hB⟩ := C
  obtain ⟨r1, g1, g2, g3, g4, g5⟩ := cl_spec hn
  cases g1.symm.trans hr0
  have n1 : hN (nA σ c x.toNatClampNeg) = hN σ + 1 := rfl
  have n2 : hS (nA σ c x.toNatClampNeg) = hS σ + x.toNatClampNeg := rfl
  have h3 : nE ≤ hN σ := h3
  have h4 : sE ≤ hS σ := h4
  dsimp only at h1 h2 k
  rw [n1] at h1
  rw [n2] at h2
  rw [n1, n2] at k
  have hx1 : ¬ x < 0 := fun z => hx0 (Or.inl z)
  have hx2 : x.toNatClampNeg ≤ 65536 := Nat.not_lt.mp fun z => hx0 (Or.inr z)
  have e3' : hN σ + 1 - nE = hN σ - nE + 1 := by omega
  have e4' : hS σ + x.toNatClampNeg - sE = hS σ - sE + x.toNatClampNeg := by omega
  rw [e3'] at h1 k
  rw [e4'] at h2 k
  refine W.anew hx hb hown (hts _ g3) (va_AO.use (hao s hKn.2.1.1 hKn.2.1.2)) rfl hd rfl hx1 (by omega) h1 h2 fun cA kA comp f1 f2 f3 f4 => ?_
  obtain ⟨_, _, _, _, _, k4⟩ := (Kn_ty hKn t ht).2
  have hcA : cA = G.2 c := Option.some.inj (f1.symm.trans k4)
  subst hcA
  generalize hH1 : H.push ({ cls := G.2 c, slots := Array.replicate x.toNatClampNeg .null, vm := .none } : Cell) = H1
  have z1 : H1.size = H.size + 1 := by rw [← hH1, Array.size_push]
  have e1 : H1[H.size]? = some (arrV (G.2 c) x.toNatClampNeg (fun _ => .null)) := by rw [← hH1, Array.getElem?_push_size, ← arrV_new]
  have o1 : ∀ a : Nat, a < H.size → H1[a]? = H[a]? := fun a ha => by rw [← hH1, Array.getElem?_push, if_neg (Nat.ne_of_lt ha)]
  have hk := k H1 locs lsC (HR_push hH rfl (fun k' hk' => nA_same hk') z1 o1 (cOK_arr_of nA_K (by omega) (by
    rw [← hH.1, e1, nA_L, rowE_R (by rw [nA_K]; exact hc), vp_cell_q, nA_R]; rfl))) (vS_push hW z1 o1) hl
  rw [show H.size = B.1 + hN σ from hH.1]
  exact hk
theorem go_new {i c n : Nat} (hd : decode (mbG m) pc = .ok (.new i, 3)) (hn : mxN m i = some (c, n)) : Go G B m d (pc, ls, r, σ) (pc + 3, ls, .ref (hN σ) :: r, nO σ c n (mxB c)) := by
  intro p l e R s mm args below meth cc H locs lsC nE sE Q C hRm h1 h2 h3 h4 hH hW hl k
  obtain ⟨hx, hb, hml, hr, hlk, hown, hnm, hts, hKn, hB⟩ := C
  obtain ⟨r1, g1, g2, g3, g4, g5⟩ := cl_spec hn
  have n1 : hN (nO σ c n (mxB c)) = hN σ + 1 := rfl
  have n2 : hS (nO σ c n (mxB c)) = hS σ + n := rfl
  have h3 : nE ≤ hN σ := h3
  have h4 : sE ≤ hS σ := h4
  dsimp only at h1 h2 k
  rw [n1] at h1
  rw [n2] at h2
  rw [n1, n2] at k
  have e3' : hN σ + 1 - nE = hN σ - nE + 1 := by omega
  have e4' : hS σ + n - sE = hS σ - sE + n := by omega
  rw [e3'] at h1 k
  rw [e4'] at h2 k
  have hKc := hKn.1.1 c _ g1
  obtain ⟨cP1, ⟨ty0, cP2⟩, cP3⟩ := cl_P g1
  refine W.newcK hx hb hown (hts _ g3) (hts _ g4) (hts _ g5) rfl hd h1 h2 hKc.2.1 hH.1 fun H1 kC hkC e1 z1 o1 => ?_
  have z1' : H1.size = H.size + 1 := by rw [z1, hH.1]
  have o1' : ∀ a, a < H.size → H1[a]? = H[a]? := fun a ha => o1 a (by rw [← hH.1]; exact ha)
  refine k H1 locs lsC (HR_push hH rfl (fun k' hk' => nO_same hk') z1' o1' (cOK_obj_of (c := c) (r := r1) (by show (if hN σ = hN σ then c else _) = c; rw [if_pos rfl]) g1 ?_)) (vS_push hW z1' o1') hl
  refine (u_born ty0 hts cP1 hKc hkC e1 cP2).to (fun j hj => ?_)
  have : hF (nO σ c n (mxB c)) (hN σ) j = mxB c j := by show (if hN σ = hN σ then _ else _) = _; rw [if_pos rfl]
  rw [this, mxB, g1]
  simp only [cP2 j hj]
  rcases ty0 j <;> rfl
theorem tx_of {j : Nat} (h : j < 17) : ∃ tx, stTx[j]? = some tx := ⟨_, List.getElem?_eq_getElem (show j < stTx.length from h)⟩
theorem st_of {j : Nat} (h : j < 17) : stAll[j]? = some (stAll.getD j (0, [])) := by
  rw [List.getD_eq_getElem?_getD, List.getElem?_eq_getElem (show j < stAll.length from h)]; rfl
theorem go_ldcS {i j : Nat} (hd : decode (mbG m) pc = .ok (.ldc i, 2)) (hk : mxK m i = some (.retAddr (j + 1))) : Go G B m d (pc, ls, r, σ) (pc + 2, ls, .retAddr (j + 1) :: r, σ) := by
  intro p l e R s mm args below meth cc H locs lsC nE sE Q C hRm h1 h2 h3 h4 hH hW hl k
  obtain ⟨hx, hb, hml, hr, hlk, hown, hnm, hts, hKn, hB⟩ := C
  obtain ⟨k1, k2, k3⟩ := ks_str hk
  obtain ⟨tx, htx⟩ := tx_of k3
  have hown' : s.vm.findClass RX8 = some mm.cls := by
    have : owG m = RX8 := by unfold owG; rw [k1]; rfl
    rw [← this]; exact hown
  have hZ := hKn.2.2.2.2.1 j _ tx (st_of k3) htx
  rw [k2] at hZ
  exact va_ldcS hx hb hown' hZ hd (k H locs lsC hH hW hl)
end
