/-! soundness: what the abstract machine comes to, the real one comes to -/
section
variable {G : Gx} {B : Bas} {m d pc n : Nat} {ls st : List Value} {σ : Hp} {y : Fr}
theorem pos_of {w : Nat} {R : Room} (h : RmOK R d) (hd : ¬ d = 0) (hw : w ≤ 100) : 1 ≤ R.frames ∧ w ≤ R.locals := by
  have h1 := h.1
  have h2 := h.2
  omega
theorem cat_le (v : Value) : v.category ≤ 2 := by cases v <;> simp [Value.category]
theorem cat_sum : ∀ (r : List Value) (k : Nat), r.length ≤ k → ((r.map (cv B)).map fun v => v.category).sum ≤ 2 * k
  | [], _, _ => by simp
  | v :: r, 0, h => by simp at h
  | v :: r, k + 1, h => by
    have h1 := cat_sum r k (by simpa using h)
    have h2 := cat_le (cv B v)
    rw [List.map_cons, List.map_cons, List.sum_cons]
    omega
theorem go_oinit {i q : Nat} {r : List Value} (hd : decode (mbG m) pc = .ok (.invokespecial i, 3)) (hl0 : Cond.methodLink (owG m) i objectInit ∈ TG) (hd0 : ¬ d = 0) (hr4 : r.length ≤ 4) : Go G B m d (pc, ls, .ref q :: r, σ) (pc + 3, ls, r, σ) := by
  intro p l e R s mm args below meth cc H locs lsC nE sE Q C hRm h1 h2 h3 h4 hH hW hl k
  obtain ⟨hx, hb, hml, hr, hlk, hown, hnm, hts, hKn, hB⟩ := C
  have hs := cat_sum (B := B) r 4 hr4
  obtain ⟨p1, p2⟩ := pos_of (w := 20) hRm hd0 (by omega)
  exact W.objInit hx hb hown (hts _ hl0) (hts _ oi_in.1) (hts _ oi_in.2) rfl (by show lsC.size = _; rw [hl.1, hml]) rfl hd p1 (by show 2 * 0 + _ + 12 ≤ _; omega) (k H locs lsC hH hW hl)
theorem go_max {i : Nat} {x y : Int32} {r : List Value} (hd : decode (mbG m) pc = .ok (.invokestatic i, 3)) (hl0 : Cond.methodLink (owG m) i Lib.Math.max.name ∈ TG) (hd0 : ¬ d = 0) (hr4 : r.length ≤ 4) : Go G B m d (pc, ls, .int y :: .int x :: r, σ) (pc + 3, ls, .int (if x < y then y else x) :: r, σ) := by
  intro p l e R s mm args below meth cc H locs lsC nE sE Q C hRm h1 h2 h3 h4 hH hW hl k
  obtain ⟨hx, hb, hml, hr, hlk, hown, hnm, hts, hKn, hB⟩ := C
  have hs := cat_sum (B := B) r 4 hr4
  obtain ⟨p1, p2⟩ := pos_of (w := 21) hRm hd0 (by omega)
  exact va_mmax hx hb (by rw [hl.1, hml]) hown (hts _ hl0) (hts _ mm_in.1) (hts _ mm_in.2.2) (hts _ mm_co.1) p1 (by omega) h1 h2 hd (k H locs lsC hH hW hl)
theorem go_min {i : Nat} {x y : Int32} {r : List Value} (hd : decode (mbG m) pc = .ok (.invokestatic i, 3)) (hl0 : Cond.methodLink (owG m) i Lib.Math.min.name ∈ TG) (hd0 : ¬ d = 0) (hr4 : r.length ≤ 4) : Go G B m d (pc, ls, .int y :: .int x :: r, σ) (pc + 3, ls, .int (if y < x then y else x) :: r, σ) := by
  intro p l e R s mm args below meth cc H locs lsC nE sE Q C hRm h1 h2 h3 h4 hH hW hl k
  obtain ⟨hx, hb, hml, hr, hlk, hown, hnm, hts, hKn, hB⟩ := C
  have hs := cat_sum (B := B) r 4 hr4
  obtain ⟨p1, p2⟩ := pos_of (w := 21) hRm hd0 (by omega)
  exact va_mmin hx hb (by rw [hl.1, hml]) hown (hts _ hl0) (hts _ mm_in.2.1) (hts _ mm_in.2.2) (hts _ mm_co.2) p1 (by omega) h1 h2 hd (k H locs lsC hH hW hl)
theorem nfw : nativeFrameWords "java/lang/System" "arraycopy" 5 = 7 := by decide +kernel
theorem go_copy {i a b : Nat} {sp dp n : Int32} {r : List Value} (hd : decode (mbG m) pc = .ok (.invokestatic i, 3)) (hl0 : Cond.methodLink (owG m) i arraycopyName ∈ TG) (hd0 : ¬ d = 0) (hr4 : r.length ≤ 4) (ha : a < hN σ) (hb0 : b < hN σ) (hka : hK σ a = 100) (hkb : hK σ b = 100) (g1 : ¬ sp < 0) (g2 : ¬ dp < 0) (g3 : ¬ n < 0) (g4 : sp.toNatClampNeg + n.toNatClampNeg ≤ hL σ a) (g5 : dp.toNatClampNeg + n.toNatClampNeg ≤ hL σ b) : Go G B m d (pc, ls, .int n :: .int dp :: .ref b :: .int sp :: .ref a :: r, σ) (pc + 3, ls, r, sI σ b (va_cpy (hI σ a) (hI σ b) sp.toNatClampNeg dp.toNatClampNeg n.toNatClampNeg)) := by
  intro p l e R s mm args below meth cc H locs lsC nE sE Q C hRm h1 h2 h3 h4 hH hW hl k
  obtain ⟨hx, hb, hml, hr, hlk, hown, hnm, hts, hKn, hB⟩ := C
  have hs := cat_sum (B := B) r 4 hr4
  obtain ⟨p1, p2⟩ := pos_of (w := 40) hRm hd0 (by omega)
  have nn : ∀ z : Int32, ¬ z < 0 → z.toInt = (z.toNatClampNeg : Int) := by
    intro z hz
    have hz0 : (0 : Int) ≤ z.toInt := by
      have := Int32.not_lt.mp hz
      simpa using Int32.le_iff_toInt_le.mp this
    show z.toInt = ((z.toInt.toNat : Nat) : Int)
    omega
  have hc0 := cOK_arr (hH.2 a ha) hka (by omega)
  have hc1 := cOK_arr (hH.2 b hb0) hkb (by omega)
  rw [rowE_I hka (Or.inl rfl)] at hc0
  rw [rowE_I hkb (Or.inl rfl)] at hc1
  obtain ⟨-, k0, hk0, cm0, hkk0⟩ := (Kn_ty hKn 0 rfl).1 (hL σ a) (fun j => .int (hI σ a j))
  intro T hT X
  obtain ⟨vm', X', step⟩ := X.arraycopy hx hown (hts _ hl0) (hts _ ac_in.1) (hts _ ac_in.2.1) (hts _ ac_in.2.2) (src := B.1 + a) (dst := B.1 + b) (cs := vp_cell (G.2 100) (hL σ a, .inl (hI σ a))) (cd := vp_cell (G.2 100) (hL σ b, .inl (hI σ b))) (srcPos := sp) (destPos := dp) (n := n) (by rw [hT]; exact hc0) (by rw [hT]; exact hc1)
    (fun _ h => by cases h) (fun _ h => by cases h) (fun h => by cases h) (fun h => by cases h) hk0 hk0 hkk0 hkk0 (by simp [refKind]) g1 g2 g3
    (by rw [nn sp g1, nn n g3]; show ¬ _ > ((arrV (G.2 100) (hL σ a) (fun j => .int (hI σ a j))).slots.size : Int); rw [arrV_size]; omega)
    (by rw [nn dp g2, nn n g3]; show ¬ _ > ((arrV (G.2 100) (hL σ b) (fun j => .int (hI σ b j))).slots.size : Int); rw [arrV_size]; omega)
    (fun vm₁ _ i hi => by
      have e : (vp_cell (G.2 100) (hL σ a, .inl (hI σ a))).slots.getD (sp.toNatClampNeg + i) .null = .int (hI σ a (sp.toNatClampNeg + i)) := by
        show (arrV (G.2 100) (hL σ a) (fun j => .int (hI σ a j))).slots.getD _ _ = _
        rw [Array.getD_eq_getD_getElem?, arrV_read _ _ (by omega)]
        rfl
      refine ⟨?_, ?_⟩
      · rw [e]; rfl
      · rw [e]
        exact trivial)
    (g := F0 mm pc lsC (.int n :: .int dp :: .ref (B.1 + b) :: .int sp :: .ref (B.1 + a) :: r.map (cv B))) rfl (by show lsC.size = _; rw [hl.1, hml]) (rest := r.map (cv B)) rfl (by rw [hb]; exact hd) p1 (by show 2 * 0 + _ + (nativeFrameWords "java/lang/System" "arraycopy" 5 + 11) ≤ _; rw [nfw]; omega)
  have e1 : copied (vp_cell (G.2 100) (hL σ a, .inl (hI σ a))) (vp_cell (G.2 100) (hL σ b, .inl (hI σ b))) sp dp n = vp_cell (G.2 100) (hL σ b, .inl (va_cpy (hI σ a) (hI σ b) sp.toNatClampNeg dp.toNatClampNeg n.toNatClampNeg)) := va_copied (fun z => .int z) (G.2 100) (G.2 100) (hI σ a) (hI σ b) g4
  rw [e1] at X' step
  have hlt : B.1 + b < H.size := (Array.getElem?_eq_some_iff.mp hc1).1
  have hheap : ((T.setVm vm').setCell (B.1 + b) (vp_cell (G.2 100) (hL σ b, .inl (va_cpy (hI σ a) (hI σ b) sp.toNatClampNeg dp.toNatClampNeg n.toNatClampNeg)))).heap = H.setIfInBounds (B.1 + b) (vp_cell (G.2 100) (hL σ b, .inl (va_cpy (hI σ a) (hI σ b) sp.toNatClampNeg dp.toNatClampNeg n.toNatClampNeg))) := by rw [← hT]; rfl
  have oq : ∀ q : Nat, q ≠ B.1 + b → (H.setIfInBounds (B.1 + b) (vp_cell (G.2 100) (hL σ b, .inl (va_cpy (hI σ a) (hI σ b) sp.toNatClampNeg dp.toNatClampNeg n.toNatClampNeg))))[q]? = H[q]? := fun q hq => by simp [Array.getElem?_setIfInBounds, Ne.symm hq]
  have row : hI (sI σ b (va_cpy (hI σ a) (hI σ b) sp.toNatClampNeg dp.toNatClampNeg n.toNatClampNeg)) b = va_cpy (hI σ a) (hI σ b) sp.toNatClampNeg dp.toNatClampNeg n.toNatClampNeg := by show (if b = b then _ else _) = _; rw [if_pos rfl]
  obtain ⟨t, a1, b1⟩ := k _ _ lsC (HR_set hH rfl (fun k' hk' => sI_same hk') (by simp) oq (cOK_arr_of (show hK σ b = 100 from hkb) (by omega) (by
      rw [rowE_I (show hK (sI σ b _) b = 100 from hkb) (Or.inl rfl), row]
      simp [Array.getElem?_setIfInBounds, hlt]
      rfl))) ⟨by simp; exact hW.1, fun q z1 z2 => by
      rw [oq q (fun e => z2 (by rw [e]; exact Nat.le_add_right _ _))]
      exact hW.2.1 q z1 z2, fun q hq => by
      rcases List.mem_append.mp hq with h | h
      · exact hW.2.2 q h
      · obtain ⟨z, -, hz⟩ := List.mem_map.mp h
        rw [← hz]
        exact Nat.le_add_right _ _⟩ hl _ hheap X'
  exact ⟨t, step t a1, b1⟩
theorem ml5 {i cal na : Nat} (h : mxM m i = some (5, cal, na)) (ho : (mxI m).1 = 8) : i = 59 := by
  have h1 := lookup_mem _ _ _ h
  rw [ho] at h1
  have h2 : ∀ q ∈ mlAll.getD 8 [], q.2.1 = 5 → q.1 = 59 := by decide +kernel
  exact h2 _ h1 rfl
theorem ml6 {i cal na : Nat} (h : mxM m i = some (6, cal, na)) (ho : (mxI m).1 = 8) : i = 64 := by
  have h1 := lookup_mem _ _ _ h
  rw [ho] at h1
  have h2 : ∀ q ∈ mlAll.getD 8 [], q.2.1 = 6 → q.1 = 64 := by decide +kernel
  exact h2 _ h1 rfl
theorem st_len {j : Nat} {q : Nat × List Nat} (h : stAll[j]? = some q) : sLens.getD j 0 = q.2.length ∧ j < 17 := by
  refine ⟨?_, (List.getElem?_eq_some_iff.mp h).1⟩
  unfold sLens
  rw [List.getD_eq_getElem?_getD, List.getElem?_map, h]
  rfl
theorem st_chr {j x : Nat} {q : Nat × List Nat} (h : stAll[j]? = some q) (hx : x < q.2.length) : ((((sByts.getD j []).getD x 0) &&& 255).toUInt32 % 65536).toInt32 = nI (q.2.getD x 0) := by
  have e : (sByts.getD j []).getD x 0 = nI (q.2.getD x 0) := by
    unfold sByts
    rw [List.getD_eq_getElem?_getD (l := stAll.map _), List.getElem?_map, h]
    show (q.2.map nI).getD x 0 = _
    rw [List.getD_eq_getElem?_getD, List.getD_eq_getElem?_getD, List.getElem?_map]
    cases q.2[x]? <;> rfl
  rw [e]
  have h1 : ∀ z ∈ stAll, ∀ c ∈ z.2, c < 128 := by decide +kernel
  have h2 : ∀ c, c < 128 → (((nI c) &&& 255).toUInt32 % 65536).toInt32 = nI c := by decide +kernel
  refine h2 _ (h1 q (List.mem_of_getElem? h) _ ?_)
  rw [List.getD_eq_getElem?_getD, List.getElem?_eq_getElem hx]
  exact List.getElem_mem hx
theorem go_len {i j : Nat} {q : Nat × List Nat} {r : List Value} (hd : decode (mbG m) pc = .ok (.invokevirtual i, 3)) (hi : i = 59) (ho : (mxI m).1 = 8) (hj : stAll[j]? = some q) (hd0 : ¬ d < 5) (hr4 : r.length ≤ 4) : Go G B m d (pc, ls, .retAddr (j + 1) :: r, σ) (pc + 3, ls, .int (nI q.2.length) :: r, σ) := by
  subst hi
  intro p l e R s mm args below meth cc H locs lsC nE sE Q C hRm h1 h2 h3 h4 hH hW hl k
  obtain ⟨hx, hb, hml, hr, hlk, hown, hnm, hts, hKn, hB⟩ := C
  obtain ⟨hj1, hj2⟩ := st_len hj
  have hown' : s.vm.findClass RX8 = some mm.cls := by
    have : owG m = RX8 := by unfold owG; rw [ho]; rfl
    rw [← this]; exact hown
  have hK := hKn.2.2.2.2
  have hf := hRm.1
  have hl0 := hRm.2
  refine after_pure (va_runV (C := RJ0) (As := []) (rest := r.map (cv B)) ⟨hx, hb, hml, hown', hts⟩ (c_len (B := B) l hj2) ⟨callB_of 0 hts (wsT_good sw_length) rfl rfl rfl (hts _ si_RJ0) (hts _ sm_len) (by decide +kernel) ⟨by show 2 + 1 ≤ R.frames; omega, by show 8 + (1 + 11) + 200 ≤ R.locals; omega⟩, hts _ sn_len, hts _ se_len⟩ ⟨PS_blind, vk_recv hK.2.1 hj2 hW, fun U hU hW' => ⟨rfl, StrK_warm hK hW' (fun a ha => by rw [hU]; exact hW.2.1 a (Nat.lt_of_lt_of_le ha hB) (Nat.not_le.mpr ha)), by rw [hU]; exact Nat.le_trans hB hW.1⟩⟩ rfl rfl hl.1 rfl (lv_room (cat_sum r 4 hr4)) hd ⟨h1, h2⟩) hW (fun locs hW => ?_)
  rw [hj1]
  exact k H locs lsC hH hW hl
theorem go_chr {i j : Nat} {x : Int32} {q : Nat × List Nat} {r : List Value} (hd : decode (mbG m) pc = .ok (.invokevirtual i, 3)) (hi : i = 64) (ho : (mxI m).1 = 8) (hj : stAll[j]? = some q) (hx0 : mxP x q.2.length) (hd0 : ¬ d < 5) (hr4 : r.length ≤ 4) : Go G B m d (pc, ls, .int x :: .retAddr (j + 1) :: r, σ) (pc + 3, ls, .int (nI (q.2.getD x.toNatClampNeg 0)) :: r, σ) := by
  subst hi
  intro p l e R s mm args below meth cc H locs lsC nE sE Q C hRm h1 h2 h3 h4 hH hW hl k
  obtain ⟨hx, hb, hml, hr, hlk, hown, hnm, hts, hKn, hB⟩ := C
  obtain ⟨hj1, hj2⟩ := st_len hj
  have hown' : s.vm.findClass RX8 = some mm.cls := by
    have : owG m = RX8 := by unfold owG; rw [ho]; rfl
    rw [← this]; exact hown
  have hK := hKn.2.2.2.2
  have hf := hRm.1
  have hl0 := hRm.2
  have hlt : x.toNatClampNeg < q.2.length := Nat.not_le.mp fun z => hx0 (Or.inr z)
  refine after_pure (va_runV (C := RJ0) (As := [.int x]) (rest := r.map (cv B)) ⟨hx, hb, hml, hown', hts⟩ (c_chr (B := B) l hj2 (by rw [hj1]; exact hx0)) ⟨callB_of 1 hts (wsT_good sw_chr) rfl rfl rfl (hts _ si_RJ0) (hts _ sm_chr) (by decide +kernel) ⟨by show 4 + 1 ≤ R.frames; omega, by show 8 + (2 + 11) + 400 ≤ R.locals; omega⟩, hts _ sn_chr, hts _ se_chr⟩ ⟨PS_blind, vk_recv hK.2.1 hj2 hW, fun U hU hW' => ⟨rfl, StrK_warm hK hW' (fun a ha => by rw [hU]; exact hW.2.1 a (Nat.lt_of_lt_of_le ha hB) (Nat.not_le.mpr ha)), by rw [hU]; exact Nat.le_trans hB hW.1⟩⟩ rfl rfl hl.1 rfl (lv_room (cat_sum r 4 hr4)) hd ⟨h1, h2⟩) hW (fun locs hW => ?_)
  have e := st_chr hj hlt
  rw [e]
  exact k H locs lsC hH hW hl
theorem mxCall_nx {as rest : List Value} {cal : Nat} (h : mxCall d m pc ls σ cal as rest = some (.inr (.inl y))) : False := by
  unfold mxCall at h
  split at h
  · cases h
  · split at h <;> cases h
theorem mxIR_nx {cal na : Nat} (h : mxIR d m pc ls st σ cal na = some (.inr (.inl y))) : False := by
  unfold mxIR at h
  split at h
  · split at h
    · exact mxCall_nx h
    · cases h
  · cases h
theorem gn_inv {i : Nat} {kinds : Nat → Bool} (h : mxInv d m pc ls st σ kinds i = some (.inr (.inl y)))
    (k3 : kinds 3 = true → decode (mbG m) pc = .ok (.invokespecial i, 3)) (k4 : kinds 4 = true → decode (mbG m) pc = .ok (.invokestatic i, 3)) (k5 : kinds 5 = true → decode (mbG m) pc = .ok (.invokevirtual i, 3)) (k6 : kinds 6 = true → decode (mbG m) pc = .ok (.invokevirtual i, 3)) (k7 : kinds 7 = true → decode (mbG m) pc = .ok (.invokestatic i, 3)) (k8 : kinds 8 = true → decode (mbG m) pc = .ok (.invokestatic i, 3)) : GN G B d m pc ls st σ y := by
  unfold mxInv at h
  split at h
  · next k cal na e0 =>
    have hm := ml_spec e0
    split at h
    · cases h
    next hk =>
    rw [Bool.not_eq_false] at hk
    split at h
    · split at h
      · exact (mxCall_nx h).elim
      · cases h
    split at h
    · next e3 =>
      subst e3
      have hl0 : Cond.methodLink (owG m) i objectInit ∈ TG := by
        rcases hm with ⟨-, a⟩ | ⟨a, -⟩ | ⟨a, -⟩ | ⟨a, -⟩ | ⟨a, -⟩ | ⟨-, -, ⟨a, -⟩ | ⟨a, -⟩ | ⟨a, -⟩ | ⟨a, -⟩⟩
        · exact a
        all_goals omega
      unfold mxI3 at h
      split at h
      · split at h
        · cases h
        · next q => exact gn_nx (go_oinit (k3 hk) hl0 (fun z => q (Or.inl z)) (Nat.not_lt.mp (fun z => q (Or.inr z)))) h
      · cases h
    split at h
    · next e4 =>
      subst e4
      have hl0 : Cond.methodLink (owG m) i arraycopyName ∈ TG := by
        rcases hm with ⟨a, -⟩ | ⟨-, a⟩ | ⟨a, -⟩ | ⟨a, -⟩ | ⟨a, -⟩ | ⟨-, -, ⟨a, -⟩ | ⟨a, -⟩ | ⟨a, -⟩ | ⟨a, -⟩⟩
        · omega
        · exact a
        all_goals omega
      unfold mxI4 at h
      split at h
      · split at h
        · next q =>
          obtain ⟨⟨q1, q2⟩, ⟨qa, qb⟩, ⟨q7, q8, q9⟩, q10, q11⟩ := q
          obtain ⟨q3, q5⟩ := kd_s qa (by omega)
          obtain ⟨q4, q6⟩ := kd_s qb (by omega)
          exact gn_nz (go_copy (k4 hk) hl0 q1 q2 q3 q4 q5 q6 q7 q8 q9 q10 q11) rfl (Nat.le_refl _) (Nat.le_refl _) h
        · cases h
      · cases h
    split at h
    · next e5 =>
      subst e5
      have ho : (mxI m).1 = 8 := by
        rcases hm with ⟨a, -⟩ | ⟨a, -⟩ | ⟨-, a⟩ | ⟨a, -⟩ | ⟨a, -⟩ | ⟨-, -, ⟨a, -⟩ | ⟨a, -⟩ | ⟨a, -⟩ | ⟨a, -⟩⟩
        · omega
        · omega
        · exact a
        all_goals omega
      unfold mxI5 at h
      split at h
      · split at h
        · next e =>
          split at h
          · cases h
          · next q => exact gn_nx (go_len (k5 hk) (ml5 e0 ho) ho e (fun z => q (Or.inl z)) (Nat.not_lt.mp (fun z => q (Or.inr z)))) h
        · cases h
      · cases h
    split at h
    · next e6 =>
      subst e6
      have ho : (mxI m).1 = 8 := by
        rcases hm with ⟨a, -⟩ | ⟨a, -⟩ | ⟨-, a⟩ | ⟨a, -⟩ | ⟨a, -⟩ | ⟨-, -, ⟨a, -⟩ | ⟨a, -⟩ | ⟨a, -⟩ | ⟨a, -⟩⟩
        · omega
        · omega
        · exact a
        all_goals omega
      unfold mxI6 at h
      split at h
      · split at h
        · next e =>
          split at h
          · cases h
          · next q => exact gn_nx (go_chr (k6 hk) (ml6 e0 ho) ho e (Classical.byContradiction fun z => q (Or.inr z)) (fun z => q (Or.inl (Or.inl z))) (Nat.not_lt.mp (fun z => q (Or.inl (Or.inr z))))) h
        · cases h
      · cases h
    split at h
    · next e7 =>
      subst e7
      have hl0 : Cond.methodLink (owG m) i Lib.Math.max.name ∈ TG := by
        rcases hm with ⟨a, -⟩ | ⟨a, -⟩ | ⟨a, -⟩ | ⟨-, a⟩ | ⟨a, -⟩ | ⟨-, -, ⟨a, -⟩ | ⟨a, -⟩ | ⟨a, -⟩ | ⟨a, -⟩⟩
        · omega
        · omega
        · omega
        · exact a
        all_goals omega
      unfold mxI7 at h
      split at h
      · split at h
        · cases h
        · next q => exact gn_nx (go_max (k7 hk) hl0 (fun z => q (Or.inl z)) (Nat.not_lt.mp (fun z => q (Or.inr z)))) h
      · cases h
    split at h
    · next e8 =>
      subst e8
      have hl0 : Cond.methodLink (owG m) i Lib.Math.min.name ∈ TG := by
        rcases hm with ⟨a, -⟩ | ⟨a, -⟩ | ⟨a, -⟩ | ⟨a, -⟩ | ⟨-, a⟩ | ⟨-, -, ⟨a, -⟩ | ⟨a, -⟩ | ⟨a, -⟩ | ⟨a, -⟩⟩
        · omega
        · omega
        · omega
        · omega
        · exact a
        all_goals omega
      unfold mxI8 at h
      split at h
      · split at h
        · cases h
        · next q => exact gn_nx (go_min (k8 hk) hl0 (fun z => q (Or.inl z)) (Nat.not_lt.mp (fun z => q (Or.inr z)))) h
      · cases h
    exact (mxIR_nx h).elim
  · cases h
end
