/-! the claim out of the abstract machine's answer to the law -/
def R_law : String := "BorrowedDaysLaw"
def sg0 (X : Nat × (Nat → Int32)) : Hp := (X, 0, 0, fun _ => 0, fun _ => 0, fun _ _ => .null, fun _ _ => 0, fun _ _ => 0, fun _ _ => none)
/-- THE PURE GOAL: the law's frame on a script of at most 3072 ints comes to 1, within the room -/
def LawGoal : Prop := ∀ (L : Nat) (xs : Nat → Int32), L ≤ 3072 → ∃ σ : Hp, den (500, 227, 0, [.retAddr 0, .float 0, .float 0, .float 0], [], sg0 (L, xs)) = some (some (.int 1), σ) ∧ hN σ ≤ 600000 ∧ hS σ ≤ 7302250
def tmS (i : Nat) : Term := .string RX8 (stAll.getD i (0, [])).1
def narL : List Cond := flatC (Jvm.Cond.and given_1 narrow_1)
def nrAt (i : Nat) (w : Cond) : Bool := decide (narL[i]? = some w)
theorem nrAt_mem {i : Nat} {w : Cond} (h : nrAt i w = true) : w ∈ narL := List.mem_of_getElem? (of_decide_eq_true h)
def exP : List Nat := [35, 43, 53, 63, 75, 88, 102, 118, 131, 146, 166, 184, 203, 224, 243, 264, 286]
def coP : List Nat := [36, 44, 54, 64, 76, 89, 103, 119, 132, 147, 167, 185, 204, 225, 244, 265, 287]
def arP : List Nat := [37, 45, 55, 65, 77, 90, 104, 120, 133, 148, 168, 186, 205, 226, 245, 266, 288]
def leP : List Nat := [38, 46, 56, 66, 78, 91, 105, 121, 134, 149, 169, 187, 206, 227, 246, 267, 289]
def elP : List (List Nat) := [[39, 40, 41, 42], [47, 48, 49, 50, 51], [57, 58, 59, 60], [67, 68, 69, 70, 71], [79, 80, 81, 82, 83], [92, 93, 94, 95, 96], [106, 107, 108, 109, 110, 111], [122, 123], [135, 136, 137], [150, 151, 152, 153, 154, 155, 156], [170, 171, 172, 173], [188, 189, 190, 191], [207, 208, 209, 210, 211], [228, 229], [247, 248, 249], [268, 269, 270], [290, 291]]
def neP : List (Nat × Nat × Nat) := [(0, 1, 52), (0, 2, 61), (0, 3, 72), (0, 4, 84), (0, 5, 97), (0, 6, 112), (0, 7, 124), (0, 8, 138), (0, 9, 157), (0, 10, 174), (0, 11, 192), (0, 12, 212), (0, 13, 230), (0, 14, 250), (0, 15, 271), (0, 16, 292), (1, 2, 62), (1, 3, 73), (1, 4, 85), (1, 5, 98), (1, 6, 113), (1, 7, 125), (1, 8, 139), (1, 9, 158), (1, 10, 175), (1, 11, 193), (1, 12, 213), (1, 13, 231), (1, 14, 251), (1, 15, 272), (1, 16, 293), (2, 3, 74), (2, 4, 86), (2, 5, 99), (2, 6, 114), (2, 7, 126), (2, 8, 140), (2, 9, 159), (2, 10, 176), (2, 11, 194), (2, 12, 214), (2, 13, 232), (2, 14, 252), (2, 15, 273), (2, 16, 294), (3, 4, 87), (3, 5, 100), (3, 6, 115), (3, 7, 127), (3, 8, 141), (3, 9, 160), (3, 10, 177), (3, 11, 195), (3, 12, 215), (3, 13, 233), (3, 14, 253), (3, 15, 274), (3, 16, 295), (4, 5, 101), (4, 6, 116), (4, 7, 128), (4, 8, 142), (4, 9, 161), (4, 10, 178), (4, 11, 196), (4, 12, 216), (4, 13, 234), (4, 14, 254), (4, 15, 275), (4, 16, 296), (5, 6, 117), (5, 7, 129), (5, 8, 143), (5, 9, 162), (5, 10, 179), (5, 11, 197), (5, 12, 217), (5, 13, 235), (5, 14, 255), (5, 15, 276), (5, 16, 297), (6, 7, 130), (6, 8, 144), (6, 9, 163), (6, 10, 180), (6, 11, 198), (6, 12, 218), (6, 13, 236), (6, 14, 256), (6, 15, 277), (6, 16, 298), (7, 8, 145), (7, 9, 164), (7, 10, 181), (7, 11, 199), (7, 12, 219), (7, 13, 237), (7, 14, 257), (7, 15, 278), (7, 16, 299), (8, 9, 165), (8, 10, 182), (8, 11, 200), (8, 12, 220), (8, 13, 238), (8, 14, 258), (8, 15, 279), (8, 16, 300), (9, 10, 183), (9, 11, 201), (9, 12, 221), (9, 13, 239), (9, 14, 259), (9, 15, 280), (9, 16, 301), (10, 11, 202), (10, 12, 222), (10, 13, 240), (10, 14, 260), (10, 15, 281), (10, 16, 302), (11, 12, 223), (11, 13, 241), (11, 14, 261), (11, 15, 282), (11, 16, 303), (12, 13, 242), (12, 14, 262), (12, 15, 283), (12, 16, 304), (13, 14, 263), (13, 15, 284), (13, 16, 305), (14, 15, 285), (14, 16, 306), (15, 16, 307)]
set_option maxRecDepth 100000 in
theorem nr_ex : (List.range 17).all (fun i => nrAt (exP.getD i 0) (Cond.exactly (tmS i) "java/lang/String")) = true := by decide +kernel
set_option maxRecDepth 100000 in
theorem nr_co : (List.range 17).all (fun i => nrAt (coP.getD i 0) (Cond.eq (.field (tmS i) "java/lang/String" "coder" "B") (.int 0))) = true := by decide +kernel
set_option maxRecDepth 100000 in
theorem nr_ar : (List.range 17).all (fun i => nrAt (arP.getD i 0) (Cond.arrayOf (.field (tmS i) "java/lang/String" "value" "[B") .byte)) = true := by decide +kernel
set_option maxRecDepth 100000 in
theorem nr_le : (List.range 17).all (fun i => nrAt (leP.getD i 0) (Cond.eq (.length (.field (tmS i) "java/lang/String" "value" "[B")) (.int (Int32.ofNat (sLens.getD i 0))))) = true := by decide +kernel
set_option maxRecDepth 100000 in
theorem nr_el : (List.range 17).all (fun i => (List.range (sLens.getD i 0)).all (fun j => nrAt ((elP.getD i []).getD j 0) (Cond.eq (.elem (.field (tmS i) "java/lang/String" "value" "[B") (.int (Int32.ofNat j))) (.int ((sByts.getD i []).getD j 0))))) = true := by decide +kernel
set_option maxRecDepth 100000 in
theorem nr_nep : neP.all (fun q => nrAt q.2.2 (Cond.not (Cond.eq (tmS q.1) (tmS q.2.1)))) = true := by decide +kernel
theorem nr_ne : (List.range 17).all (fun i => (List.range 17).all (fun j => i == j || neP.any (fun q => q.1 == i && q.2.1 == j) || neP.any (fun q => q.1 == j && q.2.1 == i))) = true := by decide +kernel
theorem nr_ne1 {i j : Nat} (h : neP.any (fun q => q.1 == i && q.2.1 == j) = true) : Cond.not (Cond.eq (tmS i) (tmS j)) ∈ narL := by
  obtain ⟨q, hq, h1⟩ := List.any_eq_true.mp h
  simp only [Bool.and_eq_true, beq_iff_eq] at h1
  have := nrAt_mem (List.all_eq_true.mp nr_nep q hq)
  rw [h1.1, h1.2] at this
  exact this
set_option maxRecDepth 100000 in
theorem nr_st : Cond.eq (.static "java/lang/String" "COMPACT_STRINGS" "Z") (.int 1) ∈ narL ∧ Cond.isRef (.static "jdk/internal/util/Preconditions" "SIOOBE_FORMATTER" "Ljava/util/function/BiFunction;") ∈ narL := by decide +kernel
set_option maxRecDepth 100000 in
theorem tw_st : Cond.laysStatic "java/lang/String" "COMPACT_STRINGS" "Z" ∈ lw_tbl ∧ Cond.laysStatic "jdk/internal/util/Preconditions" "SIOOBE_FORMATTER" "Ljava/util/function/BiFunction;" ∈ lw_tbl ∧ Cond.initialized "java/lang/String" ∈ lw_tbl ∧ Cond.initialized "jdk/internal/util/Preconditions" ∈ lw_tbl := by decide +kernel
set_option maxRecDepth 100000 in
theorem tw_ao : Cond.arrayOver (.object RX5) ∈ lw_tbl ∧ Cond.arrayOver (.object RX9) ∈ lw_tbl := by decide +kernel
set_option maxRecDepth 100000 in
theorem tw_ne : nests.all (fun q => decide (Cond.methodLinkNest q.1 q.2.1 q.2.2 RX11 ∈ lw_tbl)) = true := by decide +kernel
set_option maxRecDepth 100000 in
theorem tw_sr : (List.range 17).all (fun i => decide (Cond.stringRef RX8 (stAll.getD i (0, [])).1 (stTx.getD i "") ∈ lw_tbl)) = true := by decide +kernel
set_option maxRecDepth 100000 in
theorem tw_in : vwCl.all (fun r => decide (Cond.instantiable r.1 r.2.2 ∈ lw_tbl)) = true := by decide +kernel
theorem rng {P : Nat → Bool} {n : Nat} (h : (List.range n).all P = true) {i : Nat} (hi : i < n) : P i = true := List.all_eq_true.mp h i (List.mem_range.mpr hi)
/-- what is known at the law's entry -/
theorem start_K {s : State} {b L : Nat} {xs : Nat → Int32} (hts : ∀ w ∈ lw_tbl, w.before #[Value.ref b] s = true) (hX1 : va_X b L xs s s.heap) (hbl : b < s.heap.size) (hgv : (Jvm.Cond.and given_1 narrow_1).before #[Value.ref b] s = true) : ∃ (G : Gx) (B : Bas), B.1 = s.heap.size ∧ B.2.1 = b ∧ Kn G B (L, xs) s := by
  have hn : ∀ c ∈ narL, c.before #[Value.ref b] s = true := flat_of_before _ hgv
  have hA : ∀ a : Nat, a < s.heap.size → ¬ (fun q : Nat => s.heap.size ≤ q) a := fun a ha => Nat.not_le.mpr ha
  have htg : ∀ w ∈ TG, w.before #[Value.ref b] s = true := fun w hw => hts w (List.mem_filter.mp hw).1
  -- classes
  have hc : ∀ c : Nat, ∃ z : ClassId × (Nat → Nat), ∀ q : vw_C, vwCl[c]? = some q → u_Kn s q.1 q.2.1 q.2.2 z.1 z.2 := by
    intro c
    cases h : vwCl[c]? with
    | none => exact ⟨(0, fun _ => 0), fun q e => by cases e⟩
    | some q =>
      have hi : Cond.instantiable q.1 q.2.2 ∈ lw_tbl := of_decide_eq_true (List.all_eq_true.mp tw_in q (List.mem_of_getElem? h))
      obtain ⟨cC, iS, hu⟩ := u_known htg (cl_P h).1 (hts _ hi)
      exact ⟨(cC, iS), fun q' e => by cases e; exact hu⟩
  obtain ⟨z, hz⟩ := Classical.axiomOfChoice hc
  -- array classes
  obtain ⟨c0, k0, m0, a1, a2, a3⟩ := Cond.arrayClass_spec (htg _ ar_in.1)
  obtain ⟨c1, k1, m1, b1, b2, b3⟩ := Cond.arrayClass_spec (htg _ ar_in.2.1)
  obtain ⟨c2, k2, m2, d1, d2, d3⟩ := Cond.arrayClass_spec (htg _ ar_in.2.2)
  obtain ⟨m3, c3, k3, e1, -, e2, e3, e4⟩ := Cond.arrayOver_spec (hts _ tw_ao.1)
  obtain ⟨m4, c4, k4, f1, -, f2, f3, f4⟩ := Cond.arrayOver_spec (hts _ tw_ao.2)
  -- texts
  obtain ⟨adK, adV, hS, hev⟩ := vk_Sof (args := #[Value.ref b]) (s := s) (N := 17) (tm := tmS) (len := sLens) (byt := sByts) (A := fun q : Nat => s.heap.size ≤ q) (fun i _ => sLens_lt i)
    (fun i hi => hn _ (nrAt_mem (rng nr_ex hi))) (fun i hi => hn _ (nrAt_mem (rng nr_co hi))) (fun i hi => hn _ (nrAt_mem (rng nr_ar hi))) (fun i hi => hn _ (nrAt_mem (rng nr_le hi)))
    (fun i hi j hj => hn _ (nrAt_mem (rng (rng nr_el hi) hj)))
    (fun i j hi hj hij => by
      have h := rng (rng nr_ne hi) hj
      rw [Bool.or_eq_true, Bool.or_eq_true, beq_iff_eq] at h
      rcases h with (h | h) | h
      · exact absurd h hij
      · exact Or.inl (hn _ (nr_ne1 h))
      · exact Or.inr (hn _ (nr_ne1 h))) hA
  refine ⟨((fun c => (z c).1, fun c => (z c).2), fun k => if k = 100 then c0 else if k = 101 then c1 else if k = 102 then c2 else if k = 103 then c3 else c4), (s.heap.size, b, fun j => if j < 100 then adK j else adV (j - 100)), rfl, rfl, ?_⟩
  refine ⟨⟨fun c q h => hz c q h, ?_⟩, ⟨va_AO.of (hts _ tw_ao.1), va_AO.of (hts _ tw_ao.2)⟩, fun q hq => va_Nw.of rfl (hts _ (of_decide_eq_true (List.all_eq_true.mp tw_ne q hq))), ⟨hX1, hbl⟩, ?_, ?_, va_Zof (hts _ tw_st.1) (hts _ tw_st.2.2.1) (va_eqt (hn _ nr_st.1)) hA, va_Zqof (hts _ tw_st.2.1) (hts _ tw_st.2.2.2) (hn _ nr_st.2) hA⟩
  · intro k q hk
    match k, hk with
    | 0, hk => cases hk; exact ⟨fun n z => ⟨fun k h => (by cases h), k0, a2, m0, a3⟩, a1⟩
    | 1, hk => cases hk; exact ⟨fun n z => ⟨fun k h => (by cases h), k1, b2, m1, b3⟩, b1⟩
    | 2, hk => cases hk; exact ⟨fun n z => ⟨fun k h => (by cases h), k2, d2, m2, d3⟩, d1⟩
    | 3, hk => cases hk; exact ⟨fun n z => ⟨fun k h => (by cases h), k3, e2, m3, e3⟩, k3, m3, e2, e3, e1, e4⟩
    | 4, hk => cases hk; exact ⟨fun n z => ⟨fun k h => (by cases h), k4, f2, m4, f3⟩, k4, m4, f2, f3, f1, f4⟩
    | k + 5, hk => cases hk
  · intro j q tx h1 h2
    have hj : j < 17 := (List.getElem?_eq_some_iff.mp h1).1
    have h3 := hts _ (of_decide_eq_true (rng tw_sr hj))
    have e1 : stAll.getD j (0, []) = q := by rw [List.getD_eq_getElem?_getD, h1]; rfl
    have e2 : stTx.getD j "" = tx := by rw [List.getD_eq_getElem?_getD, h2]; rfl
    rw [e1, e2] at h3
    have h4 := hev j hj
    unfold tmS at h4
    rw [e1] at h4
    show vk_R RX8 q.1 tx (if j < 100 then adK j else adV (j - 100)) s
    rw [if_pos (by omega)]
    exact vk_R.of h3 h4
  · refine ⟨fun i hi => ?_, fun i j hi hj e => ?_⟩
    · have := hS.1 i hi
      dsimp only
      rw [if_pos (show i < 100 by omega), if_neg (show ¬ 100 + i < 100 by omega), show 100 + i - 100 = i by omega]
      exact this
    · dsimp only at e
      rw [if_pos (show i < 100 by omega), if_pos (show j < 100 by omega)] at e
      exact hS.2 i j hi hj e
def lw_P (b : Addr) (xs : List Int32) (args : Array Value) (s : State) : Prop := args = #[.ref b] ∧ s.IntsAt b xs ∧ xs.length ≤ 3072 ∧ (Jvm.Cond.and given_1 narrow_1).before args s = true
def lw_Q (_ : Array Value) (s : State) (o : Outcome) (t : State) : Prop := o = .returned (some (.int 1)) ∧ Framed s o t [] 600000 7302250
def lw_Z (below : List Frame) (a : Array Value) (s : State) : State → Prop := fun t => ∃ o, t.status = .running ∧ Ended t below o ∧ lw_Q a s o t
/-- what holds at the law's entry -/
def lw_At (p : Program) (s : State) (m : MethodId) (meth : Method) (c : Code) (b L : Nat) (xs : Nat → Int32) : Prop :=
  p.tables.exec = Jvm.exec ∧ c.code = code ∧ meth.sig.returnType = ret ∧ c.maxLocals = 4 ∧ s.vm.findClass R_law = some m.cls ∧ (∀ w ∈ lw_tbl, w.before #[Value.ref b] s = true) ∧ va_X b L xs s s.heap ∧ b < s.heap.size ∧ meth.locks = false ∧ (Jvm.Cond.and given_1 narrow_1).before #[Value.ref b] s = true ∧ meth.name = "law"
theorem W_post {p : Program} {l : Launch} {e : Env} {R : Room} {s : State} {m : MethodId} {args : Array Value} {below : List Frame} {meth : Method} {c : Code} {H : Heap} {locs : List Loc} {cells slots : Nat} {Q Q' : State → Prop} {g : JFrame} (h : ∀ t, Q t → Q' t) (k : W p l e R s m args below meth c H locs cells slots Q g) : W p l e R s m args below meth c H locs cells slots Q' g := fun T hT X => by
  obtain ⟨t, a, b⟩ := k T hT X
  exact ⟨t, a, h t b⟩
theorem whole_start (hgoal : LawGoal) {p : Program} {e : Env} {s : State} {m : MethodId} {below : List Frame} {meth : Method} {c : Code} (l : Launch) {b L : Nat} {xs : Nat → Int32} (hL : L ≤ 3072) (C0 : lw_At p s m meth c b L xs) : W p l e room_1 s m #[Value.ref b] below meth c s.heap [] 0 0 (lw_Z below #[Value.ref b] s) (entryFrame m ([Value.ref b] : List Value).toArray 4) := by
  obtain ⟨hx, hb, hr, hml, hown, hts, hX1, hbl, hlocks, hgv, hnm⟩ := C0
  obtain ⟨G, B, hB1, hB2, hKn⟩ := start_K hts hX1 hbl hgv
  obtain ⟨σ, hden, hn1, hn2⟩ := hgoal L xs hL
  have hs := (snd_den G B hden).2 p l e room_1 s m #[Value.ref b] below meth c s.heap [] ((lg_sl ([.ref b]) ++ List.replicate (4 - (lg_sl ([.ref b])).length) Slot.unset).toArray) 0 0
    ⟨hx, hb, hml, hr, hlocks, hown, hnm, fun w hw => hts w (List.mem_filter.mp hw).1, hKn, by rw [hB1]; exact Nat.le_refl _⟩ ⟨show (500 : Nat) ≤ 2048 by decide, show (100 * 500 : Nat) ≤ 84000 by decide⟩ (show hN σ - 0 ≤ 600000 by omega) (show hS σ - 0 ≤ 7302250 by omega) (Nat.zero_le _) (Nat.zero_le _)
    ⟨by show s.heap.size = B.1 + 0; rw [hB1]; rfl, fun k hk => absurd hk (Nat.not_lt_zero _)⟩ va_S.rf
    (LH_of (lv_entry ([.ref b]) (n := 4) (Nat.le_of_ble_eq_true rfl)) (fun n v e2 r => by
      match n, e2 with
      | 0, e2 => cases e2; show (0, Value.ref B.2.1) ∈ _; rw [hB2]; simp [lv_args]
      | 1, e2 => cases e2; cases r
      | 2, e2 => cases e2; cases r
      | 3, e2 => cases e2; cases r
      | n + 4, e2 => cases e2))
  rw [lg_entry_eq]
  refine W_post ?_ hs
  intro t ht
  obtain ⟨o, h1, h2, ⟨h3, -⟩, Lc, hF, hLc⟩ := ht
  refine ⟨o, h1, h2, h3, hF.1, hF.2.1, hF.2.2.weaken (fun q hq hlt => ?_) (by simpa using hn1) (by simpa using hn2)⟩
  have : B.1 ≤ q.base := hLc q hq
  rw [hB1] at this
  exact absurd (Nat.lt_of_lt_of_le hlt this) (Nat.lt_irrefl _)
