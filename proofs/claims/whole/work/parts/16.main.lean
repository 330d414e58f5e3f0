/-! soundness of a whole run -/
section
variable {G : Gx} {B : Bas}
def Qe (G : Gx) (B : Bas) (r : Rs) : Array Value → State → Outcome → State → Prop := fun _ st o t => o = .returned (r.1.map (cv B)) ∧ HR G B r.2 t.heap ∧ (∀ q, q < B.1 → t.heap[q]? = st.heap[q]?)
def Pe (G : Gx) (B : Bas) (as : List Value) (σ : Hp) : Array Value → State → Prop := fun v U => v = (as.map (cv B)).toArray ∧ HR G B σ U.heap ∧ Kn G B (hX σ) U
def rmD (d mc ms : Nat) : Room := { frames := d, cells := mc, slots := ms, locals := 100 * d }
def wsM (m : Nat) : List Cond := Cond.code (mnG m) (mbG m) (mxI m).2.1 (mxI m).2.2 :: TG
def SndW (G : Gx) (B : Bas) (x : Fr) (r : Rs) : Prop :=
  ∀ (p : Program) (l : Launch) (e : Env) (R : Room) (s : State) (mm : MethodId) (args : Array Value) (below : List Frame) (meth : Method) (c : Code) (H : Heap) (locs : List Loc) (lsC : Array Slot) (nE sE : Nat),
    Cx G B (hX x.2.2.2.2.2) p s mm args meth c x.2.1 → RmOK R x.1 → hN r.2 - nE ≤ R.cells → hS r.2 - sE ≤ R.slots → nE ≤ hN x.2.2.2.2.2 → sE ≤ hS x.2.2.2.2.2 → HR G B x.2.2.2.2.2 H → va_S (fr0 B) s.heap H locs → LH B lsC (mxI x.2.1).2.1 x.2.2.2.1 →
    W p l e R s mm args below meth c H locs (hN x.2.2.2.2.2 - nE) (hS x.2.2.2.2.2 - sE) (MQ below (Qe G B r) args s (hN r.2 - nE) (hS r.2 - sE) (fr0 B)) (F0 mm x.2.2.1 lsC (x.2.2.2.2.1.map (cv B)))
def Snd (G : Gx) (B : Bas) (x : Fr) (r : Rs) : Prop := (hX r.2 = hX x.2.2.2.2.2 ∧ hN x.2.2.2.2.2 ≤ hN r.2 ∧ hS x.2.2.2.2.2 ≤ hS r.2) ∧ SndW G B x r
abbrev hSl (σ : Hp) : Nat := hS σ
theorem lg_len : ∀ (as : List Value), as.all isR = true → (lg_sl (as.map (cv B))).length = (mxA as).length
  | [], _ => rfl
  | v :: as, h => by
    have h2 : as.all isR = true := by simp only [List.all_cons, Bool.and_eq_true] at h; exact h.2
    have h1 : isR v = true := by simp only [List.all_cons, Bool.and_eq_true] at h; exact h.1
    have ih := lg_len as h2
    unfold lg_sl at ih ⊢
    rw [List.map_cons, List.flatMap_cons, List.length_append, ih]
    cases v with
    | long x => rw [if_pos (by rfl)]; simp only [mxA, List.length_cons, List.length_nil]; omega
    | float x => cases h1
    | double x => cases h1
    | retAddr j => cases j <;> (rw [if_neg (by intro z; cases z)]; simp only [mxA, List.length_cons, List.length_nil]; omega)
    | int x => rw [if_neg (by intro z; cases z)]; simp only [mxA, List.length_cons, List.length_nil]; omega
    | null => rw [if_neg (by intro z; cases z)]; simp only [mxA, List.length_cons, List.length_nil]; omega
    | ref x => rw [if_neg (by intro z; cases z)]; simp only [mxA, List.length_cons, List.length_nil]; omega
theorem entry_LH {cal : Nat} {as : List Value} (hall : as.all isR = true) (hlen : (mxA as).length ≤ (mxI cal).2.1) : LH B ((lg_sl (as.map (cv B)) ++ List.replicate ((mxI cal).2.1 - (lg_sl (as.map (cv B))).length) Slot.unset).toArray) (mxI cal).2.1 (mxE cal as) := by
  refine LH_of (lv_entry (as.map (cv B)) (by rw [lg_len as hall]; exact hlen)) fun n v e r => ?_
  unfold mxE at e
  rw [List.getElem?_append] at e
  split at e
  · have := mxA_args B as (fun x hx => by have := List.all_eq_true.mp hall _ hx; cases this) 0 n v e r
    rwa [Nat.zero_add] at this
  · rw [List.getElem?_replicate] at e
    split at e
    · cases e; cases r
    · cases e
theorem met_of {e cal : Nat} {as : List Value} {σ : Hp} {r1 : Rs} (hS : Snd G B (e, cal, 0, mxE cal as, [], σ) r1) (hc : cal < 227) (hall : as.all isR = true) (hlen : (mxA as).length ≤ (mxI cal).2.1) (l : Launch) :
    Met l (mnG cal) (wsM cal) (rmD e (hN r1.2 - hN σ) (hSl r1.2 - hSl σ)) (Pe G B as σ) (Qe G B r1) (hN r1.2 - hN σ) (hSl r1.2 - hSl σ) (fr0 B) := by
  refine Met.ofW (cc := mbG cal) (maxL := (mxI cal).2.1) (ret := (mxI cal).2.2) (me_spec hc).2.1 rfl ?_
  intro p e' s mm args below meth c s₁ Bd hml hv
  obtain ⟨rfl, hH, hK⟩ := hv
  have hts : ∀ w ∈ wsM cal, w.before _ s = true := atoms_spec (ws := wsM cal) Bd.pre
  have hown := findClass_of_methodNamed Bd.named
  rw [lg_entry_eq]
  have := hS.2 p l e' (rmD e (hN r1.2 - hN σ) (hSl r1.2 - hSl σ)) s mm _ below meth c s.heap [] _ (hN σ) (hSl σ) ⟨Bd.exec, Bd.bytes, hml, Bd.returns, Bd.notSynchronized, by rw [← (me_spec hc).2.2.2.1]; exact hown, (name_of_methodNamed Bd.named Bd.method).1, fun w hw => hts w (List.mem_cons_of_mem _ hw), hK, by rw [hH.1]; exact Nat.le_add_right _ _⟩ ⟨Nat.le_refl _, Nat.le_refl _⟩ (Nat.le_refl _) (Nat.le_refl _) (Nat.le_refl _) (Nat.le_refl _) hH va_S.rf (entry_LH hall hlen)
  simp only [Nat.sub_self] at this
  exact this
theorem after_call {p : Program} {l : Launch} {e : Env} {R : Room} {s : State} {mm : MethodId} {args : Array Value} {below : List Frame} {meth : Method} {c : Code} {H : Heap} {locs : List Loc} {cells slots mc ms pc : Nat} {lsC : Array Slot} {st0 rest : List Value} {a : Array Value} {r1 : Rs} {Q : State → Prop} {σ : Hp}
    (hr : va_Run p l e R s mm args below meth c H locs cells slots mc ms (F0 mm pc lsC st0) rest (Qe G B r1 a) (fr0 B)) (hB : B.1 ≤ s.heap.size) (hV : va_S (fr0 B) s.heap H locs) (hH : HR G B σ H) (hle : hN σ ≤ hN r1.2)
    (kk : ∀ (H1 : Heap) (locs1 : List Loc), HR G B r1.2 H1 → va_S (fr0 B) s.heap H1 locs1 → W p l e R s mm args below meth c H1 locs1 (cells + mc) (slots + ms) Q (F0 mm (pc + 3) lsC ((r1.1.map (cv B)).toList ++ rest))) : W p l e R s mm args below meth c H locs cells slots Q (F0 mm pc lsC st0) := by
  intro T hT X
  obtain ⟨v, st₀, t, T', L, h0, X', hL, e1, e2, ⟨hv, hHR, hfr⟩, st⟩ := hr T hT X
  cases hv
  rw [h0] at hfr
  obtain ⟨t2, a1, b1⟩ := kk T'.heap (locs ++ L) (by rw [e1]; exact hHR) ⟨by rw [e1, hHR.1]; have := hV.1; have := hH.1; omega, fun q g1 g2 => by rw [e1, hfr q (Nat.not_le.mp g2)]; exact hV.2.1 q g1 g2, fun q hq => by
    rcases List.mem_append.mp hq with h | h
    · exact hV.2.2 q h
    · exact hL q h⟩ T' rfl X'
  exact ⟨t2, st t2 a1, b1⟩
theorem Pe_blind {as : List Value} {σ : Hp} : FrameBlind (Pe G B as σ) := fun _ _ _ _ h => ⟨h.1, h.2.1, Kn_vm h.2.2 rfl rfl⟩
theorem wsM_good {cal : Nat} (hc : cal < 227) : GoodIn TG (wsM cal) := fun w hw => by
  rcases List.mem_cons.mp hw with e | e
  · rw [e]; exact TG_good _ (mc_spec hc)
  · exact TG_good w e
theorem toList_cv (o : Option Value) (rest : List Value) : (o.map (cv B)).toList ++ rest.map (cv B) = (o.toList ++ rest).map (cv B) := by cases o <;> rfl
end
