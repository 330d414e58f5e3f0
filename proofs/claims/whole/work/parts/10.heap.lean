/-! the heap relation, a method's context -/
abbrev Gx : Type := va_G × (Nat → ClassId)
def rowE (B : Bas) (σ : Hp) (k : Nat) : (Nat → Int32) ⊕ (Nat → Int64) ⊕ (Nat → UInt32) ⊕ (Nat → UInt64) ⊕ (Nat → Option Nat) :=
  if hK σ k = 101 then .inr (.inl (hJ σ k)) else if 103 ≤ hK σ k then .inr (.inr (.inr (.inr (fun i => (hR σ k i).map (fun q => B.1 + q))))) else .inl (hI σ k)
def cOK (G : Gx) (B : Bas) (σ : Hp) (k : Nat) (H : Heap) : Prop :=
  if hK σ k < 100 then ∃ r : vw_C, vwCl[hK σ k]? = some r ∧ t_OB (B.1 + k) (G.1.1 (hK σ k)) r.2.2 (G.1.2 (hK σ k)) H (fun j => cv B (hF σ k j))
  else H[B.1 + k]? = some (vp_cell (G.2 (hK σ k)) (hL σ k, rowE B σ k))
def HR (G : Gx) (B : Bas) (σ : Hp) (H : Heap) : Prop := H.size = B.1 + hN σ ∧ ∀ k, k < hN σ → cOK G B σ k H
def same (σ τ : Hp) (k : Nat) : Prop := hK τ k = hK σ k ∧ hL τ k = hL σ k ∧ hF τ k = hF σ k ∧ hI τ k = hI σ k ∧ hJ τ k = hJ σ k ∧ hR τ k = hR σ k
theorem cOK_kept {G : Gx} {B : Bas} {σ τ : Hp} {k : Nat} {H H1 : Heap} (h : cOK G B σ k H) (s : same σ τ k) (e : H1[B.1 + k]? = H[B.1 + k]?) : cOK G B τ k H1 := by
  obtain ⟨s1, s2, s3, s4, s5, s6⟩ := s
  unfold cOK rowE at h ⊢
  rw [s1, s2, s3, s4, s5, s6]
  split at h
  · next hh =>
    rw [if_pos hh]
    obtain ⟨r, h1, h2⟩ := h
    exact ⟨r, h1, h2.kept e⟩
  · next hh =>
    rw [if_neg hh, e]
    exact h
theorem HR_set {G : Gx} {B : Bas} {σ τ : Hp} {q : Nat} {H H1 : Heap} (h : HR G B σ H) (hn : hN τ = hN σ) (hs : ∀ k, k ≠ q → same σ τ k) (z : H1.size = H.size) (oq : ∀ a, a ≠ B.1 + q → H1[a]? = H[a]?) (hc : cOK G B τ q H1) : HR G B τ H1 := by
  refine ⟨by rw [z, hn]; exact h.1, fun k hk => ?_⟩
  by_cases e : k = q
  · rw [e]; exact hc
  · exact cOK_kept (h.2 k (by omega)) (hs k e) (oq _ (by omega))
theorem HR_push {G : Gx} {B : Bas} {σ τ : Hp} {H H1 : Heap} (h : HR G B σ H) (hn : hN τ = hN σ + 1) (hs : ∀ k, k < hN σ → same σ τ k) (z : H1.size = H.size + 1) (oq : ∀ a, a < H.size → H1[a]? = H[a]?) (hc : cOK G B τ (hN σ) H1) : HR G B τ H1 := by
  have h1 := h.1
  refine ⟨by rw [z, hn]; omega, fun k hk => ?_⟩
  by_cases e : k = hN σ
  · rw [e]; exact hc
  · exact cOK_kept (h.2 k (by omega)) (hs k (by omega)) (oq _ (by omega))
theorem sF_same {σ : Hp} {q j : Nat} {v : Value} {k : Nat} (h : k ≠ q) : same σ (sF σ q j v) k := ⟨rfl, rfl, by funext j'; show (if k = q ∧ j' = j then v else hF σ k j') = _; rw [if_neg (fun e => h e.1)], rfl, rfl, rfl⟩
theorem sI_same {σ : Hp} {q : Nat} {f : Nat → Int32} {k : Nat} (h : k ≠ q) : same σ (sI σ q f) k := ⟨rfl, rfl, rfl, by show (if k = q then f else hI σ k) = _; rw [if_neg h], rfl, rfl⟩
theorem sJ_same {σ : Hp} {q : Nat} {f : Nat → Int64} {k : Nat} (h : k ≠ q) : same σ (sJ σ q f) k := ⟨rfl, rfl, rfl, rfl, by show (if k = q then f else hJ σ k) = _; rw [if_neg h], rfl⟩
theorem sR_same {σ : Hp} {q : Nat} {f : Nat → Option Nat} {k : Nat} (h : k ≠ q) : same σ (sR σ q f) k := ⟨rfl, rfl, rfl, rfl, rfl, by show (if k = q then f else hR σ k) = _; rw [if_neg h]⟩
theorem nO_same {σ : Hp} {c n : Nat} {fs : Nat → Value} {k : Nat} (h : k < hN σ) : same σ (nO σ c n fs) k := ⟨by show (if k = hN σ then c else hK σ k) = _; rw [if_neg (by omega)], rfl, by funext j'; show (if k = hN σ then fs j' else hF σ k j') = _; rw [if_neg (by omega)], rfl, rfl, rfl⟩
theorem nA_same {σ : Hp} {c n : Nat} {k : Nat} (h : k < hN σ) : same σ (nA σ c n) k := ⟨by show (if k = hN σ then c else hK σ k) = _; rw [if_neg (by omega)], by show (if k = hN σ then n else hL σ k) = _; rw [if_neg (by omega)], rfl, by show (if k = hN σ then (fun _ => 0) else hI σ k) = _; rw [if_neg (by omega)], by show (if k = hN σ then (fun _ => 0) else hJ σ k) = _; rw [if_neg (by omega)], by show (if k = hN σ then (fun _ => none) else hR σ k) = _; rw [if_neg (by omega)]⟩
theorem cOK_obj {G : Gx} {B : Bas} {σ : Hp} {k c : Nat} {H : Heap} {r : vw_C} (h : cOK G B σ k H) (hk : hK σ k = c) (hr : vwCl[c]? = some r) : t_OB (B.1 + k) (G.1.1 c) r.2.2 (G.1.2 c) H (fun j => cv B (hF σ k j)) := by
  have := cl_lt hr
  unfold cOK at h
  rw [if_pos (by omega), hk] at h
  obtain ⟨r1, e1, h2⟩ := h
  cases e1.symm.trans hr
  exact h2
theorem cOK_obj_of {G : Gx} {B : Bas} {σ : Hp} {k c : Nat} {H : Heap} {r : vw_C} (hk : hK σ k = c) (hr : vwCl[c]? = some r) (h : t_OB (B.1 + k) (G.1.1 c) r.2.2 (G.1.2 c) H (fun j => cv B (hF σ k j))) : cOK G B σ k H := by
  have := cl_lt hr
  unfold cOK
  rw [if_pos (by omega), hk]
  exact ⟨r, hr, h⟩
theorem cOK_arr {G : Gx} {B : Bas} {σ : Hp} {k c : Nat} {H : Heap} (h : cOK G B σ k H) (hk : hK σ k = c) (hc : 100 ≤ c) : H[B.1 + k]? = some (vp_cell (G.2 c) (hL σ k, rowE B σ k)) := by
  unfold cOK at h
  rw [if_neg (by omega), hk] at h
  exact h
theorem cOK_arr_of {G : Gx} {B : Bas} {σ : Hp} {k c : Nat} {H : Heap} (hk : hK σ k = c) (hc : 100 ≤ c) (h : H[B.1 + k]? = some (vp_cell (G.2 c) (hL σ k, rowE B σ k))) : cOK G B σ k H := by
  unfold cOK
  rw [if_neg (by omega), hk]
  exact h
theorem rowE_I {B : Bas} {σ : Hp} {k c : Nat} (hk : hK σ k = c) (hc : c = 100 ∨ c = 102) : rowE B σ k = .inl (hI σ k) := by
  unfold rowE; rw [hk]; rcases hc with rfl | rfl <;> rfl
theorem rowE_J {B : Bas} {σ : Hp} {k : Nat} (hk : hK σ k = 101) : rowE B σ k = .inr (.inl (hJ σ k)) := by
  unfold rowE; rw [hk]; rfl
theorem rowE_R {B : Bas} {σ : Hp} {k : Nat} (hk : hK σ k = 103 ∨ hK σ k = 104) : rowE B σ k = .inr (.inr (.inr (.inr (fun i => (hR σ k i).map (fun q => B.1 + q))))) := by
  unfold rowE; rcases hk with h | h <;> rw [h] <;> rfl
def tysG (G : Gx) : List (ClassId × FieldType) := [(G.2 100, .int), (G.2 101, .long), (G.2 102, .boolean), (G.2 103, .object RX5), (G.2 104, .object RX9)]
/-- the texts of Reader: where they are, what they hold (their bytes' row of the j-th text is at B.2.2 (100 + j)) -/
def stTx : List String := ["pays", "costs", "bars", "wants", "sells", "owner", "holder", "to", "day", "weekday", "rain", "held", "price", "if", "not", "and", "or"]
def sLens : List Nat := stAll.map (fun q => q.2.length)
def sByts : List (List Int32) := stAll.map (fun q => q.2.map nI)
def StrK (B : Bas) (U : State) : Prop :=
  (∀ (j : Nat) (q : Nat × List Nat) (tx : String), stAll[j]? = some q → stTx[j]? = some tx → vk_R RX8 q.1 tx (B.2.2 j) U) ∧
  vk_S 17 sLens sByts B.2.2 (fun j => B.2.2 (100 + j)) (fun q => B.1 ≤ q) U U.heap ∧ va_Z "java/lang/String" "COMPACT_STRINGS" "Z" (.int 1) (fun q => B.1 ≤ q) U U.heap ∧ va_Zq "jdk/internal/util/Preconditions" "SIOOBE_FORMATTER" "Ljava/util/function/BiFunction;" (fun q => B.1 ≤ q) U U.heap
theorem StrK_warm {B : Bas} {s U : State} (h : StrK B s) (hW : s.WarmedH U.vm) (hq : ∀ q, q < B.1 → U.heap[q]? = s.heap[q]?) : StrK B U := by
  obtain ⟨h1, h2, h3, h4⟩ := h
  have hk : ∀ a : Nat, a < s.heap.size → ¬ B.1 ≤ a → U.heap[a]? = s.heap[a]? := fun a _ ha => hq a (Nat.not_le.mp ha)
  exact ⟨fun j q tx e1 e2 => vk_R.warm hW (h1 j q tx e1 e2), (h2.moved hW.alike).kept hk, (h3.moved hW.alike).kept hk, (h4.moved hW.alike).kept hk⟩
theorem StrK_vm {B : Bas} {s U : State} (h : StrK B s) (hv : s.vm = U.vm) (hh : U.heap = s.heap) : StrK B U := StrK_warm h (by rw [← hv]; exact State.WarmedH.refl s) (fun q _ => by rw [hh])
def Kn (G : Gx) (B : Bas) (X : Nat × (Nat → Int32)) (U : State) : Prop := va_K G.1 vwCl (tysG G) U ∧ (va_AO RX5 U ∧ va_AO RX9 U) ∧ (∀ q ∈ nests, va_Nw (.methodLinkNest q.1 q.2.1 q.2.2 RX11) U) ∧ (va_X B.2.1 X.1 X.2 U U.heap ∧ B.2.1 < B.1) ∧ StrK B U
theorem Kn_warm {G : Gx} {B : Bas} {X : Nat × (Nat → Int32)} {s U : State} (h : Kn G B X s) (hW : s.WarmedH U.vm) (hq : ∀ q, q < B.1 → U.heap[q]? = s.heap[q]?) : Kn G B X U := by
  obtain ⟨h1, ⟨h2, h3⟩, h4, ⟨h5, h6⟩, h7⟩ := h
  refine ⟨va_K.moved hW.alike h1, ⟨va_AO.moved hW.alike h2, va_AO.moved hW.alike h3⟩, fun q hq => va_Nw.warmM hW (h4 q hq), ⟨(va_X.moved hW.alike h5).kept (hq _ h6), h6⟩, StrK_warm h7 hW hq⟩
theorem Kn_vm {G : Gx} {B : Bas} {X : Nat × (Nat → Int32)} {s U : State} (h : Kn G B X s) (hv : s.vm = U.vm) (hh : U.heap = s.heap) : Kn G B X U := by
  have := Kn_warm (U := U) h (by rw [← hv]; exact State.WarmedH.refl s) (fun q _ => by rw [hh])
  exact this
def Cx (G : Gx) (B : Bas) (X : Nat × (Nat → Int32)) (p : Program) (s : State) (mm : MethodId) (args : Array Value) (meth : Method) (c : Code) (m : Nat) : Prop :=
  p.tables.exec = Jvm.exec ∧ c.code = mbG m ∧ c.maxLocals = (mxI m).2.1 ∧ meth.sig.returnType = (mxI m).2.2 ∧ meth.locks = false ∧ s.vm.findClass (owG m) = some mm.cls ∧ meth.name = (mnG m).name ∧ (∀ w ∈ TG, w.before args s = true) ∧ Kn G B X s ∧ B.1 ≤ s.heap.size
def RmOK (R : Room) (d : Nat) : Prop := d ≤ R.frames ∧ 100 * d ≤ R.locals
def fr0 (B : Bas) : Nat → Prop := fun q => B.1 ≤ q
def Go (G : Gx) (B : Bas) (m d : Nat) (x y : Nat × List Value × List Value × Hp) : Prop :=
  ∀ (p : Program) (l : Launch) (e : Env) (R : Room) (s : State) (mm : MethodId) (args : Array Value) (below : List Frame) (meth : Method) (c : Code) (H : Heap) (locs : List Loc) (lsC : Array Slot) (nE sE : Nat) (Q : State → Prop),
    Cx G B (hX x.2.2.2) p s mm args meth c m → RmOK R d → hN y.2.2.2 - nE ≤ R.cells → hS y.2.2.2 - sE ≤ R.slots → nE ≤ hN x.2.2.2 → sE ≤ hS x.2.2.2 → HR G B x.2.2.2 H → va_S (fr0 B) s.heap H locs → LH B lsC (mxI m).2.1 x.2.1 →
    (∀ (H1 : Heap) (locs1 : List Loc) (lsC1 : Array Slot), HR G B y.2.2.2 H1 → va_S (fr0 B) s.heap H1 locs1 → LH B lsC1 (mxI m).2.1 y.2.1 → W p l e R s mm args below meth c H1 locs1 (hN y.2.2.2 - nE) (hS y.2.2.2 - sE) Q (F0 mm y.1 lsC1 (y.2.2.1.map (cv B)))) →
    W p l e R s mm args below meth c H locs (hN x.2.2.2 - nE) (hS x.2.2.2 - sE) Q (F0 mm x.1 lsC (x.2.2.1.map (cv B)))
