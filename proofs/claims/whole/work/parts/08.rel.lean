/-! the abstract machine's cells and locals in a real heap and a real frame -/
abbrev Bas : Type := Nat × Nat × (Nat → Nat)
def cv (B : Bas) (v : Value) : Value := match v with
  | .ref k => .ref (B.1 + k)
  | .retAddr 0 => .ref B.2.1
  | .retAddr (j + 1) => .ref (B.2.2 j)
  | .int x => .int x
  | .long x => .long x
  | .float x => .float x
  | .double x => .double x
  | .null => .null
theorem cv_cat (B : Bas) (v : Value) : (cv B v).category = v.category := by
  cases v <;> first | rfl | (rename_i j; cases j <;> rfl)
def lvE (B : Bas) : Nat → List Value → List (Nat × Value)
  | _, [] => []
  | i, v :: r => if isR v = true then (i, cv B v) :: lvE B (i + 1) r else lvE B (i + 1) r
theorem lvE_mem (B : Bas) : ∀ (al : List Value) (i n : Nat) (v : Value), al[n]? = some v → isR v = true → (i + n, cv B v) ∈ lvE B i al
  | [], i, n, v, h, _ => by simp at h
  | w :: al, i, 0, v, h, hr => by
    rw [List.getElem?_cons_zero] at h
    cases h
    rw [lvE, if_pos hr]
    exact List.mem_cons_self
  | w :: al, i, n + 1, v, h, hr => by
    rw [List.getElem?_cons_succ] at h
    have := lvE_mem B al (i + 1) n v h hr
    rw [show i + (n + 1) = i + 1 + n by omega, lvE]
    split
    · exact List.mem_cons_of_mem _ this
    · exact this
theorem lvE_of (B : Bas) : ∀ (al : List Value) (i : Nat) (q : Nat × Value), q ∈ lvE B i al → ∃ (n : Nat) (v : Value), al[n]? = some v ∧ isR v = true ∧ q = (i + n, cv B v)
  | [], i, q, h => by rw [lvE] at h; exact absurd h List.not_mem_nil
  | w :: al, i, q, h => by
    rw [lvE] at h
    split at h
    · next hr =>
      rcases List.mem_cons.mp h with h | h
      · exact ⟨0, w, rfl, hr, h⟩
      · obtain ⟨n, v, h1, h2, h3⟩ := lvE_of B al (i + 1) q h
        exact ⟨n + 1, v, h1, h2, by rw [h3, show i + (n + 1) = i + 1 + n by omega]⟩
    · obtain ⟨n, v, h1, h2, h3⟩ := lvE_of B al (i + 1) q h
      exact ⟨n + 1, v, h1, h2, by rw [h3, show i + (n + 1) = i + 1 + n by omega]⟩
abbrev LH (B : Bas) (ls : Array Slot) (nL : Nat) (al : List Value) : Prop := lv_has ls nL (lvE B 0 al)
theorem LH_at {B : Bas} {ls : Array Slot} {nL : Nat} {al : List Value} {i : Nat} {v : Value} (h : LH B ls nL al) (e : al[i]? = some v) (r : isR v = true) : ls[i]? = some (.val (cv B v)) := by
  have := h.2.2 _ (lvE_mem B al 0 i v e r)
  simpa using this
theorem LH_of {B : Bas} {ls : Array Slot} {nL : Nat} {al : List Value} {l : List (Nat × Value)} (h : lv_has ls nL l) (k : ∀ (n : Nat) (v : Value), al[n]? = some v → isR v = true → (n, cv B v) ∈ l) : LH B ls nL al :=
  ⟨h.1, h.2.1, fun q hq => by
    obtain ⟨n, v, e, r, rfl⟩ := lvE_of B al 0 q hq
    have := h.2.2 _ (k n v e r)
    simpa using this⟩
theorem mxG_at {al : List Value} {i n : Nat} {v : Value} (h : (mxG al i)[n]? = some v) (r : isR v = true) : al[n]? = some v ∧ ¬ (n + 1 = i ∧ v.category = 2) := by
  cases i with
  | zero => exact ⟨h, fun q => by omega⟩
  | succ j =>
    rw [mxG] at h
    have key : ∀ w : Value, isR (unL w) = true → unL w = w ∧ ¬ (unL w).category = 2 := by
      intro w hw
      cases w <;> first | (cases hw; done) | exact ⟨rfl, by intro z; cases z⟩
    split at h
    · next w e =>
      rw [List.getElem?_set] at h
      by_cases hj : j = n
      · subst hj
        rw [if_pos rfl] at h
        split at h
        · cases h
          obtain ⟨k1, k2⟩ := key w r
          exact ⟨by rw [k1]; exact e, fun q => k2 q.2⟩
        · cases h
      · rw [if_neg hj] at h
        exact ⟨h, fun q => hj (by omega)⟩
    · next e =>
      refine ⟨h, fun q => ?_⟩
      have hn : n = j := by omega
      subst hn
      rw [h] at e
      cases e
theorem LH_s1 {B : Bas} {ls' : Array Slot} {nL : Nat} {al : List Value} {i : Nat} {v : Value} (h' : lv_has ls' nL ((i, cv B v) :: (lvE B 0 al).filter (fun q => !(q.1 == i) && !(q.1 + 1 == i && q.2.category == 2)))) : LH B ls' nL (mxS1 al i v) := by
  refine LH_of h' fun n w e r => ?_
  rw [mxS1, List.getElem?_set] at e
  by_cases hi : i = n
  · subst hi
    rw [if_pos rfl] at e
    split at e
    · cases e; exact List.mem_cons_self
    · cases e
  · rw [if_neg hi] at e
    obtain ⟨h1, h2⟩ := mxG_at e r
    refine List.mem_cons_of_mem _ (List.mem_filter.mpr ⟨?_, ?_⟩)
    · have := lvE_mem B al 0 n w h1 r
      simpa using this
    · simp only [Bool.and_eq_true, Bool.not_eq_true', beq_eq_false_iff_ne, ne_eq, Bool.and_eq_false_imp, beq_iff_eq, cv_cat]
      exact ⟨fun q => hi q.symm, fun q z => h2 ⟨q, z⟩⟩
theorem LH_s2 {B : Bas} {ls' : Array Slot} {nL : Nat} {al : List Value} {i : Nat} {v : Value} (h' : lv_has ls' nL ((i, cv B v) :: (lvE B 0 al).filter (fun q => !(q.1 == i) && (!(q.1 == i + 1) && !(q.1 + 1 == i && q.2.category == 2))))) : LH B ls' nL (mxS2 al i v) := by
  refine LH_of h' fun n w e r => ?_
  rw [mxS2, List.getElem?_set] at e
  by_cases h1 : i + 1 = n
  · rw [if_pos h1] at e
    split at e
    · cases e; cases r
    · cases e
  rw [if_neg h1, List.getElem?_set] at e
  by_cases hi : i = n
  · subst hi
    rw [if_pos rfl] at e
    split at e
    · cases e; exact List.mem_cons_self
    · cases e
  · rw [if_neg hi] at e
    obtain ⟨h3, h2⟩ := mxG_at e r
    refine List.mem_cons_of_mem _ (List.mem_filter.mpr ⟨?_, ?_⟩)
    · have := lvE_mem B al 0 n w h3 r
      simpa using this
    · simp only [Bool.and_eq_true, Bool.not_eq_true', beq_eq_false_iff_ne, ne_eq, Bool.and_eq_false_imp, beq_iff_eq, cv_cat]
      exact ⟨fun q => hi q.symm, fun q => h1 q.symm, fun q z => h2 ⟨q, z⟩⟩
theorem mxA_args (B : Bas) : ∀ (as : List Value) (hd : ∀ x, Value.double x ∉ as) (i n : Nat) (v : Value), (mxA as)[n]? = some v → isR v = true → (i + n, cv B v) ∈ lv_args i (as.map (cv B))
  | [], _, i, n, v, h, _ => by simp [mxA] at h
  | w :: as, hd, i, n, v, h, hr => by
    have hd' : ∀ x, Value.double x ∉ as := fun x hx => hd x (List.mem_cons_of_mem _ hx)
    rw [List.map_cons, lv_args]
    by_cases hw : ∃ x, w = .long x
    · obtain ⟨x, rfl⟩ := hw
      rw [mxA] at h
      rw [if_pos (by rfl)]
      match n, h with
      | 0, h => cases h; exact List.mem_cons_self
      | 1, h => cases h; cases hr
      | n + 2, h =>
        have := mxA_args B as hd' (i + 2) n v h hr
        rw [show i + (n + 2) = i + 2 + n by omega]
        exact List.mem_cons_of_mem _ this
    · have e : mxA (w :: as) = w :: mxA as := by
        cases w with
        | long x => exact absurd ⟨x, rfl⟩ hw
        | _ => rfl
      rw [e] at h
      match n, h with
      | 0, h => cases h; exact List.mem_cons_self
      | n + 1, h =>
        rw [List.getElem?_cons_succ] at h
        refine List.mem_cons_of_mem _ ?_
        by_cases hc : (cv B w).category = 2
        · rw [cv_cat] at hc
          cases w with
          | long x => exact absurd ⟨x, rfl⟩ hw
          | double x => exact absurd List.mem_cons_self (hd x)
          | _ => cases hc
        · rw [if_neg hc, show i + (n + 1) = i + 1 + n by omega]
          exact mxA_args B as hd' (i + 1) n v h hr
