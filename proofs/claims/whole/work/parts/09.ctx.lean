/-! what the static checks say, lemma by lemma -/
theorem TG_of {w : Cond} (h : w ∈ lw_tbl) (g : goodWord w = true) : w ∈ TG := List.mem_filter.mpr ⟨h, g⟩
theorem TG_good : GoodIn TG TG := fun w hw => ⟨hw, good_of_word (List.mem_filter.mp hw).2⟩
theorem fl_spec {m i c j : Nat} {fin : Bool} {ty : FieldType} (h : mxF m i = some (c, j, fin, ty)) : ∃ r : vw_C, vwCl[c]? = some r ∧ j < r.2.2 ∧ Cond.fieldLink (owG m) i (r.2.1 j).1 (r.2.1 j).2.1 (r.2.1 j).2.2.1 ∈ TG ∧ (r.2.1 j).2.2.2 = fin ∧ parseFieldDescriptor (r.2.1 j).2.2.1 = some ty ∧ (r.2.1 j).1 = r.1 ∧ owAll.getD c "" = r.1 := by
  have h1 := List.all_eq_true.mp (fl_all (mxI m).1) _ (lookup_mem _ _ _ h)
  unfold flOK at h1
  dsimp only at h1
  split at h1
  · next r e =>
    simp only [Bool.and_eq_true, decide_eq_true_eq] at h1
    obtain ⟨⟨⟨⟨⟨a1, a2⟩, a3⟩, a4⟩, a5⟩, a6⟩ := h1
    exact ⟨r, e, a1, TG_of a2 rfl, a3, a4, a5, a6⟩
  · cases h1
theorem ks_int {m i : Nat} {x : Int32} (h : mxK m i = some (.int x)) : Cond.constant (owG m) i x ∈ TG := by
  have h1 := List.all_eq_true.mp (ks_all (mxI m).1) _ (lookup_mem _ _ _ h)
  simp only [ksOK, decide_eq_true_eq] at h1
  exact TG_of h1 rfl
theorem ks_long {m i : Nat} {x : Int64} (h : mxK m i = some (.long x)) : Cond.constantLong (owG m) i x ∈ TG := by
  have h1 := List.all_eq_true.mp (ks_all (mxI m).1) _ (lookup_mem _ _ _ h)
  simp only [ksOK, decide_eq_true_eq] at h1
  exact TG_of h1 rfl
theorem ks_str {m i j : Nat} (h : mxK m i = some (.retAddr (j + 1))) : (mxI m).1 = 8 ∧ (stAll.getD j (0, [])).1 = i ∧ j < 17 := by
  have h1 := List.all_eq_true.mp (ks_all (mxI m).1) _ (lookup_mem _ _ _ h)
  simp only [ksOK, Bool.and_eq_true, decide_eq_true_eq, beq_iff_eq] at h1
  exact ⟨h1.1.1, h1.1.2, h1.2⟩
theorem cl_spec {m i c n : Nat} (h : mxN m i = some (c, n)) : ∃ r : vw_C, vwCl[c]? = some r ∧ r.2.2 = n ∧ Cond.classLink (owG m) i r.1 ∈ TG ∧ Cond.instantiable r.1 n ∈ TG ∧ Cond.initialized r.1 ∈ TG := by
  have h1 := List.all_eq_true.mp (cl_all (mxI m).1) _ (lookup_mem _ _ _ h)
  unfold clOK at h1
  dsimp only at h1
  split at h1
  · next r e =>
    simp only [Bool.and_eq_true, decide_eq_true_eq] at h1
    obtain ⟨⟨⟨a1, a2⟩, a3⟩, a4⟩ := h1
    exact ⟨r, e, a1, TG_of a2 rfl, TG_of a3 rfl, TG_of a4 rfl⟩
  · cases h1
theorem me_spec {m : Nat} (h : m < 227) : Cond.initialized (mnG m).cls ∈ TG ∧ plainName (mnG m).cls = true ∧ ((mnG m).cls ≠ "java/lang/invoke/MethodHandle" ∧ (mnG m).cls ≠ "java/lang/invoke/VarHandle") ∧ (mnG m).cls = owG m ∧ (mxI m).2.1 ≤ 60 := by
  have h1 := me_all m h
  simp only [meOK, Bool.and_eq_true, decide_eq_true_eq] at h1
  obtain ⟨⟨⟨⟨⟨a1, a2⟩, a3⟩, a4⟩, a5⟩, a6⟩ := h1
  exact ⟨TG_of (lwAt_mem a1) rfl, a2, ⟨a3, a4⟩, a5, a6⟩
theorem mc_spec {m : Nat} (h : m < 227) : Cond.code (mnG m) (mbG m) (mxI m).2.1 (mxI m).2.2 ∈ TG := TG_of (mc_all m h) rfl
theorem zip_mem {α β : Type} : ∀ (l : List α) (k : List β), l.length = k.length → ∀ a ∈ l, ∃ b, (a, b) ∈ List.zip l k
  | [], _, _, a, h => absurd h List.not_mem_nil
  | x :: l, [], h, _, _ => by cases h
  | x :: l, y :: k, h, a, ha => by
    rcases List.mem_cons.mp ha with e | e
    · exact ⟨y, by rw [e]; exact List.mem_cons_self⟩
    · obtain ⟨b, hb⟩ := zip_mem l k (by simpa using h) a e
      exact ⟨b, List.mem_cons_of_mem _ hb⟩
theorem ml_spec {m i k cal na : Nat} (h : mxM m i = some (k, cal, na)) :
    (k = 3 ∧ Cond.methodLink (owG m) i objectInit ∈ TG) ∨ (k = 4 ∧ Cond.methodLink (owG m) i arraycopyName ∈ TG) ∨ ((k = 5 ∨ k = 6) ∧ (mxI m).1 = 8) ∨ (k = 7 ∧ Cond.methodLink (owG m) i Lib.Math.max.name ∈ TG) ∨ (k = 8 ∧ Cond.methodLink (owG m) i Lib.Math.min.name ∈ TG) ∨
    (cal < 227 ∧ (parseMethodDescriptor (mnG cal).desc).map (fun d => d.parameters.length) = some na ∧
      ((k = 0 ∧ Cond.static (mnG cal) ∈ TG ∧ Cond.methodLink (owG m) i (mnG cal) ∈ TG) ∨
       (k = 1 ∧ Cond.instanceMethod (mnG cal) ∈ TG ∧ Cond.selects (mnG cal).cls (mnG cal) (mnG cal) ∈ TG ∧ Cond.methodLink (owG m) i (mnG cal) ∈ TG) ∨
       (k = 2 ∧ (mnG cal).name = "<init>" ∧ (mxI cal).2.2 = none ∧ Cond.instanceMethod (mnG cal) ∈ TG ∧ Cond.methodLink (owG m) i (mnG cal) ∈ TG) ∨
       (k = 12 ∧ (mnG cal).name = "<init>" ∧ (mxI cal).2.2 = none ∧ Cond.instanceMethod (mnG cal) ∈ TG ∧ (owG m, i, mnG cal) ∈ nests))) := by
  obtain ⟨b, hb⟩ := zip_mem _ _ (ml_len (mxI m).1) _ (lookup_mem _ _ _ h)
  have h1 := List.all_eq_true.mp (ml_all (mxI m).1) _ hb
  unfold mlOK at h1
  dsimp only at h1
  simp only [Bool.or_eq_true, Bool.and_eq_true, decide_eq_true_eq, beq_iff_eq] at h1
  rcases h1 with ((((⟨a, b⟩ | ⟨a, b⟩) | ⟨a, b⟩) | ⟨a, b⟩) | ⟨a, b⟩) | ⟨⟨a, b⟩, c⟩
  · exact Or.inl ⟨a, TG_of (lwAt_mem b) rfl⟩
  · exact Or.inr (Or.inl ⟨a, TG_of (lwAt_mem b) rfl⟩)
  · exact Or.inr (Or.inr (Or.inl ⟨a, b⟩))
  · exact Or.inr (Or.inr (Or.inr (Or.inl ⟨a, TG_of (lwAt_mem b) rfl⟩)))
  · exact Or.inr (Or.inr (Or.inr (Or.inr (Or.inl ⟨a, TG_of (lwAt_mem b) rfl⟩))))
  · refine Or.inr (Or.inr (Or.inr (Or.inr (Or.inr ⟨a, b, ?_⟩))))
    rcases c with ((⟨⟨c1, c2⟩, c3⟩ | ⟨⟨⟨c1, c2⟩, c3⟩, c4⟩) | ⟨⟨⟨⟨c1, c2⟩, c3⟩, c4⟩, c5⟩) | ⟨⟨⟨⟨c1, c2⟩, c3⟩, c4⟩, c5⟩
    · exact Or.inl ⟨c1, TG_of (lwAt_mem c2) rfl, TG_of (lwAt_mem c3) rfl⟩
    · exact Or.inr (Or.inl ⟨c1, TG_of (lwAt_mem c2) rfl, TG_of (lwAt_mem c3) rfl, TG_of (lwAt_mem c4) rfl⟩)
    · exact Or.inr (Or.inr (Or.inl ⟨c1, c2, c3, TG_of (lwAt_mem c4) rfl, TG_of (lwAt_mem c5) rfl⟩))
    · exact Or.inr (Or.inr (Or.inr ⟨c1, c2, c3, TG_of (lwAt_mem c4) rfl, c5⟩))
-- classes: their words, their types, their names
def clP (r : vw_C) : Prop := (∀ w ∈ u_ws r.1 r.2.1 r.2.2, w ∈ TG) ∧ (∃ ty0 : Nat → FieldType, ∀ k, k < r.2.2 → parseFieldDescriptor (r.2.1 k).2.2.1 = some (ty0 k)) ∧ (∀ a, a < r.2.2 → ∀ b, b < r.2.2 → a ≠ b → (r.2.1 a).2.1 ≠ (r.2.1 b).2.1)
def wsIn (l : List Cond) : Bool := l.all fun w => decide (w ∈ lw_tbl) && goodWord w
theorem wsIn_spec {l : List Cond} (h : wsIn l = true) : ∀ w ∈ l, w ∈ TG := fun w hw => by
  have := List.all_eq_true.mp h w hw
  simp only [Bool.and_eq_true, decide_eq_true_eq] at this
  exact TG_of this.1 this.2
set_option maxRecDepth 100000 in
theorem wi_0 : wsIn (u_ws RX0 TX0 1) = true := by decide +kernel
set_option maxRecDepth 100000 in
theorem wi_1 : wsIn (u_ws RX1 TX1 3) = true := by decide +kernel
set_option maxRecDepth 100000 in
theorem wi_2 : wsIn (u_ws RX2 TX2 4) = true := by decide +kernel
set_option maxRecDepth 100000 in
theorem wi_3 : wsIn (u_ws RX3 TX3 6) = true := by decide +kernel
set_option maxRecDepth 100000 in
theorem wi_4 : wsIn (u_ws RX4 TX4 4) = true := by decide +kernel
set_option maxRecDepth 100000 in
theorem wi_5 : wsIn (u_ws RX5 TX5 1) = true := by decide +kernel
set_option maxRecDepth 100000 in
theorem wi_6 : wsIn (u_ws RX6 TX6 4) = true := by decide +kernel
set_option maxRecDepth 100000 in
theorem wi_7 : wsIn (u_ws RX7 TX7 4) = true := by decide +kernel
set_option maxRecDepth 100000 in
theorem wi_8 : wsIn (u_ws RX8 TX8 7) = true := by decide +kernel
set_option maxRecDepth 100000 in
theorem wi_9 : wsIn (u_ws RX9 TX9 9) = true := by decide +kernel
set_option maxRecDepth 100000 in
theorem wi_10 : wsIn (u_ws RX10 TX10 2) = true := by decide +kernel
set_option maxRecDepth 100000 in
theorem wi_11 : wsIn (u_ws RX11 TX11 15) = true := by decide +kernel
set_option maxRecDepth 100000 in
theorem wi_12 : wsIn (u_ws RX12 TX12 53) = true := by decide +kernel
theorem cl_all_P : ∀ r ∈ vwCl, clP r := (List.forall_mem_cons.mpr ⟨⟨wsIn_spec wi_0, ⟨tyX0, tyX0_ok⟩, nmX0⟩, (List.forall_mem_cons.mpr ⟨⟨wsIn_spec wi_1, ⟨tyX1, tyX1_ok⟩, nmX1⟩, (List.forall_mem_cons.mpr ⟨⟨wsIn_spec wi_2, ⟨tyX2, tyX2_ok⟩, nmX2⟩, (List.forall_mem_cons.mpr ⟨⟨wsIn_spec wi_3, ⟨tyX3, tyX3_ok⟩, nmX3⟩, (List.forall_mem_cons.mpr ⟨⟨wsIn_spec wi_4, ⟨tyX4, tyX4_ok⟩, nmX4⟩, (List.forall_mem_cons.mpr ⟨⟨wsIn_spec wi_5, ⟨tyX5, tyX5_ok⟩, nmX5⟩, (List.forall_mem_cons.mpr ⟨⟨wsIn_spec wi_6, ⟨tyX6, tyX6_ok⟩, nmX6⟩, (List.forall_mem_cons.mpr ⟨⟨wsIn_spec wi_7, ⟨tyX7, tyX7_ok⟩, nmX7⟩, (List.forall_mem_cons.mpr ⟨⟨wsIn_spec wi_8, ⟨tyX8, tyX8_ok⟩, nmX8⟩, (List.forall_mem_cons.mpr ⟨⟨wsIn_spec wi_9, ⟨tyX9, tyX9_ok⟩, nmX9⟩, (List.forall_mem_cons.mpr ⟨⟨wsIn_spec wi_10, ⟨tyX10, tyX10_ok⟩, nmX10⟩, (List.forall_mem_cons.mpr ⟨⟨wsIn_spec wi_11, ⟨tyX11, tyX11_ok⟩, nmX11⟩, (List.forall_mem_cons.mpr ⟨⟨wsIn_spec wi_12, ⟨tyX12, tyX12_ok⟩, nmX12⟩, (fun _ h => absurd h List.not_mem_nil)⟩)⟩)⟩)⟩)⟩)⟩)⟩)⟩)⟩)⟩)⟩)⟩)⟩)
theorem cl_P {c : Nat} {r : vw_C} (h : vwCl[c]? = some r) : clP r := cl_all_P r (List.mem_of_getElem? h)
theorem ow_cl {c : Nat} {r : vw_C} (h : vwCl[c]? = some r) : owAll.getD c "" = r.1 := by
  match c, h with
  | 0, h => cases h; rfl
  | 1, h => cases h; rfl
  | 2, h => cases h; rfl
  | 3, h => cases h; rfl
  | 4, h => cases h; rfl
  | 5, h => cases h; rfl
  | 6, h => cases h; rfl
  | 7, h => cases h; rfl
  | 8, h => cases h; rfl
  | 9, h => cases h; rfl
  | 10, h => cases h; rfl
  | 11, h => cases h; rfl
  | 12, h => cases h; rfl
  | c + 13, h => cases h
theorem cl_lt {c : Nat} {r : vw_C} (h : vwCl[c]? = some r) : c < 13 := (List.getElem?_eq_some_iff.mp h).1
set_option maxRecDepth 100000 in
theorem oi_in : Cond.instanceMethod objectInit ∈ TG ∧ Cond.code objectInit ⟨#[0xb1]⟩ 1 none ∈ TG := ⟨TG_of (by decide +kernel) rfl, TG_of (List.mem_of_getElem? (i := 119) (by rfl)) rfl⟩
set_option maxRecDepth 100000 in
theorem ac_in : Cond.native arraycopyName ∈ TG ∧ Cond.static arraycopyName ∈ TG ∧ Cond.initialized "java/lang/System" ∈ TG := ⟨TG_of (by decide +kernel) rfl, TG_of (by decide +kernel) rfl, TG_of (by decide +kernel) rfl⟩
set_option maxRecDepth 100000 in
theorem mm_in : Cond.static Lib.Math.max.name ∈ TG ∧ Cond.static Lib.Math.min.name ∈ TG ∧ Cond.initialized "java/lang/Math" ∈ TG := ⟨TG_of (by decide +kernel) rfl, TG_of (by decide +kernel) rfl, TG_of (by decide +kernel) rfl⟩
set_option maxRecDepth 100000 in
theorem mm_co : Cond.code Lib.Math.max.name Lib.Math.max.code 2 (some .int) ∈ TG ∧ Cond.code Lib.Math.min.name Lib.Math.min.code 2 (some .int) ∈ TG := ⟨TG_of (List.mem_of_getElem? (i := 717) (by rfl)) rfl, TG_of (List.mem_of_getElem? (i := 577) (by rfl)) rfl⟩
set_option maxRecDepth 100000 in
theorem ar_in : Cond.arrayClass .int ∈ TG ∧ Cond.arrayClass .long ∈ TG ∧ Cond.arrayClass .boolean ∈ TG := ⟨TG_of (by decide +kernel) rfl, TG_of (by decide +kernel) rfl, TG_of (by decide +kernel) rfl⟩
