/-! String.length and String.charAt on the texts of Reader, by the code of the JDK -/
def RJ0 : String := "java/lang/String"
def RJ1 : String := "java/lang/StringLatin1"
def RJ3 : String := "jdk/internal/util/Preconditions"
abbrev cJ0_coder_7d493 : ByteArray := prog_18_method_152_code
def yJ0_coder_7d493 : MethodName := ⟨RJ0, "coder", "()B"⟩
theorem ds_coder_0 : decode cJ0_coder_7d493 0 = .ok (.getstatic 38, 3) := by decide +kernel
theorem ds_coder_3 : decode cJ0_coder_7d493 3 = .ok (.ifCond .eq 10, 3) := by decide +kernel
theorem ds_coder_6 : decode cJ0_coder_7d493 6 = .ok (.aload_n 0, 1) := by decide +kernel
theorem ds_coder_7 : decode cJ0_coder_7d493 7 = .ok (.getfield 15, 3) := by decide +kernel
theorem ds_coder_10 : decode cJ0_coder_7d493 10 = .ok (.goto 4, 3) := by decide +kernel
theorem ds_coder_13 : decode cJ0_coder_7d493 13 = .ok (.iconst 1, 1) := by decide +kernel
theorem ds_coder_14 : decode cJ0_coder_7d493 14 = .ok (.ireturn, 1) := by decide +kernel
abbrev cJ0_length_8abf5 : ByteArray := prog_18_method_54_code
def yJ0_length_8abf5 : MethodName := ⟨RJ0, "length", "()I"⟩
theorem ds_length_0 : decode cJ0_length_8abf5 0 = .ok (.aload_n 0, 1) := by decide +kernel
theorem ds_length_1 : decode cJ0_length_8abf5 1 = .ok (.getfield 9, 3) := by decide +kernel
theorem ds_length_4 : decode cJ0_length_8abf5 4 = .ok (.arraylength, 1) := by decide +kernel
theorem ds_length_5 : decode cJ0_length_8abf5 5 = .ok (.aload_n 0, 1) := by decide +kernel
theorem ds_length_6 : decode cJ0_length_8abf5 6 = .ok (.invokevirtual 335, 3) := by decide +kernel
theorem ds_length_9 : decode cJ0_length_8abf5 9 = .ok (.ishr, 1) := by decide +kernel
theorem ds_length_10 : decode cJ0_length_8abf5 10 = .ok (.ireturn, 1) := by decide +kernel
abbrev cJ0_isLatin1_aae02 : ByteArray := prog_18_method_154_code
def yJ0_isLatin1_aae02 : MethodName := ⟨RJ0, "isLatin1", "()Z"⟩
theorem ds_lat_0 : decode cJ0_isLatin1_aae02 0 = .ok (.getstatic 38, 3) := by decide +kernel
theorem ds_lat_3 : decode cJ0_isLatin1_aae02 3 = .ok (.ifCond .eq 14, 3) := by decide +kernel
theorem ds_lat_6 : decode cJ0_isLatin1_aae02 6 = .ok (.aload_n 0, 1) := by decide +kernel
theorem ds_lat_7 : decode cJ0_isLatin1_aae02 7 = .ok (.getfield 15, 3) := by decide +kernel
theorem ds_lat_10 : decode cJ0_isLatin1_aae02 10 = .ok (.ifCond .ne 7, 3) := by decide +kernel
theorem ds_lat_13 : decode cJ0_isLatin1_aae02 13 = .ok (.iconst 1, 1) := by decide +kernel
theorem ds_lat_14 : decode cJ0_isLatin1_aae02 14 = .ok (.goto 4, 3) := by decide +kernel
theorem ds_lat_17 : decode cJ0_isLatin1_aae02 17 = .ok (.iconst 0, 1) := by decide +kernel
theorem ds_lat_18 : decode cJ0_isLatin1_aae02 18 = .ok (.ireturn, 1) := by decide +kernel
abbrev cJ0_charAt_5068e : ByteArray := prog_18_method_56_code
def yJ0_charAt_5068e : MethodName := ⟨RJ0, "charAt", "(I)C"⟩
theorem ds_chr_0 : decode cJ0_charAt_5068e 0 = .ok (.aload_n 0, 1) := by decide +kernel
theorem ds_chr_1 : decode cJ0_charAt_5068e 1 = .ok (.invokevirtual 492, 3) := by decide +kernel
theorem ds_chr_4 : decode cJ0_charAt_5068e 4 = .ok (.ifCond .eq 12, 3) := by decide +kernel
theorem ds_chr_7 : decode cJ0_charAt_5068e 7 = .ok (.aload_n 0, 1) := by decide +kernel
theorem ds_chr_8 : decode cJ0_charAt_5068e 8 = .ok (.getfield 9, 3) := by decide +kernel
theorem ds_chr_11 : decode cJ0_charAt_5068e 11 = .ok (.iload_n 1, 1) := by decide +kernel
theorem ds_chr_12 : decode cJ0_charAt_5068e 12 = .ok (.invokestatic 495, 3) := by decide +kernel
theorem ds_chr_15 : decode cJ0_charAt_5068e 15 = .ok (.ireturn, 1) := by decide +kernel
theorem ds_chr_16 : decode cJ0_charAt_5068e 16 = .ok (.aload_n 0, 1) := by decide +kernel
theorem ds_chr_17 : decode cJ0_charAt_5068e 17 = .ok (.getfield 9, 3) := by decide +kernel
theorem ds_chr_20 : decode cJ0_charAt_5068e 20 = .ok (.iload_n 1, 1) := by decide +kernel
theorem ds_chr_21 : decode cJ0_charAt_5068e 21 = .ok (.invokestatic 498, 3) := by decide +kernel
theorem ds_chr_24 : decode cJ0_charAt_5068e 24 = .ok (.ireturn, 1) := by decide +kernel
abbrev cJ0_checkIndex_df160 : ByteArray := prog_18_method_155_code
def yJ0_checkIndex_df160 : MethodName := ⟨RJ0, "checkIndex", "(II)V"⟩
theorem ds_chk_0 : decode cJ0_checkIndex_df160 0 = .ok (.iload_n 0, 1) := by decide +kernel
theorem ds_chk_1 : decode cJ0_checkIndex_df160 1 = .ok (.iload_n 1, 1) := by decide +kernel
theorem ds_chk_2 : decode cJ0_checkIndex_df160 2 = .ok (.getstatic 1053, 3) := by decide +kernel
theorem ds_chk_5 : decode cJ0_checkIndex_df160 5 = .ok (.invokestatic 1059, 3) := by decide +kernel
theorem ds_chk_8 : decode cJ0_checkIndex_df160 8 = .ok (.pop, 1) := by decide +kernel
theorem ds_chk_9 : decode cJ0_checkIndex_df160 9 = .ok (.return_, 1) := by decide +kernel
abbrev cJ1_charAt_3b067 : ByteArray := prog_19_method_2_code
def yJ1_charAt_3b067 : MethodName := ⟨RJ1, "charAt", "([BI)C"⟩
theorem ds_l1_0 : decode cJ1_charAt_3b067 0 = .ok (.iload_n 1, 1) := by decide +kernel
theorem ds_l1_1 : decode cJ1_charAt_3b067 1 = .ok (.aload_n 0, 1) := by decide +kernel
theorem ds_l1_2 : decode cJ1_charAt_3b067 2 = .ok (.arraylength, 1) := by decide +kernel
theorem ds_l1_3 : decode cJ1_charAt_3b067 3 = .ok (.invokestatic 9, 3) := by decide +kernel
theorem ds_l1_6 : decode cJ1_charAt_3b067 6 = .ok (.aload_n 0, 1) := by decide +kernel
theorem ds_l1_7 : decode cJ1_charAt_3b067 7 = .ok (.iload_n 1, 1) := by decide +kernel
theorem ds_l1_8 : decode cJ1_charAt_3b067 8 = .ok (.baload, 1) := by decide +kernel
theorem ds_l1_9 : decode cJ1_charAt_3b067 9 = .ok (.sipush 255, 3) := by decide +kernel
theorem ds_l1_12 : decode cJ1_charAt_3b067 12 = .ok (.iand, 1) := by decide +kernel
theorem ds_l1_13 : decode cJ1_charAt_3b067 13 = .ok (.i2c, 1) := by decide +kernel
theorem ds_l1_14 : decode cJ1_charAt_3b067 14 = .ok (.ireturn, 1) := by decide +kernel
abbrev cJ3_checkIndex_8e157 : ByteArray := prog_23_method_11_code
def yJ3_checkIndex_8e157 : MethodName := ⟨RJ3, "checkIndex", "(IILjava/util/function/BiFunction;)I"⟩
theorem ds_pre_0 : decode cJ3_checkIndex_8e157 0 = .ok (.iload_n 0, 1) := by decide +kernel
theorem ds_pre_1 : decode cJ3_checkIndex_8e157 1 = .ok (.ifCond .lt 8, 3) := by decide +kernel
theorem ds_pre_4 : decode cJ3_checkIndex_8e157 4 = .ok (.iload_n 0, 1) := by decide +kernel
theorem ds_pre_5 : decode cJ3_checkIndex_8e157 5 = .ok (.iload_n 1, 1) := by decide +kernel
theorem ds_pre_6 : decode cJ3_checkIndex_8e157 6 = .ok (.if_icmp .lt 10, 3) := by decide +kernel
theorem ds_pre_9 : decode cJ3_checkIndex_8e157 9 = .ok (.aload_n 2, 1) := by decide +kernel
theorem ds_pre_10 : decode cJ3_checkIndex_8e157 10 = .ok (.iload_n 0, 1) := by decide +kernel
theorem ds_pre_11 : decode cJ3_checkIndex_8e157 11 = .ok (.iload_n 1, 1) := by decide +kernel
theorem ds_pre_12 : decode cJ3_checkIndex_8e157 12 = .ok (.invokestatic 95, 3) := by decide +kernel
theorem ds_pre_15 : decode cJ3_checkIndex_8e157 15 = .ok (.athrow, 1) := by decide +kernel
theorem ds_pre_16 : decode cJ3_checkIndex_8e157 16 = .ok (.iload_n 0, 1) := by decide +kernel
theorem ds_pre_17 : decode cJ3_checkIndex_8e157 17 = .ok (.ireturn, 1) := by decide +kernel
set_option maxRecDepth 100000 in
theorem sw_coder : Cond.code yJ0_coder_7d493 cJ0_coder_7d493 1 (some .byte) ∈ TG := TG_of (List.mem_of_getElem? (i := 498) (by rfl)) rfl
set_option maxRecDepth 100000 in
theorem sw_length : Cond.code yJ0_length_8abf5 cJ0_length_8abf5 1 (some .int) ∈ TG := TG_of (List.mem_of_getElem? (i := 494) (by rfl)) rfl
set_option maxRecDepth 100000 in
theorem sw_lat : Cond.code yJ0_isLatin1_aae02 cJ0_isLatin1_aae02 1 (some .boolean) ∈ TG := TG_of (List.mem_of_getElem? (i := 508) (by rfl)) rfl
set_option maxRecDepth 100000 in
theorem sw_chr : Cond.code yJ0_charAt_5068e cJ0_charAt_5068e 2 (some .char) ∈ TG := TG_of (List.mem_of_getElem? (i := 504) (by rfl)) rfl
set_option maxRecDepth 100000 in
theorem sw_chk : Cond.code yJ0_checkIndex_df160 cJ0_checkIndex_df160 2 none ∈ TG := TG_of (List.mem_of_getElem? (i := 514) (by rfl)) rfl
set_option maxRecDepth 100000 in
theorem sw_l1 : Cond.code yJ1_charAt_3b067 cJ1_charAt_3b067 2 (some .char) ∈ TG := TG_of (List.mem_of_getElem? (i := 511) (by rfl)) rfl
set_option maxRecDepth 100000 in
theorem sw_pre : Cond.code yJ3_checkIndex_8e157 cJ3_checkIndex_8e157 3 (some .int) ∈ TG := TG_of (List.mem_of_getElem? (i := 519) (by rfl)) rfl
set_option maxRecDepth 100000 in
theorem sl_cs : Cond.fieldLink RJ0 38 "java/lang/String" "COMPACT_STRINGS" "Z" ∈ TG := TG_of (by decide +kernel) rfl
set_option maxRecDepth 100000 in
theorem sl_co : Cond.fieldLink RJ0 15 "java/lang/String" "coder" "B" ∈ TG := TG_of (by decide +kernel) rfl
set_option maxRecDepth 100000 in
theorem sl_va : Cond.fieldLink RJ0 9 "java/lang/String" "value" "[B" ∈ TG := TG_of (by decide +kernel) rfl
set_option maxRecDepth 100000 in
theorem sl_si : Cond.fieldLink RJ0 1053 "jdk/internal/util/Preconditions" "SIOOBE_FORMATTER" "Ljava/util/function/BiFunction;" ∈ TG := TG_of (by decide +kernel) rfl
set_option maxRecDepth 100000 in
theorem sm_coder : Cond.methodLink RJ0 335 yJ0_coder_7d493 ∈ TG := TG_of (by decide +kernel) rfl
set_option maxRecDepth 100000 in
theorem sn_coder : Cond.instanceMethod yJ0_coder_7d493 ∈ TG := TG_of (by decide +kernel) rfl
set_option maxRecDepth 100000 in
theorem se_coder : Cond.selects RJ0 yJ0_coder_7d493 yJ0_coder_7d493 ∈ TG := TG_of (by decide +kernel) rfl
set_option maxRecDepth 100000 in
theorem sm_lat : Cond.methodLink RJ0 492 yJ0_isLatin1_aae02 ∈ TG := TG_of (by decide +kernel) rfl
set_option maxRecDepth 100000 in
theorem sn_lat : Cond.instanceMethod yJ0_isLatin1_aae02 ∈ TG := TG_of (by decide +kernel) rfl
set_option maxRecDepth 100000 in
theorem se_lat : Cond.selects RJ0 yJ0_isLatin1_aae02 yJ0_isLatin1_aae02 ∈ TG := TG_of (by decide +kernel) rfl
set_option maxRecDepth 100000 in
theorem sm_l1 : Cond.methodLink RJ0 495 yJ1_charAt_3b067 ∈ TG := TG_of (by decide +kernel) rfl
set_option maxRecDepth 100000 in
theorem ss_l1 : Cond.static yJ1_charAt_3b067 ∈ TG := TG_of (by decide +kernel) rfl
set_option maxRecDepth 100000 in
theorem sm_chk : Cond.methodLink RJ1 9 yJ0_checkIndex_df160 ∈ TG := TG_of (by decide +kernel) rfl
set_option maxRecDepth 100000 in
theorem ss_chk : Cond.static yJ0_checkIndex_df160 ∈ TG := TG_of (by decide +kernel) rfl
set_option maxRecDepth 100000 in
theorem sm_pre : Cond.methodLink RJ0 1059 yJ3_checkIndex_8e157 ∈ TG := TG_of (by decide +kernel) rfl
set_option maxRecDepth 100000 in
theorem ss_pre : Cond.static yJ3_checkIndex_8e157 ∈ TG := TG_of (by decide +kernel) rfl
set_option maxRecDepth 100000 in
theorem sm_len : Cond.methodLink RX8 59 yJ0_length_8abf5 ∈ TG := TG_of (by decide +kernel) rfl
set_option maxRecDepth 100000 in
theorem sn_len : Cond.instanceMethod yJ0_length_8abf5 ∈ TG := TG_of (by decide +kernel) rfl
set_option maxRecDepth 100000 in
theorem se_len : Cond.selects RJ0 yJ0_length_8abf5 yJ0_length_8abf5 ∈ TG := TG_of (by decide +kernel) rfl
set_option maxRecDepth 100000 in
theorem sm_chr : Cond.methodLink RX8 64 yJ0_charAt_5068e ∈ TG := TG_of (by decide +kernel) rfl
set_option maxRecDepth 100000 in
theorem sn_chr : Cond.instanceMethod yJ0_charAt_5068e ∈ TG := TG_of (by decide +kernel) rfl
set_option maxRecDepth 100000 in
theorem se_chr : Cond.selects RJ0 yJ0_charAt_5068e yJ0_charAt_5068e ∈ TG := TG_of (by decide +kernel) rfl
set_option maxRecDepth 100000 in
theorem si_RJ0 : Cond.initialized RJ0 ∈ TG := TG_of (by decide +kernel) rfl
set_option maxRecDepth 100000 in
theorem si_RJ1 : Cond.initialized RJ1 ∈ TG := TG_of (by decide +kernel) rfl
set_option maxRecDepth 100000 in
theorem si_RJ3 : Cond.initialized RJ3 ∈ TG := TG_of (by decide +kernel) rfl
def wsT (y : MethodName) (b : ByteArray) (n : Nat) (r : Option FieldType) : List Cond := Cond.code y b n r :: TG
theorem wsT_good {y : MethodName} {b : ByteArray} {n : Nat} {r : Option FieldType} (h : Cond.code y b n r ∈ TG) : GoodIn TG (wsT y b n r) := fun w hw => by
  rcases List.mem_cons.mp hw with e | e
  · rw [e]; exact TG_good _ h
  · exact TG_good w e
/-- a contract of a method that leaves all as it was -/
def PS (B : Bas) (av : List Value) : Array Value → State → Prop := fun v U => v = av.toArray ∧ StrK B U ∧ B.1 ≤ U.heap.size
def QS (v : Option Value) : Array Value → State → Outcome → State → Prop := fun _ st o t => o = .returned v ∧ t.heap = st.heap
theorem PS_blind {B : Bas} {av : List Value} : FrameBlind (PS B av) := fun _ _ _ _ h => ⟨h.1, StrK_vm h.2.1 rfl rfl, h.2.2⟩
def rmS (d : Nat) : Room := { frames := d, cells := 0, slots := 0, locals := 100 * d }
theorem after_pure {p : Program} {l : Launch} {e : Env} {R : Room} {s : State} {mm : MethodId} {args : Array Value} {below : List Frame} {meth : Method} {c : Code} {H : Heap} {locs : List Loc} {cells slots pc : Nat} {lsC : Array Slot} {st0 rest : List Value} {a : Array Value} {v : Option Value} {Q : State → Prop} {A : Nat → Prop} {H0 : Heap}
    (hr : va_Run p l e R s mm args below meth c H locs cells slots 0 0 (F0 mm pc lsC st0) rest (QS v a) A) (hV : va_S A H0 H locs)
    (kk : ∀ (locs1 : List Loc), va_S A H0 H locs1 → W p l e R s mm args below meth c H locs1 cells slots Q (F0 mm (pc + 3) lsC (v.toList ++ rest))) : W p l e R s mm args below meth c H locs cells slots Q (F0 mm pc lsC st0) := by
  intro T hT X
  obtain ⟨v', st₀, t, T', L, h0, X', hL, e1, e2, ⟨hv, hh⟩, st⟩ := hr T hT X
  cases hv
  have hTH : T'.heap = H := by rw [e1, hh, h0]
  obtain ⟨t2, a1, b1⟩ := kk (locs ++ L) ⟨hV.1, hV.2.1, fun q hq => by
    rcases List.mem_append.mp hq with h | h
    · exact hV.2.2 q h
    · exact hL q h⟩ T' hTH X'
  exact ⟨t2, st t2 a1, b1⟩
theorem sLens_lt (j : Nat) : sLens.getD j 0 < 2 ^ 31 := by
  rw [List.getD_eq_getElem?_getD]
  cases h : sLens[j]? with
  | none => decide
  | some q =>
    have : ∀ z ∈ sLens, z < 2 ^ 31 := by decide +kernel
    exact this q (List.mem_of_getElem? h)
theorem slt {x : Int32} {N : Nat} (h : x.toNatClampNeg < N) (hN : N < 2 ^ 31) : x < Int32.ofNat N := by
  have h1 : (nI N).toInt = (N : Int) := nI_toInt hN
  refine Int32.lt_iff_toInt_lt.mpr ?_
  show x.toInt < (nI N).toInt
  rw [h1]
  have : x.toInt.toNat < N := h
  omega
theorem sshr0 (x : Int32) : x >>> ((0 : Int32) &&& 31) = x := by
  apply Int32.toBitVec_inj.mp
  show x.toBitVec.sshiftRight' _ = _
  simp
section
variable {B : Bas}
theorem c_coder (l : Launch) {j : Nat} (hj : j < 17) : Met l yJ0_coder_7d493 (wsT yJ0_coder_7d493 cJ0_coder_7d493 1 (some .byte)) (rmS 1) (PS B [.ref (B.2.2 j)]) (QS (some (.int 0))) 0 0 (fr0 B) := by
  refine Met.ofW (cc := cJ0_coder_7d493) (maxL := 1) (ret := (some .byte)) (by decide) rfl ?_
  intro p e s m args below meth c s₁ Bd hml hv
  obtain ⟨rfl, hK, hB⟩ := hv
  have hx := Bd.exec
  have hb := Bd.bytes
  have hr := Bd.returns
  have hts0 := atoms_spec (ws := wsT yJ0_coder_7d493 cJ0_coder_7d493 1 (some .byte)) Bd.pre
  have hts : ∀ w ∈ TG, w.before _ s = true := fun w hw => hts0 w (List.mem_cons_of_mem _ hw)
  have hown : s.vm.findClass RJ0 = some m.cls := findClass_of_methodNamed Bd.named
  have hlocks := Bd.notSynchronized
  have hV : va_S (fr0 B) s.heap s.heap [] := va_S.rf
  have hl := lv_entry ([.ref (B.2.2 j)]) (n := 1) (Nat.le_of_ble_eq_true rfl)
  rw [lg_entry_eq]
  generalize (lg_sl ([.ref (B.2.2 j)]) ++ List.replicate (1 - (lg_sl ([.ref (B.2.2 j)])).length) Slot.unset).toArray = ls at hl ⊢
  have hl : lv_has ls 1 [(0, .ref (B.2.2 j))] := hl
  have hS := hK.2.1
  refine va_gets hx hb hK.2.2.1 hV hown (hts _ sl_cs) (fun _ h => h) ds_coder_0 ?_
  refine lv_if_eq (tgt := 13) hx hb ds_coder_3 (by decide) (fun q => absurd q (by decide)) (fun _ => ?_)
  refine lv_aload_n hx hb ds_coder_6 rfl (lv_at hl 0 rfl) ?_
  refine vk_getf hx hb (hS.1 j hj).2.1 hV hown (hts _ sl_co) (fun _ h => h) ds_coder_7 ?_
  refine lv_goto (tgt := 14) hx hb ds_coder_10 (by decide) ?_
  exact W.zret hx hb hr rfl (fun t ht _ => ⟨rfl, ht⟩) (fun q h => by cases h) ds_coder_14 hlocks
theorem c_lat (l : Launch) {j : Nat} (hj : j < 17) : Met l yJ0_isLatin1_aae02 (wsT yJ0_isLatin1_aae02 cJ0_isLatin1_aae02 1 (some .boolean)) (rmS 1) (PS B [.ref (B.2.2 j)]) (QS (some (.int 1))) 0 0 (fr0 B) := by
  refine Met.ofW (cc := cJ0_isLatin1_aae02) (maxL := 1) (ret := (some .boolean)) (by decide) rfl ?_
  intro p e s m args below meth c s₁ Bd hml hv
  obtain ⟨rfl, hK, hB⟩ := hv
  have hx := Bd.exec
  have hb := Bd.bytes
  have hr := Bd.returns
  have hts0 := atoms_spec (ws := wsT yJ0_isLatin1_aae02 cJ0_isLatin1_aae02 1 (some .boolean)) Bd.pre
  have hts : ∀ w ∈ TG, w.before _ s = true := fun w hw => hts0 w (List.mem_cons_of_mem _ hw)
  have hown : s.vm.findClass RJ0 = some m.cls := findClass_of_methodNamed Bd.named
  have hlocks := Bd.notSynchronized
  have hV : va_S (fr0 B) s.heap s.heap [] := va_S.rf
  have hl := lv_entry ([.ref (B.2.2 j)]) (n := 1) (Nat.le_of_ble_eq_true rfl)
  rw [lg_entry_eq]
  generalize (lg_sl ([.ref (B.2.2 j)]) ++ List.replicate (1 - (lg_sl ([.ref (B.2.2 j)])).length) Slot.unset).toArray = ls at hl ⊢
  have hl : lv_has ls 1 [(0, .ref (B.2.2 j))] := hl
  have hS := hK.2.1
  refine va_gets hx hb hK.2.2.1 hV hown (hts _ sl_cs) (fun _ h => h) ds_lat_0 ?_
  refine lv_if_eq (tgt := 17) hx hb ds_lat_3 (by decide) (fun q => absurd q (by decide)) (fun _ => ?_)
  refine lv_aload_n hx hb ds_lat_6 rfl (lv_at hl 0 rfl) ?_
  refine vk_getf hx hb (hS.1 j hj).2.1 hV hown (hts _ sl_co) (fun _ h => h) ds_lat_7 ?_
  refine lv_if_ne (tgt := 17) hx hb ds_lat_10 (by decide) (fun q => absurd rfl q) (fun _ => ?_)
  refine lv_iconst (v := 1) hx hb ds_lat_13 (by decide) ?_
  refine lv_goto (tgt := 18) hx hb ds_lat_14 (by decide) ?_
  exact W.zret hx hb hr rfl (fun t ht _ => ⟨rfl, ht⟩) (fun q h => by cases h) ds_lat_18 hlocks
theorem c_preN (l : Launch) {x n : Int32} (h0 : ¬ x < 0) (h1 : x < n) : Met l yJ3_checkIndex_8e157 (wsT yJ3_checkIndex_8e157 cJ3_checkIndex_8e157 3 (some .int)) (rmS 1) (PS B [.int x, .int n, .null]) (QS (some (.int x))) 0 0 (fr0 B) := by
  refine Met.ofW (cc := cJ3_checkIndex_8e157) (maxL := 3) (ret := (some .int)) (by decide) rfl ?_
  intro p e s m args below meth c s₁ Bd hml hv
  obtain ⟨rfl, hK, hB⟩ := hv
  have hx := Bd.exec
  have hb := Bd.bytes
  have hr := Bd.returns
  have hts0 := atoms_spec (ws := wsT yJ3_checkIndex_8e157 cJ3_checkIndex_8e157 3 (some .int)) Bd.pre
  have hts : ∀ w ∈ TG, w.before _ s = true := fun w hw => hts0 w (List.mem_cons_of_mem _ hw)
  have hown : s.vm.findClass RJ3 = some m.cls := findClass_of_methodNamed Bd.named
  have hlocks := Bd.notSynchronized
  have hV : va_S (fr0 B) s.heap s.heap [] := va_S.rf
  have hl := lv_entry ([.int x, .int n, .null]) (n := 3) (Nat.le_of_ble_eq_true rfl)
  rw [lg_entry_eq]
  generalize (lg_sl ([.int x, .int n, .null]) ++ List.replicate (3 - (lg_sl ([.int x, .int n, .null])).length) Slot.unset).toArray = ls at hl ⊢
  refine lv_iload_n hx hb ds_pre_0 rfl (hl.2.2 (0, .int x) (by simp [lv_args])) ?_
  refine lv_if_lt (tgt := 9) hx hb ds_pre_1 (by decide) (fun q => absurd q h0) (fun _ => ?_)
  refine lv_iload_n hx hb ds_pre_4 rfl (hl.2.2 (0, .int x) (by simp [lv_args])) ?_
  refine lv_iload_n hx hb ds_pre_5 rfl (hl.2.2 (1, .int n) (by simp [lv_args, Value.category])) ?_
  refine lv_icmp_lt (tgt := 16) hx hb ds_pre_6 (by decide) (fun _ => ?_) (fun q => absurd h1 q)
  refine lv_iload_n hx hb ds_pre_16 rfl (hl.2.2 (0, .int x) (by simp [lv_args])) ?_
  exact W.zret hx hb hr rfl (fun t ht _ => ⟨rfl, ht⟩) (fun q h => by cases h) ds_pre_17 hlocks
theorem c_preR (l : Launch) {x n : Int32} {q0 : Nat} (h0 : ¬ x < 0) (h1 : x < n) : Met l yJ3_checkIndex_8e157 (wsT yJ3_checkIndex_8e157 cJ3_checkIndex_8e157 3 (some .int)) (rmS 1) (PS B [.int x, .int n, .ref q0]) (QS (some (.int x))) 0 0 (fr0 B) := by
  refine Met.ofW (cc := cJ3_checkIndex_8e157) (maxL := 3) (ret := (some .int)) (by decide) rfl ?_
  intro p e s m args below meth c s₁ Bd hml hv
  obtain ⟨rfl, hK, hB⟩ := hv
  have hx := Bd.exec
  have hb := Bd.bytes
  have hr := Bd.returns
  have hts0 := atoms_spec (ws := wsT yJ3_checkIndex_8e157 cJ3_checkIndex_8e157 3 (some .int)) Bd.pre
  have hts : ∀ w ∈ TG, w.before _ s = true := fun w hw => hts0 w (List.mem_cons_of_mem _ hw)
  have hown : s.vm.findClass RJ3 = some m.cls := findClass_of_methodNamed Bd.named
  have hlocks := Bd.notSynchronized
  have hV : va_S (fr0 B) s.heap s.heap [] := va_S.rf
  have hl := lv_entry ([.int x, .int n, .ref q0]) (n := 3) (Nat.le_of_ble_eq_true rfl)
  rw [lg_entry_eq]
  generalize (lg_sl ([.int x, .int n, .ref q0]) ++ List.replicate (3 - (lg_sl ([.int x, .int n, .ref q0])).length) Slot.unset).toArray = ls at hl ⊢
  refine lv_iload_n hx hb ds_pre_0 rfl (hl.2.2 (0, .int x) (by simp [lv_args])) ?_
  refine lv_if_lt (tgt := 9) hx hb ds_pre_1 (by decide) (fun q => absurd q h0) (fun _ => ?_)
  refine lv_iload_n hx hb ds_pre_4 rfl (hl.2.2 (0, .int x) (by simp [lv_args])) ?_
  refine lv_iload_n hx hb ds_pre_5 rfl (hl.2.2 (1, .int n) (by simp [lv_args, Value.category])) ?_
  refine lv_icmp_lt (tgt := 16) hx hb ds_pre_6 (by decide) (fun _ => ?_) (fun q => absurd h1 q)
  refine lv_iload_n hx hb ds_pre_16 rfl (hl.2.2 (0, .int x) (by simp [lv_args])) ?_
  exact W.zret hx hb hr rfl (fun t ht _ => ⟨rfl, ht⟩) (fun q h => by cases h) ds_pre_17 hlocks
theorem c_chk (l : Launch) {x n : Int32} (h0 : ¬ x < 0) (h1 : x < n) : Met l yJ0_checkIndex_df160 (wsT yJ0_checkIndex_df160 cJ0_checkIndex_df160 2 none) (rmS 2) (PS B [.int x, .int n]) (QS none) 0 0 (fr0 B) := by
  refine Met.ofW (cc := cJ0_checkIndex_df160) (maxL := 2) (ret := none) (by decide) rfl ?_
  intro p e s m args below meth c s₁ Bd hml hv
  obtain ⟨rfl, hK, hB⟩ := hv
  have hx := Bd.exec
  have hb := Bd.bytes
  have hr := Bd.returns
  have hts0 := atoms_spec (ws := wsT yJ0_checkIndex_df160 cJ0_checkIndex_df160 2 none) Bd.pre
  have hts : ∀ w ∈ TG, w.before _ s = true := fun w hw => hts0 w (List.mem_cons_of_mem _ hw)
  have hown : s.vm.findClass RJ0 = some m.cls := findClass_of_methodNamed Bd.named
  have hlocks := Bd.notSynchronized
  have hV : va_S (fr0 B) s.heap s.heap [] := va_S.rf
  have hl := lv_entry ([.int x, .int n]) (n := 2) (Nat.le_of_ble_eq_true rfl)
  rw [lg_entry_eq]
  generalize (lg_sl ([.int x, .int n]) ++ List.replicate (2 - (lg_sl ([.int x, .int n])).length) Slot.unset).toArray = ls at hl ⊢
  have hl : lv_has ls 2 [(0, .int x), (1, .int n)] := hl
  refine lv_iload_n hx hb ds_chk_0 rfl (lv_at hl 0 rfl) ?_
  refine lv_iload_n hx hb ds_chk_1 rfl (lv_at hl 1 rfl) ?_
  rcases hK.2.2.2 with hz | ⟨q0, hz⟩
  · refine va_gets hx hb hz hV hown (hts _ sl_si) (fun _ h => h) ds_chk_2 ?_
    refine after_pure (va_runS (As := [.int x, .int n, .null]) (rest := []) ⟨hx, hb, hml, hown, hts⟩ (c_preN (B := B) l h0 h1) ⟨callB_of 3 hts (wsT_good sw_pre) rfl rfl rfl (hts _ si_RJ3) (hts _ sm_pre) (by decide +kernel) ⟨Nat.le_of_ble_eq_true rfl, Nat.le_of_ble_eq_true rfl⟩, hts _ ss_pre⟩ ⟨PS_blind, fun U hU hW => ⟨rfl, StrK_warm hK hW (fun q _ => by rw [hU]), by rw [hU]; exact hB⟩⟩ rfl rfl hl.1 rfl (lv_room (Nat.le_of_ble_eq_true rfl)) ds_chk_5 ⟨Nat.le_refl _, Nat.le_refl _⟩) hV (fun locs hV => ?_)
    refine lv_pop hx hb ds_chk_8 rfl ?_
    exact W.vret hx hb hr (fun t ht _ => ⟨rfl, ht⟩) hV.2.2 ds_chk_9 hlocks
  · refine va_gets hx hb hz hV hown (hts _ sl_si) (fun _ h => h) ds_chk_2 ?_
    refine after_pure (va_runS (As := [.int x, .int n, .ref q0]) (rest := []) ⟨hx, hb, hml, hown, hts⟩ (c_preR (B := B) l h0 h1) ⟨callB_of 3 hts (wsT_good sw_pre) rfl rfl rfl (hts _ si_RJ3) (hts _ sm_pre) (by decide +kernel) ⟨Nat.le_of_ble_eq_true rfl, Nat.le_of_ble_eq_true rfl⟩, hts _ ss_pre⟩ ⟨PS_blind, fun U hU hW => ⟨rfl, StrK_warm hK hW (fun q _ => by rw [hU]), by rw [hU]; exact hB⟩⟩ rfl rfl hl.1 rfl (lv_room (Nat.le_of_ble_eq_true rfl)) ds_chk_5 ⟨Nat.le_refl _, Nat.le_refl _⟩) hV (fun locs hV => ?_)
    refine lv_pop hx hb ds_chk_8 rfl ?_
    exact W.vret hx hb hr (fun t ht _ => ⟨rfl, ht⟩) hV.2.2 ds_chk_9 hlocks
theorem c_len (l : Launch) {j : Nat} (hj : j < 17) : Met l yJ0_length_8abf5 (wsT yJ0_length_8abf5 cJ0_length_8abf5 1 (some .int)) (rmS 2) (PS B [.ref (B.2.2 j)]) (QS (some (.int (nI (sLens.getD j 0))))) 0 0 (fr0 B) := by
  refine Met.ofW (cc := cJ0_length_8abf5) (maxL := 1) (ret := (some .int)) (by decide) rfl ?_
  intro p e s m args below meth c s₁ Bd hml hv
  obtain ⟨rfl, hK, hB⟩ := hv
  have hx := Bd.exec
  have hb := Bd.bytes
  have hr := Bd.returns
  have hts0 := atoms_spec (ws := wsT yJ0_length_8abf5 cJ0_length_8abf5 1 (some .int)) Bd.pre
  have hts : ∀ w ∈ TG, w.before _ s = true := fun w hw => hts0 w (List.mem_cons_of_mem _ hw)
  have hown : s.vm.findClass RJ0 = some m.cls := findClass_of_methodNamed Bd.named
  have hlocks := Bd.notSynchronized
  have hV : va_S (fr0 B) s.heap s.heap [] := va_S.rf
  have hl := lv_entry ([.ref (B.2.2 j)]) (n := 1) (Nat.le_of_ble_eq_true rfl)
  rw [lg_entry_eq]
  generalize (lg_sl ([.ref (B.2.2 j)]) ++ List.replicate (1 - (lg_sl ([.ref (B.2.2 j)])).length) Slot.unset).toArray = ls at hl ⊢
  have hl : lv_has ls 1 [(0, .ref (B.2.2 j))] := hl
  have hS := hK.2.1
  refine lv_aload_n hx hb ds_length_0 rfl (lv_at hl 0 rfl) ?_
  refine vk_getf hx hb (hS.1 j hj).2.2.1 hV hown (hts _ sl_va) (fun _ h => h) ds_length_1 ?_
  refine va_tlen hx hb (hS.1 j hj).2.2.2 hV rfl ds_length_4 ?_
  refine lv_aload_n hx hb ds_length_5 rfl (lv_at hl 0 rfl) ?_
  refine after_pure (va_runV (C := RJ0) (As := []) (rest := [.int (Int32.ofNat (sLens.getD j 0))]) ⟨hx, hb, hml, hown, hts⟩ (c_coder (B := B) l hj) ⟨callB_of 0 hts (wsT_good sw_coder) rfl rfl rfl (hts _ si_RJ0) (hts _ sm_coder) (by decide +kernel) ⟨Nat.le_of_ble_eq_true rfl, Nat.le_of_ble_eq_true rfl⟩, hts _ sn_coder, hts _ se_coder⟩ ⟨PS_blind, vk_recv hS hj hV, fun U hU hW => ⟨rfl, StrK_warm hK hW (fun q _ => by rw [hU]), by rw [hU]; exact hB⟩⟩ rfl rfl hl.1 rfl (lv_room (Nat.le_of_ble_eq_true rfl)) ds_length_6 ⟨Nat.le_refl _, Nat.le_refl _⟩) hV (fun locs hV => ?_)
  refine lv_ishr hx hb ds_length_9 ?_
  rw [show (Int32.ofNat (sLens.getD j 0) >>> ((0 : Int32) &&& 31)) = nI (sLens.getD j 0) from sshr0 _]
  exact W.iret hx hb hr (fun t ht _ => ⟨rfl, ht⟩) hV.2.2 ds_length_10 hlocks
theorem c_l1 (l : Launch) {x : Int32} {j : Nat} (hj : j < 17) (hin : vp_in x (sLens.getD j 0)) : Met l yJ1_charAt_3b067 (wsT yJ1_charAt_3b067 cJ1_charAt_3b067 2 (some .char)) (rmS 3) (PS B [.ref (B.2.2 (100 + j)), .int x]) (QS (some (.int (((((sByts.getD j []).getD x.toNatClampNeg 0) &&& 255).toUInt32 % 65536).toInt32)))) 0 0 (fr0 B) := by
  refine Met.ofW (cc := cJ1_charAt_3b067) (maxL := 2) (ret := (some .char)) (by decide) rfl ?_
  intro p e s m args below meth c s₁ Bd hml hv
  obtain ⟨rfl, hK, hB⟩ := hv
  have hx := Bd.exec
  have hb := Bd.bytes
  have hr := Bd.returns
  have hts0 := atoms_spec (ws := wsT yJ1_charAt_3b067 cJ1_charAt_3b067 2 (some .char)) Bd.pre
  have hts : ∀ w ∈ TG, w.before _ s = true := fun w hw => hts0 w (List.mem_cons_of_mem _ hw)
  have hown : s.vm.findClass RJ1 = some m.cls := findClass_of_methodNamed Bd.named
  have hlocks := Bd.notSynchronized
  have hV : va_S (fr0 B) s.heap s.heap [] := va_S.rf
  have hl := lv_entry ([.ref (B.2.2 (100 + j)), .int x]) (n := 2) (Nat.le_of_ble_eq_true rfl)
  rw [lg_entry_eq]
  generalize (lg_sl ([.ref (B.2.2 (100 + j)), .int x]) ++ List.replicate (2 - (lg_sl ([.ref (B.2.2 (100 + j)), .int x])).length) Slot.unset).toArray = ls at hl ⊢
  have hl : lv_has ls 2 [(0, .ref (B.2.2 (100 + j))), (1, .int x)] := hl
  have hlt : x.toNatClampNeg < sLens.getD j 0 := Nat.not_le.mp fun z => hin (Or.inr z)
  have h0 : ¬ x < 0 := fun z => hin (Or.inl z)
  have hT := (hK.2.1.1 j hj).2.2.2
  refine lv_iload_n hx hb ds_l1_0 rfl (lv_at hl 1 rfl) ?_
  refine lv_aload_n hx hb ds_l1_1 rfl (lv_at hl 0 rfl) ?_
  refine va_tlen hx hb hT hV rfl ds_l1_2 ?_
  refine after_pure (va_runS (As := [.int x, .int (Int32.ofNat (sLens.getD j 0))]) (rest := []) ⟨hx, hb, hml, hown, hts⟩ (c_chk (B := B) l h0 (slt hlt (sLens_lt j))) ⟨callB_of 2 hts (wsT_good sw_chk) rfl rfl rfl (hts _ si_RJ0) (hts _ sm_chk) (by decide +kernel) ⟨Nat.le_of_ble_eq_true rfl, Nat.le_of_ble_eq_true rfl⟩, hts _ ss_chk⟩ ⟨PS_blind, fun U hU hW => ⟨rfl, StrK_warm hK hW (fun q _ => by rw [hU]), by rw [hU]; exact hB⟩⟩ rfl rfl hl.1 rfl (lv_room (Nat.le_of_ble_eq_true rfl)) ds_l1_3 ⟨Nat.le_refl _, Nat.le_refl _⟩) hV (fun locs hV => ?_)
  refine lv_aload_n hx hb ds_l1_6 rfl (lv_at hl 0 rfl) ?_
  refine lv_iload_n hx hb ds_l1_7 rfl (lv_at hl 1 rfl) ?_
  refine va_tb hx hb hT hV hin rfl ds_l1_8 ?_
  refine lv_sipush (v := 255) hx hb ds_l1_9 (by decide) ?_
  refine lv_iand hx hb ds_l1_12 ?_
  refine lv_i2c hx hb ds_l1_13 rfl ?_
  exact W.zret hx hb hr (pk_nc _) (fun t ht _ => ⟨rfl, ht⟩) hV.2.2 ds_l1_14 hlocks
theorem c_chr (l : Launch) {x : Int32} {j : Nat} (hj : j < 17) (hin : vp_in x (sLens.getD j 0)) : Met l yJ0_charAt_5068e (wsT yJ0_charAt_5068e cJ0_charAt_5068e 2 (some .char)) (rmS 4) (PS B [.ref (B.2.2 j), .int x]) (QS (some (.int (((((sByts.getD j []).getD x.toNatClampNeg 0) &&& 255).toUInt32 % 65536).toInt32)))) 0 0 (fr0 B) := by
  refine Met.ofW (cc := cJ0_charAt_5068e) (maxL := 2) (ret := (some .char)) (by decide) rfl ?_
  intro p e s m args below meth c s₁ Bd hml hv
  obtain ⟨rfl, hK, hB⟩ := hv
  have hx := Bd.exec
  have hb := Bd.bytes
  have hr := Bd.returns
  have hts0 := atoms_spec (ws := wsT yJ0_charAt_5068e cJ0_charAt_5068e 2 (some .char)) Bd.pre
  have hts : ∀ w ∈ TG, w.before _ s = true := fun w hw => hts0 w (List.mem_cons_of_mem _ hw)
  have hown : s.vm.findClass RJ0 = some m.cls := findClass_of_methodNamed Bd.named
  have hlocks := Bd.notSynchronized
  have hV : va_S (fr0 B) s.heap s.heap [] := va_S.rf
  have hl := lv_entry ([.ref (B.2.2 j), .int x]) (n := 2) (Nat.le_of_ble_eq_true rfl)
  rw [lg_entry_eq]
  generalize (lg_sl ([.ref (B.2.2 j), .int x]) ++ List.replicate (2 - (lg_sl ([.ref (B.2.2 j), .int x])).length) Slot.unset).toArray = ls at hl ⊢
  have hl : lv_has ls 2 [(0, .ref (B.2.2 j)), (1, .int x)] := hl
  have hS := hK.2.1
  refine lv_aload_n hx hb ds_chr_0 rfl (lv_at hl 0 rfl) ?_
  refine after_pure (va_runV (C := RJ0) (As := []) (rest := []) ⟨hx, hb, hml, hown, hts⟩ (c_lat (B := B) l hj) ⟨callB_of 0 hts (wsT_good sw_lat) rfl rfl rfl (hts _ si_RJ0) (hts _ sm_lat) (by decide +kernel) ⟨Nat.le_of_ble_eq_true rfl, Nat.le_of_ble_eq_true rfl⟩, hts _ sn_lat, hts _ se_lat⟩ ⟨PS_blind, vk_recv hS hj hV, fun U hU hW => ⟨rfl, StrK_warm hK hW (fun q _ => by rw [hU]), by rw [hU]; exact hB⟩⟩ rfl rfl hl.1 rfl (lv_room (Nat.le_of_ble_eq_true rfl)) ds_chr_1 ⟨Nat.le_refl _, Nat.le_refl _⟩) hV (fun locs hV => ?_)
  refine lv_if_eq (tgt := 16) hx hb ds_chr_4 (by decide) (fun q => absurd q (by decide)) (fun _ => ?_)
  refine lv_aload_n hx hb ds_chr_7 rfl (lv_at hl 0 rfl) ?_
  refine vk_getf hx hb (hS.1 j hj).2.2.1 hV hown (hts _ sl_va) (fun _ h => h) ds_chr_8 ?_
  refine lv_iload_n hx hb ds_chr_11 rfl (lv_at hl 1 rfl) ?_
  refine after_pure (va_runS (As := [.ref (B.2.2 (100 + j)), .int x]) (rest := []) ⟨hx, hb, hml, hown, hts⟩ (c_l1 (B := B) l hj hin) ⟨callB_of 2 hts (wsT_good sw_l1) rfl rfl rfl (hts _ si_RJ1) (hts _ sm_l1) (by decide +kernel) ⟨Nat.le_of_ble_eq_true rfl, Nat.le_of_ble_eq_true rfl⟩, hts _ ss_l1⟩ ⟨PS_blind, fun U hU hW => ⟨rfl, StrK_warm hK hW (fun q _ => by rw [hU]), by rw [hU]; exact hB⟩⟩ rfl rfl hl.1 rfl (lv_room (Nat.le_of_ble_eq_true rfl)) ds_chr_12 ⟨Nat.le_refl _, Nat.le_refl _⟩) hV (fun locs hV => ?_)
  exact W.zret hx hb hr (pk_nc _) (fun t ht _ => ⟨rfl, ht⟩) hV.2.2 ds_chr_15 hlocks
end
