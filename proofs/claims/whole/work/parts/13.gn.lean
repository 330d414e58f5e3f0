/-! every step that is no call and no end -/
section
variable {G : Gx} {B : Bas} {m d pc n : Nat} {ls st : List Value} {σ : Hp} {y : Fr}
def GN (G : Gx) (B : Bas) (d m pc : Nat) (ls st : List Value) (σ : Hp) (y : Fr) : Prop := y.1 = d ∧ y.2.1 = m ∧ hX y.2.2.2.2.2 = hX σ ∧ hN σ ≤ hN y.2.2.2.2.2 ∧ hS σ ≤ hS y.2.2.2.2.2 ∧ Go G B m d (pc, ls, st, σ) y.2.2
theorem gn_nx {pc' : Nat} {ls' st' : List Value} (hg : Go G B m d (pc, ls, st, σ) (pc', ls', st', σ)) (h : nx d m pc' ls' st' σ = some (.inr (.inl y))) : GN G B d m pc ls st σ y := by
  unfold nx at h; cases h; exact ⟨rfl, rfl, rfl, Nat.le_refl _, Nat.le_refl _, hg⟩
theorem gn_nz {pc' : Nat} {ls' st' : List Value} {τ : Hp} (hg : Go G B m d (pc, ls, st, σ) (pc', ls', st', τ)) (e1 : hX τ = hX σ) (e2 : hN σ ≤ hN τ) (e3 : hS σ ≤ hS τ) (h : nx d m pc' ls' st' τ = some (.inr (.inl y))) : GN G B d m pc ls st σ y := by
  unfold nx at h; cases h; exact ⟨rfl, rfl, e1, e2, e3, hg⟩
theorem gn_j {ls' st' : List Value} {off : Int} (hg : ∀ t : Nat, (pc : Int) + off = (t : Int) → Go G B m d (pc, ls, st, σ) (t, ls', st', σ)) (h : mxJ d m pc ls' st' σ off = some (.inr (.inl y))) : GN G B d m pc ls st σ y := by
  unfold mxJ at h
  split at h
  · next q => exact gn_nx (hg _ (Int.toNat_of_nonneg q).symm) h
  · cases h
theorem gn_bin {f : Int32 → Int32 → Int32} (hg : ∀ {x y : Int32} {r : List Value}, Go G B m d (pc, ls, .int y :: .int x :: r, σ) (pc + 1, ls, .int (f x y) :: r, σ)) (h : mxBin d m pc ls st σ f = some (.inr (.inl y))) : GN G B d m pc ls st σ y := by
  unfold mxBin at h
  split at h
  · exact gn_nx hg h
  · cases h
theorem gn_binL {f : Int64 → Int64 → Int64} (hg : ∀ {x y : Int64} {r : List Value}, Go G B m d (pc, ls, .long y :: .long x :: r, σ) (pc + 1, ls, .long (f x y) :: r, σ)) (h : mxBinL d m pc ls st σ f = some (.inr (.inl y))) : GN G B d m pc ls st σ y := by
  unfold mxBinL at h
  split at h
  · exact gn_nx hg h
  · cases h
theorem gn_iadd (hd : decode (mbG m) pc = .ok (.iadd, 1)) (h : stI (.iadd) 1 d m pc ls st σ = some (.inr (.inl y))) : GN G B d m pc ls st σ y := by
  exact gn_bin (go_iadd hd) h
theorem gn_isub (hd : decode (mbG m) pc = .ok (.isub, 1)) (h : stI (.isub) 1 d m pc ls st σ = some (.inr (.inl y))) : GN G B d m pc ls st σ y := by
  exact gn_bin (go_isub hd) h
theorem gn_imul (hd : decode (mbG m) pc = .ok (.imul, 1)) (h : stI (.imul) 1 d m pc ls st σ = some (.inr (.inl y))) : GN G B d m pc ls st σ y := by
  exact gn_bin (go_imul hd) h
theorem gn_iand (hd : decode (mbG m) pc = .ok (.iand, 1)) (h : stI (.iand) 1 d m pc ls st σ = some (.inr (.inl y))) : GN G B d m pc ls st σ y := by
  exact gn_bin (go_iand hd) h
theorem gn_ior (hd : decode (mbG m) pc = .ok (.ior, 1)) (h : stI (.ior) 1 d m pc ls st σ = some (.inr (.inl y))) : GN G B d m pc ls st σ y := by
  exact gn_bin (go_ior hd) h
theorem gn_ixor (hd : decode (mbG m) pc = .ok (.ixor, 1)) (h : stI (.ixor) 1 d m pc ls st σ = some (.inr (.inl y))) : GN G B d m pc ls st σ y := by
  exact gn_bin (go_ixor hd) h
theorem gn_ishl (hd : decode (mbG m) pc = .ok (.ishl, 1)) (h : stI (.ishl) 1 d m pc ls st σ = some (.inr (.inl y))) : GN G B d m pc ls st σ y := by
  exact gn_bin (go_ishl hd) h
theorem gn_ishr (hd : decode (mbG m) pc = .ok (.ishr, 1)) (h : stI (.ishr) 1 d m pc ls st σ = some (.inr (.inl y))) : GN G B d m pc ls st σ y := by
  exact gn_bin (go_ishr hd) h
theorem gn_iushr (hd : decode (mbG m) pc = .ok (.iushr, 1)) (h : stI (.iushr) 1 d m pc ls st σ = some (.inr (.inl y))) : GN G B d m pc ls st σ y := by
  exact gn_bin (go_iushr hd) h
theorem gn_ladd (hd : decode (mbG m) pc = .ok (.ladd, 1)) (h : stI (.ladd) 1 d m pc ls st σ = some (.inr (.inl y))) : GN G B d m pc ls st σ y := by
  exact gn_binL (go_ladd hd) h
theorem gn_lsub (hd : decode (mbG m) pc = .ok (.lsub, 1)) (h : stI (.lsub) 1 d m pc ls st σ = some (.inr (.inl y))) : GN G B d m pc ls st σ y := by
  exact gn_binL (go_lsub hd) h
theorem gn_lmul (hd : decode (mbG m) pc = .ok (.lmul, 1)) (h : stI (.lmul) 1 d m pc ls st σ = some (.inr (.inl y))) : GN G B d m pc ls st σ y := by
  exact gn_binL (go_lmul hd) h
theorem gn_idiv (hd : decode (mbG m) pc = .ok (.idiv, 1)) (h : stI (.idiv) 1 d m pc ls st σ = some (.inr (.inl y))) : GN G B d m pc ls st σ y := by
  dsimp only [stI] at h
  split at h
  · split at h
    · cases h
    · next hne => exact gn_nx (go_idiv hd hne) h
  · cases h
theorem gn_irem (hd : decode (mbG m) pc = .ok (.irem, 1)) (h : stI (.irem) 1 d m pc ls st σ = some (.inr (.inl y))) : GN G B d m pc ls st σ y := by
  dsimp only [stI] at h
  split at h
  · split at h
    · cases h
    · next hne => exact gn_nx (go_irem hd hne) h
  · cases h
theorem gn_ldiv (hd : decode (mbG m) pc = .ok (.ldiv, 1)) (h : stI (.ldiv) 1 d m pc ls st σ = some (.inr (.inl y))) : GN G B d m pc ls st σ y := by
  dsimp only [stI] at h
  split at h
  · split at h
    · cases h
    · next hne => exact gn_nx (go_ldiv hd hne) h
  · cases h
theorem gn_lrem (hd : decode (mbG m) pc = .ok (.lrem, 1)) (h : stI (.lrem) 1 d m pc ls st σ = some (.inr (.inl y))) : GN G B d m pc ls st σ y := by
  dsimp only [stI] at h
  split at h
  · split at h
    · cases h
    · next hne => exact gn_nx (go_lrem hd hne) h
  · cases h
theorem gn_ineg (hd : decode (mbG m) pc = .ok (.ineg, 1)) (h : stI (.ineg) 1 d m pc ls st σ = some (.inr (.inl y))) : GN G B d m pc ls st σ y := by
  dsimp only [stI] at h
  split at h
  · exact gn_nx (go_ineg hd) h
  · cases h
theorem gn_i2l (hd : decode (mbG m) pc = .ok (.i2l, 1)) (h : stI (.i2l) 1 d m pc ls st σ = some (.inr (.inl y))) : GN G B d m pc ls st σ y := by
  dsimp only [stI] at h
  split at h
  · exact gn_nx (go_i2l hd) h
  · cases h
theorem gn_l2i (hd : decode (mbG m) pc = .ok (.l2i, 1)) (h : stI (.l2i) 1 d m pc ls st σ = some (.inr (.inl y))) : GN G B d m pc ls st σ y := by
  dsimp only [stI] at h
  split at h
  · exact gn_nx (go_l2i hd) h
  · cases h
theorem gn_lcmp (hd : decode (mbG m) pc = .ok (.lcmp, 1)) (h : stI (.lcmp) 1 d m pc ls st σ = some (.inr (.inl y))) : GN G B d m pc ls st σ y := by
  dsimp only [stI] at h
  split at h
  · exact gn_nx (go_lcmp hd) h
  · cases h
theorem gn_pop (hd : decode (mbG m) pc = .ok (.pop, 1)) (h : stI (.pop) 1 d m pc ls st σ = some (.inr (.inl y))) : GN G B d m pc ls st σ y := by
  dsimp only [stI] at h
  split at h
  · exact gn_nx (go_pop hd) h
  · cases h
theorem gn_dup2 (hd : decode (mbG m) pc = .ok (.dup2, 1)) (h : stI (.dup2) 1 d m pc ls st σ = some (.inr (.inl y))) : GN G B d m pc ls st σ y := by
  dsimp only [stI] at h
  split at h
  · exact gn_nx (go_dup2 hd) h
  · cases h
theorem gn_dup (hd : decode (mbG m) pc = .ok (.dup, 1)) (h : stI (.dup) 1 d m pc ls st σ = some (.inr (.inl y))) : GN G B d m pc ls st σ y := by
  dsimp only [stI] at h
  split at h
  · exact gn_nx (go_dupI hd) h
  · exact gn_nx (go_dupR hd) h
  · cases h
theorem gn_iconst {c : Int} (hd : decode (mbG m) pc = .ok (.iconst c, 1)) (h : stI (.iconst c) 1 d m pc ls st σ = some (.inr (.inl y))) : GN G B d m pc ls st σ y := by
  exact gn_nx (go_iconst hd) h
theorem gn_bipush {c : Int} (hd : decode (mbG m) pc = .ok (.bipush c, 2)) (h : stI (.bipush c) 2 d m pc ls st σ = some (.inr (.inl y))) : GN G B d m pc ls st σ y := by
  exact gn_nx (go_bipush hd) h
theorem gn_sipush {c : Int} (hd : decode (mbG m) pc = .ok (.sipush c, 3)) (h : stI (.sipush c) 3 d m pc ls st σ = some (.inr (.inl y))) : GN G B d m pc ls st σ y := by
  exact gn_nx (go_sipush hd) h
theorem gn_lconst {c : Fin 2} (hd : decode (mbG m) pc = .ok (.lconst c, 1)) (h : stI (.lconst c) 1 d m pc ls st σ = some (.inr (.inl y))) : GN G B d m pc ls st σ y := by
  exact gn_nx (go_lconst hd) h
theorem gn_aconst (hd : decode (mbG m) pc = .ok (.aconst_null, 1)) (h : stI (.aconst_null) 1 d m pc ls st σ = some (.inr (.inl y))) : GN G B d m pc ls st σ y := by
  exact gn_nx (go_null hd) h
theorem gn_iload {i : Nat} (hd : decode (mbG m) pc = .ok (.iload i, 2)) (h : stI (.iload i) 2 d m pc ls st σ = some (.inr (.inl y))) : GN G B d m pc ls st σ y := by
  dsimp only [stI] at h
  unfold mxLI at h
  split at h
  · next e => exact gn_nx (go_iload hd e) h
  · cases h
theorem gn_iload_n {i : Fin 4} (hd : decode (mbG m) pc = .ok (.iload_n i, 1)) (h : stI (.iload_n i) 1 d m pc ls st σ = some (.inr (.inl y))) : GN G B d m pc ls st σ y := by
  dsimp only [stI] at h
  unfold mxLI at h
  split at h
  · next e => exact gn_nx (go_iload_n hd e) h
  · cases h
theorem gn_lload {i : Nat} (hd : decode (mbG m) pc = .ok (.lload i, 2)) (h : stI (.lload i) 2 d m pc ls st σ = some (.inr (.inl y))) : GN G B d m pc ls st σ y := by
  dsimp only [stI] at h
  unfold mxLL at h
  split at h
  · next e => exact gn_nx (go_lload hd e) h
  · cases h
theorem gn_lload_n {i : Fin 4} (hd : decode (mbG m) pc = .ok (.lload_n i, 1)) (h : stI (.lload_n i) 1 d m pc ls st σ = some (.inr (.inl y))) : GN G B d m pc ls st σ y := by
  dsimp only [stI] at h
  unfold mxLL at h
  split at h
  · next e => exact gn_nx (go_lload_n hd e) h
  · cases h
theorem gn_aload {i : Nat} (hd : decode (mbG m) pc = .ok (.aload i, 2)) (h : stI (.aload i) 2 d m pc ls st σ = some (.inr (.inl y))) : GN G B d m pc ls st σ y := by
  dsimp only [stI] at h
  unfold mxLA at h
  split at h
  · next e => exact gn_nx (go_aload hd e) h
  · next e => exact gn_nx (go_aloadO hd e) h
  · next e => exact gn_nx (go_aloadN hd e) h
  · cases h
theorem gn_istore {i : Nat} (hd : decode (mbG m) pc = .ok (.istore i, 2)) (h : stI (.istore i) 2 d m pc ls st σ = some (.inr (.inl y))) : GN G B d m pc ls st σ y := by
  dsimp only [stI] at h
  unfold mxSI at h
  split at h
  · split at h
    · next e => exact gn_nx (go_istore hd e) h
    · cases h
  · cases h
theorem gn_lstore {i : Nat} (hd : decode (mbG m) pc = .ok (.lstore i, 2)) (h : stI (.lstore i) 2 d m pc ls st σ = some (.inr (.inl y))) : GN G B d m pc ls st σ y := by
  dsimp only [stI] at h
  unfold mxSL at h
  split at h
  · split at h
    · next e => exact gn_nx (go_lstore hd e) h
    · cases h
  · cases h
theorem gn_astore {i : Nat} (hd : decode (mbG m) pc = .ok (.astore i, 2)) (h : stI (.astore i) 2 d m pc ls st σ = some (.inr (.inl y))) : GN G B d m pc ls st σ y := by
  dsimp only [stI] at h
  unfold mxSA at h
  split at h
  · split at h
    · next e => exact gn_nx (go_astore hd e) h
    · cases h
  · split at h
    · next e => exact gn_nx (go_astoreN hd e) h
    · cases h
  · cases h
theorem gn_aload_n {i : Fin 4} (hd : decode (mbG m) pc = .ok (.aload_n i, 1)) (h : stI (.aload_n i) 1 d m pc ls st σ = some (.inr (.inl y))) : GN G B d m pc ls st σ y := by
  dsimp only [stI] at h
  unfold mxLA at h
  split at h
  · next e => exact gn_nx (go_aload_n hd e) h
  · next e => exact gn_nx (go_aload_nO hd e) h
  · next e => exact gn_nx (go_aload_nN hd e) h
  · cases h
theorem gn_istore_n {i : Fin 4} (hd : decode (mbG m) pc = .ok (.istore_n i, 1)) (h : stI (.istore_n i) 1 d m pc ls st σ = some (.inr (.inl y))) : GN G B d m pc ls st σ y := by
  dsimp only [stI] at h
  unfold mxSI at h
  split at h
  · split at h
    · next e => exact gn_nx (go_istore_n hd e) h
    · cases h
  · cases h
theorem gn_lstore_n {i : Fin 4} (hd : decode (mbG m) pc = .ok (.lstore_n i, 1)) (h : stI (.lstore_n i) 1 d m pc ls st σ = some (.inr (.inl y))) : GN G B d m pc ls st σ y := by
  dsimp only [stI] at h
  unfold mxSL at h
  split at h
  · split at h
    · next e => exact gn_nx (go_lstore_n hd e) h
    · cases h
  · cases h
theorem gn_astore_n {i : Fin 4} (hd : decode (mbG m) pc = .ok (.astore_n i, 1)) (h : stI (.astore_n i) 1 d m pc ls st σ = some (.inr (.inl y))) : GN G B d m pc ls st σ y := by
  dsimp only [stI] at h
  unfold mxSA at h
  split at h
  · split at h
    · next e => exact gn_nx (go_astore_n hd e) h
    · cases h
  · split at h
    · next e => exact gn_nx (go_astore_nN hd e) h
    · cases h
  · cases h
theorem gn_iinc {i : Nat} {c : Int} (hd : decode (mbG m) pc = .ok (.iinc i c, 3)) (h : stI (.iinc i c) 3 d m pc ls st σ = some (.inr (.inl y))) : GN G B d m pc ls st σ y := by
  dsimp only [stI] at h
  split at h
  · next e =>
    split at h
    · next e2 => exact gn_nx (go_iinc hd e e2) h
    · cases h
  · cases h
theorem gn_goto {off : Int} (hd : decode (mbG m) pc = .ok (.goto off, 3)) (h : stI (.goto off) 3 d m pc ls st σ = some (.inr (.inl y))) : GN G B d m pc ls st σ y := by
  exact gn_j (fun t ht => go_goto hd ht) h
theorem gn_icmp {c : ClassFile.Cond} {off : Int} (hd : decode (mbG m) pc = .ok (.if_icmp c off, 3)) (h : stI (.if_icmp c off) 3 d m pc ls st σ = some (.inr (.inl y))) : GN G B d m pc ls st σ y := by
  dsimp only [stI] at h
  split at h
  · cases h
  next hp =>
  split at h
  · cases c <;> dsimp only at h
    · split at h
      · next q => exact gn_j (fun t ht => go_icmp_eqt hd ht q) h
      · next q => exact gn_nx (go_icmp_eqf hd (Int.toNat_of_nonneg (Int.not_lt.mp hp)).symm q) h
    · split at h
      · next q => exact gn_nx (go_icmp_nef hd (Int.toNat_of_nonneg (Int.not_lt.mp hp)).symm q) h
      · next q => exact gn_j (fun t ht => go_icmp_net hd ht q) h
    · split at h
      · next q => exact gn_j (fun t ht => go_icmp_ltt hd ht q) h
      · next q => exact gn_nx (go_icmp_ltf hd (Int.toNat_of_nonneg (Int.not_lt.mp hp)).symm q) h
    · split at h
      · next q => exact gn_j (fun t ht => go_icmp_get hd ht q) h
      · next q => exact gn_nx (go_icmp_gef hd (Int.toNat_of_nonneg (Int.not_lt.mp hp)).symm q) h
    · split at h
      · next q => exact gn_j (fun t ht => go_icmp_gtt hd ht q) h
      · next q => exact gn_nx (go_icmp_gtf hd (Int.toNat_of_nonneg (Int.not_lt.mp hp)).symm q) h
    · split at h
      · next q => exact gn_j (fun t ht => go_icmp_let hd ht q) h
      · next q => exact gn_nx (go_icmp_lef hd (Int.toNat_of_nonneg (Int.not_lt.mp hp)).symm q) h
  · cases h
theorem gn_ifc {c : ClassFile.Cond} {off : Int} (hd : decode (mbG m) pc = .ok (.ifCond c off, 3)) (h : stI (.ifCond c off) 3 d m pc ls st σ = some (.inr (.inl y))) : GN G B d m pc ls st σ y := by
  dsimp only [stI] at h
  split at h
  · cases h
  next hp =>
  split at h
  · cases c <;> dsimp only at h
    · split at h
      · next q => exact gn_j (fun t ht => go_if_eqt hd ht q) h
      · next q => exact gn_nx (go_if_eqf hd (Int.toNat_of_nonneg (Int.not_lt.mp hp)).symm q) h
    · split at h
      · next q => exact gn_nx (go_if_nef hd (Int.toNat_of_nonneg (Int.not_lt.mp hp)).symm q) h
      · next q => exact gn_j (fun t ht => go_if_net hd ht q) h
    · split at h
      · next q => exact gn_j (fun t ht => go_if_ltt hd ht q) h
      · next q => exact gn_nx (go_if_ltf hd (Int.toNat_of_nonneg (Int.not_lt.mp hp)).symm q) h
    · split at h
      · next q => exact gn_j (fun t ht => go_if_get hd ht q) h
      · next q => exact gn_nx (go_if_gef hd (Int.toNat_of_nonneg (Int.not_lt.mp hp)).symm q) h
    · split at h
      · next q => exact gn_j (fun t ht => go_if_gtt hd ht q) h
      · next q => exact gn_nx (go_if_gtf hd (Int.toNat_of_nonneg (Int.not_lt.mp hp)).symm q) h
    · split at h
      · next q => exact gn_j (fun t ht => go_if_let hd ht q) h
      · next q => exact gn_nx (go_if_lef hd (Int.toNat_of_nonneg (Int.not_lt.mp hp)).symm q) h
  · cases h
theorem gn_nn {off : Int} (hd : decode (mbG m) pc = .ok (.ifnonnull off, 3)) (h : stI (.ifnonnull off) 3 d m pc ls st σ = some (.inr (.inl y))) : GN G B d m pc ls st σ y := by
  dsimp only [stI] at h
  split at h
  · exact gn_j (fun t ht => go_nn hd ht) h
  · exact gn_nx (go_nnN hd) h
  · cases h
theorem gn_tab {df lo hi : Int} {offs : Array Int} (hd : decode (mbG m) pc = .ok (.tableswitch df lo hi offs, n)) (h : stI (.tableswitch df lo hi offs) n d m pc ls st σ = some (.inr (.inl y))) : GN G B d m pc ls st σ y := by
  dsimp only [stI] at h
  split at h
  · split at h
    · next g => exact gn_j (fun t ht => go_tabO hd g ht) h
    · next g =>
      split at h
      · next e => exact gn_j (fun t ht => go_tabI hd (fun z => g (Or.inl z)) (fun z => g (Or.inr z)) e ht) h
      · cases h
  · cases h
theorem gn_ldc {i : Nat} (hd : decode (mbG m) pc = .ok (.ldc i, 2)) (h : stI (.ldc i) 2 d m pc ls st σ = some (.inr (.inl y))) : GN G B d m pc ls st σ y := by
  dsimp only [stI] at h
  split at h
  · next e => exact gn_nx (go_ldc hd e) h
  · next e => exact gn_nx (go_ldcS hd e) h
  · cases h
theorem gn_ldcw {i : Nat} (hd : decode (mbG m) pc = .ok (.ldc_w i, 3)) (h : stI (.ldc_w i) 3 d m pc ls st σ = some (.inr (.inl y))) : GN G B d m pc ls st σ y := by
  dsimp only [stI] at h
  split at h
  · next e => exact gn_nx (go_ldcw hd e) h
  · cases h
theorem gn_ldc2 {i : Nat} (hd : decode (mbG m) pc = .ok (.ldc2_w i, 3)) (h : stI (.ldc2_w i) 3 d m pc ls st σ = some (.inr (.inl y))) : GN G B d m pc ls st σ y := by
  dsimp only [stI] at h
  split at h
  · next e => exact gn_nx (go_ldc2 hd e) h
  · cases h
theorem gn_get {i : Nat} (hd : decode (mbG m) pc = .ok (.getfield i, 3)) (h : stI (.getfield i) 3 d m pc ls st σ = some (.inr (.inl y))) : GN G B d m pc ls st σ y := by
  dsimp only [stI] at h
  split at h
  · next e =>
    split at h
    · split at h
      · next q =>
        obtain ⟨r0, g1, -⟩ := fl_spec e
        have z := kd_s q (by have := cl_lt g1; omega)
        exact gn_nx (go_get hd e z.1 z.2) h
      · cases h
    · cases h
  · cases h
theorem gn_put {i : Nat} (hd : decode (mbG m) pc = .ok (.putfield i, 3)) (h : stI (.putfield i) 3 d m pc ls st σ = some (.inr (.inl y))) : GN G B d m pc ls st σ y := by
  dsimp only [stI] at h
  split at h
  · next e =>
    split at h
    · split at h
      · next q =>
        obtain ⟨r0, g1, -⟩ := fl_spec e
        have z := kd_s q.1 (by have := cl_lt g1; omega)
        exact gn_nz (go_put hd e z.1 z.2 q.2.1 q.2.2) rfl (Nat.le_refl _) (Nat.le_refl _) h
      · cases h
    · cases h
  · cases h
theorem tys_of {c : Nat} (h1 : 100 ≤ c) (h2 : c < 105) : ∃ (t : Nat) (ty : FieldType), (tysG G)[t]? = some (G.2 c, ty) := by
  have h : c = 100 ∨ c = 101 ∨ c = 102 ∨ c = 103 ∨ c = 104 := by omega
  rcases h with rfl | rfl | rfl | rfl | rfl
  · exact ⟨0, _, rfl⟩
  · exact ⟨1, _, rfl⟩
  · exact ⟨2, _, rfl⟩
  · exact ⟨3, _, rfl⟩
  · exact ⟨4, _, rfl⟩
theorem gn_alen (hd : decode (mbG m) pc = .ok (.arraylength, 1)) (h : stI (.arraylength) 1 d m pc ls st σ = some (.inr (.inl y))) : GN G B d m pc ls st σ y := by
  dsimp only [stI] at h
  split at h
  · split at h
    · next q =>
      obtain ⟨t, ty, ht⟩ := tys_of (G := G) q.1 q.2
      have z := kd_s rfl (Nat.lt_trans q.2 (by omega))
      exact gn_nx (go_alen hd z.1 z.2 q.1 ht) h
    · cases h
  · exact gn_nx (go_slen hd) h
  · cases h
theorem gn_iald (hd : decode (mbG m) pc = .ok (.iaload, 1)) (h : stI (.iaload) 1 d m pc ls st σ = some (.inr (.inl y))) : GN G B d m pc ls st σ y := by
  dsimp only [stI] at h
  split at h
  · split at h
    · next q => exact gn_nx (go_iald hd (kd_s q.1 (by omega)).1 (kd_s q.1 (by omega)).2 q.2) h
    · cases h
  · split at h
    · next q => exact gn_nx (go_sld hd q) h
    · cases h
  · cases h
theorem gn_zald (hd : decode (mbG m) pc = .ok (.baload, 1)) (h : stI (.baload) 1 d m pc ls st σ = some (.inr (.inl y))) : GN G B d m pc ls st σ y := by
  dsimp only [stI] at h
  split at h
  · split at h
    · next q => exact gn_nx (go_zald hd (kd_s q.1 (by omega)).1 (kd_s q.1 (by omega)).2 q.2) h
    · cases h
  · cases h
theorem gn_lald (hd : decode (mbG m) pc = .ok (.laload, 1)) (h : stI (.laload) 1 d m pc ls st σ = some (.inr (.inl y))) : GN G B d m pc ls st σ y := by
  dsimp only [stI] at h
  split at h
  · split at h
    · next q => exact gn_nx (go_lald hd (kd_s q.1 (by omega)).1 (kd_s q.1 (by omega)).2 q.2) h
    · cases h
  · cases h
theorem gn_aald (hd : decode (mbG m) pc = .ok (.aaload, 1)) (h : stI (.aaload) 1 d m pc ls st σ = some (.inr (.inl y))) : GN G B d m pc ls st σ y := by
  dsimp only [stI] at h
  split at h
  · split at h
    · next q => exact gn_nx (go_aald hd (q.1.elim (fun z => (kd_s z (by omega)).1) (fun z => (kd_s z (by omega)).1)) (q.1.imp (fun z => (kd_s z (by omega)).2) (fun z => (kd_s z (by omega)).2)) q.2) h
    · cases h
  · cases h
theorem gn_iast (hd : decode (mbG m) pc = .ok (.iastore, 1)) (h : stI (.iastore) 1 d m pc ls st σ = some (.inr (.inl y))) : GN G B d m pc ls st σ y := by
  dsimp only [stI] at h
  split at h
  · split at h
    · next q => exact gn_nz (go_iast hd (kd_s q.1 (by omega)).1 (kd_s q.1 (by omega)).2 q.2) rfl (Nat.le_refl _) (Nat.le_refl _) h
    · cases h
  · cases h
theorem gn_zast (hd : decode (mbG m) pc = .ok (.bastore, 1)) (h : stI (.bastore) 1 d m pc ls st σ = some (.inr (.inl y))) : GN G B d m pc ls st σ y := by
  dsimp only [stI] at h
  split at h
  · split at h
    · next q => exact gn_nz (go_zast hd (kd_s q.1 (by omega)).1 (kd_s q.1 (by omega)).2 q.2) rfl (Nat.le_refl _) (Nat.le_refl _) h
    · cases h
  · cases h
theorem gn_last (hd : decode (mbG m) pc = .ok (.lastore, 1)) (h : stI (.lastore) 1 d m pc ls st σ = some (.inr (.inl y))) : GN G B d m pc ls st σ y := by
  dsimp only [stI] at h
  split at h
  · split at h
    · next q => exact gn_nz (go_last hd (kd_s q.1 (by omega)).1 (kd_s q.1 (by omega)).2 q.2) rfl (Nat.le_refl _) (Nat.le_refl _) h
    · cases h
  · cases h
theorem gn_aast (hd : decode (mbG m) pc = .ok (.aastore, 1)) (h : stI (.aastore) 1 d m pc ls st σ = some (.inr (.inl y))) : GN G B d m pc ls st σ y := by
  dsimp only [stI] at h
  split at h
  · split at h
    · next q =>
      obtain ⟨q3, q4⟩ := q
      rcases q3 with ⟨a, b⟩ | ⟨a, b⟩ <;> obtain ⟨q1, a⟩ := kd_s a (by omega) <;> obtain ⟨q2, b⟩ := kd_s b (by omega)
      · exact gn_nz (go_aast (t := 3) (r0 := (RX5, TX5, 1)) hd q1 q2 (Or.inl a) b rfl (by rw [a]; rfl) q4) rfl (Nat.le_refl _) (Nat.le_refl _) h
      · exact gn_nz (go_aast (t := 4) (r0 := (RX9, TX9, 9)) hd q1 q2 (Or.inr a) b rfl (by rw [a]; rfl) q4) rfl (Nat.le_refl _) (Nat.le_refl _) h
    · cases h
  · split at h
    · next q => exact gn_nz (go_aastN hd (q.1.elim (fun z => (kd_s z (by omega)).1) (fun z => (kd_s z (by omega)).1)) (q.1.imp (fun z => (kd_s z (by omega)).2) (fun z => (kd_s z (by omega)).2)) q.2) rfl (Nat.le_refl _) (Nat.le_refl _) h
    · cases h
  · cases h
theorem gn_newa {t : ArrayType} (hd : decode (mbG m) pc = .ok (.newarray t, 2)) (h : stI (.newarray t) 2 d m pc ls st σ = some (.inr (.inl y))) : GN G B d m pc ls st σ y := by
  dsimp only [stI] at h
  split at h
  · split at h
    · cases h
    · next q =>
      cases t with
      | int => exact gn_nz (go_newa (c := 100) (t := 0) hd q rfl ar_in.1 (by decide) (by decide) (fun _ _ z => z) (fun n => by rw [rowE_I nA_K (Or.inl rfl), nA_I]; rfl)) rfl (Nat.le_succ _) (Nat.le_add_right _ _) h
      | long => exact gn_nz (go_newa (c := 101) (t := 1) hd q rfl ar_in.2.1 (by decide) (by decide) (fun _ _ z => z) (fun n => by rw [rowE_J nA_K, nA_J]; rfl)) rfl (Nat.le_succ _) (Nat.le_add_right _ _) h
      | boolean => exact gn_nz (go_newa (c := 102) (t := 2) hd q rfl ar_in.2.2 (by decide) (by decide) (fun _ _ z => z) (fun n => by rw [rowE_I nA_K (Or.inr rfl), nA_I]; rfl)) rfl (Nat.le_succ _) (Nat.le_add_right _ _) h
      | _ => cases h
  · cases h
theorem gn_anew {i : Nat} (hd : decode (mbG m) pc = .ok (.anewarray i, 3)) (h : stI (.anewarray i) 3 d m pc ls st σ = some (.inr (.inl y))) : GN G B d m pc ls st σ y := by
  dsimp only [stI] at h
  split at h
  · next e =>
    split at h
    · split at h
      · cases h
      · next q =>
        split at h
        · next c5 =>
          subst c5
          exact gn_nz (go_anew (t := 3) (c := 103) (r0 := (RX5, TX5, 1)) hd e rfl q rfl (Or.inl rfl) (fun _ z _ => z)) rfl (Nat.le_succ _) (Nat.le_add_right _ _) h
        · split at h
          · next c9 =>
            subst c9
            exact gn_nz (go_anew (t := 4) (c := 104) (r0 := (RX9, TX9, 9)) hd e rfl q rfl (Or.inr rfl) (fun _ _ z => z)) rfl (Nat.le_succ _) (Nat.le_add_right _ _) h
          · cases h
    · cases h
  · cases h
theorem gn_new {i : Nat} (hd : decode (mbG m) pc = .ok (.new i, 3)) (h : stI (.new i) 3 d m pc ls st σ = some (.inr (.inl y))) : GN G B d m pc ls st σ y := by
  dsimp only [stI] at h
  split at h
  · next e => exact gn_nz (go_new hd e) rfl (Nat.le_succ _) (Nat.le_add_right _ _) h
  · cases h
end
