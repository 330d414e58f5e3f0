/-! AN ABSTRACT MACHINE over the claim's own code: cells are numbered from 0 in the order of their making, what a cell holds is a function. .ref k: the k-th cell made; .retAddr 0: the script; .retAddr (j + 1): the j-th text; .float 0 in a local: nothing is said of it. -/
abbrev Hp : Type := (Nat × (Nat → Int32)) × Nat × Nat × (Nat → Nat) × (Nat → Nat) × (Nat → Nat → Value) × (Nat → Nat → Int32) × (Nat → Nat → Int64) × (Nat → Nat → Option Nat)
def hX (σ : Hp) : Nat × (Nat → Int32) := σ.1
def hN (σ : Hp) : Nat := σ.2.1
def hS (σ : Hp) : Nat := σ.2.2.1
def hK (σ : Hp) (k : Nat) : Nat := σ.2.2.2.1 k
def hL (σ : Hp) (k : Nat) : Nat := σ.2.2.2.2.1 k
def hF (σ : Hp) (k j : Nat) : Value := σ.2.2.2.2.2.1 k j
def hI (σ : Hp) (k : Nat) : Nat → Int32 := σ.2.2.2.2.2.2.1 k
def hJ (σ : Hp) (k : Nat) : Nat → Int64 := σ.2.2.2.2.2.2.2.1 k
def hR (σ : Hp) (k : Nat) : Nat → Option Nat := σ.2.2.2.2.2.2.2.2 k
/-- the kind of a cell that has been made -/
def kd (σ : Hp) (q : Nat) : Nat := if q < hN σ then hK σ q else 999
def sF (σ : Hp) (k j : Nat) (v : Value) : Hp := (σ.1, σ.2.1, σ.2.2.1, σ.2.2.2.1, σ.2.2.2.2.1, (fun k' j' => if k' = k ∧ j' = j then v else hF σ k' j'), σ.2.2.2.2.2.2.1, σ.2.2.2.2.2.2.2.1, σ.2.2.2.2.2.2.2.2)
def sI (σ : Hp) (k : Nat) (f : Nat → Int32) : Hp := (σ.1, σ.2.1, σ.2.2.1, σ.2.2.2.1, σ.2.2.2.2.1, σ.2.2.2.2.2.1, (fun k' => if k' = k then f else hI σ k'), σ.2.2.2.2.2.2.2.1, σ.2.2.2.2.2.2.2.2)
def sJ (σ : Hp) (k : Nat) (f : Nat → Int64) : Hp := (σ.1, σ.2.1, σ.2.2.1, σ.2.2.2.1, σ.2.2.2.2.1, σ.2.2.2.2.2.1, σ.2.2.2.2.2.2.1, (fun k' => if k' = k then f else hJ σ k'), σ.2.2.2.2.2.2.2.2)
def sR (σ : Hp) (k : Nat) (f : Nat → Option Nat) : Hp := (σ.1, σ.2.1, σ.2.2.1, σ.2.2.2.1, σ.2.2.2.2.1, σ.2.2.2.2.2.1, σ.2.2.2.2.2.2.1, σ.2.2.2.2.2.2.2.1, (fun k' => if k' = k then f else hR σ k'))
/-- a new object of class c with N fields that begin as fs -/
def nO (σ : Hp) (c N : Nat) (fs : Nat → Value) : Hp := (σ.1, σ.2.1 + 1, σ.2.2.1 + N, (fun k => if k = hN σ then c else hK σ k), σ.2.2.2.2.1, (fun k j => if k = hN σ then fs j else hF σ k j), σ.2.2.2.2.2.2.1, σ.2.2.2.2.2.2.2.1, σ.2.2.2.2.2.2.2.2)
/-- a new array of kind c (100 ints, 101 longs, 102 booleans, 103 Laws, 104 States) of n places -/
def nA (σ : Hp) (c n : Nat) : Hp := (σ.1, σ.2.1 + 1, σ.2.2.1 + n, (fun k => if k = hN σ then c else hK σ k), (fun k => if k = hN σ then n else hL σ k), σ.2.2.2.2.2.1, (fun k => if k = hN σ then (fun _ => 0) else hI σ k), (fun k => if k = hN σ then (fun _ => 0) else hJ σ k), (fun k => if k = hN σ then (fun _ => none) else hR σ k))
abbrev mxP (i : Int32) (n : Nat) : Prop := ¬ (i < 0 ∨ n ≤ i.toNatClampNeg)
abbrev Fr : Type := Nat × Nat × Nat × List Value × List Value × Hp
abbrev Rs : Type := Option Value × Hp
abbrev Sx : Type := Rs ⊕ Fr ⊕ (Fr × (Option Value → Hp → Fr))
/-- may a value be put into a place of this type as it is? -/
def mxT : FieldType → Value → Bool
  | .int, .int _ => true
  | .long, .long _ => true
  | .boolean, .int x => x == 0 || x == 1
  | .object _, .ref _ => true
  | .object _, .null => true
  | .array _, .ref _ => true
  | .array _, .null => true
  | _, _ => false
def mxD : FieldType → Value
  | .int => .int 0
  | .boolean => .int 0
  | .byte => .int 0
  | .char => .int 0
  | .short => .int 0
  | .float => .float 0
  | .double => .double 0
  | .long => .long 0
  | _ => .null
/-- how an object of a class begins -/
def mxB (c j : Nat) : Value := match vwCl[c]? with
  | some r => match parseFieldDescriptor (r.2.1 j).2.2.1 with
    | some t => mxD t
    | none => .null
  | none => .null
def mxA : List Value → List Value
  | [] => []
  | .long x :: r => .long x :: .float 0 :: mxA r
  | v :: r => v :: mxA r
/-- a method's locals at its entry -/
def mxE (m : Nat) (as : List Value) : List Value := mxA as ++ List.replicate ((mxI m).2.1 - (mxA as).length) (.float 0)
def isR : Value → Bool
  | .float _ => false
  | .double _ => false
  | _ => true
/-- a long whose second half is at i is gone -/
def unL : Value → Value
  | .long _ => .float 0
  | v => v
def mxG (ls : List Value) (i : Nat) : List Value := match i with
  | 0 => ls
  | j + 1 => match ls[j]? with
    | some v => ls.set j (unL v)
    | none => ls
def mxS1 (ls : List Value) (i : Nat) (v : Value) : List Value := (mxG ls i).set i v
def mxS2 (ls : List Value) (i : Nat) (v : Value) : List Value := ((mxG ls i).set i v).set (i + 1) (.float 0)
def mxRf (B : Nat) (r : Option Nat) : Option Nat := r.map (fun k => B + k)
def mxQ (r : Option Nat) : Value := match r with
  | some k => .ref k
  | none => .null
def nx (d m pc : Nat) (ls st : List Value) (σ : Hp) : Option Sx := some (.inr (.inl (d, m, pc, ls, st, σ)))
def mxLI (d m pc n : Nat) (ls st : List Value) (σ : Hp) (i : Nat) : Option Sx := match ls[i]? with
  | some (.int x) => nx d m (pc + n) ls (.int x :: st) σ
  | _ => none
def mxLL (d m pc n : Nat) (ls st : List Value) (σ : Hp) (i : Nat) : Option Sx := match ls[i]? with
  | some (.long x) => nx d m (pc + n) ls (.long x :: st) σ
  | _ => none
def mxLA (d m pc n : Nat) (ls st : List Value) (σ : Hp) (i : Nat) : Option Sx := match ls[i]? with
  | some (.ref x) => nx d m (pc + n) ls (.ref x :: st) σ
  | some (.retAddr x) => nx d m (pc + n) ls (.retAddr x :: st) σ
  | some .null => nx d m (pc + n) ls (.null :: st) σ
  | _ => none
def mxSI (d m pc n : Nat) (ls st : List Value) (σ : Hp) (i : Nat) : Option Sx := match st with
  | .int x :: r => if i < (mxI m).2.1 then nx d m (pc + n) (mxS1 ls i (.int x)) r σ else none
  | _ => none
def mxSL (d m pc n : Nat) (ls st : List Value) (σ : Hp) (i : Nat) : Option Sx := match st with
  | .long x :: r => if i + 1 < (mxI m).2.1 then nx d m (pc + n) (mxS2 ls i (.long x)) r σ else none
  | _ => none
def mxSA (d m pc n : Nat) (ls st : List Value) (σ : Hp) (i : Nat) : Option Sx := match st with
  | .ref x :: r => if i < (mxI m).2.1 then nx d m (pc + n) (mxS1 ls i (.ref x)) r σ else none
  | .null :: r => if i < (mxI m).2.1 then nx d m (pc + n) (mxS1 ls i .null) r σ else none
  | _ => none
def mxBin (d m pc : Nat) (ls st : List Value) (σ : Hp) (f : Int32 → Int32 → Int32) : Option Sx := match st with
  | .int y :: .int x :: r => nx d m (pc + 1) ls (.int (f x y) :: r) σ
  | _ => none
def mxBinL (d m pc : Nat) (ls st : List Value) (σ : Hp) (f : Int64 → Int64 → Int64) : Option Sx := match st with
  | .long y :: .long x :: r => nx d m (pc + 1) ls (.long (f x y) :: r) σ
  | _ => none
def mxTo (pc : Nat) (off : Int) : Nat := ((pc : Int) + off).toNat
def mxJ (d m pc : Nat) (ls st : List Value) (σ : Hp) (off : Int) : Option Sx := if 0 ≤ (pc : Int) + off then nx d m (mxTo pc off) ls st σ else none
def csum (l : List Value) : Nat := (l.map fun v => v.category).sum
def mxCall (d m pc : Nat) (ls : List Value) (σ : Hp) (cal : Nat) (as rest : List Value) : Option Sx := match d with
  | 0 => none
  | e + 1 => if (csum rest ≤ 8 ∧ as.all isR = true) ∧ (mxA as).length ≤ (mxI cal).2.1 then some (.inr (.inr ((e, cal, 0, mxE cal as, [], σ), fun v τ => (e + 1, m, pc + 3, ls, v.toList ++ rest, τ)))) else none
/-- Object.<init> -/
def mxI3 (d m pc : Nat) (ls st : List Value) (σ : Hp) : Option Sx := match st with
  | .ref _ :: r => if d = 0 ∨ 4 < r.length then none else nx d m (pc + 3) ls r σ
  | _ => none
/-- System.arraycopy, of ints -/
def mxI4 (d m pc : Nat) (ls st : List Value) (σ : Hp) : Option Sx := match st with
  | .int n :: .int dp :: .ref b :: .int sp :: .ref a :: r =>
    if (d ≠ 0 ∧ r.length ≤ 4) ∧ (kd σ a = 100 ∧ kd σ b = 100) ∧ (¬ sp < 0 ∧ ¬ dp < 0 ∧ ¬ n < 0) ∧ sp.toNatClampNeg + n.toNatClampNeg ≤ hL σ a ∧ dp.toNatClampNeg + n.toNatClampNeg ≤ hL σ b then
      nx d m (pc + 3) ls r (sI σ b (va_cpy (hI σ a) (hI σ b) sp.toNatClampNeg dp.toNatClampNeg n.toNatClampNeg)) else none
  | _ => none
/-- String.length -/
def mxI5 (d m pc : Nat) (ls st : List Value) (σ : Hp) : Option Sx := match st with
  | .retAddr (j + 1) :: r => match stAll[j]? with
    | some q => if d < 5 ∨ 4 < r.length then none else nx d m (pc + 3) ls (.int (nI q.2.length) :: r) σ
    | none => none
  | _ => none
/-- String.charAt -/
def mxI6 (d m pc : Nat) (ls st : List Value) (σ : Hp) : Option Sx := match st with
  | .int x :: .retAddr (j + 1) :: r => match stAll[j]? with
    | some q => if (d < 5 ∨ 4 < r.length) ∨ ¬ mxP x q.2.length then none else nx d m (pc + 3) ls (.int (nI (q.2.getD x.toNatClampNeg 0)) :: r) σ
    | none => none
  | _ => none
def mxI7 (d m pc : Nat) (ls st : List Value) (σ : Hp) : Option Sx := match st with
  | .int y :: .int x :: r => if d = 0 ∨ 4 < r.length then none else nx d m (pc + 3) ls (.int (if x < y then y else x) :: r) σ
  | _ => none
def mxI8 (d m pc : Nat) (ls st : List Value) (σ : Hp) : Option Sx := match st with
  | .int y :: .int x :: r => if d = 0 ∨ 4 < r.length then none else nx d m (pc + 3) ls (.int (if y < x then y else x) :: r) σ
  | _ => none
/-- with a receiver -/
def mxIR (d m pc : Nat) (ls st : List Value) (σ : Hp) (cal na : Nat) : Option Sx := match st.drop na with
  | .ref q :: r => if kd σ q = (mxI cal).1 ∧ (st.take na).length = na then mxCall d m pc ls σ cal (.ref q :: (st.take na).reverse) r else none
  | _ => none
/-- a method's call: the arguments stand in reverse on the stack -/
def mxInv (d m pc : Nat) (ls st : List Value) (σ : Hp) (kinds : Nat → Bool) (i : Nat) : Option Sx := match mxM m i with
  | some (k, cal, na) => if kinds k = false then none else
      if k = 0 then (if na ≤ st.length then mxCall d m pc ls σ cal (st.take na).reverse (st.drop na) else none)
      else if k = 3 then mxI3 d m pc ls st σ
      else if k = 4 then mxI4 d m pc ls st σ
      else if k = 5 then mxI5 d m pc ls st σ
      else if k = 6 then mxI6 d m pc ls st σ
      else if k = 7 then mxI7 d m pc ls st σ
      else if k = 8 then mxI8 d m pc ls st σ
      else mxIR d m pc ls st σ cal na
  | none => none
def stI (i : Instr) (n d m pc : Nat) (ls st : List Value) (σ : Hp) : Option Sx := match i with
  | .iload k => mxLI d m pc n ls st σ k
  | .iload_n k => mxLI d m pc n ls st σ k
  | .lload k => mxLL d m pc n ls st σ k
  | .lload_n k => mxLL d m pc n ls st σ k
  | .aload k => mxLA d m pc n ls st σ k
  | .aload_n k => mxLA d m pc n ls st σ k
  | .istore k => mxSI d m pc n ls st σ k
  | .istore_n k => mxSI d m pc n ls st σ k
  | .lstore k => mxSL d m pc n ls st σ k
  | .lstore_n k => mxSL d m pc n ls st σ k
  | .astore k => mxSA d m pc n ls st σ k
  | .astore_n k => mxSA d m pc n ls st σ k
  | .iconst c => nx d m (pc + 1) ls (.int (Int32.ofInt c) :: st) σ
  | .bipush c => nx d m (pc + 2) ls (.int (Int8.ofInt c).toInt32 :: st) σ
  | .sipush c => nx d m (pc + 3) ls (.int (Int16.ofInt c).toInt32 :: st) σ
  | .lconst c => nx d m (pc + 1) ls (.long (Int64.ofNat c) :: st) σ
  | .aconst_null => nx d m (pc + 1) ls (.null :: st) σ
  | .iinc k c => match ls[k]? with
    | some (.int x) => if k < (mxI m).2.1 then nx d m (pc + 3) (mxS1 ls k (.int (x + Int32.ofInt c))) st σ else none
    | _ => none
  | .iadd => mxBin d m pc ls st σ (fun x y => x + y)
  | .isub => mxBin d m pc ls st σ (fun x y => x - y)
  | .imul => mxBin d m pc ls st σ (fun x y => x * y)
  | .iand => mxBin d m pc ls st σ (fun x y => x &&& y)
  | .ior => mxBin d m pc ls st σ (fun x y => x ||| y)
  | .ixor => mxBin d m pc ls st σ (fun x y => x ^^^ y)
  | .ishl => mxBin d m pc ls st σ (fun x y => x <<< (y &&& 31))
  | .ishr => mxBin d m pc ls st σ (fun x y => x >>> (y &&& 31))
  | .iushr => mxBin d m pc ls st σ (fun x y => (x.toUInt32 >>> (y.toUInt32 &&& Int32.toUInt32 31)).toInt32)
  | .idiv => match st with
    | .int y :: .int x :: r => if y = 0 then none else nx d m (pc + 1) ls (.int (x / y) :: r) σ
    | _ => none
  | .irem => match st with
    | .int y :: .int x :: r => if y = 0 then none else nx d m (pc + 1) ls (.int (x - x / y * y) :: r) σ
    | _ => none
  | .ineg => match st with
    | .int x :: r => nx d m (pc + 1) ls (.int (-x) :: r) σ
    | _ => none
  | .ladd => mxBinL d m pc ls st σ (fun x y => x + y)
  | .lsub => mxBinL d m pc ls st σ (fun x y => x - y)
  | .lmul => mxBinL d m pc ls st σ (fun x y => x * y)
  | .ldiv => match st with
    | .long y :: .long x :: r => if y = 0 then none else nx d m (pc + 1) ls (.long (x / y) :: r) σ
    | _ => none
  | .lrem => match st with
    | .long y :: .long x :: r => if y = 0 then none else nx d m (pc + 1) ls (.long (x - x / y * y) :: r) σ
    | _ => none
  | .i2l => match st with
    | .int x :: r => nx d m (pc + 1) ls (.long x.toInt64 :: r) σ
    | _ => none
  | .l2i => match st with
    | .long x :: r => nx d m (pc + 1) ls (.int x.toInt32 :: r) σ
    | _ => none
  | .lcmp => match st with
    | .long y :: .long x :: r => nx d m (pc + 1) ls (.int (lg_cmp x y) :: r) σ
    | _ => none
  | .dup => match st with
    | .int x :: r => nx d m (pc + 1) ls (.int x :: .int x :: r) σ
    | .ref x :: r => nx d m (pc + 1) ls (.ref x :: .ref x :: r) σ
    | _ => none
  | .dup2 => match st with
    | .int y :: .ref x :: r => nx d m (pc + 1) ls (.int y :: .ref x :: .int y :: .ref x :: r) σ
    | _ => none
  | .pop => match st with
    | .int _ :: r => nx d m (pc + 1) ls r σ
    | _ => none
  | .goto off => mxJ d m pc ls st σ off
  | .if_icmp c off => if (pc : Int) + off < 0 then none else match st with
    | .int y :: .int x :: r => match c with
      | .eq => if x = y then mxJ d m pc ls r σ off else nx d m (pc + 3) ls r σ
      | .ne => if x = y then nx d m (pc + 3) ls r σ else mxJ d m pc ls r σ off
      | .lt => if x < y then mxJ d m pc ls r σ off else nx d m (pc + 3) ls r σ
      | .ge => if y ≤ x then mxJ d m pc ls r σ off else nx d m (pc + 3) ls r σ
      | .gt => if y < x then mxJ d m pc ls r σ off else nx d m (pc + 3) ls r σ
      | .le => if x ≤ y then mxJ d m pc ls r σ off else nx d m (pc + 3) ls r σ
    | _ => none
  | .ifCond c off => if (pc : Int) + off < 0 then none else match st with
    | .int x :: r => match c with
      | .eq => if x = 0 then mxJ d m pc ls r σ off else nx d m (pc + 3) ls r σ
      | .ne => if x = 0 then nx d m (pc + 3) ls r σ else mxJ d m pc ls r σ off
      | .lt => if x < 0 then mxJ d m pc ls r σ off else nx d m (pc + 3) ls r σ
      | .ge => if 0 ≤ x then mxJ d m pc ls r σ off else nx d m (pc + 3) ls r σ
      | .gt => if 0 < x then mxJ d m pc ls r σ off else nx d m (pc + 3) ls r σ
      | .le => if x ≤ 0 then mxJ d m pc ls r σ off else nx d m (pc + 3) ls r σ
    | _ => none
  | .ifnonnull off => match st with
    | .ref _ :: r => mxJ d m pc ls r σ off
    | .null :: r => nx d m (pc + 3) ls r σ
    | _ => none
  | .tableswitch df lo hi offs => match st with
    | .int x :: r => if x.toInt < lo ∨ hi < x.toInt then mxJ d m pc ls r σ df else match offs[(x.toInt - lo).toNat]? with
      | some off => mxJ d m pc ls r σ off
      | none => none
    | _ => none
  | .ldc k => match mxK m k with
    | some (.int x) => nx d m (pc + 2) ls (.int x :: st) σ
    | some (.retAddr (j + 1)) => nx d m (pc + 2) ls (.retAddr (j + 1) :: st) σ
    | _ => none
  | .ldc_w k => match mxK m k with
    | some (.int x) => nx d m (pc + 3) ls (.int x :: st) σ
    | _ => none
  | .ldc2_w k => match mxK m k with
    | some (.long x) => nx d m (pc + 3) ls (.long x :: st) σ
    | _ => none
  | .getfield k => match mxF m k with
    | some (c, j, _, _) => match st with
      | .ref q :: r => if kd σ q = c then nx d m (pc + 3) ls (hF σ q j :: r) σ else none
      | _ => none
    | none => none
  | .putfield k => match mxF m k with
    | some (c, j, fin, ty) => match st with
      | v :: .ref q :: r => if kd σ q = c ∧ mxT ty v = true ∧ (fin = false ∨ (c = (mxI m).1 ∧ (mnAll.getD m objectInit).name = "<init>")) then nx d m (pc + 3) ls r (sF σ q j v) else none
      | _ => none
    | none => none
  | .arraylength => match st with
    | .ref q :: r => if 100 ≤ kd σ q ∧ kd σ q < 105 then nx d m (pc + 1) ls (.int (Int32.ofNat (hL σ q)) :: r) σ else none
    | .retAddr 0 :: r => nx d m (pc + 1) ls (.int (Int32.ofNat (hX σ).1) :: r) σ
    | _ => none
  | .iaload => match st with
    | .int i :: .ref q :: r => if kd σ q = 100 ∧ mxP i (hL σ q) then nx d m (pc + 1) ls (.int (hI σ q i.toNatClampNeg) :: r) σ else none
    | .int i :: .retAddr 0 :: r => if mxP i (hX σ).1 then nx d m (pc + 1) ls (.int ((hX σ).2 i.toNatClampNeg) :: r) σ else none
    | _ => none
  | .baload => match st with
    | .int i :: .ref q :: r => if kd σ q = 102 ∧ mxP i (hL σ q) then nx d m (pc + 1) ls (.int (hI σ q i.toNatClampNeg) :: r) σ else none
    | _ => none
  | .laload => match st with
    | .int i :: .ref q :: r => if kd σ q = 101 ∧ mxP i (hL σ q) then nx d m (pc + 1) ls (.long (hJ σ q i.toNatClampNeg) :: r) σ else none
    | _ => none
  | .aaload => match st with
    | .int i :: .ref q :: r => if (kd σ q = 103 ∨ kd σ q = 104) ∧ mxP i (hL σ q) then nx d m (pc + 1) ls (mxQ (hR σ q i.toNatClampNeg) :: r) σ else none
    | _ => none
  | .iastore => match st with
    | .int x :: .int i :: .ref q :: r => if kd σ q = 100 ∧ mxP i (hL σ q) then nx d m (pc + 1) ls r (sI σ q (upd (hI σ q) i.toNatClampNeg x)) else none
    | _ => none
  | .bastore => match st with
    | .int x :: .int i :: .ref q :: r => if kd σ q = 102 ∧ mxP i (hL σ q) then nx d m (pc + 1) ls r (sI σ q (upd (hI σ q) i.toNatClampNeg (vp_nar .boolean x))) else none
    | _ => none
  | .lastore => match st with
    | .long x :: .int i :: .ref q :: r => if kd σ q = 101 ∧ mxP i (hL σ q) then nx d m (pc + 1) ls r (sJ σ q (vp_updL (hJ σ q) i.toNatClampNeg x)) else none
    | _ => none
  | .aastore => match st with
    | .ref x :: .int i :: .ref q :: r => if ((kd σ q = 103 ∧ kd σ x = 5) ∨ (kd σ q = 104 ∧ kd σ x = 9)) ∧ mxP i (hL σ q) then nx d m (pc + 1) ls r (sR σ q (va_up (hR σ q) i.toNatClampNeg (some x))) else none
    | .null :: .int i :: .ref q :: r => if (kd σ q = 103 ∨ kd σ q = 104) ∧ mxP i (hL σ q) then nx d m (pc + 1) ls r (sR σ q (va_up (hR σ q) i.toNatClampNeg none)) else none
    | _ => none
  | .newarray t => match st with
    | .int x :: r => if x < 0 ∨ 65536 < x.toNatClampNeg then none else match t with
      | .int => nx d m (pc + 2) ls (.ref (hN σ) :: r) (nA σ 100 x.toNatClampNeg)
      | .long => nx d m (pc + 2) ls (.ref (hN σ) :: r) (nA σ 101 x.toNatClampNeg)
      | .boolean => nx d m (pc + 2) ls (.ref (hN σ) :: r) (nA σ 102 x.toNatClampNeg)
      | _ => none
    | _ => none
  | .anewarray k => match mxN m k with
    | some (c, _) => match st with
      | .int x :: r => if x < 0 ∨ 65536 < x.toNatClampNeg then none else if c = 5 then nx d m (pc + 3) ls (.ref (hN σ) :: r) (nA σ 103 x.toNatClampNeg) else if c = 9 then nx d m (pc + 3) ls (.ref (hN σ) :: r) (nA σ 104 x.toNatClampNeg) else none
      | _ => none
    | none => none
  | .new k => match mxN m k with
    | some (c, n) => nx d m (pc + 3) ls (.ref (hN σ) :: st) (nO σ c n (mxB c))
    | none => none
  | .invokestatic k => mxInv d m pc ls st σ (fun q => q == 0 || q == 4 || q == 7 || q == 8) k
  | .invokevirtual k => mxInv d m pc ls st σ (fun q => q == 1 || q == 5 || q == 6) k
  | .invokespecial k => mxInv d m pc ls st σ (fun q => q == 2 || q == 3 || q == 12) k
  | .ireturn => match st with
    | [.int x] => match (mxI m).2.2 with
      | some t => if mxT t (.int x) = true then some (.inl (some (.int x), σ)) else none
      | none => none
    | _ => none
  | .lreturn => match st with
    | [.long x] => match (mxI m).2.2 with
      | some .long => some (.inl (some (.long x), σ))
      | _ => none
    | _ => none
  | .areturn => match st with
    | [.ref x] => match (mxI m).2.2 with
      | some t => if mxT t (.ref x) = true then some (.inl (some (.ref x), σ)) else none
      | none => none
    | [.null] => match (mxI m).2.2 with
      | some t => if mxT t .null = true then some (.inl (some .null, σ)) else none
      | none => none
    | _ => none
  | .return_ => match st with
    | [] => match (mxI m).2.2 with
      | none => some (.inl (none, σ))
      | some _ => none
    | _ => none
  | _ => none
theorem kd_s {σ : Hp} {q c : Nat} (h : kd σ q = c) (hc : c < 999) : q < hN σ ∧ hK σ q = c := by
  unfold kd at h
  split at h
  · next e => exact ⟨e, h⟩
  · omega
def stp (x : Fr) : Option Sx := match mxC x.2.1 x.2.2.1 with
  | some q => stI q.1 q.2 x.1 x.2.1 x.2.2.1 x.2.2.2.1 x.2.2.2.2.1 x.2.2.2.2.2
  | none => none
def run : Nat → Fr → Option Rs
  | 0, _ => none
  | n + 1, x => match stp x with
    | some (.inl r) => some r
    | some (.inr (.inl y)) => run n y
    | some (.inr (.inr (y, k))) => (run n y).bind fun r => run n (k r.1 r.2)
    | none => none
theorem run_ret {n : Nat} {x : Fr} {r : Rs} (h : stp x = some (.inl r)) : run (n + 1) x = some r := by simp only [run, h]
theorem run_next {n : Nat} {x y : Fr} (h : stp x = some (.inr (.inl y))) : run (n + 1) x = run n y := by simp only [run, h]
theorem run_call {n : Nat} {x y : Fr} {k : Option Value → Hp → Fr} (h : stp x = some (.inr (.inr (y, k)))) : run (n + 1) x = (run n y).bind fun r => run n (k r.1 r.2) := by simp only [run, h]
theorem run_none {n : Nat} {x : Fr} (h : stp x = none) : run (n + 1) x = none := by simp only [run, h]
theorem run_up : ∀ (n : Nat) (x : Fr) (r : Rs), run n x = some r → run (n + 1) x = some r := by
  intro n
  induction n with
  | zero => intro x r h; cases h
  | succ n ih =>
    intro x r h
    rcases e : stp x with _ | (q | y | ⟨y, k⟩)
    · rw [run_none e] at h; cases h
    · rw [run_ret e] at h ⊢; exact h
    · rw [run_next e] at h ⊢; exact ih y r h
    · rw [run_call e] at h ⊢
      rw [Option.bind_eq_some_iff] at h ⊢
      obtain ⟨q, h1, h2⟩ := h
      exact ⟨q, ih y q h1, ih _ r h2⟩
theorem run_le {n n' : Nat} (h : n ≤ n') {x : Fr} {r : Rs} (hr : run n x = some r) : run n' x = some r := by
  induction h with
  | refl => exact hr
  | step _ ih => exact run_up _ _ _ ih
/-- what a frame comes to, without a count of steps -/
noncomputable def den (x : Fr) : Option Rs := @dite _ (∃ r : Rs, ∃ n, run n x = some r) (Classical.propDecidable _) (fun h => some (Classical.choose h)) (fun _ => none)
theorem den_iff {x : Fr} {r : Rs} : den x = some r ↔ ∃ n, run n x = some r := by
  unfold den
  split
  · next h =>
    have h1 := Classical.choose_spec h
    constructor
    · intro e; cases e; exact h1
    · intro ⟨n, hn⟩
      obtain ⟨n', hn'⟩ := h1
      have a := run_le (Nat.le_max_left n n') hn
      have b := run_le (Nat.le_max_right n n') hn'
      rw [a] at b
      rw [← b]
  · next h =>
    constructor
    · intro e; cases e
    · intro ⟨n, hn⟩; exact absurd ⟨r, n, hn⟩ h
theorem opt_ext {α : Type} {a b : Option α} (h : ∀ r, a = some r ↔ b = some r) : a = b := by
  cases a with
  | none => cases b with
    | none => rfl
    | some y => exact absurd ((h y).mpr rfl) (by simp)
  | some x => exact ((h x).mp rfl).symm
theorem den_ret {x : Fr} {r : Rs} (h : stp x = some (.inl r)) : den x = some r := den_iff.mpr ⟨1, run_ret h⟩
theorem den_next {x y : Fr} (h : stp x = some (.inr (.inl y))) : den x = den y := by
  refine opt_ext fun r => ?_
  rw [den_iff, den_iff]
  constructor
  · intro ⟨n, hn⟩
    cases n with
    | zero => cases hn
    | succ n => rw [run_next h] at hn; exact ⟨n, hn⟩
  · intro ⟨n, hn⟩
    exact ⟨n + 1, by rw [run_next h]; exact hn⟩
theorem den_call {x y : Fr} {k : Option Value → Hp → Fr} (h : stp x = some (.inr (.inr (y, k)))) : den x = (den y).bind fun r => den (k r.1 r.2) := by
  refine opt_ext fun r => ?_
  rw [den_iff, Option.bind_eq_some_iff]
  constructor
  · intro ⟨n, hn⟩
    cases n with
    | zero => cases hn
    | succ n =>
      rw [run_call h] at hn
      rw [Option.bind_eq_some_iff] at hn
      obtain ⟨q, h1, h2⟩ := hn
      exact ⟨q, den_iff.mpr ⟨n, h1⟩, den_iff.mpr ⟨n, h2⟩⟩
  · intro ⟨q, h1, h2⟩
    obtain ⟨n1, h1⟩ := den_iff.mp h1
    obtain ⟨n2, h2⟩ := den_iff.mp h2
    refine ⟨max n1 n2 + 1, ?_⟩
    rw [run_call h]
    rw [Option.bind_eq_some_iff]
    exact ⟨q, run_le (Nat.le_max_left _ _) h1, run_le (Nat.le_max_right _ _) h2⟩
