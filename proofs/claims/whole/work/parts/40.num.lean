/-! whole numbers as ints and longs -/
def zI (z : Int) : Int32 := Int32.ofInt z
def zL (z : Int) : Int64 := Int64.ofInt z
abbrev Bz (z : Int) : Prop := -1000000000 ≤ z ∧ z ≤ 1000000000
theorem zI_t {z : Int} (h1 : -2147483648 ≤ z) (h2 : z < 2147483648) : (zI z).toInt = z := Int32.toInt_ofInt_of_le (by omega) (by omega)
theorem zL_t {z : Int} (h1 : -9223372036854775808 ≤ z) (h2 : z < 9223372036854775808) : (zL z).toInt = z := Int64.toInt_ofInt_of_le (by omega) (by omega)
theorem zI_n (n : Nat) : zI (n : Int) = nI n := Int32.ofInt_eq_ofNat
theorem zL_n (n : Nat) : zL (n : Int) = lN n := Int64.ofInt_eq_ofNat
theorem zI_L {z : Int} (h1 : -2147483648 ≤ z) (h2 : z < 2147483648) : (zI z).toInt64 = zL z := by
  apply Int64.toInt_inj.mp
  rw [Int32.toInt_toInt64, zI_t h1 h2, zL_t (by omega) (by omega)]
theorem zL_I (z : Int) : (zL z).toInt32 = zI z := Int64.toInt32_ofInt
theorem zL_add (a b : Int) : zL a + zL b = zL (a + b) := (Int64.ofInt_add a b).symm
theorem zL_sub (a b : Int) : zL a - zL b = zL (a - b) := (Int64.ofInt_sub a b).symm
theorem zL_mul (a b : Int) : zL a * zL b = zL (a * b) := (Int64.ofInt_mul a b).symm
theorem zI_add (a b : Int) : zI a + zI b = zI (a + b) := (Int32.ofInt_add a b).symm
theorem zI_sub (a b : Int) : zI a - zI b = zI (a - b) := (Int32.ofInt_sub a b).symm
theorem zL_lt {a b : Int} (ha : -9223372036854775808 ≤ a ∧ a < 9223372036854775808) (hb : -9223372036854775808 ≤ b ∧ b < 9223372036854775808) : (zL a < zL b) = (a < b) := by
  rw [eq_iff_iff, Int64.lt_iff_toInt_lt, zL_t ha.1 ha.2, zL_t hb.1 hb.2]
theorem zL_le {a b : Int} (ha : -9223372036854775808 ≤ a ∧ a < 9223372036854775808) (hb : -9223372036854775808 ≤ b ∧ b < 9223372036854775808) : (zL a ≤ zL b) = (a ≤ b) := by
  rw [eq_iff_iff, Int64.le_iff_toInt_le, zL_t ha.1 ha.2, zL_t hb.1 hb.2]
theorem zL_eq {a b : Int} (ha : -9223372036854775808 ≤ a ∧ a < 9223372036854775808) (hb : -9223372036854775808 ≤ b ∧ b < 9223372036854775808) : (zL a = zL b) = (a = b) := by
  rw [eq_iff_iff]
  constructor
  · intro h; have := congrArg Int64.toInt h; rwa [zL_t ha.1 ha.2, zL_t hb.1 hb.2] at this
  · intro h; rw [h]
theorem zI_lt {a b : Int} (ha : -2147483648 ≤ a ∧ a < 2147483648) (hb : -2147483648 ≤ b ∧ b < 2147483648) : (zI a < zI b) = (a < b) := by
  rw [eq_iff_iff, Int32.lt_iff_toInt_lt, zI_t ha.1 ha.2, zI_t hb.1 hb.2]
theorem zI_le {a b : Int} (ha : -2147483648 ≤ a ∧ a < 2147483648) (hb : -2147483648 ≤ b ∧ b < 2147483648) : (zI a ≤ zI b) = (a ≤ b) := by
  rw [eq_iff_iff, Int32.le_iff_toInt_le, zI_t ha.1 ha.2, zI_t hb.1 hb.2]
theorem zI_eq {a b : Int} (ha : -2147483648 ≤ a ∧ a < 2147483648) (hb : -2147483648 ≤ b ∧ b < 2147483648) : (zI a = zI b) = (a = b) := by
  rw [eq_iff_iff]
  constructor
  · intro h; have := congrArg Int32.toInt h; rwa [zI_t ha.1 ha.2, zI_t hb.1 hb.2] at this
  · intro h; rw [h]
theorem zL_div {a b : Int} (ha : Bz a) (hb : Bz b) : zL a / zL b = zL (a.tdiv b) := by
  refine (Int64.ofInt_tdiv ?_ ?_ ?_ ?_).symm
  · show (-9223372036854775808 : Int) ≤ a; omega
  · show a ≤ (9223372036854775807 : Int); omega
  · show (-9223372036854775808 : Int) ≤ b; omega
  · show b ≤ (9223372036854775807 : Int); omega
theorem tdiv_B {a b : Int} (ha : Bz a) (hb : b ≠ 0) : Bz (a.tdiv b) := by
  have h1 := Int.natAbs_tdiv_le_natAbs a b
  unfold Bz at *
  omega
theorem mul_B {a b : Int} (ha : Bz a) (hb : Bz b) : -1000000000000000000 ≤ a * b ∧ a * b ≤ 1000000000000000000 := by
  have h1 : (a * b).natAbs = a.natAbs * b.natAbs := Int.natAbs_mul a b
  have h2 : a.natAbs * b.natAbs ≤ 1000000000 * 1000000000 := Nat.mul_le_mul (by unfold Bz at ha; omega) (by unfold Bz at hb; omega)
  omega
/-- what an operation comes to: + - * / < > = -/
def bop (o : Nat) (x y : Int) : Option Int :=
  if o = 0 then (if Bz (x + y) then some (x + y) else none)
  else if o = 1 then (if Bz (x - y) then some (x - y) else none)
  else if o = 2 then (if Bz (x * y) then some (x * y) else none)
  else if o = 3 then (if y = 0 then none else some (x.tdiv y))
  else if o = 4 then some (if x < y then 1 else 0)
  else if o = 5 then some (if y < x then 1 else 0)
  else some (if x = y then 1 else 0)
abbrev Wd : Type := Nat → Int
abbrev Ph : Type := Wd → Option Int
def ud (s : Nat → Int) (n : Nat) (v : Int) : Nat → Int := fun i => if i = n then v else s i
def phO (o : Nat) (φ ψ : Ph) : Ph := fun w => (φ w).bind fun x => (ψ w).bind fun y => bop o x y
def phN (φ : Ph) : Ph := fun w => (φ w).map fun x => 1 - x
/-- and (g 0), or (g 1): what stands behind is asked only if it can still matter -/
def phS (g : Int) (φ ψ : Ph) : Ph := fun w => (φ w).bind fun x => if x = g then some g else ψ w
