def mxC (m pc : Nat) : Option (Instr × Nat) := (ctAll.getD m []).lookup pc
def mxI (m : Nat) : Nat × Nat × Option FieldType := miAll.getD m (0, 0, none)
def mxF (m i : Nat) : Option (Nat × Nat × Bool × FieldType) := (flAll.getD (mxI m).1 []).lookup i
def mxM (m i : Nat) : Option (Nat × Nat × Nat) := (mlAll.getD (mxI m).1 []).lookup i
def mxN (m i : Nat) : Option (Nat × Nat) := (clAll.getD (mxI m).1 []).lookup i
def mxK (m i : Nat) : Option Value := (ksAll.getD (mxI m).1 []).lookup i
