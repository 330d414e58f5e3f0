-- constants
def ksOK (o : Nat) (q : Nat × Value) : Bool := match q.2 with
  | .int x => decide (Cond.constant (owAll.getD o "") q.1 x ∈ lw_tbl)
  | .long x => decide (Cond.constantLong (owAll.getD o "") q.1 x ∈ lw_tbl)
  | .retAddr (j + 1) => (o == 8) && decide ((stAll.getD j (0, [])).1 = q.1) && decide (j < 17)
  | _ => false
set_option maxRecDepth 100000 in
theorem ks_0 : (ksAll.getD 0 []).all (ksOK 0) = true := by decide +kernel
set_option maxRecDepth 100000 in
theorem ks_1 : (ksAll.getD 1 []).all (ksOK 1) = true := by decide +kernel
set_option maxRecDepth 100000 in
theorem ks_2 : (ksAll.getD 2 []).all (ksOK 2) = true := by decide +kernel
set_option maxRecDepth 100000 in
theorem ks_3 : (ksAll.getD 3 []).all (ksOK 3) = true := by decide +kernel
set_option maxRecDepth 100000 in
theorem ks_4 : (ksAll.getD 4 []).all (ksOK 4) = true := by decide +kernel
set_option maxRecDepth 100000 in
theorem ks_5 : (ksAll.getD 5 []).all (ksOK 5) = true := by decide +kernel
set_option maxRecDepth 100000 in
theorem ks_6 : (ksAll.getD 6 []).all (ksOK 6) = true := by decide +kernel
set_option maxRecDepth 100000 in
theorem ks_7 : (ksAll.getD 7 []).all (ksOK 7) = true := by decide +kernel
set_option maxRecDepth 100000 in
theorem ks_8 : (ksAll.getD 8 []).all (ksOK 8) = true := by decide +kernel
set_option maxRecDepth 100000 in
theorem ks_9 : (ksAll.getD 9 []).all (ksOK 9) = true := by decide +kernel
set_option maxRecDepth 100000 in
theorem ks_10 : (ksAll.getD 10 []).all (ksOK 10) = true := by decide +kernel
set_option maxRecDepth 100000 in
theorem ks_11 : (ksAll.getD 11 []).all (ksOK 11) = true := by decide +kernel
set_option maxRecDepth 100000 in
theorem ks_12 : (ksAll.getD 12 []).all (ksOK 12) = true := by decide +kernel
set_option maxRecDepth 100000 in
theorem ks_13 : (ksAll.getD 13 []).all (ksOK 13) = true := by decide +kernel
set_option maxRecDepth 100000 in
theorem ks_14 : (ksAll.getD 14 []).all (ksOK 14) = true := by decide +kernel
set_option maxRecDepth 100000 in
theorem ks_15 : (ksAll.getD 15 []).all (ksOK 15) = true := by decide +kernel
theorem ks_all (o : Nat) : (ksAll.getD o []).all (ksOK o) = true := by
  match o with
  | 0 => exact ks_0
  | 1 => exact ks_1
  | 2 => exact ks_2
  | 3 => exact ks_3
  | 4 => exact ks_4
  | 5 => exact ks_5
  | 6 => exact ks_6
  | 7 => exact ks_7
  | 8 => exact ks_8
  | 9 => exact ks_9
  | 10 => exact ks_10
  | 11 => exact ks_11
  | 12 => exact ks_12
  | 13 => exact ks_13
  | 14 => exact ks_14
  | 15 => exact ks_15
  | o + 16 => rfl
