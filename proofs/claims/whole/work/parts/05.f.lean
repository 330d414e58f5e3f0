-- fields
def flOK (o : Nat) (q : Nat × Nat × Nat × Bool × FieldType) : Bool := match vwCl[q.2.1]? with
  | some r => decide (q.2.2.1 < r.2.2) && decide (Cond.fieldLink (owAll.getD o "") q.1 (r.2.1 q.2.2.1).1 (r.2.1 q.2.2.1).2.1 (r.2.1 q.2.2.1).2.2.1 ∈ lw_tbl) && decide ((r.2.1 q.2.2.1).2.2.2 = q.2.2.2.1) && decide (parseFieldDescriptor (r.2.1 q.2.2.1).2.2.1 = some q.2.2.2.2) && decide ((r.2.1 q.2.2.1).1 = r.1) && decide (owAll.getD q.2.1 "" = r.1)
  | none => false
set_option maxRecDepth 100000 in
theorem fl_0 : (flAll.getD 0 []).all (flOK 0) = true := by decide +kernel
set_option maxRecDepth 100000 in
theorem fl_1 : (flAll.getD 1 []).all (flOK 1) = true := by decide +kernel
set_option maxRecDepth 100000 in
theorem fl_2 : (flAll.getD 2 []).all (flOK 2) = true := by decide +kernel
set_option maxRecDepth 100000 in
theorem fl_3 : (flAll.getD 3 []).all (flOK 3) = true := by decide +kernel
set_option maxRecDepth 100000 in
theorem fl_4 : (flAll.getD 4 []).all (flOK 4) = true := by decide +kernel
set_option maxRecDepth 100000 in
theorem fl_5 : (flAll.getD 5 []).all (flOK 5) = true := by decide +kernel
set_option maxRecDepth 100000 in
theorem fl_6 : (flAll.getD 6 []).all (flOK 6) = true := by decide +kernel
set_option maxRecDepth 100000 in
theorem fl_7 : (flAll.getD 7 []).all (flOK 7) = true := by decide +kernel
set_option maxRecDepth 100000 in
theorem fl_8 : (flAll.getD 8 []).all (flOK 8) = true := by decide +kernel
set_option maxRecDepth 100000 in
theorem fl_9 : (flAll.getD 9 []).all (flOK 9) = true := by decide +kernel
set_option maxRecDepth 100000 in
theorem fl_10 : (flAll.getD 10 []).all (flOK 10) = true := by decide +kernel
set_option maxRecDepth 100000 in
theorem fl_11 : (flAll.getD 11 []).all (flOK 11) = true := by decide +kernel
set_option maxRecDepth 100000 in
theorem fl_12 : (flAll.getD 12 []).all (flOK 12) = true := by decide +kernel
set_option maxRecDepth 100000 in
theorem fl_13 : (flAll.getD 13 []).all (flOK 13) = true := by decide +kernel
set_option maxRecDepth 100000 in
theorem fl_14 : (flAll.getD 14 []).all (flOK 14) = true := by decide +kernel
set_option maxRecDepth 100000 in
theorem fl_15 : (flAll.getD 15 []).all (flOK 15) = true := by decide +kernel
theorem fl_all (o : Nat) : (flAll.getD o []).all (flOK o) = true := by
  match o with
  | 0 => exact fl_0
  | 1 => exact fl_1
  | 2 => exact fl_2
  | 3 => exact fl_3
  | 4 => exact fl_4
  | 5 => exact fl_5
  | 6 => exact fl_6
  | 7 => exact fl_7
  | 8 => exact fl_8
  | 9 => exact fl_9
  | 10 => exact fl_10
  | 11 => exact fl_11
  | 12 => exact fl_12
  | 13 => exact fl_13
  | 14 => exact fl_14
  | 15 => exact fl_15
  | o + 16 => rfl
