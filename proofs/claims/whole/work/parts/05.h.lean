-- classes
def clOK (o : Nat) (q : Nat × Nat × Nat) : Bool := match vwCl[q.2.1]? with
  | some r => decide (r.2.2 = q.2.2) && decide (Cond.classLink (owAll.getD o "") q.1 r.1 ∈ lw_tbl) && decide (Cond.instantiable r.1 q.2.2 ∈ lw_tbl) && decide (Cond.initialized r.1 ∈ lw_tbl)
  | none => false
set_option maxRecDepth 100000 in
theorem cl_0 : (clAll.getD 0 []).all (clOK 0) = true := by decide +kernel
set_option maxRecDepth 100000 in
theorem cl_1 : (clAll.getD 1 []).all (clOK 1) = true := by decide +kernel
set_option maxRecDepth 100000 in
theorem cl_2 : (clAll.getD 2 []).all (clOK 2) = true := by decide +kernel
set_option maxRecDepth 100000 in
theorem cl_3 : (clAll.getD 3 []).all (clOK 3) = true := by decide +kernel
set_option maxRecDepth 100000 in
theorem cl_4 : (clAll.getD 4 []).all (clOK 4) = true := by decide +kernel
set_option maxRecDepth 100000 in
theorem cl_5 : (clAll.getD 5 []).all (clOK 5) = true := by decide +kernel
set_option maxRecDepth 100000 in
theorem cl_6 : (clAll.getD 6 []).all (clOK 6) = true := by decide +kernel
set_option maxRecDepth 100000 in
theorem cl_7 : (clAll.getD 7 []).all (clOK 7) = true := by decide +kernel
set_option maxRecDepth 100000 in
theorem cl_8 : (clAll.getD 8 []).all (clOK 8) = true := by decide +kernel
set_option maxRecDepth 100000 in
theorem cl_9 : (clAll.getD 9 []).all (clOK 9) = true := by decide +kernel
set_option maxRecDepth 100000 in
theorem cl_10 : (clAll.getD 10 []).all (clOK 10) = true := by decide +kernel
set_option maxRecDepth 100000 in
theorem cl_11 : (clAll.getD 11 []).all (clOK 11) = true := by decide +kernel
set_option maxRecDepth 100000 in
theorem cl_12 : (clAll.getD 12 []).all (clOK 12) = true := by decide +kernel
set_option maxRecDepth 100000 in
theorem cl_13 : (clAll.getD 13 []).all (clOK 13) = true := by decide +kernel
set_option maxRecDepth 100000 in
theorem cl_14 : (clAll.getD 14 []).all (clOK 14) = true := by decide +kernel
set_option maxRecDepth 100000 in
theorem cl_15 : (clAll.getD 15 []).all (clOK 15) = true := by decide +kernel
theorem cl_all (o : Nat) : (clAll.getD o []).all (clOK o) = true := by
  match o with
  | 0 => exact cl_0
  | 1 => exact cl_1
  | 2 => exact cl_2
  | 3 => exact cl_3
  | 4 => exact cl_4
  | 5 => exact cl_5
  | 6 => exact cl_6
  | 7 => exact cl_7
  | 8 => exact cl_8
  | 9 => exact cl_9
  | 10 => exact cl_10
  | 11 => exact cl_11
  | 12 => exact cl_12
  | 13 => exact cl_13
  | 14 => exact cl_14
  | 15 => exact cl_15
  | o + 16 => rfl
