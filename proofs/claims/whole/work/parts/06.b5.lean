theorem ct_app (b : ByteArray) (l : List (Nat × Instr × Nat)) (k n : Nat) (h1 : ctOK b ((l.drop k).take n) = true) (h2 : ctOK b (l.drop (k + n)) = true) : ctOK b (l.drop k) = true := by
  have e : (l.drop k).take n ++ l.drop (k + n) = l.drop k := by rw [← List.drop_drop, List.take_append_drop]
  unfold ctOK at *
  rw [← e, List.all_append, h1, h2]
  rfl
set_option maxRecDepth 100000 in
theorem ck_L_law : ctOK cL_law ct_L_law = true := (ct_app _ _ 0 60 ckL_0 (ct_app _ _ 60 60 ckL_1 (ct_app _ _ 120 60 ckL_2 (ct_app _ _ 180 60 ckL_3 (ct_app _ _ 240 60 ckL_4 (ct_app _ _ 300 60 ckL_5 (ct_app _ _ 360 60 ckL_6 (ct_app _ _ 420 60 ckL_7 (ct_app _ _ 480 60 ckL_8 (ct_app _ _ 540 60 ckL_9 (ct_app _ _ 600 60 ckL_10 (ct_app _ _ 660 60 ckL_11 (ct_app _ _ 720 60 ckL_12 (ct_app _ _ 780 60 ckL_13 (ct_app _ _ 840 60 ckL_14 rfl)))))))))))))))
