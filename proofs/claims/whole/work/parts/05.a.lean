/-! what a program decides of the tables: code, links, constants -/
def ilen : Instr → Nat
  | .bipush _ => 2 | .ldc _ => 2 | .iload _ => 2 | .lload _ => 2 | .aload _ => 2 | .istore _ => 2 | .lstore _ => 2 | .astore _ => 2 | .newarray _ => 2
  | .sipush _ => 3 | .getfield _ => 3 | .putfield _ => 3 | .invokestatic _ => 3 | .invokevirtual _ => 3 | .invokespecial _ => 3 | .goto _ => 3 | .if_icmp _ _ => 3 | .ifCond _ _ => 3 | .ifnonnull _ => 3 | .new _ => 3 | .anewarray _ => 3 | .ldc_w _ => 3 | .ldc2_w _ => 3 | .iinc _ _ => 3 | .checkcast _ => 3
  | .tableswitch _ _ _ _ => 0
  | _ => 1
def ctOK (b : ByteArray) (t : List (Nat × Instr × Nat)) : Bool := t.all fun q => decide (decode b q.1 = .ok (q.2.1, q.2.2)) && (ilen q.2.1 == 0 || ilen q.2.1 == q.2.2)
def mbG (m : Nat) : ByteArray := mbAll.getD m ⟨#[]⟩
def mnG (m : Nat) : MethodName := mnAll.getD m objectInit
def owG (m : Nat) : String := owAll.getD (mxI m).1 ""
def TG : List Cond := lw_tbl.filter goodWord
