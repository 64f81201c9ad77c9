/-! ===== every row is what the bytes say, and its numbers are what the words say ===== -/
def am_rkc (m : Nat) : Nat := match (am_rt m) with
  | none => 0
  | some .long => 2
  | _ => 1
def am_okI (m pc : Nat) (ins : Instr) (len i1 i2 i3 i4 : Nat) : Bool := match ins with
  | .iconst _ | .lconst _ | .iload_n _ | .lload_n _ | .aload_n _ | .iadd | .isub | .imul | .iand | .ior | .ixor | .ishl | .ishr | .iushr | .idiv | .irem | .ladd | .lsub | .lmul | .land | .ldiv | .lneg | .lcmp | .i2l | .l2i | .i2b | .i2c | .pop | .dup | .dup2 | .iaload | .baload | .laload | .iastore | .bastore | .lastore | .arraylength => Nat.beq len 1
  | .bipush n => Nat.beq len 2 && decide ((Int8.ofInt n).toInt32 = Int32.ofInt n)
  | .sipush n => Nat.beq len 3 && decide ((Int16.ofInt n).toInt32 = Int32.ofInt n)
  | .ldc k => Nat.beq len 2 && (match i2 with
    | 0 => am_h3 am_KC (am_ow m) k i1
    | _ => am_h3 am_KS (am_ow m) k i1)
  | .ldc_w k => Nat.beq len 3 && am_h3 am_KC (am_ow m) k i1
  | .ldc2_w k => Nat.beq len 3 && am_h3 am_KL (am_ow m) k i1
  | .iload _ | .lload _ | .aload _ => Nat.beq len 2
  | .istore_n k | .astore_n k => Nat.beq len 1 && Nat.blt k (am_tb m).2
  | .istore k | .astore k => Nat.beq len 2 && Nat.blt k (am_tb m).2
  | .lstore_n k => Nat.beq len 1 && Nat.blt (k + 1) (am_tb m).2
  | .lstore k => Nat.beq len 2 && Nat.blt (k + 1) (am_tb m).2
  | .iinc k _ => Nat.beq len 3 && Nat.blt k (am_tb m).2
  | .goto o => Nat.beq len 3 && decide ((pc : Int) + o = (i1 : Int))
  | .ifCond _ o => Nat.beq len 3 && decide ((pc : Int) + o = (i1 : Int))
  | .if_icmp _ o => Nat.beq len 3 && decide ((pc : Int) + o = (i1 : Int))
  | .tableswitch d lo hi os => decide (0 ≤ (pc : Int) + d) && (os.toList.all (fun o => decide (0 ≤ (pc : Int) + o)) && (decide ((os.toList.length : Int) = hi - lo + 1) && (decide (-2147483648 ≤ lo) && decide (hi ≤ 2147483647))))
  | .lookupswitch d ps => decide (0 ≤ (pc : Int) + d) && (ps.toList.all (fun o => decide (0 ≤ (pc : Int) + o.2) && (decide (-2147483648 ≤ o.1) && decide (o.1 ≤ 2147483647))) && (ps.toList.zip (ps.toList.drop 1)).all (fun (a, next) => decide (a.1 < next.1)))
  | .getstatic k => Nat.beq len 3 && am_h4 am_SL (am_ow m) k i1 i2
  | .getfield k => Nat.beq len 3 && (bif Nat.beq i1 50 then Nat.beq (am_ow m) 17 && ((Nat.beq k 9 && (Nat.beq i2 0 && Nat.beq i3 2)) || (Nat.beq k 15 && (Nat.beq i2 1 && Nat.beq i3 0))) else am_h4 am_FL (am_ow m) k i1 i2 && (Nat.blt i1 13 && (Nat.blt i2 (am_Nf i1) && Nat.beq (am_ft i1 i2) i3)))
  | .putfield k => Nat.beq len 3 && (am_h4 am_FL (am_ow m) k i1 i2 && (Nat.blt i1 13 && (Nat.blt i2 (am_Nf i1) && (Nat.beq (am_ft i1 i2) i3 && (!(am_Tf i1 i2).2.2.2 || (Nat.beq i1 (am_ow m) && decide ((am_y m).name = "<init>")))))))
  | .newarray _ => Nat.beq len 2
  | .new k => Nat.beq len 3 && (am_h3 am_CK (am_ow m) k i1 && (Nat.blt i1 13 && Nat.beq i2 (am_Nf i1)))
  | .invokestatic k => Nat.beq len 3 && (bif Nat.beq i1 901 then am_h3 am_ML (am_ow m) k i1 && (Nat.beq i2 5 && Nat.beq i4 0) else bif Nat.beq i1 905 then am_h3 am_ML (am_ow m) k i1 && (Nat.beq i2 4 && Nat.beq i4 1) else (am_h3 am_ML (am_ow m) k i1 || am_h3 am_NL (am_ow m) k i1) && (am_h1 am_stat i1 && (Nat.blt i1 296 && (Nat.beq i2 (am_np i1) && Nat.beq i4 (am_rkc i1)))))
  | .invokevirtual k => Nat.beq len 3 && (am_h3 am_ML (am_ow m) k i1 && (am_h1 am_inst i1 && (am_h1 am_sel i1 && (Nat.blt i1 296 && ((Nat.beq i3 (am_ow i1) && Nat.blt i3 13 || Nat.beq i3 50 && Nat.beq (am_ow i1) 17) && (Nat.beq i2 (am_np i1) && Nat.beq i4 (am_rkc i1)))))))
  | .invokespecial k => Nat.beq len 3 && (bif Nat.beq i1 900 then am_h3 am_ML (am_ow m) k i1 && (Nat.beq i2 0 && (Nat.beq i4 0 && Nat.beq i3 (am_ow m))) else (am_h3 am_ML (am_ow m) k i1 || am_h3 am_NL (am_ow m) k i1) && (am_h1 am_inst i1 && (Nat.blt i1 296 && (Nat.beq i3 (am_ow i1) && (Nat.blt i3 13 && (Nat.beq i2 (am_np i1) && (Nat.beq i4 0 && (Nat.beq (am_rkc i1) 0 && decide ((am_y i1).name = "<init>")))))))))
  | .return_ => Nat.beq len 1 && decide (am_rt m = none)
  | .ireturn => Nat.beq len 1 && (match (am_tb m).1.2.1 with
    | 1 => decide (am_rt m = some .int)
    | 3 => decide (am_rt m = some .boolean)
    | 4 => decide (am_rt m = some .char)
    | 5 => decide (am_rt m = some .byte)
    | _ => false)
  | .lreturn => Nat.beq len 1 && decide (am_rt m = some .long)
  | _ => false
def am_okR (m : Nat) (r : am_W) : Bool := match r with
  | (pc, ins, len, i1, i2, i3, i4) => match ins with
    | .nop => true
    | ins => decide (decode (am_bc m) pc = .ok (ins, len)) && am_okI m pc ins len i1 i2 i3 i4
/-- each row's end is the next one's place -/
def am_ch : List am_W → Bool
  | [] => true
  | r :: rs => (match rs with
    | [] => true
    | q :: _ => Nat.beq (r.1 + r.2.2.1) q.1) && am_ch rs
def am_okM (m : Nat) : Bool := (am_tb m).1.1.all (am_okR m) && (am_ch (am_tb m).1.1 && (Nat.ble (am_tb m).2 40 && (Nat.beq (am_tb m).1.2.2.1 (am_co m).1 && (Nat.beq (am_tb m).1.2.2.2 (am_co m).2 && Nat.beq ((am_tb m).1.1.headD (1, .nop, 0, 0, 0, 0, 0)).1 0))))
