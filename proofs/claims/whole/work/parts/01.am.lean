/-! ===== THE SMALL MACHINE: rows of a method, a heap of numbered cells, what holds behind a run (no fuel: a least fixed point) ===== -/
/-- next number, kind and length of a cell, its ints, its longs, its references -/
abbrev am_H : Type := Nat × (Nat → Nat × Nat) × (Nat → Nat → Int32) × (Nat → Nat → Int64) × (Nat → Nat → Nat)
abbrev am_L : Type := List (Option Value)
/-- pc, instruction, length, four numbers that its pool entry comes to -/
abbrev am_W : Type := Nat × Instr × Nat × Nat × Nat × Nat × Nat
/-- rows, kind of the answer (0 none, 1 int, 2 long, 3 boolean, 4 char, 5 byte), cells and slots that it may make -/
abbrev am_M : Type := List am_W × Nat × Nat × Nat
abbrev am_K : Type := Nat → List Value → am_H → (Value → am_H → Prop) → Prop
abbrev am_S : Type := Nat × Nat → List am_W → am_L → List Value → am_H → Prop
def am_g (b : Bool) (p : Prop) : Prop := match b with
  | true => p
  | false => False
def am_if (b : Bool) (p q : Prop) : Prop := match b with
  | true => p
  | false => q
def am_u (I : Nat → Nat → Int32) (a k : Nat) (v : Int32) : Nat → Nat → Int32 := fun b j => if b = a ∧ j = k then v else I b j
def am_uJ (J : Nat → Nat → Int64) (a k : Nat) (v : Int64) : Nat → Nat → Int64 := fun b j => if b = a ∧ j = k then v else J b j
def am_uR (R : Nat → Nat → Nat) (a k : Nat) (v : Nat) : Nat → Nat → Nat := fun b j => bif Nat.beq b a && Nat.beq j k then v else R b j
def am_uT (T : Nat → Nat × Nat) (a : Nat) (v : Nat × Nat) : Nat → Nat × Nat := fun b => bif Nat.beq b a then v else T b
def am_z (I : Nat → Nat → Int32) (a : Nat) : Nat → Nat → Int32 := fun b j => if b = a then 0 else I b j
def am_zJ (J : Nat → Nat → Int64) (a : Nat) : Nat → Nat → Int64 := fun b j => if b = a then 0 else J b j
def am_zR (R : Nat → Nat → Nat) (a : Nat) : Nat → Nat → Nat := fun b j => bif Nat.beq b a then 0 else R b j
def am_nth {α : Type} : List α → Nat → Option α
  | [], _ => none
  | x :: _, 0 => some x
  | _ :: xs, k + 1 => am_nth xs k
def am_get (L : am_L) (k : Nat) : Option Value := match am_nth L k with
  | some (some v) => some v
  | _ => none
def am_put : am_L → Nat → Option Value → am_L
  | [], _, _ => []
  | _ :: xs, 0, v => v :: xs
  | x :: xs, k + 1, v => x :: am_put xs k v
def am_cp (L : am_L) (k : Nat) : am_L := match k with
  | 0 => L
  | k + 1 => match am_get L k with
    | some (.long _) => am_put L k none
    | _ => L
def am_st1 (L : am_L) (k : Nat) (v : Value) : am_L := am_put (am_cp L k) k (some v)
def am_st2 (L : am_L) (k : Nat) (v : Value) : am_L := am_put (am_put (am_cp L k) k (some v)) (k + 1) none
def am_seek : List am_W → Nat → List am_W
  | [], _ => []
  | r :: rs, pc => bif Nat.beq r.1 pc then r :: rs else am_seek rs pc
def am_i (st : List Value) (f : Int32 → List Value → Prop) : Prop := match st with
  | .int x :: r => f x r
  | _ => False
def am_l (st : List Value) (f : Int64 → List Value → Prop) : Prop := match st with
  | .long x :: r => f x r
  | _ => False
def am_ii (st : List Value) (f : Int32 → Int32 → List Value → Prop) : Prop := match st with
  | .int y :: .int x :: r => f x y r
  | _ => False
def am_ll (st : List Value) (f : Int64 → Int64 → List Value → Prop) : Prop := match st with
  | .long y :: .long x :: r => f x y r
  | _ => False
def am_r (st : List Value) (f : Nat → List Value → Prop) : Prop := match st with
  | .ref a :: r => f a r
  | _ => False
def am_ri (st : List Value) (f : Nat → Int32 → List Value → Prop) : Prop := match st with
  | .int i :: .ref a :: r => f a i r
  | _ => False
def am_rii (st : List Value) (f : Nat → Int32 → Int32 → List Value → Prop) : Prop := match st with
  | .int x :: .int i :: .ref a :: r => f a i x r
  | _ => False
def am_ril (st : List Value) (f : Nat → Int32 → Int64 → List Value → Prop) : Prop := match st with
  | .long x :: .int i :: .ref a :: r => f a i x r
  | _ => False
def am_rr (st : List Value) (f : Nat → Nat → List Value → Prop) : Prop := match st with
  | .ref b :: .ref a :: r => f a b r
  | _ => False
def am_asI (v : Value) (f : Int32 → Prop) : Prop := match v with
  | .int x => f x
  | _ => False
def am_asL (v : Value) (f : Int64 → Prop) : Prop := match v with
  | .long x => f x
  | _ => False
def am_one (v : Value) : Bool := match v with
  | .int _ => true
  | .ref _ => true
  | _ => false
def am_cat : List Value → Nat
  | [] => 0
  | .long _ :: r => 2 + am_cat r
  | _ :: r => 1 + am_cat r
def am_ok1 : List Value → Bool
  | [] => true
  | .int _ :: r => am_ok1 r
  | .long _ :: r => am_ok1 r
  | .ref _ :: r => am_ok1 r
  | _ :: _ => false
def am_inb (i : Int32) (n : Nat) : Bool := !(decide (i < 0)) && Nat.blt i.toNatClampNeg n
def am_c0 (c : ClassFile.Cond) (x : Int32) : Bool := match c with
  | .eq => decide (x = 0)
  | .ne => !(decide (x = 0))
  | .lt => decide (x < 0)
  | .ge => decide (0 ≤ x)
  | .gt => decide (0 < x)
  | .le => decide (x ≤ 0)
def am_c2 (c : ClassFile.Cond) (x y : Int32) : Bool := match c with
  | .eq => decide (x = y)
  | .ne => !(decide (x = y))
  | .lt => decide (x < y)
  | .ge => decide (y ≤ x)
  | .gt => decide (y < x)
  | .le => decide (x ≤ y)
/-- a switch: its cases one by one -/
def am_sw (k : Nat → Prop) (d : Nat) (x : Int32) : List (Int32 × Nat) → Prop
  | [] => k d
  | (c, t) :: ps => am_if (decide (x = c)) (k t) (am_sw k d x ps)
def am_ts (pc : Nat) (lo : Int) : List Int → List (Int32 × Nat)
  | [] => []
  | o :: os => (Int32.ofInt lo, ((pc : Int) + o).toNat) :: am_ts pc (lo + 1) os
def am_ls (pc : Nat) : List (Int × Int) → List (Int32 × Nat)
  | [] => []
  | (c, o) :: os => (Int32.ofInt c, ((pc : Int) + o).toNat) :: am_ls pc os
def am_pop : Nat → List Value → List Value → Option (List Value × List Value)
  | 0, acc, st => some (acc, st)
  | _ + 1, _, [] => none
  | n + 1, acc, v :: st => am_pop n (v :: acc) st
def am_arg (n : Nat) (st : List Value) (f : List Value → List Value → Prop) : Prop := match am_pop n [] st with
  | some (As, r) => f As r
  | none => False
def am_rv (rk : Nat) (v : Value) (st : List Value) (k : List Value → Prop) : Prop := match rk with
  | 0 => k st
  | 2 => am_asL v (fun x => k (.long x :: st))
  | _ => am_asI v (fun x => k (.int x :: st))
def am_fv (ft : Nat) (h : am_H) (a k : Nat) : Value := match ft with
  | 1 => .long (h.2.2.2.1 a k)
  | 2 => .ref (h.2.2.2.2 a k)
  | _ => .int (h.2.2.1 a k)
def am_bool (x : Int32) : Bool := x == 0 || x == 1
/-- kinds: 1 ints, 2 longs, 3 bytes, 4 booleans, 5 ints that stay, 7 bytes that stay, 60 a text, 10 to 22 objects -/
def am_kd (h : am_H) (a : Nat) : Nat := (h.2.1 a).1
def am_len (h : am_H) (a : Nat) : Nat := (h.2.1 a).2
def am_wI (h : am_H) (a k : Nat) (v : Int32) : am_H := (h.1, h.2.1, am_u h.2.2.1 a k v, h.2.2.2.1, h.2.2.2.2)
def am_wJ (h : am_H) (a k : Nat) (v : Int64) : am_H := (h.1, h.2.1, h.2.2.1, am_uJ h.2.2.2.1 a k v, h.2.2.2.2)
def am_wR (h : am_H) (a k : Nat) (v : Nat) : am_H := (h.1, h.2.1, h.2.2.1, h.2.2.2.1, am_uR h.2.2.2.2 a k v)
def am_mk (h : am_H) (kd n : Nat) : am_H := (h.1 + 1, am_uT h.2.1 (h.1 + 1) (kd, n), am_z h.2.2.1 (h.1 + 1), am_zJ h.2.2.2.1 (h.1 + 1), am_zR h.2.2.2.2 (h.1 + 1))
def am_pf (ft : Nat) (v : Value) (h : am_H) (a k : Nat) (f : am_H → Prop) : Prop := match ft with
  | 0 => am_asI v (fun x => f (am_wI h a k x))
  | 3 => am_asI v (fun x => am_g (am_bool x) (f (am_wI h a k x)))
  | 2 => am_r [v] (fun b _ => f (am_wR h a k b))
  | _ => False
def am_ak (t : ArrayType) : Nat := match t with
  | .int => 1
  | .long => 2
  | .byte => 3
  | .boolean => 4
  | _ => 0
def am_by (k : Nat) (x : Int32) : Int32 := match k with
  | 3 => x.toInt8.toInt32
  | _ => x &&& 1
def am_step (C : am_K) (co : Nat → Nat × Nat) (M : am_M) (Q : Value → am_H → Prop) (P : am_S) : am_S := fun u cs L st h => match cs with
  | [] => False
  | (pc, ins, _, i1, i2, i3, i4) :: cs => match ins with
    | .iconst n => P u cs L (.int (Int32.ofInt n) :: st) h
    | .bipush n => P u cs L (.int (Int32.ofInt n) :: st) h
    | .sipush n => P u cs L (.int (Int32.ofInt n) :: st) h
    | .lconst n => P u cs L (.long (Int64.ofNat (n : Nat)) :: st) h
    | .ldc _ => match i2 with
      | 0 => P u cs L (.int (Int32.ofNat i1) :: st) h
      | _ => P u cs L (.ref i1 :: st) h
    | .ldc_w _ => P u cs L (.int (Int32.ofNat i1) :: st) h
    | .ldc2_w _ => P u cs L (.long (Int64.ofNat i1) :: st) h
    | .iload_n k => match am_get L k with
      | some (.int x) => P u cs L (.int x :: st) h
      | _ => False
    | .iload k => match am_get L k with
      | some (.int x) => P u cs L (.int x :: st) h
      | _ => False
    | .lload_n k => match am_get L k with
      | some (.long x) => P u cs L (.long x :: st) h
      | _ => False
    | .lload k => match am_get L k with
      | some (.long x) => P u cs L (.long x :: st) h
      | _ => False
    | .aload_n k => match am_get L k with
      | some (.ref x) => P u cs L (.ref x :: st) h
      | _ => False
    | .aload k => match am_get L k with
      | some (.ref x) => P u cs L (.ref x :: st) h
      | _ => False
    | .istore_n k => am_i st (fun x r => P u cs (am_st1 L k (.int x)) r h)
    | .istore k => am_i st (fun x r => P u cs (am_st1 L k (.int x)) r h)
    | .lstore_n k => am_l st (fun x r => P u cs (am_st2 L k (.long x)) r h)
    | .lstore k => am_l st (fun x r => P u cs (am_st2 L k (.long x)) r h)
    | .astore_n k => am_r st (fun x r => P u cs (am_st1 L k (.ref x)) r h)
    | .astore k => am_r st (fun x r => P u cs (am_st1 L k (.ref x)) r h)
    | .iinc k n => match am_get L k with
      | some (.int x) => P u cs (am_st1 L k (.int (x + Int32.ofInt n))) st h
      | _ => False
    | .iadd => am_ii st (fun x y r => P u cs L (.int (x + y) :: r) h)
    | .isub => am_ii st (fun x y r => P u cs L (.int (x - y) :: r) h)
    | .imul => am_ii st (fun x y r => P u cs L (.int (x * y) :: r) h)
    | .iand => am_ii st (fun x y r => P u cs L (.int (x &&& y) :: r) h)
    | .ior => am_ii st (fun x y r => P u cs L (.int (x ||| y) :: r) h)
    | .ixor => am_ii st (fun x y r => P u cs L (.int (x ^^^ y) :: r) h)
    | .ishl => am_ii st (fun x y r => P u cs L (.int (x <<< (y &&& 31)) :: r) h)
    | .ishr => am_ii st (fun x y r => P u cs L (.int (x >>> (y &&& 31)) :: r) h)
    | .iushr => am_ii st (fun x y r => P u cs L (.int ((x.toUInt32 >>> (y.toUInt32 &&& Int32.toUInt32 31)).toInt32) :: r) h)
    | .idiv => am_ii st (fun x y r => am_g (!(decide (y = 0))) (P u cs L (.int (x / y) :: r) h))
    | .irem => am_ii st (fun x y r => am_g (!(decide (y = 0))) (P u cs L (.int (x - x / y * y) :: r) h))
    | .ladd => am_ll st (fun x y r => P u cs L (.long (x + y) :: r) h)
    | .lsub => am_ll st (fun x y r => P u cs L (.long (x - y) :: r) h)
    | .lmul => am_ll st (fun x y r => P u cs L (.long (x * y) :: r) h)
    | .land => am_ll st (fun x y r => P u cs L (.long (x &&& y) :: r) h)
    | .ldiv => am_ll st (fun x y r => am_g (!(decide (y = 0))) (P u cs L (.long (x / y) :: r) h))
    | .lneg => am_l st (fun x r => P u cs L (.long (-x) :: r) h)
    | .lcmp => am_ll st (fun x y r => P u cs L (.int (lg_cmp x y) :: r) h)
    | .i2l => am_i st (fun x r => P u cs L (.long x.toInt64 :: r) h)
    | .l2i => am_l st (fun x r => P u cs L (.int x.toInt32 :: r) h)
    | .i2b => am_i st (fun x r => P u cs L (.int x.toInt8.toInt32 :: r) h)
    | .i2c => am_i st (fun x r => P u cs L (.int (x.toUInt32 % 65536).toInt32 :: r) h)
    | .pop => match st with
      | v :: r => am_g (am_one v) (P u cs L r h)
      | _ => False
    | .dup => match st with
      | v :: r => am_g (am_one v) (P u cs L (v :: v :: r) h)
      | _ => False
    | .dup2 => match st with
      | v :: w :: r => am_g (am_one v && am_one w) (P u cs L (v :: w :: v :: w :: r) h)
      | _ => False
    | .goto _ => P u (am_seek M.1 i1) L st h
    | .ifCond c _ => am_i st (fun x r => am_if (am_c0 c x) (P u (am_seek M.1 i1) L r h) (P u cs L r h))
    | .if_icmp c _ => am_ii st (fun x y r => am_if (am_c2 c x y) (P u (am_seek M.1 i1) L r h) (P u cs L r h))
    | .tableswitch d lo _ os => am_i st (fun x r => am_sw (fun t => P u (am_seek M.1 t) L r h) (((pc : Int) + d).toNat) x (am_ts pc lo os.toList))
    | .lookupswitch d ps => am_i st (fun x r => am_sw (fun t => P u (am_seek M.1 t) L r h) (((pc : Int) + d).toNat) x (am_ls pc ps.toList))
    | .getstatic _ => match i2 with
      | 0 => P u cs L (.ref i1 :: st) h
      | _ => P u cs L (.int (Int32.ofNat i1) :: st) h
    | .getfield _ => am_r st (fun a r => am_g (Nat.beq (am_kd h a) (10 + i1)) (P u cs L (am_fv i3 h a i2 :: r) h))
    | .putfield _ => match st with
      | v :: .ref a :: r => am_g (Nat.beq (am_kd h a) (10 + i1)) (am_pf i3 v h a i2 (fun h => P u cs L r h))
      | _ => False
    | .iaload => am_ri st (fun a i r => am_g ((Nat.beq (am_kd h a) 1 || Nat.beq (am_kd h a) 5) && am_inb i (am_len h a)) (P u cs L (.int (h.2.2.1 a i.toNatClampNeg) :: r) h))
    | .baload => am_ri st (fun a i r => am_g ((Nat.beq (am_kd h a) 3 || (Nat.beq (am_kd h a) 4 || Nat.beq (am_kd h a) 7)) && am_inb i (am_len h a)) (P u cs L (.int (h.2.2.1 a i.toNatClampNeg) :: r) h))
    | .laload => am_ri st (fun a i r => am_g (Nat.beq (am_kd h a) 2 && am_inb i (am_len h a)) (P u cs L (.long (h.2.2.2.1 a i.toNatClampNeg) :: r) h))
    | .iastore => am_rii st (fun a i x r => am_g (Nat.beq (am_kd h a) 1 && am_inb i (am_len h a)) (P u cs L r (am_wI h a i.toNatClampNeg x)))
    | .bastore => am_rii st (fun a i x r => am_g ((Nat.beq (am_kd h a) 3 || Nat.beq (am_kd h a) 4) && am_inb i (am_len h a)) (P u cs L r (am_wI h a i.toNatClampNeg (am_by (am_kd h a) x))))
    | .lastore => am_ril st (fun a i x r => am_g (Nat.beq (am_kd h a) 2 && am_inb i (am_len h a)) (P u cs L r (am_wJ h a i.toNatClampNeg x)))
    | .arraylength => am_r st (fun a r => am_g (!(Nat.beq (am_kd h a) 0) && Nat.ble (am_kd h a) 7) (P u cs L (.int (Int32.ofNat (am_len h a)) :: r) h))
    | .newarray t => am_i st (fun n r => am_g (!(Nat.beq (am_ak t) 0) && (Nat.ble (h.1 + 1) 140 && (am_inb n 65536 && (Nat.ble (u.1 + 1) M.2.2.1 && Nat.ble (u.2 + n.toNatClampNeg) M.2.2.2))))
        (P (u.1 + 1, u.2 + n.toNatClampNeg) cs L (.ref (h.1 + 1) :: r) (am_mk h (am_ak t) n.toNatClampNeg)))
    | .new _ => am_g (Nat.ble (h.1 + 1) 140 && (Nat.ble (u.1 + 1) M.2.2.1 && Nat.ble (u.2 + i2) M.2.2.2)) (P (u.1 + 1, u.2 + i2) cs L (.ref (h.1 + 1) :: st) (am_mk h (10 + i1) i2))
    | .invokestatic _ => am_arg i2 st (fun As r => am_g (Nat.ble (am_cat r) 8 && (am_ok1 As && (Nat.ble (u.1 + (co i1).1) M.2.2.1 && Nat.ble (u.2 + (co i1).2) M.2.2.2))) (C i1 As h (fun v h => am_rv i4 v r (fun st => P (u.1 + (co i1).1, u.2 + (co i1).2) cs L st h))))
    | .invokevirtual _ => am_arg i2 st (fun As r => am_r r (fun a r => am_g (Nat.beq (am_kd h a) (10 + i3) && (Nat.ble (am_cat r) 8 && (am_ok1 As && (Nat.ble (u.1 + (co i1).1) M.2.2.1 && Nat.ble (u.2 + (co i1).2) M.2.2.2)))) (C i1 (.ref a :: As) h (fun v h => am_rv i4 v r (fun st => P (u.1 + (co i1).1, u.2 + (co i1).2) cs L st h)))))
    | .invokespecial _ => am_arg i2 st (fun As r => am_r r (fun a r => am_g (Nat.beq (am_kd h a) (10 + i3) && (Nat.ble (am_cat r) 8 && (am_ok1 As && (Nat.ble (u.1 + (co i1).1) M.2.2.1 && Nat.ble (u.2 + (co i1).2) M.2.2.2)))) (C i1 (.ref a :: As) h (fun v h => am_rv i4 v r (fun st => P (u.1 + (co i1).1, u.2 + (co i1).2) cs L st h)))))
    | .return_ => match st with
      | [] => am_g (Nat.beq u.1 M.2.2.1 || Nat.ble 140 h.1) (Q .null h)
      | _ => False
    | .ireturn => match st with
      | [.int x] => am_g (Nat.beq u.1 M.2.2.1 || Nat.ble 140 h.1) (match M.2.1 with
        | 1 => Q (.int x) h
        | 3 => am_g (am_bool x) (Q (.int x) h)
        | 4 => am_g (decide ((x.toUInt32 % 65536).toInt32 = x)) (Q (.int x) h)
        | 5 => am_g (decide (x.toInt8.toInt32 = x)) (Q (.int x) h)
        | _ => False)
      | _ => False
    | .lreturn => match st with
      | [.long x] => am_g (Nat.beq u.1 M.2.2.1 || Nat.ble 140 h.1) (Q (.long x) h)
      | _ => False
    | _ => False
/-- what holds behind a run: the least that the steps keep -/
def am_E (C : am_K) (co : Nat → Nat × Nat) (M : am_M) (Q : Value → am_H → Prop) : am_S := fun u cs L st h => ∀ P : am_S, (∀ u cs L st h, am_step C co M Q P u cs L st h → P u cs L st h) → P u cs L st h
def am_in : List Value → Nat → am_L
  | [], n => List.replicate n none
  | .long x :: vs, n + 2 => some (.long x) :: none :: am_in vs n
  | v :: vs, n + 1 => some v :: am_in vs n
  | _ :: _, 0 => []
/-- calls, d deep; a number from 900 on is no method of rows -/
def am_C (tb : Nat → am_M × Nat) (co : Nat → Nat × Nat) (pr : am_K → am_K) : Nat → am_K
  | 0 => fun _ _ _ _ => False
  | d + 1 => fun mid args h Q => bif Nat.ble 900 mid then pr (am_C tb co pr d) mid args h Q else am_g (Nat.ble (am_cat args) (tb mid).2) (am_E (am_C tb co pr d) co (tb mid).1 Q (0, 0) (tb mid).1.1 (am_in args (tb mid).2) [] h)
/-- unfolding up to cut points -/
def am_un (C : am_K) (co : Nat → Nat × Nat) (M : am_M) (Q : Value → am_H → Prop) (cut : Nat → Bool) : Nat → am_S
  | 0 => am_E C co M Q
  | n + 1 => am_step C co M Q (fun u cs L st h => match cs with
    | [] => am_E C co M Q u [] L st h
    | r :: cs => bif cut r.1 then am_E C co M Q u (r :: cs) L st h else am_un C co M Q cut n u (r :: cs) L st h)
theorem am_g_mono {b : Bool} {p q : Prop} (h : p → q) : am_g b p → am_g b q := by cases b <;> simp_all [am_g]
theorem am_if_mono {b : Bool} {p q p' q' : Prop} (h : p → p') (h' : q → q') : am_if b p q → am_if b p' q' := by cases b <;> simp_all [am_if]
theorem am_i_mono {st : List Value} {f g : Int32 → List Value → Prop} (h : ∀ x r, f x r → g x r) : am_i st f → am_i st g := by unfold am_i; split <;> simp_all
theorem am_l_mono {st : List Value} {f g : Int64 → List Value → Prop} (h : ∀ x r, f x r → g x r) : am_l st f → am_l st g := by unfold am_l; split <;> simp_all
theorem am_ii_mono {st : List Value} {f g : Int32 → Int32 → List Value → Prop} (h : ∀ x y r, f x y r → g x y r) : am_ii st f → am_ii st g := by unfold am_ii; split <;> simp_all
theorem am_ll_mono {st : List Value} {f g : Int64 → Int64 → List Value → Prop} (h : ∀ x y r, f x y r → g x y r) : am_ll st f → am_ll st g := by unfold am_ll; split <;> simp_all
theorem am_r_mono {st : List Value} {f g : Nat → List Value → Prop} (h : ∀ x r, f x r → g x r) : am_r st f → am_r st g := by unfold am_r; split <;> simp_all
theorem am_ri_mono {st : List Value} {f g : Nat → Int32 → List Value → Prop} (h : ∀ x y r, f x y r → g x y r) : am_ri st f → am_ri st g := by unfold am_ri; split <;> simp_all
theorem am_rii_mono {st : List Value} {f g : Nat → Int32 → Int32 → List Value → Prop} (h : ∀ x y z r, f x y z r → g x y z r) : am_rii st f → am_rii st g := by unfold am_rii; split <;> simp_all
theorem am_ril_mono {st : List Value} {f g : Nat → Int32 → Int64 → List Value → Prop} (h : ∀ x y z r, f x y z r → g x y z r) : am_ril st f → am_ril st g := by unfold am_ril; split <;> simp_all
theorem am_asI_mono {v : Value} {f g : Int32 → Prop} (h : ∀ x, f x → g x) : am_asI v f → am_asI v g := by unfold am_asI; split <;> simp_all
theorem am_asL_mono {v : Value} {f g : Int64 → Prop} (h : ∀ x, f x → g x) : am_asL v f → am_asL v g := by unfold am_asL; split <;> simp_all
theorem am_sw_mono {k k' : Nat → Prop} (h : ∀ t, k t → k' t) (d : Nat) (x : Int32) : ∀ ps : List (Int32 × Nat), am_sw k d x ps → am_sw k' d x ps
  | [] => h d
  | (_, t) :: ps => am_if_mono (h t) (am_sw_mono h d x ps)
theorem am_arg_mono {n : Nat} {st : List Value} {f g : List Value → List Value → Prop} (h : ∀ x r, f x r → g x r) : am_arg n st f → am_arg n st g := by unfold am_arg; split <;> simp_all
theorem am_rv_mono {rk : Nat} {v : Value} {st : List Value} {k k' : List Value → Prop} (h : ∀ s, k s → k' s) : am_rv rk v st k → am_rv rk v st k' := by
  unfold am_rv
  split
  · exact h _
  · exact am_asL_mono fun _ => h _
  · exact am_asI_mono fun _ => h _
theorem am_pf_mono {ft : Nat} {v : Value} {h : am_H} {a k : Nat} {f g : am_H → Prop} (hf : ∀ h, f h → g h) : am_pf ft v h a k f → am_pf ft v h a k g := by
  unfold am_pf
  split
  · exact am_asI_mono fun _ => hf _
  · exact am_asI_mono fun _ => am_g_mono (hf _)
  · exact am_r_mono fun _ _ => hf _
  · exact id
def am_Cm (C : am_K) : Prop := ∀ (mid : Nat) (args : List Value) (h : am_H) (Q Q' : Value → am_H → Prop), (∀ v h, Q v h → Q' v h) → C mid args h Q → C mid args h Q'
theorem am_step_mono {C : am_K} {co : Nat → Nat × Nat} {M : am_M} {Q Q' : Value → am_H → Prop} {P P' : am_S} (hC : am_Cm C) (hQ : ∀ v h, Q v h → Q' v h) (hP : ∀ u cs L st h, P u cs L st h → P' u cs L st h)
    {u : Nat × Nat} {cs : List am_W} {L : am_L} {st : List Value} {h : am_H} : am_step C co M Q P u cs L st h → am_step C co M Q' P' u cs L st h := by
  cases cs with
  | nil => exact id
  | cons r cs =>
    obtain ⟨pc, ins, len, i1, i2, i3, i4⟩ := r
    cases ins <;> dsimp only [am_step] <;> first
      | exact id
      | exact hP _ _ _ _ _
      | exact am_i_mono fun _ _ => hP _ _ _ _ _
      | exact am_l_mono fun _ _ => hP _ _ _ _ _
      | exact am_r_mono fun _ _ => hP _ _ _ _ _
      | exact am_ii_mono fun _ _ _ => hP _ _ _ _ _
      | exact am_ll_mono fun _ _ _ => hP _ _ _ _ _
      | exact am_ii_mono fun _ _ _ => am_g_mono (hP _ _ _ _ _)
      | exact am_ll_mono fun _ _ _ => am_g_mono (hP _ _ _ _ _)
      | exact am_i_mono fun _ _ => am_if_mono (hP _ _ _ _ _) (hP _ _ _ _ _)
      | exact am_ii_mono fun _ _ _ => am_if_mono (hP _ _ _ _ _) (hP _ _ _ _ _)
      | exact am_i_mono fun _ _ => am_sw_mono (fun _ => hP _ _ _ _ _) _ _ _
      | exact am_r_mono fun _ _ => am_g_mono (hP _ _ _ _ _)
      | exact am_ri_mono fun _ _ _ => am_g_mono (hP _ _ _ _ _)
      | exact am_rii_mono fun _ _ _ _ => am_g_mono (hP _ _ _ _ _)
      | exact am_ril_mono fun _ _ _ _ => am_g_mono (hP _ _ _ _ _)
      | exact am_i_mono fun _ _ => am_g_mono (hP _ _ _ _ _)
      | exact am_g_mono (hP _ _ _ _ _)
      | exact am_arg_mono fun _ _ => am_g_mono (hC _ _ _ _ _ fun _ _ => am_rv_mono fun _ => hP _ _ _ _ _)
      | exact am_arg_mono fun _ _ => am_r_mono fun _ _ => am_g_mono (hC _ _ _ _ _ fun _ _ => am_rv_mono fun _ => hP _ _ _ _ _)
      | (split <;> first
          | exact id
          | exact hP _ _ _ _ _
          | exact hQ _ _
          | exact am_g_mono (hP _ _ _ _ _)
          | exact am_g_mono (am_pf_mono fun _ => hP _ _ _ _ _)
          | exact am_g_mono (hQ _ _)
          | (refine am_g_mono ?_; split <;> first | exact id | exact hQ _ _ | exact am_g_mono (hQ _ _)))
theorem am_E_in {C : am_K} {co : Nat → Nat × Nat} {M : am_M} {Q : Value → am_H → Prop} (hC : am_Cm C) {u : Nat × Nat} {cs : List am_W} {L : am_L} {st : List Value} {h : am_H} (k : am_step C co M Q (am_E C co M Q) u cs L st h) : am_E C co M Q u cs L st h := by
  intro P hP
  exact hP _ _ _ _ _ (am_step_mono hC (fun _ _ q => q) (fun _ _ _ _ _ e => e P hP) k)
theorem am_E_eq {C : am_K} {co : Nat → Nat × Nat} {M : am_M} {Q : Value → am_H → Prop} (hC : am_Cm C) : am_E C co M Q = am_step C co M Q (am_E C co M Q) := by
  funext u cs L st h
  refine propext ⟨fun k => k _ (fun _ _ _ _ _ q => am_step_mono hC (fun _ _ q => q) (fun _ _ _ _ _ e => am_E_in hC e) q), am_E_in hC⟩
theorem am_un_eq {C : am_K} {co : Nat → Nat × Nat} {M : am_M} {Q : Value → am_H → Prop} (hC : am_Cm C) (cut : Nat → Bool) : ∀ n : Nat, am_E C co M Q = am_un C co M Q cut n
  | 0 => rfl
  | n + 1 => by
    have ih := am_un_eq (co := co) (M := M) (Q := Q) hC cut n
    rw [am_un, ← ih]
    refine (am_E_eq hC).trans (congrArg _ ?_)
    funext u cs L st h
    cases cs with
    | nil => rfl
    | cons r cs => cases hb : cut r.1 <;> simp [hb]
theorem am_E_mono {C : am_K} {co : Nat → Nat × Nat} {M : am_M} {Q Q' : Value → am_H → Prop} (hC : am_Cm C) (hQ : ∀ v h, Q v h → Q' v h) {u : Nat × Nat} {cs : List am_W} {L : am_L} {st : List Value} {h : am_H} (k : am_E C co M Q u cs L st h) : am_E C co M Q' u cs L st h :=
  k _ (fun _ _ _ _ _ q => am_E_in hC (am_step_mono hC hQ (fun _ _ _ _ _ e => e) q))
theorem am_C_mono {tb : Nat → am_M × Nat} {co : Nat → Nat × Nat} {pr : am_K → am_K} (hpr : ∀ C, am_Cm C → am_Cm (pr C)) : ∀ d : Nat, am_Cm (am_C tb co pr d)
  | 0 => fun _ _ _ _ _ _ => id
  | d + 1 => by
    intro mid args h Q Q' hQ
    have ih := am_C_mono (tb := tb) (co := co) hpr d
    dsimp only [am_C]
    cases Nat.ble 900 mid with
    | true => exact hpr _ ih _ _ _ _ _ hQ
    | false => exact am_g_mono (am_E_mono ih hQ)
