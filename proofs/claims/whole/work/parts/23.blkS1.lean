/-! ===== blocks: what the rows of a method do up to the next loop head or call (by program) ===== -/
set_option maxRecDepth 100000 in
theorem e_Changes_add {d : Nat} {Q : Value → am_H → Prop} {N : Nat} {I : Nat → Nat → Int32} {J : Nat → Nat → Int64} {x1 : Int32} {x2 : Int32} {x3 : Int32} {r : am_rho} : am_D (d + 1) 1 [.ref 77, .int x1, .int x2, .int x3] (am_hp N r I J) Q =
    am_if (decide ((I 77 0) < (nI 20))) (am_g (am_inb (I 77 0) 20) (am_g (am_inb ((am_u I 78 (I 77 0).toNatClampNeg x1) 77 0) 20) (am_g (am_inb ((am_u (am_u I 78 (I 77 0).toNatClampNeg x1) 79 ((am_u I 78 (I 77 0).toNatClampNeg x1) 77 0).toNatClampNeg x2) 77 0) 20) (Q .null (am_hp N r (am_u (am_u (am_u (am_u I 78 (I 77 0).toNatClampNeg x1) 79 ((am_u I 78 (I 77 0).toNatClampNeg x1) 77 0).toNatClampNeg x2) 80 ((am_u (am_u I 78 (I 77 0).toNatClampNeg x1) 79 ((am_u I 78 (I 77 0).toNatClampNeg x1) 77 0).toNatClampNeg x2) 77 0).toNatClampNeg x3) 77 0 (((am_u (am_u (am_u I 78 (I 77 0).toNatClampNeg x1) 79 ((am_u I 78 (I 77 0).toNatClampNeg x1) 77 0).toNatClampNeg x2) 80 ((am_u (am_u I 78 (I 77 0).toNatClampNeg x1) 79 ((am_u I 78 (I 77 0).toNatClampNeg x1) 77 0).toNatClampNeg x2) 77 0).toNatClampNeg x3) 77 0) + (nI 1))) J))))) (am_D d 901 [.ref 78, .int (nI 1), .ref 78, .int (nI 0), .int (nI 19)] (am_hp N r I J) (fun v h => am_V d Q 1 24 [some (.ref 77), some (.int x1), some (.int x2), some (.int x3)] [] h)) :=
  (am_D_un rfl (fun p => Nat.beq p 24 || Nat.beq p 39 || Nat.beq p 54) 31).trans rfl
set_option maxRecDepth 100000 in
theorem e_Changes_add_24 {d : Nat} {Q : Value → am_H → Prop} {N : Nat} {I : Nat → Nat → Int32} {J : Nat → Nat → Int64} {x1 : Int32} {x2 : Int32} {x3 : Int32} {r : am_rho} : am_V d Q 1 24 [some (.ref 77), some (.int x1), some (.int x2), some (.int x3)] [] (am_hp N r I J) =
    am_D d 901 [.ref 79, .int (nI 1), .ref 79, .int (nI 0), .int (nI 19)] (am_hp N r I J) (fun v h => am_V d Q 1 39 [some (.ref 77), some (.int x1), some (.int x2), some (.int x3)] [] h) :=
  (am_V_un (fun p => Nat.beq p 24 || Nat.beq p 39 || Nat.beq p 54) 10).trans rfl
set_option maxRecDepth 100000 in
theorem e_Changes_add_39 {d : Nat} {Q : Value → am_H → Prop} {N : Nat} {I : Nat → Nat → Int32} {J : Nat → Nat → Int64} {x1 : Int32} {x2 : Int32} {x3 : Int32} {r : am_rho} : am_V d Q 1 39 [some (.ref 77), some (.int x1), some (.int x2), some (.int x3)] [] (am_hp N r I J) =
    am_D d 901 [.ref 80, .int (nI 1), .ref 80, .int (nI 0), .int (nI 19)] (am_hp N r I J) (fun v h => am_V d Q 1 54 [some (.ref 77), some (.int x1), some (.int x2), some (.int x3)] [] h) :=
  (am_V_un (fun p => Nat.beq p 24 || Nat.beq p 39 || Nat.beq p 54) 10).trans rfl
set_option maxRecDepth 100000 in
theorem e_Changes_add_54 {d : Nat} {Q : Value → am_H → Prop} {N : Nat} {I : Nat → Nat → Int32} {J : Nat → Nat → Int64} {x1 : Int32} {x2 : Int32} {x3 : Int32} {r : am_rho} : am_V d Q 1 54 [some (.ref 77), some (.int x1), some (.int x2), some (.int x3)] [] (am_hp N r I J) =
    am_g (am_inb ((am_u I 77 0 (nI 19)) 77 0) 20) (am_g (am_inb ((am_u (am_u I 77 0 (nI 19)) 78 ((am_u I 77 0 (nI 19)) 77 0).toNatClampNeg x1) 77 0) 20) (am_g (am_inb ((am_u (am_u (am_u I 77 0 (nI 19)) 78 ((am_u I 77 0 (nI 19)) 77 0).toNatClampNeg x1) 79 ((am_u (am_u I 77 0 (nI 19)) 78 ((am_u I 77 0 (nI 19)) 77 0).toNatClampNeg x1) 77 0).toNatClampNeg x2) 77 0) 20) (Q .null (am_hp N r (am_u (am_u (am_u (am_u (am_u I 77 0 (nI 19)) 78 ((am_u I 77 0 (nI 19)) 77 0).toNatClampNeg x1) 79 ((am_u (am_u I 77 0 (nI 19)) 78 ((am_u I 77 0 (nI 19)) 77 0).toNatClampNeg x1) 77 0).toNatClampNeg x2) 80 ((am_u (am_u (am_u I 77 0 (nI 19)) 78 ((am_u I 77 0 (nI 19)) 77 0).toNatClampNeg x1) 79 ((am_u (am_u I 77 0 (nI 19)) 78 ((am_u I 77 0 (nI 19)) 77 0).toNatClampNeg x1) 77 0).toNatClampNeg x2) 77 0).toNatClampNeg x3) 77 0 (((am_u (am_u (am_u (am_u I 77 0 (nI 19)) 78 ((am_u I 77 0 (nI 19)) 77 0).toNatClampNeg x1) 79 ((am_u (am_u I 77 0 (nI 19)) 78 ((am_u I 77 0 (nI 19)) 77 0).toNatClampNeg x1) 77 0).toNatClampNeg x2) 80 ((am_u (am_u (am_u I 77 0 (nI 19)) 78 ((am_u I 77 0 (nI 19)) 77 0).toNatClampNeg x1) 79 ((am_u (am_u I 77 0 (nI 19)) 78 ((am_u I 77 0 (nI 19)) 77 0).toNatClampNeg x1) 77 0).toNatClampNeg x2) 77 0).toNatClampNeg x3) 77 0) + (nI 1))) J)))) :=
  (am_V_un (fun p => Nat.beq p 24 || Nat.beq p 39 || Nat.beq p 54) 30).trans rfl
set_option maxRecDepth 100000 in
theorem e_Expression_read {d : Nat} {Q : Value → am_H → Prop} {N : Nat} {I : Nat → Nat → Int32} {J : Nat → Nat → Int64} {x2 : Int32} {r : am_rho} {a1 : Nat} (h_a1 : a1 = 18 ∨ a1 = 38) : am_D (d + 1) 3 [.ref 46, .ref a1, .int x2] (am_hp N r I J) Q =
    am_D d 14 [.ref a1, .int ((am_u I 46 2 x2) 46 2)] (140, am_TT N, (am_u I 46 2 x2), J, (am_uR (am_RR r) 46 1 a1)) (fun v h => am_V d Q 3 21 [some (.ref 46), some (.ref a1), some (.int x2), none, none] [] h) :=
  by rcases h_a1 with rfl | rfl <;> exact (am_D_un rfl (fun p => Nat.beq p 21 || Nat.beq p 53 || Nat.beq p 96 || Nat.beq p 109 || Nat.beq p 116 || Nat.beq p 128) 13).trans rfl
set_option maxRecDepth 100000 in
theorem e_Expression_read_21 {d : Nat} {Q : Value → am_H → Prop} {N : Nat} {I : Nat → Nat → Int32} {J : Nat → Nat → Int64} {x2 : Int32} {r : am_rho} {a1 : Nat} (h_a1 : a1 = 18 ∨ a1 = 38) : am_V d Q 3 21 [some (.ref 46), some (.ref a1), some (.int x2), none, none] [] (am_hp N r I J) =
    am_V d Q 3 53 [some (.ref 46), some (.ref a1), some (.int x2), some (.int (nI 0)), some (.int (nI 0))] [] (am_hp N r (am_u (am_u (am_u (am_u (am_u I 46 4 (nI 0)) 46 6 (nI 0)) 48 0 (nI 0)) 46 7 (nI 1)) 46 8 (nI 1)) J) :=
  by rcases h_a1 with rfl | rfl <;> exact (am_V_un (fun p => Nat.beq p 21 || Nat.beq p 53 || Nat.beq p 96 || Nat.beq p 109 || Nat.beq p 116 || Nat.beq p 128) 23).trans rfl
set_option maxRecDepth 100000 in
theorem e_Expression_read_53 {d : Nat} {Q : Value → am_H → Prop} {N : Nat} {I : Nat → Nat → Int32} {J : Nat → Nat → Int64} {x2 : Int32} {x3 : Int32} {x4 : Int32} {r : am_rho} {a1 : Nat} (h_a1 : a1 = 18 ∨ a1 = 38) : am_V d Q 3 53 [some (.ref 46), some (.ref a1), some (.int x2), some (.int x3), some (.int x4)] [] (am_hp N r I J) =
    am_if (decide (((nI 700) : Int32) < x4)) (Q (.int x3) (am_hp N r I J)) (am_if (!(decide (x3 = (nI 0)))) (Q (.int x3) (am_hp N r I J)) (am_if (!(decide ((I 44 3) = (nI 27)))) (am_if (decide ((I 46 7) = (nI 0))) (am_D d 6 [.ref 46] (am_hp N r I J) (fun v h => am_asI v (fun y => am_V d Q 3 116 [some (.ref 46), some (.ref a1), some (.int x2), some (.int x3), some (.int x4)] [.int y] h))) (am_D d 4 [.ref 46] (am_hp N r I J) (fun v h => am_asI v (fun y => am_V d Q 3 109 [some (.ref 46), some (.ref a1), some (.int x2), some (.int x3), some (.int x4)] [.int y] h)))) (am_if (!(decide ((I 46 7) = (nI 0)))) (am_if (decide ((I 46 7) = (nI 0))) (am_D d 6 [.ref 46] (am_hp N r I J) (fun v h => am_asI v (fun y => am_V d Q 3 116 [some (.ref 46), some (.ref a1), some (.int x2), some (.int x3), some (.int x4)] [.int y] h))) (am_D d 4 [.ref 46] (am_hp N r I J) (fun v h => am_asI v (fun y => am_V d Q 3 109 [some (.ref 46), some (.ref a1), some (.int x2), some (.int x3), some (.int x4)] [.int y] h)))) (am_if (!(decide ((I 46 6) = (nI 0)))) (am_if (decide ((I 46 7) = (nI 0))) (am_D d 6 [.ref 46] (am_hp N r I J) (fun v h => am_asI v (fun y => am_V d Q 3 116 [some (.ref 46), some (.ref a1), some (.int x2), some (.int x3), some (.int x4)] [.int y] h))) (am_D d 4 [.ref 46] (am_hp N r I J) (fun v h => am_asI v (fun y => am_V d Q 3 109 [some (.ref 46), some (.ref a1), some (.int x2), some (.int x3), some (.int x4)] [.int y] h)))) (am_D d 8 [.ref 46, .int (nI 0)] (am_hp N r I J) (fun v h => am_V d Q 3 96 [some (.ref 46), some (.ref a1), some (.int x2), some (.int x3), some (.int x4)] [] h)))))) :=
  by rcases h_a1 with rfl | rfl <;> exact (am_V_un (fun p => Nat.beq p 21 || Nat.beq p 53 || Nat.beq p 96 || Nat.beq p 109 || Nat.beq p 116 || Nat.beq p 128) 23).trans rfl
set_option maxRecDepth 100000 in
theorem e_Expression_read_96 {d : Nat} {Q : Value → am_H → Prop} {N : Nat} {I : Nat → Nat → Int32} {J : Nat → Nat → Int64} {x2 : Int32} {x3 : Int32} {x4 : Int32} {r : am_rho} {a1 : Nat} (h_a1 : a1 = 18 ∨ a1 = 38) : am_V d Q 3 96 [some (.ref 46), some (.ref a1), some (.int x2), some (.int x3), some (.int x4)] [] (am_hp N r I J) =
    Q (.int (nI 0)) (am_hp N r I J) :=
  by rcases h_a1 with rfl | rfl <;> exact (am_V_un (fun p => Nat.beq p 21 || Nat.beq p 53 || Nat.beq p 96 || Nat.beq p 109 || Nat.beq p 116 || Nat.beq p 128) 4).trans rfl
set_option maxRecDepth 100000 in
theorem e_Expression_read_109 {d : Nat} {Q : Value → am_H → Prop} {N : Nat} {I : Nat → Nat → Int32} {J : Nat → Nat → Int64} {x2 : Int32} {x3 : Int32} {x4 : Int32} {y0 : Int32} {r : am_rho} {a1 : Nat} (h_a1 : a1 = 18 ∨ a1 = 38) : am_V d Q 3 109 [some (.ref 46), some (.ref a1), some (.int x2), some (.int x3), some (.int x4)] [.int y0] (am_hp N r I J) =
    am_V d Q 3 116 [some (.ref 46), some (.ref a1), some (.int x2), some (.int x3), some (.int x4)] [.int y0] (am_hp N r I J) :=
  by rcases h_a1 with rfl | rfl <;> exact (am_V_un (fun p => Nat.beq p 21 || Nat.beq p 53 || Nat.beq p 96 || Nat.beq p 109 || Nat.beq p 116 || Nat.beq p 128) 3).trans rfl
set_option maxRecDepth 100000 in
theorem e_Expression_read_116 {d : Nat} {Q : Value → am_H → Prop} {N : Nat} {I : Nat → Nat → Int32} {J : Nat → Nat → Int64} {x2 : Int32} {x3 : Int32} {x4 : Int32} {y0 : Int32} {r : am_rho} {a1 : Nat} (h_a1 : a1 = 18 ∨ a1 = 38) : am_V d Q 3 116 [some (.ref 46), some (.ref a1), some (.int x2), some (.int x3), some (.int x4)] [.int y0] (am_hp N r I J) =
    am_if (!(decide (y0 = (nI 0)))) (am_V d Q 3 128 [some (.ref 46), some (.ref a1), some (.int x2), some (.int y0), some (.int x4)] [] (am_hp N r I J)) (am_D d 64 [.ref 44] (am_hp N r I J) (fun v h => am_V d Q 3 128 [some (.ref 46), some (.ref a1), some (.int x2), some (.int y0), some (.int x4)] [] h)) :=
  by rcases h_a1 with rfl | rfl <;> exact (am_V_un (fun p => Nat.beq p 21 || Nat.beq p 53 || Nat.beq p 96 || Nat.beq p 109 || Nat.beq p 116 || Nat.beq p 128) 8).trans rfl
set_option maxRecDepth 100000 in
theorem e_Expression_read_128 {d : Nat} {Q : Value → am_H → Prop} {N : Nat} {I : Nat → Nat → Int32} {J : Nat → Nat → Int64} {x2 : Int32} {x3 : Int32} {x4 : Int32} {r : am_rho} {a1 : Nat} (h_a1 : a1 = 18 ∨ a1 = 38) : am_V d Q 3 128 [some (.ref 46), some (.ref a1), some (.int x2), some (.int x3), some (.int x4)] [] (am_hp N r I J) =
    am_V d Q 3 53 [some (.ref 46), some (.ref a1), some (.int x2), some (.int x3), some (.int (x4 + (nI 1)))] [] (am_hp N r I J) :=
  by rcases h_a1 with rfl | rfl <;> exact (am_V_un (fun p => Nat.beq p 21 || Nat.beq p 53 || Nat.beq p 96 || Nat.beq p 109 || Nat.beq p 116 || Nat.beq p 128) 4).trans rfl
set_option maxRecDepth 100000 in
theorem e_Expression_readSide {d : Nat} {Q : Value → am_H → Prop} {N : Nat} {I : Nat → Nat → Int32} {J : Nat → Nat → Int64} {r : am_rho} : am_D (d + 1) 4 [.ref 46] (am_hp N r I J) Q =
    am_if (!(decide ((I 44 3) = (nI 28)))) (am_if (!(decide ((I 44 3) = (nI 19)))) (am_V d Q 4 38 [some (.ref 46), some (.int (I 44 3)), none] [] (am_hp N r I J)) (am_if (decide ((I 46 8) = (nI 0))) (am_V d Q 4 38 [some (.ref 46), some (.int (I 44 3)), none] [] (am_hp N r I J)) (am_D d 7 [.ref 46, .int (I 44 3)] (am_hp N r I J) (fun v h => am_asI v (fun y => am_V d Q 4 37 [some (.ref 46), some (.int (I 44 3)), none] [.int y] h))))) (am_D d 5 [.ref 46] (am_hp N r I J) (fun v h => am_asI v (fun y => am_V d Q 4 18 [some (.ref 46), some (.int (I 44 3)), none] [.int y] h))) :=
  (am_D_un rfl (fun p => Nat.beq p 18 || Nat.beq p 37 || Nat.beq p 38 || Nat.beq p 49 || Nat.beq p 65 || Nat.beq p 67 || Nat.beq p 84 || Nat.beq p 96 || Nat.beq p 141) 18).trans rfl
set_option maxRecDepth 100000 in
theorem e_Expression_readSide_18 {d : Nat} {Q : Value → am_H → Prop} {N : Nat} {I : Nat → Nat → Int32} {J : Nat → Nat → Int64} {x1 : Int32} {y0 : Int32} {r : am_rho} : am_V d Q 4 18 [some (.ref 46), some (.int x1), none] [.int y0] (am_hp N r I J) =
    Q (.int y0) (am_hp N r I J) :=
  (am_V_un (fun p => Nat.beq p 18 || Nat.beq p 37 || Nat.beq p 38 || Nat.beq p 49 || Nat.beq p 65 || Nat.beq p 67 || Nat.beq p 84 || Nat.beq p 96 || Nat.beq p 141) 3).trans rfl
set_option maxRecDepth 100000 in
theorem e_Expression_readSide_37 {d : Nat} {Q : Value → am_H → Prop} {N : Nat} {I : Nat → Nat → Int32} {J : Nat → Nat → Int64} {x1 : Int32} {y0 : Int32} {r : am_rho} : am_V d Q 4 37 [some (.ref 46), some (.int x1), none] [.int y0] (am_hp N r I J) =
    Q (.int y0) (am_hp N r I J) :=
  (am_V_un (fun p => Nat.beq p 18 || Nat.beq p 37 || Nat.beq p 38 || Nat.beq p 49 || Nat.beq p 65 || Nat.beq p 67 || Nat.beq p 84 || Nat.beq p 96 || Nat.beq p 141) 3).trans rfl
set_option maxRecDepth 100000 in
theorem e_Expression_readSide_38 {d : Nat} {Q : Value → am_H → Prop} {N : Nat} {I : Nat → Nat → Int32} {J : Nat → Nat → Int64} {x1 : Int32} {r : am_rho} : am_V d Q 4 38 [some (.ref 46), some (.int x1), none] [] (am_hp N r I J) =
    am_if (!(decide (x1 = (nI 2)))) (am_V d Q 4 49 [some (.ref 46), some (.int x1), some (.int (nI 0))] [] (am_hp N r I J)) (am_V d Q 4 49 [some (.ref 46), some (.int x1), some (.int (nI 1))] [] (am_hp N r I J)) :=
  (am_V_un (fun p => Nat.beq p 18 || Nat.beq p 37 || Nat.beq p 38 || Nat.beq p 49 || Nat.beq p 65 || Nat.beq p 67 || Nat.beq p 84 || Nat.beq p 96 || Nat.beq p 141) 8).trans rfl
set_option maxRecDepth 100000 in
theorem e_Expression_readSide_49 {d : Nat} {Q : Value → am_H → Prop} {N : Nat} {I : Nat → Nat → Int32} {J : Nat → Nat → Int64} {x1 : Int32} {x2 : Int32} {r : am_rho} : am_V d Q 4 49 [some (.ref 46), some (.int x1), some (.int x2)] [] (am_hp N r I J) =
    am_if (!(decide (x2 = (nI 0)))) (am_V d Q 4 67 [some (.ref 46), some (.int x1), some (.int x2)] [] (am_hp N r I J)) (am_if (decide (x1 < (nI 20))) (am_V d Q 4 65 [some (.ref 46), some (.int x1), some (.int x2)] [] (am_hp N r I J)) (am_if (decide (x1 ≤ (nI 26))) (am_V d Q 4 67 [some (.ref 46), some (.int x1), some (.int x2)] [] (am_hp N r I J)) (am_V d Q 4 65 [some (.ref 46), some (.int x1), some (.int x2)] [] (am_hp N r I J)))) :=
  (am_V_un (fun p => Nat.beq p 18 || Nat.beq p 37 || Nat.beq p 38 || Nat.beq p 49 || Nat.beq p 65 || Nat.beq p 67 || Nat.beq p 84 || Nat.beq p 96 || Nat.beq p 141) 10).trans rfl
set_option maxRecDepth 100000 in
theorem e_Expression_readSide_65 {d : Nat} {Q : Value → am_H → Prop} {N : Nat} {I : Nat → Nat → Int32} {J : Nat → Nat → Int64} {x1 : Int32} {x2 : Int32} {r : am_rho} : am_V d Q 4 65 [some (.ref 46), some (.int x1), some (.int x2)] [] (am_hp N r I J) =
    Q (.int (nI 1)) (am_hp N r I J) :=
  (am_V_un (fun p => Nat.beq p 18 || Nat.beq p 37 || Nat.beq p 38 || Nat.beq p 49 || Nat.beq p 65 || Nat.beq p 67 || Nat.beq p 84 || Nat.beq p 96 || Nat.beq p 141) 4).trans rfl
set_option maxRecDepth 100000 in
theorem e_Expression_readSide_67 {d : Nat} {Q : Value → am_H → Prop} {N : Nat} {I : Nat → Nat → Int32} {J : Nat → Nat → Int64} {x1 : Int32} {x2 : Int32} {r : am_rho} : am_V d Q 4 67 [some (.ref 46), some (.int x1), some (.int x2)] [] (am_hp N r I J) =
    am_if (decide (x2 = (nI 0))) (am_V d Q 4 84 [some (.ref 46), some (.int x1), some (.int x2)] [] (am_hp N r I J)) (am_if (decide (((nI 9999) : Int32) < (I 44 5))) (am_V d Q 4 96 [some (.ref 46), some (.int x1), some (.int x2)] [] (am_hp N r I J)) (am_V d Q 4 84 [some (.ref 46), some (.int x1), some (.int x2)] [] (am_hp N r I J))) :=
  (am_V_un (fun p => Nat.beq p 18 || Nat.beq p 37 || Nat.beq p 38 || Nat.beq p 49 || Nat.beq p 65 || Nat.beq p 67 || Nat.beq p 84 || Nat.beq p 96 || Nat.beq p 141) 9).trans rfl
set_option maxRecDepth 100000 in
theorem e_Expression_readSide_84 {d : Nat} {Q : Value → am_H → Prop} {N : Nat} {I : Nat → Nat → Int32} {J : Nat → Nat → Int64} {x1 : Int32} {x2 : Int32} {rt rs rd rl rx nt nw nf : Nat} (h_rl : rl = 18 ∨ rl = 38) : am_V d Q 4 84 [some (.ref 46), some (.int x1), some (.int x2)] [] (am_hp N (rt, rs, rd, rl, rx, nt, nw, nf) I J) =
    am_if (decide ((I rl 0) < (nI 64))) (am_if (decide (x2 = (nI 0))) (am_D d 15 [.ref rl, .int ((am_u I rl 0 ((I rl 0) + (nI 1))) 46 2), .int ((nI 10000) + x1)] (am_hp N (rt, rs, rd, rl, rx, nt, nw, nf) (am_u I rl 0 ((I rl 0) + (nI 1))) J) (fun v h => am_V d Q 4 141 [some (.ref 46), some (.int x1), some (.int x2)] [] h)) (am_D d 15 [.ref rl, .int ((am_u I rl 0 ((I rl 0) + (nI 1))) 46 2), .int ((am_u I rl 0 ((I rl 0) + (nI 1))) 44 5)] (am_hp N (rt, rs, rd, rl, rx, nt, nw, nf) (am_u I rl 0 ((I rl 0) + (nI 1))) J) (fun v h => am_V d Q 4 141 [some (.ref 46), some (.int x1), some (.int x2)] [] h))) (am_V d Q 4 96 [some (.ref 46), some (.int x1), some (.int x2)] [] (am_hp N (rt, rs, rd, rl, rx, nt, nw, nf) I J)) :=
  by rcases h_rl with rfl | rfl <;> exact (am_V_un (fun p => Nat.beq p 18 || Nat.beq p 37 || Nat.beq p 38 || Nat.beq p 49 || Nat.beq p 65 || Nat.beq p 67 || Nat.beq p 84 || Nat.beq p 96 || Nat.beq p 141) 25).trans rfl
set_option maxRecDepth 100000 in
theorem e_Expression_readSide_96 {d : Nat} {Q : Value → am_H → Prop} {N : Nat} {I : Nat → Nat → Int32} {J : Nat → Nat → Int64} {x1 : Int32} {x2 : Int32} {r : am_rho} : am_V d Q 4 96 [some (.ref 46), some (.int x1), some (.int x2)] [] (am_hp N r I J) =
    Q (.int (nI 2)) (am_hp N r I J) :=
  (am_V_un (fun p => Nat.beq p 18 || Nat.beq p 37 || Nat.beq p 38 || Nat.beq p 49 || Nat.beq p 65 || Nat.beq p 67 || Nat.beq p 84 || Nat.beq p 96 || Nat.beq p 141) 4).trans rfl
set_option maxRecDepth 100000 in
theorem e_Expression_readSide_141 {d : Nat} {Q : Value → am_H → Prop} {N : Nat} {I : Nat → Nat → Int32} {J : Nat → Nat → Int64} {x1 : Int32} {x2 : Int32} {r : am_rho} : am_V d Q 4 141 [some (.ref 46), some (.int x1), some (.int x2)] [] (am_hp N r I J) =
    Q (.int (nI 0)) (am_hp N r (am_u I 46 7 (nI 0)) J) :=
  (am_V_un (fun p => Nat.beq p 18 || Nat.beq p 37 || Nat.beq p 38 || Nat.beq p 49 || Nat.beq p 65 || Nat.beq p 67 || Nat.beq p 84 || Nat.beq p 96 || Nat.beq p 141) 7).trans rfl
set_option maxRecDepth 100000 in
theorem e_Expression_readOpen {d : Nat} {Q : Value → am_H → Prop} {N : Nat} {I : Nat → Nat → Int32} {J : Nat → Nat → Int64} {r : am_rho} : am_D (d + 1) 5 [.ref 46] (am_hp N r I J) Q =
    am_if (decide (((nI 8) : Int32) ≤ (I 46 6))) (Q (.int (nI 2)) (am_hp N r I J)) (am_if (decide ((I 46 4) < (nI 72))) (am_g (am_inb (I 46 4) 72) (am_g (am_inb ((am_u (am_u (am_u I 47 (I 46 4).toNatClampNeg (nI 28)) 46 4 (((am_u I 47 (I 46 4).toNatClampNeg (nI 28)) 46 4) + (nI 1))) 46 6 (((am_u (am_u I 47 (I 46 4).toNatClampNeg (nI 28)) 46 4 (((am_u I 47 (I 46 4).toNatClampNeg (nI 28)) 46 4) + (nI 1))) 46 6) + (nI 1))) 46 6) 9) (Q (.int (nI 0)) (am_hp N r (am_u (am_u (am_u (am_u (am_u I 47 (I 46 4).toNatClampNeg (nI 28)) 46 4 (((am_u I 47 (I 46 4).toNatClampNeg (nI 28)) 46 4) + (nI 1))) 46 6 (((am_u (am_u I 47 (I 46 4).toNatClampNeg (nI 28)) 46 4 (((am_u I 47 (I 46 4).toNatClampNeg (nI 28)) 46 4) + (nI 1))) 46 6) + (nI 1))) 48 ((am_u (am_u (am_u I 47 (I 46 4).toNatClampNeg (nI 28)) 46 4 (((am_u I 47 (I 46 4).toNatClampNeg (nI 28)) 46 4) + (nI 1))) 46 6 (((am_u (am_u I 47 (I 46 4).toNatClampNeg (nI 28)) 46 4 (((am_u I 47 (I 46 4).toNatClampNeg (nI 28)) 46 4) + (nI 1))) 46 6) + (nI 1))) 46 6).toNatClampNeg (nI 0)) 46 8 (nI 1)) J)))) (Q (.int (nI 2)) (am_hp N r I J))) :=
  (am_D_un rfl (fun p => false) 41).trans rfl
set_option maxRecDepth 100000 in
theorem e_Expression_readSign {d : Nat} {Q : Value → am_H → Prop} {N : Nat} {I : Nat → Nat → Int32} {J : Nat → Nat → Int64} {r : am_rho} : am_D (d + 1) 6 [.ref 46] (am_hp N r I J) Q =
    am_if (!(decide ((I 44 3) = (nI 29)))) (am_D d 9 [.int (I 44 3)] (am_hp N r I J) (fun v h => am_asI v (fun y => am_V d Q 6 52 [some (.ref 46), some (.int (I 44 3)), none, none] [.int y] h))) (am_if (decide ((I 46 6) ≤ (nI 0))) (am_D d 9 [.int (I 44 3)] (am_hp N r I J) (fun v h => am_asI v (fun y => am_V d Q 6 52 [some (.ref 46), some (.int (I 44 3)), none, none] [.int y] h))) (am_D d 8 [.ref 46, .int (nI 0)] (am_hp N r I J) (fun v h => am_V d Q 6 26 [some (.ref 46), some (.int (I 44 3)), none, none] [] h))) :=
  (am_D_un rfl (fun p => Nat.beq p 26 || Nat.beq p 52 || Nat.beq p 97 || Nat.beq p 156) 15).trans rfl
set_option maxRecDepth 100000 in
theorem e_Expression_readSign_26 {d : Nat} {Q : Value → am_H → Prop} {N : Nat} {I : Nat → Nat → Int32} {J : Nat → Nat → Int64} {x1 : Int32} {r : am_rho} : am_V d Q 6 26 [some (.ref 46), some (.int x1), none, none] [] (am_hp N r I J) =
    Q (.int (nI 0)) (am_hp N r (am_u (am_u I 46 4 ((I 46 4) - (nI 1))) 46 6 (((am_u I 46 4 ((I 46 4) - (nI 1))) 46 6) - (nI 1))) J) :=
  (am_V_un (fun p => Nat.beq p 26 || Nat.beq p 52 || Nat.beq p 97 || Nat.beq p 156) 16).trans rfl
set_option maxRecDepth 100000 in
theorem e_Expression_readSign_52 {d : Nat} {Q : Value → am_H → Prop} {N : Nat} {I : Nat → Nat → Int32} {J : Nat → Nat → Int64} {x1 : Int32} {y0 : Int32} {r : am_rho} : am_V d Q 6 52 [some (.ref 46), some (.int x1), none, none] [.int y0] (am_hp N r I J) =
    am_if (!(decide (y0 = (nI 4)))) (am_if (decide (y0 = (nI 0))) (Q (.int (nI 1)) (am_hp N r I J)) (am_if (decide (x1 = (nI 19))) (Q (.int (nI 1)) (am_hp N r I J)) (am_D d 8 [.ref 46, .int y0] (am_hp N r I J) (fun v h => am_V d Q 6 97 [some (.ref 46), some (.int x1), some (.int y0), some (.int (nI 0))] [] h)))) (am_if (decide (y0 = (nI 0))) (Q (.int (nI 1)) (am_hp N r I J)) (am_if (decide (x1 = (nI 19))) (Q (.int (nI 1)) (am_hp N r I J)) (am_g (am_inb (I 46 6) 9) (am_if (decide ((I 48 (I 46 6).toNatClampNeg) = (nI 0))) (am_D d 8 [.ref 46, .int y0] (am_hp N r I J) (fun v h => am_V d Q 6 97 [some (.ref 46), some (.int x1), some (.int y0), some (.int (nI 1))] [] h)) (Q (.int (nI 1)) (am_hp N r I J)))))) :=
  (am_V_un (fun p => Nat.beq p 26 || Nat.beq p 52 || Nat.beq p 97 || Nat.beq p 156) 25).trans rfl
set_option maxRecDepth 100000 in
theorem e_Expression_readSign_97 {d : Nat} {Q : Value → am_H → Prop} {N : Nat} {I : Nat → Nat → Int32} {J : Nat → Nat → Int64} {x1 : Int32} {x2 : Int32} {x3 : Int32} {r : am_rho} : am_V d Q 6 97 [some (.ref 46), some (.int x1), some (.int x2), some (.int x3)] [] (am_hp N r I J) =
    am_if (!(decide (x3 = (nI 0)))) (am_g (am_inb (I 46 6) 9) (am_if (decide (((nI 4) : Int32) ≤ x2)) (am_D d 7 [.ref 46, .int x1] (am_hp N r (am_u (am_u (am_u I 48 (I 46 6).toNatClampNeg (nI 1)) 46 7 (nI 1)) 46 8 (nI 0)) J) (fun v h => am_asI v (fun y => am_V d Q 6 156 [some (.ref 46), some (.int x1), some (.int x2), some (.int x3)] [.int y] h))) (am_D d 7 [.ref 46, .int x1] (am_hp N r (am_u (am_u (am_u I 48 (I 46 6).toNatClampNeg (nI 1)) 46 7 (nI 1)) 46 8 (nI 1)) J) (fun v h => am_asI v (fun y => am_V d Q 6 156 [some (.ref 46), some (.int x1), some (.int x2), some (.int x3)] [.int y] h))))) (am_g (am_inb (I 46 6) 9) (am_if (decide ((I 48 (I 46 6).toNatClampNeg) = (nI 0))) (am_g (am_inb (I 46 6) 9) (am_if (decide (((nI 4) : Int32) ≤ x2)) (am_D d 7 [.ref 46, .int x1] (am_hp N r (am_u (am_u (am_u I 48 (I 46 6).toNatClampNeg (nI 0)) 46 7 (nI 1)) 46 8 (nI 0)) J) (fun v h => am_asI v (fun y => am_V d Q 6 156 [some (.ref 46), some (.int x1), some (.int x2), some (.int x3)] [.int y] h))) (am_D d 7 [.ref 46, .int x1] (am_hp N r (am_u (am_u (am_u I 48 (I 46 6).toNatClampNeg (nI 0)) 46 7 (nI 1)) 46 8 (nI 1)) J) (fun v h => am_asI v (fun y => am_V d Q 6 156 [some (.ref 46), some (.int x1), some (.int x2), some (.int x3)] [.int y] h))))) (am_if (decide (x2 ≤ (nI 4))) (am_g (am_inb (I 46 6) 9) (am_if (decide (((nI 4) : Int32) ≤ x2)) (am_D d 7 [.ref 46, .int x1] (am_hp N r (am_u (am_u (am_u I 48 (I 46 6).toNatClampNeg (nI 0)) 46 7 (nI 1)) 46 8 (nI 0)) J) (fun v h => am_asI v (fun y => am_V d Q 6 156 [some (.ref 46), some (.int x1), some (.int x2), some (.int x3)] [.int y] h))) (am_D d 7 [.ref 46, .int x1] (am_hp N r (am_u (am_u (am_u I 48 (I 46 6).toNatClampNeg (nI 0)) 46 7 (nI 1)) 46 8 (nI 1)) J) (fun v h => am_asI v (fun y => am_V d Q 6 156 [some (.ref 46), some (.int x1), some (.int x2), some (.int x3)] [.int y] h))))) (am_g (am_inb (I 46 6) 9) (am_if (decide (((nI 4) : Int32) ≤ x2)) (am_D d 7 [.ref 46, .int x1] (am_hp N r (am_u (am_u (am_u I 48 (I 46 6).toNatClampNeg (nI 1)) 46 7 (nI 1)) 46 8 (nI 0)) J) (fun v h => am_asI v (fun y => am_V d Q 6 156 [some (.ref 46), some (.int x1), some (.int x2), some (.int x3)] [.int y] h))) (am_D d 7 [.ref 46, .int x1] (am_hp N r (am_u (am_u (am_u I 48 (I 46 6).toNatClampNeg (nI 1)) 46 7 (nI 1)) 46 8 (nI 1)) J) (fun v h => am_asI v (fun y => am_V d Q 6 156 [some (.ref 46), some (.int x1), some (.int x2), some (.int x3)] [.int y] h)))))))) :=
  (am_V_un (fun p => Nat.beq p 26 || Nat.beq p 52 || Nat.beq p 97 || Nat.beq p 156) 33).trans rfl
set_option maxRecDepth 100000 in
theorem e_Expression_readSign_156 {d : Nat} {Q : Value → am_H → Prop} {N : Nat} {I : Nat → Nat → Int32} {J : Nat → Nat → Int64} {x1 : Int32} {x2 : Int32} {x3 : Int32} {y0 : Int32} {r : am_rho} : am_V d Q 6 156 [some (.ref 46), some (.int x1), some (.int x2), some (.int x3)] [.int y0] (am_hp N r I J) =
    Q (.int y0) (am_hp N r I J) :=
  (am_V_un (fun p => Nat.beq p 26 || Nat.beq p 52 || Nat.beq p 97 || Nat.beq p 156) 3).trans rfl
set_option maxRecDepth 100000 in
theorem e_Expression_await {d : Nat} {Q : Value → am_H → Prop} {N : Nat} {I : Nat → Nat → Int32} {J : Nat → Nat → Int64} {x1 : Int32} {rt rs rd rl rx nt nw nf : Nat} (h_rl : rl = 18 ∨ rl = 38) : am_D (d + 1) 7 [.ref 46, .int x1] (am_hp N (rt, rs, rd, rl, rx, nt, nw, nf) I J) Q =
    am_if (decide (((nI 64) : Int32) ≤ (I rl 0))) (Q (.int (nI 2)) (am_hp N (rt, rs, rd, rl, rx, nt, nw, nf) I J)) (am_if (decide ((I 46 4) < (nI 72))) (am_g (am_inb ((am_u I rl 0 ((I rl 0) + (nI 1))) 46 4) 72) (Q (.int (nI 0)) (am_hp N (rt, rs, rd, rl, rx, nt, nw, nf) (am_u (am_u (am_u I rl 0 ((I rl 0) + (nI 1))) 47 ((am_u I rl 0 ((I rl 0) + (nI 1))) 46 4).toNatClampNeg x1) 46 4 (((am_u (am_u I rl 0 ((I rl 0) + (nI 1))) 47 ((am_u I rl 0 ((I rl 0) + (nI 1))) 46 4).toNatClampNeg x1) 46 4) + (nI 1))) J))) (Q (.int (nI 2)) (am_hp N (rt, rs, rd, rl, rx, nt, nw, nf) I J))) :=
  by rcases h_rl with rfl | rfl <;> exact (am_D_un rfl (fun p => false) 34).trans rfl
set_option maxRecDepth 100000 in
theorem e_Expression_settle_0 {d : Nat} {Q : Value → am_H → Prop} {N : Nat} {I : Nat → Nat → Int32} {J : Nat → Nat → Int64} {x1 : Int32} {r : am_rho} : am_V d Q 8 0 [some (.ref 46), some (.int x1)] [] (am_hp N r I J) =
    am_if (decide ((I 46 4) ≤ (nI 0))) (Q .null (am_hp N r I J)) (am_g (am_inb ((I 46 4) - (nI 1)) 72) (am_if (decide ((I 47 ((I 46 4) - (nI 1)).toNatClampNeg) = (nI 28))) (Q .null (am_hp N r I J)) (am_g (am_inb ((I 46 4) - (nI 1)) 72) (am_D d 9 [.int (I 47 ((I 46 4) - (nI 1)).toNatClampNeg)] (am_hp N r I J) (fun v h => am_asI v (fun y => am_V d Q 8 37 [some (.ref 46), some (.int x1)] [.int y] h)))))) :=
  (am_V_un (fun p => Nat.beq p 0 || Nat.beq p 37 || Nat.beq p 75) 22).trans rfl
set_option maxRecDepth 100000 in
theorem e_Expression_settle_37 {d : Nat} {Q : Value → am_H → Prop} {N : Nat} {I : Nat → Nat → Int32} {J : Nat → Nat → Int64} {x1 : Int32} {y0 : Int32} {rt rs rd rl rx nt nw nf : Nat} (h_rl : rl = 18 ∨ rl = 38) : am_V d Q 8 37 [some (.ref 46), some (.int x1)] [.int y0] (am_hp N (rt, rs, rd, rl, rx, nt, nw, nf) I J) =
    am_if (decide (y0 < x1)) (Q .null (am_hp N (rt, rs, rd, rl, rx, nt, nw, nf) I J)) (am_g (am_inb ((am_u I 46 4 ((I 46 4) - (nI 1))) 46 4) 72) (am_D d 15 [.ref rl, .int ((am_u I 46 4 ((I 46 4) - (nI 1))) 46 2), .int ((nI 10000) + ((am_u I 46 4 ((I 46 4) - (nI 1))) 47 ((am_u I 46 4 ((I 46 4) - (nI 1))) 46 4).toNatClampNeg))] (am_hp N (rt, rs, rd, rl, rx, nt, nw, nf) (am_u I 46 4 ((I 46 4) - (nI 1))) J) (fun v h => am_V d Q 8 75 [some (.ref 46), some (.int x1)] [] h))) :=
  by rcases h_rl with rfl | rfl <;> exact (am_V_un (fun p => Nat.beq p 0 || Nat.beq p 37 || Nat.beq p 75) 22).trans rfl
set_option maxRecDepth 100000 in
theorem e_Expression_settle_75 {d : Nat} {Q : Value → am_H → Prop} {N : Nat} {I : Nat → Nat → Int32} {J : Nat → Nat → Int64} {x1 : Int32} {r : am_rho} : am_V d Q 8 75 [some (.ref 46), some (.int x1)] [] (am_hp N r I J) =
    am_V d Q 8 0 [some (.ref 46), some (.int x1)] [] (am_hp N r I J) :=
  (am_V_un (fun p => Nat.beq p 0 || Nat.beq p 37 || Nat.beq p 75) 3).trans rfl
set_option maxRecDepth 100000 in
theorem e_Expression_binding {d : Nat} {Q : Value → am_H → Prop} {N : Nat} {I : Nat → Nat → Int32} {J : Nat → Nat → Int64} {x0 : Int32} {r : am_rho} : am_D (d + 1) 9 [.int x0] (am_hp N r I J) Q =
    am_if (decide (x0 = (nI 17))) (Q (.int (nI 1)) (am_hp N r I J)) (am_if (decide (x0 = (nI 18))) (Q (.int (nI 2)) (am_hp N r I J)) (am_if (decide (x0 = (nI 19))) (Q (.int (nI 3)) (am_hp N r I J)) (am_if (decide (x0 = (nI 20))) (am_if (decide (x0 < (nI 34))) (Q (.int (nI 0)) (am_hp N r I J)) (Q (.int (nI 4)) (am_hp N r I J))) (am_if (decide (x0 = (nI 21))) (am_if (decide (x0 < (nI 34))) (Q (.int (nI 0)) (am_hp N r I J)) (Q (.int (nI 4)) (am_hp N r I J))) (am_if (decide (x0 = (nI 22))) (am_if (decide (x0 < (nI 34))) (Q (.int (nI 0)) (am_hp N r I J)) (Q (.int (nI 4)) (am_hp N r I J))) (am_if (decide (x0 = (nI 23))) (am_if (decide (x0 < (nI 34))) (Q (.int (nI 0)) (am_hp N r I J)) (Q (.int (nI 4)) (am_hp N r I J))) (am_if (decide (x0 = (nI 24))) (am_if (decide (x0 < (nI 34))) (Q (.int (nI 0)) (am_hp N r I J)) (Q (.int (nI 4)) (am_hp N r I J))) (am_if (decide (x0 = (nI 25))) (am_if (decide (x0 < (nI 34))) (Q (.int (nI 0)) (am_hp N r I J)) (Q (.int (nI 4)) (am_hp N r I J))) (am_if (decide (x0 = (nI 26))) (am_if (decide (x0 < (nI 34))) (Q (.int (nI 0)) (am_hp N r I J)) (Q (.int (nI 4)) (am_hp N r I J))) (am_if (decide (x0 = (nI 27))) (am_if (decide (x0 < (nI 34))) (Q (.int (nI 0)) (am_hp N r I J)) (Q (.int (nI 4)) (am_hp N r I J))) (am_if (decide (x0 = (nI 28))) (am_if (decide (x0 < (nI 34))) (Q (.int (nI 0)) (am_hp N r I J)) (Q (.int (nI 4)) (am_hp N r I J))) (am_if (decide (x0 = (nI 29))) (am_if (decide (x0 < (nI 34))) (Q (.int (nI 0)) (am_hp N r I J)) (Q (.int (nI 4)) (am_hp N r I J))) (am_if (decide (x0 = (nI 30))) (Q (.int (nI 5)) (am_hp N r I J)) (am_if (decide (x0 = (nI 31))) (Q (.int (nI 5)) (am_hp N r I J)) (am_if (decide (x0 = (nI 32))) (Q (.int (nI 6)) (am_hp N r I J)) (am_if (decide (x0 = (nI 33))) (Q (.int (nI 6)) (am_hp N r I J)) (am_if (decide (x0 < (nI 34))) (Q (.int (nI 0)) (am_hp N r I J)) (Q (.int (nI 4)) (am_hp N r I J))))))))))))))))))) :=
  (am_D_un rfl (fun p => false) 10).trans rfl
set_option maxRecDepth 100000 in
theorem e_Laws_clear {d : Nat} {Q : Value → am_H → Prop} {N : Nat} {I : Nat → Nat → Int32} {J : Nat → Nat → Int64} {r : am_rho} {a0 : Nat} (h_a0 : a0 = 18 ∨ a0 = 38) : am_D (d + 1) 11 [.ref a0] (am_hp N r I J) Q =
    am_D d 294 [.ref (a0 + 2), .int (nI 0)] (am_hp N r (am_u (am_u I a0 0 (nI 0)) a0 1 (nI 0)) J) (fun v h => am_V d Q 11 18 [some (.ref a0)] [] h) :=
  by rcases h_a0 with rfl | rfl <;> exact (am_D_un rfl (fun p => Nat.beq p 18 || Nat.beq p 26 || Nat.beq p 34) 12).trans rfl
set_option maxRecDepth 100000 in
theorem e_Laws_clear_18 {d : Nat} {Q : Value → am_H → Prop} {N : Nat} {I : Nat → Nat → Int32} {J : Nat → Nat → Int64} {r : am_rho} {a0 : Nat} (h_a0 : a0 = 18 ∨ a0 = 38) : am_V d Q 11 18 [some (.ref a0)] [] (am_hp N r I J) =
    am_D d 294 [.ref (a0 + 3), .int (nI 0)] (am_hp N r I J) (fun v h => am_V d Q 11 26 [some (.ref a0)] [] h) :=
  by rcases h_a0 with rfl | rfl <;> exact (am_V_un (fun p => Nat.beq p 18 || Nat.beq p 26 || Nat.beq p 34) 6).trans rfl
set_option maxRecDepth 100000 in
theorem e_Laws_clear_26 {d : Nat} {Q : Value → am_H → Prop} {N : Nat} {I : Nat → Nat → Int32} {J : Nat → Nat → Int64} {r : am_rho} {a0 : Nat} (h_a0 : a0 = 18 ∨ a0 = 38) : am_V d Q 11 26 [some (.ref a0)] [] (am_hp N r I J) =
    am_D d 294 [.ref (a0 + 4), .int (nI 0)] (am_hp N r I J) (fun v h => am_V d Q 11 34 [some (.ref a0)] [] h) :=
  by rcases h_a0 with rfl | rfl <;> exact (am_V_un (fun p => Nat.beq p 18 || Nat.beq p 26 || Nat.beq p 34) 6).trans rfl
set_option maxRecDepth 100000 in
theorem e_Laws_clear_34 {d : Nat} {Q : Value → am_H → Prop} {N : Nat} {I : Nat → Nat → Int32} {J : Nat → Nat → Int64} {r : am_rho} {a0 : Nat} (h_a0 : a0 = 18 ∨ a0 = 38) : am_V d Q 11 34 [some (.ref a0)] [] (am_hp N r I J) =
    Q .null (am_hp N r I J) :=
  by rcases h_a0 with rfl | rfl <;> exact (am_V_un (fun p => Nat.beq p 18 || Nat.beq p 26 || Nat.beq p 34) 3).trans rfl
set_option maxRecDepth 100000 in
theorem e_Laws_has {d : Nat} {Q : Value → am_H → Prop} {N : Nat} {I : Nat → Nat → Int32} {J : Nat → Nat → Int64} {x1 : Int32} {r : am_rho} {a0 : Nat} (h_a0 : a0 = 18 ∨ a0 = 38) : am_D (d + 1) 12 [.ref a0, .int x1] (am_hp N r I J) Q =
    am_g (am_inb x1 3) (am_g (am_inb x1 3) (am_if (decide ((I (a0 + 3) x1.toNatClampNeg) ≤ (I (a0 + 2) x1.toNatClampNeg))) (Q (.int (nI 0)) (am_hp N r I J)) (Q (.int (nI 1)) (am_hp N r I J)))) :=
  by rcases h_a0 with rfl | rfl <;> exact (am_D_un rfl (fun p => false) 14).trans rfl
set_option maxRecDepth 100000 in
theorem e_Laws_usesLight {d : Nat} {Q : Value → am_H → Prop} {N : Nat} {I : Nat → Nat → Int32} {J : Nat → Nat → Int64} {r : am_rho} {a0 : Nat} (h_a0 : a0 = 18 ∨ a0 = 38) : am_D (d + 1) 13 [.ref a0] (am_hp N r I J) Q =
    am_if (decide ((((((I (a0 + 4) 0) ||| (I (a0 + 4) 1)) ||| (I (a0 + 4) 2)) >>> ((nI 29) &&& nI 31)) &&& (nI 1)) = (nI 0))) (Q (.int (nI 0)) (am_hp N r I J)) (Q (.int (nI 1)) (am_hp N r I J)) :=
  by rcases h_a0 with rfl | rfl <;> exact (am_D_un rfl (fun p => false) 24).trans rfl
set_option maxRecDepth 100000 in
theorem e_Laws_open {d : Nat} {Q : Value → am_H → Prop} {N : Nat} {I : Nat → Nat → Int32} {J : Nat → Nat → Int64} {x1 : Int32} {r : am_rho} {a0 : Nat} (h_a0 : a0 = 18 ∨ a0 = 38) : am_D (d + 1) 14 [.ref a0, .int x1] (am_hp N r I J) Q =
    am_g (am_inb x1 3) (am_g (am_inb x1 3) (Q .null (am_hp N r (am_u (am_u I (a0 + 2) x1.toNatClampNeg (I a0 1)) (a0 + 3) x1.toNatClampNeg ((am_u I (a0 + 2) x1.toNatClampNeg (I a0 1)) a0 1)) J))) :=
  by rcases h_a0 with rfl | rfl <;> exact (am_D_un rfl (fun p => false) 15).trans rfl
set_option maxRecDepth 100000 in
theorem e_Laws_write {d : Nat} {Q : Value → am_H → Prop} {N : Nat} {I : Nat → Nat → Int32} {J : Nat → Nat → Int64} {x1 : Int32} {x2 : Int32} {r : am_rho} {a0 : Nat} (h_a0 : a0 = 18 ∨ a0 = 38) : am_D (d + 1) 15 [.ref a0, .int x1, .int x2] (am_hp N r I J) Q =
    am_if (decide ((I a0 1) < (nI 64))) (am_g (am_inb (I a0 1) 64) (am_g (am_inb x1 3) (am_if (decide (((x2 - (nI 10000)) - (nI 20)) < (nI 0))) (Q .null (am_hp N r (am_u (am_u (am_u I (a0 + 1) (I a0 1).toNatClampNeg x2) a0 1 (((am_u I (a0 + 1) (I a0 1).toNatClampNeg x2) a0 1) + (nI 1))) (a0 + 3) x1.toNatClampNeg ((am_u (am_u I (a0 + 1) (I a0 1).toNatClampNeg x2) a0 1 (((am_u I (a0 + 1) (I a0 1).toNatClampNeg x2) a0 1) + (nI 1))) a0 1)) J)) (am_if (decide (((nI 7) : Int32) ≤ ((x2 - (nI 10000)) - (nI 20)))) (Q .null (am_hp N r (am_u (am_u (am_u I (a0 + 1) (I a0 1).toNatClampNeg x2) a0 1 (((am_u I (a0 + 1) (I a0 1).toNatClampNeg x2) a0 1) + (nI 1))) (a0 + 3) x1.toNatClampNeg ((am_u (am_u I (a0 + 1) (I a0 1).toNatClampNeg x2) a0 1 (((am_u I (a0 + 1) (I a0 1).toNatClampNeg x2) a0 1) + (nI 1))) a0 1)) J)) (am_g (am_inb x1 3) (am_g (am_inb ((x2 - (nI 10000)) - (nI 20)) 7) (am_g (am_inb ((x2 - (nI 10000)) - (nI 20)) 7) (am_g (am_inb x1 3) (Q .null (am_hp N r (am_u (am_u (am_u (am_u I (a0 + 1) (I a0 1).toNatClampNeg x2) a0 1 (((am_u I (a0 + 1) (I a0 1).toNatClampNeg x2) a0 1) + (nI 1))) (a0 + 3) x1.toNatClampNeg ((am_u (am_u I (a0 + 1) (I a0 1).toNatClampNeg x2) a0 1 (((am_u I (a0 + 1) (I a0 1).toNatClampNeg x2) a0 1) + (nI 1))) a0 1)) (a0 + 4) x1.toNatClampNeg (((am_u (am_u (am_u I (a0 + 1) (I a0 1).toNatClampNeg x2) a0 1 (((am_u I (a0 + 1) (I a0 1).toNatClampNeg x2) a0 1) + (nI 1))) (a0 + 3) x1.toNatClampNeg ((am_u (am_u I (a0 + 1) (I a0 1).toNatClampNeg x2) a0 1 (((am_u I (a0 + 1) (I a0 1).toNatClampNeg x2) a0 1) + (nI 1))) a0 1)) (a0 + 4) x1.toNatClampNeg) ||| (((am_u (am_u (am_u I (a0 + 1) (I a0 1).toNatClampNeg x2) a0 1 (((am_u I (a0 + 1) (I a0 1).toNatClampNeg x2) a0 1) + (nI 1))) (a0 + 3) x1.toNatClampNeg ((am_u (am_u I (a0 + 1) (I a0 1).toNatClampNeg x2) a0 1 (((am_u I (a0 + 1) (I a0 1).toNatClampNeg x2) a0 1) + (nI 1))) a0 1)) 2002 ((x2 - (nI 10000)) - (nI 20)).toNatClampNeg) <<< (((am_u (am_u (am_u I (a0 + 1) (I a0 1).toNatClampNeg x2) a0 1 (((am_u I (a0 + 1) (I a0 1).toNatClampNeg x2) a0 1) + (nI 1))) (a0 + 3) x1.toNatClampNeg ((am_u (am_u I (a0 + 1) (I a0 1).toNatClampNeg x2) a0 1 (((am_u I (a0 + 1) (I a0 1).toNatClampNeg x2) a0 1) + (nI 1))) a0 1)) 2001 ((x2 - (nI 10000)) - (nI 20)).toNatClampNeg) &&& nI 31)))) J)))))))))) (Q .null (am_hp N r I J)) :=
  by rcases h_a0 with rfl | rfl <;> exact (am_D_un rfl (fun p => false) 51).trans rfl
set_option maxRecDepth 100000 in
theorem e_Laws_isName {d : Nat} {Q : Value → am_H → Prop} {N : Nat} {I : Nat → Nat → Int32} {J : Nat → Nat → Int64} {x0 : Int32} {r : am_rho} : am_D (d + 1) 16 [.int x0] (am_hp N r I J) Q =
    am_if (decide (x0 < (nI 0))) (Q (.int (nI 0)) (am_hp N r I J)) (am_if (decide (((nI 7) : Int32) ≤ x0)) (Q (.int (nI 0)) (am_hp N r I J)) (Q (.int (nI 1)) (am_hp N r I J))) :=
  (am_D_un rfl (fun p => false) 11).trans rfl
set_option maxRecDepth 100000 in
theorem e_Laws_nameIn {d : Nat} {Q : Value → am_H → Prop} {N : Nat} {I : Nat → Nat → Int32} {J : Nat → Nat → Int64} {x0 : Int32} {x1 : Int32} {r : am_rho} : am_D (d + 1) 17 [.int x0, .int x1] (am_hp N r I J) Q =
    am_g (am_inb x1 7) (am_g (am_inb x1 7) (Q (.int ((x0 >>> ((I 2001 x1.toNatClampNeg) &&& nI 31)) &&& (I 2002 x1.toNatClampNeg))) (am_hp N r I J))) :=
  (am_D_un rfl (fun p => false) 12).trans rfl
set_option maxRecDepth 100000 in
theorem e_Reader_read {d : Nat} {Q : Value → am_H → Prop} {N : Nat} {I : Nat → Nat → Int32} {J : Nat → Nat → Int64} {x2 : Int32} {r : am_rho} {a1 : Nat} {a3 : Nat} (h_a1 : a1 = 2 ∨ a1 = 45) (h_a3 : a3 = 3 ∨ a3 = 23) : am_D (d + 1) 31 [.ref 43, .ref a1, .int x2, .ref a3] (am_hp N r I J) Q =
    am_D d 63 [.ref 44, .ref a1, .int x2] (140, am_TT N, (am_u (am_u (am_u (am_u I 43 3 (nI 0)) 43 5 (nI 0)) 43 6 (nI 0)) 43 7 (-nI 1)), J, (am_uR (am_RR r) 43 2 a3)) (fun v h => am_V d Q 31 34 [some (.ref 43), some (.ref a1), some (.int x2), some (.ref a3), none] [] h) :=
  by rcases h_a1 with rfl | rfl <;> rcases h_a3 with rfl | rfl <;> exact (am_D_un rfl (fun p => Nat.beq p 34 || Nat.beq p 37 || Nat.beq p 57 || Nat.beq p 66 || Nat.beq p 104) 22).trans rfl
set_option maxRecDepth 100000 in
theorem e_Reader_read_34 {d : Nat} {Q : Value → am_H → Prop} {N : Nat} {I : Nat → Nat → Int32} {J : Nat → Nat → Int64} {x2 : Int32} {r : am_rho} {a1 : Nat} {a3 : Nat} (h_a1 : a1 = 2 ∨ a1 = 45) (h_a3 : a3 = 3 ∨ a3 = 23) : am_V d Q 31 34 [some (.ref 43), some (.ref a1), some (.int x2), some (.ref a3), none] [] (am_hp N r I J) =
    am_V d Q 31 37 [some (.ref 43), some (.ref a1), some (.int x2), some (.ref a3), some (.int (nI 0))] [] (am_hp N r I J) :=
  by rcases h_a1 with rfl | rfl <;> rcases h_a3 with rfl | rfl <;> exact (am_V_un (fun p => Nat.beq p 34 || Nat.beq p 37 || Nat.beq p 57 || Nat.beq p 66 || Nat.beq p 104) 4).trans rfl
set_option maxRecDepth 100000 in
theorem e_Reader_read_37 {d : Nat} {Q : Value → am_H → Prop} {N : Nat} {I : Nat → Nat → Int32} {J : Nat → Nat → Int64} {x2 : Int32} {x4 : Int32} {rt rs rd rl rx nt nw nf : Nat} {a1 : Nat} {a3 : Nat} (h_a1 : a1 = 2 ∨ a1 = 45) (h_a3 : a3 = 3 ∨ a3 = 23) (h_rd : rd = 3 ∨ rd = 23) : am_V d Q 31 37 [some (.ref 43), some (.ref a1), some (.int x2), some (.ref a3), some (.int x4)] [] (am_hp N (rt, rs, rd, rl, rx, nt, nw, nf) I J) =
    am_if (decide (x2 ≤ x4)) (am_D d 79 [.ref (rd + 4), .ref (rd + 5)] (am_hp N (rt, rs, rd, rl, rx, nt, nw, nf) I J) (fun v h => am_V d Q 31 104 [some (.ref 43), some (.ref a1), some (.int x2), some (.ref a3), some (.int x4)] [] h)) (am_if (decide ((I 44 3) = (nI 0))) (am_D d 79 [.ref (rd + 4), .ref (rd + 5)] (am_hp N (rt, rs, rd, rl, rx, nt, nw, nf) I J) (fun v h => am_V d Q 31 104 [some (.ref 43), some (.ref a1), some (.int x2), some (.ref a3), some (.int x4)] [] h)) (am_D d 34 [.ref 43] (am_hp N (rt, rs, rd, rl, rx, nt, nw, nf) I J) (fun v h => am_asI v (fun y => am_V d Q 31 57 [some (.ref 43), some (.ref a1), some (.int x2), some (.ref a3), some (.int x4)] [.int y] h)))) :=
  by rcases h_a1 with rfl | rfl <;> rcases h_a3 with rfl | rfl <;> rcases h_rd with rfl | rfl <;> exact (am_V_un (fun p => Nat.beq p 34 || Nat.beq p 37 || Nat.beq p 57 || Nat.beq p 66 || Nat.beq p 104) 16).trans rfl
set_option maxRecDepth 100000 in
theorem e_Reader_read_57 {d : Nat} {Q : Value → am_H → Prop} {N : Nat} {I : Nat → Nat → Int32} {J : Nat → Nat → Int64} {x2 : Int32} {x4 : Int32} {y0 : Int32} {r : am_rho} {a1 : Nat} {a3 : Nat} (h_a1 : a1 = 2 ∨ a1 = 45) (h_a3 : a3 = 3 ∨ a3 = 23) : am_V d Q 31 57 [some (.ref 43), some (.ref a1), some (.int x2), some (.ref a3), some (.int x4)] [.int y0] (am_hp N r I J) =
    am_if (decide (y0 = (nI 0))) (Q (.int (nI 0)) (am_hp N r I J)) (am_D d 33 [.ref 43, .int (nI 27)] (am_hp N r I J) (fun v h => am_asI v (fun y => am_V d Q 31 66 [some (.ref 43), some (.ref a1), some (.int x2), some (.ref a3), some (.int x4)] [.int y] h))) :=
  by rcases h_a1 with rfl | rfl <;> rcases h_a3 with rfl | rfl <;> exact (am_V_un (fun p => Nat.beq p 34 || Nat.beq p 37 || Nat.beq p 57 || Nat.beq p 66 || Nat.beq p 104) 6).trans rfl
set_option maxRecDepth 100000 in
theorem e_Reader_read_66 {d : Nat} {Q : Value → am_H → Prop} {N : Nat} {I : Nat → Nat → Int32} {J : Nat → Nat → Int64} {x2 : Int32} {x4 : Int32} {y0 : Int32} {r : am_rho} {a1 : Nat} {a3 : Nat} (h_a1 : a1 = 2 ∨ a1 = 45) (h_a3 : a3 = 3 ∨ a3 = 23) : am_V d Q 31 66 [some (.ref 43), some (.ref a1), some (.int x2), some (.ref a3), some (.int x4)] [.int y0] (am_hp N r I J) =
    am_if (!(decide (y0 = (nI 0)))) (am_V d Q 31 37 [some (.ref 43), some (.ref a1), some (.int x2), some (.ref a3), some (.int (x4 + (nI 1)))] [] (am_hp N r (am_u I 43 5 ((I 43 5) + (nI 1))) J)) (Q (.int (nI 0)) (am_hp N r I J)) :=
  by rcases h_a1 with rfl | rfl <;> rcases h_a3 with rfl | rfl <;> exact (am_V_un (fun p => Nat.beq p 34 || Nat.beq p 37 || Nat.beq p 57 || Nat.beq p 66 || Nat.beq p 104) 11).trans rfl
set_option maxRecDepth 100000 in
theorem e_Reader_read_104 {d : Nat} {Q : Value → am_H → Prop} {N : Nat} {I : Nat → Nat → Int32} {J : Nat → Nat → Int64} {x2 : Int32} {x4 : Int32} {r : am_rho} {a1 : Nat} {a3 : Nat} (h_a1 : a1 = 2 ∨ a1 = 45) (h_a3 : a3 = 3 ∨ a3 = 23) : am_V d Q 31 104 [some (.ref 43), some (.ref a1), some (.int x2), some (.ref a3), some (.int x4)] [] (am_hp N r I J) =
    Q (.int (nI 1)) (am_hp N r I J) :=
  by rcases h_a1 with rfl | rfl <;> rcases h_a3 with rfl | rfl <;> exact (am_V_un (fun p => Nat.beq p 34 || Nat.beq p 37 || Nat.beq p 57 || Nat.beq p 66 || Nat.beq p 104) 4).trans rfl
set_option maxRecDepth 100000 in
theorem e_Reader_fail {d : Nat} {Q : Value → am_H → Prop} {N : Nat} {I : Nat → Nat → Int32} {J : Nat → Nat → Int64} {x1 : Int32} {r : am_rho} : am_D (d + 1) 32 [.ref 43, .int x1] (am_hp N r I J) Q =
    Q (.int (nI 0)) (am_hp N r (am_u (am_u I 43 6 x1) 43 7 ((am_u I 43 6 x1) 44 4)) J) :=
  (am_D_un rfl (fun p => false) 12).trans rfl
set_option maxRecDepth 100000 in
theorem e_Reader_pass {d : Nat} {Q : Value → am_H → Prop} {N : Nat} {I : Nat → Nat → Int32} {J : Nat → Nat → Int64} {x1 : Int32} {r : am_rho} : am_D (d + 1) 33 [.ref 43, .int x1] (am_hp N r I J) Q =
    am_if (decide ((I 44 3) = x1)) (am_D d 64 [.ref 44] (am_hp N r I J) (fun v h => am_V d Q 33 24 [some (.ref 43), some (.int x1)] [] h)) (am_D d 32 [.ref 43, .int (nI 1)] (am_hp N r I J) (fun v h => am_asI v (fun y => am_V d Q 33 16 [some (.ref 43), some (.int x1)] [.int y] h))) :=
  (am_D_un rfl (fun p => Nat.beq p 16 || Nat.beq p 24) 10).trans rfl
set_option maxRecDepth 100000 in
theorem e_Reader_pass_16 {d : Nat} {Q : Value → am_H → Prop} {N : Nat} {I : Nat → Nat → Int32} {J : Nat → Nat → Int64} {x1 : Int32} {y0 : Int32} {r : am_rho} : am_V d Q 33 16 [some (.ref 43), some (.int x1)] [.int y0] (am_hp N r I J) =
    am_g (am_bool y0) (Q (.int y0) (am_hp N r I J)) :=
  (am_V_un (fun p => Nat.beq p 16 || Nat.beq p 24) 3).trans rfl
set_option maxRecDepth 100000 in
theorem e_Reader_pass_24 {d : Nat} {Q : Value → am_H → Prop} {N : Nat} {I : Nat → Nat → Int32} {J : Nat → Nat → Int64} {x1 : Int32} {r : am_rho} : am_V d Q 33 24 [some (.ref 43), some (.int x1)] [] (am_hp N r I J) =
    Q (.int (nI 1)) (am_hp N r I J) :=
  (am_V_un (fun p => Nat.beq p 16 || Nat.beq p 24) 4).trans rfl
set_option maxRecDepth 100000 in
theorem e_Reader_readLine {d : Nat} {Q : Value → am_H → Prop} {N : Nat} {I : Nat → Nat → Int32} {J : Nat → Nat → Int64} {rt rs rd rl rx nt nw nf : Nat} (h_rd : rd = 3 ∨ rd = 23) : am_D (d + 1) 34 [.ref 43] (am_hp N (rt, rs, rd, rl, rx, nt, nw, nf) I J) Q =
    am_if (decide ((I 44 3) = (nI 4))) (am_D d 41 [.ref 43] (am_hp N (rt, rs, rd, rl, rx, nt, nw, nf) I J) (fun v h => am_asI v (fun y => am_V d Q 34 64 [some (.ref 43)] [.int y] h))) (am_if (decide ((I 44 3) = (nI 5))) (am_D d 42 [.ref 43] (am_hp N (rt, rs, rd, rl, rx, nt, nw, nf) I J) (fun v h => am_asI v (fun y => am_V d Q 34 69 [some (.ref 43)] [.int y] h))) (am_if (decide ((I 44 3) = (nI 6))) (am_D d 43 [.ref 43] (am_hp N (rt, rs, rd, rl, rx, nt, nw, nf) I J) (fun v h => am_asI v (fun y => am_V d Q 34 74 [some (.ref 43)] [.int y] h))) (am_if (decide ((I 44 3) = (nI 7))) (am_D d 44 [.ref 43] (am_hp N (rt, rs, rd, rl, rx, nt, nw, nf) I J) (fun v h => am_asI v (fun y => am_V d Q 34 79 [some (.ref 43)] [.int y] h))) (am_if (decide ((I 44 3) = (nI 8))) (am_D d 45 [.ref 43] (am_hp N (rt, rs, rd, rl, rx, nt, nw, nf) I J) (fun v h => am_asI v (fun y => am_V d Q 34 84 [some (.ref 43)] [.int y] h))) (am_if (decide ((I 44 3) = (nI 9))) (am_D d 46 [.ref 43, .ref (rd + 13)] (am_hp N (rt, rs, rd, rl, rx, nt, nw, nf) I J) (fun v h => am_asI v (fun y => am_V d Q 34 96 [some (.ref 43)] [.int y] h))) (am_if (decide ((I 44 3) = (nI 10))) (am_D d 47 [.ref 43] (am_hp N (rt, rs, rd, rl, rx, nt, nw, nf) I J) (fun v h => am_asI v (fun y => am_V d Q 34 101 [some (.ref 43)] [.int y] h))) (am_if (decide ((I 44 3) = (nI 11))) (am_D d 46 [.ref 43, .ref (rd + 14)] (am_hp N (rt, rs, rd, rl, rx, nt, nw, nf) I J) (fun v h => am_asI v (fun y => am_V d Q 34 113 [some (.ref 43)] [.int y] h))) (am_if (decide ((I 44 3) = (nI 12))) (am_D d 48 [.ref 43] (am_hp N (rt, rs, rd, rl, rx, nt, nw, nf) I J) (fun v h => am_asI v (fun y => am_V d Q 34 118 [some (.ref 43)] [.int y] h))) (am_if (decide ((I 44 3) = (nI 13))) (am_D d 49 [.ref 43] (am_hp N (rt, rs, rd, rl, rx, nt, nw, nf) I J) (fun v h => am_asI v (fun y => am_V d Q 34 123 [some (.ref 43)] [.int y] h))) (am_D d 32 [.ref 43, .int (nI 1)] (am_hp N (rt, rs, rd, rl, rx, nt, nw, nf) I J) (fun v h => am_asI v (fun y => am_V d Q 34 129 [some (.ref 43)] [.int y] h)))))))))))) :=
  by rcases h_rd with rfl | rfl <;> exact (am_D_un rfl (fun p => Nat.beq p 64 || Nat.beq p 69 || Nat.beq p 74 || Nat.beq p 79 || Nat.beq p 84 || Nat.beq p 96 || Nat.beq p 101 || Nat.beq p 113 || Nat.beq p 118 || Nat.beq p 123 || Nat.beq p 129) 11).trans rfl
set_option maxRecDepth 100000 in
theorem e_Reader_readLine_64 {d : Nat} {Q : Value → am_H → Prop} {N : Nat} {I : Nat → Nat → Int32} {J : Nat → Nat → Int64} {y0 : Int32} {r : am_rho} : am_V d Q 34 64 [some (.ref 43)] [.int y0] (am_hp N r I J) =
    am_g (am_bool y0) (Q (.int y0) (am_hp N r I J)) :=
  (am_V_un (fun p => Nat.beq p 64 || Nat.beq p 69 || Nat.beq p 74 || Nat.beq p 79 || Nat.beq p 84 || Nat.beq p 96 || Nat.beq p 101 || Nat.beq p 113 || Nat.beq p 118 || Nat.beq p 123 || Nat.beq p 129) 3).trans rfl
set_option maxRecDepth 100000 in
theorem e_Reader_readLine_69 {d : Nat} {Q : Value → am_H → Prop} {N : Nat} {I : Nat → Nat → Int32} {J : Nat → Nat → Int64} {y0 : Int32} {r : am_rho} : am_V d Q 34 69 [some (.ref 43)] [.int y0] (am_hp N r I J) =
    am_g (am_bool y0) (Q (.int y0) (am_hp N r I J)) :=
  (am_V_un (fun p => Nat.beq p 64 || Nat.beq p 69 || Nat.beq p 74 || Nat.beq p 79 || Nat.beq p 84 || Nat.beq p 96 || Nat.beq p 101 || Nat.beq p 113 || Nat.beq p 118 || Nat.beq p 123 || Nat.beq p 129) 3).trans rfl
set_option maxRecDepth 100000 in
theorem e_Reader_readLine_74 {d : Nat} {Q : Value → am_H → Prop} {N : Nat} {I : Nat → Nat → Int32} {J : Nat → Nat → Int64} {y0 : Int32} {r : am_rho} : am_V d Q 34 74 [some (.ref 43)] [.int y0] (am_hp N r I J) =
    am_g (am_bool y0) (Q (.int y0) (am_hp N r I J)) :=
  (am_V_un (fun p => Nat.beq p 64 || Nat.beq p 69 || Nat.beq p 74 || Nat.beq p 79 || Nat.beq p 84 || Nat.beq p 96 || Nat.beq p 101 || Nat.beq p 113 || Nat.beq p 118 || Nat.beq p 123 || Nat.beq p 129) 3).trans rfl
set_option maxRecDepth 100000 in
theorem e_Reader_readLine_79 {d : Nat} {Q : Value → am_H → Prop} {N : Nat} {I : Nat → Nat → Int32} {J : Nat → Nat → Int64} {y0 : Int32} {r : am_rho} : am_V d Q 34 79 [some (.ref 43)] [.int y0] (am_hp N r I J) =
    am_g (am_bool y0) (Q (.int y0) (am_hp N r I J)) :=
  (am_V_un (fun p => Nat.beq p 64 || Nat.beq p 69 || Nat.beq p 74 || Nat.beq p 79 || Nat.beq p 84 || Nat.beq p 96 || Nat.beq p 101 || Nat.beq p 113 || Nat.beq p 118 || Nat.beq p 123 || Nat.beq p 129) 3).trans rfl
set_option maxRecDepth 100000 in
theorem e_Reader_readLine_84 {d : Nat} {Q : Value → am_H → Prop} {N : Nat} {I : Nat → Nat → Int32} {J : Nat → Nat → Int64} {y0 : Int32} {r : am_rho} : am_V d Q 34 84 [some (.ref 43)] [.int y0] (am_hp N r I J) =
    am_g (am_bool y0) (Q (.int y0) (am_hp N r I J)) :=
  (am_V_un (fun p => Nat.beq p 64 || Nat.beq p 69 || Nat.beq p 74 || Nat.beq p 79 || Nat.beq p 84 || Nat.beq p 96 || Nat.beq p 101 || Nat.beq p 113 || Nat.beq p 118 || Nat.beq p 123 || Nat.beq p 129) 3).trans rfl
set_option maxRecDepth 100000 in
theorem e_Reader_readLine_96 {d : Nat} {Q : Value → am_H → Prop} {N : Nat} {I : Nat → Nat → Int32} {J : Nat → Nat → Int64} {y0 : Int32} {r : am_rho} : am_V d Q 34 96 [some (.ref 43)] [.int y0] (am_hp N r I J) =
    am_g (am_bool y0) (Q (.int y0) (am_hp N r I J)) :=
  (am_V_un (fun p => Nat.beq p 64 || Nat.beq p 69 || Nat.beq p 74 || Nat.beq p 79 || Nat.beq p 84 || Nat.beq p 96 || Nat.beq p 101 || Nat.beq p 113 || Nat.beq p 118 || Nat.beq p 123 || Nat.beq p 129) 3).trans rfl
set_option maxRecDepth 100000 in
theorem e_Reader_readLine_101 {d : Nat} {Q : Value → am_H → Prop} {N : Nat} {I : Nat → Nat → Int32} {J : Nat → Nat → Int64} {y0 : Int32} {r : am_rho} : am_V d Q 34 101 [some (.ref 43)] [.int y0] (am_hp N r I J) =
    am_g (am_bool y0) (Q (.int y0) (am_hp N r I J)) :=
  (am_V_un (fun p => Nat.beq p 64 || Nat.beq p 69 || Nat.beq p 74 || Nat.beq p 79 || Nat.beq p 84 || Nat.beq p 96 || Nat.beq p 101 || Nat.beq p 113 || Nat.beq p 118 || Nat.beq p 123 || Nat.beq p 129) 3).trans rfl
set_option maxRecDepth 100000 in
theorem e_Reader_readLine_113 {d : Nat} {Q : Value → am_H → Prop} {N : Nat} {I : Nat → Nat → Int32} {J : Nat → Nat → Int64} {y0 : Int32} {r : am_rho} : am_V d Q 34 113 [some (.ref 43)] [.int y0] (am_hp N r I J) =
    am_g (am_bool y0) (Q (.int y0) (am_hp N r I J)) :=
  (am_V_un (fun p => Nat.beq p 64 || Nat.beq p 69 || Nat.beq p 74 || Nat.beq p 79 || Nat.beq p 84 || Nat.beq p 96 || Nat.beq p 101 || Nat.beq p 113 || Nat.beq p 118 || Nat.beq p 123 || Nat.beq p 129) 3).trans rfl
set_option maxRecDepth 100000 in
theorem e_Reader_readLine_118 {d : Nat} {Q : Value → am_H → Prop} {N : Nat} {I : Nat → Nat → Int32} {J : Nat → Nat → Int64} {y0 : Int32} {r : am_rho} : am_V d Q 34 118 [some (.ref 43)] [.int y0] (am_hp N r I J) =
    am_g (am_bool y0) (Q (.int y0) (am_hp N r I J)) :=
  (am_V_un (fun p => Nat.beq p 64 || Nat.beq p 69 || Nat.beq p 74 || Nat.beq p 79 || Nat.beq p 84 || Nat.beq p 96 || Nat.beq p 101 || Nat.beq p 113 || Nat.beq p 118 || Nat.beq p 123 || Nat.beq p 129) 3).trans rfl
set_option maxRecDepth 100000 in
theorem e_Reader_readLine_123 {d : Nat} {Q : Value → am_H → Prop} {N : Nat} {I : Nat → Nat → Int32} {J : Nat → Nat → Int64} {y0 : Int32} {r : am_rho} : am_V d Q 34 123 [some (.ref 43)] [.int y0] (am_hp N r I J) =
    am_g (am_bool y0) (Q (.int y0) (am_hp N r I J)) :=
  (am_V_un (fun p => Nat.beq p 64 || Nat.beq p 69 || Nat.beq p 74 || Nat.beq p 79 || Nat.beq p 84 || Nat.beq p 96 || Nat.beq p 101 || Nat.beq p 113 || Nat.beq p 118 || Nat.beq p 123 || Nat.beq p 129) 3).trans rfl
set_option maxRecDepth 100000 in
theorem e_Reader_readLine_129 {d : Nat} {Q : Value → am_H → Prop} {N : Nat} {I : Nat → Nat → Int32} {J : Nat → Nat → Int64} {y0 : Int32} {r : am_rho} : am_V d Q 34 129 [some (.ref 43)] [.int y0] (am_hp N r I J) =
    am_g (am_bool y0) (Q (.int y0) (am_hp N r I J)) :=
  (am_V_un (fun p => Nat.beq p 64 || Nat.beq p 69 || Nat.beq p 74 || Nat.beq p 79 || Nat.beq p 84 || Nat.beq p 96 || Nat.beq p 101 || Nat.beq p 113 || Nat.beq p 118 || Nat.beq p 123 || Nat.beq p 129) 3).trans rfl
set_option maxRecDepth 100000 in
theorem e_Reader_oneMore {d : Nat} {Q : Value → am_H → Prop} {N : Nat} {I : Nat → Nat → Int32} {J : Nat → Nat → Int64} {x1 : Int32} {x2 : Int32} {r : am_rho} : am_D (d + 1) 35 [.ref 43, .int x1, .int x2] (am_hp N r I J) Q =
    am_if (decide (x1 < x2)) (am_D d 64 [.ref 44] (am_hp N r I J) (fun v h => am_V d Q 35 18 [some (.ref 43), some (.int x1), some (.int x2)] [] h)) (am_D d 32 [.ref 43, .int (nI 2)] (am_hp N r I J) (fun v h => am_asI v (fun y => am_V d Q 35 10 [some (.ref 43), some (.int x1), some (.int x2)] [.int y] h))) :=
  (am_D_un rfl (fun p => Nat.beq p 10 || Nat.beq p 18) 8).trans rfl
set_option maxRecDepth 100000 in
theorem e_Reader_oneMore_10 {d : Nat} {Q : Value → am_H → Prop} {N : Nat} {I : Nat → Nat → Int32} {J : Nat → Nat → Int64} {x1 : Int32} {x2 : Int32} {y0 : Int32} {r : am_rho} : am_V d Q 35 10 [some (.ref 43), some (.int x1), some (.int x2)] [.int y0] (am_hp N r I J) =
    am_g (am_bool y0) (Q (.int y0) (am_hp N r I J)) :=
  (am_V_un (fun p => Nat.beq p 10 || Nat.beq p 18) 3).trans rfl
set_option maxRecDepth 100000 in
theorem e_Reader_oneMore_18 {d : Nat} {Q : Value → am_H → Prop} {N : Nat} {I : Nat → Nat → Int32} {J : Nat → Nat → Int64} {x1 : Int32} {x2 : Int32} {r : am_rho} : am_V d Q 35 18 [some (.ref 43), some (.int x1), some (.int x2)] [] (am_hp N r I J) =
    Q (.int (nI 1)) (am_hp N r I J) :=
  (am_V_un (fun p => Nat.beq p 10 || Nat.beq p 18) 4).trans rfl
set_option maxRecDepth 100000 in
theorem e_Reader_isNew {d : Nat} {Q : Value → am_H → Prop} {N : Nat} {I : Nat → Nat → Int32} {J : Nat → Nat → Int64} {a1 : Nat} {x2 : Int32} {r : am_rho} : am_D (d + 1) 36 [.ref 43, .ref a1, .int x2] (am_hp N r I J) Q =
    am_if (decide ((I 44 3) = (nI 3))) (am_D d 157 [.int ((am_u I 43 4 (I 44 5)) 43 4), .ref a1, .int x2] (am_hp N r (am_u I 43 4 (I 44 5)) J) (fun v h => am_asI v (fun y => am_V d Q 36 37 [some (.ref 43), some (.ref a1), some (.int x2)] [.int y] h))) (am_D d 32 [.ref 43, .int (nI 1)] (am_hp N r I J) (fun v h => am_asI v (fun y => am_V d Q 36 16 [some (.ref 43), some (.ref a1), some (.int x2)] [.int y] h))) :=
  (am_D_un rfl (fun p => Nat.beq p 16 || Nat.beq p 37 || Nat.beq p 46) 17).trans rfl
set_option maxRecDepth 100000 in
theorem e_Reader_isNew_16 {d : Nat} {Q : Value → am_H → Prop} {N : Nat} {I : Nat → Nat → Int32} {J : Nat → Nat → Int64} {a1 : Nat} {x2 : Int32} {y0 : Int32} {r : am_rho} : am_V d Q 36 16 [some (.ref 43), some (.ref a1), some (.int x2)] [.int y0] (am_hp N r I J) =
    am_g (am_bool y0) (Q (.int y0) (am_hp N r I J)) :=
  (am_V_un (fun p => Nat.beq p 16 || Nat.beq p 37 || Nat.beq p 46) 3).trans rfl
set_option maxRecDepth 100000 in
theorem e_Reader_isNew_37 {d : Nat} {Q : Value → am_H → Prop} {N : Nat} {I : Nat → Nat → Int32} {J : Nat → Nat → Int64} {a1 : Nat} {x2 : Int32} {y0 : Int32} {r : am_rho} : am_V d Q 36 37 [some (.ref 43), some (.ref a1), some (.int x2)] [.int y0] (am_hp N r I J) =
    am_if (decide (y0 = (-nI 1))) (Q (.int (nI 1)) (am_hp N r I J)) (am_D d 32 [.ref 43, .int (nI 3)] (am_hp N r I J) (fun v h => am_asI v (fun y => am_V d Q 36 46 [some (.ref 43), some (.ref a1), some (.int x2)] [.int y] h))) :=
  (am_V_un (fun p => Nat.beq p 16 || Nat.beq p 37 || Nat.beq p 46) 7).trans rfl
set_option maxRecDepth 100000 in
theorem e_Reader_isNew_46 {d : Nat} {Q : Value → am_H → Prop} {N : Nat} {I : Nat → Nat → Int32} {J : Nat → Nat → Int64} {a1 : Nat} {x2 : Int32} {y0 : Int32} {r : am_rho} : am_V d Q 36 46 [some (.ref 43), some (.ref a1), some (.int x2)] [.int y0] (am_hp N r I J) =
    am_if (decide (y0 = (nI 0))) (Q (.int (nI 0)) (am_hp N r I J)) (Q (.int (nI 1)) (am_hp N r I J)) :=
  (am_V_un (fun p => Nat.beq p 16 || Nat.beq p 37 || Nat.beq p 46) 6).trans rfl
set_option maxRecDepth 100000 in
theorem e_Reader_isTold {d : Nat} {Q : Value → am_H → Prop} {N : Nat} {I : Nat → Nat → Int32} {J : Nat → Nat → Int64} {a1 : Nat} {x2 : Int32} {r : am_rho} : am_D (d + 1) 37 [.ref 43, .ref a1, .int x2] (am_hp N r I J) Q =
    am_if (decide ((I 44 3) = (nI 3))) (am_D d 157 [.int (I 44 5), .ref a1, .int x2] (am_hp N r I J) (fun v h => am_asI v (fun y => am_V d Q 37 30 [some (.ref 43), some (.ref a1), some (.int x2)] [.int y, .ref 43] h))) (am_D d 32 [.ref 43, .int (nI 1)] (am_hp N r I J) (fun v h => am_asI v (fun y => am_V d Q 37 16 [some (.ref 43), some (.ref a1), some (.int x2)] [.int y] h))) :=
  (am_D_un rfl (fun p => Nat.beq p 16 || Nat.beq p 30 || Nat.beq p 46) 14).trans rfl
set_option maxRecDepth 100000 in
theorem e_Reader_isTold_16 {d : Nat} {Q : Value → am_H → Prop} {N : Nat} {I : Nat → Nat → Int32} {J : Nat → Nat → Int64} {a1 : Nat} {x2 : Int32} {y0 : Int32} {r : am_rho} : am_V d Q 37 16 [some (.ref 43), some (.ref a1), some (.int x2)] [.int y0] (am_hp N r I J) =
    am_g (am_bool y0) (Q (.int y0) (am_hp N r I J)) :=
  (am_V_un (fun p => Nat.beq p 16 || Nat.beq p 30 || Nat.beq p 46) 3).trans rfl
set_option maxRecDepth 100000 in
theorem e_Reader_isTold_30 {d : Nat} {Q : Value → am_H → Prop} {N : Nat} {I : Nat → Nat → Int32} {J : Nat → Nat → Int64} {a1 : Nat} {x2 : Int32} {y1 : Int32} {r : am_rho} : am_V d Q 37 30 [some (.ref 43), some (.ref a1), some (.int x2)] [.int y1, .ref 43] (am_hp N r I J) =
    am_if (!(decide (((am_u I 43 4 y1) 43 4) = (-nI 1)))) (Q (.int (nI 1)) (am_hp N r (am_u I 43 4 y1) J)) (am_D d 32 [.ref 43, .int (nI 4)] (am_hp N r (am_u I 43 4 y1) J) (fun v h => am_asI v (fun y => am_V d Q 37 46 [some (.ref 43), some (.ref a1), some (.int x2)] [.int y] h))) :=
  (am_V_un (fun p => Nat.beq p 16 || Nat.beq p 30 || Nat.beq p 46) 10).trans rfl
set_option maxRecDepth 100000 in
theorem e_Reader_isTold_46 {d : Nat} {Q : Value → am_H → Prop} {N : Nat} {I : Nat → Nat → Int32} {J : Nat → Nat → Int64} {a1 : Nat} {x2 : Int32} {y0 : Int32} {r : am_rho} : am_V d Q 37 46 [some (.ref 43), some (.ref a1), some (.int x2)] [.int y0] (am_hp N r I J) =
    am_if (decide (y0 = (nI 0))) (Q (.int (nI 0)) (am_hp N r I J)) (Q (.int (nI 1)) (am_hp N r I J)) :=
  (am_V_un (fun p => Nat.beq p 16 || Nat.beq p 30 || Nat.beq p 46) 6).trans rfl
set_option maxRecDepth 100000 in
theorem e_Reader_isToldHouse {d : Nat} {Q : Value → am_H → Prop} {N : Nat} {I : Nat → Nat → Int32} {J : Nat → Nat → Int64} {rt rs rd rl rx nt nw nf : Nat} (h_rd : rd = 3 ∨ rd = 23) : am_D (d + 1) 38 [.ref 43] (am_hp N (rt, rs, rd, rl, rx, nt, nw, nf) I J) Q =
    am_D d 37 [.ref 43, .ref (rd + 1), .int (I rd 0)] (am_hp N (rt, rs, rd, rl, rx, nt, nw, nf) I J) (fun v h => am_asI v (fun y => am_V d Q 38 18 [some (.ref 43)] [.int y] h)) :=
  by rcases h_rd with rfl | rfl <;> exact (am_D_un rfl (fun p => Nat.beq p 18) 10).trans rfl
set_option maxRecDepth 100000 in
theorem e_Reader_isToldHouse_18 {d : Nat} {Q : Value → am_H → Prop} {N : Nat} {I : Nat → Nat → Int32} {J : Nat → Nat → Int64} {y0 : Int32} {r : am_rho} : am_V d Q 38 18 [some (.ref 43)] [.int y0] (am_hp N r I J) =
    am_g (am_bool y0) (Q (.int y0) (am_hp N r I J)) :=
  (am_V_un (fun p => Nat.beq p 18) 3).trans rfl
set_option maxRecDepth 100000 in
theorem e_Reader_takeHouse {d : Nat} {Q : Value → am_H → Prop} {N : Nat} {I : Nat → Nat → Int32} {J : Nat → Nat → Int64} {r : am_rho} : am_D (d + 1) 39 [.ref 43] (am_hp N r I J) Q =
    am_D d 38 [.ref 43] (am_hp N r I J) (fun v h => am_asI v (fun y => am_V d Q 39 4 [some (.ref 43)] [.int y] h)) :=
  (am_D_un rfl (fun p => Nat.beq p 4 || Nat.beq p 16) 4).trans rfl
set_option maxRecDepth 100000 in
theorem e_Reader_takeHouse_4 {d : Nat} {Q : Value → am_H → Prop} {N : Nat} {I : Nat → Nat → Int32} {J : Nat → Nat → Int64} {y0 : Int32} {r : am_rho} : am_V d Q 39 4 [some (.ref 43)] [.int y0] (am_hp N r I J) =
    am_if (!(decide (y0 = (nI 0)))) (am_D d 64 [.ref 44] (am_hp N r I J) (fun v h => am_V d Q 39 16 [some (.ref 43)] [] h)) (Q (.int (nI 0)) (am_hp N r I J)) :=
  (am_V_un (fun p => Nat.beq p 4 || Nat.beq p 16) 6).trans rfl
set_option maxRecDepth 100000 in
theorem e_Reader_takeHouse_16 {d : Nat} {Q : Value → am_H → Prop} {N : Nat} {I : Nat → Nat → Int32} {J : Nat → Nat → Int64} {r : am_rho} : am_V d Q 39 16 [some (.ref 43)] [] (am_hp N r I J) =
    Q (.int (nI 1)) (am_hp N r I J) :=
  (am_V_un (fun p => Nat.beq p 4 || Nat.beq p 16) 4).trans rfl
set_option maxRecDepth 100000 in
theorem e_Reader_takeNumber {d : Nat} {Q : Value → am_H → Prop} {N : Nat} {I : Nat → Nat → Int32} {J : Nat → Nat → Int64} {x1 : Int32} {x2 : Int32} {r : am_rho} : am_D (d + 1) 40 [.ref 43, .int x1, .int x2] (am_hp N r I J) Q =
    am_if (decide ((I 44 3) = (nI 2))) (am_if (decide (((am_u I 43 4 (I 44 5)) 43 4) < x1)) (am_D d 32 [.ref 43, .int (nI 2)] (am_hp N r (am_u I 43 4 (I 44 5)) J) (fun v h => am_asI v (fun y => am_V d Q 40 49 [some (.ref 43), some (.int x1), some (.int x2)] [.int y] h))) (am_if (decide (((am_u I 43 4 (I 44 5)) 43 4) ≤ x2)) (am_D d 64 [.ref 44] (am_hp N r (am_u I 43 4 (I 44 5)) J) (fun v h => am_V d Q 40 57 [some (.ref 43), some (.int x1), some (.int x2)] [] h)) (am_D d 32 [.ref 43, .int (nI 2)] (am_hp N r (am_u I 43 4 (I 44 5)) J) (fun v h => am_asI v (fun y => am_V d Q 40 49 [some (.ref 43), some (.int x1), some (.int x2)] [.int y] h))))) (am_D d 32 [.ref 43, .int (nI 1)] (am_hp N r I J) (fun v h => am_asI v (fun y => am_V d Q 40 16 [some (.ref 43), some (.int x1), some (.int x2)] [.int y] h))) :=
  (am_D_un rfl (fun p => Nat.beq p 16 || Nat.beq p 49 || Nat.beq p 57) 23).trans rfl
set_option maxRecDepth 100000 in
theorem e_Reader_takeNumber_16 {d : Nat} {Q : Value → am_H → Prop} {N : Nat} {I : Nat → Nat → Int32} {J : Nat → Nat → Int64} {x1 : Int32} {x2 : Int32} {y0 : Int32} {r : am_rho} : am_V d Q 40 16 [some (.ref 43), some (.int x1), some (.int x2)] [.int y0] (am_hp N r I J) =
    am_g (am_bool y0) (Q (.int y0) (am_hp N r I J)) :=
  (am_V_un (fun p => Nat.beq p 16 || Nat.beq p 49 || Nat.beq p 57) 3).trans rfl
set_option maxRecDepth 100000 in
theorem e_Reader_takeNumber_49 {d : Nat} {Q : Value → am_H → Prop} {N : Nat} {I : Nat → Nat → Int32} {J : Nat → Nat → Int64} {x1 : Int32} {x2 : Int32} {y0 : Int32} {r : am_rho} : am_V d Q 40 49 [some (.ref 43), some (.int x1), some (.int x2)] [.int y0] (am_hp N r I J) =
    am_g (am_bool y0) (Q (.int y0) (am_hp N r I J)) :=
  (am_V_un (fun p => Nat.beq p 16 || Nat.beq p 49 || Nat.beq p 57) 3).trans rfl
set_option maxRecDepth 100000 in
theorem e_Reader_takeNumber_57 {d : Nat} {Q : Value → am_H → Prop} {N : Nat} {I : Nat → Nat → Int32} {J : Nat → Nat → Int64} {x1 : Int32} {x2 : Int32} {r : am_rho} : am_V d Q 40 57 [some (.ref 43), some (.int x1), some (.int x2)] [] (am_hp N r I J) =
    Q (.int (nI 1)) (am_hp N r I J) :=
  (am_V_un (fun p => Nat.beq p 16 || Nat.beq p 49 || Nat.beq p 57) 4).trans rfl
set_option maxRecDepth 100000 in
theorem e_Reader_readHouse {d : Nat} {Q : Value → am_H → Prop} {N : Nat} {I : Nat → Nat → Int32} {J : Nat → Nat → Int64} {rt rs rd rl rx nt nw nf : Nat} (h_rd : rd = 3 ∨ rd = 23) : am_D (d + 1) 41 [.ref 43] (am_hp N (rt, rs, rd, rl, rx, nt, nw, nf) I J) Q =
    am_D d 35 [.ref 43, .int (I rd 0), .int (nI 8)] (am_hp N (rt, rs, rd, rl, rx, nt, nw, nf) I J) (fun v h => am_asI v (fun y => am_V d Q 41 13 [some (.ref 43)] [.int y] h)) :=
  by rcases h_rd with rfl | rfl <;> exact (am_D_un rfl (fun p => Nat.beq p 13 || Nat.beq p 34 || Nat.beq p 78) 8).trans rfl
set_option maxRecDepth 100000 in
theorem e_Reader_readHouse_13 {d : Nat} {Q : Value → am_H → Prop} {N : Nat} {I : Nat → Nat → Int32} {J : Nat → Nat → Int64} {y0 : Int32} {rt rs rd rl rx nt nw nf : Nat} (h_rd : rd = 3 ∨ rd = 23) : am_V d Q 41 13 [some (.ref 43)] [.int y0] (am_hp N (rt, rs, rd, rl, rx, nt, nw, nf) I J) =
    am_if (decide (y0 = (nI 0))) (Q (.int (nI 0)) (am_hp N (rt, rs, rd, rl, rx, nt, nw, nf) I J)) (am_D d 36 [.ref 43, .ref (rd + 1), .int (I rd 0)] (am_hp N (rt, rs, rd, rl, rx, nt, nw, nf) I J) (fun v h => am_asI v (fun y => am_V d Q 41 34 [some (.ref 43)] [.int y] h))) :=
  by rcases h_rd with rfl | rfl <;> exact (am_V_un (fun p => Nat.beq p 13 || Nat.beq p 34 || Nat.beq p 78) 11).trans rfl
set_option maxRecDepth 100000 in
theorem e_Reader_readHouse_34 {d : Nat} {Q : Value → am_H → Prop} {N : Nat} {I : Nat → Nat → Int32} {J : Nat → Nat → Int64} {y0 : Int32} {rt rs rd rl rx nt nw nf : Nat} (h_rd : rd = 3 ∨ rd = 23) : am_V d Q 41 34 [some (.ref 43)] [.int y0] (am_hp N (rt, rs, rd, rl, rx, nt, nw, nf) I J) =
    am_if (!(decide (y0 = (nI 0)))) (am_g (am_inb (I rd 0) 8) (am_D d 64 [.ref 44] (am_hp N (rt, rs, rd, rl, rx, nt, nw, nf) (am_u (am_u I (rd + 1) (I rd 0).toNatClampNeg (I 43 4)) rd 0 (((am_u I (rd + 1) (I rd 0).toNatClampNeg (I 43 4)) rd 0) + (nI 1))) J) (fun v h => am_V d Q 41 78 [some (.ref 43)] [] h))) (Q (.int (nI 0)) (am_hp N (rt, rs, rd, rl, rx, nt, nw, nf) I J)) :=
  by rcases h_rd with rfl | rfl <;> exact (am_V_un (fun p => Nat.beq p 13 || Nat.beq p 34 || Nat.beq p 78) 22).trans rfl
set_option maxRecDepth 100000 in
theorem e_Reader_readHouse_78 {d : Nat} {Q : Value → am_H → Prop} {N : Nat} {I : Nat → Nat → Int32} {J : Nat → Nat → Int64} {r : am_rho} : am_V d Q 41 78 [some (.ref 43)] [] (am_hp N r I J) =
    Q (.int (nI 1)) (am_hp N r I J) :=
  (am_V_un (fun p => Nat.beq p 13 || Nat.beq p 34 || Nat.beq p 78) 4).trans rfl
set_option maxRecDepth 100000 in
theorem e_Reader_readStreet {d : Nat} {Q : Value → am_H → Prop} {N : Nat} {I : Nat → Nat → Int32} {J : Nat → Nat → Int64} {rt rs rd rl rx nt nw nf : Nat} (h_rd : rd = 3 ∨ rd = 23) : am_D (d + 1) 42 [.ref 43] (am_hp N (rt, rs, rd, rl, rx, nt, nw, nf) I J) Q =
    am_D d 35 [.ref 43, .int (I rd 1), .int (nI 12)] (am_hp N (rt, rs, rd, rl, rx, nt, nw, nf) I J) (fun v h => am_asI v (fun y => am_V d Q 42 13 [some (.ref 43), none, none] [.int y] h)) :=
  by rcases h_rd with rfl | rfl <;> exact (am_D_un rfl (fun p => Nat.beq p 13 || Nat.beq p 20 || Nat.beq p 34 || Nat.beq p 54 || Nat.beq p 77 || Nat.beq p 85 || Nat.beq p 92 || Nat.beq p 110) 8).trans rfl
set_option maxRecDepth 100000 in
theorem e_Reader_readStreet_13 {d : Nat} {Q : Value → am_H → Prop} {N : Nat} {I : Nat → Nat → Int32} {J : Nat → Nat → Int64} {y0 : Int32} {r : am_rho} : am_V d Q 42 13 [some (.ref 43), none, none] [.int y0] (am_hp N r I J) =
    am_if (decide (y0 = (nI 0))) (Q (.int (nI 0)) (am_hp N r I J)) (am_D d 39 [.ref 43] (am_hp N r I J) (fun v h => am_asI v (fun y => am_V d Q 42 20 [some (.ref 43), none, none] [.int y] h))) :=
  (am_V_un (fun p => Nat.beq p 13 || Nat.beq p 20 || Nat.beq p 34 || Nat.beq p 54 || Nat.beq p 77 || Nat.beq p 85 || Nat.beq p 92 || Nat.beq p 110) 5).trans rfl
set_option maxRecDepth 100000 in
theorem e_Reader_readStreet_20 {d : Nat} {Q : Value → am_H → Prop} {N : Nat} {I : Nat → Nat → Int32} {J : Nat → Nat → Int64} {y0 : Int32} {r : am_rho} : am_V d Q 42 20 [some (.ref 43), none, none] [.int y0] (am_hp N r I J) =
    am_if (!(decide (y0 = (nI 0)))) (am_D d 38 [.ref 43] (am_hp N r I J) (fun v h => am_asI v (fun y => am_V d Q 42 34 [some (.ref 43), some (.int (I 43 4)), none] [.int y] h))) (Q (.int (nI 0)) (am_hp N r I J)) :=
  (am_V_un (fun p => Nat.beq p 13 || Nat.beq p 20 || Nat.beq p 34 || Nat.beq p 54 || Nat.beq p 77 || Nat.beq p 85 || Nat.beq p 92 || Nat.beq p 110) 8).trans rfl
set_option maxRecDepth 100000 in
theorem e_Reader_readStreet_34 {d : Nat} {Q : Value → am_H → Prop} {N : Nat} {I : Nat → Nat → Int32} {J : Nat → Nat → Int64} {x1 : Int32} {y0 : Int32} {rt rs rd rl rx nt nw nf : Nat} (h_rd : rd = 3 ∨ rd = 23) : am_V d Q 42 34 [some (.ref 43), some (.int x1), none] [.int y0] (am_hp N (rt, rs, rd, rl, rx, nt, nw, nf) I J) =
    am_if (!(decide (y0 = (nI 0)))) (am_if (!(decide (x1 = (I 43 4)))) (am_g (am_inb ((x1 * (nI 8)) + (I 43 4)) 64) (am_if (decide ((I (rd + 4) ((x1 * (nI 8)) + (I 43 4)).toNatClampNeg) ≤ (nI 0))) (am_D d 64 [.ref 44] (am_hp N (rt, rs, rd, rl, rx, nt, nw, nf) I J) (fun v h => am_V d Q 42 85 [some (.ref 43), some (.int x1), some (.int (I 43 4))] [] h)) (am_D d 32 [.ref 43, .int (nI 3)] (am_hp N (rt, rs, rd, rl, rx, nt, nw, nf) I J) (fun v h => am_asI v (fun y => am_V d Q 42 77 [some (.ref 43), some (.int x1), some (.int (I 43 4))] [.int y] h))))) (am_D d 32 [.ref 43, .int (nI 5)] (am_hp N (rt, rs, rd, rl, rx, nt, nw, nf) I J) (fun v h => am_asI v (fun y => am_V d Q 42 54 [some (.ref 43), some (.int x1), some (.int (I 43 4))] [.int y] h)))) (Q (.int (nI 0)) (am_hp N (rt, rs, rd, rl, rx, nt, nw, nf) I J)) :=
  by rcases h_rd with rfl | rfl <;> exact (am_V_un (fun p => Nat.beq p 13 || Nat.beq p 20 || Nat.beq p 34 || Nat.beq p 54 || Nat.beq p 77 || Nat.beq p 85 || Nat.beq p 92 || Nat.beq p 110) 22).trans rfl
set_option maxRecDepth 100000 in
theorem e_Reader_readStreet_54 {d : Nat} {Q : Value → am_H → Prop} {N : Nat} {I : Nat → Nat → Int32} {J : Nat → Nat → Int64} {x1 : Int32} {x2 : Int32} {y0 : Int32} {r : am_rho} : am_V d Q 42 54 [some (.ref 43), some (.int x1), some (.int x2)] [.int y0] (am_hp N r I J) =
    am_g (am_bool y0) (Q (.int y0) (am_hp N r I J)) :=
  (am_V_un (fun p => Nat.beq p 13 || Nat.beq p 20 || Nat.beq p 34 || Nat.beq p 54 || Nat.beq p 77 || Nat.beq p 85 || Nat.beq p 92 || Nat.beq p 110) 3).trans rfl
set_option maxRecDepth 100000 in
theorem e_Reader_readStreet_77 {d : Nat} {Q : Value → am_H → Prop} {N : Nat} {I : Nat → Nat → Int32} {J : Nat → Nat → Int64} {x1 : Int32} {x2 : Int32} {y0 : Int32} {r : am_rho} : am_V d Q 42 77 [some (.ref 43), some (.int x1), some (.int x2)] [.int y0] (am_hp N r I J) =
    am_g (am_bool y0) (Q (.int y0) (am_hp N r I J)) :=
  (am_V_un (fun p => Nat.beq p 13 || Nat.beq p 20 || Nat.beq p 34 || Nat.beq p 54 || Nat.beq p 77 || Nat.beq p 85 || Nat.beq p 92 || Nat.beq p 110) 3).trans rfl
set_option maxRecDepth 100000 in
theorem e_Reader_readStreet_85 {d : Nat} {Q : Value → am_H → Prop} {N : Nat} {I : Nat → Nat → Int32} {J : Nat → Nat → Int64} {x1 : Int32} {x2 : Int32} {r : am_rho} : am_V d Q 42 85 [some (.ref 43), some (.int x1), some (.int x2)] [] (am_hp N r I J) =
    am_D d 40 [.ref 43, .int (nI 1), .int (nI 9)] (am_hp N r I J) (fun v h => am_asI v (fun y => am_V d Q 42 92 [some (.ref 43), some (.int x1), some (.int x2)] [.int y] h)) :=
  (am_V_un (fun p => Nat.beq p 13 || Nat.beq p 20 || Nat.beq p 34 || Nat.beq p 54 || Nat.beq p 77 || Nat.beq p 85 || Nat.beq p 92 || Nat.beq p 110) 6).trans rfl
set_option maxRecDepth 100000 in
theorem e_Reader_readStreet_92 {d : Nat} {Q : Value → am_H → Prop} {N : Nat} {I : Nat → Nat → Int32} {J : Nat → Nat → Int64} {x1 : Int32} {x2 : Int32} {y0 : Int32} {rt rs rd rl rx nt nw nf : Nat} (h_rd : rd = 3 ∨ rd = 23) : am_V d Q 42 92 [some (.ref 43), some (.int x1), some (.int x2)] [.int y0] (am_hp N (rt, rs, rd, rl, rx, nt, nw, nf) I J) =
    am_if (!(decide (y0 = (nI 0)))) (am_D d 74 [.ref rd, .int x1, .int x2, .int (I 43 4)] (am_hp N (rt, rs, rd, rl, rx, nt, nw, nf) I J) (fun v h => am_V d Q 42 110 [some (.ref 43), some (.int x1), some (.int x2)] [] h)) (Q (.int (nI 0)) (am_hp N (rt, rs, rd, rl, rx, nt, nw, nf) I J)) :=
  by rcases h_rd with rfl | rfl <;> exact (am_V_un (fun p => Nat.beq p 13 || Nat.beq p 20 || Nat.beq p 34 || Nat.beq p 54 || Nat.beq p 77 || Nat.beq p 85 || Nat.beq p 92 || Nat.beq p 110) 10).trans rfl
set_option maxRecDepth 100000 in
theorem e_Reader_readStreet_110 {d : Nat} {Q : Value → am_H → Prop} {N : Nat} {I : Nat → Nat → Int32} {J : Nat → Nat → Int64} {x1 : Int32} {x2 : Int32} {r : am_rho} : am_V d Q 42 110 [some (.ref 43), some (.int x1), some (.int x2)] [] (am_hp N r I J) =
    Q (.int (nI 1)) (am_hp N r I J) :=
  (am_V_un (fun p => Nat.beq p 13 || Nat.beq p 20 || Nat.beq p 34 || Nat.beq p 54 || Nat.beq p 77 || Nat.beq p 85 || Nat.beq p 92 || Nat.beq p 110) 4).trans rfl
set_option maxRecDepth 100000 in
theorem e_Reader_readSleeper {d : Nat} {Q : Value → am_H → Prop} {N : Nat} {I : Nat → Nat → Int32} {J : Nat → Nat → Int64} {rt rs rd rl rx nt nw nf : Nat} (h_rd : rd = 3 ∨ rd = 23) : am_D (d + 1) 43 [.ref 43] (am_hp N (rt, rs, rd, rl, rx, nt, nw, nf) I J) Q =
    am_D d 35 [.ref 43, .int (I rd 2), .int (nI 5)] (am_hp N (rt, rs, rd, rl, rx, nt, nw, nf) I J) (fun v h => am_asI v (fun y => am_V d Q 43 14 [some (.ref 43), some (.int (I rd 2))] [.int y] h)) :=
  by rcases h_rd with rfl | rfl <;> exact (am_D_un rfl (fun p => Nat.beq p 14 || Nat.beq p 29 || Nat.beq p 54 || Nat.beq p 58 || Nat.beq p 83 || Nat.beq p 105) 10).trans rfl
set_option maxRecDepth 100000 in
theorem e_Reader_readSleeper_14 {d : Nat} {Q : Value → am_H → Prop} {N : Nat} {I : Nat → Nat → Int32} {J : Nat → Nat → Int64} {x1 : Int32} {y0 : Int32} {rt rs rd rl rx nt nw nf : Nat} (h_rd : rd = 3 ∨ rd = 23) : am_V d Q 43 14 [some (.ref 43), some (.int x1)] [.int y0] (am_hp N (rt, rs, rd, rl, rx, nt, nw, nf) I J) =
    am_if (decide (y0 = (nI 0))) (Q (.int (nI 0)) (am_hp N (rt, rs, rd, rl, rx, nt, nw, nf) I J)) (am_D d 36 [.ref 43, .ref (rd + 2), .int x1] (am_hp N (rt, rs, rd, rl, rx, nt, nw, nf) I J) (fun v h => am_asI v (fun y => am_V d Q 43 29 [some (.ref 43), some (.int x1)] [.int y] h))) :=
  by rcases h_rd with rfl | rfl <;> exact (am_V_un (fun p => Nat.beq p 14 || Nat.beq p 29 || Nat.beq p 54 || Nat.beq p 58 || Nat.beq p 83 || Nat.beq p 105) 9).trans rfl
set_option maxRecDepth 100000 in
theorem e_Reader_readSleeper_29 {d : Nat} {Q : Value → am_H → Prop} {N : Nat} {I : Nat → Nat → Int32} {J : Nat → Nat → Int64} {x1 : Int32} {y0 : Int32} {rt rs rd rl rx nt nw nf : Nat} (h_rd : rd = 3 ∨ rd = 23) : am_V d Q 43 29 [some (.ref 43), some (.int x1)] [.int y0] (am_hp N (rt, rs, rd, rl, rx, nt, nw, nf) I J) =
    am_if (!(decide (y0 = (nI 0)))) (am_g (am_inb x1 5) (am_D d 64 [.ref 44] (am_hp N (rt, rs, rd, rl, rx, nt, nw, nf) (am_u I (rd + 2) x1.toNatClampNeg (I 43 4)) J) (fun v h => am_V d Q 43 54 [some (.ref 43), some (.int x1)] [] h))) (Q (.int (nI 0)) (am_hp N (rt, rs, rd, rl, rx, nt, nw, nf) I J)) :=
  by rcases h_rd with rfl | rfl <;> exact (am_V_un (fun p => Nat.beq p 14 || Nat.beq p 29 || Nat.beq p 54 || Nat.beq p 58 || Nat.beq p 83 || Nat.beq p 105) 13).trans rfl
set_option maxRecDepth 100000 in
theorem e_Reader_readSleeper_54 {d : Nat} {Q : Value → am_H → Prop} {N : Nat} {I : Nat → Nat → Int32} {J : Nat → Nat → Int64} {x1 : Int32} {r : am_rho} : am_V d Q 43 54 [some (.ref 43), some (.int x1)] [] (am_hp N r I J) =
    am_D d 39 [.ref 43] (am_hp N r I J) (fun v h => am_asI v (fun y => am_V d Q 43 58 [some (.ref 43), some (.int x1)] [.int y] h)) :=
  (am_V_un (fun p => Nat.beq p 14 || Nat.beq p 29 || Nat.beq p 54 || Nat.beq p 58 || Nat.beq p 83 || Nat.beq p 105) 4).trans rfl
set_option maxRecDepth 100000 in
theorem e_Reader_readSleeper_58 {d : Nat} {Q : Value → am_H → Prop} {N : Nat} {I : Nat → Nat → Int32} {J : Nat → Nat → Int64} {x1 : Int32} {y0 : Int32} {rt rs rd rl rx nt nw nf : Nat} (h_rd : rd = 3 ∨ rd = 23) : am_V d Q 43 58 [some (.ref 43), some (.int x1)] [.int y0] (am_hp N (rt, rs, rd, rl, rx, nt, nw, nf) I J) =
    am_if (!(decide (y0 = (nI 0)))) (am_g (am_inb x1 5) (am_D d 40 [.ref 43, .int (nI 0), .int (nI 9)] (am_hp N (rt, rs, rd, rl, rx, nt, nw, nf) (am_u I (rd + 6) x1.toNatClampNeg (I 43 4)) J) (fun v h => am_asI v (fun y => am_V d Q 43 83 [some (.ref 43), some (.int x1)] [.int y] h)))) (Q (.int (nI 0)) (am_hp N (rt, rs, rd, rl, rx, nt, nw, nf) I J)) :=
  by rcases h_rd with rfl | rfl <;> exact (am_V_un (fun p => Nat.beq p 14 || Nat.beq p 29 || Nat.beq p 54 || Nat.beq p 58 || Nat.beq p 83 || Nat.beq p 105) 14).trans rfl
set_option maxRecDepth 100000 in
theorem e_Reader_readSleeper_83 {d : Nat} {Q : Value → am_H → Prop} {N : Nat} {I : Nat → Nat → Int32} {J : Nat → Nat → Int64} {x1 : Int32} {y0 : Int32} {rt rs rd rl rx nt nw nf : Nat} (h_rd : rd = 3 ∨ rd = 23) : am_V d Q 43 83 [some (.ref 43), some (.int x1)] [.int y0] (am_hp N (rt, rs, rd, rl, rx, nt, nw, nf) I J) =
    am_if (!(decide (y0 = (nI 0)))) (am_g (am_inb x1 5) (am_D d 39 [.ref 43] (am_hp N (rt, rs, rd, rl, rx, nt, nw, nf) (am_u I (rd + 7) x1.toNatClampNeg (I 43 4)) J) (fun v h => am_asI v (fun y => am_V d Q 43 105 [some (.ref 43), some (.int x1)] [.int y] h)))) (Q (.int (nI 0)) (am_hp N (rt, rs, rd, rl, rx, nt, nw, nf) I J)) :=
  by rcases h_rd with rfl | rfl <;> exact (am_V_un (fun p => Nat.beq p 14 || Nat.beq p 29 || Nat.beq p 54 || Nat.beq p 58 || Nat.beq p 83 || Nat.beq p 105) 12).trans rfl
set_option maxRecDepth 100000 in
theorem e_Reader_readSleeper_105 {d : Nat} {Q : Value → am_H → Prop} {N : Nat} {I : Nat → Nat → Int32} {J : Nat → Nat → Int64} {x1 : Int32} {y0 : Int32} {rt rs rd rl rx nt nw nf : Nat} (h_rd : rd = 3 ∨ rd = 23) : am_V d Q 43 105 [some (.ref 43), some (.int x1)] [.int y0] (am_hp N (rt, rs, rd, rl, rx, nt, nw, nf) I J) =
    am_if (!(decide (y0 = (nI 0)))) (am_g (am_inb x1 5) (Q (.int (nI 1)) (am_hp N (rt, rs, rd, rl, rx, nt, nw, nf) (am_u (am_u I (rd + 8) x1.toNatClampNeg (I 43 4)) rd 2 (((am_u I (rd + 8) x1.toNatClampNeg (I 43 4)) rd 2) + (nI 1))) J))) (Q (.int (nI 0)) (am_hp N (rt, rs, rd, rl, rx, nt, nw, nf) I J)) :=
  by rcases h_rd with rfl | rfl <;> exact (am_V_un (fun p => Nat.beq p 14 || Nat.beq p 29 || Nat.beq p 54 || Nat.beq p 58 || Nat.beq p 83 || Nat.beq p 105) 19).trans rfl
set_option maxRecDepth 100000 in
theorem e_Reader_readLetter {d : Nat} {Q : Value → am_H → Prop} {N : Nat} {I : Nat → Nat → Int32} {J : Nat → Nat → Int64} {rt rs rd rl rx nt nw nf : Nat} (h_rd : rd = 3 ∨ rd = 23) : am_D (d + 1) 44 [.ref 43] (am_hp N (rt, rs, rd, rl, rx, nt, nw, nf) I J) Q =
    am_D d 35 [.ref 43, .int (I rd 3), .int (nI 8)] (am_hp N (rt, rs, rd, rl, rx, nt, nw, nf) I J) (fun v h => am_asI v (fun y => am_V d Q 44 13 [some (.ref 43), none] [.int y] h)) :=
  by rcases h_rd with rfl | rfl <;> exact (am_D_un rfl (fun p => Nat.beq p 13 || Nat.beq p 34 || Nat.beq p 51 || Nat.beq p 55 || Nat.beq p 72) 8).trans rfl
set_option maxRecDepth 100000 in
theorem e_Reader_readLetter_13 {d : Nat} {Q : Value → am_H → Prop} {N : Nat} {I : Nat → Nat → Int32} {J : Nat → Nat → Int64} {y0 : Int32} {rt rs rd rl rx nt nw nf : Nat} (h_rd : rd = 3 ∨ rd = 23) : am_V d Q 44 13 [some (.ref 43), none] [.int y0] (am_hp N (rt, rs, rd, rl, rx, nt, nw, nf) I J) =
    am_if (decide (y0 = (nI 0))) (Q (.int (nI 0)) (am_hp N (rt, rs, rd, rl, rx, nt, nw, nf) I J)) (am_D d 37 [.ref 43, .ref (rd + 2), .int (I rd 2)] (am_hp N (rt, rs, rd, rl, rx, nt, nw, nf) I J) (fun v h => am_asI v (fun y => am_V d Q 44 34 [some (.ref 43), none] [.int y] h))) :=
  by rcases h_rd with rfl | rfl <;> exact (am_V_un (fun p => Nat.beq p 13 || Nat.beq p 34 || Nat.beq p 51 || Nat.beq p 55 || Nat.beq p 72) 11).trans rfl
set_option maxRecDepth 100000 in
theorem e_Reader_readLetter_34 {d : Nat} {Q : Value → am_H → Prop} {N : Nat} {I : Nat → Nat → Int32} {J : Nat → Nat → Int64} {y0 : Int32} {r : am_rho} : am_V d Q 44 34 [some (.ref 43), none] [.int y0] (am_hp N r I J) =
    am_if (!(decide (y0 = (nI 0)))) (am_D d 64 [.ref 44] (am_hp N r I J) (fun v h => am_V d Q 44 51 [some (.ref 43), some (.int (I 43 4))] [] h)) (Q (.int (nI 0)) (am_hp N r I J)) :=
  (am_V_un (fun p => Nat.beq p 13 || Nat.beq p 34 || Nat.beq p 51 || Nat.beq p 55 || Nat.beq p 72) 9).trans rfl
set_option maxRecDepth 100000 in
theorem e_Reader_readLetter_51 {d : Nat} {Q : Value → am_H → Prop} {N : Nat} {I : Nat → Nat → Int32} {J : Nat → Nat → Int64} {x1 : Int32} {r : am_rho} : am_V d Q 44 51 [some (.ref 43), some (.int x1)] [] (am_hp N r I J) =
    am_D d 39 [.ref 43] (am_hp N r I J) (fun v h => am_asI v (fun y => am_V d Q 44 55 [some (.ref 43), some (.int x1)] [.int y] h)) :=
  (am_V_un (fun p => Nat.beq p 13 || Nat.beq p 34 || Nat.beq p 51 || Nat.beq p 55 || Nat.beq p 72) 4).trans rfl
set_option maxRecDepth 100000 in
theorem e_Reader_readLetter_55 {d : Nat} {Q : Value → am_H → Prop} {N : Nat} {I : Nat → Nat → Int32} {J : Nat → Nat → Int64} {x1 : Int32} {y0 : Int32} {rt rs rd rl rx nt nw nf : Nat} (h_rd : rd = 3 ∨ rd = 23) : am_V d Q 44 55 [some (.ref 43), some (.int x1)] [.int y0] (am_hp N (rt, rs, rd, rl, rx, nt, nw, nf) I J) =
    am_if (!(decide (y0 = (nI 0)))) (am_D d 75 [.ref rd, .int x1, .int (I 43 4)] (am_hp N (rt, rs, rd, rl, rx, nt, nw, nf) I J) (fun v h => am_V d Q 44 72 [some (.ref 43), some (.int x1)] [] h)) (Q (.int (nI 0)) (am_hp N (rt, rs, rd, rl, rx, nt, nw, nf) I J)) :=
  by rcases h_rd with rfl | rfl <;> exact (am_V_un (fun p => Nat.beq p 13 || Nat.beq p 34 || Nat.beq p 51 || Nat.beq p 55 || Nat.beq p 72) 9).trans rfl
set_option maxRecDepth 100000 in
theorem e_Reader_readLetter_72 {d : Nat} {Q : Value → am_H → Prop} {N : Nat} {I : Nat → Nat → Int32} {J : Nat → Nat → Int64} {x1 : Int32} {r : am_rho} : am_V d Q 44 72 [some (.ref 43), some (.int x1)] [] (am_hp N r I J) =
    Q (.int (nI 1)) (am_hp N r I J) :=
  (am_V_un (fun p => Nat.beq p 13 || Nat.beq p 34 || Nat.beq p 51 || Nat.beq p 55 || Nat.beq p 72) 4).trans rfl
set_option maxRecDepth 100000 in
theorem e_Reader_readLamp {d : Nat} {Q : Value → am_H → Prop} {N : Nat} {I : Nat → Nat → Int32} {J : Nat → Nat → Int64} {rt rs rd rl rx nt nw nf : Nat} (h_rd : rd = 3 ∨ rd = 23) : am_D (d + 1) 45 [.ref 43] (am_hp N (rt, rs, rd, rl, rx, nt, nw, nf) I J) Q =
    am_D d 35 [.ref 43, .int (I rd 4), .int (nI 6)] (am_hp N (rt, rs, rd, rl, rx, nt, nw, nf) I J) (fun v h => am_asI v (fun y => am_V d Q 45 13 [some (.ref 43), none, none] [.int y] h)) :=
  by rcases h_rd with rfl | rfl <;> exact (am_D_un rfl (fun p => Nat.beq p 13 || Nat.beq p 20 || Nat.beq p 37 || Nat.beq p 54) 8).trans rfl
set_option maxRecDepth 100000 in
theorem e_Reader_readLamp_13 {d : Nat} {Q : Value → am_H → Prop} {N : Nat} {I : Nat → Nat → Int32} {J : Nat → Nat → Int64} {y0 : Int32} {r : am_rho} : am_V d Q 45 13 [some (.ref 43), none, none] [.int y0] (am_hp N r I J) =
    am_if (decide (y0 = (nI 0))) (Q (.int (nI 0)) (am_hp N r I J)) (am_D d 39 [.ref 43] (am_hp N r I J) (fun v h => am_asI v (fun y => am_V d Q 45 20 [some (.ref 43), none, none] [.int y] h))) :=
  (am_V_un (fun p => Nat.beq p 13 || Nat.beq p 20 || Nat.beq p 37 || Nat.beq p 54) 5).trans rfl
set_option maxRecDepth 100000 in
theorem e_Reader_readLamp_20 {d : Nat} {Q : Value → am_H → Prop} {N : Nat} {I : Nat → Nat → Int32} {J : Nat → Nat → Int64} {y0 : Int32} {r : am_rho} : am_V d Q 45 20 [some (.ref 43), none, none] [.int y0] (am_hp N r I J) =
    am_if (!(decide (y0 = (nI 0)))) (am_D d 40 [.ref 43, .int (nI 0), .int (nI 11)] (am_hp N r I J) (fun v h => am_asI v (fun y => am_V d Q 45 37 [some (.ref 43), some (.int (I 43 4)), none] [.int y] h))) (Q (.int (nI 0)) (am_hp N r I J)) :=
  (am_V_un (fun p => Nat.beq p 13 || Nat.beq p 20 || Nat.beq p 37 || Nat.beq p 54) 10).trans rfl
set_option maxRecDepth 100000 in
theorem e_Reader_readLamp_37 {d : Nat} {Q : Value → am_H → Prop} {N : Nat} {I : Nat → Nat → Int32} {J : Nat → Nat → Int64} {x1 : Int32} {y0 : Int32} {r : am_rho} : am_V d Q 45 37 [some (.ref 43), some (.int x1), none] [.int y0] (am_hp N r I J) =
    am_if (!(decide (y0 = (nI 0)))) (am_D d 40 [.ref 43, .int (I 43 4), .int (nI 11)] (am_hp N r I J) (fun v h => am_asI v (fun y => am_V d Q 45 54 [some (.ref 43), some (.int x1), some (.int (I 43 4))] [.int y] h))) (Q (.int (nI 0)) (am_hp N r I J)) :=
  (am_V_un (fun p => Nat.beq p 13 || Nat.beq p 20 || Nat.beq p 37 || Nat.beq p 54) 10).trans rfl
set_option maxRecDepth 100000 in
theorem e_Reader_readLamp_54 {d : Nat} {Q : Value → am_H → Prop} {N : Nat} {I : Nat → Nat → Int32} {J : Nat → Nat → Int64} {x1 : Int32} {x2 : Int32} {y0 : Int32} {rt rs rd rl rx nt nw nf : Nat} (h_rd : rd = 3 ∨ rd = 23) : am_V d Q 45 54 [some (.ref 43), some (.int x1), some (.int x2)] [.int y0] (am_hp N (rt, rs, rd, rl, rx, nt, nw, nf) I J) =
    am_if (!(decide (y0 = (nI 0)))) (am_g (am_inb x1 8) (am_g (am_inb x1 8) (Q (.int (nI 1)) (am_hp N (rt, rs, rd, rl, rx, nt, nw, nf) (am_u (am_u I (rd + 12) x1.toNatClampNeg ((I (rd + 12) x1.toNatClampNeg) ||| (((nI 1) <<< (((I 43 4) + (nI 1)) &&& nI 31)) - ((nI 1) <<< (x2 &&& nI 31))))) rd 4 (((am_u I (rd + 12) x1.toNatClampNeg ((I (rd + 12) x1.toNatClampNeg) ||| (((nI 1) <<< (((I 43 4) + (nI 1)) &&& nI 31)) - ((nI 1) <<< (x2 &&& nI 31))))) rd 4) + (nI 1))) J)))) (Q (.int (nI 0)) (am_hp N (rt, rs, rd, rl, rx, nt, nw, nf) I J)) :=
  by rcases h_rd with rfl | rfl <;> exact (am_V_un (fun p => Nat.beq p 13 || Nat.beq p 20 || Nat.beq p 37 || Nat.beq p 54) 30).trans rfl
set_option maxRecDepth 100000 in
theorem e_Reader_readLoud {d : Nat} {Q : Value → am_H → Prop} {N : Nat} {I : Nat → Nat → Int32} {J : Nat → Nat → Int64} {a1 : Nat} {r : am_rho} : am_D (d + 1) 46 [.ref 43, .ref a1] (am_hp N r I J) Q =
    am_D d 64 [.ref 44] (am_hp N r I J) (fun v h => am_V d Q 46 7 [some (.ref 43), some (.ref a1), none] [] h) :=
  (am_D_un rfl (fun p => Nat.beq p 7 || Nat.beq p 11 || Nat.beq p 32 || Nat.beq p 40 || Nat.beq p 47) 5).trans rfl
set_option maxRecDepth 100000 in
theorem e_Reader_readLoud_7 {d : Nat} {Q : Value → am_H → Prop} {N : Nat} {I : Nat → Nat → Int32} {J : Nat → Nat → Int64} {a1 : Nat} {r : am_rho} : am_V d Q 46 7 [some (.ref 43), some (.ref a1), none] [] (am_hp N r I J) =
    am_D d 38 [.ref 43] (am_hp N r I J) (fun v h => am_asI v (fun y => am_V d Q 46 11 [some (.ref 43), some (.ref a1), none] [.int y] h)) :=
  (am_V_un (fun p => Nat.beq p 7 || Nat.beq p 11 || Nat.beq p 32 || Nat.beq p 40 || Nat.beq p 47) 4).trans rfl
set_option maxRecDepth 100000 in
theorem e_Reader_readLoud_11 {d : Nat} {Q : Value → am_H → Prop} {N : Nat} {I : Nat → Nat → Int32} {J : Nat → Nat → Int64} {a1 : Nat} {y0 : Int32} {r : am_rho} : am_V d Q 46 11 [some (.ref 43), some (.ref a1), none] [.int y0] (am_hp N r I J) =
    am_if (!(decide (y0 = (nI 0)))) (am_g ((Nat.beq (am_TT N a1).1 1 || Nat.beq (am_TT N a1).1 5) && am_inb (I 43 4) (am_TT N a1).2) (am_if (decide ((I a1 (I 43 4).toNatClampNeg) ≤ (nI 0))) (am_D d 64 [.ref 44] (am_hp N r I J) (fun v h => am_V d Q 46 40 [some (.ref 43), some (.ref a1), some (.int (I 43 4))] [] h)) (am_D d 32 [.ref 43, .int (nI 3)] (am_hp N r I J) (fun v h => am_asI v (fun y => am_V d Q 46 32 [some (.ref 43), some (.ref a1), some (.int (I 43 4))] [.int y] h))))) (Q (.int (nI 0)) (am_hp N r I J)) :=
  (am_V_un (fun p => Nat.beq p 7 || Nat.beq p 11 || Nat.beq p 32 || Nat.beq p 40 || Nat.beq p 47) 13).trans rfl
set_option maxRecDepth 100000 in
theorem e_Reader_readLoud_32 {d : Nat} {Q : Value → am_H → Prop} {N : Nat} {I : Nat → Nat → Int32} {J : Nat → Nat → Int64} {a1 : Nat} {x2 : Int32} {y0 : Int32} {r : am_rho} : am_V d Q 46 32 [some (.ref 43), some (.ref a1), some (.int x2)] [.int y0] (am_hp N r I J) =
    am_g (am_bool y0) (Q (.int y0) (am_hp N r I J)) :=
  (am_V_un (fun p => Nat.beq p 7 || Nat.beq p 11 || Nat.beq p 32 || Nat.beq p 40 || Nat.beq p 47) 3).trans rfl
set_option maxRecDepth 100000 in
theorem e_Reader_readLoud_40 {d : Nat} {Q : Value → am_H → Prop} {N : Nat} {I : Nat → Nat → Int32} {J : Nat → Nat → Int64} {a1 : Nat} {x2 : Int32} {r : am_rho} : am_V d Q 46 40 [some (.ref 43), some (.ref a1), some (.int x2)] [] (am_hp N r I J) =
    am_D d 40 [.ref 43, .int (nI 1), .int (nI 9)] (am_hp N r I J) (fun v h => am_asI v (fun y => am_V d Q 46 47 [some (.ref 43), some (.ref a1), some (.int x2)] [.int y] h)) :=
  (am_V_un (fun p => Nat.beq p 7 || Nat.beq p 11 || Nat.beq p 32 || Nat.beq p 40 || Nat.beq p 47) 6).trans rfl
set_option maxRecDepth 100000 in
theorem e_Reader_readLoud_47 {d : Nat} {Q : Value → am_H → Prop} {N : Nat} {I : Nat → Nat → Int32} {J : Nat → Nat → Int64} {a1 : Nat} {x2 : Int32} {y0 : Int32} {r : am_rho} : am_V d Q 46 47 [some (.ref 43), some (.ref a1), some (.int x2)] [.int y0] (am_hp N r I J) =
    am_if (!(decide (y0 = (nI 0)))) (am_g (Nat.beq (am_TT N a1).1 1 && am_inb x2 (am_TT N a1).2) (Q (.int (nI 1)) (am_hp N r (am_u I a1 x2.toNatClampNeg (I 43 4)) J))) (Q (.int (nI 0)) (am_hp N r I J)) :=
  (am_V_un (fun p => Nat.beq p 7 || Nat.beq p 11 || Nat.beq p 32 || Nat.beq p 40 || Nat.beq p 47) 10).trans rfl
set_option maxRecDepth 100000 in
theorem e_Reader_readCat {d : Nat} {Q : Value → am_H → Prop} {N : Nat} {I : Nat → Nat → Int32} {J : Nat → Nat → Int64} {r : am_rho} : am_D (d + 1) 47 [.ref 43] (am_hp N r I J) Q =
    am_D d 64 [.ref 44] (am_hp N r I J) (fun v h => am_V d Q 47 7 [some (.ref 43)] [] h) :=
  (am_D_un rfl (fun p => Nat.beq p 7 || Nat.beq p 11 || Nat.beq p 38 || Nat.beq p 64) 5).trans rfl
set_option maxRecDepth 100000 in
theorem e_Reader_readCat_7 {d : Nat} {Q : Value → am_H → Prop} {N : Nat} {I : Nat → Nat → Int32} {J : Nat → Nat → Int64} {r : am_rho} : am_V d Q 47 7 [some (.ref 43)] [] (am_hp N r I J) =
    am_D d 38 [.ref 43] (am_hp N r I J) (fun v h => am_asI v (fun y => am_V d Q 47 11 [some (.ref 43)] [.int y] h)) :=
  (am_V_un (fun p => Nat.beq p 7 || Nat.beq p 11 || Nat.beq p 38 || Nat.beq p 64) 4).trans rfl
set_option maxRecDepth 100000 in
theorem e_Reader_readCat_11 {d : Nat} {Q : Value → am_H → Prop} {N : Nat} {I : Nat → Nat → Int32} {J : Nat → Nat → Int64} {y0 : Int32} {rt rs rd rl rx nt nw nf : Nat} (h_rd : rd = 3 ∨ rd = 23) : am_V d Q 47 11 [some (.ref 43)] [.int y0] (am_hp N (rt, rs, rd, rl, rx, nt, nw, nf) I J) =
    am_if (!(decide (y0 = (nI 0)))) (am_if (decide ((((I rd 5) >>> ((I 43 4) &&& nI 31)) &&& (nI 1)) = (nI 0))) (am_D d 64 [.ref 44] (am_hp N (rt, rs, rd, rl, rx, nt, nw, nf) (am_u I rd 5 ((I rd 5) ||| ((nI 1) <<< ((I 43 4) &&& nI 31)))) J) (fun v h => am_V d Q 47 64 [some (.ref 43)] [] h)) (am_D d 32 [.ref 43, .int (nI 3)] (am_hp N (rt, rs, rd, rl, rx, nt, nw, nf) I J) (fun v h => am_asI v (fun y => am_V d Q 47 38 [some (.ref 43)] [.int y] h)))) (Q (.int (nI 0)) (am_hp N (rt, rs, rd, rl, rx, nt, nw, nf) I J)) :=
  by rcases h_rd with rfl | rfl <;> exact (am_V_un (fun p => Nat.beq p 7 || Nat.beq p 11 || Nat.beq p 38 || Nat.beq p 64) 25).trans rfl
set_option maxRecDepth 100000 in
theorem e_Reader_readCat_38 {d : Nat} {Q : Value → am_H → Prop} {N : Nat} {I : Nat → Nat → Int32} {J : Nat → Nat → Int64} {y0 : Int32} {r : am_rho} : am_V d Q 47 38 [some (.ref 43)] [.int y0] (am_hp N r I J) =
    am_g (am_bool y0) (Q (.int y0) (am_hp N r I J)) :=
  (am_V_un (fun p => Nat.beq p 7 || Nat.beq p 11 || Nat.beq p 38 || Nat.beq p 64) 3).trans rfl
set_option maxRecDepth 100000 in
theorem e_Reader_readCat_64 {d : Nat} {Q : Value → am_H → Prop} {N : Nat} {I : Nat → Nat → Int32} {J : Nat → Nat → Int64} {r : am_rho} : am_V d Q 47 64 [some (.ref 43)] [] (am_hp N r I J) =
    Q (.int (nI 1)) (am_hp N r I J) :=
  (am_V_un (fun p => Nat.beq p 7 || Nat.beq p 11 || Nat.beq p 38 || Nat.beq p 64) 4).trans rfl
set_option maxRecDepth 100000 in
theorem e_Reader_readSeed {d : Nat} {Q : Value → am_H → Prop} {N : Nat} {I : Nat → Nat → Int32} {J : Nat → Nat → Int64} {r : am_rho} : am_D (d + 1) 48 [.ref 43] (am_hp N r I J) Q =
    am_if (decide ((I 43 3) = (nI 0))) (am_D d 64 [.ref 44] (am_hp N r (am_u I 43 3 (nI 1)) J) (fun v h => am_V d Q 48 25 [some (.ref 43)] [] h)) (am_D d 32 [.ref 43, .int (nI 3)] (am_hp N r I J) (fun v h => am_asI v (fun y => am_V d Q 48 12 [some (.ref 43)] [.int y] h))) :=
  (am_D_un rfl (fun p => Nat.beq p 12 || Nat.beq p 25 || Nat.beq p 32) 11).trans rfl
set_option maxRecDepth 100000 in
theorem e_Reader_readSeed_12 {d : Nat} {Q : Value → am_H → Prop} {N : Nat} {I : Nat → Nat → Int32} {J : Nat → Nat → Int64} {y0 : Int32} {r : am_rho} : am_V d Q 48 12 [some (.ref 43)] [.int y0] (am_hp N r I J) =
    am_g (am_bool y0) (Q (.int y0) (am_hp N r I J)) :=
  (am_V_un (fun p => Nat.beq p 12 || Nat.beq p 25 || Nat.beq p 32) 3).trans rfl
set_option maxRecDepth 100000 in
theorem e_Reader_readSeed_25 {d : Nat} {Q : Value → am_H → Prop} {N : Nat} {I : Nat → Nat → Int32} {J : Nat → Nat → Int64} {r : am_rho} : am_V d Q 48 25 [some (.ref 43)] [] (am_hp N r I J) =
    am_D d 40 [.ref 43, .int (nI 0), .int (nI 99999)] (am_hp N r I J) (fun v h => am_asI v (fun y => am_V d Q 48 32 [some (.ref 43)] [.int y] h)) :=
  (am_V_un (fun p => Nat.beq p 12 || Nat.beq p 25 || Nat.beq p 32) 6).trans rfl
set_option maxRecDepth 100000 in
theorem e_Reader_readSeed_32 {d : Nat} {Q : Value → am_H → Prop} {N : Nat} {I : Nat → Nat → Int32} {J : Nat → Nat → Int64} {y0 : Int32} {rt rs rd rl rx nt nw nf : Nat} (h_rd : rd = 3 ∨ rd = 23) : am_V d Q 48 32 [some (.ref 43)] [.int y0] (am_hp N (rt, rs, rd, rl, rx, nt, nw, nf) I J) =
    am_if (!(decide (y0 = (nI 0)))) (Q (.int (nI 1)) (am_hp N (rt, rs, rd, rl, rx, nt, nw, nf) (am_u I rd 6 (I 43 4)) J)) (Q (.int (nI 0)) (am_hp N (rt, rs, rd, rl, rx, nt, nw, nf) I J)) :=
  by rcases h_rd with rfl | rfl <;> exact (am_V_un (fun p => Nat.beq p 12 || Nat.beq p 25 || Nat.beq p 32) 10).trans rfl
set_option maxRecDepth 100000 in
theorem e_Reader_readLaw {d : Nat} {Q : Value → am_H → Prop} {N : Nat} {I : Nat → Nat → Int32} {J : Nat → Nat → Int64} {r : am_rho} : am_D (d + 1) 49 [.ref 43] (am_hp N r I J) Q =
    am_D d 64 [.ref 44] (am_hp N r I J) (fun v h => am_V d Q 49 7 [some (.ref 43), none, none] [] h) :=
  (am_D_un rfl (fun p => Nat.beq p 7 || Nat.beq p 36 || Nat.beq p 59 || Nat.beq p 67 || Nat.beq p 75 || Nat.beq p 90 || Nat.beq p 100) 5).trans rfl
set_option maxRecDepth 100000 in
theorem e_Reader_readLaw_7 {d : Nat} {Q : Value → am_H → Prop} {N : Nat} {I : Nat → Nat → Int32} {J : Nat → Nat → Int64} {rt rs rd rl rx nt nw nf : Nat} (h_rd : rd = 3 ∨ rd = 23) : am_V d Q 49 7 [some (.ref 43), none, none] [] (am_hp N (rt, rs, rd, rl, rx, nt, nw, nf) I J) =
    am_if (decide ((I 44 3) < (nI 14))) (am_D d 32 [.ref 43, .int (nI 1)] (am_hp N (rt, rs, rd, rl, rx, nt, nw, nf) I J) (fun v h => am_asI v (fun y => am_V d Q 49 36 [some (.ref 43), none, none] [.int y] h))) (am_if (decide ((I 44 3) ≤ (nI 16))) (am_D d 12 [.ref (rd + 15), .int ((I 44 3) - (nI 14))] (am_hp N (rt, rs, rd, rl, rx, nt, nw, nf) I J) (fun v h => am_asI v (fun y => am_V d Q 49 59 [some (.ref 43), some (.int ((I 44 3) - (nI 14))), none] [.int y] h))) (am_D d 32 [.ref 43, .int (nI 1)] (am_hp N (rt, rs, rd, rl, rx, nt, nw, nf) I J) (fun v h => am_asI v (fun y => am_V d Q 49 36 [some (.ref 43), none, none] [.int y] h)))) :=
  by rcases h_rd with rfl | rfl <;> exact (am_V_un (fun p => Nat.beq p 7 || Nat.beq p 36 || Nat.beq p 59 || Nat.beq p 67 || Nat.beq p 75 || Nat.beq p 90 || Nat.beq p 100) 23).trans rfl
set_option maxRecDepth 100000 in
theorem e_Reader_readLaw_36 {d : Nat} {Q : Value → am_H → Prop} {N : Nat} {I : Nat → Nat → Int32} {J : Nat → Nat → Int64} {y0 : Int32} {r : am_rho} : am_V d Q 49 36 [some (.ref 43), none, none] [.int y0] (am_hp N r I J) =
    am_g (am_bool y0) (Q (.int y0) (am_hp N r I J)) :=
  (am_V_un (fun p => Nat.beq p 7 || Nat.beq p 36 || Nat.beq p 59 || Nat.beq p 67 || Nat.beq p 75 || Nat.beq p 90 || Nat.beq p 100) 3).trans rfl
set_option maxRecDepth 100000 in
theorem e_Reader_readLaw_59 {d : Nat} {Q : Value → am_H → Prop} {N : Nat} {I : Nat → Nat → Int32} {J : Nat → Nat → Int64} {x1 : Int32} {y0 : Int32} {r : am_rho} : am_V d Q 49 59 [some (.ref 43), some (.int x1), none] [.int y0] (am_hp N r I J) =
    am_if (decide (y0 = (nI 0))) (am_D d 64 [.ref 44] (am_hp N r I J) (fun v h => am_V d Q 49 75 [some (.ref 43), some (.int x1), none] [] h)) (am_D d 32 [.ref 43, .int (nI 3)] (am_hp N r I J) (fun v h => am_asI v (fun y => am_V d Q 49 67 [some (.ref 43), some (.int x1), none] [.int y] h))) :=
  (am_V_un (fun p => Nat.beq p 7 || Nat.beq p 36 || Nat.beq p 59 || Nat.beq p 67 || Nat.beq p 75 || Nat.beq p 90 || Nat.beq p 100) 6).trans rfl
set_option maxRecDepth 100000 in
theorem e_Reader_readLaw_67 {d : Nat} {Q : Value → am_H → Prop} {N : Nat} {I : Nat → Nat → Int32} {J : Nat → Nat → Int64} {x1 : Int32} {y0 : Int32} {r : am_rho} : am_V d Q 49 67 [some (.ref 43), some (.int x1), none] [.int y0] (am_hp N r I J) =
    am_g (am_bool y0) (Q (.int y0) (am_hp N r I J)) :=
  (am_V_un (fun p => Nat.beq p 7 || Nat.beq p 36 || Nat.beq p 59 || Nat.beq p 67 || Nat.beq p 75 || Nat.beq p 90 || Nat.beq p 100) 3).trans rfl
set_option maxRecDepth 100000 in
theorem e_Reader_readLaw_75 {d : Nat} {Q : Value → am_H → Prop} {N : Nat} {I : Nat → Nat → Int32} {J : Nat → Nat → Int64} {x1 : Int32} {rt rs rd rl rx nt nw nf : Nat} (h_rd : rd = 3 ∨ rd = 23) : am_V d Q 49 75 [some (.ref 43), some (.int x1), none] [] (am_hp N (rt, rs, rd, rl, rx, nt, nw, nf) I J) =
    am_D d 3 [.ref 46, .ref (rd + 15), .int x1] (am_hp N (rt, rs, rd, rl, rx, nt, nw, nf) I J) (fun v h => am_asI v (fun y => am_V d Q 49 90 [some (.ref 43), some (.int x1), none] [.int y] h)) :=
  by rcases h_rd with rfl | rfl <;> exact (am_V_un (fun p => Nat.beq p 7 || Nat.beq p 36 || Nat.beq p 59 || Nat.beq p 67 || Nat.beq p 75 || Nat.beq p 90 || Nat.beq p 100) 9).trans rfl
set_option maxRecDepth 100000 in
theorem e_Reader_readLaw_90 {d : Nat} {Q : Value → am_H → Prop} {N : Nat} {I : Nat → Nat → Int32} {J : Nat → Nat → Int64} {x1 : Int32} {y0 : Int32} {r : am_rho} : am_V d Q 49 90 [some (.ref 43), some (.int x1), none] [.int y0] (am_hp N r I J) =
    am_if (decide (y0 = (nI 0))) (Q (.int (nI 1)) (am_hp N r I J)) (am_D d 32 [.ref 43, .int y0] (am_hp N r I J) (fun v h => am_asI v (fun y => am_V d Q 49 100 [some (.ref 43), some (.int x1), some (.int y0)] [.int y] h))) :=
  (am_V_un (fun p => Nat.beq p 7 || Nat.beq p 36 || Nat.beq p 59 || Nat.beq p 67 || Nat.beq p 75 || Nat.beq p 90 || Nat.beq p 100) 8).trans rfl
set_option maxRecDepth 100000 in
theorem e_Reader_readLaw_100 {d : Nat} {Q : Value → am_H → Prop} {N : Nat} {I : Nat → Nat → Int32} {J : Nat → Nat → Int64} {x1 : Int32} {x2 : Int32} {y0 : Int32} {r : am_rho} : am_V d Q 49 100 [some (.ref 43), some (.int x1), some (.int x2)] [.int y0] (am_hp N r I J) =
    am_if (decide (y0 = (nI 0))) (Q (.int (nI 0)) (am_hp N r I J)) (Q (.int (nI 1)) (am_hp N r I J)) :=
  (am_V_un (fun p => Nat.beq p 7 || Nat.beq p 36 || Nat.beq p 59 || Nat.beq p 67 || Nat.beq p 75 || Nat.beq p 90 || Nat.beq p 100) 6).trans rfl
set_option maxRecDepth 100000 in
theorem e_Tokens_begin {d : Nat} {Q : Value → am_H → Prop} {N : Nat} {I : Nat → Nat → Int32} {J : Nat → Nat → Int64} {x2 : Int32} {r : am_rho} {a1 : Nat} (h_a1 : a1 = 2 ∨ a1 = 45) : am_D (d + 1) 63 [.ref 44, .ref a1, .int x2] (am_hp N r I J) Q =
    am_g (!(Nat.beq (am_TT N a1).1 0) && Nat.ble (am_TT N a1).1 7) (am_D d 281 [.int x2, .int (nI (am_TT N a1).2)] (140, am_TT N, I, J, (am_uR (am_RR r) 44 0 a1)) (fun v h => am_asI v (fun y => am_V d Q 63 12 [some (.ref 44), some (.ref a1), some (.int x2)] [.int y, .ref 44] h))) :=
  by rcases h_a1 with rfl | rfl <;> exact (am_D_un rfl (fun p => Nat.beq p 12 || Nat.beq p 24) 10).trans rfl
set_option maxRecDepth 100000 in
theorem e_Tokens_begin_12 {d : Nat} {Q : Value → am_H → Prop} {N : Nat} {I : Nat → Nat → Int32} {J : Nat → Nat → Int64} {x2 : Int32} {y1 : Int32} {r : am_rho} {a1 : Nat} (h_a1 : a1 = 2 ∨ a1 = 45) : am_V d Q 63 12 [some (.ref 44), some (.ref a1), some (.int x2)] [.int y1, .ref 44] (am_hp N r I J) =
    am_D d 64 [.ref 44] (am_hp N r (am_u (am_u I 44 1 y1) 44 2 (nI 0)) J) (fun v h => am_V d Q 63 24 [some (.ref 44), some (.ref a1), some (.int x2)] [] h) :=
  by rcases h_a1 with rfl | rfl <;> exact (am_V_un (fun p => Nat.beq p 12 || Nat.beq p 24) 8).trans rfl
set_option maxRecDepth 100000 in
theorem e_Tokens_begin_24 {d : Nat} {Q : Value → am_H → Prop} {N : Nat} {I : Nat → Nat → Int32} {J : Nat → Nat → Int64} {x2 : Int32} {r : am_rho} {a1 : Nat} (h_a1 : a1 = 2 ∨ a1 = 45) : am_V d Q 63 24 [some (.ref 44), some (.ref a1), some (.int x2)] [] (am_hp N r I J) =
    Q .null (am_hp N r I J) :=
  by rcases h_a1 with rfl | rfl <;> exact (am_V_un (fun p => Nat.beq p 12 || Nat.beq p 24) 3).trans rfl
set_option maxRecDepth 100000 in
theorem e_Tokens_advance_0 {d : Nat} {Q : Value → am_H → Prop} {N : Nat} {I : Nat → Nat → Int32} {J : Nat → Nat → Int64} {rt rs rd rl rx nt nw nf : Nat} (h_rx : rx = 2 ∨ rx = 45) : am_V d Q 64 0 [some (.ref 44)] [] (am_hp N (rt, rs, rd, rl, rx, nt, nw, nf) I J) =
    am_if (decide ((I 44 1) ≤ (I 44 2))) (am_if (decide (((am_u I 44 4 (I 44 2)) 44 2) < ((am_u I 44 4 (I 44 2)) 44 1))) (am_D d 65 [.ref 44, .int ((am_u I 44 4 (I 44 2)) 44 2)] (am_hp N (rt, rs, rd, rl, rx, nt, nw, nf) (am_u I 44 4 (I 44 2)) J) (fun v h => am_asI v (fun y => am_V d Q 64 87 [some (.ref 44)] [.int y] h))) (am_V d Q 64 119 [some (.ref 44)] [] (am_hp N (rt, rs, rd, rl, rx, nt, nw, nf) (am_u (am_u I 44 4 (I 44 2)) 44 3 (nI 0)) J))) (am_g ((Nat.beq (am_TT N rx).1 3 || (Nat.beq (am_TT N rx).1 4 || Nat.beq (am_TT N rx).1 7)) && am_inb (I 44 2) (am_TT N rx).2) (am_if (decide ((I rx (I 44 2).toNatClampNeg) = (nI 32))) (am_V d Q 64 0 [some (.ref 44)] [] (am_hp N (rt, rs, rd, rl, rx, nt, nw, nf) (am_u I 44 2 ((I 44 2) + (nI 1))) J)) (am_g ((Nat.beq (am_TT N rx).1 3 || (Nat.beq (am_TT N rx).1 4 || Nat.beq (am_TT N rx).1 7)) && am_inb (I 44 2) (am_TT N rx).2) (am_if (!(decide ((I rx (I 44 2).toNatClampNeg) = (nI 10)))) (am_if (decide (((am_u I 44 4 (I 44 2)) 44 2) < ((am_u I 44 4 (I 44 2)) 44 1))) (am_D d 65 [.ref 44, .int ((am_u I 44 4 (I 44 2)) 44 2)] (am_hp N (rt, rs, rd, rl, rx, nt, nw, nf) (am_u I 44 4 (I 44 2)) J) (fun v h => am_asI v (fun y => am_V d Q 64 87 [some (.ref 44)] [.int y] h))) (am_V d Q 64 119 [some (.ref 44)] [] (am_hp N (rt, rs, rd, rl, rx, nt, nw, nf) (am_u (am_u I 44 4 (I 44 2)) 44 3 (nI 0)) J))) (am_V d Q 64 0 [some (.ref 44)] [] (am_hp N (rt, rs, rd, rl, rx, nt, nw, nf) (am_u I 44 2 ((I 44 2) + (nI 1))) J)))))) :=
  by rcases h_rx with rfl | rfl <;> exact (am_V_un (fun p => Nat.beq p 0 || Nat.beq p 87 || Nat.beq p 94 || Nat.beq p 105 || Nat.beq p 112 || Nat.beq p 119) 34).trans rfl
set_option maxRecDepth 100000 in
theorem e_Tokens_advance_87 {d : Nat} {Q : Value → am_H → Prop} {N : Nat} {I : Nat → Nat → Int32} {J : Nat → Nat → Int64} {y0 : Int32} {r : am_rho} : am_V d Q 64 87 [some (.ref 44)] [.int y0] (am_hp N r I J) =
    am_if (decide (y0 = (nI 0))) (am_D d 66 [.ref 44, .int (I 44 2)] (am_hp N r I J) (fun v h => am_asI v (fun y => am_V d Q 64 105 [some (.ref 44)] [.int y] h))) (am_D d 69 [.ref 44] (am_hp N r I J) (fun v h => am_V d Q 64 94 [some (.ref 44)] [] h)) :=
  (am_V_un (fun p => Nat.beq p 0 || Nat.beq p 87 || Nat.beq p 94 || Nat.beq p 105 || Nat.beq p 112 || Nat.beq p 119) 7).trans rfl
set_option maxRecDepth 100000 in
theorem e_Tokens_advance_94 {d : Nat} {Q : Value → am_H → Prop} {N : Nat} {I : Nat → Nat → Int32} {J : Nat → Nat → Int64} {r : am_rho} : am_V d Q 64 94 [some (.ref 44)] [] (am_hp N r I J) =
    am_V d Q 64 119 [some (.ref 44)] [] (am_hp N r I J) :=
  (am_V_un (fun p => Nat.beq p 0 || Nat.beq p 87 || Nat.beq p 94 || Nat.beq p 105 || Nat.beq p 112 || Nat.beq p 119) 3).trans rfl
set_option maxRecDepth 100000 in
theorem e_Tokens_advance_105 {d : Nat} {Q : Value → am_H → Prop} {N : Nat} {I : Nat → Nat → Int32} {J : Nat → Nat → Int64} {y0 : Int32} {r : am_rho} : am_V d Q 64 105 [some (.ref 44)] [.int y0] (am_hp N r I J) =
    am_if (decide (y0 = (nI 0))) (am_D d 71 [.ref 44] (am_hp N r I J) (fun v h => am_V d Q 64 119 [some (.ref 44)] [] h)) (am_D d 68 [.ref 44] (am_hp N r I J) (fun v h => am_V d Q 64 112 [some (.ref 44)] [] h)) :=
  (am_V_un (fun p => Nat.beq p 0 || Nat.beq p 87 || Nat.beq p 94 || Nat.beq p 105 || Nat.beq p 112 || Nat.beq p 119) 5).trans rfl
set_option maxRecDepth 100000 in
theorem e_Tokens_advance_112 {d : Nat} {Q : Value → am_H → Prop} {N : Nat} {I : Nat → Nat → Int32} {J : Nat → Nat → Int64} {r : am_rho} : am_V d Q 64 112 [some (.ref 44)] [] (am_hp N r I J) =
    am_V d Q 64 119 [some (.ref 44)] [] (am_hp N r I J) :=
  (am_V_un (fun p => Nat.beq p 0 || Nat.beq p 87 || Nat.beq p 94 || Nat.beq p 105 || Nat.beq p 112 || Nat.beq p 119) 3).trans rfl
set_option maxRecDepth 100000 in
theorem e_Tokens_advance_119 {d : Nat} {Q : Value → am_H → Prop} {N : Nat} {I : Nat → Nat → Int32} {J : Nat → Nat → Int64} {r : am_rho} : am_V d Q 64 119 [some (.ref 44)] [] (am_hp N r I J) =
    Q .null (am_hp N r I J) :=
  (am_V_un (fun p => Nat.beq p 0 || Nat.beq p 87 || Nat.beq p 94 || Nat.beq p 105 || Nat.beq p 112 || Nat.beq p 119) 3).trans rfl
set_option maxRecDepth 100000 in
theorem e_Tokens_isSmallLetter {d : Nat} {Q : Value → am_H → Prop} {N : Nat} {I : Nat → Nat → Int32} {J : Nat → Nat → Int64} {x1 : Int32} {rt rs rd rl rx nt nw nf : Nat} (h_rx : rx = 2 ∨ rx = 45) : am_D (d + 1) 65 [.ref 44, .int x1] (am_hp N (rt, rs, rd, rl, rx, nt, nw, nf) I J) Q =
    am_if (decide ((I 44 1) ≤ x1)) (Q (.int (nI 0)) (am_hp N (rt, rs, rd, rl, rx, nt, nw, nf) I J)) (am_g ((Nat.beq (am_TT N rx).1 3 || (Nat.beq (am_TT N rx).1 4 || Nat.beq (am_TT N rx).1 7)) && am_inb x1 (am_TT N rx).2) (am_if (decide ((I rx x1.toNatClampNeg) < (nI 97))) (Q (.int (nI 0)) (am_hp N (rt, rs, rd, rl, rx, nt, nw, nf) I J)) (am_g ((Nat.beq (am_TT N rx).1 3 || (Nat.beq (am_TT N rx).1 4 || Nat.beq (am_TT N rx).1 7)) && am_inb x1 (am_TT N rx).2) (am_if (decide (((nI 122) : Int32) < (I rx x1.toNatClampNeg))) (Q (.int (nI 0)) (am_hp N (rt, rs, rd, rl, rx, nt, nw, nf) I J)) (Q (.int (nI 1)) (am_hp N (rt, rs, rd, rl, rx, nt, nw, nf) I J)))))) :=
  by rcases h_rx with rfl | rfl <;> exact (am_D_un rfl (fun p => false) 21).trans rfl
set_option maxRecDepth 100000 in
theorem e_Tokens_isDigit {d : Nat} {Q : Value → am_H → Prop} {N : Nat} {I : Nat → Nat → Int32} {J : Nat → Nat → Int64} {x1 : Int32} {rt rs rd rl rx nt nw nf : Nat} (h_rx : rx = 2 ∨ rx = 45) : am_D (d + 1) 66 [.ref 44, .int x1] (am_hp N (rt, rs, rd, rl, rx, nt, nw, nf) I J) Q =
    am_if (decide ((I 44 1) ≤ x1)) (Q (.int (nI 0)) (am_hp N (rt, rs, rd, rl, rx, nt, nw, nf) I J)) (am_g ((Nat.beq (am_TT N rx).1 3 || (Nat.beq (am_TT N rx).1 4 || Nat.beq (am_TT N rx).1 7)) && am_inb x1 (am_TT N rx).2) (am_if (decide ((I rx x1.toNatClampNeg) < (nI 48))) (Q (.int (nI 0)) (am_hp N (rt, rs, rd, rl, rx, nt, nw, nf) I J)) (am_g ((Nat.beq (am_TT N rx).1 3 || (Nat.beq (am_TT N rx).1 4 || Nat.beq (am_TT N rx).1 7)) && am_inb x1 (am_TT N rx).2) (am_if (decide (((nI 57) : Int32) < (I rx x1.toNatClampNeg))) (Q (.int (nI 0)) (am_hp N (rt, rs, rd, rl, rx, nt, nw, nf) I J)) (Q (.int (nI 1)) (am_hp N (rt, rs, rd, rl, rx, nt, nw, nf) I J)))))) :=
  by rcases h_rx with rfl | rfl <;> exact (am_D_un rfl (fun p => false) 21).trans rfl
set_option maxRecDepth 100000 in
theorem e_Tokens_isAt {d : Nat} {Q : Value → am_H → Prop} {N : Nat} {I : Nat → Nat → Int32} {J : Nat → Nat → Int64} {x1 : Int32} {x2 : Int32} {rt rs rd rl rx nt nw nf : Nat} (h_rx : rx = 2 ∨ rx = 45) : am_D (d + 1) 67 [.ref 44, .int x1, .int x2] (am_hp N (rt, rs, rd, rl, rx, nt, nw, nf) I J) Q =
    am_if (decide ((I 44 1) ≤ x1)) (Q (.int (nI 0)) (am_hp N (rt, rs, rd, rl, rx, nt, nw, nf) I J)) (am_g ((Nat.beq (am_TT N rx).1 3 || (Nat.beq (am_TT N rx).1 4 || Nat.beq (am_TT N rx).1 7)) && am_inb x1 (am_TT N rx).2) (am_if (!(decide ((I rx x1.toNatClampNeg) = x2))) (Q (.int (nI 0)) (am_hp N (rt, rs, rd, rl, rx, nt, nw, nf) I J)) (Q (.int (nI 1)) (am_hp N (rt, rs, rd, rl, rx, nt, nw, nf) I J)))) :=
  by rcases h_rx with rfl | rfl <;> exact (am_D_un rfl (fun p => false) 15).trans rfl
set_option maxRecDepth 100000 in
theorem e_Tokens_readNumber {d : Nat} {Q : Value → am_H → Prop} {N : Nat} {I : Nat → Nat → Int32} {J : Nat → Nat → Int64} {r : am_rho} : am_D (d + 1) 68 [.ref 44] (am_hp N r I J) Q =
    am_V d Q 68 10 [some (.ref 44)] [] (am_hp N r (am_u (am_u I 44 3 (nI 2)) 44 5 (nI 0)) J) :=
  (am_D_un rfl (fun p => Nat.beq p 10 || Nat.beq p 29 || Nat.beq p 58) 8).trans rfl
set_option maxRecDepth 100000 in
theorem e_Tokens_readNumber_10 {d : Nat} {Q : Value → am_H → Prop} {N : Nat} {I : Nat → Nat → Int32} {J : Nat → Nat → Int64} {r : am_rho} : am_V d Q 68 10 [some (.ref 44)] [] (am_hp N r I J) =
    am_if (decide ((I 44 1) ≤ (I 44 2))) (Q .null (am_hp N r I J)) (am_D d 66 [.ref 44, .int (I 44 2)] (am_hp N r I J) (fun v h => am_asI v (fun y => am_V d Q 68 29 [some (.ref 44)] [.int y] h))) :=
  (am_V_un (fun p => Nat.beq p 10 || Nat.beq p 29 || Nat.beq p 58) 11).trans rfl
set_option maxRecDepth 100000 in
theorem e_Tokens_readNumber_29 {d : Nat} {Q : Value → am_H → Prop} {N : Nat} {I : Nat → Nat → Int32} {J : Nat → Nat → Int64} {y0 : Int32} {rt rs rd rl rx nt nw nf : Nat} (h_rx : rx = 2 ∨ rx = 45) : am_V d Q 68 29 [some (.ref 44)] [.int y0] (am_hp N (rt, rs, rd, rl, rx, nt, nw, nf) I J) =
    am_if (decide (y0 = (nI 0))) (Q .null (am_hp N (rt, rs, rd, rl, rx, nt, nw, nf) I J)) (am_g ((Nat.beq (am_TT N rx).1 3 || (Nat.beq (am_TT N rx).1 4 || Nat.beq (am_TT N rx).1 7)) && am_inb (I 44 2) (am_TT N rx).2) (am_D d 281 [.int (nI 1000000), .int ((((I 44 5) * (nI 10)) + (I rx (I 44 2).toNatClampNeg)) - (nI 48))] (am_hp N (rt, rs, rd, rl, rx, nt, nw, nf) I J) (fun v h => am_asI v (fun y => am_V d Q 68 58 [some (.ref 44)] [.int y, .ref 44] h)))) :=
  by rcases h_rx with rfl | rfl <;> exact (am_V_un (fun p => Nat.beq p 10 || Nat.beq p 29 || Nat.beq p 58) 18).trans rfl
set_option maxRecDepth 100000 in
theorem e_Tokens_readNumber_58 {d : Nat} {Q : Value → am_H → Prop} {N : Nat} {I : Nat → Nat → Int32} {J : Nat → Nat → Int64} {y1 : Int32} {r : am_rho} : am_V d Q 68 58 [some (.ref 44)] [.int y1, .ref 44] (am_hp N r I J) =
    am_V d Q 68 10 [some (.ref 44)] [] (am_hp N r (am_u (am_u I 44 5 y1) 44 2 (((am_u I 44 5 y1) 44 2) + (nI 1))) J) :=
  (am_V_un (fun p => Nat.beq p 10 || Nat.beq p 29 || Nat.beq p 58) 10).trans rfl
set_option maxRecDepth 100000 in
theorem e_Tokens_readWord_0 {d : Nat} {Q : Value → am_H → Prop} {N : Nat} {I : Nat → Nat → Int32} {J : Nat → Nat → Int64} {r : am_rho} : am_V d Q 69 0 [some (.ref 44), none, none] [] (am_hp N r I J) =
    am_if (decide ((I 44 1) ≤ (I 44 2))) (am_D d 70 [.ref 44] (am_hp N r I J) (fun v h => am_asI v (fun y => am_V d Q 69 39 [some (.ref 44), none, none] [.int y] h))) (am_D d 65 [.ref 44, .int (I 44 2)] (am_hp N r I J) (fun v h => am_asI v (fun y => am_V d Q 69 19 [some (.ref 44), none, none] [.int y] h))) :=
  (am_V_un (fun p => Nat.beq p 0 || Nat.beq p 19 || Nat.beq p 39 || Nat.beq p 92) 11).trans rfl
set_option maxRecDepth 100000 in
theorem e_Tokens_readWord_19 {d : Nat} {Q : Value → am_H → Prop} {N : Nat} {I : Nat → Nat → Int32} {J : Nat → Nat → Int64} {y0 : Int32} {r : am_rho} : am_V d Q 69 19 [some (.ref 44), none, none] [.int y0] (am_hp N r I J) =
    am_if (decide (y0 = (nI 0))) (am_D d 70 [.ref 44] (am_hp N r I J) (fun v h => am_asI v (fun y => am_V d Q 69 39 [some (.ref 44), none, none] [.int y] h))) (am_V d Q 69 0 [some (.ref 44), none, none] [] (am_hp N r (am_u I 44 2 ((I 44 2) + (nI 1))) J)) :=
  (am_V_un (fun p => Nat.beq p 0 || Nat.beq p 19 || Nat.beq p 39 || Nat.beq p 92) 10).trans rfl
set_option maxRecDepth 100000 in
theorem e_Tokens_readWord_39 {d : Nat} {Q : Value → am_H → Prop} {N : Nat} {I : Nat → Nat → Int32} {J : Nat → Nat → Int64} {y0 : Int32} {r : am_rho} : am_V d Q 69 39 [some (.ref 44), none, none] [.int y0] (am_hp N r I J) =
    am_if (decide (y0 = (-nI 1))) (am_if (decide (((I 44 2) - (I 44 4)) ≤ (nI 6))) (am_V d Q 69 92 [some (.ref 44), some (.int y0), some (.int ((am_u (am_u I 44 3 (nI 3)) 44 5 (nI 0)) 44 4))] [] (am_hp N r (am_u (am_u I 44 3 (nI 3)) 44 5 (nI 0)) J)) (Q .null (am_hp N r (am_u I 44 3 (nI 1)) J))) (Q .null (am_hp N r (am_u I 44 3 ((nI 4) + y0)) J)) :=
  (am_V_un (fun p => Nat.beq p 0 || Nat.beq p 19 || Nat.beq p 39 || Nat.beq p 92) 22).trans rfl
set_option maxRecDepth 100000 in
theorem e_Tokens_readWord_92 {d : Nat} {Q : Value → am_H → Prop} {N : Nat} {I : Nat → Nat → Int32} {J : Nat → Nat → Int64} {x1 : Int32} {x2 : Int32} {rt rs rd rl rx nt nw nf : Nat} (h_rx : rx = 2 ∨ rx = 45) : am_V d Q 69 92 [some (.ref 44), some (.int x1), some (.int x2)] [] (am_hp N (rt, rs, rd, rl, rx, nt, nw, nf) I J) =
    am_if (decide (((I 44 4) + (nI 6)) ≤ x2)) (Q .null (am_hp N (rt, rs, rd, rl, rx, nt, nw, nf) I J)) (am_if (decide ((I 44 2) ≤ x2)) (am_V d Q 69 92 [some (.ref 44), some (.int x1), some (.int (x2 + (nI 1)))] [] (am_hp N (rt, rs, rd, rl, rx, nt, nw, nf) (am_u I 44 5 (((I 44 5) <<< ((nI 5) &&& nI 31)) ||| (nI 0))) J)) (am_g ((Nat.beq (am_TT N rx).1 3 || (Nat.beq (am_TT N rx).1 4 || Nat.beq (am_TT N rx).1 7)) && am_inb x2 (am_TT N rx).2) (am_V d Q 69 92 [some (.ref 44), some (.int x1), some (.int (x2 + (nI 1)))] [] (am_hp N (rt, rs, rd, rl, rx, nt, nw, nf) (am_u I 44 5 (((I 44 5) <<< ((nI 5) &&& nI 31)) ||| (((I rx x2.toNatClampNeg) - (nI 97)) + (nI 1)))) J)))) :=
  by rcases h_rx with rfl | rfl <;> exact (am_V_un (fun p => Nat.beq p 0 || Nat.beq p 19 || Nat.beq p 39 || Nat.beq p 92) 30).trans rfl
set_option maxRecDepth 100000 in
theorem e_Tokens_wordNumber {d : Nat} {Q : Value → am_H → Prop} {N : Nat} {I : Nat → Nat → Int32} {J : Nat → Nat → Int64} {r : am_rho} : am_D (d + 1) 70 [.ref 44] (am_hp N r I J) Q =
    am_V d Q 70 12 [some (.ref 44), some (.int (nI 0)), some (.int (I 44 4)), some (.int (nI 1)), some (.int (nI 0))] [] (am_hp N r I J) :=
  (am_D_un rfl (fun p => Nat.beq p 12 || Nat.beq p 19 || Nat.beq p 29 || Nat.beq p 59) 11).trans rfl
set_option maxRecDepth 100000 in
theorem e_Tokens_wordNumber_12 {d : Nat} {Q : Value → am_H → Prop} {N : Nat} {I : Nat → Nat → Int32} {J : Nat → Nat → Int64} {x1 : Int32} {x2 : Int32} {x3 : Int32} {x4 : Int32} {r : am_rho} : am_V d Q 70 12 [some (.ref 44), some (.int x1), some (.int x2), some (.int x3), some (.int x4)] [] (am_hp N r I J) =
    am_D d 283 [.ref 2003] (am_hp N r I J) (fun v h => am_asI v (fun y => am_V d Q 70 19 [some (.ref 44), some (.int x1), some (.int x2), some (.int x3), some (.int x4)] [.int y, .int x4] h)) :=
  (am_V_un (fun p => Nat.beq p 12 || Nat.beq p 19 || Nat.beq p 29 || Nat.beq p 59) 5).trans rfl
set_option maxRecDepth 100000 in
theorem e_Tokens_wordNumber_19 {d : Nat} {Q : Value → am_H → Prop} {N : Nat} {I : Nat → Nat → Int32} {J : Nat → Nat → Int64} {x1 : Int32} {x2 : Int32} {x3 : Int32} {x4 : Int32} {y0 : Int32} {y1 : Int32} {r : am_rho} : am_V d Q 70 19 [some (.ref 44), some (.int x1), some (.int x2), some (.int x3), some (.int x4)] [.int y1, .int y0] (am_hp N r I J) =
    am_if (decide (y1 ≤ y0)) (Q (.int (-nI 1)) (am_hp N r I J)) (am_D d 284 [.ref 2003, .int x4] (am_hp N r I J) (fun v h => am_asI v (fun y => am_V d Q 70 29 [some (.ref 44), some (.int x1), some (.int x2), some (.int x3), some (.int x4)] [.int y] h))) :=
  (am_V_un (fun p => Nat.beq p 12 || Nat.beq p 19 || Nat.beq p 29 || Nat.beq p 59) 6).trans rfl
set_option maxRecDepth 100000 in
theorem e_Tokens_wordNumber_29 {d : Nat} {Q : Value → am_H → Prop} {N : Nat} {I : Nat → Nat → Int32} {J : Nat → Nat → Int64} {x1 : Int32} {x2 : Int32} {x3 : Int32} {x4 : Int32} {y0 : Int32} {rt rs rd rl rx nt nw nf : Nat} (h_rx : rx = 2 ∨ rx = 45) : am_V d Q 70 29 [some (.ref 44), some (.int x1), some (.int x2), some (.int x3), some (.int x4)] [.int y0] (am_hp N (rt, rs, rd, rl, rx, nt, nw, nf) I J) =
    am_if (decide (y0 = (nI 32))) (am_if (decide (x3 = (nI 0))) (am_V d Q 70 12 [some (.ref 44), some (.int (x1 + (nI 1))), some (.int (I 44 4)), some (.int (nI 1)), some (.int (x4 + (nI 1)))] [] (am_hp N (rt, rs, rd, rl, rx, nt, nw, nf) I J)) (am_if (!(decide (x2 = (I 44 2)))) (am_V d Q 70 12 [some (.ref 44), some (.int (x1 + (nI 1))), some (.int (I 44 4)), some (.int (nI 1)), some (.int (x4 + (nI 1)))] [] (am_hp N (rt, rs, rd, rl, rx, nt, nw, nf) I J)) (Q (.int x1) (am_hp N (rt, rs, rd, rl, rx, nt, nw, nf) I J)))) (am_if (decide (x3 = (nI 0))) (am_V d Q 70 12 [some (.ref 44), some (.int x1), some (.int (x2 + (nI 1))), some (.int (nI 0)), some (.int (x4 + (nI 1)))] [] (am_hp N (rt, rs, rd, rl, rx, nt, nw, nf) I J)) (am_if (decide ((I 44 2) ≤ x2)) (am_V d Q 70 12 [some (.ref 44), some (.int x1), some (.int (x2 + (nI 1))), some (.int (nI 0)), some (.int (x4 + (nI 1)))] [] (am_hp N (rt, rs, rd, rl, rx, nt, nw, nf) I J)) (am_g ((Nat.beq (am_TT N rx).1 3 || (Nat.beq (am_TT N rx).1 4 || Nat.beq (am_TT N rx).1 7)) && am_inb x2 (am_TT N rx).2) (am_D d 284 [.ref 2003, .int x4] (am_hp N (rt, rs, rd, rl, rx, nt, nw, nf) I J) (fun v h => am_asI v (fun y => am_V d Q 70 59 [some (.ref 44), some (.int x1), some (.int x2), some (.int x3), some (.int x4)] [.int y, .int (I rx x2.toNatClampNeg)] h)))))) :=
  by rcases h_rx with rfl | rfl <;> exact (am_V_un (fun p => Nat.beq p 12 || Nat.beq p 19 || Nat.beq p 29 || Nat.beq p 59) 18).trans rfl
set_option maxRecDepth 100000 in
theorem e_Tokens_wordNumber_59 {d : Nat} {Q : Value → am_H → Prop} {N : Nat} {I : Nat → Nat → Int32} {J : Nat → Nat → Int64} {x1 : Int32} {x2 : Int32} {x3 : Int32} {x4 : Int32} {y0 : Int32} {y1 : Int32} {r : am_rho} : am_V d Q 70 59 [some (.ref 44), some (.int x1), some (.int x2), some (.int x3), some (.int x4)] [.int y1, .int y0] (am_hp N r I J) =
    am_if (!(decide (y0 = y1))) (am_V d Q 70 12 [some (.ref 44), some (.int x1), some (.int (x2 + (nI 1))), some (.int (nI 0)), some (.int (x4 + (nI 1)))] [] (am_hp N r I J)) (am_V d Q 70 12 [some (.ref 44), some (.int x1), some (.int (x2 + (nI 1))), some (.int (nI 1)), some (.int (x4 + (nI 1)))] [] (am_hp N r I J)) :=
  (am_V_un (fun p => Nat.beq p 12 || Nat.beq p 19 || Nat.beq p 29 || Nat.beq p 59) 10).trans rfl
set_option maxRecDepth 100000 in
theorem e_Tokens_readSign {d : Nat} {Q : Value → am_H → Prop} {N : Nat} {I : Nat → Nat → Int32} {J : Nat → Nat → Int64} {rt rs rd rl rx nt nw nf : Nat} (h_rx : rx = 2 ∨ rx = 45) : am_D (d + 1) 71 [.ref 44] (am_hp N (rt, rs, rd, rl, rx, nt, nw, nf) I J) Q =
    am_g ((Nat.beq (am_TT N rx).1 3 || (Nat.beq (am_TT N rx).1 4 || Nat.beq (am_TT N rx).1 7)) && am_inb (I 44 2) (am_TT N rx).2) (am_if (decide ((UInt32.toInt32 (Int32.toUInt32 ((I rx (I 44 2).toNatClampNeg) &&& (nI 255)) % 65536)) = (nI 60))) (am_D d 67 [.ref 44, .int ((am_u I 44 2 ((I 44 2) + (nI 1))) 44 2), .int (nI 61)] (am_hp N (rt, rs, rd, rl, rx, nt, nw, nf) (am_u I 44 2 ((I 44 2) + (nI 1))) J) (fun v h => am_asI v (fun y => am_V d Q 71 63 [some (.ref 44), some (.int (UInt32.toInt32 (Int32.toUInt32 ((I rx (I 44 2).toNatClampNeg) &&& (nI 255)) % 65536))), none] [.int y, .ref 44] h))) (am_if (decide ((UInt32.toInt32 (Int32.toUInt32 ((I rx (I 44 2).toNatClampNeg) &&& (nI 255)) % 65536)) = (nI 61))) (am_if (decide (((am_u (am_u I 44 2 ((I 44 2) + (nI 1))) 44 3 (nI 36)) 44 3) = (nI 35))) (Q .null (am_hp N (rt, rs, rd, rl, rx, nt, nw, nf) (am_u (am_u (am_u I 44 2 ((I 44 2) + (nI 1))) 44 3 (nI 36)) 44 2 (((am_u (am_u I 44 2 ((I 44 2) + (nI 1))) 44 3 (nI 36)) 44 2) + (nI 1))) J)) (am_if (decide (((am_u (am_u I 44 2 ((I 44 2) + (nI 1))) 44 3 (nI 36)) 44 3) = (nI 37))) (Q .null (am_hp N (rt, rs, rd, rl, rx, nt, nw, nf) (am_u (am_u (am_u I 44 2 ((I 44 2) + (nI 1))) 44 3 (nI 36)) 44 2 (((am_u (am_u I 44 2 ((I 44 2) + (nI 1))) 44 3 (nI 36)) 44 2) + (nI 1))) J)) (am_if (!(decide (((am_u (am_u I 44 2 ((I 44 2) + (nI 1))) 44 3 (nI 36)) 44 3) = (nI 38)))) (Q .null (am_hp N (rt, rs, rd, rl, rx, nt, nw, nf) (am_u (am_u I 44 2 ((I 44 2) + (nI 1))) 44 3 (nI 36)) J)) (Q .null (am_hp N (rt, rs, rd, rl, rx, nt, nw, nf) (am_u (am_u (am_u I 44 2 ((I 44 2) + (nI 1))) 44 3 (nI 36)) 44 2 (((am_u (am_u I 44 2 ((I 44 2) + (nI 1))) 44 3 (nI 36)) 44 2) + (nI 1))) J))))) (am_if (decide ((UInt32.toInt32 (Int32.toUInt32 ((I rx (I 44 2).toNatClampNeg) &&& (nI 255)) % 65536)) = (nI 62))) (am_D d 67 [.ref 44, .int ((am_u I 44 2 ((I 44 2) + (nI 1))) 44 2), .int (nI 61)] (am_hp N (rt, rs, rd, rl, rx, nt, nw, nf) (am_u I 44 2 ((I 44 2) + (nI 1))) J) (fun v h => am_asI v (fun y => am_V d Q 71 108 [some (.ref 44), some (.int (UInt32.toInt32 (Int32.toUInt32 ((I rx (I 44 2).toNatClampNeg) &&& (nI 255)) % 65536))), none] [.int y, .ref 44] h))) (am_D d 285 [.ref 2004, .int (UInt32.toInt32 (Int32.toUInt32 ((I rx (I 44 2).toNatClampNeg) &&& (nI 255)) % 65536))] (am_hp N (rt, rs, rd, rl, rx, nt, nw, nf) (am_u I 44 2 ((I 44 2) + (nI 1))) J) (fun v h => am_asI v (fun y => am_V d Q 71 139 [some (.ref 44), some (.int (UInt32.toInt32 (Int32.toUInt32 ((I rx (I 44 2).toNatClampNeg) &&& (nI 255)) % 65536))), none] [.int y] h)))))) :=
  by rcases h_rx with rfl | rfl <;> exact (am_D_un rfl (fun p => Nat.beq p 63 || Nat.beq p 81 || Nat.beq p 108 || Nat.beq p 139) 42).trans rfl
set_option maxRecDepth 100000 in
theorem e_Tokens_readSign_63 {d : Nat} {Q : Value → am_H → Prop} {N : Nat} {I : Nat → Nat → Int32} {J : Nat → Nat → Int64} {x1 : Int32} {y1 : Int32} {r : am_rho} : am_V d Q 71 63 [some (.ref 44), some (.int x1), none] [.int y1, .ref 44] (am_hp N r I J) =
    am_if (decide (y1 = (nI 0))) (am_D d 67 [.ref 44, .int (I 44 2), .int (nI 62)] (am_hp N r I J) (fun v h => am_asI v (fun y => am_V d Q 71 81 [some (.ref 44), some (.int x1), none] [.int y, .ref 44] h))) (am_if (decide (((am_u I 44 3 (nI 35)) 44 3) = (nI 35))) (Q .null (am_hp N r (am_u (am_u I 44 3 (nI 35)) 44 2 (((am_u I 44 3 (nI 35)) 44 2) + (nI 1))) J)) (am_if (decide (((am_u I 44 3 (nI 35)) 44 3) = (nI 37))) (Q .null (am_hp N r (am_u (am_u I 44 3 (nI 35)) 44 2 (((am_u I 44 3 (nI 35)) 44 2) + (nI 1))) J)) (am_if (!(decide (((am_u I 44 3 (nI 35)) 44 3) = (nI 38)))) (Q .null (am_hp N r (am_u I 44 3 (nI 35)) J)) (Q .null (am_hp N r (am_u (am_u I 44 3 (nI 35)) 44 2 (((am_u I 44 3 (nI 35)) 44 2) + (nI 1))) J))))) :=
  (am_V_un (fun p => Nat.beq p 63 || Nat.beq p 81 || Nat.beq p 108 || Nat.beq p 139) 26).trans rfl
set_option maxRecDepth 100000 in
theorem e_Tokens_readSign_81 {d : Nat} {Q : Value → am_H → Prop} {N : Nat} {I : Nat → Nat → Int32} {J : Nat → Nat → Int64} {x1 : Int32} {y1 : Int32} {r : am_rho} : am_V d Q 71 81 [some (.ref 44), some (.int x1), none] [.int y1, .ref 44] (am_hp N r I J) =
    am_if (decide (y1 = (nI 0))) (am_if (decide (((am_u I 44 3 (nI 34)) 44 3) = (nI 35))) (Q .null (am_hp N r (am_u (am_u I 44 3 (nI 34)) 44 2 (((am_u I 44 3 (nI 34)) 44 2) + (nI 1))) J)) (am_if (decide (((am_u I 44 3 (nI 34)) 44 3) = (nI 37))) (Q .null (am_hp N r (am_u (am_u I 44 3 (nI 34)) 44 2 (((am_u I 44 3 (nI 34)) 44 2) + (nI 1))) J)) (am_if (!(decide (((am_u I 44 3 (nI 34)) 44 3) = (nI 38)))) (Q .null (am_hp N r (am_u I 44 3 (nI 34)) J)) (Q .null (am_hp N r (am_u (am_u I 44 3 (nI 34)) 44 2 (((am_u I 44 3 (nI 34)) 44 2) + (nI 1))) J))))) (am_if (decide (((am_u I 44 3 (nI 37)) 44 3) = (nI 35))) (Q .null (am_hp N r (am_u (am_u I 44 3 (nI 37)) 44 2 (((am_u I 44 3 (nI 37)) 44 2) + (nI 1))) J)) (am_if (decide (((am_u I 44 3 (nI 37)) 44 3) = (nI 37))) (Q .null (am_hp N r (am_u (am_u I 44 3 (nI 37)) 44 2 (((am_u I 44 3 (nI 37)) 44 2) + (nI 1))) J)) (am_if (!(decide (((am_u I 44 3 (nI 37)) 44 3) = (nI 38)))) (Q .null (am_hp N r (am_u I 44 3 (nI 37)) J)) (Q .null (am_hp N r (am_u (am_u I 44 3 (nI 37)) 44 2 (((am_u I 44 3 (nI 37)) 44 2) + (nI 1))) J))))) :=
  (am_V_un (fun p => Nat.beq p 63 || Nat.beq p 81 || Nat.beq p 108 || Nat.beq p 139) 26).trans rfl
set_option maxRecDepth 100000 in
theorem e_Tokens_readSign_108 {d : Nat} {Q : Value → am_H → Prop} {N : Nat} {I : Nat → Nat → Int32} {J : Nat → Nat → Int64} {x1 : Int32} {y1 : Int32} {r : am_rho} : am_V d Q 71 108 [some (.ref 44), some (.int x1), none] [.int y1, .ref 44] (am_hp N r I J) =
    am_if (decide (y1 = (nI 0))) (am_if (decide (((am_u I 44 3 (nI 39)) 44 3) = (nI 35))) (Q .null (am_hp N r (am_u (am_u I 44 3 (nI 39)) 44 2 (((am_u I 44 3 (nI 39)) 44 2) + (nI 1))) J)) (am_if (decide (((am_u I 44 3 (nI 39)) 44 3) = (nI 37))) (Q .null (am_hp N r (am_u (am_u I 44 3 (nI 39)) 44 2 (((am_u I 44 3 (nI 39)) 44 2) + (nI 1))) J)) (am_if (!(decide (((am_u I 44 3 (nI 39)) 44 3) = (nI 38)))) (Q .null (am_hp N r (am_u I 44 3 (nI 39)) J)) (Q .null (am_hp N r (am_u (am_u I 44 3 (nI 39)) 44 2 (((am_u I 44 3 (nI 39)) 44 2) + (nI 1))) J))))) (am_if (decide (((am_u I 44 3 (nI 38)) 44 3) = (nI 35))) (Q .null (am_hp N r (am_u (am_u I 44 3 (nI 38)) 44 2 (((am_u I 44 3 (nI 38)) 44 2) + (nI 1))) J)) (am_if (decide (((am_u I 44 3 (nI 38)) 44 3) = (nI 37))) (Q .null (am_hp N r (am_u (am_u I 44 3 (nI 38)) 44 2 (((am_u I 44 3 (nI 38)) 44 2) + (nI 1))) J)) (am_if (!(decide (((am_u I 44 3 (nI 38)) 44 3) = (nI 38)))) (Q .null (am_hp N r (am_u I 44 3 (nI 38)) J)) (Q .null (am_hp N r (am_u (am_u I 44 3 (nI 38)) 44 2 (((am_u I 44 3 (nI 38)) 44 2) + (nI 1))) J))))) :=
  (am_V_un (fun p => Nat.beq p 63 || Nat.beq p 81 || Nat.beq p 108 || Nat.beq p 139) 26).trans rfl
set_option maxRecDepth 100000 in
theorem e_Tokens_readSign_139 {d : Nat} {Q : Value → am_H → Prop} {N : Nat} {I : Nat → Nat → Int32} {J : Nat → Nat → Int64} {x1 : Int32} {y0 : Int32} {r : am_rho} : am_V d Q 71 139 [some (.ref 44), some (.int x1), none] [.int y0] (am_hp N r I J) =
    am_if (decide (((nI 0) : Int32) ≤ y0)) (am_if (decide (((am_u I 44 3 ((nI 27) + y0)) 44 3) = (nI 35))) (Q .null (am_hp N r (am_u (am_u I 44 3 ((nI 27) + y0)) 44 2 (((am_u I 44 3 ((nI 27) + y0)) 44 2) + (nI 1))) J)) (am_if (decide (((am_u I 44 3 ((nI 27) + y0)) 44 3) = (nI 37))) (Q .null (am_hp N r (am_u (am_u I 44 3 ((nI 27) + y0)) 44 2 (((am_u I 44 3 ((nI 27) + y0)) 44 2) + (nI 1))) J)) (am_if (!(decide (((am_u I 44 3 ((nI 27) + y0)) 44 3) = (nI 38)))) (Q .null (am_hp N r (am_u I 44 3 ((nI 27) + y0)) J)) (Q .null (am_hp N r (am_u (am_u I 44 3 ((nI 27) + y0)) 44 2 (((am_u I 44 3 ((nI 27) + y0)) 44 2) + (nI 1))) J))))) (am_if (decide (((am_u I 44 3 (nI 1)) 44 3) = (nI 35))) (Q .null (am_hp N r (am_u (am_u I 44 3 (nI 1)) 44 2 (((am_u I 44 3 (nI 1)) 44 2) + (nI 1))) J)) (am_if (decide (((am_u I 44 3 (nI 1)) 44 3) = (nI 37))) (Q .null (am_hp N r (am_u (am_u I 44 3 (nI 1)) 44 2 (((am_u I 44 3 (nI 1)) 44 2) + (nI 1))) J)) (am_if (!(decide (((am_u I 44 3 (nI 1)) 44 3) = (nI 38)))) (Q .null (am_hp N r (am_u I 44 3 (nI 1)) J)) (Q .null (am_hp N r (am_u (am_u I 44 3 (nI 1)) 44 2 (((am_u I 44 3 (nI 1)) 44 2) + (nI 1))) J))))) :=
  (am_V_un (fun p => Nat.beq p 63 || Nat.beq p 81 || Nat.beq p 108 || Nat.beq p 139) 29).trans rfl
set_option maxRecDepth 100000 in
theorem e_Town_clear {d : Nat} {Q : Value → am_H → Prop} {N : Nat} {I : Nat → Nat → Int32} {J : Nat → Nat → Int64} {r : am_rho} {a0 : Nat} (h_a0 : a0 = 3 ∨ a0 = 23) : am_D (d + 1) 73 [.ref a0] (am_hp N r I J) Q =
    am_D d 294 [.ref (a0 + 4), .int (nI 0)] (am_hp N r (am_u (am_u (am_u (am_u (am_u (am_u (am_u I a0 0 (nI 0)) a0 1 (nI 0)) a0 2 (nI 0)) a0 3 (nI 0)) a0 4 (nI 0)) a0 5 (nI 0)) a0 6 (nI 0)) J) (fun v h => am_V d Q 73 43 [some (.ref a0)] [] h) :=
  by rcases h_a0 with rfl | rfl <;> exact (am_D_un rfl (fun p => Nat.beq p 43 || Nat.beq p 51 || Nat.beq p 59 || Nat.beq p 67 || Nat.beq p 75 || Nat.beq p 82) 27).trans rfl
set_option maxRecDepth 100000 in
theorem e_Town_clear_43 {d : Nat} {Q : Value → am_H → Prop} {N : Nat} {I : Nat → Nat → Int32} {J : Nat → Nat → Int64} {r : am_rho} {a0 : Nat} (h_a0 : a0 = 3 ∨ a0 = 23) : am_V d Q 73 43 [some (.ref a0)] [] (am_hp N r I J) =
    am_D d 294 [.ref (a0 + 11), .int (nI 0)] (am_hp N r I J) (fun v h => am_V d Q 73 51 [some (.ref a0)] [] h) :=
  by rcases h_a0 with rfl | rfl <;> exact (am_V_un (fun p => Nat.beq p 43 || Nat.beq p 51 || Nat.beq p 59 || Nat.beq p 67 || Nat.beq p 75 || Nat.beq p 82) 6).trans rfl
set_option maxRecDepth 100000 in
theorem e_Town_clear_51 {d : Nat} {Q : Value → am_H → Prop} {N : Nat} {I : Nat → Nat → Int32} {J : Nat → Nat → Int64} {r : am_rho} {a0 : Nat} (h_a0 : a0 = 3 ∨ a0 = 23) : am_V d Q 73 51 [some (.ref a0)] [] (am_hp N r I J) =
    am_D d 294 [.ref (a0 + 12), .int (nI 0)] (am_hp N r I J) (fun v h => am_V d Q 73 59 [some (.ref a0)] [] h) :=
  by rcases h_a0 with rfl | rfl <;> exact (am_V_un (fun p => Nat.beq p 43 || Nat.beq p 51 || Nat.beq p 59 || Nat.beq p 67 || Nat.beq p 75 || Nat.beq p 82) 6).trans rfl
set_option maxRecDepth 100000 in
theorem e_Town_clear_59 {d : Nat} {Q : Value → am_H → Prop} {N : Nat} {I : Nat → Nat → Int32} {J : Nat → Nat → Int64} {r : am_rho} {a0 : Nat} (h_a0 : a0 = 3 ∨ a0 = 23) : am_V d Q 73 59 [some (.ref a0)] [] (am_hp N r I J) =
    am_D d 294 [.ref (a0 + 13), .int (nI 0)] (am_hp N r I J) (fun v h => am_V d Q 73 67 [some (.ref a0)] [] h) :=
  by rcases h_a0 with rfl | rfl <;> exact (am_V_un (fun p => Nat.beq p 43 || Nat.beq p 51 || Nat.beq p 59 || Nat.beq p 67 || Nat.beq p 75 || Nat.beq p 82) 6).trans rfl
set_option maxRecDepth 100000 in
theorem e_Town_clear_67 {d : Nat} {Q : Value → am_H → Prop} {N : Nat} {I : Nat → Nat → Int32} {J : Nat → Nat → Int64} {r : am_rho} {a0 : Nat} (h_a0 : a0 = 3 ∨ a0 = 23) : am_V d Q 73 67 [some (.ref a0)] [] (am_hp N r I J) =
    am_D d 294 [.ref (a0 + 14), .int (nI 0)] (am_hp N r I J) (fun v h => am_V d Q 73 75 [some (.ref a0)] [] h) :=
  by rcases h_a0 with rfl | rfl <;> exact (am_V_un (fun p => Nat.beq p 43 || Nat.beq p 51 || Nat.beq p 59 || Nat.beq p 67 || Nat.beq p 75 || Nat.beq p 82) 6).trans rfl
set_option maxRecDepth 100000 in
theorem e_Town_clear_75 {d : Nat} {Q : Value → am_H → Prop} {N : Nat} {I : Nat → Nat → Int32} {J : Nat → Nat → Int64} {r : am_rho} {a0 : Nat} (h_a0 : a0 = 3 ∨ a0 = 23) : am_V d Q 73 75 [some (.ref a0)] [] (am_hp N r I J) =
    am_D d 11 [.ref (a0 + 15)] (am_hp N r I J) (fun v h => am_V d Q 73 82 [some (.ref a0)] [] h) :=
  by rcases h_a0 with rfl | rfl <;> exact (am_V_un (fun p => Nat.beq p 43 || Nat.beq p 51 || Nat.beq p 59 || Nat.beq p 67 || Nat.beq p 75 || Nat.beq p 82) 5).trans rfl
set_option maxRecDepth 100000 in
theorem e_Town_clear_82 {d : Nat} {Q : Value → am_H → Prop} {N : Nat} {I : Nat → Nat → Int32} {J : Nat → Nat → Int64} {r : am_rho} {a0 : Nat} (h_a0 : a0 = 3 ∨ a0 = 23) : am_V d Q 73 82 [some (.ref a0)] [] (am_hp N r I J) =
    Q .null (am_hp N r I J) :=
  by rcases h_a0 with rfl | rfl <;> exact (am_V_un (fun p => Nat.beq p 43 || Nat.beq p 51 || Nat.beq p 59 || Nat.beq p 67 || Nat.beq p 75 || Nat.beq p 82) 3).trans rfl
set_option maxRecDepth 100000 in
theorem e_Town_addStreet {d : Nat} {Q : Value → am_H → Prop} {N : Nat} {I : Nat → Nat → Int32} {J : Nat → Nat → Int64} {x1 : Int32} {x2 : Int32} {x3 : Int32} {r : am_rho} {a0 : Nat} (h_a0 : a0 = 3 ∨ a0 = 23) : am_D (d + 1) 74 [.ref a0, .int x1, .int x2, .int x3] (am_hp N r I J) Q =
    am_g (am_inb (I a0 1) 12) (am_D d 78 [.ref (a0 + 4), .int ((x1 * (nI 8)) + x2), .int x3] (am_hp N r (am_u (am_u I (a0 + 3) (I a0 1).toNatClampNeg ((x1 * (nI 8)) + x2)) a0 1 (((am_u I (a0 + 3) (I a0 1).toNatClampNeg ((x1 * (nI 8)) + x2)) a0 1) + (nI 1))) J) (fun v h => am_V d Q 74 39 [some (.ref a0), some (.int x1), some (.int x2), some (.int x3)] [] h)) :=
  by rcases h_a0 with rfl | rfl <;> exact (am_D_un rfl (fun p => Nat.beq p 39) 27).trans rfl
set_option maxRecDepth 100000 in
theorem e_Town_addStreet_39 {d : Nat} {Q : Value → am_H → Prop} {N : Nat} {I : Nat → Nat → Int32} {J : Nat → Nat → Int64} {x1 : Int32} {x2 : Int32} {x3 : Int32} {r : am_rho} {a0 : Nat} (h_a0 : a0 = 3 ∨ a0 = 23) : am_V d Q 74 39 [some (.ref a0), some (.int x1), some (.int x2), some (.int x3)] [] (am_hp N r I J) =
    Q .null (am_hp N r I J) :=
  by rcases h_a0 with rfl | rfl <;> exact (am_V_un (fun p => Nat.beq p 39) 3).trans rfl
set_option maxRecDepth 100000 in
theorem e_Town_addLetter {d : Nat} {Q : Value → am_H → Prop} {N : Nat} {I : Nat → Nat → Int32} {J : Nat → Nat → Int64} {x1 : Int32} {x2 : Int32} {r : am_rho} {a0 : Nat} (h_a0 : a0 = 3 ∨ a0 = 23) : am_D (d + 1) 75 [.ref a0, .int x1, .int x2] (am_hp N r I J) Q =
    am_g (am_inb (I a0 3) 8) (am_g (am_inb ((am_u I (a0 + 9) (I a0 3).toNatClampNeg x1) a0 3) 8) (am_g (am_inb x2 8) (am_g (am_inb x2 8) (Q .null (am_hp N r (am_u (am_u (am_u (am_u I (a0 + 9) (I a0 3).toNatClampNeg x1) (a0 + 10) ((am_u I (a0 + 9) (I a0 3).toNatClampNeg x1) a0 3).toNatClampNeg x2) (a0 + 11) x2.toNatClampNeg (((am_u (am_u I (a0 + 9) (I a0 3).toNatClampNeg x1) (a0 + 10) ((am_u I (a0 + 9) (I a0 3).toNatClampNeg x1) a0 3).toNatClampNeg x2) (a0 + 11) x2.toNatClampNeg) ||| ((nI 1) <<< (((am_u (am_u I (a0 + 9) (I a0 3).toNatClampNeg x1) (a0 + 10) ((am_u I (a0 + 9) (I a0 3).toNatClampNeg x1) a0 3).toNatClampNeg x2) a0 3) &&& nI 31)))) a0 3 (((am_u (am_u (am_u I (a0 + 9) (I a0 3).toNatClampNeg x1) (a0 + 10) ((am_u I (a0 + 9) (I a0 3).toNatClampNeg x1) a0 3).toNatClampNeg x2) (a0 + 11) x2.toNatClampNeg (((am_u (am_u I (a0 + 9) (I a0 3).toNatClampNeg x1) (a0 + 10) ((am_u I (a0 + 9) (I a0 3).toNatClampNeg x1) a0 3).toNatClampNeg x2) (a0 + 11) x2.toNatClampNeg) ||| ((nI 1) <<< (((am_u (am_u I (a0 + 9) (I a0 3).toNatClampNeg x1) (a0 + 10) ((am_u I (a0 + 9) (I a0 3).toNatClampNeg x1) a0 3).toNatClampNeg x2) a0 3) &&& nI 31)))) a0 3) + (nI 1))) J))))) :=
  by rcases h_a0 with rfl | rfl <;> exact (am_D_un rfl (fun p => false) 32).trans rfl
set_option maxRecDepth 100000 in
theorem e_Town_allHouses {d : Nat} {Q : Value → am_H → Prop} {N : Nat} {I : Nat → Nat → Int32} {J : Nat → Nat → Int64} {r : am_rho} {a0 : Nat} (h_a0 : a0 = 3 ∨ a0 = 23) : am_D (d + 1) 76 [.ref a0] (am_hp N r I J) Q =
    Q (.int (((nI 1) <<< ((I a0 0) &&& nI 31)) - (nI 1))) (am_hp N r I J) :=
  by rcases h_a0 with rfl | rfl <;> exact (am_D_un rfl (fun p => false) 9).trans rfl
set_option maxRecDepth 100000 in
theorem e_Town_allSleepers {d : Nat} {Q : Value → am_H → Prop} {N : Nat} {I : Nat → Nat → Int32} {J : Nat → Nat → Int64} {r : am_rho} {a0 : Nat} (h_a0 : a0 = 3 ∨ a0 = 23) : am_D (d + 1) 77 [.ref a0] (am_hp N r I J) Q =
    Q (.int (((nI 1) <<< ((I a0 2) &&& nI 31)) - (nI 1))) (am_hp N r I J) :=
  by rcases h_a0 with rfl | rfl <;> exact (am_D_un rfl (fun p => false) 9).trans rfl
set_option maxRecDepth 100000 in
theorem e_Town_join {d : Nat} {Q : Value → am_H → Prop} {N : Nat} {I : Nat → Nat → Int32} {J : Nat → Nat → Int64} {a0 : Nat} {x1 : Int32} {x2 : Int32} {r : am_rho} : am_D (d + 1) 78 [.ref a0, .int x1, .int x2] (am_hp N r I J) Q =
    am_g (Nat.beq (am_TT N a0).1 1 && am_inb x1 (am_TT N a0).2) (am_g (Nat.beq (am_TT N a0).1 1 && am_inb (((x1 - x1 / (nI 8) * (nI 8)) * (nI 8)) + (x1 / (nI 8))) (am_TT N a0).2) (Q .null (am_hp N r (am_u (am_u I a0 x1.toNatClampNeg x2) a0 (((x1 - x1 / (nI 8) * (nI 8)) * (nI 8)) + (x1 / (nI 8))).toNatClampNeg x2) J))) :=
  (am_D_un rfl (fun p => false) 19).trans rfl
set_option maxRecDepth 100000 in
theorem e_Town_measure {d : Nat} {Q : Value → am_H → Prop} {N : Nat} {I : Nat → Nat → Int32} {J : Nat → Nat → Int64} {a0 : Nat} {a1 : Nat} {r : am_rho} : am_D (d + 1) 79 [.ref a0, .ref a1] (am_hp N r I J) Q =
    am_V d Q 79 2 [some (.ref a0), some (.ref a1), some (.int (nI 0)), none, none] [] (am_hp N r I J) :=
  (am_D_un rfl (fun p => Nat.beq p 2 || Nat.beq p 48 || Nat.beq p 56 || Nat.beq p 97) 4).trans rfl
set_option maxRecDepth 100000 in
theorem e_Town_measure_2 {d : Nat} {Q : Value → am_H → Prop} {N : Nat} {I : Nat → Nat → Int32} {J : Nat → Nat → Int64} {a0 : Nat} {a1 : Nat} {x2 : Int32} {r : am_rho} : am_V d Q 79 2 [some (.ref a0), some (.ref a1), some (.int x2), none, none] [] (am_hp N r I J) =
    am_g (!(Nat.beq (am_TT N a1).1 0) && Nat.ble (am_TT N a1).1 7) (am_if (decide ((nI (am_TT N a1).2) ≤ x2)) (am_V d Q 79 48 [some (.ref a0), some (.ref a1), some (.int (nI 0)), am_oi none, am_oi none] [] (am_hp N r I J)) (am_if (!(decide ((x2 / (nI 8)) = (x2 - x2 / (nI 8) * (nI 8))))) (am_g ((Nat.beq (am_TT N a0).1 1 || Nat.beq (am_TT N a0).1 5) && am_inb x2 (am_TT N a0).2) (am_if (decide ((I a0 x2.toNatClampNeg) ≤ (nI 0))) (am_g (Nat.beq (am_TT N a1).1 1 && am_inb x2 (am_TT N a1).2) (am_V d Q 79 2 [some (.ref a0), some (.ref a1), some (.int (x2 + (nI 1))), none, none] [] (am_hp N r (am_u I a1 x2.toNatClampNeg (nI 99)) J))) (am_g ((Nat.beq (am_TT N a0).1 1 || Nat.beq (am_TT N a0).1 5) && am_inb x2 (am_TT N a0).2) (am_g (Nat.beq (am_TT N a1).1 1 && am_inb x2 (am_TT N a1).2) (am_V d Q 79 2 [some (.ref a0), some (.ref a1), some (.int (x2 + (nI 1))), none, none] [] (am_hp N r (am_u I a1 x2.toNatClampNeg (I a0 x2.toNatClampNeg)) J)))))) (am_g (Nat.beq (am_TT N a1).1 1 && am_inb x2 (am_TT N a1).2) (am_V d Q 79 2 [some (.ref a0), some (.ref a1), some (.int (x2 + (nI 1))), none, none] [] (am_hp N r (am_u I a1 x2.toNatClampNeg (nI 0)) J))))) :=
  (am_V_un (fun p => Nat.beq p 2 || Nat.beq p 48 || Nat.beq p 56 || Nat.beq p 97) 26).trans rfl
set_option maxRecDepth 100000 in
theorem e_Town_measure_48 {d : Nat} {Q : Value → am_H → Prop} {N : Nat} {I : Nat → Nat → Int32} {J : Nat → Nat → Int64} {a0 : Nat} {a1 : Nat} {x2 : Int32} {o3 : Option Int32} {o4 : Option Int32} {r : am_rho} : am_V d Q 79 48 [some (.ref a0), some (.ref a1), some (.int x2), am_oi o3, am_oi o4] [] (am_hp N r I J) =
    am_if (decide (((nI 8) : Int32) ≤ x2)) (Q .null (am_hp N r I J)) (am_V d Q 79 56 [some (.ref a0), some (.ref a1), some (.int x2), some (.int (nI 0)), am_oi o4] [] (am_hp N r I J)) :=
  (am_V_un (fun p => Nat.beq p 2 || Nat.beq p 48 || Nat.beq p 56 || Nat.beq p 97) 7).trans rfl
set_option maxRecDepth 100000 in
theorem e_Town_measure_56 {d : Nat} {Q : Value → am_H → Prop} {N : Nat} {I : Nat → Nat → Int32} {J : Nat → Nat → Int64} {a0 : Nat} {a1 : Nat} {x2 : Int32} {x3 : Int32} {o4 : Option Int32} {r : am_rho} : am_V d Q 79 56 [some (.ref a0), some (.ref a1), some (.int x2), some (.int x3), am_oi o4] [] (am_hp N r I J) =
    am_g (!(Nat.beq (am_TT N a1).1 0) && Nat.ble (am_TT N a1).1 7) (am_if (decide ((nI (am_TT N a1).2) ≤ x3)) (am_V d Q 79 48 [some (.ref a0), some (.ref a1), some (.int (x2 + (nI 1))), am_oi (some x3), am_oi o4] [] (am_hp N r I J)) (am_g ((Nat.beq (am_TT N a1).1 1 || Nat.beq (am_TT N a1).1 5) && am_inb (((x3 / (nI 8)) * (nI 8)) + x2) (am_TT N a1).2) (am_g ((Nat.beq (am_TT N a1).1 1 || Nat.beq (am_TT N a1).1 5) && am_inb ((x2 * (nI 8)) + (x3 - x3 / (nI 8) * (nI 8))) (am_TT N a1).2) (am_g ((Nat.beq (am_TT N a1).1 1 || Nat.beq (am_TT N a1).1 5) && am_inb x3 (am_TT N a1).2) (am_D d 281 [.int (I a1 x3.toNatClampNeg), .int ((I a1 (((x3 / (nI 8)) * (nI 8)) + x2).toNatClampNeg) + (I a1 ((x2 * (nI 8)) + (x3 - x3 / (nI 8) * (nI 8))).toNatClampNeg))] (am_hp N r I J) (fun v h => am_asI v (fun y => am_V d Q 79 97 [some (.ref a0), some (.ref a1), some (.int x2), some (.int x3), some (.int ((I a1 (((x3 / (nI 8)) * (nI 8)) + x2).toNatClampNeg) + (I a1 ((x2 * (nI 8)) + (x3 - x3 / (nI 8) * (nI 8))).toNatClampNeg)))] [.int y, .int x3, .ref a1] h))))))) :=
  (am_V_un (fun p => Nat.beq p 2 || Nat.beq p 48 || Nat.beq p 56 || Nat.beq p 97) 33).trans rfl
set_option maxRecDepth 100000 in
theorem e_Town_measure_97 {d : Nat} {Q : Value → am_H → Prop} {N : Nat} {I : Nat → Nat → Int32} {J : Nat → Nat → Int64} {a0 : Nat} {a1 : Nat} {x2 : Int32} {x3 : Int32} {x4 : Int32} {q0 : Nat} {y1 : Int32} {y2 : Int32} {r : am_rho} : am_V d Q 79 97 [some (.ref a0), some (.ref a1), some (.int x2), some (.int x3), some (.int x4)] [.int y2, .int y1, .ref q0] (am_hp N r I J) =
    am_g (Nat.beq (am_TT N q0).1 1 && am_inb y1 (am_TT N q0).2) (am_V d Q 79 56 [some (.ref a0), some (.ref a1), some (.int x2), some (.int (x3 + (nI 1))), am_oi (some x4)] [] (am_hp N r (am_u I q0 y1.toNatClampNeg y2) J)) :=
  (am_V_un (fun p => Nat.beq p 2 || Nat.beq p 48 || Nat.beq p 56 || Nat.beq p 97) 5).trans rfl
