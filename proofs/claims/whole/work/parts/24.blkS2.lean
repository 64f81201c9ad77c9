/-! ===== blocks: what the rows of a method do up to the next loop head or call (by program) ===== -/
set_option maxRecDepth 100000 in
theorem e_Night_forget {d : Nat} {Q : Value → am_H → Prop} {N : Nat} {I : Nat → Nat → Int32} {J : Nat → Nat → Int64} {r : am_rho} : am_D (d + 1) 19 [.ref 61] (am_hp N r I J) Q =
    am_D d 51 [.ref 62] (am_hp N r I J) (fun v h => am_V d Q 19 7 [some (.ref 61)] [] h) :=
  (am_D_un rfl (fun p => Nat.beq p 7) 5).trans rfl
set_option maxRecDepth 100000 in
theorem e_Night_forget_7 {d : Nat} {Q : Value → am_H → Prop} {N : Nat} {I : Nat → Nat → Int32} {J : Nat → Nat → Int64} {r : am_rho} : am_V d Q 19 7 [some (.ref 61)] [] (am_hp N r I J) =
    Q .null (am_hp N r I J) :=
  (am_V_un (fun p => Nat.beq p 7) 3).trans rfl
set_option maxRecDepth 100000 in
theorem e_Night_suit {d : Nat} {Q : Value → am_H → Prop} {N : Nat} {I : Nat → Nat → Int32} {J : Nat → Nat → Int64} {r : am_rho} {a1 : Nat} {a2 : Nat} (h_a1 : a1 = 3 ∨ a1 = 23) (h_a2 : a2 = 49 ∨ a2 = 55 ∨ a2 = 82) : am_D (d + 1) 20 [.ref 61, .ref a1, .ref a2] (am_hp N r I J) Q =
    am_D d 901 [.ref (a1 + 7), .int (nI 0), .ref 70, .int (nI 0), .int (nI 5)] (140, am_TT N, I, J, (am_uR (am_uR (am_uR (am_RR r) 61 1 a1) 61 2 (a1 + 4)) 61 3 (a1 + 5))) (fun v h => am_V d Q 20 44 [some (.ref 61), some (.ref a1), some (.ref a2), none] [] h) :=
  by rcases h_a1 with rfl | rfl <;> rcases h_a2 with rfl | rfl | rfl <;> exact (am_D_un rfl (fun p => Nat.beq p 44 || Nat.beq p 61 || Nat.beq p 63 || Nat.beq p 119) 24).trans rfl
set_option maxRecDepth 100000 in
theorem e_Night_suit_44 {d : Nat} {Q : Value → am_H → Prop} {N : Nat} {I : Nat → Nat → Int32} {J : Nat → Nat → Int64} {rt rs rd rl rx nt nw nf : Nat} {a1 : Nat} {a2 : Nat} (h_a1 : a1 = 3 ∨ a1 = 23) (h_a2 : a2 = 49 ∨ a2 = 55 ∨ a2 = 82) (h_nt : nt = 3 ∨ nt = 23) : am_V d Q 20 44 [some (.ref 61), some (.ref a1), some (.ref a2), none] [] (am_hp N (rt, rs, rd, rl, rx, nt, nw, nf) I J) =
    am_D d 901 [.ref (nt + 8), .int (nI 0), .ref 71, .int (nI 0), .int (nI 5)] (am_hp N (rt, rs, rd, rl, rx, nt, nw, nf) I J) (fun v h => am_V d Q 20 61 [some (.ref 61), some (.ref a1), some (.ref a2), none] [] h) :=
  by rcases h_a1 with rfl | rfl <;> rcases h_a2 with rfl | rfl | rfl <;> rcases h_nt with rfl | rfl <;> exact (am_V_un (fun p => Nat.beq p 44 || Nat.beq p 61 || Nat.beq p 63 || Nat.beq p 119) 11).trans rfl
set_option maxRecDepth 100000 in
theorem e_Night_suit_61 {d : Nat} {Q : Value → am_H → Prop} {N : Nat} {I : Nat → Nat → Int32} {J : Nat → Nat → Int64} {r : am_rho} {a1 : Nat} {a2 : Nat} (h_a1 : a1 = 3 ∨ a1 = 23) (h_a2 : a2 = 49 ∨ a2 = 55 ∨ a2 = 82) : am_V d Q 20 61 [some (.ref 61), some (.ref a1), some (.ref a2), none] [] (am_hp N r I J) =
    am_V d Q 20 63 [some (.ref 61), some (.ref a1), some (.ref a2), some (.int (nI 0))] [] (am_hp N r I J) :=
  by rcases h_a1 with rfl | rfl <;> rcases h_a2 with rfl | rfl | rfl <;> exact (am_V_un (fun p => Nat.beq p 44 || Nat.beq p 61 || Nat.beq p 63 || Nat.beq p 119) 4).trans rfl
set_option maxRecDepth 100000 in
theorem e_Night_suit_63 {d : Nat} {Q : Value → am_H → Prop} {N : Nat} {I : Nat → Nat → Int32} {J : Nat → Nat → Int64} {x3 : Int32} {rt rs rd rl rx nt nw nf : Nat} {a1 : Nat} {a2 : Nat} (h_a1 : a1 = 3 ∨ a1 = 23) (h_a2 : a2 = 49 ∨ a2 = 55 ∨ a2 = 82) (h_nt : nt = 3 ∨ nt = 23) : am_V d Q 20 63 [some (.ref 61), some (.ref a1), some (.ref a2), some (.int x3)] [] (am_hp N (rt, rs, rd, rl, rx, nt, nw, nf) I J) =
    am_if (decide (((nI 8) : Int32) ≤ x3)) (am_D d 77 [.ref nt] (am_hp N (rt, rs, rd, rl, rx, nt, nw, nf) I J) (fun v h => am_asI v (fun y => am_V d Q 20 119 [some (.ref 61), some (.ref a1), some (.ref a2), some (.int x3)] [.int y, .ref 61] h))) (am_g (am_inb x3 8) (am_g (am_inb x3 8) (am_g (am_inb x3 8) (am_V d Q 20 63 [some (.ref 61), some (.ref a1), some (.ref a2), some (.int (x3 + (nI 1)))] [] (am_hp N (rt, rs, rd, rl, rx, nt, nw, nf) (am_u I 69 x3.toNatClampNeg (((I (a2 + 5) x3.toNatClampNeg) + (I (nt + 14) x3.toNatClampNeg)) + ((((I nt 5) >>> (x3 &&& nI 31)) &&& (nI 1)) * (nI 3)))) J))))) :=
  by rcases h_a1 with rfl | rfl <;> rcases h_a2 with rfl | rfl | rfl <;> rcases h_nt with rfl | rfl <;> exact (am_V_un (fun p => Nat.beq p 44 || Nat.beq p 61 || Nat.beq p 63 || Nat.beq p 119) 31).trans rfl
set_option maxRecDepth 100000 in
theorem e_Night_suit_119 {d : Nat} {Q : Value → am_H → Prop} {N : Nat} {I : Nat → Nat → Int32} {J : Nat → Nat → Int64} {x3 : Int32} {y1 : Int32} {r : am_rho} {a1 : Nat} {a2 : Nat} (h_a1 : a1 = 3 ∨ a1 = 23) (h_a2 : a2 = 49 ∨ a2 = 55 ∨ a2 = 82) : am_V d Q 20 119 [some (.ref 61), some (.ref a1), some (.ref a2), some (.int x3)] [.int y1, .ref 61] (am_hp N r I J) =
    Q .null (am_hp N r (am_u (am_u (am_u I 61 10 y1) 61 11 (nI 0)) 61 12 (nI 0)) J) :=
  by rcases h_a1 with rfl | rfl <;> rcases h_a2 with rfl | rfl | rfl <;> exact (am_V_un (fun p => Nat.beq p 44 || Nat.beq p 61 || Nat.beq p 63 || Nat.beq p 119) 10).trans rfl
set_option maxRecDepth 100000 in
theorem e_Night_closeStreet {d : Nat} {Q : Value → am_H → Prop} {N : Nat} {I : Nat → Nat → Int32} {J : Nat → Nat → Int64} {x1 : Int32} {rt rs rd rl rx nt nw nf : Nat} (h_nt : nt = 3 ∨ nt = 23) : am_D (d + 1) 21 [.ref 61, .int x1] (am_hp N (rt, rs, rd, rl, rx, nt, nw, nf) I J) Q =
    am_D d 901 [.ref (nt + 4), .int (nI 0), .ref 66, .int (nI 0), .int (nI 64)] (am_hp N (rt, rs, rd, rl, rx, nt, nw, nf) I J) (fun v h => am_V d Q 21 21 [some (.ref 61), some (.int x1)] [] h) :=
  by rcases h_nt with rfl | rfl <;> exact (am_D_un rfl (fun p => Nat.beq p 21 || Nat.beq p 38 || Nat.beq p 49) 13).trans rfl
set_option maxRecDepth 100000 in
theorem e_Night_closeStreet_21 {d : Nat} {Q : Value → am_H → Prop} {N : Nat} {I : Nat → Nat → Int32} {J : Nat → Nat → Int64} {x1 : Int32} {rt rs rd rl rx nt nw nf : Nat} (h_nt : nt = 3 ∨ nt = 23) : am_V d Q 21 21 [some (.ref 61), some (.int x1)] [] (am_hp N (rt, rs, rd, rl, rx, nt, nw, nf) I J) =
    am_g (am_inb x1 12) (am_D d 78 [.ref 66, .int (I (nt + 3) x1.toNatClampNeg), .int (nI 0)] (am_hp N (rt, rs, rd, rl, rx, nt, nw, nf) I J) (fun v h => am_V d Q 21 38 [some (.ref 61), some (.int x1)] [] h)) :=
  by rcases h_nt with rfl | rfl <;> exact (am_V_un (fun p => Nat.beq p 21 || Nat.beq p 38 || Nat.beq p 49) 11).trans rfl
set_option maxRecDepth 100000 in
theorem e_Night_closeStreet_38 {d : Nat} {Q : Value → am_H → Prop} {N : Nat} {I : Nat → Nat → Int32} {J : Nat → Nat → Int64} {x1 : Int32} {r : am_rho} : am_V d Q 21 38 [some (.ref 61), some (.int x1)] [] (am_hp N r I J) =
    am_D d 79 [.ref 66, .ref 67] (am_hp N r I J) (fun v h => am_V d Q 21 49 [some (.ref 61), some (.int x1)] [] h) :=
  (am_V_un (fun p => Nat.beq p 21 || Nat.beq p 38 || Nat.beq p 49) 7).trans rfl
set_option maxRecDepth 100000 in
theorem e_Night_closeStreet_49 {d : Nat} {Q : Value → am_H → Prop} {N : Nat} {I : Nat → Nat → Int32} {J : Nat → Nat → Int64} {x1 : Int32} {r : am_rho} : am_V d Q 21 49 [some (.ref 61), some (.int x1)] [] (am_hp N r I J) =
    Q .null (140, am_TT N, I, J, (am_uR (am_uR (am_RR r) 61 2 66) 61 3 67)) :=
  (am_V_un (fun p => Nat.beq p 21 || Nat.beq p 38 || Nat.beq p 49) 11).trans rfl
set_option maxRecDepth 100000 in
theorem e_Night_light {d : Nat} {Q : Value → am_H → Prop} {N : Nat} {I : Nat → Nat → Int32} {J : Nat → Nat → Int64} {x2 : Int32} {x3 : Int32} {rt rs rd rl rx nt nw nf : Nat} {a1 : Nat} (h_a1 : a1 = 49 ∨ a1 = 55 ∨ a1 = 82) (h_nt : nt = 3 ∨ nt = 23) : am_D (d + 1) 22 [.ref 61, .ref a1, .int x2, .int x3] (am_hp N (rt, rs, rd, rl, rx, nt, nw, nf) I J) Q =
    am_if (decide ((I 61 11) = (nI 0))) (am_g (am_inb x2 8) (Q (.int ((((I (nt + 12) x2.toNatClampNeg) >>> (x3 &&& nI 31)) ||| ((I a1 5) >>> (x2 &&& nI 31))) &&& (nI 1))) (am_hp N (rt, rs, rd, rl, rx, nt, nw, nf) I J))) (Q (.int (nI 0)) (am_hp N (rt, rs, rd, rl, rx, nt, nw, nf) I J)) :=
  by rcases h_a1 with rfl | rfl | rfl <;> rcases h_nt with rfl | rfl <;> exact (am_D_un rfl (fun p => false) 20).trans rfl
set_option maxRecDepth 100000 in
theorem e_Night_names {d : Nat} {Q : Value → am_H → Prop} {N : Nat} {I : Nat → Nat → Int32} {J : Nat → Nat → Int64} {x2 : Int32} {x3 : Int32} {x4 : Int32} {r : am_rho} {a1 : Nat} (h_a1 : a1 = 49 ∨ a1 = 55 ∨ a1 = 82) : am_D (d + 1) 23 [.ref 61, .ref a1, .int x2, .int x3, .int x4] (am_hp N r I J) Q =
    am_D d 22 [.ref 61, .ref a1, .int x3, .int (I a1 0)] (am_hp N r I J) (fun v h => am_asI v (fun y => am_V d Q 23 10 [some (.ref 61), some (.ref a1), some (.int x2), some (.int x3), some (.int x4)] [.int y] h)) :=
  by rcases h_a1 with rfl | rfl | rfl <;> exact (am_D_un rfl (fun p => Nat.beq p 10 || Nat.beq p 62) 8).trans rfl
set_option maxRecDepth 100000 in
theorem e_Night_names_10 {d : Nat} {Q : Value → am_H → Prop} {N : Nat} {I : Nat → Nat → Int32} {J : Nat → Nat → Int64} {x2 : Int32} {x3 : Int32} {x4 : Int32} {y0 : Int32} {rt rs rd rl rx nt nw nf : Nat} {a1 : Nat} (h_a1 : a1 = 49 ∨ a1 = 55 ∨ a1 = 82) (h_nf : nf = 8 ∨ nf = 28 ∨ nf = 67) : am_V d Q 23 10 [some (.ref 61), some (.ref a1), some (.int x2), some (.int x3), some (.int x4)] [.int y0] (am_hp N (rt, rs, rd, rl, rx, nt, nw, nf) I J) =
    am_g (am_inb x2 5) (am_g (am_inb ((x3 * (nI 8)) + (I 71 x2.toNatClampNeg)) 64) (am_g (am_inb x3 8) (am_g (am_inb x2 5) (am_g (am_inb x2 5) (am_D d 277 [.int (I (a1 + 2) x2.toNatClampNeg)] (am_hp N (rt, rs, rd, rl, rx, nt, nw, nf) I J) (fun v h => am_asI v (fun y => am_V d Q 23 62 [some (.ref 61), some (.ref a1), some (.int x2), some (.int x3), some (.int x4)] [.int y, .int ((((y0 <<< ((nI 29) &&& nI 31)) ||| ((I nf ((x3 * (nI 8)) + (I 71 x2.toNatClampNeg)).toNatClampNeg) <<< ((nI 22) &&& nI 31))) ||| ((I 69 x3.toNatClampNeg) <<< ((nI 16) &&& nI 31))) ||| ((I 70 x2.toNatClampNeg) <<< ((nI 12) &&& nI 31)))] h))))))) :=
  by rcases h_a1 with rfl | rfl | rfl <;> rcases h_nf with rfl | rfl | rfl <;> exact (am_V_un (fun p => Nat.beq p 10 || Nat.beq p 62) 37).trans rfl
set_option maxRecDepth 100000 in
theorem e_Night_names_62 {d : Nat} {Q : Value → am_H → Prop} {N : Nat} {I : Nat → Nat → Int32} {J : Nat → Nat → Int64} {x2 : Int32} {x3 : Int32} {x4 : Int32} {y0 : Int32} {y1 : Int32} {r : am_rho} {a1 : Nat} (h_a1 : a1 = 49 ∨ a1 = 55 ∨ a1 = 82) : am_V d Q 23 62 [some (.ref 61), some (.ref a1), some (.int x2), some (.int x3), some (.int x4)] [.int y1, .int y0] (am_hp N r I J) =
    Q (.int (((y0 ||| (y1 <<< ((nI 8) &&& nI 31))) ||| ((I a1 0) <<< ((nI 4) &&& nI 31))) ||| x4)) (am_hp N r I J) :=
  by rcases h_a1 with rfl | rfl | rfl <;> exact (am_V_un (fun p => Nat.beq p 10 || Nat.beq p 62) 13).trans rfl
set_option maxRecDepth 100000 in
theorem e_Night_worth {d : Nat} {Q : Value → am_H → Prop} {N : Nat} {I : Nat → Nat → Int32} {J : Nat → Nat → Int64} {x1 : Int32} {x2 : Int32} {rt rs rd rl rx nt nw nf : Nat} (h_nt : nt = 3 ∨ nt = 23) : am_D (d + 1) 24 [.ref 61, .int x1, .int x2] (am_hp N (rt, rs, rd, rl, rx, nt, nw, nf) I J) Q =
    am_D d 52 [.ref 62, .ref (nt + 15), .int x1, .int x2] (am_hp N (rt, rs, rd, rl, rx, nt, nw, nf) I J) (fun v h => am_asL v (fun y => am_V d Q 24 16 [some (.ref 61), some (.int x1), some (.int x2)] [.long y] h)) :=
  by rcases h_nt with rfl | rfl <;> exact (am_D_un rfl (fun p => Nat.beq p 16) 10).trans rfl
set_option maxRecDepth 100000 in
theorem e_Night_worth_16 {d : Nat} {Q : Value → am_H → Prop} {N : Nat} {I : Nat → Nat → Int32} {J : Nat → Nat → Int64} {x1 : Int32} {x2 : Int32} {y0 : Int64} {r : am_rho} : am_V d Q 24 16 [some (.ref 61), some (.int x1), some (.int x2)] [.long y0] (am_hp N r I J) =
    Q (.long y0) (am_hp N r I J) :=
  (am_V_un (fun p => Nat.beq p 16) 3).trans rfl
set_option maxRecDepth 100000 in
theorem e_Night_stood {d : Nat} {Q : Value → am_H → Prop} {N : Nat} {I : Nat → Nat → Int32} {J : Nat → Nat → Int64} {x1 : Int32} {x2 : Int32} {r : am_rho} : am_D (d + 1) 25 [.ref 61, .int x1, .int x2] (am_hp N r I J) Q =
    am_g (am_inb ((x2 * (nI 5)) + x1) 60) (Q (.int (I 68 ((x2 * (nI 5)) + x1).toNatClampNeg)) (am_hp N r I J)) :=
  (am_D_un rfl (fun p => false) 11).trans rfl
set_option maxRecDepth 100000 in
theorem e_Night_walkTo {d : Nat} {Q : Value → am_H → Prop} {N : Nat} {I : Nat → Nat → Int32} {J : Nat → Nat → Int64} {x2 : Int32} {r : am_rho} {a1 : Nat} (h_a1 : a1 = 49 ∨ a1 = 55 ∨ a1 = 82) : am_D (d + 1) 26 [.ref 61, .ref a1, .int x2] (am_hp N r I J) Q =
    am_V d Q 26 5 [some (.ref 61), some (.ref a1), some (.int x2), some (.int (I a1 0)), am_oi none] [] (am_hp N r I J) :=
  by rcases h_a1 with rfl | rfl | rfl <;> exact (am_D_un rfl (fun p => Nat.beq p 5 || Nat.beq p 24 || Nat.beq p 71 || Nat.beq p 84 || Nat.beq p 92) 5).trans rfl
set_option maxRecDepth 100000 in
theorem e_Night_walkTo_5 {d : Nat} {Q : Value → am_H → Prop} {N : Nat} {I : Nat → Nat → Int32} {J : Nat → Nat → Int64} {x2 : Int32} {x3 : Int32} {o4 : Option Int32} {r : am_rho} {a1 : Nat} (h_a1 : a1 = 49 ∨ a1 = 55 ∨ a1 = 82) : am_V d Q 26 5 [some (.ref 61), some (.ref a1), some (.int x2), some (.int x3), am_oi o4] [] (am_hp N r I J) =
    am_if (decide (x2 < x3)) (Q .null (am_hp N r I J)) (am_if (decide (((nI 12) : Int32) ≤ x3)) (Q .null (am_hp N r I J)) (am_V d Q 26 24 [some (.ref 61), some (.ref a1), some (.int x2), some (.int x3), some (.int (nI 0))] [] (am_hp N r (am_u I a1 0 x3) J))) :=
  by rcases h_a1 with rfl | rfl | rfl <;> exact (am_V_un (fun p => Nat.beq p 5 || Nat.beq p 24 || Nat.beq p 71 || Nat.beq p 84 || Nat.beq p 92) 13).trans rfl
set_option maxRecDepth 100000 in
theorem e_Night_walkTo_24 {d : Nat} {Q : Value → am_H → Prop} {N : Nat} {I : Nat → Nat → Int32} {J : Nat → Nat → Int64} {x2 : Int32} {x3 : Int32} {x4 : Int32} {rt rs rd rl rx nt nw nf : Nat} {a1 : Nat} (h_a1 : a1 = 49 ∨ a1 = 55 ∨ a1 = 82) (h_nt : nt = 3 ∨ nt = 23) : am_V d Q 26 24 [some (.ref 61), some (.ref a1), some (.int x2), some (.int x3), some (.int x4)] [] (am_hp N (rt, rs, rd, rl, rx, nt, nw, nf) I J) =
    am_if (decide ((I nt 2) ≤ x4)) (am_V d Q 26 5 [some (.ref 61), some (.ref a1), some (.int x2), some (.int (x3 + (nI 1))), am_oi (some x4)] [] (am_hp N (rt, rs, rd, rl, rx, nt, nw, nf) I J)) (am_if (decide (((((I 61 10) &&& ((I a1 3) ^^^ (-nI 1))) >>> (x4 &&& nI 31)) &&& (nI 1)) = (nI 0))) (am_V d Q 26 92 [some (.ref 61), some (.ref a1), some (.int x2), some (.int x3), some (.int x4)] [] (am_hp N (rt, rs, rd, rl, rx, nt, nw, nf) I J)) (am_g (am_inb x4 5) (am_D d 108 [.ref a1, .int x4, .int (I (nt + 6) x4.toNatClampNeg)] (am_hp N (rt, rs, rd, rl, rx, nt, nw, nf) I J) (fun v h => am_V d Q 26 71 [some (.ref 61), some (.ref a1), some (.int x2), some (.int x3), some (.int x4)] [] h)))) :=
  by rcases h_a1 with rfl | rfl | rfl <;> rcases h_nt with rfl | rfl <;> exact (am_V_un (fun p => Nat.beq p 5 || Nat.beq p 24 || Nat.beq p 71 || Nat.beq p 84 || Nat.beq p 92) 27).trans rfl
set_option maxRecDepth 100000 in
theorem e_Night_walkTo_71 {d : Nat} {Q : Value → am_H → Prop} {N : Nat} {I : Nat → Nat → Int32} {J : Nat → Nat → Int64} {x2 : Int32} {x3 : Int32} {x4 : Int32} {r : am_rho} {a1 : Nat} (h_a1 : a1 = 49 ∨ a1 = 55 ∨ a1 = 82) : am_V d Q 26 71 [some (.ref 61), some (.ref a1), some (.int x2), some (.int x3), some (.int x4)] [] (am_hp N r I J) =
    am_D d 27 [.ref 61, .ref a1, .int x4] (am_hp N r I J) (fun v h => am_asI v (fun y => am_V d Q 26 84 [some (.ref 61), some (.ref a1), some (.int x2), some (.int x3), some (.int x4)] [.int y, .int x4, .ref (a1 + 1)] h)) :=
  by rcases h_a1 with rfl | rfl | rfl <;> exact (am_V_un (fun p => Nat.beq p 5 || Nat.beq p 24 || Nat.beq p 71 || Nat.beq p 84 || Nat.beq p 92) 9).trans rfl
set_option maxRecDepth 100000 in
theorem e_Night_walkTo_84 {d : Nat} {Q : Value → am_H → Prop} {N : Nat} {I : Nat → Nat → Int32} {J : Nat → Nat → Int64} {x2 : Int32} {x3 : Int32} {x4 : Int32} {y1 : Int32} {y2 : Int32} {r : am_rho} {a1 : Nat} {q0 : Nat} (h_a1 : a1 = 49 ∨ a1 = 55 ∨ a1 = 82) (h_q0 : q0 = 50 ∨ q0 = 56 ∨ q0 = 83) : am_V d Q 26 84 [some (.ref 61), some (.ref a1), some (.int x2), some (.int x3), some (.int x4)] [.int y2, .int y1, .ref q0] (am_hp N r I J) =
    am_g (am_inb y1 5) (am_D d 28 [.ref 61, .ref a1, .int x4] (am_hp N r (am_u I q0 y1.toNatClampNeg y2) J) (fun v h => am_V d Q 26 92 [some (.ref 61), some (.ref a1), some (.int x2), some (.int x3), some (.int x4)] [] h)) :=
  by rcases h_a1 with rfl | rfl | rfl <;> rcases h_q0 with rfl | rfl | rfl <;> exact (am_V_un (fun p => Nat.beq p 5 || Nat.beq p 24 || Nat.beq p 71 || Nat.beq p 84 || Nat.beq p 92) 7).trans rfl
set_option maxRecDepth 100000 in
theorem e_Night_walkTo_92 {d : Nat} {Q : Value → am_H → Prop} {N : Nat} {I : Nat → Nat → Int32} {J : Nat → Nat → Int64} {x2 : Int32} {x3 : Int32} {x4 : Int32} {r : am_rho} {a1 : Nat} (h_a1 : a1 = 49 ∨ a1 = 55 ∨ a1 = 82) : am_V d Q 26 92 [some (.ref 61), some (.ref a1), some (.int x2), some (.int x3), some (.int x4)] [] (am_hp N r I J) =
    am_g (am_inb x4 5) (am_g (am_inb ((x3 * (nI 5)) + x4) 60) (am_V d Q 26 24 [some (.ref 61), some (.ref a1), some (.int x2), some (.int x3), some (.int (x4 + (nI 1)))] [] (am_hp N r (am_u I 68 ((x3 * (nI 5)) + x4).toNatClampNeg (I (a1 + 1) x4.toNatClampNeg)) J))) :=
  by rcases h_a1 with rfl | rfl | rfl <;> exact (am_V_un (fun p => Nat.beq p 5 || Nat.beq p 24 || Nat.beq p 71 || Nat.beq p 84 || Nat.beq p 92) 16).trans rfl
set_option maxRecDepth 100000 in
theorem e_Night_choose {d : Nat} {Q : Value → am_H → Prop} {N : Nat} {I : Nat → Nat → Int32} {J : Nat → Nat → Int64} {x2 : Int32} {r : am_rho} {a1 : Nat} (h_a1 : a1 = 49 ∨ a1 = 55 ∨ a1 = 82) : am_D (d + 1) 27 [.ref 61, .ref a1, .int x2] (am_hp N r I J) Q =
    am_g (am_inb x2 5) (am_V d Q 27 18 [some (.ref 61), some (.ref a1), some (.int x2), some (.int (I (a1 + 1) x2.toNatClampNeg)), some (.int (I (a1 + 1) x2.toNatClampNeg)), some (.long (Int64.ofNat 9223372036854775808)), none, some (.int (nI 0)), am_oi none, am_ol none, none] [] (am_hp N r I J)) :=
  by rcases h_a1 with rfl | rfl | rfl <;> exact (am_D_un rfl (fun p => Nat.beq p 18 || Nat.beq p 80 || Nat.beq p 83 || Nat.beq p 117) 13).trans rfl
set_option maxRecDepth 100000 in
theorem e_Night_choose_18 {d : Nat} {Q : Value → am_H → Prop} {N : Nat} {I : Nat → Nat → Int32} {J : Nat → Nat → Int64} {x2 : Int32} {x3 : Int32} {x4 : Int32} {x5 : Int64} {x7 : Int32} {o8 : Option Int32} {o9 : Option Int64} {rt rs rd rl rx nt nw nf : Nat} {a1 : Nat} (h_a1 : a1 = 49 ∨ a1 = 55 ∨ a1 = 82) (h_nt : nt = 3 ∨ nt = 23) (h_nw : nw = 7 ∨ nw = 27 ∨ nw = 66) : am_V d Q 27 18 [some (.ref 61), some (.ref a1), some (.int x2), some (.int x3), some (.int x4), some (.long x5), none, some (.int x7), am_oi o8, am_ol o9, none] [] (am_hp N (rt, rs, rd, rl, rx, nt, nw, nf) I J) =
    am_if (decide ((I nt 0) ≤ x7)) (Q (.int x4) (am_hp N (rt, rs, rd, rl, rx, nt, nw, nf) I J)) (am_g (am_inb ((x3 * (nI 8)) + x7) 64) (am_if (!(decide ((I nw ((x3 * (nI 8)) + x7).toNatClampNeg) = (nI 0)))) (am_D d 23 [.ref 61, .ref a1, .int x2, .int x7, .int (I nw ((x3 * (nI 8)) + x7).toNatClampNeg)] (am_hp N (rt, rs, rd, rl, rx, nt, nw, nf) I J) (fun v h => am_asI v (fun y => am_V d Q 27 80 [some (.ref 61), some (.ref a1), some (.int x2), some (.int x3), some (.int x4), some (.long x5), none, some (.int x7), some (.int (I nw ((x3 * (nI 8)) + x7).toNatClampNeg)), am_ol o9, none] [.int y, .int (nI 0), .ref (nt + 15), .ref 62] h))) (am_if (decide (x7 = x3)) (am_D d 23 [.ref 61, .ref a1, .int x2, .int x7, .int (I nw ((x3 * (nI 8)) + x7).toNatClampNeg)] (am_hp N (rt, rs, rd, rl, rx, nt, nw, nf) I J) (fun v h => am_asI v (fun y => am_V d Q 27 80 [some (.ref 61), some (.ref a1), some (.int x2), some (.int x3), some (.int x4), some (.long x5), none, some (.int x7), some (.int (I nw ((x3 * (nI 8)) + x7).toNatClampNeg)), am_ol o9, none] [.int y, .int (nI 0), .ref (nt + 15), .ref 62] h))) (am_V d Q 27 18 [some (.ref 61), some (.ref a1), some (.int x2), some (.int x3), some (.int x4), some (.long x5), none, some (.int (x7 + (nI 1))), am_oi (some (I nw ((x3 * (nI 8)) + x7).toNatClampNeg)), am_ol o9, none] [] (am_hp N (rt, rs, rd, rl, rx, nt, nw, nf) I J))))) :=
  by rcases h_a1 with rfl | rfl | rfl <;> rcases h_nt with rfl | rfl <;> rcases h_nw with rfl | rfl | rfl <;> exact (am_V_un (fun p => Nat.beq p 18 || Nat.beq p 80 || Nat.beq p 83 || Nat.beq p 117) 33).trans rfl
set_option maxRecDepth 100000 in
theorem e_Night_choose_80 {d : Nat} {Q : Value → am_H → Prop} {N : Nat} {I : Nat → Nat → Int32} {J : Nat → Nat → Int64} {x2 : Int32} {x3 : Int32} {x4 : Int32} {x5 : Int64} {x7 : Int32} {x8 : Int32} {o9 : Option Int64} {y2 : Int32} {y3 : Int32} {r : am_rho} {a1 : Nat} {q1 : Nat} (h_a1 : a1 = 49 ∨ a1 = 55 ∨ a1 = 82) (h_q1 : q1 = 18 ∨ q1 = 38) : am_V d Q 27 80 [some (.ref 61), some (.ref a1), some (.int x2), some (.int x3), some (.int x4), some (.long x5), none, some (.int x7), some (.int x8), am_ol o9, none] [.int y3, .int y2, .ref q1, .ref 62] (am_hp N r I J) =
    am_D d 52 [.ref 62, .ref q1, .int y2, .int y3] (am_hp N r I J) (fun v h => am_asL v (fun y => am_V d Q 27 83 [some (.ref 61), some (.ref a1), some (.int x2), some (.int x3), some (.int x4), some (.long x5), none, some (.int x7), some (.int x8), am_ol o9, none] [.long y] h)) :=
  by rcases h_a1 with rfl | rfl | rfl <;> rcases h_q1 with rfl | rfl <;> exact (am_V_un (fun p => Nat.beq p 18 || Nat.beq p 80 || Nat.beq p 83 || Nat.beq p 117) 3).trans rfl
set_option maxRecDepth 100000 in
theorem e_Night_choose_83 {d : Nat} {Q : Value → am_H → Prop} {N : Nat} {I : Nat → Nat → Int32} {J : Nat → Nat → Int64} {x2 : Int32} {x3 : Int32} {x4 : Int32} {x5 : Int64} {x7 : Int32} {x8 : Int32} {o9 : Option Int64} {y0 : Int64} {rt rs rd rl rx nt nw nf : Nat} {a1 : Nat} (h_a1 : a1 = 49 ∨ a1 = 55 ∨ a1 = 82) (h_nf : nf = 8 ∨ nf = 28 ∨ nf = 67) : am_V d Q 27 83 [some (.ref 61), some (.ref a1), some (.int x2), some (.int x3), some (.int x4), some (.long x5), none, some (.int x7), some (.int x8), am_ol o9, none] [.long y0] (am_hp N (rt, rs, rd, rl, rx, nt, nw, nf) I J) =
    am_if (!(decide ((lg_cmp y0 (Int64.ofNat 9223372036854775808)) = (nI 0)))) (am_V d Q 27 117 [some (.ref 61), some (.ref a1), some (.int x2), some (.int x3), some (.int x4), some (.long x5), none, some (.int x7), some (.int x8), some (.long y0), none] [] (am_hp N (rt, rs, rd, rl, rx, nt, nw, nf) I J)) (am_g (am_inb x2 5) (am_g (am_inb ((x7 * (nI 8)) + (I 71 x2.toNatClampNeg)) 64) (am_V d Q 27 117 [some (.ref 61), some (.ref a1), some (.int x2), some (.int x3), some (.int x4), some (.long x5), none, some (.int x7), some (.int x8), some (.long (Int32.toInt64 ((nI 100) - (I nf ((x7 * (nI 8)) + (I 71 x2.toNatClampNeg)).toNatClampNeg)))), none] [] (am_hp N (rt, rs, rd, rl, rx, nt, nw, nf) I J)))) :=
  by rcases h_a1 with rfl | rfl | rfl <;> rcases h_nf with rfl | rfl | rfl <;> exact (am_V_un (fun p => Nat.beq p 18 || Nat.beq p 80 || Nat.beq p 83 || Nat.beq p 117) 22).trans rfl
set_option maxRecDepth 100000 in
theorem e_Night_choose_117 {d : Nat} {Q : Value → am_H → Prop} {N : Nat} {I : Nat → Nat → Int32} {J : Nat → Nat → Int64} {x2 : Int32} {x3 : Int32} {x4 : Int32} {x5 : Int64} {x7 : Int32} {x8 : Int32} {x9 : Int64} {r : am_rho} {a1 : Nat} (h_a1 : a1 = 49 ∨ a1 = 55 ∨ a1 = 82) : am_V d Q 27 117 [some (.ref 61), some (.ref a1), some (.int x2), some (.int x3), some (.int x4), some (.long x5), none, some (.int x7), some (.int x8), some (.long x9), none] [] (am_hp N r I J) =
    am_if (decide (((nI 0) : Int32) < (lg_cmp x9 x5))) (am_V d Q 27 18 [some (.ref 61), some (.ref a1), some (.int x2), some (.int x3), some (.int x7), some (.long x9), none, some (.int (x7 + (nI 1))), am_oi (some x8), am_ol (some x9), none] [] (am_hp N r I J)) (am_if (!(decide ((lg_cmp x9 x5) = (nI 0)))) (am_V d Q 27 18 [some (.ref 61), some (.ref a1), some (.int x2), some (.int x3), some (.int x4), some (.long x5), none, some (.int (x7 + (nI 1))), am_oi (some x8), am_ol (some x9), none] [] (am_hp N r I J)) (am_if (!(decide (x7 = x3))) (am_V d Q 27 18 [some (.ref 61), some (.ref a1), some (.int x2), some (.int x3), some (.int x4), some (.long x5), none, some (.int (x7 + (nI 1))), am_oi (some x8), am_ol (some x9), none] [] (am_hp N r I J)) (am_V d Q 27 18 [some (.ref 61), some (.ref a1), some (.int x2), some (.int x3), some (.int x7), some (.long x9), none, some (.int (x7 + (nI 1))), am_oi (some x8), am_ol (some x9), none] [] (am_hp N r I J)))) :=
  by rcases h_a1 with rfl | rfl | rfl <;> exact (am_V_un (fun p => Nat.beq p 18 || Nat.beq p 80 || Nat.beq p 83 || Nat.beq p 117) 19).trans rfl
set_option maxRecDepth 100000 in
theorem e_Night_arrive {d : Nat} {Q : Value → am_H → Prop} {N : Nat} {I : Nat → Nat → Int32} {J : Nat → Nat → Int64} {x2 : Int32} {rt rs rd rl rx nt nw nf : Nat} {a1 : Nat} (h_a1 : a1 = 49 ∨ a1 = 55 ∨ a1 = 82) (h_nt : nt = 3 ∨ nt = 23) : am_D (d + 1) 28 [.ref 61, .ref a1, .int x2] (am_hp N (rt, rs, rd, rl, rx, nt, nw, nf) I J) Q =
    am_g (am_inb x2 5) (am_g (am_inb (I (a1 + 1) x2.toNatClampNeg) 8) (am_D d 109 [.ref a1, .int x2, .int (I (nt + 11) (I (a1 + 1) x2.toNatClampNeg).toNatClampNeg)] (am_hp N (rt, rs, rd, rl, rx, nt, nw, nf) I J) (fun v h => am_V d Q 28 21 [some (.ref 61), some (.ref a1), some (.int x2), some (.int (I (a1 + 1) x2.toNatClampNeg)), none] [] h))) :=
  by rcases h_a1 with rfl | rfl | rfl <;> rcases h_nt with rfl | rfl <;> exact (am_D_un rfl (fun p => Nat.beq p 21 || Nat.beq p 29 || Nat.beq p 48 || Nat.beq p 58 || Nat.beq p 81 || Nat.beq p 84 || Nat.beq p 104) 15).trans rfl
set_option maxRecDepth 100000 in
theorem e_Night_arrive_21 {d : Nat} {Q : Value → am_H → Prop} {N : Nat} {I : Nat → Nat → Int32} {J : Nat → Nat → Int64} {x2 : Int32} {x3 : Int32} {r : am_rho} {a1 : Nat} (h_a1 : a1 = 49 ∨ a1 = 55 ∨ a1 = 82) : am_V d Q 28 21 [some (.ref 61), some (.ref a1), some (.int x2), some (.int x3), none] [] (am_hp N r I J) =
    am_D d 23 [.ref 61, .ref a1, .int x2, .int x3, .int (nI 0)] (am_hp N r I J) (fun v h => am_asI v (fun y => am_V d Q 28 29 [some (.ref 61), some (.ref a1), some (.int x2), some (.int x3), none] [.int y] h)) :=
  by rcases h_a1 with rfl | rfl | rfl <;> exact (am_V_un (fun p => Nat.beq p 21 || Nat.beq p 29 || Nat.beq p 48 || Nat.beq p 58 || Nat.beq p 81 || Nat.beq p 84 || Nat.beq p 104) 8).trans rfl
set_option maxRecDepth 100000 in
theorem e_Night_arrive_29 {d : Nat} {Q : Value → am_H → Prop} {N : Nat} {I : Nat → Nat → Int32} {J : Nat → Nat → Int64} {x2 : Int32} {x3 : Int32} {y0 : Int32} {rt rs rd rl rx nt nw nf : Nat} {a1 : Nat} (h_a1 : a1 = 49 ∨ a1 = 55 ∨ a1 = 82) (h_nt : nt = 3 ∨ nt = 23) : am_V d Q 28 29 [some (.ref 61), some (.ref a1), some (.int x2), some (.int x3), none] [.int y0] (am_hp N (rt, rs, rd, rl, rx, nt, nw, nf) I J) =
    am_D d 52 [.ref 62, .ref (nt + 15), .int (nI 2), .int y0] (am_hp N (rt, rs, rd, rl, rx, nt, nw, nf) I J) (fun v h => am_asL v (fun y => am_V d Q 28 48 [some (.ref 61), some (.ref a1), some (.int x2), some (.int x3), some (.int y0)] [.long y] h)) :=
  by rcases h_a1 with rfl | rfl | rfl <;> rcases h_nt with rfl | rfl <;> exact (am_V_un (fun p => Nat.beq p 21 || Nat.beq p 29 || Nat.beq p 48 || Nat.beq p 58 || Nat.beq p 81 || Nat.beq p 84 || Nat.beq p 104) 11).trans rfl
set_option maxRecDepth 100000 in
theorem e_Night_arrive_48 {d : Nat} {Q : Value → am_H → Prop} {N : Nat} {I : Nat → Nat → Int32} {J : Nat → Nat → Int64} {x2 : Int32} {x3 : Int32} {x4 : Int32} {y0 : Int64} {rt rs rd rl rx nt nw nf : Nat} {a1 : Nat} (h_a1 : a1 = 49 ∨ a1 = 55 ∨ a1 = 82) (h_nt : nt = 3 ∨ nt = 23) : am_V d Q 28 48 [some (.ref 61), some (.ref a1), some (.int x2), some (.int x3), some (.int x4)] [.long y0] (am_hp N (rt, rs, rd, rl, rx, nt, nw, nf) I J) =
    am_if (decide ((lg_cmp y0 0) ≤ (nI 0))) (am_D d 52 [.ref 62, .ref (nt + 15), .int (nI 1), .int x4] (am_hp N (rt, rs, rd, rl, rx, nt, nw, nf) I J) (fun v h => am_asL v (fun y => am_V d Q 28 81 [some (.ref 61), some (.ref a1), some (.int x2), some (.int x3), some (.int x4)] [.long y, .int x2, .ref a1, .ref 61] h))) (am_D d 110 [.ref a1, .int x2] (am_hp N (rt, rs, rd, rl, rx, nt, nw, nf) I J) (fun v h => am_V d Q 28 58 [some (.ref 61), some (.ref a1), some (.int x2), some (.int x3), some (.int x4)] [] h)) :=
  by rcases h_a1 with rfl | rfl | rfl <;> rcases h_nt with rfl | rfl <;> exact (am_V_un (fun p => Nat.beq p 21 || Nat.beq p 29 || Nat.beq p 48 || Nat.beq p 58 || Nat.beq p 81 || Nat.beq p 84 || Nat.beq p 104) 16).trans rfl
set_option maxRecDepth 100000 in
theorem e_Night_arrive_58 {d : Nat} {Q : Value → am_H → Prop} {N : Nat} {I : Nat → Nat → Int32} {J : Nat → Nat → Int64} {x2 : Int32} {x3 : Int32} {x4 : Int32} {r : am_rho} {a1 : Nat} (h_a1 : a1 = 49 ∨ a1 = 55 ∨ a1 = 82) : am_V d Q 28 58 [some (.ref 61), some (.ref a1), some (.int x2), some (.int x3), some (.int x4)] [] (am_hp N r I J) =
    am_V d Q 28 104 [some (.ref 61), some (.ref a1), some (.int x2), some (.int x3), some (.int x4)] [] (am_hp N r I J) :=
  by rcases h_a1 with rfl | rfl | rfl <;> exact (am_V_un (fun p => Nat.beq p 21 || Nat.beq p 29 || Nat.beq p 48 || Nat.beq p 58 || Nat.beq p 81 || Nat.beq p 84 || Nat.beq p 104) 3).trans rfl
set_option maxRecDepth 100000 in
theorem e_Night_arrive_81 {d : Nat} {Q : Value → am_H → Prop} {N : Nat} {I : Nat → Nat → Int32} {J : Nat → Nat → Int64} {x2 : Int32} {x3 : Int32} {x4 : Int32} {y2 : Int32} {y3 : Int64} {r : am_rho} {a1 : Nat} {q1 : Nat} (h_a1 : a1 = 49 ∨ a1 = 55 ∨ a1 = 82) (h_q1 : q1 = 49 ∨ q1 = 55 ∨ q1 = 82) : am_V d Q 28 81 [some (.ref 61), some (.ref a1), some (.int x2), some (.int x3), some (.int x4)] [.long y3, .int y2, .ref q1, .ref 61] (am_hp N r I J) =
    am_D d 29 [.ref 61, .ref q1, .int y2, .long y3] (am_hp N r I J) (fun v h => am_asI v (fun y => am_V d Q 28 84 [some (.ref 61), some (.ref a1), some (.int x2), some (.int x3), some (.int x4)] [.int y] h)) :=
  by rcases h_a1 with rfl | rfl | rfl <;> rcases h_q1 with rfl | rfl | rfl <;> exact (am_V_un (fun p => Nat.beq p 21 || Nat.beq p 29 || Nat.beq p 48 || Nat.beq p 58 || Nat.beq p 81 || Nat.beq p 84 || Nat.beq p 104) 3).trans rfl
set_option maxRecDepth 100000 in
theorem e_Night_arrive_84 {d : Nat} {Q : Value → am_H → Prop} {N : Nat} {I : Nat → Nat → Int32} {J : Nat → Nat → Int64} {x2 : Int32} {x3 : Int32} {x4 : Int32} {y0 : Int32} {r : am_rho} {a1 : Nat} (h_a1 : a1 = 49 ∨ a1 = 55 ∨ a1 = 82) : am_V d Q 28 84 [some (.ref 61), some (.ref a1), some (.int x2), some (.int x3), some (.int x4)] [.int y0] (am_hp N r I J) =
    am_if (decide (y0 = (nI 0))) (am_V d Q 28 104 [some (.ref 61), some (.ref a1), some (.int x2), some (.int x3), some (.int x4)] [] (am_hp N r I J)) (am_D d 110 [.ref a1, .int x2] (am_hp N r (am_u I a1 3 ((I a1 3) ||| ((nI 1) <<< (x2 &&& nI 31)))) J) (fun v h => am_V d Q 28 104 [some (.ref 61), some (.ref a1), some (.int x2), some (.int x3), some (.int x4)] [] h)) :=
  by rcases h_a1 with rfl | rfl | rfl <;> exact (am_V_un (fun p => Nat.beq p 21 || Nat.beq p 29 || Nat.beq p 48 || Nat.beq p 58 || Nat.beq p 81 || Nat.beq p 84 || Nat.beq p 104) 14).trans rfl
set_option maxRecDepth 100000 in
theorem e_Night_arrive_104 {d : Nat} {Q : Value → am_H → Prop} {N : Nat} {I : Nat → Nat → Int32} {J : Nat → Nat → Int64} {x2 : Int32} {x3 : Int32} {x4 : Int32} {r : am_rho} {a1 : Nat} (h_a1 : a1 = 49 ∨ a1 = 55 ∨ a1 = 82) : am_V d Q 28 104 [some (.ref 61), some (.ref a1), some (.int x2), some (.int x3), some (.int x4)] [] (am_hp N r I J) =
    Q .null (am_hp N r I J) :=
  by rcases h_a1 with rfl | rfl | rfl <;> exact (am_V_un (fun p => Nat.beq p 21 || Nat.beq p 29 || Nat.beq p 48 || Nat.beq p 58 || Nat.beq p 81 || Nat.beq p 84 || Nat.beq p 104) 3).trans rfl
set_option maxRecDepth 100000 in
theorem e_Night_wakes {d : Nat} {Q : Value → am_H → Prop} {N : Nat} {I : Nat → Nat → Int32} {J : Nat → Nat → Int64} {x2 : Int32} {x3 : Int64} {r : am_rho} {a1 : Nat} (h_a1 : a1 = 49 ∨ a1 = 55 ∨ a1 = 82) : am_D (d + 1) 29 [.ref 61, .ref a1, .int x2, .long x3] (am_hp N r I J) Q =
    am_if (!(decide ((lg_cmp x3 (Int64.ofNat 9223372036854775808)) = (nI 0)))) (am_if (!(decide ((I 61 12) = (nI 0)))) (am_if (decide (((nI 0) : Int32) ≤ (lg_cmp x3 (Int64.ofNat 100)))) (Q (.int (nI 1)) (am_hp N r I J)) (am_if (decide ((lg_cmp x3 0) ≤ (nI 0))) (Q (.int (nI 0)) (am_hp N r I J)) (am_D d 113 [.ref a1] (am_hp N r I J) (fun v h => am_asI v (fun y => am_V d Q 29 73 [some (.ref 61), some (.ref a1), some (.int x2), some (.long x3), none] [.int y] h))))) (am_if (decide ((lg_cmp x3 (Int64.ofNat 50)) < (nI 0))) (Q (.int (nI 0)) (am_hp N r I J)) (Q (.int (nI 1)) (am_hp N r I J)))) (am_g (am_inb x2 5) (am_g (am_inb (I (a1 + 1) x2.toNatClampNeg) 8) (am_g (am_inb x2 5) (am_if (decide ((I 69 (I (a1 + 1) x2.toNatClampNeg).toNatClampNeg) ≤ (I 70 x2.toNatClampNeg))) (Q (.int (nI 0)) (am_hp N r I J)) (Q (.int (nI 1)) (am_hp N r I J)))))) :=
  by rcases h_a1 with rfl | rfl | rfl <;> exact (am_D_un rfl (fun p => Nat.beq p 73) 21).trans rfl
set_option maxRecDepth 100000 in
theorem e_Night_wakes_73 {d : Nat} {Q : Value → am_H → Prop} {N : Nat} {I : Nat → Nat → Int32} {J : Nat → Nat → Int64} {x2 : Int32} {x3 : Int64} {y0 : Int32} {r : am_rho} {a1 : Nat} (h_a1 : a1 = 49 ∨ a1 = 55 ∨ a1 = 82) : am_V d Q 29 73 [some (.ref 61), some (.ref a1), some (.int x2), some (.long x3), none] [.int y0] (am_hp N r I J) =
    am_if (decide (((nI 0) : Int32) ≤ (lg_cmp (Int32.toInt64 (y0 - y0 / (nI 100) * (nI 100))) x3))) (Q (.int (nI 0)) (am_hp N r I J)) (Q (.int (nI 1)) (am_hp N r I J)) :=
  by rcases h_a1 with rfl | rfl | rfl <;> exact (am_V_un (fun p => Nat.beq p 73) 11).trans rfl
set_option maxRecDepth 100000 in
theorem e_Sights_clear {d : Nat} {Q : Value → am_H → Prop} {N : Nat} {I : Nat → Nat → Int32} {J : Nat → Nat → Int64} {r : am_rho} : am_D (d + 1) 56 [.ref 72] (am_hp N r I J) Q =
    Q .null (am_hp N r (am_u (am_u I 72 0 (nI 0)) 72 1 (-nI 1)) J) :=
  (am_D_un rfl (fun p => false) 9).trans rfl
set_option maxRecDepth 100000 in
theorem e_Sights_add {d : Nat} {Q : Value → am_H → Prop} {N : Nat} {I : Nat → Nat → Int32} {J : Nat → Nat → Int64} {x1 : Int32} {x2 : Int32} {x3 : Int32} {r : am_rho} : am_D (d + 1) 57 [.ref 72, .int x1, .int x2, .int x3] (am_hp N r I J) Q =
    am_if (decide ((I 72 0) < (nI 24))) (am_g (am_inb (I 72 0) 24) (am_g (am_inb ((am_u I 73 (I 72 0).toNatClampNeg x1) 72 0) 24) (am_g (am_inb ((am_u (am_u I 73 (I 72 0).toNatClampNeg x1) 74 ((am_u I 73 (I 72 0).toNatClampNeg x1) 72 0).toNatClampNeg x2) 72 0) 24) (am_g (am_inb ((am_u (am_u (am_u I 73 (I 72 0).toNatClampNeg x1) 74 ((am_u I 73 (I 72 0).toNatClampNeg x1) 72 0).toNatClampNeg x2) 75 ((am_u (am_u I 73 (I 72 0).toNatClampNeg x1) 74 ((am_u I 73 (I 72 0).toNatClampNeg x1) 72 0).toNatClampNeg x2) 72 0).toNatClampNeg x3) 72 0) 24) (Q (.int (((am_u (am_u (am_u (am_u (am_u I 73 (I 72 0).toNatClampNeg x1) 74 ((am_u I 73 (I 72 0).toNatClampNeg x1) 72 0).toNatClampNeg x2) 75 ((am_u (am_u I 73 (I 72 0).toNatClampNeg x1) 74 ((am_u I 73 (I 72 0).toNatClampNeg x1) 72 0).toNatClampNeg x2) 72 0).toNatClampNeg x3) 76 ((am_u (am_u (am_u I 73 (I 72 0).toNatClampNeg x1) 74 ((am_u I 73 (I 72 0).toNatClampNeg x1) 72 0).toNatClampNeg x2) 75 ((am_u (am_u I 73 (I 72 0).toNatClampNeg x1) 74 ((am_u I 73 (I 72 0).toNatClampNeg x1) 72 0).toNatClampNeg x2) 72 0).toNatClampNeg x3) 72 0).toNatClampNeg (-nI 1)) 72 0 (((am_u (am_u (am_u (am_u I 73 (I 72 0).toNatClampNeg x1) 74 ((am_u I 73 (I 72 0).toNatClampNeg x1) 72 0).toNatClampNeg x2) 75 ((am_u (am_u I 73 (I 72 0).toNatClampNeg x1) 74 ((am_u I 73 (I 72 0).toNatClampNeg x1) 72 0).toNatClampNeg x2) 72 0).toNatClampNeg x3) 76 ((am_u (am_u (am_u I 73 (I 72 0).toNatClampNeg x1) 74 ((am_u I 73 (I 72 0).toNatClampNeg x1) 72 0).toNatClampNeg x2) 75 ((am_u (am_u I 73 (I 72 0).toNatClampNeg x1) 74 ((am_u I 73 (I 72 0).toNatClampNeg x1) 72 0).toNatClampNeg x2) 72 0).toNatClampNeg x3) 72 0).toNatClampNeg (-nI 1)) 72 0) + (nI 1))) 72 0) - (nI 1))) (am_hp N r (am_u (am_u (am_u (am_u (am_u I 73 (I 72 0).toNatClampNeg x1) 74 ((am_u I 73 (I 72 0).toNatClampNeg x1) 72 0).toNatClampNeg x2) 75 ((am_u (am_u I 73 (I 72 0).toNatClampNeg x1) 74 ((am_u I 73 (I 72 0).toNatClampNeg x1) 72 0).toNatClampNeg x2) 72 0).toNatClampNeg x3) 76 ((am_u (am_u (am_u I 73 (I 72 0).toNatClampNeg x1) 74 ((am_u I 73 (I 72 0).toNatClampNeg x1) 72 0).toNatClampNeg x2) 75 ((am_u (am_u I 73 (I 72 0).toNatClampNeg x1) 74 ((am_u I 73 (I 72 0).toNatClampNeg x1) 72 0).toNatClampNeg x2) 72 0).toNatClampNeg x3) 72 0).toNatClampNeg (-nI 1)) 72 0 (((am_u (am_u (am_u (am_u I 73 (I 72 0).toNatClampNeg x1) 74 ((am_u I 73 (I 72 0).toNatClampNeg x1) 72 0).toNatClampNeg x2) 75 ((am_u (am_u I 73 (I 72 0).toNatClampNeg x1) 74 ((am_u I 73 (I 72 0).toNatClampNeg x1) 72 0).toNatClampNeg x2) 72 0).toNatClampNeg x3) 76 ((am_u (am_u (am_u I 73 (I 72 0).toNatClampNeg x1) 74 ((am_u I 73 (I 72 0).toNatClampNeg x1) 72 0).toNatClampNeg x2) 75 ((am_u (am_u I 73 (I 72 0).toNatClampNeg x1) 74 ((am_u I 73 (I 72 0).toNatClampNeg x1) 72 0).toNatClampNeg x2) 72 0).toNatClampNeg x3) 72 0).toNatClampNeg (-nI 1)) 72 0) + (nI 1))) J)))))) (Q (.int (-nI 1)) (am_hp N r I J)) :=
  (am_D_un rfl (fun p => false) 41).trans rfl
set_option maxRecDepth 100000 in
theorem e_Sights_addStrike {d : Nat} {Q : Value → am_H → Prop} {N : Nat} {I : Nat → Nat → Int32} {J : Nat → Nat → Int64} {x1 : Int32} {r : am_rho} : am_D (d + 1) 58 [.ref 72, .int x1] (am_hp N r I J) Q =
    am_D d 57 [.ref 72, .int (nI 0), .int (-nI 1), .int (-nI 1)] (am_hp N r I J) (fun v h => am_asI v (fun y => am_V d Q 58 7 [some (.ref 72), some (.int x1), none] [.int y] h)) :=
  (am_D_un rfl (fun p => Nat.beq p 7) 7).trans rfl
set_option maxRecDepth 100000 in
theorem e_Sights_addStrike_7 {d : Nat} {Q : Value → am_H → Prop} {N : Nat} {I : Nat → Nat → Int32} {J : Nat → Nat → Int64} {x1 : Int32} {y0 : Int32} {r : am_rho} : am_V d Q 58 7 [some (.ref 72), some (.int x1), none] [.int y0] (am_hp N r I J) =
    am_if (decide (y0 = (-nI 1))) (Q (.int y0) (am_hp N r I J)) (am_g (am_inb y0 24) (Q (.int y0) (am_hp N r (am_u I 76 y0.toNatClampNeg x1) J))) :=
  (am_V_un (fun p => Nat.beq p 7) 13).trans rfl
set_option maxRecDepth 100000 in
theorem e_Sights_knownCount {d : Nat} {Q : Value → am_H → Prop} {N : Nat} {I : Nat → Nat → Int32} {J : Nat → Nat → Int64} {r : am_rho} : am_D (d + 1) 59 [.ref 72] (am_hp N r I J) Q =
    am_if (!(decide ((I 72 1) = (-nI 1)))) (Q (.int (I 72 1)) (am_hp N r I J)) (Q (.int (I 72 0)) (am_hp N r I J)) :=
  (am_D_un rfl (fun p => false) 10).trans rfl
set_option maxRecDepth 100000 in
theorem e_Sights_standing {d : Nat} {Q : Value → am_H → Prop} {N : Nat} {I : Nat → Nat → Int32} {J : Nat → Nat → Int64} {r : am_rho} : am_D (d + 1) 60 [.ref 72] (am_hp N r I J) Q =
    am_D d 59 [.ref 72] (am_hp N r I J) (fun v h => am_asI v (fun y => am_V d Q 60 6 [some (.ref 72), some (.int (nI 0)), none] [.int y] h)) :=
  (am_D_un rfl (fun p => Nat.beq p 6 || Nat.beq p 9 || Nat.beq p 53) 6).trans rfl
set_option maxRecDepth 100000 in
theorem e_Sights_standing_6 {d : Nat} {Q : Value → am_H → Prop} {N : Nat} {I : Nat → Nat → Int32} {J : Nat → Nat → Int64} {x1 : Int32} {y0 : Int32} {r : am_rho} : am_V d Q 60 6 [some (.ref 72), some (.int x1), none] [.int y0] (am_hp N r I J) =
    am_V d Q 60 9 [some (.ref 72), some (.int x1), some (.int (y0 - (nI 1)))] [] (am_hp N r I J) :=
  (am_V_un (fun p => Nat.beq p 6 || Nat.beq p 9 || Nat.beq p 53) 5).trans rfl
set_option maxRecDepth 100000 in
theorem e_Sights_standing_9 {d : Nat} {Q : Value → am_H → Prop} {N : Nat} {I : Nat → Nat → Int32} {J : Nat → Nat → Int64} {x1 : Int32} {x2 : Int32} {r : am_rho} : am_V d Q 60 9 [some (.ref 72), some (.int x1), some (.int x2)] [] (am_hp N r I J) =
    am_if (decide (x2 < (nI 0))) (am_D d 59 [.ref 72] (am_hp N r I J) (fun v h => am_asI v (fun y => am_V d Q 60 53 [some (.ref 72), some (.int x1), some (.int x2)] [.int y, .int (nI 1)] h))) (am_g (am_inb x2 24) (am_if (decide ((I 76 x2.toNatClampNeg) = (-nI 1))) (am_V d Q 60 9 [some (.ref 72), some (.int x1), some (.int (x2 + (-nI 1)))] [] (am_hp N r I J)) (am_if (!(decide (((x1 >>> (x2 &&& nI 31)) &&& (nI 1)) = (nI 0)))) (am_V d Q 60 9 [some (.ref 72), some (.int x1), some (.int (x2 + (-nI 1)))] [] (am_hp N r I J)) (am_g (am_inb x2 24) (am_V d Q 60 9 [some (.ref 72), some (.int (x1 ||| ((nI 1) <<< ((I 76 x2.toNatClampNeg) &&& nI 31)))), some (.int (x2 + (-nI 1)))] [] (am_hp N r I J)))))) :=
  (am_V_un (fun p => Nat.beq p 6 || Nat.beq p 9 || Nat.beq p 53) 27).trans rfl
set_option maxRecDepth 100000 in
theorem e_Sights_standing_53 {d : Nat} {Q : Value → am_H → Prop} {N : Nat} {I : Nat → Nat → Int32} {J : Nat → Nat → Int64} {x1 : Int32} {x2 : Int32} {y0 : Int32} {y1 : Int32} {r : am_rho} : am_V d Q 60 53 [some (.ref 72), some (.int x1), some (.int x2)] [.int y1, .int y0] (am_hp N r I J) =
    Q (.int (((y0 <<< (y1 &&& nI 31)) - (nI 1)) &&& (x1 ^^^ (-nI 1)))) (am_hp N r I J) :=
  (am_V_un (fun p => Nat.beq p 6 || Nat.beq p 9 || Nat.beq p 53) 10).trans rfl
set_option maxRecDepth 100000 in
theorem e_Sights_fit {d : Nat} {Q : Value → am_H → Prop} {N : Nat} {I : Nat → Nat → Int32} {J : Nat → Nat → Int64} {x2 : Int32} {x3 : Int32} {r : am_rho} : am_D (d + 1) 61 [.ref 72, .ref 61, .int x2, .int x3] (am_hp N r I J) Q =
    am_V d Q 61 3 [some (.ref 72), some (.ref 61), some (.int x2), some (.int x3), some (.int (nI 0)), am_oi none] [] (am_hp N r I J) :=
  (am_D_un rfl (fun p => Nat.beq p 3 || Nat.beq p 56) 4).trans rfl
set_option maxRecDepth 100000 in
theorem e_Sights_fit_3 {d : Nat} {Q : Value → am_H → Prop} {N : Nat} {I : Nat → Nat → Int32} {J : Nat → Nat → Int64} {x2 : Int32} {x3 : Int32} {x4 : Int32} {o5 : Option Int32} {r : am_rho} : am_V d Q 61 3 [some (.ref 72), some (.ref 61), some (.int x2), some (.int x3), some (.int x4), am_oi o5] [] (am_hp N r I J) =
    am_if (decide ((I 72 0) ≤ x4)) (Q (.int (nI 1)) (am_hp N r I J)) (am_if (decide (((x3 >>> (x4 &&& nI 31)) &&& (nI 1)) = (nI 0))) (am_V d Q 61 3 [some (.ref 72), some (.ref 61), some (.int x2), some (.int x3), some (.int (x4 + (nI 1))), am_oi (some (nI 0))] [] (am_hp N r I J)) (am_g (am_inb x4 24) (am_if (!(decide ((I 74 x4.toNatClampNeg) = x2))) (am_V d Q 61 3 [some (.ref 72), some (.ref 61), some (.int x2), some (.int x3), some (.int (x4 + (nI 1))), am_oi (some (nI 0))] [] (am_hp N r I J)) (am_g (am_inb x4 24) (am_D d 25 [.ref 61, .int x2, .int (I 73 x4.toNatClampNeg)] (am_hp N r I J) (fun v h => am_asI v (fun y => am_V d Q 61 56 [some (.ref 72), some (.ref 61), some (.int x2), some (.int x3), some (.int x4), some (.int (nI 1))] [.int y] h))))))) :=
  (am_V_un (fun p => Nat.beq p 3 || Nat.beq p 56) 30).trans rfl
set_option maxRecDepth 100000 in
theorem e_Sights_fit_56 {d : Nat} {Q : Value → am_H → Prop} {N : Nat} {I : Nat → Nat → Int32} {J : Nat → Nat → Int64} {x2 : Int32} {x3 : Int32} {x4 : Int32} {x5 : Int32} {y0 : Int32} {r : am_rho} : am_V d Q 61 56 [some (.ref 72), some (.ref 61), some (.int x2), some (.int x3), some (.int x4), some (.int x5)] [.int y0] (am_hp N r I J) =
    am_g (am_inb x4 24) (am_if (decide (y0 = (I 75 x4.toNatClampNeg))) (am_V d Q 61 3 [some (.ref 72), some (.ref 61), some (.int x2), some (.int x3), some (.int (x4 + (nI 1))), am_oi (some x5)] [] (am_hp N r I J)) (Q (.int (nI 0)) (am_hp N r I J))) :=
  (am_V_un (fun p => Nat.beq p 3 || Nat.beq p 56) 9).trans rfl
set_option maxRecDepth 100000 in
theorem e_Tries_goTonight {d : Nat} {Q : Value → am_H → Prop} {N : Nat} {I : Nat → Nat → Int32} {J : Nat → Nat → Int64} {r : am_rho} {a1 : Nat} (h_a1 : a1 = 3 ∨ a1 = 23) : am_D (d + 1) 81 [.ref 81, .ref a1] (am_hp N r I J) Q =
    am_D d 20 [.ref 61, .ref a1, .ref 49] (am_hp N r I J) (fun v h => am_V d Q 81 12 [some (.ref 81), some (.ref a1)] [] h) :=
  by rcases h_a1 with rfl | rfl <;> exact (am_D_un rfl (fun p => Nat.beq p 12 || Nat.beq p 23 || Nat.beq p 36) 8).trans rfl
set_option maxRecDepth 100000 in
theorem e_Tries_goTonight_12 {d : Nat} {Q : Value → am_H → Prop} {N : Nat} {I : Nat → Nat → Int32} {J : Nat → Nat → Int64} {r : am_rho} {a1 : Nat} (h_a1 : a1 = 3 ∨ a1 = 23) : am_V d Q 81 12 [some (.ref 81), some (.ref a1)] [] (am_hp N r I J) =
    am_D d 101 [.ref 82, .ref 49] (am_hp N r I J) (fun v h => am_V d Q 81 23 [some (.ref 81), some (.ref a1)] [] h) :=
  by rcases h_a1 with rfl | rfl <;> exact (am_V_un (fun p => Nat.beq p 12 || Nat.beq p 23 || Nat.beq p 36) 7).trans rfl
set_option maxRecDepth 100000 in
theorem e_Tries_goTonight_23 {d : Nat} {Q : Value → am_H → Prop} {N : Nat} {I : Nat → Nat → Int32} {J : Nat → Nat → Int64} {r : am_rho} {a1 : Nat} (h_a1 : a1 = 3 ∨ a1 = 23) : am_V d Q 81 23 [some (.ref 81), some (.ref a1)] [] (am_hp N r I J) =
    am_D d 26 [.ref 61, .ref 82, .int (nI 11)] (am_hp N r I J) (fun v h => am_V d Q 81 36 [some (.ref 81), some (.ref a1)] [] h) :=
  by rcases h_a1 with rfl | rfl <;> exact (am_V_un (fun p => Nat.beq p 12 || Nat.beq p 23 || Nat.beq p 36) 8).trans rfl
set_option maxRecDepth 100000 in
theorem e_Tries_goTonight_36 {d : Nat} {Q : Value → am_H → Prop} {N : Nat} {I : Nat → Nat → Int32} {J : Nat → Nat → Int64} {r : am_rho} {a1 : Nat} (h_a1 : a1 = 3 ∨ a1 = 23) : am_V d Q 81 36 [some (.ref 81), some (.ref a1)] [] (am_hp N r I J) =
    Q .null (am_hp N r I J) :=
  by rcases h_a1 with rfl | rfl <;> exact (am_V_un (fun p => Nat.beq p 12 || Nat.beq p 23 || Nat.beq p 36) 3).trans rfl
set_option maxRecDepth 100000 in
theorem e_Tries_carrier {d : Nat} {Q : Value → am_H → Prop} {N : Nat} {I : Nat → Nat → Int32} {J : Nat → Nat → Int64} {x2 : Int32} {r : am_rho} {a1 : Nat} (h_a1 : a1 = 3 ∨ a1 = 23) : am_D (d + 1) 82 [.ref 81, .ref a1, .int x2] (am_hp N r I J) Q =
    am_V d Q 82 11 [some (.ref 81), some (.ref a1), some (.int x2), some (.int (nI 0)), some (.int (nI 0)), some (.int (nI 1)), some (.int (nI 0))] [] (am_hp N r I J) :=
  by rcases h_a1 with rfl | rfl <;> exact (am_D_un rfl (fun p => Nat.beq p 11 || Nat.beq p 29 || Nat.beq p 96 || Nat.beq p 99 || Nat.beq p 114 || Nat.beq p 129) 10).trans rfl
set_option maxRecDepth 100000 in
theorem e_Tries_carrier_11 {d : Nat} {Q : Value → am_H → Prop} {N : Nat} {I : Nat → Nat → Int32} {J : Nat → Nat → Int64} {x2 : Int32} {x3 : Int32} {x4 : Int32} {x5 : Int32} {x6 : Int32} {r : am_rho} {a1 : Nat} (h_a1 : a1 = 3 ∨ a1 = 23) : am_V d Q 82 11 [some (.ref 81), some (.ref a1), some (.int x2), some (.int x3), some (.int x4), some (.int x5), some (.int x6)] [] (am_hp N r I J) =
    am_if (decide ((I a1 3) ≤ x6)) (am_D d 20 [.ref 61, .ref a1, .ref 49] (am_hp N r I J) (fun v h => am_V d Q 82 96 [some (.ref 81), some (.ref a1), some (.int x2), some (.int x3), some (.int x4), some (.int x5), some (.int x6)] [] h)) (am_D d 104 [.ref 49, .int x6] (am_hp N r I J) (fun v h => am_asI v (fun y => am_V d Q 82 29 [some (.ref 81), some (.ref a1), some (.int x2), some (.int x3), some (.int x4), some (.int x5), some (.int x6)] [.int y] h))) :=
  by rcases h_a1 with rfl | rfl <;> exact (am_V_un (fun p => Nat.beq p 11 || Nat.beq p 29 || Nat.beq p 96 || Nat.beq p 99 || Nat.beq p 114 || Nat.beq p 129) 12).trans rfl
set_option maxRecDepth 100000 in
theorem e_Tries_carrier_29 {d : Nat} {Q : Value → am_H → Prop} {N : Nat} {I : Nat → Nat → Int32} {J : Nat → Nat → Int64} {x2 : Int32} {x3 : Int32} {x4 : Int32} {x5 : Int32} {x6 : Int32} {y0 : Int32} {r : am_rho} {a1 : Nat} (h_a1 : a1 = 3 ∨ a1 = 23) : am_V d Q 82 29 [some (.ref 81), some (.ref a1), some (.int x2), some (.int x3), some (.int x4), some (.int x5), some (.int x6)] [.int y0] (am_hp N r I J) =
    am_if (!(decide (y0 = (-nI 1)))) (am_if (decide (x3 < (nI 4))) (am_if (!(decide (x6 = x2))) (am_g (am_inb x3 4) (am_V d Q 82 11 [some (.ref 81), some (.ref a1), some (.int x2), some (.int (x3 + (nI 1))), some (.int x4), some (.int (x5 * ((am_u I 88 x3.toNatClampNeg x6) a1 2))), some (.int (x6 + (nI 1)))] [] (am_hp N r (am_u I 88 x3.toNatClampNeg x6) J))) (am_g (am_inb x3 4) (am_V d Q 82 11 [some (.ref 81), some (.ref a1), some (.int x2), some (.int (x3 + (nI 1))), some (.int x3), some (.int (x5 * ((am_u I 88 x3.toNatClampNeg x6) a1 2))), some (.int (x6 + (nI 1)))] [] (am_hp N r (am_u I 88 x3.toNatClampNeg x6) J)))) (Q (.int (-nI 3)) (am_hp N r I J))) (am_V d Q 82 11 [some (.ref 81), some (.ref a1), some (.int x2), some (.int x3), some (.int x4), some (.int x5), some (.int (x6 + (nI 1)))] [] (am_hp N r I J)) :=
  by rcases h_a1 with rfl | rfl <;> exact (am_V_un (fun p => Nat.beq p 11 || Nat.beq p 29 || Nat.beq p 96 || Nat.beq p 99 || Nat.beq p 114 || Nat.beq p 129) 26).trans rfl
set_option maxRecDepth 100000 in
theorem e_Tries_carrier_96 {d : Nat} {Q : Value → am_H → Prop} {N : Nat} {I : Nat → Nat → Int32} {J : Nat → Nat → Int64} {x2 : Int32} {x3 : Int32} {x4 : Int32} {x5 : Int32} {x6 : Int32} {r : am_rho} {a1 : Nat} (h_a1 : a1 = 3 ∨ a1 = 23) : am_V d Q 82 96 [some (.ref 81), some (.ref a1), some (.int x2), some (.int x3), some (.int x4), some (.int x5), some (.int x6)] [] (am_hp N r I J) =
    am_V d Q 82 99 [some (.ref 81), some (.ref a1), some (.int x2), some (.int x3), some (.int x4), some (.int x5), some (.int (nI 0))] [] (am_hp N r I J) :=
  by rcases h_a1 with rfl | rfl <;> exact (am_V_un (fun p => Nat.beq p 11 || Nat.beq p 29 || Nat.beq p 96 || Nat.beq p 99 || Nat.beq p 114 || Nat.beq p 129) 4).trans rfl
set_option maxRecDepth 100000 in
theorem e_Tries_carrier_99 {d : Nat} {Q : Value → am_H → Prop} {N : Nat} {I : Nat → Nat → Int32} {J : Nat → Nat → Int64} {x2 : Int32} {x3 : Int32} {x4 : Int32} {x5 : Int32} {x6 : Int32} {r : am_rho} {a1 : Nat} (h_a1 : a1 = 3 ∨ a1 = 23) : am_V d Q 82 99 [some (.ref 81), some (.ref a1), some (.int x2), some (.int x3), some (.int x4), some (.int x5), some (.int x6)] [] (am_hp N r I J) =
    am_if (decide (x5 ≤ x6)) (Q (.int (-nI 2)) (am_hp N r I J)) (am_D d 84 [.ref 81, .ref a1, .int x3, .int x6] (am_hp N r I J) (fun v h => am_asI v (fun y => am_V d Q 82 114 [some (.ref 81), some (.ref a1), some (.int x2), some (.int x3), some (.int x4), some (.int x5), some (.int x6)] [.int y] h))) :=
  by rcases h_a1 with rfl | rfl <;> exact (am_V_un (fun p => Nat.beq p 11 || Nat.beq p 29 || Nat.beq p 96 || Nat.beq p 99 || Nat.beq p 114 || Nat.beq p 129) 10).trans rfl
set_option maxRecDepth 100000 in
theorem e_Tries_carrier_114 {d : Nat} {Q : Value → am_H → Prop} {N : Nat} {I : Nat → Nat → Int32} {J : Nat → Nat → Int64} {x2 : Int32} {x3 : Int32} {x4 : Int32} {x5 : Int32} {x6 : Int32} {y0 : Int32} {r : am_rho} {a1 : Nat} (h_a1 : a1 = 3 ∨ a1 = 23) : am_V d Q 82 114 [some (.ref 81), some (.ref a1), some (.int x2), some (.int x3), some (.int x4), some (.int x5), some (.int x6)] [.int y0] (am_hp N r I J) =
    am_if (decide (y0 = (nI 0))) (am_V d Q 82 99 [some (.ref 81), some (.ref a1), some (.int x2), some (.int x3), some (.int x4), some (.int x5), some (.int (x6 + (nI 1)))] [] (am_hp N r I J)) (am_D d 83 [.ref a1, .int x6, .int ((x3 - (nI 1)) - x4)] (am_hp N r I J) (fun v h => am_asI v (fun y => am_V d Q 82 129 [some (.ref 81), some (.ref a1), some (.int x2), some (.int x3), some (.int x4), some (.int x5), some (.int x6)] [.int y] h))) :=
  by rcases h_a1 with rfl | rfl <;> exact (am_V_un (fun p => Nat.beq p 11 || Nat.beq p 29 || Nat.beq p 96 || Nat.beq p 99 || Nat.beq p 114 || Nat.beq p 129) 11).trans rfl
set_option maxRecDepth 100000 in
theorem e_Tries_carrier_129 {d : Nat} {Q : Value → am_H → Prop} {N : Nat} {I : Nat → Nat → Int32} {J : Nat → Nat → Int64} {x2 : Int32} {x3 : Int32} {x4 : Int32} {x5 : Int32} {x6 : Int32} {y0 : Int32} {r : am_rho} {a1 : Nat} (h_a1 : a1 = 3 ∨ a1 = 23) : am_V d Q 82 129 [some (.ref 81), some (.ref a1), some (.int x2), some (.int x3), some (.int x4), some (.int x5), some (.int x6)] [.int y0] (am_hp N r I J) =
    Q (.int y0) (am_hp N r I J) :=
  by rcases h_a1 with rfl | rfl <;> exact (am_V_un (fun p => Nat.beq p 11 || Nat.beq p 29 || Nat.beq p 96 || Nat.beq p 99 || Nat.beq p 114 || Nat.beq p 129) 3).trans rfl
set_option maxRecDepth 100000 in
theorem e_Tries_sleeperOf {d : Nat} {Q : Value → am_H → Prop} {N : Nat} {I : Nat → Nat → Int32} {J : Nat → Nat → Int64} {x1 : Int32} {x2 : Int32} {r : am_rho} {a0 : Nat} (h_a0 : a0 = 3 ∨ a0 = 23) : am_D (d + 1) 83 [.ref a0, .int x1, .int x2] (am_hp N r I J) Q =
    am_V d Q 83 5 [some (.ref a0), some (.int x1), some (.int x2), some (.int x1), some (.int (nI 0))] [] (am_hp N r I J) :=
  by rcases h_a0 with rfl | rfl <;> exact (am_D_un rfl (fun p => Nat.beq p 5) 6).trans rfl
set_option maxRecDepth 100000 in
theorem e_Tries_sleeperOf_5 {d : Nat} {Q : Value → am_H → Prop} {N : Nat} {I : Nat → Nat → Int32} {J : Nat → Nat → Int64} {x1 : Int32} {x2 : Int32} {x3 : Int32} {x4 : Int32} {r : am_rho} {a0 : Nat} (h_a0 : a0 = 3 ∨ a0 = 23) : am_V d Q 83 5 [some (.ref a0), some (.int x1), some (.int x2), some (.int x3), some (.int x4)] [] (am_hp N r I J) =
    am_if (decide (x2 ≤ x4)) (am_if (decide ((I a0 2) ≤ (nI 0))) (Q (.int (-nI 1)) (am_hp N r I J)) (am_g (!(decide ((I a0 2) = nI 0))) (Q (.int (x3 - x3 / (I a0 2) * (I a0 2))) (am_hp N r I J)))) (am_if (decide ((I a0 2) ≤ (nI 0))) (am_if (decide ((I a0 2) ≤ (nI 0))) (Q (.int (-nI 1)) (am_hp N r I J)) (am_g (!(decide ((I a0 2) = nI 0))) (Q (.int (x3 - x3 / (I a0 2) * (I a0 2))) (am_hp N r I J)))) (am_g (!(decide ((I a0 2) = nI 0))) (am_V d Q 83 5 [some (.ref a0), some (.int x1), some (.int x2), some (.int (x3 / (I a0 2))), some (.int (x4 + (nI 1)))] [] (am_hp N r I J)))) :=
  by rcases h_a0 with rfl | rfl <;> exact (am_V_un (fun p => Nat.beq p 5) 17).trans rfl
set_option maxRecDepth 100000 in
theorem e_Tries_allArrive {d : Nat} {Q : Value → am_H → Prop} {N : Nat} {I : Nat → Nat → Int32} {J : Nat → Nat → Int64} {x2 : Int32} {x3 : Int32} {r : am_rho} {a1 : Nat} (h_a1 : a1 = 3 ∨ a1 = 23) : am_D (d + 1) 84 [.ref 81, .ref a1, .int x2, .int x3] (am_hp N r I J) Q =
    am_D d 101 [.ref 82, .ref 49] (am_hp N r I J) (fun v h => am_V d Q 84 11 [some (.ref 81), some (.ref a1), some (.int x2), some (.int x3), none, none, none] [] h) :=
  by rcases h_a1 with rfl | rfl <;> exact (am_D_un rfl (fun p => Nat.beq p 11 || Nat.beq p 22 || Nat.beq p 28 || Nat.beq p 45 || Nat.beq p 113) 7).trans rfl
set_option maxRecDepth 100000 in
theorem e_Tries_allArrive_11 {d : Nat} {Q : Value → am_H → Prop} {N : Nat} {I : Nat → Nat → Int32} {J : Nat → Nat → Int64} {x2 : Int32} {x3 : Int32} {r : am_rho} {a1 : Nat} (h_a1 : a1 = 3 ∨ a1 = 23) : am_V d Q 84 11 [some (.ref 81), some (.ref a1), some (.int x2), some (.int x3), none, none, none] [] (am_hp N r I J) =
    am_D d 294 [.ref 85, .int (nI 0)] (am_hp N r I J) (fun v h => am_V d Q 84 22 [some (.ref 81), some (.ref a1), some (.int x2), some (.int x3), none, none, none] [] h) :=
  by rcases h_a1 with rfl | rfl <;> exact (am_V_un (fun p => Nat.beq p 11 || Nat.beq p 22 || Nat.beq p 28 || Nat.beq p 45 || Nat.beq p 113) 7).trans rfl
set_option maxRecDepth 100000 in
theorem e_Tries_allArrive_22 {d : Nat} {Q : Value → am_H → Prop} {N : Nat} {I : Nat → Nat → Int32} {J : Nat → Nat → Int64} {x2 : Int32} {x3 : Int32} {r : am_rho} {a1 : Nat} (h_a1 : a1 = 3 ∨ a1 = 23) : am_V d Q 84 22 [some (.ref 81), some (.ref a1), some (.int x2), some (.int x3), none, none, none] [] (am_hp N r I J) =
    am_V d Q 84 28 [some (.ref 81), some (.ref a1), some (.int x2), some (.int x3), some (.int (nI 0)), some (.int (nI 0)), am_oi none] [] (am_hp N r I J) :=
  by rcases h_a1 with rfl | rfl <;> exact (am_V_un (fun p => Nat.beq p 11 || Nat.beq p 22 || Nat.beq p 28 || Nat.beq p 45 || Nat.beq p 113) 6).trans rfl
set_option maxRecDepth 100000 in
theorem e_Tries_allArrive_28 {d : Nat} {Q : Value → am_H → Prop} {N : Nat} {I : Nat → Nat → Int32} {J : Nat → Nat → Int64} {x2 : Int32} {x3 : Int32} {x4 : Int32} {x5 : Int32} {o6 : Option Int32} {r : am_rho} {a1 : Nat} (h_a1 : a1 = 3 ∨ a1 = 23) : am_V d Q 84 28 [some (.ref 81), some (.ref a1), some (.int x2), some (.int x3), some (.int x4), some (.int x5), am_oi o6] [] (am_hp N r I J) =
    am_if (decide (x2 ≤ x5)) (am_D d 26 [.ref 61, .ref 82, .int (nI 11)] (am_hp N r I J) (fun v h => am_V d Q 84 113 [some (.ref 81), some (.ref a1), some (.int x2), some (.int x3), some (.int x4), some (.int x5), am_oi o6] [] h)) (am_D d 83 [.ref a1, .int x3, .int ((x2 - (nI 1)) - x5)] (am_hp N r I J) (fun v h => am_asI v (fun y => am_V d Q 84 45 [some (.ref 81), some (.ref a1), some (.int x2), some (.int x3), some (.int x4), some (.int x5), am_oi o6] [.int y] h))) :=
  by rcases h_a1 with rfl | rfl <;> exact (am_V_un (fun p => Nat.beq p 11 || Nat.beq p 22 || Nat.beq p 28 || Nat.beq p 45 || Nat.beq p 113) 13).trans rfl
set_option maxRecDepth 100000 in
theorem e_Tries_allArrive_45 {d : Nat} {Q : Value → am_H → Prop} {N : Nat} {I : Nat → Nat → Int32} {J : Nat → Nat → Int64} {x2 : Int32} {x3 : Int32} {x4 : Int32} {x5 : Int32} {o6 : Option Int32} {y0 : Int32} {r : am_rho} {a1 : Nat} (h_a1 : a1 = 3 ∨ a1 = 23) : am_V d Q 84 45 [some (.ref 81), some (.ref a1), some (.int x2), some (.int x3), some (.int x4), some (.int x5), am_oi o6] [.int y0] (am_hp N r I J) =
    am_if (decide (y0 = (-nI 1))) (am_g (am_inb x5 4) (am_V d Q 84 28 [some (.ref 81), some (.ref a1), some (.int x2), some (.int x3), some (.int (x4 ||| ((nI 1) <<< ((I 88 x5.toNatClampNeg) &&& nI 31)))), some (.int (x5 + (nI 1))), am_oi (some y0)] [] (am_hp N r I J))) (am_g (am_inb y0 5) (am_g (am_inb (I (a1 + 6) y0.toNatClampNeg) 8) (am_g (am_inb x5 4) (am_g (am_inb (I (a1 + 6) y0.toNatClampNeg) 8) (am_g (am_inb x5 4) (am_V d Q 84 28 [some (.ref 81), some (.ref a1), some (.int x2), some (.int x3), some (.int (x4 ||| ((nI 1) <<< (((am_u I 85 (I (a1 + 6) y0.toNatClampNeg).toNatClampNeg ((I 85 (I (a1 + 6) y0.toNatClampNeg).toNatClampNeg) ||| ((nI 1) <<< ((I 88 x5.toNatClampNeg) &&& nI 31)))) 88 x5.toNatClampNeg) &&& nI 31)))), some (.int (x5 + (nI 1))), am_oi (some y0)] [] (am_hp N r (am_u I 85 (I (a1 + 6) y0.toNatClampNeg).toNatClampNeg ((I 85 (I (a1 + 6) y0.toNatClampNeg).toNatClampNeg) ||| ((nI 1) <<< ((I 88 x5.toNatClampNeg) &&& nI 31)))) J))))))) :=
  by rcases h_a1 with rfl | rfl <;> exact (am_V_un (fun p => Nat.beq p 11 || Nat.beq p 22 || Nat.beq p 28 || Nat.beq p 45 || Nat.beq p 113) 34).trans rfl
set_option maxRecDepth 100000 in
theorem e_Tries_allArrive_113 {d : Nat} {Q : Value → am_H → Prop} {N : Nat} {I : Nat → Nat → Int32} {J : Nat → Nat → Int64} {x2 : Int32} {x3 : Int32} {x4 : Int32} {x5 : Int32} {o6 : Option Int32} {r : am_rho} {a1 : Nat} (h_a1 : a1 = 3 ∨ a1 = 23) : am_V d Q 84 113 [some (.ref 81), some (.ref a1), some (.int x2), some (.int x3), some (.int x4), some (.int x5), am_oi o6] [] (am_hp N r I J) =
    am_if (!(decide ((x4 &&& ((I 82 4) ^^^ (-nI 1))) = (nI 0)))) (Q (.int (nI 0)) (am_hp N r I J)) (Q (.int (nI 1)) (am_hp N r I J)) :=
  by rcases h_a1 with rfl | rfl <;> exact (am_V_un (fun p => Nat.beq p 11 || Nat.beq p 22 || Nat.beq p 28 || Nat.beq p 45 || Nat.beq p 113) 13).trans rfl
set_option maxRecDepth 100000 in
theorem e_Tries_fewestLamps {d : Nat} {Q : Value → am_H → Prop} {N : Nat} {I : Nat → Nat → Int32} {J : Nat → Nat → Int64} {x2 : Int32} {x3 : Int32} {x4 : Int32} {r : am_rho} {a1 : Nat} (h_a1 : a1 = 3 ∨ a1 = 23) : am_D (d + 1) 85 [.ref 81, .ref a1, .int x2, .int x3, .int x4] (am_hp N r I J) Q =
    am_D d 20 [.ref 61, .ref a1, .ref 49] (am_hp N r I J) (fun v h => am_V d Q 85 12 [some (.ref 81), some (.ref a1), some (.int x2), some (.int x3), some (.int x4), none, none, none] [] h) :=
  by rcases h_a1 with rfl | rfl <;> exact (am_D_un rfl (fun p => Nat.beq p 12 || Nat.beq p 19 || Nat.beq p 35 || Nat.beq p 45 || Nat.beq p 51 || Nat.beq p 59 || Nat.beq p 91 || Nat.beq p 118 || Nat.beq p 128) 8).trans rfl
set_option maxRecDepth 100000 in
theorem e_Tries_fewestLamps_12 {d : Nat} {Q : Value → am_H → Prop} {N : Nat} {I : Nat → Nat → Int32} {J : Nat → Nat → Int64} {x2 : Int32} {x3 : Int32} {x4 : Int32} {r : am_rho} {a1 : Nat} (h_a1 : a1 = 3 ∨ a1 = 23) : am_V d Q 85 12 [some (.ref 81), some (.ref a1), some (.int x2), some (.int x3), some (.int x4), none, none, none] [] (am_hp N r I J) =
    am_D d 13 [.ref (a1 + 15)] (am_hp N r I J) (fun v h => am_asI v (fun y => am_V d Q 85 19 [some (.ref 81), some (.ref a1), some (.int x2), some (.int x3), some (.int x4), none, none, none] [.int y] h)) :=
  by rcases h_a1 with rfl | rfl <;> exact (am_V_un (fun p => Nat.beq p 12 || Nat.beq p 19 || Nat.beq p 35 || Nat.beq p 45 || Nat.beq p 51 || Nat.beq p 59 || Nat.beq p 91 || Nat.beq p 118 || Nat.beq p 128) 5).trans rfl
set_option maxRecDepth 100000 in
theorem e_Tries_fewestLamps_19 {d : Nat} {Q : Value → am_H → Prop} {N : Nat} {I : Nat → Nat → Int32} {J : Nat → Nat → Int64} {x2 : Int32} {x3 : Int32} {x4 : Int32} {y0 : Int32} {r : am_rho} {a1 : Nat} (h_a1 : a1 = 3 ∨ a1 = 23) : am_V d Q 85 19 [some (.ref 81), some (.ref a1), some (.int x2), some (.int x3), some (.int x4), none, none, none] [.int y0] (am_hp N r I J) =
    am_if (decide (y0 = (nI 0))) (am_V d Q 85 35 [some (.ref 81), some (.ref a1), some (.int x2), some (.int x3), some (.int x4), some (.int (nI 0)), some (.int (nI 0)), am_oi none] [] (am_hp N r I J)) (am_V d Q 85 35 [some (.ref 81), some (.ref a1), some (.int x2), some (.int x3), some (.int x4), some (.int (I a1 0)), some (.int (nI 0)), am_oi none] [] (am_hp N r I J)) :=
  by rcases h_a1 with rfl | rfl <;> exact (am_V_un (fun p => Nat.beq p 12 || Nat.beq p 19 || Nat.beq p 35 || Nat.beq p 45 || Nat.beq p 51 || Nat.beq p 59 || Nat.beq p 91 || Nat.beq p 118 || Nat.beq p 128) 9).trans rfl
set_option maxRecDepth 100000 in
theorem e_Tries_fewestLamps_35 {d : Nat} {Q : Value → am_H → Prop} {N : Nat} {I : Nat → Nat → Int32} {J : Nat → Nat → Int64} {x2 : Int32} {x3 : Int32} {x4 : Int32} {x5 : Int32} {x6 : Int32} {o7 : Option Int32} {r : am_rho} {a1 : Nat} (h_a1 : a1 = 3 ∨ a1 = 23) : am_V d Q 85 35 [some (.ref 81), some (.ref a1), some (.int x2), some (.int x3), some (.int x4), some (.int x5), some (.int x6), am_oi o7] [] (am_hp N r I J) =
    am_if (decide (x5 < x6)) (Q (.int (-nI 2)) (am_hp N r I J)) (am_V d Q 85 45 [some (.ref 81), some (.ref a1), some (.int x2), some (.int x3), some (.int x4), some (.int x5), some (.int x6), some (.int (nI 0))] [] (am_hp N r I J)) :=
  by rcases h_a1 with rfl | rfl <;> exact (am_V_un (fun p => Nat.beq p 12 || Nat.beq p 19 || Nat.beq p 35 || Nat.beq p 45 || Nat.beq p 51 || Nat.beq p 59 || Nat.beq p 91 || Nat.beq p 118 || Nat.beq p 128) 7).trans rfl
set_option maxRecDepth 100000 in
theorem e_Tries_fewestLamps_45 {d : Nat} {Q : Value → am_H → Prop} {N : Nat} {I : Nat → Nat → Int32} {J : Nat → Nat → Int64} {x2 : Int32} {x3 : Int32} {x4 : Int32} {x5 : Int32} {x6 : Int32} {x7 : Int32} {r : am_rho} {a1 : Nat} (h_a1 : a1 = 3 ∨ a1 = 23) : am_V d Q 85 45 [some (.ref 81), some (.ref a1), some (.int x2), some (.int x3), some (.int x4), some (.int x5), some (.int x6), some (.int x7)] [] (am_hp N r I J) =
    am_D d 76 [.ref a1] (am_hp N r I J) (fun v h => am_asI v (fun y => am_V d Q 85 51 [some (.ref 81), some (.ref a1), some (.int x2), some (.int x3), some (.int x4), some (.int x5), some (.int x6), some (.int x7)] [.int y, .int x7] h)) :=
  by rcases h_a1 with rfl | rfl <;> exact (am_V_un (fun p => Nat.beq p 12 || Nat.beq p 19 || Nat.beq p 35 || Nat.beq p 45 || Nat.beq p 51 || Nat.beq p 59 || Nat.beq p 91 || Nat.beq p 118 || Nat.beq p 128) 5).trans rfl
set_option maxRecDepth 100000 in
theorem e_Tries_fewestLamps_51 {d : Nat} {Q : Value → am_H → Prop} {N : Nat} {I : Nat → Nat → Int32} {J : Nat → Nat → Int64} {x2 : Int32} {x3 : Int32} {x4 : Int32} {x5 : Int32} {x6 : Int32} {x7 : Int32} {y0 : Int32} {y1 : Int32} {r : am_rho} {a1 : Nat} (h_a1 : a1 = 3 ∨ a1 = 23) : am_V d Q 85 51 [some (.ref 81), some (.ref a1), some (.int x2), some (.int x3), some (.int x4), some (.int x5), some (.int x6), some (.int x7)] [.int y1, .int y0] (am_hp N r I J) =
    am_if (decide (y1 < y0)) (am_V d Q 85 35 [some (.ref 81), some (.ref a1), some (.int x2), some (.int x3), some (.int x4), some (.int x5), some (.int (x6 + (nI 1))), am_oi (some x7)] [] (am_hp N r I J)) (am_D d 277 [.int x7] (am_hp N r I J) (fun v h => am_asI v (fun y => am_V d Q 85 59 [some (.ref 81), some (.ref a1), some (.int x2), some (.int x3), some (.int x4), some (.int x5), some (.int x6), some (.int x7)] [.int y] h))) :=
  by rcases h_a1 with rfl | rfl <;> exact (am_V_un (fun p => Nat.beq p 12 || Nat.beq p 19 || Nat.beq p 35 || Nat.beq p 45 || Nat.beq p 51 || Nat.beq p 59 || Nat.beq p 91 || Nat.beq p 118 || Nat.beq p 128) 5).trans rfl
set_option maxRecDepth 100000 in
theorem e_Tries_fewestLamps_59 {d : Nat} {Q : Value → am_H → Prop} {N : Nat} {I : Nat → Nat → Int32} {J : Nat → Nat → Int64} {x2 : Int32} {x3 : Int32} {x4 : Int32} {x5 : Int32} {x6 : Int32} {x7 : Int32} {y0 : Int32} {r : am_rho} {a1 : Nat} (h_a1 : a1 = 3 ∨ a1 = 23) : am_V d Q 85 59 [some (.ref 81), some (.ref a1), some (.int x2), some (.int x3), some (.int x4), some (.int x5), some (.int x6), some (.int x7)] [.int y0] (am_hp N r I J) =
    am_if (!(decide (y0 = x6))) (am_V d Q 85 45 [some (.ref 81), some (.ref a1), some (.int x2), some (.int x3), some (.int x4), some (.int x5), some (.int x6), some (.int (x7 + (nI 1)))] [] (am_hp N r I J)) (am_if (decide ((x7 &&& (I 49 5)) = (nI 0))) (am_D d 101 [.ref 82, .ref 49] (am_hp N r I J) (fun v h => am_V d Q 85 91 [some (.ref 81), some (.ref a1), some (.int x2), some (.int x3), some (.int x4), some (.int x5), some (.int x6), some (.int x7)] [] h)) (am_V d Q 85 45 [some (.ref 81), some (.ref a1), some (.int x2), some (.int x3), some (.int x4), some (.int x5), some (.int x6), some (.int (x7 + (nI 1)))] [] (am_hp N r I J))) :=
  by rcases h_a1 with rfl | rfl <;> exact (am_V_un (fun p => Nat.beq p 12 || Nat.beq p 19 || Nat.beq p 35 || Nat.beq p 45 || Nat.beq p 51 || Nat.beq p 59 || Nat.beq p 91 || Nat.beq p 118 || Nat.beq p 128) 15).trans rfl
set_option maxRecDepth 100000 in
theorem e_Tries_fewestLamps_91 {d : Nat} {Q : Value → am_H → Prop} {N : Nat} {I : Nat → Nat → Int32} {J : Nat → Nat → Int64} {x2 : Int32} {x3 : Int32} {x4 : Int32} {x5 : Int32} {x6 : Int32} {x7 : Int32} {r : am_rho} {a1 : Nat} (h_a1 : a1 = 3 ∨ a1 = 23) : am_V d Q 85 91 [some (.ref 81), some (.ref a1), some (.int x2), some (.int x3), some (.int x4), some (.int x5), some (.int x6), some (.int x7)] [] (am_hp N r I J) =
    am_D d 26 [.ref 61, .ref 82, .int x4] (am_hp N r (am_u I 82 5 ((I 82 5) ||| x7)) J) (fun v h => am_V d Q 85 118 [some (.ref 81), some (.ref a1), some (.int x2), some (.int x3), some (.int x4), some (.int x5), some (.int x6), some (.int x7)] [] h) :=
  by rcases h_a1 with rfl | rfl <;> exact (am_V_un (fun p => Nat.beq p 12 || Nat.beq p 19 || Nat.beq p 35 || Nat.beq p 45 || Nat.beq p 51 || Nat.beq p 59 || Nat.beq p 91 || Nat.beq p 118 || Nat.beq p 128) 15).trans rfl
set_option maxRecDepth 100000 in
theorem e_Tries_fewestLamps_118 {d : Nat} {Q : Value → am_H → Prop} {N : Nat} {I : Nat → Nat → Int32} {J : Nat → Nat → Int64} {x2 : Int32} {x3 : Int32} {x4 : Int32} {x5 : Int32} {x6 : Int32} {x7 : Int32} {r : am_rho} {a1 : Nat} (h_a1 : a1 = 3 ∨ a1 = 23) : am_V d Q 85 118 [some (.ref 81), some (.ref a1), some (.int x2), some (.int x3), some (.int x4), some (.int x5), some (.int x6), some (.int x7)] [] (am_hp N r I J) =
    am_D d 25 [.ref 61, .int x2, .int x4] (am_hp N r I J) (fun v h => am_asI v (fun y => am_V d Q 85 128 [some (.ref 81), some (.ref a1), some (.int x2), some (.int x3), some (.int x4), some (.int x5), some (.int x6), some (.int x7)] [.int y] h)) :=
  by rcases h_a1 with rfl | rfl <;> exact (am_V_un (fun p => Nat.beq p 12 || Nat.beq p 19 || Nat.beq p 35 || Nat.beq p 45 || Nat.beq p 51 || Nat.beq p 59 || Nat.beq p 91 || Nat.beq p 118 || Nat.beq p 128) 7).trans rfl
set_option maxRecDepth 100000 in
theorem e_Tries_fewestLamps_128 {d : Nat} {Q : Value → am_H → Prop} {N : Nat} {I : Nat → Nat → Int32} {J : Nat → Nat → Int64} {x2 : Int32} {x3 : Int32} {x4 : Int32} {x5 : Int32} {x6 : Int32} {x7 : Int32} {y0 : Int32} {r : am_rho} {a1 : Nat} (h_a1 : a1 = 3 ∨ a1 = 23) : am_V d Q 85 128 [some (.ref 81), some (.ref a1), some (.int x2), some (.int x3), some (.int x4), some (.int x5), some (.int x6), some (.int x7)] [.int y0] (am_hp N r I J) =
    am_if (!(decide (y0 = x3))) (am_V d Q 85 45 [some (.ref 81), some (.ref a1), some (.int x2), some (.int x3), some (.int x4), some (.int x5), some (.int x6), some (.int (x7 + (nI 1)))] [] (am_hp N r I J)) (Q (.int x7) (am_hp N r I J)) :=
  by rcases h_a1 with rfl | rfl <;> exact (am_V_un (fun p => Nat.beq p 12 || Nat.beq p 19 || Nat.beq p 35 || Nat.beq p 45 || Nat.beq p 51 || Nat.beq p 59 || Nat.beq p 91 || Nat.beq p 118 || Nat.beq p 128) 6).trans rfl
set_option maxRecDepth 100000 in
theorem e_Tries_nightOfArrival {d : Nat} {Q : Value → am_H → Prop} {N : Nat} {I : Nat → Nat → Int32} {J : Nat → Nat → Int64} {x2 : Int32} {r : am_rho} {a1 : Nat} (h_a1 : a1 = 3 ∨ a1 = 23) : am_D (d + 1) 86 [.ref 81, .ref a1, .int x2] (am_hp N r I J) Q =
    am_D d 20 [.ref 61, .ref a1, .ref 49] (am_hp N r I J) (fun v h => am_V d Q 86 12 [some (.ref 81), some (.ref a1), some (.int x2), none] [] h) :=
  by rcases h_a1 with rfl | rfl <;> exact (am_D_un rfl (fun p => Nat.beq p 12 || Nat.beq p 23 || Nat.beq p 25 || Nat.beq p 44 || Nat.beq p 52 || Nat.beq p 65) 8).trans rfl
set_option maxRecDepth 100000 in
theorem e_Tries_nightOfArrival_12 {d : Nat} {Q : Value → am_H → Prop} {N : Nat} {I : Nat → Nat → Int32} {J : Nat → Nat → Int64} {x2 : Int32} {r : am_rho} {a1 : Nat} (h_a1 : a1 = 3 ∨ a1 = 23) : am_V d Q 86 12 [some (.ref 81), some (.ref a1), some (.int x2), none] [] (am_hp N r I J) =
    am_D d 101 [.ref 82, .ref 49] (am_hp N r I J) (fun v h => am_V d Q 86 23 [some (.ref 81), some (.ref a1), some (.int x2), none] [] h) :=
  by rcases h_a1 with rfl | rfl <;> exact (am_V_un (fun p => Nat.beq p 12 || Nat.beq p 23 || Nat.beq p 25 || Nat.beq p 44 || Nat.beq p 52 || Nat.beq p 65) 7).trans rfl
set_option maxRecDepth 100000 in
theorem e_Tries_nightOfArrival_23 {d : Nat} {Q : Value → am_H → Prop} {N : Nat} {I : Nat → Nat → Int32} {J : Nat → Nat → Int64} {x2 : Int32} {r : am_rho} {a1 : Nat} (h_a1 : a1 = 3 ∨ a1 = 23) : am_V d Q 86 23 [some (.ref 81), some (.ref a1), some (.int x2), none] [] (am_hp N r I J) =
    am_V d Q 86 25 [some (.ref 81), some (.ref a1), some (.int x2), some (.int (nI 1))] [] (am_hp N r I J) :=
  by rcases h_a1 with rfl | rfl <;> exact (am_V_un (fun p => Nat.beq p 12 || Nat.beq p 23 || Nat.beq p 25 || Nat.beq p 44 || Nat.beq p 52 || Nat.beq p 65) 4).trans rfl
set_option maxRecDepth 100000 in
theorem e_Tries_nightOfArrival_25 {d : Nat} {Q : Value → am_H → Prop} {N : Nat} {I : Nat → Nat → Int32} {J : Nat → Nat → Int64} {x2 : Int32} {x3 : Int32} {r : am_rho} {a1 : Nat} (h_a1 : a1 = 3 ∨ a1 = 23) : am_V d Q 86 25 [some (.ref 81), some (.ref a1), some (.int x2), some (.int x3)] [] (am_hp N r I J) =
    am_if (decide (((nI 40) : Int32) < x3)) (Q (.int (-nI 2)) (am_hp N r I J)) (am_D d 26 [.ref 61, .ref 82, .int (nI 11)] (am_hp N r I J) (fun v h => am_V d Q 86 44 [some (.ref 81), some (.ref a1), some (.int x2), some (.int x3)] [] h)) :=
  by rcases h_a1 with rfl | rfl <;> exact (am_V_un (fun p => Nat.beq p 12 || Nat.beq p 23 || Nat.beq p 25 || Nat.beq p 44 || Nat.beq p 52 || Nat.beq p 65) 11).trans rfl
set_option maxRecDepth 100000 in
theorem e_Tries_nightOfArrival_44 {d : Nat} {Q : Value → am_H → Prop} {N : Nat} {I : Nat → Nat → Int32} {J : Nat → Nat → Int64} {x2 : Int32} {x3 : Int32} {r : am_rho} {a1 : Nat} (h_a1 : a1 = 3 ∨ a1 = 23) : am_V d Q 86 44 [some (.ref 81), some (.ref a1), some (.int x2), some (.int x3)] [] (am_hp N r I J) =
    am_D d 102 [.ref 82, .int x2] (am_hp N r I J) (fun v h => am_asI v (fun y => am_V d Q 86 52 [some (.ref 81), some (.ref a1), some (.int x2), some (.int x3)] [.int y] h)) :=
  by rcases h_a1 with rfl | rfl <;> exact (am_V_un (fun p => Nat.beq p 12 || Nat.beq p 23 || Nat.beq p 25 || Nat.beq p 44 || Nat.beq p 52 || Nat.beq p 65) 6).trans rfl
set_option maxRecDepth 100000 in
theorem e_Tries_nightOfArrival_52 {d : Nat} {Q : Value → am_H → Prop} {N : Nat} {I : Nat → Nat → Int32} {J : Nat → Nat → Int64} {x2 : Int32} {x3 : Int32} {y0 : Int32} {r : am_rho} {a1 : Nat} (h_a1 : a1 = 3 ∨ a1 = 23) : am_V d Q 86 52 [some (.ref 81), some (.ref a1), some (.int x2), some (.int x3)] [.int y0] (am_hp N r I J) =
    am_if (decide (y0 = (nI 0))) (am_D d 112 [.ref 82, .ref a1] (am_hp N r I J) (fun v h => am_V d Q 86 65 [some (.ref 81), some (.ref a1), some (.int x2), some (.int x3)] [] h)) (Q (.int x3) (am_hp N r I J)) :=
  by rcases h_a1 with rfl | rfl <;> exact (am_V_un (fun p => Nat.beq p 12 || Nat.beq p 23 || Nat.beq p 25 || Nat.beq p 44 || Nat.beq p 52 || Nat.beq p 65) 7).trans rfl
set_option maxRecDepth 100000 in
theorem e_Tries_nightOfArrival_65 {d : Nat} {Q : Value → am_H → Prop} {N : Nat} {I : Nat → Nat → Int32} {J : Nat → Nat → Int64} {x2 : Int32} {x3 : Int32} {r : am_rho} {a1 : Nat} (h_a1 : a1 = 3 ∨ a1 = 23) : am_V d Q 86 65 [some (.ref 81), some (.ref a1), some (.int x2), some (.int x3)] [] (am_hp N r I J) =
    am_V d Q 86 25 [some (.ref 81), some (.ref a1), some (.int x2), some (.int (x3 + (nI 1)))] [] (am_hp N r I J) :=
  by rcases h_a1 with rfl | rfl <;> exact (am_V_un (fun p => Nat.beq p 12 || Nat.beq p 23 || Nat.beq p 25 || Nat.beq p 44 || Nat.beq p 52 || Nat.beq p 65) 4).trans rfl
set_option maxRecDepth 100000 in
theorem e_Tries_dreams {d : Nat} {Q : Value → am_H → Prop} {N : Nat} {I : Nat → Nat → Int32} {J : Nat → Nat → Int64} {x2 : Int32} {r : am_rho} {a1 : Nat} (h_a1 : a1 = 3 ∨ a1 = 23) : am_D (d + 1) 87 [.ref 81, .ref a1, .int x2] (am_hp N r I J) Q =
    am_D d 294 [.ref 89, .int (nI 0)] (am_hp N r I J) (fun v h => am_V d Q 87 8 [some (.ref 81), some (.ref a1), some (.int x2), none, none, none, none] [] h) :=
  by rcases h_a1 with rfl | rfl <;> exact (am_D_un rfl (fun p => Nat.beq p 8 || Nat.beq p 15 || Nat.beq p 22 || Nat.beq p 39 || Nat.beq p 51 || Nat.beq p 75 || Nat.beq p 88 || Nat.beq p 106 || Nat.beq p 132) 6).trans rfl
set_option maxRecDepth 100000 in
theorem e_Tries_dreams_8 {d : Nat} {Q : Value → am_H → Prop} {N : Nat} {I : Nat → Nat → Int32} {J : Nat → Nat → Int64} {x2 : Int32} {r : am_rho} {a1 : Nat} (h_a1 : a1 = 3 ∨ a1 = 23) : am_V d Q 87 8 [some (.ref 81), some (.ref a1), some (.int x2), none, none, none, none] [] (am_hp N r I J) =
    am_D d 60 [.ref 72] (am_hp N r I J) (fun v h => am_asI v (fun y => am_V d Q 87 15 [some (.ref 81), some (.ref a1), some (.int x2), none, none, none, none] [.int y] h)) :=
  by rcases h_a1 with rfl | rfl <;> exact (am_V_un (fun p => Nat.beq p 8 || Nat.beq p 15 || Nat.beq p 22 || Nat.beq p 39 || Nat.beq p 51 || Nat.beq p 75 || Nat.beq p 88 || Nat.beq p 106 || Nat.beq p 132) 5).trans rfl
set_option maxRecDepth 100000 in
theorem e_Tries_dreams_15 {d : Nat} {Q : Value → am_H → Prop} {N : Nat} {I : Nat → Nat → Int32} {J : Nat → Nat → Int64} {x2 : Int32} {y0 : Int32} {r : am_rho} {a1 : Nat} (h_a1 : a1 = 3 ∨ a1 = 23) : am_V d Q 87 15 [some (.ref 81), some (.ref a1), some (.int x2), none, none, none, none] [.int y0] (am_hp N r I J) =
    am_V d Q 87 22 [some (.ref 81), some (.ref a1), some (.int x2), some (.int y0), some (.int (nI 0)), some (.int (nI 0)), am_oi none] [] (am_hp N r I J) :=
  by rcases h_a1 with rfl | rfl <;> exact (am_V_un (fun p => Nat.beq p 8 || Nat.beq p 15 || Nat.beq p 22 || Nat.beq p 39 || Nat.beq p 51 || Nat.beq p 75 || Nat.beq p 88 || Nat.beq p 106 || Nat.beq p 132) 7).trans rfl
set_option maxRecDepth 100000 in
theorem e_Tries_dreams_22 {d : Nat} {Q : Value → am_H → Prop} {N : Nat} {I : Nat → Nat → Int32} {J : Nat → Nat → Int64} {x2 : Int32} {x3 : Int32} {x4 : Int32} {x5 : Int32} {o6 : Option Int32} {r : am_rho} {a1 : Nat} (h_a1 : a1 = 3 ∨ a1 = 23) : am_V d Q 87 22 [some (.ref 81), some (.ref a1), some (.int x2), some (.int x3), some (.int x4), some (.int x5), am_oi o6] [] (am_hp N r I J) =
    am_if (decide ((I a1 0) ≤ x5)) (Q (.int x4) (am_hp N r I J)) (am_D d 100 [.ref 82, .ref a1] (am_hp N r I J) (fun v h => am_V d Q 87 39 [some (.ref 81), some (.ref a1), some (.int x2), some (.int x3), some (.int x4), some (.int x5), am_oi o6] [] h)) :=
  by rcases h_a1 with rfl | rfl <;> exact (am_V_un (fun p => Nat.beq p 8 || Nat.beq p 15 || Nat.beq p 22 || Nat.beq p 39 || Nat.beq p 51 || Nat.beq p 75 || Nat.beq p 88 || Nat.beq p 106 || Nat.beq p 132) 10).trans rfl
set_option maxRecDepth 100000 in
theorem e_Tries_dreams_39 {d : Nat} {Q : Value → am_H → Prop} {N : Nat} {I : Nat → Nat → Int32} {J : Nat → Nat → Int64} {x2 : Int32} {x3 : Int32} {x4 : Int32} {x5 : Int32} {o6 : Option Int32} {r : am_rho} {a1 : Nat} (h_a1 : a1 = 3 ∨ a1 = 23) : am_V d Q 87 39 [some (.ref 81), some (.ref a1), some (.int x2), some (.int x3), some (.int x4), some (.int x5), am_oi o6] [] (am_hp N r I J) =
    am_D d 20 [.ref 61, .ref a1, .ref 82] (am_hp N r I J) (fun v h => am_V d Q 87 51 [some (.ref 81), some (.ref a1), some (.int x2), some (.int x3), some (.int x4), some (.int x5), am_oi o6] [] h) :=
  by rcases h_a1 with rfl | rfl <;> exact (am_V_un (fun p => Nat.beq p 8 || Nat.beq p 15 || Nat.beq p 22 || Nat.beq p 39 || Nat.beq p 51 || Nat.beq p 75 || Nat.beq p 88 || Nat.beq p 106 || Nat.beq p 132) 8).trans rfl
set_option maxRecDepth 100000 in
theorem e_Tries_dreams_51 {d : Nat} {Q : Value → am_H → Prop} {N : Nat} {I : Nat → Nat → Int32} {J : Nat → Nat → Int64} {x2 : Int32} {x3 : Int32} {x4 : Int32} {x5 : Int32} {o6 : Option Int32} {r : am_rho} {a1 : Nat} (h_a1 : a1 = 3 ∨ a1 = 23) : am_V d Q 87 51 [some (.ref 81), some (.ref a1), some (.int x2), some (.int x3), some (.int x4), some (.int x5), am_oi o6] [] (am_hp N r I J) =
    am_g (am_inb x2 5) (am_D d 26 [.ref 61, .ref 82, .int (nI 11)] (am_hp N r (am_u I 71 x2.toNatClampNeg x5) J) (fun v h => am_V d Q 87 75 [some (.ref 81), some (.ref a1), some (.int x2), some (.int x3), some (.int x4), some (.int x5), am_oi o6] [] h)) :=
  by rcases h_a1 with rfl | rfl <;> exact (am_V_un (fun p => Nat.beq p 8 || Nat.beq p 15 || Nat.beq p 22 || Nat.beq p 39 || Nat.beq p 51 || Nat.beq p 75 || Nat.beq p 88 || Nat.beq p 106 || Nat.beq p 132) 14).trans rfl
set_option maxRecDepth 100000 in
theorem e_Tries_dreams_75 {d : Nat} {Q : Value → am_H → Prop} {N : Nat} {I : Nat → Nat → Int32} {J : Nat → Nat → Int64} {x2 : Int32} {x3 : Int32} {x4 : Int32} {x5 : Int32} {o6 : Option Int32} {r : am_rho} {a1 : Nat} (h_a1 : a1 = 3 ∨ a1 = 23) : am_V d Q 87 75 [some (.ref 81), some (.ref a1), some (.int x2), some (.int x3), some (.int x4), some (.int x5), am_oi o6] [] (am_hp N r I J) =
    am_D d 61 [.ref 72, .ref 61, .int x2, .int x3] (am_hp N r I J) (fun v h => am_asI v (fun y => am_V d Q 87 88 [some (.ref 81), some (.ref a1), some (.int x2), some (.int x3), some (.int x4), some (.int x5), am_oi o6] [.int y] h)) :=
  by rcases h_a1 with rfl | rfl <;> exact (am_V_un (fun p => Nat.beq p 8 || Nat.beq p 15 || Nat.beq p 22 || Nat.beq p 39 || Nat.beq p 51 || Nat.beq p 75 || Nat.beq p 88 || Nat.beq p 106 || Nat.beq p 132) 9).trans rfl
set_option maxRecDepth 100000 in
theorem e_Tries_dreams_88 {d : Nat} {Q : Value → am_H → Prop} {N : Nat} {I : Nat → Nat → Int32} {J : Nat → Nat → Int64} {x2 : Int32} {x3 : Int32} {x4 : Int32} {x5 : Int32} {o6 : Option Int32} {y0 : Int32} {r : am_rho} {a1 : Nat} (h_a1 : a1 = 3 ∨ a1 = 23) : am_V d Q 87 88 [some (.ref 81), some (.ref a1), some (.int x2), some (.int x3), some (.int x4), some (.int x5), am_oi o6] [.int y0] (am_hp N r I J) =
    am_if (!(decide (y0 = (nI 0)))) (am_V d Q 87 106 [some (.ref 81), some (.ref a1), some (.int x2), some (.int x3), some (.int (x4 ||| ((nI 1) <<< (x5 &&& nI 31)))), some (.int x5), some (.int (nI 0))] [] (am_hp N r I J)) (am_V d Q 87 22 [some (.ref 81), some (.ref a1), some (.int x2), some (.int x3), some (.int x4), some (.int (x5 + (nI 1))), am_oi o6] [] (am_hp N r I J)) :=
  by rcases h_a1 with rfl | rfl <;> exact (am_V_un (fun p => Nat.beq p 8 || Nat.beq p 15 || Nat.beq p 22 || Nat.beq p 39 || Nat.beq p 51 || Nat.beq p 75 || Nat.beq p 88 || Nat.beq p 106 || Nat.beq p 132) 11).trans rfl
set_option maxRecDepth 100000 in
theorem e_Tries_dreams_106 {d : Nat} {Q : Value → am_H → Prop} {N : Nat} {I : Nat → Nat → Int32} {J : Nat → Nat → Int64} {x2 : Int32} {x3 : Int32} {x4 : Int32} {x5 : Int32} {x6 : Int32} {r : am_rho} {a1 : Nat} (h_a1 : a1 = 3 ∨ a1 = 23) : am_V d Q 87 106 [some (.ref 81), some (.ref a1), some (.int x2), some (.int x3), some (.int x4), some (.int x5), some (.int x6)] [] (am_hp N r I J) =
    am_if (decide (((nI 12) : Int32) ≤ x6)) (am_V d Q 87 22 [some (.ref 81), some (.ref a1), some (.int x2), some (.int x3), some (.int x4), some (.int (x5 + (nI 1))), am_oi (some x6)] [] (am_hp N r I J)) (am_g (am_inb x6 12) (am_D d 25 [.ref 61, .int x2, .int x6] (am_hp N r I J) (fun v h => am_asI v (fun y => am_V d Q 87 132 [some (.ref 81), some (.ref a1), some (.int x2), some (.int x3), some (.int x4), some (.int x5), some (.int x6)] [.int y, .int (nI 1), .int (I 89 x6.toNatClampNeg), .int x6, .ref 89] h)))) :=
  by rcases h_a1 with rfl | rfl <;> exact (am_V_un (fun p => Nat.beq p 8 || Nat.beq p 15 || Nat.beq p 22 || Nat.beq p 39 || Nat.beq p 51 || Nat.beq p 75 || Nat.beq p 88 || Nat.beq p 106 || Nat.beq p 132) 16).trans rfl
set_option maxRecDepth 100000 in
theorem e_Tries_dreams_132 {d : Nat} {Q : Value → am_H → Prop} {N : Nat} {I : Nat → Nat → Int32} {J : Nat → Nat → Int64} {x2 : Int32} {x3 : Int32} {x4 : Int32} {x5 : Int32} {x6 : Int32} {y1 : Int32} {y2 : Int32} {y3 : Int32} {y4 : Int32} {r : am_rho} {a1 : Nat} (h_a1 : a1 = 3 ∨ a1 = 23) : am_V d Q 87 132 [some (.ref 81), some (.ref a1), some (.int x2), some (.int x3), some (.int x4), some (.int x5), some (.int x6)] [.int y4, .int y3, .int y2, .int y1, .ref 89] (am_hp N r I J) =
    am_g (am_inb y1 12) (am_V d Q 87 106 [some (.ref 81), some (.ref a1), some (.int x2), some (.int x3), some (.int x4), some (.int x5), some (.int (x6 + (nI 1)))] [] (am_hp N r (am_u I 89 y1.toNatClampNeg (y2 ||| (y3 <<< (y4 &&& nI 31)))) J)) :=
  by rcases h_a1 with rfl | rfl <;> exact (am_V_un (fun p => Nat.beq p 8 || Nat.beq p 15 || Nat.beq p 22 || Nat.beq p 39 || Nat.beq p 51 || Nat.beq p 75 || Nat.beq p 88 || Nat.beq p 106 || Nat.beq p 132) 7).trans rfl
set_option maxRecDepth 100000 in
theorem e_Tries_tellingHour {d : Nat} {Q : Value → am_H → Prop} {N : Nat} {I : Nat → Nat → Int32} {J : Nat → Nat → Int64} {r : am_rho} : am_D (d + 1) 88 [.ref 81] (am_hp N r I J) Q =
    am_V d Q 88 4 [some (.ref 81), some (.int (nI 0)), some (.int (nI 1))] [] (am_hp N r I J) :=
  (am_D_un rfl (fun p => Nat.beq p 4 || Nat.beq p 15 || Nat.beq p 20) 6).trans rfl
set_option maxRecDepth 100000 in
theorem e_Tries_tellingHour_4 {d : Nat} {Q : Value → am_H → Prop} {N : Nat} {I : Nat → Nat → Int32} {J : Nat → Nat → Int64} {x1 : Int32} {x2 : Int32} {r : am_rho} : am_V d Q 88 4 [some (.ref 81), some (.int x1), some (.int x2)] [] (am_hp N r I J) =
    am_if (decide (((nI 12) : Int32) ≤ x2)) (Q (.int x1) (am_hp N r I J)) (am_D d 89 [.ref 81, .int x2] (am_hp N r I J) (fun v h => am_asI v (fun y => am_V d Q 88 15 [some (.ref 81), some (.int x1), some (.int x2)] [.int y] h))) :=
  (am_V_un (fun p => Nat.beq p 4 || Nat.beq p 15 || Nat.beq p 20) 8).trans rfl
set_option maxRecDepth 100000 in
theorem e_Tries_tellingHour_15 {d : Nat} {Q : Value → am_H → Prop} {N : Nat} {I : Nat → Nat → Int32} {J : Nat → Nat → Int64} {x1 : Int32} {x2 : Int32} {y0 : Int32} {r : am_rho} : am_V d Q 88 15 [some (.ref 81), some (.int x1), some (.int x2)] [.int y0] (am_hp N r I J) =
    am_D d 89 [.ref 81, .int x1] (am_hp N r I J) (fun v h => am_asI v (fun y => am_V d Q 88 20 [some (.ref 81), some (.int x1), some (.int x2)] [.int y, .int y0] h)) :=
  (am_V_un (fun p => Nat.beq p 4 || Nat.beq p 15 || Nat.beq p 20) 5).trans rfl
set_option maxRecDepth 100000 in
theorem e_Tries_tellingHour_20 {d : Nat} {Q : Value → am_H → Prop} {N : Nat} {I : Nat → Nat → Int32} {J : Nat → Nat → Int64} {x1 : Int32} {x2 : Int32} {y0 : Int32} {y1 : Int32} {r : am_rho} : am_V d Q 88 20 [some (.ref 81), some (.int x1), some (.int x2)] [.int y1, .int y0] (am_hp N r I J) =
    am_if (decide (y0 ≤ y1)) (am_V d Q 88 4 [some (.ref 81), some (.int x1), some (.int (x2 + (nI 1)))] [] (am_hp N r I J)) (am_V d Q 88 4 [some (.ref 81), some (.int x2), some (.int (x2 + (nI 1)))] [] (am_hp N r I J)) :=
  (am_V_un (fun p => Nat.beq p 4 || Nat.beq p 15 || Nat.beq p 20) 7).trans rfl
set_option maxRecDepth 100000 in
theorem e_Tries_unlikeHouses {d : Nat} {Q : Value → am_H → Prop} {N : Nat} {I : Nat → Nat → Int32} {J : Nat → Nat → Int64} {x1 : Int32} {r : am_rho} : am_D (d + 1) 89 [.ref 81, .int x1] (am_hp N r I J) Q =
    am_g (am_inb x1 12) (am_D d 277 [.int (I 89 x1.toNatClampNeg)] (am_hp N r I J) (fun v h => am_asI v (fun y => am_V d Q 89 9 [some (.ref 81), some (.int x1)] [.int y] h))) :=
  (am_D_un rfl (fun p => Nat.beq p 9) 7).trans rfl
set_option maxRecDepth 100000 in
theorem e_Tries_unlikeHouses_9 {d : Nat} {Q : Value → am_H → Prop} {N : Nat} {I : Nat → Nat → Int32} {J : Nat → Nat → Int64} {x1 : Int32} {y0 : Int32} {r : am_rho} : am_V d Q 89 9 [some (.ref 81), some (.int x1)] [.int y0] (am_hp N r I J) =
    Q (.int y0) (am_hp N r I J) :=
  (am_V_un (fun p => Nat.beq p 9) 3).trans rfl
set_option maxRecDepth 100000 in
theorem e_Tries_findRests {d : Nat} {Q : Value → am_H → Prop} {N : Nat} {I : Nat → Nat → Int32} {J : Nat → Nat → Int64} {x2 : Int32} {x3 : Int32} {r : am_rho} {a1 : Nat} (h_a1 : a1 = 3 ∨ a1 = 23) : am_D (d + 1) 90 [.ref 81, .ref a1, .int x2, .int x3] (am_hp N r I J) Q =
    am_D d 91 [.ref 81, .ref a1, .int x2, .int x3] (am_hp N r I J) (fun v h => am_V d Q 90 7 [some (.ref 81), some (.ref a1), some (.int x2), some (.int x3), none, none] [] h) :=
  by rcases h_a1 with rfl | rfl <;> exact (am_D_un rfl (fun p => Nat.beq p 7 || Nat.beq p 15 || Nat.beq p 27 || Nat.beq p 45) 7).trans rfl
set_option maxRecDepth 100000 in
theorem e_Tries_findRests_7 {d : Nat} {Q : Value → am_H → Prop} {N : Nat} {I : Nat → Nat → Int32} {J : Nat → Nat → Int64} {x2 : Int32} {x3 : Int32} {r : am_rho} {a1 : Nat} (h_a1 : a1 = 3 ∨ a1 = 23) : am_V d Q 90 7 [some (.ref 81), some (.ref a1), some (.int x2), some (.int x3), none, none] [] (am_hp N r I J) =
    am_V d Q 90 15 [some (.ref 81), some (.ref a1), some (.int x2), some (.int x3), some (.int (nI 0)), am_oi none] [] (am_hp N r (am_u I 81 9 (nI 0)) J) :=
  by rcases h_a1 with rfl | rfl <;> exact (am_V_un (fun p => Nat.beq p 7 || Nat.beq p 15 || Nat.beq p 27 || Nat.beq p 45) 7).trans rfl
set_option maxRecDepth 100000 in
theorem e_Tries_findRests_15 {d : Nat} {Q : Value → am_H → Prop} {N : Nat} {I : Nat → Nat → Int32} {J : Nat → Nat → Int64} {x2 : Int32} {x3 : Int32} {x4 : Int32} {o5 : Option Int32} {r : am_rho} {a1 : Nat} (h_a1 : a1 = 3 ∨ a1 = 23) : am_V d Q 90 15 [some (.ref 81), some (.ref a1), some (.int x2), some (.int x3), some (.int x4), am_oi o5] [] (am_hp N r I J) =
    am_if (decide ((I a1 0) ≤ x4)) (Q .null (am_hp N r I J)) (am_V d Q 90 27 [some (.ref 81), some (.ref a1), some (.int x2), some (.int x3), some (.int x4), some (.int (nI 0))] [] (am_hp N r I J)) :=
  by rcases h_a1 with rfl | rfl <;> exact (am_V_un (fun p => Nat.beq p 7 || Nat.beq p 15 || Nat.beq p 27 || Nat.beq p 45) 8).trans rfl
set_option maxRecDepth 100000 in
theorem e_Tries_findRests_27 {d : Nat} {Q : Value → am_H → Prop} {N : Nat} {I : Nat → Nat → Int32} {J : Nat → Nat → Int64} {x2 : Int32} {x3 : Int32} {x4 : Int32} {x5 : Int32} {r : am_rho} {a1 : Nat} (h_a1 : a1 = 3 ∨ a1 = 23) : am_V d Q 90 27 [some (.ref 81), some (.ref a1), some (.int x2), some (.int x3), some (.int x4), some (.int x5)] [] (am_hp N r I J) =
    am_if (decide ((I a1 0) ≤ x5)) (am_V d Q 90 15 [some (.ref 81), some (.ref a1), some (.int x2), some (.int x3), some (.int (x4 + (nI 1))), am_oi (some x5)] [] (am_hp N r I J)) (am_D d 93 [.ref 81, .ref a1, .int x4, .int x5] (am_hp N r I J) (fun v h => am_asI v (fun y => am_V d Q 90 45 [some (.ref 81), some (.ref a1), some (.int x2), some (.int x3), some (.int x4), some (.int x5)] [.int y] h))) :=
  by rcases h_a1 with rfl | rfl <;> exact (am_V_un (fun p => Nat.beq p 7 || Nat.beq p 15 || Nat.beq p 27 || Nat.beq p 45) 11).trans rfl
set_option maxRecDepth 100000 in
theorem e_Tries_findRests_45 {d : Nat} {Q : Value → am_H → Prop} {N : Nat} {I : Nat → Nat → Int32} {J : Nat → Nat → Int64} {x2 : Int32} {x3 : Int32} {x4 : Int32} {x5 : Int32} {y0 : Int32} {r : am_rho} {a1 : Nat} (h_a1 : a1 = 3 ∨ a1 = 23) : am_V d Q 90 45 [some (.ref 81), some (.ref a1), some (.int x2), some (.int x3), some (.int x4), some (.int x5)] [.int y0] (am_hp N r I J) =
    am_if (decide (y0 = (nI 0))) (am_V d Q 90 27 [some (.ref 81), some (.ref a1), some (.int x2), some (.int x3), some (.int x4), some (.int (x5 + (nI 1)))] [] (am_hp N r I J)) (am_if (decide (((nI 64) : Int32) ≤ (I 81 9))) (am_V d Q 90 27 [some (.ref 81), some (.ref a1), some (.int x2), some (.int x3), some (.int x4), some (.int (x5 + (nI 1)))] [] (am_hp N r I J)) (am_g (am_inb (I 81 9) 64) (am_V d Q 90 27 [some (.ref 81), some (.ref a1), some (.int x2), some (.int x3), some (.int x4), some (.int (x5 + (nI 1)))] [] (am_hp N r (am_u (am_u I 92 (I 81 9).toNatClampNeg (((nI 10) * x4) + x5)) 81 9 (((am_u I 92 (I 81 9).toNatClampNeg (((nI 10) * x4) + x5)) 81 9) + (nI 1))) J)))) :=
  by rcases h_a1 with rfl | rfl <;> exact (am_V_un (fun p => Nat.beq p 7 || Nat.beq p 15 || Nat.beq p 27 || Nat.beq p 45) 27).trans rfl
set_option maxRecDepth 100000 in
theorem e_Tries_sing {d : Nat} {Q : Value → am_H → Prop} {N : Nat} {I : Nat → Nat → Int32} {J : Nat → Nat → Int64} {x2 : Int32} {x3 : Int32} {r : am_rho} {a1 : Nat} (h_a1 : a1 = 3 ∨ a1 = 23) : am_D (d + 1) 91 [.ref 81, .ref a1, .int x2, .int x3] (am_hp N r I J) Q =
    am_D d 20 [.ref 61, .ref a1, .ref 49] (am_hp N r I J) (fun v h => am_V d Q 91 12 [some (.ref 81), some (.ref a1), some (.int x2), some (.int x3), none, none, none] [] h) :=
  by rcases h_a1 with rfl | rfl <;> exact (am_D_un rfl (fun p => Nat.beq p 12 || Nat.beq p 15 || Nat.beq p 27 || Nat.beq p 75 || Nat.beq p 88 || Nat.beq p 149 || Nat.beq p 172) 8).trans rfl
set_option maxRecDepth 100000 in
theorem e_Tries_sing_12 {d : Nat} {Q : Value → am_H → Prop} {N : Nat} {I : Nat → Nat → Int32} {J : Nat → Nat → Int64} {x2 : Int32} {x3 : Int32} {r : am_rho} {a1 : Nat} (h_a1 : a1 = 3 ∨ a1 = 23) : am_V d Q 91 12 [some (.ref 81), some (.ref a1), some (.int x2), some (.int x3), none, none, none] [] (am_hp N r I J) =
    am_V d Q 91 15 [some (.ref 81), some (.ref a1), some (.int x2), some (.int x3), some (.int (nI 0)), am_oi none, am_oi none] [] (am_hp N r I J) :=
  by rcases h_a1 with rfl | rfl <;> exact (am_V_un (fun p => Nat.beq p 12 || Nat.beq p 15 || Nat.beq p 27 || Nat.beq p 75 || Nat.beq p 88 || Nat.beq p 149 || Nat.beq p 172) 4).trans rfl
set_option maxRecDepth 100000 in
theorem e_Tries_sing_15 {d : Nat} {Q : Value → am_H → Prop} {N : Nat} {I : Nat → Nat → Int32} {J : Nat → Nat → Int64} {x2 : Int32} {x3 : Int32} {x4 : Int32} {o5 : Option Int32} {o6 : Option Int32} {r : am_rho} {a1 : Nat} (h_a1 : a1 = 3 ∨ a1 = 23) : am_V d Q 91 15 [some (.ref 81), some (.ref a1), some (.int x2), some (.int x3), some (.int x4), am_oi o5, am_oi o6] [] (am_hp N r I J) =
    am_if (decide ((I a1 0) ≤ x4)) (Q .null (am_hp N r I J)) (am_V d Q 91 27 [some (.ref 81), some (.ref a1), some (.int x2), some (.int x3), some (.int x4), some (.int (nI 0)), am_oi o6] [] (am_hp N r I J)) :=
  by rcases h_a1 with rfl | rfl <;> exact (am_V_un (fun p => Nat.beq p 12 || Nat.beq p 15 || Nat.beq p 27 || Nat.beq p 75 || Nat.beq p 88 || Nat.beq p 149 || Nat.beq p 172) 8).trans rfl
set_option maxRecDepth 100000 in
theorem e_Tries_sing_27 {d : Nat} {Q : Value → am_H → Prop} {N : Nat} {I : Nat → Nat → Int32} {J : Nat → Nat → Int64} {x2 : Int32} {x3 : Int32} {x4 : Int32} {x5 : Int32} {o6 : Option Int32} {r : am_rho} {a1 : Nat} (h_a1 : a1 = 3 ∨ a1 = 23) : am_V d Q 91 27 [some (.ref 81), some (.ref a1), some (.int x2), some (.int x3), some (.int x4), some (.int x5), am_oi o6] [] (am_hp N r I J) =
    am_if (decide ((I a1 0) ≤ x5)) (am_V d Q 91 15 [some (.ref 81), some (.ref a1), some (.int x2), some (.int x3), some (.int (x4 + (nI 1))), am_oi (some x5), am_oi o6] [] (am_hp N r I J)) (am_g (am_inb x4 8) (am_g (am_inb x4 8) (am_g (am_inb x5 8) (am_g (am_inb x5 8) (am_D d 101 [.ref 82, .ref 49] (am_hp N r (am_u (am_u I 69 x4.toNatClampNeg ((I 69 x4.toNatClampNeg) + x2)) 69 x5.toNatClampNeg (((am_u I 69 x4.toNatClampNeg ((I 69 x4.toNatClampNeg) + x2)) 69 x5.toNatClampNeg) + x3)) J) (fun v h => am_V d Q 91 75 [some (.ref 81), some (.ref a1), some (.int x2), some (.int x3), some (.int x4), some (.int x5), am_oi o6] [] h)))))) :=
  by rcases h_a1 with rfl | rfl <;> exact (am_V_un (fun p => Nat.beq p 12 || Nat.beq p 15 || Nat.beq p 27 || Nat.beq p 75 || Nat.beq p 88 || Nat.beq p 149 || Nat.beq p 172) 29).trans rfl
set_option maxRecDepth 100000 in
theorem e_Tries_sing_75 {d : Nat} {Q : Value → am_H → Prop} {N : Nat} {I : Nat → Nat → Int32} {J : Nat → Nat → Int64} {x2 : Int32} {x3 : Int32} {x4 : Int32} {x5 : Int32} {o6 : Option Int32} {r : am_rho} {a1 : Nat} (h_a1 : a1 = 3 ∨ a1 = 23) : am_V d Q 91 75 [some (.ref 81), some (.ref a1), some (.int x2), some (.int x3), some (.int x4), some (.int x5), am_oi o6] [] (am_hp N r I J) =
    am_D d 26 [.ref 61, .ref 82, .int (nI 11)] (am_hp N r I J) (fun v h => am_V d Q 91 88 [some (.ref 81), some (.ref a1), some (.int x2), some (.int x3), some (.int x4), some (.int x5), am_oi o6] [] h) :=
  by rcases h_a1 with rfl | rfl <;> exact (am_V_un (fun p => Nat.beq p 12 || Nat.beq p 15 || Nat.beq p 27 || Nat.beq p 75 || Nat.beq p 88 || Nat.beq p 149 || Nat.beq p 172) 8).trans rfl
set_option maxRecDepth 100000 in
theorem e_Tries_sing_88 {d : Nat} {Q : Value → am_H → Prop} {N : Nat} {I : Nat → Nat → Int32} {J : Nat → Nat → Int64} {x2 : Int32} {x3 : Int32} {x4 : Int32} {x5 : Int32} {o6 : Option Int32} {r : am_rho} {a1 : Nat} (h_a1 : a1 = 3 ∨ a1 = 23) : am_V d Q 91 88 [some (.ref 81), some (.ref a1), some (.int x2), some (.int x3), some (.int x4), some (.int x5), am_oi o6] [] (am_hp N r I J) =
    am_g (am_inb x4 8) (am_g (am_inb x4 8) (am_g (am_inb x5 8) (am_g (am_inb x5 8) (am_if (!(decide (x4 = x5))) (am_D d 92 [.ref 81, .ref a1, .int x4] (am_hp N r (am_u (am_u I 69 x4.toNatClampNeg ((I 69 x4.toNatClampNeg) - x2)) 69 x5.toNatClampNeg (((am_u I 69 x4.toNatClampNeg ((I 69 x4.toNatClampNeg) - x2)) 69 x5.toNatClampNeg) - x3)) J) (fun v h => am_asI v (fun y => am_V d Q 91 149 [some (.ref 81), some (.ref a1), some (.int x2), some (.int x3), some (.int x4), some (.int x5), some (.int (nI 1))] [.int y, .int ((x4 * (nI 8)) + x5), .ref 90] h))) (am_D d 92 [.ref 81, .ref a1, .int x4] (am_hp N r (am_u (am_u I 69 x4.toNatClampNeg ((I 69 x4.toNatClampNeg) - x2)) 69 x5.toNatClampNeg (((am_u I 69 x4.toNatClampNeg ((I 69 x4.toNatClampNeg) - x2)) 69 x5.toNatClampNeg) - x3)) J) (fun v h => am_asI v (fun y => am_V d Q 91 149 [some (.ref 81), some (.ref a1), some (.int x2), some (.int x3), some (.int x4), some (.int x5), some (.int (nI 2))] [.int y, .int ((x4 * (nI 8)) + x5), .ref 90] h))))))) :=
  by rcases h_a1 with rfl | rfl <;> exact (am_V_un (fun p => Nat.beq p 12 || Nat.beq p 15 || Nat.beq p 27 || Nat.beq p 75 || Nat.beq p 88 || Nat.beq p 149 || Nat.beq p 172) 37).trans rfl
set_option maxRecDepth 100000 in
theorem e_Tries_sing_149 {d : Nat} {Q : Value → am_H → Prop} {N : Nat} {I : Nat → Nat → Int32} {J : Nat → Nat → Int64} {x2 : Int32} {x3 : Int32} {x4 : Int32} {x5 : Int32} {x6 : Int32} {y1 : Int32} {y2 : Int32} {r : am_rho} {a1 : Nat} (h_a1 : a1 = 3 ∨ a1 = 23) : am_V d Q 91 149 [some (.ref 81), some (.ref a1), some (.int x2), some (.int x3), some (.int x4), some (.int x5), some (.int x6)] [.int y2, .int y1, .ref 90] (am_hp N r I J) =
    am_g (!(decide (x6 = nI 0))) (am_g (am_inb y1 64) (am_D d 92 [.ref 81, .ref a1, .int x5] (am_hp N r (am_u I 90 y1.toNatClampNeg (y2 / x6)) J) (fun v h => am_asI v (fun y => am_V d Q 91 172 [some (.ref 81), some (.ref a1), some (.int x2), some (.int x3), some (.int x4), some (.int x5), some (.int x6)] [.int y, .int ((x4 * (nI 8)) + x5), .ref 91] h)))) :=
  by rcases h_a1 with rfl | rfl <;> exact (am_V_un (fun p => Nat.beq p 12 || Nat.beq p 15 || Nat.beq p 27 || Nat.beq p 75 || Nat.beq p 88 || Nat.beq p 149 || Nat.beq p 172) 16).trans rfl
set_option maxRecDepth 100000 in
theorem e_Tries_sing_172 {d : Nat} {Q : Value → am_H → Prop} {N : Nat} {I : Nat → Nat → Int32} {J : Nat → Nat → Int64} {x2 : Int32} {x3 : Int32} {x4 : Int32} {x5 : Int32} {x6 : Int32} {y1 : Int32} {y2 : Int32} {r : am_rho} {a1 : Nat} (h_a1 : a1 = 3 ∨ a1 = 23) : am_V d Q 91 172 [some (.ref 81), some (.ref a1), some (.int x2), some (.int x3), some (.int x4), some (.int x5), some (.int x6)] [.int y2, .int y1, .ref 91] (am_hp N r I J) =
    am_g (!(decide (x6 = nI 0))) (am_g (am_inb y1 64) (am_V d Q 91 27 [some (.ref 81), some (.ref a1), some (.int x2), some (.int x3), some (.int x4), some (.int (x5 + (nI 1))), am_oi (some x6)] [] (am_hp N r (am_u I 91 y1.toNatClampNeg (y2 / x6)) J))) :=
  by rcases h_a1 with rfl | rfl <;> exact (am_V_un (fun p => Nat.beq p 12 || Nat.beq p 15 || Nat.beq p 27 || Nat.beq p 75 || Nat.beq p 88 || Nat.beq p 149 || Nat.beq p 172) 7).trans rfl
set_option maxRecDepth 100000 in
theorem e_Tries_listeners {d : Nat} {Q : Value → am_H → Prop} {N : Nat} {I : Nat → Nat → Int32} {J : Nat → Nat → Int64} {x2 : Int32} {r : am_rho} {a1 : Nat} (h_a1 : a1 = 3 ∨ a1 = 23) : am_D (d + 1) 92 [.ref 81, .ref a1, .int x2] (am_hp N r I J) Q =
    am_V d Q 92 5 [some (.ref 81), some (.ref a1), some (.int x2), some (.int (nI 0)), some (.int (nI 0))] [] (am_hp N r I J) :=
  by rcases h_a1 with rfl | rfl <;> exact (am_D_un rfl (fun p => Nat.beq p 5) 6).trans rfl
set_option maxRecDepth 100000 in
theorem e_Tries_listeners_5 {d : Nat} {Q : Value → am_H → Prop} {N : Nat} {I : Nat → Nat → Int32} {J : Nat → Nat → Int64} {x2 : Int32} {x3 : Int32} {x4 : Int32} {r : am_rho} {a1 : Nat} (h_a1 : a1 = 3 ∨ a1 = 23) : am_V d Q 92 5 [some (.ref 81), some (.ref a1), some (.int x2), some (.int x3), some (.int x4)] [] (am_hp N r I J) =
    am_if (decide ((I a1 2) ≤ x4)) (Q (.int x3) (am_hp N r I J)) (am_g (am_inb x4 5) (am_if (!(decide ((I 83 x4.toNatClampNeg) = x2))) (am_V d Q 92 5 [some (.ref 81), some (.ref a1), some (.int x2), some (.int (x3 + (nI 0))), some (.int (x4 + (nI 1)))] [] (am_hp N r I J)) (am_V d Q 92 5 [some (.ref 81), some (.ref a1), some (.int x2), some (.int (x3 + (nI 1))), some (.int (x4 + (nI 1)))] [] (am_hp N r I J)))) :=
  by rcases h_a1 with rfl | rfl <;> exact (am_V_un (fun p => Nat.beq p 5) 20).trans rfl
set_option maxRecDepth 100000 in
theorem e_Tries_isRest {d : Nat} {Q : Value → am_H → Prop} {N : Nat} {I : Nat → Nat → Int32} {J : Nat → Nat → Int64} {x2 : Int32} {x3 : Int32} {r : am_rho} {a1 : Nat} (h_a1 : a1 = 3 ∨ a1 = 23) : am_D (d + 1) 93 [.ref 81, .ref a1, .int x2, .int x3] (am_hp N r I J) Q =
    am_V d Q 93 11 [some (.ref 81), some (.ref a1), some (.int x2), some (.int x3), some (.int ((x2 * (nI 8)) + x3)), some (.int (nI 0))] [] (am_hp N r I J) :=
  by rcases h_a1 with rfl | rfl <;> exact (am_D_un rfl (fun p => Nat.beq p 11) 10).trans rfl
set_option maxRecDepth 100000 in
theorem e_Tries_isRest_11 {d : Nat} {Q : Value → am_H → Prop} {N : Nat} {I : Nat → Nat → Int32} {J : Nat → Nat → Int64} {x2 : Int32} {x3 : Int32} {x4 : Int32} {x5 : Int32} {r : am_rho} {a1 : Nat} (h_a1 : a1 = 3 ∨ a1 = 23) : am_V d Q 93 11 [some (.ref 81), some (.ref a1), some (.int x2), some (.int x3), some (.int x4), some (.int x5)] [] (am_hp N r I J) =
    am_if (decide ((I a1 0) ≤ x5)) (Q (.int (nI 1)) (am_hp N r I J)) (am_g (am_inb ((x5 * (nI 8)) + x3) 64) (am_g (am_inb x4 64) (am_if (decide ((I 90 x4.toNatClampNeg) < (I 90 ((x5 * (nI 8)) + x3).toNatClampNeg))) (Q (.int (nI 0)) (am_hp N r I J)) (am_g (am_inb ((x2 * (nI 8)) + x5) 64) (am_g (am_inb x4 64) (am_if (decide ((I 91 ((x2 * (nI 8)) + x5).toNatClampNeg) ≤ (I 91 x4.toNatClampNeg))) (am_V d Q 93 11 [some (.ref 81), some (.ref a1), some (.int x2), some (.int x3), some (.int x4), some (.int (x5 + (nI 1)))] [] (am_hp N r I J)) (Q (.int (nI 0)) (am_hp N r I J)))))))) :=
  by rcases h_a1 with rfl | rfl <;> exact (am_V_un (fun p => Nat.beq p 11) 34).trans rfl
set_option maxRecDepth 100000 in
theorem e_Tries_arrivals {d : Nat} {Q : Value → am_H → Prop} {N : Nat} {I : Nat → Nat → Int32} {J : Nat → Nat → Int64} {x2 : Int32} {r : am_rho} {a1 : Nat} (h_a1 : a1 = 3 ∨ a1 = 23) : am_D (d + 1) 94 [.ref 81, .ref a1, .int x2] (am_hp N r I J) Q =
    am_D d 20 [.ref 61, .ref a1, .ref 49] (am_hp N r I J) (fun v h => am_V d Q 94 12 [some (.ref 81), some (.ref a1), some (.int x2)] [] h) :=
  by rcases h_a1 with rfl | rfl <;> exact (am_D_un rfl (fun p => Nat.beq p 12 || Nat.beq p 31 || Nat.beq p 44 || Nat.beq p 54) 8).trans rfl
set_option maxRecDepth 100000 in
theorem e_Tries_arrivals_12 {d : Nat} {Q : Value → am_H → Prop} {N : Nat} {I : Nat → Nat → Int32} {J : Nat → Nat → Int64} {x2 : Int32} {r : am_rho} {a1 : Nat} (h_a1 : a1 = 3 ∨ a1 = 23) : am_V d Q 94 12 [some (.ref 81), some (.ref a1), some (.int x2)] [] (am_hp N r I J) =
    am_D d 101 [.ref 82, .ref 49] (am_hp N r (am_u I 61 10 x2) J) (fun v h => am_V d Q 94 31 [some (.ref 81), some (.ref a1), some (.int x2)] [] h) :=
  by rcases h_a1 with rfl | rfl <;> exact (am_V_un (fun p => Nat.beq p 12 || Nat.beq p 31 || Nat.beq p 44 || Nat.beq p 54) 11).trans rfl
set_option maxRecDepth 100000 in
theorem e_Tries_arrivals_31 {d : Nat} {Q : Value → am_H → Prop} {N : Nat} {I : Nat → Nat → Int32} {J : Nat → Nat → Int64} {x2 : Int32} {r : am_rho} {a1 : Nat} (h_a1 : a1 = 3 ∨ a1 = 23) : am_V d Q 94 31 [some (.ref 81), some (.ref a1), some (.int x2)] [] (am_hp N r I J) =
    am_D d 26 [.ref 61, .ref 82, .int (nI 11)] (am_hp N r I J) (fun v h => am_V d Q 94 44 [some (.ref 81), some (.ref a1), some (.int x2)] [] h) :=
  by rcases h_a1 with rfl | rfl <;> exact (am_V_un (fun p => Nat.beq p 12 || Nat.beq p 31 || Nat.beq p 44 || Nat.beq p 54) 8).trans rfl
set_option maxRecDepth 100000 in
theorem e_Tries_arrivals_44 {d : Nat} {Q : Value → am_H → Prop} {N : Nat} {I : Nat → Nat → Int32} {J : Nat → Nat → Int64} {x2 : Int32} {r : am_rho} {a1 : Nat} (h_a1 : a1 = 3 ∨ a1 = 23) : am_V d Q 94 44 [some (.ref 81), some (.ref a1), some (.int x2)] [] (am_hp N r I J) =
    am_D d 277 [.int (I 82 4)] (am_hp N r I J) (fun v h => am_asI v (fun y => am_V d Q 94 54 [some (.ref 81), some (.ref a1), some (.int x2)] [.int y] h)) :=
  by rcases h_a1 with rfl | rfl <;> exact (am_V_un (fun p => Nat.beq p 12 || Nat.beq p 31 || Nat.beq p 44 || Nat.beq p 54) 6).trans rfl
set_option maxRecDepth 100000 in
theorem e_Tries_arrivals_54 {d : Nat} {Q : Value → am_H → Prop} {N : Nat} {I : Nat → Nat → Int32} {J : Nat → Nat → Int64} {x2 : Int32} {y0 : Int32} {r : am_rho} {a1 : Nat} (h_a1 : a1 = 3 ∨ a1 = 23) : am_V d Q 94 54 [some (.ref 81), some (.ref a1), some (.int x2)] [.int y0] (am_hp N r I J) =
    Q (.int y0) (am_hp N r I J) :=
  by rcases h_a1 with rfl | rfl <;> exact (am_V_un (fun p => Nat.beq p 12 || Nat.beq p 31 || Nat.beq p 44 || Nat.beq p 54) 3).trans rfl
set_option maxRecDepth 100000 in
theorem e_Tries_fewestWalkers {d : Nat} {Q : Value → am_H → Prop} {N : Nat} {I : Nat → Nat → Int32} {J : Nat → Nat → Int64} {r : am_rho} {a1 : Nat} (h_a1 : a1 = 3 ∨ a1 = 23) : am_D (d + 1) 95 [.ref 81, .ref a1] (am_hp N r I J) Q =
    am_D d 77 [.ref a1] (am_hp N r I J) (fun v h => am_asI v (fun y => am_V d Q 95 4 [some (.ref 81), some (.ref a1), none, none, none, none] [.int y] h)) :=
  by rcases h_a1 with rfl | rfl <;> exact (am_D_un rfl (fun p => Nat.beq p 4 || Nat.beq p 11 || Nat.beq p 15 || Nat.beq p 27 || Nat.beq p 38 || Nat.beq p 50) 4).trans rfl
set_option maxRecDepth 100000 in
theorem e_Tries_fewestWalkers_4 {d : Nat} {Q : Value → am_H → Prop} {N : Nat} {I : Nat → Nat → Int32} {J : Nat → Nat → Int64} {y0 : Int32} {r : am_rho} {a1 : Nat} (h_a1 : a1 = 3 ∨ a1 = 23) : am_V d Q 95 4 [some (.ref 81), some (.ref a1), none, none, none, none] [.int y0] (am_hp N r I J) =
    am_D d 94 [.ref 81, .ref a1, .int y0] (am_hp N r I J) (fun v h => am_asI v (fun y => am_V d Q 95 11 [some (.ref 81), some (.ref a1), some (.int y0), none, none, none] [.int y] h)) :=
  by rcases h_a1 with rfl | rfl <;> exact (am_V_un (fun p => Nat.beq p 4 || Nat.beq p 11 || Nat.beq p 15 || Nat.beq p 27 || Nat.beq p 38 || Nat.beq p 50) 7).trans rfl
set_option maxRecDepth 100000 in
theorem e_Tries_fewestWalkers_11 {d : Nat} {Q : Value → am_H → Prop} {N : Nat} {I : Nat → Nat → Int32} {J : Nat → Nat → Int64} {x2 : Int32} {y0 : Int32} {r : am_rho} {a1 : Nat} (h_a1 : a1 = 3 ∨ a1 = 23) : am_V d Q 95 11 [some (.ref 81), some (.ref a1), some (.int x2), none, none, none] [.int y0] (am_hp N r I J) =
    am_V d Q 95 15 [some (.ref 81), some (.ref a1), some (.int x2), some (.int y0), some (.int (nI 0)), am_oi none] [] (am_hp N r I J) :=
  by rcases h_a1 with rfl | rfl <;> exact (am_V_un (fun p => Nat.beq p 4 || Nat.beq p 11 || Nat.beq p 15 || Nat.beq p 27 || Nat.beq p 38 || Nat.beq p 50) 5).trans rfl
set_option maxRecDepth 100000 in
theorem e_Tries_fewestWalkers_15 {d : Nat} {Q : Value → am_H → Prop} {N : Nat} {I : Nat → Nat → Int32} {J : Nat → Nat → Int64} {x2 : Int32} {x3 : Int32} {x4 : Int32} {o5 : Option Int32} {r : am_rho} {a1 : Nat} (h_a1 : a1 = 3 ∨ a1 = 23) : am_V d Q 95 15 [some (.ref 81), some (.ref a1), some (.int x2), some (.int x3), some (.int x4), am_oi o5] [] (am_hp N r I J) =
    am_if (decide ((I a1 2) ≤ x4)) (Q (.int x2) (am_hp N r I J)) (am_V d Q 95 27 [some (.ref 81), some (.ref a1), some (.int x2), some (.int x3), some (.int x4), some (.int (nI 0))] [] (am_hp N r I J)) :=
  by rcases h_a1 with rfl | rfl <;> exact (am_V_un (fun p => Nat.beq p 4 || Nat.beq p 11 || Nat.beq p 15 || Nat.beq p 27 || Nat.beq p 38 || Nat.beq p 50) 8).trans rfl
set_option maxRecDepth 100000 in
theorem e_Tries_fewestWalkers_27 {d : Nat} {Q : Value → am_H → Prop} {N : Nat} {I : Nat → Nat → Int32} {J : Nat → Nat → Int64} {x2 : Int32} {x3 : Int32} {x4 : Int32} {x5 : Int32} {r : am_rho} {a1 : Nat} (h_a1 : a1 = 3 ∨ a1 = 23) : am_V d Q 95 27 [some (.ref 81), some (.ref a1), some (.int x2), some (.int x3), some (.int x4), some (.int x5)] [] (am_hp N r I J) =
    am_if (decide (x2 ≤ x5)) (am_V d Q 95 15 [some (.ref 81), some (.ref a1), some (.int x2), some (.int x3), some (.int (x4 + (nI 1))), am_oi (some x5)] [] (am_hp N r I J)) (am_D d 277 [.int x5] (am_hp N r I J) (fun v h => am_asI v (fun y => am_V d Q 95 38 [some (.ref 81), some (.ref a1), some (.int x2), some (.int x3), some (.int x4), some (.int x5)] [.int y] h))) :=
  by rcases h_a1 with rfl | rfl <;> exact (am_V_un (fun p => Nat.beq p 4 || Nat.beq p 11 || Nat.beq p 15 || Nat.beq p 27 || Nat.beq p 38 || Nat.beq p 50) 7).trans rfl
set_option maxRecDepth 100000 in
theorem e_Tries_fewestWalkers_38 {d : Nat} {Q : Value → am_H → Prop} {N : Nat} {I : Nat → Nat → Int32} {J : Nat → Nat → Int64} {x2 : Int32} {x3 : Int32} {x4 : Int32} {x5 : Int32} {y0 : Int32} {r : am_rho} {a1 : Nat} (h_a1 : a1 = 3 ∨ a1 = 23) : am_V d Q 95 38 [some (.ref 81), some (.ref a1), some (.int x2), some (.int x3), some (.int x4), some (.int x5)] [.int y0] (am_hp N r I J) =
    am_if (!(decide (y0 = x4))) (am_V d Q 95 27 [some (.ref 81), some (.ref a1), some (.int x2), some (.int x3), some (.int x4), some (.int (x5 + (nI 1)))] [] (am_hp N r I J)) (am_D d 94 [.ref 81, .ref a1, .int x5] (am_hp N r I J) (fun v h => am_asI v (fun y => am_V d Q 95 50 [some (.ref 81), some (.ref a1), some (.int x2), some (.int x3), some (.int x4), some (.int x5)] [.int y] h))) :=
  by rcases h_a1 with rfl | rfl <;> exact (am_V_un (fun p => Nat.beq p 4 || Nat.beq p 11 || Nat.beq p 15 || Nat.beq p 27 || Nat.beq p 38 || Nat.beq p 50) 8).trans rfl
set_option maxRecDepth 100000 in
theorem e_Tries_fewestWalkers_50 {d : Nat} {Q : Value → am_H → Prop} {N : Nat} {I : Nat → Nat → Int32} {J : Nat → Nat → Int64} {x2 : Int32} {x3 : Int32} {x4 : Int32} {x5 : Int32} {y0 : Int32} {r : am_rho} {a1 : Nat} (h_a1 : a1 = 3 ∨ a1 = 23) : am_V d Q 95 50 [some (.ref 81), some (.ref a1), some (.int x2), some (.int x3), some (.int x4), some (.int x5)] [.int y0] (am_hp N r I J) =
    am_if (decide (y0 < x3)) (am_V d Q 95 27 [some (.ref 81), some (.ref a1), some (.int x2), some (.int x3), some (.int x4), some (.int (x5 + (nI 1)))] [] (am_hp N r I J)) (Q (.int x5) (am_hp N r I J)) :=
  by rcases h_a1 with rfl | rfl <;> exact (am_V_un (fun p => Nat.beq p 4 || Nat.beq p 11 || Nat.beq p 15 || Nat.beq p 27 || Nat.beq p 38 || Nat.beq p 50) 6).trans rfl
set_option maxRecDepth 100000 in
theorem e_Tries_luckyTimes {d : Nat} {Q : Value → am_H → Prop} {N : Nat} {I : Nat → Nat → Int32} {J : Nat → Nat → Int64} {x2 : Int32} {x3 : Int32} {x4 : Int32} {r : am_rho} {a1 : Nat} (h_a1 : a1 = 3 ∨ a1 = 23) : am_D (d + 1) 96 [.ref 81, .ref a1, .int x2, .int x3, .int x4] (am_hp N r I J) Q =
    am_V d Q 96 14 [some (.ref 81), some (.ref a1), some (.int x2), some (.int x3), some (.int x4), some (.int (nI 0)), some (.int (nI 0)), am_oi none, am_oi none] [] (am_hp N r (am_u I 82 2 x2) J) :=
  by rcases h_a1 with rfl | rfl <;> exact (am_D_un rfl (fun p => Nat.beq p 14 || Nat.beq p 41 || Nat.beq p 53 || Nat.beq p 65 || Nat.beq p 78 || Nat.beq p 86 || Nat.beq p 102) 10).trans rfl
set_option maxRecDepth 100000 in
theorem e_Tries_luckyTimes_14 {d : Nat} {Q : Value → am_H → Prop} {N : Nat} {I : Nat → Nat → Int32} {J : Nat → Nat → Int64} {x2 : Int32} {x3 : Int32} {x4 : Int32} {x5 : Int32} {x6 : Int32} {o7 : Option Int32} {o8 : Option Int32} {r : am_rho} {a1 : Nat} (h_a1 : a1 = 3 ∨ a1 = 23) : am_V d Q 96 14 [some (.ref 81), some (.ref a1), some (.int x2), some (.int x3), some (.int x4), some (.int x5), some (.int x6), am_oi o7, am_oi o8] [] (am_hp N r I J) =
    am_if (decide (((nI 10) : Int32) ≤ x6)) (Q (.int x5) (am_hp N r I J)) (am_D d 101 [.ref 82, .ref 49] (am_hp N r I J) (fun v h => am_V d Q 96 41 [some (.ref 81), some (.ref a1), some (.int x2), some (.int x3), some (.int x4), some (.int x5), some (.int x6), some (.int (I 82 2)), am_oi o8] [] h)) :=
  by rcases h_a1 with rfl | rfl <;> exact (am_V_un (fun p => Nat.beq p 14 || Nat.beq p 41 || Nat.beq p 53 || Nat.beq p 65 || Nat.beq p 78 || Nat.beq p 86 || Nat.beq p 102) 14).trans rfl
set_option maxRecDepth 100000 in
theorem e_Tries_luckyTimes_41 {d : Nat} {Q : Value → am_H → Prop} {N : Nat} {I : Nat → Nat → Int32} {J : Nat → Nat → Int64} {x2 : Int32} {x3 : Int32} {x4 : Int32} {x5 : Int32} {x6 : Int32} {x7 : Int32} {o8 : Option Int32} {r : am_rho} {a1 : Nat} (h_a1 : a1 = 3 ∨ a1 = 23) : am_V d Q 96 41 [some (.ref 81), some (.ref a1), some (.int x2), some (.int x3), some (.int x4), some (.int x5), some (.int x6), some (.int x7), am_oi o8] [] (am_hp N r I J) =
    am_V d Q 96 53 [some (.ref 81), some (.ref a1), some (.int x2), some (.int x3), some (.int x4), some (.int x5), some (.int x6), some (.int x7), some (.int (nI 0))] [] (am_hp N r (am_u I 82 2 x7) J) :=
  by rcases h_a1 with rfl | rfl <;> exact (am_V_un (fun p => Nat.beq p 14 || Nat.beq p 41 || Nat.beq p 53 || Nat.beq p 65 || Nat.beq p 78 || Nat.beq p 86 || Nat.beq p 102) 8).trans rfl
set_option maxRecDepth 100000 in
theorem e_Tries_luckyTimes_53 {d : Nat} {Q : Value → am_H → Prop} {N : Nat} {I : Nat → Nat → Int32} {J : Nat → Nat → Int64} {x2 : Int32} {x3 : Int32} {x4 : Int32} {x5 : Int32} {x6 : Int32} {x7 : Int32} {x8 : Int32} {r : am_rho} {a1 : Nat} (h_a1 : a1 = 3 ∨ a1 = 23) : am_V d Q 96 53 [some (.ref 81), some (.ref a1), some (.int x2), some (.int x3), some (.int x4), some (.int x5), some (.int x6), some (.int x7), some (.int x8)] [] (am_hp N r I J) =
    am_if (decide (x4 ≤ x8)) (am_D d 102 [.ref 82, .int x3] (am_hp N r I J) (fun v h => am_asI v (fun y => am_V d Q 96 102 [some (.ref 81), some (.ref a1), some (.int x2), some (.int x3), some (.int x4), some (.int x5), some (.int x6), some (.int x7), some (.int x8)] [.int y, .int x5] h))) (am_D d 97 [.ref 81, .ref a1] (am_hp N r I J) (fun v h => am_V d Q 96 65 [some (.ref 81), some (.ref a1), some (.int x2), some (.int x3), some (.int x4), some (.int x5), some (.int x6), some (.int x7), some (.int x8)] [] h)) :=
  by rcases h_a1 with rfl | rfl <;> exact (am_V_un (fun p => Nat.beq p 14 || Nat.beq p 41 || Nat.beq p 53 || Nat.beq p 65 || Nat.beq p 78 || Nat.beq p 86 || Nat.beq p 102) 10).trans rfl
set_option maxRecDepth 100000 in
theorem e_Tries_luckyTimes_65 {d : Nat} {Q : Value → am_H → Prop} {N : Nat} {I : Nat → Nat → Int32} {J : Nat → Nat → Int64} {x2 : Int32} {x3 : Int32} {x4 : Int32} {x5 : Int32} {x6 : Int32} {x7 : Int32} {x8 : Int32} {r : am_rho} {a1 : Nat} (h_a1 : a1 = 3 ∨ a1 = 23) : am_V d Q 96 65 [some (.ref 81), some (.ref a1), some (.int x2), some (.int x3), some (.int x4), some (.int x5), some (.int x6), some (.int x7), some (.int x8)] [] (am_hp N r I J) =
    am_D d 26 [.ref 61, .ref 82, .int (nI 11)] (am_hp N r I J) (fun v h => am_V d Q 96 78 [some (.ref 81), some (.ref a1), some (.int x2), some (.int x3), some (.int x4), some (.int x5), some (.int x6), some (.int x7), some (.int x8)] [] h) :=
  by rcases h_a1 with rfl | rfl <;> exact (am_V_un (fun p => Nat.beq p 14 || Nat.beq p 41 || Nat.beq p 53 || Nat.beq p 65 || Nat.beq p 78 || Nat.beq p 86 || Nat.beq p 102) 8).trans rfl
set_option maxRecDepth 100000 in
theorem e_Tries_luckyTimes_78 {d : Nat} {Q : Value → am_H → Prop} {N : Nat} {I : Nat → Nat → Int32} {J : Nat → Nat → Int64} {x2 : Int32} {x3 : Int32} {x4 : Int32} {x5 : Int32} {x6 : Int32} {x7 : Int32} {x8 : Int32} {r : am_rho} {a1 : Nat} (h_a1 : a1 = 3 ∨ a1 = 23) : am_V d Q 96 78 [some (.ref 81), some (.ref a1), some (.int x2), some (.int x3), some (.int x4), some (.int x5), some (.int x6), some (.int x7), some (.int x8)] [] (am_hp N r I J) =
    am_D d 112 [.ref 82, .ref a1] (am_hp N r I J) (fun v h => am_V d Q 96 86 [some (.ref 81), some (.ref a1), some (.int x2), some (.int x3), some (.int x4), some (.int x5), some (.int x6), some (.int x7), some (.int x8)] [] h) :=
  by rcases h_a1 with rfl | rfl <;> exact (am_V_un (fun p => Nat.beq p 14 || Nat.beq p 41 || Nat.beq p 53 || Nat.beq p 65 || Nat.beq p 78 || Nat.beq p 86 || Nat.beq p 102) 6).trans rfl
set_option maxRecDepth 100000 in
theorem e_Tries_luckyTimes_86 {d : Nat} {Q : Value → am_H → Prop} {N : Nat} {I : Nat → Nat → Int32} {J : Nat → Nat → Int64} {x2 : Int32} {x3 : Int32} {x4 : Int32} {x5 : Int32} {x6 : Int32} {x7 : Int32} {x8 : Int32} {r : am_rho} {a1 : Nat} (h_a1 : a1 = 3 ∨ a1 = 23) : am_V d Q 96 86 [some (.ref 81), some (.ref a1), some (.int x2), some (.int x3), some (.int x4), some (.int x5), some (.int x6), some (.int x7), some (.int x8)] [] (am_hp N r I J) =
    am_V d Q 96 53 [some (.ref 81), some (.ref a1), some (.int x2), some (.int x3), some (.int x4), some (.int x5), some (.int x6), some (.int x7), some (.int (x8 + (nI 1)))] [] (am_hp N r I J) :=
  by rcases h_a1 with rfl | rfl <;> exact (am_V_un (fun p => Nat.beq p 14 || Nat.beq p 41 || Nat.beq p 53 || Nat.beq p 65 || Nat.beq p 78 || Nat.beq p 86 || Nat.beq p 102) 4).trans rfl
set_option maxRecDepth 100000 in
theorem e_Tries_luckyTimes_102 {d : Nat} {Q : Value → am_H → Prop} {N : Nat} {I : Nat → Nat → Int32} {J : Nat → Nat → Int64} {x2 : Int32} {x3 : Int32} {x4 : Int32} {x5 : Int32} {x6 : Int32} {x7 : Int32} {x8 : Int32} {y0 : Int32} {y1 : Int32} {r : am_rho} {a1 : Nat} (h_a1 : a1 = 3 ∨ a1 = 23) : am_V d Q 96 102 [some (.ref 81), some (.ref a1), some (.int x2), some (.int x3), some (.int x4), some (.int x5), some (.int x6), some (.int x7), some (.int x8)] [.int y1, .int y0] (am_hp N r I J) =
    am_if (decide (y1 = (nI 0))) (am_V d Q 96 14 [some (.ref 81), some (.ref a1), some (.int x2), some (.int x3), some (.int x4), some (.int (y0 + (nI 0))), some (.int (x6 + (nI 1))), am_oi (some x7), am_oi (some x8)] [] (am_hp N r I J)) (am_V d Q 96 14 [some (.ref 81), some (.ref a1), some (.int x2), some (.int x3), some (.int x4), some (.int (y0 + (nI 1))), some (.int (x6 + (nI 1))), am_oi (some x7), am_oi (some x8)] [] (am_hp N r I J)) :=
  by rcases h_a1 with rfl | rfl <;> exact (am_V_un (fun p => Nat.beq p 14 || Nat.beq p 41 || Nat.beq p 53 || Nat.beq p 65 || Nat.beq p 78 || Nat.beq p 86 || Nat.beq p 102) 9).trans rfl
set_option maxRecDepth 100000 in
theorem e_Tries_deal {d : Nat} {Q : Value → am_H → Prop} {N : Nat} {I : Nat → Nat → Int32} {J : Nat → Nat → Int64} {r : am_rho} {a1 : Nat} (h_a1 : a1 = 3 ∨ a1 = 23) : am_D (d + 1) 97 [.ref 81, .ref a1] (am_hp N r I J) Q =
    am_D d 20 [.ref 61, .ref a1, .ref 49] (am_hp N r I J) (fun v h => am_V d Q 97 12 [some (.ref 81), some (.ref a1), none] [] h) :=
  by rcases h_a1 with rfl | rfl <;> exact (am_D_un rfl (fun p => Nat.beq p 12 || Nat.beq p 59 || Nat.beq p 74 || Nat.beq p 99) 8).trans rfl
set_option maxRecDepth 100000 in
theorem e_Tries_deal_12 {d : Nat} {Q : Value → am_H → Prop} {N : Nat} {I : Nat → Nat → Int32} {J : Nat → Nat → Int64} {r : am_rho} {a1 : Nat} (h_a1 : a1 = 3 ∨ a1 = 23) : am_V d Q 97 12 [some (.ref 81), some (.ref a1), none] [] (am_hp N r I J) =
    am_if (decide (((nI 0) : Int32) < ((am_u (am_u I 61 12 (nI 1)) 82 5 ((am_u I 61 12 (nI 1)) 49 5)) 82 0))) (Q .null (am_hp N r (am_u (am_u I 61 12 (nI 1)) 82 5 ((am_u I 61 12 (nI 1)) 49 5)) J)) (am_if (!(decide (((am_u (am_u I 61 12 (nI 1)) 82 5 ((am_u I 61 12 (nI 1)) 49 5)) a1 0) = (nI 0)))) (am_D d 113 [.ref 82] (am_hp N r (am_u (am_u I 61 12 (nI 1)) 82 5 ((am_u I 61 12 (nI 1)) 49 5)) J) (fun v h => am_asI v (fun y => am_V d Q 97 59 [some (.ref 81), some (.ref a1), none] [.int y] h))) (Q .null (am_hp N r (am_u (am_u I 61 12 (nI 1)) 82 5 ((am_u I 61 12 (nI 1)) 49 5)) J))) :=
  by rcases h_a1 with rfl | rfl <;> exact (am_V_un (fun p => Nat.beq p 12 || Nat.beq p 59 || Nat.beq p 74 || Nat.beq p 99) 22).trans rfl
set_option maxRecDepth 100000 in
theorem e_Tries_deal_59 {d : Nat} {Q : Value → am_H → Prop} {N : Nat} {I : Nat → Nat → Int32} {J : Nat → Nat → Int64} {y0 : Int32} {r : am_rho} {a1 : Nat} (h_a1 : a1 = 3 ∨ a1 = 23) : am_V d Q 97 59 [some (.ref 81), some (.ref a1), none] [.int y0] (am_hp N r I J) =
    am_if (!(decide ((y0 - y0 / (nI 3) * (nI 3)) = (nI 0)))) (am_if (!(decide ((y0 - y0 / (nI 3) * (nI 3)) = (nI 1)))) (Q .null (am_hp N r I J)) (am_D d 113 [.ref 82] (am_hp N r I J) (fun v h => am_asI v (fun y => am_V d Q 97 99 [some (.ref 81), some (.ref a1), some (.int (y0 - y0 / (nI 3) * (nI 3)))] [.int y, .ref 69] h)))) (am_D d 76 [.ref a1] (am_hp N r I J) (fun v h => am_asI v (fun y => am_V d Q 97 74 [some (.ref 81), some (.ref a1), some (.int (y0 - y0 / (nI 3) * (nI 3)))] [.int y, .ref 82] h))) :=
  by rcases h_a1 with rfl | rfl <;> exact (am_V_un (fun p => Nat.beq p 12 || Nat.beq p 59 || Nat.beq p 74 || Nat.beq p 99) 16).trans rfl
set_option maxRecDepth 100000 in
theorem e_Tries_deal_74 {d : Nat} {Q : Value → am_H → Prop} {N : Nat} {I : Nat → Nat → Int32} {J : Nat → Nat → Int64} {x2 : Int32} {y1 : Int32} {r : am_rho} {a1 : Nat} (h_a1 : a1 = 3 ∨ a1 = 23) : am_V d Q 97 74 [some (.ref 81), some (.ref a1), some (.int x2)] [.int y1, .ref 82] (am_hp N r I J) =
    Q .null (am_hp N r (am_u I 82 5 y1) J) :=
  by rcases h_a1 with rfl | rfl <;> exact (am_V_un (fun p => Nat.beq p 12 || Nat.beq p 59 || Nat.beq p 74 || Nat.beq p 99) 5).trans rfl
set_option maxRecDepth 100000 in
theorem e_Tries_deal_99 {d : Nat} {Q : Value → am_H → Prop} {N : Nat} {I : Nat → Nat → Int32} {J : Nat → Nat → Int64} {x2 : Int32} {y1 : Int32} {r : am_rho} {a1 : Nat} (h_a1 : a1 = 3 ∨ a1 = 23) : am_V d Q 97 99 [some (.ref 81), some (.ref a1), some (.int x2)] [.int y1, .ref 69] (am_hp N r I J) =
    am_g (!(decide ((I a1 0) = nI 0))) (am_g (am_inb (y1 - y1 / (I a1 0) * (I a1 0)) 8) (am_g (am_inb (y1 - y1 / (I a1 0) * (I a1 0)) 8) (Q .null (am_hp N r (am_u I 69 (y1 - y1 / (I a1 0) * (I a1 0)).toNatClampNeg ((I 69 (y1 - y1 / (I a1 0) * (I a1 0)).toNatClampNeg) + (nI 3))) J)))) :=
  by rcases h_a1 with rfl | rfl <;> exact (am_V_un (fun p => Nat.beq p 12 || Nat.beq p 59 || Nat.beq p 74 || Nat.beq p 99) 11).trans rfl
set_option maxRecDepth 100000 in
theorem e_Tries_otherwise {d : Nat} {Q : Value → am_H → Prop} {N : Nat} {I : Nat → Nat → Int32} {J : Nat → Nat → Int64} {x2 : Int32} {x3 : Int32} {r : am_rho} {a1 : Nat} (h_a1 : a1 = 3 ∨ a1 = 23) : am_D (d + 1) 98 [.ref 81, .ref a1, .int x2, .int x3] (am_hp N r I J) Q =
    am_D d 20 [.ref 61, .ref a1, .ref 49] (am_hp N r I J) (fun v h => am_V d Q 98 12 [some (.ref 81), some (.ref a1), some (.int x2), some (.int x3), none, none, none] [] h) :=
  by rcases h_a1 with rfl | rfl <;> exact (am_D_un rfl (fun p => Nat.beq p 12 || Nat.beq p 23 || Nat.beq p 26 || Nat.beq p 143 || Nat.beq p 183 || Nat.beq p 196 || Nat.beq p 206) 8).trans rfl
set_option maxRecDepth 100000 in
theorem e_Tries_otherwise_12 {d : Nat} {Q : Value → am_H → Prop} {N : Nat} {I : Nat → Nat → Int32} {J : Nat → Nat → Int64} {x2 : Int32} {x3 : Int32} {r : am_rho} {a1 : Nat} (h_a1 : a1 = 3 ∨ a1 = 23) : am_V d Q 98 12 [some (.ref 81), some (.ref a1), some (.int x2), some (.int x3), none, none, none] [] (am_hp N r I J) =
    am_D d 101 [.ref 82, .ref 49] (am_hp N r I J) (fun v h => am_V d Q 98 23 [some (.ref 81), some (.ref a1), some (.int x2), some (.int x3), none, none, none] [] h) :=
  by rcases h_a1 with rfl | rfl <;> exact (am_V_un (fun p => Nat.beq p 12 || Nat.beq p 23 || Nat.beq p 26 || Nat.beq p 143 || Nat.beq p 183 || Nat.beq p 196 || Nat.beq p 206) 7).trans rfl
set_option maxRecDepth 100000 in
theorem e_Tries_otherwise_23 {d : Nat} {Q : Value → am_H → Prop} {N : Nat} {I : Nat → Nat → Int32} {J : Nat → Nat → Int64} {x2 : Int32} {x3 : Int32} {r : am_rho} {a1 : Nat} (h_a1 : a1 = 3 ∨ a1 = 23) : am_V d Q 98 23 [some (.ref 81), some (.ref a1), some (.int x2), some (.int x3), none, none, none] [] (am_hp N r I J) =
    am_V d Q 98 26 [some (.ref 81), some (.ref a1), some (.int x2), some (.int x3), some (.int (nI 0)), am_oi none, am_oi none] [] (am_hp N r I J) :=
  by rcases h_a1 with rfl | rfl <;> exact (am_V_un (fun p => Nat.beq p 12 || Nat.beq p 23 || Nat.beq p 26 || Nat.beq p 143 || Nat.beq p 183 || Nat.beq p 196 || Nat.beq p 206) 4).trans rfl
set_option maxRecDepth 100000 in
theorem e_Tries_otherwise_26 {d : Nat} {Q : Value → am_H → Prop} {N : Nat} {I : Nat → Nat → Int32} {J : Nat → Nat → Int64} {x2 : Int32} {x3 : Int32} {x4 : Int32} {o5 : Option Int32} {o6 : Option Int32} {r : am_rho} {a1 : Nat} (h_a1 : a1 = 3 ∨ a1 = 23) : am_V d Q 98 26 [some (.ref 81), some (.ref a1), some (.int x2), some (.int x3), some (.int x4), am_oi o5, am_oi o6] [] (am_hp N r I J) =
    am_if (decide (((nI 8) : Int32) ≤ x4)) (am_if (!(decide (x2 = (nI 4)))) (am_if (!(decide (x2 = (nI 5)))) (am_if (!(decide (x2 = (nI 6)))) (am_if (!(decide (x2 = (nI 7)))) (am_V d Q 98 183 [some (.ref 81), some (.ref a1), some (.int x2), some (.int x3), some (.int x4), am_oi o5, am_oi o6] [] (am_hp N r (am_u I 61 11 (nI 0)) J)) (am_D d 21 [.ref 61, .int x3] (am_hp N r (am_u I 61 11 (nI 0)) J) (fun v h => am_V d Q 98 183 [some (.ref 81), some (.ref a1), some (.int x2), some (.int x3), some (.int x4), am_oi o5, am_oi o6] [] h))) (am_g (am_inb x3 5) (am_V d Q 98 183 [some (.ref 81), some (.ref a1), some (.int x2), some (.int x3), some (.int x4), am_oi o5, am_oi o6] [] (am_hp N r (am_u (am_u I 61 11 (nI 0)) 70 x3.toNatClampNeg (nI 9)) J)))) (am_D d 76 [.ref a1] (am_hp N r (am_u I 61 11 (nI 0)) J) (fun v h => am_asI v (fun y => am_V d Q 98 143 [some (.ref 81), some (.ref a1), some (.int x2), some (.int x3), some (.int x4), am_oi o5, am_oi o6] [.int y, .ref 82] h)))) (am_if (!(decide (x2 = (nI 5)))) (am_if (!(decide (x2 = (nI 6)))) (am_if (!(decide (x2 = (nI 7)))) (am_V d Q 98 183 [some (.ref 81), some (.ref a1), some (.int x2), some (.int x3), some (.int x4), am_oi o5, am_oi o6] [] (am_hp N r (am_u I 61 11 (nI 1)) J)) (am_D d 21 [.ref 61, .int x3] (am_hp N r (am_u I 61 11 (nI 1)) J) (fun v h => am_V d Q 98 183 [some (.ref 81), some (.ref a1), some (.int x2), some (.int x3), some (.int x4), am_oi o5, am_oi o6] [] h))) (am_g (am_inb x3 5) (am_V d Q 98 183 [some (.ref 81), some (.ref a1), some (.int x2), some (.int x3), some (.int x4), am_oi o5, am_oi o6] [] (am_hp N r (am_u (am_u I 61 11 (nI 1)) 70 x3.toNatClampNeg (nI 9)) J)))) (am_D d 76 [.ref a1] (am_hp N r (am_u I 61 11 (nI 1)) J) (fun v h => am_asI v (fun y => am_V d Q 98 143 [some (.ref 81), some (.ref a1), some (.int x2), some (.int x3), some (.int x4), am_oi o5, am_oi o6] [.int y, .ref 82] h))))) (am_if (!(decide (x2 = (nI 1)))) (am_if (!(decide (x2 = (nI 2)))) (am_if (!(decide (x2 = (nI 3)))) (am_g (am_inb x4 8) (am_g (am_inb x4 8) (am_V d Q 98 26 [some (.ref 81), some (.ref a1), some (.int x2), some (.int x3), some (.int (x4 + (nI 1))), am_oi (some ((((I a1 5) >>> (x4 &&& nI 31)) &&& (nI 1)) * (nI 3))), am_oi (some (nI 0))] [] (am_hp N r (am_u I 69 x4.toNatClampNeg ((I 69 x4.toNatClampNeg) - (nI 0))) J)))) (am_g (am_inb x4 8) (am_g (am_inb x4 8) (am_g (am_inb x4 8) (am_V d Q 98 26 [some (.ref 81), some (.ref a1), some (.int x2), some (.int x3), some (.int (x4 + (nI 1))), am_oi (some ((((I a1 5) >>> (x4 &&& nI 31)) &&& (nI 1)) * (nI 3))), am_oi (some (I (a1 + 14) x4.toNatClampNeg))] [] (am_hp N r (am_u I 69 x4.toNatClampNeg ((I 69 x4.toNatClampNeg) - (I (a1 + 14) x4.toNatClampNeg))) J)))))) (am_g (am_inb x4 8) (am_g (am_inb x4 8) (am_g (am_inb x4 8) (am_V d Q 98 26 [some (.ref 81), some (.ref a1), some (.int x2), some (.int x3), some (.int (x4 + (nI 1))), am_oi (some ((((I a1 5) >>> (x4 &&& nI 31)) &&& (nI 1)) * (nI 3))), am_oi (some (I 54 x4.toNatClampNeg))] [] (am_hp N r (am_u I 69 x4.toNatClampNeg ((I 69 x4.toNatClampNeg) - (I 54 x4.toNatClampNeg))) J)))))) (am_g (am_inb x4 8) (am_g (am_inb x4 8) (am_V d Q 98 26 [some (.ref 81), some (.ref a1), some (.int x2), some (.int x3), some (.int (x4 + (nI 1))), am_oi (some ((((I a1 5) >>> (x4 &&& nI 31)) &&& (nI 1)) * (nI 3))), am_oi (some ((((I a1 5) >>> (x4 &&& nI 31)) &&& (nI 1)) * (nI 3)))] [] (am_hp N r (am_u I 69 x4.toNatClampNeg ((I 69 x4.toNatClampNeg) - ((((I a1 5) >>> (x4 &&& nI 31)) &&& (nI 1)) * (nI 3)))) J))))) :=
  by rcases h_a1 with rfl | rfl <;> cases o5 <;> exact (am_V_un (fun p => Nat.beq p 12 || Nat.beq p 23 || Nat.beq p 26 || Nat.beq p 143 || Nat.beq p 183 || Nat.beq p 196 || Nat.beq p 206) 40).trans rfl
set_option maxRecDepth 100000 in
theorem e_Tries_otherwise_143 {d : Nat} {Q : Value → am_H → Prop} {N : Nat} {I : Nat → Nat → Int32} {J : Nat → Nat → Int64} {x2 : Int32} {x3 : Int32} {x4 : Int32} {o5 : Option Int32} {o6 : Option Int32} {y1 : Int32} {r : am_rho} {a1 : Nat} (h_a1 : a1 = 3 ∨ a1 = 23) : am_V d Q 98 143 [some (.ref 81), some (.ref a1), some (.int x2), some (.int x3), some (.int x4), am_oi o5, am_oi o6] [.int y1, .ref 82] (am_hp N r I J) =
    am_V d Q 98 183 [some (.ref 81), some (.ref a1), some (.int x2), some (.int x3), some (.int x4), am_oi o5, am_oi o6] [] (am_hp N r (am_u I 82 5 y1) J) :=
  by rcases h_a1 with rfl | rfl <;> exact (am_V_un (fun p => Nat.beq p 12 || Nat.beq p 23 || Nat.beq p 26 || Nat.beq p 143 || Nat.beq p 183 || Nat.beq p 196 || Nat.beq p 206) 4).trans rfl
set_option maxRecDepth 100000 in
theorem e_Tries_otherwise_183 {d : Nat} {Q : Value → am_H → Prop} {N : Nat} {I : Nat → Nat → Int32} {J : Nat → Nat → Int64} {x2 : Int32} {x3 : Int32} {x4 : Int32} {o5 : Option Int32} {o6 : Option Int32} {r : am_rho} {a1 : Nat} (h_a1 : a1 = 3 ∨ a1 = 23) : am_V d Q 98 183 [some (.ref 81), some (.ref a1), some (.int x2), some (.int x3), some (.int x4), am_oi o5, am_oi o6] [] (am_hp N r I J) =
    am_D d 26 [.ref 61, .ref 82, .int (nI 11)] (am_hp N r I J) (fun v h => am_V d Q 98 196 [some (.ref 81), some (.ref a1), some (.int x2), some (.int x3), some (.int x4), am_oi o5, am_oi o6] [] h) :=
  by rcases h_a1 with rfl | rfl <;> exact (am_V_un (fun p => Nat.beq p 12 || Nat.beq p 23 || Nat.beq p 26 || Nat.beq p 143 || Nat.beq p 183 || Nat.beq p 196 || Nat.beq p 206) 8).trans rfl
set_option maxRecDepth 100000 in
theorem e_Tries_otherwise_196 {d : Nat} {Q : Value → am_H → Prop} {N : Nat} {I : Nat → Nat → Int32} {J : Nat → Nat → Int64} {x2 : Int32} {x3 : Int32} {x4 : Int32} {o5 : Option Int32} {o6 : Option Int32} {r : am_rho} {a1 : Nat} (h_a1 : a1 = 3 ∨ a1 = 23) : am_V d Q 98 196 [some (.ref 81), some (.ref a1), some (.int x2), some (.int x3), some (.int x4), am_oi o5, am_oi o6] [] (am_hp N r I J) =
    am_D d 277 [.int (I 82 4)] (am_hp N r I J) (fun v h => am_asI v (fun y => am_V d Q 98 206 [some (.ref 81), some (.ref a1), some (.int x2), some (.int x3), some (.int x4), am_oi o5, am_oi o6] [.int y] h)) :=
  by rcases h_a1 with rfl | rfl <;> exact (am_V_un (fun p => Nat.beq p 12 || Nat.beq p 23 || Nat.beq p 26 || Nat.beq p 143 || Nat.beq p 183 || Nat.beq p 196 || Nat.beq p 206) 6).trans rfl
set_option maxRecDepth 100000 in
theorem e_Tries_otherwise_206 {d : Nat} {Q : Value → am_H → Prop} {N : Nat} {I : Nat → Nat → Int32} {J : Nat → Nat → Int64} {x2 : Int32} {x3 : Int32} {x4 : Int32} {o5 : Option Int32} {o6 : Option Int32} {y0 : Int32} {r : am_rho} {a1 : Nat} (h_a1 : a1 = 3 ∨ a1 = 23) : am_V d Q 98 206 [some (.ref 81), some (.ref a1), some (.int x2), some (.int x3), some (.int x4), am_oi o5, am_oi o6] [.int y0] (am_hp N r I J) =
    Q (.int y0) (am_hp N r I J) :=
  by rcases h_a1 with rfl | rfl <;> exact (am_V_un (fun p => Nat.beq p 12 || Nat.beq p 23 || Nat.beq p 26 || Nat.beq p 143 || Nat.beq p 183 || Nat.beq p 196 || Nat.beq p 206) 3).trans rfl
set_option maxRecDepth 100000 in
theorem e_World_begin {d : Nat} {Q : Value → am_H → Prop} {N : Nat} {I : Nat → Nat → Int32} {J : Nat → Nat → Int64} {r : am_rho} {a0 : Nat} {a1 : Nat} (h_a0 : a0 = 49 ∨ a0 = 55 ∨ a0 = 82) (h_a1 : a1 = 3 ∨ a1 = 23) : am_D (d + 1) 100 [.ref a0, .ref a1] (am_hp N r I J) Q =
    am_D d 901 [.ref (a1 + 6), .int (nI 0), .ref (a0 + 1), .int (nI 0), .int (nI 5)] (am_hp N r (am_u (am_u (am_u (am_u (am_u (am_u I a0 0 (nI 0)) a0 1 (nI 0)) a0 2 ((am_u (am_u I a0 0 (nI 0)) a0 1 (nI 0)) a1 6)) a0 3 (nI 0)) a0 4 (nI 0)) a0 5 (nI 0)) J) (fun v h => am_V d Q 100 47 [some (.ref a0), some (.ref a1), none] [] h) :=
  by rcases h_a0 with rfl | rfl | rfl <;> rcases h_a1 with rfl | rfl <;> exact (am_D_un rfl (fun p => Nat.beq p 47 || Nat.beq p 62 || Nat.beq p 70 || Nat.beq p 78 || Nat.beq p 86 || Nat.beq p 88) 29).trans rfl
set_option maxRecDepth 100000 in
theorem e_World_begin_47 {d : Nat} {Q : Value → am_H → Prop} {N : Nat} {I : Nat → Nat → Int32} {J : Nat → Nat → Int64} {r : am_rho} {a0 : Nat} {a1 : Nat} (h_a0 : a0 = 49 ∨ a0 = 55 ∨ a0 = 82) (h_a1 : a1 = 3 ∨ a1 = 23) : am_V d Q 100 47 [some (.ref a0), some (.ref a1), none] [] (am_hp N r I J) =
    am_D d 901 [.ref (a1 + 13), .int (nI 0), .ref (a0 + 5), .int (nI 0), .int (nI 8)] (am_hp N r I J) (fun v h => am_V d Q 100 62 [some (.ref a0), some (.ref a1), none] [] h) :=
  by rcases h_a0 with rfl | rfl | rfl <;> rcases h_a1 with rfl | rfl <;> exact (am_V_un (fun p => Nat.beq p 47 || Nat.beq p 62 || Nat.beq p 70 || Nat.beq p 78 || Nat.beq p 86 || Nat.beq p 88) 10).trans rfl
set_option maxRecDepth 100000 in
theorem e_World_begin_62 {d : Nat} {Q : Value → am_H → Prop} {N : Nat} {I : Nat → Nat → Int32} {J : Nat → Nat → Int64} {r : am_rho} {a0 : Nat} {a1 : Nat} (h_a0 : a0 = 49 ∨ a0 = 55 ∨ a0 = 82) (h_a1 : a1 = 3 ∨ a1 = 23) : am_V d Q 100 62 [some (.ref a0), some (.ref a1), none] [] (am_hp N r I J) =
    am_D d 294 [.ref (a0 + 2), .int (nI 0)] (am_hp N r I J) (fun v h => am_V d Q 100 70 [some (.ref a0), some (.ref a1), none] [] h) :=
  by rcases h_a0 with rfl | rfl | rfl <;> rcases h_a1 with rfl | rfl <;> exact (am_V_un (fun p => Nat.beq p 47 || Nat.beq p 62 || Nat.beq p 70 || Nat.beq p 78 || Nat.beq p 86 || Nat.beq p 88) 6).trans rfl
set_option maxRecDepth 100000 in
theorem e_World_begin_70 {d : Nat} {Q : Value → am_H → Prop} {N : Nat} {I : Nat → Nat → Int32} {J : Nat → Nat → Int64} {r : am_rho} {a0 : Nat} {a1 : Nat} (h_a0 : a0 = 49 ∨ a0 = 55 ∨ a0 = 82) (h_a1 : a1 = 3 ∨ a1 = 23) : am_V d Q 100 70 [some (.ref a0), some (.ref a1), none] [] (am_hp N r I J) =
    am_D d 294 [.ref (a0 + 3), .int (nI 0)] (am_hp N r I J) (fun v h => am_V d Q 100 78 [some (.ref a0), some (.ref a1), none] [] h) :=
  by rcases h_a0 with rfl | rfl | rfl <;> rcases h_a1 with rfl | rfl <;> exact (am_V_un (fun p => Nat.beq p 47 || Nat.beq p 62 || Nat.beq p 70 || Nat.beq p 78 || Nat.beq p 86 || Nat.beq p 88) 6).trans rfl
set_option maxRecDepth 100000 in
theorem e_World_begin_78 {d : Nat} {Q : Value → am_H → Prop} {N : Nat} {I : Nat → Nat → Int32} {J : Nat → Nat → Int64} {r : am_rho} {a0 : Nat} {a1 : Nat} (h_a0 : a0 = 49 ∨ a0 = 55 ∨ a0 = 82) (h_a1 : a1 = 3 ∨ a1 = 23) : am_V d Q 100 78 [some (.ref a0), some (.ref a1), none] [] (am_hp N r I J) =
    am_D d 294 [.ref (a0 + 4), .int (-nI 1)] (am_hp N r I J) (fun v h => am_V d Q 100 86 [some (.ref a0), some (.ref a1), none] [] h) :=
  by rcases h_a0 with rfl | rfl | rfl <;> rcases h_a1 with rfl | rfl <;> exact (am_V_un (fun p => Nat.beq p 47 || Nat.beq p 62 || Nat.beq p 70 || Nat.beq p 78 || Nat.beq p 86 || Nat.beq p 88) 6).trans rfl
set_option maxRecDepth 100000 in
theorem e_World_begin_86 {d : Nat} {Q : Value → am_H → Prop} {N : Nat} {I : Nat → Nat → Int32} {J : Nat → Nat → Int64} {r : am_rho} {a0 : Nat} {a1 : Nat} (h_a0 : a0 = 49 ∨ a0 = 55 ∨ a0 = 82) (h_a1 : a1 = 3 ∨ a1 = 23) : am_V d Q 100 86 [some (.ref a0), some (.ref a1), none] [] (am_hp N r I J) =
    am_V d Q 100 88 [some (.ref a0), some (.ref a1), some (.int (nI 0))] [] (am_hp N r I J) :=
  by rcases h_a0 with rfl | rfl | rfl <;> rcases h_a1 with rfl | rfl <;> exact (am_V_un (fun p => Nat.beq p 47 || Nat.beq p 62 || Nat.beq p 70 || Nat.beq p 78 || Nat.beq p 86 || Nat.beq p 88) 4).trans rfl
set_option maxRecDepth 100000 in
theorem e_World_begin_88 {d : Nat} {Q : Value → am_H → Prop} {N : Nat} {I : Nat → Nat → Int32} {J : Nat → Nat → Int64} {x2 : Int32} {r : am_rho} {a0 : Nat} {a1 : Nat} (h_a0 : a0 = 49 ∨ a0 = 55 ∨ a0 = 82) (h_a1 : a1 = 3 ∨ a1 = 23) : am_V d Q 100 88 [some (.ref a0), some (.ref a1), some (.int x2)] [] (am_hp N r I J) =
    am_if (decide ((I a1 3) ≤ x2)) (Q .null (am_hp N r I J)) (am_g (am_inb x2 8) (am_g (am_inb (I (a1 + 9) x2.toNatClampNeg) 5) (am_g (am_inb (I (a1 + 6) (I (a1 + 9) x2.toNatClampNeg).toNatClampNeg) 8) (am_g (am_inb (I (a1 + 6) (I (a1 + 9) x2.toNatClampNeg).toNatClampNeg) 8) (am_V d Q 100 88 [some (.ref a0), some (.ref a1), some (.int (x2 + (nI 1)))] [] (am_hp N r (am_u I (a0 + 3) (I (a1 + 6) (I (a1 + 9) x2.toNatClampNeg).toNatClampNeg).toNatClampNeg ((I (a0 + 3) (I (a1 + 6) (I (a1 + 9) x2.toNatClampNeg).toNatClampNeg).toNatClampNeg) ||| ((nI 1) <<< (x2 &&& nI 31)))) J)))))) :=
  by rcases h_a0 with rfl | rfl | rfl <;> rcases h_a1 with rfl | rfl <;> exact (am_V_un (fun p => Nat.beq p 47 || Nat.beq p 62 || Nat.beq p 70 || Nat.beq p 78 || Nat.beq p 86 || Nat.beq p 88) 24).trans rfl
set_option maxRecDepth 100000 in
theorem e_World_become {d : Nat} {Q : Value → am_H → Prop} {N : Nat} {I : Nat → Nat → Int32} {J : Nat → Nat → Int64} {r : am_rho} {a0 : Nat} {a1 : Nat} (h_a0 : a0 = 49 ∨ a0 = 55 ∨ a0 = 82) (h_a1 : a1 = 49 ∨ a1 = 55 ∨ a1 = 82) : am_D (d + 1) 101 [.ref a0, .ref a1] (am_hp N r I J) Q =
    am_D d 901 [.ref (a1 + 1), .int (nI 0), .ref (a0 + 1), .int (nI 0), .int (nI 5)] (am_hp N r (am_u (am_u (am_u (am_u (am_u (am_u I a0 0 (I a1 0)) a0 1 ((am_u I a0 0 (I a1 0)) a1 1)) a0 2 ((am_u (am_u I a0 0 (I a1 0)) a0 1 ((am_u I a0 0 (I a1 0)) a1 1)) a1 2)) a0 3 ((am_u (am_u (am_u I a0 0 (I a1 0)) a0 1 ((am_u I a0 0 (I a1 0)) a1 1)) a0 2 ((am_u (am_u I a0 0 (I a1 0)) a0 1 ((am_u I a0 0 (I a1 0)) a1 1)) a1 2)) a1 3)) a0 4 ((am_u (am_u (am_u (am_u I a0 0 (I a1 0)) a0 1 ((am_u I a0 0 (I a1 0)) a1 1)) a0 2 ((am_u (am_u I a0 0 (I a1 0)) a0 1 ((am_u I a0 0 (I a1 0)) a1 1)) a1 2)) a0 3 ((am_u (am_u (am_u I a0 0 (I a1 0)) a0 1 ((am_u I a0 0 (I a1 0)) a1 1)) a0 2 ((am_u (am_u I a0 0 (I a1 0)) a0 1 ((am_u I a0 0 (I a1 0)) a1 1)) a1 2)) a1 3)) a1 4)) a0 5 ((am_u (am_u (am_u (am_u (am_u I a0 0 (I a1 0)) a0 1 ((am_u I a0 0 (I a1 0)) a1 1)) a0 2 ((am_u (am_u I a0 0 (I a1 0)) a0 1 ((am_u I a0 0 (I a1 0)) a1 1)) a1 2)) a0 3 ((am_u (am_u (am_u I a0 0 (I a1 0)) a0 1 ((am_u I a0 0 (I a1 0)) a1 1)) a0 2 ((am_u (am_u I a0 0 (I a1 0)) a0 1 ((am_u I a0 0 (I a1 0)) a1 1)) a1 2)) a1 3)) a0 4 ((am_u (am_u (am_u (am_u I a0 0 (I a1 0)) a0 1 ((am_u I a0 0 (I a1 0)) a1 1)) a0 2 ((am_u (am_u I a0 0 (I a1 0)) a0 1 ((am_u I a0 0 (I a1 0)) a1 1)) a1 2)) a0 3 ((am_u (am_u (am_u I a0 0 (I a1 0)) a0 1 ((am_u I a0 0 (I a1 0)) a1 1)) a0 2 ((am_u (am_u I a0 0 (I a1 0)) a0 1 ((am_u I a0 0 (I a1 0)) a1 1)) a1 2)) a1 3)) a1 4)) a1 5)) J) (fun v h => am_V d Q 101 62 [some (.ref a0), some (.ref a1)] [] h) :=
  by rcases h_a0 with rfl | rfl | rfl <;> rcases h_a1 with rfl | rfl | rfl <;> exact (am_D_un rfl (fun p => Nat.beq p 62 || Nat.beq p 76 || Nat.beq p 91 || Nat.beq p 106 || Nat.beq p 121) 34).trans rfl
set_option maxRecDepth 100000 in
theorem e_World_become_62 {d : Nat} {Q : Value → am_H → Prop} {N : Nat} {I : Nat → Nat → Int32} {J : Nat → Nat → Int64} {r : am_rho} {a0 : Nat} {a1 : Nat} (h_a0 : a0 = 49 ∨ a0 = 55 ∨ a0 = 82) (h_a1 : a1 = 49 ∨ a1 = 55 ∨ a1 = 82) : am_V d Q 101 62 [some (.ref a0), some (.ref a1)] [] (am_hp N r I J) =
    am_D d 901 [.ref (a1 + 2), .int (nI 0), .ref (a0 + 2), .int (nI 0), .int (nI 5)] (am_hp N r I J) (fun v h => am_V d Q 101 76 [some (.ref a0), some (.ref a1)] [] h) :=
  by rcases h_a0 with rfl | rfl | rfl <;> rcases h_a1 with rfl | rfl | rfl <;> exact (am_V_un (fun p => Nat.beq p 62 || Nat.beq p 76 || Nat.beq p 91 || Nat.beq p 106 || Nat.beq p 121) 10).trans rfl
set_option maxRecDepth 100000 in
theorem e_World_become_76 {d : Nat} {Q : Value → am_H → Prop} {N : Nat} {I : Nat → Nat → Int32} {J : Nat → Nat → Int64} {r : am_rho} {a0 : Nat} {a1 : Nat} (h_a0 : a0 = 49 ∨ a0 = 55 ∨ a0 = 82) (h_a1 : a1 = 49 ∨ a1 = 55 ∨ a1 = 82) : am_V d Q 101 76 [some (.ref a0), some (.ref a1)] [] (am_hp N r I J) =
    am_D d 901 [.ref (a1 + 3), .int (nI 0), .ref (a0 + 3), .int (nI 0), .int (nI 8)] (am_hp N r I J) (fun v h => am_V d Q 101 91 [some (.ref a0), some (.ref a1)] [] h) :=
  by rcases h_a0 with rfl | rfl | rfl <;> rcases h_a1 with rfl | rfl | rfl <;> exact (am_V_un (fun p => Nat.beq p 62 || Nat.beq p 76 || Nat.beq p 91 || Nat.beq p 106 || Nat.beq p 121) 10).trans rfl
set_option maxRecDepth 100000 in
theorem e_World_become_91 {d : Nat} {Q : Value → am_H → Prop} {N : Nat} {I : Nat → Nat → Int32} {J : Nat → Nat → Int64} {r : am_rho} {a0 : Nat} {a1 : Nat} (h_a0 : a0 = 49 ∨ a0 = 55 ∨ a0 = 82) (h_a1 : a1 = 49 ∨ a1 = 55 ∨ a1 = 82) : am_V d Q 101 91 [some (.ref a0), some (.ref a1)] [] (am_hp N r I J) =
    am_D d 901 [.ref (a1 + 4), .int (nI 0), .ref (a0 + 4), .int (nI 0), .int (nI 8)] (am_hp N r I J) (fun v h => am_V d Q 101 106 [some (.ref a0), some (.ref a1)] [] h) :=
  by rcases h_a0 with rfl | rfl | rfl <;> rcases h_a1 with rfl | rfl | rfl <;> exact (am_V_un (fun p => Nat.beq p 62 || Nat.beq p 76 || Nat.beq p 91 || Nat.beq p 106 || Nat.beq p 121) 10).trans rfl
set_option maxRecDepth 100000 in
theorem e_World_become_106 {d : Nat} {Q : Value → am_H → Prop} {N : Nat} {I : Nat → Nat → Int32} {J : Nat → Nat → Int64} {r : am_rho} {a0 : Nat} {a1 : Nat} (h_a0 : a0 = 49 ∨ a0 = 55 ∨ a0 = 82) (h_a1 : a1 = 49 ∨ a1 = 55 ∨ a1 = 82) : am_V d Q 101 106 [some (.ref a0), some (.ref a1)] [] (am_hp N r I J) =
    am_D d 901 [.ref (a1 + 5), .int (nI 0), .ref (a0 + 5), .int (nI 0), .int (nI 8)] (am_hp N r I J) (fun v h => am_V d Q 101 121 [some (.ref a0), some (.ref a1)] [] h) :=
  by rcases h_a0 with rfl | rfl | rfl <;> rcases h_a1 with rfl | rfl | rfl <;> exact (am_V_un (fun p => Nat.beq p 62 || Nat.beq p 76 || Nat.beq p 91 || Nat.beq p 106 || Nat.beq p 121) 10).trans rfl
set_option maxRecDepth 100000 in
theorem e_World_become_121 {d : Nat} {Q : Value → am_H → Prop} {N : Nat} {I : Nat → Nat → Int32} {J : Nat → Nat → Int64} {r : am_rho} {a0 : Nat} {a1 : Nat} (h_a0 : a0 = 49 ∨ a0 = 55 ∨ a0 = 82) (h_a1 : a1 = 49 ∨ a1 = 55 ∨ a1 = 82) : am_V d Q 101 121 [some (.ref a0), some (.ref a1)] [] (am_hp N r I J) =
    Q .null (am_hp N r I J) :=
  by rcases h_a0 with rfl | rfl | rfl <;> rcases h_a1 with rfl | rfl | rfl <;> exact (am_V_un (fun p => Nat.beq p 62 || Nat.beq p 76 || Nat.beq p 91 || Nat.beq p 106 || Nat.beq p 121) 3).trans rfl
set_option maxRecDepth 100000 in
theorem e_World_hasArrived {d : Nat} {Q : Value → am_H → Prop} {N : Nat} {I : Nat → Nat → Int32} {J : Nat → Nat → Int64} {x1 : Int32} {r : am_rho} {a0 : Nat} (h_a0 : a0 = 49 ∨ a0 = 55 ∨ a0 = 82) : am_D (d + 1) 102 [.ref a0, .int x1] (am_hp N r I J) Q =
    am_if (decide ((((I a0 4) >>> (x1 &&& nI 31)) &&& (nI 1)) = (nI 0))) (Q (.int (nI 0)) (am_hp N r I J)) (Q (.int (nI 1)) (am_hp N r I J)) :=
  by rcases h_a0 with rfl | rfl | rfl <;> exact (am_D_un rfl (fun p => false) 12).trans rfl
set_option maxRecDepth 100000 in
theorem e_World_holder {d : Nat} {Q : Value → am_H → Prop} {N : Nat} {I : Nat → Nat → Int32} {J : Nat → Nat → Int64} {x1 : Int32} {r : am_rho} {a0 : Nat} (h_a0 : a0 = 49 ∨ a0 = 55 ∨ a0 = 82) : am_D (d + 1) 103 [.ref a0, .int x1] (am_hp N r I J) Q =
    am_D d 105 [.ref (a0 + 2), .int x1] (am_hp N r I J) (fun v h => am_asI v (fun y => am_V d Q 103 8 [some (.ref a0), some (.int x1)] [.int y] h)) :=
  by rcases h_a0 with rfl | rfl | rfl <;> exact (am_D_un rfl (fun p => Nat.beq p 8) 6).trans rfl
set_option maxRecDepth 100000 in
theorem e_World_holder_8 {d : Nat} {Q : Value → am_H → Prop} {N : Nat} {I : Nat → Nat → Int32} {J : Nat → Nat → Int64} {x1 : Int32} {y0 : Int32} {r : am_rho} {a0 : Nat} (h_a0 : a0 = 49 ∨ a0 = 55 ∨ a0 = 82) : am_V d Q 103 8 [some (.ref a0), some (.int x1)] [.int y0] (am_hp N r I J) =
    Q (.int y0) (am_hp N r I J) :=
  by rcases h_a0 with rfl | rfl | rfl <;> exact (am_V_un (fun p => Nat.beq p 8) 3).trans rfl
set_option maxRecDepth 100000 in
theorem e_World_lyingIn {d : Nat} {Q : Value → am_H → Prop} {N : Nat} {I : Nat → Nat → Int32} {J : Nat → Nat → Int64} {x1 : Int32} {r : am_rho} {a0 : Nat} (h_a0 : a0 = 49 ∨ a0 = 55 ∨ a0 = 82) : am_D (d + 1) 104 [.ref a0, .int x1] (am_hp N r I J) Q =
    am_D d 105 [.ref (a0 + 3), .int x1] (am_hp N r I J) (fun v h => am_asI v (fun y => am_V d Q 104 8 [some (.ref a0), some (.int x1)] [.int y] h)) :=
  by rcases h_a0 with rfl | rfl | rfl <;> exact (am_D_un rfl (fun p => Nat.beq p 8) 6).trans rfl
set_option maxRecDepth 100000 in
theorem e_World_lyingIn_8 {d : Nat} {Q : Value → am_H → Prop} {N : Nat} {I : Nat → Nat → Int32} {J : Nat → Nat → Int64} {x1 : Int32} {y0 : Int32} {r : am_rho} {a0 : Nat} (h_a0 : a0 = 49 ∨ a0 = 55 ∨ a0 = 82) : am_V d Q 104 8 [some (.ref a0), some (.int x1)] [.int y0] (am_hp N r I J) =
    Q (.int y0) (am_hp N r I J) :=
  by rcases h_a0 with rfl | rfl | rfl <;> exact (am_V_un (fun p => Nat.beq p 8) 3).trans rfl
set_option maxRecDepth 100000 in
theorem e_World_rowWith {d : Nat} {Q : Value → am_H → Prop} {N : Nat} {I : Nat → Nat → Int32} {J : Nat → Nat → Int64} {a0 : Nat} {x1 : Int32} {r : am_rho} : am_D (d + 1) 105 [.ref a0, .int x1] (am_hp N r I J) Q =
    am_V d Q 105 2 [some (.ref a0), some (.int x1), some (.int (nI 0))] [] (am_hp N r I J) :=
  (am_D_un rfl (fun p => Nat.beq p 2) 4).trans rfl
set_option maxRecDepth 100000 in
theorem e_World_rowWith_2 {d : Nat} {Q : Value → am_H → Prop} {N : Nat} {I : Nat → Nat → Int32} {J : Nat → Nat → Int64} {a0 : Nat} {x1 : Int32} {x2 : Int32} {r : am_rho} : am_V d Q 105 2 [some (.ref a0), some (.int x1), some (.int x2)] [] (am_hp N r I J) =
    am_g (!(Nat.beq (am_TT N a0).1 0) && Nat.ble (am_TT N a0).1 7) (am_if (decide ((nI (am_TT N a0).2) ≤ x2)) (Q (.int (-nI 1)) (am_hp N r I J)) (am_g ((Nat.beq (am_TT N a0).1 1 || Nat.beq (am_TT N a0).1 5) && am_inb x2 (am_TT N a0).2) (am_if (decide ((((I a0 x2.toNatClampNeg) >>> (x1 &&& nI 31)) &&& (nI 1)) = (nI 0))) (am_V d Q 105 2 [some (.ref a0), some (.int x1), some (.int (x2 + (nI 1)))] [] (am_hp N r I J)) (Q (.int x2) (am_hp N r I J))))) :=
  (am_V_un (fun p => Nat.beq p 2) 16).trans rfl
set_option maxRecDepth 100000 in
theorem e_World_lettersInHand {d : Nat} {Q : Value → am_H → Prop} {N : Nat} {I : Nat → Nat → Int32} {J : Nat → Nat → Int64} {r : am_rho} {a0 : Nat} (h_a0 : a0 = 49 ∨ a0 = 55 ∨ a0 = 82) : am_D (d + 1) 106 [.ref a0] (am_hp N r I J) Q =
    am_V d Q 106 4 [some (.ref a0), some (.int (nI 0)), some (.int (nI 0))] [] (am_hp N r I J) :=
  by rcases h_a0 with rfl | rfl | rfl <;> exact (am_D_un rfl (fun p => Nat.beq p 4 || Nat.beq p 19) 6).trans rfl
set_option maxRecDepth 100000 in
theorem e_World_lettersInHand_4 {d : Nat} {Q : Value → am_H → Prop} {N : Nat} {I : Nat → Nat → Int32} {J : Nat → Nat → Int64} {x1 : Int32} {x2 : Int32} {r : am_rho} {a0 : Nat} (h_a0 : a0 = 49 ∨ a0 = 55 ∨ a0 = 82) : am_V d Q 106 4 [some (.ref a0), some (.int x1), some (.int x2)] [] (am_hp N r I J) =
    am_if (decide (((nI 5) : Int32) ≤ x2)) (Q (.int x1) (am_hp N r I J)) (am_g (am_inb x2 5) (am_D d 277 [.int (I (a0 + 2) x2.toNatClampNeg)] (am_hp N r I J) (fun v h => am_asI v (fun y => am_V d Q 106 19 [some (.ref a0), some (.int x1), some (.int x2)] [.int y, .int x1] h)))) :=
  by rcases h_a0 with rfl | rfl | rfl <;> exact (am_V_un (fun p => Nat.beq p 4 || Nat.beq p 19) 11).trans rfl
set_option maxRecDepth 100000 in
theorem e_World_lettersInHand_19 {d : Nat} {Q : Value → am_H → Prop} {N : Nat} {I : Nat → Nat → Int32} {J : Nat → Nat → Int64} {x1 : Int32} {x2 : Int32} {y0 : Int32} {y1 : Int32} {r : am_rho} {a0 : Nat} (h_a0 : a0 = 49 ∨ a0 = 55 ∨ a0 = 82) : am_V d Q 106 19 [some (.ref a0), some (.int x1), some (.int x2)] [.int y1, .int y0] (am_hp N r I J) =
    am_V d Q 106 4 [some (.ref a0), some (.int (y0 + y1)), some (.int (x2 + (nI 1)))] [] (am_hp N r I J) :=
  by rcases h_a0 with rfl | rfl | rfl <;> exact (am_V_un (fun p => Nat.beq p 4 || Nat.beq p 19) 6).trans rfl
set_option maxRecDepth 100000 in
theorem e_World_shift {d : Nat} {Q : Value → am_H → Prop} {N : Nat} {I : Nat → Nat → Int32} {J : Nat → Nat → Int64} {x1 : Int32} {x2 : Int32} {x3 : Int32} {r : am_rho} {a0 : Nat} (h_a0 : a0 = 49 ∨ a0 = 55 ∨ a0 = 82) : am_D (d + 1) 107 [.ref a0, .int x1, .int x2, .int x3] (am_hp N r I J) Q =
    am_if (decide (x2 = (-nI 1))) (am_g (am_inb x3 8) (am_g (am_inb x3 8) (Q .null (am_hp N r (am_u I (a0 + 3) x3.toNatClampNeg ((I (a0 + 3) x3.toNatClampNeg) ||| ((nI 1) <<< (x1 &&& nI 31)))) J)))) (am_g (am_inb x2 8) (am_g (am_inb x2 8) (am_g (am_inb x3 8) (am_g (am_inb x3 8) (Q .null (am_hp N r (am_u (am_u I (a0 + 3) x2.toNatClampNeg ((I (a0 + 3) x2.toNatClampNeg) &&& (((nI 1) <<< (x1 &&& nI 31)) ^^^ (-nI 1)))) (a0 + 3) x3.toNatClampNeg (((am_u I (a0 + 3) x2.toNatClampNeg ((I (a0 + 3) x2.toNatClampNeg) &&& (((nI 1) <<< (x1 &&& nI 31)) ^^^ (-nI 1)))) (a0 + 3) x3.toNatClampNeg) ||| ((nI 1) <<< (x1 &&& nI 31)))) J)))))) :=
  by rcases h_a0 with rfl | rfl | rfl <;> exact (am_D_un rfl (fun p => false) 28).trans rfl
set_option maxRecDepth 100000 in
theorem e_World_take {d : Nat} {Q : Value → am_H → Prop} {N : Nat} {I : Nat → Nat → Int32} {J : Nat → Nat → Int64} {x1 : Int32} {x2 : Int32} {r : am_rho} {a0 : Nat} (h_a0 : a0 = 49 ∨ a0 = 55 ∨ a0 = 82) : am_D (d + 1) 108 [.ref a0, .int x1, .int x2] (am_hp N r I J) Q =
    am_g (am_inb x1 5) (am_if (decide ((I (a0 + 1) x1.toNatClampNeg) = x2)) (am_g (am_inb x2 8) (am_g (am_inb x2 8) (am_g (am_inb x1 5) (am_g (am_inb x1 5) (am_V d Q 108 38 [some (.ref a0), some (.int x1), some (.int x2), some (.int (I (a0 + 3) x2.toNatClampNeg)), some (.int (nI 0))] [] (am_hp N r (am_u (am_u I (a0 + 3) x2.toNatClampNeg (nI 0)) (a0 + 2) x1.toNatClampNeg (((am_u I (a0 + 3) x2.toNatClampNeg (nI 0)) (a0 + 2) x1.toNatClampNeg) ||| (I (a0 + 3) x2.toNatClampNeg))) J)))))) (Q .null (am_hp N r I J))) :=
  by rcases h_a0 with rfl | rfl | rfl <;> exact (am_D_un rfl (fun p => Nat.beq p 38) 28).trans rfl
set_option maxRecDepth 100000 in
theorem e_World_take_38 {d : Nat} {Q : Value → am_H → Prop} {N : Nat} {I : Nat → Nat → Int32} {J : Nat → Nat → Int64} {x1 : Int32} {x2 : Int32} {x3 : Int32} {x4 : Int32} {r : am_rho} {a0 : Nat} (h_a0 : a0 = 49 ∨ a0 = 55 ∨ a0 = 82) : am_V d Q 108 38 [some (.ref a0), some (.int x1), some (.int x2), some (.int x3), some (.int x4)] [] (am_hp N r I J) =
    am_if (decide (((nI 8) : Int32) ≤ x4)) (Q .null (am_hp N r I J)) (am_if (decide ((x3 >>> (x4 &&& nI 31)) = (nI 0))) (Q .null (am_hp N r I J)) (am_if (decide (((x3 >>> (x4 &&& nI 31)) &&& (nI 1)) = (nI 0))) (am_V d Q 108 38 [some (.ref a0), some (.int x1), some (.int x2), some (.int x3), some (.int (x4 + (nI 1)))] [] (am_hp N r I J)) (am_g (am_inb x4 8) (am_V d Q 108 38 [some (.ref a0), some (.int x1), some (.int x2), some (.int x3), some (.int (x4 + (nI 1)))] [] (am_hp N r (am_u I (a0 + 4) x4.toNatClampNeg x1) J))))) :=
  by rcases h_a0 with rfl | rfl | rfl <;> exact (am_V_un (fun p => Nat.beq p 38) 22).trans rfl
set_option maxRecDepth 100000 in
theorem e_World_handOver {d : Nat} {Q : Value → am_H → Prop} {N : Nat} {I : Nat → Nat → Int32} {J : Nat → Nat → Int64} {x1 : Int32} {x2 : Int32} {r : am_rho} {a0 : Nat} (h_a0 : a0 = 49 ∨ a0 = 55 ∨ a0 = 82) : am_D (d + 1) 109 [.ref a0, .int x1, .int x2] (am_hp N r I J) Q =
    am_g (am_inb x1 5) (am_g (am_inb x1 5) (am_g (am_inb x1 5) (Q .null (am_hp N r (am_u (am_u I a0 4 ((I a0 4) ||| ((I (a0 + 2) x1.toNatClampNeg) &&& x2))) (a0 + 2) x1.toNatClampNeg (((am_u I a0 4 ((I a0 4) ||| ((I (a0 + 2) x1.toNatClampNeg) &&& x2))) (a0 + 2) x1.toNatClampNeg) &&& (x2 ^^^ (-nI 1)))) J)))) :=
  by rcases h_a0 with rfl | rfl | rfl <;> exact (am_D_un rfl (fun p => false) 24).trans rfl
set_option maxRecDepth 100000 in
theorem e_World_putDown {d : Nat} {Q : Value → am_H → Prop} {N : Nat} {I : Nat → Nat → Int32} {J : Nat → Nat → Int64} {x1 : Int32} {r : am_rho} {a0 : Nat} (h_a0 : a0 = 49 ∨ a0 = 55 ∨ a0 = 82) : am_D (d + 1) 110 [.ref a0, .int x1] (am_hp N r I J) Q =
    am_g (am_inb x1 5) (am_g (am_inb (I (a0 + 1) x1.toNatClampNeg) 8) (am_g (am_inb x1 5) (am_g (am_inb (I (a0 + 1) x1.toNatClampNeg) 8) (am_g (am_inb x1 5) (Q .null (am_hp N r (am_u (am_u I (a0 + 3) (I (a0 + 1) x1.toNatClampNeg).toNatClampNeg ((I (a0 + 3) (I (a0 + 1) x1.toNatClampNeg).toNatClampNeg) ||| (I (a0 + 2) x1.toNatClampNeg))) (a0 + 2) x1.toNatClampNeg (nI 0)) J)))))) :=
  by rcases h_a0 with rfl | rfl | rfl <;> exact (am_D_un rfl (fun p => false) 22).trans rfl
set_option maxRecDepth 100000 in
theorem e_World_passHour {d : Nat} {Q : Value → am_H → Prop} {N : Nat} {I : Nat → Nat → Int32} {J : Nat → Nat → Int64} {r : am_rho} {a0 : Nat} {a1 : Nat} (h_a0 : a0 = 49 ∨ a0 = 55 ∨ a0 = 82) (h_a1 : a1 = 3 ∨ a1 = 23) : am_D (d + 1) 111 [.ref a0, .ref a1] (am_hp N r I J) Q =
    am_if (decide (((nI 12) : Int32) ≤ ((I a0 0) + (nI 1)))) (am_D d 112 [.ref a0, .ref a1] (am_hp N r I J) (fun v h => am_V d Q 111 29 [some (.ref a0), some (.ref a1)] [] h)) (am_V d Q 111 29 [some (.ref a0), some (.ref a1)] [] (am_hp N r (am_u I a0 0 ((I a0 0) + (nI 1))) J)) :=
  by rcases h_a0 with rfl | rfl | rfl <;> rcases h_a1 with rfl | rfl <;> exact (am_D_un rfl (fun p => Nat.beq p 29) 15).trans rfl
set_option maxRecDepth 100000 in
theorem e_World_passHour_29 {d : Nat} {Q : Value → am_H → Prop} {N : Nat} {I : Nat → Nat → Int32} {J : Nat → Nat → Int64} {r : am_rho} {a0 : Nat} {a1 : Nat} (h_a0 : a0 = 49 ∨ a0 = 55 ∨ a0 = 82) (h_a1 : a1 = 3 ∨ a1 = 23) : am_V d Q 111 29 [some (.ref a0), some (.ref a1)] [] (am_hp N r I J) =
    Q .null (am_hp N r I J) :=
  by rcases h_a0 with rfl | rfl | rfl <;> rcases h_a1 with rfl | rfl <;> exact (am_V_un (fun p => Nat.beq p 29) 3).trans rfl
set_option maxRecDepth 100000 in
theorem e_World_endNight {d : Nat} {Q : Value → am_H → Prop} {N : Nat} {I : Nat → Nat → Int32} {J : Nat → Nat → Int64} {r : am_rho} {a0 : Nat} {a1 : Nat} (h_a0 : a0 = 49 ∨ a0 = 55 ∨ a0 = 82) (h_a1 : a1 = 3 ∨ a1 = 23) : am_D (d + 1) 112 [.ref a0, .ref a1] (am_hp N r I J) Q =
    am_V d Q 112 2 [some (.ref a0), some (.ref a1), some (.int (nI 0))] [] (am_hp N r I J) :=
  by rcases h_a0 with rfl | rfl | rfl <;> rcases h_a1 with rfl | rfl <;> exact (am_D_un rfl (fun p => Nat.beq p 2 || Nat.beq p 15) 4).trans rfl
set_option maxRecDepth 100000 in
theorem e_World_endNight_2 {d : Nat} {Q : Value → am_H → Prop} {N : Nat} {I : Nat → Nat → Int32} {J : Nat → Nat → Int64} {x2 : Int32} {r : am_rho} {a0 : Nat} {a1 : Nat} (h_a0 : a0 = 49 ∨ a0 = 55 ∨ a0 = 82) (h_a1 : a1 = 3 ∨ a1 = 23) : am_V d Q 112 2 [some (.ref a0), some (.ref a1), some (.int x2)] [] (am_hp N r I J) =
    am_if (decide ((I a1 2) ≤ x2)) (Q .null (am_hp N r (am_u (am_u (am_u I a0 3 (nI 0)) a0 0 (nI 0)) a0 1 (((am_u (am_u I a0 3 (nI 0)) a0 0 (nI 0)) a0 1) + (nI 1))) J)) (am_D d 110 [.ref a0, .int x2] (am_hp N r I J) (fun v h => am_V d Q 112 15 [some (.ref a0), some (.ref a1), some (.int x2)] [] h)) :=
  by rcases h_a0 with rfl | rfl | rfl <;> rcases h_a1 with rfl | rfl <;> exact (am_V_un (fun p => Nat.beq p 2 || Nat.beq p 15) 19).trans rfl
set_option maxRecDepth 100000 in
theorem e_World_endNight_15 {d : Nat} {Q : Value → am_H → Prop} {N : Nat} {I : Nat → Nat → Int32} {J : Nat → Nat → Int64} {x2 : Int32} {r : am_rho} {a0 : Nat} {a1 : Nat} (h_a0 : a0 = 49 ∨ a0 = 55 ∨ a0 = 82) (h_a1 : a1 = 3 ∨ a1 = 23) : am_V d Q 112 15 [some (.ref a0), some (.ref a1), some (.int x2)] [] (am_hp N r I J) =
    am_g (am_inb x2 5) (am_g (am_inb x2 5) (am_V d Q 112 2 [some (.ref a0), some (.ref a1), some (.int (x2 + (nI 1)))] [] (am_hp N r (am_u I (a0 + 1) x2.toNatClampNeg (I (a1 + 6) x2.toNatClampNeg)) J))) :=
  by rcases h_a0 with rfl | rfl | rfl <;> rcases h_a1 with rfl | rfl <;> exact (am_V_un (fun p => Nat.beq p 2 || Nat.beq p 15) 12).trans rfl
set_option maxRecDepth 100000 in
theorem e_World_draw {d : Nat} {Q : Value → am_H → Prop} {N : Nat} {I : Nat → Nat → Int32} {J : Nat → Nat → Int64} {r : am_rho} {a0 : Nat} (h_a0 : a0 = 49 ∨ a0 = 55 ∨ a0 = 82) : am_D (d + 1) 113 [.ref a0] (am_hp N r I J) Q =
    Q (.int (((am_u I a0 2 (Int64.toInt32 ((((Int32.toInt64 (I a0 2)) * (Int64.ofNat 1103515245)) + (Int64.ofNat 12345)) &&& (Int64.ofNat 2147483647)))) a0 2) / (nI 65536))) (am_hp N r (am_u I a0 2 (Int64.toInt32 ((((Int32.toInt64 (I a0 2)) * (Int64.ofNat 1103515245)) + (Int64.ofNat 12345)) &&& (Int64.ofNat 2147483647)))) J) :=
  by rcases h_a0 with rfl | rfl | rfl <;> exact (am_D_un rfl (fun p => false) 19).trans rfl
set_option maxRecDepth 100000 in
theorem e_S_feed {d : Nat} {Q : Value → am_H → Prop} {N : Nat} {I : Nat → Nat → Int32} {J : Nat → Nat → Int64} {x1 : Int32} {x2 : Int32} {x3 : Int32} {x4 : Int32} {x5 : Int32} {r : am_rho} : am_D (d + 1) 115 [.ref 1, .int x1, .int x2, .int x3, .int x4, .int x5] (am_hp N r I J) Q =
    am_if (decide (((I 1 1) + (nI 20)) ≤ (nI 700))) (am_D d 149 [.ref 1, .int x1] (am_hp N r I J) (fun v h => am_V d Q 115 20 [some (.ref 1), some (.int x1), some (.int x2), some (.int x3), some (.int x4), some (.int x5)] [] h)) (Q (.int (-nI 1)) (am_hp N r I J)) :=
  (am_D_un rfl (fun p => Nat.beq p 20 || Nat.beq p 25 || Nat.beq p 30 || Nat.beq p 36 || Nat.beq p 42) 11).trans rfl
set_option maxRecDepth 100000 in
theorem e_S_feed_20 {d : Nat} {Q : Value → am_H → Prop} {N : Nat} {I : Nat → Nat → Int32} {J : Nat → Nat → Int64} {x1 : Int32} {x2 : Int32} {x3 : Int32} {x4 : Int32} {x5 : Int32} {r : am_rho} : am_V d Q 115 20 [some (.ref 1), some (.int x1), some (.int x2), some (.int x3), some (.int x4), some (.int x5)] [] (am_hp N r I J) =
    am_D d 149 [.ref 1, .int x2] (am_hp N r I J) (fun v h => am_V d Q 115 25 [some (.ref 1), some (.int x1), some (.int x2), some (.int x3), some (.int x4), some (.int x5)] [] h) :=
  (am_V_un (fun p => Nat.beq p 20 || Nat.beq p 25 || Nat.beq p 30 || Nat.beq p 36 || Nat.beq p 42) 5).trans rfl
set_option maxRecDepth 100000 in
theorem e_S_feed_25 {d : Nat} {Q : Value → am_H → Prop} {N : Nat} {I : Nat → Nat → Int32} {J : Nat → Nat → Int64} {x1 : Int32} {x2 : Int32} {x3 : Int32} {x4 : Int32} {x5 : Int32} {r : am_rho} : am_V d Q 115 25 [some (.ref 1), some (.int x1), some (.int x2), some (.int x3), some (.int x4), some (.int x5)] [] (am_hp N r I J) =
    am_D d 149 [.ref 1, .int x3] (am_hp N r I J) (fun v h => am_V d Q 115 30 [some (.ref 1), some (.int x1), some (.int x2), some (.int x3), some (.int x4), some (.int x5)] [] h) :=
  (am_V_un (fun p => Nat.beq p 20 || Nat.beq p 25 || Nat.beq p 30 || Nat.beq p 36 || Nat.beq p 42) 5).trans rfl
set_option maxRecDepth 100000 in
theorem e_S_feed_30 {d : Nat} {Q : Value → am_H → Prop} {N : Nat} {I : Nat → Nat → Int32} {J : Nat → Nat → Int64} {x1 : Int32} {x2 : Int32} {x3 : Int32} {x4 : Int32} {x5 : Int32} {r : am_rho} : am_V d Q 115 30 [some (.ref 1), some (.int x1), some (.int x2), some (.int x3), some (.int x4), some (.int x5)] [] (am_hp N r I J) =
    am_D d 149 [.ref 1, .int x4] (am_hp N r I J) (fun v h => am_V d Q 115 36 [some (.ref 1), some (.int x1), some (.int x2), some (.int x3), some (.int x4), some (.int x5)] [] h) :=
  (am_V_un (fun p => Nat.beq p 20 || Nat.beq p 25 || Nat.beq p 30 || Nat.beq p 36 || Nat.beq p 42) 5).trans rfl
set_option maxRecDepth 100000 in
theorem e_S_feed_36 {d : Nat} {Q : Value → am_H → Prop} {N : Nat} {I : Nat → Nat → Int32} {J : Nat → Nat → Int64} {x1 : Int32} {x2 : Int32} {x3 : Int32} {x4 : Int32} {x5 : Int32} {r : am_rho} : am_V d Q 115 36 [some (.ref 1), some (.int x1), some (.int x2), some (.int x3), some (.int x4), some (.int x5)] [] (am_hp N r I J) =
    am_D d 149 [.ref 1, .int x5] (am_hp N r I J) (fun v h => am_V d Q 115 42 [some (.ref 1), some (.int x1), some (.int x2), some (.int x3), some (.int x4), some (.int x5)] [] h) :=
  (am_V_un (fun p => Nat.beq p 20 || Nat.beq p 25 || Nat.beq p 30 || Nat.beq p 36 || Nat.beq p 42) 5).trans rfl
set_option maxRecDepth 100000 in
theorem e_S_feed_42 {d : Nat} {Q : Value → am_H → Prop} {N : Nat} {I : Nat → Nat → Int32} {J : Nat → Nat → Int64} {x1 : Int32} {x2 : Int32} {x3 : Int32} {x4 : Int32} {x5 : Int32} {r : am_rho} : am_V d Q 115 42 [some (.ref 1), some (.int x1), some (.int x2), some (.int x3), some (.int x4), some (.int x5)] [] (am_hp N r I J) =
    Q (.int (I 1 1)) (am_hp N r I J) :=
  (am_V_un (fun p => Nat.beq p 20 || Nat.beq p 25 || Nat.beq p 30 || Nat.beq p 36 || Nat.beq p 42) 5).trans rfl
set_option maxRecDepth 100000 in
theorem e_S_text {d : Nat} {Q : Value → am_H → Prop} {N : Nat} {I : Nat → Nat → Int32} {J : Nat → Nat → Int64} {x1 : Int32} {rt rs rd rl rx nt nw nf : Nat} (h_rs : rs = 3 ∨ rs = 23) : am_D (d + 1) 116 [.ref 1, .int x1] (am_hp N (rt, rs, rd, rl, rx, nt, nw, nf) I J) Q =
    am_if (decide (x1 < (nI 0))) (Q (.int (-nI 2)) (am_hp N (rt, rs, rd, rl, rx, nt, nw, nf) I J)) (am_if (decide (x1 ≤ (I 1 1))) (am_D d 73 [.ref rs] (am_hp N (rt, rs, rd, rl, rx, nt, nw, nf) (am_u I 1 1 (nI 0)) J) (fun v h => am_V d Q 116 27 [some (.ref 1), some (.int x1), none] [] h)) (Q (.int (-nI 2)) (am_hp N (rt, rs, rd, rl, rx, nt, nw, nf) I J))) :=
  by rcases h_rs with rfl | rfl <;> exact (am_D_un rfl (fun p => Nat.beq p 27 || Nat.beq p 43 || Nat.beq p 70) 14).trans rfl
set_option maxRecDepth 100000 in
theorem e_S_text_27 {d : Nat} {Q : Value → am_H → Prop} {N : Nat} {I : Nat → Nat → Int32} {J : Nat → Nat → Int64} {x1 : Int32} {rt rs rd rl rx nt nw nf : Nat} (h_rs : rs = 3 ∨ rs = 23) : am_V d Q 116 27 [some (.ref 1), some (.int x1), none] [] (am_hp N (rt, rs, rd, rl, rx, nt, nw, nf) I J) =
    am_D d 31 [.ref 43, .ref 2, .int x1, .ref rs] (am_hp N (rt, rs, rd, rl, rx, nt, nw, nf) I J) (fun v h => am_asI v (fun y => am_V d Q 116 43 [some (.ref 1), some (.int x1), none] [.int y] h)) :=
  by rcases h_rs with rfl | rfl <;> exact (am_V_un (fun p => Nat.beq p 27 || Nat.beq p 43 || Nat.beq p 70) 10).trans rfl
set_option maxRecDepth 100000 in
theorem e_S_text_43 {d : Nat} {Q : Value → am_H → Prop} {N : Nat} {I : Nat → Nat → Int32} {J : Nat → Nat → Int64} {x1 : Int32} {y0 : Int32} {rt rs rd rl rx nt nw nf : Nat} (h_rs : rs = 3 ∨ rs = 23) (h_rt : rt = 3 ∨ rt = 23) : am_V d Q 116 43 [some (.ref 1), some (.int x1), none] [.int y0] (am_hp N (rt, rs, rd, rl, rx, nt, nw, nf) I J) =
    am_if (!(decide (y0 = (nI 0)))) (am_D d 150 [.ref 1] (140, am_TT N, I, J, (am_uR (am_uR (am_RR (rt, rs, rd, rl, rx, nt, nw, nf)) 1 3 rt) 1 2 rs)) (fun v h => am_V d Q 116 70 [some (.ref 1), some (.int x1), some (.ref rs)] [] h)) (Q (.int (-nI 1)) (am_hp N (rt, rs, rd, rl, rx, nt, nw, nf) I J)) :=
  by rcases h_rs with rfl | rfl <;> rcases h_rt with rfl | rfl <;> exact (am_V_un (fun p => Nat.beq p 27 || Nat.beq p 43 || Nat.beq p 70) 15).trans rfl
set_option maxRecDepth 100000 in
theorem e_S_text_70 {d : Nat} {Q : Value → am_H → Prop} {N : Nat} {I : Nat → Nat → Int32} {J : Nat → Nat → Int64} {x1 : Int32} {a2 : Nat} {r : am_rho} : am_V d Q 116 70 [some (.ref 1), some (.int x1), some (.ref a2)] [] (am_hp N r I J) =
    Q (.int (I 43 5)) (am_hp N r I J) :=
  (am_V_un (fun p => Nat.beq p 27 || Nat.beq p 43 || Nat.beq p 70) 6).trans rfl
set_option maxRecDepth 100000 in
theorem e_S_fault {d : Nat} {Q : Value → am_H → Prop} {N : Nat} {I : Nat → Nat → Int32} {J : Nat → Nat → Int64} {x1 : Int32} {r : am_rho} : am_D (d + 1) 117 [.ref 1, .int x1] (am_hp N r I J) Q =
    am_if (decide (x1 = (nI 0))) (Q (.int (I 43 6)) (am_hp N r I J)) (am_if (decide (x1 = (nI 1))) (Q (.int (I 43 7)) (am_hp N r I J)) (Q (.int (-nI 1)) (am_hp N r I J))) :=
  (am_D_un rfl (fun p => false) 8).trans rfl
set_option maxRecDepth 100000 in
theorem e_S_named {d : Nat} {Q : Value → am_H → Prop} {N : Nat} {I : Nat → Nat → Int32} {J : Nat → Nat → Int64} {x1 : Int32} {x2 : Int32} {rt rs rd rl rx nt nw nf : Nat} (h_rt : rt = 3 ∨ rt = 23) : am_D (d + 1) 118 [.ref 1, .int x1, .int x2] (am_hp N (rt, rs, rd, rl, rx, nt, nw, nf) I J) Q =
    am_if (decide (x1 = (nI 0))) (am_D d 157 [.int x2, .ref (rt + 1), .int (I rt 0)] (am_hp N (rt, rs, rd, rl, rx, nt, nw, nf) I J) (fun v h => am_asI v (fun y => am_V d Q 118 46 [some (.ref 1), some (.int x1), some (.int x2)] [.int y] h))) (am_if (decide (x1 = (nI 1))) (am_D d 157 [.int x2, .ref (rt + 2), .int (I rt 2)] (am_hp N (rt, rs, rd, rl, rx, nt, nw, nf) I J) (fun v h => am_asI v (fun y => am_V d Q 118 65 [some (.ref 1), some (.int x1), some (.int x2)] [.int y] h))) (Q (.int (-nI 1)) (am_hp N (rt, rs, rd, rl, rx, nt, nw, nf) I J))) :=
  by rcases h_rt with rfl | rfl <;> exact (am_D_un rfl (fun p => Nat.beq p 46 || Nat.beq p 65) 12).trans rfl
set_option maxRecDepth 100000 in
theorem e_S_named_46 {d : Nat} {Q : Value → am_H → Prop} {N : Nat} {I : Nat → Nat → Int32} {J : Nat → Nat → Int64} {x1 : Int32} {x2 : Int32} {y0 : Int32} {r : am_rho} : am_V d Q 118 46 [some (.ref 1), some (.int x1), some (.int x2)] [.int y0] (am_hp N r I J) =
    Q (.int y0) (am_hp N r I J) :=
  (am_V_un (fun p => Nat.beq p 46 || Nat.beq p 65) 3).trans rfl
set_option maxRecDepth 100000 in
theorem e_S_named_65 {d : Nat} {Q : Value → am_H → Prop} {N : Nat} {I : Nat → Nat → Int32} {J : Nat → Nat → Int64} {x1 : Int32} {x2 : Int32} {y0 : Int32} {r : am_rho} : am_V d Q 118 65 [some (.ref 1), some (.int x1), some (.int x2)] [.int y0] (am_hp N r I J) =
    Q (.int y0) (am_hp N r I J) :=
  (am_V_un (fun p => Nat.beq p 46 || Nat.beq p 65) 3).trans rfl
set_option maxRecDepth 100000 in
theorem e_S_look {d : Nat} {Q : Value → am_H → Prop} {N : Nat} {I : Nat → Nat → Int32} {J : Nat → Nat → Int64} {x1 : Int32} {x2 : Int32} {r : am_rho} : am_D (d + 1) 119 [.ref 1, .int x1, .int x2] (am_hp N r I J) Q =
    am_D d 152 [.ref 1, .int x1] (am_hp N r I J) (fun v h => am_asI v (fun y => am_V d Q 119 5 [some (.ref 1), some (.int x1), some (.int x2)] [.int y] h)) :=
  (am_D_un rfl (fun p => Nat.beq p 5) 5).trans rfl
set_option maxRecDepth 100000 in
theorem e_S_look_5 {d : Nat} {Q : Value → am_H → Prop} {N : Nat} {I : Nat → Nat → Int32} {J : Nat → Nat → Int64} {x1 : Int32} {x2 : Int32} {y0 : Int32} {rt rs rd rl rx nt nw nf : Nat} (h_rt : rt = 3 ∨ rt = 23) : am_V d Q 119 5 [some (.ref 1), some (.int x1), some (.int x2)] [.int y0] (am_hp N (rt, rs, rd, rl, rx, nt, nw, nf) I J) =
    am_if (!(decide (y0 = (nI 0)))) (am_if (decide (x2 = (nI 0))) (am_g (am_inb x1 5) (Q (.int (I 50 x1.toNatClampNeg)) (am_hp N (rt, rs, rd, rl, rx, nt, nw, nf) I J))) (am_if (decide (x2 = (nI 1))) (am_g (am_inb x1 5) (Q (.int (I (rt + 6) x1.toNatClampNeg)) (am_hp N (rt, rs, rd, rl, rx, nt, nw, nf) I J))) (am_if (decide (x2 = (nI 2))) (am_g (am_inb x1 5) (Q (.int (I (rt + 8) x1.toNatClampNeg)) (am_hp N (rt, rs, rd, rl, rx, nt, nw, nf) I J))) (am_if (decide (x2 = (nI 3))) (am_g (am_inb x1 5) (Q (.int (I (rt + 7) x1.toNatClampNeg)) (am_hp N (rt, rs, rd, rl, rx, nt, nw, nf) I J))) (am_if (decide (x2 = (nI 4))) (Q (.int (((I 49 3) >>> (x1 &&& nI 31)) &&& (nI 1))) (am_hp N (rt, rs, rd, rl, rx, nt, nw, nf) I J)) (am_if (decide (x2 = (nI 5))) (am_g (am_inb x1 5) (Q (.int (I 51 x1.toNatClampNeg)) (am_hp N (rt, rs, rd, rl, rx, nt, nw, nf) I J))) (False))))))) (False) :=
  by rcases h_rt with rfl | rfl <;> exact (am_V_un (fun p => Nat.beq p 5) 13).trans rfl
set_option maxRecDepth 100000 in
theorem e_S_letter {d : Nat} {Q : Value → am_H → Prop} {N : Nat} {I : Nat → Nat → Int32} {J : Nat → Nat → Int64} {x1 : Int32} {x2 : Int32} {r : am_rho} : am_D (d + 1) 120 [.ref 1, .int x1, .int x2] (am_hp N r I J) Q =
    am_D d 153 [.ref 1, .int x1] (am_hp N r I J) (fun v h => am_asI v (fun y => am_V d Q 120 5 [some (.ref 1), some (.int x1), some (.int x2)] [.int y] h)) :=
  (am_D_un rfl (fun p => Nat.beq p 5 || Nat.beq p 55 || Nat.beq p 64 || Nat.beq p 79) 5).trans rfl
set_option maxRecDepth 100000 in
theorem e_S_letter_5 {d : Nat} {Q : Value → am_H → Prop} {N : Nat} {I : Nat → Nat → Int32} {J : Nat → Nat → Int64} {x1 : Int32} {x2 : Int32} {y0 : Int32} {rt rs rd rl rx nt nw nf : Nat} (h_rt : rt = 3 ∨ rt = 23) : am_V d Q 120 5 [some (.ref 1), some (.int x1), some (.int x2)] [.int y0] (am_hp N (rt, rs, rd, rl, rx, nt, nw, nf) I J) =
    am_if (!(decide (y0 = (nI 0)))) (am_if (decide (x2 = (nI 0))) (am_g (am_inb x1 8) (Q (.int (I (rt + 10) x1.toNatClampNeg)) (am_hp N (rt, rs, rd, rl, rx, nt, nw, nf) I J))) (am_if (decide (x2 = (nI 1))) (am_D d 156 [.ref 1, .int x1] (am_hp N (rt, rs, rd, rl, rx, nt, nw, nf) I J) (fun v h => am_asI v (fun y => am_V d Q 120 55 [some (.ref 1), some (.int x1), some (.int x2)] [.int y] h))) (am_if (decide (x2 = (nI 2))) (am_D d 102 [.ref 49, .int x1] (am_hp N (rt, rs, rd, rl, rx, nt, nw, nf) I J) (fun v h => am_asI v (fun y => am_V d Q 120 64 [some (.ref 1), some (.int x1), some (.int x2)] [.int y] h))) (am_if (decide (x2 = (nI 3))) (am_g (am_inb x1 8) (Q (.int (I 53 x1.toNatClampNeg)) (am_hp N (rt, rs, rd, rl, rx, nt, nw, nf) I J))) (Q (.int (-nI 1)) (am_hp N (rt, rs, rd, rl, rx, nt, nw, nf) I J)))))) (Q (.int (-nI 1)) (am_hp N (rt, rs, rd, rl, rx, nt, nw, nf) I J)) :=
  by rcases h_rt with rfl | rfl <;> exact (am_V_un (fun p => Nat.beq p 5 || Nat.beq p 55 || Nat.beq p 64 || Nat.beq p 79) 11).trans rfl
set_option maxRecDepth 100000 in
theorem e_S_letter_55 {d : Nat} {Q : Value → am_H → Prop} {N : Nat} {I : Nat → Nat → Int32} {J : Nat → Nat → Int64} {x1 : Int32} {x2 : Int32} {y0 : Int32} {r : am_rho} : am_V d Q 120 55 [some (.ref 1), some (.int x1), some (.int x2)] [.int y0] (am_hp N r I J) =
    Q (.int y0) (am_hp N r I J) :=
  (am_V_un (fun p => Nat.beq p 5 || Nat.beq p 55 || Nat.beq p 64 || Nat.beq p 79) 3).trans rfl
set_option maxRecDepth 100000 in
theorem e_S_letter_64 {d : Nat} {Q : Value → am_H → Prop} {N : Nat} {I : Nat → Nat → Int32} {J : Nat → Nat → Int64} {x1 : Int32} {x2 : Int32} {y0 : Int32} {r : am_rho} : am_V d Q 120 64 [some (.ref 1), some (.int x1), some (.int x2)] [.int y0] (am_hp N r I J) =
    am_if (decide (y0 = (nI 0))) (am_D d 103 [.ref 49, .int x1] (am_hp N r I J) (fun v h => am_asI v (fun y => am_V d Q 120 79 [some (.ref 1), some (.int x1), some (.int x2)] [.int y] h))) (Q (.int (nI 2)) (am_hp N r I J)) :=
  (am_V_un (fun p => Nat.beq p 5 || Nat.beq p 55 || Nat.beq p 64 || Nat.beq p 79) 7).trans rfl
set_option maxRecDepth 100000 in
theorem e_S_letter_79 {d : Nat} {Q : Value → am_H → Prop} {N : Nat} {I : Nat → Nat → Int32} {J : Nat → Nat → Int64} {x1 : Int32} {x2 : Int32} {y0 : Int32} {r : am_rho} : am_V d Q 120 79 [some (.ref 1), some (.int x1), some (.int x2)] [.int y0] (am_hp N r I J) =
    am_if (decide (y0 = (-nI 1))) (Q (.int (nI 0)) (am_hp N r I J)) (Q (.int (nI 1)) (am_hp N r I J)) :=
  (am_V_un (fun p => Nat.beq p 5 || Nat.beq p 55 || Nat.beq p 64 || Nat.beq p 79) 7).trans rfl
set_option maxRecDepth 100000 in
theorem e_S_far {d : Nat} {Q : Value → am_H → Prop} {N : Nat} {I : Nat → Nat → Int32} {J : Nat → Nat → Int64} {x1 : Int32} {x2 : Int32} {r : am_rho} : am_D (d + 1) 121 [.ref 1, .int x1, .int x2] (am_hp N r I J) Q =
    am_D d 151 [.ref 1, .int x1] (am_hp N r I J) (fun v h => am_asI v (fun y => am_V d Q 121 5 [some (.ref 1), some (.int x1), some (.int x2)] [.int y] h)) :=
  (am_D_un rfl (fun p => Nat.beq p 5 || Nat.beq p 13) 5).trans rfl
set_option maxRecDepth 100000 in
theorem e_S_far_5 {d : Nat} {Q : Value → am_H → Prop} {N : Nat} {I : Nat → Nat → Int32} {J : Nat → Nat → Int64} {x1 : Int32} {x2 : Int32} {y0 : Int32} {r : am_rho} : am_V d Q 121 5 [some (.ref 1), some (.int x1), some (.int x2)] [.int y0] (am_hp N r I J) =
    am_if (decide (y0 = (nI 0))) (Q (.int (-nI 1)) (am_hp N r I J)) (am_D d 151 [.ref 1, .int x2] (am_hp N r I J) (fun v h => am_asI v (fun y => am_V d Q 121 13 [some (.ref 1), some (.int x1), some (.int x2)] [.int y] h))) :=
  (am_V_un (fun p => Nat.beq p 5 || Nat.beq p 13) 6).trans rfl
set_option maxRecDepth 100000 in
theorem e_S_far_13 {d : Nat} {Q : Value → am_H → Prop} {N : Nat} {I : Nat → Nat → Int32} {J : Nat → Nat → Int64} {x1 : Int32} {x2 : Int32} {y0 : Int32} {rt rs rd rl rx nt nw nf : Nat} (h_rt : rt = 3 ∨ rt = 23) : am_V d Q 121 13 [some (.ref 1), some (.int x1), some (.int x2)] [.int y0] (am_hp N (rt, rs, rd, rl, rx, nt, nw, nf) I J) =
    am_if (decide (y0 = (nI 0))) (Q (.int (-nI 1)) (am_hp N (rt, rs, rd, rl, rx, nt, nw, nf) I J)) (am_g (am_inb ((x1 * (nI 8)) + x2) 64) (Q (.int (I (rt + 5) ((x1 * (nI 8)) + x2).toNatClampNeg)) (am_hp N (rt, rs, rd, rl, rx, nt, nw, nf) I J))) :=
  by rcases h_rt with rfl | rfl <;> exact (am_V_un (fun p => Nat.beq p 5 || Nat.beq p 13) 14).trans rfl
set_option maxRecDepth 100000 in
theorem e_S_at {d : Nat} {Q : Value → am_H → Prop} {N : Nat} {I : Nat → Nat → Int32} {J : Nat → Nat → Int64} {x1 : Int32} {x2 : Int32} {x3 : Int32} {r : am_rho} : am_D (d + 1) 122 [.ref 1, .int x1, .int x2, .int x3] (am_hp N r I J) Q =
    am_D d 151 [.ref 1, .int x1] (am_hp N r I J) (fun v h => am_asI v (fun y => am_V d Q 122 5 [some (.ref 1), some (.int x1), some (.int x2), some (.int x3)] [.int y] h)) :=
  (am_D_un rfl (fun p => Nat.beq p 5 || Nat.beq p 35 || Nat.beq p 77) 5).trans rfl
set_option maxRecDepth 100000 in
theorem e_S_at_5 {d : Nat} {Q : Value → am_H → Prop} {N : Nat} {I : Nat → Nat → Int32} {J : Nat → Nat → Int64} {x1 : Int32} {x2 : Int32} {x3 : Int32} {y0 : Int32} {rt rs rd rl rx nt nw nf : Nat} (h_rt : rt = 3 ∨ rt = 23) : am_V d Q 122 5 [some (.ref 1), some (.int x1), some (.int x2), some (.int x3)] [.int y0] (am_hp N (rt, rs, rd, rl, rx, nt, nw, nf) I J) =
    am_if (decide (y0 = (nI 0))) (Q (.int (-nI 1)) (am_hp N (rt, rs, rd, rl, rx, nt, nw, nf) I J)) (am_if (decide (x2 < (nI 0))) (Q (.int (-nI 1)) (am_hp N (rt, rs, rd, rl, rx, nt, nw, nf) I J)) (am_if (decide (x2 < (nI 12))) (am_D d 20 [.ref 61, .ref rt, .ref 49] (am_hp N (rt, rs, rd, rl, rx, nt, nw, nf) I J) (fun v h => am_V d Q 122 35 [some (.ref 1), some (.int x1), some (.int x2), some (.int x3)] [] h)) (Q (.int (-nI 1)) (am_hp N (rt, rs, rd, rl, rx, nt, nw, nf) I J)))) :=
  by rcases h_rt with rfl | rfl <;> exact (am_V_un (fun p => Nat.beq p 5 || Nat.beq p 35 || Nat.beq p 77) 15).trans rfl
set_option maxRecDepth 100000 in
theorem e_S_at_35 {d : Nat} {Q : Value → am_H → Prop} {N : Nat} {I : Nat → Nat → Int32} {J : Nat → Nat → Int64} {x1 : Int32} {x2 : Int32} {x3 : Int32} {r : am_rho} : am_V d Q 122 35 [some (.ref 1), some (.int x1), some (.int x2), some (.int x3)] [] (am_hp N r I J) =
    am_if (decide (x3 = (nI 0))) (am_D d 22 [.ref 61, .ref 49, .int x1, .int x2] (am_hp N r I J) (fun v h => am_asI v (fun y => am_V d Q 122 77 [some (.ref 1), some (.int x1), some (.int x2), some (.int x3)] [.int y] h))) (am_if (decide (x3 = (nI 1))) (am_g (am_inb x1 8) (Q (.int (I 69 x1.toNatClampNeg)) (am_hp N r I J))) (Q (.int (-nI 1)) (am_hp N r I J))) :=
  (am_V_un (fun p => Nat.beq p 5 || Nat.beq p 35 || Nat.beq p 77) 11).trans rfl
set_option maxRecDepth 100000 in
theorem e_S_at_77 {d : Nat} {Q : Value → am_H → Prop} {N : Nat} {I : Nat → Nat → Int32} {J : Nat → Nat → Int64} {x1 : Int32} {x2 : Int32} {x3 : Int32} {y0 : Int32} {r : am_rho} : am_V d Q 122 77 [some (.ref 1), some (.int x1), some (.int x2), some (.int x3)] [.int y0] (am_hp N r I J) =
    Q (.int y0) (am_hp N r I J) :=
  (am_V_un (fun p => Nat.beq p 5 || Nat.beq p 35 || Nat.beq p 77) 3).trans rfl
set_option maxRecDepth 100000 in
theorem e_S_law {d : Nat} {Q : Value → am_H → Prop} {N : Nat} {I : Nat → Nat → Int32} {J : Nat → Nat → Int64} {x1 : Int32} {x2 : Int32} {x3 : Int32} {r : am_rho} : am_D (d + 1) 123 [.ref 1, .int x1, .int x2, .int x3] (am_hp N r I J) Q =
    am_if (decide (x1 < (nI 0))) (Q (.long (Int64.ofNat 9223372036854775808)) (am_hp N r I J)) (am_if (decide (((nI 3) : Int32) ≤ x1)) (Q (.long (Int64.ofNat 9223372036854775808)) (am_hp N r I J)) (am_D d 152 [.ref 1, .int x2] (am_hp N r I J) (fun v h => am_asI v (fun y => am_V d Q 123 14 [some (.ref 1), some (.int x1), some (.int x2), some (.int x3), none] [.int y] h)))) :=
  (am_D_un rfl (fun p => Nat.beq p 14 || Nat.beq p 22 || Nat.beq p 44 || Nat.beq p 96 || Nat.beq p 99) 10).trans rfl
set_option maxRecDepth 100000 in
theorem e_S_law_14 {d : Nat} {Q : Value → am_H → Prop} {N : Nat} {I : Nat → Nat → Int32} {J : Nat → Nat → Int64} {x1 : Int32} {x2 : Int32} {x3 : Int32} {y0 : Int32} {r : am_rho} : am_V d Q 123 14 [some (.ref 1), some (.int x1), some (.int x2), some (.int x3), none] [.int y0] (am_hp N r I J) =
    am_if (decide (y0 = (nI 0))) (Q (.long (Int64.ofNat 9223372036854775808)) (am_hp N r I J)) (am_D d 151 [.ref 1, .int x3] (am_hp N r I J) (fun v h => am_asI v (fun y => am_V d Q 123 22 [some (.ref 1), some (.int x1), some (.int x2), some (.int x3), none] [.int y] h))) :=
  (am_V_un (fun p => Nat.beq p 14 || Nat.beq p 22 || Nat.beq p 44 || Nat.beq p 96 || Nat.beq p 99) 6).trans rfl
set_option maxRecDepth 100000 in
theorem e_S_law_22 {d : Nat} {Q : Value → am_H → Prop} {N : Nat} {I : Nat → Nat → Int32} {J : Nat → Nat → Int64} {x1 : Int32} {x2 : Int32} {x3 : Int32} {y0 : Int32} {rt rs rd rl rx nt nw nf : Nat} (h_rt : rt = 3 ∨ rt = 23) : am_V d Q 123 22 [some (.ref 1), some (.int x1), some (.int x2), some (.int x3), none] [.int y0] (am_hp N (rt, rs, rd, rl, rx, nt, nw, nf) I J) =
    am_if (!(decide (y0 = (nI 0)))) (am_D d 20 [.ref 61, .ref rt, .ref 49] (am_hp N (rt, rs, rd, rl, rx, nt, nw, nf) I J) (fun v h => am_V d Q 123 44 [some (.ref 1), some (.int x1), some (.int x2), some (.int x3), none] [] h)) (Q (.long (Int64.ofNat 9223372036854775808)) (am_hp N (rt, rs, rd, rl, rx, nt, nw, nf) I J)) :=
  by rcases h_rt with rfl | rfl <;> exact (am_V_un (fun p => Nat.beq p 14 || Nat.beq p 22 || Nat.beq p 44 || Nat.beq p 96 || Nat.beq p 99) 10).trans rfl
set_option maxRecDepth 100000 in
theorem e_S_law_44 {d : Nat} {Q : Value → am_H → Prop} {N : Nat} {I : Nat → Nat → Int32} {J : Nat → Nat → Int64} {x1 : Int32} {x2 : Int32} {x3 : Int32} {rt rs rd rl rx nt nw nf : Nat} (h_rt : rt = 3 ∨ rt = 23) : am_V d Q 123 44 [some (.ref 1), some (.int x1), some (.int x2), some (.int x3), none] [] (am_hp N (rt, rs, rd, rl, rx, nt, nw, nf) I J) =
    am_if (!(decide (x1 = (nI 0)))) (am_D d 23 [.ref 61, .ref 49, .int x2, .int x3, .int (nI 0)] (am_hp N (rt, rs, rd, rl, rx, nt, nw, nf) I J) (fun v h => am_asI v (fun y => am_V d Q 123 96 [some (.ref 1), some (.int x1), some (.int x2), some (.int x3), some (.int (nI 0))] [.int y, .int x1, .ref 61] h))) (am_g (am_inb x2 5) (am_g (am_inb (((I 50 x2.toNatClampNeg) * (nI 8)) + x3) 64) (am_D d 23 [.ref 61, .ref 49, .int x2, .int x3, .int (I (rt + 4) (((I 50 x2.toNatClampNeg) * (nI 8)) + x3).toNatClampNeg)] (am_hp N (rt, rs, rd, rl, rx, nt, nw, nf) I J) (fun v h => am_asI v (fun y => am_V d Q 123 96 [some (.ref 1), some (.int x1), some (.int x2), some (.int x3), some (.int (I (rt + 4) (((I 50 x2.toNatClampNeg) * (nI 8)) + x3).toNatClampNeg))] [.int y, .int x1, .ref 61] h))))) :=
  by rcases h_rt with rfl | rfl <;> exact (am_V_un (fun p => Nat.beq p 14 || Nat.beq p 22 || Nat.beq p 44 || Nat.beq p 96 || Nat.beq p 99) 30).trans rfl
set_option maxRecDepth 100000 in
theorem e_S_law_96 {d : Nat} {Q : Value → am_H → Prop} {N : Nat} {I : Nat → Nat → Int32} {J : Nat → Nat → Int64} {x1 : Int32} {x2 : Int32} {x3 : Int32} {x4 : Int32} {y1 : Int32} {y2 : Int32} {r : am_rho} : am_V d Q 123 96 [some (.ref 1), some (.int x1), some (.int x2), some (.int x3), some (.int x4)] [.int y2, .int y1, .ref 61] (am_hp N r I J) =
    am_D d 24 [.ref 61, .int y1, .int y2] (am_hp N r I J) (fun v h => am_asL v (fun y => am_V d Q 123 99 [some (.ref 1), some (.int x1), some (.int x2), some (.int x3), some (.int x4)] [.long y] h)) :=
  (am_V_un (fun p => Nat.beq p 14 || Nat.beq p 22 || Nat.beq p 44 || Nat.beq p 96 || Nat.beq p 99) 3).trans rfl
set_option maxRecDepth 100000 in
theorem e_S_law_99 {d : Nat} {Q : Value → am_H → Prop} {N : Nat} {I : Nat → Nat → Int32} {J : Nat → Nat → Int64} {x1 : Int32} {x2 : Int32} {x3 : Int32} {x4 : Int32} {y0 : Int64} {r : am_rho} : am_V d Q 123 99 [some (.ref 1), some (.int x1), some (.int x2), some (.int x3), some (.int x4)] [.long y0] (am_hp N r I J) =
    Q (.long y0) (am_hp N r I J) :=
  (am_V_un (fun p => Nat.beq p 14 || Nat.beq p 22 || Nat.beq p 44 || Nat.beq p 96 || Nat.beq p 99) 3).trans rfl
set_option maxRecDepth 100000 in
theorem e_S_lay {d : Nat} {Q : Value → am_H → Prop} {N : Nat} {I : Nat → Nat → Int32} {J : Nat → Nat → Int64} {x1 : Int32} {x2 : Int32} {r : am_rho} : am_D (d + 1) 124 [.ref 1, .int x1, .int x2] (am_hp N r I J) Q =
    am_D d 153 [.ref 1, .int x1] (am_hp N r I J) (fun v h => am_asI v (fun y => am_V d Q 124 5 [some (.ref 1), some (.int x1), some (.int x2), none, none] [.int y] h)) :=
  (am_D_un rfl (fun p => Nat.beq p 5 || Nat.beq p 13 || Nat.beq p 26 || Nat.beq p 61 || Nat.beq p 72) 5).trans rfl
set_option maxRecDepth 100000 in
theorem e_S_lay_5 {d : Nat} {Q : Value → am_H → Prop} {N : Nat} {I : Nat → Nat → Int32} {J : Nat → Nat → Int64} {x1 : Int32} {x2 : Int32} {y0 : Int32} {r : am_rho} : am_V d Q 124 5 [some (.ref 1), some (.int x1), some (.int x2), none, none] [.int y0] (am_hp N r I J) =
    am_if (decide (y0 = (nI 0))) (Q (.int (nI 0)) (am_hp N r I J)) (am_D d 152 [.ref 1, .int x2] (am_hp N r I J) (fun v h => am_asI v (fun y => am_V d Q 124 13 [some (.ref 1), some (.int x1), some (.int x2), none, none] [.int y] h))) :=
  (am_V_un (fun p => Nat.beq p 5 || Nat.beq p 13 || Nat.beq p 26 || Nat.beq p 61 || Nat.beq p 72) 6).trans rfl
set_option maxRecDepth 100000 in
theorem e_S_lay_13 {d : Nat} {Q : Value → am_H → Prop} {N : Nat} {I : Nat → Nat → Int32} {J : Nat → Nat → Int64} {x1 : Int32} {x2 : Int32} {y0 : Int32} {r : am_rho} : am_V d Q 124 13 [some (.ref 1), some (.int x1), some (.int x2), none, none] [.int y0] (am_hp N r I J) =
    am_if (!(decide (y0 = (nI 0)))) (am_D d 104 [.ref 49, .int x1] (am_hp N r I J) (fun v h => am_asI v (fun y => am_V d Q 124 26 [some (.ref 1), some (.int x1), some (.int x2), none, none] [.int y] h))) (Q (.int (nI 0)) (am_hp N r I J)) :=
  (am_V_un (fun p => Nat.beq p 5 || Nat.beq p 13 || Nat.beq p 26 || Nat.beq p 61 || Nat.beq p 72) 7).trans rfl
set_option maxRecDepth 100000 in
theorem e_S_lay_26 {d : Nat} {Q : Value → am_H → Prop} {N : Nat} {I : Nat → Nat → Int32} {J : Nat → Nat → Int64} {x1 : Int32} {x2 : Int32} {y0 : Int32} {rt rs rd rl rx nt nw nf : Nat} (h_rt : rt = 3 ∨ rt = 23) : am_V d Q 124 26 [some (.ref 1), some (.int x1), some (.int x2), none, none] [.int y0] (am_hp N (rt, rs, rd, rl, rx, nt, nw, nf) I J) =
    am_g (am_inb x2 5) (am_if (decide (y0 = (-nI 1))) (Q (.int (nI 0)) (am_hp N (rt, rs, rd, rl, rx, nt, nw, nf) I J)) (am_if (!(decide (y0 = (I (rt + 6) x2.toNatClampNeg)))) (am_D d 1 [.ref 77, .int (nI 0), .int x1, .int y0] (am_hp N (rt, rs, rd, rl, rx, nt, nw, nf) I J) (fun v h => am_V d Q 124 61 [some (.ref 1), some (.int x1), some (.int x2), some (.int y0), some (.int (I (rt + 6) x2.toNatClampNeg))] [] h)) (Q (.int (nI 0)) (am_hp N (rt, rs, rd, rl, rx, nt, nw, nf) I J)))) :=
  by rcases h_rt with rfl | rfl <;> exact (am_V_un (fun p => Nat.beq p 5 || Nat.beq p 13 || Nat.beq p 26 || Nat.beq p 61 || Nat.beq p 72) 21).trans rfl
set_option maxRecDepth 100000 in
theorem e_S_lay_61 {d : Nat} {Q : Value → am_H → Prop} {N : Nat} {I : Nat → Nat → Int32} {J : Nat → Nat → Int64} {x1 : Int32} {x2 : Int32} {x3 : Int32} {x4 : Int32} {r : am_rho} : am_V d Q 124 61 [some (.ref 1), some (.int x1), some (.int x2), some (.int x3), some (.int x4)] [] (am_hp N r I J) =
    am_D d 107 [.ref 49, .int x1, .int x3, .int x4] (am_hp N r I J) (fun v h => am_V d Q 124 72 [some (.ref 1), some (.int x1), some (.int x2), some (.int x3), some (.int x4)] [] h) :=
  (am_V_un (fun p => Nat.beq p 5 || Nat.beq p 13 || Nat.beq p 26 || Nat.beq p 61 || Nat.beq p 72) 8).trans rfl
set_option maxRecDepth 100000 in
theorem e_S_lay_72 {d : Nat} {Q : Value → am_H → Prop} {N : Nat} {I : Nat → Nat → Int32} {J : Nat → Nat → Int64} {x1 : Int32} {x2 : Int32} {x3 : Int32} {x4 : Int32} {r : am_rho} : am_V d Q 124 72 [some (.ref 1), some (.int x1), some (.int x2), some (.int x3), some (.int x4)] [] (am_hp N r I J) =
    Q (.int (nI 1)) (am_hp N r I J) :=
  (am_V_un (fun p => Nat.beq p 5 || Nat.beq p 13 || Nat.beq p 26 || Nat.beq p 61 || Nat.beq p 72) 4).trans rfl
set_option maxRecDepth 100000 in
theorem e_S_lit {d : Nat} {Q : Value → am_H → Prop} {N : Nat} {I : Nat → Nat → Int32} {J : Nat → Nat → Int64} {x1 : Int32} {x2 : Int32} {r : am_rho} : am_D (d + 1) 125 [.ref 1, .int x1, .int x2] (am_hp N r I J) Q =
    am_D d 151 [.ref 1, .int x1] (am_hp N r I J) (fun v h => am_asI v (fun y => am_V d Q 125 5 [some (.ref 1), some (.int x1), some (.int x2)] [.int y] h)) :=
  (am_D_un rfl (fun p => Nat.beq p 5 || Nat.beq p 43) 5).trans rfl
set_option maxRecDepth 100000 in
theorem e_S_lit_5 {d : Nat} {Q : Value → am_H → Prop} {N : Nat} {I : Nat → Nat → Int32} {J : Nat → Nat → Int64} {x1 : Int32} {x2 : Int32} {y0 : Int32} {r : am_rho} : am_V d Q 125 5 [some (.ref 1), some (.int x1), some (.int x2)] [.int y0] (am_hp N r I J) =
    am_if (decide (y0 = (nI 0))) (Q (.int (nI 0)) (am_hp N r I J)) (am_if (decide (x2 = (nI 0))) (am_if (!(decide ((((I 49 5) >>> (x1 &&& nI 31)) &&& (nI 1)) = (nI 0)))) (am_D d 1 [.ref 77, .int (nI 1), .int x1, .int (nI 0)] (am_hp N r I J) (fun v h => am_V d Q 125 43 [some (.ref 1), some (.int x1), some (.int x2)] [] h)) (Q (.int (nI 0)) (am_hp N r I J))) (am_if (!(decide ((((I 49 5) >>> (x1 &&& nI 31)) &&& (nI 1)) = (nI 1)))) (am_D d 1 [.ref 77, .int (nI 1), .int x1, .int (nI 0)] (am_hp N r I J) (fun v h => am_V d Q 125 43 [some (.ref 1), some (.int x1), some (.int x2)] [] h)) (Q (.int (nI 0)) (am_hp N r I J)))) :=
  (am_V_un (fun p => Nat.beq p 5 || Nat.beq p 43) 21).trans rfl
set_option maxRecDepth 100000 in
theorem e_S_lit_43 {d : Nat} {Q : Value → am_H → Prop} {N : Nat} {I : Nat → Nat → Int32} {J : Nat → Nat → Int64} {x1 : Int32} {x2 : Int32} {r : am_rho} : am_V d Q 125 43 [some (.ref 1), some (.int x1), some (.int x2)] [] (am_hp N r I J) =
    Q (.int (nI 1)) (am_hp N r (am_u I 49 5 ((I 49 5) ^^^ ((nI 1) <<< (x1 &&& nI 31)))) J) :=
  (am_V_un (fun p => Nat.beq p 5 || Nat.beq p 43) 13).trans rfl
set_option maxRecDepth 100000 in
theorem e_S_bell {d : Nat} {Q : Value → am_H → Prop} {N : Nat} {I : Nat → Nat → Int32} {J : Nat → Nat → Int64} {x1 : Int32} {x2 : Int32} {r : am_rho} : am_D (d + 1) 126 [.ref 1, .int x1, .int x2] (am_hp N r I J) Q =
    am_D d 151 [.ref 1, .int x1] (am_hp N r I J) (fun v h => am_asI v (fun y => am_V d Q 126 5 [some (.ref 1), some (.int x1), some (.int x2)] [.int y] h)) :=
  (am_D_un rfl (fun p => Nat.beq p 5 || Nat.beq p 51) 5).trans rfl
set_option maxRecDepth 100000 in
theorem e_S_bell_5 {d : Nat} {Q : Value → am_H → Prop} {N : Nat} {I : Nat → Nat → Int32} {J : Nat → Nat → Int64} {x1 : Int32} {x2 : Int32} {y0 : Int32} {r : am_rho} : am_V d Q 126 5 [some (.ref 1), some (.int x1), some (.int x2)] [.int y0] (am_hp N r I J) =
    am_if (decide (y0 = (nI 0))) (Q (.int (nI 0)) (am_hp N r I J)) (am_if (decide (x2 < (nI 0))) (Q (.int (nI 0)) (am_hp N r I J)) (am_if (decide (((nI 9) : Int32) < x2)) (Q (.int (nI 0)) (am_hp N r I J)) (am_g (am_inb x1 8) (am_if (!(decide ((I 54 x1.toNatClampNeg) = x2))) (am_g (am_inb x1 8) (am_D d 1 [.ref 77, .int (nI 2), .int x1, .int (I 54 x1.toNatClampNeg)] (am_hp N r I J) (fun v h => am_V d Q 126 51 [some (.ref 1), some (.int x1), some (.int x2)] [] h))) (Q (.int (nI 0)) (am_hp N r I J)))))) :=
  (am_V_un (fun p => Nat.beq p 5 || Nat.beq p 51) 25).trans rfl
set_option maxRecDepth 100000 in
theorem e_S_bell_51 {d : Nat} {Q : Value → am_H → Prop} {N : Nat} {I : Nat → Nat → Int32} {J : Nat → Nat → Int64} {x1 : Int32} {x2 : Int32} {r : am_rho} : am_V d Q 126 51 [some (.ref 1), some (.int x1), some (.int x2)] [] (am_hp N r I J) =
    am_g (am_inb x1 8) (Q (.int (nI 1)) (am_hp N r (am_u I 54 x1.toNatClampNeg x2) J)) :=
  (am_V_un (fun p => Nat.beq p 5 || Nat.beq p 51) 10).trans rfl
set_option maxRecDepth 100000 in
theorem e_S_hours {d : Nat} {Q : Value → am_H → Prop} {N : Nat} {I : Nat → Nat → Int32} {J : Nat → Nat → Int64} {x1 : Int32} {rt rs rd rl rx nt nw nf : Nat} (h_rt : rt = 3 ∨ rt = 23) : am_D (d + 1) 127 [.ref 1, .int x1] (am_hp N (rt, rs, rd, rl, rx, nt, nw, nf) I J) Q =
    am_if (decide (x1 < (nI 0))) (Q (.int (-nI 1)) (am_hp N (rt, rs, rd, rl, rx, nt, nw, nf) I J)) (am_if (decide (((nI 36) : Int32) < x1)) (Q (.int (-nI 1)) (am_hp N (rt, rs, rd, rl, rx, nt, nw, nf) I J)) (am_if (decide (((I 49 1) + (((I 49 0) + x1) / (nI 12))) ≤ (nI 999))) (am_if (decide (x1 ≤ (nI 0))) (am_D d 20 [.ref 61, .ref rt, .ref 49] (am_hp N (rt, rs, rd, rl, rx, nt, nw, nf) I J) (fun v h => am_V d Q 127 65 [some (.ref 1), some (.int x1), none] [] h)) (am_D d 20 [.ref 61, .ref rt, .ref 49] (am_hp N (rt, rs, rd, rl, rx, nt, nw, nf) (am_u I 77 0 (nI 0)) J) (fun v h => am_V d Q 127 65 [some (.ref 1), some (.int x1), none] [] h))) (Q (.int (-nI 1)) (am_hp N (rt, rs, rd, rl, rx, nt, nw, nf) I J)))) :=
  by rcases h_rt with rfl | rfl <;> exact (am_D_un rfl (fun p => Nat.beq p 65 || Nat.beq p 75 || Nat.beq p 98 || Nat.beq p 109) 33).trans rfl
set_option maxRecDepth 100000 in
theorem e_S_hours_65 {d : Nat} {Q : Value → am_H → Prop} {N : Nat} {I : Nat → Nat → Int32} {J : Nat → Nat → Int64} {x1 : Int32} {r : am_rho} : am_V d Q 127 65 [some (.ref 1), some (.int x1), none] [] (am_hp N r I J) =
    am_V d Q 127 75 [some (.ref 1), some (.int x1), some (.int (nI 0))] [] (am_hp N r (am_u I 61 12 (nI 1)) J) :=
  (am_V_un (fun p => Nat.beq p 65 || Nat.beq p 75 || Nat.beq p 98 || Nat.beq p 109) 8).trans rfl
set_option maxRecDepth 100000 in
theorem e_S_hours_75 {d : Nat} {Q : Value → am_H → Prop} {N : Nat} {I : Nat → Nat → Int32} {J : Nat → Nat → Int64} {x1 : Int32} {x2 : Int32} {r : am_rho} : am_V d Q 127 75 [some (.ref 1), some (.int x1), some (.int x2)] [] (am_hp N r I J) =
    am_if (decide (x1 ≤ x2)) (Q (.int (I 49 0)) (am_hp N r I J)) (am_D d 26 [.ref 61, .ref 49, .int (I 49 0)] (am_hp N r I J) (fun v h => am_V d Q 127 98 [some (.ref 1), some (.int x1), some (.int x2)] [] h)) :=
  (am_V_un (fun p => Nat.beq p 65 || Nat.beq p 75 || Nat.beq p 98 || Nat.beq p 109) 13).trans rfl
set_option maxRecDepth 100000 in
theorem e_S_hours_98 {d : Nat} {Q : Value → am_H → Prop} {N : Nat} {I : Nat → Nat → Int32} {J : Nat → Nat → Int64} {x1 : Int32} {x2 : Int32} {rt rs rd rl rx nt nw nf : Nat} (h_rt : rt = 3 ∨ rt = 23) : am_V d Q 127 98 [some (.ref 1), some (.int x1), some (.int x2)] [] (am_hp N (rt, rs, rd, rl, rx, nt, nw, nf) I J) =
    am_D d 111 [.ref 49, .ref rt] (am_hp N (rt, rs, rd, rl, rx, nt, nw, nf) I J) (fun v h => am_V d Q 127 109 [some (.ref 1), some (.int x1), some (.int x2)] [] h) :=
  by rcases h_rt with rfl | rfl <;> exact (am_V_un (fun p => Nat.beq p 65 || Nat.beq p 75 || Nat.beq p 98 || Nat.beq p 109) 7).trans rfl
set_option maxRecDepth 100000 in
theorem e_S_hours_109 {d : Nat} {Q : Value → am_H → Prop} {N : Nat} {I : Nat → Nat → Int32} {J : Nat → Nat → Int64} {x1 : Int32} {x2 : Int32} {r : am_rho} : am_V d Q 127 109 [some (.ref 1), some (.int x1), some (.int x2)] [] (am_hp N r I J) =
    am_V d Q 127 75 [some (.ref 1), some (.int x1), some (.int (x2 + (nI 1)))] [] (am_hp N r I J) :=
  (am_V_un (fun p => Nat.beq p 65 || Nat.beq p 75 || Nat.beq p 98 || Nat.beq p 109) 4).trans rfl
set_option maxRecDepth 100000 in
theorem e_S_where {d : Nat} {Q : Value → am_H → Prop} {N : Nat} {I : Nat → Nat → Int32} {J : Nat → Nat → Int64} {x1 : Int32} {x2 : Int32} {r : am_rho} : am_D (d + 1) 128 [.ref 1, .int x1, .int x2] (am_hp N r I J) Q =
    am_D d 152 [.ref 1, .int x1] (am_hp N r I J) (fun v h => am_asI v (fun y => am_V d Q 128 5 [some (.ref 1), some (.int x1), some (.int x2)] [.int y] h)) :=
  (am_D_un rfl (fun p => Nat.beq p 5 || Nat.beq p 13 || Nat.beq p 29 || Nat.beq p 38) 5).trans rfl
set_option maxRecDepth 100000 in
theorem e_S_where_5 {d : Nat} {Q : Value → am_H → Prop} {N : Nat} {I : Nat → Nat → Int32} {J : Nat → Nat → Int64} {x1 : Int32} {x2 : Int32} {y0 : Int32} {r : am_rho} : am_V d Q 128 5 [some (.ref 1), some (.int x1), some (.int x2)] [.int y0] (am_hp N r I J) =
    am_if (decide (y0 = (nI 0))) (Q (.int (-nI 1)) (am_hp N r I J)) (am_D d 154 [.ref 1, .int x2] (am_hp N r I J) (fun v h => am_asI v (fun y => am_V d Q 128 13 [some (.ref 1), some (.int x1), some (.int x2)] [.int y] h))) :=
  (am_V_un (fun p => Nat.beq p 5 || Nat.beq p 13 || Nat.beq p 29 || Nat.beq p 38) 6).trans rfl
set_option maxRecDepth 100000 in
theorem e_S_where_13 {d : Nat} {Q : Value → am_H → Prop} {N : Nat} {I : Nat → Nat → Int32} {J : Nat → Nat → Int64} {x1 : Int32} {x2 : Int32} {y0 : Int32} {rt rs rd rl rx nt nw nf : Nat} (h_rt : rt = 3 ∨ rt = 23) : am_V d Q 128 13 [some (.ref 1), some (.int x1), some (.int x2)] [.int y0] (am_hp N (rt, rs, rd, rl, rx, nt, nw, nf) I J) =
    am_if (!(decide (y0 = (nI 0)))) (am_D d 81 [.ref 81, .ref rt] (am_hp N (rt, rs, rd, rl, rx, nt, nw, nf) I J) (fun v h => am_V d Q 128 29 [some (.ref 1), some (.int x1), some (.int x2)] [] h)) (Q (.int (-nI 1)) (am_hp N (rt, rs, rd, rl, rx, nt, nw, nf) I J)) :=
  by rcases h_rt with rfl | rfl <;> exact (am_V_un (fun p => Nat.beq p 5 || Nat.beq p 13 || Nat.beq p 29 || Nat.beq p 38) 8).trans rfl
set_option maxRecDepth 100000 in
theorem e_S_where_29 {d : Nat} {Q : Value → am_H → Prop} {N : Nat} {I : Nat → Nat → Int32} {J : Nat → Nat → Int64} {x1 : Int32} {x2 : Int32} {r : am_rho} : am_V d Q 128 29 [some (.ref 1), some (.int x1), some (.int x2)] [] (am_hp N r I J) =
    am_D d 25 [.ref 61, .int x1, .int x2] (am_hp N r I J) (fun v h => am_asI v (fun y => am_V d Q 128 38 [some (.ref 1), some (.int x1), some (.int x2)] [.int y] h)) :=
  (am_V_un (fun p => Nat.beq p 5 || Nat.beq p 13 || Nat.beq p 29 || Nat.beq p 38) 7).trans rfl
set_option maxRecDepth 100000 in
theorem e_S_where_38 {d : Nat} {Q : Value → am_H → Prop} {N : Nat} {I : Nat → Nat → Int32} {J : Nat → Nat → Int64} {x1 : Int32} {x2 : Int32} {y0 : Int32} {r : am_rho} : am_V d Q 128 38 [some (.ref 1), some (.int x1), some (.int x2)] [.int y0] (am_hp N r I J) =
    Q (.int y0) (am_hp N r I J) :=
  (am_V_un (fun p => Nat.beq p 5 || Nat.beq p 13 || Nat.beq p 29 || Nat.beq p 38) 3).trans rfl
set_option maxRecDepth 100000 in
theorem e_S_match {d : Nat} {Q : Value → am_H → Prop} {N : Nat} {I : Nat → Nat → Int32} {J : Nat → Nat → Int64} {x1 : Int32} {r : am_rho} : am_D (d + 1) 129 [.ref 1, .int x1] (am_hp N r I J) Q =
    am_D d 153 [.ref 1, .int x1] (am_hp N r I J) (fun v h => am_asI v (fun y => am_V d Q 129 5 [some (.ref 1), some (.int x1)] [.int y] h)) :=
  (am_D_un rfl (fun p => Nat.beq p 5 || Nat.beq p 18 || Nat.beq p 39) 5).trans rfl
set_option maxRecDepth 100000 in
theorem e_S_match_5 {d : Nat} {Q : Value → am_H → Prop} {N : Nat} {I : Nat → Nat → Int32} {J : Nat → Nat → Int64} {x1 : Int32} {y0 : Int32} {r : am_rho} : am_V d Q 129 5 [some (.ref 1), some (.int x1)] [.int y0] (am_hp N r I J) =
    am_if (!(decide (y0 = (nI 0)))) (am_D d 104 [.ref 49, .int x1] (am_hp N r I J) (fun v h => am_asI v (fun y => am_V d Q 129 18 [some (.ref 1), some (.int x1)] [.int y] h))) (Q (.int (-nI 1)) (am_hp N r I J)) :=
  (am_V_un (fun p => Nat.beq p 5 || Nat.beq p 18 || Nat.beq p 39) 7).trans rfl
set_option maxRecDepth 100000 in
theorem e_S_match_18 {d : Nat} {Q : Value → am_H → Prop} {N : Nat} {I : Nat → Nat → Int32} {J : Nat → Nat → Int64} {x1 : Int32} {y0 : Int32} {rt rs rd rl rx nt nw nf : Nat} (h_rt : rt = 3 ∨ rt = 23) : am_V d Q 129 18 [some (.ref 1), some (.int x1)] [.int y0] (am_hp N (rt, rs, rd, rl, rx, nt, nw, nf) I J) =
    am_if (!(decide (y0 = (-nI 1)))) (am_D d 82 [.ref 81, .ref rt, .int x1] (am_hp N (rt, rs, rd, rl, rx, nt, nw, nf) I J) (fun v h => am_asI v (fun y => am_V d Q 129 39 [some (.ref 1), some (.int x1)] [.int y] h))) (am_V d Q 129 39 [some (.ref 1), some (.int x1)] [.int (-nI 2)] (am_hp N (rt, rs, rd, rl, rx, nt, nw, nf) I J)) :=
  by rcases h_rt with rfl | rfl <;> exact (am_V_un (fun p => Nat.beq p 5 || Nat.beq p 18 || Nat.beq p 39) 10).trans rfl
set_option maxRecDepth 100000 in
theorem e_S_match_39 {d : Nat} {Q : Value → am_H → Prop} {N : Nat} {I : Nat → Nat → Int32} {J : Nat → Nat → Int64} {x1 : Int32} {y0 : Int32} {r : am_rho} : am_V d Q 129 39 [some (.ref 1), some (.int x1)] [.int y0] (am_hp N r I J) =
    Q (.int y0) (am_hp N r I J) :=
  (am_V_un (fun p => Nat.beq p 5 || Nat.beq p 18 || Nat.beq p 39) 3).trans rfl
set_option maxRecDepth 100000 in
theorem e_S_lead {d : Nat} {Q : Value → am_H → Prop} {N : Nat} {I : Nat → Nat → Int32} {J : Nat → Nat → Int64} {x1 : Int32} {x2 : Int32} {x3 : Int32} {r : am_rho} : am_D (d + 1) 130 [.ref 1, .int x1, .int x2, .int x3] (am_hp N r I J) Q =
    am_D d 152 [.ref 1, .int x1] (am_hp N r I J) (fun v h => am_asI v (fun y => am_V d Q 130 5 [some (.ref 1), some (.int x1), some (.int x2), some (.int x3)] [.int y] h)) :=
  (am_D_un rfl (fun p => Nat.beq p 5 || Nat.beq p 13 || Nat.beq p 21 || Nat.beq p 40) 5).trans rfl
set_option maxRecDepth 100000 in
theorem e_S_lead_5 {d : Nat} {Q : Value → am_H → Prop} {N : Nat} {I : Nat → Nat → Int32} {J : Nat → Nat → Int64} {x1 : Int32} {x2 : Int32} {x3 : Int32} {y0 : Int32} {r : am_rho} : am_V d Q 130 5 [some (.ref 1), some (.int x1), some (.int x2), some (.int x3)] [.int y0] (am_hp N r I J) =
    am_if (decide (y0 = (nI 0))) (Q (.int (-nI 1)) (am_hp N r I J)) (am_D d 151 [.ref 1, .int x2] (am_hp N r I J) (fun v h => am_asI v (fun y => am_V d Q 130 13 [some (.ref 1), some (.int x1), some (.int x2), some (.int x3)] [.int y] h))) :=
  (am_V_un (fun p => Nat.beq p 5 || Nat.beq p 13 || Nat.beq p 21 || Nat.beq p 40) 6).trans rfl
set_option maxRecDepth 100000 in
theorem e_S_lead_13 {d : Nat} {Q : Value → am_H → Prop} {N : Nat} {I : Nat → Nat → Int32} {J : Nat → Nat → Int64} {x1 : Int32} {x2 : Int32} {x3 : Int32} {y0 : Int32} {r : am_rho} : am_V d Q 130 13 [some (.ref 1), some (.int x1), some (.int x2), some (.int x3)] [.int y0] (am_hp N r I J) =
    am_if (decide (y0 = (nI 0))) (Q (.int (-nI 1)) (am_hp N r I J)) (am_D d 154 [.ref 1, .int x3] (am_hp N r I J) (fun v h => am_asI v (fun y => am_V d Q 130 21 [some (.ref 1), some (.int x1), some (.int x2), some (.int x3)] [.int y] h))) :=
  (am_V_un (fun p => Nat.beq p 5 || Nat.beq p 13 || Nat.beq p 21 || Nat.beq p 40) 6).trans rfl
set_option maxRecDepth 100000 in
theorem e_S_lead_21 {d : Nat} {Q : Value → am_H → Prop} {N : Nat} {I : Nat → Nat → Int32} {J : Nat → Nat → Int64} {x1 : Int32} {x2 : Int32} {x3 : Int32} {y0 : Int32} {rt rs rd rl rx nt nw nf : Nat} (h_rt : rt = 3 ∨ rt = 23) : am_V d Q 130 21 [some (.ref 1), some (.int x1), some (.int x2), some (.int x3)] [.int y0] (am_hp N (rt, rs, rd, rl, rx, nt, nw, nf) I J) =
    am_if (!(decide (y0 = (nI 0)))) (am_D d 85 [.ref 81, .ref rt, .int x1, .int x2, .int x3] (am_hp N (rt, rs, rd, rl, rx, nt, nw, nf) I J) (fun v h => am_asI v (fun y => am_V d Q 130 40 [some (.ref 1), some (.int x1), some (.int x2), some (.int x3)] [.int y] h))) (Q (.int (-nI 1)) (am_hp N (rt, rs, rd, rl, rx, nt, nw, nf) I J)) :=
  by rcases h_rt with rfl | rfl <;> exact (am_V_un (fun p => Nat.beq p 5 || Nat.beq p 13 || Nat.beq p 21 || Nat.beq p 40) 11).trans rfl
set_option maxRecDepth 100000 in
theorem e_S_lead_40 {d : Nat} {Q : Value → am_H → Prop} {N : Nat} {I : Nat → Nat → Int32} {J : Nat → Nat → Int64} {x1 : Int32} {x2 : Int32} {x3 : Int32} {y0 : Int32} {r : am_rho} : am_V d Q 130 40 [some (.ref 1), some (.int x1), some (.int x2), some (.int x3)] [.int y0] (am_hp N r I J) =
    Q (.int y0) (am_hp N r I J) :=
  (am_V_un (fun p => Nat.beq p 5 || Nat.beq p 13 || Nat.beq p 21 || Nat.beq p 40) 3).trans rfl
set_option maxRecDepth 100000 in
theorem e_S_chain {d : Nat} {Q : Value → am_H → Prop} {N : Nat} {I : Nat → Nat → Int32} {J : Nat → Nat → Int64} {x1 : Int32} {r : am_rho} : am_D (d + 1) 131 [.ref 1, .int x1] (am_hp N r I J) Q =
    am_D d 153 [.ref 1, .int x1] (am_hp N r I J) (fun v h => am_asI v (fun y => am_V d Q 131 5 [some (.ref 1), some (.int x1)] [.int y] h)) :=
  (am_D_un rfl (fun p => Nat.beq p 5 || Nat.beq p 18 || Nat.beq p 37) 5).trans rfl
set_option maxRecDepth 100000 in
theorem e_S_chain_5 {d : Nat} {Q : Value → am_H → Prop} {N : Nat} {I : Nat → Nat → Int32} {J : Nat → Nat → Int64} {x1 : Int32} {y0 : Int32} {r : am_rho} : am_V d Q 131 5 [some (.ref 1), some (.int x1)] [.int y0] (am_hp N r I J) =
    am_if (!(decide (y0 = (nI 0)))) (am_D d 102 [.ref 49, .int x1] (am_hp N r I J) (fun v h => am_asI v (fun y => am_V d Q 131 18 [some (.ref 1), some (.int x1)] [.int y] h))) (Q (.int (-nI 1)) (am_hp N r I J)) :=
  (am_V_un (fun p => Nat.beq p 5 || Nat.beq p 18 || Nat.beq p 37) 7).trans rfl
set_option maxRecDepth 100000 in
theorem e_S_chain_18 {d : Nat} {Q : Value → am_H → Prop} {N : Nat} {I : Nat → Nat → Int32} {J : Nat → Nat → Int64} {x1 : Int32} {y0 : Int32} {rt rs rd rl rx nt nw nf : Nat} (h_rt : rt = 3 ∨ rt = 23) : am_V d Q 131 18 [some (.ref 1), some (.int x1)] [.int y0] (am_hp N (rt, rs, rd, rl, rx, nt, nw, nf) I J) =
    am_if (decide (y0 = (nI 0))) (am_D d 86 [.ref 81, .ref rt, .int x1] (am_hp N (rt, rs, rd, rl, rx, nt, nw, nf) I J) (fun v h => am_asI v (fun y => am_V d Q 131 37 [some (.ref 1), some (.int x1)] [.int y] h))) (am_V d Q 131 37 [some (.ref 1), some (.int x1)] [.int (nI 0)] (am_hp N (rt, rs, rd, rl, rx, nt, nw, nf) I J)) :=
  by rcases h_rt with rfl | rfl <;> exact (am_V_un (fun p => Nat.beq p 5 || Nat.beq p 18 || Nat.beq p 37) 9).trans rfl
set_option maxRecDepth 100000 in
theorem e_S_chain_37 {d : Nat} {Q : Value → am_H → Prop} {N : Nat} {I : Nat → Nat → Int32} {J : Nat → Nat → Int64} {x1 : Int32} {y0 : Int32} {r : am_rho} : am_V d Q 131 37 [some (.ref 1), some (.int x1)] [.int y0] (am_hp N r I J) =
    Q (.int y0) (am_hp N r I J) :=
  (am_V_un (fun p => Nat.beq p 5 || Nat.beq p 18 || Nat.beq p 37) 3).trans rfl
set_option maxRecDepth 100000 in
theorem e_S_meet {d : Nat} {Q : Value → am_H → Prop} {N : Nat} {I : Nat → Nat → Int32} {J : Nat → Nat → Int64} {x1 : Int32} {x2 : Int32} {r : am_rho} : am_D (d + 1) 132 [.ref 1, .int x1, .int x2] (am_hp N r I J) Q =
    am_D d 152 [.ref 1, .int x1] (am_hp N r I J) (fun v h => am_asI v (fun y => am_V d Q 132 5 [some (.ref 1), some (.int x1), some (.int x2), none, none] [.int y] h)) :=
  (am_D_un rfl (fun p => Nat.beq p 5 || Nat.beq p 13 || Nat.beq p 34 || Nat.beq p 45 || Nat.beq p 62 || Nat.beq p 72) 5).trans rfl
set_option maxRecDepth 100000 in
theorem e_S_meet_5 {d : Nat} {Q : Value → am_H → Prop} {N : Nat} {I : Nat → Nat → Int32} {J : Nat → Nat → Int64} {x1 : Int32} {x2 : Int32} {y0 : Int32} {r : am_rho} : am_V d Q 132 5 [some (.ref 1), some (.int x1), some (.int x2), none, none] [.int y0] (am_hp N r I J) =
    am_if (decide (y0 = (nI 0))) (Q (.int (-nI 1)) (am_hp N r I J)) (am_D d 152 [.ref 1, .int x2] (am_hp N r I J) (fun v h => am_asI v (fun y => am_V d Q 132 13 [some (.ref 1), some (.int x1), some (.int x2), none, none] [.int y] h))) :=
  (am_V_un (fun p => Nat.beq p 5 || Nat.beq p 13 || Nat.beq p 34 || Nat.beq p 45 || Nat.beq p 62 || Nat.beq p 72) 6).trans rfl
set_option maxRecDepth 100000 in
theorem e_S_meet_13 {d : Nat} {Q : Value → am_H → Prop} {N : Nat} {I : Nat → Nat → Int32} {J : Nat → Nat → Int64} {x1 : Int32} {x2 : Int32} {y0 : Int32} {rt rs rd rl rx nt nw nf : Nat} (h_rt : rt = 3 ∨ rt = 23) : am_V d Q 132 13 [some (.ref 1), some (.int x1), some (.int x2), none, none] [.int y0] (am_hp N (rt, rs, rd, rl, rx, nt, nw, nf) I J) =
    am_if (decide (y0 = (nI 0))) (Q (.int (-nI 1)) (am_hp N (rt, rs, rd, rl, rx, nt, nw, nf) I J)) (am_if (!(decide (x1 = x2))) (am_D d 81 [.ref 81, .ref rt] (am_hp N (rt, rs, rd, rl, rx, nt, nw, nf) I J) (fun v h => am_V d Q 132 34 [some (.ref 1), some (.int x1), some (.int x2), none, none] [] h)) (Q (.int (-nI 1)) (am_hp N (rt, rs, rd, rl, rx, nt, nw, nf) I J))) :=
  by rcases h_rt with rfl | rfl <;> exact (am_V_un (fun p => Nat.beq p 5 || Nat.beq p 13 || Nat.beq p 34 || Nat.beq p 45 || Nat.beq p 62 || Nat.beq p 72) 11).trans rfl
set_option maxRecDepth 100000 in
theorem e_S_meet_34 {d : Nat} {Q : Value → am_H → Prop} {N : Nat} {I : Nat → Nat → Int32} {J : Nat → Nat → Int64} {x1 : Int32} {x2 : Int32} {r : am_rho} : am_V d Q 132 34 [some (.ref 1), some (.int x1), some (.int x2), none, none] [] (am_hp N r I J) =
    am_V d Q 132 45 [some (.ref 1), some (.int x1), some (.int x2), some (.int (nI 0)), some (.int (I 49 0))] [] (am_hp N r I J) :=
  (am_V_un (fun p => Nat.beq p 5 || Nat.beq p 13 || Nat.beq p 34 || Nat.beq p 45 || Nat.beq p 62 || Nat.beq p 72) 8).trans rfl
set_option maxRecDepth 100000 in
theorem e_S_meet_45 {d : Nat} {Q : Value → am_H → Prop} {N : Nat} {I : Nat → Nat → Int32} {J : Nat → Nat → Int64} {x1 : Int32} {x2 : Int32} {x3 : Int32} {x4 : Int32} {r : am_rho} : am_V d Q 132 45 [some (.ref 1), some (.int x1), some (.int x2), some (.int x3), some (.int x4)] [] (am_hp N r I J) =
    am_if (decide (((nI 12) : Int32) ≤ x4)) (Q (.int x3) (am_hp N r I J)) (am_D d 25 [.ref 61, .int x1, .int x4] (am_hp N r I J) (fun v h => am_asI v (fun y => am_V d Q 132 62 [some (.ref 1), some (.int x1), some (.int x2), some (.int x3), some (.int x4)] [.int y] h))) :=
  (am_V_un (fun p => Nat.beq p 5 || Nat.beq p 13 || Nat.beq p 34 || Nat.beq p 45 || Nat.beq p 62 || Nat.beq p 72) 10).trans rfl
set_option maxRecDepth 100000 in
theorem e_S_meet_62 {d : Nat} {Q : Value → am_H → Prop} {N : Nat} {I : Nat → Nat → Int32} {J : Nat → Nat → Int64} {x1 : Int32} {x2 : Int32} {x3 : Int32} {x4 : Int32} {y0 : Int32} {r : am_rho} : am_V d Q 132 62 [some (.ref 1), some (.int x1), some (.int x2), some (.int x3), some (.int x4)] [.int y0] (am_hp N r I J) =
    am_D d 25 [.ref 61, .int x2, .int x4] (am_hp N r I J) (fun v h => am_asI v (fun y => am_V d Q 132 72 [some (.ref 1), some (.int x1), some (.int x2), some (.int x3), some (.int x4)] [.int y, .int y0] h)) :=
  (am_V_un (fun p => Nat.beq p 5 || Nat.beq p 13 || Nat.beq p 34 || Nat.beq p 45 || Nat.beq p 62 || Nat.beq p 72) 7).trans rfl
set_option maxRecDepth 100000 in
theorem e_S_meet_72 {d : Nat} {Q : Value → am_H → Prop} {N : Nat} {I : Nat → Nat → Int32} {J : Nat → Nat → Int64} {x1 : Int32} {x2 : Int32} {x3 : Int32} {x4 : Int32} {y0 : Int32} {y1 : Int32} {r : am_rho} : am_V d Q 132 72 [some (.ref 1), some (.int x1), some (.int x2), some (.int x3), some (.int x4)] [.int y1, .int y0] (am_hp N r I J) =
    am_if (!(decide (y0 = y1))) (am_V d Q 132 45 [some (.ref 1), some (.int x1), some (.int x2), some (.int x3), some (.int (x4 + (nI 1)))] [] (am_hp N r I J)) (am_V d Q 132 45 [some (.ref 1), some (.int x1), some (.int x2), some (.int (x3 ||| ((nI 1) <<< (x4 &&& nI 31)))), some (.int (x4 + (nI 1)))] [] (am_hp N r I J)) :=
  (am_V_un (fun p => Nat.beq p 5 || Nat.beq p 13 || Nat.beq p 34 || Nat.beq p 45 || Nat.beq p 62 || Nat.beq p 72) 11).trans rfl
set_option maxRecDepth 100000 in
theorem e_S_sight {d : Nat} {Q : Value → am_H → Prop} {N : Nat} {I : Nat → Nat → Int32} {J : Nat → Nat → Int64} {x1 : Int32} {x2 : Int32} {x3 : Int32} {r : am_rho} : am_D (d + 1) 133 [.ref 1, .int x1, .int x2, .int x3] (am_hp N r I J) Q =
    am_if (decide (x1 < (nI 0))) (Q (.int (-nI 1)) (am_hp N r I J)) (am_if (decide (((nI 12) : Int32) ≤ x1)) (Q (.int (-nI 1)) (am_hp N r I J)) (am_D d 152 [.ref 1, .int x2] (am_hp N r I J) (fun v h => am_asI v (fun y => am_V d Q 133 15 [some (.ref 1), some (.int x1), some (.int x2), some (.int x3)] [.int y] h)))) :=
  (am_D_un rfl (fun p => Nat.beq p 15 || Nat.beq p 23 || Nat.beq p 38) 10).trans rfl
set_option maxRecDepth 100000 in
theorem e_S_sight_15 {d : Nat} {Q : Value → am_H → Prop} {N : Nat} {I : Nat → Nat → Int32} {J : Nat → Nat → Int64} {x1 : Int32} {x2 : Int32} {x3 : Int32} {y0 : Int32} {r : am_rho} : am_V d Q 133 15 [some (.ref 1), some (.int x1), some (.int x2), some (.int x3)] [.int y0] (am_hp N r I J) =
    am_if (decide (y0 = (nI 0))) (Q (.int (-nI 1)) (am_hp N r I J)) (am_D d 151 [.ref 1, .int x3] (am_hp N r I J) (fun v h => am_asI v (fun y => am_V d Q 133 23 [some (.ref 1), some (.int x1), some (.int x2), some (.int x3)] [.int y] h))) :=
  (am_V_un (fun p => Nat.beq p 15 || Nat.beq p 23 || Nat.beq p 38) 6).trans rfl
set_option maxRecDepth 100000 in
theorem e_S_sight_23 {d : Nat} {Q : Value → am_H → Prop} {N : Nat} {I : Nat → Nat → Int32} {J : Nat → Nat → Int64} {x1 : Int32} {x2 : Int32} {x3 : Int32} {y0 : Int32} {r : am_rho} : am_V d Q 133 23 [some (.ref 1), some (.int x1), some (.int x2), some (.int x3)] [.int y0] (am_hp N r I J) =
    am_if (!(decide (y0 = (nI 0)))) (am_D d 57 [.ref 72, .int x1, .int x2, .int x3] (am_hp N r I J) (fun v h => am_asI v (fun y => am_V d Q 133 38 [some (.ref 1), some (.int x1), some (.int x2), some (.int x3)] [.int y] h))) (Q (.int (-nI 1)) (am_hp N r I J)) :=
  (am_V_un (fun p => Nat.beq p 15 || Nat.beq p 23 || Nat.beq p 38) 9).trans rfl
set_option maxRecDepth 100000 in
theorem e_S_sight_38 {d : Nat} {Q : Value → am_H → Prop} {N : Nat} {I : Nat → Nat → Int32} {J : Nat → Nat → Int64} {x1 : Int32} {x2 : Int32} {x3 : Int32} {y0 : Int32} {r : am_rho} : am_V d Q 133 38 [some (.ref 1), some (.int x1), some (.int x2), some (.int x3)] [.int y0] (am_hp N r I J) =
    Q (.int y0) (am_hp N r I J) :=
  (am_V_un (fun p => Nat.beq p 15 || Nat.beq p 23 || Nat.beq p 38) 3).trans rfl
set_option maxRecDepth 100000 in
theorem e_S_strike {d : Nat} {Q : Value → am_H → Prop} {N : Nat} {I : Nat → Nat → Int32} {J : Nat → Nat → Int64} {x1 : Int32} {r : am_rho} : am_D (d + 1) 134 [.ref 1, .int x1] (am_hp N r I J) Q =
    am_if (decide (x1 < (nI 0))) (am_V d Q 134 27 [some (.ref 1), some (.int x1)] [.int (-nI 1)] (am_hp N r I J)) (am_if (decide (x1 < (I 72 0))) (am_D d 58 [.ref 72, .int x1] (am_hp N r I J) (fun v h => am_asI v (fun y => am_V d Q 134 27 [some (.ref 1), some (.int x1)] [.int y] h))) (am_V d Q 134 27 [some (.ref 1), some (.int x1)] [.int (-nI 1)] (am_hp N r I J))) :=
  (am_D_un rfl (fun p => Nat.beq p 27) 13).trans rfl
set_option maxRecDepth 100000 in
theorem e_S_strike_27 {d : Nat} {Q : Value → am_H → Prop} {N : Nat} {I : Nat → Nat → Int32} {J : Nat → Nat → Int64} {x1 : Int32} {y0 : Int32} {r : am_rho} : am_V d Q 134 27 [some (.ref 1), some (.int x1)] [.int y0] (am_hp N r I J) =
    Q (.int y0) (am_hp N r I J) :=
  (am_V_un (fun p => Nat.beq p 27) 3).trans rfl
set_option maxRecDepth 100000 in
theorem e_S_known {d : Nat} {Q : Value → am_H → Prop} {N : Nat} {I : Nat → Nat → Int32} {J : Nat → Nat → Int64} {x1 : Int32} {r : am_rho} : am_D (d + 1) 135 [.ref 1, .int x1] (am_hp N r I J) Q =
    am_if (decide (x1 < (-nI 1))) (Q (.int (nI 0)) (am_hp N r I J)) (am_if (decide (x1 ≤ (I 72 0))) (Q (.int (nI 1)) (am_hp N r (am_u I 72 1 x1) J)) (Q (.int (nI 0)) (am_hp N r I J))) :=
  (am_D_un rfl (fun p => false) 16).trans rfl
set_option maxRecDepth 100000 in
theorem e_S_dreamt {d : Nat} {Q : Value → am_H → Prop} {N : Nat} {I : Nat → Nat → Int32} {J : Nat → Nat → Int64} {x1 : Int32} {r : am_rho} : am_D (d + 1) 136 [.ref 1, .int x1] (am_hp N r I J) Q =
    am_D d 152 [.ref 1, .int x1] (am_hp N r I J) (fun v h => am_asI v (fun y => am_V d Q 136 5 [some (.ref 1), some (.int x1)] [.int y] h)) :=
  (am_D_un rfl (fun p => Nat.beq p 5 || Nat.beq p 20) 5).trans rfl
set_option maxRecDepth 100000 in
theorem e_S_dreamt_5 {d : Nat} {Q : Value → am_H → Prop} {N : Nat} {I : Nat → Nat → Int32} {J : Nat → Nat → Int64} {x1 : Int32} {y0 : Int32} {rt rs rd rl rx nt nw nf : Nat} (h_rt : rt = 3 ∨ rt = 23) : am_V d Q 136 5 [some (.ref 1), some (.int x1)] [.int y0] (am_hp N (rt, rs, rd, rl, rx, nt, nw, nf) I J) =
    am_if (decide (y0 = (nI 0))) (Q (.int (-nI 1)) (am_hp N (rt, rs, rd, rl, rx, nt, nw, nf) I J)) (am_D d 87 [.ref 81, .ref rt, .int x1] (am_hp N (rt, rs, rd, rl, rx, nt, nw, nf) I J) (fun v h => am_asI v (fun y => am_V d Q 136 20 [some (.ref 1), some (.int x1)] [.int y] h))) :=
  by rcases h_rt with rfl | rfl <;> exact (am_V_un (fun p => Nat.beq p 5 || Nat.beq p 20) 9).trans rfl
set_option maxRecDepth 100000 in
theorem e_S_dreamt_20 {d : Nat} {Q : Value → am_H → Prop} {N : Nat} {I : Nat → Nat → Int32} {J : Nat → Nat → Int64} {x1 : Int32} {y0 : Int32} {r : am_rho} : am_V d Q 136 20 [some (.ref 1), some (.int x1)] [.int y0] (am_hp N r I J) =
    Q (.int y0) (am_hp N r I J) :=
  (am_V_un (fun p => Nat.beq p 5 || Nat.beq p 20) 4).trans rfl
set_option maxRecDepth 100000 in
theorem e_S_tells {d : Nat} {Q : Value → am_H → Prop} {N : Nat} {I : Nat → Nat → Int32} {J : Nat → Nat → Int64} {x1 : Int32} {x2 : Int32} {r : am_rho} : am_D (d + 1) 137 [.ref 1, .int x1, .int x2] (am_hp N r I J) Q =
    am_D d 152 [.ref 1, .int x1] (am_hp N r I J) (fun v h => am_asI v (fun y => am_V d Q 137 5 [some (.ref 1), some (.int x1), some (.int x2), none] [.int y] h)) :=
  (am_D_un rfl (fun p => Nat.beq p 5 || Nat.beq p 31 || Nat.beq p 44 || Nat.beq p 61) 5).trans rfl
set_option maxRecDepth 100000 in
theorem e_S_tells_5 {d : Nat} {Q : Value → am_H → Prop} {N : Nat} {I : Nat → Nat → Int32} {J : Nat → Nat → Int64} {x1 : Int32} {x2 : Int32} {y0 : Int32} {rt rs rd rl rx nt nw nf : Nat} (h_rt : rt = 3 ∨ rt = 23) : am_V d Q 137 5 [some (.ref 1), some (.int x1), some (.int x2), none] [.int y0] (am_hp N (rt, rs, rd, rl, rx, nt, nw, nf) I J) =
    am_if (decide (y0 = (nI 0))) (Q (.int (-nI 1)) (am_hp N (rt, rs, rd, rl, rx, nt, nw, nf) I J)) (am_if (decide (x2 < (nI 0))) (Q (.int (-nI 1)) (am_hp N (rt, rs, rd, rl, rx, nt, nw, nf) I J)) (am_if (decide (x2 ≤ (nI 1))) (am_D d 87 [.ref 81, .ref rt, .int x1] (am_hp N (rt, rs, rd, rl, rx, nt, nw, nf) I J) (fun v h => am_asI v (fun y => am_V d Q 137 31 [some (.ref 1), some (.int x1), some (.int x2), none] [.int y] h))) (Q (.int (-nI 1)) (am_hp N (rt, rs, rd, rl, rx, nt, nw, nf) I J)))) :=
  by rcases h_rt with rfl | rfl <;> exact (am_V_un (fun p => Nat.beq p 5 || Nat.beq p 31 || Nat.beq p 44 || Nat.beq p 61) 14).trans rfl
set_option maxRecDepth 100000 in
theorem e_S_tells_31 {d : Nat} {Q : Value → am_H → Prop} {N : Nat} {I : Nat → Nat → Int32} {J : Nat → Nat → Int64} {x1 : Int32} {x2 : Int32} {y0 : Int32} {r : am_rho} : am_V d Q 137 31 [some (.ref 1), some (.int x1), some (.int x2), none] [.int y0] (am_hp N r I J) =
    am_if (!(decide (y0 = (nI 0)))) (am_D d 88 [.ref 81] (am_hp N r I J) (fun v h => am_asI v (fun y => am_V d Q 137 44 [some (.ref 1), some (.int x1), some (.int x2), none] [.int y] h))) (Q (.int (-nI 2)) (am_hp N r I J)) :=
  (am_V_un (fun p => Nat.beq p 5 || Nat.beq p 31 || Nat.beq p 44 || Nat.beq p 61) 6).trans rfl
set_option maxRecDepth 100000 in
theorem e_S_tells_44 {d : Nat} {Q : Value → am_H → Prop} {N : Nat} {I : Nat → Nat → Int32} {J : Nat → Nat → Int64} {x1 : Int32} {x2 : Int32} {y0 : Int32} {r : am_rho} : am_V d Q 137 44 [some (.ref 1), some (.int x1), some (.int x2), none] [.int y0] (am_hp N r I J) =
    am_if (!(decide (x2 = (nI 0)))) (am_D d 89 [.ref 81, .int y0] (am_hp N r I J) (fun v h => am_asI v (fun y => am_V d Q 137 61 [some (.ref 1), some (.int x1), some (.int x2), some (.int y0)] [.int y] h))) (am_V d Q 137 61 [some (.ref 1), some (.int x1), some (.int x2), some (.int y0)] [.int y0] (am_hp N r I J)) :=
  (am_V_un (fun p => Nat.beq p 5 || Nat.beq p 31 || Nat.beq p 44 || Nat.beq p 61) 9).trans rfl
set_option maxRecDepth 100000 in
theorem e_S_tells_61 {d : Nat} {Q : Value → am_H → Prop} {N : Nat} {I : Nat → Nat → Int32} {J : Nat → Nat → Int64} {x1 : Int32} {x2 : Int32} {x3 : Int32} {y0 : Int32} {r : am_rho} : am_V d Q 137 61 [some (.ref 1), some (.int x1), some (.int x2), some (.int x3)] [.int y0] (am_hp N r I J) =
    Q (.int y0) (am_hp N r I J) :=
  (am_V_un (fun p => Nat.beq p 5 || Nat.beq p 31 || Nat.beq p 44 || Nat.beq p 61) 3).trans rfl
set_option maxRecDepth 100000 in
theorem e_S_rests {d : Nat} {Q : Value → am_H → Prop} {N : Nat} {I : Nat → Nat → Int32} {J : Nat → Nat → Int64} {x1 : Int32} {x2 : Int32} {r : am_rho} : am_D (d + 1) 138 [.ref 1, .int x1, .int x2] (am_hp N r I J) Q =
    am_D d 155 [.ref 1, .int x1, .int x2] (am_hp N r I J) (fun v h => am_asI v (fun y => am_V d Q 138 6 [some (.ref 1), some (.int x1), some (.int x2)] [.int y] h)) :=
  (am_D_un rfl (fun p => Nat.beq p 6 || Nat.beq p 24) 6).trans rfl
set_option maxRecDepth 100000 in
theorem e_S_rests_6 {d : Nat} {Q : Value → am_H → Prop} {N : Nat} {I : Nat → Nat → Int32} {J : Nat → Nat → Int64} {x1 : Int32} {x2 : Int32} {y0 : Int32} {rt rs rd rl rx nt nw nf : Nat} (h_rt : rt = 3 ∨ rt = 23) : am_V d Q 138 6 [some (.ref 1), some (.int x1), some (.int x2)] [.int y0] (am_hp N (rt, rs, rd, rl, rx, nt, nw, nf) I J) =
    am_if (!(decide (y0 = (nI 0)))) (am_D d 90 [.ref 81, .ref rt, .int x1, .int x2] (am_hp N (rt, rs, rd, rl, rx, nt, nw, nf) I J) (fun v h => am_V d Q 138 24 [some (.ref 1), some (.int x1), some (.int x2)] [] h)) (Q (.int (-nI 1)) (am_hp N (rt, rs, rd, rl, rx, nt, nw, nf) I J)) :=
  by rcases h_rt with rfl | rfl <;> exact (am_V_un (fun p => Nat.beq p 6 || Nat.beq p 24) 10).trans rfl
set_option maxRecDepth 100000 in
theorem e_S_rests_24 {d : Nat} {Q : Value → am_H → Prop} {N : Nat} {I : Nat → Nat → Int32} {J : Nat → Nat → Int64} {x1 : Int32} {x2 : Int32} {r : am_rho} : am_V d Q 138 24 [some (.ref 1), some (.int x1), some (.int x2)] [] (am_hp N r I J) =
    Q (.int (I 81 9)) (am_hp N r I J) :=
  (am_V_un (fun p => Nat.beq p 6 || Nat.beq p 24) 6).trans rfl
set_option maxRecDepth 100000 in
theorem e_S_rest {d : Nat} {Q : Value → am_H → Prop} {N : Nat} {I : Nat → Nat → Int32} {J : Nat → Nat → Int64} {x1 : Int32} {x2 : Int32} {x3 : Int32} {r : am_rho} : am_D (d + 1) 139 [.ref 1, .int x1, .int x2, .int x3] (am_hp N r I J) Q =
    am_D d 155 [.ref 1, .int x1, .int x2] (am_hp N r I J) (fun v h => am_asI v (fun y => am_V d Q 139 6 [some (.ref 1), some (.int x1), some (.int x2), some (.int x3)] [.int y] h)) :=
  (am_D_un rfl (fun p => Nat.beq p 6 || Nat.beq p 28) 6).trans rfl
set_option maxRecDepth 100000 in
theorem e_S_rest_6 {d : Nat} {Q : Value → am_H → Prop} {N : Nat} {I : Nat → Nat → Int32} {J : Nat → Nat → Int64} {x1 : Int32} {x2 : Int32} {x3 : Int32} {y0 : Int32} {rt rs rd rl rx nt nw nf : Nat} (h_rt : rt = 3 ∨ rt = 23) : am_V d Q 139 6 [some (.ref 1), some (.int x1), some (.int x2), some (.int x3)] [.int y0] (am_hp N (rt, rs, rd, rl, rx, nt, nw, nf) I J) =
    am_if (decide (y0 = (nI 0))) (Q (.int (-nI 1)) (am_hp N (rt, rs, rd, rl, rx, nt, nw, nf) I J)) (am_if (decide (((nI 0) : Int32) ≤ x3)) (am_D d 90 [.ref 81, .ref rt, .int x1, .int x2] (am_hp N (rt, rs, rd, rl, rx, nt, nw, nf) I J) (fun v h => am_V d Q 139 28 [some (.ref 1), some (.int x1), some (.int x2), some (.int x3)] [] h)) (Q (.int (-nI 1)) (am_hp N (rt, rs, rd, rl, rx, nt, nw, nf) I J))) :=
  by rcases h_rt with rfl | rfl <;> exact (am_V_un (fun p => Nat.beq p 6 || Nat.beq p 28) 12).trans rfl
set_option maxRecDepth 100000 in
theorem e_S_rest_28 {d : Nat} {Q : Value → am_H → Prop} {N : Nat} {I : Nat → Nat → Int32} {J : Nat → Nat → Int64} {x1 : Int32} {x2 : Int32} {x3 : Int32} {r : am_rho} : am_V d Q 139 28 [some (.ref 1), some (.int x1), some (.int x2), some (.int x3)] [] (am_hp N r I J) =
    am_if (decide ((I 81 9) ≤ x3)) (Q (.int (-nI 2)) (am_hp N r I J)) (am_g (am_inb x3 64) (Q (.int (I 92 x3.toNatClampNeg)) (am_hp N r I J))) :=
  (am_V_un (fun p => Nat.beq p 6 || Nat.beq p 28) 14).trans rfl
set_option maxRecDepth 100000 in
theorem e_S_brought {d : Nat} {Q : Value → am_H → Prop} {N : Nat} {I : Nat → Nat → Int32} {J : Nat → Nat → Int64} {x1 : Int32} {r : am_rho} : am_D (d + 1) 140 [.ref 1, .int x1] (am_hp N r I J) Q =
    am_D d 151 [.ref 1, .int x1] (am_hp N r I J) (fun v h => am_asI v (fun y => am_V d Q 140 5 [some (.ref 1), some (.int x1), none, none, none] [.int y] h)) :=
  (am_D_un rfl (fun p => Nat.beq p 5 || Nat.beq p 21 || Nat.beq p 25 || Nat.beq p 45 || Nat.beq p 62) 5).trans rfl
set_option maxRecDepth 100000 in
theorem e_S_brought_5 {d : Nat} {Q : Value → am_H → Prop} {N : Nat} {I : Nat → Nat → Int32} {J : Nat → Nat → Int64} {x1 : Int32} {y0 : Int32} {rt rs rd rl rx nt nw nf : Nat} (h_rt : rt = 3 ∨ rt = 23) : am_V d Q 140 5 [some (.ref 1), some (.int x1), none, none, none] [.int y0] (am_hp N (rt, rs, rd, rl, rx, nt, nw, nf) I J) =
    am_if (!(decide (y0 = (nI 0)))) (am_D d 81 [.ref 81, .ref rt] (am_hp N (rt, rs, rd, rl, rx, nt, nw, nf) I J) (fun v h => am_V d Q 140 21 [some (.ref 1), some (.int x1), none, none, none] [] h)) (Q (.int (-nI 1)) (am_hp N (rt, rs, rd, rl, rx, nt, nw, nf) I J)) :=
  by rcases h_rt with rfl | rfl <;> exact (am_V_un (fun p => Nat.beq p 5 || Nat.beq p 21 || Nat.beq p 25 || Nat.beq p 45 || Nat.beq p 62) 8).trans rfl
set_option maxRecDepth 100000 in
theorem e_S_brought_21 {d : Nat} {Q : Value → am_H → Prop} {N : Nat} {I : Nat → Nat → Int32} {J : Nat → Nat → Int64} {x1 : Int32} {r : am_rho} : am_V d Q 140 21 [some (.ref 1), some (.int x1), none, none, none] [] (am_hp N r I J) =
    am_V d Q 140 25 [some (.ref 1), some (.int x1), some (.int (nI 0)), some (.int (nI 0)), am_oi none] [] (am_hp N r I J) :=
  (am_V_un (fun p => Nat.beq p 5 || Nat.beq p 21 || Nat.beq p 25 || Nat.beq p 45 || Nat.beq p 62) 6).trans rfl
set_option maxRecDepth 100000 in
theorem e_S_brought_25 {d : Nat} {Q : Value → am_H → Prop} {N : Nat} {I : Nat → Nat → Int32} {J : Nat → Nat → Int64} {x1 : Int32} {x2 : Int32} {x3 : Int32} {o4 : Option Int32} {rt rs rd rl rx nt nw nf : Nat} (h_rt : rt = 3 ∨ rt = 23) : am_V d Q 140 25 [some (.ref 1), some (.int x1), some (.int x2), some (.int x3), am_oi o4] [] (am_hp N (rt, rs, rd, rl, rx, nt, nw, nf) I J) =
    am_if (decide ((I rt 2) ≤ x3)) (Q (.int x2) (am_hp N (rt, rs, rd, rl, rx, nt, nw, nf) I J)) (am_V d Q 140 45 [some (.ref 1), some (.int x1), some (.int x2), some (.int x3), some (.int (I 49 0))] [] (am_hp N (rt, rs, rd, rl, rx, nt, nw, nf) I J)) :=
  by rcases h_rt with rfl | rfl <;> exact (am_V_un (fun p => Nat.beq p 5 || Nat.beq p 21 || Nat.beq p 25 || Nat.beq p 45 || Nat.beq p 62) 11).trans rfl
set_option maxRecDepth 100000 in
theorem e_S_brought_45 {d : Nat} {Q : Value → am_H → Prop} {N : Nat} {I : Nat → Nat → Int32} {J : Nat → Nat → Int64} {x1 : Int32} {x2 : Int32} {x3 : Int32} {x4 : Int32} {r : am_rho} : am_V d Q 140 45 [some (.ref 1), some (.int x1), some (.int x2), some (.int x3), some (.int x4)] [] (am_hp N r I J) =
    am_if (decide (((nI 12) : Int32) ≤ x4)) (am_V d Q 140 25 [some (.ref 1), some (.int x1), some (.int x2), some (.int (x3 + (nI 1))), am_oi (some x4)] [] (am_hp N r I J)) (am_D d 25 [.ref 61, .int x3, .int x4] (am_hp N r I J) (fun v h => am_asI v (fun y => am_V d Q 140 62 [some (.ref 1), some (.int x1), some (.int x2), some (.int x3), some (.int x4)] [.int y] h))) :=
  (am_V_un (fun p => Nat.beq p 5 || Nat.beq p 21 || Nat.beq p 25 || Nat.beq p 45 || Nat.beq p 62) 10).trans rfl
set_option maxRecDepth 100000 in
theorem e_S_brought_62 {d : Nat} {Q : Value → am_H → Prop} {N : Nat} {I : Nat → Nat → Int32} {J : Nat → Nat → Int64} {x1 : Int32} {x2 : Int32} {x3 : Int32} {x4 : Int32} {y0 : Int32} {r : am_rho} : am_V d Q 140 62 [some (.ref 1), some (.int x1), some (.int x2), some (.int x3), some (.int x4)] [.int y0] (am_hp N r I J) =
    am_if (!(decide (y0 = x1))) (am_V d Q 140 45 [some (.ref 1), some (.int x1), some (.int x2), some (.int x3), some (.int (x4 + (nI 1)))] [] (am_hp N r I J)) (am_V d Q 140 45 [some (.ref 1), some (.int x1), some (.int (x2 ||| ((nI 1) <<< (x3 &&& nI 31)))), some (.int x3), some (.int (x4 + (nI 1)))] [] (am_hp N r I J)) :=
  (am_V_un (fun p => Nat.beq p 5 || Nat.beq p 21 || Nat.beq p 25 || Nat.beq p 45 || Nat.beq p 62) 12).trans rfl
set_option maxRecDepth 100000 in
theorem e_S_cost {d : Nat} {Q : Value → am_H → Prop} {N : Nat} {I : Nat → Nat → Int32} {J : Nat → Nat → Int64} {x1 : Int32} {rt rs rd rl rx nt nw nf : Nat} (h_rt : rt = 3 ∨ rt = 23) : am_D (d + 1) 141 [.ref 1, .int x1] (am_hp N (rt, rs, rd, rl, rx, nt, nw, nf) I J) Q =
    am_D d 77 [.ref rt] (am_hp N (rt, rs, rd, rl, rx, nt, nw, nf) I J) (fun v h => am_asI v (fun y => am_V d Q 141 7 [some (.ref 1), some (.int x1), none] [.int y] h)) :=
  by rcases h_rt with rfl | rfl <;> exact (am_D_un rfl (fun p => Nat.beq p 7 || Nat.beq p 32 || Nat.beq p 48 || Nat.beq p 52) 5).trans rfl
set_option maxRecDepth 100000 in
theorem e_S_cost_7 {d : Nat} {Q : Value → am_H → Prop} {N : Nat} {I : Nat → Nat → Int32} {J : Nat → Nat → Int64} {x1 : Int32} {y0 : Int32} {rt rs rd rl rx nt nw nf : Nat} (h_rt : rt = 3 ∨ rt = 23) : am_V d Q 141 7 [some (.ref 1), some (.int x1), none] [.int y0] (am_hp N (rt, rs, rd, rl, rx, nt, nw, nf) I J) =
    am_if (decide (x1 < (nI 0))) (Q (.int (-nI 1)) (am_hp N (rt, rs, rd, rl, rx, nt, nw, nf) I J)) (am_if (decide (x1 ≤ y0)) (am_D d 94 [.ref 81, .ref rt, .int y0] (am_hp N (rt, rs, rd, rl, rx, nt, nw, nf) I J) (fun v h => am_asI v (fun y => am_V d Q 141 32 [some (.ref 1), some (.int x1), some (.int y0)] [.int y, .int (nI 0)] h))) (Q (.int (-nI 1)) (am_hp N (rt, rs, rd, rl, rx, nt, nw, nf) I J))) :=
  by rcases h_rt with rfl | rfl <;> exact (am_V_un (fun p => Nat.beq p 7 || Nat.beq p 32 || Nat.beq p 48 || Nat.beq p 52) 15).trans rfl
set_option maxRecDepth 100000 in
theorem e_S_cost_32 {d : Nat} {Q : Value → am_H → Prop} {N : Nat} {I : Nat → Nat → Int32} {J : Nat → Nat → Int64} {x1 : Int32} {x2 : Int32} {y0 : Int32} {y1 : Int32} {rt rs rd rl rx nt nw nf : Nat} (h_rt : rt = 3 ∨ rt = 23) : am_V d Q 141 32 [some (.ref 1), some (.int x1), some (.int x2)] [.int y1, .int y0] (am_hp N (rt, rs, rd, rl, rx, nt, nw, nf) I J) =
    am_D d 94 [.ref 81, .ref rt, .int (x2 &&& (x1 ^^^ (-nI 1)))] (am_hp N (rt, rs, rd, rl, rx, nt, nw, nf) I J) (fun v h => am_asI v (fun y => am_V d Q 141 48 [some (.ref 1), some (.int x1), some (.int x2)] [.int y, .int y1, .int y0] h)) :=
  by rcases h_rt with rfl | rfl <;> exact (am_V_un (fun p => Nat.beq p 7 || Nat.beq p 32 || Nat.beq p 48 || Nat.beq p 52) 12).trans rfl
set_option maxRecDepth 100000 in
theorem e_S_cost_48 {d : Nat} {Q : Value → am_H → Prop} {N : Nat} {I : Nat → Nat → Int32} {J : Nat → Nat → Int64} {x1 : Int32} {x2 : Int32} {y0 : Int32} {y1 : Int32} {y2 : Int32} {r : am_rho} : am_V d Q 141 48 [some (.ref 1), some (.int x1), some (.int x2)] [.int y2, .int y1, .int y0] (am_hp N r I J) =
    am_D d 279 [.int y0, .int (y1 - y2)] (am_hp N r I J) (fun v h => am_asI v (fun y => am_V d Q 141 52 [some (.ref 1), some (.int x1), some (.int x2)] [.int y] h)) :=
  (am_V_un (fun p => Nat.beq p 7 || Nat.beq p 32 || Nat.beq p 48 || Nat.beq p 52) 4).trans rfl
set_option maxRecDepth 100000 in
theorem e_S_cost_52 {d : Nat} {Q : Value → am_H → Prop} {N : Nat} {I : Nat → Nat → Int32} {J : Nat → Nat → Int64} {x1 : Int32} {x2 : Int32} {y0 : Int32} {r : am_rho} : am_V d Q 141 52 [some (.ref 1), some (.int x1), some (.int x2)] [.int y0] (am_hp N r I J) =
    Q (.int y0) (am_hp N r I J) :=
  (am_V_un (fun p => Nat.beq p 7 || Nat.beq p 32 || Nat.beq p 48 || Nat.beq p 52) 3).trans rfl
set_option maxRecDepth 100000 in
theorem e_S_need {d : Nat} {Q : Value → am_H → Prop} {N : Nat} {I : Nat → Nat → Int32} {J : Nat → Nat → Int64} {rt rs rd rl rx nt nw nf : Nat} (h_rt : rt = 3 ∨ rt = 23) : am_D (d + 1) 142 [.ref 1] (am_hp N (rt, rs, rd, rl, rx, nt, nw, nf) I J) Q =
    am_D d 95 [.ref 81, .ref rt] (am_hp N (rt, rs, rd, rl, rx, nt, nw, nf) I J) (fun v h => am_asI v (fun y => am_V d Q 142 11 [some (.ref 1)] [.int y] h)) :=
  by rcases h_rt with rfl | rfl <;> exact (am_D_un rfl (fun p => Nat.beq p 11) 7).trans rfl
set_option maxRecDepth 100000 in
theorem e_S_need_11 {d : Nat} {Q : Value → am_H → Prop} {N : Nat} {I : Nat → Nat → Int32} {J : Nat → Nat → Int64} {y0 : Int32} {r : am_rho} : am_V d Q 142 11 [some (.ref 1)] [.int y0] (am_hp N r I J) =
    Q (.int y0) (am_hp N r I J) :=
  (am_V_un (fun p => Nat.beq p 11) 3).trans rfl
set_option maxRecDepth 100000 in
theorem e_S_chance {d : Nat} {Q : Value → am_H → Prop} {N : Nat} {I : Nat → Nat → Int32} {J : Nat → Nat → Int64} {x1 : Int32} {x2 : Int32} {x3 : Int32} {r : am_rho} : am_D (d + 1) 143 [.ref 1, .int x1, .int x2, .int x3] (am_hp N r I J) Q =
    am_if (decide (x1 < (nI 0))) (Q (.int (-nI 1)) (am_hp N r I J)) (am_D d 153 [.ref 1, .int x2] (am_hp N r I J) (fun v h => am_asI v (fun y => am_V d Q 143 9 [some (.ref 1), some (.int x1), some (.int x2), some (.int x3)] [.int y] h))) :=
  (am_D_un rfl (fun p => Nat.beq p 9 || Nat.beq p 39) 7).trans rfl
set_option maxRecDepth 100000 in
theorem e_S_chance_9 {d : Nat} {Q : Value → am_H → Prop} {N : Nat} {I : Nat → Nat → Int32} {J : Nat → Nat → Int64} {x1 : Int32} {x2 : Int32} {x3 : Int32} {y0 : Int32} {rt rs rd rl rx nt nw nf : Nat} (h_rt : rt = 3 ∨ rt = 23) : am_V d Q 143 9 [some (.ref 1), some (.int x1), some (.int x2), some (.int x3)] [.int y0] (am_hp N (rt, rs, rd, rl, rx, nt, nw, nf) I J) =
    am_if (decide (y0 = (nI 0))) (Q (.int (-nI 1)) (am_hp N (rt, rs, rd, rl, rx, nt, nw, nf) I J)) (am_if (decide (x3 < (nI 1))) (Q (.int (-nI 1)) (am_hp N (rt, rs, rd, rl, rx, nt, nw, nf) I J)) (am_if (decide (x3 ≤ (nI 9))) (am_D d 96 [.ref 81, .ref rt, .int x1, .int x2, .int x3] (am_hp N (rt, rs, rd, rl, rx, nt, nw, nf) I J) (fun v h => am_asI v (fun y => am_V d Q 143 39 [some (.ref 1), some (.int x1), some (.int x2), some (.int x3)] [.int y] h))) (Q (.int (-nI 1)) (am_hp N (rt, rs, rd, rl, rx, nt, nw, nf) I J)))) :=
  by rcases h_rt with rfl | rfl <;> exact (am_V_un (fun p => Nat.beq p 9 || Nat.beq p 39) 17).trans rfl
set_option maxRecDepth 100000 in
theorem e_S_chance_39 {d : Nat} {Q : Value → am_H → Prop} {N : Nat} {I : Nat → Nat → Int32} {J : Nat → Nat → Int64} {x1 : Int32} {x2 : Int32} {x3 : Int32} {y0 : Int32} {r : am_rho} : am_V d Q 143 39 [some (.ref 1), some (.int x1), some (.int x2), some (.int x3)] [.int y0] (am_hp N r I J) =
    Q (.int y0) (am_hp N r I J) :=
  (am_V_un (fun p => Nat.beq p 9 || Nat.beq p 39) 3).trans rfl
set_option maxRecDepth 100000 in
theorem e_S_tried {d : Nat} {Q : Value → am_H → Prop} {N : Nat} {I : Nat → Nat → Int32} {J : Nat → Nat → Int64} {x1 : Int32} {x2 : Int32} {rt rs rd rl rx nt nw nf : Nat} (h_rt : rt = 3 ∨ rt = 23) : am_D (d + 1) 144 [.ref 1, .int x1, .int x2] (am_hp N (rt, rs, rd, rl, rx, nt, nw, nf) I J) Q =
    am_if (decide (x1 < (nI 0))) (Q (.int (-nI 1)) (am_hp N (rt, rs, rd, rl, rx, nt, nw, nf) I J)) (am_if (decide (x1 ≤ (nI 7))) (am_if (!(decide (x1 = (nI 6)))) (am_if (!(decide (x1 = (nI 7)))) (am_if (decide (x2 < (nI 0))) (am_V d Q 144 72 [some (.ref 1), some (.int x1), some (.int x2), some (.int (nI 1))] [.int (-nI 1)] (am_hp N (rt, rs, rd, rl, rx, nt, nw, nf) I J)) (am_if (decide (x2 < (nI 1))) (am_D d 98 [.ref 81, .ref rt, .int x1, .int x2] (am_hp N (rt, rs, rd, rl, rx, nt, nw, nf) I J) (fun v h => am_asI v (fun y => am_V d Q 144 72 [some (.ref 1), some (.int x1), some (.int x2), some (.int (nI 1))] [.int y] h))) (am_V d Q 144 72 [some (.ref 1), some (.int x1), some (.int x2), some (.int (nI 1))] [.int (-nI 1)] (am_hp N (rt, rs, rd, rl, rx, nt, nw, nf) I J)))) (am_if (decide (x2 < (nI 0))) (am_V d Q 144 72 [some (.ref 1), some (.int x1), some (.int x2), some (.int (I rt 1))] [.int (-nI 1)] (am_hp N (rt, rs, rd, rl, rx, nt, nw, nf) I J)) (am_if (decide (x2 < (I rt 1))) (am_D d 98 [.ref 81, .ref rt, .int x1, .int x2] (am_hp N (rt, rs, rd, rl, rx, nt, nw, nf) I J) (fun v h => am_asI v (fun y => am_V d Q 144 72 [some (.ref 1), some (.int x1), some (.int x2), some (.int (I rt 1))] [.int y] h))) (am_V d Q 144 72 [some (.ref 1), some (.int x1), some (.int x2), some (.int (I rt 1))] [.int (-nI 1)] (am_hp N (rt, rs, rd, rl, rx, nt, nw, nf) I J))))) (am_if (decide (x2 < (nI 0))) (am_V d Q 144 72 [some (.ref 1), some (.int x1), some (.int x2), some (.int (I rt 2))] [.int (-nI 1)] (am_hp N (rt, rs, rd, rl, rx, nt, nw, nf) I J)) (am_if (decide (x2 < (I rt 2))) (am_D d 98 [.ref 81, .ref rt, .int x1, .int x2] (am_hp N (rt, rs, rd, rl, rx, nt, nw, nf) I J) (fun v h => am_asI v (fun y => am_V d Q 144 72 [some (.ref 1), some (.int x1), some (.int x2), some (.int (I rt 2))] [.int y] h))) (am_V d Q 144 72 [some (.ref 1), some (.int x1), some (.int x2), some (.int (I rt 2))] [.int (-nI 1)] (am_hp N (rt, rs, rd, rl, rx, nt, nw, nf) I J))))) (Q (.int (-nI 1)) (am_hp N (rt, rs, rd, rl, rx, nt, nw, nf) I J))) :=
  by rcases h_rt with rfl | rfl <;> exact (am_D_un rfl (fun p => Nat.beq p 72) 30).trans rfl
set_option maxRecDepth 100000 in
theorem e_S_tried_72 {d : Nat} {Q : Value → am_H → Prop} {N : Nat} {I : Nat → Nat → Int32} {J : Nat → Nat → Int64} {x1 : Int32} {x2 : Int32} {x3 : Int32} {y0 : Int32} {r : am_rho} : am_V d Q 144 72 [some (.ref 1), some (.int x1), some (.int x2), some (.int x3)] [.int y0] (am_hp N r I J) =
    Q (.int y0) (am_hp N r I J) :=
  (am_V_un (fun p => Nat.beq p 72) 3).trans rfl
set_option maxRecDepth 100000 in
theorem e_S_undo {d : Nat} {Q : Value → am_H → Prop} {N : Nat} {I : Nat → Nat → Int32} {J : Nat → Nat → Int64} {r : am_rho} : am_D (d + 1) 145 [.ref 1] (am_hp N r I J) Q =
    am_if (!(decide ((I 77 0) = (nI 0)))) (am_g (am_inb ((I 77 0) - (nI 1)) 20) (am_g (am_inb ((I 77 0) - (nI 1)) 20) (am_g (am_inb ((I 77 0) - (nI 1)) 20) (am_if (decide ((I 78 ((I 77 0) - (nI 1)).toNatClampNeg) = (nI 0))) (am_D d 104 [.ref 49, .int (I 79 ((I 77 0) - (nI 1)).toNatClampNeg)] (am_hp N r I J) (fun v h => am_asI v (fun y => am_V d Q 145 89 [some (.ref 1), some (.int ((I 77 0) - (nI 1))), some (.int (I 79 ((I 77 0) - (nI 1)).toNatClampNeg)), some (.int (I 80 ((I 77 0) - (nI 1)).toNatClampNeg))] [.int y, .int (I 79 ((I 77 0) - (nI 1)).toNatClampNeg), .ref 49] h))) (am_if (decide ((I 78 ((I 77 0) - (nI 1)).toNatClampNeg) = (nI 1))) (Q (.int ((I 77 0) - (nI 1))) (am_hp N r (am_u (am_u I 49 5 ((I 49 5) ^^^ ((nI 1) <<< ((I 79 ((I 77 0) - (nI 1)).toNatClampNeg) &&& nI 31)))) 77 0 ((I 77 0) - (nI 1))) J)) (am_g (am_inb (I 79 ((I 77 0) - (nI 1)).toNatClampNeg) 8) (Q (.int ((I 77 0) - (nI 1))) (am_hp N r (am_u (am_u I 54 (I 79 ((I 77 0) - (nI 1)).toNatClampNeg).toNatClampNeg (I 80 ((I 77 0) - (nI 1)).toNatClampNeg)) 77 0 ((I 77 0) - (nI 1))) J)))))))) (Q (.int (-nI 1)) (am_hp N r I J)) :=
  (am_D_un rfl (fun p => Nat.beq p 89 || Nat.beq p 93) 46).trans rfl
set_option maxRecDepth 100000 in
theorem e_S_undo_89 {d : Nat} {Q : Value → am_H → Prop} {N : Nat} {I : Nat → Nat → Int32} {J : Nat → Nat → Int64} {x1 : Int32} {x2 : Int32} {x3 : Int32} {y1 : Int32} {y2 : Int32} {r : am_rho} : am_V d Q 145 89 [some (.ref 1), some (.int x1), some (.int x2), some (.int x3)] [.int y2, .int y1, .ref 49] (am_hp N r I J) =
    am_D d 107 [.ref 49, .int y1, .int y2, .int x3] (am_hp N r I J) (fun v h => am_V d Q 145 93 [some (.ref 1), some (.int x1), some (.int x2), some (.int x3)] [] h) :=
  (am_V_un (fun p => Nat.beq p 89 || Nat.beq p 93) 4).trans rfl
set_option maxRecDepth 100000 in
theorem e_S_undo_93 {d : Nat} {Q : Value → am_H → Prop} {N : Nat} {I : Nat → Nat → Int32} {J : Nat → Nat → Int64} {x1 : Int32} {x2 : Int32} {x3 : Int32} {r : am_rho} : am_V d Q 145 93 [some (.ref 1), some (.int x1), some (.int x2), some (.int x3)] [] (am_hp N r I J) =
    Q (.int x1) (am_hp N r (am_u I 77 0 x1) J) :=
  (am_V_un (fun p => Nat.beq p 89 || Nat.beq p 93) 9).trans rfl
set_option maxRecDepth 100000 in
theorem e_S_keep {d : Nat} {Q : Value → am_H → Prop} {N : Nat} {I : Nat → Nat → Int32} {J : Nat → Nat → Int64} {r : am_rho} : am_D (d + 1) 146 [.ref 1] (am_hp N r I J) Q =
    am_D d 101 [.ref 55, .ref 49] (am_hp N r I J) (fun v h => am_V d Q 146 11 [some (.ref 1)] [] h) :=
  (am_D_un rfl (fun p => Nat.beq p 11) 7).trans rfl
set_option maxRecDepth 100000 in
theorem e_S_keep_11 {d : Nat} {Q : Value → am_H → Prop} {N : Nat} {I : Nat → Nat → Int32} {J : Nat → Nat → Int64} {r : am_rho} : am_V d Q 146 11 [some (.ref 1)] [] (am_hp N r I J) =
    Q (.int ((am_u I 1 7 (nI 1)) 49 1)) (am_hp N r (am_u I 1 7 (nI 1)) J) :=
  (am_V_un (fun p => Nat.beq p 11) 9).trans rfl
set_option maxRecDepth 100000 in
theorem e_S_back {d : Nat} {Q : Value → am_H → Prop} {N : Nat} {I : Nat → Nat → Int32} {J : Nat → Nat → Int64} {r : am_rho} : am_D (d + 1) 147 [.ref 1] (am_hp N r I J) Q =
    am_if (!(decide ((I 1 7) = (nI 0)))) (am_D d 101 [.ref 49, .ref 55] (am_hp N r I J) (fun v h => am_V d Q 147 20 [some (.ref 1)] [] h)) (Q (.int (-nI 1)) (am_hp N r I J)) :=
  (am_D_un rfl (fun p => Nat.beq p 20) 10).trans rfl
set_option maxRecDepth 100000 in
theorem e_S_back_20 {d : Nat} {Q : Value → am_H → Prop} {N : Nat} {I : Nat → Nat → Int32} {J : Nat → Nat → Int64} {r : am_rho} : am_V d Q 147 20 [some (.ref 1)] [] (am_hp N r I J) =
    Q (.int ((am_u I 77 0 (nI 0)) 49 1)) (am_hp N r (am_u I 77 0 (nI 0)) J) :=
  (am_V_un (fun p => Nat.beq p 20) 10).trans rfl
set_option maxRecDepth 100000 in
theorem e_S_count {d : Nat} {Q : Value → am_H → Prop} {N : Nat} {I : Nat → Nat → Int32} {J : Nat → Nat → Int64} {x1 : Int32} {rt rs rd rl rx nt nw nf : Nat} (h_rt : rt = 3 ∨ rt = 23) : am_D (d + 1) 148 [.ref 1, .int x1] (am_hp N (rt, rs, rd, rl, rx, nt, nw, nf) I J) Q =
    am_if (decide (x1 = (nI 0))) (Q (.int (I rt 0)) (am_hp N (rt, rs, rd, rl, rx, nt, nw, nf) I J)) (am_if (decide (x1 = (nI 1))) (Q (.int (I rt 1)) (am_hp N (rt, rs, rd, rl, rx, nt, nw, nf) I J)) (am_if (decide (x1 = (nI 2))) (Q (.int (I rt 2)) (am_hp N (rt, rs, rd, rl, rx, nt, nw, nf) I J)) (am_if (decide (x1 = (nI 3))) (Q (.int (I rt 3)) (am_hp N (rt, rs, rd, rl, rx, nt, nw, nf) I J)) (am_if (decide (x1 = (nI 4))) (Q (.int (I rt 4)) (am_hp N (rt, rs, rd, rl, rx, nt, nw, nf) I J)) (am_if (decide (x1 = (nI 5))) (Q (.int (I (rt + 15) 0)) (am_hp N (rt, rs, rd, rl, rx, nt, nw, nf) I J)) (am_if (decide (x1 = (nI 6))) (Q (.int (I 49 0)) (am_hp N (rt, rs, rd, rl, rx, nt, nw, nf) I J)) (am_if (decide (x1 = (nI 7))) (Q (.int (I 49 1)) (am_hp N (rt, rs, rd, rl, rx, nt, nw, nf) I J)) (am_if (decide (x1 = (nI 8))) (am_D d 277 [.int (I 49 4)] (am_hp N (rt, rs, rd, rl, rx, nt, nw, nf) I J) (fun v h => am_asI v (fun y => am_V d Q 148 153 [some (.ref 1), some (.int x1)] [.int y] h))) (am_if (decide (x1 = (nI 9))) (am_D d 106 [.ref 49] (am_hp N (rt, rs, rd, rl, rx, nt, nw, nf) I J) (fun v h => am_asI v (fun y => am_V d Q 148 161 [some (.ref 1), some (.int x1)] [.int y] h))) (am_if (decide (x1 = (nI 10))) (am_D d 277 [.int (I 49 3)] (am_hp N (rt, rs, rd, rl, rx, nt, nw, nf) I J) (fun v h => am_asI v (fun y => am_V d Q 148 172 [some (.ref 1), some (.int x1)] [.int y] h))) (am_if (decide (x1 = (nI 11))) (Q (.int (I 49 5)) (am_hp N (rt, rs, rd, rl, rx, nt, nw, nf) I J)) (am_if (decide (x1 = (nI 12))) (Q (.int (I 72 0)) (am_hp N (rt, rs, rd, rl, rx, nt, nw, nf) I J)) (am_if (decide (x1 = (nI 13))) (am_D d 59 [.ref 72] (am_hp N (rt, rs, rd, rl, rx, nt, nw, nf) I J) (fun v h => am_asI v (fun y => am_V d Q 148 196 [some (.ref 1), some (.int x1)] [.int y] h))) (am_if (decide (x1 = (nI 14))) (Q (.int (I 77 0)) (am_hp N (rt, rs, rd, rl, rx, nt, nw, nf) I J)) (Q (.int (-nI 1)) (am_hp N (rt, rs, rd, rl, rx, nt, nw, nf) I J)))))))))))))))) :=
  by rcases h_rt with rfl | rfl <;> exact (am_D_un rfl (fun p => Nat.beq p 153 || Nat.beq p 161 || Nat.beq p 172 || Nat.beq p 196) 9).trans rfl
set_option maxRecDepth 100000 in
theorem e_S_count_153 {d : Nat} {Q : Value → am_H → Prop} {N : Nat} {I : Nat → Nat → Int32} {J : Nat → Nat → Int64} {x1 : Int32} {y0 : Int32} {r : am_rho} : am_V d Q 148 153 [some (.ref 1), some (.int x1)] [.int y0] (am_hp N r I J) =
    Q (.int y0) (am_hp N r I J) :=
  (am_V_un (fun p => Nat.beq p 153 || Nat.beq p 161 || Nat.beq p 172 || Nat.beq p 196) 3).trans rfl
set_option maxRecDepth 100000 in
theorem e_S_count_161 {d : Nat} {Q : Value → am_H → Prop} {N : Nat} {I : Nat → Nat → Int32} {J : Nat → Nat → Int64} {x1 : Int32} {y0 : Int32} {r : am_rho} : am_V d Q 148 161 [some (.ref 1), some (.int x1)] [.int y0] (am_hp N r I J) =
    Q (.int y0) (am_hp N r I J) :=
  (am_V_un (fun p => Nat.beq p 153 || Nat.beq p 161 || Nat.beq p 172 || Nat.beq p 196) 3).trans rfl
set_option maxRecDepth 100000 in
theorem e_S_count_172 {d : Nat} {Q : Value → am_H → Prop} {N : Nat} {I : Nat → Nat → Int32} {J : Nat → Nat → Int64} {x1 : Int32} {y0 : Int32} {r : am_rho} : am_V d Q 148 172 [some (.ref 1), some (.int x1)] [.int y0] (am_hp N r I J) =
    Q (.int y0) (am_hp N r I J) :=
  (am_V_un (fun p => Nat.beq p 153 || Nat.beq p 161 || Nat.beq p 172 || Nat.beq p 196) 3).trans rfl
set_option maxRecDepth 100000 in
theorem e_S_count_196 {d : Nat} {Q : Value → am_H → Prop} {N : Nat} {I : Nat → Nat → Int32} {J : Nat → Nat → Int64} {x1 : Int32} {y0 : Int32} {r : am_rho} : am_V d Q 148 196 [some (.ref 1), some (.int x1)] [.int y0] (am_hp N r I J) =
    Q (.int y0) (am_hp N r I J) :=
  (am_V_un (fun p => Nat.beq p 153 || Nat.beq p 161 || Nat.beq p 172 || Nat.beq p 196) 3).trans rfl
set_option maxRecDepth 100000 in
theorem e_S_append {d : Nat} {Q : Value → am_H → Prop} {N : Nat} {I : Nat → Nat → Int32} {J : Nat → Nat → Int64} {x1 : Int32} {r : am_rho} : am_D (d + 1) 149 [.ref 1, .int x1] (am_hp N r I J) Q =
    am_V d Q 149 3 [some (.ref 1), some (.int x1), some (.int (nI 24))] [] (am_hp N r I J) :=
  (am_D_un rfl (fun p => Nat.beq p 3) 4).trans rfl
set_option maxRecDepth 100000 in
theorem e_S_append_3 {d : Nat} {Q : Value → am_H → Prop} {N : Nat} {I : Nat → Nat → Int32} {J : Nat → Nat → Int64} {x1 : Int32} {x2 : Int32} {r : am_rho} : am_V d Q 149 3 [some (.ref 1), some (.int x1), some (.int x2)] [] (am_hp N r I J) =
    am_if (decide (x2 < (nI 0))) (Q .null (am_hp N r I J)) (am_if (decide (((nI 700) : Int32) ≤ (I 1 1))) (Q .null (am_hp N r I J)) (am_g (am_inb (I 1 1) 700) (am_V d Q 149 3 [some (.ref 1), some (.int x1), some (.int (x2 + (-nI 8)))] [] (am_hp N r (am_u (am_u I 2 (I 1 1).toNatClampNeg (Int8.toInt32 (Int32.toInt8 (Int8.toInt32 (Int32.toInt8 (x1 >>> (x2 &&& nI 31))))))) 1 1 (((am_u I 2 (I 1 1).toNatClampNeg (Int8.toInt32 (Int32.toInt8 (Int8.toInt32 (Int32.toInt8 (x1 >>> (x2 &&& nI 31))))))) 1 1) + (nI 1))) J)))) :=
  (am_V_un (fun p => Nat.beq p 3) 25).trans rfl
set_option maxRecDepth 100000 in
theorem e_S_begin {d : Nat} {Q : Value → am_H → Prop} {N : Nat} {I : Nat → Nat → Int32} {J : Nat → Nat → Int64} {rt rs rd rl rx nt nw nf : Nat} (h_rt : rt = 3 ∨ rt = 23) : am_D (d + 1) 150 [.ref 1] (am_hp N (rt, rs, rd, rl, rx, nt, nw, nf) I J) Q =
    am_D d 100 [.ref 49, .ref rt] (am_hp N (rt, rs, rd, rl, rx, nt, nw, nf) I J) (fun v h => am_V d Q 150 11 [some (.ref 1)] [] h) :=
  by rcases h_rt with rfl | rfl <;> exact (am_D_un rfl (fun p => Nat.beq p 11 || Nat.beq p 18 || Nat.beq p 25) 7).trans rfl
set_option maxRecDepth 100000 in
theorem e_S_begin_11 {d : Nat} {Q : Value → am_H → Prop} {N : Nat} {I : Nat → Nat → Int32} {J : Nat → Nat → Int64} {r : am_rho} : am_V d Q 150 11 [some (.ref 1)] [] (am_hp N r I J) =
    am_D d 19 [.ref 61] (am_hp N r I J) (fun v h => am_V d Q 150 18 [some (.ref 1)] [] h) :=
  (am_V_un (fun p => Nat.beq p 11 || Nat.beq p 18 || Nat.beq p 25) 5).trans rfl
set_option maxRecDepth 100000 in
theorem e_S_begin_18 {d : Nat} {Q : Value → am_H → Prop} {N : Nat} {I : Nat → Nat → Int32} {J : Nat → Nat → Int64} {r : am_rho} : am_V d Q 150 18 [some (.ref 1)] [] (am_hp N r I J) =
    am_D d 56 [.ref 72] (am_hp N r I J) (fun v h => am_V d Q 150 25 [some (.ref 1)] [] h) :=
  (am_V_un (fun p => Nat.beq p 11 || Nat.beq p 18 || Nat.beq p 25) 5).trans rfl
set_option maxRecDepth 100000 in
theorem e_S_begin_25 {d : Nat} {Q : Value → am_H → Prop} {N : Nat} {I : Nat → Nat → Int32} {J : Nat → Nat → Int64} {r : am_rho} : am_V d Q 150 25 [some (.ref 1)] [] (am_hp N r I J) =
    Q .null (am_hp N r (am_u (am_u I 1 7 (nI 0)) 77 0 (nI 0)) J) :=
  (am_V_un (fun p => Nat.beq p 11 || Nat.beq p 18 || Nat.beq p 25) 10).trans rfl
set_option maxRecDepth 100000 in
theorem e_S_isHouse {d : Nat} {Q : Value → am_H → Prop} {N : Nat} {I : Nat → Nat → Int32} {J : Nat → Nat → Int64} {x1 : Int32} {rt rs rd rl rx nt nw nf : Nat} (h_rt : rt = 3 ∨ rt = 23) : am_D (d + 1) 151 [.ref 1, .int x1] (am_hp N (rt, rs, rd, rl, rx, nt, nw, nf) I J) Q =
    am_if (decide (x1 < (nI 0))) (Q (.int (nI 0)) (am_hp N (rt, rs, rd, rl, rx, nt, nw, nf) I J)) (am_if (decide ((I rt 0) ≤ x1)) (Q (.int (nI 0)) (am_hp N (rt, rs, rd, rl, rx, nt, nw, nf) I J)) (Q (.int (nI 1)) (am_hp N (rt, rs, rd, rl, rx, nt, nw, nf) I J))) :=
  by rcases h_rt with rfl | rfl <;> exact (am_D_un rfl (fun p => false) 12).trans rfl
set_option maxRecDepth 100000 in
theorem e_S_isSleeper {d : Nat} {Q : Value → am_H → Prop} {N : Nat} {I : Nat → Nat → Int32} {J : Nat → Nat → Int64} {x1 : Int32} {rt rs rd rl rx nt nw nf : Nat} (h_rt : rt = 3 ∨ rt = 23) : am_D (d + 1) 152 [.ref 1, .int x1] (am_hp N (rt, rs, rd, rl, rx, nt, nw, nf) I J) Q =
    am_if (decide (x1 < (nI 0))) (Q (.int (nI 0)) (am_hp N (rt, rs, rd, rl, rx, nt, nw, nf) I J)) (am_if (decide ((I rt 2) ≤ x1)) (Q (.int (nI 0)) (am_hp N (rt, rs, rd, rl, rx, nt, nw, nf) I J)) (Q (.int (nI 1)) (am_hp N (rt, rs, rd, rl, rx, nt, nw, nf) I J))) :=
  by rcases h_rt with rfl | rfl <;> exact (am_D_un rfl (fun p => false) 12).trans rfl
set_option maxRecDepth 100000 in
theorem e_S_isLetter {d : Nat} {Q : Value → am_H → Prop} {N : Nat} {I : Nat → Nat → Int32} {J : Nat → Nat → Int64} {x1 : Int32} {rt rs rd rl rx nt nw nf : Nat} (h_rt : rt = 3 ∨ rt = 23) : am_D (d + 1) 153 [.ref 1, .int x1] (am_hp N (rt, rs, rd, rl, rx, nt, nw, nf) I J) Q =
    am_if (decide (x1 < (nI 0))) (Q (.int (nI 0)) (am_hp N (rt, rs, rd, rl, rx, nt, nw, nf) I J)) (am_if (decide ((I rt 3) ≤ x1)) (Q (.int (nI 0)) (am_hp N (rt, rs, rd, rl, rx, nt, nw, nf) I J)) (Q (.int (nI 1)) (am_hp N (rt, rs, rd, rl, rx, nt, nw, nf) I J))) :=
  by rcases h_rt with rfl | rfl <;> exact (am_D_un rfl (fun p => false) 12).trans rfl
set_option maxRecDepth 100000 in
theorem e_S_isAhead {d : Nat} {Q : Value → am_H → Prop} {N : Nat} {I : Nat → Nat → Int32} {J : Nat → Nat → Int64} {x1 : Int32} {r : am_rho} : am_D (d + 1) 154 [.ref 1, .int x1] (am_hp N r I J) Q =
    am_if (decide (x1 < (I 49 0))) (Q (.int (nI 0)) (am_hp N r I J)) (am_if (decide (((nI 12) : Int32) ≤ x1)) (Q (.int (nI 0)) (am_hp N r I J)) (Q (.int (nI 1)) (am_hp N r I J))) :=
  (am_D_un rfl (fun p => false) 13).trans rfl
set_option maxRecDepth 100000 in
theorem e_S_areSingers {d : Nat} {Q : Value → am_H → Prop} {N : Nat} {I : Nat → Nat → Int32} {J : Nat → Nat → Int64} {x1 : Int32} {x2 : Int32} {rt rs rd rl rx nt nw nf : Nat} (h_rt : rt = 3 ∨ rt = 23) : am_D (d + 1) 155 [.ref 1, .int x1, .int x2] (am_hp N (rt, rs, rd, rl, rx, nt, nw, nf) I J) Q =
    am_if (decide (x1 < (nI 1))) (Q (.int (nI 0)) (am_hp N (rt, rs, rd, rl, rx, nt, nw, nf) I J)) (am_if (decide (((nI 9) : Int32) < x1)) (Q (.int (nI 0)) (am_hp N (rt, rs, rd, rl, rx, nt, nw, nf) I J)) (am_if (decide (x2 < (nI 1))) (Q (.int (nI 0)) (am_hp N (rt, rs, rd, rl, rx, nt, nw, nf) I J)) (am_if (decide (((nI 9) : Int32) < x2)) (Q (.int (nI 0)) (am_hp N (rt, rs, rd, rl, rx, nt, nw, nf) I J)) (am_if (decide ((I rt 0) ≤ (nI 0))) (Q (.int (nI 0)) (am_hp N (rt, rs, rd, rl, rx, nt, nw, nf) I J)) (Q (.int (nI 1)) (am_hp N (rt, rs, rd, rl, rx, nt, nw, nf) I J)))))) :=
  by rcases h_rt with rfl | rfl <;> exact (am_D_un rfl (fun p => false) 21).trans rfl
set_option maxRecDepth 100000 in
theorem e_S_placeOf {d : Nat} {Q : Value → am_H → Prop} {N : Nat} {I : Nat → Nat → Int32} {J : Nat → Nat → Int64} {x1 : Int32} {r : am_rho} : am_D (d + 1) 156 [.ref 1, .int x1] (am_hp N r I J) Q =
    am_D d 102 [.ref 49, .int x1] (am_hp N r I J) (fun v h => am_asI v (fun y => am_V d Q 156 8 [some (.ref 1), some (.int x1), none] [.int y] h)) :=
  (am_D_un rfl (fun p => Nat.beq p 8 || Nat.beq p 29 || Nat.beq p 47) 6).trans rfl
set_option maxRecDepth 100000 in
theorem e_S_placeOf_8 {d : Nat} {Q : Value → am_H → Prop} {N : Nat} {I : Nat → Nat → Int32} {J : Nat → Nat → Int64} {x1 : Int32} {y0 : Int32} {rt rs rd rl rx nt nw nf : Nat} (h_rt : rt = 3 ∨ rt = 23) : am_V d Q 156 8 [some (.ref 1), some (.int x1), none] [.int y0] (am_hp N (rt, rs, rd, rl, rx, nt, nw, nf) I J) =
    am_if (decide (y0 = (nI 0))) (am_D d 103 [.ref 49, .int x1] (am_hp N (rt, rs, rd, rl, rx, nt, nw, nf) I J) (fun v h => am_asI v (fun y => am_V d Q 156 29 [some (.ref 1), some (.int x1), none] [.int y] h))) (am_g (am_inb x1 8) (Q (.int (I (rt + 10) x1.toNatClampNeg)) (am_hp N (rt, rs, rd, rl, rx, nt, nw, nf) I J))) :=
  by rcases h_rt with rfl | rfl <;> exact (am_V_un (fun p => Nat.beq p 8 || Nat.beq p 29 || Nat.beq p 47) 9).trans rfl
set_option maxRecDepth 100000 in
theorem e_S_placeOf_29 {d : Nat} {Q : Value → am_H → Prop} {N : Nat} {I : Nat → Nat → Int32} {J : Nat → Nat → Int64} {x1 : Int32} {y0 : Int32} {r : am_rho} : am_V d Q 156 29 [some (.ref 1), some (.int x1), none] [.int y0] (am_hp N r I J) =
    am_if (decide (y0 = (-nI 1))) (am_D d 104 [.ref 49, .int x1] (am_hp N r I J) (fun v h => am_asI v (fun y => am_V d Q 156 47 [some (.ref 1), some (.int x1), some (.int y0)] [.int y] h))) (am_V d Q 156 47 [some (.ref 1), some (.int x1), some (.int y0)] [.int y0] (am_hp N r I J)) :=
  (am_V_un (fun p => Nat.beq p 8 || Nat.beq p 29 || Nat.beq p 47) 10).trans rfl
set_option maxRecDepth 100000 in
theorem e_S_placeOf_47 {d : Nat} {Q : Value → am_H → Prop} {N : Nat} {I : Nat → Nat → Int32} {J : Nat → Nat → Int64} {x1 : Int32} {x2 : Int32} {y0 : Int32} {r : am_rho} : am_V d Q 156 47 [some (.ref 1), some (.int x1), some (.int x2)] [.int y0] (am_hp N r I J) =
    Q (.int y0) (am_hp N r I J) :=
  (am_V_un (fun p => Nat.beq p 8 || Nat.beq p 29 || Nat.beq p 47) 3).trans rfl
set_option maxRecDepth 100000 in
theorem e_S_numberOf {d : Nat} {Q : Value → am_H → Prop} {N : Nat} {I : Nat → Nat → Int32} {J : Nat → Nat → Int64} {x0 : Int32} {a1 : Nat} {x2 : Int32} {r : am_rho} : am_D (d + 1) 157 [.int x0, .ref a1, .int x2] (am_hp N r I J) Q =
    am_V d Q 157 2 [some (.int x0), some (.ref a1), some (.int x2), some (.int (nI 0))] [] (am_hp N r I J) :=
  (am_D_un rfl (fun p => Nat.beq p 2) 4).trans rfl
set_option maxRecDepth 100000 in
theorem e_S_numberOf_2 {d : Nat} {Q : Value → am_H → Prop} {N : Nat} {I : Nat → Nat → Int32} {J : Nat → Nat → Int64} {x0 : Int32} {a1 : Nat} {x2 : Int32} {x3 : Int32} {r : am_rho} : am_V d Q 157 2 [some (.int x0), some (.ref a1), some (.int x2), some (.int x3)] [] (am_hp N r I J) =
    am_if (decide (x2 ≤ x3)) (Q (.int (-nI 1)) (am_hp N r I J)) (am_g (!(Nat.beq (am_TT N a1).1 0) && Nat.ble (am_TT N a1).1 7) (am_if (decide ((nI (am_TT N a1).2) ≤ x3)) (Q (.int (-nI 1)) (am_hp N r I J)) (am_g ((Nat.beq (am_TT N a1).1 1 || Nat.beq (am_TT N a1).1 5) && am_inb x3 (am_TT N a1).2) (am_if (!(decide ((I a1 x3.toNatClampNeg) = x0))) (am_V d Q 157 2 [some (.int x0), some (.ref a1), some (.int x2), some (.int (x3 + (nI 1)))] [] (am_hp N r I J)) (Q (.int x3) (am_hp N r I J)))))) :=
  (am_V_un (fun p => Nat.beq p 2) 16).trans rfl
