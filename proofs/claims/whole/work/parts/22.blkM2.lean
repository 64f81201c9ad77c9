/-! ===== blocks: what the rows of a method do up to the next loop head or call (by program) ===== -/
set_option maxRecDepth 100000 in
theorem e_M_starts {d : Nat} {Q : Value → am_H → Prop} {N : Nat} {I : Nat → Nat → Int32} {J : Nat → Nat → Int64} {x1 : Int32} {r : am_rho} : am_D (d + 1) 203 [.ref 93, .int x1] (am_hp N r I J) Q =
    am_g (am_inb x1 23) (am_g (am_inb x1 23) (am_g (am_inb x1 23) (am_g (am_inb x1 23) (am_g (am_inb x1 23) (am_V d Q 203 42 [some (.ref 93), some (.int x1), some (.int (nI 0))] [] (am_hp N r (am_u (am_u (am_u (am_u (am_u I 118 x1.toNatClampNeg (nI 0)) 119 x1.toNatClampNeg (nI 0)) 120 x1.toNatClampNeg ((am_u (am_u I 118 x1.toNatClampNeg (nI 0)) 119 x1.toNatClampNeg (nI 0)) 95 5)) 121 x1.toNatClampNeg (nI 0)) 122 x1.toNatClampNeg (nI 0)) J)))))) :=
  (am_D_un rfl (fun p => Nat.beq p 42 || Nat.beq p 76 || Nat.beq p 140) 32).trans rfl
set_option maxRecDepth 100000 in
theorem e_M_starts_42 {d : Nat} {Q : Value → am_H → Prop} {N : Nat} {I : Nat → Nat → Int32} {J : Nat → Nat → Int64} {x1 : Int32} {x2 : Int32} {r : am_rho} : am_V d Q 203 42 [some (.ref 93), some (.int x1), some (.int x2)] [] (am_hp N r I J) =
    am_if (decide ((I 95 2) ≤ x2)) (am_V d Q 203 76 [some (.ref 93), some (.int x1), some (.int (nI 0))] [] (am_hp N r I J)) (am_g (am_inb x2 10) (am_g (am_inb (((nI 5) * x1) + x2) 115) (am_V d Q 203 42 [some (.ref 93), some (.int x1), some (.int (x2 + (nI 1)))] [] (am_hp N r (am_u I 123 (((nI 5) * x1) + x2).toNatClampNeg (I 104 x2.toNatClampNeg)) J)))) :=
  (am_V_un (fun p => Nat.beq p 42 || Nat.beq p 76 || Nat.beq p 140) 22).trans rfl
set_option maxRecDepth 100000 in
theorem e_M_starts_76 {d : Nat} {Q : Value → am_H → Prop} {N : Nat} {I : Nat → Nat → Int32} {J : Nat → Nat → Int64} {x1 : Int32} {x2 : Int32} {r : am_rho} : am_V d Q 203 76 [some (.ref 93), some (.int x1), some (.int x2)] [] (am_hp N r I J) =
    am_if (decide ((I 95 3) ≤ x2)) (am_V d Q 203 140 [some (.ref 93), some (.int x1), some (.int (nI 0))] [] (am_hp N r I J)) (am_g (am_inb (((nI 8) * x1) + x2) 184) (am_g (am_inb x2 16) (am_g (am_inb ((am_u I 124 (((nI 8) * x1) + x2).toNatClampNeg (nI 0)) 107 x2.toNatClampNeg) 10) (am_g (am_inb (((nI 8) * x1) + x2) 184) (am_g (am_inb (((nI 8) * x1) + x2) 184) (am_V d Q 203 76 [some (.ref 93), some (.int x1), some (.int (x2 + (nI 1)))] [] (am_hp N r (am_u (am_u (am_u I 124 (((nI 8) * x1) + x2).toNatClampNeg (nI 0)) 125 (((nI 8) * x1) + x2).toNatClampNeg ((am_u I 124 (((nI 8) * x1) + x2).toNatClampNeg (nI 0)) 104 ((am_u I 124 (((nI 8) * x1) + x2).toNatClampNeg (nI 0)) 107 x2.toNatClampNeg).toNatClampNeg)) 126 (((nI 8) * x1) + x2).toNatClampNeg (-nI 1)) J))))))) :=
  (am_V_un (fun p => Nat.beq p 42 || Nat.beq p 76 || Nat.beq p 140) 43).trans rfl
set_option maxRecDepth 100000 in
theorem e_M_starts_140 {d : Nat} {Q : Value → am_H → Prop} {N : Nat} {I : Nat → Nat → Int32} {J : Nat → Nat → Int64} {x1 : Int32} {x2 : Int32} {r : am_rho} : am_V d Q 203 140 [some (.ref 93), some (.int x1), some (.int x2)] [] (am_hp N r I J) =
    am_if (decide ((I 95 0) ≤ x2)) (Q .null (am_hp N r I J)) (am_g (am_inb x2 16) (am_g (am_inb (((nI 8) * x1) + x2) 184) (am_V d Q 203 140 [some (.ref 93), some (.int x1), some (.int (x2 + (nI 1)))] [] (am_hp N r (am_u I 127 (((nI 8) * x1) + x2).toNatClampNeg (I 97 x2.toNatClampNeg)) J)))) :=
  (am_V_un (fun p => Nat.beq p 42 || Nat.beq p 76 || Nat.beq p 140) 22).trans rfl
set_option maxRecDepth 100000 in
theorem e_M_begins {d : Nat} {Q : Value → am_H → Prop} {N : Nat} {I : Nat → Nat → Int32} {J : Nat → Nat → Int64} {r : am_rho} : am_D (d + 1) 204 [.ref 93] (am_hp N r I J) Q =
    am_D d 203 [.ref 93, .int (nI 0)] (am_hp N r I J) (fun v h => am_V d Q 204 5 [some (.ref 93)] [] h) :=
  (am_D_un rfl (fun p => Nat.beq p 5) 5).trans rfl
set_option maxRecDepth 100000 in
theorem e_M_begins_5 {d : Nat} {Q : Value → am_H → Prop} {N : Nat} {I : Nat → Nat → Int32} {J : Nat → Nat → Int64} {r : am_rho} : am_V d Q 204 5 [some (.ref 93)] [] (am_hp N r I J) =
    Q .null (am_hp N r I J) :=
  (am_V_un (fun p => Nat.beq p 5) 3).trans rfl
set_option maxRecDepth 100000 in
theorem e_M_copies {d : Nat} {Q : Value → am_H → Prop} {N : Nat} {I : Nat → Nat → Int32} {J : Nat → Nat → Int64} {x1 : Int32} {x2 : Int32} {r : am_rho} : am_D (d + 1) 205 [.ref 93, .int x1, .int x2] (am_hp N r I J) Q =
    am_g (am_inb x2 23) (am_g (am_inb x1 23) (am_g (am_inb x2 23) (am_g (am_inb x1 23) (am_g (am_inb x2 23) (am_g (am_inb x1 23) (am_g (am_inb x2 23) (am_g (am_inb x1 23) (am_g (am_inb x2 23) (am_g (am_inb x1 23) (am_V d Q 205 62 [some (.ref 93), some (.int x1), some (.int x2), some (.int (nI 0))] [] (am_hp N r (am_u (am_u (am_u (am_u (am_u I 118 x1.toNatClampNeg (I 118 x2.toNatClampNeg)) 119 x1.toNatClampNeg ((am_u I 118 x1.toNatClampNeg (I 118 x2.toNatClampNeg)) 119 x2.toNatClampNeg)) 120 x1.toNatClampNeg ((am_u (am_u I 118 x1.toNatClampNeg (I 118 x2.toNatClampNeg)) 119 x1.toNatClampNeg ((am_u I 118 x1.toNatClampNeg (I 118 x2.toNatClampNeg)) 119 x2.toNatClampNeg)) 120 x2.toNatClampNeg)) 121 x1.toNatClampNeg ((am_u (am_u (am_u I 118 x1.toNatClampNeg (I 118 x2.toNatClampNeg)) 119 x1.toNatClampNeg ((am_u I 118 x1.toNatClampNeg (I 118 x2.toNatClampNeg)) 119 x2.toNatClampNeg)) 120 x1.toNatClampNeg ((am_u (am_u I 118 x1.toNatClampNeg (I 118 x2.toNatClampNeg)) 119 x1.toNatClampNeg ((am_u I 118 x1.toNatClampNeg (I 118 x2.toNatClampNeg)) 119 x2.toNatClampNeg)) 120 x2.toNatClampNeg)) 121 x2.toNatClampNeg)) 122 x1.toNatClampNeg ((am_u (am_u (am_u (am_u I 118 x1.toNatClampNeg (I 118 x2.toNatClampNeg)) 119 x1.toNatClampNeg ((am_u I 118 x1.toNatClampNeg (I 118 x2.toNatClampNeg)) 119 x2.toNatClampNeg)) 120 x1.toNatClampNeg ((am_u (am_u I 118 x1.toNatClampNeg (I 118 x2.toNatClampNeg)) 119 x1.toNatClampNeg ((am_u I 118 x1.toNatClampNeg (I 118 x2.toNatClampNeg)) 119 x2.toNatClampNeg)) 120 x2.toNatClampNeg)) 121 x1.toNatClampNeg ((am_u (am_u (am_u I 118 x1.toNatClampNeg (I 118 x2.toNatClampNeg)) 119 x1.toNatClampNeg ((am_u I 118 x1.toNatClampNeg (I 118 x2.toNatClampNeg)) 119 x2.toNatClampNeg)) 120 x1.toNatClampNeg ((am_u (am_u I 118 x1.toNatClampNeg (I 118 x2.toNatClampNeg)) 119 x1.toNatClampNeg ((am_u I 118 x1.toNatClampNeg (I 118 x2.toNatClampNeg)) 119 x2.toNatClampNeg)) 120 x2.toNatClampNeg)) 121 x2.toNatClampNeg)) 122 x2.toNatClampNeg)) J))))))))))) :=
  (am_D_un rfl (fun p => Nat.beq p 62 || Nat.beq p 95 || Nat.beq p 175) 44).trans rfl
set_option maxRecDepth 100000 in
theorem e_M_copies_62 {d : Nat} {Q : Value → am_H → Prop} {N : Nat} {I : Nat → Nat → Int32} {J : Nat → Nat → Int64} {x1 : Int32} {x2 : Int32} {x3 : Int32} {r : am_rho} : am_V d Q 205 62 [some (.ref 93), some (.int x1), some (.int x2), some (.int x3)] [] (am_hp N r I J) =
    am_if (decide (((nI 5) : Int32) ≤ x3)) (am_V d Q 205 95 [some (.ref 93), some (.int x1), some (.int x2), some (.int (nI 0))] [] (am_hp N r I J)) (am_g (am_inb (((nI 5) * x2) + x3) 115) (am_g (am_inb (((nI 5) * x1) + x3) 115) (am_V d Q 205 62 [some (.ref 93), some (.int x1), some (.int x2), some (.int (x3 + (nI 1)))] [] (am_hp N r (am_u I 123 (((nI 5) * x1) + x3).toNatClampNeg (I 123 (((nI 5) * x2) + x3).toNatClampNeg)) J)))) :=
  (am_V_un (fun p => Nat.beq p 62 || Nat.beq p 95 || Nat.beq p 175) 23).trans rfl
set_option maxRecDepth 100000 in
theorem e_M_copies_95 {d : Nat} {Q : Value → am_H → Prop} {N : Nat} {I : Nat → Nat → Int32} {J : Nat → Nat → Int64} {x1 : Int32} {x2 : Int32} {x3 : Int32} {r : am_rho} : am_V d Q 205 95 [some (.ref 93), some (.int x1), some (.int x2), some (.int x3)] [] (am_hp N r I J) =
    am_if (decide (((nI 8) : Int32) ≤ x3)) (am_V d Q 205 175 [some (.ref 93), some (.int x1), some (.int x2), some (.int (nI 0))] [] (am_hp N r I J)) (am_g (am_inb (((nI 8) * x2) + x3) 184) (am_g (am_inb (((nI 8) * x1) + x3) 184) (am_g (am_inb (((nI 8) * x2) + x3) 184) (am_g (am_inb (((nI 8) * x1) + x3) 184) (am_g (am_inb (((nI 8) * x2) + x3) 184) (am_g (am_inb (((nI 8) * x1) + x3) 184) (am_V d Q 205 95 [some (.ref 93), some (.int x1), some (.int x2), some (.int (x3 + (nI 1)))] [] (am_hp N r (am_u (am_u (am_u I 124 (((nI 8) * x1) + x3).toNatClampNeg (I 124 (((nI 8) * x2) + x3).toNatClampNeg)) 125 (((nI 8) * x1) + x3).toNatClampNeg ((am_u I 124 (((nI 8) * x1) + x3).toNatClampNeg (I 124 (((nI 8) * x2) + x3).toNatClampNeg)) 125 (((nI 8) * x2) + x3).toNatClampNeg)) 126 (((nI 8) * x1) + x3).toNatClampNeg ((am_u (am_u I 124 (((nI 8) * x1) + x3).toNatClampNeg (I 124 (((nI 8) * x2) + x3).toNatClampNeg)) 125 (((nI 8) * x1) + x3).toNatClampNeg ((am_u I 124 (((nI 8) * x1) + x3).toNatClampNeg (I 124 (((nI 8) * x2) + x3).toNatClampNeg)) 125 (((nI 8) * x2) + x3).toNatClampNeg)) 126 (((nI 8) * x2) + x3).toNatClampNeg)) J)))))))) :=
  (am_V_un (fun p => Nat.beq p 62 || Nat.beq p 95 || Nat.beq p 175) 55).trans rfl
set_option maxRecDepth 100000 in
theorem e_M_copies_175 {d : Nat} {Q : Value → am_H → Prop} {N : Nat} {I : Nat → Nat → Int32} {J : Nat → Nat → Int64} {x1 : Int32} {x2 : Int32} {x3 : Int32} {r : am_rho} : am_V d Q 205 175 [some (.ref 93), some (.int x1), some (.int x2), some (.int x3)] [] (am_hp N r I J) =
    am_if (decide (((nI 8) : Int32) ≤ x3)) (Q .null (am_hp N r I J)) (am_g (am_inb (((nI 8) * x2) + x3) 184) (am_g (am_inb (((nI 8) * x1) + x3) 184) (am_V d Q 205 175 [some (.ref 93), some (.int x1), some (.int x2), some (.int (x3 + (nI 1)))] [] (am_hp N r (am_u I 127 (((nI 8) * x1) + x3).toNatClampNeg (I 127 (((nI 8) * x2) + x3).toNatClampNeg)) J)))) :=
  (am_V_un (fun p => Nat.beq p 62 || Nat.beq p 95 || Nat.beq p 175) 23).trans rfl
set_option maxRecDepth 100000 in
theorem e_M_isHouse {d : Nat} {Q : Value → am_H → Prop} {N : Nat} {I : Nat → Nat → Int32} {J : Nat → Nat → Int64} {x1 : Int32} {r : am_rho} : am_D (d + 1) 206 [.ref 93, .int x1] (am_hp N r I J) Q =
    am_if (decide (x1 < (nI 0))) (Q (.int (nI 0)) (am_hp N r I J)) (am_if (decide ((I 95 0) ≤ x1)) (Q (.int (nI 0)) (am_hp N r I J)) (Q (.int (nI 1)) (am_hp N r I J))) :=
  (am_D_un rfl (fun p => false) 13).trans rfl
set_option maxRecDepth 100000 in
theorem e_M_isSleeper {d : Nat} {Q : Value → am_H → Prop} {N : Nat} {I : Nat → Nat → Int32} {J : Nat → Nat → Int64} {x1 : Int32} {r : am_rho} : am_D (d + 1) 207 [.ref 93, .int x1] (am_hp N r I J) Q =
    am_if (decide (x1 < (nI 0))) (Q (.int (nI 0)) (am_hp N r I J)) (am_if (decide ((I 95 2) ≤ x1)) (Q (.int (nI 0)) (am_hp N r I J)) (Q (.int (nI 1)) (am_hp N r I J))) :=
  (am_D_un rfl (fun p => false) 13).trans rfl
set_option maxRecDepth 100000 in
theorem e_M_isLetter {d : Nat} {Q : Value → am_H → Prop} {N : Nat} {I : Nat → Nat → Int32} {J : Nat → Nat → Int64} {x1 : Int32} {r : am_rho} : am_D (d + 1) 208 [.ref 93, .int x1] (am_hp N r I J) Q =
    am_if (decide (x1 < (nI 0))) (Q (.int (nI 0)) (am_hp N r I J)) (am_if (decide ((I 95 3) ≤ x1)) (Q (.int (nI 0)) (am_hp N r I J)) (Q (.int (nI 1)) (am_hp N r I J))) :=
  (am_D_un rfl (fun p => false) 13).trans rfl
set_option maxRecDepth 100000 in
theorem e_M_isTonight {d : Nat} {Q : Value → am_H → Prop} {N : Nat} {I : Nat → Nat → Int32} {J : Nat → Nat → Int64} {x1 : Int32} {r : am_rho} : am_D (d + 1) 209 [.ref 93, .int x1] (am_hp N r I J) Q =
    am_if (decide (x1 < (I 118 0))) (Q (.int (nI 0)) (am_hp N r I J)) (am_if (decide (((nI 12) : Int32) ≤ x1)) (Q (.int (nI 0)) (am_hp N r I J)) (Q (.int (nI 1)) (am_hp N r I J))) :=
  (am_D_un rfl (fun p => false) 14).trans rfl
set_option maxRecDepth 100000 in
theorem e_M_layFar {d : Nat} {Q : Value → am_H → Prop} {N : Nat} {I : Nat → Nat → Int32} {J : Nat → Nat → Int64} {r : am_rho} : am_D (d + 1) 210 [.ref 93] (am_hp N r I J) Q =
    am_V d Q 210 2 [some (.ref 93), some (.int (nI 0)), none, none] [] (am_hp N r I J) :=
  (am_D_un rfl (fun p => Nat.beq p 2 || Nat.beq p 35 || Nat.beq p 50 || Nat.beq p 118 || Nat.beq p 126 || Nat.beq p 134 || Nat.beq p 187) 4).trans rfl
set_option maxRecDepth 100000 in
theorem e_M_layFar_2 {d : Nat} {Q : Value → am_H → Prop} {N : Nat} {I : Nat → Nat → Int32} {J : Nat → Nat → Int64} {x1 : Int32} {r : am_rho} : am_V d Q 210 2 [some (.ref 93), some (.int x1), none, none] [] (am_hp N r I J) =
    am_if (decide (((nI 64) : Int32) ≤ x1)) (am_V d Q 210 35 [some (.ref 93), some (.int (nI 0)), none, none] [] (am_hp N r I J)) (am_if (!(decide ((x1 - x1 / (nI 9) * (nI 9)) = (nI 0)))) (am_g (am_inb x1 64) (am_V d Q 210 2 [some (.ref 93), some (.int (x1 + (nI 1))), none, none] [] (am_hp N r (am_u I 128 x1.toNatClampNeg (nI 99)) J))) (am_g (am_inb x1 64) (am_V d Q 210 2 [some (.ref 93), some (.int (x1 + (nI 1))), none, none] [] (am_hp N r (am_u I 128 x1.toNatClampNeg (nI 0)) J)))) :=
  (am_V_un (fun p => Nat.beq p 2 || Nat.beq p 35 || Nat.beq p 50 || Nat.beq p 118 || Nat.beq p 126 || Nat.beq p 134 || Nat.beq p 187) 17).trans rfl
set_option maxRecDepth 100000 in
theorem e_M_layFar_35 {d : Nat} {Q : Value → am_H → Prop} {N : Nat} {I : Nat → Nat → Int32} {J : Nat → Nat → Int64} {x1 : Int32} {r : am_rho} : am_V d Q 210 35 [some (.ref 93), some (.int x1), none, none] [] (am_hp N r I J) =
    am_if (decide ((I 95 1) ≤ x1)) (am_V d Q 210 118 [some (.ref 93), some (.int (nI 0)), am_oi none, am_oi none] [] (am_hp N r I J)) (am_D d 211 [.ref 93, .int x1] (am_hp N r I J) (fun v h => am_asI v (fun y => am_V d Q 210 50 [some (.ref 93), some (.int x1), none, none] [.int y] h))) :=
  (am_V_un (fun p => Nat.beq p 2 || Nat.beq p 35 || Nat.beq p 50 || Nat.beq p 118 || Nat.beq p 126 || Nat.beq p 134 || Nat.beq p 187) 11).trans rfl
set_option maxRecDepth 100000 in
theorem e_M_layFar_50 {d : Nat} {Q : Value → am_H → Prop} {N : Nat} {I : Nat → Nat → Int32} {J : Nat → Nat → Int64} {x1 : Int32} {y0 : Int32} {r : am_rho} : am_V d Q 210 50 [some (.ref 93), some (.int x1), none, none] [.int y0] (am_hp N r I J) =
    am_if (decide (y0 = (nI 0))) (am_g (am_inb x1 24) (am_g (am_inb x1 24) (am_g (am_inb x1 24) (am_g (am_inb (((nI 8) * (I 100 x1.toNatClampNeg)) + (I 101 x1.toNatClampNeg)) 64) (am_g (am_inb x1 24) (am_g (am_inb x1 24) (am_g (am_inb x1 24) (am_g (am_inb (((nI 8) * ((am_u I 128 (((nI 8) * (I 100 x1.toNatClampNeg)) + (I 101 x1.toNatClampNeg)).toNatClampNeg (I 102 x1.toNatClampNeg)) 101 x1.toNatClampNeg)) + ((am_u I 128 (((nI 8) * (I 100 x1.toNatClampNeg)) + (I 101 x1.toNatClampNeg)).toNatClampNeg (I 102 x1.toNatClampNeg)) 100 x1.toNatClampNeg)) 64) (am_V d Q 210 35 [some (.ref 93), some (.int (x1 + (nI 1))), none, none] [] (am_hp N r (am_u (am_u I 128 (((nI 8) * (I 100 x1.toNatClampNeg)) + (I 101 x1.toNatClampNeg)).toNatClampNeg (I 102 x1.toNatClampNeg)) 128 (((nI 8) * ((am_u I 128 (((nI 8) * (I 100 x1.toNatClampNeg)) + (I 101 x1.toNatClampNeg)).toNatClampNeg (I 102 x1.toNatClampNeg)) 101 x1.toNatClampNeg)) + ((am_u I 128 (((nI 8) * (I 100 x1.toNatClampNeg)) + (I 101 x1.toNatClampNeg)).toNatClampNeg (I 102 x1.toNatClampNeg)) 100 x1.toNatClampNeg)).toNatClampNeg ((am_u I 128 (((nI 8) * (I 100 x1.toNatClampNeg)) + (I 101 x1.toNatClampNeg)).toNatClampNeg (I 102 x1.toNatClampNeg)) 102 x1.toNatClampNeg)) J)))))))))) (am_V d Q 210 35 [some (.ref 93), some (.int (x1 + (nI 1))), none, none] [] (am_hp N r I J)) :=
  (am_V_un (fun p => Nat.beq p 2 || Nat.beq p 35 || Nat.beq p 50 || Nat.beq p 118 || Nat.beq p 126 || Nat.beq p 134 || Nat.beq p 187) 41).trans rfl
set_option maxRecDepth 100000 in
theorem e_M_layFar_118 {d : Nat} {Q : Value → am_H → Prop} {N : Nat} {I : Nat → Nat → Int32} {J : Nat → Nat → Int64} {x1 : Int32} {o2 : Option Int32} {o3 : Option Int32} {r : am_rho} : am_V d Q 210 118 [some (.ref 93), some (.int x1), am_oi o2, am_oi o3] [] (am_hp N r I J) =
    am_if (decide (((nI 8) : Int32) ≤ x1)) (Q .null (am_hp N r I J)) (am_V d Q 210 126 [some (.ref 93), some (.int x1), some (.int (nI 0)), am_oi o3] [] (am_hp N r I J)) :=
  (am_V_un (fun p => Nat.beq p 2 || Nat.beq p 35 || Nat.beq p 50 || Nat.beq p 118 || Nat.beq p 126 || Nat.beq p 134 || Nat.beq p 187) 7).trans rfl
set_option maxRecDepth 100000 in
theorem e_M_layFar_126 {d : Nat} {Q : Value → am_H → Prop} {N : Nat} {I : Nat → Nat → Int32} {J : Nat → Nat → Int64} {x1 : Int32} {x2 : Int32} {o3 : Option Int32} {r : am_rho} : am_V d Q 210 126 [some (.ref 93), some (.int x1), some (.int x2), am_oi o3] [] (am_hp N r I J) =
    am_if (decide (((nI 8) : Int32) ≤ x2)) (am_V d Q 210 118 [some (.ref 93), some (.int (x1 + (nI 1))), am_oi (some x2), am_oi o3] [] (am_hp N r I J)) (am_V d Q 210 134 [some (.ref 93), some (.int x1), some (.int x2), some (.int (nI 0))] [] (am_hp N r I J)) :=
  (am_V_un (fun p => Nat.beq p 2 || Nat.beq p 35 || Nat.beq p 50 || Nat.beq p 118 || Nat.beq p 126 || Nat.beq p 134 || Nat.beq p 187) 7).trans rfl
set_option maxRecDepth 100000 in
theorem e_M_layFar_134 {d : Nat} {Q : Value → am_H → Prop} {N : Nat} {I : Nat → Nat → Int32} {J : Nat → Nat → Int64} {x1 : Int32} {x2 : Int32} {x3 : Int32} {r : am_rho} : am_V d Q 210 134 [some (.ref 93), some (.int x1), some (.int x2), some (.int x3)] [] (am_hp N r I J) =
    am_if (decide (((nI 8) : Int32) ≤ x3)) (am_V d Q 210 126 [some (.ref 93), some (.int x1), some (.int (x2 + (nI 1))), am_oi (some x3)] [] (am_hp N r I J)) (am_g (am_inb (((nI 8) * x2) + x3) 64) (am_g (am_inb (((nI 8) * x2) + x1) 64) (am_g (am_inb (((nI 8) * x1) + x3) 64) (am_D d 281 [.int (I 128 (((nI 8) * x2) + x3).toNatClampNeg), .int ((I 128 (((nI 8) * x2) + x1).toNatClampNeg) + (I 128 (((nI 8) * x1) + x3).toNatClampNeg))] (am_hp N r I J) (fun v h => am_asI v (fun y => am_V d Q 210 187 [some (.ref 93), some (.int x1), some (.int x2), some (.int x3)] [.int y, .int (((nI 8) * x2) + x3), .ref 128] h)))))) :=
  (am_V_un (fun p => Nat.beq p 2 || Nat.beq p 35 || Nat.beq p 50 || Nat.beq p 118 || Nat.beq p 126 || Nat.beq p 134 || Nat.beq p 187) 38).trans rfl
set_option maxRecDepth 100000 in
theorem e_M_layFar_187 {d : Nat} {Q : Value → am_H → Prop} {N : Nat} {I : Nat → Nat → Int32} {J : Nat → Nat → Int64} {x1 : Int32} {x2 : Int32} {x3 : Int32} {y1 : Int32} {y2 : Int32} {r : am_rho} : am_V d Q 210 187 [some (.ref 93), some (.int x1), some (.int x2), some (.int x3)] [.int y2, .int y1, .ref 128] (am_hp N r I J) =
    am_g (am_inb y1 64) (am_V d Q 210 134 [some (.ref 93), some (.int x1), some (.int x2), some (.int (x3 + (nI 1)))] [] (am_hp N r (am_u I 128 y1.toNatClampNeg y2) J)) :=
  (am_V_un (fun p => Nat.beq p 2 || Nat.beq p 35 || Nat.beq p 50 || Nat.beq p 118 || Nat.beq p 126 || Nat.beq p 134 || Nat.beq p 187) 5).trans rfl
set_option maxRecDepth 100000 in
theorem e_M_isGone {d : Nat} {Q : Value → am_H → Prop} {N : Nat} {I : Nat → Nat → Int32} {J : Nat → Nat → Int64} {x1 : Int32} {r : am_rho} : am_D (d + 1) 211 [.ref 93, .int x1] (am_hp N r I J) Q =
    am_if (!(decide ((I 93 52) = (nI 7)))) (Q (.int (nI 0)) (am_hp N r I J)) (am_if (!(decide ((I 93 53) = x1))) (Q (.int (nI 0)) (am_hp N r I J)) (Q (.int (nI 1)) (am_hp N r I J))) :=
  (am_D_un rfl (fun p => false) 13).trans rfl
set_option maxRecDepth 100000 in
theorem e_M_streetTo {d : Nat} {Q : Value → am_H → Prop} {N : Nat} {I : Nat → Nat → Int32} {J : Nat → Nat → Int64} {x1 : Int32} {x2 : Int32} {r : am_rho} : am_D (d + 1) 212 [.ref 93, .int x1, .int x2] (am_hp N r I J) Q =
    am_V d Q 212 2 [some (.ref 93), some (.int x1), some (.int x2), some (.int (nI 0))] [] (am_hp N r I J) :=
  (am_D_un rfl (fun p => Nat.beq p 2 || Nat.beq p 17) 4).trans rfl
set_option maxRecDepth 100000 in
theorem e_M_streetTo_2 {d : Nat} {Q : Value → am_H → Prop} {N : Nat} {I : Nat → Nat → Int32} {J : Nat → Nat → Int64} {x1 : Int32} {x2 : Int32} {x3 : Int32} {r : am_rho} : am_V d Q 212 2 [some (.ref 93), some (.int x1), some (.int x2), some (.int x3)] [] (am_hp N r I J) =
    am_if (decide ((I 95 1) ≤ x3)) (Q (.int (nI 0)) (am_hp N r I J)) (am_D d 211 [.ref 93, .int x3] (am_hp N r I J) (fun v h => am_asI v (fun y => am_V d Q 212 17 [some (.ref 93), some (.int x1), some (.int x2), some (.int x3)] [.int y] h))) :=
  (am_V_un (fun p => Nat.beq p 2 || Nat.beq p 17) 11).trans rfl
set_option maxRecDepth 100000 in
theorem e_M_streetTo_17 {d : Nat} {Q : Value → am_H → Prop} {N : Nat} {I : Nat → Nat → Int32} {J : Nat → Nat → Int64} {x1 : Int32} {x2 : Int32} {x3 : Int32} {y0 : Int32} {r : am_rho} : am_V d Q 212 17 [some (.ref 93), some (.int x1), some (.int x2), some (.int x3)] [.int y0] (am_hp N r I J) =
    am_if (!(decide (y0 = (nI 0)))) (am_V d Q 212 2 [some (.ref 93), some (.int x1), some (.int x2), some (.int (x3 + (nI 1)))] [] (am_hp N r I J)) (am_g (am_inb x3 24) (am_if (!(decide ((I 100 x3.toNatClampNeg) = x1))) (am_g (am_inb x3 24) (am_if (!(decide ((I 100 x3.toNatClampNeg) = x2))) (am_V d Q 212 2 [some (.ref 93), some (.int x1), some (.int x2), some (.int (x3 + (nI 1)))] [] (am_hp N r I J)) (am_g (am_inb x3 24) (am_if (!(decide ((I 101 x3.toNatClampNeg) = x1))) (am_V d Q 212 2 [some (.ref 93), some (.int x1), some (.int x2), some (.int (x3 + (nI 1)))] [] (am_hp N r I J)) (am_g (am_inb x3 24) (Q (.int (I 102 x3.toNatClampNeg)) (am_hp N r I J))))))) (am_g (am_inb x3 24) (am_if (decide ((I 101 x3.toNatClampNeg) = x2)) (am_g (am_inb x3 24) (Q (.int (I 102 x3.toNatClampNeg)) (am_hp N r I J))) (am_g (am_inb x3 24) (am_if (!(decide ((I 100 x3.toNatClampNeg) = x2))) (am_V d Q 212 2 [some (.ref 93), some (.int x1), some (.int x2), some (.int (x3 + (nI 1)))] [] (am_hp N r I J)) (am_g (am_inb x3 24) (am_if (!(decide ((I 101 x3.toNatClampNeg) = x1))) (am_V d Q 212 2 [some (.ref 93), some (.int x1), some (.int x2), some (.int (x3 + (nI 1)))] [] (am_hp N r I J)) (am_g (am_inb x3 24) (Q (.int (I 102 x3.toNatClampNeg)) (am_hp N r I J))))))))))) :=
  (am_V_un (fun p => Nat.beq p 2 || Nat.beq p 17) 32).trans rfl
set_option maxRecDepth 100000 in
theorem e_M_lightAt {d : Nat} {Q : Value → am_H → Prop} {N : Nat} {I : Nat → Nat → Int32} {J : Nat → Nat → Int64} {x1 : Int32} {x2 : Int32} {x3 : Int32} {r : am_rho} : am_D (d + 1) 213 [.ref 93, .int x1, .int x2, .int x3] (am_hp N r I J) Q =
    am_if (!(decide ((I 93 52) = (nI 4)))) (am_if (decide ((I 93 52) = (nI 5))) (Q (.int (nI 1)) (am_hp N r I J)) (am_if (!(decide ((I 93 62) = (nI 0)))) (Q (.int (nI 1)) (am_hp N r I J)) (am_g (am_inb x1 23) (am_if (decide ((((I 121 x1.toNatClampNeg) >>> (x2 &&& nI 31)) &&& (nI 1)) = (nI 1))) (Q (.int (nI 1)) (am_hp N r I J)) (am_if (!(decide ((((I 93 61) >>> (x2 &&& nI 31)) &&& (nI 1)) = (nI 1)))) (am_V d Q 213 56 [some (.ref 93), some (.int x1), some (.int x2), some (.int x3), some (.int (nI 0))] [] (am_hp N r I J)) (Q (.int (nI 1)) (am_hp N r I J))))))) (Q (.int (nI 0)) (am_hp N r I J)) :=
  (am_D_un rfl (fun p => Nat.beq p 56) 33).trans rfl
set_option maxRecDepth 100000 in
theorem e_M_lightAt_56 {d : Nat} {Q : Value → am_H → Prop} {N : Nat} {I : Nat → Nat → Int32} {J : Nat → Nat → Int64} {x1 : Int32} {x2 : Int32} {x3 : Int32} {x4 : Int32} {r : am_rho} : am_V d Q 213 56 [some (.ref 93), some (.int x1), some (.int x2), some (.int x3), some (.int x4)] [] (am_hp N r I J) =
    am_if (decide ((I 95 4) ≤ x4)) (Q (.int (nI 0)) (am_hp N r I J)) (am_g (am_inb x4 12) (am_if (!(decide ((I 109 x4.toNatClampNeg) = x2))) (am_V d Q 213 56 [some (.ref 93), some (.int x1), some (.int x2), some (.int x3), some (.int (x4 + (nI 1)))] [] (am_hp N r I J)) (am_g (am_inb x4 12) (am_if (decide (x3 < (I 110 x4.toNatClampNeg))) (am_V d Q 213 56 [some (.ref 93), some (.int x1), some (.int x2), some (.int x3), some (.int (x4 + (nI 1)))] [] (am_hp N r I J)) (am_g (am_inb x4 12) (am_if (decide ((I 111 x4.toNatClampNeg) < x3)) (am_V d Q 213 56 [some (.ref 93), some (.int x1), some (.int x2), some (.int x3), some (.int (x4 + (nI 1)))] [] (am_hp N r I J)) (Q (.int (nI 1)) (am_hp N r I J)))))))) :=
  (am_V_un (fun p => Nat.beq p 56) 28).trans rfl
set_option maxRecDepth 100000 in
theorem e_M_noiseAt {d : Nat} {Q : Value → am_H → Prop} {N : Nat} {I : Nat → Nat → Int32} {J : Nat → Nat → Int64} {x1 : Int32} {x2 : Int32} {r : am_rho} : am_D (d + 1) 214 [.ref 93, .int x1, .int x2] (am_hp N r I J) Q =
    am_if (!(decide ((I 93 52) = (nI 2)))) (am_g (am_inb (((nI 8) * x1) + x2) 184) (am_V d Q 214 24 [some (.ref 93), some (.int x1), some (.int x2), some (.int (I 127 (((nI 8) * x1) + x2).toNatClampNeg))] [] (am_hp N r I J))) (am_V d Q 214 24 [some (.ref 93), some (.int x1), some (.int x2), some (.int (nI 0))] [] (am_hp N r I J)) :=
  (am_D_un rfl (fun p => Nat.beq p 24 || Nat.beq p 45 || Nat.beq p 68 || Nat.beq p 84 || Nat.beq p 103 || Nat.beq p 122) 15).trans rfl
set_option maxRecDepth 100000 in
theorem e_M_noiseAt_24 {d : Nat} {Q : Value → am_H → Prop} {N : Nat} {I : Nat → Nat → Int32} {J : Nat → Nat → Int64} {x1 : Int32} {x2 : Int32} {x3 : Int32} {r : am_rho} : am_V d Q 214 24 [some (.ref 93), some (.int x1), some (.int x2), some (.int x3)] [] (am_hp N r I J) =
    am_if (!(decide ((I 93 52) = (nI 3)))) (am_g (am_inb x2 16) (am_V d Q 214 45 [some (.ref 93), some (.int x1), some (.int x2), some (.int (x3 + (I 99 x2.toNatClampNeg)))] [] (am_hp N r I J))) (am_V d Q 214 45 [some (.ref 93), some (.int x1), some (.int x2), some (.int (x3 + (nI 0)))] [] (am_hp N r I J)) :=
  (am_V_un (fun p => Nat.beq p 24 || Nat.beq p 45 || Nat.beq p 68 || Nat.beq p 84 || Nat.beq p 103 || Nat.beq p 122) 13).trans rfl
set_option maxRecDepth 100000 in
theorem e_M_noiseAt_45 {d : Nat} {Q : Value → am_H → Prop} {N : Nat} {I : Nat → Nat → Int32} {J : Nat → Nat → Int64} {x1 : Int32} {x2 : Int32} {x3 : Int32} {r : am_rho} : am_V d Q 214 45 [some (.ref 93), some (.int x1), some (.int x2), some (.int x3)] [] (am_hp N r I J) =
    am_if (!(decide ((I 93 52) = (nI 1)))) (am_g (am_inb x2 16) (am_V d Q 214 68 [some (.ref 93), some (.int x1), some (.int x2), some (.int (x3 + ((nI 3) * (I 98 x2.toNatClampNeg))))] [] (am_hp N r I J))) (am_V d Q 214 68 [some (.ref 93), some (.int x1), some (.int x2), some (.int (x3 + (nI 0)))] [] (am_hp N r I J)) :=
  (am_V_un (fun p => Nat.beq p 24 || Nat.beq p 45 || Nat.beq p 68 || Nat.beq p 84 || Nat.beq p 103 || Nat.beq p 122) 15).trans rfl
set_option maxRecDepth 100000 in
theorem e_M_noiseAt_68 {d : Nat} {Q : Value → am_H → Prop} {N : Nat} {I : Nat → Nat → Int32} {J : Nat → Nat → Int64} {x1 : Int32} {x2 : Int32} {x3 : Int32} {r : am_rho} : am_V d Q 214 68 [some (.ref 93), some (.int x1), some (.int x2), some (.int x3)] [] (am_hp N r I J) =
    am_if (!(decide (x2 = (I 93 63)))) (am_V d Q 214 84 [some (.ref 93), some (.int x1), some (.int x2), some (.int (x3 + (nI 0)))] [] (am_hp N r I J)) (am_V d Q 214 84 [some (.ref 93), some (.int x1), some (.int x2), some (.int (x3 + (nI 3)))] [] (am_hp N r I J)) :=
  (am_V_un (fun p => Nat.beq p 24 || Nat.beq p 45 || Nat.beq p 68 || Nat.beq p 84 || Nat.beq p 103 || Nat.beq p 122) 11).trans rfl
set_option maxRecDepth 100000 in
theorem e_M_noiseAt_84 {d : Nat} {Q : Value → am_H → Prop} {N : Nat} {I : Nat → Nat → Int32} {J : Nat → Nat → Int64} {x1 : Int32} {x2 : Int32} {x3 : Int32} {r : am_rho} : am_V d Q 214 84 [some (.ref 93), some (.int x1), some (.int x2), some (.int x3)] [] (am_hp N r I J) =
    am_if (!(decide (x2 = (I 93 54)))) (am_V d Q 214 103 [some (.ref 93), some (.int x1), some (.int x2), some (.int (x3 + (nI 0)))] [] (am_hp N r I J)) (am_V d Q 214 103 [some (.ref 93), some (.int x1), some (.int x2), some (.int (x3 + (I 93 56)))] [] (am_hp N r I J)) :=
  (am_V_un (fun p => Nat.beq p 24 || Nat.beq p 45 || Nat.beq p 68 || Nat.beq p 84 || Nat.beq p 103 || Nat.beq p 122) 12).trans rfl
set_option maxRecDepth 100000 in
theorem e_M_noiseAt_103 {d : Nat} {Q : Value → am_H → Prop} {N : Nat} {I : Nat → Nat → Int32} {J : Nat → Nat → Int64} {x1 : Int32} {x2 : Int32} {x3 : Int32} {r : am_rho} : am_V d Q 214 103 [some (.ref 93), some (.int x1), some (.int x2), some (.int x3)] [] (am_hp N r I J) =
    am_if (!(decide (x2 = (I 93 55)))) (am_V d Q 214 122 [some (.ref 93), some (.int x1), some (.int x2), some (.int (x3 + (nI 0)))] [] (am_hp N r I J)) (am_V d Q 214 122 [some (.ref 93), some (.int x1), some (.int x2), some (.int (x3 + (I 93 57)))] [] (am_hp N r I J)) :=
  (am_V_un (fun p => Nat.beq p 24 || Nat.beq p 45 || Nat.beq p 68 || Nat.beq p 84 || Nat.beq p 103 || Nat.beq p 122) 12).trans rfl
set_option maxRecDepth 100000 in
theorem e_M_noiseAt_122 {d : Nat} {Q : Value → am_H → Prop} {N : Nat} {I : Nat → Nat → Int32} {J : Nat → Nat → Int64} {x1 : Int32} {x2 : Int32} {x3 : Int32} {r : am_rho} : am_V d Q 214 122 [some (.ref 93), some (.int x1), some (.int x2), some (.int x3)] [] (am_hp N r I J) =
    Q (.int x3) (am_hp N r I J) :=
  (am_V_un (fun p => Nat.beq p 24 || Nat.beq p 45 || Nat.beq p 68 || Nat.beq p 84 || Nat.beq p 103 || Nat.beq p 122) 4).trans rfl
set_option maxRecDepth 100000 in
theorem e_M_inHand {d : Nat} {Q : Value → am_H → Prop} {N : Nat} {I : Nat → Nat → Int32} {J : Nat → Nat → Int64} {x1 : Int32} {x2 : Int32} {r : am_rho} : am_D (d + 1) 215 [.ref 93, .int x1, .int x2] (am_hp N r I J) Q =
    am_V d Q 215 5 [some (.ref 93), some (.int x1), some (.int x2), some (.int (nI 0)), some (.int (nI 0)), am_oi none] [] (am_hp N r I J) :=
  (am_D_un rfl (fun p => Nat.beq p 5) 6).trans rfl
set_option maxRecDepth 100000 in
theorem e_M_inHand_5 {d : Nat} {Q : Value → am_H → Prop} {N : Nat} {I : Nat → Nat → Int32} {J : Nat → Nat → Int64} {x1 : Int32} {x2 : Int32} {x3 : Int32} {x4 : Int32} {o5 : Option Int32} {r : am_rho} : am_V d Q 215 5 [some (.ref 93), some (.int x1), some (.int x2), some (.int x3), some (.int x4), am_oi o5] [] (am_hp N r I J) =
    am_if (decide ((I 95 3) ≤ x4)) (Q (.int x3) (am_hp N r I J)) (am_g (am_inb (((nI 8) * x1) + x4) 184) (am_if (!(decide ((I 124 (((nI 8) * x1) + x4).toNatClampNeg) = (nI 1)))) (am_V d Q 215 5 [some (.ref 93), some (.int x1), some (.int x2), some (.int (x3 ||| (nI 0))), some (.int (x4 + (nI 1))), am_oi (some (((nI 8) * x1) + x4))] [] (am_hp N r I J)) (am_g (am_inb (((nI 8) * x1) + x4) 184) (am_if (!(decide ((I 125 (((nI 8) * x1) + x4).toNatClampNeg) = x2))) (am_V d Q 215 5 [some (.ref 93), some (.int x1), some (.int x2), some (.int (x3 ||| (nI 0))), some (.int (x4 + (nI 1))), am_oi (some (((nI 8) * x1) + x4))] [] (am_hp N r I J)) (am_V d Q 215 5 [some (.ref 93), some (.int x1), some (.int x2), some (.int (x3 ||| ((nI 1) <<< (x4 &&& nI 31)))), some (.int (x4 + (nI 1))), am_oi (some (((nI 8) * x1) + x4))] [] (am_hp N r I J)))))) :=
  (am_V_un (fun p => Nat.beq p 5) 35).trans rfl
set_option maxRecDepth 100000 in
theorem e_M_bitsOf {d : Nat} {Q : Value → am_H → Prop} {N : Nat} {I : Nat → Nat → Int32} {J : Nat → Nat → Int64} {x0 : Int32} {r : am_rho} : am_D (d + 1) 216 [.int x0] (am_hp N r I J) Q =
    am_V d Q 216 4 [some (.int x0), some (.int (nI 0)), some (.int (nI 0))] [] (am_hp N r I J) :=
  (am_D_un rfl (fun p => Nat.beq p 4) 6).trans rfl
set_option maxRecDepth 100000 in
theorem e_M_bitsOf_4 {d : Nat} {Q : Value → am_H → Prop} {N : Nat} {I : Nat → Nat → Int32} {J : Nat → Nat → Int64} {x0 : Int32} {x1 : Int32} {x2 : Int32} {r : am_rho} : am_V d Q 216 4 [some (.int x0), some (.int x1), some (.int x2)] [] (am_hp N r I J) =
    am_if (decide (((nI 8) : Int32) ≤ x2)) (Q (.int x1) (am_hp N r I J)) (am_V d Q 216 4 [some (.int x0), some (.int (x1 + ((x0 >>> (x2 &&& nI 31)) &&& (nI 1)))), some (.int (x2 + (nI 1)))] [] (am_hp N r I J)) :=
  (am_V_un (fun p => Nat.beq p 4) 15).trans rfl
set_option maxRecDepth 100000 in
theorem e_M_deepOf {d : Nat} {Q : Value → am_H → Prop} {N : Nat} {I : Nat → Nat → Int32} {J : Nat → Nat → Int64} {x1 : Int32} {r : am_rho} : am_D (d + 1) 217 [.ref 93, .int x1] (am_hp N r I J) Q =
    am_if (!(decide ((I 93 52) = (nI 6)))) (am_g (am_inb x1 10) (Q (.int (I 105 x1.toNatClampNeg)) (am_hp N r I J))) (am_if (!(decide ((I 93 53) = x1))) (am_g (am_inb x1 10) (Q (.int (I 105 x1.toNatClampNeg)) (am_hp N r I J))) (Q (.int (nI 9)) (am_hp N r I J))) :=
  (am_D_un rfl (fun p => false) 15).trans rfl
set_option maxRecDepth 100000 in
theorem e_M_dreamOf {d : Nat} {Q : Value → am_H → Prop} {N : Nat} {I : Nat → Nat → Int32} {J : Nat → Nat → Int64} {x1 : Int32} {r : am_rho} : am_D (d + 1) 218 [.ref 93, .int x1] (am_hp N r I J) Q =
    am_if (!(decide (x1 = (I 93 59)))) (am_g (am_inb x1 10) (Q (.int (I 106 x1.toNatClampNeg)) (am_hp N r I J))) (Q (.int (I 93 60)) (am_hp N r I J)) :=
  (am_D_un rfl (fun p => false) 11).trans rfl
set_option maxRecDepth 100000 in
theorem e_M_calls {d : Nat} {Q : Value → am_H → Prop} {N : Nat} {I : Nat → Nat → Int32} {J : Nat → Nat → Int64} {x1 : Int32} {x2 : Int32} {x3 : Int32} {x4 : Int32} {r : am_rho} : am_D (d + 1) 219 [.ref 93, .int x1, .int x2, .int x3, .int x4] (am_hp N r I J) Q =
    am_D d 217 [.ref 93, .int x2] (am_hp N r I J) (fun v h => am_asI v (fun y => am_V d Q 219 10 [some (.ref 93), some (.int x1), some (.int x2), some (.int x3), some (.int x4)] [.int y, .int (nI 0), .ref 116] h)) :=
  (am_D_un rfl (fun p => Nat.beq p 10 || Nat.beq p 30 || Nat.beq p 51 || Nat.beq p 64 || Nat.beq p 77 || Nat.beq p 80) 8).trans rfl
set_option maxRecDepth 100000 in
theorem e_M_calls_10 {d : Nat} {Q : Value → am_H → Prop} {N : Nat} {I : Nat → Nat → Int32} {J : Nat → Nat → Int64} {x1 : Int32} {x2 : Int32} {x3 : Int32} {x4 : Int32} {y1 : Int32} {y2 : Int32} {r : am_rho} : am_V d Q 219 10 [some (.ref 93), some (.int x1), some (.int x2), some (.int x3), some (.int x4)] [.int y2, .int y1, .ref 116] (am_hp N r I J) =
    am_g (am_inb y1 7) (am_D d 218 [.ref 93, .int x2] (am_hp N r I (am_uJ J 116 y1.toNatClampNeg (Int32.toInt64 y2))) (fun v h => am_asI v (fun y => am_V d Q 219 30 [some (.ref 93), some (.int x1), some (.int x2), some (.int x3), some (.int x4)] [.int y, .int ((nI 8) * x3), .ref 128, .int (nI 1), .ref 116] h))) :=
  (am_V_un (fun p => Nat.beq p 10 || Nat.beq p 30 || Nat.beq p 51 || Nat.beq p 64 || Nat.beq p 77 || Nat.beq p 80) 15).trans rfl
set_option maxRecDepth 100000 in
theorem e_M_calls_30 {d : Nat} {Q : Value → am_H → Prop} {N : Nat} {I : Nat → Nat → Int32} {J : Nat → Nat → Int64} {x1 : Int32} {x2 : Int32} {x3 : Int32} {x4 : Int32} {y1 : Int32} {y3 : Int32} {y4 : Int32} {r : am_rho} : am_V d Q 219 30 [some (.ref 93), some (.int x1), some (.int x2), some (.int x3), some (.int x4)] [.int y4, .int y3, .ref 128, .int y1, .ref 116] (am_hp N r I J) =
    am_g (am_inb (y3 + y4) 64) (am_g (am_inb y1 7) (am_g (am_inb x1 23) (am_D d 213 [.ref 93, .int x1, .int x3, .int (I 118 x1.toNatClampNeg)] (am_hp N r I (am_uJ J 116 y1.toNatClampNeg (Int32.toInt64 (I 128 (y3 + y4).toNatClampNeg)))) (fun v h => am_asI v (fun y => am_V d Q 219 51 [some (.ref 93), some (.int x1), some (.int x2), some (.int x3), some (.int x4)] [.int y, .int (nI 2), .ref 116] h))))) :=
  (am_V_un (fun p => Nat.beq p 10 || Nat.beq p 30 || Nat.beq p 51 || Nat.beq p 64 || Nat.beq p 77 || Nat.beq p 80) 17).trans rfl
set_option maxRecDepth 100000 in
theorem e_M_calls_51 {d : Nat} {Q : Value → am_H → Prop} {N : Nat} {I : Nat → Nat → Int32} {J : Nat → Nat → Int64} {x1 : Int32} {x2 : Int32} {x3 : Int32} {x4 : Int32} {y1 : Int32} {y2 : Int32} {r : am_rho} : am_V d Q 219 51 [some (.ref 93), some (.int x1), some (.int x2), some (.int x3), some (.int x4)] [.int y2, .int y1, .ref 116] (am_hp N r I J) =
    am_g (am_inb y1 7) (am_D d 214 [.ref 93, .int x1, .int x3] (am_hp N r I (am_uJ J 116 y1.toNatClampNeg (Int32.toInt64 y2))) (fun v h => am_asI v (fun y => am_V d Q 219 64 [some (.ref 93), some (.int x1), some (.int x2), some (.int x3), some (.int x4)] [.int y, .int (nI 3), .ref 116] h))) :=
  (am_V_un (fun p => Nat.beq p 10 || Nat.beq p 30 || Nat.beq p 51 || Nat.beq p 64 || Nat.beq p 77 || Nat.beq p 80) 11).trans rfl
set_option maxRecDepth 100000 in
theorem e_M_calls_64 {d : Nat} {Q : Value → am_H → Prop} {N : Nat} {I : Nat → Nat → Int32} {J : Nat → Nat → Int64} {x1 : Int32} {x2 : Int32} {x3 : Int32} {x4 : Int32} {y1 : Int32} {y2 : Int32} {r : am_rho} : am_V d Q 219 64 [some (.ref 93), some (.int x1), some (.int x2), some (.int x3), some (.int x4)] [.int y2, .int y1, .ref 116] (am_hp N r I J) =
    am_g (am_inb y1 7) (am_D d 215 [.ref 93, .int x1, .int x2] (am_hp N r I (am_uJ J 116 y1.toNatClampNeg (Int32.toInt64 y2))) (fun v h => am_asI v (fun y => am_V d Q 219 77 [some (.ref 93), some (.int x1), some (.int x2), some (.int x3), some (.int x4)] [.int y, .int (nI 4), .ref 116] h))) :=
  (am_V_un (fun p => Nat.beq p 10 || Nat.beq p 30 || Nat.beq p 51 || Nat.beq p 64 || Nat.beq p 77 || Nat.beq p 80) 11).trans rfl
set_option maxRecDepth 100000 in
theorem e_M_calls_77 {d : Nat} {Q : Value → am_H → Prop} {N : Nat} {I : Nat → Nat → Int32} {J : Nat → Nat → Int64} {x1 : Int32} {x2 : Int32} {x3 : Int32} {x4 : Int32} {y1 : Int32} {y2 : Int32} {r : am_rho} : am_V d Q 219 77 [some (.ref 93), some (.int x1), some (.int x2), some (.int x3), some (.int x4)] [.int y2, .int y1, .ref 116] (am_hp N r I J) =
    am_D d 216 [.int y2] (am_hp N r I J) (fun v h => am_asI v (fun y => am_V d Q 219 80 [some (.ref 93), some (.int x1), some (.int x2), some (.int x3), some (.int x4)] [.int y, .int y1, .ref 116] h)) :=
  (am_V_un (fun p => Nat.beq p 10 || Nat.beq p 30 || Nat.beq p 51 || Nat.beq p 64 || Nat.beq p 77 || Nat.beq p 80) 3).trans rfl
set_option maxRecDepth 100000 in
theorem e_M_calls_80 {d : Nat} {Q : Value → am_H → Prop} {N : Nat} {I : Nat → Nat → Int32} {J : Nat → Nat → Int64} {x1 : Int32} {x2 : Int32} {x3 : Int32} {x4 : Int32} {y1 : Int32} {y2 : Int32} {r : am_rho} : am_V d Q 219 80 [some (.ref 93), some (.int x1), some (.int x2), some (.int x3), some (.int x4)] [.int y2, .int y1, .ref 116] (am_hp N r I J) =
    am_g (am_inb y1 7) (am_g (am_inb x1 23) (Q .null (am_hp N r I (am_uJ (am_uJ (am_uJ J 116 y1.toNatClampNeg (Int32.toInt64 y2)) 116 5 (Int32.toInt64 (I 118 x1.toNatClampNeg))) 116 6 (Int32.toInt64 x4))))) :=
  (am_V_un (fun p => Nat.beq p 10 || Nat.beq p 30 || Nat.beq p 51 || Nat.beq p 64 || Nat.beq p 77 || Nat.beq p 80) 20).trans rfl
set_option maxRecDepth 100000 in
theorem e_M_pullOf {d : Nat} {Q : Value → am_H → Prop} {N : Nat} {I : Nat → Nat → Int32} {J : Nat → Nat → Int64} {x1 : Int32} {x2 : Int32} {x3 : Int32} {x4 : Int32} {r : am_rho} : am_D (d + 1) 220 [.ref 93, .int x1, .int x2, .int x3, .int x4] (am_hp N r I J) Q =
    am_D d 219 [.ref 93, .int x1, .int x2, .int x3, .int x4] (am_hp N r I J) (fun v h => am_V d Q 220 9 [some (.ref 93), some (.int x1), some (.int x2), some (.int x3), some (.int x4)] [] h) :=
  (am_D_un rfl (fun p => Nat.beq p 9 || Nat.beq p 14 || Nat.beq p 22) 8).trans rfl
set_option maxRecDepth 100000 in
theorem e_M_pullOf_9 {d : Nat} {Q : Value → am_H → Prop} {N : Nat} {I : Nat → Nat → Int32} {J : Nat → Nat → Int64} {x1 : Int32} {x2 : Int32} {x3 : Int32} {x4 : Int32} {r : am_rho} : am_V d Q 220 9 [some (.ref 93), some (.int x1), some (.int x2), some (.int x3), some (.int x4)] [] (am_hp N r I J) =
    am_D d 202 [.ref 93, .int (nI 0)] (am_hp N r I J) (fun v h => am_asI v (fun y => am_V d Q 220 14 [some (.ref 93), some (.int x1), some (.int x2), some (.int x3), some (.int x4)] [.int y] h)) :=
  (am_V_un (fun p => Nat.beq p 9 || Nat.beq p 14 || Nat.beq p 22) 5).trans rfl
set_option maxRecDepth 100000 in
theorem e_M_pullOf_14 {d : Nat} {Q : Value → am_H → Prop} {N : Nat} {I : Nat → Nat → Int32} {J : Nat → Nat → Int64} {x1 : Int32} {x2 : Int32} {x3 : Int32} {x4 : Int32} {y0 : Int32} {r : am_rho} : am_V d Q 220 14 [some (.ref 93), some (.int x1), some (.int x2), some (.int x3), some (.int x4)] [.int y0] (am_hp N r I J) =
    am_if (decide (y0 = (nI 0))) (Q (.long ((Int64.ofNat 100) - (J 116 1))) (am_hp N r I J)) (am_D d 201 [.ref 93, .int (nI 0)] (am_hp N r I J) (fun v h => am_asI v (fun y => am_V d Q 220 22 [some (.ref 93), some (.int x1), some (.int x2), some (.int x3), some (.int x4)] [.int y] h))) :=
  (am_V_un (fun p => Nat.beq p 9 || Nat.beq p 14 || Nat.beq p 22) 10).trans rfl
set_option maxRecDepth 100000 in
theorem e_M_pullOf_22 {d : Nat} {Q : Value → am_H → Prop} {N : Nat} {I : Nat → Nat → Int32} {J : Nat → Nat → Int64} {x1 : Int32} {x2 : Int32} {x3 : Int32} {x4 : Int32} {y0 : Int32} {r : am_rho} : am_V d Q 220 22 [some (.ref 93), some (.int x1), some (.int x2), some (.int x3), some (.int x4)] [.int y0] (am_hp N r I J) =
    am_if (decide (y0 = (nI 0))) (Q (.long ((Int64.ofNat 100) - (J 116 1))) (am_hp N r I J)) (Q (.long (J 117 0)) (am_hp N r I J)) :=
  (am_V_un (fun p => Nat.beq p 9 || Nat.beq p 14 || Nat.beq p 22) 10).trans rfl
set_option maxRecDepth 100000 in
theorem e_M_isDropped {d : Nat} {Q : Value → am_H → Prop} {N : Nat} {I : Nat → Nat → Int32} {J : Nat → Nat → Int64} {x1 : Int32} {x2 : Int32} {x3 : Int32} {r : am_rho} : am_D (d + 1) 221 [.ref 93, .int x1, .int x2, .int x3] (am_hp N r I J) Q =
    am_D d 219 [.ref 93, .int x1, .int x2, .int x3, .int (nI 0)] (am_hp N r I J) (fun v h => am_V d Q 221 8 [some (.ref 93), some (.int x1), some (.int x2), some (.int x3)] [] h) :=
  (am_D_un rfl (fun p => Nat.beq p 8 || Nat.beq p 13 || Nat.beq p 21) 8).trans rfl
set_option maxRecDepth 100000 in
theorem e_M_isDropped_8 {d : Nat} {Q : Value → am_H → Prop} {N : Nat} {I : Nat → Nat → Int32} {J : Nat → Nat → Int64} {x1 : Int32} {x2 : Int32} {x3 : Int32} {r : am_rho} : am_V d Q 221 8 [some (.ref 93), some (.int x1), some (.int x2), some (.int x3)] [] (am_hp N r I J) =
    am_D d 202 [.ref 93, .int (nI 2)] (am_hp N r I J) (fun v h => am_asI v (fun y => am_V d Q 221 13 [some (.ref 93), some (.int x1), some (.int x2), some (.int x3)] [.int y] h)) :=
  (am_V_un (fun p => Nat.beq p 8 || Nat.beq p 13 || Nat.beq p 21) 5).trans rfl
set_option maxRecDepth 100000 in
theorem e_M_isDropped_13 {d : Nat} {Q : Value → am_H → Prop} {N : Nat} {I : Nat → Nat → Int32} {J : Nat → Nat → Int64} {x1 : Int32} {x2 : Int32} {x3 : Int32} {y0 : Int32} {r : am_rho} : am_V d Q 221 13 [some (.ref 93), some (.int x1), some (.int x2), some (.int x3)] [.int y0] (am_hp N r I J) =
    am_if (decide (y0 = (nI 0))) (Q (.int (nI 0)) (am_hp N r I J)) (am_D d 201 [.ref 93, .int (nI 2)] (am_hp N r I J) (fun v h => am_asI v (fun y => am_V d Q 221 21 [some (.ref 93), some (.int x1), some (.int x2), some (.int x3)] [.int y] h))) :=
  (am_V_un (fun p => Nat.beq p 8 || Nat.beq p 13 || Nat.beq p 21) 6).trans rfl
set_option maxRecDepth 100000 in
theorem e_M_isDropped_21 {d : Nat} {Q : Value → am_H → Prop} {N : Nat} {I : Nat → Nat → Int32} {J : Nat → Nat → Int64} {x1 : Int32} {x2 : Int32} {x3 : Int32} {y0 : Int32} {r : am_rho} : am_V d Q 221 21 [some (.ref 93), some (.int x1), some (.int x2), some (.int x3)] [.int y0] (am_hp N r I J) =
    am_if (decide (y0 = (nI 0))) (Q (.int (nI 0)) (am_hp N r I J)) (am_if (decide ((lg_cmp (J 117 0) 0) ≤ (nI 0))) (Q (.int (nI 0)) (am_hp N r I J)) (Q (.int (nI 1)) (am_hp N r I J))) :=
  (am_V_un (fun p => Nat.beq p 8 || Nat.beq p 13 || Nat.beq p 21) 13).trans rfl
set_option maxRecDepth 100000 in
theorem e_M_wakeOf {d : Nat} {Q : Value → am_H → Prop} {N : Nat} {I : Nat → Nat → Int32} {J : Nat → Nat → Int64} {x1 : Int32} {x2 : Int32} {x3 : Int32} {r : am_rho} : am_D (d + 1) 222 [.ref 93, .int x1, .int x2, .int x3] (am_hp N r I J) Q =
    am_D d 219 [.ref 93, .int x1, .int x2, .int x3, .int (nI 0)] (am_hp N r I J) (fun v h => am_V d Q 222 8 [some (.ref 93), some (.int x1), some (.int x2), some (.int x3)] [] h) :=
  (am_D_un rfl (fun p => Nat.beq p 8 || Nat.beq p 13 || Nat.beq p 21 || Nat.beq p 60 || Nat.beq p 63) 8).trans rfl
set_option maxRecDepth 100000 in
theorem e_M_wakeOf_8 {d : Nat} {Q : Value → am_H → Prop} {N : Nat} {I : Nat → Nat → Int32} {J : Nat → Nat → Int64} {x1 : Int32} {x2 : Int32} {x3 : Int32} {r : am_rho} : am_V d Q 222 8 [some (.ref 93), some (.int x1), some (.int x2), some (.int x3)] [] (am_hp N r I J) =
    am_D d 202 [.ref 93, .int (nI 1)] (am_hp N r I J) (fun v h => am_asI v (fun y => am_V d Q 222 13 [some (.ref 93), some (.int x1), some (.int x2), some (.int x3)] [.int y] h)) :=
  (am_V_un (fun p => Nat.beq p 8 || Nat.beq p 13 || Nat.beq p 21 || Nat.beq p 60 || Nat.beq p 63) 5).trans rfl
set_option maxRecDepth 100000 in
theorem e_M_wakeOf_13 {d : Nat} {Q : Value → am_H → Prop} {N : Nat} {I : Nat → Nat → Int32} {J : Nat → Nat → Int64} {x1 : Int32} {x2 : Int32} {x3 : Int32} {y0 : Int32} {r : am_rho} : am_V d Q 222 13 [some (.ref 93), some (.int x1), some (.int x2), some (.int x3)] [.int y0] (am_hp N r I J) =
    am_if (decide (y0 = (nI 0))) (am_if (decide ((lg_cmp (J 116 3) (J 116 0)) ≤ (nI 0))) (Q (.int (nI 0)) (am_hp N r I J)) (Q (.int (nI 100)) (am_hp N r I J))) (am_D d 201 [.ref 93, .int (nI 1)] (am_hp N r I J) (fun v h => am_asI v (fun y => am_V d Q 222 21 [some (.ref 93), some (.int x1), some (.int x2), some (.int x3)] [.int y] h))) :=
  (am_V_un (fun p => Nat.beq p 8 || Nat.beq p 13 || Nat.beq p 21 || Nat.beq p 60 || Nat.beq p 63) 16).trans rfl
set_option maxRecDepth 100000 in
theorem e_M_wakeOf_21 {d : Nat} {Q : Value → am_H → Prop} {N : Nat} {I : Nat → Nat → Int32} {J : Nat → Nat → Int64} {x1 : Int32} {x2 : Int32} {x3 : Int32} {y0 : Int32} {r : am_rho} : am_V d Q 222 21 [some (.ref 93), some (.int x1), some (.int x2), some (.int x3)] [.int y0] (am_hp N r I J) =
    am_if (!(decide (y0 = (nI 0)))) (am_D d 282 [.long (Int64.ofNat 100), .long (J 117 0)] (am_hp N r I J) (fun v h => am_asL v (fun y => am_V d Q 222 60 [some (.ref 93), some (.int x1), some (.int x2), some (.int x3)] [.long y, .long 0] h))) (am_if (decide ((lg_cmp (J 116 3) (J 116 0)) ≤ (nI 0))) (Q (.int (nI 0)) (am_hp N r I J)) (Q (.int (nI 100)) (am_hp N r I J))) :=
  (am_V_un (fun p => Nat.beq p 8 || Nat.beq p 13 || Nat.beq p 21 || Nat.beq p 60 || Nat.beq p 63) 16).trans rfl
set_option maxRecDepth 100000 in
theorem e_M_wakeOf_60 {d : Nat} {Q : Value → am_H → Prop} {N : Nat} {I : Nat → Nat → Int32} {J : Nat → Nat → Int64} {x1 : Int32} {x2 : Int32} {x3 : Int32} {y0 : Int64} {y1 : Int64} {r : am_rho} : am_V d Q 222 60 [some (.ref 93), some (.int x1), some (.int x2), some (.int x3)] [.long y1, .long y0] (am_hp N r I J) =
    am_D d 280 [.long y0, .long y1] (am_hp N r I J) (fun v h => am_asL v (fun y => am_V d Q 222 63 [some (.ref 93), some (.int x1), some (.int x2), some (.int x3)] [.long y] h)) :=
  (am_V_un (fun p => Nat.beq p 8 || Nat.beq p 13 || Nat.beq p 21 || Nat.beq p 60 || Nat.beq p 63) 3).trans rfl
set_option maxRecDepth 100000 in
theorem e_M_wakeOf_63 {d : Nat} {Q : Value → am_H → Prop} {N : Nat} {I : Nat → Nat → Int32} {J : Nat → Nat → Int64} {x1 : Int32} {x2 : Int32} {x3 : Int32} {y0 : Int64} {r : am_rho} : am_V d Q 222 63 [some (.ref 93), some (.int x1), some (.int x2), some (.int x3)] [.long y0] (am_hp N r I J) =
    Q (.int (Int64.toInt32 y0)) (am_hp N r I J) :=
  (am_V_un (fun p => Nat.beq p 8 || Nat.beq p 13 || Nat.beq p 21 || Nat.beq p 60 || Nat.beq p 63) 4).trans rfl
set_option maxRecDepth 100000 in
theorem e_M_draw {d : Nat} {Q : Value → am_H → Prop} {N : Nat} {I : Nat → Nat → Int32} {J : Nat → Nat → Int64} {x1 : Int32} {r : am_rho} : am_D (d + 1) 223 [.ref 93, .int x1] (am_hp N r I J) Q =
    am_g (!(decide (x1 = nI 0))) (Q (.int ((((am_u I 120 1 ((((I 120 1) * (nI 1103515245)) + (nI 12345)) &&& (nI 2147483647))) 120 1) >>> ((nI 16) &&& nI 31)) - (((am_u I 120 1 ((((I 120 1) * (nI 1103515245)) + (nI 12345)) &&& (nI 2147483647))) 120 1) >>> ((nI 16) &&& nI 31)) / x1 * x1)) (am_hp N r (am_u I 120 1 ((((I 120 1) * (nI 1103515245)) + (nI 12345)) &&& (nI 2147483647))) J)) :=
  (am_D_un rfl (fun p => false) 25).trans rfl
set_option maxRecDepth 100000 in
theorem e_M_isWoken {d : Nat} {Q : Value → am_H → Prop} {N : Nat} {I : Nat → Nat → Int32} {J : Nat → Nat → Int64} {x1 : Int32} {x2 : Int32} {x3 : Int32} {r : am_rho} : am_D (d + 1) 224 [.ref 93, .int x1, .int x2, .int x3] (am_hp N r I J) Q =
    am_if (!(decide (x3 = (nI 0)))) (am_if (decide (x2 = (nI 0))) (am_if (!(decide (x2 = (nI 100)))) (Q (.int (nI 0)) (am_hp N r I J)) (Q (.int (nI 1)) (am_hp N r I J))) (am_if (!(decide (x2 = (nI 100)))) (am_g (am_inb x1 23) (am_g (am_inb x1 23) (am_g (am_inb x1 23) (am_if (decide (x2 ≤ ((((am_u I 120 x1.toNatClampNeg ((((I 120 x1.toNatClampNeg) * (nI 1103515245)) + (nI 12345)) &&& (nI 2147483647))) 120 x1.toNatClampNeg) >>> ((nI 16) &&& nI 31)) - (((am_u I 120 x1.toNatClampNeg ((((I 120 x1.toNatClampNeg) * (nI 1103515245)) + (nI 12345)) &&& (nI 2147483647))) 120 x1.toNatClampNeg) >>> ((nI 16) &&& nI 31)) / (nI 100) * (nI 100)))) (Q (.int (nI 0)) (am_hp N r (am_u I 120 x1.toNatClampNeg ((((I 120 x1.toNatClampNeg) * (nI 1103515245)) + (nI 12345)) &&& (nI 2147483647))) J)) (Q (.int (nI 1)) (am_hp N r (am_u I 120 x1.toNatClampNeg ((((I 120 x1.toNatClampNeg) * (nI 1103515245)) + (nI 12345)) &&& (nI 2147483647))) J)))))) (am_if (!(decide (x2 = (nI 100)))) (Q (.int (nI 0)) (am_hp N r I J)) (Q (.int (nI 1)) (am_hp N r I J))))) (am_if (decide (x2 < (nI 50))) (Q (.int (nI 0)) (am_hp N r I J)) (Q (.int (nI 1)) (am_hp N r I J))) :=
  (am_D_un rfl (fun p => false) 36).trans rfl
set_option maxRecDepth 100000 in
theorem e_M_takes {d : Nat} {Q : Value → am_H → Prop} {N : Nat} {I : Nat → Nat → Int32} {J : Nat → Nat → Int64} {x1 : Int32} {x2 : Int32} {x3 : Int32} {r : am_rho} : am_D (d + 1) 225 [.ref 93, .int x1, .int x2, .int x3] (am_hp N r I J) Q =
    am_V d Q 225 3 [some (.ref 93), some (.int x1), some (.int x2), some (.int x3), some (.int (nI 0)), am_oi none] [] (am_hp N r I J) :=
  (am_D_un rfl (fun p => Nat.beq p 3) 4).trans rfl
set_option maxRecDepth 100000 in
theorem e_M_takes_3 {d : Nat} {Q : Value → am_H → Prop} {N : Nat} {I : Nat → Nat → Int32} {J : Nat → Nat → Int64} {x1 : Int32} {x2 : Int32} {x3 : Int32} {x4 : Int32} {o5 : Option Int32} {r : am_rho} : am_V d Q 225 3 [some (.ref 93), some (.int x1), some (.int x2), some (.int x3), some (.int x4), am_oi o5] [] (am_hp N r I J) =
    am_if (decide ((I 95 3) ≤ x4)) (Q .null (am_hp N r I J)) (am_g (am_inb (((nI 8) * x1) + x4) 184) (am_if (!(decide ((I 124 (((nI 8) * x1) + x4).toNatClampNeg) = (nI 0)))) (am_V d Q 225 3 [some (.ref 93), some (.int x1), some (.int x2), some (.int x3), some (.int (x4 + (nI 1))), am_oi (some (((nI 8) * x1) + x4))] [] (am_hp N r I J)) (am_g (am_inb (((nI 8) * x1) + x4) 184) (am_if (decide ((I 125 (((nI 8) * x1) + x4).toNatClampNeg) = x3)) (am_g (am_inb (((nI 8) * x1) + x4) 184) (am_g (am_inb (((nI 8) * x1) + x4) 184) (am_g (am_inb (((nI 8) * x1) + x4) 184) (am_V d Q 225 3 [some (.ref 93), some (.int x1), some (.int x2), some (.int x3), some (.int (x4 + (nI 1))), am_oi (some (((nI 8) * x1) + x4))] [] (am_hp N r (am_u (am_u (am_u I 124 (((nI 8) * x1) + x4).toNatClampNeg (nI 1)) 125 (((nI 8) * x1) + x4).toNatClampNeg x2) 126 (((nI 8) * x1) + x4).toNatClampNeg x2) J))))) (am_V d Q 225 3 [some (.ref 93), some (.int x1), some (.int x2), some (.int x3), some (.int (x4 + (nI 1))), am_oi (some (((nI 8) * x1) + x4))] [] (am_hp N r I J)))))) :=
  (am_V_un (fun p => Nat.beq p 3) 42).trans rfl
set_option maxRecDepth 100000 in
theorem e_M_laysDown {d : Nat} {Q : Value → am_H → Prop} {N : Nat} {I : Nat → Nat → Int32} {J : Nat → Nat → Int64} {x1 : Int32} {x2 : Int32} {x3 : Int32} {r : am_rho} : am_D (d + 1) 226 [.ref 93, .int x1, .int x2, .int x3] (am_hp N r I J) Q =
    am_D d 215 [.ref 93, .int x1, .int x2] (am_hp N r I J) (fun v h => am_asI v (fun y => am_V d Q 226 6 [some (.ref 93), some (.int x1), some (.int x2), some (.int x3), none, none] [.int y] h)) :=
  (am_D_un rfl (fun p => Nat.beq p 6 || Nat.beq p 11) 6).trans rfl
set_option maxRecDepth 100000 in
theorem e_M_laysDown_6 {d : Nat} {Q : Value → am_H → Prop} {N : Nat} {I : Nat → Nat → Int32} {J : Nat → Nat → Int64} {x1 : Int32} {x2 : Int32} {x3 : Int32} {y0 : Int32} {r : am_rho} : am_V d Q 226 6 [some (.ref 93), some (.int x1), some (.int x2), some (.int x3), none, none] [.int y0] (am_hp N r I J) =
    am_V d Q 226 11 [some (.ref 93), some (.int x1), some (.int x2), some (.int x3), some (.int y0), some (.int (nI 0))] [] (am_hp N r I J) :=
  (am_V_un (fun p => Nat.beq p 6 || Nat.beq p 11) 5).trans rfl
set_option maxRecDepth 100000 in
theorem e_M_laysDown_11 {d : Nat} {Q : Value → am_H → Prop} {N : Nat} {I : Nat → Nat → Int32} {J : Nat → Nat → Int64} {x1 : Int32} {x2 : Int32} {x3 : Int32} {x4 : Int32} {x5 : Int32} {r : am_rho} : am_V d Q 226 11 [some (.ref 93), some (.int x1), some (.int x2), some (.int x3), some (.int x4), some (.int x5)] [] (am_hp N r I J) =
    am_if (decide ((I 95 3) ≤ x5)) (Q .null (am_hp N r I J)) (am_if (!(decide (((x4 >>> (x5 &&& nI 31)) &&& (nI 1)) = (nI 0)))) (am_g (am_inb (((nI 8) * x1) + x5) 184) (am_g (am_inb (((nI 8) * x1) + x5) 184) (am_V d Q 226 11 [some (.ref 93), some (.int x1), some (.int x2), some (.int x3), some (.int x4), some (.int (x5 + (nI 1)))] [] (am_hp N r (am_u (am_u I 124 (((nI 8) * x1) + x5).toNatClampNeg (nI 0)) 125 (((nI 8) * x1) + x5).toNatClampNeg x3) J)))) (am_V d Q 226 11 [some (.ref 93), some (.int x1), some (.int x2), some (.int x3), some (.int x4), some (.int (x5 + (nI 1)))] [] (am_hp N r I J))) :=
  (am_V_un (fun p => Nat.beq p 6 || Nat.beq p 11) 34).trans rfl
set_option maxRecDepth 100000 in
theorem e_M_arrive {d : Nat} {Q : Value → am_H → Prop} {N : Nat} {I : Nat → Nat → Int32} {J : Nat → Nat → Int64} {x1 : Int32} {x2 : Int32} {x3 : Int32} {r : am_rho} : am_D (d + 1) 227 [.ref 93, .int x1, .int x2, .int x3] (am_hp N r I J) Q =
    am_D d 215 [.ref 93, .int x1, .int x2] (am_hp N r I J) (fun v h => am_asI v (fun y => am_V d Q 227 6 [some (.ref 93), some (.int x1), some (.int x2), some (.int x3), none, none] [.int y] h)) :=
  (am_D_un rfl (fun p => Nat.beq p 6 || Nat.beq p 11) 6).trans rfl
set_option maxRecDepth 100000 in
theorem e_M_arrive_6 {d : Nat} {Q : Value → am_H → Prop} {N : Nat} {I : Nat → Nat → Int32} {J : Nat → Nat → Int64} {x1 : Int32} {x2 : Int32} {x3 : Int32} {y0 : Int32} {r : am_rho} : am_V d Q 227 6 [some (.ref 93), some (.int x1), some (.int x2), some (.int x3), none, none] [.int y0] (am_hp N r I J) =
    am_V d Q 227 11 [some (.ref 93), some (.int x1), some (.int x2), some (.int x3), some (.int y0), some (.int (nI 0))] [] (am_hp N r I J) :=
  (am_V_un (fun p => Nat.beq p 6 || Nat.beq p 11) 5).trans rfl
set_option maxRecDepth 100000 in
theorem e_M_arrive_11 {d : Nat} {Q : Value → am_H → Prop} {N : Nat} {I : Nat → Nat → Int32} {J : Nat → Nat → Int64} {x1 : Int32} {x2 : Int32} {x3 : Int32} {x4 : Int32} {x5 : Int32} {r : am_rho} : am_V d Q 227 11 [some (.ref 93), some (.int x1), some (.int x2), some (.int x3), some (.int x4), some (.int x5)] [] (am_hp N r I J) =
    am_if (decide ((I 95 3) ≤ x5)) (Q .null (am_hp N r I J)) (am_if (decide (((x4 >>> (x5 &&& nI 31)) &&& (nI 1)) = (nI 0))) (am_V d Q 227 11 [some (.ref 93), some (.int x1), some (.int x2), some (.int x3), some (.int x4), some (.int (x5 + (nI 1)))] [] (am_hp N r I J)) (am_g (am_inb x5 16) (am_if (decide ((I 108 x5.toNatClampNeg) = x3)) (am_g (am_inb (((nI 8) * x1) + x5) 184) (am_g (am_inb (((nI 8) * x1) + x5) 184) (am_V d Q 227 11 [some (.ref 93), some (.int x1), some (.int x2), some (.int x3), some (.int x4), some (.int (x5 + (nI 1)))] [] (am_hp N r (am_u (am_u I 124 (((nI 8) * x1) + x5).toNatClampNeg (nI 2)) 125 (((nI 8) * x1) + x5).toNatClampNeg x3) J)))) (am_V d Q 227 11 [some (.ref 93), some (.int x1), some (.int x2), some (.int x3), some (.int x4), some (.int (x5 + (nI 1)))] [] (am_hp N r I J))))) :=
  (am_V_un (fun p => Nat.beq p 6 || Nat.beq p 11) 40).trans rfl
set_option maxRecDepth 100000 in
theorem e_M_goesTo {d : Nat} {Q : Value → am_H → Prop} {N : Nat} {I : Nat → Nat → Int32} {J : Nat → Nat → Int64} {x1 : Int32} {x2 : Int32} {x3 : Int32} {r : am_rho} : am_D (d + 1) 228 [.ref 93, .int x1, .int x2, .int x3] (am_hp N r I J) Q =
    am_D d 220 [.ref 93, .int x1, .int x2, .int x3, .int (nI 0)] (am_hp N r I J) (fun v h => am_asL v (fun y => am_V d Q 228 11 [some (.ref 93), some (.int x1), some (.int x2), some (.int x3), some (.int x3), none, none, none, none, none, none] [.long y] h)) :=
  (am_D_un rfl (fun p => Nat.beq p 11 || Nat.beq p 16 || Nat.beq p 44 || Nat.beq p 64) 10).trans rfl
set_option maxRecDepth 100000 in
theorem e_M_goesTo_11 {d : Nat} {Q : Value → am_H → Prop} {N : Nat} {I : Nat → Nat → Int32} {J : Nat → Nat → Int64} {x1 : Int32} {x2 : Int32} {x3 : Int32} {x4 : Int32} {y0 : Int64} {r : am_rho} : am_V d Q 228 11 [some (.ref 93), some (.int x1), some (.int x2), some (.int x3), some (.int x4), none, none, none, none, none, none] [.long y0] (am_hp N r I J) =
    am_V d Q 228 16 [some (.ref 93), some (.int x1), some (.int x2), some (.int x3), some (.int x4), some (.long y0), none, some (.int (nI 0)), am_oi none, am_ol none, none] [] (am_hp N r I J) :=
  (am_V_un (fun p => Nat.beq p 11 || Nat.beq p 16 || Nat.beq p 44 || Nat.beq p 64) 5).trans rfl
set_option maxRecDepth 100000 in
theorem e_M_goesTo_16 {d : Nat} {Q : Value → am_H → Prop} {N : Nat} {I : Nat → Nat → Int32} {J : Nat → Nat → Int64} {x1 : Int32} {x2 : Int32} {x3 : Int32} {x4 : Int32} {x5 : Int64} {x7 : Int32} {o8 : Option Int32} {o9 : Option Int64} {r : am_rho} : am_V d Q 228 16 [some (.ref 93), some (.int x1), some (.int x2), some (.int x3), some (.int x4), some (.long x5), none, some (.int x7), am_oi o8, am_ol o9, none] [] (am_hp N r I J) =
    am_if (decide ((I 95 0) ≤ x7)) (Q (.int x4) (am_hp N r I J)) (am_if (!(decide (x7 = x3))) (am_D d 212 [.ref 93, .int x3, .int x7] (am_hp N r I J) (fun v h => am_asI v (fun y => am_V d Q 228 44 [some (.ref 93), some (.int x1), some (.int x2), some (.int x3), some (.int x4), some (.long x5), none, some (.int x7), am_oi o8, am_ol o9, none] [.int y] h))) (am_V d Q 228 44 [some (.ref 93), some (.int x1), some (.int x2), some (.int x3), some (.int x4), some (.long x5), none, some (.int x7), am_oi o8, am_ol o9, none] [.int (nI 0)] (am_hp N r I J))) :=
  (am_V_un (fun p => Nat.beq p 11 || Nat.beq p 16 || Nat.beq p 44 || Nat.beq p 64) 15).trans rfl
set_option maxRecDepth 100000 in
theorem e_M_goesTo_44 {d : Nat} {Q : Value → am_H → Prop} {N : Nat} {I : Nat → Nat → Int32} {J : Nat → Nat → Int64} {x1 : Int32} {x2 : Int32} {x3 : Int32} {x4 : Int32} {x5 : Int64} {x7 : Int32} {o8 : Option Int32} {o9 : Option Int64} {y0 : Int32} {r : am_rho} : am_V d Q 228 44 [some (.ref 93), some (.int x1), some (.int x2), some (.int x3), some (.int x4), some (.long x5), none, some (.int x7), am_oi o8, am_ol o9, none] [.int y0] (am_hp N r I J) =
    am_if (!(decide (y0 = (nI 0)))) (am_D d 220 [.ref 93, .int x1, .int x2, .int x7, .int y0] (am_hp N r I J) (fun v h => am_asL v (fun y => am_V d Q 228 64 [some (.ref 93), some (.int x1), some (.int x2), some (.int x3), some (.int x4), some (.long x5), none, some (.int x7), some (.int y0), am_ol o9, none] [.long y] h))) (am_V d Q 228 16 [some (.ref 93), some (.int x1), some (.int x2), some (.int x3), some (.int x4), some (.long x5), none, some (.int (x7 + (nI 1))), am_oi (some y0), am_ol o9, none] [] (am_hp N r I J)) :=
  (am_V_un (fun p => Nat.beq p 11 || Nat.beq p 16 || Nat.beq p 44 || Nat.beq p 64) 11).trans rfl
set_option maxRecDepth 100000 in
theorem e_M_goesTo_64 {d : Nat} {Q : Value → am_H → Prop} {N : Nat} {I : Nat → Nat → Int32} {J : Nat → Nat → Int64} {x1 : Int32} {x2 : Int32} {x3 : Int32} {x4 : Int32} {x5 : Int64} {x7 : Int32} {x8 : Int32} {o9 : Option Int64} {y0 : Int64} {r : am_rho} : am_V d Q 228 64 [some (.ref 93), some (.int x1), some (.int x2), some (.int x3), some (.int x4), some (.long x5), none, some (.int x7), some (.int x8), am_ol o9, none] [.long y0] (am_hp N r I J) =
    am_if (decide (((nI 0) : Int32) < (lg_cmp y0 x5))) (am_V d Q 228 16 [some (.ref 93), some (.int x1), some (.int x2), some (.int x3), some (.int x7), some (.long y0), none, some (.int (x7 + (nI 1))), am_oi (some x8), am_ol (some y0), none] [] (am_hp N r I J)) (am_V d Q 228 16 [some (.ref 93), some (.int x1), some (.int x2), some (.int x3), some (.int x4), some (.long x5), none, some (.int (x7 + (nI 1))), am_oi (some x8), am_ol (some y0), none] [] (am_hp N r I J)) :=
  (am_V_un (fun p => Nat.beq p 11 || Nat.beq p 16 || Nat.beq p 44 || Nat.beq p 64) 13).trans rfl
set_option maxRecDepth 100000 in
theorem e_M_walks {d : Nat} {Q : Value → am_H → Prop} {N : Nat} {I : Nat → Nat → Int32} {J : Nat → Nat → Int64} {x1 : Int32} {x2 : Int32} {x3 : Int32} {r : am_rho} : am_D (d + 1) 229 [.ref 93, .int x1, .int x2, .int x3] (am_hp N r I J) Q =
    am_g (am_inb (((nI 5) * x1) + x2) 115) (am_g (am_inb x2 10) (am_if (!(decide ((I 123 (((nI 5) * x1) + x2).toNatClampNeg) = (I 104 x2.toNatClampNeg)))) (am_V d Q 229 35 [some (.ref 93), some (.int x1), some (.int x2), some (.int x3), some (.int (((nI 5) * x1) + x2)), none] [] (am_hp N r I J)) (am_g (am_inb x2 10) (am_D d 225 [.ref 93, .int x1, .int x2, .int (I 104 x2.toNatClampNeg)] (am_hp N r I J) (fun v h => am_V d Q 229 35 [some (.ref 93), some (.int x1), some (.int x2), some (.int x3), some (.int (((nI 5) * x1) + x2)), none] [] h))))) :=
  (am_D_un rfl (fun p => Nat.beq p 35 || Nat.beq p 54 || Nat.beq p 72 || Nat.beq p 80 || Nat.beq p 91 || Nat.beq p 104 || Nat.beq p 108 || Nat.beq p 131) 25).trans rfl
set_option maxRecDepth 100000 in
theorem e_M_walks_35 {d : Nat} {Q : Value → am_H → Prop} {N : Nat} {I : Nat → Nat → Int32} {J : Nat → Nat → Int64} {x1 : Int32} {x2 : Int32} {x3 : Int32} {x4 : Int32} {r : am_rho} : am_V d Q 229 35 [some (.ref 93), some (.int x1), some (.int x2), some (.int x3), some (.int x4), none] [] (am_hp N r I J) =
    am_g (am_inb x4 115) (am_D d 228 [.ref 93, .int x1, .int x2, .int (I 123 x4.toNatClampNeg)] (am_hp N r I J) (fun v h => am_asI v (fun y => am_V d Q 229 54 [some (.ref 93), some (.int x1), some (.int x2), some (.int x3), some (.int x4), none] [.int y, .int x4, .ref 123] h))) :=
  (am_V_un (fun p => Nat.beq p 35 || Nat.beq p 54 || Nat.beq p 72 || Nat.beq p 80 || Nat.beq p 91 || Nat.beq p 104 || Nat.beq p 108 || Nat.beq p 131) 13).trans rfl
set_option maxRecDepth 100000 in
theorem e_M_walks_54 {d : Nat} {Q : Value → am_H → Prop} {N : Nat} {I : Nat → Nat → Int32} {J : Nat → Nat → Int64} {x1 : Int32} {x2 : Int32} {x3 : Int32} {x4 : Int32} {y1 : Int32} {y2 : Int32} {r : am_rho} : am_V d Q 229 54 [some (.ref 93), some (.int x1), some (.int x2), some (.int x3), some (.int x4), none] [.int y2, .int y1, .ref 123] (am_hp N r I J) =
    am_g (am_inb y1 115) (am_g (am_inb x4 115) (am_D d 227 [.ref 93, .int x1, .int x2, .int ((am_u I 123 y1.toNatClampNeg y2) 123 x4.toNatClampNeg)] (am_hp N r (am_u I 123 y1.toNatClampNeg y2) J) (fun v h => am_V d Q 229 72 [some (.ref 93), some (.int x1), some (.int x2), some (.int x3), some (.int x4), some (.int ((am_u I 123 y1.toNatClampNeg y2) 123 x4.toNatClampNeg))] [] h))) :=
  (am_V_un (fun p => Nat.beq p 35 || Nat.beq p 54 || Nat.beq p 72 || Nat.beq p 80 || Nat.beq p 91 || Nat.beq p 104 || Nat.beq p 108 || Nat.beq p 131) 13).trans rfl
set_option maxRecDepth 100000 in
theorem e_M_walks_72 {d : Nat} {Q : Value → am_H → Prop} {N : Nat} {I : Nat → Nat → Int32} {J : Nat → Nat → Int64} {x1 : Int32} {x2 : Int32} {x3 : Int32} {x4 : Int32} {x5 : Int32} {r : am_rho} : am_V d Q 229 72 [some (.ref 93), some (.int x1), some (.int x2), some (.int x3), some (.int x4), some (.int x5)] [] (am_hp N r I J) =
    am_D d 221 [.ref 93, .int x1, .int x2, .int x5] (am_hp N r I J) (fun v h => am_asI v (fun y => am_V d Q 229 80 [some (.ref 93), some (.int x1), some (.int x2), some (.int x3), some (.int x4), some (.int x5)] [.int y] h)) :=
  (am_V_un (fun p => Nat.beq p 35 || Nat.beq p 54 || Nat.beq p 72 || Nat.beq p 80 || Nat.beq p 91 || Nat.beq p 104 || Nat.beq p 108 || Nat.beq p 131) 7).trans rfl
set_option maxRecDepth 100000 in
theorem e_M_walks_80 {d : Nat} {Q : Value → am_H → Prop} {N : Nat} {I : Nat → Nat → Int32} {J : Nat → Nat → Int64} {x1 : Int32} {x2 : Int32} {x3 : Int32} {x4 : Int32} {x5 : Int32} {y0 : Int32} {r : am_rho} : am_V d Q 229 80 [some (.ref 93), some (.int x1), some (.int x2), some (.int x3), some (.int x4), some (.int x5)] [.int y0] (am_hp N r I J) =
    am_if (decide (y0 = (nI 0))) (am_D d 222 [.ref 93, .int x1, .int x2, .int x5] (am_hp N r I J) (fun v h => am_asI v (fun y => am_V d Q 229 104 [some (.ref 93), some (.int x1), some (.int x2), some (.int x3), some (.int x4), some (.int x5)] [.int y, .int x1, .ref 93] h))) (am_D d 226 [.ref 93, .int x1, .int x2, .int x5] (am_hp N r I J) (fun v h => am_V d Q 229 91 [some (.ref 93), some (.int x1), some (.int x2), some (.int x3), some (.int x4), some (.int x5)] [] h)) :=
  (am_V_un (fun p => Nat.beq p 35 || Nat.beq p 54 || Nat.beq p 72 || Nat.beq p 80 || Nat.beq p 91 || Nat.beq p 104 || Nat.beq p 108 || Nat.beq p 131) 10).trans rfl
set_option maxRecDepth 100000 in
theorem e_M_walks_91 {d : Nat} {Q : Value → am_H → Prop} {N : Nat} {I : Nat → Nat → Int32} {J : Nat → Nat → Int64} {x1 : Int32} {x2 : Int32} {x3 : Int32} {x4 : Int32} {x5 : Int32} {r : am_rho} : am_V d Q 229 91 [some (.ref 93), some (.int x1), some (.int x2), some (.int x3), some (.int x4), some (.int x5)] [] (am_hp N r I J) =
    am_V d Q 229 131 [some (.ref 93), some (.int x1), some (.int x2), some (.int x3), some (.int x4), some (.int x5)] [] (am_hp N r I J) :=
  (am_V_un (fun p => Nat.beq p 35 || Nat.beq p 54 || Nat.beq p 72 || Nat.beq p 80 || Nat.beq p 91 || Nat.beq p 104 || Nat.beq p 108 || Nat.beq p 131) 3).trans rfl
set_option maxRecDepth 100000 in
theorem e_M_walks_104 {d : Nat} {Q : Value → am_H → Prop} {N : Nat} {I : Nat → Nat → Int32} {J : Nat → Nat → Int64} {x1 : Int32} {x2 : Int32} {x3 : Int32} {x4 : Int32} {x5 : Int32} {y1 : Int32} {y2 : Int32} {r : am_rho} : am_V d Q 229 104 [some (.ref 93), some (.int x1), some (.int x2), some (.int x3), some (.int x4), some (.int x5)] [.int y2, .int y1, .ref 93] (am_hp N r I J) =
    am_D d 224 [.ref 93, .int y1, .int y2, .int x3] (am_hp N r I J) (fun v h => am_asI v (fun y => am_V d Q 229 108 [some (.ref 93), some (.int x1), some (.int x2), some (.int x3), some (.int x4), some (.int x5)] [.int y] h)) :=
  (am_V_un (fun p => Nat.beq p 35 || Nat.beq p 54 || Nat.beq p 72 || Nat.beq p 80 || Nat.beq p 91 || Nat.beq p 104 || Nat.beq p 108 || Nat.beq p 131) 4).trans rfl
set_option maxRecDepth 100000 in
theorem e_M_walks_108 {d : Nat} {Q : Value → am_H → Prop} {N : Nat} {I : Nat → Nat → Int32} {J : Nat → Nat → Int64} {x1 : Int32} {x2 : Int32} {x3 : Int32} {x4 : Int32} {x5 : Int32} {y0 : Int32} {r : am_rho} : am_V d Q 229 108 [some (.ref 93), some (.int x1), some (.int x2), some (.int x3), some (.int x4), some (.int x5)] [.int y0] (am_hp N r I J) =
    am_if (decide (y0 = (nI 0))) (am_V d Q 229 131 [some (.ref 93), some (.int x1), some (.int x2), some (.int x3), some (.int x4), some (.int x5)] [] (am_hp N r I J)) (am_g (am_inb x1 23) (am_g (am_inb x1 23) (am_D d 226 [.ref 93, .int x1, .int x2, .int x5] (am_hp N r (am_u I 122 x1.toNatClampNeg ((I 122 x1.toNatClampNeg) ||| ((nI 1) <<< (x2 &&& nI 31)))) J) (fun v h => am_V d Q 229 131 [some (.ref 93), some (.int x1), some (.int x2), some (.int x3), some (.int x4), some (.int x5)] [] h)))) :=
  (am_V_un (fun p => Nat.beq p 35 || Nat.beq p 54 || Nat.beq p 72 || Nat.beq p 80 || Nat.beq p 91 || Nat.beq p 104 || Nat.beq p 108 || Nat.beq p 131) 18).trans rfl
set_option maxRecDepth 100000 in
theorem e_M_walks_131 {d : Nat} {Q : Value → am_H → Prop} {N : Nat} {I : Nat → Nat → Int32} {J : Nat → Nat → Int64} {x1 : Int32} {x2 : Int32} {x3 : Int32} {x4 : Int32} {x5 : Int32} {r : am_rho} : am_V d Q 229 131 [some (.ref 93), some (.int x1), some (.int x2), some (.int x3), some (.int x4), some (.int x5)] [] (am_hp N r I J) =
    Q .null (am_hp N r I J) :=
  (am_V_un (fun p => Nat.beq p 35 || Nat.beq p 54 || Nat.beq p 72 || Nat.beq p 80 || Nat.beq p 91 || Nat.beq p 104 || Nat.beq p 108 || Nat.beq p 131) 3).trans rfl
set_option maxRecDepth 100000 in
theorem e_M_passes {d : Nat} {Q : Value → am_H → Prop} {N : Nat} {I : Nat → Nat → Int32} {J : Nat → Nat → Int64} {x1 : Int32} {x2 : Int32} {r : am_rho} : am_D (d + 1) 230 [.ref 93, .int x1, .int x2] (am_hp N r I J) Q =
    am_V d Q 230 2 [some (.ref 93), some (.int x1), some (.int x2), some (.int (nI 0))] [] (am_hp N r I J) :=
  (am_D_un rfl (fun p => Nat.beq p 2 || Nat.beq p 43) 4).trans rfl
set_option maxRecDepth 100000 in
theorem e_M_passes_2 {d : Nat} {Q : Value → am_H → Prop} {N : Nat} {I : Nat → Nat → Int32} {J : Nat → Nat → Int64} {x1 : Int32} {x2 : Int32} {x3 : Int32} {r : am_rho} : am_V d Q 230 2 [some (.ref 93), some (.int x1), some (.int x2), some (.int x3)] [] (am_hp N r I J) =
    am_if (decide ((I 95 2) ≤ x3)) (Q .null (am_hp N r I J)) (am_g (am_inb x1 23) (am_if (!(decide ((((I 122 x1.toNatClampNeg) >>> (x3 &&& nI 31)) &&& (nI 1)) = (nI 0)))) (am_V d Q 230 43 [some (.ref 93), some (.int x1), some (.int x2), some (.int x3)] [] (am_hp N r I J)) (am_if (!(decide ((((I 93 58) >>> (x3 &&& nI 31)) &&& (nI 1)) = (nI 0)))) (am_V d Q 230 43 [some (.ref 93), some (.int x1), some (.int x2), some (.int x3)] [] (am_hp N r I J)) (am_D d 229 [.ref 93, .int x1, .int x3, .int x2] (am_hp N r I J) (fun v h => am_V d Q 230 43 [some (.ref 93), some (.int x1), some (.int x2), some (.int x3)] [] h))))) :=
  (am_V_un (fun p => Nat.beq p 2 || Nat.beq p 43) 29).trans rfl
set_option maxRecDepth 100000 in
theorem e_M_passes_43 {d : Nat} {Q : Value → am_H → Prop} {N : Nat} {I : Nat → Nat → Int32} {J : Nat → Nat → Int64} {x1 : Int32} {x2 : Int32} {x3 : Int32} {r : am_rho} : am_V d Q 230 43 [some (.ref 93), some (.int x1), some (.int x2), some (.int x3)] [] (am_hp N r I J) =
    am_V d Q 230 2 [some (.ref 93), some (.int x1), some (.int x2), some (.int (x3 + (nI 1)))] [] (am_hp N r I J) :=
  (am_V_un (fun p => Nat.beq p 2 || Nat.beq p 43) 4).trans rfl
set_option maxRecDepth 100000 in
theorem e_M_ends {d : Nat} {Q : Value → am_H → Prop} {N : Nat} {I : Nat → Nat → Int32} {J : Nat → Nat → Int64} {x1 : Int32} {r : am_rho} : am_D (d + 1) 231 [.ref 93, .int x1] (am_hp N r I J) Q =
    am_g (am_inb x1 23) (am_g (am_inb x1 23) (am_g (am_inb x1 23) (am_if (decide (((nI 12) : Int32) ≤ ((am_u I 118 x1.toNatClampNeg ((I 118 x1.toNatClampNeg) + (nI 1))) 118 x1.toNatClampNeg))) (am_V d Q 231 24 [some (.ref 93), some (.int x1), some (.int (nI 0))] [] (am_hp N r (am_u I 118 x1.toNatClampNeg ((I 118 x1.toNatClampNeg) + (nI 1))) J)) (Q .null (am_hp N r (am_u I 118 x1.toNatClampNeg ((I 118 x1.toNatClampNeg) + (nI 1))) J))))) :=
  (am_D_un rfl (fun p => Nat.beq p 24 || Nat.beq p 50) 18).trans rfl
set_option maxRecDepth 100000 in
theorem e_M_ends_24 {d : Nat} {Q : Value → am_H → Prop} {N : Nat} {I : Nat → Nat → Int32} {J : Nat → Nat → Int64} {x1 : Int32} {x2 : Int32} {r : am_rho} : am_V d Q 231 24 [some (.ref 93), some (.int x1), some (.int x2)] [] (am_hp N r I J) =
    am_if (decide ((I 95 2) ≤ x2)) (am_g (am_inb x1 23) (am_g (am_inb x1 23) (am_g (am_inb x1 23) (am_g (am_inb x1 23) (Q .null (am_hp N r (am_u (am_u (am_u I 122 x1.toNatClampNeg (nI 0)) 118 x1.toNatClampNeg (nI 0)) 119 x1.toNatClampNeg (((am_u (am_u I 122 x1.toNatClampNeg (nI 0)) 118 x1.toNatClampNeg (nI 0)) 119 x1.toNatClampNeg) + (nI 1))) J)))))) (am_g (am_inb (((nI 5) * x1) + x2) 115) (am_D d 226 [.ref 93, .int x1, .int x2, .int (I 123 (((nI 5) * x1) + x2).toNatClampNeg)] (am_hp N r I J) (fun v h => am_V d Q 231 50 [some (.ref 93), some (.int x1), some (.int x2)] [] h))) :=
  (am_V_un (fun p => Nat.beq p 24 || Nat.beq p 50) 27).trans rfl
set_option maxRecDepth 100000 in
theorem e_M_ends_50 {d : Nat} {Q : Value → am_H → Prop} {N : Nat} {I : Nat → Nat → Int32} {J : Nat → Nat → Int64} {x1 : Int32} {x2 : Int32} {r : am_rho} : am_V d Q 231 50 [some (.ref 93), some (.int x1), some (.int x2)] [] (am_hp N r I J) =
    am_g (am_inb x2 10) (am_g (am_inb (((nI 5) * x1) + x2) 115) (am_V d Q 231 24 [some (.ref 93), some (.int x1), some (.int (x2 + (nI 1)))] [] (am_hp N r (am_u I 123 (((nI 5) * x1) + x2).toNatClampNeg (I 104 x2.toNatClampNeg)) J))) :=
  (am_V_un (fun p => Nat.beq p 24 || Nat.beq p 50) 16).trans rfl
set_option maxRecDepth 100000 in
theorem e_M_tonight {d : Nat} {Q : Value → am_H → Prop} {N : Nat} {I : Nat → Nat → Int32} {J : Nat → Nat → Int64} {r : am_rho} : am_D (d + 1) 232 [.ref 93] (am_hp N r I J) Q =
    am_D d 205 [.ref 93, .int (nI 1), .int (nI 0)] (am_hp N r I J) (fun v h => am_V d Q 232 6 [some (.ref 93)] [] h) :=
  (am_D_un rfl (fun p => Nat.beq p 6 || Nat.beq p 10) 6).trans rfl
set_option maxRecDepth 100000 in
theorem e_M_tonight_6 {d : Nat} {Q : Value → am_H → Prop} {N : Nat} {I : Nat → Nat → Int32} {J : Nat → Nat → Int64} {r : am_rho} : am_V d Q 232 6 [some (.ref 93)] [] (am_hp N r I J) =
    am_D d 233 [.ref 93] (am_hp N r I J) (fun v h => am_V d Q 232 10 [some (.ref 93)] [] h) :=
  (am_V_un (fun p => Nat.beq p 6 || Nat.beq p 10) 4).trans rfl
set_option maxRecDepth 100000 in
theorem e_M_tonight_10 {d : Nat} {Q : Value → am_H → Prop} {N : Nat} {I : Nat → Nat → Int32} {J : Nat → Nat → Int64} {r : am_rho} : am_V d Q 232 10 [some (.ref 93)] [] (am_hp N r I J) =
    Q .null (am_hp N r I J) :=
  (am_V_un (fun p => Nat.beq p 6 || Nat.beq p 10) 3).trans rfl
set_option maxRecDepth 100000 in
theorem e_M_goesThrough {d : Nat} {Q : Value → am_H → Prop} {N : Nat} {I : Nat → Nat → Int32} {J : Nat → Nat → Int64} {r : am_rho} : am_D (d + 1) 233 [.ref 93] (am_hp N r I J) Q =
    am_D d 210 [.ref 93] (am_hp N r I J) (fun v h => am_V d Q 233 4 [some (.ref 93), none, none] [] h) :=
  (am_D_un rfl (fun p => Nat.beq p 4 || Nat.beq p 11 || Nat.beq p 30 || Nat.beq p 32) 4).trans rfl
set_option maxRecDepth 100000 in
theorem e_M_goesThrough_4 {d : Nat} {Q : Value → am_H → Prop} {N : Nat} {I : Nat → Nat → Int32} {J : Nat → Nat → Int64} {r : am_rho} : am_V d Q 233 4 [some (.ref 93), none, none] [] (am_hp N r I J) =
    am_V d Q 233 11 [some (.ref 93), some (.int (I 118 1)), am_oi none] [] (am_hp N r I J) :=
  (am_V_un (fun p => Nat.beq p 4 || Nat.beq p 11 || Nat.beq p 30 || Nat.beq p 32) 7).trans rfl
set_option maxRecDepth 100000 in
theorem e_M_goesThrough_11 {d : Nat} {Q : Value → am_H → Prop} {N : Nat} {I : Nat → Nat → Int32} {J : Nat → Nat → Int64} {x1 : Int32} {o2 : Option Int32} {r : am_rho} : am_V d Q 233 11 [some (.ref 93), some (.int x1), am_oi o2] [] (am_hp N r I J) =
    am_if (decide (((nI 12) : Int32) ≤ x1)) (Q .null (am_hp N r I J)) (am_D d 230 [.ref 93, .int (nI 1), .int (nI 0)] (am_hp N r (am_u I 118 1 x1) J) (fun v h => am_V d Q 233 30 [some (.ref 93), some (.int x1), am_oi o2] [] h)) :=
  (am_V_un (fun p => Nat.beq p 4 || Nat.beq p 11 || Nat.beq p 30 || Nat.beq p 32) 14).trans rfl
set_option maxRecDepth 100000 in
theorem e_M_goesThrough_30 {d : Nat} {Q : Value → am_H → Prop} {N : Nat} {I : Nat → Nat → Int32} {J : Nat → Nat → Int64} {x1 : Int32} {o2 : Option Int32} {r : am_rho} : am_V d Q 233 30 [some (.ref 93), some (.int x1), am_oi o2] [] (am_hp N r I J) =
    am_V d Q 233 32 [some (.ref 93), some (.int x1), some (.int (nI 0))] [] (am_hp N r I J) :=
  (am_V_un (fun p => Nat.beq p 4 || Nat.beq p 11 || Nat.beq p 30 || Nat.beq p 32) 4).trans rfl
set_option maxRecDepth 100000 in
theorem e_M_goesThrough_32 {d : Nat} {Q : Value → am_H → Prop} {N : Nat} {I : Nat → Nat → Int32} {J : Nat → Nat → Int64} {x1 : Int32} {x2 : Int32} {r : am_rho} : am_V d Q 233 32 [some (.ref 93), some (.int x1), some (.int x2)] [] (am_hp N r I J) =
    am_if (decide ((I 95 2) ≤ x2)) (am_V d Q 233 11 [some (.ref 93), some (.int (x1 + (nI 1))), am_oi (some x2)] [] (am_hp N r I J)) (am_g (am_inb ((nI 5) + x2) 115) (am_g (am_inb (((nI 12) * x2) + x1) 60) (am_V d Q 233 32 [some (.ref 93), some (.int x1), some (.int (x2 + (nI 1)))] [] (am_hp N r (am_u I 129 (((nI 12) * x2) + x1).toNatClampNeg (I 123 ((nI 5) + x2).toNatClampNeg)) J)))) :=
  (am_V_un (fun p => Nat.beq p 4 || Nat.beq p 11 || Nat.beq p 30 || Nat.beq p 32) 24).trans rfl
set_option maxRecDepth 100000 in
theorem e_M_arrived {d : Nat} {Q : Value → am_H → Prop} {N : Nat} {I : Nat → Nat → Int32} {J : Nat → Nat → Int64} {x1 : Int32} {r : am_rho} : am_D (d + 1) 234 [.ref 93, .int x1] (am_hp N r I J) Q =
    am_V d Q 234 4 [some (.ref 93), some (.int x1), some (.int (nI 0)), some (.int (nI 0))] [] (am_hp N r I J) :=
  (am_D_un rfl (fun p => Nat.beq p 4) 6).trans rfl
set_option maxRecDepth 100000 in
theorem e_M_arrived_4 {d : Nat} {Q : Value → am_H → Prop} {N : Nat} {I : Nat → Nat → Int32} {J : Nat → Nat → Int64} {x1 : Int32} {x2 : Int32} {x3 : Int32} {r : am_rho} : am_V d Q 234 4 [some (.ref 93), some (.int x1), some (.int x2), some (.int x3)] [] (am_hp N r I J) =
    am_if (decide ((I 95 3) ≤ x3)) (Q (.int x2) (am_hp N r I J)) (am_g (am_inb (((nI 8) * x1) + x3) 184) (am_if (!(decide ((I 124 (((nI 8) * x1) + x3).toNatClampNeg) = (nI 2)))) (am_V d Q 234 4 [some (.ref 93), some (.int x1), some (.int (x2 + (nI 0))), some (.int (x3 + (nI 1)))] [] (am_hp N r I J)) (am_V d Q 234 4 [some (.ref 93), some (.int x1), some (.int (x2 + (nI 1))), some (.int (x3 + (nI 1)))] [] (am_hp N r I J)))) :=
  (am_V_un (fun p => Nat.beq p 4) 25).trans rfl
set_option maxRecDepth 100000 in
theorem e_M_look {d : Nat} {Q : Value → am_H → Prop} {N : Nat} {I : Nat → Nat → Int32} {J : Nat → Nat → Int64} {x1 : Int32} {x2 : Int32} {r : am_rho} : am_D (d + 1) 235 [.ref 93, .int x1, .int x2] (am_hp N r I J) Q =
    am_D d 207 [.ref 93, .int x1] (am_hp N r I J) (fun v h => am_asI v (fun y => am_V d Q 235 6 [some (.ref 93), some (.int x1), some (.int x2)] [.int y, .ref 93] h)) :=
  (am_D_un rfl (fun p => Nat.beq p 6 || Nat.beq p 121) 6).trans rfl
set_option maxRecDepth 100000 in
theorem e_M_look_6 {d : Nat} {Q : Value → am_H → Prop} {N : Nat} {I : Nat → Nat → Int32} {J : Nat → Nat → Int64} {x1 : Int32} {x2 : Int32} {y1 : Int32} {r : am_rho} : am_V d Q 235 6 [some (.ref 93), some (.int x1), some (.int x2)] [.int y1, .ref 93] (am_hp N r I J) =
    am_if (!(decide (y1 = (nI 0)))) (am_if (decide (x2 < (nI 0))) (am_if (decide (((am_u I 93 0 (nI 2)) 93 0) = (nI 0))) (am_if (decide (x2 = (nI 0))) (am_g (am_inb x1 115) (Q (.int ((am_u I 93 0 (nI 2)) 123 x1.toNatClampNeg)) (am_hp N r (am_u I 93 0 (nI 2)) J))) (am_if (decide (x2 = (nI 1))) (am_g (am_inb x1 10) (Q (.int ((am_u I 93 0 (nI 2)) 104 x1.toNatClampNeg)) (am_hp N r (am_u I 93 0 (nI 2)) J))) (am_if (decide (x2 = (nI 2))) (am_g (am_inb x1 10) (Q (.int ((am_u I 93 0 (nI 2)) 106 x1.toNatClampNeg)) (am_hp N r (am_u I 93 0 (nI 2)) J))) (am_if (decide (x2 = (nI 3))) (am_g (am_inb x1 10) (Q (.int ((am_u I 93 0 (nI 2)) 105 x1.toNatClampNeg)) (am_hp N r (am_u I 93 0 (nI 2)) J))) (am_if (decide (x2 = (nI 4))) (Q (.int ((((am_u I 93 0 (nI 2)) 122 0) >>> (x1 &&& nI 31)) &&& (nI 1))) (am_hp N r (am_u I 93 0 (nI 2)) J)) (am_D d 215 [.ref 93, .int (nI 0), .int x1] (am_hp N r (am_u I 93 0 (nI 2)) J) (fun v h => am_asI v (fun y => am_V d Q 235 121 [some (.ref 93), some (.int x1), some (.int x2)] [.int y] h)))))))) (Q (.int (nI 0)) (am_hp N r (am_u I 93 0 (nI 2)) J))) (am_if (decide (x2 ≤ (nI 5))) (am_if (decide (((am_u I 93 0 (nI 0)) 93 0) = (nI 0))) (am_if (decide (x2 = (nI 0))) (am_g (am_inb x1 115) (Q (.int ((am_u I 93 0 (nI 0)) 123 x1.toNatClampNeg)) (am_hp N r (am_u I 93 0 (nI 0)) J))) (am_if (decide (x2 = (nI 1))) (am_g (am_inb x1 10) (Q (.int ((am_u I 93 0 (nI 0)) 104 x1.toNatClampNeg)) (am_hp N r (am_u I 93 0 (nI 0)) J))) (am_if (decide (x2 = (nI 2))) (am_g (am_inb x1 10) (Q (.int ((am_u I 93 0 (nI 0)) 106 x1.toNatClampNeg)) (am_hp N r (am_u I 93 0 (nI 0)) J))) (am_if (decide (x2 = (nI 3))) (am_g (am_inb x1 10) (Q (.int ((am_u I 93 0 (nI 0)) 105 x1.toNatClampNeg)) (am_hp N r (am_u I 93 0 (nI 0)) J))) (am_if (decide (x2 = (nI 4))) (Q (.int ((((am_u I 93 0 (nI 0)) 122 0) >>> (x1 &&& nI 31)) &&& (nI 1))) (am_hp N r (am_u I 93 0 (nI 0)) J)) (am_D d 215 [.ref 93, .int (nI 0), .int x1] (am_hp N r (am_u I 93 0 (nI 0)) J) (fun v h => am_asI v (fun y => am_V d Q 235 121 [some (.ref 93), some (.int x1), some (.int x2)] [.int y] h)))))))) (Q (.int (nI 0)) (am_hp N r (am_u I 93 0 (nI 0)) J))) (am_if (decide (((am_u I 93 0 (nI 2)) 93 0) = (nI 0))) (am_if (decide (x2 = (nI 0))) (am_g (am_inb x1 115) (Q (.int ((am_u I 93 0 (nI 2)) 123 x1.toNatClampNeg)) (am_hp N r (am_u I 93 0 (nI 2)) J))) (am_if (decide (x2 = (nI 1))) (am_g (am_inb x1 10) (Q (.int ((am_u I 93 0 (nI 2)) 104 x1.toNatClampNeg)) (am_hp N r (am_u I 93 0 (nI 2)) J))) (am_if (decide (x2 = (nI 2))) (am_g (am_inb x1 10) (Q (.int ((am_u I 93 0 (nI 2)) 106 x1.toNatClampNeg)) (am_hp N r (am_u I 93 0 (nI 2)) J))) (am_if (decide (x2 = (nI 3))) (am_g (am_inb x1 10) (Q (.int ((am_u I 93 0 (nI 2)) 105 x1.toNatClampNeg)) (am_hp N r (am_u I 93 0 (nI 2)) J))) (am_if (decide (x2 = (nI 4))) (Q (.int ((((am_u I 93 0 (nI 2)) 122 0) >>> (x1 &&& nI 31)) &&& (nI 1))) (am_hp N r (am_u I 93 0 (nI 2)) J)) (am_D d 215 [.ref 93, .int (nI 0), .int x1] (am_hp N r (am_u I 93 0 (nI 2)) J) (fun v h => am_asI v (fun y => am_V d Q 235 121 [some (.ref 93), some (.int x1), some (.int x2)] [.int y] h)))))))) (Q (.int (nI 0)) (am_hp N r (am_u I 93 0 (nI 2)) J))))) (am_if (decide (((am_u I 93 0 (nI 1)) 93 0) = (nI 0))) (am_if (decide (x2 = (nI 0))) (am_g (am_inb x1 115) (Q (.int ((am_u I 93 0 (nI 1)) 123 x1.toNatClampNeg)) (am_hp N r (am_u I 93 0 (nI 1)) J))) (am_if (decide (x2 = (nI 1))) (am_g (am_inb x1 10) (Q (.int ((am_u I 93 0 (nI 1)) 104 x1.toNatClampNeg)) (am_hp N r (am_u I 93 0 (nI 1)) J))) (am_if (decide (x2 = (nI 2))) (am_g (am_inb x1 10) (Q (.int ((am_u I 93 0 (nI 1)) 106 x1.toNatClampNeg)) (am_hp N r (am_u I 93 0 (nI 1)) J))) (am_if (decide (x2 = (nI 3))) (am_g (am_inb x1 10) (Q (.int ((am_u I 93 0 (nI 1)) 105 x1.toNatClampNeg)) (am_hp N r (am_u I 93 0 (nI 1)) J))) (am_if (decide (x2 = (nI 4))) (Q (.int ((((am_u I 93 0 (nI 1)) 122 0) >>> (x1 &&& nI 31)) &&& (nI 1))) (am_hp N r (am_u I 93 0 (nI 1)) J)) (am_D d 215 [.ref 93, .int (nI 0), .int x1] (am_hp N r (am_u I 93 0 (nI 1)) J) (fun v h => am_asI v (fun y => am_V d Q 235 121 [some (.ref 93), some (.int x1), some (.int x2)] [.int y] h)))))))) (Q (.int (nI 0)) (am_hp N r (am_u I 93 0 (nI 1)) J))) :=
  (am_V_un (fun p => Nat.beq p 6 || Nat.beq p 121) 25).trans rfl
set_option maxRecDepth 100000 in
theorem e_M_look_121 {d : Nat} {Q : Value → am_H → Prop} {N : Nat} {I : Nat → Nat → Int32} {J : Nat → Nat → Int64} {x1 : Int32} {x2 : Int32} {y0 : Int32} {r : am_rho} : am_V d Q 235 121 [some (.ref 93), some (.int x1), some (.int x2)] [.int y0] (am_hp N r I J) =
    Q (.int y0) (am_hp N r I J) :=
  (am_V_un (fun p => Nat.beq p 6 || Nat.beq p 121) 3).trans rfl
set_option maxRecDepth 100000 in
theorem e_M_letter {d : Nat} {Q : Value → am_H → Prop} {N : Nat} {I : Nat → Nat → Int32} {J : Nat → Nat → Int64} {x1 : Int32} {x2 : Int32} {r : am_rho} : am_D (d + 1) 236 [.ref 93, .int x1, .int x2] (am_hp N r I J) Q =
    am_D d 208 [.ref 93, .int x1] (am_hp N r (am_u I 93 0 (nI 0)) J) (fun v h => am_asI v (fun y => am_V d Q 236 10 [some (.ref 93), some (.int x1), some (.int x2)] [.int y] h)) :=
  (am_D_un rfl (fun p => Nat.beq p 10) 8).trans rfl
set_option maxRecDepth 100000 in
theorem e_M_letter_10 {d : Nat} {Q : Value → am_H → Prop} {N : Nat} {I : Nat → Nat → Int32} {J : Nat → Nat → Int64} {x1 : Int32} {x2 : Int32} {y0 : Int32} {r : am_rho} : am_V d Q 236 10 [some (.ref 93), some (.int x1), some (.int x2)] [.int y0] (am_hp N r I J) =
    am_if (!(decide (y0 = (nI 0)))) (am_if (!(decide (x2 = (nI 0)))) (am_if (!(decide (x2 = (nI 1)))) (am_if (!(decide (x2 = (nI 2)))) (am_if (!(decide (x2 = (nI 3)))) (Q (.int (-nI 1)) (am_hp N r I J)) (am_g (am_inb x1 184) (Q (.int (I 126 x1.toNatClampNeg)) (am_hp N r I J)))) (am_g (am_inb x1 184) (Q (.int (I 124 x1.toNatClampNeg)) (am_hp N r I J)))) (am_g (am_inb x1 184) (Q (.int (I 125 x1.toNatClampNeg)) (am_hp N r I J)))) (am_g (am_inb x1 16) (Q (.int (I 108 x1.toNatClampNeg)) (am_hp N r I J)))) (Q (.int (-nI 1)) (am_hp N r I J)) :=
  (am_V_un (fun p => Nat.beq p 10) 20).trans rfl
set_option maxRecDepth 100000 in
theorem e_M_far {d : Nat} {Q : Value → am_H → Prop} {N : Nat} {I : Nat → Nat → Int32} {J : Nat → Nat → Int64} {x1 : Int32} {x2 : Int32} {r : am_rho} : am_D (d + 1) 237 [.ref 93, .int x1, .int x2] (am_hp N r I J) Q =
    am_D d 206 [.ref 93, .int x1] (am_hp N r (am_u I 93 0 (nI 0)) J) (fun v h => am_asI v (fun y => am_V d Q 237 10 [some (.ref 93), some (.int x1), some (.int x2)] [.int y] h)) :=
  (am_D_un rfl (fun p => Nat.beq p 10 || Nat.beq p 18 || Nat.beq p 27) 8).trans rfl
set_option maxRecDepth 100000 in
theorem e_M_far_10 {d : Nat} {Q : Value → am_H → Prop} {N : Nat} {I : Nat → Nat → Int32} {J : Nat → Nat → Int64} {x1 : Int32} {x2 : Int32} {y0 : Int32} {r : am_rho} : am_V d Q 237 10 [some (.ref 93), some (.int x1), some (.int x2)] [.int y0] (am_hp N r I J) =
    am_if (decide (y0 = (nI 0))) (Q (.int (-nI 1)) (am_hp N r I J)) (am_D d 206 [.ref 93, .int x2] (am_hp N r I J) (fun v h => am_asI v (fun y => am_V d Q 237 18 [some (.ref 93), some (.int x1), some (.int x2)] [.int y] h))) :=
  (am_V_un (fun p => Nat.beq p 10 || Nat.beq p 18 || Nat.beq p 27) 6).trans rfl
set_option maxRecDepth 100000 in
theorem e_M_far_18 {d : Nat} {Q : Value → am_H → Prop} {N : Nat} {I : Nat → Nat → Int32} {J : Nat → Nat → Int64} {x1 : Int32} {x2 : Int32} {y0 : Int32} {r : am_rho} : am_V d Q 237 18 [some (.ref 93), some (.int x1), some (.int x2)] [.int y0] (am_hp N r I J) =
    am_if (!(decide (y0 = (nI 0)))) (am_D d 210 [.ref 93] (am_hp N r I J) (fun v h => am_V d Q 237 27 [some (.ref 93), some (.int x1), some (.int x2)] [] h)) (Q (.int (-nI 1)) (am_hp N r I J)) :=
  (am_V_un (fun p => Nat.beq p 10 || Nat.beq p 18 || Nat.beq p 27) 5).trans rfl
set_option maxRecDepth 100000 in
theorem e_M_far_27 {d : Nat} {Q : Value → am_H → Prop} {N : Nat} {I : Nat → Nat → Int32} {J : Nat → Nat → Int64} {x1 : Int32} {x2 : Int32} {r : am_rho} : am_V d Q 237 27 [some (.ref 93), some (.int x1), some (.int x2)] [] (am_hp N r I J) =
    am_g (am_inb (((nI 8) * x1) + x2) 64) (Q (.int (I 128 (((nI 8) * x1) + x2).toNatClampNeg)) (am_hp N r I J)) :=
  (am_V_un (fun p => Nat.beq p 10 || Nat.beq p 18 || Nat.beq p 27) 11).trans rfl
set_option maxRecDepth 100000 in
theorem e_M_at {d : Nat} {Q : Value → am_H → Prop} {N : Nat} {I : Nat → Nat → Int32} {J : Nat → Nat → Int64} {x1 : Int32} {x2 : Int32} {x3 : Int32} {r : am_rho} : am_D (d + 1) 238 [.ref 93, .int x1, .int x2, .int x3] (am_hp N r I J) Q =
    am_D d 206 [.ref 93, .int x1] (am_hp N r (am_u I 93 0 (nI 0)) J) (fun v h => am_asI v (fun y => am_V d Q 238 10 [some (.ref 93), some (.int x1), some (.int x2), some (.int x3)] [.int y] h)) :=
  (am_D_un rfl (fun p => Nat.beq p 10 || Nat.beq p 45 || Nat.beq p 54) 8).trans rfl
set_option maxRecDepth 100000 in
theorem e_M_at_10 {d : Nat} {Q : Value → am_H → Prop} {N : Nat} {I : Nat → Nat → Int32} {J : Nat → Nat → Int64} {x1 : Int32} {x2 : Int32} {x3 : Int32} {y0 : Int32} {r : am_rho} : am_V d Q 238 10 [some (.ref 93), some (.int x1), some (.int x2), some (.int x3)] [.int y0] (am_hp N r I J) =
    am_if (decide (y0 = (nI 0))) (Q (.int (-nI 1)) (am_hp N r I J)) (am_if (decide (x2 < (nI 0))) (Q (.int (-nI 1)) (am_hp N r I J)) (am_if (decide (((nI 12) : Int32) ≤ x2)) (Q (.int (-nI 1)) (am_hp N r I J)) (am_if (decide (x3 < (nI 0))) (Q (.int (-nI 1)) (am_hp N r I J)) (am_if (decide (x3 ≤ (nI 1))) (am_if (!(decide (x3 = (nI 0)))) (am_D d 214 [.ref 93, .int (nI 0), .int x1] (am_hp N r I J) (fun v h => am_asI v (fun y => am_V d Q 238 54 [some (.ref 93), some (.int x1), some (.int x2), some (.int x3)] [.int y] h))) (am_D d 213 [.ref 93, .int (nI 0), .int x1, .int x2] (am_hp N r I J) (fun v h => am_asI v (fun y => am_V d Q 238 45 [some (.ref 93), some (.int x1), some (.int x2), some (.int x3)] [.int y] h)))) (Q (.int (-nI 1)) (am_hp N r I J)))))) :=
  (am_V_un (fun p => Nat.beq p 10 || Nat.beq p 45 || Nat.beq p 54) 20).trans rfl
set_option maxRecDepth 100000 in
theorem e_M_at_45 {d : Nat} {Q : Value → am_H → Prop} {N : Nat} {I : Nat → Nat → Int32} {J : Nat → Nat → Int64} {x1 : Int32} {x2 : Int32} {x3 : Int32} {y0 : Int32} {r : am_rho} : am_V d Q 238 45 [some (.ref 93), some (.int x1), some (.int x2), some (.int x3)] [.int y0] (am_hp N r I J) =
    am_V d Q 238 54 [some (.ref 93), some (.int x1), some (.int x2), some (.int x3)] [.int y0] (am_hp N r I J) :=
  (am_V_un (fun p => Nat.beq p 10 || Nat.beq p 45 || Nat.beq p 54) 3).trans rfl
set_option maxRecDepth 100000 in
theorem e_M_at_54 {d : Nat} {Q : Value → am_H → Prop} {N : Nat} {I : Nat → Nat → Int32} {J : Nat → Nat → Int64} {x1 : Int32} {x2 : Int32} {x3 : Int32} {y0 : Int32} {r : am_rho} : am_V d Q 238 54 [some (.ref 93), some (.int x1), some (.int x2), some (.int x3)] [.int y0] (am_hp N r I J) =
    Q (.int y0) (am_hp N r I J) :=
  (am_V_un (fun p => Nat.beq p 10 || Nat.beq p 45 || Nat.beq p 54) 3).trans rfl
set_option maxRecDepth 100000 in
theorem e_M_law {d : Nat} {Q : Value → am_H → Prop} {N : Nat} {I : Nat → Nat → Int32} {J : Nat → Nat → Int64} {x1 : Int32} {x2 : Int32} {x3 : Int32} {r : am_rho} : am_D (d + 1) 239 [.ref 93, .int x1, .int x2, .int x3] (am_hp N r I J) Q =
    am_if (decide (x1 < (nI 0))) (Q (.long (Int64.ofNat 9223372036854775808)) (am_hp N r (am_u I 93 0 (nI 0)) J)) (am_if (decide (((nI 2) : Int32) < x1)) (Q (.long (Int64.ofNat 9223372036854775808)) (am_hp N r (am_u I 93 0 (nI 0)) J)) (am_D d 202 [.ref 93, .int x1] (am_hp N r (am_u I 93 0 (nI 0)) J) (fun v h => am_asI v (fun y => am_V d Q 239 19 [some (.ref 93), some (.int x1), some (.int x2), some (.int x3)] [.int y] h)))) :=
  (am_D_un rfl (fun p => Nat.beq p 19 || Nat.beq p 27 || Nat.beq p 35 || Nat.beq p 46 || Nat.beq p 75 || Nat.beq p 82 || Nat.beq p 87) 13).trans rfl
set_option maxRecDepth 100000 in
theorem e_M_law_19 {d : Nat} {Q : Value → am_H → Prop} {N : Nat} {I : Nat → Nat → Int32} {J : Nat → Nat → Int64} {x1 : Int32} {x2 : Int32} {x3 : Int32} {y0 : Int32} {r : am_rho} : am_V d Q 239 19 [some (.ref 93), some (.int x1), some (.int x2), some (.int x3)] [.int y0] (am_hp N r I J) =
    am_if (decide (y0 = (nI 0))) (Q (.long (Int64.ofNat 9223372036854775808)) (am_hp N r I J)) (am_D d 207 [.ref 93, .int x2] (am_hp N r I J) (fun v h => am_asI v (fun y => am_V d Q 239 27 [some (.ref 93), some (.int x1), some (.int x2), some (.int x3)] [.int y] h))) :=
  (am_V_un (fun p => Nat.beq p 19 || Nat.beq p 27 || Nat.beq p 35 || Nat.beq p 46 || Nat.beq p 75 || Nat.beq p 82 || Nat.beq p 87) 6).trans rfl
set_option maxRecDepth 100000 in
theorem e_M_law_27 {d : Nat} {Q : Value → am_H → Prop} {N : Nat} {I : Nat → Nat → Int32} {J : Nat → Nat → Int64} {x1 : Int32} {x2 : Int32} {x3 : Int32} {y0 : Int32} {r : am_rho} : am_V d Q 239 27 [some (.ref 93), some (.int x1), some (.int x2), some (.int x3)] [.int y0] (am_hp N r I J) =
    am_if (decide (y0 = (nI 0))) (Q (.long (Int64.ofNat 9223372036854775808)) (am_hp N r I J)) (am_D d 206 [.ref 93, .int x3] (am_hp N r I J) (fun v h => am_asI v (fun y => am_V d Q 239 35 [some (.ref 93), some (.int x1), some (.int x2), some (.int x3)] [.int y] h))) :=
  (am_V_un (fun p => Nat.beq p 19 || Nat.beq p 27 || Nat.beq p 35 || Nat.beq p 46 || Nat.beq p 75 || Nat.beq p 82 || Nat.beq p 87) 6).trans rfl
set_option maxRecDepth 100000 in
theorem e_M_law_35 {d : Nat} {Q : Value → am_H → Prop} {N : Nat} {I : Nat → Nat → Int32} {J : Nat → Nat → Int64} {x1 : Int32} {x2 : Int32} {x3 : Int32} {y0 : Int32} {r : am_rho} : am_V d Q 239 35 [some (.ref 93), some (.int x1), some (.int x2), some (.int x3)] [.int y0] (am_hp N r I J) =
    am_if (!(decide (y0 = (nI 0)))) (am_D d 210 [.ref 93] (am_hp N r I J) (fun v h => am_V d Q 239 46 [some (.ref 93), some (.int x1), some (.int x2), some (.int x3)] [] h)) (Q (.long (Int64.ofNat 9223372036854775808)) (am_hp N r I J)) :=
  (am_V_un (fun p => Nat.beq p 19 || Nat.beq p 27 || Nat.beq p 35 || Nat.beq p 46 || Nat.beq p 75 || Nat.beq p 82 || Nat.beq p 87) 5).trans rfl
set_option maxRecDepth 100000 in
theorem e_M_law_46 {d : Nat} {Q : Value → am_H → Prop} {N : Nat} {I : Nat → Nat → Int32} {J : Nat → Nat → Int64} {x1 : Int32} {x2 : Int32} {x3 : Int32} {r : am_rho} : am_V d Q 239 46 [some (.ref 93), some (.int x1), some (.int x2), some (.int x3)] [] (am_hp N r I J) =
    am_if (!(decide (x1 = (nI 0)))) (am_D d 219 [.ref 93, .int (nI 0), .int x2, .int x3, .int (nI 0)] (am_hp N r I J) (fun v h => am_V d Q 239 82 [some (.ref 93), some (.int x1), some (.int x2), some (.int x3)] [] h)) (am_g (am_inb x2 115) (am_if (decide ((I 123 x2.toNatClampNeg) = x3)) (am_D d 219 [.ref 93, .int (nI 0), .int x2, .int x3, .int (nI 0)] (am_hp N r I J) (fun v h => am_V d Q 239 82 [some (.ref 93), some (.int x1), some (.int x2), some (.int x3)] [] h)) (am_g (am_inb x2 115) (am_D d 212 [.ref 93, .int (I 123 x2.toNatClampNeg), .int x3] (am_hp N r I J) (fun v h => am_asI v (fun y => am_V d Q 239 75 [some (.ref 93), some (.int x1), some (.int x2), some (.int x3)] [.int y, .int x3, .int x2, .int (nI 0), .ref 93] h)))))) :=
  (am_V_un (fun p => Nat.beq p 19 || Nat.beq p 27 || Nat.beq p 35 || Nat.beq p 46 || Nat.beq p 75 || Nat.beq p 82 || Nat.beq p 87) 21).trans rfl
set_option maxRecDepth 100000 in
theorem e_M_law_75 {d : Nat} {Q : Value → am_H → Prop} {N : Nat} {I : Nat → Nat → Int32} {J : Nat → Nat → Int64} {x1 : Int32} {x2 : Int32} {x3 : Int32} {y1 : Int32} {y2 : Int32} {y3 : Int32} {y4 : Int32} {r : am_rho} : am_V d Q 239 75 [some (.ref 93), some (.int x1), some (.int x2), some (.int x3)] [.int y4, .int y3, .int y2, .int y1, .ref 93] (am_hp N r I J) =
    am_D d 219 [.ref 93, .int y1, .int y2, .int y3, .int y4] (am_hp N r I J) (fun v h => am_V d Q 239 82 [some (.ref 93), some (.int x1), some (.int x2), some (.int x3)] [] h) :=
  (am_V_un (fun p => Nat.beq p 19 || Nat.beq p 27 || Nat.beq p 35 || Nat.beq p 46 || Nat.beq p 75 || Nat.beq p 82 || Nat.beq p 87) 4).trans rfl
set_option maxRecDepth 100000 in
theorem e_M_law_82 {d : Nat} {Q : Value → am_H → Prop} {N : Nat} {I : Nat → Nat → Int32} {J : Nat → Nat → Int64} {x1 : Int32} {x2 : Int32} {x3 : Int32} {r : am_rho} : am_V d Q 239 82 [some (.ref 93), some (.int x1), some (.int x2), some (.int x3)] [] (am_hp N r I J) =
    am_D d 201 [.ref 93, .int x1] (am_hp N r I J) (fun v h => am_asI v (fun y => am_V d Q 239 87 [some (.ref 93), some (.int x1), some (.int x2), some (.int x3)] [.int y] h)) :=
  (am_V_un (fun p => Nat.beq p 19 || Nat.beq p 27 || Nat.beq p 35 || Nat.beq p 46 || Nat.beq p 75 || Nat.beq p 82 || Nat.beq p 87) 5).trans rfl
set_option maxRecDepth 100000 in
theorem e_M_law_87 {d : Nat} {Q : Value → am_H → Prop} {N : Nat} {I : Nat → Nat → Int32} {J : Nat → Nat → Int64} {x1 : Int32} {x2 : Int32} {x3 : Int32} {y0 : Int32} {r : am_rho} : am_V d Q 239 87 [some (.ref 93), some (.int x1), some (.int x2), some (.int x3)] [.int y0] (am_hp N r I J) =
    am_if (decide (y0 = (nI 0))) (Q (.long (Int64.ofNat 9223372036854775808)) (am_hp N r I J)) (Q (.long (J 117 0)) (am_hp N r I J)) :=
  (am_V_un (fun p => Nat.beq p 19 || Nat.beq p 27 || Nat.beq p 35 || Nat.beq p 46 || Nat.beq p 75 || Nat.beq p 82 || Nat.beq p 87) 9).trans rfl
set_option maxRecDepth 100000 in
theorem e_M_keepNow {d : Nat} {Q : Value → am_H → Prop} {N : Nat} {I : Nat → Nat → Int32} {J : Nat → Nat → Int64} {r : am_rho} : am_D (d + 1) 240 [.ref 93] (am_hp N r I J) Q =
    am_if (!(decide ((I 93 51) = (nI 20)))) (am_D d 205 [.ref 93, .int ((nI 3) + (I 93 51)), .int (nI 0)] (am_hp N r I J) (fun v h => am_V d Q 240 56 [some (.ref 93), am_oi none] [] h)) (am_V d Q 240 11 [some (.ref 93), some (.int (nI 1))] [] (am_hp N r I J)) :=
  (am_D_un rfl (fun p => Nat.beq p 11 || Nat.beq p 29 || Nat.beq p 56) 13).trans rfl
set_option maxRecDepth 100000 in
theorem e_M_keepNow_11 {d : Nat} {Q : Value → am_H → Prop} {N : Nat} {I : Nat → Nat → Int32} {J : Nat → Nat → Int64} {x1 : Int32} {r : am_rho} : am_V d Q 240 11 [some (.ref 93), some (.int x1)] [] (am_hp N r I J) =
    am_if (decide (((nI 20) : Int32) ≤ x1)) (am_D d 205 [.ref 93, .int ((nI 3) + ((am_u I 93 51 ((I 93 51) - (nI 1))) 93 51)), .int (nI 0)] (am_hp N r (am_u I 93 51 ((I 93 51) - (nI 1))) J) (fun v h => am_V d Q 240 56 [some (.ref 93), am_oi (some x1)] [] h)) (am_D d 205 [.ref 93, .int (((nI 3) + x1) - (nI 1)), .int ((nI 3) + x1)] (am_hp N r I J) (fun v h => am_V d Q 240 29 [some (.ref 93), some (.int x1)] [] h)) :=
  (am_V_un (fun p => Nat.beq p 11 || Nat.beq p 29 || Nat.beq p 56) 18).trans rfl
set_option maxRecDepth 100000 in
theorem e_M_keepNow_29 {d : Nat} {Q : Value → am_H → Prop} {N : Nat} {I : Nat → Nat → Int32} {J : Nat → Nat → Int64} {x1 : Int32} {r : am_rho} : am_V d Q 240 29 [some (.ref 93), some (.int x1)] [] (am_hp N r I J) =
    am_V d Q 240 11 [some (.ref 93), some (.int (x1 + (nI 1)))] [] (am_hp N r I J) :=
  (am_V_un (fun p => Nat.beq p 11 || Nat.beq p 29 || Nat.beq p 56) 4).trans rfl
set_option maxRecDepth 100000 in
theorem e_M_keepNow_56 {d : Nat} {Q : Value → am_H → Prop} {N : Nat} {I : Nat → Nat → Int32} {J : Nat → Nat → Int64} {o1 : Option Int32} {r : am_rho} : am_V d Q 240 56 [some (.ref 93), am_oi o1] [] (am_hp N r I J) =
    Q .null (am_hp N r (am_u I 93 51 ((I 93 51) + (nI 1))) J) :=
  (am_V_un (fun p => Nat.beq p 11 || Nat.beq p 29 || Nat.beq p 56) 9).trans rfl
set_option maxRecDepth 100000 in
theorem e_M_lay {d : Nat} {Q : Value → am_H → Prop} {N : Nat} {I : Nat → Nat → Int32} {J : Nat → Nat → Int64} {x1 : Int32} {x2 : Int32} {r : am_rho} : am_D (d + 1) 241 [.ref 93, .int x1, .int x2] (am_hp N r I J) Q =
    am_D d 208 [.ref 93, .int x1] (am_hp N r (am_u I 93 0 (nI 0)) J) (fun v h => am_asI v (fun y => am_V d Q 241 10 [some (.ref 93), some (.int x1), some (.int x2)] [.int y] h)) :=
  (am_D_un rfl (fun p => Nat.beq p 10 || Nat.beq p 18 || Nat.beq p 51) 8).trans rfl
set_option maxRecDepth 100000 in
theorem e_M_lay_10 {d : Nat} {Q : Value → am_H → Prop} {N : Nat} {I : Nat → Nat → Int32} {J : Nat → Nat → Int64} {x1 : Int32} {x2 : Int32} {y0 : Int32} {r : am_rho} : am_V d Q 241 10 [some (.ref 93), some (.int x1), some (.int x2)] [.int y0] (am_hp N r I J) =
    am_if (decide (y0 = (nI 0))) (Q (.int (nI 0)) (am_hp N r I J)) (am_D d 207 [.ref 93, .int x2] (am_hp N r I J) (fun v h => am_asI v (fun y => am_V d Q 241 18 [some (.ref 93), some (.int x1), some (.int x2)] [.int y] h))) :=
  (am_V_un (fun p => Nat.beq p 10 || Nat.beq p 18 || Nat.beq p 51) 6).trans rfl
set_option maxRecDepth 100000 in
theorem e_M_lay_18 {d : Nat} {Q : Value → am_H → Prop} {N : Nat} {I : Nat → Nat → Int32} {J : Nat → Nat → Int64} {x1 : Int32} {x2 : Int32} {y0 : Int32} {r : am_rho} : am_V d Q 241 18 [some (.ref 93), some (.int x1), some (.int x2)] [.int y0] (am_hp N r I J) =
    am_if (decide (y0 = (nI 0))) (Q (.int (nI 0)) (am_hp N r I J)) (am_g (am_inb x1 184) (am_if (!(decide ((I 124 x1.toNatClampNeg) = (nI 0)))) (Q (.int (nI 0)) (am_hp N r I J)) (am_g (am_inb x1 184) (am_g (am_inb x2 10) (am_if (!(decide ((I 125 x1.toNatClampNeg) = (I 104 x2.toNatClampNeg)))) (am_D d 240 [.ref 93] (am_hp N r I J) (fun v h => am_V d Q 241 51 [some (.ref 93), some (.int x1), some (.int x2)] [] h)) (Q (.int (nI 0)) (am_hp N r I J))))))) :=
  (am_V_un (fun p => Nat.beq p 10 || Nat.beq p 18 || Nat.beq p 51) 19).trans rfl
set_option maxRecDepth 100000 in
theorem e_M_lay_51 {d : Nat} {Q : Value → am_H → Prop} {N : Nat} {I : Nat → Nat → Int32} {J : Nat → Nat → Int64} {x1 : Int32} {x2 : Int32} {r : am_rho} : am_V d Q 241 51 [some (.ref 93), some (.int x1), some (.int x2)] [] (am_hp N r I J) =
    am_g (am_inb x2 10) (am_g (am_inb x1 184) (Q (.int (nI 1)) (am_hp N r (am_u I 125 x1.toNatClampNeg (I 104 x2.toNatClampNeg)) J))) :=
  (am_V_un (fun p => Nat.beq p 10 || Nat.beq p 18 || Nat.beq p 51) 12).trans rfl
set_option maxRecDepth 100000 in
theorem e_M_lit {d : Nat} {Q : Value → am_H → Prop} {N : Nat} {I : Nat → Nat → Int32} {J : Nat → Nat → Int64} {x1 : Int32} {x2 : Int32} {r : am_rho} : am_D (d + 1) 242 [.ref 93, .int x1, .int x2] (am_hp N r I J) Q =
    am_D d 206 [.ref 93, .int x1] (am_hp N r (am_u I 93 0 (nI 0)) J) (fun v h => am_asI v (fun y => am_V d Q 242 10 [some (.ref 93), some (.int x1), some (.int x2)] [.int y] h)) :=
  (am_D_un rfl (fun p => Nat.beq p 10 || Nat.beq p 42) 8).trans rfl
set_option maxRecDepth 100000 in
theorem e_M_lit_10 {d : Nat} {Q : Value → am_H → Prop} {N : Nat} {I : Nat → Nat → Int32} {J : Nat → Nat → Int64} {x1 : Int32} {x2 : Int32} {y0 : Int32} {r : am_rho} : am_V d Q 242 10 [some (.ref 93), some (.int x1), some (.int x2)] [.int y0] (am_hp N r I J) =
    am_if (decide (y0 = (nI 0))) (Q (.int (nI 0)) (am_hp N r I J)) (am_if (!(decide ((((I 121 0) >>> (x1 &&& nI 31)) &&& (nI 1)) = (nI 1)))) (am_if (!(decide (((nI 0) : Int32) = x2))) (am_D d 240 [.ref 93] (am_hp N r I J) (fun v h => am_V d Q 242 42 [some (.ref 93), some (.int x1), some (.int x2)] [] h)) (Q (.int (nI 0)) (am_hp N r I J))) (am_if (!(decide (((nI 1) : Int32) = x2))) (am_D d 240 [.ref 93] (am_hp N r I J) (fun v h => am_V d Q 242 42 [some (.ref 93), some (.int x1), some (.int x2)] [] h)) (Q (.int (nI 0)) (am_hp N r I J)))) :=
  (am_V_un (fun p => Nat.beq p 10 || Nat.beq p 42) 19).trans rfl
set_option maxRecDepth 100000 in
theorem e_M_lit_42 {d : Nat} {Q : Value → am_H → Prop} {N : Nat} {I : Nat → Nat → Int32} {J : Nat → Nat → Int64} {x1 : Int32} {x2 : Int32} {r : am_rho} : am_V d Q 242 42 [some (.ref 93), some (.int x1), some (.int x2)] [] (am_hp N r I J) =
    Q (.int (nI 1)) (am_hp N r (am_u I 121 0 ((I 121 0) ^^^ ((nI 1) <<< (x1 &&& nI 31)))) J) :=
  (am_V_un (fun p => Nat.beq p 10 || Nat.beq p 42) 14).trans rfl
set_option maxRecDepth 100000 in
theorem e_M_bell {d : Nat} {Q : Value → am_H → Prop} {N : Nat} {I : Nat → Nat → Int32} {J : Nat → Nat → Int64} {x1 : Int32} {x2 : Int32} {r : am_rho} : am_D (d + 1) 243 [.ref 93, .int x1, .int x2] (am_hp N r I J) Q =
    am_D d 206 [.ref 93, .int x1] (am_hp N r (am_u I 93 0 (nI 0)) J) (fun v h => am_asI v (fun y => am_V d Q 243 10 [some (.ref 93), some (.int x1), some (.int x2)] [.int y] h)) :=
  (am_D_un rfl (fun p => Nat.beq p 10 || Nat.beq p 39) 8).trans rfl
set_option maxRecDepth 100000 in
theorem e_M_bell_10 {d : Nat} {Q : Value → am_H → Prop} {N : Nat} {I : Nat → Nat → Int32} {J : Nat → Nat → Int64} {x1 : Int32} {x2 : Int32} {y0 : Int32} {r : am_rho} : am_V d Q 243 10 [some (.ref 93), some (.int x1), some (.int x2)] [.int y0] (am_hp N r I J) =
    am_if (decide (y0 = (nI 0))) (Q (.int (nI 0)) (am_hp N r I J)) (am_if (decide (x2 < (nI 0))) (Q (.int (nI 0)) (am_hp N r I J)) (am_if (decide (((nI 9) : Int32) < x2)) (Q (.int (nI 0)) (am_hp N r I J)) (am_g (am_inb x1 184) (am_if (!(decide ((I 127 x1.toNatClampNeg) = x2))) (am_D d 240 [.ref 93] (am_hp N r I J) (fun v h => am_V d Q 243 39 [some (.ref 93), some (.int x1), some (.int x2)] [] h)) (Q (.int (nI 0)) (am_hp N r I J)))))) :=
  (am_V_un (fun p => Nat.beq p 10 || Nat.beq p 39) 16).trans rfl
set_option maxRecDepth 100000 in
theorem e_M_bell_39 {d : Nat} {Q : Value → am_H → Prop} {N : Nat} {I : Nat → Nat → Int32} {J : Nat → Nat → Int64} {x1 : Int32} {x2 : Int32} {r : am_rho} : am_V d Q 243 39 [some (.ref 93), some (.int x1), some (.int x2)] [] (am_hp N r I J) =
    am_g (am_inb x1 184) (Q (.int (nI 1)) (am_hp N r (am_u I 127 x1.toNatClampNeg x2) J)) :=
  (am_V_un (fun p => Nat.beq p 10 || Nat.beq p 39) 9).trans rfl
set_option maxRecDepth 100000 in
theorem e_M_hours {d : Nat} {Q : Value → am_H → Prop} {N : Nat} {I : Nat → Nat → Int32} {J : Nat → Nat → Int64} {x1 : Int32} {r : am_rho} : am_D (d + 1) 244 [.ref 93, .int x1] (am_hp N r I J) Q =
    am_if (decide (x1 < (nI 0))) (Q (.int (-nI 1)) (am_hp N r (am_u I 93 0 (nI 0)) J)) (am_if (decide (((nI 36) : Int32) < x1)) (Q (.int (-nI 1)) (am_hp N r (am_u I 93 0 (nI 0)) J)) (am_if (decide ((((am_u I 93 0 (nI 0)) 119 0) + ((((am_u I 93 0 (nI 0)) 118 0) + x1) / (nI 12))) ≤ (nI 999))) (am_if (decide (x1 ≤ (nI 0))) (am_D d 210 [.ref 93] (am_hp N r (am_u I 93 0 (nI 0)) J) (fun v h => am_V d Q 244 54 [some (.ref 93), some (.int x1), none] [] h)) (am_D d 210 [.ref 93] (am_hp N r (am_u (am_u I 93 0 (nI 0)) 93 51 (nI 0)) J) (fun v h => am_V d Q 244 54 [some (.ref 93), some (.int x1), none] [] h))) (Q (.int (-nI 1)) (am_hp N r (am_u I 93 0 (nI 0)) J)))) :=
  (am_D_un rfl (fun p => Nat.beq p 54 || Nat.beq p 56 || Nat.beq p 67 || Nat.beq p 72) 32).trans rfl
set_option maxRecDepth 100000 in
theorem e_M_hours_54 {d : Nat} {Q : Value → am_H → Prop} {N : Nat} {I : Nat → Nat → Int32} {J : Nat → Nat → Int64} {x1 : Int32} {r : am_rho} : am_V d Q 244 54 [some (.ref 93), some (.int x1), none] [] (am_hp N r I J) =
    am_V d Q 244 56 [some (.ref 93), some (.int x1), some (.int (nI 0))] [] (am_hp N r I J) :=
  (am_V_un (fun p => Nat.beq p 54 || Nat.beq p 56 || Nat.beq p 67 || Nat.beq p 72) 4).trans rfl
set_option maxRecDepth 100000 in
theorem e_M_hours_56 {d : Nat} {Q : Value → am_H → Prop} {N : Nat} {I : Nat → Nat → Int32} {J : Nat → Nat → Int64} {x1 : Int32} {x2 : Int32} {r : am_rho} : am_V d Q 244 56 [some (.ref 93), some (.int x1), some (.int x2)] [] (am_hp N r I J) =
    am_if (decide (x1 ≤ x2)) (Q (.int (I 118 0)) (am_hp N r I J)) (am_D d 230 [.ref 93, .int (nI 0), .int (nI 1)] (am_hp N r I J) (fun v h => am_V d Q 244 67 [some (.ref 93), some (.int x1), some (.int x2)] [] h)) :=
  (am_V_un (fun p => Nat.beq p 54 || Nat.beq p 56 || Nat.beq p 67 || Nat.beq p 72) 10).trans rfl
set_option maxRecDepth 100000 in
theorem e_M_hours_67 {d : Nat} {Q : Value → am_H → Prop} {N : Nat} {I : Nat → Nat → Int32} {J : Nat → Nat → Int64} {x1 : Int32} {x2 : Int32} {r : am_rho} : am_V d Q 244 67 [some (.ref 93), some (.int x1), some (.int x2)] [] (am_hp N r I J) =
    am_D d 231 [.ref 93, .int (nI 0)] (am_hp N r I J) (fun v h => am_V d Q 244 72 [some (.ref 93), some (.int x1), some (.int x2)] [] h) :=
  (am_V_un (fun p => Nat.beq p 54 || Nat.beq p 56 || Nat.beq p 67 || Nat.beq p 72) 5).trans rfl
set_option maxRecDepth 100000 in
theorem e_M_hours_72 {d : Nat} {Q : Value → am_H → Prop} {N : Nat} {I : Nat → Nat → Int32} {J : Nat → Nat → Int64} {x1 : Int32} {x2 : Int32} {r : am_rho} : am_V d Q 244 72 [some (.ref 93), some (.int x1), some (.int x2)] [] (am_hp N r I J) =
    am_V d Q 244 56 [some (.ref 93), some (.int x1), some (.int (x2 + (nI 1)))] [] (am_hp N r I J) :=
  (am_V_un (fun p => Nat.beq p 54 || Nat.beq p 56 || Nat.beq p 67 || Nat.beq p 72) 4).trans rfl
set_option maxRecDepth 100000 in
theorem e_M_where {d : Nat} {Q : Value → am_H → Prop} {N : Nat} {I : Nat → Nat → Int32} {J : Nat → Nat → Int64} {x1 : Int32} {x2 : Int32} {r : am_rho} : am_D (d + 1) 245 [.ref 93, .int x1, .int x2] (am_hp N r I J) Q =
    am_D d 207 [.ref 93, .int x1] (am_hp N r (am_u I 93 0 (nI 0)) J) (fun v h => am_asI v (fun y => am_V d Q 245 10 [some (.ref 93), some (.int x1), some (.int x2)] [.int y] h)) :=
  (am_D_un rfl (fun p => Nat.beq p 10 || Nat.beq p 18 || Nat.beq p 27) 8).trans rfl
set_option maxRecDepth 100000 in
theorem e_M_where_10 {d : Nat} {Q : Value → am_H → Prop} {N : Nat} {I : Nat → Nat → Int32} {J : Nat → Nat → Int64} {x1 : Int32} {x2 : Int32} {y0 : Int32} {r : am_rho} : am_V d Q 245 10 [some (.ref 93), some (.int x1), some (.int x2)] [.int y0] (am_hp N r I J) =
    am_if (decide (y0 = (nI 0))) (Q (.int (-nI 1)) (am_hp N r I J)) (am_D d 209 [.ref 93, .int x2] (am_hp N r I J) (fun v h => am_asI v (fun y => am_V d Q 245 18 [some (.ref 93), some (.int x1), some (.int x2)] [.int y] h))) :=
  (am_V_un (fun p => Nat.beq p 10 || Nat.beq p 18 || Nat.beq p 27) 6).trans rfl
set_option maxRecDepth 100000 in
theorem e_M_where_18 {d : Nat} {Q : Value → am_H → Prop} {N : Nat} {I : Nat → Nat → Int32} {J : Nat → Nat → Int64} {x1 : Int32} {x2 : Int32} {y0 : Int32} {r : am_rho} : am_V d Q 245 18 [some (.ref 93), some (.int x1), some (.int x2)] [.int y0] (am_hp N r I J) =
    am_if (!(decide (y0 = (nI 0)))) (am_D d 232 [.ref 93] (am_hp N r I J) (fun v h => am_V d Q 245 27 [some (.ref 93), some (.int x1), some (.int x2)] [] h)) (Q (.int (-nI 1)) (am_hp N r I J)) :=
  (am_V_un (fun p => Nat.beq p 10 || Nat.beq p 18 || Nat.beq p 27) 5).trans rfl
set_option maxRecDepth 100000 in
theorem e_M_where_27 {d : Nat} {Q : Value → am_H → Prop} {N : Nat} {I : Nat → Nat → Int32} {J : Nat → Nat → Int64} {x1 : Int32} {x2 : Int32} {r : am_rho} : am_V d Q 245 27 [some (.ref 93), some (.int x1), some (.int x2)] [] (am_hp N r I J) =
    am_g (am_inb (((nI 12) * x1) + x2) 60) (Q (.int (I 129 (((nI 12) * x1) + x2).toNatClampNeg)) (am_hp N r I J)) :=
  (am_V_un (fun p => Nat.beq p 10 || Nat.beq p 18 || Nat.beq p 27) 11).trans rfl
set_option maxRecDepth 100000 in
theorem e_M_allArrive {d : Nat} {Q : Value → am_H → Prop} {N : Nat} {I : Nat → Nat → Int32} {J : Nat → Nat → Int64} {r : am_rho} : am_D (d + 1) 246 [.ref 93] (am_hp N r I J) Q =
    am_D d 205 [.ref 93, .int (nI 1), .int (nI 0)] (am_hp N r I J) (fun v h => am_V d Q 246 6 [some (.ref 93), none] [] h) :=
  (am_D_un rfl (fun p => Nat.beq p 6 || Nat.beq p 8 || Nat.beq p 51 || Nat.beq p 53) 6).trans rfl
set_option maxRecDepth 100000 in
theorem e_M_allArrive_6 {d : Nat} {Q : Value → am_H → Prop} {N : Nat} {I : Nat → Nat → Int32} {J : Nat → Nat → Int64} {r : am_rho} : am_V d Q 246 6 [some (.ref 93), none] [] (am_hp N r I J) =
    am_V d Q 246 8 [some (.ref 93), some (.int (nI 0))] [] (am_hp N r I J) :=
  (am_V_un (fun p => Nat.beq p 6 || Nat.beq p 8 || Nat.beq p 51 || Nat.beq p 53) 4).trans rfl
set_option maxRecDepth 100000 in
theorem e_M_allArrive_8 {d : Nat} {Q : Value → am_H → Prop} {N : Nat} {I : Nat → Nat → Int32} {J : Nat → Nat → Int64} {x1 : Int32} {r : am_rho} : am_V d Q 246 8 [some (.ref 93), some (.int x1)] [] (am_hp N r I J) =
    am_if (decide ((I 93 68) ≤ x1)) (am_D d 233 [.ref 93] (am_hp N r I J) (fun v h => am_V d Q 246 51 [some (.ref 93), some (.int x1)] [] h)) (am_g (am_inb x1 4) (am_g (am_inb x1 4) (am_g (am_inb (I 131 x1.toNatClampNeg) 10) (am_g (am_inb ((nI 8) + (I 130 x1.toNatClampNeg)) 184) (am_V d Q 246 8 [some (.ref 93), some (.int (x1 + (nI 1)))] [] (am_hp N r (am_u I 125 ((nI 8) + (I 130 x1.toNatClampNeg)).toNatClampNeg (I 104 (I 131 x1.toNatClampNeg).toNatClampNeg)) J)))))) :=
  (am_V_un (fun p => Nat.beq p 6 || Nat.beq p 8 || Nat.beq p 51 || Nat.beq p 53) 24).trans rfl
set_option maxRecDepth 100000 in
theorem e_M_allArrive_51 {d : Nat} {Q : Value → am_H → Prop} {N : Nat} {I : Nat → Nat → Int32} {J : Nat → Nat → Int64} {x1 : Int32} {r : am_rho} : am_V d Q 246 51 [some (.ref 93), some (.int x1)] [] (am_hp N r I J) =
    am_V d Q 246 53 [some (.ref 93), some (.int (nI 0))] [] (am_hp N r I J) :=
  (am_V_un (fun p => Nat.beq p 6 || Nat.beq p 8 || Nat.beq p 51 || Nat.beq p 53) 4).trans rfl
set_option maxRecDepth 100000 in
theorem e_M_allArrive_53 {d : Nat} {Q : Value → am_H → Prop} {N : Nat} {I : Nat → Nat → Int32} {J : Nat → Nat → Int64} {x1 : Int32} {r : am_rho} : am_V d Q 246 53 [some (.ref 93), some (.int x1)] [] (am_hp N r I J) =
    am_if (decide ((I 93 68) ≤ x1)) (Q (.int (nI 1)) (am_hp N r I J)) (am_g (am_inb x1 4) (am_g (am_inb ((nI 8) + (I 130 x1.toNatClampNeg)) 184) (am_if (decide ((I 124 ((nI 8) + (I 130 x1.toNatClampNeg)).toNatClampNeg) = (nI 2))) (am_V d Q 246 53 [some (.ref 93), some (.int (x1 + (nI 1)))] [] (am_hp N r I J)) (Q (.int (nI 0)) (am_hp N r I J))))) :=
  (am_V_un (fun p => Nat.beq p 6 || Nat.beq p 8 || Nat.beq p 51 || Nat.beq p 53) 19).trans rfl
set_option maxRecDepth 100000 in
theorem e_M_matches {d : Nat} {Q : Value → am_H → Prop} {N : Nat} {I : Nat → Nat → Int32} {J : Nat → Nat → Int64} {x1 : Int32} {r : am_rho} : am_D (d + 1) 247 [.ref 93, .int x1] (am_hp N r I J) Q =
    am_if (!(decide (x1 = (I 93 68)))) (am_V d Q 247 15 [some (.ref 93), some (.int x1), some (.int (nI 0))] [] (am_hp N r I J)) (am_D d 246 [.ref 93] (am_hp N r I J) (fun v h => am_asI v (fun y => am_V d Q 247 12 [some (.ref 93), some (.int x1), none] [.int y] h))) :=
  (am_D_un rfl (fun p => Nat.beq p 12 || Nat.beq p 15 || Nat.beq p 39) 8).trans rfl
set_option maxRecDepth 100000 in
theorem e_M_matches_12 {d : Nat} {Q : Value → am_H → Prop} {N : Nat} {I : Nat → Nat → Int32} {J : Nat → Nat → Int64} {x1 : Int32} {y0 : Int32} {r : am_rho} : am_V d Q 247 12 [some (.ref 93), some (.int x1), none] [.int y0] (am_hp N r I J) =
    am_g (am_bool y0) (Q (.int y0) (am_hp N r I J)) :=
  (am_V_un (fun p => Nat.beq p 12 || Nat.beq p 15 || Nat.beq p 39) 3).trans rfl
set_option maxRecDepth 100000 in
theorem e_M_matches_15 {d : Nat} {Q : Value → am_H → Prop} {N : Nat} {I : Nat → Nat → Int32} {J : Nat → Nat → Int64} {x1 : Int32} {x2 : Int32} {r : am_rho} : am_V d Q 247 15 [some (.ref 93), some (.int x1), some (.int x2)] [] (am_hp N r I J) =
    am_if (decide ((I 95 2) ≤ x2)) (Q (.int (nI 0)) (am_hp N r I J)) (am_g (am_inb x1 4) (am_D d 247 [.ref 93, .int (x1 + (nI 1))] (am_hp N r (am_u I 131 x1.toNatClampNeg x2) J) (fun v h => am_asI v (fun y => am_V d Q 247 39 [some (.ref 93), some (.int x1), some (.int x2)] [.int y] h)))) :=
  (am_V_un (fun p => Nat.beq p 12 || Nat.beq p 15 || Nat.beq p 39) 18).trans rfl
set_option maxRecDepth 100000 in
theorem e_M_matches_39 {d : Nat} {Q : Value → am_H → Prop} {N : Nat} {I : Nat → Nat → Int32} {J : Nat → Nat → Int64} {x1 : Int32} {x2 : Int32} {y0 : Int32} {r : am_rho} : am_V d Q 247 39 [some (.ref 93), some (.int x1), some (.int x2)] [.int y0] (am_hp N r I J) =
    am_if (decide (y0 = (nI 0))) (am_V d Q 247 15 [some (.ref 93), some (.int x1), some (.int (x2 + (nI 1)))] [] (am_hp N r I J)) (Q (.int (nI 1)) (am_hp N r I J)) :=
  (am_V_un (fun p => Nat.beq p 12 || Nat.beq p 15 || Nat.beq p 39) 5).trans rfl
set_option maxRecDepth 100000 in
theorem e_M_match {d : Nat} {Q : Value → am_H → Prop} {N : Nat} {I : Nat → Nat → Int32} {J : Nat → Nat → Int64} {x1 : Int32} {r : am_rho} : am_D (d + 1) 248 [.ref 93, .int x1] (am_hp N r I J) Q =
    am_D d 208 [.ref 93, .int x1] (am_hp N r (am_u I 93 0 (nI 0)) J) (fun v h => am_asI v (fun y => am_V d Q 248 10 [some (.ref 93), some (.int x1), none, none] [.int y] h)) :=
  (am_D_un rfl (fun p => Nat.beq p 10 || Nat.beq p 45 || Nat.beq p 119) 8).trans rfl
set_option maxRecDepth 100000 in
theorem e_M_match_10 {d : Nat} {Q : Value → am_H → Prop} {N : Nat} {I : Nat → Nat → Int32} {J : Nat → Nat → Int64} {x1 : Int32} {y0 : Int32} {r : am_rho} : am_V d Q 248 10 [some (.ref 93), some (.int x1), none, none] [.int y0] (am_hp N r I J) =
    am_if (decide (y0 = (nI 0))) (Q (.int (-nI 1)) (am_hp N r I J)) (am_if (!(decide ((I 95 2) = (nI 0)))) (am_g (am_inb x1 184) (am_if (decide ((I 124 x1.toNatClampNeg) = (nI 0))) (am_V d Q 248 45 [some (.ref 93), some (.int x1), some (.int (-nI 1)), some (.int (nI 0))] [] (am_hp N r (am_u I 93 68 (nI 0)) J)) (Q (.int (-nI 2)) (am_hp N r I J)))) (Q (.int (-nI 1)) (am_hp N r I J))) :=
  (am_V_un (fun p => Nat.beq p 10 || Nat.beq p 45 || Nat.beq p 119) 20).trans rfl
set_option maxRecDepth 100000 in
theorem e_M_match_45 {d : Nat} {Q : Value → am_H → Prop} {N : Nat} {I : Nat → Nat → Int32} {J : Nat → Nat → Int64} {x1 : Int32} {x2 : Int32} {x3 : Int32} {r : am_rho} : am_V d Q 248 45 [some (.ref 93), some (.int x1), some (.int x2), some (.int x3)] [] (am_hp N r I J) =
    am_if (decide ((I 95 3) ≤ x3)) (am_D d 247 [.ref 93, .int (nI 0)] (am_hp N r I J) (fun v h => am_asI v (fun y => am_V d Q 248 119 [some (.ref 93), some (.int x1), some (.int x2), some (.int x3)] [.int y] h))) (am_g (am_inb x3 184) (am_if (decide ((I 124 x3.toNatClampNeg) = (nI 0))) (am_if (!(decide ((I 93 68) = (nI 4)))) (am_if (!(decide (x3 = x1))) (am_g (am_inb (I 93 68) 4) (am_V d Q 248 45 [some (.ref 93), some (.int x1), some (.int x2), some (.int (x3 + (nI 1)))] [] (am_hp N r (am_u (am_u I 130 (I 93 68).toNatClampNeg x3) 93 68 (((am_u I 130 (I 93 68).toNatClampNeg x3) 93 68) + (nI 1))) J))) (am_g (am_inb (I 93 68) 4) (am_V d Q 248 45 [some (.ref 93), some (.int x1), some (.int (I 93 68)), some (.int (x3 + (nI 1)))] [] (am_hp N r (am_u (am_u I 130 (I 93 68).toNatClampNeg x3) 93 68 (((am_u I 130 (I 93 68).toNatClampNeg x3) 93 68) + (nI 1))) J)))) (Q (.int (-nI 3)) (am_hp N r I J))) (am_V d Q 248 45 [some (.ref 93), some (.int x1), some (.int x2), some (.int (x3 + (nI 1)))] [] (am_hp N r I J)))) :=
  (am_V_un (fun p => Nat.beq p 10 || Nat.beq p 45 || Nat.beq p 119) 37).trans rfl
set_option maxRecDepth 100000 in
theorem e_M_match_119 {d : Nat} {Q : Value → am_H → Prop} {N : Nat} {I : Nat → Nat → Int32} {J : Nat → Nat → Int64} {x1 : Int32} {x2 : Int32} {x3 : Int32} {y0 : Int32} {r : am_rho} : am_V d Q 248 119 [some (.ref 93), some (.int x1), some (.int x2), some (.int x3)] [.int y0] (am_hp N r I J) =
    am_if (decide (y0 = (nI 0))) (Q (.int (-nI 2)) (am_hp N r I J)) (am_g (am_inb x2 4) (Q (.int (I 131 x2.toNatClampNeg)) (am_hp N r I J))) :=
  (am_V_un (fun p => Nat.beq p 10 || Nat.beq p 45 || Nat.beq p 119) 9).trans rfl
set_option maxRecDepth 100000 in
theorem e_M_lead {d : Nat} {Q : Value → am_H → Prop} {N : Nat} {I : Nat → Nat → Int32} {J : Nat → Nat → Int64} {x1 : Int32} {x2 : Int32} {x3 : Int32} {r : am_rho} : am_D (d + 1) 249 [.ref 93, .int x1, .int x2, .int x3] (am_hp N r I J) Q =
    am_D d 207 [.ref 93, .int x1] (am_hp N r (am_u I 93 0 (nI 0)) J) (fun v h => am_asI v (fun y => am_V d Q 249 10 [some (.ref 93), some (.int x1), some (.int x2), some (.int x3), none, none] [.int y] h)) :=
  (am_D_un rfl (fun p => Nat.beq p 10 || Nat.beq p 18 || Nat.beq p 26 || Nat.beq p 38 || Nat.beq p 61 || Nat.beq p 66 || Nat.beq p 82) 8).trans rfl
set_option maxRecDepth 100000 in
theorem e_M_lead_10 {d : Nat} {Q : Value → am_H → Prop} {N : Nat} {I : Nat → Nat → Int32} {J : Nat → Nat → Int64} {x1 : Int32} {x2 : Int32} {x3 : Int32} {y0 : Int32} {r : am_rho} : am_V d Q 249 10 [some (.ref 93), some (.int x1), some (.int x2), some (.int x3), none, none] [.int y0] (am_hp N r I J) =
    am_if (decide (y0 = (nI 0))) (Q (.int (-nI 1)) (am_hp N r I J)) (am_D d 206 [.ref 93, .int x2] (am_hp N r I J) (fun v h => am_asI v (fun y => am_V d Q 249 18 [some (.ref 93), some (.int x1), some (.int x2), some (.int x3), none, none] [.int y] h))) :=
  (am_V_un (fun p => Nat.beq p 10 || Nat.beq p 18 || Nat.beq p 26 || Nat.beq p 38 || Nat.beq p 61 || Nat.beq p 66 || Nat.beq p 82) 6).trans rfl
set_option maxRecDepth 100000 in
theorem e_M_lead_18 {d : Nat} {Q : Value → am_H → Prop} {N : Nat} {I : Nat → Nat → Int32} {J : Nat → Nat → Int64} {x1 : Int32} {x2 : Int32} {x3 : Int32} {y0 : Int32} {r : am_rho} : am_V d Q 249 18 [some (.ref 93), some (.int x1), some (.int x2), some (.int x3), none, none] [.int y0] (am_hp N r I J) =
    am_if (decide (y0 = (nI 0))) (Q (.int (-nI 1)) (am_hp N r I J)) (am_D d 209 [.ref 93, .int x3] (am_hp N r I J) (fun v h => am_asI v (fun y => am_V d Q 249 26 [some (.ref 93), some (.int x1), some (.int x2), some (.int x3), none, none] [.int y] h))) :=
  (am_V_un (fun p => Nat.beq p 10 || Nat.beq p 18 || Nat.beq p 26 || Nat.beq p 38 || Nat.beq p 61 || Nat.beq p 66 || Nat.beq p 82) 6).trans rfl
set_option maxRecDepth 100000 in
theorem e_M_lead_26 {d : Nat} {Q : Value → am_H → Prop} {N : Nat} {I : Nat → Nat → Int32} {J : Nat → Nat → Int64} {x1 : Int32} {x2 : Int32} {x3 : Int32} {y0 : Int32} {r : am_rho} : am_V d Q 249 26 [some (.ref 93), some (.int x1), some (.int x2), some (.int x3), none, none] [.int y0] (am_hp N r I J) =
    am_if (!(decide (y0 = (nI 0)))) (am_V d Q 249 38 [some (.ref 93), some (.int x1), some (.int x2), some (.int x3), some (.int (-nI 2)), some (.int (nI 0))] [] (am_hp N r I J)) (Q (.int (-nI 1)) (am_hp N r I J)) :=
  (am_V_un (fun p => Nat.beq p 10 || Nat.beq p 18 || Nat.beq p 26 || Nat.beq p 38 || Nat.beq p 61 || Nat.beq p 66 || Nat.beq p 82) 7).trans rfl
set_option maxRecDepth 100000 in
theorem e_M_lead_38 {d : Nat} {Q : Value → am_H → Prop} {N : Nat} {I : Nat → Nat → Int32} {J : Nat → Nat → Int64} {x1 : Int32} {x2 : Int32} {x3 : Int32} {x4 : Int32} {x5 : Int32} {r : am_rho} : am_V d Q 249 38 [some (.ref 93), some (.int x1), some (.int x2), some (.int x3), some (.int x4), some (.int x5)] [] (am_hp N r I J) =
    am_if (decide (((nI 1) <<< ((I 95 0) &&& nI 31)) ≤ x5)) (Q (.int x4) (am_hp N r (am_u I 93 61 (nI 0)) J)) (am_if (decide (x4 < (nI 0))) (am_D d 232 [.ref 93] (am_hp N r (am_u I 93 61 x5) J) (fun v h => am_V d Q 249 82 [some (.ref 93), some (.int x1), some (.int x2), some (.int x3), some (.int x4), some (.int x5)] [] h)) (am_D d 216 [.int x5] (am_hp N r I J) (fun v h => am_asI v (fun y => am_V d Q 249 61 [some (.ref 93), some (.int x1), some (.int x2), some (.int x3), some (.int x4), some (.int x5)] [.int y] h)))) :=
  (am_V_un (fun p => Nat.beq p 10 || Nat.beq p 18 || Nat.beq p 26 || Nat.beq p 38 || Nat.beq p 61 || Nat.beq p 66 || Nat.beq p 82) 17).trans rfl
set_option maxRecDepth 100000 in
theorem e_M_lead_61 {d : Nat} {Q : Value → am_H → Prop} {N : Nat} {I : Nat → Nat → Int32} {J : Nat → Nat → Int64} {x1 : Int32} {x2 : Int32} {x3 : Int32} {x4 : Int32} {x5 : Int32} {y0 : Int32} {r : am_rho} : am_V d Q 249 61 [some (.ref 93), some (.int x1), some (.int x2), some (.int x3), some (.int x4), some (.int x5)] [.int y0] (am_hp N r I J) =
    am_D d 216 [.int x4] (am_hp N r I J) (fun v h => am_asI v (fun y => am_V d Q 249 66 [some (.ref 93), some (.int x1), some (.int x2), some (.int x3), some (.int x4), some (.int x5)] [.int y, .int y0] h)) :=
  (am_V_un (fun p => Nat.beq p 10 || Nat.beq p 18 || Nat.beq p 26 || Nat.beq p 38 || Nat.beq p 61 || Nat.beq p 66 || Nat.beq p 82) 4).trans rfl
set_option maxRecDepth 100000 in
theorem e_M_lead_66 {d : Nat} {Q : Value → am_H → Prop} {N : Nat} {I : Nat → Nat → Int32} {J : Nat → Nat → Int64} {x1 : Int32} {x2 : Int32} {x3 : Int32} {x4 : Int32} {x5 : Int32} {y0 : Int32} {y1 : Int32} {r : am_rho} : am_V d Q 249 66 [some (.ref 93), some (.int x1), some (.int x2), some (.int x3), some (.int x4), some (.int x5)] [.int y1, .int y0] (am_hp N r I J) =
    am_if (decide (y0 < y1)) (am_D d 232 [.ref 93] (am_hp N r (am_u I 93 61 x5) J) (fun v h => am_V d Q 249 82 [some (.ref 93), some (.int x1), some (.int x2), some (.int x3), some (.int x4), some (.int x5)] [] h)) (am_V d Q 249 38 [some (.ref 93), some (.int x1), some (.int x2), some (.int x3), some (.int x4), some (.int (x5 + (nI 1)))] [] (am_hp N r I J)) :=
  (am_V_un (fun p => Nat.beq p 10 || Nat.beq p 18 || Nat.beq p 26 || Nat.beq p 38 || Nat.beq p 61 || Nat.beq p 66 || Nat.beq p 82) 8).trans rfl
set_option maxRecDepth 100000 in
theorem e_M_lead_82 {d : Nat} {Q : Value → am_H → Prop} {N : Nat} {I : Nat → Nat → Int32} {J : Nat → Nat → Int64} {x1 : Int32} {x2 : Int32} {x3 : Int32} {x4 : Int32} {x5 : Int32} {r : am_rho} : am_V d Q 249 82 [some (.ref 93), some (.int x1), some (.int x2), some (.int x3), some (.int x4), some (.int x5)] [] (am_hp N r I J) =
    am_g (am_inb (((nI 12) * x1) + x3) 60) (am_if (!(decide ((I 129 (((nI 12) * x1) + x3).toNatClampNeg) = x2))) (am_V d Q 249 38 [some (.ref 93), some (.int x1), some (.int x2), some (.int x3), some (.int x4), some (.int (x5 + (nI 1)))] [] (am_hp N r I J)) (am_V d Q 249 38 [some (.ref 93), some (.int x1), some (.int x2), some (.int x3), some (.int x5), some (.int (x5 + (nI 1)))] [] (am_hp N r I J))) :=
  (am_V_un (fun p => Nat.beq p 10 || Nat.beq p 18 || Nat.beq p 26 || Nat.beq p 38 || Nat.beq p 61 || Nat.beq p 66 || Nat.beq p 82) 16).trans rfl
set_option maxRecDepth 100000 in
theorem e_M_chain {d : Nat} {Q : Value → am_H → Prop} {N : Nat} {I : Nat → Nat → Int32} {J : Nat → Nat → Int64} {x1 : Int32} {r : am_rho} : am_D (d + 1) 250 [.ref 93, .int x1] (am_hp N r I J) Q =
    am_D d 208 [.ref 93, .int x1] (am_hp N r (am_u I 93 0 (nI 0)) J) (fun v h => am_asI v (fun y => am_V d Q 250 10 [some (.ref 93), some (.int x1), none] [.int y] h)) :=
  (am_D_un rfl (fun p => Nat.beq p 10 || Nat.beq p 33 || Nat.beq p 37 || Nat.beq p 39 || Nat.beq p 45 || Nat.beq p 51 || Nat.beq p 56) 8).trans rfl
set_option maxRecDepth 100000 in
theorem e_M_chain_10 {d : Nat} {Q : Value → am_H → Prop} {N : Nat} {I : Nat → Nat → Int32} {J : Nat → Nat → Int64} {x1 : Int32} {y0 : Int32} {r : am_rho} : am_V d Q 250 10 [some (.ref 93), some (.int x1), none] [.int y0] (am_hp N r I J) =
    am_if (!(decide (y0 = (nI 0)))) (am_g (am_inb x1 184) (am_if (!(decide ((I 124 x1.toNatClampNeg) = (nI 2)))) (am_D d 205 [.ref 93, .int (nI 1), .int (nI 0)] (am_hp N r I J) (fun v h => am_V d Q 250 33 [some (.ref 93), some (.int x1), none] [] h)) (Q (.int (nI 0)) (am_hp N r I J)))) (Q (.int (-nI 1)) (am_hp N r I J)) :=
  (am_V_un (fun p => Nat.beq p 10 || Nat.beq p 33 || Nat.beq p 37 || Nat.beq p 39 || Nat.beq p 45 || Nat.beq p 51 || Nat.beq p 56) 13).trans rfl
set_option maxRecDepth 100000 in
theorem e_M_chain_33 {d : Nat} {Q : Value → am_H → Prop} {N : Nat} {I : Nat → Nat → Int32} {J : Nat → Nat → Int64} {x1 : Int32} {r : am_rho} : am_V d Q 250 33 [some (.ref 93), some (.int x1), none] [] (am_hp N r I J) =
    am_D d 210 [.ref 93] (am_hp N r I J) (fun v h => am_V d Q 250 37 [some (.ref 93), some (.int x1), none] [] h) :=
  (am_V_un (fun p => Nat.beq p 10 || Nat.beq p 33 || Nat.beq p 37 || Nat.beq p 39 || Nat.beq p 45 || Nat.beq p 51 || Nat.beq p 56) 4).trans rfl
set_option maxRecDepth 100000 in
theorem e_M_chain_37 {d : Nat} {Q : Value → am_H → Prop} {N : Nat} {I : Nat → Nat → Int32} {J : Nat → Nat → Int64} {x1 : Int32} {r : am_rho} : am_V d Q 250 37 [some (.ref 93), some (.int x1), none] [] (am_hp N r I J) =
    am_V d Q 250 39 [some (.ref 93), some (.int x1), some (.int (nI 1))] [] (am_hp N r I J) :=
  (am_V_un (fun p => Nat.beq p 10 || Nat.beq p 33 || Nat.beq p 37 || Nat.beq p 39 || Nat.beq p 45 || Nat.beq p 51 || Nat.beq p 56) 4).trans rfl
set_option maxRecDepth 100000 in
theorem e_M_chain_39 {d : Nat} {Q : Value → am_H → Prop} {N : Nat} {I : Nat → Nat → Int32} {J : Nat → Nat → Int64} {x1 : Int32} {x2 : Int32} {r : am_rho} : am_V d Q 250 39 [some (.ref 93), some (.int x1), some (.int x2)] [] (am_hp N r I J) =
    am_if (decide (((nI 40) : Int32) < x2)) (Q (.int (-nI 2)) (am_hp N r I J)) (am_V d Q 250 45 [some (.ref 93), some (.int x1), some (.int x2)] [] (am_hp N r I J)) :=
  (am_V_un (fun p => Nat.beq p 10 || Nat.beq p 33 || Nat.beq p 37 || Nat.beq p 39 || Nat.beq p 45 || Nat.beq p 51 || Nat.beq p 56) 7).trans rfl
set_option maxRecDepth 100000 in
theorem e_M_chain_45 {d : Nat} {Q : Value → am_H → Prop} {N : Nat} {I : Nat → Nat → Int32} {J : Nat → Nat → Int64} {x1 : Int32} {x2 : Int32} {r : am_rho} : am_V d Q 250 45 [some (.ref 93), some (.int x1), some (.int x2)] [] (am_hp N r I J) =
    am_D d 230 [.ref 93, .int (nI 1), .int (nI 0)] (am_hp N r I J) (fun v h => am_V d Q 250 51 [some (.ref 93), some (.int x1), some (.int x2)] [] h) :=
  (am_V_un (fun p => Nat.beq p 10 || Nat.beq p 33 || Nat.beq p 37 || Nat.beq p 39 || Nat.beq p 45 || Nat.beq p 51 || Nat.beq p 56) 6).trans rfl
set_option maxRecDepth 100000 in
theorem e_M_chain_51 {d : Nat} {Q : Value → am_H → Prop} {N : Nat} {I : Nat → Nat → Int32} {J : Nat → Nat → Int64} {x1 : Int32} {x2 : Int32} {r : am_rho} : am_V d Q 250 51 [some (.ref 93), some (.int x1), some (.int x2)] [] (am_hp N r I J) =
    am_D d 231 [.ref 93, .int (nI 1)] (am_hp N r I J) (fun v h => am_V d Q 250 56 [some (.ref 93), some (.int x1), some (.int x2)] [] h) :=
  (am_V_un (fun p => Nat.beq p 10 || Nat.beq p 33 || Nat.beq p 37 || Nat.beq p 39 || Nat.beq p 45 || Nat.beq p 51 || Nat.beq p 56) 5).trans rfl
set_option maxRecDepth 100000 in
theorem e_M_chain_56 {d : Nat} {Q : Value → am_H → Prop} {N : Nat} {I : Nat → Nat → Int32} {J : Nat → Nat → Int64} {x1 : Int32} {x2 : Int32} {r : am_rho} : am_V d Q 250 56 [some (.ref 93), some (.int x1), some (.int x2)] [] (am_hp N r I J) =
    am_if (decide (((nI 0) : Int32) < (I 118 1))) (am_V d Q 250 45 [some (.ref 93), some (.int x1), some (.int x2)] [] (am_hp N r I J)) (am_g (am_inb ((nI 8) + x1) 184) (am_if (!(decide ((I 124 ((nI 8) + x1).toNatClampNeg) = (nI 2)))) (am_V d Q 250 39 [some (.ref 93), some (.int x1), some (.int (x2 + (nI 1)))] [] (am_hp N r I J)) (Q (.int x2) (am_hp N r I J)))) :=
  (am_V_un (fun p => Nat.beq p 10 || Nat.beq p 33 || Nat.beq p 37 || Nat.beq p 39 || Nat.beq p 45 || Nat.beq p 51 || Nat.beq p 56) 17).trans rfl
set_option maxRecDepth 100000 in
theorem e_M_meet {d : Nat} {Q : Value → am_H → Prop} {N : Nat} {I : Nat → Nat → Int32} {J : Nat → Nat → Int64} {x1 : Int32} {x2 : Int32} {r : am_rho} : am_D (d + 1) 251 [.ref 93, .int x1, .int x2] (am_hp N r I J) Q =
    am_D d 207 [.ref 93, .int x1] (am_hp N r (am_u I 93 0 (nI 0)) J) (fun v h => am_asI v (fun y => am_V d Q 251 10 [some (.ref 93), some (.int x1), some (.int x2), none, none] [.int y] h)) :=
  (am_D_un rfl (fun p => Nat.beq p 10 || Nat.beq p 18 || Nat.beq p 32 || Nat.beq p 42) 8).trans rfl
set_option maxRecDepth 100000 in
theorem e_M_meet_10 {d : Nat} {Q : Value → am_H → Prop} {N : Nat} {I : Nat → Nat → Int32} {J : Nat → Nat → Int64} {x1 : Int32} {x2 : Int32} {y0 : Int32} {r : am_rho} : am_V d Q 251 10 [some (.ref 93), some (.int x1), some (.int x2), none, none] [.int y0] (am_hp N r I J) =
    am_if (decide (y0 = (nI 0))) (Q (.int (-nI 1)) (am_hp N r I J)) (am_D d 207 [.ref 93, .int x2] (am_hp N r I J) (fun v h => am_asI v (fun y => am_V d Q 251 18 [some (.ref 93), some (.int x1), some (.int x2), none, none] [.int y] h))) :=
  (am_V_un (fun p => Nat.beq p 10 || Nat.beq p 18 || Nat.beq p 32 || Nat.beq p 42) 6).trans rfl
set_option maxRecDepth 100000 in
theorem e_M_meet_18 {d : Nat} {Q : Value → am_H → Prop} {N : Nat} {I : Nat → Nat → Int32} {J : Nat → Nat → Int64} {x1 : Int32} {x2 : Int32} {y0 : Int32} {r : am_rho} : am_V d Q 251 18 [some (.ref 93), some (.int x1), some (.int x2), none, none] [.int y0] (am_hp N r I J) =
    am_if (decide (y0 = (nI 0))) (Q (.int (-nI 1)) (am_hp N r I J)) (am_if (!(decide (x1 = x2))) (am_D d 232 [.ref 93] (am_hp N r I J) (fun v h => am_V d Q 251 32 [some (.ref 93), some (.int x1), some (.int x2), none, none] [] h)) (Q (.int (-nI 1)) (am_hp N r I J))) :=
  (am_V_un (fun p => Nat.beq p 10 || Nat.beq p 18 || Nat.beq p 32 || Nat.beq p 42) 8).trans rfl
set_option maxRecDepth 100000 in
theorem e_M_meet_32 {d : Nat} {Q : Value → am_H → Prop} {N : Nat} {I : Nat → Nat → Int32} {J : Nat → Nat → Int64} {x1 : Int32} {x2 : Int32} {r : am_rho} : am_V d Q 251 32 [some (.ref 93), some (.int x1), some (.int x2), none, none] [] (am_hp N r I J) =
    am_V d Q 251 42 [some (.ref 93), some (.int x1), some (.int x2), some (.int (nI 0)), some (.int (I 118 0))] [] (am_hp N r I J) :=
  (am_V_un (fun p => Nat.beq p 10 || Nat.beq p 18 || Nat.beq p 32 || Nat.beq p 42) 9).trans rfl
set_option maxRecDepth 100000 in
theorem e_M_meet_42 {d : Nat} {Q : Value → am_H → Prop} {N : Nat} {I : Nat → Nat → Int32} {J : Nat → Nat → Int64} {x1 : Int32} {x2 : Int32} {x3 : Int32} {x4 : Int32} {r : am_rho} : am_V d Q 251 42 [some (.ref 93), some (.int x1), some (.int x2), some (.int x3), some (.int x4)] [] (am_hp N r I J) =
    am_if (decide (((nI 12) : Int32) ≤ x4)) (Q (.int x3) (am_hp N r I J)) (am_g (am_inb (((nI 12) * x1) + x4) 60) (am_g (am_inb (((nI 12) * x2) + x4) 60) (am_if (!(decide ((I 129 (((nI 12) * x1) + x4).toNatClampNeg) = (I 129 (((nI 12) * x2) + x4).toNatClampNeg)))) (am_V d Q 251 42 [some (.ref 93), some (.int x1), some (.int x2), some (.int (x3 ||| (nI 0))), some (.int (x4 + (nI 1)))] [] (am_hp N r I J)) (am_V d Q 251 42 [some (.ref 93), some (.int x1), some (.int x2), some (.int (x3 ||| ((nI 1) <<< (x4 &&& nI 31)))), some (.int (x4 + (nI 1)))] [] (am_hp N r I J))))) :=
  (am_V_un (fun p => Nat.beq p 10 || Nat.beq p 18 || Nat.beq p 32 || Nat.beq p 42) 31).trans rfl
set_option maxRecDepth 100000 in
theorem e_M_sight {d : Nat} {Q : Value → am_H → Prop} {N : Nat} {I : Nat → Nat → Int32} {J : Nat → Nat → Int64} {x1 : Int32} {x2 : Int32} {x3 : Int32} {r : am_rho} : am_D (d + 1) 252 [.ref 93, .int x1, .int x2, .int x3] (am_hp N r I J) Q =
    am_if (decide (x1 < (nI 0))) (Q (.int (-nI 1)) (am_hp N r (am_u I 93 0 (nI 0)) J)) (am_if (decide (((nI 12) : Int32) ≤ x1)) (Q (.int (-nI 1)) (am_hp N r (am_u I 93 0 (nI 0)) J)) (am_D d 207 [.ref 93, .int x2] (am_hp N r (am_u I 93 0 (nI 0)) J) (fun v h => am_asI v (fun y => am_V d Q 252 20 [some (.ref 93), some (.int x1), some (.int x2), some (.int x3)] [.int y] h)))) :=
  (am_D_un rfl (fun p => Nat.beq p 20 || Nat.beq p 28) 13).trans rfl
set_option maxRecDepth 100000 in
theorem e_M_sight_20 {d : Nat} {Q : Value → am_H → Prop} {N : Nat} {I : Nat → Nat → Int32} {J : Nat → Nat → Int64} {x1 : Int32} {x2 : Int32} {x3 : Int32} {y0 : Int32} {r : am_rho} : am_V d Q 252 20 [some (.ref 93), some (.int x1), some (.int x2), some (.int x3)] [.int y0] (am_hp N r I J) =
    am_if (decide (y0 = (nI 0))) (Q (.int (-nI 1)) (am_hp N r I J)) (am_D d 206 [.ref 93, .int x3] (am_hp N r I J) (fun v h => am_asI v (fun y => am_V d Q 252 28 [some (.ref 93), some (.int x1), some (.int x2), some (.int x3)] [.int y] h))) :=
  (am_V_un (fun p => Nat.beq p 20 || Nat.beq p 28) 6).trans rfl
set_option maxRecDepth 100000 in
theorem e_M_sight_28 {d : Nat} {Q : Value → am_H → Prop} {N : Nat} {I : Nat → Nat → Int32} {J : Nat → Nat → Int64} {x1 : Int32} {x2 : Int32} {x3 : Int32} {y0 : Int32} {r : am_rho} : am_V d Q 252 28 [some (.ref 93), some (.int x1), some (.int x2), some (.int x3)] [.int y0] (am_hp N r I J) =
    am_if (decide (y0 = (nI 0))) (Q (.int (-nI 1)) (am_hp N r I J)) (am_if (!(decide ((I 93 69) = (nI 24)))) (am_g (am_inb (I 93 69) 24) (am_g (am_inb ((am_u I 132 (I 93 69).toNatClampNeg x1) 93 69) 24) (am_g (am_inb ((am_u (am_u I 132 (I 93 69).toNatClampNeg x1) 133 ((am_u I 132 (I 93 69).toNatClampNeg x1) 93 69).toNatClampNeg x2) 93 69) 24) (am_g (am_inb ((am_u (am_u (am_u I 132 (I 93 69).toNatClampNeg x1) 133 ((am_u I 132 (I 93 69).toNatClampNeg x1) 93 69).toNatClampNeg x2) 134 ((am_u (am_u I 132 (I 93 69).toNatClampNeg x1) 133 ((am_u I 132 (I 93 69).toNatClampNeg x1) 93 69).toNatClampNeg x2) 93 69).toNatClampNeg x3) 93 69) 24) (Q (.int (((am_u (am_u (am_u (am_u (am_u I 132 (I 93 69).toNatClampNeg x1) 133 ((am_u I 132 (I 93 69).toNatClampNeg x1) 93 69).toNatClampNeg x2) 134 ((am_u (am_u I 132 (I 93 69).toNatClampNeg x1) 133 ((am_u I 132 (I 93 69).toNatClampNeg x1) 93 69).toNatClampNeg x2) 93 69).toNatClampNeg x3) 135 ((am_u (am_u (am_u I 132 (I 93 69).toNatClampNeg x1) 133 ((am_u I 132 (I 93 69).toNatClampNeg x1) 93 69).toNatClampNeg x2) 134 ((am_u (am_u I 132 (I 93 69).toNatClampNeg x1) 133 ((am_u I 132 (I 93 69).toNatClampNeg x1) 93 69).toNatClampNeg x2) 93 69).toNatClampNeg x3) 93 69).toNatClampNeg (-nI 1)) 93 69 (((am_u (am_u (am_u (am_u I 132 (I 93 69).toNatClampNeg x1) 133 ((am_u I 132 (I 93 69).toNatClampNeg x1) 93 69).toNatClampNeg x2) 134 ((am_u (am_u I 132 (I 93 69).toNatClampNeg x1) 133 ((am_u I 132 (I 93 69).toNatClampNeg x1) 93 69).toNatClampNeg x2) 93 69).toNatClampNeg x3) 135 ((am_u (am_u (am_u I 132 (I 93 69).toNatClampNeg x1) 133 ((am_u I 132 (I 93 69).toNatClampNeg x1) 93 69).toNatClampNeg x2) 134 ((am_u (am_u I 132 (I 93 69).toNatClampNeg x1) 133 ((am_u I 132 (I 93 69).toNatClampNeg x1) 93 69).toNatClampNeg x2) 93 69).toNatClampNeg x3) 93 69).toNatClampNeg (-nI 1)) 93 69) + (nI 1))) 93 69) - (nI 1))) (am_hp N r (am_u (am_u (am_u (am_u (am_u I 132 (I 93 69).toNatClampNeg x1) 133 ((am_u I 132 (I 93 69).toNatClampNeg x1) 93 69).toNatClampNeg x2) 134 ((am_u (am_u I 132 (I 93 69).toNatClampNeg x1) 133 ((am_u I 132 (I 93 69).toNatClampNeg x1) 93 69).toNatClampNeg x2) 93 69).toNatClampNeg x3) 135 ((am_u (am_u (am_u I 132 (I 93 69).toNatClampNeg x1) 133 ((am_u I 132 (I 93 69).toNatClampNeg x1) 93 69).toNatClampNeg x2) 134 ((am_u (am_u I 132 (I 93 69).toNatClampNeg x1) 133 ((am_u I 132 (I 93 69).toNatClampNeg x1) 93 69).toNatClampNeg x2) 93 69).toNatClampNeg x3) 93 69).toNatClampNeg (-nI 1)) 93 69 (((am_u (am_u (am_u (am_u I 132 (I 93 69).toNatClampNeg x1) 133 ((am_u I 132 (I 93 69).toNatClampNeg x1) 93 69).toNatClampNeg x2) 134 ((am_u (am_u I 132 (I 93 69).toNatClampNeg x1) 133 ((am_u I 132 (I 93 69).toNatClampNeg x1) 93 69).toNatClampNeg x2) 93 69).toNatClampNeg x3) 135 ((am_u (am_u (am_u I 132 (I 93 69).toNatClampNeg x1) 133 ((am_u I 132 (I 93 69).toNatClampNeg x1) 93 69).toNatClampNeg x2) 134 ((am_u (am_u I 132 (I 93 69).toNatClampNeg x1) 133 ((am_u I 132 (I 93 69).toNatClampNeg x1) 93 69).toNatClampNeg x2) 93 69).toNatClampNeg x3) 93 69).toNatClampNeg (-nI 1)) 93 69) + (nI 1))) J)))))) (Q (.int (-nI 1)) (am_hp N r I J))) :=
  (am_V_un (fun p => Nat.beq p 20 || Nat.beq p 28) 42).trans rfl
set_option maxRecDepth 100000 in
theorem e_M_strike {d : Nat} {Q : Value → am_H → Prop} {N : Nat} {I : Nat → Nat → Int32} {J : Nat → Nat → Int64} {x1 : Int32} {r : am_rho} : am_D (d + 1) 253 [.ref 93, .int x1] (am_hp N r I J) Q =
    am_if (decide (x1 < (nI 0))) (Q (.int (-nI 1)) (am_hp N r (am_u I 93 0 (nI 0)) J)) (am_if (decide (((am_u I 93 0 (nI 0)) 93 69) ≤ x1)) (Q (.int (-nI 1)) (am_hp N r (am_u I 93 0 (nI 0)) J)) (am_if (!(decide (((am_u I 93 0 (nI 0)) 93 69) = (nI 24)))) (am_g (am_inb ((am_u I 93 0 (nI 0)) 93 69) 24) (Q (.int (((am_u (am_u (am_u I 93 0 (nI 0)) 135 ((am_u I 93 0 (nI 0)) 93 69).toNatClampNeg x1) 93 69 (((am_u (am_u I 93 0 (nI 0)) 135 ((am_u I 93 0 (nI 0)) 93 69).toNatClampNeg x1) 93 69) + (nI 1))) 93 69) - (nI 1))) (am_hp N r (am_u (am_u (am_u I 93 0 (nI 0)) 135 ((am_u I 93 0 (nI 0)) 93 69).toNatClampNeg x1) 93 69 (((am_u (am_u I 93 0 (nI 0)) 135 ((am_u I 93 0 (nI 0)) 93 69).toNatClampNeg x1) 93 69) + (nI 1))) J))) (Q (.int (-nI 1)) (am_hp N r (am_u I 93 0 (nI 0)) J)))) :=
  (am_D_un rfl (fun p => false) 32).trans rfl
set_option maxRecDepth 100000 in
theorem e_M_known {d : Nat} {Q : Value → am_H → Prop} {N : Nat} {I : Nat → Nat → Int32} {J : Nat → Nat → Int64} {x1 : Int32} {r : am_rho} : am_D (d + 1) 254 [.ref 93, .int x1] (am_hp N r I J) Q =
    am_if (decide (x1 < (-nI 1))) (Q (.int (nI 0)) (am_hp N r (am_u I 93 0 (nI 0)) J)) (am_if (decide (x1 ≤ ((am_u I 93 0 (nI 0)) 93 69))) (Q (.int (nI 1)) (am_hp N r (am_u (am_u I 93 0 (nI 0)) 93 70 x1) J)) (Q (.int (nI 0)) (am_hp N r (am_u I 93 0 (nI 0)) J))) :=
  (am_D_un rfl (fun p => false) 17).trans rfl
set_option maxRecDepth 100000 in
theorem e_M_knownMany {d : Nat} {Q : Value → am_H → Prop} {N : Nat} {I : Nat → Nat → Int32} {J : Nat → Nat → Int64} {r : am_rho} : am_D (d + 1) 255 [.ref 93] (am_hp N r I J) Q =
    am_if (!(decide ((I 93 70) = (-nI 1)))) (Q (.int (I 93 70)) (am_hp N r I J)) (Q (.int (I 93 69)) (am_hp N r I J)) :=
  (am_D_un rfl (fun p => false) 10).trans rfl
set_option maxRecDepth 100000 in
theorem e_M_layDreamt {d : Nat} {Q : Value → am_H → Prop} {N : Nat} {I : Nat → Nat → Int32} {J : Nat → Nat → Int64} {x1 : Int32} {r : am_rho} : am_D (d + 1) 256 [.ref 93, .int x1] (am_hp N r I J) Q =
    am_V d Q 256 2 [some (.ref 93), some (.int x1), some (.int (nI 0)), none, none, none] [] (am_hp N r I J) :=
  (am_D_un rfl (fun p => Nat.beq p 2 || Nat.beq p 7 || Nat.beq p 27 || Nat.beq p 30 || Nat.beq p 80 || Nat.beq p 100 || Nat.beq p 104 || Nat.beq p 110 || Nat.beq p 116 || Nat.beq p 193) 4).trans rfl
set_option maxRecDepth 100000 in
theorem e_M_layDreamt_2 {d : Nat} {Q : Value → am_H → Prop} {N : Nat} {I : Nat → Nat → Int32} {J : Nat → Nat → Int64} {x1 : Int32} {x2 : Int32} {r : am_rho} : am_V d Q 256 2 [some (.ref 93), some (.int x1), some (.int x2), none, none, none] [] (am_hp N r I J) =
    am_D d 255 [.ref 93] (am_hp N r I J) (fun v h => am_asI v (fun y => am_V d Q 256 7 [some (.ref 93), some (.int x1), some (.int x2), none, none, none] [.int y, .int x2] h)) :=
  (am_V_un (fun p => Nat.beq p 2 || Nat.beq p 7 || Nat.beq p 27 || Nat.beq p 30 || Nat.beq p 80 || Nat.beq p 100 || Nat.beq p 104 || Nat.beq p 110 || Nat.beq p 116 || Nat.beq p 193) 5).trans rfl
set_option maxRecDepth 100000 in
theorem e_M_layDreamt_7 {d : Nat} {Q : Value → am_H → Prop} {N : Nat} {I : Nat → Nat → Int32} {J : Nat → Nat → Int64} {x1 : Int32} {x2 : Int32} {y0 : Int32} {y1 : Int32} {r : am_rho} : am_V d Q 256 7 [some (.ref 93), some (.int x1), some (.int x2), none, none, none] [.int y1, .int y0] (am_hp N r I J) =
    am_if (decide (y1 ≤ y0)) (am_D d 255 [.ref 93] (am_hp N r I J) (fun v h => am_asI v (fun y => am_V d Q 256 27 [some (.ref 93), some (.int x1), some (.int x2), none, none, none] [.int y] h))) (am_g (am_inb x2 24) (am_V d Q 256 2 [some (.ref 93), some (.int x1), some (.int (x2 + (nI 1))), none, none, none] [] (am_hp N r (am_u I 136 x2.toNatClampNeg (nI 0)) J))) :=
  (am_V_un (fun p => Nat.beq p 2 || Nat.beq p 7 || Nat.beq p 27 || Nat.beq p 30 || Nat.beq p 80 || Nat.beq p 100 || Nat.beq p 104 || Nat.beq p 110 || Nat.beq p 116 || Nat.beq p 193) 10).trans rfl
set_option maxRecDepth 100000 in
theorem e_M_layDreamt_27 {d : Nat} {Q : Value → am_H → Prop} {N : Nat} {I : Nat → Nat → Int32} {J : Nat → Nat → Int64} {x1 : Int32} {x2 : Int32} {y0 : Int32} {r : am_rho} : am_V d Q 256 27 [some (.ref 93), some (.int x1), some (.int x2), none, none, none] [.int y0] (am_hp N r I J) =
    am_V d Q 256 30 [some (.ref 93), some (.int x1), some (.int (y0 - (nI 1))), none, none, none] [] (am_hp N r I J) :=
  (am_V_un (fun p => Nat.beq p 2 || Nat.beq p 7 || Nat.beq p 27 || Nat.beq p 30 || Nat.beq p 80 || Nat.beq p 100 || Nat.beq p 104 || Nat.beq p 110 || Nat.beq p 116 || Nat.beq p 193) 5).trans rfl
set_option maxRecDepth 100000 in
theorem e_M_layDreamt_30 {d : Nat} {Q : Value → am_H → Prop} {N : Nat} {I : Nat → Nat → Int32} {J : Nat → Nat → Int64} {x1 : Int32} {x2 : Int32} {r : am_rho} : am_V d Q 256 30 [some (.ref 93), some (.int x1), some (.int x2), none, none, none] [] (am_hp N r I J) =
    am_if (decide (x2 < (nI 0))) (am_V d Q 256 80 [some (.ref 93), some (.int x1), some (.int (nI 0)), some (.int (nI 0)), am_oi none, am_oi none] [] (am_hp N r (am_u I 93 59 x1) J)) (am_g (am_inb x2 24) (am_if (!(decide ((I 136 x2.toNatClampNeg) = (nI 0)))) (am_V d Q 256 30 [some (.ref 93), some (.int x1), some (.int (x2 + (-nI 1))), none, none, none] [] (am_hp N r I J)) (am_g (am_inb x2 24) (am_if (decide ((I 135 x2.toNatClampNeg) = (-nI 1))) (am_V d Q 256 30 [some (.ref 93), some (.int x1), some (.int (x2 + (-nI 1))), none, none, none] [] (am_hp N r I J)) (am_g (am_inb x2 24) (am_g (am_inb (I 135 x2.toNatClampNeg) 24) (am_V d Q 256 30 [some (.ref 93), some (.int x1), some (.int (x2 + (-nI 1))), none, none, none] [] (am_hp N r (am_u I 136 (I 135 x2.toNatClampNeg).toNatClampNeg (nI 1)) J)))))))) :=
  (am_V_un (fun p => Nat.beq p 2 || Nat.beq p 7 || Nat.beq p 27 || Nat.beq p 30 || Nat.beq p 80 || Nat.beq p 100 || Nat.beq p 104 || Nat.beq p 110 || Nat.beq p 116 || Nat.beq p 193) 25).trans rfl
set_option maxRecDepth 100000 in
theorem e_M_layDreamt_80 {d : Nat} {Q : Value → am_H → Prop} {N : Nat} {I : Nat → Nat → Int32} {J : Nat → Nat → Int64} {x1 : Int32} {x2 : Int32} {x3 : Int32} {o4 : Option Int32} {o5 : Option Int32} {r : am_rho} : am_V d Q 256 80 [some (.ref 93), some (.int x1), some (.int x2), some (.int x3), am_oi o4, am_oi o5] [] (am_hp N r I J) =
    am_if (decide ((I 95 0) ≤ x3)) (Q (.int x2) (am_hp N r (am_u I 93 59 (-nI 1)) J)) (am_D d 203 [.ref 93, .int (nI 1)] (am_hp N r (am_u I 93 60 x3) J) (fun v h => am_V d Q 256 100 [some (.ref 93), some (.int x1), some (.int x2), some (.int x3), am_oi o4, am_oi o5] [] h)) :=
  (am_V_un (fun p => Nat.beq p 2 || Nat.beq p 7 || Nat.beq p 27 || Nat.beq p 30 || Nat.beq p 80 || Nat.beq p 100 || Nat.beq p 104 || Nat.beq p 110 || Nat.beq p 116 || Nat.beq p 193) 14).trans rfl
set_option maxRecDepth 100000 in
theorem e_M_layDreamt_100 {d : Nat} {Q : Value → am_H → Prop} {N : Nat} {I : Nat → Nat → Int32} {J : Nat → Nat → Int64} {x1 : Int32} {x2 : Int32} {x3 : Int32} {o4 : Option Int32} {o5 : Option Int32} {r : am_rho} : am_V d Q 256 100 [some (.ref 93), some (.int x1), some (.int x2), some (.int x3), am_oi o4, am_oi o5] [] (am_hp N r I J) =
    am_D d 233 [.ref 93] (am_hp N r I J) (fun v h => am_V d Q 256 104 [some (.ref 93), some (.int x1), some (.int x2), some (.int x3), am_oi o4, am_oi o5] [] h) :=
  (am_V_un (fun p => Nat.beq p 2 || Nat.beq p 7 || Nat.beq p 27 || Nat.beq p 30 || Nat.beq p 80 || Nat.beq p 100 || Nat.beq p 104 || Nat.beq p 110 || Nat.beq p 116 || Nat.beq p 193) 4).trans rfl
set_option maxRecDepth 100000 in
theorem e_M_layDreamt_104 {d : Nat} {Q : Value → am_H → Prop} {N : Nat} {I : Nat → Nat → Int32} {J : Nat → Nat → Int64} {x1 : Int32} {x2 : Int32} {x3 : Int32} {o4 : Option Int32} {o5 : Option Int32} {r : am_rho} : am_V d Q 256 104 [some (.ref 93), some (.int x1), some (.int x2), some (.int x3), am_oi o4, am_oi o5] [] (am_hp N r I J) =
    am_V d Q 256 110 [some (.ref 93), some (.int x1), some (.int x2), some (.int x3), some (.int (nI 1)), some (.int (nI 0))] [] (am_hp N r I J) :=
  by cases o4 <;> exact (am_V_un (fun p => Nat.beq p 2 || Nat.beq p 7 || Nat.beq p 27 || Nat.beq p 30 || Nat.beq p 80 || Nat.beq p 100 || Nat.beq p 104 || Nat.beq p 110 || Nat.beq p 116 || Nat.beq p 193) 6).trans rfl
set_option maxRecDepth 100000 in
theorem e_M_layDreamt_110 {d : Nat} {Q : Value → am_H → Prop} {N : Nat} {I : Nat → Nat → Int32} {J : Nat → Nat → Int64} {x1 : Int32} {x2 : Int32} {x3 : Int32} {x4 : Int32} {x5 : Int32} {r : am_rho} : am_V d Q 256 110 [some (.ref 93), some (.int x1), some (.int x2), some (.int x3), some (.int x4), some (.int x5)] [] (am_hp N r I J) =
    am_D d 255 [.ref 93] (am_hp N r I J) (fun v h => am_asI v (fun y => am_V d Q 256 116 [some (.ref 93), some (.int x1), some (.int x2), some (.int x3), some (.int x4), some (.int x5)] [.int y, .int x5] h)) :=
  (am_V_un (fun p => Nat.beq p 2 || Nat.beq p 7 || Nat.beq p 27 || Nat.beq p 30 || Nat.beq p 80 || Nat.beq p 100 || Nat.beq p 104 || Nat.beq p 110 || Nat.beq p 116 || Nat.beq p 193) 5).trans rfl
set_option maxRecDepth 100000 in
theorem e_M_layDreamt_116 {d : Nat} {Q : Value → am_H → Prop} {N : Nat} {I : Nat → Nat → Int32} {J : Nat → Nat → Int64} {x1 : Int32} {x2 : Int32} {x3 : Int32} {x4 : Int32} {x5 : Int32} {y0 : Int32} {y1 : Int32} {r : am_rho} : am_V d Q 256 116 [some (.ref 93), some (.int x1), some (.int x2), some (.int x3), some (.int x4), some (.int x5)] [.int y1, .int y0] (am_hp N r I J) =
    am_if (decide (y1 ≤ y0)) (am_V d Q 256 193 [some (.ref 93), some (.int x1), some (.int x2), some (.int x3), some (.int x4), some (.int (nI 0))] [] (am_hp N r I J)) (am_g (am_inb x5 24) (am_if (!(decide ((I 136 x5.toNatClampNeg) = (nI 0)))) (am_V d Q 256 110 [some (.ref 93), some (.int x1), some (.int x2), some (.int x3), some (.int x4), some (.int (x5 + (nI 1)))] [] (am_hp N r I J)) (am_g (am_inb x5 24) (am_if (!(decide ((I 135 x5.toNatClampNeg) = (-nI 1)))) (am_V d Q 256 110 [some (.ref 93), some (.int x1), some (.int x2), some (.int x3), some (.int x4), some (.int (x5 + (nI 1)))] [] (am_hp N r I J)) (am_g (am_inb x5 24) (am_if (decide ((I 133 x5.toNatClampNeg) = x1)) (am_g (am_inb x5 24) (am_g (am_inb (((nI 12) * x1) + (I 132 x5.toNatClampNeg)) 60) (am_g (am_inb x5 24) (am_if (decide ((I 129 (((nI 12) * x1) + (I 132 x5.toNatClampNeg)).toNatClampNeg) = (I 134 x5.toNatClampNeg))) (am_V d Q 256 110 [some (.ref 93), some (.int x1), some (.int x2), some (.int x3), some (.int x4), some (.int (x5 + (nI 1)))] [] (am_hp N r I J)) (am_V d Q 256 110 [some (.ref 93), some (.int x1), some (.int x2), some (.int x3), some (.int (nI 0)), some (.int (x5 + (nI 1)))] [] (am_hp N r I J)))))) (am_V d Q 256 110 [some (.ref 93), some (.int x1), some (.int x2), some (.int x3), some (.int x4), some (.int (x5 + (nI 1)))] [] (am_hp N r I J)))))))) :=
  (am_V_un (fun p => Nat.beq p 2 || Nat.beq p 7 || Nat.beq p 27 || Nat.beq p 30 || Nat.beq p 80 || Nat.beq p 100 || Nat.beq p 104 || Nat.beq p 110 || Nat.beq p 116 || Nat.beq p 193) 40).trans rfl
set_option maxRecDepth 100000 in
theorem e_M_layDreamt_193 {d : Nat} {Q : Value → am_H → Prop} {N : Nat} {I : Nat → Nat → Int32} {J : Nat → Nat → Int64} {x1 : Int32} {x2 : Int32} {x3 : Int32} {x4 : Int32} {x5 : Int32} {r : am_rho} : am_V d Q 256 193 [some (.ref 93), some (.int x1), some (.int x2), some (.int x3), some (.int x4), some (.int x5)] [] (am_hp N r I J) =
    am_if (decide (((nI 12) : Int32) ≤ x5)) (am_if (decide (x4 = (nI 0))) (am_V d Q 256 80 [some (.ref 93), some (.int x1), some (.int (x2 ||| (nI 0))), some (.int (x3 + (nI 1))), am_oi (some x4), am_oi (some x5)] [] (am_hp N r I J)) (am_V d Q 256 80 [some (.ref 93), some (.int x1), some (.int (x2 ||| ((nI 1) <<< (x3 &&& nI 31)))), some (.int (x3 + (nI 1))), am_oi (some x4), am_oi (some x5)] [] (am_hp N r I J))) (am_g (am_inb (((nI 12) * x1) + x5) 60) (am_g (am_inb (((nI 12) * x3) + x5) 96) (am_V d Q 256 193 [some (.ref 93), some (.int x1), some (.int x2), some (.int x3), some (.int x4), some (.int (x5 + (nI 1)))] [] (am_hp N r (am_u I 137 (((nI 12) * x3) + x5).toNatClampNeg (I 129 (((nI 12) * x1) + x5).toNatClampNeg)) J)))) :=
  (am_V_un (fun p => Nat.beq p 2 || Nat.beq p 7 || Nat.beq p 27 || Nat.beq p 30 || Nat.beq p 80 || Nat.beq p 100 || Nat.beq p 104 || Nat.beq p 110 || Nat.beq p 116 || Nat.beq p 193) 23).trans rfl
set_option maxRecDepth 100000 in
theorem e_M_dreamt {d : Nat} {Q : Value → am_H → Prop} {N : Nat} {I : Nat → Nat → Int32} {J : Nat → Nat → Int64} {x1 : Int32} {r : am_rho} : am_D (d + 1) 257 [.ref 93, .int x1] (am_hp N r I J) Q =
    am_D d 207 [.ref 93, .int x1] (am_hp N r (am_u I 93 0 (nI 0)) J) (fun v h => am_asI v (fun y => am_V d Q 257 10 [some (.ref 93), some (.int x1)] [.int y] h)) :=
  (am_D_un rfl (fun p => Nat.beq p 10 || Nat.beq p 18) 8).trans rfl
set_option maxRecDepth 100000 in
theorem e_M_dreamt_10 {d : Nat} {Q : Value → am_H → Prop} {N : Nat} {I : Nat → Nat → Int32} {J : Nat → Nat → Int64} {x1 : Int32} {y0 : Int32} {r : am_rho} : am_V d Q 257 10 [some (.ref 93), some (.int x1)] [.int y0] (am_hp N r I J) =
    am_if (decide (y0 = (nI 0))) (Q (.int (-nI 1)) (am_hp N r I J)) (am_D d 256 [.ref 93, .int x1] (am_hp N r I J) (fun v h => am_asI v (fun y => am_V d Q 257 18 [some (.ref 93), some (.int x1)] [.int y] h))) :=
  (am_V_un (fun p => Nat.beq p 10 || Nat.beq p 18) 6).trans rfl
set_option maxRecDepth 100000 in
theorem e_M_dreamt_18 {d : Nat} {Q : Value → am_H → Prop} {N : Nat} {I : Nat → Nat → Int32} {J : Nat → Nat → Int64} {x1 : Int32} {y0 : Int32} {r : am_rho} : am_V d Q 257 18 [some (.ref 93), some (.int x1)] [.int y0] (am_hp N r I J) =
    Q (.int y0) (am_hp N r I J) :=
  (am_V_un (fun p => Nat.beq p 10 || Nat.beq p 18) 4).trans rfl
set_option maxRecDepth 100000 in
theorem e_M_tells {d : Nat} {Q : Value → am_H → Prop} {N : Nat} {I : Nat → Nat → Int32} {J : Nat → Nat → Int64} {x1 : Int32} {x2 : Int32} {r : am_rho} : am_D (d + 1) 258 [.ref 93, .int x1, .int x2] (am_hp N r I J) Q =
    am_D d 207 [.ref 93, .int x1] (am_hp N r (am_u I 93 0 (nI 0)) J) (fun v h => am_asI v (fun y => am_V d Q 258 10 [some (.ref 93), some (.int x1), some (.int x2), none, none, none, none, none, none] [.int y] h)) :=
  (am_D_un rfl (fun p => Nat.beq p 10 || Nat.beq p 29 || Nat.beq p 46 || Nat.beq p 59 || Nat.beq p 115 || Nat.beq p 128) 8).trans rfl
set_option maxRecDepth 100000 in
theorem e_M_tells_10 {d : Nat} {Q : Value → am_H → Prop} {N : Nat} {I : Nat → Nat → Int32} {J : Nat → Nat → Int64} {x1 : Int32} {x2 : Int32} {y0 : Int32} {r : am_rho} : am_V d Q 258 10 [some (.ref 93), some (.int x1), some (.int x2), none, none, none, none, none, none] [.int y0] (am_hp N r I J) =
    am_if (decide (y0 = (nI 0))) (Q (.int (-nI 1)) (am_hp N r I J)) (am_if (decide (x2 < (nI 0))) (Q (.int (-nI 1)) (am_hp N r I J)) (am_if (decide (x2 ≤ (nI 1))) (am_D d 256 [.ref 93, .int x1] (am_hp N r I J) (fun v h => am_asI v (fun y => am_V d Q 258 29 [some (.ref 93), some (.int x1), some (.int x2), none, none, none, none, none, none] [.int y] h))) (Q (.int (-nI 1)) (am_hp N r I J)))) :=
  (am_V_un (fun p => Nat.beq p 10 || Nat.beq p 29 || Nat.beq p 46 || Nat.beq p 59 || Nat.beq p 115 || Nat.beq p 128) 11).trans rfl
set_option maxRecDepth 100000 in
theorem e_M_tells_29 {d : Nat} {Q : Value → am_H → Prop} {N : Nat} {I : Nat → Nat → Int32} {J : Nat → Nat → Int64} {x1 : Int32} {x2 : Int32} {y0 : Int32} {r : am_rho} : am_V d Q 258 29 [some (.ref 93), some (.int x1), some (.int x2), none, none, none, none, none, none] [.int y0] (am_hp N r I J) =
    am_if (!(decide (y0 = (nI 0)))) (am_V d Q 258 46 [some (.ref 93), some (.int x1), some (.int x2), some (.int y0), some (.int (nI 0)), some (.int (nI 0)), some (.int (nI 0)), am_oi none, am_oi none] [] (am_hp N r I J)) (Q (.int (-nI 2)) (am_hp N r I J)) :=
  (am_V_un (fun p => Nat.beq p 10 || Nat.beq p 29 || Nat.beq p 46 || Nat.beq p 59 || Nat.beq p 115 || Nat.beq p 128) 11).trans rfl
set_option maxRecDepth 100000 in
theorem e_M_tells_46 {d : Nat} {Q : Value → am_H → Prop} {N : Nat} {I : Nat → Nat → Int32} {J : Nat → Nat → Int64} {x1 : Int32} {x2 : Int32} {x3 : Int32} {x4 : Int32} {x5 : Int32} {x6 : Int32} {o7 : Option Int32} {o8 : Option Int32} {r : am_rho} : am_V d Q 258 46 [some (.ref 93), some (.int x1), some (.int x2), some (.int x3), some (.int x4), some (.int x5), some (.int x6), am_oi o7, am_oi o8] [] (am_hp N r I J) =
    am_if (decide (((nI 12) : Int32) ≤ x6)) (am_if (!(decide (x2 = (nI 0)))) (Q (.int x5) (am_hp N r I J)) (Q (.int x4) (am_hp N r I J))) (am_V d Q 258 59 [some (.ref 93), some (.int x1), some (.int x2), some (.int x3), some (.int x4), some (.int x5), some (.int x6), some (.int (nI 0)), some (.int (nI 0))] [] (am_hp N r I J)) :=
  by cases o7 <;> exact (am_V_un (fun p => Nat.beq p 10 || Nat.beq p 29 || Nat.beq p 46 || Nat.beq p 59 || Nat.beq p 115 || Nat.beq p 128) 10).trans rfl
set_option maxRecDepth 100000 in
theorem e_M_tells_59 {d : Nat} {Q : Value → am_H → Prop} {N : Nat} {I : Nat → Nat → Int32} {J : Nat → Nat → Int64} {x1 : Int32} {x2 : Int32} {x3 : Int32} {x4 : Int32} {x5 : Int32} {x6 : Int32} {x7 : Int32} {x8 : Int32} {r : am_rho} : am_V d Q 258 59 [some (.ref 93), some (.int x1), some (.int x2), some (.int x3), some (.int x4), some (.int x5), some (.int x6), some (.int x7), some (.int x8)] [] (am_hp N r I J) =
    am_if (decide ((I 95 0) ≤ x8)) (am_D d 216 [.int x7] (am_hp N r I J) (fun v h => am_asI v (fun y => am_V d Q 258 115 [some (.ref 93), some (.int x1), some (.int x2), some (.int x3), some (.int x4), some (.int x5), some (.int x6), some (.int x7), some (.int x8)] [.int y] h))) (am_if (!(decide (((x3 >>> (x8 &&& nI 31)) &&& (nI 1)) = (nI 1)))) (am_V d Q 258 59 [some (.ref 93), some (.int x1), some (.int x2), some (.int x3), some (.int x4), some (.int x5), some (.int x6), some (.int (x7 ||| (nI 0))), some (.int (x8 + (nI 1)))] [] (am_hp N r I J)) (am_g (am_inb (((nI 12) * x8) + x6) 96) (am_V d Q 258 59 [some (.ref 93), some (.int x1), some (.int x2), some (.int x3), some (.int x4), some (.int x5), some (.int x6), some (.int (x7 ||| ((nI 1) <<< ((I 137 (((nI 12) * x8) + x6).toNatClampNeg) &&& nI 31)))), some (.int (x8 + (nI 1)))] [] (am_hp N r I J)))) :=
  (am_V_un (fun p => Nat.beq p 10 || Nat.beq p 29 || Nat.beq p 46 || Nat.beq p 59 || Nat.beq p 115 || Nat.beq p 128) 31).trans rfl
set_option maxRecDepth 100000 in
theorem e_M_tells_115 {d : Nat} {Q : Value → am_H → Prop} {N : Nat} {I : Nat → Nat → Int32} {J : Nat → Nat → Int64} {x1 : Int32} {x2 : Int32} {x3 : Int32} {x4 : Int32} {x5 : Int32} {x6 : Int32} {x7 : Int32} {x8 : Int32} {y0 : Int32} {r : am_rho} : am_V d Q 258 115 [some (.ref 93), some (.int x1), some (.int x2), some (.int x3), some (.int x4), some (.int x5), some (.int x6), some (.int x7), some (.int x8)] [.int y0] (am_hp N r I J) =
    am_if (decide (x5 < y0)) (am_D d 216 [.int x7] (am_hp N r I J) (fun v h => am_asI v (fun y => am_V d Q 258 128 [some (.ref 93), some (.int x1), some (.int x2), some (.int x3), some (.int x4), some (.int x5), some (.int x6), some (.int x7), some (.int x8)] [.int y] h))) (am_V d Q 258 46 [some (.ref 93), some (.int x1), some (.int x2), some (.int x3), some (.int x4), some (.int x5), some (.int (x6 + (nI 1))), am_oi (some x7), am_oi (some x8)] [] (am_hp N r I J)) :=
  (am_V_un (fun p => Nat.beq p 10 || Nat.beq p 29 || Nat.beq p 46 || Nat.beq p 59 || Nat.beq p 115 || Nat.beq p 128) 7).trans rfl
set_option maxRecDepth 100000 in
theorem e_M_tells_128 {d : Nat} {Q : Value → am_H → Prop} {N : Nat} {I : Nat → Nat → Int32} {J : Nat → Nat → Int64} {x1 : Int32} {x2 : Int32} {x3 : Int32} {x4 : Int32} {x5 : Int32} {x6 : Int32} {x7 : Int32} {x8 : Int32} {y0 : Int32} {r : am_rho} : am_V d Q 258 128 [some (.ref 93), some (.int x1), some (.int x2), some (.int x3), some (.int x4), some (.int x5), some (.int x6), some (.int x7), some (.int x8)] [.int y0] (am_hp N r I J) =
    am_V d Q 258 46 [some (.ref 93), some (.int x1), some (.int x2), some (.int x3), some (.int x6), some (.int y0), some (.int (x6 + (nI 1))), am_oi (some x7), am_oi (some x8)] [] (am_hp N r I J) :=
  (am_V_un (fun p => Nat.beq p 10 || Nat.beq p 29 || Nat.beq p 46 || Nat.beq p 59 || Nat.beq p 115 || Nat.beq p 128) 7).trans rfl
set_option maxRecDepth 100000 in
theorem e_M_standing {d : Nat} {Q : Value → am_H → Prop} {N : Nat} {I : Nat → Nat → Int32} {J : Nat → Nat → Int64} {x1 : Int32} {r : am_rho} : am_D (d + 1) 259 [.ref 93, .int x1] (am_hp N r I J) Q =
    am_V d Q 259 4 [some (.ref 93), some (.int x1), some (.int (nI 0)), some (.int (nI 0))] [] (am_hp N r I J) :=
  (am_D_un rfl (fun p => Nat.beq p 4) 6).trans rfl
set_option maxRecDepth 100000 in
theorem e_M_standing_4 {d : Nat} {Q : Value → am_H → Prop} {N : Nat} {I : Nat → Nat → Int32} {J : Nat → Nat → Int64} {x1 : Int32} {x2 : Int32} {x3 : Int32} {r : am_rho} : am_V d Q 259 4 [some (.ref 93), some (.int x1), some (.int x2), some (.int x3)] [] (am_hp N r I J) =
    am_if (decide ((I 95 2) ≤ x3)) (Q (.int x2) (am_hp N r I J)) (am_g (am_inb ((((nI 12) * x3) + (nI 12)) - (nI 1)) 60) (am_if (!(decide ((I 129 ((((nI 12) * x3) + (nI 12)) - (nI 1)).toNatClampNeg) = x1))) (am_V d Q 259 4 [some (.ref 93), some (.int x1), some (.int (x2 + (nI 0))), some (.int (x3 + (nI 1)))] [] (am_hp N r I J)) (am_V d Q 259 4 [some (.ref 93), some (.int x1), some (.int (x2 + (nI 1))), some (.int (x3 + (nI 1)))] [] (am_hp N r I J)))) :=
  (am_V_un (fun p => Nat.beq p 4) 27).trans rfl
set_option maxRecDepth 100000 in
theorem e_M_layCorners {d : Nat} {Q : Value → am_H → Prop} {N : Nat} {I : Nat → Nat → Int32} {J : Nat → Nat → Int64} {x1 : Int32} {x2 : Int32} {r : am_rho} : am_D (d + 1) 260 [.ref 93, .int x1, .int x2] (am_hp N r I J) Q =
    am_V d Q 260 12 [some (.ref 93), some (.int x1), some (.int x2), some (.int (nI 0)), am_oi none] [] (am_hp N r (am_u (am_u I 93 56 x1) 93 57 x2) J) :=
  (am_D_un rfl (fun p => Nat.beq p 12 || Nat.beq p 25 || Nat.beq p 51 || Nat.beq p 67 || Nat.beq p 97) 10).trans rfl
set_option maxRecDepth 100000 in
theorem e_M_layCorners_12 {d : Nat} {Q : Value → am_H → Prop} {N : Nat} {I : Nat → Nat → Int32} {J : Nat → Nat → Int64} {x1 : Int32} {x2 : Int32} {x3 : Int32} {o4 : Option Int32} {r : am_rho} : am_V d Q 260 12 [some (.ref 93), some (.int x1), some (.int x2), some (.int x3), am_oi o4] [] (am_hp N r I J) =
    am_if (decide ((I 95 0) ≤ x3)) (Q .null (am_hp N r (am_u (am_u I 93 54 (-nI 1)) 93 55 (-nI 1)) J)) (am_V d Q 260 25 [some (.ref 93), some (.int x1), some (.int x2), some (.int x3), some (.int (nI 0))] [] (am_hp N r I J)) :=
  (am_V_un (fun p => Nat.beq p 12 || Nat.beq p 25 || Nat.beq p 51 || Nat.beq p 67 || Nat.beq p 97) 15).trans rfl
set_option maxRecDepth 100000 in
theorem e_M_layCorners_25 {d : Nat} {Q : Value → am_H → Prop} {N : Nat} {I : Nat → Nat → Int32} {J : Nat → Nat → Int64} {x1 : Int32} {x2 : Int32} {x3 : Int32} {x4 : Int32} {r : am_rho} : am_V d Q 260 25 [some (.ref 93), some (.int x1), some (.int x2), some (.int x3), some (.int x4)] [] (am_hp N r I J) =
    am_if (decide ((I 95 0) ≤ x4)) (am_V d Q 260 12 [some (.ref 93), some (.int x1), some (.int x2), some (.int (x3 + (nI 1))), am_oi (some x4)] [] (am_hp N r I J)) (am_D d 232 [.ref 93] (am_hp N r (am_u (am_u I 93 54 x3) 93 55 x4) J) (fun v h => am_V d Q 260 51 [some (.ref 93), some (.int x1), some (.int x2), some (.int x3), some (.int x4)] [] h)) :=
  (am_V_un (fun p => Nat.beq p 12 || Nat.beq p 25 || Nat.beq p 51 || Nat.beq p 67 || Nat.beq p 97) 16).trans rfl
set_option maxRecDepth 100000 in
theorem e_M_layCorners_51 {d : Nat} {Q : Value → am_H → Prop} {N : Nat} {I : Nat → Nat → Int32} {J : Nat → Nat → Int64} {x1 : Int32} {x2 : Int32} {x3 : Int32} {x4 : Int32} {r : am_rho} : am_V d Q 260 51 [some (.ref 93), some (.int x1), some (.int x2), some (.int x3), some (.int x4)] [] (am_hp N r I J) =
    am_D d 259 [.ref 93, .int x3] (am_hp N r I J) (fun v h => am_asI v (fun y => am_V d Q 260 67 [some (.ref 93), some (.int x1), some (.int x2), some (.int x3), some (.int x4)] [.int y, .int (((nI 8) * x3) + x4), .ref 138] h)) :=
  (am_V_un (fun p => Nat.beq p 12 || Nat.beq p 25 || Nat.beq p 51 || Nat.beq p 67 || Nat.beq p 97) 12).trans rfl
set_option maxRecDepth 100000 in
theorem e_M_layCorners_67 {d : Nat} {Q : Value → am_H → Prop} {N : Nat} {I : Nat → Nat → Int32} {J : Nat → Nat → Int64} {x1 : Int32} {x2 : Int32} {x3 : Int32} {x4 : Int32} {y1 : Int32} {y2 : Int32} {r : am_rho} : am_V d Q 260 67 [some (.ref 93), some (.int x1), some (.int x2), some (.int x3), some (.int x4)] [.int y2, .int y1, .ref 138] (am_hp N r I J) =
    am_if (!(decide (x3 = x4))) (am_g (am_inb y1 64) (am_D d 259 [.ref 93, .int x4] (am_hp N r (am_u I 138 y1.toNatClampNeg (y2 / (nI 1))) J) (fun v h => am_asI v (fun y => am_V d Q 260 97 [some (.ref 93), some (.int x1), some (.int x2), some (.int x3), some (.int x4)] [.int y, .int (((nI 8) * x3) + x4), .ref 139] h)))) (am_g (am_inb y1 64) (am_D d 259 [.ref 93, .int x4] (am_hp N r (am_u I 138 y1.toNatClampNeg (y2 / (nI 2))) J) (fun v h => am_asI v (fun y => am_V d Q 260 97 [some (.ref 93), some (.int x1), some (.int x2), some (.int x3), some (.int x4)] [.int y, .int (((nI 8) * x3) + x4), .ref 139] h)))) :=
  (am_V_un (fun p => Nat.beq p 12 || Nat.beq p 25 || Nat.beq p 51 || Nat.beq p 67 || Nat.beq p 97) 19).trans rfl
set_option maxRecDepth 100000 in
theorem e_M_layCorners_97 {d : Nat} {Q : Value → am_H → Prop} {N : Nat} {I : Nat → Nat → Int32} {J : Nat → Nat → Int64} {x1 : Int32} {x2 : Int32} {x3 : Int32} {x4 : Int32} {y1 : Int32} {y2 : Int32} {r : am_rho} : am_V d Q 260 97 [some (.ref 93), some (.int x1), some (.int x2), some (.int x3), some (.int x4)] [.int y2, .int y1, .ref 139] (am_hp N r I J) =
    am_if (!(decide (x3 = x4))) (am_g (am_inb y1 64) (am_V d Q 260 25 [some (.ref 93), some (.int x1), some (.int x2), some (.int x3), some (.int (x4 + (nI 1)))] [] (am_hp N r (am_u I 139 y1.toNatClampNeg (y2 / (nI 1))) J))) (am_g (am_inb y1 64) (am_V d Q 260 25 [some (.ref 93), some (.int x1), some (.int x2), some (.int x3), some (.int (x4 + (nI 1)))] [] (am_hp N r (am_u I 139 y1.toNatClampNeg (y2 / (nI 2))) J))) :=
  (am_V_un (fun p => Nat.beq p 12 || Nat.beq p 25 || Nat.beq p 51 || Nat.beq p 67 || Nat.beq p 97) 11).trans rfl
set_option maxRecDepth 100000 in
theorem e_M_isRest {d : Nat} {Q : Value → am_H → Prop} {N : Nat} {I : Nat → Nat → Int32} {J : Nat → Nat → Int64} {x1 : Int32} {x2 : Int32} {r : am_rho} : am_D (d + 1) 261 [.ref 93, .int x1, .int x2] (am_hp N r I J) Q =
    am_V d Q 261 2 [some (.ref 93), some (.int x1), some (.int x2), some (.int (nI 0))] [] (am_hp N r I J) :=
  (am_D_un rfl (fun p => Nat.beq p 2) 4).trans rfl
set_option maxRecDepth 100000 in
theorem e_M_isRest_2 {d : Nat} {Q : Value → am_H → Prop} {N : Nat} {I : Nat → Nat → Int32} {J : Nat → Nat → Int64} {x1 : Int32} {x2 : Int32} {x3 : Int32} {r : am_rho} : am_V d Q 261 2 [some (.ref 93), some (.int x1), some (.int x2), some (.int x3)] [] (am_hp N r I J) =
    am_if (decide ((I 95 0) ≤ x3)) (Q (.int (nI 1)) (am_hp N r I J)) (am_g (am_inb (((nI 8) * x3) + x2) 64) (am_g (am_inb (((nI 8) * x1) + x2) 64) (am_if (decide ((I 138 (((nI 8) * x1) + x2).toNatClampNeg) < (I 138 (((nI 8) * x3) + x2).toNatClampNeg))) (Q (.int (nI 0)) (am_hp N r I J)) (am_g (am_inb (((nI 8) * x1) + x3) 64) (am_g (am_inb (((nI 8) * x1) + x2) 64) (am_if (decide ((I 139 (((nI 8) * x1) + x3).toNatClampNeg) ≤ (I 139 (((nI 8) * x1) + x2).toNatClampNeg))) (am_V d Q 261 2 [some (.ref 93), some (.int x1), some (.int x2), some (.int (x3 + (nI 1)))] [] (am_hp N r I J)) (Q (.int (nI 0)) (am_hp N r I J)))))))) :=
  (am_V_un (fun p => Nat.beq p 2) 44).trans rfl
set_option maxRecDepth 100000 in
theorem e_M_restOf {d : Nat} {Q : Value → am_H → Prop} {N : Nat} {I : Nat → Nat → Int32} {J : Nat → Nat → Int64} {x1 : Int32} {r : am_rho} : am_D (d + 1) 262 [.ref 93, .int x1] (am_hp N r I J) Q =
    am_V d Q 262 4 [some (.ref 93), some (.int x1), some (.int (nI 0)), some (.int (nI 0)), am_oi none] [] (am_hp N r I J) :=
  (am_D_un rfl (fun p => Nat.beq p 4 || Nat.beq p 17 || Nat.beq p 35) 6).trans rfl
set_option maxRecDepth 100000 in
theorem e_M_restOf_4 {d : Nat} {Q : Value → am_H → Prop} {N : Nat} {I : Nat → Nat → Int32} {J : Nat → Nat → Int64} {x1 : Int32} {x2 : Int32} {x3 : Int32} {o4 : Option Int32} {r : am_rho} : am_V d Q 262 4 [some (.ref 93), some (.int x1), some (.int x2), some (.int x3), am_oi o4] [] (am_hp N r I J) =
    am_if (decide ((I 95 0) ≤ x3)) (am_if (!(decide (x1 = (-nI 1)))) (Q (.int (-nI 2)) (am_hp N r I J)) (Q (.int x2) (am_hp N r I J))) (am_V d Q 262 17 [some (.ref 93), some (.int x1), some (.int x2), some (.int x3), some (.int (nI 0))] [] (am_hp N r I J)) :=
  (am_V_un (fun p => Nat.beq p 4 || Nat.beq p 17 || Nat.beq p 35) 14).trans rfl
set_option maxRecDepth 100000 in
theorem e_M_restOf_17 {d : Nat} {Q : Value → am_H → Prop} {N : Nat} {I : Nat → Nat → Int32} {J : Nat → Nat → Int64} {x1 : Int32} {x2 : Int32} {x3 : Int32} {x4 : Int32} {r : am_rho} : am_V d Q 262 17 [some (.ref 93), some (.int x1), some (.int x2), some (.int x3), some (.int x4)] [] (am_hp N r I J) =
    am_if (decide ((I 95 0) ≤ x4)) (am_V d Q 262 4 [some (.ref 93), some (.int x1), some (.int x2), some (.int (x3 + (nI 1))), am_oi (some x4)] [] (am_hp N r I J)) (am_D d 261 [.ref 93, .int x3, .int x4] (am_hp N r I J) (fun v h => am_asI v (fun y => am_V d Q 262 35 [some (.ref 93), some (.int x1), some (.int x2), some (.int x3), some (.int x4)] [.int y] h))) :=
  (am_V_un (fun p => Nat.beq p 4 || Nat.beq p 17 || Nat.beq p 35) 12).trans rfl
set_option maxRecDepth 100000 in
theorem e_M_restOf_35 {d : Nat} {Q : Value → am_H → Prop} {N : Nat} {I : Nat → Nat → Int32} {J : Nat → Nat → Int64} {x1 : Int32} {x2 : Int32} {x3 : Int32} {x4 : Int32} {y0 : Int32} {r : am_rho} : am_V d Q 262 35 [some (.ref 93), some (.int x1), some (.int x2), some (.int x3), some (.int x4)] [.int y0] (am_hp N r I J) =
    am_if (!(decide (y0 = (nI 0)))) (am_if (!(decide (x2 = x1))) (am_V d Q 262 17 [some (.ref 93), some (.int x1), some (.int (x2 + (nI 1))), some (.int x3), some (.int (x4 + (nI 1)))] [] (am_hp N r I J)) (Q (.int (((nI 10) * x3) + x4)) (am_hp N r I J))) (am_V d Q 262 17 [some (.ref 93), some (.int x1), some (.int x2), some (.int x3), some (.int (x4 + (nI 1)))] [] (am_hp N r I J)) :=
  (am_V_un (fun p => Nat.beq p 4 || Nat.beq p 17 || Nat.beq p 35) 12).trans rfl
set_option maxRecDepth 100000 in
theorem e_M_areCorners {d : Nat} {Q : Value → am_H → Prop} {N : Nat} {I : Nat → Nat → Int32} {J : Nat → Nat → Int64} {x1 : Int32} {x2 : Int32} {r : am_rho} : am_D (d + 1) 263 [.ref 93, .int x1, .int x2] (am_hp N r I J) Q =
    am_if (decide (x1 < (nI 1))) (Q (.int (nI 0)) (am_hp N r I J)) (am_if (decide (((nI 9) : Int32) < x1)) (Q (.int (nI 0)) (am_hp N r I J)) (am_if (decide (x2 < (nI 1))) (Q (.int (nI 0)) (am_hp N r I J)) (am_if (decide (((nI 9) : Int32) < x2)) (Q (.int (nI 0)) (am_hp N r I J)) (am_if (decide ((I 95 0) ≤ (nI 0))) (Q (.int (nI 0)) (am_hp N r I J)) (Q (.int (nI 1)) (am_hp N r I J)))))) :=
  (am_D_un rfl (fun p => false) 22).trans rfl
set_option maxRecDepth 100000 in
theorem e_M_rests {d : Nat} {Q : Value → am_H → Prop} {N : Nat} {I : Nat → Nat → Int32} {J : Nat → Nat → Int64} {x1 : Int32} {x2 : Int32} {r : am_rho} : am_D (d + 1) 264 [.ref 93, .int x1, .int x2] (am_hp N r I J) Q =
    am_D d 263 [.ref 93, .int x1, .int x2] (am_hp N r (am_u I 93 0 (nI 0)) J) (fun v h => am_asI v (fun y => am_V d Q 264 11 [some (.ref 93), some (.int x1), some (.int x2)] [.int y] h)) :=
  (am_D_un rfl (fun p => Nat.beq p 11 || Nat.beq p 22 || Nat.beq p 27) 9).trans rfl
set_option maxRecDepth 100000 in
theorem e_M_rests_11 {d : Nat} {Q : Value → am_H → Prop} {N : Nat} {I : Nat → Nat → Int32} {J : Nat → Nat → Int64} {x1 : Int32} {x2 : Int32} {y0 : Int32} {r : am_rho} : am_V d Q 264 11 [some (.ref 93), some (.int x1), some (.int x2)] [.int y0] (am_hp N r I J) =
    am_if (!(decide (y0 = (nI 0)))) (am_D d 260 [.ref 93, .int x1, .int x2] (am_hp N r I J) (fun v h => am_V d Q 264 22 [some (.ref 93), some (.int x1), some (.int x2)] [] h)) (Q (.int (-nI 1)) (am_hp N r I J)) :=
  (am_V_un (fun p => Nat.beq p 11 || Nat.beq p 22 || Nat.beq p 27) 7).trans rfl
set_option maxRecDepth 100000 in
theorem e_M_rests_22 {d : Nat} {Q : Value → am_H → Prop} {N : Nat} {I : Nat → Nat → Int32} {J : Nat → Nat → Int64} {x1 : Int32} {x2 : Int32} {r : am_rho} : am_V d Q 264 22 [some (.ref 93), some (.int x1), some (.int x2)] [] (am_hp N r I J) =
    am_D d 262 [.ref 93, .int (-nI 1)] (am_hp N r I J) (fun v h => am_asI v (fun y => am_V d Q 264 27 [some (.ref 93), some (.int x1), some (.int x2)] [.int y] h)) :=
  (am_V_un (fun p => Nat.beq p 11 || Nat.beq p 22 || Nat.beq p 27) 5).trans rfl
set_option maxRecDepth 100000 in
theorem e_M_rests_27 {d : Nat} {Q : Value → am_H → Prop} {N : Nat} {I : Nat → Nat → Int32} {J : Nat → Nat → Int64} {x1 : Int32} {x2 : Int32} {y0 : Int32} {r : am_rho} : am_V d Q 264 27 [some (.ref 93), some (.int x1), some (.int x2)] [.int y0] (am_hp N r I J) =
    Q (.int y0) (am_hp N r I J) :=
  (am_V_un (fun p => Nat.beq p 11 || Nat.beq p 22 || Nat.beq p 27) 3).trans rfl
set_option maxRecDepth 100000 in
theorem e_M_rest {d : Nat} {Q : Value → am_H → Prop} {N : Nat} {I : Nat → Nat → Int32} {J : Nat → Nat → Int64} {x1 : Int32} {x2 : Int32} {x3 : Int32} {r : am_rho} : am_D (d + 1) 265 [.ref 93, .int x1, .int x2, .int x3] (am_hp N r I J) Q =
    am_D d 263 [.ref 93, .int x1, .int x2] (am_hp N r (am_u I 93 0 (nI 0)) J) (fun v h => am_asI v (fun y => am_V d Q 265 11 [some (.ref 93), some (.int x1), some (.int x2), some (.int x3)] [.int y] h)) :=
  (am_D_un rfl (fun p => Nat.beq p 11 || Nat.beq p 26 || Nat.beq p 31) 9).trans rfl
set_option maxRecDepth 100000 in
theorem e_M_rest_11 {d : Nat} {Q : Value → am_H → Prop} {N : Nat} {I : Nat → Nat → Int32} {J : Nat → Nat → Int64} {x1 : Int32} {x2 : Int32} {x3 : Int32} {y0 : Int32} {r : am_rho} : am_V d Q 265 11 [some (.ref 93), some (.int x1), some (.int x2), some (.int x3)] [.int y0] (am_hp N r I J) =
    am_if (decide (y0 = (nI 0))) (Q (.int (-nI 1)) (am_hp N r I J)) (am_if (decide (((nI 0) : Int32) ≤ x3)) (am_D d 260 [.ref 93, .int x1, .int x2] (am_hp N r I J) (fun v h => am_V d Q 265 26 [some (.ref 93), some (.int x1), some (.int x2), some (.int x3)] [] h)) (Q (.int (-nI 1)) (am_hp N r I J))) :=
  (am_V_un (fun p => Nat.beq p 11 || Nat.beq p 26 || Nat.beq p 31) 9).trans rfl
set_option maxRecDepth 100000 in
theorem e_M_rest_26 {d : Nat} {Q : Value → am_H → Prop} {N : Nat} {I : Nat → Nat → Int32} {J : Nat → Nat → Int64} {x1 : Int32} {x2 : Int32} {x3 : Int32} {r : am_rho} : am_V d Q 265 26 [some (.ref 93), some (.int x1), some (.int x2), some (.int x3)] [] (am_hp N r I J) =
    am_D d 262 [.ref 93, .int x3] (am_hp N r I J) (fun v h => am_asI v (fun y => am_V d Q 265 31 [some (.ref 93), some (.int x1), some (.int x2), some (.int x3)] [.int y] h)) :=
  (am_V_un (fun p => Nat.beq p 11 || Nat.beq p 26 || Nat.beq p 31) 5).trans rfl
set_option maxRecDepth 100000 in
theorem e_M_rest_31 {d : Nat} {Q : Value → am_H → Prop} {N : Nat} {I : Nat → Nat → Int32} {J : Nat → Nat → Int64} {x1 : Int32} {x2 : Int32} {x3 : Int32} {y0 : Int32} {r : am_rho} : am_V d Q 265 31 [some (.ref 93), some (.int x1), some (.int x2), some (.int x3)] [.int y0] (am_hp N r I J) =
    Q (.int y0) (am_hp N r I J) :=
  (am_V_un (fun p => Nat.beq p 11 || Nat.beq p 26 || Nat.beq p 31) 3).trans rfl
set_option maxRecDepth 100000 in
theorem e_M_brought {d : Nat} {Q : Value → am_H → Prop} {N : Nat} {I : Nat → Nat → Int32} {J : Nat → Nat → Int64} {x1 : Int32} {r : am_rho} : am_D (d + 1) 266 [.ref 93, .int x1] (am_hp N r I J) Q =
    am_D d 206 [.ref 93, .int x1] (am_hp N r (am_u I 93 0 (nI 0)) J) (fun v h => am_asI v (fun y => am_V d Q 266 10 [some (.ref 93), some (.int x1), none, none, none] [.int y] h)) :=
  (am_D_un rfl (fun p => Nat.beq p 10 || Nat.beq p 19 || Nat.beq p 23 || Nat.beq p 41) 8).trans rfl
set_option maxRecDepth 100000 in
theorem e_M_brought_10 {d : Nat} {Q : Value → am_H → Prop} {N : Nat} {I : Nat → Nat → Int32} {J : Nat → Nat → Int64} {x1 : Int32} {y0 : Int32} {r : am_rho} : am_V d Q 266 10 [some (.ref 93), some (.int x1), none, none, none] [.int y0] (am_hp N r I J) =
    am_if (!(decide (y0 = (nI 0)))) (am_D d 232 [.ref 93] (am_hp N r I J) (fun v h => am_V d Q 266 19 [some (.ref 93), some (.int x1), none, none, none] [] h)) (Q (.int (-nI 1)) (am_hp N r I J)) :=
  (am_V_un (fun p => Nat.beq p 10 || Nat.beq p 19 || Nat.beq p 23 || Nat.beq p 41) 5).trans rfl
set_option maxRecDepth 100000 in
theorem e_M_brought_19 {d : Nat} {Q : Value → am_H → Prop} {N : Nat} {I : Nat → Nat → Int32} {J : Nat → Nat → Int64} {x1 : Int32} {r : am_rho} : am_V d Q 266 19 [some (.ref 93), some (.int x1), none, none, none] [] (am_hp N r I J) =
    am_V d Q 266 23 [some (.ref 93), some (.int x1), some (.int (nI 0)), some (.int (nI 0)), am_oi none] [] (am_hp N r I J) :=
  (am_V_un (fun p => Nat.beq p 10 || Nat.beq p 19 || Nat.beq p 23 || Nat.beq p 41) 6).trans rfl
set_option maxRecDepth 100000 in
theorem e_M_brought_23 {d : Nat} {Q : Value → am_H → Prop} {N : Nat} {I : Nat → Nat → Int32} {J : Nat → Nat → Int64} {x1 : Int32} {x2 : Int32} {x3 : Int32} {o4 : Option Int32} {r : am_rho} : am_V d Q 266 23 [some (.ref 93), some (.int x1), some (.int x2), some (.int x3), am_oi o4] [] (am_hp N r I J) =
    am_if (decide ((I 95 2) ≤ x3)) (Q (.int x2) (am_hp N r I J)) (am_V d Q 266 41 [some (.ref 93), some (.int x1), some (.int x2), some (.int x3), some (.int (I 118 0))] [] (am_hp N r I J)) :=
  (am_V_un (fun p => Nat.beq p 10 || Nat.beq p 19 || Nat.beq p 23 || Nat.beq p 41) 13).trans rfl
set_option maxRecDepth 100000 in
theorem e_M_brought_41 {d : Nat} {Q : Value → am_H → Prop} {N : Nat} {I : Nat → Nat → Int32} {J : Nat → Nat → Int64} {x1 : Int32} {x2 : Int32} {x3 : Int32} {x4 : Int32} {r : am_rho} : am_V d Q 266 41 [some (.ref 93), some (.int x1), some (.int x2), some (.int x3), some (.int x4)] [] (am_hp N r I J) =
    am_if (decide (((nI 12) : Int32) ≤ x4)) (am_V d Q 266 23 [some (.ref 93), some (.int x1), some (.int x2), some (.int (x3 + (nI 1))), am_oi (some x4)] [] (am_hp N r I J)) (am_g (am_inb (((nI 12) * x3) + x4) 60) (am_if (!(decide ((I 129 (((nI 12) * x3) + x4).toNatClampNeg) = x1))) (am_V d Q 266 41 [some (.ref 93), some (.int x1), some (.int (x2 ||| (nI 0))), some (.int x3), some (.int (x4 + (nI 1)))] [] (am_hp N r I J)) (am_V d Q 266 41 [some (.ref 93), some (.int x1), some (.int (x2 ||| ((nI 1) <<< (x3 &&& nI 31)))), some (.int x3), some (.int (x4 + (nI 1)))] [] (am_hp N r I J)))) :=
  (am_V_un (fun p => Nat.beq p 10 || Nat.beq p 19 || Nat.beq p 23 || Nat.beq p 41) 24).trans rfl
set_option maxRecDepth 100000 in
theorem e_M_arrivedBy {d : Nat} {Q : Value → am_H → Prop} {N : Nat} {I : Nat → Nat → Int32} {J : Nat → Nat → Int64} {x1 : Int32} {r : am_rho} : am_D (d + 1) 267 [.ref 93, .int x1] (am_hp N r I J) Q =
    am_D d 232 [.ref 93] (am_hp N r (am_u I 93 58 x1) J) (fun v h => am_V d Q 267 9 [some (.ref 93), some (.int x1)] [] h) :=
  (am_D_un rfl (fun p => Nat.beq p 9 || Nat.beq p 19) 7).trans rfl
set_option maxRecDepth 100000 in
theorem e_M_arrivedBy_9 {d : Nat} {Q : Value → am_H → Prop} {N : Nat} {I : Nat → Nat → Int32} {J : Nat → Nat → Int64} {x1 : Int32} {r : am_rho} : am_V d Q 267 9 [some (.ref 93), some (.int x1)] [] (am_hp N r I J) =
    am_D d 234 [.ref 93, .int (nI 1)] (am_hp N r (am_u I 93 58 (nI 0)) J) (fun v h => am_asI v (fun y => am_V d Q 267 19 [some (.ref 93), some (.int x1)] [.int y] h)) :=
  (am_V_un (fun p => Nat.beq p 9 || Nat.beq p 19) 8).trans rfl
set_option maxRecDepth 100000 in
theorem e_M_arrivedBy_19 {d : Nat} {Q : Value → am_H → Prop} {N : Nat} {I : Nat → Nat → Int32} {J : Nat → Nat → Int64} {x1 : Int32} {y0 : Int32} {r : am_rho} : am_V d Q 267 19 [some (.ref 93), some (.int x1)] [.int y0] (am_hp N r I J) =
    Q (.int y0) (am_hp N r I J) :=
  (am_V_un (fun p => Nat.beq p 9 || Nat.beq p 19) 3).trans rfl
set_option maxRecDepth 100000 in
theorem e_M_cost {d : Nat} {Q : Value → am_H → Prop} {N : Nat} {I : Nat → Nat → Int32} {J : Nat → Nat → Int64} {x1 : Int32} {r : am_rho} : am_D (d + 1) 268 [.ref 93, .int x1] (am_hp N r I J) Q =
    am_if (decide (x1 < (nI 0))) (Q (.int (-nI 1)) (am_hp N r (am_u I 93 0 (nI 0)) J)) (am_if (decide (x1 < ((nI 1) <<< (((am_u I 93 0 (nI 0)) 95 2) &&& nI 31)))) (am_D d 267 [.ref 93, .int (nI 0)] (am_hp N r (am_u I 93 0 (nI 0)) J) (fun v h => am_asI v (fun y => am_V d Q 268 29 [some (.ref 93), some (.int x1)] [.int y, .int (nI 0)] h))) (Q (.int (-nI 1)) (am_hp N r (am_u I 93 0 (nI 0)) J))) :=
  (am_D_un rfl (fun p => Nat.beq p 29 || Nat.beq p 34 || Nat.beq p 38) 19).trans rfl
set_option maxRecDepth 100000 in
theorem e_M_cost_29 {d : Nat} {Q : Value → am_H → Prop} {N : Nat} {I : Nat → Nat → Int32} {J : Nat → Nat → Int64} {x1 : Int32} {y0 : Int32} {y1 : Int32} {r : am_rho} : am_V d Q 268 29 [some (.ref 93), some (.int x1)] [.int y1, .int y0] (am_hp N r I J) =
    am_D d 267 [.ref 93, .int x1] (am_hp N r I J) (fun v h => am_asI v (fun y => am_V d Q 268 34 [some (.ref 93), some (.int x1)] [.int y, .int y1, .int y0] h)) :=
  (am_V_un (fun p => Nat.beq p 29 || Nat.beq p 34 || Nat.beq p 38) 5).trans rfl
set_option maxRecDepth 100000 in
theorem e_M_cost_34 {d : Nat} {Q : Value → am_H → Prop} {N : Nat} {I : Nat → Nat → Int32} {J : Nat → Nat → Int64} {x1 : Int32} {y0 : Int32} {y1 : Int32} {y2 : Int32} {r : am_rho} : am_V d Q 268 34 [some (.ref 93), some (.int x1)] [.int y2, .int y1, .int y0] (am_hp N r I J) =
    am_D d 279 [.int y0, .int (y1 - y2)] (am_hp N r I J) (fun v h => am_asI v (fun y => am_V d Q 268 38 [some (.ref 93), some (.int x1)] [.int y] h)) :=
  (am_V_un (fun p => Nat.beq p 29 || Nat.beq p 34 || Nat.beq p 38) 4).trans rfl
set_option maxRecDepth 100000 in
theorem e_M_cost_38 {d : Nat} {Q : Value → am_H → Prop} {N : Nat} {I : Nat → Nat → Int32} {J : Nat → Nat → Int64} {x1 : Int32} {y0 : Int32} {r : am_rho} : am_V d Q 268 38 [some (.ref 93), some (.int x1)] [.int y0] (am_hp N r I J) =
    Q (.int y0) (am_hp N r I J) :=
  (am_V_un (fun p => Nat.beq p 29 || Nat.beq p 34 || Nat.beq p 38) 3).trans rfl
set_option maxRecDepth 100000 in
theorem e_M_need {d : Nat} {Q : Value → am_H → Prop} {N : Nat} {I : Nat → Nat → Int32} {J : Nat → Nat → Int64} {r : am_rho} : am_D (d + 1) 269 [.ref 93] (am_hp N r I J) Q =
    am_D d 267 [.ref 93, .int (nI 0)] (am_hp N r (am_u I 93 0 (nI 0)) J) (fun v h => am_asI v (fun y => am_V d Q 269 21 [some (.ref 93), some (.int (((nI 1) <<< (((am_u I 93 0 (nI 0)) 95 2) &&& nI 31)) - (nI 1))), none, none, none] [.int y] h)) :=
  (am_D_un rfl (fun p => Nat.beq p 21 || Nat.beq p 27 || Nat.beq p 38 || Nat.beq p 42 || Nat.beq p 50 || Nat.beq p 54 || Nat.beq p 76) 17).trans rfl
set_option maxRecDepth 100000 in
theorem e_M_need_21 {d : Nat} {Q : Value → am_H → Prop} {N : Nat} {I : Nat → Nat → Int32} {J : Nat → Nat → Int64} {x1 : Int32} {y0 : Int32} {r : am_rho} : am_V d Q 269 21 [some (.ref 93), some (.int x1), none, none, none] [.int y0] (am_hp N r I J) =
    am_V d Q 269 27 [some (.ref 93), some (.int x1), some (.int y0), some (.int x1), some (.int (nI 0))] [] (am_hp N r I J) :=
  (am_V_un (fun p => Nat.beq p 21 || Nat.beq p 27 || Nat.beq p 38 || Nat.beq p 42 || Nat.beq p 50 || Nat.beq p 54 || Nat.beq p 76) 7).trans rfl
set_option maxRecDepth 100000 in
theorem e_M_need_27 {d : Nat} {Q : Value → am_H → Prop} {N : Nat} {I : Nat → Nat → Int32} {J : Nat → Nat → Int64} {x1 : Int32} {x2 : Int32} {x3 : Int32} {x4 : Int32} {r : am_rho} : am_V d Q 269 27 [some (.ref 93), some (.int x1), some (.int x2), some (.int x3), some (.int x4)] [] (am_hp N r I J) =
    am_if (decide (x1 ≤ x4)) (Q (.int x3) (am_hp N r I J)) (am_D d 216 [.int x4] (am_hp N r I J) (fun v h => am_asI v (fun y => am_V d Q 269 38 [some (.ref 93), some (.int x1), some (.int x2), some (.int x3), some (.int x4)] [.int y] h))) :=
  (am_V_un (fun p => Nat.beq p 21 || Nat.beq p 27 || Nat.beq p 38 || Nat.beq p 42 || Nat.beq p 50 || Nat.beq p 54 || Nat.beq p 76) 7).trans rfl
set_option maxRecDepth 100000 in
theorem e_M_need_38 {d : Nat} {Q : Value → am_H → Prop} {N : Nat} {I : Nat → Nat → Int32} {J : Nat → Nat → Int64} {x1 : Int32} {x2 : Int32} {x3 : Int32} {x4 : Int32} {y0 : Int32} {r : am_rho} : am_V d Q 269 38 [some (.ref 93), some (.int x1), some (.int x2), some (.int x3), some (.int x4)] [.int y0] (am_hp N r I J) =
    am_D d 216 [.int x3] (am_hp N r I J) (fun v h => am_asI v (fun y => am_V d Q 269 42 [some (.ref 93), some (.int x1), some (.int x2), some (.int x3), some (.int x4)] [.int y, .int y0] h)) :=
  (am_V_un (fun p => Nat.beq p 21 || Nat.beq p 27 || Nat.beq p 38 || Nat.beq p 42 || Nat.beq p 50 || Nat.beq p 54 || Nat.beq p 76) 4).trans rfl
set_option maxRecDepth 100000 in
theorem e_M_need_42 {d : Nat} {Q : Value → am_H → Prop} {N : Nat} {I : Nat → Nat → Int32} {J : Nat → Nat → Int64} {x1 : Int32} {x2 : Int32} {x3 : Int32} {x4 : Int32} {y0 : Int32} {y1 : Int32} {r : am_rho} : am_V d Q 269 42 [some (.ref 93), some (.int x1), some (.int x2), some (.int x3), some (.int x4)] [.int y1, .int y0] (am_hp N r I J) =
    am_if (decide (y1 < y0)) (am_V d Q 269 27 [some (.ref 93), some (.int x1), some (.int x2), some (.int x3), some (.int (x4 + (nI 1)))] [] (am_hp N r I J)) (am_D d 216 [.int x4] (am_hp N r I J) (fun v h => am_asI v (fun y => am_V d Q 269 50 [some (.ref 93), some (.int x1), some (.int x2), some (.int x3), some (.int x4)] [.int y] h))) :=
  (am_V_un (fun p => Nat.beq p 21 || Nat.beq p 27 || Nat.beq p 38 || Nat.beq p 42 || Nat.beq p 50 || Nat.beq p 54 || Nat.beq p 76) 5).trans rfl
set_option maxRecDepth 100000 in
theorem e_M_need_50 {d : Nat} {Q : Value → am_H → Prop} {N : Nat} {I : Nat → Nat → Int32} {J : Nat → Nat → Int64} {x1 : Int32} {x2 : Int32} {x3 : Int32} {x4 : Int32} {y0 : Int32} {r : am_rho} : am_V d Q 269 50 [some (.ref 93), some (.int x1), some (.int x2), some (.int x3), some (.int x4)] [.int y0] (am_hp N r I J) =
    am_D d 216 [.int x3] (am_hp N r I J) (fun v h => am_asI v (fun y => am_V d Q 269 54 [some (.ref 93), some (.int x1), some (.int x2), some (.int x3), some (.int x4)] [.int y, .int y0] h)) :=
  (am_V_un (fun p => Nat.beq p 21 || Nat.beq p 27 || Nat.beq p 38 || Nat.beq p 42 || Nat.beq p 50 || Nat.beq p 54 || Nat.beq p 76) 4).trans rfl
set_option maxRecDepth 100000 in
theorem e_M_need_54 {d : Nat} {Q : Value → am_H → Prop} {N : Nat} {I : Nat → Nat → Int32} {J : Nat → Nat → Int64} {x1 : Int32} {x2 : Int32} {x3 : Int32} {x4 : Int32} {y0 : Int32} {y1 : Int32} {r : am_rho} : am_V d Q 269 54 [some (.ref 93), some (.int x1), some (.int x2), some (.int x3), some (.int x4)] [.int y1, .int y0] (am_hp N r I J) =
    am_if (!(decide (y0 = y1))) (am_D d 267 [.ref 93, .int (x1 &&& (x4 ^^^ (-nI 1)))] (am_hp N r I J) (fun v h => am_asI v (fun y => am_V d Q 269 76 [some (.ref 93), some (.int x1), some (.int x2), some (.int x3), some (.int x4)] [.int y] h))) (am_if (decide (x4 ≤ x3)) (am_D d 267 [.ref 93, .int (x1 &&& (x4 ^^^ (-nI 1)))] (am_hp N r I J) (fun v h => am_asI v (fun y => am_V d Q 269 76 [some (.ref 93), some (.int x1), some (.int x2), some (.int x3), some (.int x4)] [.int y] h))) (am_V d Q 269 27 [some (.ref 93), some (.int x1), some (.int x2), some (.int x3), some (.int (x4 + (nI 1)))] [] (am_hp N r I J))) :=
  (am_V_un (fun p => Nat.beq p 21 || Nat.beq p 27 || Nat.beq p 38 || Nat.beq p 42 || Nat.beq p 50 || Nat.beq p 54 || Nat.beq p 76) 13).trans rfl
set_option maxRecDepth 100000 in
theorem e_M_need_76 {d : Nat} {Q : Value → am_H → Prop} {N : Nat} {I : Nat → Nat → Int32} {J : Nat → Nat → Int64} {x1 : Int32} {x2 : Int32} {x3 : Int32} {x4 : Int32} {y0 : Int32} {r : am_rho} : am_V d Q 269 76 [some (.ref 93), some (.int x1), some (.int x2), some (.int x3), some (.int x4)] [.int y0] (am_hp N r I J) =
    am_if (decide (y0 < x2)) (am_V d Q 269 27 [some (.ref 93), some (.int x1), some (.int x2), some (.int x3), some (.int (x4 + (nI 1)))] [] (am_hp N r I J)) (am_V d Q 269 27 [some (.ref 93), some (.int x1), some (.int x2), some (.int x4), some (.int (x4 + (nI 1)))] [] (am_hp N r I J)) :=
  (am_V_un (fun p => Nat.beq p 21 || Nat.beq p 27 || Nat.beq p 38 || Nat.beq p 42 || Nat.beq p 50 || Nat.beq p 54 || Nat.beq p 76) 8).trans rfl
set_option maxRecDepth 100000 in
theorem e_M_dreamsOn {d : Nat} {Q : Value → am_H → Prop} {N : Nat} {I : Nat → Nat → Int32} {J : Nat → Nat → Int64} {r : am_rho} : am_D (d + 1) 270 [.ref 93] (am_hp N r I J) Q =
    am_D d 223 [.ref 93, .int (nI 3)] (am_hp N r (am_u (am_u I 93 62 (nI 0)) 93 63 (-nI 1)) J) (fun v h => am_asI v (fun y => am_V d Q 270 15 [some (.ref 93), none] [.int y] h)) :=
  (am_D_un rfl (fun p => Nat.beq p 15 || Nat.beq p 50) 11).trans rfl
set_option maxRecDepth 100000 in
theorem e_M_dreamsOn_15 {d : Nat} {Q : Value → am_H → Prop} {N : Nat} {I : Nat → Nat → Int32} {J : Nat → Nat → Int64} {y0 : Int32} {r : am_rho} : am_V d Q 270 15 [some (.ref 93), none] [.int y0] (am_hp N r I J) =
    am_if (!(decide (y0 = (nI 0)))) (am_if (!(decide (y0 = (nI 1)))) (Q .null (am_hp N r I J)) (am_if (decide ((I 95 0) ≤ (nI 0))) (Q .null (am_hp N r I J)) (am_D d 223 [.ref 93, .int (I 95 0)] (am_hp N r I J) (fun v h => am_asI v (fun y => am_V d Q 270 50 [some (.ref 93), some (.int y0)] [.int y, .ref 93] h))))) (am_if (!(decide (y0 = (nI 1)))) (Q .null (am_hp N r (am_u I 93 62 (nI 1)) J)) (am_if (decide (((am_u I 93 62 (nI 1)) 95 0) ≤ (nI 0))) (Q .null (am_hp N r (am_u I 93 62 (nI 1)) J)) (am_D d 223 [.ref 93, .int ((am_u I 93 62 (nI 1)) 95 0)] (am_hp N r (am_u I 93 62 (nI 1)) J) (fun v h => am_asI v (fun y => am_V d Q 270 50 [some (.ref 93), some (.int y0)] [.int y, .ref 93] h))))) :=
  (am_V_un (fun p => Nat.beq p 15 || Nat.beq p 50) 23).trans rfl
set_option maxRecDepth 100000 in
theorem e_M_dreamsOn_50 {d : Nat} {Q : Value → am_H → Prop} {N : Nat} {I : Nat → Nat → Int32} {J : Nat → Nat → Int64} {x1 : Int32} {y1 : Int32} {r : am_rho} : am_V d Q 270 50 [some (.ref 93), some (.int x1)] [.int y1, .ref 93] (am_hp N r I J) =
    Q .null (am_hp N r (am_u I 93 63 y1) J) :=
  (am_V_un (fun p => Nat.beq p 15 || Nat.beq p 50) 4).trans rfl
set_option maxRecDepth 100000 in
theorem e_M_chance {d : Nat} {Q : Value → am_H → Prop} {N : Nat} {I : Nat → Nat → Int32} {J : Nat → Nat → Int64} {x1 : Int32} {x2 : Int32} {x3 : Int32} {r : am_rho} : am_D (d + 1) 271 [.ref 93, .int x1, .int x2, .int x3] (am_hp N r I J) Q =
    am_if (decide (x1 < (nI 0))) (Q (.int (-nI 1)) (am_hp N r (am_u I 93 0 (nI 0)) J)) (am_D d 208 [.ref 93, .int x2] (am_hp N r (am_u I 93 0 (nI 0)) J) (fun v h => am_asI v (fun y => am_V d Q 271 14 [some (.ref 93), some (.int x1), some (.int x2), some (.int x3), none, none, none, none] [.int y] h))) :=
  (am_D_un rfl (fun p => Nat.beq p 14 || Nat.beq p 34 || Nat.beq p 43 || Nat.beq p 56 || Nat.beq p 67 || Nat.beq p 86 || Nat.beq p 92 || Nat.beq p 97) 10).trans rfl
set_option maxRecDepth 100000 in
theorem e_M_chance_14 {d : Nat} {Q : Value → am_H → Prop} {N : Nat} {I : Nat → Nat → Int32} {J : Nat → Nat → Int64} {x1 : Int32} {x2 : Int32} {x3 : Int32} {y0 : Int32} {r : am_rho} : am_V d Q 271 14 [some (.ref 93), some (.int x1), some (.int x2), some (.int x3), none, none, none, none] [.int y0] (am_hp N r I J) =
    am_if (decide (y0 = (nI 0))) (Q (.int (-nI 1)) (am_hp N r I J)) (am_if (decide (x3 < (nI 1))) (Q (.int (-nI 1)) (am_hp N r I J)) (am_if (decide (x3 ≤ (nI 9))) (am_D d 210 [.ref 93] (am_hp N r I J) (fun v h => am_V d Q 271 34 [some (.ref 93), some (.int x1), some (.int x2), some (.int x3), none, none, none, none] [] h)) (Q (.int (-nI 1)) (am_hp N r I J)))) :=
  (am_V_un (fun p => Nat.beq p 14 || Nat.beq p 34 || Nat.beq p 43 || Nat.beq p 56 || Nat.beq p 67 || Nat.beq p 86 || Nat.beq p 92 || Nat.beq p 97) 11).trans rfl
set_option maxRecDepth 100000 in
theorem e_M_chance_34 {d : Nat} {Q : Value → am_H → Prop} {N : Nat} {I : Nat → Nat → Int32} {J : Nat → Nat → Int64} {x1 : Int32} {x2 : Int32} {x3 : Int32} {r : am_rho} : am_V d Q 271 34 [some (.ref 93), some (.int x1), some (.int x2), some (.int x3), none, none, none, none] [] (am_hp N r I J) =
    am_V d Q 271 43 [some (.ref 93), some (.int x1), some (.int x2), some (.int x3), some (.int x1), some (.int (nI 0)), some (.int (nI 0)), am_oi none] [] (am_hp N r I J) :=
  (am_V_un (fun p => Nat.beq p 14 || Nat.beq p 34 || Nat.beq p 43 || Nat.beq p 56 || Nat.beq p 67 || Nat.beq p 86 || Nat.beq p 92 || Nat.beq p 97) 8).trans rfl
set_option maxRecDepth 100000 in
theorem e_M_chance_43 {d : Nat} {Q : Value → am_H → Prop} {N : Nat} {I : Nat → Nat → Int32} {J : Nat → Nat → Int64} {x1 : Int32} {x2 : Int32} {x3 : Int32} {x4 : Int32} {x5 : Int32} {x6 : Int32} {o7 : Option Int32} {r : am_rho} : am_V d Q 271 43 [some (.ref 93), some (.int x1), some (.int x2), some (.int x3), some (.int x4), some (.int x5), some (.int x6), am_oi o7] [] (am_hp N r I J) =
    am_if (decide (((nI 10) : Int32) ≤ x6)) (Q (.int x5) (am_hp N r I J)) (am_D d 205 [.ref 93, .int (nI 1), .int (nI 0)] (am_hp N r I J) (fun v h => am_V d Q 271 56 [some (.ref 93), some (.int x1), some (.int x2), some (.int x3), some (.int x4), some (.int x5), some (.int x6), am_oi o7] [] h)) :=
  (am_V_un (fun p => Nat.beq p 14 || Nat.beq p 34 || Nat.beq p 43 || Nat.beq p 56 || Nat.beq p 67 || Nat.beq p 86 || Nat.beq p 92 || Nat.beq p 97) 9).trans rfl
set_option maxRecDepth 100000 in
theorem e_M_chance_56 {d : Nat} {Q : Value → am_H → Prop} {N : Nat} {I : Nat → Nat → Int32} {J : Nat → Nat → Int64} {x1 : Int32} {x2 : Int32} {x3 : Int32} {x4 : Int32} {x5 : Int32} {x6 : Int32} {o7 : Option Int32} {r : am_rho} : am_V d Q 271 56 [some (.ref 93), some (.int x1), some (.int x2), some (.int x3), some (.int x4), some (.int x5), some (.int x6), am_oi o7] [] (am_hp N r I J) =
    am_V d Q 271 67 [some (.ref 93), some (.int x1), some (.int x2), some (.int x3), some (.int x4), some (.int x5), some (.int x6), some (.int (nI 0))] [] (am_hp N r (am_u I 120 1 x4) J) :=
  (am_V_un (fun p => Nat.beq p 14 || Nat.beq p 34 || Nat.beq p 43 || Nat.beq p 56 || Nat.beq p 67 || Nat.beq p 86 || Nat.beq p 92 || Nat.beq p 97) 9).trans rfl
set_option maxRecDepth 100000 in
theorem e_M_chance_67 {d : Nat} {Q : Value → am_H → Prop} {N : Nat} {I : Nat → Nat → Int32} {J : Nat → Nat → Int64} {x1 : Int32} {x2 : Int32} {x3 : Int32} {x4 : Int32} {x5 : Int32} {x6 : Int32} {x7 : Int32} {r : am_rho} : am_V d Q 271 67 [some (.ref 93), some (.int x1), some (.int x2), some (.int x3), some (.int x4), some (.int x5), some (.int x6), some (.int x7)] [] (am_hp N r I J) =
    am_if (decide (x3 ≤ x7)) (am_g (am_inb ((nI 8) + x2) 184) (am_if (!(decide ((I 124 ((nI 8) + x2).toNatClampNeg) = (nI 2)))) (am_V d Q 271 43 [some (.ref 93), some (.int x1), some (.int x2), some (.int x3), some (.int (I 120 1)), some (.int (x5 + (nI 0))), some (.int (x6 + (nI 1))), am_oi (some x7)] [] (am_hp N r I J)) (am_V d Q 271 43 [some (.ref 93), some (.int x1), some (.int x2), some (.int x3), some (.int (I 120 1)), some (.int (x5 + (nI 1))), some (.int (x6 + (nI 1))), am_oi (some x7)] [] (am_hp N r I J)))) (am_if (!(decide ((I 118 1) = (nI 0)))) (am_V d Q 271 86 [some (.ref 93), some (.int x1), some (.int x2), some (.int x3), some (.int x4), some (.int x5), some (.int x6), some (.int x7)] [] (am_hp N r I J)) (am_D d 270 [.ref 93] (am_hp N r I J) (fun v h => am_V d Q 271 86 [some (.ref 93), some (.int x1), some (.int x2), some (.int x3), some (.int x4), some (.int x5), some (.int x6), some (.int x7)] [] h))) :=
  (am_V_un (fun p => Nat.beq p 14 || Nat.beq p 34 || Nat.beq p 43 || Nat.beq p 56 || Nat.beq p 67 || Nat.beq p 86 || Nat.beq p 92 || Nat.beq p 97) 25).trans rfl
set_option maxRecDepth 100000 in
theorem e_M_chance_86 {d : Nat} {Q : Value → am_H → Prop} {N : Nat} {I : Nat → Nat → Int32} {J : Nat → Nat → Int64} {x1 : Int32} {x2 : Int32} {x3 : Int32} {x4 : Int32} {x5 : Int32} {x6 : Int32} {x7 : Int32} {r : am_rho} : am_V d Q 271 86 [some (.ref 93), some (.int x1), some (.int x2), some (.int x3), some (.int x4), some (.int x5), some (.int x6), some (.int x7)] [] (am_hp N r I J) =
    am_D d 230 [.ref 93, .int (nI 1), .int (nI 1)] (am_hp N r I J) (fun v h => am_V d Q 271 92 [some (.ref 93), some (.int x1), some (.int x2), some (.int x3), some (.int x4), some (.int x5), some (.int x6), some (.int x7)] [] h) :=
  (am_V_un (fun p => Nat.beq p 14 || Nat.beq p 34 || Nat.beq p 43 || Nat.beq p 56 || Nat.beq p 67 || Nat.beq p 86 || Nat.beq p 92 || Nat.beq p 97) 6).trans rfl
set_option maxRecDepth 100000 in
theorem e_M_chance_92 {d : Nat} {Q : Value → am_H → Prop} {N : Nat} {I : Nat → Nat → Int32} {J : Nat → Nat → Int64} {x1 : Int32} {x2 : Int32} {x3 : Int32} {x4 : Int32} {x5 : Int32} {x6 : Int32} {x7 : Int32} {r : am_rho} : am_V d Q 271 92 [some (.ref 93), some (.int x1), some (.int x2), some (.int x3), some (.int x4), some (.int x5), some (.int x6), some (.int x7)] [] (am_hp N r I J) =
    am_D d 231 [.ref 93, .int (nI 1)] (am_hp N r I J) (fun v h => am_V d Q 271 97 [some (.ref 93), some (.int x1), some (.int x2), some (.int x3), some (.int x4), some (.int x5), some (.int x6), some (.int x7)] [] h) :=
  (am_V_un (fun p => Nat.beq p 14 || Nat.beq p 34 || Nat.beq p 43 || Nat.beq p 56 || Nat.beq p 67 || Nat.beq p 86 || Nat.beq p 92 || Nat.beq p 97) 5).trans rfl
set_option maxRecDepth 100000 in
theorem e_M_chance_97 {d : Nat} {Q : Value → am_H → Prop} {N : Nat} {I : Nat → Nat → Int32} {J : Nat → Nat → Int64} {x1 : Int32} {x2 : Int32} {x3 : Int32} {x4 : Int32} {x5 : Int32} {x6 : Int32} {x7 : Int32} {r : am_rho} : am_V d Q 271 97 [some (.ref 93), some (.int x1), some (.int x2), some (.int x3), some (.int x4), some (.int x5), some (.int x6), some (.int x7)] [] (am_hp N r I J) =
    am_if (decide (((nI 0) : Int32) < (I 118 1))) (am_V d Q 271 86 [some (.ref 93), some (.int x1), some (.int x2), some (.int x3), some (.int x4), some (.int x5), some (.int x6), some (.int x7)] [] (am_hp N r I J)) (am_V d Q 271 67 [some (.ref 93), some (.int x1), some (.int x2), some (.int x3), some (.int x4), some (.int x5), some (.int x6), some (.int (x7 + (nI 1)))] [] (am_hp N r (am_u (am_u I 93 62 (nI 0)) 93 63 (-nI 1)) J)) :=
  (am_V_un (fun p => Nat.beq p 14 || Nat.beq p 34 || Nat.beq p 43 || Nat.beq p 56 || Nat.beq p 67 || Nat.beq p 86 || Nat.beq p 92 || Nat.beq p 97) 15).trans rfl
set_option maxRecDepth 100000 in
theorem e_M_tried {d : Nat} {Q : Value → am_H → Prop} {N : Nat} {I : Nat → Nat → Int32} {J : Nat → Nat → Int64} {x1 : Int32} {x2 : Int32} {r : am_rho} : am_D (d + 1) 272 [.ref 93, .int x1, .int x2] (am_hp N r I J) Q =
    am_if (!(decide (x1 = (nI 6)))) (am_if (!(decide (x1 = (nI 7)))) (am_if (decide (x1 < (nI 0))) (Q (.int (-nI 1)) (am_hp N r (am_u I 93 0 (nI 0)) J)) (am_if (decide (((nI 5) : Int32) < x1)) (Q (.int (-nI 1)) (am_hp N r (am_u I 93 0 (nI 0)) J)) (am_if (!(decide (x2 = (nI 0)))) (Q (.int (-nI 1)) (am_hp N r (am_u I 93 0 (nI 0)) J)) (am_D d 232 [.ref 93] (am_hp N r (am_u (am_u (am_u I 93 0 (nI 0)) 93 52 x1) 93 53 x2) J) (fun v h => am_V d Q 272 86 [some (.ref 93), some (.int x1), some (.int x2), some (.int (nI 1))] [] h))))) (am_if (decide (x2 < (nI 0))) (Q (.int (-nI 1)) (am_hp N r (am_u I 93 0 (nI 0)) J)) (am_if (decide (((am_u I 93 0 (nI 0)) 95 1) ≤ x2)) (Q (.int (-nI 1)) (am_hp N r (am_u I 93 0 (nI 0)) J)) (am_D d 232 [.ref 93] (am_hp N r (am_u (am_u (am_u I 93 0 (nI 0)) 93 52 x1) 93 53 x2) J) (fun v h => am_V d Q 272 86 [some (.ref 93), some (.int x1), some (.int x2), some (.int (nI 1))] [] h))))) (am_D d 207 [.ref 93, .int x2] (am_hp N r (am_u I 93 0 (nI 0)) J) (fun v h => am_asI v (fun y => am_V d Q 272 16 [some (.ref 93), some (.int x1), some (.int x2), none] [.int y] h))) :=
  (am_D_un rfl (fun p => Nat.beq p 16 || Nat.beq p 86 || Nat.beq p 101) 32).trans rfl
set_option maxRecDepth 100000 in
theorem e_M_tried_16 {d : Nat} {Q : Value → am_H → Prop} {N : Nat} {I : Nat → Nat → Int32} {J : Nat → Nat → Int64} {x1 : Int32} {x2 : Int32} {y0 : Int32} {r : am_rho} : am_V d Q 272 16 [some (.ref 93), some (.int x1), some (.int x2), none] [.int y0] (am_hp N r I J) =
    am_if (!(decide (y0 = (nI 0)))) (am_D d 232 [.ref 93] (am_hp N r (am_u (am_u I 93 52 x1) 93 53 x2) J) (fun v h => am_V d Q 272 86 [some (.ref 93), some (.int x1), some (.int x2), some (.int y0)] [] h)) (Q (.int (-nI 1)) (am_hp N r I J)) :=
  (am_V_un (fun p => Nat.beq p 16 || Nat.beq p 86 || Nat.beq p 101) 14).trans rfl
set_option maxRecDepth 100000 in
theorem e_M_tried_86 {d : Nat} {Q : Value → am_H → Prop} {N : Nat} {I : Nat → Nat → Int32} {J : Nat → Nat → Int64} {x1 : Int32} {x2 : Int32} {x3 : Int32} {r : am_rho} : am_V d Q 272 86 [some (.ref 93), some (.int x1), some (.int x2), some (.int x3)] [] (am_hp N r I J) =
    am_D d 234 [.ref 93, .int (nI 1)] (am_hp N r (am_u (am_u I 93 52 (nI 0)) 93 53 (-nI 1)) J) (fun v h => am_asI v (fun y => am_V d Q 272 101 [some (.ref 93), some (.int x1), some (.int x2), some (.int x3)] [.int y] h)) :=
  (am_V_un (fun p => Nat.beq p 16 || Nat.beq p 86 || Nat.beq p 101) 11).trans rfl
set_option maxRecDepth 100000 in
theorem e_M_tried_101 {d : Nat} {Q : Value → am_H → Prop} {N : Nat} {I : Nat → Nat → Int32} {J : Nat → Nat → Int64} {x1 : Int32} {x2 : Int32} {x3 : Int32} {y0 : Int32} {r : am_rho} : am_V d Q 272 101 [some (.ref 93), some (.int x1), some (.int x2), some (.int x3)] [.int y0] (am_hp N r I J) =
    Q (.int y0) (am_hp N r I J) :=
  (am_V_un (fun p => Nat.beq p 16 || Nat.beq p 86 || Nat.beq p 101) 3).trans rfl
set_option maxRecDepth 100000 in
theorem e_M_undo {d : Nat} {Q : Value → am_H → Prop} {N : Nat} {I : Nat → Nat → Int32} {J : Nat → Nat → Int64} {r : am_rho} : am_D (d + 1) 273 [.ref 93] (am_hp N r I J) Q =
    am_if (!(decide (((am_u I 93 0 (nI 0)) 93 51) = (nI 0)))) (am_D d 205 [.ref 93, .int (nI 0), .int ((nI 3) + ((am_u (am_u I 93 0 (nI 0)) 93 51 (((am_u I 93 0 (nI 0)) 93 51) - (nI 1))) 93 51))] (am_hp N r (am_u (am_u I 93 0 (nI 0)) 93 51 (((am_u I 93 0 (nI 0)) 93 51) - (nI 1))) J) (fun v h => am_V d Q 273 35 [some (.ref 93)] [] h)) (Q (.int (-nI 1)) (am_hp N r (am_u I 93 0 (nI 0)) J)) :=
  (am_D_un rfl (fun p => Nat.beq p 35) 21).trans rfl
set_option maxRecDepth 100000 in
theorem e_M_undo_35 {d : Nat} {Q : Value → am_H → Prop} {N : Nat} {I : Nat → Nat → Int32} {J : Nat → Nat → Int64} {r : am_rho} : am_V d Q 273 35 [some (.ref 93)] [] (am_hp N r I J) =
    Q (.int (I 93 51)) (am_hp N r I J) :=
  (am_V_un (fun p => Nat.beq p 35) 5).trans rfl
set_option maxRecDepth 100000 in
theorem e_M_keep {d : Nat} {Q : Value → am_H → Prop} {N : Nat} {I : Nat → Nat → Int32} {J : Nat → Nat → Int64} {r : am_rho} : am_D (d + 1) 274 [.ref 93] (am_hp N r I J) Q =
    am_D d 205 [.ref 93, .int (nI 2), .int (nI 0)] (am_hp N r (am_u I 93 0 (nI 0)) J) (fun v h => am_V d Q 274 11 [some (.ref 93)] [] h) :=
  (am_D_un rfl (fun p => Nat.beq p 11) 9).trans rfl
set_option maxRecDepth 100000 in
theorem e_M_keep_11 {d : Nat} {Q : Value → am_H → Prop} {N : Nat} {I : Nat → Nat → Int32} {J : Nat → Nat → Int64} {r : am_rho} : am_V d Q 274 11 [some (.ref 93)] [] (am_hp N r I J) =
    Q (.int ((am_u I 93 50 (nI 1)) 119 0)) (am_hp N r (am_u I 93 50 (nI 1)) J) :=
  (am_V_un (fun p => Nat.beq p 11) 10).trans rfl
set_option maxRecDepth 100000 in
theorem e_M_back {d : Nat} {Q : Value → am_H → Prop} {N : Nat} {I : Nat → Nat → Int32} {J : Nat → Nat → Int64} {r : am_rho} : am_D (d + 1) 275 [.ref 93] (am_hp N r I J) Q =
    am_if (!(decide (((am_u I 93 0 (nI 0)) 93 50) = (nI 0)))) (am_D d 205 [.ref 93, .int (nI 0), .int (nI 2)] (am_hp N r (am_u I 93 0 (nI 0)) J) (fun v h => am_V d Q 275 20 [some (.ref 93)] [] h)) (Q (.int (-nI 1)) (am_hp N r (am_u I 93 0 (nI 0)) J)) :=
  (am_D_un rfl (fun p => Nat.beq p 20) 12).trans rfl
set_option maxRecDepth 100000 in
theorem e_M_back_20 {d : Nat} {Q : Value → am_H → Prop} {N : Nat} {I : Nat → Nat → Int32} {J : Nat → Nat → Int64} {r : am_rho} : am_V d Q 275 20 [some (.ref 93)] [] (am_hp N r I J) =
    Q (.int ((am_u I 93 51 (nI 0)) 119 0)) (am_hp N r (am_u I 93 51 (nI 0)) J) :=
  (am_V_un (fun p => Nat.beq p 20) 10).trans rfl
set_option maxRecDepth 100000 in
theorem e_M_count {d : Nat} {Q : Value → am_H → Prop} {N : Nat} {I : Nat → Nat → Int32} {J : Nat → Nat → Int64} {x1 : Int32} {r : am_rho} : am_D (d + 1) 276 [.ref 93, .int x1] (am_hp N r I J) Q =
    am_if (decide (x1 = (nI 0))) (Q (.int ((am_u I 93 0 (nI 0)) 95 0)) (am_hp N r (am_u I 93 0 (nI 0)) J)) (am_if (decide (x1 = (nI 1))) (Q (.int ((am_u I 93 0 (nI 0)) 95 1)) (am_hp N r (am_u I 93 0 (nI 0)) J)) (am_if (decide (x1 = (nI 2))) (Q (.int ((am_u I 93 0 (nI 0)) 95 2)) (am_hp N r (am_u I 93 0 (nI 0)) J)) (am_if (decide (x1 = (nI 3))) (Q (.int ((am_u I 93 0 (nI 0)) 95 3)) (am_hp N r (am_u I 93 0 (nI 0)) J)) (am_if (decide (x1 = (nI 4))) (Q (.int ((am_u I 93 0 (nI 0)) 95 4)) (am_hp N r (am_u I 93 0 (nI 0)) J)) (am_if (decide (x1 = (nI 5))) (Q (.int ((am_u I 93 0 (nI 0)) 95 6)) (am_hp N r (am_u I 93 0 (nI 0)) J)) (am_if (decide (x1 = (nI 6))) (Q (.int ((am_u I 93 0 (nI 0)) 118 0)) (am_hp N r (am_u I 93 0 (nI 0)) J)) (am_if (decide (x1 = (nI 7))) (Q (.int ((am_u I 93 0 (nI 0)) 119 0)) (am_hp N r (am_u I 93 0 (nI 0)) J)) (am_if (decide (x1 = (nI 8))) (am_D d 234 [.ref 93, .int (nI 0)] (am_hp N r (am_u I 93 0 (nI 0)) J) (fun v h => am_asI v (fun y => am_V d Q 276 146 [some (.ref 93), some (.int x1), some (.int (nI 0)), none] [.int y] h))) (am_if (decide (x1 = (nI 9))) (am_V d Q 276 149 [some (.ref 93), some (.int x1), some (.int (nI 0)), some (.int (nI 0))] [] (am_hp N r (am_u I 93 0 (nI 0)) J)) (am_if (decide (x1 = (nI 10))) (am_D d 216 [.int ((am_u I 93 0 (nI 0)) 122 0)] (am_hp N r (am_u I 93 0 (nI 0)) J) (fun v h => am_asI v (fun y => am_V d Q 276 194 [some (.ref 93), some (.int x1), some (.int (nI 0)), none] [.int y] h))) (am_if (decide (x1 = (nI 11))) (Q (.int ((am_u I 93 0 (nI 0)) 121 0)) (am_hp N r (am_u I 93 0 (nI 0)) J)) (am_if (decide (x1 = (nI 12))) (Q (.int ((am_u I 93 0 (nI 0)) 93 69)) (am_hp N r (am_u I 93 0 (nI 0)) J)) (am_if (decide (x1 = (nI 13))) (am_D d 255 [.ref 93] (am_hp N r (am_u I 93 0 (nI 0)) J) (fun v h => am_asI v (fun y => am_V d Q 276 211 [some (.ref 93), some (.int x1), some (.int (nI 0)), none] [.int y] h))) (am_if (decide (x1 = (nI 14))) (Q (.int ((am_u I 93 0 (nI 0)) 93 51)) (am_hp N r (am_u I 93 0 (nI 0)) J)) (Q (.int (-nI 1)) (am_hp N r (am_u I 93 0 (nI 0)) J)))))))))))))))) :=
  (am_D_un rfl (fun p => Nat.beq p 146 || Nat.beq p 149 || Nat.beq p 194 || Nat.beq p 211) 14).trans rfl
set_option maxRecDepth 100000 in
theorem e_M_count_146 {d : Nat} {Q : Value → am_H → Prop} {N : Nat} {I : Nat → Nat → Int32} {J : Nat → Nat → Int64} {x1 : Int32} {x2 : Int32} {y0 : Int32} {r : am_rho} : am_V d Q 276 146 [some (.ref 93), some (.int x1), some (.int x2), none] [.int y0] (am_hp N r I J) =
    Q (.int y0) (am_hp N r I J) :=
  (am_V_un (fun p => Nat.beq p 146 || Nat.beq p 149 || Nat.beq p 194 || Nat.beq p 211) 3).trans rfl
set_option maxRecDepth 100000 in
theorem e_M_count_149 {d : Nat} {Q : Value → am_H → Prop} {N : Nat} {I : Nat → Nat → Int32} {J : Nat → Nat → Int64} {x1 : Int32} {x2 : Int32} {x3 : Int32} {r : am_rho} : am_V d Q 276 149 [some (.ref 93), some (.int x1), some (.int x2), some (.int x3)] [] (am_hp N r I J) =
    am_if (decide ((I 95 3) ≤ x3)) (Q (.int x2) (am_hp N r I J)) (am_g (am_inb x3 184) (am_if (!(decide ((I 124 x3.toNatClampNeg) = (nI 1)))) (am_V d Q 276 149 [some (.ref 93), some (.int x1), some (.int (x2 + (nI 0))), some (.int (x3 + (nI 1)))] [] (am_hp N r I J)) (am_V d Q 276 149 [some (.ref 93), some (.int x1), some (.int (x2 + (nI 1))), some (.int (x3 + (nI 1)))] [] (am_hp N r I J)))) :=
  (am_V_un (fun p => Nat.beq p 146 || Nat.beq p 149 || Nat.beq p 194 || Nat.beq p 211) 21).trans rfl
set_option maxRecDepth 100000 in
theorem e_M_count_194 {d : Nat} {Q : Value → am_H → Prop} {N : Nat} {I : Nat → Nat → Int32} {J : Nat → Nat → Int64} {x1 : Int32} {x2 : Int32} {y0 : Int32} {r : am_rho} : am_V d Q 276 194 [some (.ref 93), some (.int x1), some (.int x2), none] [.int y0] (am_hp N r I J) =
    Q (.int y0) (am_hp N r I J) :=
  (am_V_un (fun p => Nat.beq p 146 || Nat.beq p 149 || Nat.beq p 194 || Nat.beq p 211) 3).trans rfl
set_option maxRecDepth 100000 in
theorem e_M_count_211 {d : Nat} {Q : Value → am_H → Prop} {N : Nat} {I : Nat → Nat → Int32} {J : Nat → Nat → Int64} {x1 : Int32} {x2 : Int32} {y0 : Int32} {r : am_rho} : am_V d Q 276 211 [some (.ref 93), some (.int x1), some (.int x2), none] [.int y0] (am_hp N r I J) =
    Q (.int y0) (am_hp N r I J) :=
  (am_V_un (fun p => Nat.beq p 146 || Nat.beq p 149 || Nat.beq p 194 || Nat.beq p 211) 3).trans rfl
