/-! ===== blocks: what the rows of a method do up to the next loop head or call (by program) ===== -/
def am_ol (o : Option Int64) : Option Value := match o with
  | none => none
  | some x => some (.long x)
set_option maxRecDepth 100000 in
theorem e_J_bitCount {d : Nat} {Q : Value → am_H → Prop} {N : Nat} {I : Nat → Nat → Int32} {J : Nat → Nat → Int64} {x0 : Int32} {r : am_rho} : am_D (d + 1) 277 [.int x0] (am_hp N r I J) Q =
    Q (.int ((((((((x0 - (((Int32.toUInt32 x0 >>> (Int32.toUInt32 (nI 1) &&& Int32.toUInt32 31)).toInt32) &&& (nI 1431655765))) &&& (nI 858993459)) + (((Int32.toUInt32 (x0 - (((Int32.toUInt32 x0 >>> (Int32.toUInt32 (nI 1) &&& Int32.toUInt32 31)).toInt32) &&& (nI 1431655765))) >>> (Int32.toUInt32 (nI 2) &&& Int32.toUInt32 31)).toInt32) &&& (nI 858993459))) + ((Int32.toUInt32 (((x0 - (((Int32.toUInt32 x0 >>> (Int32.toUInt32 (nI 1) &&& Int32.toUInt32 31)).toInt32) &&& (nI 1431655765))) &&& (nI 858993459)) + (((Int32.toUInt32 (x0 - (((Int32.toUInt32 x0 >>> (Int32.toUInt32 (nI 1) &&& Int32.toUInt32 31)).toInt32) &&& (nI 1431655765))) >>> (Int32.toUInt32 (nI 2) &&& Int32.toUInt32 31)).toInt32) &&& (nI 858993459))) >>> (Int32.toUInt32 (nI 4) &&& Int32.toUInt32 31)).toInt32)) &&& (nI 252645135)) + ((Int32.toUInt32 (((((x0 - (((Int32.toUInt32 x0 >>> (Int32.toUInt32 (nI 1) &&& Int32.toUInt32 31)).toInt32) &&& (nI 1431655765))) &&& (nI 858993459)) + (((Int32.toUInt32 (x0 - (((Int32.toUInt32 x0 >>> (Int32.toUInt32 (nI 1) &&& Int32.toUInt32 31)).toInt32) &&& (nI 1431655765))) >>> (Int32.toUInt32 (nI 2) &&& Int32.toUInt32 31)).toInt32) &&& (nI 858993459))) + ((Int32.toUInt32 (((x0 - (((Int32.toUInt32 x0 >>> (Int32.toUInt32 (nI 1) &&& Int32.toUInt32 31)).toInt32) &&& (nI 1431655765))) &&& (nI 858993459)) + (((Int32.toUInt32 (x0 - (((Int32.toUInt32 x0 >>> (Int32.toUInt32 (nI 1) &&& Int32.toUInt32 31)).toInt32) &&& (nI 1431655765))) >>> (Int32.toUInt32 (nI 2) &&& Int32.toUInt32 31)).toInt32) &&& (nI 858993459))) >>> (Int32.toUInt32 (nI 4) &&& Int32.toUInt32 31)).toInt32)) &&& (nI 252645135)) >>> (Int32.toUInt32 (nI 8) &&& Int32.toUInt32 31)).toInt32)) + ((Int32.toUInt32 ((((((x0 - (((Int32.toUInt32 x0 >>> (Int32.toUInt32 (nI 1) &&& Int32.toUInt32 31)).toInt32) &&& (nI 1431655765))) &&& (nI 858993459)) + (((Int32.toUInt32 (x0 - (((Int32.toUInt32 x0 >>> (Int32.toUInt32 (nI 1) &&& Int32.toUInt32 31)).toInt32) &&& (nI 1431655765))) >>> (Int32.toUInt32 (nI 2) &&& Int32.toUInt32 31)).toInt32) &&& (nI 858993459))) + ((Int32.toUInt32 (((x0 - (((Int32.toUInt32 x0 >>> (Int32.toUInt32 (nI 1) &&& Int32.toUInt32 31)).toInt32) &&& (nI 1431655765))) &&& (nI 858993459)) + (((Int32.toUInt32 (x0 - (((Int32.toUInt32 x0 >>> (Int32.toUInt32 (nI 1) &&& Int32.toUInt32 31)).toInt32) &&& (nI 1431655765))) >>> (Int32.toUInt32 (nI 2) &&& Int32.toUInt32 31)).toInt32) &&& (nI 858993459))) >>> (Int32.toUInt32 (nI 4) &&& Int32.toUInt32 31)).toInt32)) &&& (nI 252645135)) + ((Int32.toUInt32 (((((x0 - (((Int32.toUInt32 x0 >>> (Int32.toUInt32 (nI 1) &&& Int32.toUInt32 31)).toInt32) &&& (nI 1431655765))) &&& (nI 858993459)) + (((Int32.toUInt32 (x0 - (((Int32.toUInt32 x0 >>> (Int32.toUInt32 (nI 1) &&& Int32.toUInt32 31)).toInt32) &&& (nI 1431655765))) >>> (Int32.toUInt32 (nI 2) &&& Int32.toUInt32 31)).toInt32) &&& (nI 858993459))) + ((Int32.toUInt32 (((x0 - (((Int32.toUInt32 x0 >>> (Int32.toUInt32 (nI 1) &&& Int32.toUInt32 31)).toInt32) &&& (nI 1431655765))) &&& (nI 858993459)) + (((Int32.toUInt32 (x0 - (((Int32.toUInt32 x0 >>> (Int32.toUInt32 (nI 1) &&& Int32.toUInt32 31)).toInt32) &&& (nI 1431655765))) >>> (Int32.toUInt32 (nI 2) &&& Int32.toUInt32 31)).toInt32) &&& (nI 858993459))) >>> (Int32.toUInt32 (nI 4) &&& Int32.toUInt32 31)).toInt32)) &&& (nI 252645135)) >>> (Int32.toUInt32 (nI 8) &&& Int32.toUInt32 31)).toInt32)) >>> (Int32.toUInt32 (nI 16) &&& Int32.toUInt32 31)).toInt32)) &&& (nI 63))) (am_hp N r I J) :=
  (am_D_un rfl (fun p => false) 44).trans rfl
set_option maxRecDepth 100000 in
theorem e_J_abs {d : Nat} {Q : Value → am_H → Prop} {N : Nat} {I : Nat → Nat → Int32} {J : Nat → Nat → Int64} {x0 : Int64} {r : am_rho} : am_D (d + 1) 278 [.long x0] (am_hp N r I J) Q =
    am_if (decide (((nI 0) : Int32) ≤ (lg_cmp x0 0))) (Q (.long x0) (am_hp N r I J)) (Q (.long (-x0)) (am_hp N r I J)) :=
  (am_D_un rfl (fun p => false) 10).trans rfl
set_option maxRecDepth 100000 in
theorem e_J_max {d : Nat} {Q : Value → am_H → Prop} {N : Nat} {I : Nat → Nat → Int32} {J : Nat → Nat → Int64} {x0 : Int32} {x1 : Int32} {r : am_rho} : am_D (d + 1) 279 [.int x0, .int x1] (am_hp N r I J) Q =
    am_if (decide (x0 < x1)) (Q (.int x1) (am_hp N r I J)) (Q (.int x0) (am_hp N r I J)) :=
  (am_D_un rfl (fun p => false) 8).trans rfl
set_option maxRecDepth 100000 in
theorem e_J_maxL {d : Nat} {Q : Value → am_H → Prop} {N : Nat} {I : Nat → Nat → Int32} {J : Nat → Nat → Int64} {x0 : Int64} {x2 : Int64} {r : am_rho} : am_D (d + 1) 280 [.long x0, .long x2] (am_hp N r I J) Q =
    am_if (decide ((lg_cmp x0 x2) < (nI 0))) (Q (.long x2) (am_hp N r I J)) (Q (.long x0) (am_hp N r I J)) :=
  (am_D_un rfl (fun p => false) 9).trans rfl
set_option maxRecDepth 100000 in
theorem e_J_min {d : Nat} {Q : Value → am_H → Prop} {N : Nat} {I : Nat → Nat → Int32} {J : Nat → Nat → Int64} {x0 : Int32} {x1 : Int32} {r : am_rho} : am_D (d + 1) 281 [.int x0, .int x1] (am_hp N r I J) Q =
    am_if (decide (x1 < x0)) (Q (.int x1) (am_hp N r I J)) (Q (.int x0) (am_hp N r I J)) :=
  (am_D_un rfl (fun p => false) 8).trans rfl
set_option maxRecDepth 100000 in
theorem e_J_minL {d : Nat} {Q : Value → am_H → Prop} {N : Nat} {I : Nat → Nat → Int32} {J : Nat → Nat → Int64} {x0 : Int64} {x2 : Int64} {r : am_rho} : am_D (d + 1) 282 [.long x0, .long x2] (am_hp N r I J) Q =
    am_if (decide (((nI 0) : Int32) < (lg_cmp x0 x2))) (Q (.long x2) (am_hp N r I J)) (Q (.long x0) (am_hp N r I J)) :=
  (am_D_un rfl (fun p => false) 9).trans rfl
set_option maxRecDepth 100000 in
theorem e_Str_length {d : Nat} {Q : Value → am_H → Prop} {N : Nat} {I : Nat → Nat → Int32} {J : Nat → Nat → Int64} {r : am_rho} {a0 : Nat} (h_a0 : a0 = 2003 ∨ a0 = 2004 ∨ a0 = 2005) : am_D (d + 1) 283 [.ref a0] (am_hp N r I J) Q =
    am_g (!(Nat.beq (am_TT N (a0 + 10)).1 0) && Nat.ble (am_TT N (a0 + 10)).1 7) (am_D d 287 [.ref a0] (am_hp N r I J) (fun v h => am_asI v (fun y => am_V d Q 283 9 [some (.ref a0)] [.int y, .int (nI (am_TT N (a0 + 10)).2)] h))) :=
  by rcases h_a0 with rfl | rfl | rfl <;> exact (am_D_un rfl (fun p => Nat.beq p 9) 7).trans rfl
set_option maxRecDepth 100000 in
theorem e_Str_length_9 {d : Nat} {Q : Value → am_H → Prop} {N : Nat} {I : Nat → Nat → Int32} {J : Nat → Nat → Int64} {y0 : Int32} {y1 : Int32} {r : am_rho} {a0 : Nat} (h_a0 : a0 = 2003 ∨ a0 = 2004 ∨ a0 = 2005) : am_V d Q 283 9 [some (.ref a0)] [.int y1, .int y0] (am_hp N r I J) =
    Q (.int (y0 >>> (y1 &&& nI 31))) (am_hp N r I J) :=
  by rcases h_a0 with rfl | rfl | rfl <;> exact (am_V_un (fun p => Nat.beq p 9) 4).trans rfl
set_option maxRecDepth 100000 in
theorem e_Str_charAt {d : Nat} {Q : Value → am_H → Prop} {N : Nat} {I : Nat → Nat → Int32} {J : Nat → Nat → Int64} {x1 : Int32} {r : am_rho} {a0 : Nat} (h_a0 : a0 = 2003 ∨ a0 = 2004 ∨ a0 = 2005) : am_D (d + 1) 284 [.ref a0, .int x1] (am_hp N r I J) Q =
    am_D d 288 [.ref a0] (am_hp N r I J) (fun v h => am_asI v (fun y => am_V d Q 284 4 [some (.ref a0), some (.int x1)] [.int y] h)) :=
  by rcases h_a0 with rfl | rfl | rfl <;> exact (am_D_un rfl (fun p => Nat.beq p 4 || Nat.beq p 15) 4).trans rfl
set_option maxRecDepth 100000 in
theorem e_Str_charAt_4 {d : Nat} {Q : Value → am_H → Prop} {N : Nat} {I : Nat → Nat → Int32} {J : Nat → Nat → Int64} {x1 : Int32} {y0 : Int32} {r : am_rho} {a0 : Nat} (h_a0 : a0 = 2003 ∨ a0 = 2004 ∨ a0 = 2005) : am_V d Q 284 4 [some (.ref a0), some (.int x1)] [.int y0] (am_hp N r I J) =
    am_if (decide (y0 = (nI 0))) (False) (am_D d 290 [.ref (a0 + 10), .int x1] (am_hp N r I J) (fun v h => am_asI v (fun y => am_V d Q 284 15 [some (.ref a0), some (.int x1)] [.int y] h))) :=
  by rcases h_a0 with rfl | rfl | rfl <;> exact (am_V_un (fun p => Nat.beq p 4 || Nat.beq p 15) 7).trans rfl
set_option maxRecDepth 100000 in
theorem e_Str_charAt_15 {d : Nat} {Q : Value → am_H → Prop} {N : Nat} {I : Nat → Nat → Int32} {J : Nat → Nat → Int64} {x1 : Int32} {y0 : Int32} {r : am_rho} {a0 : Nat} (h_a0 : a0 = 2003 ∨ a0 = 2004 ∨ a0 = 2005) : am_V d Q 284 15 [some (.ref a0), some (.int x1)] [.int y0] (am_hp N r I J) =
    am_g (decide ((Int32.toUInt32 y0 % 65536).toInt32 = y0)) (Q (.int y0) (am_hp N r I J)) :=
  by rcases h_a0 with rfl | rfl | rfl <;> exact (am_V_un (fun p => Nat.beq p 4 || Nat.beq p 15) 3).trans rfl
set_option maxRecDepth 100000 in
theorem e_Str_indexOf {d : Nat} {Q : Value → am_H → Prop} {N : Nat} {I : Nat → Nat → Int32} {J : Nat → Nat → Int64} {x1 : Int32} {r : am_rho} {a0 : Nat} (h_a0 : a0 = 2003 ∨ a0 = 2004 ∨ a0 = 2005) : am_D (d + 1) 285 [.ref a0, .int x1] (am_hp N r I J) Q =
    am_D d 286 [.ref a0, .int x1, .int (nI 0)] (am_hp N r I J) (fun v h => am_asI v (fun y => am_V d Q 285 6 [some (.ref a0), some (.int x1)] [.int y] h)) :=
  by rcases h_a0 with rfl | rfl | rfl <;> exact (am_D_un rfl (fun p => Nat.beq p 6) 6).trans rfl
set_option maxRecDepth 100000 in
theorem e_Str_indexOf_6 {d : Nat} {Q : Value → am_H → Prop} {N : Nat} {I : Nat → Nat → Int32} {J : Nat → Nat → Int64} {x1 : Int32} {y0 : Int32} {r : am_rho} {a0 : Nat} (h_a0 : a0 = 2003 ∨ a0 = 2004 ∨ a0 = 2005) : am_V d Q 285 6 [some (.ref a0), some (.int x1)] [.int y0] (am_hp N r I J) =
    Q (.int y0) (am_hp N r I J) :=
  by rcases h_a0 with rfl | rfl | rfl <;> exact (am_V_un (fun p => Nat.beq p 6) 3).trans rfl
set_option maxRecDepth 100000 in
theorem e_Str_indexOf2 {d : Nat} {Q : Value → am_H → Prop} {N : Nat} {I : Nat → Nat → Int32} {J : Nat → Nat → Int64} {x1 : Int32} {x2 : Int32} {r : am_rho} {a0 : Nat} (h_a0 : a0 = 2003 ∨ a0 = 2004 ∨ a0 = 2005) : am_D (d + 1) 286 [.ref a0, .int x1, .int x2] (am_hp N r I J) Q =
    am_D d 288 [.ref a0] (am_hp N r I J) (fun v h => am_asI v (fun y => am_V d Q 286 4 [some (.ref a0), some (.int x1), some (.int x2)] [.int y] h)) :=
  by rcases h_a0 with rfl | rfl | rfl <;> exact (am_D_un rfl (fun p => Nat.beq p 4 || Nat.beq p 17 || Nat.beq p 20 || Nat.beq p 33) 4).trans rfl
set_option maxRecDepth 100000 in
theorem e_Str_indexOf2_4 {d : Nat} {Q : Value → am_H → Prop} {N : Nat} {I : Nat → Nat → Int32} {J : Nat → Nat → Int64} {x1 : Int32} {x2 : Int32} {y0 : Int32} {r : am_rho} {a0 : Nat} (h_a0 : a0 = 2003 ∨ a0 = 2004 ∨ a0 = 2005) : am_V d Q 286 4 [some (.ref a0), some (.int x1), some (.int x2)] [.int y0] (am_hp N r I J) =
    am_if (decide (y0 = (nI 0))) (am_D d 283 [.ref a0] (am_hp N r I J) (fun v h => am_asI v (fun y => am_V d Q 286 33 [some (.ref a0), some (.int x1), some (.int x2)] [.int y, .int x2, .int x1, .ref (a0 + 10)] h))) (am_D d 283 [.ref a0] (am_hp N r I J) (fun v h => am_asI v (fun y => am_V d Q 286 17 [some (.ref a0), some (.int x1), some (.int x2)] [.int y, .int x2, .int x1, .ref (a0 + 10)] h))) :=
  by rcases h_a0 with rfl | rfl | rfl <;> exact (am_V_un (fun p => Nat.beq p 4 || Nat.beq p 17 || Nat.beq p 20 || Nat.beq p 33) 9).trans rfl
set_option maxRecDepth 100000 in
theorem e_Str_indexOf2_17 {d : Nat} {Q : Value → am_H → Prop} {N : Nat} {I : Nat → Nat → Int32} {J : Nat → Nat → Int64} {x1 : Int32} {x2 : Int32} {y1 : Int32} {y2 : Int32} {y3 : Int32} {r : am_rho} {a0 : Nat} {q0 : Nat} (h_a0 : a0 = 2003 ∨ a0 = 2004 ∨ a0 = 2005) (h_q0 : q0 = 2013 ∨ q0 = 2014 ∨ q0 = 2015) : am_V d Q 286 17 [some (.ref a0), some (.int x1), some (.int x2)] [.int y3, .int y2, .int y1, .ref q0] (am_hp N r I J) =
    am_D d 292 [.ref q0, .int y1, .int y2, .int y3] (am_hp N r I J) (fun v h => am_asI v (fun y => am_V d Q 286 20 [some (.ref a0), some (.int x1), some (.int x2)] [.int y] h)) :=
  by rcases h_a0 with rfl | rfl | rfl <;> rcases h_q0 with rfl | rfl | rfl <;> exact (am_V_un (fun p => Nat.beq p 4 || Nat.beq p 17 || Nat.beq p 20 || Nat.beq p 33) 3).trans rfl
set_option maxRecDepth 100000 in
theorem e_Str_indexOf2_20 {d : Nat} {Q : Value → am_H → Prop} {N : Nat} {I : Nat → Nat → Int32} {J : Nat → Nat → Int64} {x1 : Int32} {x2 : Int32} {y0 : Int32} {r : am_rho} {a0 : Nat} (h_a0 : a0 = 2003 ∨ a0 = 2004 ∨ a0 = 2005) : am_V d Q 286 20 [some (.ref a0), some (.int x1), some (.int x2)] [.int y0] (am_hp N r I J) =
    Q (.int y0) (am_hp N r I J) :=
  by rcases h_a0 with rfl | rfl | rfl <;> exact (am_V_un (fun p => Nat.beq p 4 || Nat.beq p 17 || Nat.beq p 20 || Nat.beq p 33) 4).trans rfl
set_option maxRecDepth 100000 in
theorem e_Str_indexOf2_33 {d : Nat} {Q : Value → am_H → Prop} {N : Nat} {I : Nat → Nat → Int32} {J : Nat → Nat → Int64} {x1 : Int32} {x2 : Int32} {y1 : Int32} {y2 : Int32} {y3 : Int32} {r : am_rho} {a0 : Nat} {q0 : Nat} (h_a0 : a0 = 2003 ∨ a0 = 2004 ∨ a0 = 2005) (h_q0 : q0 = 2013 ∨ q0 = 2014 ∨ q0 = 2015) : am_V d Q 286 33 [some (.ref a0), some (.int x1), some (.int x2)] [.int y3, .int y2, .int y1, .ref q0] (am_hp N r I J) =
    False :=
  by rcases h_a0 with rfl | rfl | rfl <;> rcases h_q0 with rfl | rfl | rfl <;> exact (am_V_un (fun p => Nat.beq p 4 || Nat.beq p 17 || Nat.beq p 20 || Nat.beq p 33) 3).trans rfl
set_option maxRecDepth 100000 in
theorem e_Str_coder {d : Nat} {Q : Value → am_H → Prop} {N : Nat} {I : Nat → Nat → Int32} {J : Nat → Nat → Int64} {r : am_rho} {a0 : Nat} (h_a0 : a0 = 2003 ∨ a0 = 2004 ∨ a0 = 2005) : am_D (d + 1) 287 [.ref a0] (am_hp N r I J) Q =
    am_g (decide ((Int32.toInt8 (I a0 1)).toInt32 = (I a0 1))) (Q (.int (I a0 1)) (am_hp N r I J)) :=
  by rcases h_a0 with rfl | rfl | rfl <;> exact (am_D_un rfl (fun p => false) 8).trans rfl
set_option maxRecDepth 100000 in
theorem e_Str_isLatin1 {d : Nat} {Q : Value → am_H → Prop} {N : Nat} {I : Nat → Nat → Int32} {J : Nat → Nat → Int64} {r : am_rho} {a0 : Nat} (h_a0 : a0 = 2003 ∨ a0 = 2004 ∨ a0 = 2005) : am_D (d + 1) 288 [.ref a0] (am_hp N r I J) Q =
    am_if (!(decide ((I a0 1) = (nI 0)))) (Q (.int (nI 0)) (am_hp N r I J)) (Q (.int (nI 1)) (am_hp N r I J)) :=
  by rcases h_a0 with rfl | rfl | rfl <;> exact (am_D_un rfl (fun p => false) 10).trans rfl
set_option maxRecDepth 100000 in
theorem e_Str_checkIndex {d : Nat} {Q : Value → am_H → Prop} {N : Nat} {I : Nat → Nat → Int32} {J : Nat → Nat → Int64} {x0 : Int32} {x1 : Int32} {r : am_rho} : am_D (d + 1) 289 [.int x0, .int x1] (am_hp N r I J) Q =
    am_D d 295 [.int x0, .int x1, .ref 2010] (am_hp N r I J) (fun v h => am_asI v (fun y => am_V d Q 289 8 [some (.int x0), some (.int x1)] [.int y] h)) :=
  (am_D_un rfl (fun p => Nat.beq p 8) 6).trans rfl
set_option maxRecDepth 100000 in
theorem e_Str_checkIndex_8 {d : Nat} {Q : Value → am_H → Prop} {N : Nat} {I : Nat → Nat → Int32} {J : Nat → Nat → Int64} {x0 : Int32} {x1 : Int32} {y0 : Int32} {r : am_rho} : am_V d Q 289 8 [some (.int x0), some (.int x1)] [.int y0] (am_hp N r I J) =
    Q .null (am_hp N r I J) :=
  (am_V_un (fun p => Nat.beq p 8) 4).trans rfl
set_option maxRecDepth 100000 in
theorem e_Lat_charAt {d : Nat} {Q : Value → am_H → Prop} {N : Nat} {I : Nat → Nat → Int32} {J : Nat → Nat → Int64} {x1 : Int32} {r : am_rho} {a0 : Nat} (h_a0 : a0 = 2 ∨ a0 = 45) : am_D (d + 1) 290 [.ref a0, .int x1] (am_hp N r I J) Q =
    am_g (!(Nat.beq (am_TT N a0).1 0) && Nat.ble (am_TT N a0).1 7) (am_D d 289 [.int x1, .int (nI (am_TT N a0).2)] (am_hp N r I J) (fun v h => am_V d Q 290 6 [some (.ref a0), some (.int x1)] [] h)) :=
  by rcases h_a0 with rfl | rfl <;> exact (am_D_un rfl (fun p => Nat.beq p 6) 6).trans rfl
set_option maxRecDepth 100000 in
theorem e_Lat_charAt_6 {d : Nat} {Q : Value → am_H → Prop} {N : Nat} {I : Nat → Nat → Int32} {J : Nat → Nat → Int64} {x1 : Int32} {r : am_rho} {a0 : Nat} (h_a0 : a0 = 2 ∨ a0 = 45) : am_V d Q 290 6 [some (.ref a0), some (.int x1)] [] (am_hp N r I J) =
    am_g ((Nat.beq (am_TT N a0).1 3 || (Nat.beq (am_TT N a0).1 4 || Nat.beq (am_TT N a0).1 7)) && am_inb x1 (am_TT N a0).2) (am_g (decide ((Int32.toUInt32 (UInt32.toInt32 (Int32.toUInt32 ((I a0 x1.toNatClampNeg) &&& (nI 255)) % 65536)) % 65536).toInt32 = (UInt32.toInt32 (Int32.toUInt32 ((I a0 x1.toNatClampNeg) &&& (nI 255)) % 65536)))) (Q (.int (UInt32.toInt32 (Int32.toUInt32 ((I a0 x1.toNatClampNeg) &&& (nI 255)) % 65536))) (am_hp N r I J))) :=
  by rcases h_a0 with rfl | rfl <;> exact (am_V_un (fun p => Nat.beq p 6) 9).trans rfl
set_option maxRecDepth 100000 in
theorem e_Lat_canEncode {d : Nat} {Q : Value → am_H → Prop} {N : Nat} {I : Nat → Nat → Int32} {J : Nat → Nat → Int64} {x0 : Int32} {r : am_rho} : am_D (d + 1) 291 [.int x0] (am_hp N r I J) Q =
    am_if (decide (x0 < (nI 0))) (Q (.int (nI 0)) (am_hp N r I J)) (am_if (decide (((nI 255) : Int32) < x0)) (Q (.int (nI 0)) (am_hp N r I J)) (Q (.int (nI 1)) (am_hp N r I J))) :=
  (am_D_un rfl (fun p => false) 10).trans rfl
set_option maxRecDepth 100000 in
theorem e_Lat_indexOf {d : Nat} {Q : Value → am_H → Prop} {N : Nat} {I : Nat → Nat → Int32} {J : Nat → Nat → Int64} {x1 : Int32} {x2 : Int32} {x3 : Int32} {r : am_rho} {a0 : Nat} (h_a0 : a0 = 2 ∨ a0 = 45) : am_D (d + 1) 292 [.ref a0, .int x1, .int x2, .int x3] (am_hp N r I J) Q =
    am_D d 291 [.int x1] (am_hp N r I J) (fun v h => am_asI v (fun y => am_V d Q 292 4 [some (.ref a0), some (.int x1), some (.int x2), some (.int x3)] [.int y] h)) :=
  by rcases h_a0 with rfl | rfl <;> exact (am_D_un rfl (fun p => Nat.beq p 4 || Nat.beq p 14 || Nat.beq p 21 || Nat.beq p 36) 4).trans rfl
set_option maxRecDepth 100000 in
theorem e_Lat_indexOf_4 {d : Nat} {Q : Value → am_H → Prop} {N : Nat} {I : Nat → Nat → Int32} {J : Nat → Nat → Int64} {x1 : Int32} {x2 : Int32} {x3 : Int32} {y0 : Int32} {r : am_rho} {a0 : Nat} (h_a0 : a0 = 2 ∨ a0 = 45) : am_V d Q 292 4 [some (.ref a0), some (.int x1), some (.int x2), some (.int x3)] [.int y0] (am_hp N r I J) =
    am_if (!(decide (y0 = (nI 0)))) (am_D d 279 [.int x2, .int (nI 0)] (am_hp N r I J) (fun v h => am_asI v (fun y => am_V d Q 292 14 [some (.ref a0), some (.int x1), some (.int x2), some (.int x3)] [.int y] h))) (Q (.int (-nI 1)) (am_hp N r I J)) :=
  by rcases h_a0 with rfl | rfl <;> exact (am_V_un (fun p => Nat.beq p 4 || Nat.beq p 14 || Nat.beq p 21 || Nat.beq p 36) 6).trans rfl
set_option maxRecDepth 100000 in
theorem e_Lat_indexOf_14 {d : Nat} {Q : Value → am_H → Prop} {N : Nat} {I : Nat → Nat → Int32} {J : Nat → Nat → Int64} {x1 : Int32} {x2 : Int32} {x3 : Int32} {y0 : Int32} {r : am_rho} {a0 : Nat} (h_a0 : a0 = 2 ∨ a0 = 45) : am_V d Q 292 14 [some (.ref a0), some (.int x1), some (.int x2), some (.int x3)] [.int y0] (am_hp N r I J) =
    am_g (!(Nat.beq (am_TT N a0).1 0) && Nat.ble (am_TT N a0).1 7) (am_D d 281 [.int x3, .int (nI (am_TT N a0).2)] (am_hp N r I J) (fun v h => am_asI v (fun y => am_V d Q 292 21 [some (.ref a0), some (.int x1), some (.int y0), some (.int x3)] [.int y] h))) :=
  by rcases h_a0 with rfl | rfl <;> exact (am_V_un (fun p => Nat.beq p 4 || Nat.beq p 14 || Nat.beq p 21 || Nat.beq p 36) 7).trans rfl
set_option maxRecDepth 100000 in
theorem e_Lat_indexOf_21 {d : Nat} {Q : Value → am_H → Prop} {N : Nat} {I : Nat → Nat → Int32} {J : Nat → Nat → Int64} {x1 : Int32} {x2 : Int32} {x3 : Int32} {y0 : Int32} {r : am_rho} {a0 : Nat} (h_a0 : a0 = 2 ∨ a0 = 45) : am_V d Q 292 21 [some (.ref a0), some (.int x1), some (.int x2), some (.int x3)] [.int y0] (am_hp N r I J) =
    am_if (decide (x2 < y0)) (am_D d 293 [.ref a0, .int x1, .int x2, .int y0] (am_hp N r I J) (fun v h => am_asI v (fun y => am_V d Q 292 36 [some (.ref a0), some (.int x1), some (.int x2), some (.int y0)] [.int y] h))) (Q (.int (-nI 1)) (am_hp N r I J)) :=
  by rcases h_a0 with rfl | rfl <;> exact (am_V_un (fun p => Nat.beq p 4 || Nat.beq p 14 || Nat.beq p 21 || Nat.beq p 36) 11).trans rfl
set_option maxRecDepth 100000 in
theorem e_Lat_indexOf_36 {d : Nat} {Q : Value → am_H → Prop} {N : Nat} {I : Nat → Nat → Int32} {J : Nat → Nat → Int64} {x1 : Int32} {x2 : Int32} {x3 : Int32} {y0 : Int32} {r : am_rho} {a0 : Nat} (h_a0 : a0 = 2 ∨ a0 = 45) : am_V d Q 292 36 [some (.ref a0), some (.int x1), some (.int x2), some (.int x3)] [.int y0] (am_hp N r I J) =
    Q (.int y0) (am_hp N r I J) :=
  by rcases h_a0 with rfl | rfl <;> exact (am_V_un (fun p => Nat.beq p 4 || Nat.beq p 14 || Nat.beq p 21 || Nat.beq p 36) 3).trans rfl
set_option maxRecDepth 100000 in
theorem e_Lat_indexOfChar {d : Nat} {Q : Value → am_H → Prop} {N : Nat} {I : Nat → Nat → Int32} {J : Nat → Nat → Int64} {x1 : Int32} {x2 : Int32} {x3 : Int32} {r : am_rho} {a0 : Nat} (h_a0 : a0 = 2 ∨ a0 = 45) : am_D (d + 1) 293 [.ref a0, .int x1, .int x2, .int x3] (am_hp N r I J) Q =
    am_V d Q 293 7 [some (.ref a0), some (.int x1), some (.int x2), some (.int x3), some (.int (Int8.toInt32 (Int32.toInt8 x1))), some (.int x2)] [] (am_hp N r I J) :=
  by rcases h_a0 with rfl | rfl <;> exact (am_D_un rfl (fun p => Nat.beq p 7) 7).trans rfl
set_option maxRecDepth 100000 in
theorem e_Lat_indexOfChar_7 {d : Nat} {Q : Value → am_H → Prop} {N : Nat} {I : Nat → Nat → Int32} {J : Nat → Nat → Int64} {x1 : Int32} {x2 : Int32} {x3 : Int32} {x4 : Int32} {x5 : Int32} {r : am_rho} {a0 : Nat} (h_a0 : a0 = 2 ∨ a0 = 45) : am_V d Q 293 7 [some (.ref a0), some (.int x1), some (.int x2), some (.int x3), some (.int x4), some (.int x5)] [] (am_hp N r I J) =
    am_if (decide (x3 ≤ x5)) (Q (.int (-nI 1)) (am_hp N r I J)) (am_g ((Nat.beq (am_TT N a0).1 3 || (Nat.beq (am_TT N a0).1 4 || Nat.beq (am_TT N a0).1 7)) && am_inb x5 (am_TT N a0).2) (am_if (!(decide ((I a0 x5.toNatClampNeg) = x4))) (am_V d Q 293 7 [some (.ref a0), some (.int x1), some (.int x2), some (.int x3), some (.int x4), some (.int (x5 + (nI 1)))] [] (am_hp N r I J)) (Q (.int x5) (am_hp N r I J)))) :=
  by rcases h_a0 with rfl | rfl <;> exact (am_V_un (fun p => Nat.beq p 7) 12).trans rfl
set_option maxRecDepth 100000 in
theorem e_J_fill {d : Nat} {Q : Value → am_H → Prop} {N : Nat} {I : Nat → Nat → Int32} {J : Nat → Nat → Int64} {a0 : Nat} {x1 : Int32} {r : am_rho} : am_D (d + 1) 294 [.ref a0, .int x1] (am_hp N r I J) Q =
    am_g (!(Nat.beq (am_TT N a0).1 0) && Nat.ble (am_TT N a0).1 7) (am_V d Q 294 5 [some (.ref a0), some (.int x1), some (.int (nI 0)), some (.int (nI (am_TT N a0).2))] [] (am_hp N r I J)) :=
  (am_D_un rfl (fun p => Nat.beq p 5) 7).trans rfl
set_option maxRecDepth 100000 in
theorem e_J_fill_5 {d : Nat} {Q : Value → am_H → Prop} {N : Nat} {I : Nat → Nat → Int32} {J : Nat → Nat → Int64} {a0 : Nat} {x1 : Int32} {x2 : Int32} {x3 : Int32} {r : am_rho} : am_V d Q 294 5 [some (.ref a0), some (.int x1), some (.int x2), some (.int x3)] [] (am_hp N r I J) =
    am_if (decide (x3 ≤ x2)) (Q .null (am_hp N r I J)) (am_g (Nat.beq (am_TT N a0).1 1 && am_inb x2 (am_TT N a0).2) (am_V d Q 294 5 [some (.ref a0), some (.int x1), some (.int (x2 + (nI 1))), some (.int x3)] [] (am_hp N r (am_u I a0 x2.toNatClampNeg x1) J))) :=
  (am_V_un (fun p => Nat.beq p 5) 11).trans rfl
set_option maxRecDepth 100000 in
theorem e_Pre_checkIndex {d : Nat} {Q : Value → am_H → Prop} {N : Nat} {I : Nat → Nat → Int32} {J : Nat → Nat → Int64} {x0 : Int32} {x1 : Int32} {a2 : Nat} {r : am_rho} : am_D (d + 1) 295 [.int x0, .int x1, .ref a2] (am_hp N r I J) Q =
    am_if (decide (x0 < (nI 0))) (False) (am_if (decide (x0 < x1)) (Q (.int x0) (am_hp N r I J)) (False)) :=
  (am_D_un rfl (fun p => false) 11).trans rfl
