theorem bitsOf_4 {d : Nat} {Q : Value → am_H → Prop} {s n k : Int32} {h : am_H} :
  am_V d Q 216 4 [some (.int s), some (.int n), some (.int k)] [] h = am_if (decide (8 ≤ k)) (Q (.int n) h) (am_V d Q 216 4 [some (.int s), some (.int (n + (s >>> (k &&& 31) &&& 1))), some (.int (k + 1))] [] h) :=
  (am_V_un (fun p => Nat.beq p 4) 30).trans rfl
theorem isHouse_0 {d : Nat} {Q : Value → am_H → Prop} {N : Nat} {r : am_rho} {I : Nat → Nat → Int32} {J : Nat → Nat → Int64} {x : Int32} :
  am_V d Q 206 0 [some (.ref 93), some (.int x)] [] (am_hp N r I J) = am_if (decide (x < 0)) (Q (.int 0) (am_hp N r I J)) (am_if (decide (I 95 0 ≤ x)) (Q (.int 0) (am_hp N r I J)) (Q (.int 1) (am_hp N r I J))) :=
  (am_V_un (fun p => false) 30).trans rfl
theorem inHand_5 {d : Nat} {Q : Value → am_H → Prop} {N : Nat} {r : am_rho} {I : Nat → Nat → Int32} {J : Nat → Nat → Int64} {a b c e : Int32} {f : Option Value} :
  am_V d Q 215 5 [some (.ref 93), some (.int a), some (.int b), some (.int c), some (.int e), f] [] (am_hp N r I J) =
    am_if (decide (I 95 3 ≤ e)) (Q (.int c) (am_hp N r I J))
     (am_g (am_inb (8 * a + e) 184) (am_if (!(decide (I 124 (8 * a + e).toNatClampNeg = 1)))
       (am_V d Q 215 5 [some (.ref 93), some (.int a), some (.int b), some (.int (c ||| 0)), some (.int (e + 1)), some (.int (8 * a + e))] [] (am_hp N r I J))
       (am_g (am_inb (8 * a + e) 184) (am_if (!(decide (I 125 (8 * a + e).toNatClampNeg = b)))
        (am_V d Q 215 5 [some (.ref 93), some (.int a), some (.int b), some (.int (c ||| 0)), some (.int (e + 1)), some (.int (8 * a + e))] [] (am_hp N r I J))
        (am_V d Q 215 5 [some (.ref 93), some (.int a), some (.int b), some (.int (c ||| (1 <<< (e &&& 31)))), some (.int (e + 1)), some (.int (8 * a + e))] [] (am_hp N r I J)))))) :=
  (am_V_un (fun p => Nat.beq p 5) 60).trans rfl
