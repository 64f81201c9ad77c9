/-! ===== members that are no rows of ours; the calls; blocks ===== -/
def am_cyI (I : Nat → Nat → Int32) (a sp b dp n : Nat) : Nat → Nat → Int32 := fun c j => if c = b ∧ dp ≤ j ∧ j < dp + n then I a (sp + (j - dp)) else I c j
def am_look : Nat := 119
def am_f900 (args : List Value) (h : am_H) (Q : Value → am_H → Prop) : Prop := match args with
  | [.ref _] => Q .null h
  | _ => False
def am_f901 (args : List Value) (h : am_H) (Q : Value → am_H → Prop) : Prop := match args with
  | [.ref a, .int sp, .ref b, .int dp, .int n] => am_g (Nat.beq (am_kd h a) 1 && (Nat.beq (am_kd h b) 1 && (!(decide (sp < 0)) && (!(decide (dp < 0)) && (!(decide (n < 0)) && (Nat.ble (sp.toNatClampNeg + n.toNatClampNeg) (am_len h a) && Nat.ble (dp.toNatClampNeg + n.toNatClampNeg) (am_len h b)))))))
      (Q .null (h.1, h.2.1, am_cyI h.2.2.1 a sp.toNatClampNeg b dp.toNatClampNeg n.toNatClampNeg, h.2.2.2.1, h.2.2.2.2))
  | _ => False
def am_f905 (C : am_K) (args : List Value) (h : am_H) (Q : Value → am_H → Prop) : Prop := match args with
  | [.ref x, .int a, .int b, .ref o] => am_g (Nat.beq (am_kd h x) 21 && (Nat.beq (am_kd h (h.2.2.2.2 x 2)) 18 && (Nat.beq (am_kd h o) 2 && (Nat.ble 1 (am_len h o) && Nat.beq h.1 140))))
      (am_if (decide (0 ≤ a) && decide (a < h.2.2.1 (h.2.2.2.2 x 2) 2)) (am_if (decide (0 ≤ b) && decide (b ≤ 5)) (C am_look [.ref x, .int a, .int b] h (fun v h => am_asI v (fun y => Q (.int 0) (am_wJ h o 0 y.toInt64)))) (Q (.int 2) h)) (Q (.int 1) h))
  | _ => False
def am_pr (C : am_K) : am_K := fun mid args h Q => bif Nat.beq mid 900 then am_f900 args h Q else bif Nat.beq mid 901 then am_f901 args h Q else bif Nat.beq mid 905 then am_f905 C args h Q else False
theorem am_pr_mono (C : am_K) (hC : am_Cm C) : am_Cm (am_pr C) := by
  intro mid args h Q Q' hQ
  unfold am_pr
  cases Nat.beq mid 900
  · cases Nat.beq mid 901
    · cases Nat.beq mid 905
      · exact id
      · simp only [cond_false, cond_true]
        unfold am_f905
        split
        · exact am_g_mono (am_if_mono (am_if_mono (hC _ _ _ _ _ fun _ _ => am_asI_mono fun _ => hQ _ _) (hQ _ _)) (hQ _ _))
        · exact id
    · simp only [cond_false, cond_true]
      unfold am_f901
      split
      · exact am_g_mono (hQ _ _)
      · exact id
  · simp only [cond_true]
    unfold am_f900
    split
    · exact hQ _ _
    · exact id
abbrev am_D (d : Nat) : am_K := am_C am_tb am_co am_pr d
theorem am_D_mono (d : Nat) : am_Cm (am_D d) := am_C_mono am_pr_mono d
theorem am_D_900 {d : Nat} {args : List Value} {h : am_H} {Q : Value → am_H → Prop} : am_D (d + 1) 900 args h Q = am_f900 args h Q := rfl
theorem am_D_901 {d : Nat} {args : List Value} {h : am_H} {Q : Value → am_H → Prop} : am_D (d + 1) 901 args h Q = am_f901 args h Q := rfl
theorem am_D_905 {d : Nat} {args : List Value} {h : am_H} {Q : Value → am_H → Prop} : am_D (d + 1) 905 args h Q = am_f905 (am_D d) args h Q := rfl
theorem am_D_un {d : Nat} {Q : Value → am_H → Prop} {mid : Nat} {args : List Value} {h : am_H} (hm : Nat.ble 900 mid = false) (cut : Nat → Bool) (n : Nat) : am_D (d + 1) mid args h Q = am_g (Nat.ble (am_cat args) (am_tb mid).2) (am_un (am_D d) am_co (am_tb mid).1 Q cut n (0, 0) (am_tb mid).1.1 (am_in args (am_tb mid).2) [] h) := by
  show (bif Nat.ble 900 mid then _ else _) = _
  rw [hm, ← am_un_eq (am_D_mono d) cut n]
  rfl
def am_oi (o : Option Int32) : Option Value := match o with
  | none => none
  | some x => some (.int x)
def am_V (d : Nat) (Q : Value → am_H → Prop) (mid pc : Nat) (L : am_L) (st : List Value) (h : am_H) : Prop := am_E (am_D d) am_co (am_tb mid).1 Q (0, 0) (am_seek (am_tb mid).1.1 pc) L st h
theorem am_V_un {d : Nat} {Q : Value → am_H → Prop} {mid pc : Nat} {L : am_L} {st : List Value} {h : am_H} (cut : Nat → Bool) (n : Nat) : am_V d Q mid pc L st h = am_un (am_D d) am_co (am_tb mid).1 Q cut n (0, 0) (am_seek (am_tb mid).1.1 pc) L st h := by
  unfold am_V
  rw [am_un_eq (am_D_mono d) cut n]
abbrev am_hp (N : Nat) (r : am_rho) (I : Nat → Nat → Int32) (J : Nat → Nat → Int64) : am_H := (140, am_TT N, I, J, am_RR r)
def am_h3 (l : List (Nat × Nat × Nat)) (a b c : Nat) : Bool := l.any fun q => Nat.beq q.1 a && (Nat.beq q.2.1 b && Nat.beq q.2.2 c)
def am_h4 (l : List (Nat × Nat × Nat × Nat)) (a b c d : Nat) : Bool := l.any fun q => Nat.beq q.1 a && (Nat.beq q.2.1 b && (Nat.beq q.2.2.1 c && Nat.beq q.2.2.2 d))
def am_h1 (l : List Nat) (a : Nat) : Bool := l.any fun q => Nat.beq q a
