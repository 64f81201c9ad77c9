/-! ===== members that are no rows of ours; the calls; blocks ===== -/
def am_cyI (I : Nat → Nat → Int32) (a sp b dp n : Nat) : Nat → Nat → Int32 := fun c j => if c = b ∧ dp ≤ j ∧ j < dp + n then I a (sp + (j - dp)) else I c j
def am_pr (C : am_K) : am_K := fun mid args h Q => match mid with
  | 900 => match args with
    | [.ref _] => Q .null h
    | _ => False
  | 901 => match args with
    | [.ref a, .int sp, .ref b, .int dp, .int n] => am_g (Nat.beq (am_kd h a) 1 && (Nat.beq (am_kd h b) 1 && (!(decide (sp < 0)) && (!(decide (dp < 0)) && (!(decide (n < 0)) && (Nat.ble (sp.toNatClampNeg + n.toNatClampNeg) (am_len h a) && Nat.ble (dp.toNatClampNeg + n.toNatClampNeg) (am_len h b)))))))
        (Q .null (h.1, h.2.1, am_cyI h.2.2.1 a sp.toNatClampNeg b dp.toNatClampNeg n.toNatClampNeg, h.2.2.2.1, h.2.2.2.2))
    | _ => False
  | _ => False
theorem am_pr_mono (C : am_K) (_ : am_Cm C) : am_Cm (am_pr C) := by
  intro mid args h Q Q' hQ
  unfold am_pr
  split <;> (try exact id) <;> split <;> first | exact id | exact hQ _ _ | exact am_g_mono (hQ _ _)
abbrev am_D (d : Nat) : am_K := am_C am_tb am_co am_pr d
theorem am_D_mono (d : Nat) : am_Cm (am_D d) := am_C_mono am_pr_mono d
def am_V (d : Nat) (Q : Value → am_H → Prop) (mid pc : Nat) (L : am_L) (st : List Value) (h : am_H) : Prop := am_E (am_D d) am_co (am_tb mid).1 Q (0, 0) (am_seek (am_tb mid).1.1 pc) L st h
theorem am_V_un {d : Nat} {Q : Value → am_H → Prop} {mid pc : Nat} {L : am_L} {st : List Value} {h : am_H} (cut : Nat → Bool) (n : Nat) : am_V d Q mid pc L st h = am_un (am_D d) am_co (am_tb mid).1 Q cut n (0, 0) (am_seek (am_tb mid).1.1 pc) L st h := by
  unfold am_V
  rw [am_un_eq (am_D_mono d) cut n]
abbrev am_hp (N : Nat) (r : am_rho) (I : Nat → Nat → Int32) (J : Nat → Nat → Int64) : am_H := (140, am_TT N, I, J, am_RR r)
