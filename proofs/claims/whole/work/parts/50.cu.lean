/-! ===== L3: the class's rows: copied, filled; a night made ready ===== -/
def am_fl (I : Nat → Nat → Int32) (a n : Nat) (x : Int32) : Nat → Nat → Int32 := fun b j => if b = a ∧ j < n then x else I b j
section
variable {d N : Nat} {Q : Value → am_H → Prop} {r : am_rho} {I : Nat → Nat → Int32} {J : Nat → Nat → Int64}
theorem s_901 {a b la lb sp dp n : Nat} (ha : am_TT N a = (1, la)) (hb : am_TT N b = (1, lb)) (h1 : sp + n ≤ la) (h2 : dp + n ≤ lb) (hl : la < 1000) (hm : lb < 1000) : am_D (d + 1) 901 [.ref a, .int (nI sp), .ref b, .int (nI dp), .int (nI n)] (am_hp N r I J) Q = Q .null (am_hp N r (am_cyI I a sp b dp n) J) := by
  rw [am_D_901]
  show am_g (Nat.beq (am_TT N a).1 1 && (Nat.beq (am_TT N b).1 1 && (!(decide (nI sp < 0)) && (!(decide (nI dp < 0)) && (!(decide (nI n < 0)) && (Nat.ble ((nI sp).toNatClampNeg + (nI n).toNatClampNeg) (am_TT N a).2 && Nat.ble ((nI dp).toNatClampNeg + (nI n).toNatClampNeg) (am_TT N b).2)))))) (Q .null (am_hp N r (am_cyI I a (nI sp).toNatClampNeg b (nI dp).toNatClampNeg (nI n).toNatClampNeg) J)) = _
  rw [ha, hb, nI_clamp (by omega), nI_clamp (by omega), nI_clamp (by omega)]
  have p1 : ¬ nI sp < 0 := nI_pos (by omega)
  have p2 : ¬ nI dp < 0 := nI_pos (by omega)
  have p3 : ¬ nI n < 0 := nI_pos (by omega)
  refine am_gT ?_
  simp only [p1, p2, p3, decide_false, Bool.not_false, Bool.true_and, Nat.ble_eq_true_of_le h1, Nat.ble_eq_true_of_le h2]
  rfl
theorem s_J_fill {a n : Nat} {x : Int32} (ha : am_TT N a = (1, n)) (hn : n < 1000) : am_D (d + 1) 294 [.ref a, .int x] (am_hp N r I J) Q = Q .null (am_hp N r (am_fl I a n x) J) := by
  have step : ∀ k, k < n → am_u (am_fl I a k x) a k x = am_fl I a (k + 1) x := by
    intro k hk
    funext b j; unfold am_u am_fl; try dsimp only
    by_cases c : b = a ∧ j = k
    · rw [if_pos c, if_pos (by omega)]
    · rw [if_neg c]
      by_cases c2 : b = a ∧ j < k
      · rw [if_pos c2, if_pos (by omega)]
      · rw [if_neg c2, if_neg (by omega)]
  have lp := am_up (P := fun k => am_V d Q 294 5 [some (.ref a), some (.int x), some (.int (nI k)), some (.int (nI n))] [] (am_hp N r (am_fl I a k x) J)) (R := Q .null (am_hp N r (am_fl I a n x) J)) n
    (by
      try dsimp only
      rw [e_J_fill_5]
      try simp (config := {maxSteps := 1000000}) (disch := omega) only [nI_add, nI_1, am_mulN, nI_clamp, am_gI, am_ifd, am_ifn, am_asIe, am_asLe, nI_leI, nI_ltI, nI_eq, am_neg1, am_neg1b, Nat.le_refl, if_true])
    (by
      intro k hk
      try dsimp only
      rw [e_J_fill_5, ha]
      have hg : (Nat.beq ((1, n) : Nat × Nat).1 1 && am_inb (nI k) ((1, n) : Nat × Nat).2) = true := by
        show (true && am_inb (nI k) n) = true
        rw [am_inbT hk (by omega)]; rfl
      try simp (config := {maxSteps := 1000000}) (disch := omega) only [nI_add, nI_1, am_mulN, nI_clamp, am_gI, am_ifd, am_ifn, am_asIe, am_asLe, nI_leI, nI_ltI, nI_eq, am_neg1, am_neg1b, am_gT hg]
      rw [if_neg (by omega), step k hk])
  rw [e_J_fill, ha]
  have h0 : am_fl I a 0 x = I := by funext b j; unfold am_fl; rw [if_neg (by omega)]
  have := lp 0 (by omega)
  try dsimp only at this
  rw [h0] at this
  exact this
theorem c_2k {k : Nat} (hk : k ≤ 30) : (nI 1 <<< (nI k &&& nI 31)) - nI 1 = nI (2 ^ k - 1) := by
  rw [c_shl (by omega) (by have : 2 ^ k ≤ 2 ^ 30 := Nat.pow_le_pow_right (by omega) hk; omega), Nat.one_mul, am_subN (Nat.one_le_two_pow)]
theorem b_2k : ∀ k, k < 9 → ∀ i, i < 32 → bt (nI (2 ^ k - 1)) i = decide (i < k) := by decide +kernel
def c_all (k : Nat) : Int32 := nI (2 ^ k - 1)
def c_suit (I : Nat → Nat → Int32) (t w z : Nat) : Nat → Nat → Int32 := fun a j =>
  if a = 61 ∧ j = 10 then c_all z
  else if a = 61 ∧ (j = 11 ∨ j = 12) then nI 0
  else if a = 69 ∧ j < 8 then (I (w + 5) j + I (t + 14) j) + nI ((bt (I t 5) j).toNat * 3)
  else if a = 70 ∧ j < 5 then I (t + 7) j
  else if a = 71 ∧ j < 5 then I (t + 8) j
  else I a j
theorem s_N_suit {t w z rt rs rd rl rx nt nw nf : Nat} (ht : t = 3 ∨ t = 23) (hw : w = 49 ∨ w = 55 ∨ w = 82) (hz : I t 2 = nI z) (hz5 : z ≤ 5) : am_D (d + 2) 20 [.ref 61, .ref t, .ref w] (am_hp N (rt, rs, rd, rl, rx, nt, nw, nf) I J) Q = Q .null (am_hp N (rt, rs, rd, rl, rx, t, t + 4, t + 5) (c_suit I t w z) J) := by
  have T7 : am_TT N (t + 7) = (1, 5) := by rcases ht with rfl | rfl <;> rfl
  have T8 : am_TT N (t + 8) = (1, 5) := by rcases ht with rfl | rfl <;> rfl
  have T70 : am_TT N 70 = (1, 5) := rfl
  have T71 : am_TT N 71 = (1, 5) := rfl
  let A : Nat → Nat → Nat → Int32 := fun k a j => if a = 69 ∧ j < k then (I (w + 5) j + I (t + 14) j) + nI ((bt (I t 5) j).toNat * 3) else if a = 70 ∧ j < 5 then I (t + 7) j else if a = 71 ∧ j < 5 then I (t + 8) j else I a j
  have Ao : ∀ k a j, a ≠ 69 → a ≠ 70 → a ≠ 71 → A k a j = I a j := by
    intro k a j h1 h2 h3
    show (if _ then _ else if _ then _ else if _ then _ else _) = _
    rw [if_neg (by omega), if_neg (by omega), if_neg (by omega)]
  have As : ∀ k, am_u (A k) 69 k ((I (w + 5) k + I (t + 14) k) + nI ((bt (I t 5) k).toNat * 3)) = A (k + 1) := by
    intro k
    funext a j
    unfold am_u
    show _ = (if _ then _ else if _ then _ else if _ then _ else _)
    by_cases c : a = 69 ∧ j = k
    · rw [if_pos c, if_pos (by omega), c.2]
    · rw [if_neg c]
      show (if _ then _ else if _ then _ else if _ then _ else _) = _
      by_cases c2 : a = 69 ∧ j < k
      · rw [if_pos c2, if_pos (by omega)]
      · rw [if_neg c2, if_neg (show ¬ (a = 69 ∧ j < k + 1) by omega)]
  have A0 : am_cyI (am_cyI I (t + 7) 0 70 0 5) (t + 8) 0 71 0 5 = A 0 := by
    funext a j
    unfold am_cyI
    show _ = (if _ then _ else if _ then _ else if _ then _ else _)
    rw [if_neg (show ¬ (a = 69 ∧ j < 0) by omega)]
    by_cases c1 : a = 71 ∧ j < 5
    · rw [if_pos (show a = 71 ∧ 0 ≤ j ∧ j < 0 + 5 by omega), if_neg (show ¬ (a = 70 ∧ j < 5) by omega), if_pos c1, if_neg (by omega), show 0 + (j - 0) = j by omega]
    · rw [if_neg (show ¬ (a = 71 ∧ 0 ≤ j ∧ j < 0 + 5) by omega)]
      by_cases c2 : a = 70 ∧ j < 5
      · rw [if_pos (show a = 70 ∧ 0 ≤ j ∧ j < 0 + 5 by omega), if_pos c2, show 0 + (j - 0) = j by omega]
      · rw [if_neg (show ¬ (a = 70 ∧ 0 ≤ j ∧ j < 0 + 5) by omega), if_neg c2, if_neg c1]
  have lp := am_up (P := fun k => am_V (d + 1) Q 20 63 [some (.ref 61), some (.ref t), some (.ref w), some (.int (nI k))] [] (am_hp N (rt, rs, rd, rl, rx, t, t + 4, t + 5) (A k) J)) (R := Q .null (am_hp N (rt, rs, rd, rl, rx, t, t + 4, t + 5) (c_suit I t w z) J)) 8
    (by
      try dsimp only
      rw [e_Night_suit_63 ht hw ht]
      try simp (config := {maxSteps := 1000000}) (disch := omega) only [nI_add, nI_1, am_mulN, nI_clamp, am_gI, am_ifd, am_ifn, am_asIe, am_asLe, nI_leI, nI_ltI, nI_eq, am_neg1, am_neg1b, Nat.le_refl, if_true]
      rw [e_Town_allSleepers ht]
      try simp (config := {maxSteps := 1000000}) (disch := omega) only [nI_add, nI_1, am_mulN, nI_clamp, am_gI, am_ifd, am_ifn, am_asIe, am_asLe, nI_leI, nI_ltI, nI_eq, am_neg1, am_neg1b, Ao, hz, c_2k]
      rw [e_Night_suit_119 ht hw]
      congr 2
      funext a j
      unfold am_u c_suit c_all
      try dsimp only
      by_cases c1 : a = 61 ∧ j = 10
      · rw [if_neg (by omega), if_neg (by omega), if_pos c1, if_pos c1]
      · by_cases c2 : a = 61 ∧ j = 11
        · rw [if_neg (by omega), if_pos c2, if_neg c1, if_pos (by omega)]
        · by_cases c3 : a = 61 ∧ j = 12
          · rw [if_pos c3, if_neg c1, if_pos (by omega)]
          · rw [if_neg c3, if_neg c2, if_neg c1, if_neg c1, if_neg (by omega)])
    (by
      intro k hk
      try dsimp only
      rw [e_Night_suit_63 ht hw ht]
      try simp (config := {maxSteps := 1000000}) (disch := omega) only [nI_add, nI_1, am_mulN, nI_clamp, am_gI, am_ifd, am_ifn, am_asIe, am_asLe, nI_leI, nI_ltI, nI_eq, am_neg1, am_neg1b, Ao, b_v, As]
      rw [if_neg (by omega)])
  rw [e_Night_suit ht hw, am_RRu5, am_RRu6, am_RRu7]
  rw [s_901 T7 T70 (by omega) (by omega) (by omega) (by omega), e_Night_suit_44 ht hw ht, s_901 T8 T71 (by omega) (by omega) (by omega) (by omega), e_Night_suit_61 ht hw, A0]
  exact lp 0 (by omega)
end
