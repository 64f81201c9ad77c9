/-! ===== L3: the laws' numbers; what the class makes of two sides ===== -/
def lw_E : Int64 := Int64.ofNat 9223372036854775808
def lw_B (x : Int64) : Prop := -1000000000000 ≤ x.toInt ∧ x.toInt ≤ 1000000000000
theorem lw_Lt : lw_L.toInt = 1000000000000 := by decide +kernel
theorem lw_nLt : lw_nL.toInt = -1000000000000 := by decide +kernel
theorem lw_Et : lw_E.toInt = -9223372036854775808 := by decide +kernel
theorem lw_B_E {x : Int64} (h : lw_B x) : x ≠ lw_E := by
  intro e
  have h1 := h.1
  rw [e, lw_Et] at h1
  omega
theorem lw_c_eq {z : Int64} (h : lw_B z) : lw_c z = some z := by
  unfold lw_c
  rw [if_neg (by rw [fa_lt64, lw_Lt]; have := h.2; omega), if_neg (by rw [fa_lt64, lw_nLt]; have := h.1; omega)]
theorem lw_c_no {z : Int64} (h : ¬ lw_B z) : lw_c z = none := by
  unfold lw_c
  by_cases h1 : lw_L < z
  · rw [if_pos h1]
  · rw [if_neg h1, if_pos]
    rw [fa_lt64, lw_nLt]
    rw [fa_lt64, lw_Lt] at h1
    unfold lw_B at h
    omega
theorem lw_c_B {z z' : Int64} (h : lw_c z = some z') : lw_B z' := by
  by_cases hb : lw_B z
  · rw [lw_c_eq hb] at h
    injection h with h
    rw [← h]; exact hb
  · rw [lw_c_no hb] at h
    cases h
theorem lw_if {c : Prop} [Decidable c] {a b : Option Int64} {z : Int64} (ha : a = some z → lw_B z) (hb : b = some z → lw_B z) : (if c then a else b) = some z → lw_B z := by
  split
  · exact ha
  · exact hb
theorem lw_op_B {s : Int32} {x y z : Int64} (h : lw_op s x y = some z) : lw_B z := by
  unfold lw_op at h
  have no : ∀ {z : Int64}, (none : Option Int64) = some z → lw_B z := by intro z h; cases h
  exact lw_if (lw_if lw_c_B (lw_if lw_c_B no)) (lw_if lw_c_B (lw_if lw_c_B (lw_if (lw_if no lw_c_B) (lw_if lw_c_B (lw_if lw_c_B (lw_if lw_c_B (lw_if lw_c_B (lw_if lw_c_B (lw_if lw_c_B (lw_if lw_c_B lw_c_B)))))))))) h
theorem lw_bmod {a : Int} (h1 : -9223372036854775808 ≤ a) (h2 : a ≤ 9223372036854775807) : a.bmod (2 ^ 64) = a := by
  rw [Int.bmod_eq_of_le] <;> omega
theorem lw_addI {x y : Int64} (hx : lw_B x) (hy : lw_B y) : (x + y).toInt = x.toInt + y.toInt := by
  obtain ⟨h1, h2⟩ := hx
  obtain ⟨h3, h4⟩ := hy
  rw [Int64.toInt_add, lw_bmod] <;> omega
theorem lw_subI {x y : Int64} (hx : lw_B x) (hy : lw_B y) : (x - y).toInt = x.toInt - y.toInt := by
  obtain ⟨h1, h2⟩ := hx
  obtain ⟨h3, h4⟩ := hy
  rw [Int64.toInt_sub, lw_bmod] <;> omega
theorem lw_negI {x : Int64} (h : -9223372036854775808 < x.toInt) : (-x).toInt = -x.toInt := by
  have := Int64.toInt_le x
  have hm : Int64.maxValue.toInt = 9223372036854775807 := by decide +kernel
  rw [Int64.toInt_neg, lw_bmod] <;> omega
theorem lw_absI {x : Int64} (h : -9223372036854775808 < x.toInt) : (lw_abs x).toInt = if 0 ≤ x.toInt then x.toInt else -x.toInt := by
  unfold lw_abs
  have h0 : (0 : Int64).toInt = 0 := rfl
  by_cases c : 0 ≤ x
  · rw [if_pos c]
    rw [fa_le64, h0] at c
    rw [if_pos c]
  · rw [if_neg c, lw_negI h]
    rw [fa_le64, h0] at c
    rw [if_neg c]
theorem lw_absB {x : Int64} (h : -9223372036854775808 < x.toInt) : lw_abs x ≤ lw_L ↔ lw_B x := by
  rw [fa_le64, lw_Lt, lw_absI h]
  unfold lw_B
  split <;> omega
theorem lw_mulB {x y : Int64} (hx : lw_B x) (hy : lw_B y) (h0 : x ≠ 0) (h : lw_abs y ≤ lw_L / lw_abs x) : lw_B (x * y) := by
  have hx0 : x.toInt ≠ 0 := by
    intro e
    apply h0
    rw [fa_eq64]
    exact e
  have hx1 : -9223372036854775808 < x.toInt := by have := hx.1; omega
  have hy1 : -9223372036854775808 < y.toInt := by have := hy.1; omega
  have ax := lw_absI hx1
  have ay := lw_absI hy1
  generalize hA : (lw_abs x).toInt = A at ax
  generalize hC : (lw_abs y).toInt = C at ay
  have hA0 : 0 < A := by rw [ax]; split <;> omega
  have hA1 : A ≤ 1000000000000 := by rw [ax]; have := hx.1; have := hx.2; split <;> omega
  have hC0 : 0 ≤ C := by rw [ay]; split <;> omega
  rw [fa_le64, Int64.toInt_div, lw_Lt, hA, hC] at h
  have hd : (1000000000000 : Int).tdiv A = 1000000000000 / A := Int.tdiv_eq_ediv_of_nonneg (by omega)
  have hq0 : 0 ≤ 1000000000000 / A := Int.ediv_nonneg (by omega) (by omega)
  have hq1 : 1000000000000 / A ≤ 1000000000000 := Int.ediv_le_self _ (by omega)
  rw [hd, lw_bmod (by omega) (by omega)] at h
  have hm : C * A ≤ 1000000000000 := by
    have h1 : C * A ≤ (1000000000000 / A) * A := Int.mul_le_mul_of_nonneg_right h (by omega)
    have h2 : (1000000000000 / A) * A ≤ 1000000000000 := Int.ediv_mul_le _ (by omega)
    omega
  have hcA : 0 ≤ C * A := Int.mul_nonneg hC0 (by omega)
  have hp : x.toInt * y.toInt = C * A ∨ x.toInt * y.toInt = -(C * A) := by
    rw [ax, ay]
    by_cases c1 : 0 ≤ x.toInt <;> by_cases c2 : 0 ≤ y.toInt <;> simp only [c1, c2, if_true, if_false]
    · left; rw [Int.mul_comm]
    · right; rw [Int.neg_mul, Int.neg_neg, Int.mul_comm]
    · right; rw [Int.mul_neg, Int.neg_neg, Int.mul_comm]
    · left; rw [Int.neg_mul_neg, Int.mul_comm]
  have hb : -1000000000000 ≤ x.toInt * y.toInt ∧ x.toInt * y.toInt ≤ 1000000000000 := by
    rcases hp with e | e <;> rw [e] <;> omega
  unfold lw_B
  rw [Int64.toInt_mul, lw_bmod (by omega) (by omega)]
  exact hb
theorem lw_divB {x y : Int64} (hx : lw_B x) : lw_B (x / y) := by
  have hb : -1000000000000 ≤ x.toInt.tdiv y.toInt ∧ x.toInt.tdiv y.toInt ≤ 1000000000000 := by
    have h1 : (x.toInt.tdiv y.toInt).natAbs ≤ x.toInt.natAbs := by
      rw [Int.natAbs_tdiv]
      exact Nat.div_le_self _ _
    have := hx.1
    have := hx.2
    omega
  unfold lw_B
  rw [Int64.toInt_div, lw_bmod (by omega) (by omega)]
  exact hb
theorem lw_B0 : lw_B 0 := by unfold lw_B; decide +kernel
theorem lw_B1 : lw_B 1 := by unfold lw_B; decide +kernel
theorem lw_Bi {c : Prop} [Decidable c] : lw_B (if c then 0 else 1) := by split; exact lw_B0; exact lw_B1
theorem lw_Bj {c : Prop} [Decidable c] : lw_B (if c then 1 else 0) := by split; exact lw_B1; exact lw_B0
/-- the class's kind of a sign -/
def lw_kd (s : Nat) : Nat := if s = 262 then 17 else if s = 261 then 18 else if s = 260 then 19 else if s = 43 then 30 else if s = 45 then 31 else if s = 42 then 32 else if s = 47 then 33 else if s = 60 then 34 else if s = 256 then 35 else if s = 61 then 36 else if s = 257 then 37 else if s = 258 then 38 else 39
def lw_sg (s : Nat) : Prop := s = 262 ∨ s = 261 ∨ s = 43 ∨ s = 45 ∨ s = 42 ∨ s = 47 ∨ s = 60 ∨ s = 256 ∨ s = 61 ∨ s = 257 ∨ s = 258 ∨ s = 62
section
variable {d N : Nat} {Q : Value → am_H → Prop} {r : am_rho} {I : Nat → Nat → Int32} {J : Nat → Nat → Int64}
theorem lw_ors {x y : Int64} {H : am_H} : (if x = 0 then (if y = 0 then Q (.long 0) H else Q (.long 1) H) else Q (.long 1) H) = Q (.long (if x = 0 then (if y = 0 then 0 else 1) else 1)) H := by
  split
  · split <;> rfl
  · rfl
theorem s_Re_joined {s : Nat} {x y : Int64} (hs : lw_sg s) (hx : lw_B x) (hy : lw_B y) : am_D (d + 2) 54 [.int (nI (lw_kd s)), .long x, .long y] (am_hp N r I J) Q = Q (.long ((lw_op (nI s) x y).getD lw_E)) (am_hp N r I J) := by
  have hM : (Int64.ofNat 1000000000000) = lw_L := rfl
  have hE : (Int64.ofNat 9223372036854775808) = lw_E := rfl
  have c0 : ∀ (c : Prop) [Decidable c], (lw_c (if c then 0 else 1)).getD lw_E = if c then 0 else 1 := by
    intro c _; rw [lw_c_eq lw_Bi]; rfl
  have c1 : ∀ (c : Prop) [Decidable c], (lw_c (if c then 1 else 0)).getD lw_E = if c then 1 else 0 := by
    intro c _; rw [lw_c_eq lw_Bj]; rfl
  have ql : ∀ (c : Prop) [Decidable c] (u w : Int64), (if c then Q (.long u) (am_hp N r I J) else Q (.long w) (am_hp N r I J)) = Q (.long (if c then u else w)) (am_hp N r I J) := by
    intro c _ u w; split <;> rfl
  rcases hs with rfl | rfl | rfl | rfl | rfl | rfl | rfl | rfl | rfl | rfl | rfl | rfl
  · rw [e_Reckoner_joined, lw_op]
    simp (disch := omega) only [lw_kd, nI_add, nI_1, am_mulN, nI_clamp, am_gI, am_ifd, am_ifn, am_asIe, am_asLe, nI_leI, nI_ltI, nI_eq, am_neg1, am_neg1b, am_lgE, e_Reckoner_joined_120, if_true, if_false, Nat.reduceEqDiff]
    rw [lw_ors]
    have : lw_B (if x = 0 then (if y = 0 then 0 else 1) else 1) := by
      split
      · exact lw_Bi
      · exact lw_B1
    rw [lw_c_eq this]
    rfl
  · rw [e_Reckoner_joined, lw_op]
    simp (disch := omega) only [lw_kd, nI_add, nI_1, am_mulN, nI_clamp, am_gI, am_ifd, am_ifn, am_asIe, am_asLe, nI_leI, nI_ltI, nI_eq, am_neg1, am_neg1b, am_lgE, e_Reckoner_joined_142, if_true, if_false, Nat.reduceEqDiff]
    have : lw_B (if x = 0 then 0 else if y = 0 then 0 else 1) := by
      split
      · exact lw_B0
      · exact lw_Bi
    rw [lw_c_eq this]
    split
    · rfl
    · split <;> rfl
  · rw [e_Reckoner_joined, lw_op]
    simp (disch := omega) only [lw_kd, nI_add, nI_1, am_mulN, nI_clamp, am_gI, am_ifd, am_ifn, am_asIe, am_asLe, nI_leI, nI_ltI, nI_eq, am_neg1, am_neg1b, s_J_abs, e_Reckoner_joined_222, am_lgL, if_true, if_false, Nat.reduceEqDiff, hM, hE]
    have hn : -9223372036854775808 < (x + y).toInt := by rw [lw_addI hx hy]; have := hx.1; have := hy.1; omega
    by_cases hb : lw_B (x + y)
    · rw [if_pos ((lw_absB hn).mpr hb), lw_c_eq hb]; rfl
    · rw [if_neg (fun h => hb ((lw_absB hn).mp h)), lw_c_no hb]; rfl
  · rw [e_Reckoner_joined, lw_op]
    simp (disch := omega) only [lw_kd, nI_add, nI_1, am_mulN, nI_clamp, am_gI, am_ifd, am_ifn, am_asIe, am_asLe, nI_leI, nI_ltI, nI_eq, am_neg1, am_neg1b, s_J_abs, e_Reckoner_joined_245, am_lgL, if_true, if_false, Nat.reduceEqDiff, hM, hE]
    have hn : -9223372036854775808 < (x - y).toInt := by rw [lw_subI hx hy]; have := hx.1; have := hy.2; omega
    by_cases hb : lw_B (x - y)
    · rw [if_pos ((lw_absB hn).mpr hb), lw_c_eq hb]; rfl
    · rw [if_neg (fun h => hb ((lw_absB hn).mp h)), lw_c_no hb]; rfl
  · rw [e_Reckoner_joined, lw_op]
    simp (disch := omega) only [lw_kd, nI_add, nI_1, am_mulN, nI_clamp, am_gI, am_ifd, am_ifn, am_asIe, am_asLe, nI_leI, nI_ltI, nI_eq, am_neg1, am_neg1b, s_J_abs, e_Reckoner_joined_272, e_Reckoner_joined_279, e_Reckoner_joined_290, am_lgL, am_lgE, if_true, if_false, Nat.reduceEqDiff, hM, hE]
    by_cases h0 : x = 0
    · rw [if_pos h0, if_pos h0, h0, Int64.zero_mul, lw_c_eq lw_B0]; rfl
    · have ha : ¬ lw_abs x = 0 := by
        intro e
        have h1 := lw_absI (x := x) (by have := hx.1; omega)
        rw [e] at h1
        apply h0
        rw [fa_eq64]
        have h2 : (0 : Int64).toInt = 0 := rfl
        rw [h2] at h1 ⊢
        split at h1 <;> omega
      rw [if_neg h0, if_neg h0, am_gn ha]
      by_cases hc : lw_abs y ≤ lw_L / lw_abs x
      · rw [if_pos hc, if_pos hc, lw_c_eq (lw_mulB hx hy h0 hc)]; rfl
      · rw [if_neg hc, if_neg hc]; rfl
  · rw [e_Reckoner_joined, lw_op]
    simp (disch := omega) only [lw_kd, nI_add, nI_1, am_mulN, nI_clamp, am_gI, am_ifd, am_ifn, am_asIe, am_asLe, nI_leI, nI_ltI, nI_eq, am_neg1, am_neg1b, e_Reckoner_joined_294, am_lgE, if_true, if_false, Nat.reduceEqDiff, hM, hE]
    by_cases h0 : y = 0
    · rw [if_pos h0, if_pos h0]; rfl
    · rw [if_neg h0, if_neg h0, am_gn h0, lw_c_eq (lw_divB hx)]; rfl
  all_goals
    rw [e_Reckoner_joined, lw_op]
    simp (disch := omega) only [lw_kd, nI_add, nI_1, am_mulN, nI_clamp, am_gI, am_ifd, am_ifn, am_asIe, am_asLe, nI_leI, nI_ltI, nI_eq, am_neg1, am_neg1b, am_lgE, am_lgG, am_lgL, am_lgg, am_lgl, if_true, if_false, Nat.reduceEqDiff, ql, c0, c1]
end
