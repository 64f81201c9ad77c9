/-! ===== L3: the model reads a line ===== -/
section
variable {Z : Nat → Nat → Int32} {n p m s q lo hi : Nat} {T : Nat → Nat} {sd : Bool} {f hn : Nat → Int32}
theorem nhF_9 : nhF f m n T q ≤ 9 := by unfold nhF; split; omega; split <;> omega
theorem ln5_b {wy : Nat → Nat → Bool} (h7 : n ≤ 700) (hp : p ≤ n) : (ln5 n T p hn m s wy).2 ≤ n ∧ (ln5 n T p hn m s wy).1 ≤ 9 := by
  have k1 := (tk_pos (T := T) h7 hp).2.2.1
  have k2 := (tk_pos (T := T) h7 k1).2.2.1
  have k3 := (tk_pos (T := T) h7 k2).2.2.1
  have k4 := (tk_pos (T := T) h7 k3).2.2.1
  unfold ln5
  split
  · exact ⟨hp, by show 2 ≤ 9; omega⟩
  · split
    · exact ⟨k1, nhF_9⟩
    · split
      · exact ⟨k2, nhF_9⟩
      · split
        · exact ⟨k2, by show 5 ≤ 9; omega⟩
        · split
          · exact ⟨k2, by show 3 ≤ 9; omega⟩
          · split
            · exact ⟨k3, Nat.le_trans nuF_9 (by omega)⟩
            · exact ⟨k4, Nat.zero_le _⟩
theorem ln9_b {lw : Nat → Bool} (h7 : n ≤ 700) (hp : tkE n T p ≤ n) : (ln9 n T p hn m lw).2 ≤ n ∧ (ln9 n T p hn m lw).1 ≤ 9 := by
  rw [ln9_s]
  have b1 := sxA_b (T := T) (f := hn) (m := m) (o := (0, tkE n T p)) hp (Nat.zero_le _)
  have b2 := sxL_b (b := lw (nhI hn m n T (tkE n T p))) b1.1 b1.2
  have b3 := stG_b (T := T) h7 b2.1 b2.2
  exact sxN_b h7 b3.1 b3.2
theorem ln10_b {lw : Nat → Bool} (h7 : n ≤ 700) (hp : tkE n T p ≤ n) : (ln10 n T p hn m lw).2 ≤ n ∧ (ln10 n T p hn m lw).1 ≤ 9 := by
  rw [ln10_s]
  have b1 := sxA_b (T := T) (f := hn) (m := m) (o := (0, tkE n T p)) hp (Nat.zero_le _)
  have b2 := sxL_b (b := lw (nhI hn m n T (tkE n T p))) b1.1 b1.2
  exact stG_b (T := T) h7 b2.1 b2.2
/-- one more than may be -/
theorem lnR_ful {w : Nat} (hk : tkK n T p = 4 + w) (h : ful Z w = true) : lnR Z sd n T p = (2, p) := by
  unfold ful at h
  have h' := of_decide_eq_true h
  rcases h' with ⟨rfl, e⟩ | ⟨rfl, e⟩ | ⟨rfl, e⟩ | ⟨rfl, e⟩ | ⟨rfl, e⟩
  · rw [lnR_4 hk]; unfold ln4; rw [if_pos e]
  · rw [lnR_5 hk]; unfold ln5; rw [if_pos e]
  · rw [lnR_6 hk]; unfold ln6; rw [if_pos e]
  · rw [lnR_7 hk]; unfold ln7; rw [if_pos e]
  · rw [lnR_8 hk]; unfold ln8; rw [if_pos e]
theorem lnR_no (h : tkK n T p < 4 ∨ 13 < tkK n T p) : lnR Z sd n T p = (1, p) := by
  unfold lnR
  rw [if_neg (by omega), if_neg (by omega), if_neg (by omega), if_neg (by omega), if_neg (by omega), if_neg (by omega), if_neg (by omega), if_neg (by omega), if_neg (by omega), if_neg (by omega)]
theorem zL_k (hk : 4 ≤ tkK n T p ∧ tkK n T p ≤ 12) : m_kn (zL Z n T p) = m_kn Z ∧ ∀ k, m_has (zL Z n T p) k = m_has Z k := by
  rcases (show tkK n T p = 4 ∨ tkK n T p = 5 ∨ tkK n T p = 6 ∨ tkK n T p = 7 ∨ tkK n T p = 8 ∨ tkK n T p = 9 ∨ tkK n T p = 10 ∨ tkK n T p = 11 ∨ tkK n T p = 12 by omega) with e | e | e | e | e | e | e | e | e
  · rw [zL_4 e]; unfold z4; refine ⟨?_, fun k => ?_⟩
    · unfold m_kn; rw [am_uN (by omega), am_uN (by omega), am_uN (by omega), am_uN (by omega), am_uN (by omega)]
    · unfold m_has; rw [am_uRow (by omega), am_uRow (by omega), am_uRow (by omega), am_uRow (by omega), am_uRow (by omega), am_uRow (by omega), am_uRow (by omega), am_uRow (by omega), am_uRow (by omega), am_uRow (by omega)]
  · rw [zL_5 e]; unfold z5; refine ⟨?_, fun k => ?_⟩
    · unfold m_kn; rw [am_uN (by omega), am_uN (by omega), am_uN (by omega), am_uN (by omega)]
    · unfold m_has; rw [am_uRow (by omega), am_uRow (by omega), am_uRow (by omega), am_uRow (by omega), am_uRow (by omega), am_uRow (by omega), am_uRow (by omega), am_uRow (by omega)]
  · rw [zL_6 e]; unfold z6; refine ⟨?_, fun k => ?_⟩
    · unfold m_kn; rw [am_uN (by omega), am_uN (by omega), am_uN (by omega), am_uN (by omega), am_uN (by omega)]
    · unfold m_has; rw [am_uRow (by omega), am_uRow (by omega), am_uRow (by omega), am_uRow (by omega), am_uRow (by omega), am_uRow (by omega), am_uRow (by omega), am_uRow (by omega), am_uRow (by omega), am_uRow (by omega)]
  · rw [zL_7 e]; unfold z7; refine ⟨?_, fun k => ?_⟩
    · unfold m_kn; rw [am_uN (by omega), am_uN (by omega), am_uN (by omega)]
    · unfold m_has; rw [am_uRow (by omega), am_uRow (by omega), am_uRow (by omega), am_uRow (by omega), am_uRow (by omega), am_uRow (by omega)]
  · rw [zL_8 e]; unfold z8; refine ⟨?_, fun k => ?_⟩
    · unfold m_kn; rw [am_uN (by omega), am_uN (by omega), am_uN (by omega), am_uN (by omega)]
    · unfold m_has; rw [am_uRow (by omega), am_uRow (by omega), am_uRow (by omega), am_uRow (by omega), am_uRow (by omega), am_uRow (by omega), am_uRow (by omega), am_uRow (by omega)]
  · rw [zL_9 e]; exact ⟨by unfold m_kn; rw [am_uN (by omega)], fun k => by unfold m_has; rw [am_uRow (by omega), am_uRow (by omega)]⟩
  · rw [zL_10 e]; exact ⟨by unfold m_kn; rw [am_uN (by omega)], fun k => by unfold m_has; rw [am_uRow (by omega), am_uRow (by omega)]⟩
  · rw [zL_11 e]; exact ⟨by unfold m_kn; rw [am_uN (by omega)], fun k => by unfold m_has; rw [am_uRow (by omega), am_uRow (by omega)]⟩
  · rw [zL_12 e]; exact ⟨by unfold m_kn; rw [am_uN (by omega)], fun k => by unfold m_has; rw [am_uRow (by omega), am_uRow (by omega)]⟩
theorem z13_k {ru kn kn' : Nat} {R : List Nat} (h : kn' < 2 ^ 31) : m_kn (z13 ru kn kn' R Z) = kn' := by
  unfold m_kn z13
  rw [am_uE, nI_clamp h]
theorem z13_h {ru kn kn' k : Nat} {R : List Nat} (h : kn < kn') (h' : kn' ≤ 64) : m_has (z13 ru kn kn' R Z) k = (m_has Z k || decide (k = ru)) := sorry
end
section
variable {d N : Nat} {Q : Value → am_H → Prop} {r : am_rho} {I Z : Nat → Nat → Int32} {J : Nat → Nat → Int64} {n p ln : Nat} {T : Nat → Nat} {v : Int32} {sd : Bool}
/-- what stands between the model's lines -/
def mdI (Z : Nat → Nat → Int32) (sd : Bool) (ln : Nat) (I : Nat → Nat → Int32) : Prop := zok Z ∧ mV I Z ∧ I 93 25 = nI ln ∧ I 93 35 = nI 0 ∧ I 93 36 = nI (m_kn Z) ∧ bt (I 93 24) 8 = sd ∧ ∀ k, k < 3 → bt (I 93 24) (16 + k) = m_has Z k
/-- a line, behind its first word -/
theorem md_line90 {w : Nat} (hx : txm I n T) (hi : mdI Z sd ln I) (hp : p ≤ n) (hw : tkK n T p = 4 + w) (hw9 : w ≤ 9) (hfu : ful Z w = false) (hsd : w = 8 → sd = false) (hv : tvm n T (tkE n T p) v)
    (hF : lnE N r J Q I n T (lnR Z sd n T p))
    (hS : ∀ q I' v', lnR Z sd n T p = (0, q) → tkK n T q = 27 → tvm n T (tkE n T q) v' → frm I I' → mdI (zL Z n T p) (sd || decide (tkK n T p = 12)) (ln + 1) I' → Q .null (am_hp N r (mS I' n T (0, tkE n T q) v') J)) :
    am_V (d + 150) Q 182 90 [some (.ref 93), some (.int (nI w)), none, none, none, none] [] (am_hp N r (mS (am_u I 93 24 (I 93 24 ||| am_pw w)) n T (0, tkE n T p) v) J) := sorry
/-- a line -/
theorem md_line (hx : txm I n T) (hi : mdI Z sd ln I) (hp : p ≤ n) (hv : tvm n T p v)
    (hF : lnE N r J Q I n T (lnR Z sd n T p))
    (hS : ∀ q I' v', lnR Z sd n T p = (0, q) → tkK n T q = 27 → tvm n T (tkE n T q) v' → frm I I' → mdI (zL Z n T p) (sd || decide (tkK n T p = 12)) (ln + 1) I' → Q .null (am_hp N r (mS I' n T (0, tkE n T q) v') J)) :
    am_D (d + 151) 182 [.ref 93] (am_hp N r (mS I n T (0, p) v) J) Q := sorry
end
