/-! ===== L3: the model's lines ===== -/
def hfz (a : Nat) : Nat := if a = 95 then 7 else if a ≤ 99 then 8 else if a ≤ 102 then 12 else if a ≤ 106 then 5 else if a ≤ 108 then 8 else if a ≤ 111 then 6 else if a ≤ 113 then 3 else 64
/-- rows of a half that are told: of the knots those that are counted -/
def hfy (Z : Nat → Nat → Int32) (a : Nat) : Nat := if a < 114 then hfz a else m_kn Z
def mV (I Z : Nat → Nat → Int32) : Prop := ∀ a k, 95 ≤ a → a ≤ 115 → k < hfy Z a → I a (hfz a + k) = Z a k
def frm (I I' : Nat → Nat → Int32) : Prop := (∀ a, a ≠ 93 → ¬ (95 ≤ a ∧ a ≤ 115) → I' a = I a) ∧ (∀ a k, 95 ≤ a → a ≤ 115 → k < hfz a → I' a k = I a k) ∧ (∀ k, (k < 24 ∨ k = 26 ∨ k = 33 ∨ k = 34 ∨ 36 < k) → I' 93 k = I 93 k)
theorem frm_re {I : Nat → Nat → Int32} : frm I I := ⟨fun _ _ _ => rfl, fun _ _ _ _ _ => rfl, fun _ _ => rfl⟩
theorem frm_tr {I I' I'' : Nat → Nat → Int32} (h : frm I I') (k : frm I' I'') : frm I I'' := ⟨fun a h1 h2 => (k.1 a h1 h2).trans (h.1 a h1 h2), fun a j h1 h2 h3 => (k.2.1 a j h1 h2 h3).trans (h.2.1 a j h1 h2 h3), fun j hj => (k.2.2 j hj).trans (h.2.2 j hj)⟩
theorem frm_u {I : Nat → Nat → Int32} {a k : Nat} {x : Int32} (h : (95 ≤ a ∧ a ≤ 115 ∧ hfz a ≤ k) ∨ (a = 93 ∧ ¬ (k < 24 ∨ k = 26 ∨ k = 33 ∨ k = 34 ∨ 36 < k))) : frm I (am_u I a k x) := by
  refine ⟨fun b h1 h2 => ?_, fun b j h1 h2 h3 => ?_, fun j hj => ?_⟩
  · rw [am_uRow (by omega)]
  · by_cases e : b = a
    · subst e; rw [am_uN (by omega)]
    · rw [am_uN (by omega)]
  · rw [am_uN (by omega)]
theorem txm_f {I I' : Nat → Nat → Int32} {n : Nat} {T : Nat → Nat} (h : txm I n T) (k : frm I I') : txm I' n T := by
  refine ⟨⟨h.1.1, by rw [k.2.2 26 (by omega)]; exact h.1.2.1, by rw [k.1 94 (by omega) (by omega)]; exact h.1.2.2⟩, ?_⟩
  unfold i_str
  rw [k.1 2003 (by omega) (by omega), k.1 2004 (by omega) (by omega), k.1 2005 (by omega) (by omega), k.1 2013 (by omega) (by omega), k.1 2014 (by omega) (by omega), k.1 2015 (by omega) (by omega)]
  exact h.2
def zok (Z : Nat → Nat → Int32) : Prop := ((Z 95 0 = nI (m_nH Z) ∧ m_nH Z ≤ 8) ∧ (Z 95 1 = nI (m_nS Z) ∧ m_nS Z ≤ 12) ∧ (Z 95 2 = nI (m_nZ Z) ∧ m_nZ Z ≤ 5) ∧ (Z 95 3 = nI (m_nL Z) ∧ m_nL Z ≤ 8) ∧ (Z 95 4 = nI (m_nA Z) ∧ m_nA Z ≤ 6) ∧ (Z 95 6 = nI (m_kn Z) ∧ m_kn Z ≤ 64)) ∧ st_ok Z
theorem sgc_i : ∀ k, k < 40 → 27 ≤ k → ∀ j, j < 40 → 27 ≤ j → (sgc k = sgc j ↔ k = j) := by decide +kernel
theorem sgc_b : ∀ k, k < 40 → sgc k < 300 := by decide +kernel
section
variable {d N : Nat} {Q : Value → am_H → Prop} {r : am_rho} {I : Nat → Nat → Int32} {J : Nat → Nat → Int64} {n : Nat} {T : Nat → Nat} {v : Int32} {o : Nat × Nat}
theorem md_isSign {k : Nat} (h7 : n ≤ 700) (hk : 27 ≤ k) (hk4 : k < 40) (ho : o.2 ≤ n) (hf9 : o.1 ≤ 9) (hv : tvm n T o.2 v) : am_D (d + 1) 170 [.ref 93, .int (nI (sgc k))] (am_hp N r (mS I n T o v) J) Q = Q (.int (nI (decide (o.1 = 0 ∧ tkK n T o.2 = k)).toNat)) (am_hp N r (mS I n T o v) J) := by
  obtain ⟨g, q⟩ := o
  have ho' : q ≤ n := ho
  have hg9 : g ≤ 9 := hf9
  have hkq := (tk_pos (T := T) h7 ho').2.2.2.2.2
  obtain ⟨_, _, _, t3, _, t6⟩ := tso_t (tkK n T q) hkq
  rw [e_M_isSign, mS_31, am_ifni (nI_eq (by omega) (by omega)), mS_29p, am_ifni (nI_eq (by omega) (by omega)), mS_30]
  show _ = Q (.int (nI (decide (g = 0 ∧ tkK n T q = k)).toNat)) _
  by_cases c : g = 0
  · rw [if_pos (show (g, q).1 = 0 from c)]
    by_cases c3 : tso (tkK n T q) = 3
    · have h27 := t3.mp c3
      have hvv : v = nI (sgc (tkK n T q)) := hv.2.2.2 h27
      have b1 := sgc_b (tkK n T q) hkq
      have b2 := sgc_b k hk4
      rw [if_pos c3, hvv, am_ifni (nI_eq (by omega) (by omega))]
      by_cases e : tkK n T q = k
      · rw [if_pos (by rw [e]), bo_t ⟨c, e⟩]
      · rw [if_neg (fun h => e ((sgc_i _ hkq h27 _ hk4 hk).mp h)), bo_f (fun h => e h.2)]
    · rw [if_neg c3, bo_f (fun h => c3 (t3.mpr (by omega)))]
  · rw [if_neg (show ¬ (g, q).1 = 0 from c), bo_f (fun h => c h.1)]
theorem md_isWord {w : Nat} (h7 : n ≤ 700) (hw : w < 23) (ho : o.2 ≤ n) (hf9 : o.1 ≤ 9) (hv : tvm n T o.2 v) : am_D (d + 1) 169 [.ref 93, .int (nI w)] (am_hp N r (mS I n T o v) J) Q = Q (.int (nI (decide (o.1 = 0 ∧ tkK n T o.2 = 4 + w)).toNat)) (am_hp N r (mS I n T o v) J) := by
  obtain ⟨g, q⟩ := o
  have ho' : q ≤ n := ho
  have hg9 : g ≤ 9 := hf9
  have hkq := (tk_pos (T := T) h7 ho').2.2.2.2.2
  obtain ⟨_, _, t0, _, _, t6⟩ := tso_t (tkK n T q) hkq
  rw [e_M_isWord, mS_31, am_ifni (nI_eq (by omega) (by omega)), mS_29p, am_ifni (nI_eq (by omega) (by omega)), mS_30]
  show _ = Q (.int (nI (decide (g = 0 ∧ tkK n T q = 4 + w)).toNat)) _
  by_cases c : g = 0
  · rw [if_pos (show (g, q).1 = 0 from c)]
    by_cases c3 : tso (tkK n T q) = 0
    · have h4 := t0.mp c3
      have hvv : v = nI (tkK n T q - 4) := hv.1 h4.1 h4.2
      rw [if_pos c3, hvv, am_ifni (nI_eq (by omega) (by omega))]
      by_cases e : tkK n T q = 4 + w
      · rw [if_pos (by omega), bo_t ⟨c, e⟩]
      · rw [if_neg (by omega), bo_f (fun h => e h.2)]
    · rw [if_neg c3, bo_f (fun h => c3 (t0.mpr (by omega)))]
  · rw [if_neg (show ¬ (g, q).1 = 0 from c), bo_f (fun h => c h.1)]
/-- may there be one more? -/
def ful (Z : Nat → Nat → Int32) (w : Nat) : Bool := decide ((w = 0 ∧ m_nH Z = 8) ∨ (w = 1 ∧ m_nS Z = 12) ∨ (w = 2 ∧ m_nZ Z = 5) ∨ (w = 3 ∧ m_nL Z = 8) ∨ (w = 4 ∧ m_nA Z = 6))
theorem md_isFull {w : Nat} {Z : Nat → Nat → Int32} (hz : zok Z) (hV : mV I Z) (hw : w < 10) : am_D (d + 2) 181 [.ref 93, .int (nI w)] (am_hp N r (mS I n T o v) J) Q = Q (.int (nI (ful Z w).toNat)) (am_hp N r (mS I n T o v) J) := by
  obtain ⟨⟨⟨z0, z0'⟩, ⟨z1, z1'⟩, ⟨z2, z2'⟩, ⟨z3, z3'⟩, ⟨z4, z4'⟩, _⟩, _⟩ := hz
  have f : ∀ i, i < 7 → I 95 (7 + i) = Z 95 i := fun i hi => hV 95 i (by omega) (by omega) hi
  have fin : ∀ b : Bool, b = ful Z w → Q (.int (nI b.toNat)) (am_hp N r (mS I n T o v) J) = Q (.int (nI (ful Z w).toNat)) (am_hp N r (mS I n T o v) J) := fun b h => by rw [h]
  rw [e_M_isFull]
  rcases (show w = 0 ∨ w = 1 ∨ w = 2 ∨ w = 3 ∨ w = 4 ∨ (5 ≤ w ∧ w < 10) by omega) with rfl | rfl | rfl | rfl | rfl | hw5
  · try simp (config := {maxSteps := 1000000}) (disch := omega) only [nI_add, nI_1, am_mulN, nI_clamp, am_gI, am_ifd, am_ifn, am_asIe, am_asLe, nI_leI, nI_ltI, nI_eq, am_neg1, am_neg1b]
    rw [if_pos trivial, md_fresher (by omega), am_asIe, e_M_isFull_9, f 0 (by omega), z0]
    try simp (config := {maxSteps := 1000000}) (disch := omega) only [nI_add, nI_1, am_mulN, nI_clamp, am_gI, am_ifd, am_ifn, am_asIe, am_asLe, nI_leI, nI_ltI, nI_eq, am_neg1, am_neg1b]
    by_cases c : m_nH Z = 8
    · rw [if_pos c]; exact fin true (by unfold ful; rw [decide_eq_true (by omega)])
    · rw [if_neg c, if_neg (by omega), if_neg (by omega), if_neg (by omega), if_neg (by omega)]; exact fin false (by unfold ful; rw [decide_eq_false (by omega)])
  · try simp (config := {maxSteps := 1000000}) (disch := omega) only [nI_add, nI_1, am_mulN, nI_clamp, am_gI, am_ifd, am_ifn, am_asIe, am_asLe, nI_leI, nI_ltI, nI_eq, am_neg1, am_neg1b]
    rw [if_neg (by omega), if_pos trivial, md_fresher (by omega), am_asIe, e_M_isFull_24, f 1 (by omega), z1]
    try simp (config := {maxSteps := 1000000}) (disch := omega) only [nI_add, nI_1, am_mulN, nI_clamp, am_gI, am_ifd, am_ifn, am_asIe, am_asLe, nI_leI, nI_ltI, nI_eq, am_neg1, am_neg1b]
    by_cases c : m_nS Z = 12
    · rw [if_pos c]; exact fin true (by unfold ful; rw [decide_eq_true (by omega)])
    · rw [if_neg c, if_neg (by omega), if_neg (by omega), if_neg (by omega)]; exact fin false (by unfold ful; rw [decide_eq_false (by omega)])
  · try simp (config := {maxSteps := 1000000}) (disch := omega) only [nI_add, nI_1, am_mulN, nI_clamp, am_gI, am_ifd, am_ifn, am_asIe, am_asLe, nI_leI, nI_ltI, nI_eq, am_neg1, am_neg1b]
    rw [if_neg (by omega), if_neg (by omega), if_pos trivial, md_fresher (by omega), am_asIe, e_M_isFull_39, f 2 (by omega), z2]
    try simp (config := {maxSteps := 1000000}) (disch := omega) only [nI_add, nI_1, am_mulN, nI_clamp, am_gI, am_ifd, am_ifn, am_asIe, am_asLe, nI_leI, nI_ltI, nI_eq, am_neg1, am_neg1b]
    by_cases c : m_nZ Z = 5
    · rw [if_pos c]; exact fin true (by unfold ful; rw [decide_eq_true (by omega)])
    · rw [if_neg c, if_neg (by omega), if_neg (by omega)]; exact fin false (by unfold ful; rw [decide_eq_false (by omega)])
  · try simp (config := {maxSteps := 1000000}) (disch := omega) only [nI_add, nI_1, am_mulN, nI_clamp, am_gI, am_ifd, am_ifn, am_asIe, am_asLe, nI_leI, nI_ltI, nI_eq, am_neg1, am_neg1b]
    rw [if_neg (by omega), if_neg (by omega), if_neg (by omega), if_pos trivial, md_fresher (by omega), am_asIe, e_M_isFull_53, f 3 (by omega), z3]
    try simp (config := {maxSteps := 1000000}) (disch := omega) only [nI_add, nI_1, am_mulN, nI_clamp, am_gI, am_ifd, am_ifn, am_asIe, am_asLe, nI_leI, nI_ltI, nI_eq, am_neg1, am_neg1b]
    by_cases c : m_nL Z = 8
    · rw [if_pos c]; exact fin true (by unfold ful; rw [decide_eq_true (by omega)])
    · rw [if_neg c, if_neg (by omega)]; exact fin false (by unfold ful; rw [decide_eq_false (by omega)])
  · try simp (config := {maxSteps := 1000000}) (disch := omega) only [nI_add, nI_1, am_mulN, nI_clamp, am_gI, am_ifd, am_ifn, am_asIe, am_asLe, nI_leI, nI_ltI, nI_eq, am_neg1, am_neg1b]
    rw [if_neg (by omega), if_neg (by omega), if_neg (by omega), if_neg (by omega), if_pos trivial, md_fresher (by omega), am_asIe, e_M_isFull_68, f 4 (by omega), z4]
    try simp (config := {maxSteps := 1000000}) (disch := omega) only [nI_add, nI_1, am_mulN, nI_clamp, am_gI, am_ifd, am_ifn, am_asIe, am_asLe, nI_leI, nI_ltI, nI_eq, am_neg1, am_neg1b]
    by_cases c : m_nA Z = 6
    · rw [if_pos c]; exact fin true (by unfold ful; rw [decide_eq_true (by omega)])
    · rw [if_neg c]; exact fin false (by unfold ful; rw [decide_eq_false (by omega)])
  · try simp (config := {maxSteps := 1000000}) (disch := omega) only [nI_add, nI_1, am_mulN, nI_clamp, am_gI, am_ifd, am_ifn, am_asIe, am_asLe, nI_leI, nI_ltI, nI_eq, am_neg1, am_neg1b]
    rw [if_neg (by omega), if_neg (by omega), if_neg (by omega), if_neg (by omega), if_neg (by omega)]
    exact fin false (by unfold ful; rw [decide_eq_false (by omega)])
/-- the end of a line -/
theorem md_462 {w ln : Nat} {o2 o3 o4 o5 : Option Int32} (hx : txm I n T) (ho : o.2 ≤ n) (hf9 : o.1 ≤ 9) (hv : tvm n T o.2 v) (hln : I 93 25 = nI ln)
    (hF : ∀ f I' v', (o.1 ≠ 0 ∧ f = o.1) ∨ (o.1 = 0 ∧ tkK n T o.2 ≠ 27 ∧ f = 1) → frm I I' → Q .null (am_hp N r (mS I' n T (f, o.2) v') J))
    (hS : ∀ v', o.1 = 0 → tkK n T o.2 = 27 → tvm n T (tkE n T o.2) v' → Q .null (am_hp N r (mS (am_u I 93 25 (nI (ln + 1))) n T (0, tkE n T o.2) v') J)) :
    am_V (d + 7) Q 182 462 [some (.ref 93), some (.int (nI w)), am_oi o2, am_oi o3, am_oi o4, am_oi o5] [] (am_hp N r (mS I n T o v) J) := by
  obtain ⟨g, q⟩ := o
  have ho' : q ≤ n := ho
  have hg9 : g ≤ 9 := hf9
  rw [e_M_line_462, mS_31, am_ifi (nI_eq (by omega) (by omega))]
  by_cases c : g = 0
  · subst c
    have e59 : (nI 59 : Int32) = nI (sgc 27) := rfl
    rw [if_pos rfl, e59, md_isSign hx.1.1 (by omega) (by omega) ho hf9 hv, am_asIe, e_M_line_476, am_ifn]
    by_cases c27 : tkK n T q = 27
    · rw [bo_t (show (0, q).1 = 0 ∧ tkK n T (0, q).2 = 27 from ⟨rfl, c27⟩), if_neg n10]
      refine md_tok hx ho' ?_
      intro v' hv'
      rw [e_M_line_491, mS_o (by omega), hln, nI_add, mS_u (by omega)]
      exact hS v' rfl c27 hv'
    · rw [bo_f (fun h => c27 h.2), if_pos rfl, md_wrong (by omega) (by omega), e_M_line_484, e_M_line_491, mS_u (by omega)]
      exact hF 1 _ v (Or.inr ⟨rfl, c27, rfl⟩) (frm_u (by omega))
  · rw [if_neg (show ¬ (g, q).1 = 0 from c)]
    exact hF g I v (Or.inl ⟨c, rfl⟩) frm_re
end
