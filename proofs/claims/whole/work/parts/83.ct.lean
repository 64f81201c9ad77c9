/-! ===== L3: count answers alike ===== -/
section
variable {d N : Nat} {Q : Value → am_H → Prop} {r : am_rho} {I C W : Nat → Nat → Int32} {J : Nat → Nat → Int64}
theorem fa_cnt_succ {p : Nat → Bool} {n : Nat} : fa_cnt p (n + 1) = fa_cnt p n + (p n).toNat := by
  cases h : p n
  · rw [fa_cnt_no h]; rfl
  · rw [fa_cnt_yes h]; rfl
theorem cnt5 {f : Nat → Nat → Bool} {g : Nat → Bool} : ∀ n, (∀ l, l < n → (f 0 l).toNat + (f 1 l).toNat + (f 2 l).toNat + (f 3 l).toNat + (f 4 l).toNat = (g l).toNat) → fa_cnt (f 0) n + fa_cnt (f 1) n + fa_cnt (f 2) n + fa_cnt (f 3) n + fa_cnt (f 4) n = fa_cnt g n
  | 0, _ => rfl
  | n + 1, h => by
    have ih := cnt5 (f := f) (g := g) n (fun l hl => h l (by omega))
    have := h n (by omega)
    rw [fa_cnt_succ, fa_cnt_succ, fa_cnt_succ, fa_cnt_succ, fa_cnt_succ, fa_cnt_succ]
    omega
theorem cnt_hi {g : Nat → Bool} {n : Nat} : ∀ k, (∀ l, n ≤ l → l < n + k → g l = false) → fa_cnt g (n + k) = fa_cnt g n
  | 0, _ => rfl
  | k + 1, h => by
    rw [show n + (k + 1) = n + k + 1 by omega, fa_cnt_succ, h (n + k) (by omega) (by omega), cnt_hi k (fun l a b => h l a (by omega))]
    rfl
theorem cw_inh {M : Nat → Nat → Int32} (hr : cw_rel M C W) (hX : m_okX M W) (hL : m_nL M ≤ 8) (hZ : m_nZ M ≤ 5) : fa_cnt (bt (C 2 0)) 8 + fa_cnt (bt (C 2 1)) 8 + fa_cnt (bt (C 2 2)) 8 + fa_cnt (bt (C 2 3)) 8 + fa_cnt (bt (C 2 4)) 8 = fa_cnt (fun l => decide (W 6 l = nI 1)) (m_nL M) := by
  have e : fa_cnt (fun l => decide (l < m_nL M ∧ W 6 l = nI 1)) 8 = fa_cnt (fun l => decide (W 6 l = nI 1)) (m_nL M) := by
    have h1 := cnt_hi (g := fun l => decide (l < m_nL M ∧ W 6 l = nI 1)) (n := m_nL M) (8 - m_nL M) (fun l a b => decide_eq_false (fun g => by omega))
    rw [show m_nL M + (8 - m_nL M) = 8 by omega] at h1
    rw [h1]
    refine fa_cnt_cong (fun l hl => ?_)
    exact decide_eq_decide.mpr ⟨fun g => g.2, fun g => ⟨hl, g⟩⟩
  rw [← e]
  refine cnt5 (f := fun s => bt (C 2 s)) 8 ?_
  intro l hl
  have r5 := hr.2.2.2.2.2.1
  try dsimp only
  rw [r5 0 (by omega) l (by omega), r5 1 (by omega) l (by omega), r5 2 (by omega) l (by omega), r5 3 (by omega) l (by omega), r5 4 (by omega) l (by omega)]
  by_cases c : l < m_nL M ∧ W 6 l = nI 1
  · rcases hX.2.2.1 l c.1 with ⟨h1, h, hh, h2⟩ | ⟨h1, s, hs, h2⟩ | ⟨h1, h2⟩
    · rw [c.2] at h1; exact absurd h1 n10
    · rw [decide_eq_true c, h2]
      have q : ∀ k, k < 5 → decide (l < m_nL M ∧ W 6 l = nI 1 ∧ nI s = nI k) = decide (s = k) := by
        intro k hk
        exact decide_eq_decide.mpr ⟨fun g => (n8 (by omega) (by omega)).mp g.2.2, fun g => ⟨c.1, c.2, (n8 (by omega) (by omega)).mpr g⟩⟩
      rw [q 0 (by omega), q 1 (by omega), q 2 (by omega), q 3 (by omega), q 4 (by omega)]
      have : s = 0 ∨ s = 1 ∨ s = 2 ∨ s = 3 ∨ s = 4 := by omega
      rcases this with rfl | rfl | rfl | rfl | rfl <;> rfl
    · rw [c.2] at h1; exact absurd h1 n12
  · have q : ∀ k, decide (l < m_nL M ∧ W 6 l = nI 1 ∧ W 7 l = nI k) = false := fun k => decide_eq_false (fun g => c ⟨g.1, g.2.1⟩)
    rw [q, q, q, q, q, decide_eq_false c]; rfl
theorem s_W_inHand (hh : ∀ s, s < 5 → ∀ i, 8 ≤ i → i < 32 → bt (I 51 s) i = false) : am_D (d + 2) 106 [.ref 49] (am_hp N r I J) Q = Q (.int (nI (fa_cnt (bt (I 51 0)) 8 + fa_cnt (bt (I 51 1)) 8 + fa_cnt (bt (I 51 2)) 8 + fa_cnt (bt (I 51 3)) 8 + fa_cnt (bt (I 51 4)) 8))) (am_hp N r I J) := by
  have hw : 49 = 49 ∨ 49 = 55 ∨ 49 = 82 := Or.inl rfl
  rw [e_World_lettersInHand hw]
  rw [e_World_lettersInHand_4 hw]
  try simp (config := {maxSteps := 1000000}) (disch := omega) only [nI_add, nI_1, am_mulN, nI_clamp, am_gI, am_ifd, am_ifn, am_asIe, am_asLe, nI_leI, nI_ltI, nI_eq, am_neg1, am_neg1b]
  rw [if_neg (by omega), s_J_bitCount (hh 0 (by omega))]
  try simp (config := {maxSteps := 1000000}) (disch := omega) only [nI_add, nI_1, am_mulN, nI_clamp, am_gI, am_ifd, am_ifn, am_asIe, am_asLe, nI_leI, nI_ltI, nI_eq, am_neg1, am_neg1b]
  rw [e_World_lettersInHand_19 hw]
  try simp (config := {maxSteps := 1000000}) (disch := omega) only [nI_add, nI_1, am_mulN, nI_clamp, am_gI, am_ifd, am_ifn, am_asIe, am_asLe, nI_leI, nI_ltI, nI_eq, am_neg1, am_neg1b]
  rw [e_World_lettersInHand_4 hw]
  try simp (config := {maxSteps := 1000000}) (disch := omega) only [nI_add, nI_1, am_mulN, nI_clamp, am_gI, am_ifd, am_ifn, am_asIe, am_asLe, nI_leI, nI_ltI, nI_eq, am_neg1, am_neg1b]
  rw [if_neg (by omega), s_J_bitCount (hh 1 (by omega))]
  try simp (config := {maxSteps := 1000000}) (disch := omega) only [nI_add, nI_1, am_mulN, nI_clamp, am_gI, am_ifd, am_ifn, am_asIe, am_asLe, nI_leI, nI_ltI, nI_eq, am_neg1, am_neg1b]
  rw [e_World_lettersInHand_19 hw]
  try simp (config := {maxSteps := 1000000}) (disch := omega) only [nI_add, nI_1, am_mulN, nI_clamp, am_gI, am_ifd, am_ifn, am_asIe, am_asLe, nI_leI, nI_ltI, nI_eq, am_neg1, am_neg1b]
  rw [e_World_lettersInHand_4 hw]
  try simp (config := {maxSteps := 1000000}) (disch := omega) only [nI_add, nI_1, am_mulN, nI_clamp, am_gI, am_ifd, am_ifn, am_asIe, am_asLe, nI_leI, nI_ltI, nI_eq, am_neg1, am_neg1b]
  rw [if_neg (by omega), s_J_bitCount (hh 2 (by omega))]
  try simp (config := {maxSteps := 1000000}) (disch := omega) only [nI_add, nI_1, am_mulN, nI_clamp, am_gI, am_ifd, am_ifn, am_asIe, am_asLe, nI_leI, nI_ltI, nI_eq, am_neg1, am_neg1b]
  rw [e_World_lettersInHand_19 hw]
  try simp (config := {maxSteps := 1000000}) (disch := omega) only [nI_add, nI_1, am_mulN, nI_clamp, am_gI, am_ifd, am_ifn, am_asIe, am_asLe, nI_leI, nI_ltI, nI_eq, am_neg1, am_neg1b]
  rw [e_World_lettersInHand_4 hw]
  try simp (config := {maxSteps := 1000000}) (disch := omega) only [nI_add, nI_1, am_mulN, nI_clamp, am_gI, am_ifd, am_ifn, am_asIe, am_asLe, nI_leI, nI_ltI, nI_eq, am_neg1, am_neg1b]
  rw [if_neg (by omega), s_J_bitCount (hh 3 (by omega))]
  try simp (config := {maxSteps := 1000000}) (disch := omega) only [nI_add, nI_1, am_mulN, nI_clamp, am_gI, am_ifd, am_ifn, am_asIe, am_asLe, nI_leI, nI_ltI, nI_eq, am_neg1, am_neg1b]
  rw [e_World_lettersInHand_19 hw]
  try simp (config := {maxSteps := 1000000}) (disch := omega) only [nI_add, nI_1, am_mulN, nI_clamp, am_gI, am_ifd, am_ifn, am_asIe, am_asLe, nI_leI, nI_ltI, nI_eq, am_neg1, am_neg1b]
  rw [e_World_lettersInHand_4 hw]
  try simp (config := {maxSteps := 1000000}) (disch := omega) only [nI_add, nI_1, am_mulN, nI_clamp, am_gI, am_ifd, am_ifn, am_asIe, am_asLe, nI_leI, nI_ltI, nI_eq, am_neg1, am_neg1b]
  rw [if_neg (by omega), s_J_bitCount (hh 4 (by omega))]
  try simp (config := {maxSteps := 1000000}) (disch := omega) only [nI_add, nI_1, am_mulN, nI_clamp, am_gI, am_ifd, am_ifn, am_asIe, am_asLe, nI_leI, nI_ltI, nI_eq, am_neg1, am_neg1b]
  rw [e_World_lettersInHand_19 hw]
  try simp (config := {maxSteps := 1000000}) (disch := omega) only [nI_add, nI_1, am_mulN, nI_clamp, am_gI, am_ifd, am_ifn, am_asIe, am_asLe, nI_leI, nI_ltI, nI_eq, am_neg1, am_neg1b]
  rw [e_World_lettersInHand_4 hw]
  try simp (config := {maxSteps := 1000000}) (disch := omega) only [nI_add, nI_1, am_mulN, nI_clamp, am_gI, am_ifd, am_ifn, am_asIe, am_asLe, nI_leI, nI_ltI, nI_eq, am_neg1, am_neg1b, Nat.zero_add]
  rw [if_pos (by omega)]
theorem s_M_inHandAll (hok : m_ok I) {x : Int32} : am_V d Q 276 149 [some (.ref 93), some (.int x), some (.int (nI 0)), some (.int (nI 0))] [] (am_hp N r I J) = Q (.int (nI (fa_cnt (fun l => decide (I 124 l = nI 1)) (m_nL I)))) (am_hp N r I J) := by
  obtain ⟨hL, hL8⟩ := hok.2.2.2.1
  have lp := am_up (P := fun j => am_V d Q 276 149 [some (.ref 93), some (.int x), some (.int (nI (fa_cnt (fun l => decide (I 124 l = nI 1)) j))), some (.int (nI j))] [] (am_hp N r I J)) (R := Q (.int (nI (fa_cnt (fun l => decide (I 124 l = nI 1)) (m_nL I)))) (am_hp N r I J)) (m_nL I)
    (by
      try dsimp only
      rw [e_M_count_149, hL]
      try simp (config := {maxSteps := 1000000}) (disch := omega) only [nI_add, nI_1, am_mulN, nI_clamp, am_gI, am_ifd, am_ifn, am_asIe, am_asLe, nI_leI, nI_ltI, nI_eq, am_neg1, am_neg1b, Nat.le_refl, if_true])
    (by
      intro j hj
      try dsimp only
      rw [e_M_count_149, hL]
      try simp (config := {maxSteps := 1000000}) (disch := omega) only [nI_add, nI_1, am_mulN, nI_clamp, am_gI, am_ifd, am_ifn, am_asIe, am_asLe, nI_leI, nI_ltI, nI_eq, am_neg1, am_neg1b]
      rw [if_neg (by omega), fa_cnt_succ]
      by_cases c : I 124 j = nI 1
      · rw [if_pos c, decide_eq_true c]; rfl
      · rw [if_neg c, decide_eq_false c]; rfl)
  exact lp 0 (by omega)
theorem op_count {b : Int32} (hv : i_inv r I J) : op2 (d + 12) N 148 276 [.int b] r I J := by
  obtain ⟨rt, rs, rd, rl, rx, nt, nw, nf⟩ := r
  obtain ⟨ht, hok, eH, eZ, eL, h0, h12, e49, e118⟩ := iv_ref hv
  obtain ⟨n1, n2, n3⟩ := hv.2.2.2.1
  have hL := hok.2.2.2.1.1
  have h8 := hok.1.2
  have bZ := hok.2.2.1.2
  have bL := hok.2.2.2.1.2
  obtain ⟨t0, t1, t2, t3, t4, t6⟩ := hv.2.1.2.1
  have tk : I (rt + 15) 0 = I 95 6 := hv.2.1.2.2.2.2.2.2.2.2.2.2.2.2.2.2.2.1
  obtain ⟨un, hun, u1, u2, u3⟩ := hv.2.2.2.2.2.1
  obtain ⟨sn, hsn, s1, s2, s3, s4, s5⟩ := hv.2.2.2.2.2.2.1
  have w1 : I 49 1 = I 119 0 := n1.2.1
  have w3 : I 49 3 = I 122 0 := n1.2.2.2.1
  have w5 : I 49 5 = I 121 0 := n2
  have hwk : ∀ i, 8 ≤ i → i < 32 → bt (I 122 0) i = false := fun i a b => n3.2.2.2.1 i (by omega) b
  by_cases b0 : b = nI 0
  · refine op2_q (v := .int (I 95 0)) hv (iv_ans hv ?_) ?_
    · intro Q hQ
      rw [e_S_count ht, am_ifd, if_pos b0]
      rw [show I rt 0 = _ from t0]
      exact hQ
    · intro r' I' J' hv' he
      refine iv_mans ?_
      intro Q hQ
      rw [e_M_count, am_ifd, if_pos b0]
      rw [am_uN (by omega), he 95 (by omega)]
      exact hQ
  by_cases b1 : b = nI 1
  · refine op2_q (v := .int (I 95 1)) hv (iv_ans hv ?_) ?_
    · intro Q hQ
      rw [e_S_count ht, am_ifd, if_neg b0, am_ifd, if_pos b1]
      rw [show I rt 1 = _ from t1]
      exact hQ
    · intro r' I' J' hv' he
      refine iv_mans ?_
      intro Q hQ
      rw [e_M_count, am_ifd, if_neg b0, am_ifd, if_pos b1]
      rw [am_uN (by omega), he 95 (by omega)]
      exact hQ
  by_cases b2 : b = nI 2
  · refine op2_q (v := .int (I 95 2)) hv (iv_ans hv ?_) ?_
    · intro Q hQ
      rw [e_S_count ht, am_ifd, if_neg b0, am_ifd, if_neg b1, am_ifd, if_pos b2]
      rw [show I rt 2 = _ from t2]
      exact hQ
    · intro r' I' J' hv' he
      refine iv_mans ?_
      intro Q hQ
      rw [e_M_count, am_ifd, if_neg b0, am_ifd, if_neg b1, am_ifd, if_pos b2]
      rw [am_uN (by omega), he 95 (by omega)]
      exact hQ
  by_cases b3 : b = nI 3
  · refine op2_q (v := .int (I 95 3)) hv (iv_ans hv ?_) ?_
    · intro Q hQ
      rw [e_S_count ht, am_ifd, if_neg b0, am_ifd, if_neg b1, am_ifd, if_neg b2, am_ifd, if_pos b3]
      rw [show I rt 3 = _ from t3]
      exact hQ
    · intro r' I' J' hv' he
      refine iv_mans ?_
      intro Q hQ
      rw [e_M_count, am_ifd, if_neg b0, am_ifd, if_neg b1, am_ifd, if_neg b2, am_ifd, if_pos b3]
      rw [am_uN (by omega), he 95 (by omega)]
      exact hQ
  by_cases b4 : b = nI 4
  · refine op2_q (v := .int (I 95 4)) hv (iv_ans hv ?_) ?_
    · intro Q hQ
      rw [e_S_count ht, am_ifd, if_neg b0, am_ifd, if_neg b1, am_ifd, if_neg b2, am_ifd, if_neg b3, am_ifd, if_pos b4]
      rw [show I rt 4 = _ from t4]
      exact hQ
    · intro r' I' J' hv' he
      refine iv_mans ?_
      intro Q hQ
      rw [e_M_count, am_ifd, if_neg b0, am_ifd, if_neg b1, am_ifd, if_neg b2, am_ifd, if_neg b3, am_ifd, if_pos b4]
      rw [am_uN (by omega), he 95 (by omega)]
      exact hQ
  by_cases b5 : b = nI 5
  · refine op2_q (v := .int (I 95 6)) hv (iv_ans hv ?_) ?_
    · intro Q hQ
      rw [e_S_count ht, am_ifd, if_neg b0, am_ifd, if_neg b1, am_ifd, if_neg b2, am_ifd, if_neg b3, am_ifd, if_neg b4, am_ifd, if_pos b5]
      rw [show I (rt + 15) 0 = _ from tk]
      exact hQ
    · intro r' I' J' hv' he
      refine iv_mans ?_
      intro Q hQ
      rw [e_M_count, am_ifd, if_neg b0, am_ifd, if_neg b1, am_ifd, if_neg b2, am_ifd, if_neg b3, am_ifd, if_neg b4, am_ifd, if_pos b5]
      rw [am_uN (by omega), he 95 (by omega)]
      exact hQ
  by_cases b6 : b = nI 6
  · refine op2_q (v := .int (I 118 0)) hv (iv_ans hv ?_) ?_
    · intro Q hQ
      rw [e_S_count ht, am_ifd, if_neg b0, am_ifd, if_neg b1, am_ifd, if_neg b2, am_ifd, if_neg b3, am_ifd, if_neg b4, am_ifd, if_neg b5, am_ifd, if_pos b6]
      rw [show I 49 0 = _ from e49.trans e118.symm]
      exact hQ
    · intro r' I' J' hv' he
      refine iv_mans ?_
      intro Q hQ
      rw [e_M_count, am_ifd, if_neg b0, am_ifd, if_neg b1, am_ifd, if_neg b2, am_ifd, if_neg b3, am_ifd, if_neg b4, am_ifd, if_neg b5, am_ifd, if_pos b6]
      rw [am_uN (by omega), he 118 (by omega)]
      exact hQ
  by_cases b7 : b = nI 7
  · refine op2_q (v := .int (I 119 0)) hv (iv_ans hv ?_) ?_
    · intro Q hQ
      rw [e_S_count ht, am_ifd, if_neg b0, am_ifd, if_neg b1, am_ifd, if_neg b2, am_ifd, if_neg b3, am_ifd, if_neg b4, am_ifd, if_neg b5, am_ifd, if_neg b6, am_ifd, if_pos b7]
      rw [show I 49 1 = _ from w1]
      exact hQ
    · intro r' I' J' hv' he
      refine iv_mans ?_
      intro Q hQ
      rw [e_M_count, am_ifd, if_neg b0, am_ifd, if_neg b1, am_ifd, if_neg b2, am_ifd, if_neg b3, am_ifd, if_neg b4, am_ifd, if_neg b5, am_ifd, if_neg b6, am_ifd, if_pos b7]
      rw [am_uN (by omega), he 119 (by omega)]
      exact hQ
  by_cases b8 : b = nI 8
  · obtain ⟨k1, k2⟩ := cw_cnt n1 bL
    refine op2_q (v := .int (q_cnt I (m_g I 0))) hv (iv_ans hv ?_) ?_
    · intro Q hQ
      rw [e_S_count ht, am_ifd, if_neg b0, am_ifd, if_neg b1, am_ifd, if_neg b2, am_ifd, if_neg b3, am_ifd, if_neg b4, am_ifd, if_neg b5, am_ifd, if_neg b6, am_ifd, if_neg b7, am_ifd, if_pos b8]
      have e4 : c_w I 49 0 4 = I 49 4 := c_wI (by omega)
      rw [e4] at k1 k2
      rw [s_J_bitCount k2, k1]
      try simp (config := {maxSteps := 1000000}) (disch := omega) only [nI_add, nI_1, am_mulN, nI_clamp, am_gI, am_ifd, am_ifn, am_asIe, am_asLe, nI_leI, nI_ltI, nI_eq, am_neg1, am_neg1b]
      rw [e_S_count_153]
      exact hQ
    · intro r' I' J' hv' he
      refine iv_mans ?_
      intro Q hQ
      rw [e_M_count, am_ifd, if_neg b0, am_ifd, if_neg b1, am_ifd, if_neg b2, am_ifd, if_neg b3, am_ifd, if_neg b4, am_ifd, if_neg b5, am_ifd, if_neg b6, am_ifd, if_neg b7, am_ifd, if_pos b8]
      have hok' : m_ok (am_u I' 93 0 (nI 0)) := e_ok (I := I) (fun a h1 h2 => by rw [am_uRow (by omega), he a (by omega)]) hok
      rw [m_idM (n := 0), s_M_arrived hok' (by omega), ← m_idM (n := 0)]
      have eg : m_g (am_u I' 93 0 (nI 0)) 0 = m_g I 0 := g_row (fun a h1 h2 => by rw [am_uRow (by omega), he a (by omega)])
      have eq : q_cnt (am_u I' 93 0 (nI 0)) (m_g I 0) = q_cnt I (m_g I 0) := by unfold q_cnt m_nL; rw [am_uRow (by omega), he 95 (by omega)]
      rw [eg, eq]
      try simp (config := {maxSteps := 1000000}) (disch := omega) only [nI_add, nI_1, am_mulN, nI_clamp, am_gI, am_ifd, am_ifn, am_asIe, am_asLe, nI_leI, nI_ltI, nI_eq, am_neg1, am_neg1b]
      rw [e_M_count_146]
      exact hQ
  by_cases b9 : b = nI 9
  · have hh : ∀ s, s < 5 → ∀ i, 8 ≤ i → i < 32 → bt (I 51 s) i = false := by
      intro s hs i a b
      have := n1.2.2.2.2.2.1 s hs i b
      rw [c_wI (by omega)] at this
      rw [this]
      exact decide_eq_false (fun g => by omega)
    have hi := cw_inh n1 n3 bL bZ
    have e51 : c_w I 49 2 = I 51 := by funext j; rw [c_wI (by omega)]
    rw [e51] at hi
    have hi2 : fa_cnt (fun l => decide (m_g I 0 6 l = nI 1)) (m_nL I) = fa_cnt (fun l => decide (I 124 l = nI 1)) (m_nL I) := fa_cnt_cong (fun l hl => by rw [(iv_67 (I := I) (show l < 8 by omega)).1])
    refine op2_q (v := .int (nI (fa_cnt (fun l => decide (I 124 l = nI 1)) (m_nL I)))) hv (iv_ans hv ?_) ?_
    · intro Q hQ
      rw [e_S_count ht, am_ifd, if_neg b0, am_ifd, if_neg b1, am_ifd, if_neg b2, am_ifd, if_neg b3, am_ifd, if_neg b4, am_ifd, if_neg b5, am_ifd, if_neg b6, am_ifd, if_neg b7, am_ifd, if_neg b8, am_ifd, if_pos b9]
      rw [s_W_inHand hh, hi, hi2]
      try simp (config := {maxSteps := 1000000}) (disch := omega) only [nI_add, nI_1, am_mulN, nI_clamp, am_gI, am_ifd, am_ifn, am_asIe, am_asLe, nI_leI, nI_ltI, nI_eq, am_neg1, am_neg1b]
      rw [e_S_count_161]
      exact hQ
    · intro r' I' J' hv' he
      refine iv_mans ?_
      intro Q hQ
      rw [e_M_count, am_ifd, if_neg b0, am_ifd, if_neg b1, am_ifd, if_neg b2, am_ifd, if_neg b3, am_ifd, if_neg b4, am_ifd, if_neg b5, am_ifd, if_neg b6, am_ifd, if_neg b7, am_ifd, if_neg b8, am_ifd, if_pos b9]
      have hok' : m_ok (am_u I' 93 0 (nI 0)) := e_ok (I := I) (fun a h1 h2 => by rw [am_uRow (by omega), he a (by omega)]) hok
      have eq : m_nL (am_u I' 93 0 (nI 0)) = m_nL I := by unfold m_nL; rw [am_uRow (by omega), he 95 (by omega)]
      rw [s_M_inHandAll hok', eq, am_uRow (by omega), he 124 (by omega)]
      exact hQ
  by_cases b10 : b = nI 10
  · refine op2_q (v := .int (nI (fa_cnt (bt (I 122 0)) 8))) hv (iv_ans hv ?_) ?_
    · intro Q hQ
      rw [e_S_count ht, am_ifd, if_neg b0, am_ifd, if_neg b1, am_ifd, if_neg b2, am_ifd, if_neg b3, am_ifd, if_neg b4, am_ifd, if_neg b5, am_ifd, if_neg b6, am_ifd, if_neg b7, am_ifd, if_neg b8, am_ifd, if_neg b9, am_ifd, if_pos b10, w3]
      rw [s_J_bitCount hwk]
      try simp (config := {maxSteps := 1000000}) (disch := omega) only [nI_add, nI_1, am_mulN, nI_clamp, am_gI, am_ifd, am_ifn, am_asIe, am_asLe, nI_leI, nI_ltI, nI_eq, am_neg1, am_neg1b]
      rw [e_S_count_172]
      exact hQ
    · intro r' I' J' hv' he
      refine iv_mans ?_
      intro Q hQ
      rw [e_M_count, am_ifd, if_neg b0, am_ifd, if_neg b1, am_ifd, if_neg b2, am_ifd, if_neg b3, am_ifd, if_neg b4, am_ifd, if_neg b5, am_ifd, if_neg b6, am_ifd, if_neg b7, am_ifd, if_neg b8, am_ifd, if_neg b9, am_ifd, if_pos b10]
      rw [am_uN (by omega), he 122 (by omega), s_M_bitsOf]
      try simp (config := {maxSteps := 1000000}) (disch := omega) only [nI_add, nI_1, am_mulN, nI_clamp, am_gI, am_ifd, am_ifn, am_asIe, am_asLe, nI_leI, nI_ltI, nI_eq, am_neg1, am_neg1b]
      rw [e_M_count_194]
      exact hQ
  by_cases b11 : b = nI 11
  · refine op2_q (v := .int (I 121 0)) hv (iv_ans hv ?_) ?_
    · intro Q hQ
      rw [e_S_count ht, am_ifd, if_neg b0, am_ifd, if_neg b1, am_ifd, if_neg b2, am_ifd, if_neg b3, am_ifd, if_neg b4, am_ifd, if_neg b5, am_ifd, if_neg b6, am_ifd, if_neg b7, am_ifd, if_neg b8, am_ifd, if_neg b9, am_ifd, if_neg b10, am_ifd, if_pos b11]
      rw [show I 49 5 = _ from w5]
      exact hQ
    · intro r' I' J' hv' he
      refine iv_mans ?_
      intro Q hQ
      rw [e_M_count, am_ifd, if_neg b0, am_ifd, if_neg b1, am_ifd, if_neg b2, am_ifd, if_neg b3, am_ifd, if_neg b4, am_ifd, if_neg b5, am_ifd, if_neg b6, am_ifd, if_neg b7, am_ifd, if_neg b8, am_ifd, if_neg b9, am_ifd, if_neg b10, am_ifd, if_pos b11]
      rw [am_uN (by omega), he 121 (by omega)]
      exact hQ
  by_cases b12 : b = nI 12
  · refine op2_q (v := .int (I 93 69)) hv (iv_ans hv ?_) ?_
    · intro Q hQ
      rw [e_S_count ht, am_ifd, if_neg b0, am_ifd, if_neg b1, am_ifd, if_neg b2, am_ifd, if_neg b3, am_ifd, if_neg b4, am_ifd, if_neg b5, am_ifd, if_neg b6, am_ifd, if_neg b7, am_ifd, if_neg b8, am_ifd, if_neg b9, am_ifd, if_neg b10, am_ifd, if_neg b11, am_ifd, if_pos b12]
      rw [show I 72 0 = _ from s1.trans s2.symm]
      exact hQ
    · intro r' I' J' hv' he
      refine iv_mans ?_
      intro Q hQ
      rw [e_M_count, am_ifd, if_neg b0, am_ifd, if_neg b1, am_ifd, if_neg b2, am_ifd, if_neg b3, am_ifd, if_neg b4, am_ifd, if_neg b5, am_ifd, if_neg b6, am_ifd, if_neg b7, am_ifd, if_neg b8, am_ifd, if_neg b9, am_ifd, if_neg b10, am_ifd, if_neg b11, am_ifd, if_pos b12]
      rw [am_uN (by omega), he 93 (by omega)]
      exact hQ
  by_cases b13 : b = nI 13
  · refine op2_q (v := .int (if I 93 70 = -nI 1 then I 93 69 else I 93 70)) hv (iv_ans hv ?_) ?_
    · intro Q hQ
      rw [e_S_count ht, am_ifd, if_neg b0, am_ifd, if_neg b1, am_ifd, if_neg b2, am_ifd, if_neg b3, am_ifd, if_neg b4, am_ifd, if_neg b5, am_ifd, if_neg b6, am_ifd, if_neg b7, am_ifd, if_neg b8, am_ifd, if_neg b9, am_ifd, if_neg b10, am_ifd, if_neg b11, am_ifd, if_neg b12, am_ifd, if_pos b13]
      rw [e_Sights_knownCount, s3, s1, ← s2, am_ifn]
      by_cases c : I 93 70 = -nI 1
      · rw [if_pos c] at hQ ⊢
        try simp (config := {maxSteps := 1000000}) (disch := omega) only [nI_add, nI_1, am_mulN, nI_clamp, am_gI, am_ifd, am_ifn, am_asIe, am_asLe, nI_leI, nI_ltI, nI_eq, am_neg1, am_neg1b]
        rw [e_S_count_196]; exact hQ
      · rw [if_neg c] at hQ ⊢
        try simp (config := {maxSteps := 1000000}) (disch := omega) only [nI_add, nI_1, am_mulN, nI_clamp, am_gI, am_ifd, am_ifn, am_asIe, am_asLe, nI_leI, nI_ltI, nI_eq, am_neg1, am_neg1b]
        rw [e_S_count_196]; exact hQ
    · intro r' I' J' hv' he
      refine iv_mans ?_
      intro Q hQ
      rw [e_M_count, am_ifd, if_neg b0, am_ifd, if_neg b1, am_ifd, if_neg b2, am_ifd, if_neg b3, am_ifd, if_neg b4, am_ifd, if_neg b5, am_ifd, if_neg b6, am_ifd, if_neg b7, am_ifd, if_neg b8, am_ifd, if_neg b9, am_ifd, if_neg b10, am_ifd, if_neg b11, am_ifd, if_neg b12, am_ifd, if_pos b13]
      rw [e_M_knownMany, am_uN (by omega), am_uN (by omega), he 93 (by omega), am_ifn]
      by_cases c : I 93 70 = -nI 1
      · rw [if_pos c] at hQ ⊢
        try simp (config := {maxSteps := 1000000}) (disch := omega) only [nI_add, nI_1, am_mulN, nI_clamp, am_gI, am_ifd, am_ifn, am_asIe, am_asLe, nI_leI, nI_ltI, nI_eq, am_neg1, am_neg1b]
        rw [e_M_count_211]; exact hQ
      · rw [if_neg c] at hQ ⊢
        try simp (config := {maxSteps := 1000000}) (disch := omega) only [nI_add, nI_1, am_mulN, nI_clamp, am_gI, am_ifd, am_ifn, am_asIe, am_asLe, nI_leI, nI_ltI, nI_eq, am_neg1, am_neg1b]
        rw [e_M_count_211]; exact hQ
  by_cases b14 : b = nI 14
  · refine op2_q (v := .int (I 93 51)) hv (iv_ans hv ?_) ?_
    · intro Q hQ
      rw [e_S_count ht, am_ifd, if_neg b0, am_ifd, if_neg b1, am_ifd, if_neg b2, am_ifd, if_neg b3, am_ifd, if_neg b4, am_ifd, if_neg b5, am_ifd, if_neg b6, am_ifd, if_neg b7, am_ifd, if_neg b8, am_ifd, if_neg b9, am_ifd, if_neg b10, am_ifd, if_neg b11, am_ifd, if_neg b12, am_ifd, if_neg b13, am_ifd, if_pos b14]
      rw [show I 77 0 = _ from u1.trans u2.symm]
      exact hQ
    · intro r' I' J' hv' he
      refine iv_mans ?_
      intro Q hQ
      rw [e_M_count, am_ifd, if_neg b0, am_ifd, if_neg b1, am_ifd, if_neg b2, am_ifd, if_neg b3, am_ifd, if_neg b4, am_ifd, if_neg b5, am_ifd, if_neg b6, am_ifd, if_neg b7, am_ifd, if_neg b8, am_ifd, if_neg b9, am_ifd, if_neg b10, am_ifd, if_neg b11, am_ifd, if_neg b12, am_ifd, if_neg b13, am_ifd, if_pos b14]
      rw [am_uN (by omega), he 93 (by omega)]
      exact hQ
  refine op2_q (v := .int (-nI 1)) hv (iv_ans hv ?_) ?_
  · intro Q hQ
    rw [e_S_count ht]
    rw [am_ifd, if_neg b0, am_ifd, if_neg b1, am_ifd, if_neg b2, am_ifd, if_neg b3, am_ifd, if_neg b4, am_ifd, if_neg b5, am_ifd, if_neg b6, am_ifd, if_neg b7, am_ifd, if_neg b8, am_ifd, if_neg b9, am_ifd, if_neg b10, am_ifd, if_neg b11, am_ifd, if_neg b12, am_ifd, if_neg b13, am_ifd, if_neg b14]
    exact hQ
  · intro r' I' J' hv' he
    refine iv_mans ?_
    intro Q hQ
    rw [e_M_count]
    rw [am_ifd, if_neg b0, am_ifd, if_neg b1, am_ifd, if_neg b2, am_ifd, if_neg b3, am_ifd, if_neg b4, am_ifd, if_neg b5, am_ifd, if_neg b6, am_ifd, if_neg b7, am_ifd, if_neg b8, am_ifd, if_neg b9, am_ifd, if_neg b10, am_ifd, if_neg b11, am_ifd, if_neg b12, am_ifd, if_neg b13, am_ifd, if_neg b14]
    exact hQ
end
