/-! ===== L3: tried answers alike ===== -/
section
variable {d N : Nat} {Q : Value → am_H → Prop} {r : am_rho} {I : Nat → Nat → Int32} {J : Nat → Nat → Int64}
theorem td_okD {w i : Nat} (hv : i_inv r I J) : m_okD (td_M I w i) := by
  obtain ⟨href, htr, hid, _⟩ := hv
  have hok := htr.1.2.1
  intro s hs
  rw [e_nZ td_te] at hs
  rw [n_dream td_te ⟨td_o (by omega) (by omega), td_o (by omega) (by omega)⟩, m_dream_idle hid (by have := hok.2.2.1.2; omega)]
  obtain ⟨_, _, _, _, h, hh, e⟩ := htr.2.2.2.2.2.2.2.2.1 s hs
  exact ⟨h, by have := hok.1.2; omega, e⟩
theorem td_back {w i : Nat} (hid : m_idle I) : am_u (am_u (td_M I w i) 93 52 (nI 0)) 93 53 (-nI 1) = I := by
  funext a j
  by_cases c : a = 93 ∧ j = 53
  · rw [c.1, c.2, am_uE, hid.2.1]
  rw [am_uN (by omega)]
  by_cases c2 : a = 93 ∧ j = 52
  · rw [c2.1, c2.2, am_uE, hid.1]
  rw [am_uN (by omega)]
  unfold td_M
  rw [am_uN (by omega), am_uN (by omega)]
theorem m_tried_run {w i x3 : Nat} (hv : i_inv r I J) (hQ : ∀ I' J', mfr I I' → J' 64 = J 64 → Q (.int (q_cnt I (q_run I (td_M I w i) false))) (am_hp N r I' J')) :
    am_D (d + 9) 232 [.ref 93] (am_hp N r (td_M I w i) J) (fun _ h => am_V (d + 9) Q 272 86 [some (.ref 93), some (.int (nI w)), some (.int (nI i)), some (.int (nI x3))] [] h) := by
  obtain ⟨rt, rs, rd, rl, rx, nt, nw, nf⟩ := r
  obtain ⟨ht, hok, eH, eZ, eL, h0, h12, e49, e118⟩ := iv_ref hv
  have hgM : m_g (td_M I w i) 0 = m_g I 0 := g_row (fun a h1 h2 => td_row (by omega))
  refine s_M_run (I := I) (h0 := h0) td_te hok hv.2.1.1.2.2.1 (td_okD hv) (by rw [hgM]; exact hv.2.2.2.1.2.2.1) h12 (by rw [td_row (by omega)]; exact e118) ?_
  intro v' nm' wk'
  rw [e_M_tried_86, m_Mu (by omega), m_Mu (by omega), td_back hv.2.2.1, s_M_arrived hok (by omega)]
  try simp (config := {maxSteps := 1000000}) (disch := omega) only [nI_add, nI_1, am_mulN, nI_clamp, am_gI, am_ifd, am_ifn, am_asIe, am_asLe, nI_leI, nI_ltI, nI_eq, am_neg1, am_neg1b]
  rw [e_M_tried_101]
  have e : q_run (td_M I w i) (td_M I w i) = q_run I (td_M I w i) := qrun_c (fun a h1 h2 => td_row (by omega)) ⟨fun _ _ _ => rfl, fun _ _ _ => rfl⟩
  rw [e]
  exact hQ _ _ mfr_M rfl
theorem op_tried {a b : Int32} (hv : i_inv r I J) : op2 (d + 12) N 144 272 [.int a, .int b] r I J := by
  obtain ⟨rt, rs, rd, rl, rx, nt, nw, nf⟩ := r
  obtain ⟨ht, hok, eH, eZ, eL, h0, h12, e49, e118⟩ := iv_ref hv
  have hS := hok.2.1.1
  have hZ := hok.2.2.1.1
  have hS12 := hok.2.1.2
  have hZ5 := hok.2.2.1.2
  have eS : I rt 1 = nI (m_nS I) := hv.2.1.2.1.2.1.trans hS
  -- the answer of a try that is one
  have go : ∀ w i, w < 8 → (w = 6 → i < m_nZ I) → (w = 7 → i < m_nS I) → (w ≠ 6 → w ≠ 7 → i = 0) → op2 (d + 12) N 144 272 [.int (nI w), .int (nI i)] (rt, rs, rd, rl, rx, nt, nw, nf) I J := by
    intro w i hw h6 h7 h5
    have e : ∀ k, k < 8 → (nI w = nI k) = (w = k) := fun k hk => propext (nI_eq (by omega) (by omega))
    have hi : i < 12 := by
      by_cases c6 : w = 6
      · have := h6 c6; omega
      · by_cases c7 : w = 7
        · have := h7 c7; omega
        · have := h5 c6 c7; omega
    refine op2_q (v := .int (q_cnt I (q_run I (td_M I w i) false))) hv ?_ ?_
    · intro Q hQ
      have go : ∀ x3, am_D (d + 11) 98 [.ref 81, .ref rt, .int (nI w), .int (nI i)] (am_hp N (rt, rs, rd, rl, rx, nt, nw, nf) I J) (fun v h => am_asI v (fun y => am_V (d + 11) Q 144 72 [some (.ref 1), some (.int (nI w)), some (.int (nI i)), some (.int x3)] [.int y] h)) := by
        intro x3
        refine s_T_otherwise (d := d + 2) hv hw h6 h7 ?_
        intro I' J' nw' nf' k1 k2 k3
        try simp (config := {maxSteps := 1000000}) (disch := omega) only [nI_add, nI_1, am_mulN, nI_clamp, am_gI, am_ifd, am_ifn, am_asIe, am_asLe, nI_leI, nI_ltI, nI_eq, am_neg1, am_neg1b]
        rw [e_S_tried_72]
        exact hQ _ _ _ k1 ⟨hv.1.1, hv.1.2.1, hv.1.2.2.1, hv.1.2.2.2.1, ht, by omega, by omega⟩ rfl k3
      have b0 : ¬ nI w < nI 0 := by rw [nI_ltI (by omega) (by omega)]; omega
      have b7 : nI w ≤ nI 7 := by rw [nI_leI (by omega) (by omega)]; omega
      have i0 : ¬ nI i < nI 0 := by rw [nI_ltI (by omega) (by omega)]; omega
      rw [e_S_tried ht, am_ifd, if_neg b0, am_ifd, if_pos b7, am_ifn]
      by_cases c6 : w = 6
      · rw [if_pos (by rw [c6]), am_ifd, if_neg i0, am_ifd, eZ, if_pos (by rw [nI_ltI (by omega) (by omega)]; exact h6 c6)]
        exact go _
      rw [if_neg (by rw [e 6 (by omega)]; exact c6), am_ifn]
      by_cases c7 : w = 7
      · rw [if_pos (by rw [c7]), am_ifd, if_neg i0, am_ifd, eS, if_pos (by rw [nI_ltI (by omega) (by omega)]; exact h7 c7)]
        exact go _
      rw [if_neg (by rw [e 7 (by omega)]; exact c7), am_ifd, if_neg i0, am_ifd, if_pos (by rw [nI_ltI (by omega) (by omega)]; have := h5 c6 c7; omega)]
      exact go _
    · intro r' I' J' hv' he Q hQ
      have hv0 : i_inv r' (am_u I' 93 0 (nI 0)) J' := inv_fr hv' (mfr_fr th0_mfr) hv'.1 rfl (by rw [am_uRow (by omega)]; exact hv'.2.2.2.2.2.2.2.2.2)
      have hte0 : te I (am_u I' 93 0 (nI 0)) := fun a h1 h2 => by rw [am_uRow (by omega), he a (by omega)]
      have ev : q_cnt (am_u I' 93 0 (nI 0)) (q_run (am_u I' 93 0 (nI 0)) (td_M (am_u I' 93 0 (nI 0)) w i) false) = q_cnt I (q_run I (td_M I w i) false) := by
        have : q_run (am_u I' 93 0 (nI 0)) (td_M (am_u I' 93 0 (nI 0)) w i) = q_run I (td_M I w i) := by
          refine qrun_c (fun a h1 h2 => by rw [am_uRow (by omega), he a (by omega)]) ⟨fun a h1 h2 => ?_, fun k h1 h2 => ?_⟩
          · rw [td_row (by omega), td_row (by omega), am_uRow (by omega), he a (by omega)]
          · by_cases c2 : k = 52
            · subst c2; rw [td_52, td_52]
            · by_cases c3 : k = 53
              · subst c3; rw [td_53, td_53]
              · rw [td_o c2 c3, td_o c2 c3, am_uN (by omega), he 93 (by omega)]
        unfold q_cnt
        rw [this, e_nL hte0]
      have go : ∀ x3, am_D (d + 11) 232 [.ref 93] (am_hp N r' (td_M (am_u I' 93 0 (nI 0)) w i) J') (fun _ h => am_V (d + 11) Q 272 86 [some (.ref 93), some (.int (nI w)), some (.int (nI i)), some (.int (nI x3))] [] h) := by
        intro x3
        refine m_tried_run (d := d + 2) hv0 ?_
        intro I2 J2 k1 k2
        rw [ev]
        exact hQ _ _ (mfr_trans th0_mfr k1) k2
      have b0 : ¬ nI w < nI 0 := by rw [nI_ltI (by omega) (by omega)]; omega
      have i0 : ¬ nI i < nI 0 := by rw [nI_ltI (by omega) (by omega)]; omega
      rw [e_M_tried, am_ifn]
      by_cases c6 : w = 6
      · rw [if_pos (by rw [c6]), s_M_isSleeper, am_uN (by omega), he 95 (by omega), hZ]
        try simp (config := {maxSteps := 1000000}) (disch := omega) only [nI_add, nI_1, am_mulN, nI_clamp, am_gI, am_ifd, am_ifn, am_asIe, am_asLe, nI_leI, nI_ltI, nI_eq, am_neg1, am_neg1b]
        have := h6 c6
        rw [bo_t (by omega), e_M_tried_16, am_ifn, if_neg n10]
        exact go 1
      rw [if_neg (by rw [e 6 (by omega)]; exact c6), am_ifn]
      by_cases c7 : w = 7
      · have := h7 c7
        rw [if_pos (by rw [c7]), am_ifd, if_neg i0, am_ifd, am_uN (by omega), he 95 (by omega), hS, if_neg (by rw [nI_leI (by omega) (by omega)]; omega)]
        exact go 1
      have := h5 c6 c7
      rw [if_neg (by rw [e 7 (by omega)]; exact c7), am_ifd, if_neg b0, am_ifd, if_neg (by rw [nI_ltI (by omega) (by omega)]; omega), am_ifn, if_pos (by rw [this])]
      exact go 1
  by_cases ca : ∃ w, w < 8 ∧ a = nI w
  · obtain ⟨w, hw, rfl⟩ := ca
    have e : ∀ k, k < 8 → (nI w = nI k) = (w = k) := fun k hk => propext (nI_eq (by omega) (by omega))
    have b0 : ¬ nI w < nI 0 := by rw [nI_ltI (by omega) (by omega)]; omega
    have b7 : nI w ≤ nI 7 := by rw [nI_leI (by omega) (by omega)]; omega
    by_cases c6 : w = 6
    · by_cases cb : ∃ i, i < m_nZ I ∧ b = nI i
      · obtain ⟨i, hi, rfl⟩ := cb
        exact go w i hw (fun _ => hi) (fun h => by omega) (fun h => absurd c6 h)
      · have nb : ¬ (nI 0 ≤ b ∧ b < nI (m_nZ I)) := fun g => cb ((am_irng (k := 0) rfl (by omega)).mp g)
        refine op2_q (v := .int (-nI 1)) hv (iv_ans hv ?_) ?_
        · intro Q hQ
          rw [e_S_tried ht, am_ifd, if_neg b0, am_ifd, if_pos b7, am_ifn, if_pos (by rw [c6]), am_ifd, am_ifd, eZ]
          by_cases g : b < nI 0
          · rw [if_pos g, e_S_tried_72]; exact hQ
          · rw [if_neg g, if_neg (fun g2 => nb ⟨fa_of_nlt g, g2⟩), e_S_tried_72]; exact hQ
        · intro r' I' J' hv' he
          refine iv_mans ?_
          intro Q hQ
          rw [e_M_tried, am_ifn, if_pos (by rw [c6]), s_M_isSleeper, am_uN (by omega), he 95 (by omega), hZ, bo_f nb]
          try simp (config := {maxSteps := 1000000}) (disch := omega) only [nI_add, nI_1, am_mulN, nI_clamp, am_gI, am_ifd, am_ifn, am_asIe, am_asLe, nI_leI, nI_ltI, nI_eq, am_neg1, am_neg1b]
          rw [e_M_tried_16, am_ifn, if_pos rfl]
          exact hQ
    by_cases c7 : w = 7
    · by_cases cb : ∃ i, i < m_nS I ∧ b = nI i
      · obtain ⟨i, hi, rfl⟩ := cb
        exact go w i hw (fun h => absurd h c6) (fun _ => hi) (fun _ h => absurd c7 h)
      · have nb : ¬ (nI 0 ≤ b ∧ b < nI (m_nS I)) := fun g => cb ((am_irng (k := 0) rfl (by omega)).mp g)
        refine op2_q (v := .int (-nI 1)) hv (iv_ans hv ?_) ?_
        · intro Q hQ
          rw [e_S_tried ht, am_ifd, if_neg b0, am_ifd, if_pos b7, am_ifn, if_neg (by rw [e 6 (by omega)]; exact c6), am_ifn, if_pos (by rw [c7]), am_ifd, am_ifd, eS]
          by_cases g : b < nI 0
          · rw [if_pos g, e_S_tried_72]; exact hQ
          · rw [if_neg g, if_neg (fun g2 => nb ⟨fa_of_nlt g, g2⟩), e_S_tried_72]; exact hQ
        · intro r' I' J' hv' he
          refine iv_mans ?_
          intro Q hQ
          rw [e_M_tried, am_ifn, if_neg (by rw [e 6 (by omega)]; exact c6), am_ifn, if_pos (by rw [c7]), am_ifd, am_ifd, am_uN (by omega), he 95 (by omega), hS]
          by_cases g : b < nI 0
          · rw [if_pos g]; exact hQ
          · rw [if_neg g, if_pos (fa_of_nlt (fun g2 => nb ⟨fa_of_nlt g, g2⟩))]; exact hQ
    · by_cases cb : b = nI 0
      · subst cb
        exact go w 0 hw (fun h => absurd h c6) (fun h => absurd h c7) (fun _ _ => rfl)
      · refine op2_q (v := .int (-nI 1)) hv (iv_ans hv ?_) ?_
        · intro Q hQ
          rw [e_S_tried ht, am_ifd, if_neg b0, am_ifd, if_pos b7, am_ifn, if_neg (by rw [e 6 (by omega)]; exact c6), am_ifn, if_neg (by rw [e 7 (by omega)]; exact c7), am_ifd, am_ifd]
          by_cases g : b < nI 0
          · rw [if_pos g, e_S_tried_72]; exact hQ
          · rw [if_neg g, if_neg, e_S_tried_72]
            · exact hQ
            · intro g2
              obtain ⟨k, hk, rfl⟩ := (am_irng (k := 0) (x := b) (a := nI 1) rfl (by omega)).mp ⟨fa_of_nlt g, g2⟩
              exact cb (by rw [show k = 0 by omega])
        · intro r' I' J' hv' he
          refine iv_mans ?_
          intro Q hQ
          rw [e_M_tried, am_ifn, if_neg (by rw [e 6 (by omega)]; exact c6), am_ifn, if_neg (by rw [e 7 (by omega)]; exact c7), am_ifd, if_neg b0, am_ifd, if_neg (by rw [nI_ltI (by omega) (by omega)]; omega), am_ifn, if_neg cb]
          exact hQ
  · have na : ¬ (nI 0 ≤ a ∧ a < nI 8) := fun g => ca ((am_irng (k := 0) rfl (by omega)).mp g)
    have n6 : ¬ a = nI 6 := fun g => ca ⟨6, by omega, g⟩
    have n7 : ¬ a = nI 7 := fun g => ca ⟨7, by omega, g⟩
    have nle : ¬ a < nI 0 → ¬ a ≤ nI 7 := by
      intro g g2
      refine na ⟨fa_of_nlt g, ?_⟩
      rw [fa_le, nI_toInt (by omega)] at g2
      rw [fa_lt, nI_toInt (by omega)]
      omega
    have n5 : ¬ a < nI 0 → nI 5 < a := by
      intro g
      have := nle g
      rw [fa_le, nI_toInt (by omega)] at this
      rw [fa_lt, nI_toInt (by omega)]
      omega
    refine op2_q (v := .int (-nI 1)) hv (iv_ans hv ?_) ?_
    · intro Q hQ
      rw [e_S_tried ht, am_ifd]
      by_cases g : a < nI 0
      · rw [if_pos g]; exact hQ
      · rw [if_neg g, am_ifd, if_neg (nle g)]; exact hQ
    · intro r' I' J' hv' he
      refine iv_mans ?_
      intro Q hQ
      rw [e_M_tried, am_ifn, if_neg n6, am_ifn, if_neg n7, am_ifd]
      by_cases g : a < nI 0
      · rw [if_pos g]; exact hQ
      · rw [if_neg g, am_ifd, if_pos (n5 g)]; exact hQ
end
