/-! ===== L3: far, at ===== -/
section
variable {d N : Nat} {Q : Value → am_H → Prop} {r : am_rho} {I : Nat → Nat → Int32} {J : Nat → Nat → Int64}
theorem iv_far {rt rs rd rl rx nt nw nf : Nat} (hv : i_inv (rt, rs, rd, rl, rx, nt, nw, nf) I J) {F : Nat → Int32} (h0 : 0 < m_nH I) : ∀ k, k < 64 → m_far I F k = I (rt + 5) k := by
  obtain ⟨href, htr, hid, _⟩ := hv
  obtain ⟨⟨ht, hok, hst, hokL⟩, _, ecat, ehn, esn, ese, ewy, efa, _⟩ := htr
  have hg := m_gone_idle hid.1
  have hww : ∀ a b, a < 8 → b < 8 → I (rt + 4) (8 * a + b) = wayP I (m_gone I) (m_nS I) a b := by rw [hg]; exact ewy
  intro k hk
  rw [(far_eq (F := F) hst hok.1.2 hww k hk).1]
  exact (efa h0 k hk).symm
theorem m_idM {n : Nat} : am_hp N r I J = am_hp N r (m_M I n (m_g I n) (I 93 39) (I 128) (I 129)) (m_J J (J 116) (J 117)) := by rw [m_id, m_Jid]
theorem op_far {a b : Int32} (hv : i_inv r I J) : op2 (d + 12) N 121 237 [.int a, .int b] r I J := by
  obtain ⟨rt, rs, rd, rl, rx, nt, nw, nf⟩ := r
  obtain ⟨ht, hok, eH, eZ, eL, h0, h12, e49, e118⟩ := iv_ref hv
  have hH := hok.1.1
  have h8 := hok.1.2
  have hst := hv.2.1.1.2.2.1
  by_cases ca : ∃ x, x < m_nH I ∧ a = nI x
  · obtain ⟨x, hx, rfl⟩ := ca
    by_cases cb : ∃ y, y < m_nH I ∧ b = nI y
    · obtain ⟨y, hy, rfl⟩ := cb
      have e8 : x * 8 + y = 8 * x + y := by omega
      refine op2_q (v := .int (I (rt + 5) (8 * x + y))) hv (iv_ans hv ?_) ?_
      · intro Q hQ
        rw [e_S_far, s_S_isHouse ht, eH]
        try simp (config := {maxSteps := 1000000}) (disch := omega) only [nI_add, nI_1, am_mulN, nI_clamp, am_gI, am_ifd, am_ifn, am_asIe, am_asLe, nI_leI, nI_ltI, nI_eq, am_neg1, am_neg1b]
        rw [bo_t (by omega), e_S_far_5, s_S_isHouse ht, eH]
        try simp (config := {maxSteps := 1000000}) (disch := omega) only [nI_add, nI_1, am_mulN, nI_clamp, am_gI, am_ifd, am_ifn, am_asIe, am_asLe, nI_leI, nI_ltI, nI_eq, am_neg1, am_neg1b]
        rw [if_neg (by omega), bo_t (by omega), e_S_far_13 ht]
        try simp (config := {maxSteps := 1000000}) (disch := omega) only [nI_add, nI_1, am_mulN, nI_clamp, am_gI, am_ifd, am_ifn, am_asIe, am_asLe, nI_leI, nI_ltI, nI_eq, am_neg1, am_neg1b, e8]
        rw [if_neg (by omega)]
        exact hQ
      · intro r' I' J' hv' he
        intro Q hQ
        have hH' : I' 95 0 = nI (m_nH I) := by rw [he 95 (by omega)]; exact hH
        have hst' := hv'.2.1.1.2.2.1
        have hok' := hv'.2.1.1.2.1
        have h2 := @th0_e2 I' (nI 0)
        rw [e_M_far, s_M_isHouse, am_uN (by omega), hH']
        try simp (config := {maxSteps := 1000000}) (disch := omega) only [nI_add, nI_1, am_mulN, nI_clamp, am_gI, am_ifd, am_ifn, am_asIe, am_asLe, nI_leI, nI_ltI, nI_eq, am_neg1, am_neg1b]
        rw [bo_t (by omega), e_M_far_10, s_M_isHouse, am_uN (by omega), hH']
        try simp (config := {maxSteps := 1000000}) (disch := omega) only [nI_add, nI_1, am_mulN, nI_clamp, am_gI, am_ifd, am_ifn, am_asIe, am_asLe, nI_leI, nI_ltI, nI_eq, am_neg1, am_neg1b]
        rw [if_neg (by omega), bo_t (by omega), e_M_far_18]
        try simp (config := {maxSteps := 1000000}) (disch := omega) only [nI_add, nI_1, am_mulN, nI_clamp, am_gI, am_ifd, am_ifn, am_asIe, am_asLe, nI_leI, nI_ltI, nI_eq, am_neg1, am_neg1b]
        rw [if_neg (by omega), m_idM (n := 1), s_M_layFar (k_ok h2 hok') (k_okS h2 (m_okS_of hst')), e_M_far_27]
        try simp (config := {maxSteps := 1000000}) (disch := omega) only [nI_add, nI_1, am_mulN, nI_clamp, am_gI, am_ifd, am_ifn, am_asIe, am_asLe, nI_leI, nI_ltI, nI_eq, am_neg1, am_neg1b, m_Mo, m_Mv, m_MF, m_MT, m_M0, m_M1, m_M2, m_M3, m_M4, m_M5, m_M6, m_M7, m_M8, m_M9, m_wv, m_w0, m_w1, m_w2, m_w3, m_w4, m_w5, m_w6, m_w7, m_w8, m_w9, m_wF, m_wT, m_Jn, m_Jw, m_Jo, m_un, m_uw]
        rw [k_far h2, g_far he, iv_far hv (by omega) _ (by omega)]
        exact hQ _ _ (mfr_trans th0_mfr mfr_M) rfl
    · have nb : ¬ (nI 0 ≤ b ∧ b < nI (m_nH I)) := fun g => cb ((am_irng (k := 0) rfl (by omega)).mp g)
      refine op2_q (v := .int (-nI 1)) hv (iv_ans hv ?_) ?_
      · intro Q hQ
        rw [e_S_far, s_S_isHouse ht, eH]
        try simp (config := {maxSteps := 1000000}) (disch := omega) only [nI_add, nI_1, am_mulN, nI_clamp, am_gI, am_ifd, am_ifn, am_asIe, am_asLe, nI_leI, nI_ltI, nI_eq, am_neg1, am_neg1b]
        rw [bo_t (by omega), e_S_far_5, s_S_isHouse ht, eH, bo_f nb]
        try simp (config := {maxSteps := 1000000}) (disch := omega) only [nI_add, nI_1, am_mulN, nI_clamp, am_gI, am_ifd, am_ifn, am_asIe, am_asLe, nI_leI, nI_ltI, nI_eq, am_neg1, am_neg1b]
        rw [if_neg (by omega), e_S_far_13 ht]
        try simp (config := {maxSteps := 1000000}) (disch := omega) only [nI_add, nI_1, am_mulN, nI_clamp, am_gI, am_ifd, am_ifn, am_asIe, am_asLe, nI_leI, nI_ltI, nI_eq, am_neg1, am_neg1b, if_true]
        exact hQ
      · intro r' I' J' hv' he
        refine iv_mans ?_
        intro Q hQ
        have hH' : I' 95 0 = nI (m_nH I) := by rw [he 95 (by omega)]; exact hH
        rw [e_M_far, s_M_isHouse, am_uN (by omega), hH']
        try simp (config := {maxSteps := 1000000}) (disch := omega) only [nI_add, nI_1, am_mulN, nI_clamp, am_gI, am_ifd, am_ifn, am_asIe, am_asLe, nI_leI, nI_ltI, nI_eq, am_neg1, am_neg1b]
        rw [bo_t (by omega), e_M_far_10, s_M_isHouse, am_uN (by omega), hH', bo_f nb]
        try simp (config := {maxSteps := 1000000}) (disch := omega) only [nI_add, nI_1, am_mulN, nI_clamp, am_gI, am_ifd, am_ifn, am_asIe, am_asLe, nI_leI, nI_ltI, nI_eq, am_neg1, am_neg1b]
        rw [if_neg (by omega), e_M_far_18]
        try simp (config := {maxSteps := 1000000}) (disch := omega) only [nI_add, nI_1, am_mulN, nI_clamp, am_gI, am_ifd, am_ifn, am_asIe, am_asLe, nI_leI, nI_ltI, nI_eq, am_neg1, am_neg1b, if_true]
        exact hQ
  · have na : ¬ (nI 0 ≤ a ∧ a < nI (m_nH I)) := fun g => ca ((am_irng (k := 0) rfl (by omega)).mp g)
    refine op2_q (v := .int (-nI 1)) hv (iv_ans hv ?_) ?_
    · intro Q hQ
      rw [e_S_far, s_S_isHouse ht, eH, bo_f na]
      try simp (config := {maxSteps := 1000000}) (disch := omega) only [nI_add, nI_1, am_mulN, nI_clamp, am_gI, am_ifd, am_ifn, am_asIe, am_asLe, nI_leI, nI_ltI, nI_eq, am_neg1, am_neg1b]
      rw [e_S_far_5]
      try simp (config := {maxSteps := 1000000}) (disch := omega) only [nI_add, nI_1, am_mulN, nI_clamp, am_gI, am_ifd, am_ifn, am_asIe, am_asLe, nI_leI, nI_ltI, nI_eq, am_neg1, am_neg1b, if_true]
      exact hQ
    · intro r' I' J' hv' he
      refine iv_mans ?_
      intro Q hQ
      have hH' : I' 95 0 = nI (m_nH I) := by rw [he 95 (by omega)]; exact hH
      rw [e_M_far, s_M_isHouse, am_uN (by omega), hH', bo_f na]
      try simp (config := {maxSteps := 1000000}) (disch := omega) only [nI_add, nI_1, am_mulN, nI_clamp, am_gI, am_ifd, am_ifn, am_asIe, am_asLe, nI_leI, nI_ltI, nI_eq, am_neg1, am_neg1b]
      rw [e_M_far_10]
      try simp (config := {maxSteps := 1000000}) (disch := omega) only [nI_add, nI_1, am_mulN, nI_clamp, am_gI, am_ifd, am_ifn, am_asIe, am_asLe, nI_leI, nI_ltI, nI_eq, am_neg1, am_neg1b, if_true]
      exact hQ
theorem su_cfr {t w z : Nat} : cfr I (c_suit I t w z) := ⟨su_eq, fun a h => su_row (by omega)⟩
theorem c_le_nlt {x y : Int32} : (¬ x < y) = (y ≤ x) := propext ⟨fa_of_nlt, fun h g => (fa_of_lt g).2.1 h⟩
theorem op_at {a b c : Int32} (hv : i_inv r I J) : op2 (d + 12) N 122 238 [.int a, .int b, .int c] r I J := by
  obtain ⟨rt, rs, rd, rl, rx, nt, nw, nf⟩ := r
  obtain ⟨ht, hok, eH, eZ, eL, h0, h12, e49, e118⟩ := iv_ref hv
  have hH := hok.1.1
  have h8 := hok.1.2
  have hbell := iv_bell hv
  have henv := env_idle (w := 49) (F := I 128) (W := m_g I 0) (by omega) hv.2.1 hv.2.2.1 hbell
  have hlit : I 49 5 = m_g I 0 3 0 := hv.2.2.2.1.2.1
  have ec0 : ∀ {z : Nat}, c_suit I rt 49 z 49 5 = I 49 5 := su_o (by omega)
  have hcac : c_cache I I (rt + 15) (c_suit I rt 49 (m_nZ I) 63) (J 64) := by rw [su_row (by omega)]; exact hv.2.2.2.2.2.2.2.2.2
  by_cases ca : ∃ x, x < m_nH I ∧ a = nI x
  · obtain ⟨x, hx, rfl⟩ := ca
    by_cases cb : ∃ y, y < 12 ∧ b = nI y
    · obtain ⟨y, hy, rfl⟩ := cb
      by_cases c0 : c = nI 0
      · subst c0
        refine op2_q (v := .int (nI (m_light I (m_nA I) (m_g I 0 3 0) x (nI y)).toNat)) hv ?_ ?_
        · intro Q hQ
          have hl := henv.2.2.2.2.2.2.2.1 x hx y hy
          rw [e_S_at, s_S_isHouse ht, eH]
          try simp (config := {maxSteps := 1000000}) (disch := omega) only [nI_add, nI_1, am_mulN, nI_clamp, am_gI, am_ifd, am_ifn, am_asIe, am_asLe, nI_leI, nI_ltI, nI_eq, am_neg1, am_neg1b]
          rw [bo_t (by omega), e_S_at_5 ht]
          try simp (config := {maxSteps := 1000000}) (disch := omega) only [nI_add, nI_1, am_mulN, nI_clamp, am_gI, am_ifd, am_ifn, am_asIe, am_asLe, nI_leI, nI_ltI, nI_eq, am_neg1, am_neg1b]
          rw [if_neg (by omega), if_neg (by omega), if_pos (by omega), s_N_suit ht (by omega) eZ hok.2.2.1.2, e_S_at_35]
          try simp (config := {maxSteps := 1000000}) (disch := omega) only [nI_add, nI_1, am_mulN, nI_clamp, am_gI, am_ifd, am_ifn, am_asIe, am_asLe, nI_leI, nI_ltI, nI_eq, am_neg1, am_neg1b, if_true]
          rw [e_Night_light (by omega) ht, ec0, hlit]
          try simp (config := {maxSteps := 1000000}) (disch := omega) only [nI_add, nI_1, am_mulN, nI_clamp, am_gI, am_ifd, am_ifn, am_asIe, am_asLe, nI_leI, nI_ltI, nI_eq, am_neg1, am_neg1b, b_2]
          have gq := hQ _ _ _ su_cfr (ref_t hv.1 ht) rfl hcac
          rw [← hl] at gq
          unfold cl_light at gq
          by_cases c : c_suit I rt 49 (m_nZ I) 61 11 = nI 0
          · rw [if_pos c, e_S_at_77]
            rw [decide_eq_true c, Bool.true_and] at gq
            exact gq
          · rw [if_neg c, e_S_at_77]
            rw [decide_eq_false c, Bool.false_and] at gq
            exact gq
        · intro r' I' J' hv' he
          refine iv_mans ?_
          intro Q hQ
          have hH' : I' 95 0 = nI (m_nH I) := by rw [he 95 (by omega)]; exact hH
          have hA' : am_u I' 93 0 (nI 0) 95 4 = nI (m_nA I) := by rw [am_uN (by omega), he 95 (by omega)]; exact hok.2.2.2.2.1.1
          rw [e_M_at, s_M_isHouse, am_uN (by omega), hH']
          try simp (config := {maxSteps := 1000000}) (disch := omega) only [nI_add, nI_1, am_mulN, nI_clamp, am_gI, am_ifd, am_ifn, am_asIe, am_asLe, nI_leI, nI_ltI, nI_eq, am_neg1, am_neg1b]
          rw [bo_t (by omega), e_M_at_10]
          try simp (config := {maxSteps := 1000000}) (disch := omega) only [nI_add, nI_1, am_mulN, nI_clamp, am_gI, am_ifd, am_ifn, am_asIe, am_asLe, nI_leI, nI_ltI, nI_eq, am_neg1, am_neg1b]
          rw [if_neg (by omega), if_neg (by omega), if_neg (by omega), if_neg (by omega), if_pos (by omega), if_pos trivial, s_M_lightAt (by omega) (by omega) hA' hok.2.2.2.2.1.2]
          try simp (config := {maxSteps := 1000000}) (disch := omega) only [nI_add, nI_1, am_mulN, nI_clamp, am_gI, am_ifd, am_ifn, am_asIe, am_asLe, nI_leI, nI_ltI, nI_eq, am_neg1, am_neg1b]
          rw [e_M_at_45, e_M_at_54, k_light th0_e2, am_uN (by omega), g_light he, he 121 (by omega)]
          exact hQ
      · by_cases c1 : c = nI 1
        · subst c1
          refine op2_q (v := .int (m_noise I (m_g I 0 9 x) x)) hv ?_ ?_
          · intro Q hQ
            have hn := (henv.2.2.2.2.1 x hx).1
            rw [e_S_at, s_S_isHouse ht, eH]
            try simp (config := {maxSteps := 1000000}) (disch := omega) only [nI_add, nI_1, am_mulN, nI_clamp, am_gI, am_ifd, am_ifn, am_asIe, am_asLe, nI_leI, nI_ltI, nI_eq, am_neg1, am_neg1b]
            rw [bo_t (by omega), e_S_at_5 ht]
            try simp (config := {maxSteps := 1000000}) (disch := omega) only [nI_add, nI_1, am_mulN, nI_clamp, am_gI, am_ifd, am_ifn, am_asIe, am_asLe, nI_leI, nI_ltI, nI_eq, am_neg1, am_neg1b]
            rw [if_neg (by omega), if_neg (by omega), if_pos (by omega), s_N_suit ht (by omega) eZ hok.2.2.1.2, e_S_at_35]
            try simp (config := {maxSteps := 1000000}) (disch := omega) only [nI_add, nI_1, am_mulN, nI_clamp, am_gI, am_ifd, am_ifn, am_asIe, am_asLe, nI_leI, nI_ltI, nI_eq, am_neg1, am_neg1b]
            rw [if_neg (by omega), if_pos trivial, hn]
            exact hQ _ _ _ su_cfr (ref_t hv.1 ht) rfl hcac
          · intro r' I' J' hv' he
            refine iv_mans ?_
            intro Q hQ
            have hH' : I' 95 0 = nI (m_nH I) := by rw [he 95 (by omega)]; exact hH
            have eb : I' 127 (8 * 0 + x) = m_g I 0 9 x := by
              rw [he 127 (by omega)]
              unfold m_g
              rw [if_neg (by omega), if_neg (by omega), if_pos (by omega)]
            rw [e_M_at, s_M_isHouse, am_uN (by omega), hH']
            try simp (config := {maxSteps := 1000000}) (disch := omega) only [nI_add, nI_1, am_mulN, nI_clamp, am_gI, am_ifd, am_ifn, am_asIe, am_asLe, nI_leI, nI_ltI, nI_eq, am_neg1, am_neg1b]
            rw [bo_t (by omega), e_M_at_10]
            try simp (config := {maxSteps := 1000000}) (disch := omega) only [nI_add, nI_1, am_mulN, nI_clamp, am_gI, am_ifd, am_ifn, am_asIe, am_asLe, nI_leI, nI_ltI, nI_eq, am_neg1, am_neg1b]
            rw [if_neg (by omega), if_neg (by omega), if_neg (by omega), if_neg (by omega), if_pos (by omega), if_neg (by omega), s_M_noiseAt (by omega) (by omega)]
            try simp (config := {maxSteps := 1000000}) (disch := omega) only [nI_add, nI_1, am_mulN, nI_clamp, am_gI, am_ifd, am_ifn, am_asIe, am_asLe, nI_leI, nI_ltI, nI_eq, am_neg1, am_neg1b]
            rw [e_M_at_54, k_noise th0_e2, am_uN (by omega), g_noise he, eb]
            exact hQ
        · have hc : c < nI 0 ∨ (¬ c < nI 0 ∧ ¬ c ≤ nI 1) := by
            by_cases g : c < nI 0
            · exact Or.inl g
            · refine Or.inr ⟨g, ?_⟩
              intro g2
              rw [fa_lt, nI_toInt (by omega)] at g
              rw [fa_le, nI_toInt (by omega)] at g2
              rw [fa_eq, nI_toInt (by omega)] at c0 c1
              omega
          refine op2_q (v := .int (-nI 1)) hv ?_ ?_
          · intro Q hQ
            rw [e_S_at, s_S_isHouse ht, eH]
            try simp (config := {maxSteps := 1000000}) (disch := omega) only [nI_add, nI_1, am_mulN, nI_clamp, am_gI, am_ifd, am_ifn, am_asIe, am_asLe, nI_leI, nI_ltI, nI_eq, am_neg1, am_neg1b]
            rw [bo_t (by omega), e_S_at_5 ht]
            try simp (config := {maxSteps := 1000000}) (disch := omega) only [nI_add, nI_1, am_mulN, nI_clamp, am_gI, am_ifd, am_ifn, am_asIe, am_asLe, nI_leI, nI_ltI, nI_eq, am_neg1, am_neg1b]
            rw [if_neg (by omega), if_neg (by omega), if_pos (by omega), s_N_suit ht (by omega) eZ hok.2.2.1.2, e_S_at_35]
            try simp (config := {maxSteps := 1000000}) (disch := omega) only [nI_add, nI_1, am_mulN, nI_clamp, am_gI, am_ifd, am_ifn, am_asIe, am_asLe, nI_leI, nI_ltI, nI_eq, am_neg1, am_neg1b]
            rw [if_neg c0, if_neg c1]
            exact hQ _ _ _ su_cfr (ref_t hv.1 ht) rfl hcac
          · intro r' I' J' hv' he
            refine iv_mans ?_
            intro Q hQ
            have hH' : I' 95 0 = nI (m_nH I) := by rw [he 95 (by omega)]; exact hH
            rw [e_M_at, s_M_isHouse, am_uN (by omega), hH']
            try simp (config := {maxSteps := 1000000}) (disch := omega) only [nI_add, nI_1, am_mulN, nI_clamp, am_gI, am_ifd, am_ifn, am_asIe, am_asLe, nI_leI, nI_ltI, nI_eq, am_neg1, am_neg1b]
            rw [bo_t (by omega), e_M_at_10]
            try simp (config := {maxSteps := 1000000}) (disch := omega) only [nI_add, nI_1, am_mulN, nI_clamp, am_gI, am_ifd, am_ifn, am_asIe, am_asLe, nI_leI, nI_ltI, nI_eq, am_neg1, am_neg1b]
            rw [if_neg (by omega), if_neg (by omega), if_neg (by omega)]
            rcases hc with g | ⟨g, g2⟩
            · rw [if_pos g]; exact hQ
            · rw [if_neg g, if_neg g2]; exact hQ
    · have nb : b < nI 0 ∨ (¬ b < nI 0 ∧ ¬ b < nI 12 ∧ nI 12 ≤ b) := by
        by_cases g : b < nI 0
        · exact Or.inl g
        · refine Or.inr ⟨g, ?_, ?_⟩
          · intro g2; exact cb ((am_irng (k := 0) (x := b) (a := nI 12) rfl (by omega)).mp ⟨fa_of_nlt g, g2⟩)
          · apply fa_of_nlt
            intro g2; exact cb ((am_irng (k := 0) (x := b) (a := nI 12) rfl (by omega)).mp ⟨fa_of_nlt g, g2⟩)
      refine op2_q (v := .int (-nI 1)) hv (iv_ans hv ?_) ?_
      · intro Q hQ
        rw [e_S_at, s_S_isHouse ht, eH]
        try simp (config := {maxSteps := 1000000}) (disch := omega) only [nI_add, nI_1, am_mulN, nI_clamp, am_gI, am_ifd, am_ifn, am_asIe, am_asLe, nI_leI, nI_ltI, nI_eq, am_neg1, am_neg1b]
        rw [bo_t (by omega), e_S_at_5 ht]
        try simp (config := {maxSteps := 1000000}) (disch := omega) only [nI_add, nI_1, am_mulN, nI_clamp, am_gI, am_ifd, am_ifn, am_asIe, am_asLe, nI_leI, nI_ltI, nI_eq, am_neg1, am_neg1b]
        rw [if_neg (by omega)]
        rcases nb with g | ⟨g, g2, _⟩
        · rw [if_pos g]; exact hQ
        · rw [if_neg g, if_neg g2]; exact hQ
      · intro r' I' J' hv' he
        refine iv_mans ?_
        intro Q hQ
        have hH' : I' 95 0 = nI (m_nH I) := by rw [he 95 (by omega)]; exact hH
        rw [e_M_at, s_M_isHouse, am_uN (by omega), hH']
        try simp (config := {maxSteps := 1000000}) (disch := omega) only [nI_add, nI_1, am_mulN, nI_clamp, am_gI, am_ifd, am_ifn, am_asIe, am_asLe, nI_leI, nI_ltI, nI_eq, am_neg1, am_neg1b]
        rw [bo_t (by omega), e_M_at_10]
        try simp (config := {maxSteps := 1000000}) (disch := omega) only [nI_add, nI_1, am_mulN, nI_clamp, am_gI, am_ifd, am_ifn, am_asIe, am_asLe, nI_leI, nI_ltI, nI_eq, am_neg1, am_neg1b]
        rw [if_neg (by omega)]
        rcases nb with g | ⟨g, _, g2⟩
        · rw [if_pos g]; exact hQ
        · rw [if_neg g, if_pos g2]; exact hQ
  · have na : ¬ (nI 0 ≤ a ∧ a < nI (m_nH I)) := fun g => ca ((am_irng (k := 0) rfl (by omega)).mp g)
    refine op2_q (v := .int (-nI 1)) hv (iv_ans hv ?_) ?_
    · intro Q hQ
      rw [e_S_at, s_S_isHouse ht, eH, bo_f na]
      try simp (config := {maxSteps := 1000000}) (disch := omega) only [nI_add, nI_1, am_mulN, nI_clamp, am_gI, am_ifd, am_ifn, am_asIe, am_asLe, nI_leI, nI_ltI, nI_eq, am_neg1, am_neg1b]
      rw [e_S_at_5 ht]
      try simp (config := {maxSteps := 1000000}) (disch := omega) only [nI_add, nI_1, am_mulN, nI_clamp, am_gI, am_ifd, am_ifn, am_asIe, am_asLe, nI_leI, nI_ltI, nI_eq, am_neg1, am_neg1b, if_true]
      exact hQ
    · intro r' I' J' hv' he
      refine iv_mans ?_
      intro Q hQ
      have hH' : I' 95 0 = nI (m_nH I) := by rw [he 95 (by omega)]; exact hH
      rw [e_M_at, s_M_isHouse, am_uN (by omega), hH', bo_f na]
      try simp (config := {maxSteps := 1000000}) (disch := omega) only [nI_add, nI_1, am_mulN, nI_clamp, am_gI, am_ifd, am_ifn, am_asIe, am_asLe, nI_leI, nI_ltI, nI_eq, am_neg1, am_neg1b]
      rw [e_M_at_10]
      try simp (config := {maxSteps := 1000000}) (disch := omega) only [nI_add, nI_1, am_mulN, nI_clamp, am_gI, am_ifd, am_ifn, am_asIe, am_asLe, nI_leI, nI_ltI, nI_eq, am_neg1, am_neg1b, if_true]
      exact hQ
end
