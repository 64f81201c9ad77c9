/-! ===== L3: bell ===== -/
section
variable {d N : Nat} {Q : Value → am_H → Prop} {r : am_rho} {I : Nat → Nat → Int32} {J : Nat → Nat → Int64}
theorem op_bell {a b : Int32} (hv : i_inv r I J) : op2 (d + 12) N 126 243 [.int a, .int b] r I J := by
  have hv0 := hv
  obtain ⟨rt, rs, rd, rl, rx, nt, nw, nf⟩ := r
  obtain ⟨ht, hok, eH, eZ, eL, h0, h12, e49, e118⟩ := iv_ref hv
  obtain ⟨n, hn, u1, u2, u3⟩ := hv.2.2.2.2.2.1
  obtain ⟨n1, n2, n3⟩ := hv.2.2.2.1
  have hH := hok.1.1
  have h8 := hok.1.2
  have bZ := hok.2.2.1.2
  have bL := hok.2.2.2.1.2
  by_cases ca : ∃ x, x < m_nH I ∧ a = nI x
  · obtain ⟨x, hx, rfl⟩ := ca
    have e127 : m_g I 0 9 x = I 127 x := by
      unfold m_g
      rw [if_neg (by omega), if_neg (by omega), if_pos (by omega), show 8 * 0 + x = x by omega]
    have e54 : I 54 x = I 127 x := by
      have := n1.2.2.2.2.2.2.2.2.2 x hx
      rw [c_wI (by omega), e127] at this
      exact this
    by_cases cb : ∃ y, y < 10 ∧ b = nI y
    · obtain ⟨y, hy, rfl⟩ := cb
      by_cases ce : I 127 x = nI y
      · refine op2_q (v := .int (nI 0)) hv (iv_ans hv ?_) ?_
        · intro Q hQ
          rw [e_S_bell, s_S_isHouse ht, eH]
          try simp (config := {maxSteps := 1000000}) (disch := omega) only [nI_add, nI_1, am_mulN, nI_clamp, am_gI, am_ifd, am_ifn, am_asIe, am_asLe, nI_leI, nI_ltI, nI_eq, am_neg1, am_neg1b]
          rw [bo_t (by omega), e_S_bell_5]
          try simp (config := {maxSteps := 1000000}) (disch := omega) only [nI_add, nI_1, am_mulN, nI_clamp, am_gI, am_ifd, am_ifn, am_asIe, am_asLe, nI_leI, nI_ltI, nI_eq, am_neg1, am_neg1b, e54, ce, if_true]
          rw [if_neg (by omega), if_neg (by omega), if_neg (by omega)]
          exact hQ
        · intro r' I' J' hv' he
          refine iv_mans ?_
          intro Q hQ
          rw [e_M_bell, s_M_isHouse, am_uN (by omega), he 95 (by omega), hH]
          try simp (config := {maxSteps := 1000000}) (disch := omega) only [nI_add, nI_1, am_mulN, nI_clamp, am_gI, am_ifd, am_ifn, am_asIe, am_asLe, nI_leI, nI_ltI, nI_eq, am_neg1, am_neg1b]
          rw [bo_t (by omega), e_M_bell_10]
          try simp (config := {maxSteps := 1000000}) (disch := omega) only [nI_add, nI_1, am_mulN, nI_clamp, am_gI, am_ifd, am_ifn, am_asIe, am_asLe, nI_leI, nI_ltI, nI_eq, am_neg1, am_neg1b]
          rw [if_neg (by omega), if_neg (by omega), if_neg (by omega), am_uN (by omega), he 127 (by omega), if_pos ce]
          exact hQ
      · intro Q hQ
        rw [e_S_bell, s_S_isHouse ht, eH]
        try simp (config := {maxSteps := 1000000}) (disch := omega) only [nI_add, nI_1, am_mulN, nI_clamp, am_gI, am_ifd, am_ifn, am_asIe, am_asLe, nI_leI, nI_ltI, nI_eq, am_neg1, am_neg1b]
        rw [bo_t (by omega), e_S_bell_5]
        try simp (config := {maxSteps := 1000000}) (disch := omega) only [nI_add, nI_1, am_mulN, nI_clamp, am_gI, am_ifd, am_ifn, am_asIe, am_asLe, nI_leI, nI_ltI, nI_eq, am_neg1, am_neg1b, e54]
        rw [if_neg (by omega), if_neg (by omega), if_neg (by omega), if_neg ce]
        refine s_Ch_add u1 hn ?_
        intro I1 s hs ⟨k1, k2, k3, k4, k5, k6⟩
        rw [e_S_bell_51]
        try simp (config := {maxSteps := 1000000}) (disch := omega) only [nI_add, nI_1, am_mulN, nI_clamp, am_gI, am_ifd, am_ifn, am_asIe, am_asLe, nI_leI, nI_ltI, nI_eq, am_neg1, am_neg1b]
        generalize hI2 : am_u I1 54 x (nI y) = I2
        have r2 : ∀ a, a ≠ 54 → I2 a = I1 a := fun a h => by rw [← hI2, am_uRow (by omega)]
        rw [e_M_bell, s_M_isHouse, am_uN (by omega), r2 95 (by omega), k1 95 (by omega), hH]
        try simp (config := {maxSteps := 1000000}) (disch := omega) only [nI_add, nI_1, am_mulN, nI_clamp, am_gI, am_ifd, am_ifn, am_asIe, am_asLe, nI_leI, nI_ltI, nI_eq, am_neg1, am_neg1b]
        rw [bo_t (by omega), e_M_bell_10]
        try simp (config := {maxSteps := 1000000}) (disch := omega) only [nI_add, nI_1, am_mulN, nI_clamp, am_gI, am_ifd, am_ifn, am_asIe, am_asLe, nI_leI, nI_ltI, nI_eq, am_neg1, am_neg1b]
        rw [if_neg (by omega), if_neg (by omega), if_neg (by omega), am_uN (by omega), r2 127 (by omega), k1 127 (by omega), if_neg ce]
        have h51 : am_u I2 93 0 (nI 0) 93 51 = nI n := by rw [am_uN (by omega), r2 93 (by omega), k1 93 (by omega)]; exact u2
        refine s_M_keepNow h51 hn ?_
        intro I3 s' hs' ⟨m1, m2, m3, m4, m5, m6⟩
        obtain rfl : s = s' := by rw [hs, hs']
        have gI : ∀ m, m_g (am_u I2 93 0 (nI 0)) m = m_g I m := by
          intro m
          rw [th0_g]
          exact g_row (fun a h1 h2 => by rw [r2 a (by omega), k1 a (by omega)])
        rw [e_M_bell_39]
        try simp (config := {maxSteps := 1000000}) (disch := omega) only [nI_add, nI_1, am_mulN, nI_clamp, am_gI, am_ifd, am_ifn, am_asIe, am_asLe, nI_leI, nI_ltI, nI_eq, am_neg1, am_neg1b]
        have row3 : ∀ a, (a < 77 ∨ 80 < a) → a ≠ 54 → a ≠ 93 → (a < 118 ∨ 127 < a) → I3 a = I a := by
          intro a h1 h2 h3 h4
          rw [m1 a h3 h4, am_uRow (by omega), r2 a h2, k1 a h1]
        have gq := m_g_u (I := I3) (f := 9) (k := x) (x := nI y) (by omega)
        rw [m4 0 (by omega), gI 0] at gq
        have g0 : wq (m_g (am_u I3 127 x (nI y)) 0) (am_u (m_g I 0) 9 x (nI y)) := gq
        have go_ : ∀ m, m ≠ 0 → m_g (am_u I3 127 x (nI y)) m = m_g I3 m := fun m hm => m_g_uo (f := 9) hm (by omega)
        have hte : te I (am_u I3 127 x (nI y)) := fun a h1 h2 => by rw [am_uRow (by omega), row3 a (by omega) (by omega) (by omega) (by omega)]
        refine hQ _ _ _ _ (inv_chg (n := n) (s := s) (x := nI 2) (y := nI x) (z := I 127 x) hv u1 u2 hn hs ?_ ?_ ?_ ?_ ?_ ?_ ?_ ?_ ?_ ?_ ?_)
        · intro a ha
          rw [am_uRow (by omega), row3 a (by omega) (by omega) (by omega) (by omega)]
        · intro k h0 h51
          rw [am_uN (by omega), m2 k h51, am_uN (by omega), r2 93 (by omega), k1 93 (by omega)]
        · rw [am_uN (by omega), m1 77 (by omega) (by omega), am_uN (by omega), r2 77 (by omega)]; exact k2
        · rw [am_uN (by omega)]; exact m3
        · intro j hj
          rw [am_uN (by omega), am_uN (by omega), am_uN (by omega), m1 78 (by omega) (by omega), m1 79 (by omega) (by omega), m1 80 (by omega) (by omega), am_uN (by omega), am_uN (by omega), am_uN (by omega), r2 78 (by omega), r2 79 (by omega), r2 80 (by omega)]
          exact k3 j hj
        · rw [am_uN (by omega), am_uN (by omega), am_uN (by omega), m1 78 (by omega) (by omega), m1 79 (by omega) (by omega), m1 80 (by omega) (by omega), am_uN (by omega), am_uN (by omega), am_uN (by omega), r2 78 (by omega), r2 79 (by omega), r2 80 (by omega)]
          exact ⟨k4, k5, k6⟩
        · rw [go_ 2 (by omega), m4 2 (by omega), gI]
        · intro j hj
          rw [go_ _ (by omega), m5 j hj, gI]
        · rw [go_ _ (by omega), m6, gI]
        · refine ⟨?_, ?_, ?_⟩
          · refine e_cw hte (cw_q bZ bL h8 (wq_symm g0) ?_)
            have hC : ∀ i j, i ≤ 5 → (i ≠ 5 ∨ j ≠ x) → c_w (am_u I3 127 x (nI y)) 49 i j = c_w I 49 i j := by
              intro i j hi hij
              rw [c_wI hi, c_wI hi, am_uN (by omega), m1 _ (by omega) (by omega), am_uN (by omega), ← hI2, am_uN (by omega), k1 _ (by omega)]
            obtain ⟨r0, r1, r2', r3, r4, r5, r6, r7, r8, r9⟩ := n1
            have uw : ∀ {f k : Nat}, f ≠ 9 → am_u (m_g I 0) 9 x (nI y) f k = m_g I 0 f k := fun h => am_uN (by omega)
            refine ⟨?_, ?_, ?_, ?_, ?_, ?_, ?_, ?_, ?_, ?_⟩
            · rw [hC _ _ (by omega) (by omega), uw (by omega)]; exact r0
            · rw [hC _ _ (by omega) (by omega), uw (by omega)]; exact r1
            · rw [hC _ _ (by omega) (by omega), uw (by omega)]; exact r2'
            · rw [hC _ _ (by omega) (by omega), uw (by omega)]; exact r3
            · intro k hk; rw [hC _ _ (by omega) (by omega), uw (by omega)]; exact r4 k hk
            · intro k hk l hl; rw [hC _ _ (by omega) (by omega), uw (by omega), uw (by omega)]; exact r5 k hk l hl
            · intro k hk l hl; rw [hC _ _ (by omega) (by omega), uw (by omega), uw (by omega)]; exact r6 k hk l hl
            · intro l hl; rw [hC _ _ (by omega) (by omega), uw (by omega)]; exact r7 l hl
            · intro l hl; rw [hC _ _ (by omega) (by omega), uw (by omega)]; exact r8 l hl
            · intro k hk
              by_cases e : k = x
              · subst e
                rw [am_uE, c_wI (by omega), am_uN (by omega), m1 _ (by omega) (by omega), am_uN (by omega), ← hI2, am_uE]
              · rw [hC _ _ (by omega) (by omega), am_uN (by omega)]; exact r9 k hk
          · rw [g0.1 3 (by omega), am_uN (by omega), am_uN (by omega), m1 49 (by omega) (by omega), am_uN (by omega), r2 49 (by omega), k1 49 (by omega)]; exact n2
          · refine e_okX hte (okX_q bZ bL h8 (wq_symm g0) ?_)
            obtain ⟨o1, o2, o3, o4, o5⟩ := n3
            refine ⟨?_, ?_, okLt_u o3 (by omega), ?_, ?_⟩
            · intro s hs; rw [am_uN (by omega)]; exact o1 s hs
            · rw [am_uN (by omega)]; exact o2
            · rw [am_uN (by omega)]; exact o4
            · intro k hk
              by_cases e : k = x
              · subst e; rw [am_uE]; exact ⟨y, by omega, rfl⟩
              · rw [am_uN (by omega)]; exact o5 k hk
        · exact Or.inr (Or.inr ⟨rfl, x, y, hx, by omega, rfl, e127.symm, g0⟩)
    · have nb : b < nI 0 ∨ (¬ b < nI 0 ∧ nI 9 < b) := by
        by_cases g : b < nI 0
        · exact Or.inl g
        · refine Or.inr ⟨g, ?_⟩
          have g2 : ¬ b < nI 10 := fun g2 => cb ((am_irng (k := 0) (x := b) (a := nI 10) rfl (by omega)).mp ⟨fa_of_nlt g, g2⟩)
          rw [fa_lt, nI_toInt (by omega)] at g2 ⊢
          omega
      refine op2_q (v := .int (nI 0)) hv (iv_ans hv ?_) ?_
      · intro Q hQ
        rw [e_S_bell, s_S_isHouse ht, eH]
        try simp (config := {maxSteps := 1000000}) (disch := omega) only [nI_add, nI_1, am_mulN, nI_clamp, am_gI, am_ifd, am_ifn, am_asIe, am_asLe, nI_leI, nI_ltI, nI_eq, am_neg1, am_neg1b]
        rw [bo_t (by omega), e_S_bell_5]
        try simp (config := {maxSteps := 1000000}) (disch := omega) only [nI_add, nI_1, am_mulN, nI_clamp, am_gI, am_ifd, am_ifn, am_asIe, am_asLe, nI_leI, nI_ltI, nI_eq, am_neg1, am_neg1b]
        rw [if_neg (by omega)]
        rcases nb with g | ⟨g, g2⟩
        · rw [if_pos g]; exact hQ
        · rw [if_neg g, if_pos g2]; exact hQ
      · intro r' I' J' hv' he
        refine iv_mans ?_
        intro Q hQ
        rw [e_M_bell, s_M_isHouse, am_uN (by omega), he 95 (by omega), hH]
        try simp (config := {maxSteps := 1000000}) (disch := omega) only [nI_add, nI_1, am_mulN, nI_clamp, am_gI, am_ifd, am_ifn, am_asIe, am_asLe, nI_leI, nI_ltI, nI_eq, am_neg1, am_neg1b]
        rw [bo_t (by omega), e_M_bell_10]
        try simp (config := {maxSteps := 1000000}) (disch := omega) only [nI_add, nI_1, am_mulN, nI_clamp, am_gI, am_ifd, am_ifn, am_asIe, am_asLe, nI_leI, nI_ltI, nI_eq, am_neg1, am_neg1b]
        rw [if_neg (by omega)]
        rcases nb with g | ⟨g, g2⟩
        · rw [if_pos g]; exact hQ
        · rw [if_neg g, if_pos g2]; exact hQ
  · have na : ¬ (nI 0 ≤ a ∧ a < nI (m_nH I)) := fun g => ca ((am_irng (k := 0) rfl (by omega)).mp g)
    refine op2_q (v := .int (nI 0)) hv (iv_ans hv ?_) ?_
    · intro Q hQ
      rw [e_S_bell, s_S_isHouse ht, eH, bo_f na]
      try simp (config := {maxSteps := 1000000}) (disch := omega) only [nI_add, nI_1, am_mulN, nI_clamp, am_gI, am_ifd, am_ifn, am_asIe, am_asLe, nI_leI, nI_ltI, nI_eq, am_neg1, am_neg1b]
      rw [e_S_bell_5, am_ifd, if_pos rfl]
      exact hQ
    · intro r' I' J' hv' he
      refine iv_mans ?_
      intro Q hQ
      rw [e_M_bell, s_M_isHouse, am_uN (by omega), he 95 (by omega), hH, bo_f na]
      try simp (config := {maxSteps := 1000000}) (disch := omega) only [nI_add, nI_1, am_mulN, nI_clamp, am_gI, am_ifd, am_ifn, am_asIe, am_asLe, nI_leI, nI_ltI, nI_eq, am_neg1, am_neg1b]
      rw [e_M_bell_10, am_ifd, if_pos rfl]
      exact hQ
end
