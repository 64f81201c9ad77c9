/-! ===== L3: sight, strike ===== -/
section
variable {d N : Nat} {Q : Value → am_H → Prop} {r : am_rho} {I : Nat → Nat → Int32} {J : Nat → Nat → Int64}
theorem s_M_sight28 {n : Nat} {x y z : Int32} (h : I 93 69 = nI n) (hn : n < 24) : am_V d Q 252 28 [some (.ref 93), some (.int x), some (.int y), some (.int z)] [.int (nI 1)] (am_hp N r I J) = Q (.int (nI n)) (am_hp N r (am_u (am_u (am_u (am_u (am_u I 132 n x) 133 n y) 134 n z) 135 n (-nI 1)) 93 69 (nI (n + 1))) J) := by
  have u : ∀ {I : Nat → Nat → Int32} {a k : Nat} {v : Int32}, a ≠ 93 → am_u I a k v 93 69 = I 93 69 := fun h => am_uN (by omega)
  rw [e_M_sight_28]
  simp (disch := omega) only [u, am_uE, h, nI_clamp, am_gI, am_ifd, am_ifn, nI_eq, nI_add]
  rw [if_neg (by omega), if_neg (by omega), am_subN (by omega), show n + 1 - 1 = n by omega]
theorem op_sight {a b c : Int32} (hv : i_inv r I J) : op2 (d + 12) N 133 252 [.int a, .int b, .int c] r I J := by
  have hv0 := hv
  obtain ⟨rt, rs, rd, rl, rx, nt, nw, nf⟩ := r
  obtain ⟨ht, hok, eH, eZ, eL, h0, h12, e49, e118⟩ := iv_ref hv
  obtain ⟨n, hn, a1, a2, a3, a4, a5⟩ := hv.2.2.2.2.2.2.1
  have hH := hok.1.1
  have h8 := hok.1.2
  have hZ := hok.2.2.1.1
  have hZ5 := hok.2.2.1.2
  by_cases ca : ∃ h, h < 12 ∧ a = nI h
  · obtain ⟨h, hh, rfl⟩ := ca
    by_cases cb : ∃ s, s < m_nZ I ∧ b = nI s
    · obtain ⟨s, hs, rfl⟩ := cb
      by_cases cc : ∃ x, x < m_nH I ∧ c = nI x
      · obtain ⟨x, hx, rfl⟩ := cc
        by_cases cn : n < 24
        · intro Q hQ
          rw [e_S_sight]
          try simp (config := {maxSteps := 1000000}) (disch := omega) only [nI_add, nI_1, am_mulN, nI_clamp, am_gI, am_ifd, am_ifn, am_asIe, am_asLe, nI_leI, nI_ltI, nI_eq, am_neg1, am_neg1b]
          rw [if_neg (by omega), if_neg (by omega), s_S_isSleeper ht, eZ]
          try simp (config := {maxSteps := 1000000}) (disch := omega) only [nI_add, nI_1, am_mulN, nI_clamp, am_gI, am_ifd, am_ifn, am_asIe, am_asLe, nI_leI, nI_ltI, nI_eq, am_neg1, am_neg1b]
          rw [bo_t (by omega), e_S_sight_15, s_S_isHouse ht, eH]
          try simp (config := {maxSteps := 1000000}) (disch := omega) only [nI_add, nI_1, am_mulN, nI_clamp, am_gI, am_ifd, am_ifn, am_asIe, am_asLe, nI_leI, nI_ltI, nI_eq, am_neg1, am_neg1b]
          rw [if_neg (by omega), bo_t (by omega), e_S_sight_23]
          try simp (config := {maxSteps := 1000000}) (disch := omega) only [nI_add, nI_1, am_mulN, nI_clamp, am_gI, am_ifd, am_ifn, am_asIe, am_asLe, nI_leI, nI_ltI, nI_eq, am_neg1, am_neg1b]
          rw [if_neg (by omega), s_Si_add a1 cn]
          try simp (config := {maxSteps := 1000000}) (disch := omega) only [nI_add, nI_1, am_mulN, nI_clamp, am_gI, am_ifd, am_ifn, am_asIe, am_asLe, nI_leI, nI_ltI, nI_eq, am_neg1, am_neg1b]
          rw [e_S_sight_38]
          generalize hI1 : am_u (am_u (am_u (am_u (am_u I 73 n (nI h)) 74 n (nI s)) 75 n (nI x)) 76 n (-nI 1)) 72 0 (nI (n + 1)) = I1
          have r1 : ∀ a, a < 72 ∨ 77 ≤ a → I1 a = I a := by
            intro a ha
            rw [← hI1, am_uRow (by omega), am_uRow (by omega), am_uRow (by omega), am_uRow (by omega), am_uRow (by omega)]
          rw [e_M_sight]
          try simp (config := {maxSteps := 1000000}) (disch := omega) only [nI_add, nI_1, am_mulN, nI_clamp, am_gI, am_ifd, am_ifn, am_asIe, am_asLe, nI_leI, nI_ltI, nI_eq, am_neg1, am_neg1b]
          rw [if_neg (by omega), if_neg (by omega), s_M_isSleeper, am_uN (by omega), r1 95 (by omega), hZ]
          try simp (config := {maxSteps := 1000000}) (disch := omega) only [nI_add, nI_1, am_mulN, nI_clamp, am_gI, am_ifd, am_ifn, am_asIe, am_asLe, nI_leI, nI_ltI, nI_eq, am_neg1, am_neg1b]
          rw [bo_t (by omega), e_M_sight_20, s_M_isHouse, am_uN (by omega), r1 95 (by omega), hH]
          try simp (config := {maxSteps := 1000000}) (disch := omega) only [nI_add, nI_1, am_mulN, nI_clamp, am_gI, am_ifd, am_ifn, am_asIe, am_asLe, nI_leI, nI_ltI, nI_eq, am_neg1, am_neg1b]
          rw [if_neg (by omega), bo_t (by omega), s_M_sight28 (by rw [am_uN (by omega), r1 93 (by omega)]; exact a2) cn]
          generalize hI2 : am_u (am_u (am_u (am_u (am_u (am_u I1 93 0 (nI 0)) 132 n (nI h)) 133 n (nI s)) 134 n (nI x)) 135 n (-nI 1)) 93 69 (nI (n + 1)) = I2
          have r2 : ∀ a, a < 93 ∨ (94 ≤ a ∧ a < 132) ∨ 135 < a → I2 a = I1 a := by
            intro a ha
            rw [← hI2, am_uRow (by omega), am_uRow (by omega), am_uRow (by omega), am_uRow (by omega), am_uRow (by omega), am_uRow (by omega)]
          have c2 : ∀ k, k ≠ 0 → k ≠ 69 → I2 93 k = I 93 k := by
            intro k h0 h69
            rw [← hI2, am_uN (by omega), am_uN (by omega), am_uN (by omega), am_uN (by omega), am_uN (by omega), am_uN (by omega), r1 93 (by omega)]
          have q72 : ∀ a j, 73 ≤ a → a ≤ 76 → j ≠ n → I2 a j = I a j := by
            intro a j g1 g2 g3
            rw [r2 a (by omega), ← hI1, am_uN (by omega), am_uN (by omega), am_uN (by omega), am_uN (by omega), am_uN (by omega)]
          have q132 : ∀ a j, 132 ≤ a → a ≤ 135 → j ≠ n → I2 a j = I a j := by
            intro a j g1 g2 g3
            rw [← hI2, am_uN (by omega), am_uN (by omega), am_uN (by omega), am_uN (by omega), am_uN (by omega), am_uN (by omega), r1 a (by omega)]
          have e95 : I2 95 = I 95 := by rw [r2 95 (by omega), r1 95 (by omega)]
          refine hQ _ _ _ _ (inv_sig hv ?_ (fun k k0 k69 _ => c2 k k0 k69) ?_)
          · intro a ha
            rw [r2 a (by omega), r1 a (by omega)]
          · refine ⟨n + 1, by omega, ?_, ?_, ?_, ?_, ?_⟩
            · rw [r2 72 (by omega), ← hI1, am_uE]
            · rw [← hI2, am_uE]
            · rw [r2 72 (by omega), c2 70 (by omega) (by omega), ← hI1, am_uN (by omega), am_uN (by omega), am_uN (by omega), am_uN (by omega), am_uN (by omega)]; exact a3
            · rw [c2 70 (by omega) (by omega)]
              rcases a4 with g | ⟨k, hk, g⟩
              · exact Or.inl g
              · exact Or.inr ⟨k, by omega, g⟩
            · intro k hk
              rw [q_nZ e95, q_nH e95]
              by_cases e : k = n
              · subst e
                have v73 : I2 73 k = nI h := by rw [r2 73 (by omega), ← hI1, am_uN (by omega), am_uN (by omega), am_uN (by omega), am_uN (by omega), am_uE]
                have v74 : I2 74 k = nI s := by rw [r2 74 (by omega), ← hI1, am_uN (by omega), am_uN (by omega), am_uN (by omega), am_uE]
                have v75 : I2 75 k = nI x := by rw [r2 75 (by omega), ← hI1, am_uN (by omega), am_uN (by omega), am_uE]
                have v76 : I2 76 k = -nI 1 := by rw [r2 76 (by omega), ← hI1, am_uN (by omega), am_uE]
                have v132 : I2 132 k = nI h := by rw [← hI2, am_uN (by omega), am_uN (by omega), am_uN (by omega), am_uN (by omega), am_uE]
                have v133 : I2 133 k = nI s := by rw [← hI2, am_uN (by omega), am_uN (by omega), am_uN (by omega), am_uE]
                have v134 : I2 134 k = nI x := by rw [← hI2, am_uN (by omega), am_uN (by omega), am_uE]
                have v135 : I2 135 k = -nI 1 := by rw [← hI2, am_uN (by omega), am_uE]
                rw [v73, v74, v75, v76, v132, v133, v134, v135]
                exact ⟨rfl, Or.inl ⟨rfl, rfl, rfl, rfl, h, s, x, hh, hs, hx, rfl, rfl, rfl⟩⟩
              · rw [q72 73 k (by omega) (by omega) e, q72 74 k (by omega) (by omega) e, q72 75 k (by omega) (by omega) e, q72 76 k (by omega) (by omega) e, q132 132 k (by omega) (by omega) e, q132 133 k (by omega) (by omega) e, q132 134 k (by omega) (by omega) e, q132 135 k (by omega) (by omega) e]
                exact a5 k (by omega)
        · obtain rfl : n = 24 := by omega
          refine op2_q (v := .int (-nI 1)) hv (iv_ans hv ?_) ?_
          · intro Q hQ
            rw [e_S_sight]
            try simp (config := {maxSteps := 1000000}) (disch := omega) only [nI_add, nI_1, am_mulN, nI_clamp, am_gI, am_ifd, am_ifn, am_asIe, am_asLe, nI_leI, nI_ltI, nI_eq, am_neg1, am_neg1b]
            rw [if_neg (by omega), if_neg (by omega), s_S_isSleeper ht, eZ]
            try simp (config := {maxSteps := 1000000}) (disch := omega) only [nI_add, nI_1, am_mulN, nI_clamp, am_gI, am_ifd, am_ifn, am_asIe, am_asLe, nI_leI, nI_ltI, nI_eq, am_neg1, am_neg1b]
            rw [bo_t (by omega), e_S_sight_15, s_S_isHouse ht, eH]
            try simp (config := {maxSteps := 1000000}) (disch := omega) only [nI_add, nI_1, am_mulN, nI_clamp, am_gI, am_ifd, am_ifn, am_asIe, am_asLe, nI_leI, nI_ltI, nI_eq, am_neg1, am_neg1b]
            rw [if_neg (by omega), bo_t (by omega), e_S_sight_23]
            try simp (config := {maxSteps := 1000000}) (disch := omega) only [nI_add, nI_1, am_mulN, nI_clamp, am_gI, am_ifd, am_ifn, am_asIe, am_asLe, nI_leI, nI_ltI, nI_eq, am_neg1, am_neg1b]
            rw [if_neg (by omega), s_Si_addF a1]
            try simp (config := {maxSteps := 1000000}) (disch := omega) only [nI_add, nI_1, am_mulN, nI_clamp, am_gI, am_ifd, am_ifn, am_asIe, am_asLe, nI_leI, nI_ltI, nI_eq, am_neg1, am_neg1b]
            rw [e_S_sight_38]
            exact hQ
          · intro r' I' J' hv' he
            refine iv_mans ?_
            intro Q hQ
            rw [e_M_sight]
            try simp (config := {maxSteps := 1000000}) (disch := omega) only [nI_add, nI_1, am_mulN, nI_clamp, am_gI, am_ifd, am_ifn, am_asIe, am_asLe, nI_leI, nI_ltI, nI_eq, am_neg1, am_neg1b]
            rw [if_neg (by omega), if_neg (by omega), s_M_isSleeper, am_uN (by omega), he 95 (by omega), hZ]
            try simp (config := {maxSteps := 1000000}) (disch := omega) only [nI_add, nI_1, am_mulN, nI_clamp, am_gI, am_ifd, am_ifn, am_asIe, am_asLe, nI_leI, nI_ltI, nI_eq, am_neg1, am_neg1b]
            rw [bo_t (by omega), e_M_sight_20, s_M_isHouse, am_uN (by omega), he 95 (by omega), hH]
            try simp (config := {maxSteps := 1000000}) (disch := omega) only [nI_add, nI_1, am_mulN, nI_clamp, am_gI, am_ifd, am_ifn, am_asIe, am_asLe, nI_leI, nI_ltI, nI_eq, am_neg1, am_neg1b]
            rw [if_neg (by omega), bo_t (by omega), e_M_sight_28, am_uN (by omega), he 93 (by omega), a2, am_ifd, if_neg (by decide +kernel), am_ifn, if_pos rfl]
            exact hQ
      · have nc : ¬ (nI 0 ≤ c ∧ c < nI (m_nH I)) := fun g => cc ((am_irng (k := 0) rfl (by omega)).mp g)
        refine op2_q (v := .int (-nI 1)) hv (iv_ans hv ?_) ?_
        · intro Q hQ
          rw [e_S_sight]
          try simp (config := {maxSteps := 1000000}) (disch := omega) only [nI_add, nI_1, am_mulN, nI_clamp, am_gI, am_ifd, am_ifn, am_asIe, am_asLe, nI_leI, nI_ltI, nI_eq, am_neg1, am_neg1b]
          rw [if_neg (by omega), if_neg (by omega), s_S_isSleeper ht, eZ]
          try simp (config := {maxSteps := 1000000}) (disch := omega) only [nI_add, nI_1, am_mulN, nI_clamp, am_gI, am_ifd, am_ifn, am_asIe, am_asLe, nI_leI, nI_ltI, nI_eq, am_neg1, am_neg1b]
          rw [bo_t (by omega), e_S_sight_15, s_S_isHouse ht, eH, bo_f nc]
          try simp (config := {maxSteps := 1000000}) (disch := omega) only [nI_add, nI_1, am_mulN, nI_clamp, am_gI, am_ifd, am_ifn, am_asIe, am_asLe, nI_leI, nI_ltI, nI_eq, am_neg1, am_neg1b]
          rw [if_neg (by omega), e_S_sight_23]
          try simp (config := {maxSteps := 1000000}) (disch := omega) only [nI_add, nI_1, am_mulN, nI_clamp, am_gI, am_ifd, am_ifn, am_asIe, am_asLe, nI_leI, nI_ltI, nI_eq, am_neg1, am_neg1b, if_true]
          exact hQ
        · intro r' I' J' hv' he
          refine iv_mans ?_
          intro Q hQ
          rw [e_M_sight]
          try simp (config := {maxSteps := 1000000}) (disch := omega) only [nI_add, nI_1, am_mulN, nI_clamp, am_gI, am_ifd, am_ifn, am_asIe, am_asLe, nI_leI, nI_ltI, nI_eq, am_neg1, am_neg1b]
          rw [if_neg (by omega), if_neg (by omega), s_M_isSleeper, am_uN (by omega), he 95 (by omega), hZ]
          try simp (config := {maxSteps := 1000000}) (disch := omega) only [nI_add, nI_1, am_mulN, nI_clamp, am_gI, am_ifd, am_ifn, am_asIe, am_asLe, nI_leI, nI_ltI, nI_eq, am_neg1, am_neg1b]
          rw [bo_t (by omega), e_M_sight_20, s_M_isHouse, am_uN (by omega), he 95 (by omega), hH, bo_f nc]
          try simp (config := {maxSteps := 1000000}) (disch := omega) only [nI_add, nI_1, am_mulN, nI_clamp, am_gI, am_ifd, am_ifn, am_asIe, am_asLe, nI_leI, nI_ltI, nI_eq, am_neg1, am_neg1b]
          rw [if_neg (by omega), e_M_sight_28, am_ifd, if_pos rfl]
          exact hQ
    · have nb : ¬ (nI 0 ≤ b ∧ b < nI (m_nZ I)) := fun g => cb ((am_irng (k := 0) rfl (by omega)).mp g)
      refine op2_q (v := .int (-nI 1)) hv (iv_ans hv ?_) ?_
      · intro Q hQ
        rw [e_S_sight]
        try simp (config := {maxSteps := 1000000}) (disch := omega) only [nI_add, nI_1, am_mulN, nI_clamp, am_gI, am_ifd, am_ifn, am_asIe, am_asLe, nI_leI, nI_ltI, nI_eq, am_neg1, am_neg1b]
        rw [if_neg (by omega), if_neg (by omega), s_S_isSleeper ht, eZ, bo_f nb]
        try simp (config := {maxSteps := 1000000}) (disch := omega) only [nI_add, nI_1, am_mulN, nI_clamp, am_gI, am_ifd, am_ifn, am_asIe, am_asLe, nI_leI, nI_ltI, nI_eq, am_neg1, am_neg1b]
        rw [e_S_sight_15]
        try simp (config := {maxSteps := 1000000}) (disch := omega) only [nI_add, nI_1, am_mulN, nI_clamp, am_gI, am_ifd, am_ifn, am_asIe, am_asLe, nI_leI, nI_ltI, nI_eq, am_neg1, am_neg1b, if_true]
        exact hQ
      · intro r' I' J' hv' he
        refine iv_mans ?_
        intro Q hQ
        rw [e_M_sight]
        try simp (config := {maxSteps := 1000000}) (disch := omega) only [nI_add, nI_1, am_mulN, nI_clamp, am_gI, am_ifd, am_ifn, am_asIe, am_asLe, nI_leI, nI_ltI, nI_eq, am_neg1, am_neg1b]
        rw [if_neg (by omega), if_neg (by omega), s_M_isSleeper, am_uN (by omega), he 95 (by omega), hZ, bo_f nb]
        try simp (config := {maxSteps := 1000000}) (disch := omega) only [nI_add, nI_1, am_mulN, nI_clamp, am_gI, am_ifd, am_ifn, am_asIe, am_asLe, nI_leI, nI_ltI, nI_eq, am_neg1, am_neg1b]
        rw [e_M_sight_20]
        try simp (config := {maxSteps := 1000000}) (disch := omega) only [nI_add, nI_1, am_mulN, nI_clamp, am_gI, am_ifd, am_ifn, am_asIe, am_asLe, nI_leI, nI_ltI, nI_eq, am_neg1, am_neg1b, if_true]
        exact hQ
  · have na : a < nI 0 ∨ (¬ a < nI 0 ∧ nI 12 ≤ a) := by
      by_cases g : a < nI 0
      · exact Or.inl g
      · refine Or.inr ⟨g, fa_of_nlt (fun g2 => ca ((am_irng (k := 0) (x := a) (a := nI 12) rfl (by omega)).mp ⟨fa_of_nlt g, g2⟩))⟩
    refine op2_q (v := .int (-nI 1)) hv (iv_ans hv ?_) ?_
    · intro Q hQ
      rw [e_S_sight]
      try simp (config := {maxSteps := 1000000}) (disch := omega) only [nI_add, nI_1, am_mulN, nI_clamp, am_gI, am_ifd, am_ifn, am_asIe, am_asLe, nI_leI, nI_ltI, nI_eq, am_neg1, am_neg1b]
      rcases na with g | ⟨g, g2⟩
      · rw [if_pos g]; exact hQ
      · rw [if_neg g, if_pos g2]; exact hQ
    · intro r' I' J' hv' he
      refine iv_mans ?_
      intro Q hQ
      rw [e_M_sight]
      try simp (config := {maxSteps := 1000000}) (disch := omega) only [nI_add, nI_1, am_mulN, nI_clamp, am_gI, am_ifd, am_ifn, am_asIe, am_asLe, nI_leI, nI_ltI, nI_eq, am_neg1, am_neg1b]
      rcases na with g | ⟨g, g2⟩
      · rw [if_pos g]; exact hQ
      · rw [if_neg g, if_pos g2]; exact hQ
theorem op_strike {a : Int32} (hv : i_inv r I J) : op2 (d + 12) N 134 253 [.int a] r I J := by
  obtain ⟨n, hn, a1, a2, a3, a4, a5⟩ := hv.2.2.2.2.2.2.1
  by_cases ca : ∃ j, j < n ∧ a = nI j
  · obtain ⟨j, hj, rfl⟩ := ca
    by_cases cn : n < 24
    · intro Q hQ
      rw [e_S_strike, a1]
      try simp (config := {maxSteps := 1000000}) (disch := omega) only [nI_add, nI_1, am_mulN, nI_clamp, am_gI, am_ifd, am_ifn, am_asIe, am_asLe, nI_leI, nI_ltI, nI_eq, am_neg1, am_neg1b]
      rw [if_neg (by omega), if_pos (by omega), e_Sights_addStrike, s_Si_add a1 cn]
      try simp (config := {maxSteps := 1000000}) (disch := omega) only [nI_add, nI_1, am_mulN, nI_clamp, am_gI, am_ifd, am_ifn, am_asIe, am_asLe, nI_leI, nI_ltI, nI_eq, am_neg1, am_neg1b]
      rw [e_Sights_addStrike_7]
      try simp (config := {maxSteps := 1000000}) (disch := omega) only [nI_add, nI_1, am_mulN, nI_clamp, am_gI, am_ifd, am_ifn, am_asIe, am_asLe, nI_leI, nI_ltI, nI_eq, am_neg1, am_neg1b, if_false]
      rw [e_S_strike_27]
      generalize hI1 : am_u (am_u (am_u (am_u (am_u (am_u I 73 n (nI 0)) 74 n (-nI 1)) 75 n (-nI 1)) 76 n (-nI 1)) 72 0 (nI (n + 1))) 76 n (nI j) = I1
      have r1 : ∀ a, a < 72 ∨ 77 ≤ a → I1 a = I a := by
        intro a ha
        rw [← hI1, am_uRow (by omega), am_uRow (by omega), am_uRow (by omega), am_uRow (by omega), am_uRow (by omega), am_uRow (by omega)]
      rw [e_M_strike]
      simp (disch := omega) only [am_uN, am_uE, r1, a2, nI_add, nI_1, am_mulN, nI_clamp, am_gI, am_ifd, am_ifn, am_asIe, am_asLe, nI_leI, nI_ltI, nI_eq, am_neg1, am_neg1b]
      rw [if_neg (by omega), if_neg (by omega), if_neg (by omega), am_subN (by omega), show n + 1 - 1 = n by omega]
      generalize hI2 : am_u (am_u (am_u I1 93 0 (nI 0)) 135 n (nI j)) 93 69 (nI (n + 1)) = I2
      have r2 : ∀ a, a < 93 ∨ (94 ≤ a ∧ a ≠ 135) → I2 a = I1 a := by
        intro a ha
        rw [← hI2, am_uRow (by omega), am_uRow (by omega), am_uRow (by omega)]
      have c2 : ∀ k, k ≠ 0 → k ≠ 69 → I2 93 k = I 93 k := by
        intro k h0 h69
        rw [← hI2, am_uN (by omega), am_uN (by omega), am_uN (by omega), r1 93 (by omega)]
      have q72 : ∀ a j, 73 ≤ a → a ≤ 76 → j ≠ n → I2 a j = I a j := by
        intro a j g1 g2 g3
        rw [r2 a (by omega), ← hI1, am_uN (by omega), am_uN (by omega), am_uN (by omega), am_uN (by omega), am_uN (by omega), am_uN (by omega)]
      have e95 : I2 95 = I 95 := by rw [r2 95 (by omega), r1 95 (by omega)]
      refine hQ _ _ _ _ (inv_sig hv ?_ (fun k k0 k69 _ => c2 k k0 k69) ?_)
      · intro a ha
        rw [r2 a (by omega), r1 a (by omega)]
      · refine ⟨n + 1, by omega, ?_, ?_, ?_, ?_, ?_⟩
        · rw [r2 72 (by omega), ← hI1, am_uN (by omega), am_uE]
        · rw [← hI2, am_uE]
        · rw [r2 72 (by omega), c2 70 (by omega) (by omega), ← hI1, am_uN (by omega), am_uN (by omega), am_uN (by omega), am_uN (by omega), am_uN (by omega), am_uN (by omega)]; exact a3
        · rw [c2 70 (by omega) (by omega)]
          rcases a4 with g | ⟨k, hk, g⟩
          · exact Or.inl g
          · exact Or.inr ⟨k, by omega, g⟩
        · intro k hk
          rw [q_nZ e95, q_nH e95]
          by_cases e : k = n
          · subst e
            have v74 : I2 74 k = -nI 1 := by rw [r2 74 (by omega), ← hI1, am_uN (by omega), am_uN (by omega), am_uN (by omega), am_uN (by omega), am_uE]
            have v76 : I2 76 k = nI j := by rw [r2 76 (by omega), ← hI1, am_uE]
            have v135 : I2 135 k = nI j := by rw [← hI2, am_uN (by omega), am_uE]
            rw [v76, v135]
            exact ⟨rfl, Or.inr ⟨v74, j, hj, rfl⟩⟩
          · have v135 : I2 135 k = I 135 k := by rw [← hI2, am_uN (by omega), am_uN (by omega), am_uN (by omega), r1 135 (by omega)]
            rw [q72 73 k (by omega) (by omega) e, q72 74 k (by omega) (by omega) e, q72 75 k (by omega) (by omega) e, q72 76 k (by omega) (by omega) e, r2 132 (by omega), r2 133 (by omega), r2 134 (by omega), r1 132 (by omega), r1 133 (by omega), r1 134 (by omega), v135]
            exact a5 k (by omega)
    · obtain rfl : n = 24 := by omega
      refine op2_q (v := .int (-nI 1)) hv (iv_ans hv ?_) ?_
      · intro Q hQ
        rw [e_S_strike, a1]
        try simp (config := {maxSteps := 1000000}) (disch := omega) only [nI_add, nI_1, am_mulN, nI_clamp, am_gI, am_ifd, am_ifn, am_asIe, am_asLe, nI_leI, nI_ltI, nI_eq, am_neg1, am_neg1b]
        rw [if_neg (by omega), if_pos (by omega), e_Sights_addStrike, s_Si_addF a1]
        try simp (config := {maxSteps := 1000000}) (disch := omega) only [nI_add, nI_1, am_mulN, nI_clamp, am_gI, am_ifd, am_ifn, am_asIe, am_asLe, nI_leI, nI_ltI, nI_eq, am_neg1, am_neg1b]
        rw [e_Sights_addStrike_7, am_ifd, if_pos rfl]
        try simp (config := {maxSteps := 1000000}) (disch := omega) only [nI_add, nI_1, am_mulN, nI_clamp, am_gI, am_ifd, am_ifn, am_asIe, am_asLe, nI_leI, nI_ltI, nI_eq, am_neg1, am_neg1b]
        rw [e_S_strike_27]
        exact hQ
      · intro r' I' J' hv' he
        refine iv_mans ?_
        intro Q hQ
        rw [e_M_strike, am_uN (by omega), he 93 (by omega), a2]
        try simp (config := {maxSteps := 1000000}) (disch := omega) only [nI_add, nI_1, am_mulN, nI_clamp, am_gI, am_ifd, am_ifn, am_asIe, am_asLe, nI_leI, nI_ltI, nI_eq, am_neg1, am_neg1b]
        rw [if_neg (by omega), if_neg (by omega), if_pos trivial]
        exact hQ
  · have na : a < nI 0 ∨ (¬ a < nI 0 ∧ ¬ a < nI n ∧ nI n ≤ a) := by
      by_cases g : a < nI 0
      · exact Or.inl g
      · have g2 : ¬ a < nI n := fun g2 => ca ((am_irng (k := 0) (x := a) (a := nI n) rfl (by omega)).mp ⟨fa_of_nlt g, g2⟩)
        exact Or.inr ⟨g, g2, fa_of_nlt g2⟩
    refine op2_q (v := .int (-nI 1)) hv (iv_ans hv ?_) ?_
    · intro Q hQ
      rw [e_S_strike, a1]
      try simp (config := {maxSteps := 1000000}) (disch := omega) only [nI_add, nI_1, am_mulN, nI_clamp, am_gI, am_ifd, am_ifn, am_asIe, am_asLe, nI_leI, nI_ltI, nI_eq, am_neg1, am_neg1b]
      rcases na with g | ⟨g, g2, _⟩
      · rw [if_pos g, e_S_strike_27]; exact hQ
      · rw [if_neg g, if_neg g2, e_S_strike_27]; exact hQ
    · intro r' I' J' hv' he
      refine iv_mans ?_
      intro Q hQ
      rw [e_M_strike, am_uN (by omega), he 93 (by omega), a2]
      try simp (config := {maxSteps := 1000000}) (disch := omega) only [nI_add, nI_1, am_mulN, nI_clamp, am_gI, am_ifd, am_ifn, am_asIe, am_asLe, nI_leI, nI_ltI, nI_eq, am_neg1, am_neg1b]
      rcases na with g | ⟨g, _, g2⟩
      · rw [if_pos g]; exact hQ
      · rw [if_neg g, if_pos g2]; exact hQ
end
