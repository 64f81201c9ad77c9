/-! ===== L3: brought ===== -/
section
variable {d N : Nat} {Q : Value → am_H → Prop} {r : am_rho} {I : Nat → Nat → Int32} {J : Nat → Nat → Int64}
/-- those of the first n sleepers that stand at a in an hour from h0 on; the bit of the sleeper each time -/
def q_br (I : Nat → Nat → Int32) (h0 : Nat) (a : Int32) : Nat → Int32
  | 0 => nI 0
  | s + 1 => am_or (fun h => decide (q_at I h0 s h = a)) (fun _ => am_pw s) h0 (q_br I h0 a s) (12 - h0)
theorem op_brought {a : Int32} (hv : i_inv r I J) : op2 (d + 12) N 140 266 [.int a] r I J := by
  obtain ⟨rt, rs, rd, rl, rx, nt, nw, nf⟩ := r
  obtain ⟨ht, hok, eH, eZ, eL, h0, h12, e49, e118⟩ := iv_ref hv
  have hZ5 := hok.2.2.1.2
  have hH := hok.1.1
  have hH8 := hok.1.2
  have hZ := hok.2.2.1.1
  by_cases ca : nI 0 ≤ a ∧ a < nI (m_nH I)
  · refine op2_q (v := .int (q_br I h0 a (m_nZ I))) hv ?_ ?_
    · intro Q hQ
      rw [e_S_brought, s_S_isHouse ht, eH, bo_t ca]
      try simp (config := {maxSteps := 1000000}) (disch := omega) only [nI_add, nI_1, am_mulN, nI_clamp, am_gI, am_ifd, am_ifn, am_asIe, am_asLe, nI_leI, nI_ltI, nI_eq, am_neg1, am_neg1b]
      rw [e_S_brought_5 ht]
      try simp (config := {maxSteps := 1000000}) (disch := omega) only [nI_add, nI_1, am_mulN, nI_clamp, am_gI, am_ifd, am_ifn, am_asIe, am_asLe, nI_leI, nI_ltI, nI_eq, am_neg1, am_neg1b]
      rw [if_neg (by omega)]
      refine s_T_goTonight hv e49 h12 ?_
      intro I' J' g1 g2 g3 g4
      have gq := hQ _ _ _ g1 (ref_t hv.1 ht) rfl g2
      have e49' : I' 49 0 = nI h0 := by rw [g1.2 49 (by omega)]; exact e49
      have eZ' : I' rt 2 = nI (m_nZ I) := by rw [g1.2 rt (by omega)]; exact eZ
      have li : ∀ s, s < m_nZ I → am_V (d + 11) Q 140 45 [some (.ref 1), some (.int a), some (.int (q_br I h0 a s)), some (.int (nI s)), some (.int (nI h0))] [] (am_hp N (rt, rs, rd, rl, rx, rt, rt + 4, rt + 5) I' J') = am_V (d + 11) Q 140 25 [some (.ref 1), some (.int a), some (.int (q_br I h0 a (s + 1))), some (.int (nI (s + 1))), am_oi (some (nI 12))] [] (am_hp N (rt, rs, rd, rl, rx, rt, rt + 4, rt + 5) I' J') := by
        intro s hs
        have lp := am_up (P := fun k => am_V (d + 11) Q 140 45 [some (.ref 1), some (.int a), some (.int (am_or (fun h => decide (q_at I h0 s h = a)) (fun _ => am_pw s) h0 (q_br I h0 a s) k)), some (.int (nI s)), some (.int (nI (h0 + k)))] [] (am_hp N (rt, rs, rd, rl, rx, rt, rt + 4, rt + 5) I' J')) (R := am_V (d + 11) Q 140 25 [some (.ref 1), some (.int a), some (.int (q_br I h0 a (s + 1))), some (.int (nI (s + 1))), am_oi (some (nI 12))] [] (am_hp N (rt, rs, rd, rl, rx, rt, rt + 4, rt + 5) I' J')) (12 - h0)
          (by
            try dsimp only
            rw [e_S_brought_45, show h0 + (12 - h0) = 12 by omega]
            try simp (config := {maxSteps := 1000000}) (disch := omega) only [nI_add, nI_1, am_mulN, nI_clamp, am_gI, am_ifd, am_ifn, am_asIe, am_asLe, nI_leI, nI_ltI, nI_eq, am_neg1, am_neg1b, Nat.le_refl, if_true]
            rfl)
          (by
            intro k hk
            try dsimp only
            have gs := g3 k hk s hs
            have qs : q_at I h0 s (h0 + k) = m_Wj I (m_far I (I 128)) false (m_g I 0) h0 (k + 1) 5 s := by unfold q_at; rw [show h0 + k - h0 + 1 = k + 1 by omega]
            rw [e_S_brought_45]
            try simp (config := {maxSteps := 1000000}) (disch := omega) only [nI_add, nI_1, am_mulN, nI_clamp, am_gI, am_ifd, am_ifn, am_asIe, am_asLe, nI_leI, nI_ltI, nI_eq, am_neg1, am_neg1b]
            rw [if_neg (by omega), s_N_stood (by omega) (by omega)]
            try simp (config := {maxSteps := 1000000}) (disch := omega) only [nI_add, nI_1, am_mulN, nI_clamp, am_gI, am_ifd, am_ifn, am_asIe, am_asLe, nI_leI, nI_ltI, nI_eq, am_neg1, am_neg1b]
            rw [e_S_brought_62, gs, ← qs]
            try simp (config := {maxSteps := 1000000}) (disch := omega) only [nI_add, nI_1, am_mulN, nI_clamp, am_gI, am_ifd, am_ifn, am_asIe, am_asLe, nI_leI, nI_ltI, nI_eq, am_neg1, am_neg1b, am_pwe]
            rw [am_or_S]
            by_cases c : q_at I h0 s (h0 + k) = a
            · simp only [c, decide_true, if_true]; rfl
            · simp only [c, decide_false, Bool.false_eq_true, if_false, am_or0]; rfl)
        exact lp 0 (by omega)
      have lo := am_upO (P := fun s o => am_V (d + 11) Q 140 25 [some (.ref 1), some (.int a), some (.int (q_br I h0 a s)), some (.int (nI s)), am_oi o] [] (am_hp N (rt, rs, rd, rl, rx, rt, rt + 4, rt + 5) I' J')) (R := Q (.int (q_br I h0 a (m_nZ I))) (am_hp N (rt, rs, rd, rl, rx, rt, rt + 4, rt + 5) I' J')) (m_nZ I)
        (by
          intro o
          try dsimp only
          rw [e_S_brought_25 ht, eZ']
          try simp (config := {maxSteps := 1000000}) (disch := omega) only [nI_add, nI_1, am_mulN, nI_clamp, am_gI, am_ifd, am_ifn, am_asIe, am_asLe, nI_leI, nI_ltI, nI_eq, am_neg1, am_neg1b, Nat.le_refl, if_true])
        (by
          intro s hs o
          refine ⟨some (nI 12), ?_⟩
          try dsimp only
          rw [e_S_brought_25 ht, eZ', e49']
          try simp (config := {maxSteps := 1000000}) (disch := omega) only [nI_add, nI_1, am_mulN, nI_clamp, am_gI, am_ifd, am_ifn, am_asIe, am_asLe, nI_leI, nI_ltI, nI_eq, am_neg1, am_neg1b]
          rw [if_neg (by omega)]
          exact li s hs)
      rw [e_S_brought_21]
      exact cast (lo 0 (by omega) none).symm gq
    · intro r' I' J' hv' he
      intro Q hQ
      have hH' : I' 95 0 = nI (m_nH I) := by rw [he 95 (by omega)]; exact hH
      have hZ' : I' 95 2 = nI (m_nZ I) := by rw [he 95 (by omega)]; exact hZ
      have e118' : I' 118 0 = nI h0 := by rw [he 118 (by omega)]; exact e118
      rw [e_M_brought, s_M_isHouse, am_uN (by omega), hH', bo_t ca]
      try simp (config := {maxSteps := 1000000}) (disch := omega) only [nI_add, nI_1, am_mulN, nI_clamp, am_gI, am_ifd, am_ifn, am_asIe, am_asLe, nI_leI, nI_ltI, nI_eq, am_neg1, am_neg1b]
      rw [e_M_brought_10]
      try simp (config := {maxSteps := 1000000}) (disch := omega) only [nI_add, nI_1, am_mulN, nI_clamp, am_gI, am_ifd, am_ifn, am_asIe, am_asLe, nI_leI, nI_ltI, nI_eq, am_neg1, am_neg1b]
      rw [if_neg (by omega)]
      refine s_M_tonightI hv' e118' h12 ?_
      intro I2 J2 g1 g2 g3 g4 g5
      rw [g_q_at he, g_nZ he] at g5
      have gq := hQ _ _ g1 g2
      have e118b : I2 118 0 = nI h0 := by rw [g3]; exact e118'
      have hZb : I2 95 2 = nI (m_nZ I) := by rw [g4]; exact hZ'
      have li : ∀ s, s < m_nZ I → am_V (d + 11) Q 266 41 [some (.ref 93), some (.int a), some (.int (q_br I h0 a s)), some (.int (nI s)), some (.int (nI h0))] [] (am_hp N r' I2 J2) = am_V (d + 11) Q 266 23 [some (.ref 93), some (.int a), some (.int (q_br I h0 a (s + 1))), some (.int (nI (s + 1))), am_oi (some (nI 12))] [] (am_hp N r' I2 J2) := by
        intro s hs
        have lp := am_up (P := fun k => am_V (d + 11) Q 266 41 [some (.ref 93), some (.int a), some (.int (am_or (fun h => decide (q_at I h0 s h = a)) (fun _ => am_pw s) h0 (q_br I h0 a s) k)), some (.int (nI s)), some (.int (nI (h0 + k)))] [] (am_hp N r' I2 J2)) (R := am_V (d + 11) Q 266 23 [some (.ref 93), some (.int a), some (.int (q_br I h0 a (s + 1))), some (.int (nI (s + 1))), am_oi (some (nI 12))] [] (am_hp N r' I2 J2)) (12 - h0)
          (by
            try dsimp only
            rw [e_M_brought_41, show h0 + (12 - h0) = 12 by omega]
            try simp (config := {maxSteps := 1000000}) (disch := omega) only [nI_add, nI_1, am_mulN, nI_clamp, am_gI, am_ifd, am_ifn, am_asIe, am_asLe, nI_leI, nI_ltI, nI_eq, am_neg1, am_neg1b, Nat.le_refl, if_true]
            rfl)
          (by
            intro k hk
            try dsimp only
            rw [e_M_brought_41]
            try simp (config := {maxSteps := 1000000}) (disch := omega) only [nI_add, nI_1, am_mulN, nI_clamp, am_gI, am_ifd, am_ifn, am_asIe, am_asLe, nI_leI, nI_ltI, nI_eq, am_neg1, am_neg1b, g5 s (h0 + k) hs (by omega) (by omega), am_pwe]
            rw [if_neg (by omega), am_or_S]
            by_cases c : q_at I h0 s (h0 + k) = a
            · simp only [c, decide_true, if_true]; rfl
            · simp only [c, decide_false, Bool.false_eq_true, if_false]; rfl)
        exact lp 0 (by omega)
      have lo := am_upO (P := fun s o => am_V (d + 11) Q 266 23 [some (.ref 93), some (.int a), some (.int (q_br I h0 a s)), some (.int (nI s)), am_oi o] [] (am_hp N r' I2 J2)) (R := Q (.int (q_br I h0 a (m_nZ I))) (am_hp N r' I2 J2)) (m_nZ I)
        (by
          intro o
          try dsimp only
          rw [e_M_brought_23, hZb]
          try simp (config := {maxSteps := 1000000}) (disch := omega) only [nI_add, nI_1, am_mulN, nI_clamp, am_gI, am_ifd, am_ifn, am_asIe, am_asLe, nI_leI, nI_ltI, nI_eq, am_neg1, am_neg1b, Nat.le_refl, if_true])
        (by
          intro s hs o
          refine ⟨some (nI 12), ?_⟩
          try dsimp only
          rw [e_M_brought_23, hZb, e118b]
          try simp (config := {maxSteps := 1000000}) (disch := omega) only [nI_add, nI_1, am_mulN, nI_clamp, am_gI, am_ifd, am_ifn, am_asIe, am_asLe, nI_leI, nI_ltI, nI_eq, am_neg1, am_neg1b]
          rw [if_neg (by omega)]
          exact li s hs)
      rw [e_M_brought_19]
      exact cast (lo 0 (by omega) none).symm gq
  · refine op2_q (v := .int (-nI 1)) hv (iv_ans hv ?_) ?_
    · intro Q hQ
      rw [e_S_brought, s_S_isHouse ht, eH, bo_f ca]
      try simp (config := {maxSteps := 1000000}) (disch := omega) only [nI_add, nI_1, am_mulN, nI_clamp, am_gI, am_ifd, am_ifn, am_asIe, am_asLe, nI_leI, nI_ltI, nI_eq, am_neg1, am_neg1b]
      rw [e_S_brought_5 ht]
      try simp (config := {maxSteps := 1000000}) (disch := omega) only [nI_add, nI_1, am_mulN, nI_clamp, am_gI, am_ifd, am_ifn, am_asIe, am_asLe, nI_leI, nI_ltI, nI_eq, am_neg1, am_neg1b, if_true]
      exact hQ
    · intro r' I' J' hv' he
      refine iv_mans ?_
      intro Q hQ
      have hH' : I' 95 0 = nI (m_nH I) := by rw [he 95 (by omega)]; exact hH
      rw [e_M_brought, s_M_isHouse, am_uN (by omega), hH', bo_f ca]
      try simp (config := {maxSteps := 1000000}) (disch := omega) only [nI_add, nI_1, am_mulN, nI_clamp, am_gI, am_ifd, am_ifn, am_asIe, am_asLe, nI_leI, nI_ltI, nI_eq, am_neg1, am_neg1b]
      rw [e_M_brought_10]
      try simp (config := {maxSteps := 1000000}) (disch := omega) only [nI_add, nI_1, am_mulN, nI_clamp, am_gI, am_ifd, am_ifn, am_asIe, am_asLe, nI_leI, nI_ltI, nI_eq, am_neg1, am_neg1b, if_true]
      exact hQ
end
