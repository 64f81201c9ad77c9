/-! ===== L3: meet, brought ===== -/
def am_or (p : Nat → Bool) (g : Nat → Int32) (a : Nat) (x : Int32) : Nat → Int32
  | 0 => x
  | k + 1 => am_or p g a x k ||| (if p (a + k) then g (a + k) else nI 0)
theorem am_or_S {p : Nat → Bool} {g : Nat → Int32} {a : Nat} {x : Int32} {k : Nat} : am_or p g a x (k + 1) = am_or p g a x k ||| (if p (a + k) then g (a + k) else nI 0) := rfl
theorem ref_t {rt rs rd rl rx nt nw nf : Nat} (h : i_ref (rt, rs, rd, rl, rx, nt, nw, nf)) (ht : rt = 3 ∨ rt = 23) : i_ref (rt, rs, rd, rl, rx, rt, rt + 4, rt + 5) := ⟨h.1, h.2.1, h.2.2.1, h.2.2.2.1, ht, by omega, by omega⟩
theorem am_or_c {p p' : Nat → Bool} {g : Nat → Int32} {a : Nat} {x : Int32} : ∀ {n : Nat}, (∀ k, k < n → p (a + k) = p' (a + k)) → am_or p g a x n = am_or p' g a x n
  | 0, _ => rfl
  | n + 1, h => by unfold am_or; rw [am_or_c (n := n) (fun k hk => h k (by omega)), h n (by omega)]
section
variable {d N : Nat} {Q : Value → am_H → Prop} {r : am_rho} {I : Nat → Nat → Int32} {J : Nat → Nat → Int64}
def q_meet (I : Nat → Nat → Int32) (h0 s u : Nat) : Int32 := am_or (fun h => decide (q_at I h0 s h = q_at I h0 u h)) am_pw h0 (nI 0) (12 - h0)
theorem op_meet {a b : Int32} (hv : i_inv r I J) : op2 (d + 12) N 132 251 [.int a, .int b] r I J := by
  obtain ⟨rt, rs, rd, rl, rx, nt, nw, nf⟩ := r
  obtain ⟨ht, hok, eH, eZ, eL, h0, h12, e49, e118⟩ := iv_ref hv
  have hZ5 := hok.2.2.1.2
  have hZ := hok.2.2.1.1
  by_cases ca : ∃ s, s < m_nZ I ∧ a = nI s
  · obtain ⟨s, hs, rfl⟩ := ca
    by_cases cb : ∃ u, u < m_nZ I ∧ b = nI u
    · obtain ⟨u, hu, rfl⟩ := cb
      by_cases ce : s = u
      · refine op2_q (v := .int (-nI 1)) hv (iv_ans hv ?_) ?_
        · intro Q hQ
          rw [e_S_meet, s_S_isSleeper ht, eZ]
          try simp (config := {maxSteps := 1000000}) (disch := omega) only [nI_add, nI_1, am_mulN, nI_clamp, am_gI, am_ifd, am_ifn, am_asIe, am_asLe, nI_leI, nI_ltI, nI_eq, am_neg1, am_neg1b]
          rw [bo_t (by omega), e_S_meet_5, s_S_isSleeper ht, eZ]
          try simp (config := {maxSteps := 1000000}) (disch := omega) only [nI_add, nI_1, am_mulN, nI_clamp, am_gI, am_ifd, am_ifn, am_asIe, am_asLe, nI_leI, nI_ltI, nI_eq, am_neg1, am_neg1b]
          rw [if_neg (by omega), bo_t (by omega), e_S_meet_13 ht]
          try simp (config := {maxSteps := 1000000}) (disch := omega) only [nI_add, nI_1, am_mulN, nI_clamp, am_gI, am_ifd, am_ifn, am_asIe, am_asLe, nI_leI, nI_ltI, nI_eq, am_neg1, am_neg1b]
          rw [if_neg (by omega), if_pos ce]
          exact hQ
        · intro r' I' J' hv' he
          refine iv_mans ?_
          intro Q hQ
          have hZ' : I' 95 2 = nI (m_nZ I) := by rw [he 95 (by omega)]; exact hZ
          rw [e_M_meet, s_M_isSleeper, am_uN (by omega), hZ']
          try simp (config := {maxSteps := 1000000}) (disch := omega) only [nI_add, nI_1, am_mulN, nI_clamp, am_gI, am_ifd, am_ifn, am_asIe, am_asLe, nI_leI, nI_ltI, nI_eq, am_neg1, am_neg1b]
          rw [bo_t (by omega), e_M_meet_10, s_M_isSleeper, am_uN (by omega), hZ']
          try simp (config := {maxSteps := 1000000}) (disch := omega) only [nI_add, nI_1, am_mulN, nI_clamp, am_gI, am_ifd, am_ifn, am_asIe, am_asLe, nI_leI, nI_ltI, nI_eq, am_neg1, am_neg1b]
          rw [if_neg (by omega), bo_t (by omega), e_M_meet_18]
          try simp (config := {maxSteps := 1000000}) (disch := omega) only [nI_add, nI_1, am_mulN, nI_clamp, am_gI, am_ifd, am_ifn, am_asIe, am_asLe, nI_leI, nI_ltI, nI_eq, am_neg1, am_neg1b]
          rw [if_neg (by omega), if_pos ce]
          exact hQ
      · refine op2_q (v := .int (q_meet I h0 s u)) hv ?_ ?_
        · intro Q hQ
          rw [e_S_meet, s_S_isSleeper ht, eZ]
          try simp (config := {maxSteps := 1000000}) (disch := omega) only [nI_add, nI_1, am_mulN, nI_clamp, am_gI, am_ifd, am_ifn, am_asIe, am_asLe, nI_leI, nI_ltI, nI_eq, am_neg1, am_neg1b]
          rw [bo_t (by omega), e_S_meet_5, s_S_isSleeper ht, eZ]
          try simp (config := {maxSteps := 1000000}) (disch := omega) only [nI_add, nI_1, am_mulN, nI_clamp, am_gI, am_ifd, am_ifn, am_asIe, am_asLe, nI_leI, nI_ltI, nI_eq, am_neg1, am_neg1b]
          rw [if_neg (by omega), bo_t (by omega), e_S_meet_13 ht]
          try simp (config := {maxSteps := 1000000}) (disch := omega) only [nI_add, nI_1, am_mulN, nI_clamp, am_gI, am_ifd, am_ifn, am_asIe, am_asLe, nI_leI, nI_ltI, nI_eq, am_neg1, am_neg1b]
          rw [if_neg (by omega), if_neg ce]
          refine s_T_goTonight hv e49 h12 ?_
          intro I' J' g1 g2 g3 g4
          have gq := hQ _ _ _ g1 (ref_t hv.1 ht) rfl g2
          have e49' : I' 49 0 = nI h0 := by rw [g1.2 49 (by omega)]; exact e49
          have lp := am_up (P := fun k => am_V (d + 11) Q 132 45 [some (.ref 1), some (.int (nI s)), some (.int (nI u)), some (.int (am_or (fun h => decide (q_at I h0 s h = q_at I h0 u h)) am_pw h0 (nI 0) k)), some (.int (nI (h0 + k)))] [] (am_hp N (rt, rs, rd, rl, rx, rt, rt + 4, rt + 5) I' J')) (R := Q (.int (q_meet I h0 s u)) (am_hp N (rt, rs, rd, rl, rx, rt, rt + 4, rt + 5) I' J')) (12 - h0)
            (by
              try dsimp only
              rw [e_S_meet_45]
              try simp (config := {maxSteps := 1000000}) (disch := omega) only [nI_add, nI_1, am_mulN, nI_clamp, am_gI, am_ifd, am_ifn, am_asIe, am_asLe, nI_leI, nI_ltI, nI_eq, am_neg1, am_neg1b]
              rw [if_pos (by omega)]
              rfl)
            (by
              intro k hk
              try dsimp only
              have gs := g3 k hk s hs
              have gu := g3 k hk u hu
              have qs : q_at I h0 s (h0 + k) = m_Wj I (m_far I (I 128)) false (m_g I 0) h0 (k + 1) 5 s := by unfold q_at; rw [show h0 + k - h0 + 1 = k + 1 by omega]
              have qu : q_at I h0 u (h0 + k) = m_Wj I (m_far I (I 128)) false (m_g I 0) h0 (k + 1) 5 u := by unfold q_at; rw [show h0 + k - h0 + 1 = k + 1 by omega]
              rw [e_S_meet_45]
              try simp (config := {maxSteps := 1000000}) (disch := omega) only [nI_add, nI_1, am_mulN, nI_clamp, am_gI, am_ifd, am_ifn, am_asIe, am_asLe, nI_leI, nI_ltI, nI_eq, am_neg1, am_neg1b]
              rw [if_neg (by omega), s_N_stood (by omega) (by omega)]
              try simp (config := {maxSteps := 1000000}) (disch := omega) only [nI_add, nI_1, am_mulN, nI_clamp, am_gI, am_ifd, am_ifn, am_asIe, am_asLe, nI_leI, nI_ltI, nI_eq, am_neg1, am_neg1b]
              rw [e_S_meet_62, s_N_stood (by omega) (by omega)]
              try simp (config := {maxSteps := 1000000}) (disch := omega) only [nI_add, nI_1, am_mulN, nI_clamp, am_gI, am_ifd, am_ifn, am_asIe, am_asLe, nI_leI, nI_ltI, nI_eq, am_neg1, am_neg1b]
              rw [e_S_meet_72, gs, gu, ← qs, ← qu]
              try simp (config := {maxSteps := 1000000}) (disch := omega) only [nI_add, nI_1, am_mulN, nI_clamp, am_gI, am_ifd, am_ifn, am_asIe, am_asLe, nI_leI, nI_ltI, nI_eq, am_neg1, am_neg1b, am_pwe]
              rw [am_or_S]
              by_cases c : q_at I h0 s (h0 + k) = q_at I h0 u (h0 + k)
              · simp only [c, decide_true, if_true]; rfl
              · simp only [c, decide_false, Bool.false_eq_true, if_false, am_or0]; rfl)
          rw [e_S_meet_34, e49']
          exact cast (lp 0 (by omega)).symm gq
        · intro r' I' J' hv' he
          intro Q hQ
          have hZ' : I' 95 2 = nI (m_nZ I) := by rw [he 95 (by omega)]; exact hZ
          have e118' : I' 118 0 = nI h0 := by rw [he 118 (by omega)]; exact e118
          rw [e_M_meet, s_M_isSleeper, am_uN (by omega), hZ']
          try simp (config := {maxSteps := 1000000}) (disch := omega) only [nI_add, nI_1, am_mulN, nI_clamp, am_gI, am_ifd, am_ifn, am_asIe, am_asLe, nI_leI, nI_ltI, nI_eq, am_neg1, am_neg1b]
          rw [bo_t (by omega), e_M_meet_10, s_M_isSleeper, am_uN (by omega), hZ']
          try simp (config := {maxSteps := 1000000}) (disch := omega) only [nI_add, nI_1, am_mulN, nI_clamp, am_gI, am_ifd, am_ifn, am_asIe, am_asLe, nI_leI, nI_ltI, nI_eq, am_neg1, am_neg1b]
          rw [if_neg (by omega), bo_t (by omega), e_M_meet_18]
          try simp (config := {maxSteps := 1000000}) (disch := omega) only [nI_add, nI_1, am_mulN, nI_clamp, am_gI, am_ifd, am_ifn, am_asIe, am_asLe, nI_leI, nI_ltI, nI_eq, am_neg1, am_neg1b]
          rw [if_neg (by omega), if_neg ce]
          refine s_M_tonightI hv' e118' h12 ?_
          intro I2 J2 g1 g2 g3 g4 g5
          rw [g_q_at he, g_nZ he] at g5
          have gq := hQ _ _ g1 g2
          have e118b : I2 118 0 = nI h0 := by rw [g3]; exact e118'
          have lp := am_up (P := fun k => am_V (d + 11) Q 251 42 [some (.ref 93), some (.int (nI s)), some (.int (nI u)), some (.int (am_or (fun h => decide (q_at I h0 s h = q_at I h0 u h)) am_pw h0 (nI 0) k)), some (.int (nI (h0 + k)))] [] (am_hp N r' I2 J2)) (R := Q (.int (q_meet I h0 s u)) (am_hp N r' I2 J2)) (12 - h0)
            (by
              try dsimp only
              rw [e_M_meet_42]
              try simp (config := {maxSteps := 1000000}) (disch := omega) only [nI_add, nI_1, am_mulN, nI_clamp, am_gI, am_ifd, am_ifn, am_asIe, am_asLe, nI_leI, nI_ltI, nI_eq, am_neg1, am_neg1b]
              rw [if_pos (by omega)]
              rfl)
            (by
              intro k hk
              try dsimp only
              rw [e_M_meet_42]
              try simp (config := {maxSteps := 1000000}) (disch := omega) only [nI_add, nI_1, am_mulN, nI_clamp, am_gI, am_ifd, am_ifn, am_asIe, am_asLe, nI_leI, nI_ltI, nI_eq, am_neg1, am_neg1b, g5 s (h0 + k) hs (by omega) (by omega), g5 u (h0 + k) hu (by omega) (by omega), am_pwe]
              rw [if_neg (by omega)]
              rw [am_or_S]
              by_cases c : q_at I h0 s (h0 + k) = q_at I h0 u (h0 + k)
              · simp only [c, decide_true, if_true]; rfl
              · simp only [c, decide_false, Bool.false_eq_true, if_false]; rfl)
          rw [e_M_meet_32, e118b]
          exact cast (lp 0 (by omega)).symm gq
    · have nb : ¬ (nI 0 ≤ b ∧ b < nI (m_nZ I)) := fun g => cb ((am_irng (k := 0) rfl (by omega)).mp g)
      refine op2_q (v := .int (-nI 1)) hv (iv_ans hv ?_) ?_
      · intro Q hQ
        rw [e_S_meet, s_S_isSleeper ht, eZ]
        try simp (config := {maxSteps := 1000000}) (disch := omega) only [nI_add, nI_1, am_mulN, nI_clamp, am_gI, am_ifd, am_ifn, am_asIe, am_asLe, nI_leI, nI_ltI, nI_eq, am_neg1, am_neg1b]
        rw [bo_t (by omega), e_S_meet_5, s_S_isSleeper ht, eZ, bo_f nb]
        try simp (config := {maxSteps := 1000000}) (disch := omega) only [nI_add, nI_1, am_mulN, nI_clamp, am_gI, am_ifd, am_ifn, am_asIe, am_asLe, nI_leI, nI_ltI, nI_eq, am_neg1, am_neg1b]
        rw [if_neg (by omega), e_S_meet_13 ht]
        try simp (config := {maxSteps := 1000000}) (disch := omega) only [nI_add, nI_1, am_mulN, nI_clamp, am_gI, am_ifd, am_ifn, am_asIe, am_asLe, nI_leI, nI_ltI, nI_eq, am_neg1, am_neg1b, if_true]
        exact hQ
      · intro r' I' J' hv' he
        refine iv_mans ?_
        intro Q hQ
        have hZ' : I' 95 2 = nI (m_nZ I) := by rw [he 95 (by omega)]; exact hZ
        rw [e_M_meet, s_M_isSleeper, am_uN (by omega), hZ']
        try simp (config := {maxSteps := 1000000}) (disch := omega) only [nI_add, nI_1, am_mulN, nI_clamp, am_gI, am_ifd, am_ifn, am_asIe, am_asLe, nI_leI, nI_ltI, nI_eq, am_neg1, am_neg1b]
        rw [bo_t (by omega), e_M_meet_10, s_M_isSleeper, am_uN (by omega), hZ', bo_f nb]
        try simp (config := {maxSteps := 1000000}) (disch := omega) only [nI_add, nI_1, am_mulN, nI_clamp, am_gI, am_ifd, am_ifn, am_asIe, am_asLe, nI_leI, nI_ltI, nI_eq, am_neg1, am_neg1b]
        rw [if_neg (by omega), e_M_meet_18]
        try simp (config := {maxSteps := 1000000}) (disch := omega) only [nI_add, nI_1, am_mulN, nI_clamp, am_gI, am_ifd, am_ifn, am_asIe, am_asLe, nI_leI, nI_ltI, nI_eq, am_neg1, am_neg1b, if_true]
        exact hQ
  · have na : ¬ (nI 0 ≤ a ∧ a < nI (m_nZ I)) := fun g => ca ((am_irng (k := 0) rfl (by omega)).mp g)
    refine op2_q (v := .int (-nI 1)) hv (iv_ans hv ?_) ?_
    · intro Q hQ
      rw [e_S_meet, s_S_isSleeper ht, eZ, bo_f na]
      try simp (config := {maxSteps := 1000000}) (disch := omega) only [nI_add, nI_1, am_mulN, nI_clamp, am_gI, am_ifd, am_ifn, am_asIe, am_asLe, nI_leI, nI_ltI, nI_eq, am_neg1, am_neg1b]
      rw [e_S_meet_5]
      try simp (config := {maxSteps := 1000000}) (disch := omega) only [nI_add, nI_1, am_mulN, nI_clamp, am_gI, am_ifd, am_ifn, am_asIe, am_asLe, nI_leI, nI_ltI, nI_eq, am_neg1, am_neg1b, if_true]
      exact hQ
    · intro r' I' J' hv' he
      refine iv_mans ?_
      intro Q hQ
      have hZ' : I' 95 2 = nI (m_nZ I) := by rw [he 95 (by omega)]; exact hZ
      rw [e_M_meet, s_M_isSleeper, am_uN (by omega), hZ', bo_f na]
      try simp (config := {maxSteps := 1000000}) (disch := omega) only [nI_add, nI_1, am_mulN, nI_clamp, am_gI, am_ifd, am_ifn, am_asIe, am_asLe, nI_leI, nI_ltI, nI_eq, am_neg1, am_neg1b]
      rw [e_M_meet_10]
      try simp (config := {maxSteps := 1000000}) (disch := omega) only [nI_add, nI_1, am_mulN, nI_clamp, am_gI, am_ifd, am_ifn, am_asIe, am_asLe, nI_leI, nI_ltI, nI_eq, am_neg1, am_neg1b, if_true]
      exact hQ
end
