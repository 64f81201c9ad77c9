/-! ===== L3: letter answers alike ===== -/
section
variable {d N : Nat} {Q : Value → am_H → Prop} {r : am_rho} {I : Nat → Nat → Int32} {J : Nat → Nat → Int64}
theorem nI_nem {k : Nat} (h : k < 2 ^ 31) : ¬ nI k = -nI 1 := by
  intro g
  have := congrArg Int32.toInt g
  rw [nI_toInt h, show (-nI 1 : Int32).toInt = -1 by decide +kernel] at this
  omega
theorem s_W_hasArrived {w l : Nat} (hw : w = 49 ∨ w = 55 ∨ w = 82) (hl : l < 32) : am_D (d + 1) 102 [.ref w, .int (nI l)] (am_hp N r I J) Q = Q (.int (nI (bt (I w 4) l).toNat)) (am_hp N r I J) := by
  rw [e_World_hasArrived hw]
  try simp (config := {maxSteps := 1000000}) (disch := omega) only [nI_add, nI_1, am_mulN, nI_clamp, am_gI, am_ifd, am_ifn, am_asIe, am_asLe, nI_leI, nI_ltI, nI_eq, am_neg1, am_neg1b, b_v, b_v0]
  cases h : bt (I w 4) l
  · rfl
  · rfl
theorem op_letter {a b : Int32} (hv : i_inv r I J) : op2 (d + 12) N 120 236 [.int a, .int b] r I J := by
  obtain ⟨rt, rs, rd, rl, rx, nt, nw, nf⟩ := r
  obtain ⟨ht, hok, eH, eZ, eL, h0, h12, e49, e118⟩ := iv_ref hv
  obtain ⟨n1, n2, n3⟩ := hv.2.2.2.1
  have hL := hok.2.2.2.1.1
  have h8 := hok.1.2
  have bZ := hok.2.2.1.2
  have bL := hok.2.2.2.1.2
  by_cases ca : ∃ l, l < m_nL I ∧ a = nI l
  · obtain ⟨l, hl, rfl⟩ := ca
    obtain ⟨e6, e7⟩ := iv_67 (I := I) (show l < 8 by omega)
    have e8 : m_g I 0 8 l = I 126 l := by
      unfold m_g
      rw [if_neg (by omega), if_neg (by omega), if_pos (by omega), show 8 * 0 + l = l by omega]
    have e52 : c_w I 49 3 = I 52 := by funext j; rw [c_wI (by omega)]
    have e51 : c_w I 49 2 = I 51 := by funext j; rw [c_wI (by omega)]
    have hlie := lie_eq n1 n3 bL h8 hl
    have hhol := hold_eq n1 n3 bL bZ hl
    rw [e52, e6, e7] at hlie
    rw [e51, e6, e7] at hhol
    have harr : bt (I 49 4) l = decide (I 124 l = nI 2) := by
      have := n1.2.2.2.2.2.2.2.1 l (by omega)
      rw [c_wI (by omega), e6] at this
      rw [this]
      exact decide_eq_decide.mpr ⟨fun g => g.2, fun g => ⟨hl, g⟩⟩
    have hhad : I 53 l = I 126 l := by
      have := n1.2.2.2.2.2.2.2.2.1 l hl
      rw [c_wI (by omega), e8] at this
      exact this
    have hgo : I (rt + 10) l = I 108 l := (hv.2.1.2.2.2.2.2.2.2.2.2.1 l hl).2.1
    have hX := n3.2.2.1 l hl
    rw [e6, e7] at hX
    have gC : ∀ Q : Value → am_H → Prop, Q (.int (if b = nI 0 then I 108 l else if b = nI 1 then I 125 l else if b = nI 2 then I 124 l else if b = nI 3 then I 126 l else -nI 1)) (am_hp N (rt, rs, rd, rl, rx, nt, nw, nf) I J) → am_D (d + 12) 120 [.ref 1, .int (nI l), .int b] (am_hp N (rt, rs, rd, rl, rx, nt, nw, nf) I J) Q := by
      intro Q hQ
      rw [e_S_letter, s_S_isLetter ht, eL]
      try simp (config := {maxSteps := 1000000}) (disch := omega) only [nI_add, nI_1, am_mulN, nI_clamp, am_gI, am_ifd, am_ifn, am_asIe, am_asLe, nI_leI, nI_ltI, nI_eq, am_neg1, am_neg1b]
      rw [bo_t (by omega), e_S_letter_5 ht, am_ifn, if_neg (show ¬ nI 1 = nI 0 by decide +kernel), am_ifd, am_ifd, am_ifd, am_ifd]
      by_cases b0 : b = nI 0
      · rw [if_pos b0] at hQ ⊢
        try simp (config := {maxSteps := 1000000}) (disch := omega) only [nI_add, nI_1, am_mulN, nI_clamp, am_gI, am_ifd, am_ifn, am_asIe, am_asLe, nI_leI, nI_ltI, nI_eq, am_neg1, am_neg1b, hgo]
        exact hQ
      rw [if_neg b0] at hQ ⊢
      by_cases b1 : b = nI 1
      · rw [if_pos b1] at hQ ⊢
        rw [e_S_placeOf, s_W_hasArrived (by omega) (by omega), harr]
        try simp (config := {maxSteps := 1000000}) (disch := omega) only [nI_add, nI_1, am_mulN, nI_clamp, am_gI, am_ifd, am_ifn, am_asIe, am_asLe, nI_leI, nI_ltI, nI_eq, am_neg1, am_neg1b]
        rw [e_S_placeOf_8 ht, am_ifd]
        rcases hX with ⟨x1, h, hh, x2⟩ | ⟨x1, s, hs, x2⟩ | ⟨x1, x2⟩
        · have ne : ¬ (I 124 l = nI 2) := by rw [x1]; exact n02
          have ne1 : ¬ (I 124 l = nI 1) := by rw [x1]; exact n01
          rw [if_neg ne1] at hhol
          rw [if_pos x1] at hlie
          rw [bo_f ne, if_pos rfl, s_W_holder (by omega) (by omega), hhol]
          try simp (config := {maxSteps := 1000000}) (disch := omega) only [nI_add, nI_1, am_mulN, nI_clamp, am_gI, am_ifd, am_ifn, am_asIe, am_asLe, nI_leI, nI_ltI, nI_eq, am_neg1, am_neg1b]
          rw [e_S_placeOf_29, am_ifd, if_pos rfl, s_W_lyingIn (by omega) (by omega), hlie]
          try simp (config := {maxSteps := 1000000}) (disch := omega) only [nI_add, nI_1, am_mulN, nI_clamp, am_gI, am_ifd, am_ifn, am_asIe, am_asLe, nI_leI, nI_ltI, nI_eq, am_neg1, am_neg1b]
          rw [e_S_placeOf_47]
          try simp (config := {maxSteps := 1000000}) (disch := omega) only [nI_add, nI_1, am_mulN, nI_clamp, am_gI, am_ifd, am_ifn, am_asIe, am_asLe, nI_leI, nI_ltI, nI_eq, am_neg1, am_neg1b]
          rw [e_S_letter_55]
          exact hQ
        · have ne : ¬ (I 124 l = nI 2) := by rw [x1]; exact n12
          rw [if_pos x1] at hhol
          rw [bo_f ne, if_pos rfl, s_W_holder (by omega) (by omega), hhol, x2]
          rw [x2] at hQ
          have nz : ¬ nI s = -nI 1 := nI_nem (by omega)
          try simp (config := {maxSteps := 1000000}) (disch := omega) only [nI_add, nI_1, am_mulN, nI_clamp, am_gI, am_ifd, am_ifn, am_asIe, am_asLe, nI_leI, nI_ltI, nI_eq, am_neg1, am_neg1b]
          rw [e_S_placeOf_29, am_ifd, if_neg nz, e_S_placeOf_47]
          try simp (config := {maxSteps := 1000000}) (disch := omega) only [nI_add, nI_1, am_mulN, nI_clamp, am_gI, am_ifd, am_ifn, am_asIe, am_asLe, nI_leI, nI_ltI, nI_eq, am_neg1, am_neg1b]
          rw [e_S_letter_55]
          exact hQ
        · rw [bo_t x1, if_neg (show ¬ nI 1 = nI 0 by decide +kernel)]
          rw [x2] at hQ
          try simp (config := {maxSteps := 1000000}) (disch := omega) only [nI_add, nI_1, am_mulN, nI_clamp, am_gI, am_ifd, am_ifn, am_asIe, am_asLe, nI_leI, nI_ltI, nI_eq, am_neg1, am_neg1b, hgo]
          rw [e_S_letter_55]
          exact hQ
      rw [if_neg b1] at hQ ⊢
      by_cases b2 : b = nI 2
      · rw [if_pos b2] at hQ ⊢
        rw [s_W_hasArrived (by omega) (by omega), harr]
        try simp (config := {maxSteps := 1000000}) (disch := omega) only [nI_add, nI_1, am_mulN, nI_clamp, am_gI, am_ifd, am_ifn, am_asIe, am_asLe, nI_leI, nI_ltI, nI_eq, am_neg1, am_neg1b]
        rw [e_S_letter_64, am_ifd]
        rcases hX with ⟨x1, h, hh, x2⟩ | ⟨x1, s, hs, x2⟩ | ⟨x1, x2⟩
        · have ne : ¬ (I 124 l = nI 2) := by rw [x1]; exact n02
          have ne1 : ¬ (I 124 l = nI 1) := by rw [x1]; exact n01
          rw [if_neg ne1] at hhol
          rw [bo_f ne, if_pos rfl, s_W_holder (by omega) (by omega), hhol]
          try simp (config := {maxSteps := 1000000}) (disch := omega) only [nI_add, nI_1, am_mulN, nI_clamp, am_gI, am_ifd, am_ifn, am_asIe, am_asLe, nI_leI, nI_ltI, nI_eq, am_neg1, am_neg1b]
          rw [e_S_letter_79, am_ifd, if_pos rfl]
          rw [x1] at hQ
          exact hQ
        · have ne : ¬ (I 124 l = nI 2) := by rw [x1]; exact n12
          rw [if_pos x1] at hhol
          have nz : ¬ nI s = -nI 1 := nI_nem (by omega)
          rw [bo_f ne, if_pos rfl, s_W_holder (by omega) (by omega), hhol, x2]
          try simp (config := {maxSteps := 1000000}) (disch := omega) only [nI_add, nI_1, am_mulN, nI_clamp, am_gI, am_ifd, am_ifn, am_asIe, am_asLe, nI_leI, nI_ltI, nI_eq, am_neg1, am_neg1b]
          rw [e_S_letter_79, am_ifd, if_neg nz]
          rw [x1] at hQ
          exact hQ
        · rw [bo_t x1, if_neg (show ¬ nI 1 = nI 0 by decide +kernel)]
          rw [x1] at hQ
          exact hQ
      rw [if_neg b2] at hQ ⊢
      by_cases b3 : b = nI 3
      · rw [if_pos b3] at hQ ⊢
        try simp (config := {maxSteps := 1000000}) (disch := omega) only [nI_add, nI_1, am_mulN, nI_clamp, am_gI, am_ifd, am_ifn, am_asIe, am_asLe, nI_leI, nI_ltI, nI_eq, am_neg1, am_neg1b, hhad]
        exact hQ
      rw [if_neg b3] at hQ ⊢
      exact hQ
    refine op2_q (v := .int (if b = nI 0 then I 108 l else if b = nI 1 then I 125 l else if b = nI 2 then I 124 l else if b = nI 3 then I 126 l else -nI 1)) hv (iv_ans hv gC) ?_
    intro r' I' J' hv' he
    refine iv_mans ?_
    intro Q hQ
    rw [e_M_letter, s_M_isLetter, am_uN (by omega), he 95 (by omega), hL]
    try simp (config := {maxSteps := 1000000}) (disch := omega) only [nI_add, nI_1, am_mulN, nI_clamp, am_gI, am_ifd, am_ifn, am_asIe, am_asLe, nI_leI, nI_ltI, nI_eq, am_neg1, am_neg1b]
    rw [bo_t (by omega), e_M_letter_10, am_ifn, if_neg (show ¬ nI 1 = nI 0 by decide +kernel), am_ifn, am_ifn, am_ifn, am_ifn]
    by_cases b0 : b = nI 0
    · rw [if_pos b0] at hQ ⊢
      try simp (config := {maxSteps := 1000000}) (disch := omega) only [nI_add, nI_1, am_mulN, nI_clamp, am_gI, am_ifd, am_ifn, am_asIe, am_asLe, nI_leI, nI_ltI, nI_eq, am_neg1, am_neg1b]
      rw [am_uN (by omega), he 108 (by omega)]
      exact hQ
    rw [if_neg b0] at hQ ⊢
    by_cases b1 : b = nI 1
    · rw [if_pos b1] at hQ ⊢
      try simp (config := {maxSteps := 1000000}) (disch := omega) only [nI_add, nI_1, am_mulN, nI_clamp, am_gI, am_ifd, am_ifn, am_asIe, am_asLe, nI_leI, nI_ltI, nI_eq, am_neg1, am_neg1b]
      rw [am_uN (by omega), he 125 (by omega)]
      exact hQ
    rw [if_neg b1] at hQ ⊢
    by_cases b2 : b = nI 2
    · rw [if_pos b2] at hQ ⊢
      try simp (config := {maxSteps := 1000000}) (disch := omega) only [nI_add, nI_1, am_mulN, nI_clamp, am_gI, am_ifd, am_ifn, am_asIe, am_asLe, nI_leI, nI_ltI, nI_eq, am_neg1, am_neg1b]
      rw [am_uN (by omega), he 124 (by omega)]
      exact hQ
    rw [if_neg b2] at hQ ⊢
    by_cases b3 : b = nI 3
    · rw [if_pos b3] at hQ ⊢
      try simp (config := {maxSteps := 1000000}) (disch := omega) only [nI_add, nI_1, am_mulN, nI_clamp, am_gI, am_ifd, am_ifn, am_asIe, am_asLe, nI_leI, nI_ltI, nI_eq, am_neg1, am_neg1b]
      rw [am_uN (by omega), he 126 (by omega)]
      exact hQ
    rw [if_neg b3] at hQ ⊢
    exact hQ
  · have na : ¬ (nI 0 ≤ a ∧ a < nI (m_nL I)) := fun g => ca ((am_irng (k := 0) rfl (by omega)).mp g)
    refine op2_q (v := .int (-nI 1)) hv (iv_ans hv ?_) ?_
    · intro Q hQ
      rw [e_S_letter, s_S_isLetter ht, eL, bo_f na]
      try simp (config := {maxSteps := 1000000}) (disch := omega) only [nI_add, nI_1, am_mulN, nI_clamp, am_gI, am_ifd, am_ifn, am_asIe, am_asLe, nI_leI, nI_ltI, nI_eq, am_neg1, am_neg1b]
      rw [e_S_letter_5 ht, am_ifn, if_pos rfl]
      exact hQ
    · intro r' I' J' hv' he
      refine iv_mans ?_
      intro Q hQ
      rw [e_M_letter, s_M_isLetter, am_uN (by omega), he 95 (by omega), hL, bo_f na]
      try simp (config := {maxSteps := 1000000}) (disch := omega) only [nI_add, nI_1, am_mulN, nI_clamp, am_gI, am_ifd, am_ifn, am_asIe, am_asLe, nI_leI, nI_ltI, nI_eq, am_neg1, am_neg1b]
      rw [e_M_letter_10, am_ifn, if_pos rfl]
      exact hQ
end
