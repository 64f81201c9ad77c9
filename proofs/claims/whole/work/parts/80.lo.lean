/-! ===== L3: lay answers alike ===== -/
section
variable {d N : Nat} {Q : Value → am_H → Prop} {r : am_rho} {I : Nat → Nat → Int32} {J : Nat → Nat → Int64}
theorem iv_67 {l : Nat} (hl : l < 8) : m_g I 0 6 l = I 124 l ∧ m_g I 0 7 l = I 125 l := by
  unfold m_g
  rw [if_neg (by omega), if_neg (by omega), if_pos (by omega), if_neg (by omega), if_neg (by omega), if_pos (by omega), show 8 * 0 + l = l by omega]
  exact ⟨rfl, rfl⟩
theorem op_lay {a b : Int32} (hv : i_inv r I J) : op2 (d + 12) N 124 241 [.int a, .int b] r I J := by
  have hv0 := hv
  obtain ⟨rt, rs, rd, rl, rx, nt, nw, nf⟩ := r
  obtain ⟨ht, hok, eH, eZ, eL, h0, h12, e49, e118⟩ := iv_ref hv
  obtain ⟨n, hn, u1, u2, u3⟩ := hv.2.2.2.2.2.1
  obtain ⟨n1, n2, n3⟩ := hv.2.2.2.1
  have hZ := hok.2.2.1.1
  have hL := hok.2.2.2.1.1
  have h8 := hok.1.2
  have bZ := hok.2.2.1.2
  have bL := hok.2.2.2.1.2
  by_cases ca : ∃ l, l < m_nL I ∧ a = nI l
  · obtain ⟨l, hl, rfl⟩ := ca
    have hlie := lie_eq n1 n3 bL h8 hl
    have hlie' : q_row (I 52) 8 l = if m_g I 0 6 l = nI 0 then m_g I 0 7 l else -nI 1 := by
      rw [← hlie]
      have : c_w I 49 3 = I 52 := by funext j; rw [c_wI (by omega)]
      rw [this]
    obtain ⟨e6, e7⟩ := iv_67 (I := I) (show l < 8 by omega)
    by_cases cb : ∃ s, s < m_nZ I ∧ b = nI s
    · obtain ⟨s, hs, rfl⟩ := cb
      obtain ⟨bd, hbd, ebd⟩ := hok.2.2.2.2.2.1 s hs
      have ebt : I (rt + 6) s = nI bd := by rw [(hv.2.1.2.2.2.2.2.2.2.2.1 s hs).1]; exact ebd
      by_cases c6 : m_g I 0 6 l = nI 0
      · rw [if_pos c6] at hlie'
        obtain ⟨h, hh, e7h⟩ : ∃ h, h < m_nH I ∧ m_g I 0 7 l = nI h := by
          rcases n3.2.2.1 l hl with ⟨_, g⟩ | ⟨g, _⟩ | ⟨g, _⟩
          · exact g
          · rw [c6] at g; exact absurd g n01
          · rw [c6] at g; exact absurd g n02
        rw [e7h] at hlie'
        by_cases ce : h = bd
        · refine op2_q (v := .int (nI 0)) hv (iv_ans hv ?_) ?_
          · intro Q hQ
            rw [e_S_lay, s_S_isLetter ht, eL]
            try simp (config := {maxSteps := 1000000}) (disch := omega) only [nI_add, nI_1, am_mulN, nI_clamp, am_gI, am_ifd, am_ifn, am_asIe, am_asLe, nI_leI, nI_ltI, nI_eq, am_neg1, am_neg1b]
            rw [bo_t (by omega), e_S_lay_5, s_S_isSleeper ht, eZ]
            try simp (config := {maxSteps := 1000000}) (disch := omega) only [nI_add, nI_1, am_mulN, nI_clamp, am_gI, am_ifd, am_ifn, am_asIe, am_asLe, nI_leI, nI_ltI, nI_eq, am_neg1, am_neg1b]
            rw [if_neg (by omega), bo_t (by omega), e_S_lay_13]
            try simp (config := {maxSteps := 1000000}) (disch := omega) only [nI_add, nI_1, am_mulN, nI_clamp, am_gI, am_ifd, am_ifn, am_asIe, am_asLe, nI_leI, nI_ltI, nI_eq, am_neg1, am_neg1b]
            rw [if_neg (by omega), s_W_lyingIn (by omega) (by omega), hlie']
            try simp (config := {maxSteps := 1000000}) (disch := omega) only [nI_add, nI_1, am_mulN, nI_clamp, am_gI, am_ifd, am_ifn, am_asIe, am_asLe, nI_leI, nI_ltI, nI_eq, am_neg1, am_neg1b]
            rw [e_S_lay_26 ht]
            try simp (config := {maxSteps := 1000000}) (disch := omega) only [nI_add, nI_1, am_mulN, nI_clamp, am_gI, am_ifd, am_ifn, am_asIe, am_asLe, nI_leI, nI_ltI, nI_eq, am_neg1, am_neg1b, ebt, if_false]
            rw [if_pos ce]
            exact hQ
          · intro r' I' J' hv' he
            refine iv_mans ?_
            intro Q hQ
            rw [e_M_lay, s_M_isLetter, am_uN (by omega), he 95 (by omega), hL]
            try simp (config := {maxSteps := 1000000}) (disch := omega) only [nI_add, nI_1, am_mulN, nI_clamp, am_gI, am_ifd, am_ifn, am_asIe, am_asLe, nI_leI, nI_ltI, nI_eq, am_neg1, am_neg1b]
            rw [bo_t (by omega), e_M_lay_10, s_M_isSleeper, am_uN (by omega), he 95 (by omega), hZ]
            try simp (config := {maxSteps := 1000000}) (disch := omega) only [nI_add, nI_1, am_mulN, nI_clamp, am_gI, am_ifd, am_ifn, am_asIe, am_asLe, nI_leI, nI_ltI, nI_eq, am_neg1, am_neg1b]
            rw [if_neg (by omega), bo_t (by omega), e_M_lay_18]
            try simp (config := {maxSteps := 1000000}) (disch := omega) only [nI_add, nI_1, am_mulN, nI_clamp, am_gI, am_ifd, am_ifn, am_asIe, am_asLe, nI_leI, nI_ltI, nI_eq, am_neg1, am_neg1b]
            rw [if_neg (by omega), am_uN (by omega), am_uN (by omega), am_uN (by omega), he 124 (by omega), he 125 (by omega), he 104 (by omega), ← e6, c6, ← e7, e7h, ebd, if_pos rfl, if_pos (by rw [ce])]
            exact hQ
        · intro Q hQ
          rw [e_S_lay, s_S_isLetter ht, eL]
          try simp (config := {maxSteps := 1000000}) (disch := omega) only [nI_add, nI_1, am_mulN, nI_clamp, am_gI, am_ifd, am_ifn, am_asIe, am_asLe, nI_leI, nI_ltI, nI_eq, am_neg1, am_neg1b]
          rw [bo_t (by omega), e_S_lay_5, s_S_isSleeper ht, eZ]
          try simp (config := {maxSteps := 1000000}) (disch := omega) only [nI_add, nI_1, am_mulN, nI_clamp, am_gI, am_ifd, am_ifn, am_asIe, am_asLe, nI_leI, nI_ltI, nI_eq, am_neg1, am_neg1b]
          rw [if_neg (by omega), bo_t (by omega), e_S_lay_13]
          try simp (config := {maxSteps := 1000000}) (disch := omega) only [nI_add, nI_1, am_mulN, nI_clamp, am_gI, am_ifd, am_ifn, am_asIe, am_asLe, nI_leI, nI_ltI, nI_eq, am_neg1, am_neg1b]
          rw [if_neg (by omega), s_W_lyingIn (by omega) (by omega), hlie']
          try simp (config := {maxSteps := 1000000}) (disch := omega) only [nI_add, nI_1, am_mulN, nI_clamp, am_gI, am_ifd, am_ifn, am_asIe, am_asLe, nI_leI, nI_ltI, nI_eq, am_neg1, am_neg1b]
          rw [e_S_lay_26 ht]
          try simp (config := {maxSteps := 1000000}) (disch := omega) only [nI_add, nI_1, am_mulN, nI_clamp, am_gI, am_ifd, am_ifn, am_asIe, am_asLe, nI_leI, nI_ltI, nI_eq, am_neg1, am_neg1b, ebt, if_false]
          rw [if_neg ce]
          refine s_Ch_add u1 hn ?_
          intro I1 s1 hs1 ⟨k1, k2, k3, k4, k5, k6⟩
          have ecw : c_w I1 49 = c_w I 49 := by
            funext i j; unfold c_w
            by_cases hi : i ≤ 5
            · rw [if_pos hi, if_pos hi, k1 _ (by omega)]
            · rw [if_neg hi, if_neg hi]
          have ehp : ∀ (Q : Value → am_H → Prop), am_D (d + 11) 107 [.ref 49, .int (nI l), .int (nI h), .int (nI bd)] (am_hp N (rt, rs, rd, rl, rx, nt, nw, nf) I1 J) Q = Q .null (am_hp N (rt, rs, rd, rl, rx, nt, nw, nf) (c_C I1 49 (c_shift (c_w I 49) l h bd) (I1 63) (I1 68)) J) := by
            intro Q
            have := s_W_shift (d := d + 10) (N := N) (Q := Q) (r := (rt, rs, rd, rl, rx, nt, nw, nf)) (I := I1) (C := c_w I 49) (J := J) (w := 49) (l := l) (h := h) (h' := bd) (K := I1 63) (P := I1 68) (by omega) (by omega) (by omega)
            rw [← ecw, c_wid] at this
            rw [ecw] at this
            exact this
          rw [e_S_lay_61, ehp, e_S_lay_72]
          generalize hI2 : c_C I1 49 (c_shift (c_w I 49) l h bd) (I1 63) (I1 68) = I2
          have r2 : ∀ a, (a < 49 ∨ 54 < a) → I2 a = I1 a := by
            intro a ha
            funext j
            rw [← hI2]
            by_cases c : a = 63
            · subst c; rfl
            · by_cases c2 : a = 68
              · subst c2; rfl
              · exact c_Co (by omega)
          have r49 : ∀ i j, i ≤ 5 → I2 (49 + i) j = c_shift (c_w I 49) l h bd i j := by
            intro i j hi
            rw [← hI2, c_Ci (by omega) hi]
          rw [e_M_lay, s_M_isLetter, am_uN (by omega), r2 95 (by omega), k1 95 (by omega), hL]
          try simp (config := {maxSteps := 1000000}) (disch := omega) only [nI_add, nI_1, am_mulN, nI_clamp, am_gI, am_ifd, am_ifn, am_asIe, am_asLe, nI_leI, nI_ltI, nI_eq, am_neg1, am_neg1b]
          rw [bo_t (by omega), e_M_lay_10, s_M_isSleeper, am_uN (by omega), r2 95 (by omega), k1 95 (by omega), hZ]
          try simp (config := {maxSteps := 1000000}) (disch := omega) only [nI_add, nI_1, am_mulN, nI_clamp, am_gI, am_ifd, am_ifn, am_asIe, am_asLe, nI_leI, nI_ltI, nI_eq, am_neg1, am_neg1b]
          rw [if_neg (by omega), bo_t (by omega), e_M_lay_18]
          try simp (config := {maxSteps := 1000000}) (disch := omega) only [nI_add, nI_1, am_mulN, nI_clamp, am_gI, am_ifd, am_ifn, am_asIe, am_asLe, nI_leI, nI_ltI, nI_eq, am_neg1, am_neg1b]
          rw [if_neg (by omega), am_uN (by omega), am_uN (by omega), am_uN (by omega), r2 124 (by omega), r2 125 (by omega), r2 104 (by omega), k1 124 (by omega), k1 125 (by omega), k1 104 (by omega), ← e6, c6, ← e7, e7h, ebd, if_pos rfl, if_neg (by rw [nI_eq (by omega) (by omega)]; exact ce)]
          have h51 : am_u I2 93 0 (nI 0) 93 51 = nI n := by rw [am_uN (by omega), r2 93 (by omega), k1 93 (by omega)]; exact u2
          refine s_M_keepNow h51 hn ?_
          intro I3 s' hs' ⟨m1, m2, m3, m4, m5, m6⟩
          obtain rfl : s1 = s' := by rw [hs1, hs']
          have gI : ∀ m, m_g (am_u I2 93 0 (nI 0)) m = m_g I m := by
            intro m
            rw [th0_g]
            exact g_row (fun a h1 h2 => by rw [r2 a (by omega), k1 a (by omega)])
          have row3 : ∀ a, (a < 77 ∨ 80 < a) → (a < 49 ∨ 54 < a) → a ≠ 93 → (a < 118 ∨ 127 < a) → I3 a = I a := by
            intro a h1 h2 h3 h4
            rw [m1 a h3 h4, am_uRow (by omega), r2 a h2, k1 a h1]
          rw [e_M_lay_51, row3 104 (by omega) (by omega) (by omega) (by omega)]
          try simp (config := {maxSteps := 1000000}) (disch := omega) only [nI_add, nI_1, am_mulN, nI_clamp, am_gI, am_ifd, am_ifn, am_asIe, am_asLe, nI_leI, nI_ltI, nI_eq, am_neg1, am_neg1b, ebd]
          have gq := m_g_u (I := I3) (f := 7) (k := l) (x := nI bd) (by omega)
          rw [m4 0 (by omega), gI 0] at gq
          have g0 : wq (m_g (am_u I3 125 l (nI bd)) 0) (am_u (m_g I 0) 7 l (nI bd)) := gq
          have go_ : ∀ m, m ≠ 0 → m_g (am_u I3 125 l (nI bd)) m = m_g I3 m := fun m hm => m_g_uo (f := 7) hm (by omega)
          have hte : te I (am_u I3 125 l (nI bd)) := fun a h1 h2 => by rw [am_uRow (by omega), row3 a (by omega) (by omega) (by omega) (by omega)]
          refine hQ _ _ _ _ (inv_chg (n := n) (s := s1) (x := nI 0) (y := nI l) (z := nI h) hv u1 u2 hn hs1 ?_ ?_ ?_ ?_ ?_ ?_ ?_ ?_ ?_ ?_ ?_)
          · intro a ha
            rw [am_uRow (by omega), row3 a (by omega) (by omega) (by omega) (by omega)]
          · intro k h0 h51
            rw [am_uN (by omega), m2 k h51, am_uN (by omega), r2 93 (by omega), k1 93 (by omega)]
          · rw [am_uN (by omega), m1 77 (by omega) (by omega), am_uN (by omega), r2 77 (by omega)]; exact k2
          · rw [am_uN (by omega)]; exact m3
          · intro j hj
            rw [am_uN (by omega), am_uN (by omega), am_uN (by omega), m1 78 (by omega) (by omega), m1 79 (by omega) (by omega), m1 80 (by omega) (by omega), am_uN (by omega), am_uN (by omega), am_uN (by omega), r2 78 (by omega), r2 79 (by omega), r2 80 (by omega)]
            exact k3 j hj
          · rw [am_uN (by omega), am_uN (by omega), am_uN (by omega), m1 78 (by omega) (by omega), m1 79 (by omega) (by omega), m1 80 (by omega) (by omega), am_uN (by omega), am_uN (by omega), am_uN (by omega), r2 78 (by omega), r2 79 (by omega), r2 80 (by omega)]
            exact ⟨k4, k5, k6⟩
          · rw [go_ 2 (by omega), m4 2 (by omega), gI]
          · intro j hj
            rw [go_ _ (by omega), m5 j hj, gI]
          · rw [go_ _ (by omega), m6, gI]
          · have hC : ∀ i j, i ≤ 5 → c_w (am_u I3 125 l (nI bd)) 49 i j = c_shift (c_w I 49) l h bd i j := by
              intro i j hi
              rw [c_wI hi, am_uN (by omega), m1 _ (by omega) (by omega), am_uN (by omega), r49 i j hi]
            refine ⟨?_, ?_, ?_⟩
            · refine e_cw hte (cw_q bZ bL h8 (wq_symm g0) ?_)
              exact cw_cong hC (cw_shift n1 hl bL (by omega) (by omega) c6 e7h)
            · have := hC 0 5 (by omega)
              rw [c_wI (by omega)] at this
              rw [g0.1 3 (by omega), show (49 : Nat) = 49 + 0 from rfl, this]
              unfold c_shift
              rw [am_uN (by omega), am_uN (by omega), c_wI (by omega), am_uN (by omega)]
              exact n2
            · refine e_okX hte (okX_q bZ bL h8 (wq_symm g0) ?_)
              obtain ⟨o1, o2, o3, o4, o5⟩ := n3
              refine ⟨?_, ?_, ?_, ?_, ?_⟩
              · intro s hs; rw [am_uN (by omega)]; exact o1 s hs
              · rw [am_uN (by omega)]; exact o2
              · intro i hi
                by_cases e : i = l
                · subst e
                  left
                  rw [am_uN (by omega), am_uE]
                  exact ⟨c6, bd, hbd, rfl⟩
                · rw [am_uN (by omega), am_uN (by omega)]; exact o3 i hi
              · rw [am_uN (by omega)]; exact o4
              · intro k hk
                rw [am_uN (by omega)]; exact o5 k hk
          · exact Or.inl ⟨rfl, l, h, bd, hl, hh, hbd, ce, rfl, rfl, c6, e7h, g0⟩
      · rw [if_neg c6] at hlie'
        refine op2_q (v := .int (nI 0)) hv (iv_ans hv ?_) ?_
        · intro Q hQ
          rw [e_S_lay, s_S_isLetter ht, eL]
          try simp (config := {maxSteps := 1000000}) (disch := omega) only [nI_add, nI_1, am_mulN, nI_clamp, am_gI, am_ifd, am_ifn, am_asIe, am_asLe, nI_leI, nI_ltI, nI_eq, am_neg1, am_neg1b]
          rw [bo_t (by omega), e_S_lay_5, s_S_isSleeper ht, eZ]
          try simp (config := {maxSteps := 1000000}) (disch := omega) only [nI_add, nI_1, am_mulN, nI_clamp, am_gI, am_ifd, am_ifn, am_asIe, am_asLe, nI_leI, nI_ltI, nI_eq, am_neg1, am_neg1b]
          rw [if_neg (by omega), bo_t (by omega), e_S_lay_13]
          try simp (config := {maxSteps := 1000000}) (disch := omega) only [nI_add, nI_1, am_mulN, nI_clamp, am_gI, am_ifd, am_ifn, am_asIe, am_asLe, nI_leI, nI_ltI, nI_eq, am_neg1, am_neg1b]
          rw [if_neg (by omega), s_W_lyingIn (by omega) (by omega), hlie']
          try simp (config := {maxSteps := 1000000}) (disch := omega) only [nI_add, nI_1, am_mulN, nI_clamp, am_gI, am_ifd, am_ifn, am_asIe, am_asLe, nI_leI, nI_ltI, nI_eq, am_neg1, am_neg1b]
          rw [e_S_lay_26 ht]
          try simp (config := {maxSteps := 1000000}) (disch := omega) only [nI_add, nI_1, am_mulN, nI_clamp, am_gI, am_ifd, am_ifn, am_asIe, am_asLe, nI_leI, nI_ltI, nI_eq, am_neg1, am_neg1b, if_true]
          exact hQ
        · intro r' I' J' hv' he
          refine iv_mans ?_
          intro Q hQ
          rw [e_M_lay, s_M_isLetter, am_uN (by omega), he 95 (by omega), hL]
          try simp (config := {maxSteps := 1000000}) (disch := omega) only [nI_add, nI_1, am_mulN, nI_clamp, am_gI, am_ifd, am_ifn, am_asIe, am_asLe, nI_leI, nI_ltI, nI_eq, am_neg1, am_neg1b]
          rw [bo_t (by omega), e_M_lay_10, s_M_isSleeper, am_uN (by omega), he 95 (by omega), hZ]
          try simp (config := {maxSteps := 1000000}) (disch := omega) only [nI_add, nI_1, am_mulN, nI_clamp, am_gI, am_ifd, am_ifn, am_asIe, am_asLe, nI_leI, nI_ltI, nI_eq, am_neg1, am_neg1b]
          rw [if_neg (by omega), bo_t (by omega), e_M_lay_18]
          try simp (config := {maxSteps := 1000000}) (disch := omega) only [nI_add, nI_1, am_mulN, nI_clamp, am_gI, am_ifd, am_ifn, am_asIe, am_asLe, nI_leI, nI_ltI, nI_eq, am_neg1, am_neg1b]
          rw [if_neg (by omega), am_uN (by omega), he 124 (by omega), ← e6, if_neg c6]
          exact hQ
    · have nb : ¬ (nI 0 ≤ b ∧ b < nI (m_nZ I)) := fun g => cb ((am_irng (k := 0) rfl (by omega)).mp g)
      refine op2_q (v := .int (nI 0)) hv (iv_ans hv ?_) ?_
      · intro Q hQ
        rw [e_S_lay, s_S_isLetter ht, eL]
        try simp (config := {maxSteps := 1000000}) (disch := omega) only [nI_add, nI_1, am_mulN, nI_clamp, am_gI, am_ifd, am_ifn, am_asIe, am_asLe, nI_leI, nI_ltI, nI_eq, am_neg1, am_neg1b]
        rw [bo_t (by omega), e_S_lay_5, s_S_isSleeper ht, eZ, bo_f nb]
        try simp (config := {maxSteps := 1000000}) (disch := omega) only [nI_add, nI_1, am_mulN, nI_clamp, am_gI, am_ifd, am_ifn, am_asIe, am_asLe, nI_leI, nI_ltI, nI_eq, am_neg1, am_neg1b]
        rw [if_neg (by omega), e_S_lay_13]
        try simp (config := {maxSteps := 1000000}) (disch := omega) only [nI_add, nI_1, am_mulN, nI_clamp, am_gI, am_ifd, am_ifn, am_asIe, am_asLe, nI_leI, nI_ltI, nI_eq, am_neg1, am_neg1b, if_true]
        exact hQ
      · intro r' I' J' hv' he
        refine iv_mans ?_
        intro Q hQ
        rw [e_M_lay, s_M_isLetter, am_uN (by omega), he 95 (by omega), hL]
        try simp (config := {maxSteps := 1000000}) (disch := omega) only [nI_add, nI_1, am_mulN, nI_clamp, am_gI, am_ifd, am_ifn, am_asIe, am_asLe, nI_leI, nI_ltI, nI_eq, am_neg1, am_neg1b]
        rw [bo_t (by omega), e_M_lay_10, s_M_isSleeper, am_uN (by omega), he 95 (by omega), hZ, bo_f nb]
        try simp (config := {maxSteps := 1000000}) (disch := omega) only [nI_add, nI_1, am_mulN, nI_clamp, am_gI, am_ifd, am_ifn, am_asIe, am_asLe, nI_leI, nI_ltI, nI_eq, am_neg1, am_neg1b]
        rw [if_neg (by omega), e_M_lay_18, am_ifd, if_pos rfl]
        exact hQ
  · have na : ¬ (nI 0 ≤ a ∧ a < nI (m_nL I)) := fun g => ca ((am_irng (k := 0) rfl (by omega)).mp g)
    refine op2_q (v := .int (nI 0)) hv (iv_ans hv ?_) ?_
    · intro Q hQ
      rw [e_S_lay, s_S_isLetter ht, eL, bo_f na]
      try simp (config := {maxSteps := 1000000}) (disch := omega) only [nI_add, nI_1, am_mulN, nI_clamp, am_gI, am_ifd, am_ifn, am_asIe, am_asLe, nI_leI, nI_ltI, nI_eq, am_neg1, am_neg1b]
      rw [e_S_lay_5, am_ifd, if_pos rfl]
      exact hQ
    · intro r' I' J' hv' he
      refine iv_mans ?_
      intro Q hQ
      rw [e_M_lay, s_M_isLetter, am_uN (by omega), he 95 (by omega), hL, bo_f na]
      try simp (config := {maxSteps := 1000000}) (disch := omega) only [nI_add, nI_1, am_mulN, nI_clamp, am_gI, am_ifd, am_ifn, am_asIe, am_asLe, nI_leI, nI_ltI, nI_eq, am_neg1, am_neg1b]
      rw [e_M_lay_10, am_ifd, if_pos rfl]
      exact hQ
end
