/-! ===== L3: lit, bell ===== -/
section
variable {d N : Nat} {Q : Value → am_H → Prop} {r : am_rho} {I : Nat → Nat → Int32} {J : Nat → Nat → Int64}
theorem inv_chg {I3 : Nat → Nat → Int32} {n s : Nat} {x y z : Int32} (hv : i_inv r I J) (h77 : I 77 0 = nI n) (h51 : I 93 51 = nI n) (hn : n ≤ 20) (hs : s = if n = 20 then 1 else 0)
    (rw_ : ∀ a, (a < 49 ∨ (55 ≤ a ∧ a < 77) ∨ (80 < a ∧ a < 93) ∨ (94 ≤ a ∧ a < 118) ∨ 127 < a) → I3 a = I a) (cl : ∀ k, k ≠ 0 → k ≠ 51 → I3 93 k = I 93 k)
    (c77 : I3 77 0 = nI (n - s + 1)) (c51 : I3 93 51 = nI (n - s + 1)) (cj : ∀ j, j < n - s → I3 78 j = I 78 (j + s) ∧ I3 79 j = I 79 (j + s) ∧ I3 80 j = I 80 (j + s)) (cx : I3 78 (n - s) = x ∧ I3 79 (n - s) = y ∧ I3 80 (n - s) = z)
    (g2 : m_g I3 2 = m_g I 2) (gj : ∀ j, j < n - s → m_g I3 (3 + j) = m_g I (3 + (j + s))) (gx : m_g I3 (3 + (n - s)) = m_g I 0)
    (hnow : i_now I3) (hu : u_rel I x y z (m_g I 0) (m_g I3 0)) : i_inv r I3 J := by
  have hok := hv.2.1.1.2.1
  have hte : te I I3 := fun a h1 h2 => rw_ a (by omega)
  have hs1 : s ≤ 1 ∧ (s = 1 → n = 20) ∧ (n = 20 → s = 1) := by
    rw [hs]
    refine ⟨?_, ?_, ?_⟩
    · split <;> omega
    · intro h; split at h
      · assumption
      · omega
    · intro h; rw [if_pos h]
  refine inv_row hv hte (fun a h1 h2 => rw_ a (by omega)) (fun a h => rw_ a (by omega)) (rw_ 63 (by omega)) rfl (fun k h1 h2 => cl k (by omega) (by omega)) hnow ?_ ?_ ?_ ?_ ?_
  · exact f_img hok hte (fun a h1 h2 => rw_ a (by omega)) (by rw [rw_ 1 (by omega)]) (cl 50 (by omega) (by omega)) (by rw [g2]; exact wq_refl) hv.2.2.2.2.1
  · obtain ⟨n', hn', b1, b2, b3⟩ := hv.2.2.2.2.2.1
    obtain rfl : n' = n := (nI_eq (by omega) (by omega)).mp (b1.symm.trans h77)
    refine ⟨n' - s + 1, by omega, c77, c51, ?_⟩
    intro k hk
    by_cases e : k = n' - s
    · subst e
      rw [if_pos rfl, gx, cx.1, cx.2.1, cx.2.2]
      exact ⟨e_okX hte hv.2.2.2.1.2.2, e_u hte hu⟩
    · obtain ⟨o1, o2⟩ := b3 (k + s) (by omega)
      rw [if_neg (by omega), gj k (by omega), (cj k (by omega)).1, (cj k (by omega)).2.1, (cj k (by omega)).2.2]
      refine ⟨e_okX hte o1, e_u hte ?_⟩
      by_cases e2 : k + 1 = n' - s
      · rw [if_pos (by omega)] at o2
        rw [e2, gx]
        exact o2
      · rw [if_neg (by omega)] at o2
        rw [gj (k + 1) (by omega), show k + 1 + s = k + s + 1 by omega]
        exact o2
  · exact f_sig hte (fun a h => rw_ a (by omega)) (cl 69 (by omega) (by omega)) (cl 70 (by omega) (by omega)) hv.2.2.2.2.2.2.1
  · exact f_tap (by rw [rw_ 1 (by omega)]) (cl 2 (by omega) (by omega)) (rw_ 94 (by omega)) (rw_ 2 (by omega)) hv.2.2.2.2.2.2.2.1
  · exact f_flt ⟨by rw [rw_ 43 (by omega)], by rw [rw_ 43 (by omega)]⟩ ⟨cl 33 (by omega) (by omega), cl 34 (by omega) (by omega)⟩ hv.2.2.2.2.2.2.2.2.1
theorem m_g_u {I : Nat → Nat → Int32} {f k : Nat} {x : Int32} (hk : f < 5 ∧ k = 0 ∨ f = 5 ∧ k < 5 ∨ (6 ≤ f ∧ f < 10) ∧ k < 8) : wq (m_g (am_u I (118 + f) k x) 0) (am_u (m_g I 0) f k x) := by
  refine ⟨?_, ?_, ?_⟩
  · intro g hg
    unfold m_g am_u
    try dsimp only
    rw [if_pos hg, if_pos hg]
    by_cases c : g = f ∧ 0 = k
    · rw [if_pos (by omega), if_pos c]
    · rw [if_neg (by omega), if_neg c]
  · intro s hs
    unfold m_g am_u
    try dsimp only
    rw [if_neg (by omega), if_pos rfl, if_pos hs]
    by_cases c : 5 = f ∧ s = k
    · rw [if_pos (by omega), if_pos c]
    · rw [if_neg (by omega), if_neg c, if_neg (by omega), if_pos rfl, if_pos hs]
  · intro g l h1 h2 h3
    unfold m_g am_u
    try dsimp only
    rw [if_neg (by omega), if_neg (by omega), if_pos ⟨h2, h3⟩]
    by_cases c : g = f ∧ l = k
    · rw [if_pos (by omega), if_pos c]
    · rw [if_neg (by omega), if_neg c, if_neg (by omega), if_neg (by omega), if_pos ⟨h2, h3⟩]
theorem m_g_uo {I : Nat → Nat → Int32} {f k m : Nat} {x : Int32} (hm : m ≠ 0) (hk : f < 5 ∧ k = 0 ∨ f = 5 ∧ k < 5 ∨ (6 ≤ f ∧ f < 10) ∧ k < 8) : m_g (am_u I (118 + f) k x) m = m_g I m := by
  funext g l
  unfold m_g am_u
  try dsimp only
  by_cases c : g < 5
  · rw [if_pos c, if_pos c, if_neg (by omega)]
  · rw [if_neg c, if_neg c]
    by_cases c5 : g = 5
    · rw [if_pos c5, if_pos c5]
      by_cases ck : l < 5
      · rw [if_pos ck, if_pos ck, if_neg (by omega)]
      · rw [if_neg ck, if_neg ck]
    · rw [if_neg c5, if_neg c5]
      by_cases ck : g < 10 ∧ l < 8
      · rw [if_pos ck, if_pos ck, if_neg (by omega)]
      · rw [if_neg ck, if_neg ck]
theorem op_lit {a : Int32} {b : Bool} (hv : i_inv r I J) : op2 (d + 12) N 125 242 [.int a, .int (nI b.toNat)] r I J := by
  have hv0 := hv
  obtain ⟨rt, rs, rd, rl, rx, nt, nw, nf⟩ := r
  obtain ⟨ht, hok, eH, eZ, eL, h0, h12, e49, e118⟩ := iv_ref hv
  obtain ⟨n, hn, u1, u2, u3⟩ := hv.2.2.2.2.2.1
  obtain ⟨n1, n2, n3⟩ := hv.2.2.2.1
  have hH := hok.1.1
  have h8 := hok.1.2
  have bZ := hok.2.2.1.2
  have bL := hok.2.2.2.1.2
  have e121 : m_g I 0 3 0 = I 121 0 := rfl
  have hlit : I 49 5 = I 121 0 := n2
  by_cases ca : ∃ x, x < m_nH I ∧ a = nI x
  · obtain ⟨x, hx, rfl⟩ := ca
    by_cases cb : bt (I 121 0) x = b
    · refine op2_q (v := .int (nI 0)) hv (iv_ans hv ?_) ?_
      · intro Q hQ
        rw [e_S_lit, s_S_isHouse ht, eH]
        try simp (config := {maxSteps := 1000000}) (disch := omega) only [nI_add, nI_1, am_mulN, nI_clamp, am_gI, am_ifd, am_ifn, am_asIe, am_asLe, nI_leI, nI_ltI, nI_eq, am_neg1, am_neg1b]
        rw [bo_t (by omega), e_S_lit_5, hlit]
        try simp (config := {maxSteps := 1000000}) (disch := omega) only [nI_add, nI_1, am_mulN, nI_clamp, am_gI, am_ifd, am_ifn, am_asIe, am_asLe, nI_leI, nI_ltI, nI_eq, am_neg1, am_neg1b, b_v, b_v0, b_v1, cb]
        rw [if_neg (by omega)]
        cases b
        · simp only [if_true]; exact hQ
        · simp only [Bool.true_eq_false, if_false, if_true]; exact hQ
      · intro r' I' J' hv' he
        refine iv_mans ?_
        intro Q hQ
        rw [e_M_lit, s_M_isHouse, am_uN (by omega), he 95 (by omega), hH]
        try simp (config := {maxSteps := 1000000}) (disch := omega) only [nI_add, nI_1, am_mulN, nI_clamp, am_gI, am_ifd, am_ifn, am_asIe, am_asLe, nI_leI, nI_ltI, nI_eq, am_neg1, am_neg1b]
        rw [bo_t (by omega), e_M_lit_10, am_uN (by omega), he 121 (by omega)]
        try simp (config := {maxSteps := 1000000}) (disch := omega) only [nI_add, nI_1, am_mulN, nI_clamp, am_gI, am_ifd, am_ifn, am_asIe, am_asLe, nI_leI, nI_ltI, nI_eq, am_neg1, am_neg1b, b_v, b_v0, b_v1, cb]
        rw [if_neg (by omega)]
        cases b
        · rw [if_neg (by decide), if_pos (by rfl)]; exact hQ
        · rw [if_pos (by rfl), if_pos (by rfl)]; exact hQ
    · intro Q hQ
      have hnb : bt (I 121 0) x = !b := by cases h : bt (I 121 0) x <;> cases b <;> simp_all
      rw [e_S_lit, s_S_isHouse ht, eH]
      try simp (config := {maxSteps := 1000000}) (disch := omega) only [nI_add, nI_1, am_mulN, nI_clamp, am_gI, am_ifd, am_ifn, am_asIe, am_asLe, nI_leI, nI_ltI, nI_eq, am_neg1, am_neg1b]
      rw [bo_t (by omega), e_S_lit_5, hlit]
      try simp (config := {maxSteps := 1000000}) (disch := omega) only [nI_add, nI_1, am_mulN, nI_clamp, am_gI, am_ifd, am_ifn, am_asIe, am_asLe, nI_leI, nI_ltI, nI_eq, am_neg1, am_neg1b, b_v, b_v0, b_v1, hnb]
      rw [if_neg (by omega)]
      have go : am_D (d + 11) 1 [.ref 77, .int (nI 1), .int (nI x), .int (nI 0)] (am_hp N (rt, rs, rd, rl, rx, nt, nw, nf) I J) (fun v h => am_V (d + 11) (fun v1 h1 => am_D (d + 12) 242 [.ref 93, .int (nI x), .int (nI b.toNat)] h1 (fun v2 h2 => Q v1 v2 h2)) 125 43 [some (.ref 1), some (.int (nI x)), some (.int (nI b.toNat))] [] h) := by
        refine s_Ch_add u1 hn ?_
        intro I1 s hs ⟨k1, k2, k3, k4, k5, k6⟩
        rw [e_S_lit_43, k1 49 (by omega), hlit, am_pwe]
        generalize hI2 : am_u I1 49 5 (I 121 0 ^^^ am_pw x) = I2
        have r2 : ∀ a, a ≠ 49 → I2 a = I1 a := fun a h => by rw [← hI2, am_uRow (by omega)]
        rw [e_M_lit, s_M_isHouse, am_uN (by omega), r2 95 (by omega), k1 95 (by omega), hH]
        try simp (config := {maxSteps := 1000000}) (disch := omega) only [nI_add, nI_1, am_mulN, nI_clamp, am_gI, am_ifd, am_ifn, am_asIe, am_asLe, nI_leI, nI_ltI, nI_eq, am_neg1, am_neg1b]
        rw [bo_t (by omega), e_M_lit_10, am_uN (by omega), r2 121 (by omega), k1 121 (by omega)]
        try simp (config := {maxSteps := 1000000}) (disch := omega) only [nI_add, nI_1, am_mulN, nI_clamp, am_gI, am_ifd, am_ifn, am_asIe, am_asLe, nI_leI, nI_ltI, nI_eq, am_neg1, am_neg1b, b_v, b_v0, b_v1, hnb]
        rw [if_neg (by omega)]
        have h51 : am_u I2 93 0 (nI 0) 93 51 = nI n := by rw [am_uN (by omega), r2 93 (by omega), k1 93 (by omega)]; exact u2
        have go2 : am_D (d + 11) 240 [.ref 93] (am_hp N (rt, rs, rd, rl, rx, nt, nw, nf) (am_u I2 93 0 (nI 0)) J) (fun v h => am_V (d + 11) (fun v2 h2 => Q (.int (nI 1)) v2 h2) 242 42 [some (.ref 93), some (.int (nI x)), some (.int (nI b.toNat))] [] h) := by
          refine s_M_keepNow h51 hn ?_
          intro I3 s' hs' ⟨m1, m2, m3, m4, m5, m6⟩
          obtain rfl : s = s' := by rw [hs, hs']
          have gI : ∀ m, m_g (am_u I2 93 0 (nI 0)) m = m_g I m := by
            intro m
            rw [th0_g]
            exact g_row (fun a h1 h2 => by rw [r2 a (by omega), k1 a (by omega)])
          have e3 : I3 121 0 = I 121 0 := by
            have := congrFun (congrFun (m4 0 (by omega)) 3) 0
            rw [gI 0] at this
            exact this
          rw [e_M_lit_42, e3, am_pwe]
          have row3 : ∀ a, (a < 77 ∨ 80 < a) → a ≠ 49 → a ≠ 93 → (a < 118 ∨ 127 < a) → I3 a = I a := by
            intro a h1 h2 h3 h4
            rw [m1 a h3 h4, am_uRow (by omega), r2 a h2, k1 a h1]
          have gq := m_g_u (I := I3) (f := 3) (k := 0) (x := I 121 0 ^^^ am_pw x) (by omega)
          rw [m4 0 (by omega), gI 0] at gq
          have g0 : wq (m_g (am_u I3 121 0 (I 121 0 ^^^ am_pw x)) 0) (am_u (m_g I 0) 3 0 (I 121 0 ^^^ am_pw x)) := gq
          have go_ : ∀ m, m ≠ 0 → m_g (am_u I3 121 0 (I 121 0 ^^^ am_pw x)) m = m_g I3 m := fun m hm => m_g_uo (f := 3) hm (by omega)
          have hte : te I (am_u I3 121 0 (I 121 0 ^^^ am_pw x)) := fun a h1 h2 => by rw [am_uRow (by omega), row3 a (by omega) (by omega) (by omega) (by omega)]
          refine hQ _ _ _ _ (inv_chg (n := n) (s := s) (x := nI 1) (y := nI x) (z := nI 0) hv u1 u2 hn hs ?_ ?_ ?_ ?_ ?_ ?_ ?_ ?_ ?_ ?_ ?_)
          · intro a ha
            rw [am_uRow (by omega), row3 a (by omega) (by omega) (by omega) (by omega)]
          · intro k h0 h51
            rw [am_uN (by omega), m2 k h51, am_uN (by omega), r2 93 (by omega), k1 93 (by omega)]
          · rw [am_uN (by omega), m1 77 (by omega) (by omega), am_uN (by omega), r2 77 (by omega)]; exact k2
          · rw [am_uN (by omega)]; exact m3
          · intro j hj
            rw [am_uN (by omega), am_uN (by omega), am_uN (by omega), m1 78 (by omega) (by omega), m1 79 (by omega) (by omega), m1 80 (by omega) (by omega), am_uN (by omega), am_uN (by omega), am_uN (by omega), r2 78 (by omega), r2 79 (by omega), r2 80 (by omega)]
            exact k3 j hj
          · rw [am_uN (by omega), am_uN (by omega), am_uN (by omega), m1 78 (by omega) (by omega), m1 79 (by omega) (by omega), m1 80 (by omega) (by omega), am_uN (by omega), am_uN (by omega), am_uN (by omega), r2 78 (by omega), r2 79 (by omega), r2 80 (by omega)]
            exact ⟨k4, k5, k6⟩
          · rw [go_ 2 (by omega), m4 2 (by omega), gI]
          · intro j hj
            rw [go_ _ (by omega), m5 j hj, gI]
          · rw [go_ _ (by omega), m6, gI]
          · refine ⟨?_, ?_, ?_⟩
            · refine e_cw hte (cw_q bZ bL h8 (wq_symm g0) ?_)
              have hC : ∀ i j, i ≤ 5 → (i ≠ 0 ∨ j ≠ 5) → c_w (am_u I3 121 0 (I 121 0 ^^^ am_pw x)) 49 i j = c_w I 49 i j := by
                intro i j hi hij
                rw [c_wI hi, c_wI hi, am_uN (by omega), m1 _ (by omega) (by omega), am_uN (by omega), ← hI2, am_uN (by omega), k1 _ (by omega)]
              obtain ⟨r0, r1, r2', r3, r4, r5, r6, r7, r8, r9⟩ := n1
              have uw : ∀ {f k : Nat}, f ≠ 3 → am_u (m_g I 0) 3 0 (I 121 0 ^^^ am_pw x) f k = m_g I 0 f k := fun h => am_uN (by omega)
              refine ⟨?_, ?_, ?_, ?_, ?_, ?_, ?_, ?_, ?_, ?_⟩
              · rw [hC _ _ (by omega) (by omega), uw (by omega)]; exact r0
              · rw [hC _ _ (by omega) (by omega), uw (by omega)]; exact r1
              · rw [hC _ _ (by omega) (by omega), uw (by omega)]; exact r2'
              · rw [hC _ _ (by omega) (by omega), uw (by omega)]; exact r3
              · intro k hk; rw [hC _ _ (by omega) (by omega), uw (by omega)]; exact r4 k hk
              · intro k hk l hl; rw [hC _ _ (by omega) (by omega), uw (by omega), uw (by omega)]; exact r5 k hk l hl
              · intro k hk l hl; rw [hC _ _ (by omega) (by omega), uw (by omega), uw (by omega)]; exact r6 k hk l hl
              · intro l hl; rw [hC _ _ (by omega) (by omega), uw (by omega)]; exact r7 l hl
              · intro l hl; rw [hC _ _ (by omega) (by omega), uw (by omega)]; exact r8 l hl
              · intro k hk; rw [hC _ _ (by omega) (by omega), uw (by omega)]; exact r9 k hk
            · rw [g0.1 3 (by omega), am_uE, am_uN (by omega), m1 49 (by omega) (by omega), am_uN (by omega), ← hI2, am_uE]
            · refine e_okX hte (okX_q bZ bL h8 (wq_symm g0) ?_)
              obtain ⟨o1, o2, o3, o4, o5⟩ := n3
              refine ⟨?_, ?_, okLt_u o3 (by omega), ?_, ?_⟩
              · intro s hs; rw [am_uN (by omega)]; exact o1 s hs
              · rw [am_uN (by omega)]; exact o2
              · rw [am_uN (by omega)]; exact o4
              · intro y hy; rw [am_uN (by omega)]; exact o5 y hy
          · exact Or.inr (Or.inl ⟨rfl, x, hx, rfl, g0⟩)
        cases b
        · rw [if_pos (by rfl), if_neg (by decide +kernel)]; exact go2
        · rw [if_neg (by decide), if_neg (by decide +kernel)]; exact go2
      cases b
      · simp only [if_true, Bool.not_false, Bool.true_eq_false, if_false]; exact go
      · simp only [Bool.true_eq_false, if_false, Bool.not_true, Bool.false_eq_true]; exact go
  · have na : ¬ (nI 0 ≤ a ∧ a < nI (m_nH I)) := fun g => ca ((am_irng (k := 0) rfl (by omega)).mp g)
    refine op2_q (v := .int (nI 0)) hv (iv_ans hv ?_) ?_
    · intro Q hQ
      rw [e_S_lit, s_S_isHouse ht, eH, bo_f na]
      try simp (config := {maxSteps := 1000000}) (disch := omega) only [nI_add, nI_1, am_mulN, nI_clamp, am_gI, am_ifd, am_ifn, am_asIe, am_asLe, nI_leI, nI_ltI, nI_eq, am_neg1, am_neg1b]
      rw [e_S_lit_5, am_ifd, if_pos rfl]
      exact hQ
    · intro r' I' J' hv' he
      refine iv_mans ?_
      intro Q hQ
      rw [e_M_lit, s_M_isHouse, am_uN (by omega), he 95 (by omega), hH, bo_f na]
      try simp (config := {maxSteps := 1000000}) (disch := omega) only [nI_add, nI_1, am_mulN, nI_clamp, am_gI, am_ifd, am_ifn, am_asIe, am_asLe, nI_leI, nI_ltI, nI_eq, am_neg1, am_neg1b]
      rw [e_M_lit_10, am_ifd, if_pos rfl]
      exact hQ
end
