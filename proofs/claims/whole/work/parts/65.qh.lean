/-! ===== L3: need, the model's ===== -/
section
variable {d N : Nat} {Q : Value → am_H → Prop} {r : am_rho} {I : Nat → Nat → Int32} {J : Nat → Nat → Int64}
theorem m_need {x : Nat} (hv : i_inv r I J) (hx : q_min (q_needP I) (2 ^ m_nZ I - 1) x) : m_ans (d + 14) N 269 [] r I J (.int (nI x)) := by
  obtain ⟨rt, rs, rd, rl, rx, nt, nw, nf⟩ := r
  obtain ⟨ht, hok, eH, eZ, eL, h0, h12, e49, e118⟩ := iv_ref hv
  have hZ5 := hok.2.2.1.2
  have hZ := hok.2.2.1.1
  have hst := hv.2.1.1.2.2.1
  have h8 := hok.1.2
  have hp : 1 ≤ 2 ^ m_nZ I ∧ 2 ^ m_nZ I ≤ 32 := ⟨Nat.one_le_two_pow, by have := Nat.pow_le_pow_right (show 0 < 2 by omega) hZ5; omega⟩
  have e2k := c_2k (k := m_nZ I) (by omega)
  intro Q hQ
  have hv0 := inv_mfr (J' := J) hv (th0_mfr (x := nI 0)) rfl
  rw [e_M_need, am_uN (by omega), hZ, e2k]
  refine s_M_arrivedBy hv0 ?_
  intro I1 J1 g1 g2
  have g1' := mfr2_trans (mfr2_th0 (x := nI 0)) g1
  rw [mf_qarr mfr2_th0 hst h8]
  try simp (config := {maxSteps := 1000000}) (disch := omega) only [nI_add, nI_1, am_mulN, nI_clamp, am_gI, am_ifd, am_ifn, am_asIe, am_asLe, nI_leI, nI_ltI, nI_eq, am_neg1, am_neg1b]
  rw [e_M_need_21]
  have lp : ∀ k j, 2 ^ m_nZ I - 1 = j + k → ∀ best, ((best = 2 ^ m_nZ I - 1 ∧ ∀ y, y < j → q_needP I y = false) ∨ (best < j ∧ q_needP I best = true ∧ ∀ y, y < j → q_needP I y = true → n_bits best < n_bits y ∨ (n_bits best = n_bits y ∧ best ≤ y))) → ∀ I' J', mfr2 I I' → J' 64 = J 64 → am_V (d + 13) Q 269 27 [some (.ref 93), some (.int (nI (2 ^ m_nZ I - 1))), some (.int (q_arr I (nI 0))), some (.int (nI best)), some (.int (nI j))] [] (am_hp N (rt, rs, rd, rl, rx, nt, nw, nf) I' J') := by
    intro k
    induction k with
    | zero =>
      intro j hj best hb I' J' k1 k2
      rw [e_M_need_27]
      try simp (config := {maxSteps := 1000000}) (disch := omega) only [nI_add, nI_1, am_mulN, nI_clamp, am_gI, am_ifd, am_ifn, am_asIe, am_asLe, nI_leI, nI_ltI, nI_eq, am_neg1, am_neg1b]
      rw [if_pos (by omega)]
      have : best = x := by
        refine q_min_eq ?_ hx
        rcases hb with ⟨b1, b2⟩ | ⟨b1, b2, b3⟩
        · exact Or.inl ⟨b1, fun y hy => b2 y (by omega)⟩
        · exact Or.inr ⟨by omega, b2, fun y hy => b3 y (by omega)⟩
      rw [this]
      exact hQ _ _ k1.1 k2
    | succ k ih =>
      intro j hj best hb I' J' k1 k2
      have hbl : best ≤ 2 ^ m_nZ I - 1 := by rcases hb with ⟨b1, _⟩ | ⟨b1, _⟩ <;> omega
      have hj8 : fa_cnt (bt (nI j)) 8 < 16 := fa_cnt8
      have hb8 : fa_cnt (bt (nI best)) 8 < 16 := fa_cnt8
      -- j is passed over
      have skip : (q_needP I j = false ∨ n_bits best < n_bits j ∨ (n_bits best = n_bits j ∧ best ≤ j ∧ best < j)) → ∀ I' J', mfr2 I I' → J' 64 = J 64 → am_V (d + 13) Q 269 27 [some (.ref 93), some (.int (nI (2 ^ m_nZ I - 1))), some (.int (q_arr I (nI 0))), some (.int (nI best)), some (.int (nI (j + 1)))] [] (am_hp N (rt, rs, rd, rl, rx, nt, nw, nf) I' J') := by
        intro hs I' J' k1 k2
        refine ih (j + 1) (by omega) best ?_ I' J' k1 k2
        rcases hb with ⟨b1, b2⟩ | ⟨b1, b2, b3⟩
        · left
          refine ⟨b1, ?_⟩
          intro y hy
          by_cases e : y = j
          · subst e
            rcases hs with hs | hs | hs
            · exact hs
            · rw [b1, n_bits_top _ (by omega)] at hs
              have := n_bits_all (m_nZ I) (by omega) y (by omega)
              omega
            · omega
          · exact b2 y (by omega)
        · right
          refine ⟨by omega, b2, ?_⟩
          intro y hy hp
          by_cases e : y = j
          · subst e
            rcases hs with hs | hs | hs
            · rw [hs] at hp; cases hp
            · exact Or.inl hs
            · exact Or.inr ⟨hs.1, hs.2.1⟩
          · exact b3 y (by omega) hp
      -- j is tried
      have try_ : n_bits j < n_bits best → am_D (d + 13) 267 [.ref 93, .int (nI (2 ^ m_nZ I - 1) &&& (nI j ^^^ (-nI 1)))] (am_hp N (rt, rs, rd, rl, rx, nt, nw, nf) I' J') (fun v h => am_asI v (fun y => am_V (d + 13) Q 269 76 [some (.ref 93), some (.int (nI (2 ^ m_nZ I - 1))), some (.int (q_arr I (nI 0))), some (.int (nI best)), some (.int (nI j))] [.int y] h)) := by
        intro hlt
        have hv1 := inv_mfr (J' := J') hv k1.1 k2
        refine s_M_arrivedBy hv1 ?_
        intro I2 J2 g3 g4
        have k1' := mfr2_trans k1 g3
        rw [mf_qarr k1 hst h8]
        try simp (config := {maxSteps := 1000000}) (disch := omega) only [nI_add, nI_1, am_mulN, nI_clamp, am_gI, am_ifd, am_ifn, am_asIe, am_asLe, nI_leI, nI_ltI, nI_eq, am_neg1, am_neg1b]
        rw [e_M_need_76]
        try simp (config := {maxSteps := 1000000}) (disch := omega) only [nI_add, nI_1, am_mulN, nI_clamp, am_gI, am_ifd, am_ifn, am_asIe, am_asLe, nI_leI, nI_ltI, nI_eq, am_neg1, am_neg1b]
        by_cases cp : q_arr I (nI (2 ^ m_nZ I - 1) &&& (nI j ^^^ (-nI 1))) < q_arr I (nI 0)
        · rw [if_pos cp]
          have hf : q_needP I j = false := by unfold q_needP; rw [decide_eq_true cp]; rfl
          exact skip (Or.inl hf) I2 J2 k1' (g4.trans k2)
        · rw [if_neg cp]
          have hf : q_needP I j = true := by unfold q_needP; rw [decide_eq_false cp]; rfl
          refine ih (j + 1) (by omega) j (Or.inr ⟨by omega, hf, ?_⟩) I2 J2 k1' (g4.trans k2)
          intro y hy hp
          by_cases e : y = j
          · subst e; exact Or.inr ⟨rfl, Nat.le_refl _⟩
          · rcases hb with ⟨b1, b2⟩ | ⟨b1, b2, b3⟩
            · rw [b2 y (by omega)] at hp; cases hp
            · have := b3 y (by omega) hp
              omega
      rw [e_M_need_27]
      try simp (config := {maxSteps := 1000000}) (disch := omega) only [nI_add, nI_1, am_mulN, nI_clamp, am_gI, am_ifd, am_ifn, am_asIe, am_asLe, nI_leI, nI_ltI, nI_eq, am_neg1, am_neg1b]
      rw [if_neg (by omega), s_M_bitsOf]
      try simp (config := {maxSteps := 1000000}) (disch := omega) only [nI_add, nI_1, am_mulN, nI_clamp, am_gI, am_ifd, am_ifn, am_asIe, am_asLe, nI_leI, nI_ltI, nI_eq, am_neg1, am_neg1b]
      rw [e_M_need_38, s_M_bitsOf]
      try simp (config := {maxSteps := 1000000}) (disch := omega) only [nI_add, nI_1, am_mulN, nI_clamp, am_gI, am_ifd, am_ifn, am_asIe, am_asLe, nI_leI, nI_ltI, nI_eq, am_neg1, am_neg1b]
      rw [e_M_need_42]
      try simp (config := {maxSteps := 1000000}) (disch := omega) only [nI_add, nI_1, am_mulN, nI_clamp, am_gI, am_ifd, am_ifn, am_asIe, am_asLe, nI_leI, nI_ltI, nI_eq, am_neg1, am_neg1b]
      by_cases c1 : fa_cnt (bt (nI best)) 8 < fa_cnt (bt (nI j)) 8
      · rw [if_pos c1]
        exact skip (Or.inr (Or.inl c1)) I' J' k1 k2
      · rw [if_neg c1, s_M_bitsOf]
        try simp (config := {maxSteps := 1000000}) (disch := omega) only [nI_add, nI_1, am_mulN, nI_clamp, am_gI, am_ifd, am_ifn, am_asIe, am_asLe, nI_leI, nI_ltI, nI_eq, am_neg1, am_neg1b]
        rw [e_M_need_50, s_M_bitsOf]
        try simp (config := {maxSteps := 1000000}) (disch := omega) only [nI_add, nI_1, am_mulN, nI_clamp, am_gI, am_ifd, am_ifn, am_asIe, am_asLe, nI_leI, nI_ltI, nI_eq, am_neg1, am_neg1b]
        rw [e_M_need_54]
        try simp (config := {maxSteps := 1000000}) (disch := omega) only [nI_add, nI_1, am_mulN, nI_clamp, am_gI, am_ifd, am_ifn, am_asIe, am_asLe, nI_leI, nI_ltI, nI_eq, am_neg1, am_neg1b]
        by_cases c2 : fa_cnt (bt (nI j)) 8 = fa_cnt (bt (nI best)) 8
        · rw [if_pos c2]
          have hbj : best < j := by
            rcases hb with ⟨b1, b2⟩ | ⟨b1, b2, b3⟩
            · have h1 := n_bits_all (m_nZ I) (by omega) j (by omega)
              have h2 := n_bits_top (m_nZ I) (by omega)
              rw [← b1] at h2
              unfold n_bits at h1 h2
              omega
            · exact b1
          rw [if_neg (by omega)]
          exact skip (Or.inr (Or.inr ⟨c2.symm, by omega, hbj⟩)) I' J' k1 k2
        · rw [if_neg c2]
          exact try_ (show fa_cnt (bt (nI j)) 8 < fa_cnt (bt (nI best)) 8 by omega)
  exact lp (2 ^ m_nZ I - 1) 0 (by omega) _ (Or.inl ⟨rfl, fun y hy => by omega⟩) I1 J1 g1' g2
theorem op_need (hv : i_inv r I J) : op2 (d + 14) N 142 269 [] r I J := by
  obtain ⟨x, _, hx, hc⟩ := c_need (d := d) (N := N) hv
  refine op2_q hv hc ?_
  intro r' I' J' hv' he
  refine m_need hv' ?_
  rw [g_needP he, g_nZ he]
  exact hx
end
