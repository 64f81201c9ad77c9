/-! ===== L3: cost ===== -/
section
variable {d N : Nat} {Q : Value → am_H → Prop} {r : am_rho} {I : Nat → Nat → Int32} {J : Nat → Nat → Int64}
theorem inv_mfr {I' : Nat → Nat → Int32} {J' : Nat → Nat → Int64} (hv : i_inv r I J) (h : mfr I I') (hj : J' 64 = J 64) : i_inv r I' J' := by
  refine inv_fr hv (mfr_fr h) hv.1 rfl ?_
  rw [mfr_63 h, hj]
  exact hv.2.2.2.2.2.2.2.2.2
theorem s_J_max {x y : Int32} : am_D (d + 1) 279 [.int x, .int y] (am_hp N r I J) Q = Q (.int (if x < y then y else x)) (am_hp N r I J) := by
  rw [e_J_max]
  simp only [am_ifd]
  split <;> rfl
theorem b_and_not {x y : Int32} {i : Nat} (hi : i < 32) : bt (x &&& (y ^^^ (-nI 1))) i = (bt x i && !bt y i) := by rw [b_and, b_not hi]
theorem op_cost {a : Int32} (hv : i_inv r I J) : op2 (d + 14) N 141 268 [.int a] r I J := by
  obtain ⟨rt, rs, rd, rl, rx, nt, nw, nf⟩ := r
  obtain ⟨ht, hok, eH, eZ, eL, h0, h12, e49, e118⟩ := iv_ref hv
  have hZ5 := hok.2.2.1.2
  have hZ := hok.2.2.1.1
  have hst := hv.2.1.1.2.2.1
  have h8 := hok.1.2
  have hp : 1 ≤ 2 ^ m_nZ I ∧ 2 ^ m_nZ I ≤ 32 := ⟨Nat.one_le_two_pow, by have := Nat.pow_le_pow_right (show 0 < 2 by omega) hZ5; omega⟩
  have e2k := c_2k (k := m_nZ I) (by omega)
  have e1k := c_shl (a := 1) (k := m_nZ I) (by omega) (by omega)
  by_cases ca : ∃ x, x < 2 ^ m_nZ I ∧ a = nI x
  · obtain ⟨x, hx, rfl⟩ := ca
    have hall : ∀ s, s < m_nZ I → bt (nI (2 ^ m_nZ I - 1)) s = true := by
      intro s hs
      rw [b_2k _ (by omega) _ (by omega)]
      exact decide_eq_true hs
    refine op2_q (v := .int (if nI 0 < q_arr I (nI 0) - q_arr I (nI x) then q_arr I (nI 0) - q_arr I (nI x) else nI 0)) hv ?_ ?_
    · intro Q hQ
      rw [e_S_cost ht, e_Town_allSleepers ht, eZ, e2k]
      try simp (config := {maxSteps := 1000000}) (disch := omega) only [nI_add, nI_1, am_mulN, nI_clamp, am_gI, am_ifd, am_ifn, am_asIe, am_asLe, nI_leI, nI_ltI, nI_eq, am_neg1, am_neg1b]
      rw [e_S_cost_7 ht]
      try simp (config := {maxSteps := 1000000}) (disch := omega) only [nI_add, nI_1, am_mulN, nI_clamp, am_gI, am_ifd, am_ifn, am_asIe, am_asLe, nI_leI, nI_ltI, nI_eq, am_neg1, am_neg1b]
      rw [if_neg (by omega), if_pos (by omega)]
      refine s_T_arrivals (still := nI 0) hv (fun s hs => by rw [hall s hs, b_z]; rfl) ?_
      intro I1 J1 g1 g2
      have hv1 := inv_fr hv (cfr_fr g1) (ref_t hv.1 ht) rfl g2
      try simp (config := {maxSteps := 1000000}) (disch := omega) only [nI_add, nI_1, am_mulN, nI_clamp, am_gI, am_ifd, am_ifn, am_asIe, am_asLe, nI_leI, nI_ltI, nI_eq, am_neg1, am_neg1b]
      rw [e_S_cost_32 ht]
      refine s_T_arrivals (still := nI x) hv1 (fun s hs => by rw [b_and_not (by rw [g_nZ g1.1] at hs; omega), hall s (by rw [g_nZ g1.1] at hs; exact hs), Bool.true_and]) ?_
      intro I2 J2 g3 g4
      try simp (config := {maxSteps := 1000000}) (disch := omega) only [nI_add, nI_1, am_mulN, nI_clamp, am_gI, am_ifd, am_ifn, am_asIe, am_asLe, nI_leI, nI_ltI, nI_eq, am_neg1, am_neg1b]
      rw [e_S_cost_48, s_J_max]
      try simp (config := {maxSteps := 1000000}) (disch := omega) only [nI_add, nI_1, am_mulN, nI_clamp, am_gI, am_ifd, am_ifn, am_asIe, am_asLe, nI_leI, nI_ltI, nI_eq, am_neg1, am_neg1b]
      rw [e_S_cost_52, g_qarr g1.1]
      refine hQ _ _ _ (cfr_trans g1 g3) (ref_t hv.1 ht) rfl ?_
      exact e_cache (fun a h1 h2 => (g1.1 a (by omega)).symm) (g1.2 _ (by omega)).symm g4
    · intro r' I' J' hv' he
      intro Q hQ
      have hZ' : I' 95 2 = nI (m_nZ I) := by rw [he 95 (by omega)]; exact hZ
      have hv0 := inv_mfr (J' := J') hv' (th0_mfr (x := nI 0)) rfl
      have hst' := hv'.2.1.1.2.2.1
      have h8' := hv'.2.1.1.2.1.1.2
      rw [e_M_cost, am_uN (by omega), hZ', e1k]
      try simp (config := {maxSteps := 1000000}) (disch := omega) only [nI_add, nI_1, am_mulN, nI_clamp, am_gI, am_ifd, am_ifn, am_asIe, am_asLe, nI_leI, nI_ltI, nI_eq, am_neg1, am_neg1b]
      rw [if_neg (by omega), if_pos (by omega)]
      refine s_M_arrivedBy hv0 ?_
      intro I1 J1 g1 g2
      have g1' := mfr2_trans (mfr2_th0 (x := nI 0)) g1
      have hv1 := inv_mfr (J' := J1) hv' g1'.1 g2
      try simp (config := {maxSteps := 1000000}) (disch := omega) only [nI_add, nI_1, am_mulN, nI_clamp, am_gI, am_ifd, am_ifn, am_asIe, am_asLe, nI_leI, nI_ltI, nI_eq, am_neg1, am_neg1b]
      rw [e_M_cost_29]
      refine s_M_arrivedBy hv1 ?_
      intro I2 J2 g3 g4
      try simp (config := {maxSteps := 1000000}) (disch := omega) only [nI_add, nI_1, am_mulN, nI_clamp, am_gI, am_ifd, am_ifn, am_asIe, am_asLe, nI_leI, nI_ltI, nI_eq, am_neg1, am_neg1b]
      rw [e_M_cost_34, s_J_max]
      try simp (config := {maxSteps := 1000000}) (disch := omega) only [nI_add, nI_1, am_mulN, nI_clamp, am_gI, am_ifd, am_ifn, am_asIe, am_asLe, nI_leI, nI_ltI, nI_eq, am_neg1, am_neg1b]
      rw [e_M_cost_38, mf_qarr g1' hst' h8', mf_qarr mfr2_th0 hst' h8', g_qarr he]
      exact hQ _ _ (mfr2_trans g1' g3).1 (g4.trans g2)
  · have hsp : a < nI 0 ∨ (¬ a < nI 0 ∧ ¬ a ≤ nI (2 ^ m_nZ I - 1) ∧ ¬ a < nI (1 * 2 ^ m_nZ I)) := by
      by_cases c : a < nI 0
      · exact Or.inl c
      · right
        refine ⟨c, ?_, ?_⟩
        · intro g
          apply ca
          have := (am_irng (k := 0) (x := a) (a := nI (2 ^ m_nZ I)) rfl (by omega)).mp ⟨fa_of_nlt c, by rw [fa_lt, nI_toInt (by omega)]; rw [fa_le, nI_toInt (by omega)] at g; omega⟩
          exact this
        · intro g
          apply ca
          rw [Nat.one_mul] at g
          exact (am_irng (k := 0) (x := a) (a := nI (2 ^ m_nZ I)) rfl (by omega)).mp ⟨fa_of_nlt c, g⟩
    refine op2_q (v := .int (-nI 1)) hv (iv_ans hv ?_) ?_
    · intro Q hQ
      rw [e_S_cost ht, e_Town_allSleepers ht, eZ, e2k]
      try simp (config := {maxSteps := 1000000}) (disch := omega) only [nI_add, nI_1, am_mulN, nI_clamp, am_gI, am_ifd, am_ifn, am_asIe, am_asLe, nI_leI, nI_ltI, nI_eq, am_neg1, am_neg1b]
      rw [e_S_cost_7 ht]
      try simp (config := {maxSteps := 1000000}) (disch := omega) only [nI_add, nI_1, am_mulN, nI_clamp, am_gI, am_ifd, am_ifn, am_asIe, am_asLe, nI_leI, nI_ltI, nI_eq, am_neg1, am_neg1b]
      rcases hsp with c | ⟨c, c2, _⟩
      · rw [if_pos c]; exact hQ
      · rw [if_neg c, if_neg c2]; exact hQ
    · intro r' I' J' hv' he
      refine iv_mans ?_
      intro Q hQ
      have hZ' : I' 95 2 = nI (m_nZ I) := by rw [he 95 (by omega)]; exact hZ
      rw [e_M_cost, am_uN (by omega), hZ', e1k]
      try simp (config := {maxSteps := 1000000}) (disch := omega) only [nI_add, nI_1, am_mulN, nI_clamp, am_gI, am_ifd, am_ifn, am_asIe, am_asLe, nI_leI, nI_ltI, nI_eq, am_neg1, am_neg1b]
      rcases hsp with c | ⟨c, _, c2⟩
      · rw [if_pos c]; exact hQ
      · rw [if_neg c, if_neg c2]; exact hQ
end
