/-! ===== L3: where, meet, brought answer alike ===== -/
section
variable {d N : Nat} {Q : Value → am_H → Prop} {r : am_rho} {I : Nat → Nat → Int32} {J : Nat → Nat → Int64}
/-- what stands, in parts -/
theorem iv_ref {rt rs rd rl rx nt nw nf : Nat} (hv : i_inv (rt, rs, rd, rl, rx, nt, nw, nf) I J) : (rt = 3 ∨ rt = 23) ∧ m_ok I ∧ I rt 0 = nI (m_nH I) ∧ I rt 2 = nI (m_nZ I) ∧ I rt 3 = nI (m_nL I) ∧ (∃ h0, h0 < 12 ∧ I 49 0 = nI h0 ∧ I 118 0 = nI h0) := by
  obtain ⟨href, htr, hid, hnow, _⟩ := hv
  have hok : m_ok I := htr.1.2.1
  obtain ⟨q, hq, e⟩ := hnow.2.2.2.1
  refine ⟨htr.1.1, hok, ?_, ?_, ?_, q, hq, ?_, ?_⟩
  · rw [htr.2.1.1]; exact hok.1.1
  · rw [htr.2.1.2.2.1]; exact hok.2.2.1.1
  · rw [htr.2.1.2.2.2.1]; exact hok.2.2.2.1.1
  · have := hnow.1.1
    rw [c_wI (by omega)] at this
    exact this.trans e
  · exact e
theorem iv_ans {D N mc : Nat} {as : List Value} {v : Value} (hv : i_inv r I J) (h : ∀ Q : Value → am_H → Prop, Q v (am_hp N r I J) → am_D D mc (.ref 1 :: as) (am_hp N r I J) Q) : c_ans D N mc as r I J v := by
  intro Q hQ
  exact h Q (hQ r I J cfr_refl hv.1 rfl hv.2.2.2.2.2.2.2.2.2)
theorem iv_mans {D N mm : Nat} {as : List Value} {v : Value} (h : ∀ Q : Value → am_H → Prop, Q v (am_hp N r (am_u I 93 0 (nI 0)) J) → am_D D mm (.ref 93 :: as) (am_hp N r I J) Q) : m_ans D N mm as r I J v := by
  intro Q hQ
  exact h Q (hQ _ J th0_mfr rfl)
theorem bo_t {c : Prop} [Decidable c] (h : c) : (decide c).toNat = 1 := by rw [decide_eq_true h]; rfl
theorem bo_f {c : Prop} [Decidable c] (h : ¬ c) : (decide c).toNat = 0 := by rw [decide_eq_false h]; rfl
theorem iv_hr {h0 : Nat} {x : Int32} (h : h0 < 12) : (nI h0 ≤ x ∧ x < nI 12) ↔ ∃ k, h0 ≤ k ∧ k < 12 ∧ x = nI k := by
  constructor
  · intro ⟨h1, h2⟩
    rw [fa_le, nI_toInt (by omega)] at h1
    rw [fa_lt, nI_toInt (by omega)] at h2
    refine ⟨x.toInt.toNat, by omega, by omega, ?_⟩
    rw [fa_eq, nI_toInt (by omega)]
    omega
  · intro ⟨k, hk, hk2, e⟩
    rw [e]
    exact ⟨nI_le hk (by omega), nI_lt hk2 (by omega)⟩
theorem op_where {a b : Int32} (hv : i_inv r I J) : op2 (d + 12) N 128 245 [.int a, .int b] r I J := by
  obtain ⟨rt, rs, rd, rl, rx, nt, nw, nf⟩ := r
  obtain ⟨ht, hok, eH, eZ, eL, h0, h12, e49, e118⟩ := iv_ref hv
  have hZ5 := hok.2.2.1.2
  have hZ := hok.2.2.1.1
  by_cases ca : ∃ s, s < m_nZ I ∧ a = nI s
  · obtain ⟨s, hs, rfl⟩ := ca
    by_cases cb : ∃ h, h0 ≤ h ∧ h < 12 ∧ b = nI h
    · obtain ⟨h, hh1, hh2, rfl⟩ := cb
      refine op2_q (v := .int (q_at I h0 s h)) hv ?_ ?_
      · intro Q hQ
        rw [e_S_where, s_S_isSleeper ht, eZ]
        try simp (config := {maxSteps := 1000000}) (disch := omega) only [nI_add, nI_1, am_mulN, nI_clamp, am_gI, am_ifd, am_ifn, am_asIe, am_asLe, nI_leI, nI_ltI, nI_eq, am_neg1, am_neg1b, bo_t ((am_irng (k := 0) (x := nI s) rfl (by omega)).mpr ⟨s, hs, rfl⟩)]
        rw [bo_t (by omega), e_S_where_5, s_S_isAhead, e49]
        try simp (config := {maxSteps := 1000000}) (disch := omega) only [nI_add, nI_1, am_mulN, nI_clamp, am_gI, am_ifd, am_ifn, am_asIe, am_asLe, nI_leI, nI_ltI, nI_eq, am_neg1, am_neg1b]
        rw [if_neg (by omega), bo_t (by omega), e_S_where_13 ht]
        try simp (config := {maxSteps := 1000000}) (disch := omega) only [nI_add, nI_1, am_mulN, nI_clamp, am_gI, am_ifd, am_ifn, am_asIe, am_asLe, nI_leI, nI_ltI, nI_eq, am_neg1, am_neg1b]
        rw [if_neg (by omega)]
        refine s_T_goTonight hv e49 h12 ?_
        intro I' J' g1 g2 g3 g4
        rw [e_S_where_29, s_N_stood (by omega) hh2]
        try simp (config := {maxSteps := 1000000}) (disch := omega) only [nI_add, nI_1, am_mulN, nI_clamp, am_gI, am_ifd, am_ifn, am_asIe, am_asLe, nI_leI, nI_ltI, nI_eq, am_neg1, am_neg1b]
        rw [e_S_where_38]
        have := g3 (h - h0) (by omega) s hs
        rw [show h0 + (h - h0) = h by omega] at this
        rw [this]
        exact hQ _ _ _ g1 ⟨hv.1.1, hv.1.2.1, hv.1.2.2.1, hv.1.2.2.2.1, ht, by omega, by omega⟩ rfl g2
      · intro r' I' J' hv' he
        obtain ⟨rt', rs', rd', rl', rx', nt', nw', nf'⟩ := r'
        intro Q hQ
        have hZ' : I' 95 2 = nI (m_nZ I) := by rw [he 95 (by omega)]; exact hZ
        have e118' : I' 118 0 = nI h0 := by rw [he 118 (by omega)]; exact e118
        rw [e_M_where, s_M_isSleeper, am_uN (by omega), hZ']
        try simp (config := {maxSteps := 1000000}) (disch := omega) only [nI_add, nI_1, am_mulN, nI_clamp, am_gI, am_ifd, am_ifn, am_asIe, am_asLe, nI_leI, nI_ltI, nI_eq, am_neg1, am_neg1b]
        rw [bo_t (by omega), e_M_where_10, s_M_isTonight, am_uN (by omega), e118']
        try simp (config := {maxSteps := 1000000}) (disch := omega) only [nI_add, nI_1, am_mulN, nI_clamp, am_gI, am_ifd, am_ifn, am_asIe, am_asLe, nI_leI, nI_ltI, nI_eq, am_neg1, am_neg1b]
        rw [if_neg (by omega), bo_t (by omega), e_M_where_18]
        try simp (config := {maxSteps := 1000000}) (disch := omega) only [nI_add, nI_1, am_mulN, nI_clamp, am_gI, am_ifd, am_ifn, am_asIe, am_asLe, nI_leI, nI_ltI, nI_eq, am_neg1, am_neg1b]
        rw [if_neg (by omega)]
        refine s_M_tonightI hv' e118' h12 ?_
        intro I2 J2 g1 g2 g3 g4 g5
        rw [e_M_where_27]
        try simp (config := {maxSteps := 1000000}) (disch := omega) only [nI_add, nI_1, am_mulN, nI_clamp, am_gI, am_ifd, am_ifn, am_asIe, am_asLe, nI_leI, nI_ltI, nI_eq, am_neg1, am_neg1b]
        rw [g5 s h (by rw [g_nZ he]; exact hs) hh1 hh2, g_q_at he]
        exact hQ _ _ g1 g2
    · have nb : ¬ (nI h0 ≤ b ∧ b < nI 12) := fun g => cb ((iv_hr h12).mp g)
      refine op2_q (v := .int (-nI 1)) hv (iv_ans hv ?_) ?_
      · intro Q hQ
        rw [e_S_where, s_S_isSleeper ht, eZ]
        try simp (config := {maxSteps := 1000000}) (disch := omega) only [nI_add, nI_1, am_mulN, nI_clamp, am_gI, am_ifd, am_ifn, am_asIe, am_asLe, nI_leI, nI_ltI, nI_eq, am_neg1, am_neg1b]
        rw [bo_t (by omega), e_S_where_5, s_S_isAhead, e49]
        try simp (config := {maxSteps := 1000000}) (disch := omega) only [nI_add, nI_1, am_mulN, nI_clamp, am_gI, am_ifd, am_ifn, am_asIe, am_asLe, nI_leI, nI_ltI, nI_eq, am_neg1, am_neg1b]
        rw [if_neg (by omega), bo_f nb, e_S_where_13 ht]
        try simp (config := {maxSteps := 1000000}) (disch := omega) only [nI_add, nI_1, am_mulN, nI_clamp, am_gI, am_ifd, am_ifn, am_asIe, am_asLe, nI_leI, nI_ltI, nI_eq, am_neg1, am_neg1b, if_true]
        exact hQ
      · intro r' I' J' hv' he
        refine iv_mans ?_
        intro Q hQ
        have hZ' : I' 95 2 = nI (m_nZ I) := by rw [he 95 (by omega)]; exact hZ
        have e118' : I' 118 0 = nI h0 := by rw [he 118 (by omega)]; exact e118
        rw [e_M_where, s_M_isSleeper, am_uN (by omega), hZ']
        try simp (config := {maxSteps := 1000000}) (disch := omega) only [nI_add, nI_1, am_mulN, nI_clamp, am_gI, am_ifd, am_ifn, am_asIe, am_asLe, nI_leI, nI_ltI, nI_eq, am_neg1, am_neg1b]
        rw [bo_t (by omega), e_M_where_10, s_M_isTonight, am_uN (by omega), e118']
        try simp (config := {maxSteps := 1000000}) (disch := omega) only [nI_add, nI_1, am_mulN, nI_clamp, am_gI, am_ifd, am_ifn, am_asIe, am_asLe, nI_leI, nI_ltI, nI_eq, am_neg1, am_neg1b]
        rw [if_neg (by omega), bo_f nb, e_M_where_18]
        try simp (config := {maxSteps := 1000000}) (disch := omega) only [nI_add, nI_1, am_mulN, nI_clamp, am_gI, am_ifd, am_ifn, am_asIe, am_asLe, nI_leI, nI_ltI, nI_eq, am_neg1, am_neg1b, if_true]
        exact hQ
  · have na : ¬ (nI 0 ≤ a ∧ a < nI (m_nZ I)) := fun g => ca ((am_irng (k := 0) rfl (by omega)).mp g)
    refine op2_q (v := .int (-nI 1)) hv (iv_ans hv ?_) ?_
    · intro Q hQ
      rw [e_S_where, s_S_isSleeper ht, eZ, bo_f na]
      try simp (config := {maxSteps := 1000000}) (disch := omega) only [nI_add, nI_1, am_mulN, nI_clamp, am_gI, am_ifd, am_ifn, am_asIe, am_asLe, nI_leI, nI_ltI, nI_eq, am_neg1, am_neg1b]
      rw [e_S_where_5]
      try simp (config := {maxSteps := 1000000}) (disch := omega) only [nI_add, nI_1, am_mulN, nI_clamp, am_gI, am_ifd, am_ifn, am_asIe, am_asLe, nI_leI, nI_ltI, nI_eq, am_neg1, am_neg1b, if_true]
      exact hQ
    · intro r' I' J' hv' he
      refine iv_mans ?_
      intro Q hQ
      have hZ' : I' 95 2 = nI (m_nZ I) := by rw [he 95 (by omega)]; exact hZ
      rw [e_M_where, s_M_isSleeper, am_uN (by omega), hZ', bo_f na]
      try simp (config := {maxSteps := 1000000}) (disch := omega) only [nI_add, nI_1, am_mulN, nI_clamp, am_gI, am_ifd, am_ifn, am_asIe, am_asLe, nI_leI, nI_ltI, nI_eq, am_neg1, am_neg1b]
      rw [e_M_where_10]
      try simp (config := {maxSteps := 1000000}) (disch := omega) only [nI_add, nI_1, am_mulN, nI_clamp, am_gI, am_ifd, am_ifn, am_asIe, am_asLe, nI_leI, nI_ltI, nI_eq, am_neg1, am_neg1b, if_true]
      exact hQ
end
