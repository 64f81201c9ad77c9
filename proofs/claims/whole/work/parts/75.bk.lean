/-! ===== L3: back ===== -/
section
variable {d N : Nat} {Q : Value → am_H → Prop} {r : am_rho} {I : Nat → Nat → Int32} {J : Nat → Nat → Int64}
theorem op_back (hv : i_inv r I J) : op2 (d + 12) N 147 275 [] r I J := by
  have hok := hv.2.1.1.2.1
  obtain ⟨b, b1, b2, b3⟩ := hv.2.2.2.2.1
  have bZ := hok.2.2.1.2
  have bL := hok.2.2.2.1.2
  have bH := hok.1.2
  cases b with
  | false =>
    refine op2_q (v := .int (-nI 1)) hv (iv_ans hv ?_) ?_
    · intro Q hQ
      rw [e_S_back, b1, am_ifn, if_pos (show nI (Bool.toNat false) = nI 0 from rfl)]
      exact hQ
    · intro r' I' J' hv' he
      refine iv_mans ?_
      intro Q hQ
      rw [e_M_back, am_uN (by omega), he 93 (by omega), b2, am_ifn, if_pos (show nI (Bool.toNat false) = nI 0 from rfl)]
      exact hQ
  | true =>
    obtain ⟨n1, n2, n3⟩ := b3 rfl
    intro Q hQ
    have ehp : am_hp N r I J = am_hp N r (c_C I 49 (c_w I 49) (I 63) (I 68)) J := by rw [c_wid]
    have nz : ¬ nI (Bool.toNat true) = nI 0 := by decide +kernel
    rw [e_S_back, b1, am_ifn, if_neg nz]
    conv => arg 4; rw [ehp]
    rw [s_W_become (by omega) (by omega) (by omega), c_cpw, e_S_back_20]
    generalize hI1 : am_u (c_C I 49 (c_cp (c_w I 49) (c_w I 55)) (I 63) (I 68)) 77 0 (nI 0) = I1
    have r1 : ∀ a, a ≠ 77 → (a < 49 ∨ 54 < a) → I1 a = I a := by
      intro a h1 h2
      rw [← hI1, am_uRow (by omega)]
      funext j
      by_cases c : a = 63
      · subst c; rfl
      · by_cases c2 : a = 68
        · subst c2; rfl
        · exact c_Co (by omega)
    have r17 : I1 77 0 = nI 0 := by rw [← hI1, am_uE]
    have r49 : ∀ i j, i ≤ 5 → c_w I1 49 i j = c_cp (c_w I 49) (c_w I 55) i j := by
      intro i j hi
      rw [c_wI hi, ← hI1, am_uN (by omega), c_Ci (by omega) hi]
    have e491 : I1 49 1 = I 119 2 := by
      have := r49 0 1 (by omega)
      rw [c_wI (by omega)] at this
      rw [show (49 : Nat) = 49 + 0 from rfl, this]
      unfold c_cp
      rw [if_pos (by omega)]
      exact n1.2.1
    rw [e_M_back, am_uN (by omega), r1 93 (by omega) (by omega), b2, am_ifn, if_neg nz, m_idM (n := 0), s_M_copies (by omega) (by omega) (by omega), e_M_back_20]
    generalize hI2 : am_u (m_M (am_u I1 93 0 (nI 0)) 0 (m_g (am_u I1 93 0 (nI 0)) 2) (am_u I1 93 0 (nI 0) 93 39) (am_u I1 93 0 (nI 0) 128) (am_u I1 93 0 (nI 0) 129)) 93 51 (nI 0) = I2
    have e39 : am_u I1 93 0 (nI 0) 93 39 = I1 93 39 := am_uN (by omega)
    have gI1 : ∀ m, m_g I1 m = m_g I m := fun m => g_row (fun a h1 h2 => r1 a (by omega) (by omega))
    have r2 : ∀ a, a ≠ 93 → (a < 118 ∨ 127 < a) → I2 a = I1 a := by
      intro a h1 h2
      funext j
      rw [← hI2, am_uN (by omega)]
      by_cases c : a = 128
      · subst c; rw [m_MF, am_uN (by omega)]
      · by_cases c2 : a = 129
        · subst c2; rw [m_MT, am_uN (by omega)]
        · rw [m_Mo (by omega), am_uN (by omega)]
    have c2 : ∀ k, k ≠ 0 → k ≠ 51 → I2 93 k = I 93 k := by
      intro k h0 h50
      rw [← hI2, am_uN (by omega)]
      by_cases c : k = 39
      · subst c; rw [m_Mv, e39, r1 93 (by omega) (by omega)]
      · rw [m_Mo (by omega), am_uN (by omega), r1 93 (by omega) (by omega)]
    have c51 : I2 93 51 = nI 0 := by rw [← hI2, am_uE]
    have g2 : ∀ m, m ≠ 0 → m_g I2 m = m_g I m := by
      intro m hm
      rw [← gI1 m, ← hI2]
      have : m_g (am_u (m_M (am_u I1 93 0 (nI 0)) 0 (m_g (am_u I1 93 0 (nI 0)) 2) (am_u I1 93 0 (nI 0) 93 39) (am_u I1 93 0 (nI 0) 128) (am_u I1 93 0 (nI 0) 129)) 93 51 (nI 0)) m = m_g (m_M (am_u I1 93 0 (nI 0)) 0 (m_g (am_u I1 93 0 (nI 0)) 2) (am_u I1 93 0 (nI 0) 93 39) (am_u I1 93 0 (nI 0) 128) (am_u I1 93 0 (nI 0) 129)) m := g_row (fun a h1 h2 => am_uRow (by omega))
      rw [this, m_gX hm, th0_g]
    have g20 : wq (m_g I2 0) (m_g I 2) := by
      rw [← gI1 2, ← hI2]
      have : m_g (am_u (m_M (am_u I1 93 0 (nI 0)) 0 (m_g (am_u I1 93 0 (nI 0)) 2) (am_u I1 93 0 (nI 0) 93 39) (am_u I1 93 0 (nI 0) 128) (am_u I1 93 0 (nI 0) 129)) 93 51 (nI 0)) 0 = m_g (m_M (am_u I1 93 0 (nI 0)) 0 (m_g (am_u I1 93 0 (nI 0)) 2) (am_u I1 93 0 (nI 0) 93 39) (am_u I1 93 0 (nI 0) 128) (am_u I1 93 0 (nI 0) 129)) 0 := g_row (fun a h1 h2 => am_uRow (by omega))
      rw [this]
      have := wq_n (I := am_u I1 93 0 (nI 0)) (n := 0) (W := m_g (am_u I1 93 0 (nI 0)) 2) (v := am_u I1 93 0 (nI 0) 93 39) (F := am_u I1 93 0 (nI 0) 128) (T := am_u I1 93 0 (nI 0) 129)
      rw [th0_g] at this ⊢
      exact this
    have hte : te I I2 := fun a h1 h2 => by rw [r2 a (by omega) (by omega), r1 a (by omega) (by omega)]
    have ev : I2 119 0 = I1 49 1 := by
      rw [e491]
      exact g20.1 1 (by omega)
    rw [ev, m_Jid]
    refine hQ _ _ _ _ (inv_fr2 hv ⟨?_, ?_, ?_⟩ hv.1 rfl ?_ ?_ ?_)
    · intro a ha
      unfold fr2_row at ha
      rw [r2 a (by omega) (by omega), r1 a (by omega) (by omega)]
    · intro k k0 _ k51 _ _ _ _
      exact c2 k k0 k51
    · rw [g2 2 (by omega)]; exact wq_refl
    · rw [r2 63 (by omega) (by omega), r1 63 (by omega) (by omega)]
      exact hv.2.2.2.2.2.2.2.2.2
    · refine ⟨?_, ?_, ?_⟩
      · refine e_cw hte (cw_q bZ bL bH (wq_symm g20) ?_)
        refine cw_cong (C := c_cp (c_w I 49) (c_w I 55)) ?_ (cw_cp hok n1)
        intro i j hi
        rw [← r49 i j hi, c_wI hi, c_wI hi, r2 _ (by omega) (by omega)]
      · rw [g20.1 3 (by omega), r2 49 (by omega) (by omega)]
        have := r49 0 5 (by omega)
        rw [c_wI (by omega)] at this
        rw [show (49 : Nat) = 49 + 0 from rfl, this]
        unfold c_cp
        rw [if_pos (by omega), c_wI (by omega)]
        exact n2
      · exact e_okX hte (okX_q bZ bL bH (wq_symm g20) n3)
    · refine ⟨0, by omega, ?_, c51, fun k hk => by omega⟩
      rw [r2 77 (by omega) (by omega)]; exact r17
end
