/-! ===== L3: keep, back ===== -/
section
variable {d N : Nat} {Q : Value → am_H → Prop} {r : am_rho} {I : Nat → Nat → Int32} {J : Nat → Nat → Int64}
theorem cw_cong {M C C' W : Nat → Nat → Int32} (h : ∀ i j, i ≤ 5 → C' i j = C i j) (g1 : cw_rel M C W) : cw_rel M C' W := by
  obtain ⟨r0, r1, r2, r3, r4, r5, r6, r7, r8, r9⟩ := g1
  refine ⟨?_, ?_, ?_, ?_, ?_, ?_, ?_, ?_, ?_, ?_⟩
  · rw [h _ _ (by omega)]; exact r0
  · rw [h _ _ (by omega)]; exact r1
  · rw [h _ _ (by omega)]; exact r2
  · rw [h _ _ (by omega)]; exact r3
  · intro k hk; rw [h _ _ (by omega)]; exact r4 k hk
  · intro k hk l hl; rw [h _ _ (by omega)]; exact r5 k hk l hl
  · intro k hk l hl; rw [h _ _ (by omega)]; exact r6 k hk l hl
  · intro l hl; rw [h _ _ (by omega)]; exact r7 l hl
  · intro l hl; rw [h _ _ (by omega)]; exact r8 l hl
  · intro k hk; rw [h _ _ (by omega)]; exact r9 k hk
theorem wq_n {I : Nat → Nat → Int32} {n : Nat} {W : Nat → Nat → Int32} {v : Int32} {F T : Nat → Int32} : wq (m_g (m_M I n W v F T) n) W :=
  ⟨fun f hf => m_gn (by omega) (by omega) (by omega) (by omega), fun s hs => m_gn (by omega) (by omega) (by omega) (by omega), fun f l h1 h2 h3 => m_gn (by omega) (by omega) (by omega) (by omega)⟩
theorem op_keep (hv : i_inv r I J) : op2 (d + 12) N 146 274 [] r I J := by
  have hok := hv.2.1.1.2.1
  have hnow := hv.2.2.2.1
  obtain ⟨n1, n2, n3⟩ := hnow
  have bZ := hok.2.2.1.2
  have bL := hok.2.2.2.1.2
  have bH := hok.1.2
  intro Q hQ
  have ehp : am_hp N r I J = am_hp N r (c_C I 55 (c_w I 55) (I 63) (I 68)) J := by rw [c_wid]
  rw [e_S_keep]
  conv => arg 4; rw [ehp]
  rw [s_W_become (by omega) (by omega) (by omega), c_cpw, e_S_keep_11]
  generalize hI1 : am_u (c_C I 55 (c_cp (c_w I 55) (c_w I 49)) (I 63) (I 68)) 1 7 (nI 1) = I1
  have r1 : ∀ a, a ≠ 1 → (a < 55 ∨ 60 < a) → I1 a = I a := by
    intro a h1 h2
    rw [← hI1, am_uRow (by omega)]
    funext j
    by_cases c : a = 63
    · subst c; rfl
    · by_cases c2 : a = 68
      · subst c2; rfl
      · exact c_Co (by omega)
  have r11 : ∀ k, k ≠ 7 → I1 1 k = I 1 k := by
    intro k hk
    rw [← hI1, am_uN (by omega), c_Co (by omega)]
  have r17 : I1 1 7 = nI 1 := by rw [← hI1, am_uE]
  have r55 : ∀ i j, i ≤ 5 → c_w I1 55 i j = c_cp (c_w I 55) (c_w I 49) i j := by
    intro i j hi
    rw [c_wI hi, ← hI1, am_uN (by omega), c_Ci (by omega) hi]
  rw [e_M_keep, r1 49 (by omega) (by omega), m_idM (n := 2), s_M_copies (by omega) (by omega) (by omega), e_M_keep_11]
  generalize hI2 : am_u (m_M (am_u I1 93 0 (nI 0)) 2 (m_g (am_u I1 93 0 (nI 0)) 0) (am_u I1 93 0 (nI 0) 93 39) (am_u I1 93 0 (nI 0) 128) (am_u I1 93 0 (nI 0) 129)) 93 50 (nI 1) = I2
  have e39 : am_u I1 93 0 (nI 0) 93 39 = I1 93 39 := am_uN (by omega)
  have gI1 : ∀ m, m_g I1 m = m_g I m := fun m => g_row (fun a h1 h2 => r1 a (by omega) (by omega))
  have r2 : ∀ a, a ≠ 93 → (a < 118 ∨ 127 < a) → I2 a = I1 a := by
    intro a h1 h2
    funext j
    rw [← hI2, am_uN (by omega)]
    by_cases c : a = 128
    · subst c; rw [m_MF, am_uN (by omega)]
    · by_cases c2 : a = 129
      · subst c2; rw [m_MT, am_uN (by omega)]
      · rw [m_Mo (by omega), am_uN (by omega)]
  have c2 : ∀ k, k ≠ 0 → k ≠ 50 → I2 93 k = I 93 k := by
    intro k h0 h50
    rw [← hI2, am_uN (by omega)]
    by_cases c : k = 39
    · subst c; rw [m_Mv, e39, r1 93 (by omega) (by omega)]
    · rw [m_Mo (by omega), am_uN (by omega), r1 93 (by omega) (by omega)]
  have c50 : I2 93 50 = nI 1 := by rw [← hI2, am_uE]
  have g2 : ∀ m, m ≠ 2 → m_g I2 m = m_g I m := by
    intro m hm
    rw [← gI1 m, ← hI2]
    have : m_g (am_u (m_M (am_u I1 93 0 (nI 0)) 2 (m_g (am_u I1 93 0 (nI 0)) 0) (am_u I1 93 0 (nI 0) 93 39) (am_u I1 93 0 (nI 0) 128) (am_u I1 93 0 (nI 0) 129)) 93 50 (nI 1)) m = m_g (m_M (am_u I1 93 0 (nI 0)) 2 (m_g (am_u I1 93 0 (nI 0)) 0) (am_u I1 93 0 (nI 0) 93 39) (am_u I1 93 0 (nI 0) 128) (am_u I1 93 0 (nI 0) 129)) m := g_row (fun a h1 h2 => am_uRow (by omega))
    rw [this, m_gX hm, th0_g]
  have g22 : wq (m_g I2 2) (m_g I 0) := by
    rw [← gI1 0, ← hI2]
    have : m_g (am_u (m_M (am_u I1 93 0 (nI 0)) 2 (m_g (am_u I1 93 0 (nI 0)) 0) (am_u I1 93 0 (nI 0) 93 39) (am_u I1 93 0 (nI 0) 128) (am_u I1 93 0 (nI 0) 129)) 93 50 (nI 1)) 2 = m_g (m_M (am_u I1 93 0 (nI 0)) 2 (m_g (am_u I1 93 0 (nI 0)) 0) (am_u I1 93 0 (nI 0) 93 39) (am_u I1 93 0 (nI 0) 128) (am_u I1 93 0 (nI 0) 129)) 2 := g_row (fun a h1 h2 => am_uRow (by omega))
    rw [this]
    have := wq_n (I := am_u I1 93 0 (nI 0)) (n := 2) (W := m_g (am_u I1 93 0 (nI 0)) 0) (v := am_u I1 93 0 (nI 0) 93 39) (F := am_u I1 93 0 (nI 0) 128) (T := am_u I1 93 0 (nI 0) 129)
    rw [th0_g] at this ⊢
    exact this
  have hte : te I I2 := fun a h1 h2 => by rw [r2 a (by omega) (by omega), r1 a (by omega) (by omega)]
  have ev : am_u (m_M (am_u I1 93 0 (nI 0)) 2 (m_g (am_u I1 93 0 (nI 0)) 0) (am_u I1 93 0 (nI 0) 93 39) (am_u I1 93 0 (nI 0) 128) (am_u I1 93 0 (nI 0) 129)) 93 50 (nI 1) 119 0 = I 49 1 := by
    rw [am_uN (by omega), m_Mx (by omega) (by omega) (by omega) (by omega) (by omega), am_uN (by omega), r1 119 (by omega) (by omega)]
    have := n1.2.1
    rw [c_wI (by omega)] at this
    exact this.symm
  rw [hI2] at ev
  rw [ev, m_Jid]
  have e49 : I1 49 1 = I 49 1 := by rw [r1 49 (by omega) (by omega)]
  refine hQ _ _ _ _ (inv_row hv hte (fun a h1 h2 => by rw [r2 a (by omega) (by omega), r1 a (by omega) (by omega)]) (fun a h => by rw [r2 a (by omega) (by omega), r1 a (by omega) (by omega)]) (by rw [r2 63 (by omega) (by omega), r1 63 (by omega) (by omega)]) rfl (fun k h1 h2 => c2 k (by omega) (by omega)) ?_ ?_ ?_ ?_ ?_ ?_)
  · exact f_now hok hte (fun a h1 h2 => by rw [r2 a (by omega) (by omega), r1 a (by omega) (by omega)]) (by rw [g2 0 (by omega)]; exact wq_refl) ⟨n1, n2, n3⟩
  · refine ⟨true, ?_, ?_, ?_⟩
    · rw [r2 1 (by omega) (by omega)]; exact r17
    · exact c50
    · intro _
      refine ⟨?_, ?_, ?_⟩
      · refine e_cw hte (cw_q bZ bL bH (wq_symm g22) ?_)
        refine cw_cong (C := c_cp (c_w I 55) (c_w I 49)) ?_ (cw_cp hok n1)
        intro i j hi
        rw [← r55 i j hi, c_wI hi, c_wI hi, r2 _ (by omega) (by omega)]
      · rw [g22.1 3 (by omega), r2 55 (by omega) (by omega)]
        have := r55 0 5 (by omega)
        rw [c_wI (by omega)] at this
        rw [show (55 : Nat) = 55 + 0 from rfl, this]
        unfold c_cp
        rw [if_pos (by omega), c_wI (by omega)]
        exact n2
      · exact e_okX hte (okX_q bZ bL bH (wq_symm g22) n3)
  · refine f_und hok hte (by rw [r2 77 (by omega) (by omega), r1 77 (by omega) (by omega)]) (fun a h1 h2 => by rw [r2 a (by omega) (by omega), r1 a (by omega) (by omega)]) (c2 51 (by omega) (by omega)) ?_ hv.2.2.2.2.2.1
    intro n h1 h2 h3
    rw [g2 n h2]; exact wq_refl
  · exact f_sig hte (fun a h => by rw [r2 a (by omega) (by omega), r1 a (by omega) (by omega)]) (c2 69 (by omega) (by omega)) (c2 70 (by omega) (by omega)) hv.2.2.2.2.2.2.1
  · exact f_tap (by rw [r2 1 (by omega) (by omega), r11 1 (by omega)]) (c2 2 (by omega) (by omega)) (by rw [r2 94 (by omega) (by omega), r1 94 (by omega) (by omega)]) (by rw [r2 2 (by omega) (by omega), r1 2 (by omega) (by omega)]) hv.2.2.2.2.2.2.2.1
  · exact f_flt ⟨by rw [r2 43 (by omega) (by omega), r1 43 (by omega) (by omega)], by rw [r2 43 (by omega) (by omega), r1 43 (by omega) (by omega)]⟩ ⟨c2 33 (by omega) (by omega), c2 34 (by omega) (by omega)⟩ hv.2.2.2.2.2.2.2.2.1
end
