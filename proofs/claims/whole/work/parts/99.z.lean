/-! ===== L3: a world begins, out of a town told ===== -/
section
variable {d N w : Nat} {Q : Value → am_H → Prop} {r : am_rho} {I : Nat → Nat → Int32} {J : Nat → Nat → Int64}
theorem s_W_beginV {t : Nat} {W V : Nat → Nat → Int32} (hw : w = 49 ∨ w = 55 ∨ w = 82) (hT : t_pre V t) (hV : ∀ a, 2 < a ∧ a < 43 → V a = I a)
    (hQ : ∀ I2, (∀ a, (a < w ∨ w + 5 < a) → I2 a = I a) → cw_rel V (c_w I2 w) (m_start V W) → I2 w 5 = nI 0 → (∀ h, h < 8 → I2 (w + 5) h = I (t + 13) h) → Q .null (am_hp N r I2 J)) :
    am_D (d + 2) 100 [.ref w, .ref t] (am_hp N r I J) Q := by
  obtain ⟨⟨ht, hok, hst, hokL⟩, ⟨e0, e1, e2, e3, e4, e6⟩, ecat, ehn, esn, ese, ewy, esl, ele, ema, ela, ebe, elw, eus, ekn, ero, _⟩ := hT
  rw [hV t (by omega)] at e3 e6
  rw [hV (t + 6) (by omega)] at esl
  rw [hV (t + 9) (by omega)] at ele
  rw [hV (t + 13) (by omega)] at ebe
  obtain ⟨⟨eH, hH8⟩, _, ⟨eZ, hZ5⟩, ⟨eL, hL8⟩, _, hB, _⟩ := hok
  obtain ⟨w1, w2, w3, w4, w5⟩ := w_TT (N := N) hw
  obtain ⟨t6, t13, _, _⟩ := t_TT (N := N) ht
  rw [e_World_begin hw ht]
  rw [s_901 t6 w1 (by omega) (by omega) (by omega) (by omega), e_World_begin_47 hw ht, s_901 t13 w5 (by omega) (by omega) (by omega) (by omega), e_World_begin_62 hw ht, s_J_fill w2 (by omega), e_World_begin_70 hw ht, s_J_fill w3 (by omega), e_World_begin_78 hw ht, s_J_fill w4 (by omega), e_World_begin_86 hw ht]
  -- the heap before the letters are laid
  have hrow : ∀ a, (a < w ∨ w + 5 < a) → am_fl (am_fl (am_fl (am_cyI (am_cyI (am_u (am_u (am_u (am_u (am_u (am_u I w 0 (nI 0)) w 1 (nI 0)) w 2 ((am_u (am_u I w 0 (nI 0)) w 1 (nI 0)) t 6)) w 3 (nI 0)) w 4 (nI 0)) w 5 (nI 0)) (t + 6) 0 (w + 1) 0 5) (t + 13) 0 (w + 5) 0 8) (w + 2) 5 (nI 0)) (w + 3) 8 (nI 0)) (w + 4) 8 (-nI 1) a = I a := by
    intro a ha
    funext j
    unfold am_fl am_cyI
    rw [if_neg (by omega), if_neg (by omega), if_neg (by omega), if_neg (by omega), if_neg (by omega), am_uN (by omega), am_uN (by omega), am_uN (by omega), am_uN (by omega), am_uN (by omega), am_uN (by omega)]
  have h0 : ∀ j, j < 6 → am_fl (am_fl (am_fl (am_cyI (am_cyI (am_u (am_u (am_u (am_u (am_u (am_u I w 0 (nI 0)) w 1 (nI 0)) w 2 ((am_u (am_u I w 0 (nI 0)) w 1 (nI 0)) t 6)) w 3 (nI 0)) w 4 (nI 0)) w 5 (nI 0)) (t + 6) 0 (w + 1) 0 5) (t + 13) 0 (w + 5) 0 8) (w + 2) 5 (nI 0)) (w + 3) 8 (nI 0)) (w + 4) 8 (-nI 1) w j = if j = 2 then V 95 5 else nI 0 := by
    intro j hj
    unfold am_fl am_cyI
    rw [if_neg (by omega), if_neg (by omega), if_neg (by omega), if_neg (by omega), if_neg (by omega)]
    have ew : (am_u (am_u I w 0 (nI 0)) w 1 (nI 0)) t 6 = V 95 5 := by rw [am_uN (by omega), am_uN (by omega)]; exact e6
    rw [ew]
    rcases (show j = 0 ∨ j = 1 ∨ j = 2 ∨ j = 3 ∨ j = 4 ∨ j = 5 by omega) with rfl | rfl | rfl | rfl | rfl | rfl
    · rw [am_uN (by omega), am_uN (by omega), am_uN (by omega), am_uN (by omega), am_uN (by omega), am_uE, if_neg (by omega)]
    · rw [am_uN (by omega), am_uN (by omega), am_uN (by omega), am_uN (by omega), am_uE, if_neg (by omega)]
    · rw [am_uN (by omega), am_uN (by omega), am_uN (by omega), am_uE, if_pos rfl]
    · rw [am_uN (by omega), am_uN (by omega), am_uE, if_neg (by omega)]
    · rw [am_uN (by omega), am_uE, if_neg (by omega)]
    · rw [am_uE, if_neg (by omega)]
  have h1 : ∀ j, j < 5 → am_fl (am_fl (am_fl (am_cyI (am_cyI (am_u (am_u (am_u (am_u (am_u (am_u I w 0 (nI 0)) w 1 (nI 0)) w 2 ((am_u (am_u I w 0 (nI 0)) w 1 (nI 0)) t 6)) w 3 (nI 0)) w 4 (nI 0)) w 5 (nI 0)) (t + 6) 0 (w + 1) 0 5) (t + 13) 0 (w + 5) 0 8) (w + 2) 5 (nI 0)) (w + 3) 8 (nI 0)) (w + 4) 8 (-nI 1) (w + 1) j = I (t + 6) j := by
    intro j hj
    unfold am_fl am_cyI
    rw [if_neg (by omega), if_neg (by omega), if_neg (by omega), if_neg (by omega), if_pos (by omega), show 0 + (j - 0) = j by omega, am_uN (by omega), am_uN (by omega), am_uN (by omega), am_uN (by omega), am_uN (by omega), am_uN (by omega)]
  have h2 : ∀ j, j < 5 → am_fl (am_fl (am_fl (am_cyI (am_cyI (am_u (am_u (am_u (am_u (am_u (am_u I w 0 (nI 0)) w 1 (nI 0)) w 2 ((am_u (am_u I w 0 (nI 0)) w 1 (nI 0)) t 6)) w 3 (nI 0)) w 4 (nI 0)) w 5 (nI 0)) (t + 6) 0 (w + 1) 0 5) (t + 13) 0 (w + 5) 0 8) (w + 2) 5 (nI 0)) (w + 3) 8 (nI 0)) (w + 4) 8 (-nI 1) (w + 2) j = nI 0 := by
    intro j hj
    unfold am_fl
    rw [if_neg (by omega), if_neg (by omega), if_pos (by omega)]
  have h3 : ∀ j, j < 8 → am_fl (am_fl (am_fl (am_cyI (am_cyI (am_u (am_u (am_u (am_u (am_u (am_u I w 0 (nI 0)) w 1 (nI 0)) w 2 ((am_u (am_u I w 0 (nI 0)) w 1 (nI 0)) t 6)) w 3 (nI 0)) w 4 (nI 0)) w 5 (nI 0)) (t + 6) 0 (w + 1) 0 5) (t + 13) 0 (w + 5) 0 8) (w + 2) 5 (nI 0)) (w + 3) 8 (nI 0)) (w + 4) 8 (-nI 1) (w + 3) j = nI 0 := by
    intro j hj
    unfold am_fl
    rw [if_neg (by omega), if_pos (by omega)]
  have h4 : ∀ j, j < 8 → am_fl (am_fl (am_fl (am_cyI (am_cyI (am_u (am_u (am_u (am_u (am_u (am_u I w 0 (nI 0)) w 1 (nI 0)) w 2 ((am_u (am_u I w 0 (nI 0)) w 1 (nI 0)) t 6)) w 3 (nI 0)) w 4 (nI 0)) w 5 (nI 0)) (t + 6) 0 (w + 1) 0 5) (t + 13) 0 (w + 5) 0 8) (w + 2) 5 (nI 0)) (w + 3) 8 (nI 0)) (w + 4) 8 (-nI 1) (w + 4) j = -nI 1 := by
    intro j hj
    unfold am_fl
    rw [if_pos (by omega)]
  have h5 : ∀ j, j < 8 → am_fl (am_fl (am_fl (am_cyI (am_cyI (am_u (am_u (am_u (am_u (am_u (am_u I w 0 (nI 0)) w 1 (nI 0)) w 2 ((am_u (am_u I w 0 (nI 0)) w 1 (nI 0)) t 6)) w 3 (nI 0)) w 4 (nI 0)) w 5 (nI 0)) (t + 6) 0 (w + 1) 0 5) (t + 13) 0 (w + 5) 0 8) (w + 2) 5 (nI 0)) (w + 3) 8 (nI 0)) (w + 4) 8 (-nI 1) (w + 5) j = I (t + 13) j := by
    intro j hj
    unfold am_fl am_cyI
    rw [if_neg (by omega), if_neg (by omega), if_neg (by omega), if_pos (by omega), show 0 + (j - 0) = j by omega, if_neg (by omega), am_uN (by omega), am_uN (by omega), am_uN (by omega), am_uN (by omega), am_uN (by omega), am_uN (by omega)]
  generalize am_fl (am_fl (am_fl (am_cyI (am_cyI (am_u (am_u (am_u (am_u (am_u (am_u I w 0 (nI 0)) w 1 (nI 0)) w 2 ((am_u (am_u I w 0 (nI 0)) w 1 (nI 0)) t 6)) w 3 (nI 0)) w 4 (nI 0)) w 5 (nI 0)) (t + 6) 0 (w + 1) 0 5) (t + 13) 0 (w + 5) 0 8) (w + 2) 5 (nI 0)) (w + 3) 8 (nI 0)) (w + 4) 8 (-nI 1) = I1 at hrow h0 h1 h2 h3 h4 h5 ⊢
  -- where a letter begins
  have hb : ∀ l, l < m_nL V → ∃ s h, s < m_nZ V ∧ h < m_nH V ∧ I (t + 9) l = nI s ∧ I (t + 6) s = nI h ∧ m_start V W 7 l = nI h := by
    intro l hl
    obtain ⟨s, hs, es⟩ := hokL l hl
    obtain ⟨h, hh, eh⟩ := hB s hs
    refine ⟨s, h, hs, hh, (ele l hl).1.trans es, (esl s hs).1.trans eh, ?_⟩
    show m_sta V W _ _ _ 7 l = _
    unfold m_sta
    rw [if_neg (by omega), if_neg (by omega), if_neg (by omega), if_pos (by omega), es, nI_clamp (by omega), eh]
  have lp : ∀ k j, m_nL V = j + k → ∀ I2, (∀ a, a ≠ w + 3 → I2 a = I1 a) → (∀ h, h < 8 → ∀ l, l < 32 → bt (I2 (w + 3) h) l = decide (l < j ∧ m_start V W 7 l = nI h)) → am_V (d + 1) Q 100 88 [some (.ref w), some (.ref t), some (.int (nI j))] [] (am_hp N r I2 J) := by
    intro k
    induction k with
    | zero =>
      intro j hj I2 g1 g2
      obtain rfl : j = m_nL V := by omega
      rw [e_World_begin_88 hw ht, g1 t (by omega), hrow t (by omega), e3, eL, am_ifd, if_pos (by rw [nI_leI (by omega) (by omega)]; omega)]
      have s0 : ∀ f, f < 5 → m_start V W f 0 = if f = 2 then V 95 5 else nI 0 := by
        intro f hf
        show m_sta V W _ _ _ f 0 = _
        unfold m_sta
        rw [if_pos (by omega)]
      have s6 : ∀ l, l < m_nL V → m_start V W 6 l = nI 0 := by
        intro l hl
        show m_sta V W _ _ _ 6 l = _
        unfold m_sta
        rw [if_neg (by omega), if_neg (by omega), if_pos (by omega)]
      refine hQ I2 (fun a ha => by rw [g1 a (by omega), hrow a ha]) ?_ (by rw [g1 w (by omega), h0 5 (by omega), if_neg (by omega)]) (fun h hh => by rw [g1 (w + 5) (by omega), h5 h hh])
      refine ⟨?_, ?_, ?_, ?_, ?_, ?_, ?_, ?_, ?_, ?_⟩
      · rw [c_wI (by omega), Nat.add_zero, g1 w (by omega), h0 0 (by omega), s0 0 (by omega)]
      · rw [c_wI (by omega), Nat.add_zero, g1 w (by omega), h0 1 (by omega), s0 1 (by omega)]
      · rw [c_wI (by omega), Nat.add_zero, g1 w (by omega), h0 2 (by omega), s0 2 (by omega)]
      · rw [c_wI (by omega), Nat.add_zero, g1 w (by omega), h0 3 (by omega), s0 4 (by omega)]; rfl
      · intro s hs
        rw [c_wI (by omega), g1 (w + 1) (by omega), h1 s (by omega), (esl s hs).1]
        show _ = m_sta V W _ _ _ 5 s
        unfold m_sta
        rw [if_neg (by omega), if_pos (by omega)]
      · intro s hs l hl
        rw [c_wI (by omega), g1 (w + 2) (by omega), h2 s hs, b_z]
        symm
        apply decide_eq_false
        intro h
        rw [s6 l h.1] at h
        exact n01 h.2.1
      · intro h hh l hl
        rw [c_wI (by omega), g2 h hh l hl]
        apply decide_eq_decide.mpr
        constructor
        · intro g; exact ⟨g.1, s6 l g.1, g.2⟩
        · intro g; exact ⟨g.1, g.2.2⟩
      · intro l hl
        rw [c_wI (by omega), Nat.add_zero, g1 w (by omega), h0 4 (by omega), if_neg (by omega), b_z]
        symm
        apply decide_eq_false
        intro h
        rw [s6 l h.1] at h
        exact n02 h.2
      · intro l hl
        rw [c_wI (by omega), g1 (w + 4) (by omega), h4 l (by omega)]
        show _ = m_sta V W _ _ _ 8 l
        unfold m_sta
        rw [if_neg (by omega), if_neg (by omega), if_neg (by omega), if_neg (by omega), if_pos (by omega)]
      · intro h hh
        rw [c_wI (by omega), g1 (w + 5) (by omega), h5 h (by omega), (ebe h hh).1]
        show _ = m_sta V W _ _ _ 9 h
        unfold m_sta
        rw [if_neg (by omega), if_neg (by omega), if_neg (by omega), if_neg (by omega), if_neg (by omega), if_pos (by omega)]
    | succ k ih =>
      intro j hj I2 g1 g2
      obtain ⟨s, h, hs, hh, es, eh, e7⟩ := hb j (by omega)
      have r9 : I2 (t + 9) j = nI s := by rw [g1 _ (by omega), hrow _ (by omega)]; exact es
      have r6 : I2 (t + 6) s = nI h := by rw [g1 _ (by omega), hrow _ (by omega)]; exact eh
      rw [e_World_begin_88 hw ht, g1 t (by omega), hrow t (by omega), e3, eL, am_ifd, if_neg (by rw [nI_leI (by omega) (by omega)]; omega), am_gI (by omega) (by omega), nI_clamp (show j < 2 ^ 31 by omega), r9, am_gI (by omega) (by omega), nI_clamp (show s < 2 ^ 31 by omega), r6, am_gI (by omega) (by omega), am_gI (by omega) (by omega), nI_clamp (show h < 2 ^ 31 by omega), am_pwe, show nI j + nI 1 = nI (j + 1) from nI_add _ _]
      refine ih (j + 1) (by omega) _ (fun a ha => by rw [am_uRow ha, g1 a ha]) ?_
      intro h' hh' l hl
      by_cases c : h' = h
      · subst c
        rw [am_uE, b_or, b_pw (by omega) hl, g2 h' hh' l hl]
        by_cases cl : l = j
        · subst cl
          rw [decide_eq_true rfl, Bool.or_true]
          symm
          exact decide_eq_true ⟨by omega, e7⟩
        · rw [decide_eq_false cl, Bool.or_false]
          apply decide_eq_decide.mpr
          constructor
          · intro g; exact ⟨by omega, g.2⟩
          · intro g; exact ⟨by omega, g.2⟩
      · rw [am_uN (by omega), g2 h' hh' l hl]
        apply decide_eq_decide.mpr
        constructor
        · intro g; exact ⟨by omega, g.2⟩
        · intro g
          refine ⟨?_, g.2⟩
          by_cases cl : l = j
          · subst cl
            have := g.2
            rw [e7] at this
            exact absurd ((nI_eq (by omega) (by omega)).mp this).symm c
          · omega
  refine lp (m_nL V) 0 (by omega) I1 (fun _ _ => rfl) ?_
  intro h hh l hl
  rw [h3 h hh, b_z]
  symm
  exact decide_eq_false (by omega)
end
