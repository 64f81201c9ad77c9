/-! ===== L3: worlds begin ===== -/
def m_sta (I W : Nat → Nat → Int32) (a b c : Nat) : Nat → Nat → Int32 := fun f k =>
  if f < 5 ∧ k = 0 then (if f = 2 then I 95 5 else nI 0)
  else if f = 5 ∧ k < a then I 104 k
  else if f = 6 ∧ k < b then nI 0
  else if f = 7 ∧ k < b then I 104 (I 107 k).toNatClampNeg
  else if f = 8 ∧ k < b then -nI 1
  else if f = 9 ∧ k < c then I 97 k
  else W f k
section
variable {d N n : Nat} {Q : Value → am_H → Prop} {r : am_rho} {I : Nat → Nat → Int32} {J : Nat → Nat → Int64} {W : Nat → Nat → Int32} {v : Int32} {F T : Nat → Int32}
theorem sta_e : m_sta I W (m_nZ I) (m_nL I) (m_nH I) = m_start I W := rfl
theorem sta_5 {a b c : Nat} : am_u (m_sta I W a b c) 5 a (I 104 a) = m_sta I W (a + 1) b c := by
  funext f k
  unfold am_u m_sta
  by_cases h : f = 5 ∧ k = a
  · rw [if_pos h, if_neg (by omega), if_pos (by omega), h.2]
  · have e : (f = 5 ∧ k < a + 1) = (f = 5 ∧ k < a) := propext (by omega)
    rw [if_neg h]
    simp only [e]
theorem sta_6 {a b c : Nat} : am_u (am_u (am_u (m_sta I W a b c) 6 b (nI 0)) 7 b (I 104 (I 107 b).toNatClampNeg)) 8 b (-nI 1) = m_sta I W a (b + 1) c := by
  funext f k
  unfold am_u m_sta
  by_cases h8 : f = 8 ∧ k = b
  · rw [if_pos h8, if_neg (by omega), if_neg (by omega), if_neg (by omega), if_neg (by omega), if_pos (by omega)]
  · rw [if_neg h8]
    by_cases h7 : f = 7 ∧ k = b
    · rw [if_pos h7, if_neg (by omega), if_neg (by omega), if_neg (by omega), if_pos (by omega), h7.2]
    · rw [if_neg h7]
      by_cases h6 : f = 6 ∧ k = b
      · rw [if_pos h6, if_neg (by omega), if_neg (by omega), if_pos (by omega)]
      · have e6 : (f = 6 ∧ k < b + 1) = (f = 6 ∧ k < b) := propext (by omega)
        have e7 : (f = 7 ∧ k < b + 1) = (f = 7 ∧ k < b) := propext (by omega)
        have e8 : (f = 8 ∧ k < b + 1) = (f = 8 ∧ k < b) := propext (by omega)
        rw [if_neg h6]
        simp only [e6, e7, e8]
theorem sta_9 {a b c : Nat} : am_u (m_sta I W a b c) 9 c (I 97 c) = m_sta I W a b (c + 1) := by
  funext f k
  unfold am_u m_sta
  by_cases h : f = 9 ∧ k = c
  · rw [if_pos h, if_neg (by omega), if_neg (by omega), if_neg (by omega), if_neg (by omega), if_neg (by omega), if_pos (by omega), h.2]
  · have e : (f = 9 ∧ k < c + 1) = (f = 9 ∧ k < c) := propext (by omega)
    rw [if_neg h]
    simp only [e]
theorem sta_0 : am_u (am_u (am_u (am_u (am_u W 0 0 (nI 0)) 1 0 (nI 0)) 2 0 (I 95 5)) 3 0 (nI 0)) 4 0 (nI 0) = m_sta I W 0 0 0 := by
  funext f k
  unfold am_u m_sta
  by_cases c : f < 5 ∧ k = 0
  · rw [if_pos c]
    obtain ⟨c1, rfl⟩ := c
    have : f = 0 ∨ f = 1 ∨ f = 2 ∨ f = 3 ∨ f = 4 := by omega
    rcases this with rfl | rfl | rfl | rfl | rfl <;> rfl
  · rw [if_neg (by omega), if_neg (by omega), if_neg (by omega), if_neg (by omega), if_neg (by omega), if_neg c, if_neg (by omega), if_neg (by omega), if_neg (by omega), if_neg (by omega), if_neg (by omega)]
theorem s_M_starts (hok : m_ok I) (hL : m_okL I) (hn : n < 23) : am_D (d + 1) 203 [.ref 93, .int (nI n)] (am_hp N r (m_M I n W v F T) J) Q = Q .null (am_hp N r (m_M I n (m_start I W) v F T) J) := by
  obtain ⟨⟨eH, hH8⟩, _, ⟨eZ, hZ5⟩, ⟨eL, hL8⟩, _⟩ := hok
  have l3 := am_up (P := fun j => am_V d Q 203 140 [some (.ref 93), some (.int (nI n)), some (.int (nI j))] [] (am_hp N r (m_M I n (m_sta I W (m_nZ I) (m_nL I) j) v F T) J)) (R := Q .null (am_hp N r (m_M I n (m_start I W) v F T) J)) (m_nH I)
    (by
      try dsimp only
      rw [e_M_starts_140]
      try simp (config := {maxSteps := 1000000}) (disch := omega) only [nI_add, nI_1, am_mulN, nI_clamp, am_gI, am_ifd, am_ifn, am_asIe, am_asLe, nI_leI, nI_ltI, nI_eq, am_neg1, am_neg1b, m_Mo, m_Mv, m_MF, m_MT, m_M0, m_M1, m_M2, m_M3, m_M4, m_M5, m_M6, m_M7, m_M8, m_M9, m_wv, m_w0, m_w1, m_w2, m_w3, m_w4, m_w5, m_w6, m_w7, m_w8, m_w9, m_wF, m_wT, m_Jn, m_Jw, m_Jo, m_un, m_uw, eH, Nat.le_refl, if_true]
      rfl)
    (by
      intro j hj
      try dsimp only
      rw [e_M_starts_140]
      try simp (config := {maxSteps := 1000000}) (disch := omega) only [nI_add, nI_1, am_mulN, nI_clamp, am_gI, am_ifd, am_ifn, am_asIe, am_asLe, nI_leI, nI_ltI, nI_eq, am_neg1, am_neg1b, m_Mo, m_Mv, m_MF, m_MT, m_M0, m_M1, m_M2, m_M3, m_M4, m_M5, m_M6, m_M7, m_M8, m_M9, m_wv, m_w0, m_w1, m_w2, m_w3, m_w4, m_w5, m_w6, m_w7, m_w8, m_w9, m_wF, m_wT, m_Jn, m_Jw, m_Jo, m_un, m_uw, eH, sta_9]
      rw [if_neg (by omega)])
  have l2 := am_up (P := fun j => am_V d Q 203 76 [some (.ref 93), some (.int (nI n)), some (.int (nI j))] [] (am_hp N r (m_M I n (m_sta I W (m_nZ I) j 0) v F T) J)) (R := Q .null (am_hp N r (m_M I n (m_start I W) v F T) J)) (m_nL I)
    (by
      try dsimp only
      rw [e_M_starts_76]
      try simp (config := {maxSteps := 1000000}) (disch := omega) only [nI_add, nI_1, am_mulN, nI_clamp, am_gI, am_ifd, am_ifn, am_asIe, am_asLe, nI_leI, nI_ltI, nI_eq, am_neg1, am_neg1b, m_Mo, m_Mv, m_MF, m_MT, m_M0, m_M1, m_M2, m_M3, m_M4, m_M5, m_M6, m_M7, m_M8, m_M9, m_wv, m_w0, m_w1, m_w2, m_w3, m_w4, m_w5, m_w6, m_w7, m_w8, m_w9, m_wF, m_wT, m_Jn, m_Jw, m_Jo, m_un, m_uw, eL, Nat.le_refl, if_true]
      exact l3 0 (by omega))
    (by
      intro j hj
      obtain ⟨s, hs, es⟩ := hL j hj
      try dsimp only
      rw [e_M_starts_76]
      try simp (config := {maxSteps := 1000000}) (disch := omega) only [nI_add, nI_1, am_mulN, nI_clamp, am_gI, am_ifd, am_ifn, am_asIe, am_asLe, nI_leI, nI_ltI, nI_eq, am_neg1, am_neg1b, m_Mo, m_Mv, m_MF, m_MT, m_M0, m_M1, m_M2, m_M3, m_M4, m_M5, m_M6, m_M7, m_M8, m_M9, m_wv, m_w0, m_w1, m_w2, m_w3, m_w4, m_w5, m_w6, m_w7, m_w8, m_w9, m_wF, m_wT, m_Jn, m_Jw, m_Jo, m_un, m_uw, eL, es]
      rw [if_neg (by omega)]
      have := sta_6 (I := I) (W := W) (a := m_nZ I) (b := j) (c := 0)
      rw [es, nI_clamp (by omega)] at this
      rw [this])
  have l1 := am_up (P := fun j => am_V d Q 203 42 [some (.ref 93), some (.int (nI n)), some (.int (nI j))] [] (am_hp N r (m_M I n (m_sta I W j 0 0) v F T) J)) (R := Q .null (am_hp N r (m_M I n (m_start I W) v F T) J)) (m_nZ I)
    (by
      try dsimp only
      rw [e_M_starts_42]
      try simp (config := {maxSteps := 1000000}) (disch := omega) only [nI_add, nI_1, am_mulN, nI_clamp, am_gI, am_ifd, am_ifn, am_asIe, am_asLe, nI_leI, nI_ltI, nI_eq, am_neg1, am_neg1b, m_Mo, m_Mv, m_MF, m_MT, m_M0, m_M1, m_M2, m_M3, m_M4, m_M5, m_M6, m_M7, m_M8, m_M9, m_wv, m_w0, m_w1, m_w2, m_w3, m_w4, m_w5, m_w6, m_w7, m_w8, m_w9, m_wF, m_wT, m_Jn, m_Jw, m_Jo, m_un, m_uw, eZ, Nat.le_refl, if_true]
      exact l2 0 (by omega))
    (by
      intro j hj
      try dsimp only
      rw [e_M_starts_42]
      try simp (config := {maxSteps := 1000000}) (disch := omega) only [nI_add, nI_1, am_mulN, nI_clamp, am_gI, am_ifd, am_ifn, am_asIe, am_asLe, nI_leI, nI_ltI, nI_eq, am_neg1, am_neg1b, m_Mo, m_Mv, m_MF, m_MT, m_M0, m_M1, m_M2, m_M3, m_M4, m_M5, m_M6, m_M7, m_M8, m_M9, m_wv, m_w0, m_w1, m_w2, m_w3, m_w4, m_w5, m_w6, m_w7, m_w8, m_w9, m_wF, m_wT, m_Jn, m_Jw, m_Jo, m_un, m_uw, eZ, sta_5]
      rw [if_neg (by omega)])
  rw [e_M_starts]
  try simp (config := {maxSteps := 1000000}) (disch := omega) only [nI_add, nI_1, am_mulN, nI_clamp, am_gI, am_ifd, am_ifn, am_asIe, am_asLe, nI_leI, nI_ltI, nI_eq, am_neg1, am_neg1b, m_Mo, m_Mv, m_MF, m_MT, m_M0, m_M1, m_M2, m_M3, m_M4, m_M5, m_M6, m_M7, m_M8, m_M9, m_wv, m_w0, m_w1, m_w2, m_w3, m_w4, m_w5, m_w6, m_w7, m_w8, m_w9, m_wF, m_wT, m_Jn, m_Jw, m_Jo, m_un, m_uw, sta_0]
  exact l1 0 (by omega)
end
section
variable {d N w : Nat} {Q : Value → am_H → Prop} {r : am_rho} {I : Nat → Nat → Int32} {J : Nat → Nat → Int64}
/-- the class's world begins -/
theorem s_W_begin {t : Nat} {W : Nat → Nat → Int32} (hw : w = 49 ∨ w = 55 ∨ w = 82) (hT : t_rel I t)
    (hQ : ∀ I2, (∀ a, (a < w ∨ w + 5 < a) → I2 a = I a) → cw_rel I (c_w I2 w) (m_start I W) → I2 w 5 = nI 0 → (∀ h, h < 8 → I2 (w + 5) h = I (t + 13) h) → Q .null (am_hp N r I2 J)) :
    am_D (d + 2) 100 [.ref w, .ref t] (am_hp N r I J) Q := by
  obtain ⟨⟨ht, hok, hst, hokL⟩, ⟨e0, e1, e2, e3, e4, e6⟩, ecat, ehn, esn, ese, ewy, efa, esl, ele, ema, ela, ebe, elw, eus, ekn, ero⟩ := hT
  obtain ⟨⟨eH, hH8⟩, _, ⟨eZ, hZ5⟩, ⟨eL, hL8⟩, _, hB, _⟩ := hok
  obtain ⟨w1, w2, w3, w4, w5⟩ := w_TT (N := N) hw
  obtain ⟨t6, t13, _, _⟩ := t_TT (N := N) ht
  rw [e_World_begin hw ht]
  rw [s_901 t6 w1 (by omega) (by omega) (by omega) (by omega), e_World_begin_47 hw ht, s_901 t13 w5 (by omega) (by omega) (by omega) (by omega), e_World_begin_62 hw ht, s_J_fill w2 (by omega), e_World_begin_70 hw ht, s_J_fill w3 (by omega), e_World_begin_78 hw ht, s_J_fill w4 (by omega), e_World_begin_86 hw ht]
  -- the heap before the letters are laid
  have hrow : ∀ a, (a < w ∨ w + 5 < a) → am_fl (am_fl (am_fl (am_cyI (am_cyI (am_u (am_u (am_u (am_u (am_u (am_u I w 0 (nI 0)) w 1 (nI 0)) w 2 ((am_u (am_u I w 0 (nI 0)) w 1 (nI 0)) t 6)) w 3 (nI 0)) w 4 (nI 0)) w 5 (nI 0)) (t + 6) 0 (w + 1) 0 5) (t + 13) 0 (w + 5) 0 8) (w + 2) 5 (nI 0)) (w + 3) 8 (nI 0)) (w + 4) 8 (-nI 1) a = I a := by
    intro a ha
    funext j
    unfold am_fl am_cyI
    rw [if_neg (by omega), if_neg (by omega), if_neg (by omega), if_neg (by omega), if_neg (by omega), am_uN (by omega), am_uN (by omega), am_uN (by omega), am_uN (by omega), am_uN (by omega), am_uN (by omega)]
  have h0 : ∀ j, j < 6 → am_fl (am_fl (am_fl (am_cyI (am_cyI (am_u (am_u (am_u (am_u (am_u (am_u I w 0 (nI 0)) w 1 (nI 0)) w 2 ((am_u (am_u I w 0 (nI 0)) w 1 (nI 0)) t 6)) w 3 (nI 0)) w 4 (nI 0)) w 5 (nI 0)) (t + 6) 0 (w + 1) 0 5) (t + 13) 0 (w + 5) 0 8) (w + 2) 5 (nI 0)) (w + 3) 8 (nI 0)) (w + 4) 8 (-nI 1) w j = if j = 2 then I 95 5 else nI 0 := by
    intro j hj
    unfold am_fl am_cyI
    rw [if_neg (by omega), if_neg (by omega), if_neg (by omega), if_neg (by omega), if_neg (by omega)]
    have ew : (am_u (am_u I w 0 (nI 0)) w 1 (nI 0)) t 6 = I 95 5 := by rw [am_uN (by omega), am_uN (by omega)]; exact e6
    rw [ew]
    rcases (show j = 0 ∨ j = 1 ∨ j = 2 ∨ j = 3 ∨ j = 4 ∨ j = 5 by omega) with rfl | rfl | rfl | rfl | rfl | rfl
    · rw [am_uN (by omega), am_uN (by omega), am_uN (by omega), am_uN (by omega), am_uN (by omega), am_uE, if_neg (by omega)]
    · rw [am_uN (by omega), am_uN (by omega), am_uN (by omega), am_uN (by omega), am_uE, if_neg (by omega)]
    · rw [am_uN (by omega), am_uN (by omega), am_uN (by omega), am_uE, if_pos rfl]
    · rw [am_uN (by omega), am_uN (by omega), am_uE, if_neg (by omega)]
    · rw [am_uN (by omega), am_uE, if_neg (by omega)]
    · rw [am_uE, if_neg (by omega)]
  have h1 : ∀ j, j < 5 → am_fl (am_fl (am_fl (am_cyI (am_cyI (am_u (am_u (am_u (am_u (am_u (am_u I w 0 (nI 0)) w 1 (nI 0)) w 2 ((am_u (am_u I w 0 (nI 0)) w 1 (nI 0)) t 6)) w 3 (nI 0)) w 4 (nI 0)) w 5 (nI 0)) (t + 6) 0 (w + 1) 0 5) (t + 13) 0 (w + 5) 0 8) (w + 2) 5 (nI 0)) (w + 3) 8 (nI 0)) (w + 4) 8 (-nI 1) (w + 1) j = I (t + 6) j := by
    intro j hj
    unfold am_fl am_cyI
    rw [if_neg (by omega), if_neg (by omega), if_neg (by omega), if_neg (by omega), if_pos (by omega), show 0 + (j - 0) = j by omega, am_uN (by omega), am_uN (by omega), am_uN (by omega), am_uN (by omega), am_uN (by omega), am_uN (by omega)]
  have h2 : ∀ j, j < 5 → am_fl (am_fl (am_fl (am_cyI (am_cyI (am_u (am_u (am_u (am_u (am_u (am_u I w 0 (nI 0)) w 1 (nI 0)) w 2 ((am_u (am_u I w 0 (nI 0)) w 1 (nI 0)) t 6)) w 3 (nI 0)) w 4 (nI 0)) w 5 (nI 0)) (t + 6) 0 (w + 1) 0 5) (t + 13) 0 (w + 5) 0 8) (w + 2) 5 (nI 0)) (w + 3) 8 (nI 0)) (w + 4) 8 (-nI 1) (w + 2) j = nI 0 := by
    intro j hj
    unfold am_fl
    rw [if_neg (by omega), if_neg (by omega), if_pos (by omega)]
  have h3 : ∀ j, j < 8 → am_fl (am_fl (am_fl (am_cyI (am_cyI (am_u (am_u (am_u (am_u (am_u (am_u I w 0 (nI 0)) w 1 (nI 0)) w 2 ((am_u (am_u I w 0 (nI 0)) w 1 (nI 0)) t 6)) w 3 (nI 0)) w 4 (nI 0)) w 5 (nI 0)) (t + 6) 0 (w + 1) 0 5) (t + 13) 0 (w + 5) 0 8) (w + 2) 5 (nI 0)) (w + 3) 8 (nI 0)) (w + 4) 8 (-nI 1) (w + 3) j = nI 0 := by
    intro j hj
    unfold am_fl
    rw [if_neg (by omega), if_pos (by omega)]
  have h4 : ∀ j, j < 8 → am_fl (am_fl (am_fl (am_cyI (am_cyI (am_u (am_u (am_u (am_u (am_u (am_u I w 0 (nI 0)) w 1 (nI 0)) w 2 ((am_u (am_u I w 0 (nI 0)) w 1 (nI 0)) t 6)) w 3 (nI 0)) w 4 (nI 0)) w 5 (nI 0)) (t + 6) 0 (w + 1) 0 5) (t + 13) 0 (w + 5) 0 8) (w + 2) 5 (nI 0)) (w + 3) 8 (nI 0)) (w + 4) 8 (-nI 1) (w + 4) j = -nI 1 := by
    intro j hj
    unfold am_fl
    rw [if_pos (by omega)]
  have h5 : ∀ j, j < 8 → am_fl (am_fl (am_fl (am_cyI (am_cyI (am_u (am_u (am_u (am_u (am_u (am_u I w 0 (nI 0)) w 1 (nI 0)) w 2 ((am_u (am_u I w 0 (nI 0)) w 1 (nI 0)) t 6)) w 3 (nI 0)) w 4 (nI 0)) w 5 (nI 0)) (t + 6) 0 (w + 1) 0 5) (t + 13) 0 (w + 5) 0 8) (w + 2) 5 (nI 0)) (w + 3) 8 (nI 0)) (w + 4) 8 (-nI 1) (w + 5) j = I (t + 13) j := by
    intro j hj
    unfold am_fl am_cyI
    rw [if_neg (by omega), if_neg (by omega), if_neg (by omega), if_pos (by omega), show 0 + (j - 0) = j by omega, if_neg (by omega), am_uN (by omega), am_uN (by omega), am_uN (by omega), am_uN (by omega), am_uN (by omega), am_uN (by omega)]
  generalize am_fl (am_fl (am_fl (am_cyI (am_cyI (am_u (am_u (am_u (am_u (am_u (am_u I w 0 (nI 0)) w 1 (nI 0)) w 2 ((am_u (am_u I w 0 (nI 0)) w 1 (nI 0)) t 6)) w 3 (nI 0)) w 4 (nI 0)) w 5 (nI 0)) (t + 6) 0 (w + 1) 0 5) (t + 13) 0 (w + 5) 0 8) (w + 2) 5 (nI 0)) (w + 3) 8 (nI 0)) (w + 4) 8 (-nI 1) = I1 at hrow h0 h1 h2 h3 h4 h5 ⊢
  -- where a letter begins
  have hb : ∀ l, l < m_nL I → ∃ s h, s < m_nZ I ∧ h < m_nH I ∧ I (t + 9) l = nI s ∧ I (t + 6) s = nI h ∧ m_start I W 7 l = nI h := by
    intro l hl
    obtain ⟨s, hs, es⟩ := hokL l hl
    obtain ⟨h, hh, eh⟩ := hB s hs
    refine ⟨s, h, hs, hh, (ele l hl).1.trans es, (esl s hs).1.trans eh, ?_⟩
    show m_sta I W _ _ _ 7 l = _
    unfold m_sta
    rw [if_neg (by omega), if_neg (by omega), if_neg (by omega), if_pos (by omega), es, nI_clamp (by omega), eh]
  have lp : ∀ k j, m_nL I = j + k → ∀ I2, (∀ a, a ≠ w + 3 → I2 a = I1 a) → (∀ h, h < 8 → ∀ l, l < 32 → bt (I2 (w + 3) h) l = decide (l < j ∧ m_start I W 7 l = nI h)) → am_V (d + 1) Q 100 88 [some (.ref w), some (.ref t), some (.int (nI j))] [] (am_hp N r I2 J) := by
    intro k
    induction k with
    | zero =>
      intro j hj I2 g1 g2
      obtain rfl : j = m_nL I := by omega
      rw [e_World_begin_88 hw ht, g1 t (by omega), hrow t (by omega), e3, eL, am_ifd, if_pos (by rw [nI_leI (by omega) (by omega)]; omega)]
      have s0 : ∀ f, f < 5 → m_start I W f 0 = if f = 2 then I 95 5 else nI 0 := by
        intro f hf
        show m_sta I W _ _ _ f 0 = _
        unfold m_sta
        rw [if_pos (by omega)]
      have s6 : ∀ l, l < m_nL I → m_start I W 6 l = nI 0 := by
        intro l hl
        show m_sta I W _ _ _ 6 l = _
        unfold m_sta
        rw [if_neg (by omega), if_neg (by omega), if_pos (by omega)]
      refine hQ I2 (fun a ha => by rw [g1 a (by omega), hrow a ha]) ?_ (by rw [g1 w (by omega), h0 5 (by omega), if_neg (by omega)]) (fun h hh => by rw [g1 (w + 5) (by omega), h5 h hh])
      refine ⟨?_, ?_, ?_, ?_, ?_, ?_, ?_, ?_, ?_, ?_⟩
      · rw [c_wI (by omega), Nat.add_zero, g1 w (by omega), h0 0 (by omega), s0 0 (by omega)]
      · rw [c_wI (by omega), Nat.add_zero, g1 w (by omega), h0 1 (by omega), s0 1 (by omega)]
      · rw [c_wI (by omega), Nat.add_zero, g1 w (by omega), h0 2 (by omega), s0 2 (by omega)]
      · rw [c_wI (by omega), Nat.add_zero, g1 w (by omega), h0 3 (by omega), s0 4 (by omega)]; rfl
      · intro s hs
        rw [c_wI (by omega), g1 (w + 1) (by omega), h1 s (by omega), (esl s hs).1]
        show _ = m_sta I W _ _ _ 5 s
        unfold m_sta
        rw [if_neg (by omega), if_pos (by omega)]
      · intro s hs l hl
        rw [c_wI (by omega), g1 (w + 2) (by omega), h2 s hs, b_z]
        symm
        apply decide_eq_false
        intro h
        rw [s6 l h.1] at h
        exact n01 h.2.1
      · intro h hh l hl
        rw [c_wI (by omega), g2 h hh l hl]
        apply decide_eq_decide.mpr
        constructor
        · intro g; exact ⟨g.1, s6 l g.1, g.2⟩
        · intro g; exact ⟨g.1, g.2.2⟩
      · intro l hl
        rw [c_wI (by omega), Nat.add_zero, g1 w (by omega), h0 4 (by omega), if_neg (by omega), b_z]
        symm
        apply decide_eq_false
        intro h
        rw [s6 l h.1] at h
        exact n02 h.2
      · intro l hl
        rw [c_wI (by omega), g1 (w + 4) (by omega), h4 l (by omega)]
        show _ = m_sta I W _ _ _ 8 l
        unfold m_sta
        rw [if_neg (by omega), if_neg (by omega), if_neg (by omega), if_neg (by omega), if_pos (by omega)]
      · intro h hh
        rw [c_wI (by omega), g1 (w + 5) (by omega), h5 h (by omega), (ebe h hh).1]
        show _ = m_sta I W _ _ _ 9 h
        unfold m_sta
        rw [if_neg (by omega), if_neg (by omega), if_neg (by omega), if_neg (by omega), if_neg (by omega), if_pos (by omega)]
    | succ k ih =>
      intro j hj I2 g1 g2
      obtain ⟨s, h, hs, hh, es, eh, e7⟩ := hb j (by omega)
      have r9 : I2 (t + 9) j = nI s := by rw [g1 _ (by omega), hrow _ (by omega)]; exact es
      have r6 : I2 (t + 6) s = nI h := by rw [g1 _ (by omega), hrow _ (by omega)]; exact eh
      rw [e_World_begin_88 hw ht, g1 t (by omega), hrow t (by omega), e3, eL, am_ifd, if_neg (by rw [nI_leI (by omega) (by omega)]; omega), am_gI (by omega) (by omega), nI_clamp (show j < 2 ^ 31 by omega), r9, am_gI (by omega) (by omega), nI_clamp (show s < 2 ^ 31 by omega), r6, am_gI (by omega) (by omega), am_gI (by omega) (by omega), nI_clamp (show h < 2 ^ 31 by omega), am_pwe, show nI j + nI 1 = nI (j + 1) from nI_add _ _]
      refine ih (j + 1) (by omega) _ (fun a ha => by rw [am_uRow ha, g1 a ha]) ?_
      intro h' hh' l hl
      by_cases c : h' = h
      · subst c
        rw [am_uE, b_or, b_pw (by omega) hl, g2 h' hh' l hl]
        by_cases cl : l = j
        · subst cl
          rw [decide_eq_true rfl, Bool.or_true]
          symm
          exact decide_eq_true ⟨by omega, e7⟩
        · rw [decide_eq_false cl, Bool.or_false]
          apply decide_eq_decide.mpr
          constructor
          · intro g; exact ⟨by omega, g.2⟩
          · intro g; exact ⟨by omega, g.2⟩
      · rw [am_uN (by omega), g2 h' hh' l hl]
        apply decide_eq_decide.mpr
        constructor
        · intro g; exact ⟨by omega, g.2⟩
        · intro g
          refine ⟨?_, g.2⟩
          by_cases cl : l = j
          · subst cl
            have := g.2
            rw [e7] at this
            exact absurd ((nI_eq (by omega) (by omega)).mp this).symm c
          · omega
  refine lp (m_nL I) 0 (by omega) I1 (fun _ _ => rfl) ?_
  intro h hh l hl
  rw [h3 h hh, b_z]
  symm
  exact decide_eq_false (by omega)
/-- what a walk leaves of a world: what is no sleeper's and no letter's -/
def lov (I W W' : Nat → Nat → Int32) : Prop := True ∧ (∀ s, m_nZ I ≤ s → W 5 s = W' 5 s) ∧ (∀ f l, 6 ≤ f → f < 9 → m_nL I ≤ l → W f l = W' f l) ∧ (∀ h, m_nH I ≤ h → W 9 h = W' 9 h)
theorem lo_refl {W : Nat → Nat → Int32} : lov I W W := ⟨trivial, fun _ _ => rfl, fun _ _ _ _ _ => rfl, fun _ _ => rfl⟩
theorem lo_trans {W W' W'' : Nat → Nat → Int32} (h : lov I W W') (k : lov I W' W'') : lov I W W'' := ⟨trivial, fun s a => (h.2.1 s a).trans (k.2.1 s a), fun f l a b c => (h.2.2.1 f l a b c).trans (k.2.2.1 f l a b c), fun s a => (h.2.2.2 s a).trans (k.2.2.2 s a)⟩
theorem lo_walk {W : Nat → Nat → Int32} {F : Nat → Int32} {b : Bool} {s : Nat} (hs : s < m_nZ I) : lov I (m_walk I F b W s) W := by
  refine ⟨trivial, ?_, ?_, ?_⟩
  · intro k hk
    rw [m_walk_5, if_neg (by omega)]
  · intro f l h1 h2 h3
    have t : ∀ a c V, m_takeF I a c V (m_nL I) f l = V f l := fun a c V => by unfold m_takeF; rw [if_neg (by omega)]
    have dn : ∀ a c V, m_downF a c V (m_nL I) f l = V f l := fun a c V => by unfold m_downF; rw [if_neg (by omega)]
    have br : ∀ a c V, m_bringF I a c V (m_nL I) f l = V f l := fun a c V => by unfold m_bringF; rw [if_neg (by omega)]
    have e1 : ∀ V, m_walk1 I V s f l = V f l := by
      intro V; unfold m_walk1; split
      · exact t _ _ _
      · rfl
    have e4 : ∀ V, m_walk4 I F b V s f l = V f l := by
      intro V; unfold m_walk4
      split
      · exact dn _ _ _
      · have e2 : ∀ z, (if z = V 2 0 then V else am_u V 2 0 z) f l = V f l := by
          intro z; split
          · rfl
          · exact am_uN (by omega)
        dsimp only
        split
        · rw [dn, am_uN (by omega), e2]
        · exact e2 _
    unfold m_walk
    rw [e4]
    unfold m_walk3
    rw [br]
    unfold m_walk2
    rw [am_uN (by omega), e1]
  · intro h hh
    rw [m_walk_k (by omega)]
theorem lo_pass {W : Nat → Nat → Int32} {F : Nat → Int32} {b : Bool} : ∀ n, n ≤ m_nZ I → lov I (m_pass I F b W n) W
  | 0, _ => lo_refl
  | n + 1, h => by
    unfold m_pass
    split
    · exact lo_trans (lo_walk (by omega)) (lo_pass n (by omega))
    · exact lo_pass n (by omega)
theorem lo_Wj {W : Nat → Nat → Int32} {F : Nat → Int32} {b : Bool} {h0 : Nat} : ∀ j, lov I (m_Wj I F b W h0 j) W
  | 0 => lo_refl
  | j + 1 => by
    unfold m_Wj m_hr
    refine lo_trans (lo_pass _ (Nat.le_refl _)) (lo_trans ?_ (lo_Wj (W := W) (F := F) (b := b) (h0 := h0) j))
    exact ⟨trivial, fun s _ => am_uN (by omega), fun f l h1 _ _ => am_uN (by omega), fun h _ => am_uN (by omega)⟩
theorem lo_start {W W' : Nat → Nat → Int32} (h : lov I W W') : wq (m_start I W) (m_start I W') := by
  have e : ∀ f k, ((f < 5 ∧ k = 0) ∨ (f = 5 ∧ k < m_nZ I) ∨ ((f = 6 ∨ f = 7 ∨ f = 8) ∧ k < m_nL I) ∨ (f = 9 ∧ k < m_nH I) ∨ W f k = W' f k) → m_start I W f k = m_start I W' f k := by
    intro f k g
    show m_sta I W _ _ _ f k = m_sta I W' _ _ _ f k
    unfold m_sta
    by_cases c0 : f < 5 ∧ k = 0
    · rw [if_pos c0, if_pos c0]
    rw [if_neg c0, if_neg c0]
    by_cases c5 : f = 5 ∧ k < m_nZ I
    · rw [if_pos c5, if_pos c5]
    rw [if_neg c5, if_neg c5]
    by_cases c6 : f = 6 ∧ k < m_nL I
    · rw [if_pos c6, if_pos c6]
    rw [if_neg c6, if_neg c6]
    by_cases c7 : f = 7 ∧ k < m_nL I
    · rw [if_pos c7, if_pos c7]
    rw [if_neg c7, if_neg c7]
    by_cases c8 : f = 8 ∧ k < m_nL I
    · rw [if_pos c8, if_pos c8]
    rw [if_neg c8, if_neg c8]
    by_cases c9 : f = 9 ∧ k < m_nH I
    · rw [if_pos c9, if_pos c9]
    rw [if_neg c9, if_neg c9]
    rcases g with g | g | g | g | g
    · exact absurd g c0
    · exact absurd g c5
    · omega
    · exact absurd g c9
    · exact g
  refine ⟨fun f hf => e f 0 (Or.inl ⟨hf, rfl⟩), fun s hs => e 5 s ?_, fun f l h1 h2 h3 => e f l ?_⟩
  · by_cases c : s < m_nZ I
    · exact Or.inr (Or.inl ⟨rfl, c⟩)
    · exact Or.inr (Or.inr (Or.inr (Or.inr (h.2.1 s (by omega)))))
  · by_cases c9 : f = 9
    · subst c9
      by_cases c : l < m_nH I
      · exact Or.inr (Or.inr (Or.inr (Or.inl ⟨rfl, c⟩)))
      · exact Or.inr (Or.inr (Or.inr (Or.inr (h.2.2.2 l (by omega)))))
    · by_cases c : l < m_nL I
      · exact Or.inr (Or.inr (Or.inl ⟨by omega, c⟩))
      · exact Or.inr (Or.inr (Or.inr (Or.inr (h.2.2.1 f l h1 (by omega) (by omega)))))
theorem okX_start {t : Nat} {W : Nat → Nat → Int32} (hT : t_rel I t) : m_okX I (m_start I W) := by
  obtain ⟨⟨ht, hok, hst, hokL⟩, _, _, _, _, _, _, _, _, _, _, _, ebe, _⟩ := hT
  obtain ⟨⟨eH, hH8⟩, _, ⟨eZ, hZ5⟩, ⟨eL, hL8⟩, _, hB, _⟩ := hok
  refine ⟨?_, ⟨0, by omega, ?_⟩, ?_, ?_, ?_⟩
  · intro s hs
    obtain ⟨h, hh, eh⟩ := hB s hs
    refine ⟨h, hh, ?_⟩
    show m_sta I W _ _ _ 5 s = _
    unfold m_sta
    rw [if_neg (by omega), if_pos (by omega), eh]
  · show m_sta I W _ _ _ 0 0 = _
    unfold m_sta
    rw [if_pos (by omega), if_neg (by omega)]
  · intro l hl
    obtain ⟨s, hs, es⟩ := hokL l hl
    obtain ⟨h, hh, eh⟩ := hB s hs
    left
    refine ⟨?_, h, hh, ?_⟩
    · show m_sta I W _ _ _ 6 l = _
      unfold m_sta
      rw [if_neg (by omega), if_neg (by omega), if_pos (by omega)]
    · show m_sta I W _ _ _ 7 l = _
      unfold m_sta
      rw [if_neg (by omega), if_neg (by omega), if_neg (by omega), if_pos (by omega), es, nI_clamp (by omega), eh]
  · intro i hi1 hi2
    show bt (m_sta I W _ _ _ 4 0) i = _
    unfold m_sta
    rw [if_pos (by omega), if_neg (by omega), b_z]
  · intro h hh
    obtain ⟨_, _, ⟨k, hk, ek⟩, _⟩ := ebe h hh
    refine ⟨k, hk, ?_⟩
    show m_sta I W _ _ _ 9 h = _
    unfold m_sta
    rw [if_neg (by omega), if_neg (by omega), if_neg (by omega), if_neg (by omega), if_neg (by omega), if_pos (by omega), ek]
end
