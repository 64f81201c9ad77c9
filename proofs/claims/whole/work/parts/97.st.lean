/-! ===== L3: worlds begin ===== -/
def m_sta (I W : Nat → Nat → Int32) (a b c : Nat) : Nat → Nat → Int32 := fun f k =>
  if f < 5 ∧ k = 0 then (if f = 2 then I 95 5 else nI 0)
  else if f = 5 ∧ k < a then I 104 k
  else if f = 6 ∧ k < b then nI 0
  else if f = 7 ∧ k < b then I 104 (I 107 k).toNatClampNeg
  else if f = 8 ∧ k < b then -nI 1
  else if f = 9 ∧ k < c then I 97 k
  else W f k
section
variable {d N n : Nat} {Q : Value → am_H → Prop} {r : am_rho} {I : Nat → Nat → Int32} {J : Nat → Nat → Int64} {W : Nat → Nat → Int32} {v : Int32} {F T : Nat → Int32}
theorem sta_e : m_sta I W (m_nZ I) (m_nL I) (m_nH I) = m_start I W := rfl
theorem sta_5 {a b c : Nat} : am_u (m_sta I W a b c) 5 a (I 104 a) = m_sta I W (a + 1) b c := by
  funext f k
  unfold am_u m_sta
  by_cases h : f = 5 ∧ k = a
  · rw [if_pos h, if_neg (by omega), if_pos (by omega), h.2]
  · have e : (f = 5 ∧ k < a + 1) = (f = 5 ∧ k < a) := propext (by omega)
    rw [if_neg h]
    simp only [e]
theorem sta_6 {a b c : Nat} : am_u (am_u (am_u (m_sta I W a b c) 6 b (nI 0)) 7 b (I 104 (I 107 b).toNatClampNeg)) 8 b (-nI 1) = m_sta I W a (b + 1) c := by
  funext f k
  unfold am_u m_sta
  by_cases h8 : f = 8 ∧ k = b
  · rw [if_pos h8, if_neg (by omega), if_neg (by omega), if_neg (by omega), if_neg (by omega), if_pos (by omega)]
  · rw [if_neg h8]
    by_cases h7 : f = 7 ∧ k = b
    · rw [if_pos h7, if_neg (by omega), if_neg (by omega), if_neg (by omega), if_pos (by omega), h7.2]
    · rw [if_neg h7]
      by_cases h6 : f = 6 ∧ k = b
      · rw [if_pos h6, if_neg (by omega), if_neg (by omega), if_pos (by omega)]
      · have e6 : (f = 6 ∧ k < b + 1) = (f = 6 ∧ k < b) := propext (by omega)
        have e7 : (f = 7 ∧ k < b + 1) = (f = 7 ∧ k < b) := propext (by omega)
        have e8 : (f = 8 ∧ k < b + 1) = (f = 8 ∧ k < b) := propext (by omega)
        rw [if_neg h6]
        simp only [e6, e7, e8]
theorem sta_9 {a b c : Nat} : am_u (m_sta I W a b c) 9 c (I 97 c) = m_sta I W a b (c + 1) := by
  funext f k
  unfold am_u m_sta
  by_cases h : f = 9 ∧ k = c
  · rw [if_pos h, if_neg (by omega), if_neg (by omega), if_neg (by omega), if_neg (by omega), if_neg (by omega), if_pos (by omega), h.2]
  · have e : (f = 9 ∧ k < c + 1) = (f = 9 ∧ k < c) := propext (by omega)
    rw [if_neg h]
    simp only [e]
theorem sta_0 : am_u (am_u (am_u (am_u (am_u W 0 0 (nI 0)) 1 0 (nI 0)) 2 0 (I 95 5)) 3 0 (nI 0)) 4 0 (nI 0) = m_sta I W 0 0 0 := by
  funext f k
  unfold am_u m_sta
  by_cases c : f < 5 ∧ k = 0
  · rw [if_pos c]
    obtain ⟨c1, rfl⟩ := c
    have : f = 0 ∨ f = 1 ∨ f = 2 ∨ f = 3 ∨ f = 4 := by omega
    rcases this with rfl | rfl | rfl | rfl | rfl <;> rfl
  · rw [if_neg (by omega), if_neg (by omega), if_neg (by omega), if_neg (by omega), if_neg (by omega), if_neg c, if_neg (by omega), if_neg (by omega), if_neg (by omega), if_neg (by omega), if_neg (by omega)]
theorem s_M_starts (hok : m_ok I) (hL : m_okL I) (hn : n < 23) : am_D (d + 1) 203 [.ref 93, .int (nI n)] (am_hp N r (m_M I n W v F T) J) Q = Q .null (am_hp N r (m_M I n (m_start I W) v F T) J) := by
  obtain ⟨⟨eH, hH8⟩, _, ⟨eZ, hZ5⟩, ⟨eL, hL8⟩, _⟩ := hok
  have l3 := am_up (P := fun j => am_V d Q 203 140 [some (.ref 93), some (.int (nI n)), some (.int (nI j))] [] (am_hp N r (m_M I n (m_sta I W (m_nZ I) (m_nL I) j) v F T) J)) (R := Q .null (am_hp N r (m_M I n (m_start I W) v F T) J)) (m_nH I)
    (by
      try dsimp only
      rw [e_M_starts_140]
      try simp (config := {maxSteps := 1000000}) (disch := omega) only [nI_add, nI_1, am_mulN, nI_clamp, am_gI, am_ifd, am_ifn, am_asIe, am_asLe, nI_leI, nI_ltI, nI_eq, am_neg1, am_neg1b, m_Mo, m_Mv, m_MF, m_MT, m_M0, m_M1, m_M2, m_M3, m_M4, m_M5, m_M6, m_M7, m_M8, m_M9, m_wv, m_w0, m_w1, m_w2, m_w3, m_w4, m_w5, m_w6, m_w7, m_w8, m_w9, m_wF, m_wT, m_Jn, m_Jw, m_Jo, m_un, m_uw, eH, Nat.le_refl, if_true]
      rfl)
    (by
      intro j hj
      try dsimp only
      rw [e_M_starts_140]
      try simp (config := {maxSteps := 1000000}) (disch := omega) only [nI_add, nI_1, am_mulN, nI_clamp, am_gI, am_ifd, am_ifn, am_asIe, am_asLe, nI_leI, nI_ltI, nI_eq, am_neg1, am_neg1b, m_Mo, m_Mv, m_MF, m_MT, m_M0, m_M1, m_M2, m_M3, m_M4, m_M5, m_M6, m_M7, m_M8, m_M9, m_wv, m_w0, m_w1, m_w2, m_w3, m_w4, m_w5, m_w6, m_w7, m_w8, m_w9, m_wF, m_wT, m_Jn, m_Jw, m_Jo, m_un, m_uw, eH, sta_9]
      rw [if_neg (by omega)])
  have l2 := am_up (P := fun j => am_V d Q 203 76 [some (.ref 93), some (.int (nI n)), some (.int (nI j))] [] (am_hp N r (m_M I n (m_sta I W (m_nZ I) j 0) v F T) J)) (R := Q .null (am_hp N r (m_M I n (m_start I W) v F T) J)) (m_nL I)
    (by
      try dsimp only
      rw [e_M_starts_76]
      try simp (config := {maxSteps := 1000000}) (disch := omega) only [nI_add, nI_1, am_mulN, nI_clamp, am_gI, am_ifd, am_ifn, am_asIe, am_asLe, nI_leI, nI_ltI, nI_eq, am_neg1, am_neg1b, m_Mo, m_Mv, m_MF, m_MT, m_M0, m_M1, m_M2, m_M3, m_M4, m_M5, m_M6, m_M7, m_M8, m_M9, m_wv, m_w0, m_w1, m_w2, m_w3, m_w4, m_w5, m_w6, m_w7, m_w8, m_w9, m_wF, m_wT, m_Jn, m_Jw, m_Jo, m_un, m_uw, eL, Nat.le_refl, if_true]
      exact l3 0 (by omega))
    (by
      intro j hj
      obtain ⟨s, hs, es⟩ := hL j hj
      try dsimp only
      rw [e_M_starts_76]
      try simp (config := {maxSteps := 1000000}) (disch := omega) only [nI_add, nI_1, am_mulN, nI_clamp, am_gI, am_ifd, am_ifn, am_asIe, am_asLe, nI_leI, nI_ltI, nI_eq, am_neg1, am_neg1b, m_Mo, m_Mv, m_MF, m_MT, m_M0, m_M1, m_M2, m_M3, m_M4, m_M5, m_M6, m_M7, m_M8, m_M9, m_wv, m_w0, m_w1, m_w2, m_w3, m_w4, m_w5, m_w6, m_w7, m_w8, m_w9, m_wF, m_wT, m_Jn, m_Jw, m_Jo, m_un, m_uw, eL, es]
      rw [if_neg (by omega)]
      have := sta_6 (I := I) (W := W) (a := m_nZ I) (b := j) (c := 0)
      rw [es, nI_clamp (by omega)] at this
      rw [this])
  have l1 := am_up (P := fun j => am_V d Q 203 42 [some (.ref 93), some (.int (nI n)), some (.int (nI j))] [] (am_hp N r (m_M I n (m_sta I W j 0 0) v F T) J)) (R := Q .null (am_hp N r (m_M I n (m_start I W) v F T) J)) (m_nZ I)
    (by
      try dsimp only
      rw [e_M_starts_42]
      try simp (config := {maxSteps := 1000000}) (disch := omega) only [nI_add, nI_1, am_mulN, nI_clamp, am_gI, am_ifd, am_ifn, am_asIe, am_asLe, nI_leI, nI_ltI, nI_eq, am_neg1, am_neg1b, m_Mo, m_Mv, m_MF, m_MT, m_M0, m_M1, m_M2, m_M3, m_M4, m_M5, m_M6, m_M7, m_M8, m_M9, m_wv, m_w0, m_w1, m_w2, m_w3, m_w4, m_w5, m_w6, m_w7, m_w8, m_w9, m_wF, m_wT, m_Jn, m_Jw, m_Jo, m_un, m_uw, eZ, Nat.le_refl, if_true]
      exact l2 0 (by omega))
    (by
      intro j hj
      try dsimp only
      rw [e_M_starts_42]
      try simp (config := {maxSteps := 1000000}) (disch := omega) only [nI_add, nI_1, am_mulN, nI_clamp, am_gI, am_ifd, am_ifn, am_asIe, am_asLe, nI_leI, nI_ltI, nI_eq, am_neg1, am_neg1b, m_Mo, m_Mv, m_MF, m_MT, m_M0, m_M1, m_M2, m_M3, m_M4, m_M5, m_M6, m_M7, m_M8, m_M9, m_wv, m_w0, m_w1, m_w2, m_w3, m_w4, m_w5, m_w6, m_w7, m_w8, m_w9, m_wF, m_wT, m_Jn, m_Jw, m_Jo, m_un, m_uw, eZ, sta_5]
      rw [if_neg (by omega)])
  rw [e_M_starts]
  try simp (config := {maxSteps := 1000000}) (disch := omega) only [nI_add, nI_1, am_mulN, nI_clamp, am_gI, am_ifd, am_ifn, am_asIe, am_asLe, nI_leI, nI_ltI, nI_eq, am_neg1, am_neg1b, m_Mo, m_Mv, m_MF, m_MT, m_M0, m_M1, m_M2, m_M3, m_M4, m_M5, m_M6, m_M7, m_M8, m_M9, m_wv, m_w0, m_w1, m_w2, m_w3, m_w4, m_w5, m_w6, m_w7, m_w8, m_w9, m_wF, m_wT, m_Jn, m_Jw, m_Jo, m_un, m_uw, sta_0]
  exact l1 0 (by omega)
end
section
variable {d N w : Nat} {Q : Value → am_H → Prop} {r : am_rho} {I : Nat → Nat → Int32} {J : Nat → Nat → Int64}
/-- the class's world begins -/
theorem s_W_begin {t : Nat} {W : Nat → Nat → Int32} (hw : w = 49 ∨ w = 55 ∨ w = 82) (hT : t_rel I t)
    (hQ : ∀ I2, (∀ a, (a < w ∨ w + 5 < a) → I2 a = I a) → cw_rel I (c_w I2 w) (m_start I W) → I2 w 5 = nI 0 → (∀ h, h < 8 → I2 (w + 5) h = I (t + 13) h) → Q .null (am_hp N r I2 J)) :
    am_D (d + 2) 100 [.ref w, .ref t] (am_hp N r I J) Q := sorry
/-- what a walk leaves of a world: what is no sleeper's and no letter's -/
def lov (I W W' : Nat → Nat → Int32) : Prop := True ∧ (∀ s, m_nZ I ≤ s → W 5 s = W' 5 s) ∧ (∀ f l, 6 ≤ f → f < 9 → m_nL I ≤ l → W f l = W' f l) ∧ (∀ h, m_nH I ≤ h → W 9 h = W' 9 h)
theorem lo_refl {W : Nat → Nat → Int32} : lov I W W := ⟨trivial, fun _ _ => rfl, fun _ _ _ _ _ => rfl, fun _ _ => rfl⟩
theorem lo_trans {W W' W'' : Nat → Nat → Int32} (h : lov I W W') (k : lov I W' W'') : lov I W W'' := ⟨trivial, fun s a => (h.2.1 s a).trans (k.2.1 s a), fun f l a b c => (h.2.2.1 f l a b c).trans (k.2.2.1 f l a b c), fun s a => (h.2.2.2 s a).trans (k.2.2.2 s a)⟩
theorem lo_walk {W : Nat → Nat → Int32} {F : Nat → Int32} {b : Bool} {s : Nat} (hs : s < m_nZ I) : lov I (m_walk I F b W s) W := sorry
theorem lo_pass {W : Nat → Nat → Int32} {F : Nat → Int32} {b : Bool} : ∀ n, n ≤ m_nZ I → lov I (m_pass I F b W n) W
  | 0, _ => lo_refl
  | n + 1, h => by
    unfold m_pass
    split
    · exact lo_trans (lo_walk (by omega)) (lo_pass n (by omega))
    · exact lo_pass n (by omega)
theorem lo_Wj {W : Nat → Nat → Int32} {F : Nat → Int32} {b : Bool} {h0 : Nat} : ∀ j, lov I (m_Wj I F b W h0 j) W := sorry
theorem lo_start {W W' : Nat → Nat → Int32} (h : lov I W W') : wq (m_start I W) (m_start I W') := by
  have e : ∀ f k, ((f < 5 ∧ k = 0) ∨ (f = 5 ∧ k < m_nZ I) ∨ ((f = 6 ∨ f = 7 ∨ f = 8) ∧ k < m_nL I) ∨ (f = 9 ∧ k < m_nH I) ∨ W f k = W' f k) → m_start I W f k = m_start I W' f k := by
    intro f k g
    show m_sta I W _ _ _ f k = m_sta I W' _ _ _ f k
    unfold m_sta
    by_cases c0 : f < 5 ∧ k = 0
    · rw [if_pos c0, if_pos c0]
    rw [if_neg c0, if_neg c0]
    by_cases c5 : f = 5 ∧ k < m_nZ I
    · rw [if_pos c5, if_pos c5]
    rw [if_neg c5, if_neg c5]
    by_cases c6 : f = 6 ∧ k < m_nL I
    · rw [if_pos c6, if_pos c6]
    rw [if_neg c6, if_neg c6]
    by_cases c7 : f = 7 ∧ k < m_nL I
    · rw [if_pos c7, if_pos c7]
    rw [if_neg c7, if_neg c7]
    by_cases c8 : f = 8 ∧ k < m_nL I
    · rw [if_pos c8, if_pos c8]
    rw [if_neg c8, if_neg c8]
    by_cases c9 : f = 9 ∧ k < m_nH I
    · rw [if_pos c9, if_pos c9]
    rw [if_neg c9, if_neg c9]
    rcases g with g | g | g | g | g
    · exact absurd g c0
    · exact absurd g c5
    · omega
    · exact absurd g c9
    · exact g
  refine ⟨fun f hf => e f 0 (Or.inl ⟨hf, rfl⟩), fun s hs => e 5 s ?_, fun f l h1 h2 h3 => e f l ?_⟩
  · by_cases c : s < m_nZ I
    · exact Or.inr (Or.inl ⟨rfl, c⟩)
    · exact Or.inr (Or.inr (Or.inr (Or.inr (h.2.1 s (by omega)))))
  · by_cases c9 : f = 9
    · subst c9
      by_cases c : l < m_nH I
      · exact Or.inr (Or.inr (Or.inr (Or.inl ⟨rfl, c⟩)))
      · exact Or.inr (Or.inr (Or.inr (Or.inr (h.2.2.2 l (by omega)))))
    · by_cases c : l < m_nL I
      · exact Or.inr (Or.inr (Or.inl ⟨by omega, c⟩))
      · exact Or.inr (Or.inr (Or.inr (Or.inr (h.2.2.1 f l h1 (by omega) (by omega)))))
theorem okX_start {t : Nat} {W : Nat → Nat → Int32} (hT : t_rel I t) : m_okX I (m_start I W) := by
  obtain ⟨⟨ht, hok, hst, hokL⟩, _, _, _, _, _, _, _, _, _, _, _, ebe, _⟩ := hT
  obtain ⟨⟨eH, hH8⟩, _, ⟨eZ, hZ5⟩, ⟨eL, hL8⟩, _, hB, _⟩ := hok
  refine ⟨?_, ⟨0, by omega, ?_⟩, ?_, ?_, ?_⟩
  · intro s hs
    obtain ⟨h, hh, eh⟩ := hB s hs
    refine ⟨h, hh, ?_⟩
    show m_sta I W _ _ _ 5 s = _
    unfold m_sta
    rw [if_neg (by omega), if_pos (by omega), eh]
  · show m_sta I W _ _ _ 0 0 = _
    unfold m_sta
    rw [if_pos (by omega), if_neg (by omega)]
  · intro l hl
    obtain ⟨s, hs, es⟩ := hokL l hl
    obtain ⟨h, hh, eh⟩ := hB s hs
    left
    refine ⟨?_, h, hh, ?_⟩
    · show m_sta I W _ _ _ 6 l = _
      unfold m_sta
      rw [if_neg (by omega), if_neg (by omega), if_pos (by omega)]
    · show m_sta I W _ _ _ 7 l = _
      unfold m_sta
      rw [if_neg (by omega), if_neg (by omega), if_neg (by omega), if_pos (by omega), es, nI_clamp (by omega), eh]
  · intro i hi1 hi2
    show bt (m_sta I W _ _ _ 4 0) i = _
    unfold m_sta
    rw [if_pos (by omega), if_neg (by omega), b_z]
  · intro h hh
    obtain ⟨_, _, ⟨k, hk, ek⟩, _⟩ := ebe h hh
    refine ⟨k, hk, ?_⟩
    show m_sta I W _ _ _ 9 h = _
    unfold m_sta
    rw [if_neg (by omega), if_neg (by omega), if_neg (by omega), if_neg (by omega), if_neg (by omega), if_pos (by omega), ek]
end
