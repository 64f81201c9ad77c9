/-! ===== L3: the model walks, second part ===== -/
section
variable {d N n : Nat} {Q : Value → am_H → Prop} {r : am_rho} {I : Nat → Nat → Int32} {J : Nat → Nat → Int64} {W : Nat → Nat → Int32} {v : Int32} {F T : Nat → Int32} {nm wk : Nat → Int64}
theorem s_M_isDropped {s h : Nat} (hok : m_ok I) (hD : m_okD I) (hn : n < 23) (hs : s < m_nZ I) (hh : h < m_nH I) (hQ : ∀ v' nm' wk', Q (.int (nI (m_drop I W F s h).toNat)) (am_hp N r (m_M I n W v' F T) (m_J J nm' wk'))) : am_D (d + 4) 221 [.ref 93, .int (nI n), .int (nI s), .int (nI h)] (am_hp N r (m_M I n W v F T) (m_J J nm wk)) Q := by
  rw [e_M_isDropped, s_M_calls hok hD hn hs hh]
  rw [e_M_isDropped_8, s_M_hasLaw (by omega)]
  try simp (config := {maxSteps := 1000000}) (disch := omega) only [nI_add, nI_1, am_mulN, nI_clamp, am_gI, am_ifd, am_ifn, am_asIe, am_asLe, nI_leI, nI_ltI, nI_eq, am_neg1, am_neg1b, m_Mo, m_Mv, m_MF, m_MT, m_M0, m_M1, m_M2, m_M3, m_M4, m_M5, m_M6, m_M7, m_M8, m_M9, m_wv, m_w0, m_w1, m_w2, m_w3, m_w4, m_w5, m_w6, m_w7, m_w8, m_w9, m_wF, m_wT, m_Jn, m_Jw, m_Jo, m_un, m_uw, m_has_M]
  rw [e_M_isDropped_13]
  try simp (config := {maxSteps := 1000000}) (disch := omega) only [nI_add, nI_1, am_mulN, nI_clamp, am_gI, am_ifd, am_ifn, am_asIe, am_asLe, nI_leI, nI_ltI, nI_eq, am_neg1, am_neg1b, m_Mo, m_Mv, m_MF, m_MT, m_M0, m_M1, m_M2, m_M3, m_M4, m_M5, m_M6, m_M7, m_M8, m_M9, m_wv, m_w0, m_w1, m_w2, m_w3, m_w4, m_w5, m_w6, m_w7, m_w8, m_w9, m_wF, m_wT, m_Jn, m_Jw, m_Jo, m_un, m_uw, b_v0]
  have hp : m_drop I W F s h = m_drop I W F s h := rfl
  conv at hp => rhs; unfold m_drop
  rw [← m_law_nm (by omega) hok.2.2.2.2.2.2 (m_nm07 (nm := nm))] at hp
  by_cases hh : m_has I 2 = true
  · rw [if_neg (by rw [hh]; decide)]
    refine s_M_goes (by omega) hok.2.2.2.2.2.2 hh ?_
    cases hm : m_law I 2 (m_nmv I W F s h (nI 0) nm) with
    | none =>
      intro v' wk'
      try simp (config := {maxSteps := 1000000}) (disch := omega) only [nI_add, nI_1, am_mulN, nI_clamp, am_gI, am_ifd, am_ifn, am_asIe, am_asLe, nI_leI, nI_ltI, nI_eq, am_neg1, am_neg1b, m_Mo, m_Mv, m_MF, m_MT, m_M0, m_M1, m_M2, m_M3, m_M4, m_M5, m_M6, m_M7, m_M8, m_M9, m_wv, m_w0, m_w1, m_w2, m_w3, m_w4, m_w5, m_w6, m_w7, m_w8, m_w9, m_wF, m_wT, m_Jn, m_Jw, m_Jo, m_un, m_uw]
      rw [e_M_isDropped_21]
      try simp (config := {maxSteps := 1000000}) (disch := omega) only [nI_add, nI_1, am_mulN, nI_clamp, am_gI, am_ifd, am_ifn, am_asIe, am_asLe, nI_leI, nI_ltI, nI_eq, am_neg1, am_neg1b, m_Mo, m_Mv, m_MF, m_MT, m_M0, m_M1, m_M2, m_M3, m_M4, m_M5, m_M6, m_M7, m_M8, m_M9, m_wv, m_w0, m_w1, m_w2, m_w3, m_w4, m_w5, m_w6, m_w7, m_w8, m_w9, m_wF, m_wT, m_Jn, m_Jw, m_Jo, m_un, m_uw, if_true]
      rw [hm] at hp
      rw [hp] at hQ
      exact hQ _ _ _
    | some z =>
      intro v' wk' hz
      try simp (config := {maxSteps := 1000000}) (disch := omega) only [nI_add, nI_1, am_mulN, nI_clamp, am_gI, am_ifd, am_ifn, am_asIe, am_asLe, nI_leI, nI_ltI, nI_eq, am_neg1, am_neg1b, m_Mo, m_Mv, m_MF, m_MT, m_M0, m_M1, m_M2, m_M3, m_M4, m_M5, m_M6, m_M7, m_M8, m_M9, m_wv, m_w0, m_w1, m_w2, m_w3, m_w4, m_w5, m_w6, m_w7, m_w8, m_w9, m_wF, m_wT, m_Jn, m_Jw, m_Jo, m_un, m_uw]
      rw [e_M_isDropped_21]
      try simp (config := {maxSteps := 1000000}) (disch := omega) only [nI_add, nI_1, am_mulN, nI_clamp, am_gI, am_ifd, am_ifn, am_asIe, am_asLe, nI_leI, nI_ltI, nI_eq, am_neg1, am_neg1b, m_Mo, m_Mv, m_MF, m_MT, m_M0, m_M1, m_M2, m_M3, m_M4, m_M5, m_M6, m_M7, m_M8, m_M9, m_wv, m_w0, m_w1, m_w2, m_w3, m_w4, m_w5, m_w6, m_w7, m_w8, m_w9, m_wF, m_wT, m_Jn, m_Jw, m_Jo, m_un, m_uw, show ¬ (1 = 0) by omega, if_false, am_lgL, hz]
      rw [hm] at hp
      rw [hp] at hQ
      rw [am_iteQ]
      have e : (!decide (z ≤ 0)) = decide (0 < z) := by
        by_cases h : z ≤ 0
        · have : ¬ 0 < z := by rw [fa_lt64]; rw [fa_le64] at h; omega
          simp [h, this]
        · have : 0 < z := by rw [fa_lt64]; rw [fa_le64] at h; omega
          simp [h, this]
      rw [e]
      exact hQ _ _ _
  · have hf : m_has I 2 = false := ts_ne hh
    rw [if_pos hf]
    rw [m_law, if_neg hh] at hp
    rw [hp] at hQ
    exact hQ _ _ _
theorem s_J_minL {x y : Int64} : am_D (d + 1) 282 [.long x, .long y] (am_hp N r I J) Q = Q (.long (if y < x then y else x)) (am_hp N r I J) := by
  rw [e_J_minL]
  try simp (config := {maxSteps := 1000000}) (disch := omega) only [nI_add, nI_1, am_mulN, nI_clamp, am_gI, am_ifd, am_ifn, am_asIe, am_asLe, nI_leI, nI_ltI, nI_eq, am_neg1, am_neg1b, am_lgg]
  split <;> rfl
theorem s_J_maxL {x y : Int64} : am_D (d + 1) 280 [.long x, .long y] (am_hp N r I J) Q = Q (.long (if x < y then y else x)) (am_hp N r I J) := by
  rw [e_J_maxL]
  try simp (config := {maxSteps := 1000000}) (disch := omega) only [nI_add, nI_1, am_mulN, nI_clamp, am_gI, am_ifd, am_ifn, am_asIe, am_asLe, nI_leI, nI_ltI, nI_eq, am_neg1, am_neg1b, am_lgl]
  split <;> rfl
theorem s_M_wakeOf {s h : Nat} (hok : m_ok I) (hD : m_okD I) (hn : n < 23) (hs : s < m_nZ I) (hh : h < m_nH I) (hQ : ∀ v' nm' wk', Q (.int (m_wake I W F s h)) (am_hp N r (m_M I n W v' F T) (m_J J nm' wk'))) : am_D (d + 4) 222 [.ref 93, .int (nI n), .int (nI s), .int (nI h)] (am_hp N r (m_M I n W v F T) (m_J J nm wk)) Q := by
  have e0 : m_nmv I W F s h (nI 0) nm 0 = (m_deep I s).toInt64 := rfl
  have e3 : m_nmv I W F s h (nI 0) nm 3 = (m_noise I (W 9 h) h).toInt64 := rfl
  have ec : ∀ H : am_H, (if (m_noise I (W 9 h) h).toInt64 ≤ (m_deep I s).toInt64 then Q (.int (nI 0)) H else Q (.int (nI 100)) H) = Q (.int (if (m_deep I s).toInt64 < (m_noise I (W 9 h) h).toInt64 then nI 100 else nI 0)) H := by
    intro H
    by_cases h1 : (m_noise I (W 9 h) h).toInt64 ≤ (m_deep I s).toInt64
    · have : ¬ (m_deep I s).toInt64 < (m_noise I (W 9 h) h).toInt64 := by rw [fa_lt64]; rw [fa_le64] at h1; omega
      rw [if_pos h1, if_neg this]
    · have : (m_deep I s).toInt64 < (m_noise I (W 9 h) h).toInt64 := by rw [fa_lt64]; rw [fa_le64] at h1; omega
      rw [if_neg h1, if_pos this]
  rw [e_M_wakeOf, s_M_calls hok hD hn hs hh]
  rw [e_M_wakeOf_8, s_M_hasLaw (by omega)]
  try simp (config := {maxSteps := 1000000}) (disch := omega) only [nI_add, nI_1, am_mulN, nI_clamp, am_gI, am_ifd, am_ifn, am_asIe, am_asLe, nI_leI, nI_ltI, nI_eq, am_neg1, am_neg1b, m_Mo, m_Mv, m_MF, m_MT, m_M0, m_M1, m_M2, m_M3, m_M4, m_M5, m_M6, m_M7, m_M8, m_M9, m_wv, m_w0, m_w1, m_w2, m_w3, m_w4, m_w5, m_w6, m_w7, m_w8, m_w9, m_wF, m_wT, m_Jn, m_Jw, m_Jo, m_un, m_uw, m_has_M]
  rw [e_M_wakeOf_13]
  try simp (config := {maxSteps := 1000000}) (disch := omega) only [nI_add, nI_1, am_mulN, nI_clamp, am_gI, am_ifd, am_ifn, am_asIe, am_asLe, nI_leI, nI_ltI, nI_eq, am_neg1, am_neg1b, m_Mo, m_Mv, m_MF, m_MT, m_M0, m_M1, m_M2, m_M3, m_M4, m_M5, m_M6, m_M7, m_M8, m_M9, m_wv, m_w0, m_w1, m_w2, m_w3, m_w4, m_w5, m_w6, m_w7, m_w8, m_w9, m_wF, m_wT, m_Jn, m_Jw, m_Jo, m_un, m_uw, b_v0, am_lgL, e0, e3, ec]
  have hp : m_wake I W F s h = m_wake I W F s h := rfl
  conv at hp => rhs; unfold m_wake
  rw [← m_law_nm (by omega) hok.2.2.2.2.2.2 (m_nm07 (nm := nm))] at hp
  by_cases hh : m_has I 1 = true
  · rw [if_neg (by rw [hh]; decide)]
    refine s_M_goes (by omega) hok.2.2.2.2.2.2 hh ?_
    cases hm : m_law I 1 (m_nmv I W F s h (nI 0) nm) with
    | none =>
      intro v' wk'
      try simp (config := {maxSteps := 1000000}) (disch := omega) only [nI_add, nI_1, am_mulN, nI_clamp, am_gI, am_ifd, am_ifn, am_asIe, am_asLe, nI_leI, nI_ltI, nI_eq, am_neg1, am_neg1b, m_Mo, m_Mv, m_MF, m_MT, m_M0, m_M1, m_M2, m_M3, m_M4, m_M5, m_M6, m_M7, m_M8, m_M9, m_wv, m_w0, m_w1, m_w2, m_w3, m_w4, m_w5, m_w6, m_w7, m_w8, m_w9, m_wF, m_wT, m_Jn, m_Jw, m_Jo, m_un, m_uw]
      rw [e_M_wakeOf_21]
      try simp (config := {maxSteps := 1000000}) (disch := omega) only [nI_add, nI_1, am_mulN, nI_clamp, am_gI, am_ifd, am_ifn, am_asIe, am_asLe, nI_leI, nI_ltI, nI_eq, am_neg1, am_neg1b, m_Mo, m_Mv, m_MF, m_MT, m_M0, m_M1, m_M2, m_M3, m_M4, m_M5, m_M6, m_M7, m_M8, m_M9, m_wv, m_w0, m_w1, m_w2, m_w3, m_w4, m_w5, m_w6, m_w7, m_w8, m_w9, m_wF, m_wT, m_Jn, m_Jw, m_Jo, m_un, m_uw, if_true, am_lgL, e0, e3, ec]
      rw [hm] at hp
      rw [hp] at hQ
      exact hQ _ _ _
    | some z =>
      intro v' wk' hz
      try simp (config := {maxSteps := 1000000}) (disch := omega) only [nI_add, nI_1, am_mulN, nI_clamp, am_gI, am_ifd, am_ifn, am_asIe, am_asLe, nI_leI, nI_ltI, nI_eq, am_neg1, am_neg1b, m_Mo, m_Mv, m_MF, m_MT, m_M0, m_M1, m_M2, m_M3, m_M4, m_M5, m_M6, m_M7, m_M8, m_M9, m_wv, m_w0, m_w1, m_w2, m_w3, m_w4, m_w5, m_w6, m_w7, m_w8, m_w9, m_wF, m_wT, m_Jn, m_Jw, m_Jo, m_un, m_uw]
      rw [e_M_wakeOf_21]
      try simp (config := {maxSteps := 1000000}) (disch := omega) only [nI_add, nI_1, am_mulN, nI_clamp, am_gI, am_ifd, am_ifn, am_asIe, am_asLe, nI_leI, nI_ltI, nI_eq, am_neg1, am_neg1b, m_Mo, m_Mv, m_MF, m_MT, m_M0, m_M1, m_M2, m_M3, m_M4, m_M5, m_M6, m_M7, m_M8, m_M9, m_wv, m_w0, m_w1, m_w2, m_w3, m_w4, m_w5, m_w6, m_w7, m_w8, m_w9, m_wF, m_wT, m_Jn, m_Jw, m_Jo, m_un, m_uw, show ¬ (1 = 0) by omega, if_false, hz, s_J_minL, e_M_wakeOf_60, s_J_maxL, e_M_wakeOf_63]
      rw [hm] at hp
      rw [hp] at hQ
      exact hQ _ _ _
  · have hf : m_has I 1 = false := ts_ne hh
    rw [if_pos hf]
    rw [m_law, if_neg hh] at hp
    rw [hp] at hQ
    exact hQ _ _ _
theorem m_u20 {x : Int32} : am_u W 2 0 x 2 0 = x := am_uE
theorem s_M_isWoken {wake : Int32} {b : Bool} (hn : n < 23) (hQ : Q (.int (nI (m_woke wake b (W 2 0)).1.toNat)) (am_hp N r (m_M I n (am_u W 2 0 (m_woke wake b (W 2 0)).2) v F T) J)) : am_D (d + 1) 224 [.ref 93, .int (nI n), .int wake, .int (nI b.toNat)] (am_hp N r (m_M I n W v F T) J) Q := by
  have eself : am_u W 2 0 (W 2 0) = W := by
    funext f k; unfold am_u
    by_cases h : f = 2 ∧ k = 0
    · rw [if_pos h, h.1, h.2]
    · rw [if_neg h]
  unfold m_woke at hQ
  rw [e_M_isWoken]
  try simp (config := {maxSteps := 1000000}) (disch := omega) only [nI_add, nI_1, am_mulN, nI_clamp, am_gI, am_ifd, am_ifn, am_asIe, am_asLe, nI_leI, nI_ltI, nI_eq, am_neg1, am_neg1b, m_Mo, m_Mv, m_MF, m_MT, m_M0, m_M1, m_M2, m_M3, m_M4, m_M5, m_M6, m_M7, m_M8, m_M9, m_wv, m_w0, m_w1, m_w2, m_w3, m_w4, m_w5, m_w6, m_w7, m_w8, m_w9, m_wF, m_wT, m_Jn, m_Jw, m_Jo, m_un, m_uw, b_v0, m_u20]
  cases b
  · rw [if_neg (by decide)] at hQ
    rw [if_pos rfl]
    try dsimp only at hQ
    rw [eself] at hQ
    rw [am_iteQ]
    exact hQ
  · rw [if_pos rfl] at hQ
    rw [if_neg (by decide)]
    by_cases h0 : wake = nI 0
    · rw [if_pos h0] at hQ ⊢
      rw [if_neg (by rw [h0]; decide)]
      try dsimp only at hQ
      rw [eself] at hQ
      exact hQ
    · rw [if_neg h0] at hQ ⊢
      by_cases h1 : wake = nI 100
      · rw [if_pos h1] at hQ
        rw [if_pos h1, if_pos h1]
        try dsimp only at hQ
        rw [eself] at hQ
        exact hQ
      · rw [if_neg h1] at hQ ⊢
        rw [am_iteQ, am_nle]
        exact hQ
theorem m_takeF_0 {s h : Int32} : m_takeF I s h W 0 = W := by funext f l; unfold m_takeF; rw [if_neg (by omega)]
theorem m_takeF_no {s h : Int32} {k : Nat} (hc : ¬ (W 6 k = nI 0 ∧ W 7 k = h)) : m_takeF I s h W (k + 1) = m_takeF I s h W k := by
  funext f l; unfold m_takeF
  by_cases e : l = k
  · subst e; rw [if_neg (fun h => hc h.2.1), if_neg (by omega)]
  · by_cases h1 : l < k ∧ (W 6 l = nI 0 ∧ W 7 l = h) ∧ (f = 6 ∨ f = 7 ∨ f = 8)
    · rw [if_pos h1, if_pos ⟨by omega, h1.2⟩]
    · rw [if_neg h1, if_neg (fun h => h1 ⟨by omega, h.2⟩)]
theorem m_takeF_yes {s h : Int32} {k : Nat} (hc : W 6 k = nI 0 ∧ W 7 k = h) : m_takeF I s h W (k + 1) = am_u (am_u (am_u (m_takeF I s h W k) 6 k (nI 1)) 7 k s) 8 k s := by
  funext f l; unfold m_takeF am_u; try dsimp only
  by_cases e : l = k
  · subst e
    by_cases f6 : f = 6
    · subst f6; simp [hc]
    · by_cases f7 : f = 7
      · subst f7; simp [hc]
      · by_cases f8 : f = 8
        · subst f8; simp [hc]
        · simp [f6, f7, f8]
  · by_cases h1 : l < k ∧ (W 6 l = nI 0 ∧ W 7 l = h) ∧ (f = 6 ∨ f = 7 ∨ f = 8)
    · rw [if_pos (show l < k + 1 ∧ _ from ⟨by omega, h1.2⟩)]; simp only [e, and_false, if_false]; rw [if_pos h1]
    · rw [if_neg (fun h => h1 ⟨by omega, h.2⟩)]; simp only [e, and_false, if_false]; rw [if_neg h1]
theorem m_takeF_r {s h : Int32} {k f : Nat} : m_takeF I s h W k f k = W f k := by unfold m_takeF; rw [if_neg (by omega)]
theorem s_M_takes {s h : Int32} (hok : m_ok I) (hn : n < 23) : am_D (d + 1) 225 [.ref 93, .int (nI n), .int s, .int h] (am_hp N r (m_M I n W v F T) J) Q = Q .null (am_hp N r (m_M I n (m_takeF I s h W (m_nL I)) v F T) J) := by
  obtain ⟨_, _, _, ⟨hL, hL8⟩, _⟩ := hok
  have lp := am_upO (P := fun j o => am_V d Q 225 3 [some (.ref 93), some (.int (nI n)), some (.int s), some (.int h), some (.int (nI j)), am_oi o] [] (am_hp N r (m_M I n (m_takeF I s h W j) v F T) J)) (R := Q .null (am_hp N r (m_M I n (m_takeF I s h W (m_nL I)) v F T) J)) (m_nL I)
    (by
      intro o
      try dsimp only
      rw [e_M_takes_3]
      try simp (config := {maxSteps := 1000000}) (disch := omega) only [nI_add, nI_1, am_mulN, nI_clamp, am_gI, am_ifd, am_ifn, am_asIe, am_asLe, nI_leI, nI_ltI, nI_eq, am_neg1, am_neg1b, m_Mo, m_Mv, m_MF, m_MT, m_M0, m_M1, m_M2, m_M3, m_M4, m_M5, m_M6, m_M7, m_M8, m_M9, m_wv, m_w0, m_w1, m_w2, m_w3, m_w4, m_w5, m_w6, m_w7, m_w8, m_w9, m_wF, m_wT, m_Jn, m_Jw, m_Jo, m_un, m_uw, hL, Nat.le_refl, if_true])
    (by
      intro j hj o
      try dsimp only
      refine ⟨some (nI (8 * n + j)), ?_⟩
      rw [e_M_takes_3]
      try simp (config := {maxSteps := 1000000}) (disch := omega) only [nI_add, nI_1, am_mulN, nI_clamp, am_gI, am_ifd, am_ifn, am_asIe, am_asLe, nI_leI, nI_ltI, nI_eq, am_neg1, am_neg1b, m_Mo, m_Mv, m_MF, m_MT, m_M0, m_M1, m_M2, m_M3, m_M4, m_M5, m_M6, m_M7, m_M8, m_M9, m_wv, m_w0, m_w1, m_w2, m_w3, m_w4, m_w5, m_w6, m_w7, m_w8, m_w9, m_wF, m_wT, m_Jn, m_Jw, m_Jo, m_un, m_uw, hL, m_takeF_r]
      rw [if_neg (by omega)]
      by_cases h1 : W 6 j = nI 0
      · by_cases h2 : W 7 j = h
        · rw [if_pos h1, if_pos h2, m_takeF_yes ⟨h1, h2⟩]
        · rw [if_pos h1, if_neg h2, m_takeF_no (fun h => h2 h.2)]
      · rw [if_neg h1, m_takeF_no (fun h => h1 h.1)])
  rw [e_M_takes]
  have := lp 0 (by omega) none
  try dsimp only at this
  rw [m_takeF_0] at this
  exact this
theorem m_downF_0 {s h : Int32} : m_downF s h W 0 = W := by funext f l; unfold m_downF; rw [if_neg (by omega)]
theorem m_downF_no {s h : Int32} {k : Nat} (hc : ¬ (W 6 k = nI 1 ∧ W 7 k = s)) : m_downF s h W (k + 1) = m_downF s h W k := by
  funext f l; unfold m_downF
  by_cases e : l = k
  · subst e; rw [if_neg (fun h => hc h.2.1), if_neg (by omega)]
  · by_cases h1 : l < k ∧ (W 6 l = nI 1 ∧ W 7 l = s) ∧ (f = 6 ∨ f = 7)
    · rw [if_pos h1, if_pos ⟨by omega, h1.2⟩]
    · rw [if_neg h1, if_neg (fun h => h1 ⟨by omega, h.2⟩)]
theorem m_downF_yes {s h : Int32} {k : Nat} (hc : W 6 k = nI 1 ∧ W 7 k = s) : m_downF s h W (k + 1) = am_u (am_u (m_downF s h W k) 6 k (nI 0)) 7 k h := by
  funext f l; unfold m_downF am_u; try dsimp only
  by_cases e : l = k
  · subst e
    by_cases f6 : f = 6
    · subst f6; simp [hc]
    · by_cases f7 : f = 7
      · subst f7; simp [hc]
      · simp [f6, f7]
  · by_cases h1 : l < k ∧ (W 6 l = nI 1 ∧ W 7 l = s) ∧ (f = 6 ∨ f = 7)
    · rw [if_pos (show l < k + 1 ∧ _ from ⟨by omega, h1.2⟩)]; simp only [e, and_false, if_false]; rw [if_pos h1]
    · rw [if_neg (fun h => h1 ⟨by omega, h.2⟩)]; simp only [e, and_false, if_false]; rw [if_neg h1]
theorem m_bringF_0 {s h : Int32} : m_bringF I s h W 0 = W := by funext f l; unfold m_bringF; rw [if_neg (by omega)]
theorem m_bringF_no {s h : Int32} {k : Nat} (hc : ¬ ((W 6 k = nI 1 ∧ W 7 k = s) ∧ I 108 k = h)) : m_bringF I s h W (k + 1) = m_bringF I s h W k := by
  funext f l; unfold m_bringF
  by_cases e : l = k
  · subst e; rw [if_neg (fun h => hc h.2.1), if_neg (by omega)]
  · by_cases h1 : l < k ∧ ((W 6 l = nI 1 ∧ W 7 l = s) ∧ I 108 l = h) ∧ (f = 6 ∨ f = 7)
    · rw [if_pos h1, if_pos ⟨by omega, h1.2⟩]
    · rw [if_neg h1, if_neg (fun h => h1 ⟨by omega, h.2⟩)]
theorem m_bringF_yes {s h : Int32} {k : Nat} (hc : (W 6 k = nI 1 ∧ W 7 k = s) ∧ I 108 k = h) : m_bringF I s h W (k + 1) = am_u (am_u (m_bringF I s h W k) 6 k (nI 2)) 7 k h := by
  funext f l; unfold m_bringF am_u; try dsimp only
  by_cases e : l = k
  · subst e
    by_cases f6 : f = 6
    · subst f6; simp [hc]
    · by_cases f7 : f = 7
      · subst f7; simp [hc]
      · simp [f6, f7]
  · by_cases h1 : l < k ∧ ((W 6 l = nI 1 ∧ W 7 l = s) ∧ I 108 l = h) ∧ (f = 6 ∨ f = 7)
    · rw [if_pos (show l < k + 1 ∧ _ from ⟨by omega, h1.2⟩)]; simp only [e, and_false, if_false]; rw [if_pos h1]
    · rw [if_neg (fun h => h1 ⟨by omega, h.2⟩)]; simp only [e, and_false, if_false]; rw [if_neg h1]
theorem m_hand_b {s : Int32} {l : Nat} (hL : m_nL I ≤ 8) (hl : l < m_nL I) : bt (m_hand I W s) l = decide (W 6 l = nI 1 ∧ W 7 l = s) := by
  unfold m_hand
  rw [b_mk (by omega) (by omega)]
  simp [hl]
theorem s_M_laysDown {s h : Int32} (hok : m_ok I) (hn : n < 23) : am_D (d + 2) 226 [.ref 93, .int (nI n), .int s, .int h] (am_hp N r (m_M I n W v F T) J) Q = Q .null (am_hp N r (m_M I n (m_downF s h W (m_nL I)) v F T) J) := by
  obtain ⟨_, _, _, ⟨hL, hL8⟩, _⟩ := hok
  have lp := am_up (P := fun j => am_V (d + 1) Q 226 11 [some (.ref 93), some (.int (nI n)), some (.int s), some (.int h), some (.int (m_hand I W s)), some (.int (nI j))] [] (am_hp N r (m_M I n (m_downF s h W j) v F T) J)) (R := Q .null (am_hp N r (m_M I n (m_downF s h W (m_nL I)) v F T) J)) (m_nL I)
    (by
      try dsimp only
      rw [e_M_laysDown_11]
      try simp (config := {maxSteps := 1000000}) (disch := omega) only [nI_add, nI_1, am_mulN, nI_clamp, am_gI, am_ifd, am_ifn, am_asIe, am_asLe, nI_leI, nI_ltI, nI_eq, am_neg1, am_neg1b, m_Mo, m_Mv, m_MF, m_MT, m_M0, m_M1, m_M2, m_M3, m_M4, m_M5, m_M6, m_M7, m_M8, m_M9, m_wv, m_w0, m_w1, m_w2, m_w3, m_w4, m_w5, m_w6, m_w7, m_w8, m_w9, m_wF, m_wT, m_Jn, m_Jw, m_Jo, m_un, m_uw, hL, Nat.le_refl, if_true])
    (by
      intro j hj
      try dsimp only
      rw [e_M_laysDown_11]
      try simp (config := {maxSteps := 1000000}) (disch := omega) only [nI_add, nI_1, am_mulN, nI_clamp, am_gI, am_ifd, am_ifn, am_asIe, am_asLe, nI_leI, nI_ltI, nI_eq, am_neg1, am_neg1b, m_Mo, m_Mv, m_MF, m_MT, m_M0, m_M1, m_M2, m_M3, m_M4, m_M5, m_M6, m_M7, m_M8, m_M9, m_wv, m_w0, m_w1, m_w2, m_w3, m_w4, m_w5, m_w6, m_w7, m_w8, m_w9, m_wF, m_wT, m_Jn, m_Jw, m_Jo, m_un, m_uw, hL, b_v, b_v0, m_hand_b]
      rw [if_neg (by omega)]
      by_cases h1 : W 6 j = nI 1 ∧ W 7 j = s
      · rw [if_neg (by simp [h1]), m_downF_yes h1]
      · rw [if_pos (by simp [h1]), m_downF_no h1])
  have eL : m_M I n W v F T 95 3 = nI (m_nL I) := by rw [m_Mo (by omega)]; exact hL
  rw [e_M_laysDown, s_M_inHand hn eL hL8, m_hand_e hL8]
  try simp (config := {maxSteps := 1000000}) (disch := omega) only [nI_add, nI_1, am_mulN, nI_clamp, am_gI, am_ifd, am_ifn, am_asIe, am_asLe, nI_leI, nI_ltI, nI_eq, am_neg1, am_neg1b, m_Mo, m_Mv, m_MF, m_MT, m_M0, m_M1, m_M2, m_M3, m_M4, m_M5, m_M6, m_M7, m_M8, m_M9, m_wv, m_w0, m_w1, m_w2, m_w3, m_w4, m_w5, m_w6, m_w7, m_w8, m_w9, m_wF, m_wT, m_Jn, m_Jw, m_Jo, m_un, m_uw]
  rw [e_M_laysDown_6]
  try simp (config := {maxSteps := 1000000}) (disch := omega) only [nI_add, nI_1, am_mulN, nI_clamp, am_gI, am_ifd, am_ifn, am_asIe, am_asLe, nI_leI, nI_ltI, nI_eq, am_neg1, am_neg1b, m_Mo, m_Mv, m_MF, m_MT, m_M0, m_M1, m_M2, m_M3, m_M4, m_M5, m_M6, m_M7, m_M8, m_M9, m_wv, m_w0, m_w1, m_w2, m_w3, m_w4, m_w5, m_w6, m_w7, m_w8, m_w9, m_wF, m_wT, m_Jn, m_Jw, m_Jo, m_un, m_uw]
  have := lp 0 (by omega)
  try dsimp only at this
  rw [m_downF_0] at this
  exact this
theorem s_M_arrive {s h : Int32} (hok : m_ok I) (hn : n < 23) : am_D (d + 2) 227 [.ref 93, .int (nI n), .int s, .int h] (am_hp N r (m_M I n W v F T) J) Q = Q .null (am_hp N r (m_M I n (m_bringF I s h W (m_nL I)) v F T) J) := by
  obtain ⟨_, _, _, ⟨hL, hL8⟩, _⟩ := hok
  have lp := am_up (P := fun j => am_V (d + 1) Q 227 11 [some (.ref 93), some (.int (nI n)), some (.int s), some (.int h), some (.int (m_hand I W s)), some (.int (nI j))] [] (am_hp N r (m_M I n (m_bringF I s h W j) v F T) J)) (R := Q .null (am_hp N r (m_M I n (m_bringF I s h W (m_nL I)) v F T) J)) (m_nL I)
    (by
      try dsimp only
      rw [e_M_arrive_11]
      try simp (config := {maxSteps := 1000000}) (disch := omega) only [nI_add, nI_1, am_mulN, nI_clamp, am_gI, am_ifd, am_ifn, am_asIe, am_asLe, nI_leI, nI_ltI, nI_eq, am_neg1, am_neg1b, m_Mo, m_Mv, m_MF, m_MT, m_M0, m_M1, m_M2, m_M3, m_M4, m_M5, m_M6, m_M7, m_M8, m_M9, m_wv, m_w0, m_w1, m_w2, m_w3, m_w4, m_w5, m_w6, m_w7, m_w8, m_w9, m_wF, m_wT, m_Jn, m_Jw, m_Jo, m_un, m_uw, hL, Nat.le_refl, if_true])
    (by
      intro j hj
      try dsimp only
      rw [e_M_arrive_11]
      try simp (config := {maxSteps := 1000000}) (disch := omega) only [nI_add, nI_1, am_mulN, nI_clamp, am_gI, am_ifd, am_ifn, am_asIe, am_asLe, nI_leI, nI_ltI, nI_eq, am_neg1, am_neg1b, m_Mo, m_Mv, m_MF, m_MT, m_M0, m_M1, m_M2, m_M3, m_M4, m_M5, m_M6, m_M7, m_M8, m_M9, m_wv, m_w0, m_w1, m_w2, m_w3, m_w4, m_w5, m_w6, m_w7, m_w8, m_w9, m_wF, m_wT, m_Jn, m_Jw, m_Jo, m_un, m_uw, hL, b_v, b_v0, m_hand_b]
      rw [if_neg (by omega)]
      by_cases h1 : W 6 j = nI 1 ∧ W 7 j = s
      · rw [if_neg (by simp [h1])]
        by_cases h2 : I 108 j = h
        · rw [if_pos h2, m_bringF_yes ⟨h1, h2⟩]
        · rw [if_neg h2, m_bringF_no (fun h => h2 h.2)]
      · rw [if_pos (by simp [h1]), m_bringF_no (fun h => h1 h.1)])
  have eL : m_M I n W v F T 95 3 = nI (m_nL I) := by rw [m_Mo (by omega)]; exact hL
  rw [e_M_arrive, s_M_inHand hn eL hL8, m_hand_e hL8]
  try simp (config := {maxSteps := 1000000}) (disch := omega) only [nI_add, nI_1, am_mulN, nI_clamp, am_gI, am_ifd, am_ifn, am_asIe, am_asLe, nI_leI, nI_ltI, nI_eq, am_neg1, am_neg1b, m_Mo, m_Mv, m_MF, m_MT, m_M0, m_M1, m_M2, m_M3, m_M4, m_M5, m_M6, m_M7, m_M8, m_M9, m_wv, m_w0, m_w1, m_w2, m_w3, m_w4, m_w5, m_w6, m_w7, m_w8, m_w9, m_wF, m_wT, m_Jn, m_Jw, m_Jo, m_un, m_uw]
  rw [e_M_arrive_6]
  try simp (config := {maxSteps := 1000000}) (disch := omega) only [nI_add, nI_1, am_mulN, nI_clamp, am_gI, am_ifd, am_ifn, am_asIe, am_asLe, nI_leI, nI_ltI, nI_eq, am_neg1, am_neg1b, m_Mo, m_Mv, m_MF, m_MT, m_M0, m_M1, m_M2, m_M3, m_M4, m_M5, m_M6, m_M7, m_M8, m_M9, m_wv, m_w0, m_w1, m_w2, m_w3, m_w4, m_w5, m_w6, m_w7, m_w8, m_w9, m_wF, m_wT, m_Jn, m_Jw, m_Jo, m_un, m_uw]
  have := lp 0 (by omega)
  try dsimp only at this
  rw [m_bringF_0] at this
  exact this
theorem s_M_goesTo {s fr : Nat} (hok : m_ok I) (hD : m_okD I) (hn : n < 23) (hs : s < m_nZ I) (hf : fr < m_nH I) (hQ : ∀ v' nm' wk', Q (.int (nI (m_go I W F s fr))) (am_hp N r (m_M I n W v' F T) (m_J J nm' wk'))) : am_D (d + 5) 228 [.ref 93, .int (nI n), .int (nI s), .int (nI fr)] (am_hp N r (m_M I n W v F T) (m_J J nm wk)) Q := by
  have hok' := hok
  obtain ⟨⟨hH, hH8⟩, ⟨hS, hS12⟩, ⟨hZ, hZ5⟩, ⟨hL, hL8⟩, ⟨hA, hA6⟩, hB, hl⟩ := hok'
  have lp : ∀ k j, m_nH I = j + k → ∀ o8 o9 v nm wk, am_V (d + 4) Q 228 16 [some (.ref 93), some (.int (nI n)), some (.int (nI s)), some (.int (nI fr)), some (.int (nI (m_goL I W F s fr j).1)), some (.long (m_goL I W F s fr j).2), none, some (.int (nI j)), am_oi o8, am_ol o9, none] [] (am_hp N r (m_M I n W v F T) (m_J J nm wk)) := by
    intro k
    induction k with
    | zero =>
      intro j hj o8 o9 v nm wk
      rw [e_M_goesTo_16]
      try simp (config := {maxSteps := 1000000}) (disch := omega) only [nI_add, nI_1, am_mulN, nI_clamp, am_gI, am_ifd, am_ifn, am_asIe, am_asLe, nI_leI, nI_ltI, nI_eq, am_neg1, am_neg1b, m_Mo, m_Mv, m_MF, m_MT, m_M0, m_M1, m_M2, m_M3, m_M4, m_M5, m_M6, m_M7, m_M8, m_M9, m_wv, m_w0, m_w1, m_w2, m_w3, m_w4, m_w5, m_w6, m_w7, m_w8, m_w9, m_wF, m_wT, m_Jn, m_Jw, m_Jo, m_un, m_uw, hH]
      rw [if_pos (by omega)]
      have e : j = m_nH I := by omega
      subst e
      exact hQ _ _ _
    | succ k ih =>
      intro j hj o8 o9 v nm wk
      have ih1 := ih (j + 1) (by omega)
      have eS : m_M I n W v F T 95 1 = nI (m_nS I) := by rw [m_Mo (by omega)]; exact hS
      have go44 : ∀ v nm wk, am_V (d + 4) Q 228 44 [some (.ref 93), some (.int (nI n)), some (.int (nI s)), some (.int (nI fr)), some (.int (nI (m_goL I W F s fr j).1)), some (.long (m_goL I W F s fr j).2), none, some (.int (nI j)), am_oi o8, am_ol o9, none] [.int (m_way I fr j)] (am_hp N r (m_M I n W v F T) (m_J J nm wk)) := by
        intro v nm wk
        rw [e_M_goesTo_44]
        try simp (config := {maxSteps := 1000000}) (disch := omega) only [nI_add, nI_1, am_mulN, nI_clamp, am_gI, am_ifd, am_ifn, am_asIe, am_asLe, nI_leI, nI_ltI, nI_eq, am_neg1, am_neg1b, m_Mo, m_Mv, m_MF, m_MT, m_M0, m_M1, m_M2, m_M3, m_M4, m_M5, m_M6, m_M7, m_M8, m_M9, m_wv, m_w0, m_w1, m_w2, m_w3, m_w4, m_w5, m_w6, m_w7, m_w8, m_w9, m_wF, m_wT, m_Jn, m_Jw, m_Jo, m_un, m_uw]
        by_cases hw : m_way I fr j = nI 0
        · rw [if_pos hw]
          have e : m_goL I W F s fr (j + 1) = m_goL I W F s fr j := by rw [m_goL, if_pos hw]
          rw [e] at ih1
          exact ih1 _ _ _ _ _
        · rw [if_neg hw]
          refine s_M_pullOf hok hD hn hs (by omega) ?_
          intro v' nm' wk'
          try simp (config := {maxSteps := 1000000}) (disch := omega) only [nI_add, nI_1, am_mulN, nI_clamp, am_gI, am_ifd, am_ifn, am_asIe, am_asLe, nI_leI, nI_ltI, nI_eq, am_neg1, am_neg1b, m_Mo, m_Mv, m_MF, m_MT, m_M0, m_M1, m_M2, m_M3, m_M4, m_M5, m_M6, m_M7, m_M8, m_M9, m_wv, m_w0, m_w1, m_w2, m_w3, m_w4, m_w5, m_w6, m_w7, m_w8, m_w9, m_wF, m_wT, m_Jn, m_Jw, m_Jo, m_un, m_uw]
          rw [e_M_goesTo_64]
          try simp (config := {maxSteps := 1000000}) (disch := omega) only [nI_add, nI_1, am_mulN, nI_clamp, am_gI, am_ifd, am_ifn, am_asIe, am_asLe, nI_leI, nI_ltI, nI_eq, am_neg1, am_neg1b, m_Mo, m_Mv, m_MF, m_MT, m_M0, m_M1, m_M2, m_M3, m_M4, m_M5, m_M6, m_M7, m_M8, m_M9, m_wv, m_w0, m_w1, m_w2, m_w3, m_w4, m_w5, m_w6, m_w7, m_w8, m_w9, m_wF, m_wT, m_Jn, m_Jw, m_Jo, m_un, m_uw, am_lgg]
          by_cases hc : (m_goL I W F s fr j).2 < m_pull I W F s j (m_way I fr j)
          · rw [if_pos hc]
            have e : m_goL I W F s fr (j + 1) = (j, m_pull I W F s j (m_way I fr j)) := by rw [m_goL, if_neg hw, if_pos hc]
            rw [e] at ih1
            exact ih1 _ _ _ _ _
          · rw [if_neg hc]
            have e : m_goL I W F s fr (j + 1) = m_goL I W F s fr j := by rw [m_goL, if_neg hw, if_neg hc]
            rw [e] at ih1
            exact ih1 _ _ _ _ _
      rw [e_M_goesTo_16]
      try simp (config := {maxSteps := 1000000}) (disch := omega) only [nI_add, nI_1, am_mulN, nI_clamp, am_gI, am_ifd, am_ifn, am_asIe, am_asLe, nI_leI, nI_ltI, nI_eq, am_neg1, am_neg1b, m_Mo, m_Mv, m_MF, m_MT, m_M0, m_M1, m_M2, m_M3, m_M4, m_M5, m_M6, m_M7, m_M8, m_M9, m_wv, m_w0, m_w1, m_w2, m_w3, m_w4, m_w5, m_w6, m_w7, m_w8, m_w9, m_wF, m_wT, m_Jn, m_Jw, m_Jo, m_un, m_uw, hH]
      rw [if_neg (by omega)]
      by_cases he : j = fr
      · rw [if_pos he]
        have := go44 v nm wk
        rw [m_way, if_pos he] at this
        exact this
      · rw [if_neg he, s_M_streetTo eS hS12, m_street_M]
        try simp (config := {maxSteps := 1000000}) (disch := omega) only [nI_add, nI_1, am_mulN, nI_clamp, am_gI, am_ifd, am_ifn, am_asIe, am_asLe, nI_leI, nI_ltI, nI_eq, am_neg1, am_neg1b, m_Mo, m_Mv, m_MF, m_MT, m_M0, m_M1, m_M2, m_M3, m_M4, m_M5, m_M6, m_M7, m_M8, m_M9, m_wv, m_w0, m_w1, m_w2, m_w3, m_w4, m_w5, m_w6, m_w7, m_w8, m_w9, m_wF, m_wT, m_Jn, m_Jw, m_Jo, m_un, m_uw]
        have := go44 v nm wk
        rw [m_way, if_neg he] at this
        exact this
  rw [e_M_goesTo]
  refine s_M_pullOf hok hD hn hs hf ?_
  intro v' nm' wk'
  try simp (config := {maxSteps := 1000000}) (disch := omega) only [nI_add, nI_1, am_mulN, nI_clamp, am_gI, am_ifd, am_ifn, am_asIe, am_asLe, nI_leI, nI_ltI, nI_eq, am_neg1, am_neg1b, m_Mo, m_Mv, m_MF, m_MT, m_M0, m_M1, m_M2, m_M3, m_M4, m_M5, m_M6, m_M7, m_M8, m_M9, m_wv, m_w0, m_w1, m_w2, m_w3, m_w4, m_w5, m_w6, m_w7, m_w8, m_w9, m_wF, m_wT, m_Jn, m_Jw, m_Jo, m_un, m_uw]
  rw [e_M_goesTo_11]
  try simp (config := {maxSteps := 1000000}) (disch := omega) only [nI_add, nI_1, am_mulN, nI_clamp, am_gI, am_ifd, am_ifn, am_asIe, am_asLe, nI_leI, nI_ltI, nI_eq, am_neg1, am_neg1b, m_Mo, m_Mv, m_MF, m_MT, m_M0, m_M1, m_M2, m_M3, m_M4, m_M5, m_M6, m_M7, m_M8, m_M9, m_wv, m_w0, m_w1, m_w2, m_w3, m_w4, m_w5, m_w6, m_w7, m_w8, m_w9, m_wF, m_wT, m_Jn, m_Jw, m_Jo, m_un, m_uw]
  exact lp (m_nH I) 0 (by omega) none none _ _ _
theorem m_w5W {s : Nat} {x : Int32} : am_u W 5 s x 5 s = x := am_uE
theorem s_M_walks {s : Nat} {b : Bool} (hok : m_ok I) (hD : m_okD I) (hW : m_okW I W) (hn : n < 23) (hs : s < m_nZ I) (hQ : ∀ v' nm' wk', Q .null (am_hp N r (m_M I n (m_walk I F b W s) v' F T) (m_J J nm' wk'))) : am_D (d + 6) 229 [.ref 93, .int (nI n), .int (nI s), .int (nI b.toNat)] (am_hp N r (m_M I n W v F T) (m_J J nm wk)) Q := by
  have hok' := hok
  obtain ⟨⟨hH, hH8⟩, ⟨hS, hS12⟩, ⟨hZ, hZ5⟩, ⟨hL, hL8⟩, ⟨hA, hA6⟩, hB, hl⟩ := hok'
  have hs5 : s < 5 := by omega
  obtain ⟨fr, hfr, hfr'⟩ := hW s hs
  have hgo : ∀ W', m_go I W' F s fr < m_nH I := fun W' => m_goL_lt hfr _ (Nat.le_refl _)
  -- behind the taking
  have p35 : ∀ v nm wk W1, W1 = m_walk1 I W s → am_V (d + 5) Q 229 35 [some (.ref 93), some (.int (nI n)), some (.int (nI s)), some (.int (nI b.toNat)), some (.int (nI (5 * n + s))), none] [] (am_hp N r (m_M I n W1 v F T) (m_J J nm wk)) := by
    intro v nm wk W1 hW1
    have hat : W1 5 s = nI fr := by
      rw [hW1, m_walk1]
      split
      · unfold m_takeF; rw [if_neg (by omega)]; exact hfr'
      · exact hfr'
    have hw2 : m_walk2 I F W1 s = am_u W1 5 s (nI (m_go I W1 F s fr)) := by rw [m_walk2, hat, nI_clamp (by omega)]
    rw [e_M_walks_35]
    try simp (config := {maxSteps := 1000000}) (disch := omega) only [nI_add, nI_1, am_mulN, nI_clamp, am_gI, am_ifd, am_ifn, am_asIe, am_asLe, nI_leI, nI_ltI, nI_eq, am_neg1, am_neg1b, m_Mo, m_Mv, m_MF, m_MT, m_M0, m_M1, m_M2, m_M3, m_M4, m_M5, m_M6, m_M7, m_M8, m_M9, m_wv, m_w0, m_w1, m_w2, m_w3, m_w4, m_w5, m_w6, m_w7, m_w8, m_w9, m_wF, m_wT, m_Jn, m_Jw, m_Jo, m_un, m_uw, hat]
    refine s_M_goesTo hok hD hn hs hfr ?_
    intro v' nm' wk'
    try simp (config := {maxSteps := 1000000}) (disch := omega) only [nI_add, nI_1, am_mulN, nI_clamp, am_gI, am_ifd, am_ifn, am_asIe, am_asLe, nI_leI, nI_ltI, nI_eq, am_neg1, am_neg1b, m_Mo, m_Mv, m_MF, m_MT, m_M0, m_M1, m_M2, m_M3, m_M4, m_M5, m_M6, m_M7, m_M8, m_M9, m_wv, m_w0, m_w1, m_w2, m_w3, m_w4, m_w5, m_w6, m_w7, m_w8, m_w9, m_wF, m_wT, m_Jn, m_Jw, m_Jo, m_un, m_uw]
    rw [e_M_walks_54]
    try simp (config := {maxSteps := 1000000}) (disch := omega) only [nI_add, nI_1, am_mulN, nI_clamp, am_gI, am_ifd, am_ifn, am_asIe, am_asLe, nI_leI, nI_ltI, nI_eq, am_neg1, am_neg1b, m_Mo, m_Mv, m_MF, m_MT, m_M0, m_M1, m_M2, m_M3, m_M4, m_M5, m_M6, m_M7, m_M8, m_M9, m_wv, m_w0, m_w1, m_w2, m_w3, m_w4, m_w5, m_w6, m_w7, m_w8, m_w9, m_wF, m_wT, m_Jn, m_Jw, m_Jo, m_un, m_uw, m_w5W]
    rw [s_M_arrive hok hn]
    have hw3 : m_bringF I (nI s) (nI (m_go I W1 F s fr)) (am_u W1 5 s (nI (m_go I W1 F s fr))) (m_nL I) = m_walk3 I (m_walk2 I F W1 s) s := by
      rw [hw2, m_walk3, m_w5W]
    rw [hw3]
    have h3 : ∀ W3, W3 = m_walk3 I (m_walk2 I F W1 s) s → W3 5 s = nI (m_go I W1 F s fr) := by
      intro W3 e
      rw [e, m_walk3, hw2]
      unfold m_bringF
      rw [if_neg (by omega), m_w5W]
    have hfin : m_walk I F b W s = m_walk4 I F b (m_walk3 I (m_walk2 I F W1 s) s) s := by rw [m_walk, hW1]
    rw [hfin] at hQ
    generalize m_walk3 I (m_walk2 I F W1 s) s = W3 at hQ h3 ⊢
    have h3 := h3 W3 rfl
    have hq := hgo W1
    generalize m_go I W1 F s fr = q at h3 hq ⊢
    unfold m_walk4 at hQ
    rw [h3, nI_clamp (by omega)] at hQ
    try dsimp only at hQ
    rw [e_M_walks_72]
    refine s_M_isDropped hok hD hn hs hq ?_
    intro v2 nm2 wk2
    try simp (config := {maxSteps := 1000000}) (disch := omega) only [nI_add, nI_1, am_mulN, nI_clamp, am_gI, am_ifd, am_ifn, am_asIe, am_asLe, nI_leI, nI_ltI, nI_eq, am_neg1, am_neg1b, m_Mo, m_Mv, m_MF, m_MT, m_M0, m_M1, m_M2, m_M3, m_M4, m_M5, m_M6, m_M7, m_M8, m_M9, m_wv, m_w0, m_w1, m_w2, m_w3, m_w4, m_w5, m_w6, m_w7, m_w8, m_w9, m_wF, m_wT, m_Jn, m_Jw, m_Jo, m_un, m_uw]
    rw [e_M_walks_80]
    try simp (config := {maxSteps := 1000000}) (disch := omega) only [nI_add, nI_1, am_mulN, nI_clamp, am_gI, am_ifd, am_ifn, am_asIe, am_asLe, nI_leI, nI_ltI, nI_eq, am_neg1, am_neg1b, m_Mo, m_Mv, m_MF, m_MT, m_M0, m_M1, m_M2, m_M3, m_M4, m_M5, m_M6, m_M7, m_M8, m_M9, m_wv, m_w0, m_w1, m_w2, m_w3, m_w4, m_w5, m_w6, m_w7, m_w8, m_w9, m_wF, m_wT, m_Jn, m_Jw, m_Jo, m_un, m_uw, b_v0]
    by_cases hd : m_drop I W3 F s q = true
    · rw [if_neg (by rw [hd]; decide), s_M_laysDown hok hn]
      rw [e_M_walks_91, e_M_walks_131]
      rw [if_pos hd] at hQ
      exact hQ _ _ _
    · rw [if_pos (ts_ne hd)]
      rw [if_neg hd] at hQ
      refine s_M_wakeOf hok hD hn hs hq ?_
      intro v3 nm3 wk3
      try simp (config := {maxSteps := 1000000}) (disch := omega) only [nI_add, nI_1, am_mulN, nI_clamp, am_gI, am_ifd, am_ifn, am_asIe, am_asLe, nI_leI, nI_ltI, nI_eq, am_neg1, am_neg1b, m_Mo, m_Mv, m_MF, m_MT, m_M0, m_M1, m_M2, m_M3, m_M4, m_M5, m_M6, m_M7, m_M8, m_M9, m_wv, m_w0, m_w1, m_w2, m_w3, m_w4, m_w5, m_w6, m_w7, m_w8, m_w9, m_wF, m_wT, m_Jn, m_Jw, m_Jo, m_un, m_uw]
      rw [e_M_walks_104]
      refine s_M_isWoken hn ?_
      try simp (config := {maxSteps := 1000000}) (disch := omega) only [nI_add, nI_1, am_mulN, nI_clamp, am_gI, am_ifd, am_ifn, am_asIe, am_asLe, nI_leI, nI_ltI, nI_eq, am_neg1, am_neg1b, m_Mo, m_Mv, m_MF, m_MT, m_M0, m_M1, m_M2, m_M3, m_M4, m_M5, m_M6, m_M7, m_M8, m_M9, m_wv, m_w0, m_w1, m_w2, m_w3, m_w4, m_w5, m_w6, m_w7, m_w8, m_w9, m_wF, m_wT, m_Jn, m_Jw, m_Jo, m_un, m_uw]
      rw [e_M_walks_108]
      try simp (config := {maxSteps := 1000000}) (disch := omega) only [nI_add, nI_1, am_mulN, nI_clamp, am_gI, am_ifd, am_ifn, am_asIe, am_asLe, nI_leI, nI_ltI, nI_eq, am_neg1, am_neg1b, m_Mo, m_Mv, m_MF, m_MT, m_M0, m_M1, m_M2, m_M3, m_M4, m_M5, m_M6, m_M7, m_M8, m_M9, m_wv, m_w0, m_w1, m_w2, m_w3, m_w4, m_w5, m_w6, m_w7, m_w8, m_w9, m_wF, m_wT, m_Jn, m_Jw, m_Jo, m_un, m_uw, b_v0, e_M_walks_131]
      generalize m_woke (m_wake I W3 F s q) b (W3 2 0) = qq at hQ ⊢
      have eself : (if qq.2 = W3 2 0 then W3 else am_u W3 2 0 qq.2) = am_u W3 2 0 qq.2 := by
        by_cases h : qq.2 = W3 2 0
        · rw [if_pos h, h]
          funext f k; unfold am_u
          by_cases h : f = 2 ∧ k = 0
          · rw [if_pos h, h.1, h.2]
          · rw [if_neg h]
        · rw [if_neg h]
      rw [eself] at hQ
      by_cases hw : qq.1 = true
      · rw [if_neg (by rw [hw]; decide)]
        rw [if_pos hw] at hQ
        have e4 : am_u W3 2 0 qq.2 4 0 = W3 4 0 := am_uN (by omega)
        rw [e4, am_pwe, s_M_laysDown hok hn, e_M_walks_131]
        exact hQ _ _ _
      · rw [if_pos (ts_ne hw)]
        rw [if_neg hw] at hQ
        exact hQ _ _ _
  rw [e_M_walks]
  try simp (config := {maxSteps := 1000000}) (disch := omega) only [nI_add, nI_1, am_mulN, nI_clamp, am_gI, am_ifd, am_ifn, am_asIe, am_asLe, nI_leI, nI_ltI, nI_eq, am_neg1, am_neg1b, m_Mo, m_Mv, m_MF, m_MT, m_M0, m_M1, m_M2, m_M3, m_M4, m_M5, m_M6, m_M7, m_M8, m_M9, m_wv, m_w0, m_w1, m_w2, m_w3, m_w4, m_w5, m_w6, m_w7, m_w8, m_w9, m_wF, m_wT, m_Jn, m_Jw, m_Jo, m_un, m_uw]
  by_cases hb : W 5 s = I 104 s
  · rw [if_pos hb, s_M_takes hok hn]
    exact p35 _ _ _ _ (by rw [m_walk1, if_pos hb])
  · rw [if_neg hb]
    exact p35 _ _ _ _ (by rw [m_walk1, if_neg hb])
end
