/-! ===== L3: the model's hours, nights and ways ===== -/
theorem m_walk1_5 {I W : Nat → Nat → Int32} {s k : Nat} : m_walk1 I W s 5 k = W 5 k := by
  unfold m_walk1
  split
  · unfold m_takeF; rw [if_neg (by omega)]
  · rfl
theorem m_walk4_5 {I W : Nat → Nat → Int32} {F : Nat → Int32} {b : Bool} {s k : Nat} : m_walk4 I F b W s 5 k = W 5 k := by
  have hd : ∀ (s h : Int32) (W : Nat → Nat → Int32) (n : Nat), m_downF s h W n 5 k = W 5 k := by
    intro s h W n; unfold m_downF; rw [if_neg (by omega)]
  have h2 : ∀ (W : Nat → Nat → Int32) (x : Int32), am_u W 2 0 x 5 k = W 5 k := fun W x => am_uN (by omega)
  have h4 : ∀ (W : Nat → Nat → Int32) (x : Int32), am_u W 4 0 x 5 k = W 5 k := fun W x => am_uN (by omega)
  unfold m_walk4
  try dsimp only
  split
  · exact hd _ _ _ _
  · split
    · rw [hd, h4]
      split
      · rfl
      · exact h2 _ _
    · split
      · rfl
      · exact h2 _ _
theorem m_walk_5 {I W : Nat → Nat → Int32} {F : Nat → Int32} {b : Bool} {s k : Nat} : m_walk I F b W s 5 k = if k = s then nI (m_go I (m_walk1 I W s) F s (W 5 s).toNatClampNeg) else W 5 k := by
  unfold m_walk
  rw [m_walk4_5, m_walk3]
  unfold m_bringF
  rw [if_neg (by omega), m_walk2]
  unfold am_u
  by_cases h : k = s
  · rw [if_pos ⟨rfl, h⟩, if_pos h, m_walk1_5]
  · rw [if_neg (by omega), if_neg h, m_walk1_5]
theorem m_okW_walk {I W : Nat → Nat → Int32} {F : Nat → Int32} {b : Bool} {s : Nat} (hW : m_okW I W) (hs : s < m_nZ I) (h8 : m_nH I ≤ 8) : m_okW I (m_walk I F b W s) := by
  intro k hk
  rw [m_walk_5]
  obtain ⟨fr, hf, hf'⟩ := hW s hs
  split
  · exact ⟨_, m_goL_lt (by rw [hf', nI_clamp (by omega)]; exact hf) _ (Nat.le_refl _), rfl⟩
  · exact hW k hk
theorem m_okW_pass {I W : Nat → Nat → Int32} {F : Nat → Int32} {b : Bool} (hW : m_okW I W) (h8 : m_nH I ≤ 8) : ∀ s, s ≤ m_nZ I → m_okW I (m_pass I F b W s)
  | 0, _ => hW
  | s + 1, h => by
    unfold m_pass
    split
    · exact m_okW_walk (m_okW_pass hW h8 s (by omega)) (by omega) h8
    · exact m_okW_pass hW h8 s (by omega)
def m_endL (I : Nat → Nat → Int32) (W : Nat → Nat → Int32) : Nat → Nat → Nat → Int32
  | 0 => W
  | s + 1 => am_u (m_downF (nI s) (m_endL I W s 5 s) (m_endL I W s) (m_nL I)) 5 s (I 104 s)
def m_end (I : Nat → Nat → Int32) (W : Nat → Nat → Int32) : Nat → Nat → Int32 :=
  let W0 := am_u W 0 0 (W 0 0 + nI 1)
  if nI 12 ≤ W 0 0 + nI 1 then (let W1 := m_endL I W0 (m_nZ I); am_u (am_u (am_u W1 4 0 (nI 0)) 0 0 (nI 0)) 1 0 (W1 1 0 + nI 1)) else W0
section
variable {d N n : Nat} {Q : Value → am_H → Prop} {r : am_rho} {I : Nat → Nat → Int32} {J : Nat → Nat → Int64} {W W' : Nat → Nat → Int32} {v v' : Int32} {F T F' T' : Nat → Int32} {nm wk : Nat → Int64}
theorem s_M_passes {b : Bool} (hok : m_ok I) (hD : m_okD I) (hW : m_okW I W) (hn : n < 23) (hQ : ∀ v' nm' wk', Q .null (am_hp N r (m_M I n (m_pass I F b W (m_nZ I)) v' F T) (m_J J nm' wk'))) : am_D (d + 7) 230 [.ref 93, .int (nI n), .int (nI b.toNat)] (am_hp N r (m_M I n W v F T) (m_J J nm wk)) Q := by
  have hok' := hok
  obtain ⟨⟨hH, hH8⟩, ⟨hS, hS12⟩, ⟨hZ, hZ5⟩, ⟨hL, hL8⟩, ⟨hA, hA6⟩, hB, hl⟩ := hok'
  have lp : ∀ k j, m_nZ I = j + k → ∀ v nm wk, am_V (d + 6) Q 230 2 [some (.ref 93), some (.int (nI n)), some (.int (nI b.toNat)), some (.int (nI j))] [] (am_hp N r (m_M I n (m_pass I F b W j) v F T) (m_J J nm wk)) := by
    intro k
    induction k with
    | zero =>
      intro j hj v nm wk
      rw [e_M_passes_2]
      try simp (config := {maxSteps := 1000000}) (disch := omega) only [nI_add, nI_1, am_mulN, nI_clamp, am_gI, am_ifd, am_ifn, am_asIe, am_asLe, nI_leI, nI_ltI, nI_eq, am_neg1, am_neg1b, m_Mo, m_Mv, m_MF, m_MT, m_M0, m_M1, m_M2, m_M3, m_M4, m_M5, m_M6, m_M7, m_M8, m_M9, m_wv, m_w0, m_w1, m_w2, m_w3, m_w4, m_w5, m_w6, m_w7, m_w8, m_w9, m_wF, m_wT, m_Jn, m_Jw, m_Jo, m_un, m_uw, hZ]
      rw [if_pos (by omega)]
      have e : j = m_nZ I := by omega
      subst e
      exact hQ _ _ _
    | succ k ih =>
      intro j hj v nm wk
      have ih1 := ih (j + 1) (by omega)
      rw [e_M_passes_2]
      try simp (config := {maxSteps := 1000000}) (disch := omega) only [nI_add, nI_1, am_mulN, nI_clamp, am_gI, am_ifd, am_ifn, am_asIe, am_asLe, nI_leI, nI_ltI, nI_eq, am_neg1, am_neg1b, m_Mo, m_Mv, m_MF, m_MT, m_M0, m_M1, m_M2, m_M3, m_M4, m_M5, m_M6, m_M7, m_M8, m_M9, m_wv, m_w0, m_w1, m_w2, m_w3, m_w4, m_w5, m_w6, m_w7, m_w8, m_w9, m_wF, m_wT, m_Jn, m_Jw, m_Jo, m_un, m_uw, hZ, b_v, b_v0, e_M_passes_43]
      rw [if_neg (by omega)]
      by_cases h1 : bt (m_pass I F b W j 4 0) j = false
      · by_cases h2 : bt (I 93 58) j = false
        · rw [if_pos h1, if_pos h2]
          refine s_M_walks hok hD (m_okW_pass hW hH8 j (by omega)) hn (by omega) ?_
          intro v' nm' wk'
          rw [e_M_passes_43]
          try simp (config := {maxSteps := 1000000}) (disch := omega) only [nI_add, nI_1, am_mulN, nI_clamp, am_gI, am_ifd, am_ifn, am_asIe, am_asLe, nI_leI, nI_ltI, nI_eq, am_neg1, am_neg1b, m_Mo, m_Mv, m_MF, m_MT, m_M0, m_M1, m_M2, m_M3, m_M4, m_M5, m_M6, m_M7, m_M8, m_M9, m_wv, m_w0, m_w1, m_w2, m_w3, m_w4, m_w5, m_w6, m_w7, m_w8, m_w9, m_wF, m_wT, m_Jn, m_Jw, m_Jo, m_un, m_uw]
          have e : m_pass I F b W (j + 1) = m_walk I F b (m_pass I F b W j) j := by rw [m_pass, if_pos ⟨h1, h2⟩]
          rw [e] at ih1
          exact ih1 _ _ _
        · rw [if_pos h1, if_neg h2]
          have e : m_pass I F b W (j + 1) = m_pass I F b W j := by rw [m_pass, if_neg (fun h => h2 h.2)]
          rw [e] at ih1
          exact ih1 _ _ _
      · rw [if_neg h1]
        have e : m_pass I F b W (j + 1) = m_pass I F b W j := by rw [m_pass, if_neg (fun h => h1 h.1)]
        rw [e] at ih1
        exact ih1 _ _ _
  rw [e_M_passes]
  exact lp (m_nZ I) 0 (by omega) _ _ _
theorem s_M_ends (hok : m_ok I) (hn : n < 23) : am_D (d + 3) 231 [.ref 93, .int (nI n)] (am_hp N r (m_M I n W v F T) J) Q = Q .null (am_hp N r (m_M I n (m_end I W) v F T) J) := by
  have hok' := hok
  obtain ⟨⟨hH, hH8⟩, ⟨hS, hS12⟩, ⟨hZ, hZ5⟩, ⟨hL, hL8⟩, ⟨hA, hA6⟩, hB, hl⟩ := hok'
  have lp := am_up (P := fun j => am_V (d + 2) Q 231 24 [some (.ref 93), some (.int (nI n)), some (.int (nI j))] [] (am_hp N r (m_M I n (m_endL I (am_u W 0 0 (W 0 0 + nI 1)) j) v F T) J)) (R := Q .null (am_hp N r (m_M I n (let W1 := m_endL I (am_u W 0 0 (W 0 0 + nI 1)) (m_nZ I); am_u (am_u (am_u W1 4 0 (nI 0)) 0 0 (nI 0)) 1 0 (W1 1 0 + nI 1)) v F T) J)) (m_nZ I)
    (by
      try dsimp only
      rw [e_M_ends_24]
      try simp (config := {maxSteps := 1000000}) (disch := omega) only [nI_add, nI_1, am_mulN, nI_clamp, am_gI, am_ifd, am_ifn, am_asIe, am_asLe, nI_leI, nI_ltI, nI_eq, am_neg1, am_neg1b, m_Mo, m_Mv, m_MF, m_MT, m_M0, m_M1, m_M2, m_M3, m_M4, m_M5, m_M6, m_M7, m_M8, m_M9, m_wv, m_w0, m_w1, m_w2, m_w3, m_w4, m_w5, m_w6, m_w7, m_w8, m_w9, m_wF, m_wT, m_Jn, m_Jw, m_Jo, m_un, m_uw, hZ, Nat.le_refl, if_true, am_uN])
    (by
      intro j hj
      try dsimp only
      rw [e_M_ends_24]
      try simp (config := {maxSteps := 1000000}) (disch := omega) only [nI_add, nI_1, am_mulN, nI_clamp, am_gI, am_ifd, am_ifn, am_asIe, am_asLe, nI_leI, nI_ltI, nI_eq, am_neg1, am_neg1b, m_Mo, m_Mv, m_MF, m_MT, m_M0, m_M1, m_M2, m_M3, m_M4, m_M5, m_M6, m_M7, m_M8, m_M9, m_wv, m_w0, m_w1, m_w2, m_w3, m_w4, m_w5, m_w6, m_w7, m_w8, m_w9, m_wF, m_wT, m_Jn, m_Jw, m_Jo, m_un, m_uw, hZ]
      rw [if_neg (by omega), s_M_laysDown hok hn, e_M_ends_50]
      try simp (config := {maxSteps := 1000000}) (disch := omega) only [nI_add, nI_1, am_mulN, nI_clamp, am_gI, am_ifd, am_ifn, am_asIe, am_asLe, nI_leI, nI_ltI, nI_eq, am_neg1, am_neg1b, m_Mo, m_Mv, m_MF, m_MT, m_M0, m_M1, m_M2, m_M3, m_M4, m_M5, m_M6, m_M7, m_M8, m_M9, m_wv, m_w0, m_w1, m_w2, m_w3, m_w4, m_w5, m_w6, m_w7, m_w8, m_w9, m_wF, m_wT, m_Jn, m_Jw, m_Jo, m_un, m_uw]
      rfl)
  rw [e_M_ends, m_end]
  try simp (config := {maxSteps := 1000000}) (disch := omega) only [nI_add, nI_1, am_mulN, nI_clamp, am_gI, am_ifd, am_ifn, am_asIe, am_asLe, nI_leI, nI_ltI, nI_eq, am_neg1, am_neg1b, m_Mo, m_Mv, m_MF, m_MT, m_M0, m_M1, m_M2, m_M3, m_M4, m_M5, m_M6, m_M7, m_M8, m_M9, m_wv, m_w0, m_w1, m_w2, m_w3, m_w4, m_w5, m_w6, m_w7, m_w8, m_w9, m_wF, m_wT, m_Jn, m_Jw, m_Jo, m_un, m_uw, am_uE]
  split
  · exact lp 0 (by omega)
  · rfl
theorem m_M_ext (h0 : ∀ f, f < 5 → W f 0 = W' f 0) (h5 : ∀ s, s < 5 → W 5 s = W' 5 s) (h6 : ∀ f l, 6 ≤ f → f < 10 → l < 8 → W f l = W' f l) : m_M I n W v F T = m_M I n W' v F T := by
  funext a j; unfold m_M
  by_cases c0 : a = 93 ∧ j = 39
  · rw [if_pos c0, if_pos c0]
  rw [if_neg c0, if_neg c0]
  by_cases c1 : a = 128
  · rw [if_pos c1, if_pos c1]
  rw [if_neg c1, if_neg c1]
  by_cases c2 : a = 129
  · rw [if_pos c2, if_pos c2]
  rw [if_neg c2, if_neg c2]
  by_cases c3 : 118 ≤ a ∧ a ≤ 122 ∧ j = n
  · rw [if_pos c3, if_pos c3]; exact h0 _ (by omega)
  rw [if_neg c3, if_neg c3]
  by_cases c4 : a = 123 ∧ 5 * n ≤ j ∧ j < 5 * n + 5
  · rw [if_pos c4, if_pos c4]; exact h5 _ (by omega)
  rw [if_neg c4, if_neg c4]
  by_cases c5 : 124 ≤ a ∧ a ≤ 127 ∧ 8 * n ≤ j ∧ j < 8 * n + 8
  · rw [if_pos c5, if_pos c5]; exact h6 _ _ (by omega) (by omega) (by omega)
  rw [if_neg c5, if_neg c5]
theorem m_MM : m_M (m_M I n W v F T) n W' v' F' T' = m_M I n W' v' F' T' := by
  funext a j
  show m_M (m_M I n W v F T) n W' v' F' T' a j = _
  unfold m_M
  by_cases c0 : a = 93 ∧ j = 39
  · simp only [c0, if_true, and_self]
  by_cases c1 : a = 128
  · subst c1; simp only [c0, if_true, if_false]
  by_cases c2 : a = 129
  · subst c2; simp only [c0, c1, if_true, if_false]
  by_cases c3 : 118 ≤ a ∧ a ≤ 122 ∧ j = n
  · simp only [c0, c1, c2, if_false]; rw [if_pos c3, if_pos c3]
  by_cases c4 : a = 123 ∧ 5 * n ≤ j ∧ j < 5 * n + 5
  · simp only [c0, c1, c2, c3, if_false]; rw [if_pos c4, if_pos c4]
  by_cases c5 : 124 ≤ a ∧ a ≤ 127 ∧ 8 * n ≤ j ∧ j < 8 * n + 8
  · simp only [c0, c1, c2, c3, c4, if_false]; rw [if_pos c5, if_pos c5]
  simp only [c0, c1, c2, c3, c4, c5, if_false]
theorem m_Mx {a j : Nat} (h1 : a ≠ 93 ∨ j ≠ 39) (h2 : a ≠ 128 ∧ a ≠ 129) (h3 : ¬ (118 ≤ a ∧ a ≤ 122 ∧ j = n)) (h4 : ¬ (a = 123 ∧ 5 * n ≤ j ∧ j < 5 * n + 5)) (h5 : ¬ (124 ≤ a ∧ a ≤ 127 ∧ 8 * n ≤ j ∧ j < 8 * n + 8)) : m_M I n W v F T a j = I a j := by
  unfold m_M
  rw [if_neg (by omega), if_neg (by omega), if_neg (by omega), if_neg h3, if_neg h4, if_neg h5]
theorem m_gX {m : Nat} (h : m ≠ n) : m_g (m_M I n W v F T) m = m_g I m := by
  funext f k
  unfold m_g
  by_cases c : f < 5
  · rw [if_pos c, if_pos c]; exact m_Mx (by omega) (by omega) (by omega) (by omega) (by omega)
  · rw [if_neg c, if_neg c]
    by_cases c5 : f = 5
    · rw [if_pos c5, if_pos c5]
      by_cases ck : k < 5
      · rw [if_pos ck, if_pos ck]; exact m_Mx (by omega) (by omega) (by omega) (by omega) (by omega)
      · rw [if_neg ck, if_neg ck]
    · rw [if_neg c5, if_neg c5]
      by_cases ck : f < 10 ∧ k < 8
      · rw [if_pos ck, if_pos ck]; exact m_Mx (by omega) (by omega) (by omega) (by omega) (by omega)
      · rw [if_neg ck, if_neg ck]
theorem m_gx {m : Nat} (h : m ≠ n) {f k : Nat} (hk : f ≠ 5 ∨ k < 5) (hk' : f < 6 ∨ k < 8) (hf : f < 10) : m_g (m_M I n W v F T) m f k = m_g I m f k := by rw [m_gX h]
theorem m_gn {f k : Nat} (hk : f ≠ 5 ∨ k < 5) (hk' : f < 6 ∨ k < 8) (hf : f < 10) (hk0 : 5 ≤ f ∨ k = 0) : m_g (m_M I n W v F T) n f k = W f k := by
  unfold m_g
  by_cases c : f < 5
  · obtain rfl : k = 0 := by omega
    rw [if_pos c]
    unfold m_M
    rw [if_neg (by omega), if_neg (by omega), if_neg (by omega), if_pos (by omega), show 118 + f - 118 = f by omega]
  · rw [if_neg c]
    by_cases c5 : f = 5
    · subst c5
      rw [if_pos rfl, if_pos (by omega)]; exact m_M5 (by omega)
    · rw [if_neg c5, if_pos (by omega)]
      unfold m_M
      rw [if_neg (by omega), if_neg (by omega), if_neg (by omega), if_neg (by omega), if_neg (by omega), if_pos (by omega), show 118 + f - 118 = f by omega, show 8 * n + k - 8 * n = k by omega]
/-- world a into world n -/
theorem s_M_copies {a : Nat} (hn : n < 23) (ha : a < 23) (hne : a ≠ n) : am_D (d + 1) 205 [.ref 93, .int (nI n), .int (nI a)] (am_hp N r (m_M I n W v F T) J) Q = Q .null (am_hp N r (m_M I n (m_g I a) v F T) J) := by
  have r0 : ∀ {W : Nat → Nat → Int32}, m_M I n W v F T 118 a = I 118 a := m_Mx (by omega) (by omega) (by omega) (by omega) (by omega)
  have r1 : ∀ {W : Nat → Nat → Int32}, m_M I n W v F T 119 a = I 119 a := m_Mx (by omega) (by omega) (by omega) (by omega) (by omega)
  have r2 : ∀ {W : Nat → Nat → Int32}, m_M I n W v F T 120 a = I 120 a := m_Mx (by omega) (by omega) (by omega) (by omega) (by omega)
  have r3 : ∀ {W : Nat → Nat → Int32}, m_M I n W v F T 121 a = I 121 a := m_Mx (by omega) (by omega) (by omega) (by omega) (by omega)
  have r4 : ∀ {W : Nat → Nat → Int32}, m_M I n W v F T 122 a = I 122 a := m_Mx (by omega) (by omega) (by omega) (by omega) (by omega)
  have r5 : ∀ {W : Nat → Nat → Int32} {s : Nat}, s < 5 → m_M I n W v F T 123 (5 * a + s) = I 123 (5 * a + s) := fun h => m_Mx (by omega) (by omega) (by omega) (by omega) (by omega)
  have r6 : ∀ {W : Nat → Nat → Int32} {s : Nat}, s < 8 → m_M I n W v F T 124 (8 * a + s) = I 124 (8 * a + s) := fun h => m_Mx (by omega) (by omega) (by omega) (by omega) (by omega)
  have r7 : ∀ {W : Nat → Nat → Int32} {s : Nat}, s < 8 → m_M I n W v F T 125 (8 * a + s) = I 125 (8 * a + s) := fun h => m_Mx (by omega) (by omega) (by omega) (by omega) (by omega)
  have r8 : ∀ {W : Nat → Nat → Int32} {s : Nat}, s < 8 → m_M I n W v F T 126 (8 * a + s) = I 126 (8 * a + s) := fun h => m_Mx (by omega) (by omega) (by omega) (by omega) (by omega)
  have r9 : ∀ {W : Nat → Nat → Int32} {s : Nat}, s < 8 → m_M I n W v F T 127 (8 * a + s) = I 127 (8 * a + s) := fun h => m_Mx (by omega) (by omega) (by omega) (by omega) (by omega)
  -- worlds on the way
  let A : Nat → Nat → Nat → Nat → Nat → Int32 := fun i j k f l => if f < 5 ∧ l = 0 ∨ f = 5 ∧ l < i ∨ (6 ≤ f ∧ f ≤ 8) ∧ l < j ∨ f = 9 ∧ l < k then m_g I a f l else W f l
  have st5 : ∀ i, i < 5 → am_u (A i 0 0) 5 i (I 123 (5 * a + i)) = A (i + 1) 0 0 := by
    intro i hi
    funext f l; unfold am_u
    show _ = if _ then _ else _
    by_cases c : f = 5 ∧ l = i
    · rw [if_pos c, if_pos (by omega), c.1, c.2]; unfold m_g; rw [if_neg (by omega), if_pos rfl, if_pos (by omega)]
    · rw [if_neg c]
      show (if _ then _ else _) = _
      by_cases c2 : f < 5 ∧ l = 0 ∨ f = 5 ∧ l < i ∨ (6 ≤ f ∧ f ≤ 8) ∧ l < 0 ∨ f = 9 ∧ l < 0
      · rw [if_pos c2, if_pos (by omega)]
      · rw [if_neg c2, if_neg (by omega)]
  have st6 : ∀ i, i < 8 → am_u (am_u (am_u (A 5 i 0) 6 i (I 124 (8 * a + i))) 7 i (I 125 (8 * a + i))) 8 i (I 126 (8 * a + i)) = A 5 (i + 1) 0 := by
    intro i hi
    funext f l; unfold am_u
    show _ = if _ then _ else _
    by_cases c : f = 8 ∧ l = i
    · rw [if_pos c, if_pos (by omega), c.1, c.2]; unfold m_g; rw [if_neg (by omega), if_neg (by omega), if_pos (by omega)]
    · rw [if_neg c]
      by_cases c : f = 7 ∧ l = i
      · rw [if_pos c, if_pos (by omega), c.1, c.2]; unfold m_g; rw [if_neg (by omega), if_neg (by omega), if_pos (by omega)]
      · rw [if_neg c]
        by_cases c : f = 6 ∧ l = i
        · rw [if_pos c, if_pos (by omega), c.1, c.2]; unfold m_g; rw [if_neg (by omega), if_neg (by omega), if_pos (by omega)]
        · rw [if_neg c]
          show (if _ then _ else _) = _
          by_cases c2 : f < 5 ∧ l = 0 ∨ f = 5 ∧ l < 5 ∨ (6 ≤ f ∧ f ≤ 8) ∧ l < i ∨ f = 9 ∧ l < 0
          · rw [if_pos c2, if_pos (by omega)]
          · rw [if_neg c2, if_neg (by omega)]
  have st9 : ∀ i, i < 8 → am_u (A 5 8 i) 9 i (I 127 (8 * a + i)) = A 5 8 (i + 1) := by
    intro i hi
    funext f l; unfold am_u
    show _ = if _ then _ else _
    by_cases c : f = 9 ∧ l = i
    · rw [if_pos c, if_pos (by omega), c.1, c.2]; unfold m_g; rw [if_neg (by omega), if_neg (by omega), if_pos (by omega)]
    · rw [if_neg c]
      show (if _ then _ else _) = _
      by_cases c2 : f < 5 ∧ l = 0 ∨ f = 5 ∧ l < 5 ∨ (6 ≤ f ∧ f ≤ 8) ∧ l < 8 ∨ f = 9 ∧ l < i
      · rw [if_pos c2, if_pos (by omega)]
      · rw [if_neg c2, if_neg (by omega)]
  have st0 : am_u (am_u (am_u (am_u (am_u W 0 0 (I 118 a)) 1 0 (I 119 a)) 2 0 (I 120 a)) 3 0 (I 121 a)) 4 0 (I 122 a) = A 0 0 0 := by
    funext f l; unfold am_u
    show _ = if _ then _ else _
    by_cases c : f < 5 ∧ l = 0
    · rw [if_pos (Or.inl c)]
      obtain ⟨c1, rfl⟩ := c
      have : f = 0 ∨ f = 1 ∨ f = 2 ∨ f = 3 ∨ f = 4 := by omega
      rcases this with rfl | rfl | rfl | rfl | rfl <;> rfl
    · rw [if_neg (by omega), if_neg (by omega), if_neg (by omega), if_neg (by omega), if_neg (by omega), if_neg (by omega)]
  have fin : m_M I n (A 5 8 8) v F T = m_M I n (m_g I a) v F T := by
    refine m_M_ext ?_ ?_ ?_
    · intro f hf; show (if _ then _ else _) = _; rw [if_pos (by omega)]
    · intro f hf; show (if _ then _ else _) = _; rw [if_pos (by omega)]
    · intro f l h1 h2 h3; show (if _ then _ else _) = _; rw [if_pos (by omega)]
  have lp3 := am_up (P := fun j => am_V d Q 205 175 [some (.ref 93), some (.int (nI n)), some (.int (nI a)), some (.int (nI j))] [] (am_hp N r (m_M I n (A 5 8 j) v F T) J)) (R := Q .null (am_hp N r (m_M I n (m_g I a) v F T) J)) 8
    (by
      try dsimp only
      rw [e_M_copies_175]
      try simp (config := {maxSteps := 1000000}) (disch := omega) only [nI_add, nI_1, am_mulN, nI_clamp, am_gI, am_ifd, am_ifn, am_asIe, am_asLe, nI_leI, nI_ltI, nI_eq, am_neg1, am_neg1b, m_Mo, m_Mv, m_MF, m_MT, m_M0, m_M1, m_M2, m_M3, m_M4, m_M5, m_M6, m_M7, m_M8, m_M9, m_wv, m_w0, m_w1, m_w2, m_w3, m_w4, m_w5, m_w6, m_w7, m_w8, m_w9, m_wF, m_wT, m_Jn, m_Jw, m_Jo, m_un, m_uw, Nat.le_refl, if_true, fin])
    (by
      intro j hj
      try dsimp only
      rw [e_M_copies_175]
      try simp (config := {maxSteps := 1000000}) (disch := omega) only [nI_add, nI_1, am_mulN, nI_clamp, am_gI, am_ifd, am_ifn, am_asIe, am_asLe, nI_leI, nI_ltI, nI_eq, am_neg1, am_neg1b, m_Mo, m_Mv, m_MF, m_MT, m_M0, m_M1, m_M2, m_M3, m_M4, m_M5, m_M6, m_M7, m_M8, m_M9, m_wv, m_w0, m_w1, m_w2, m_w3, m_w4, m_w5, m_w6, m_w7, m_w8, m_w9, m_wF, m_wT, m_Jn, m_Jw, m_Jo, m_un, m_uw, r9, st9]
      rw [if_neg (by omega)])
  have lp2 := am_up (P := fun j => am_V d Q 205 95 [some (.ref 93), some (.int (nI n)), some (.int (nI a)), some (.int (nI j))] [] (am_hp N r (m_M I n (A 5 j 0) v F T) J)) (R := Q .null (am_hp N r (m_M I n (m_g I a) v F T) J)) 8
    (by
      try dsimp only
      rw [e_M_copies_95]
      try simp (config := {maxSteps := 1000000}) (disch := omega) only [nI_add, nI_1, am_mulN, nI_clamp, am_gI, am_ifd, am_ifn, am_asIe, am_asLe, nI_leI, nI_ltI, nI_eq, am_neg1, am_neg1b, m_Mo, m_Mv, m_MF, m_MT, m_M0, m_M1, m_M2, m_M3, m_M4, m_M5, m_M6, m_M7, m_M8, m_M9, m_wv, m_w0, m_w1, m_w2, m_w3, m_w4, m_w5, m_w6, m_w7, m_w8, m_w9, m_wF, m_wT, m_Jn, m_Jw, m_Jo, m_un, m_uw, Nat.le_refl, if_true]
      exact lp3 0 (by omega))
    (by
      intro j hj
      try dsimp only
      rw [e_M_copies_95]
      try simp (config := {maxSteps := 1000000}) (disch := omega) only [nI_add, nI_1, am_mulN, nI_clamp, am_gI, am_ifd, am_ifn, am_asIe, am_asLe, nI_leI, nI_ltI, nI_eq, am_neg1, am_neg1b, m_Mo, m_Mv, m_MF, m_MT, m_M0, m_M1, m_M2, m_M3, m_M4, m_M5, m_M6, m_M7, m_M8, m_M9, m_wv, m_w0, m_w1, m_w2, m_w3, m_w4, m_w5, m_w6, m_w7, m_w8, m_w9, m_wF, m_wT, m_Jn, m_Jw, m_Jo, m_un, m_uw, r6, r7, r8, st6]
      rw [if_neg (by omega)])
  have lp1 := am_up (P := fun j => am_V d Q 205 62 [some (.ref 93), some (.int (nI n)), some (.int (nI a)), some (.int (nI j))] [] (am_hp N r (m_M I n (A j 0 0) v F T) J)) (R := Q .null (am_hp N r (m_M I n (m_g I a) v F T) J)) 5
    (by
      try dsimp only
      rw [e_M_copies_62]
      try simp (config := {maxSteps := 1000000}) (disch := omega) only [nI_add, nI_1, am_mulN, nI_clamp, am_gI, am_ifd, am_ifn, am_asIe, am_asLe, nI_leI, nI_ltI, nI_eq, am_neg1, am_neg1b, m_Mo, m_Mv, m_MF, m_MT, m_M0, m_M1, m_M2, m_M3, m_M4, m_M5, m_M6, m_M7, m_M8, m_M9, m_wv, m_w0, m_w1, m_w2, m_w3, m_w4, m_w5, m_w6, m_w7, m_w8, m_w9, m_wF, m_wT, m_Jn, m_Jw, m_Jo, m_un, m_uw, Nat.le_refl, if_true]
      exact lp2 0 (by omega))
    (by
      intro j hj
      try dsimp only
      rw [e_M_copies_62]
      try simp (config := {maxSteps := 1000000}) (disch := omega) only [nI_add, nI_1, am_mulN, nI_clamp, am_gI, am_ifd, am_ifn, am_asIe, am_asLe, nI_leI, nI_ltI, nI_eq, am_neg1, am_neg1b, m_Mo, m_Mv, m_MF, m_MT, m_M0, m_M1, m_M2, m_M3, m_M4, m_M5, m_M6, m_M7, m_M8, m_M9, m_wv, m_w0, m_w1, m_w2, m_w3, m_w4, m_w5, m_w6, m_w7, m_w8, m_w9, m_wF, m_wT, m_Jn, m_Jw, m_Jo, m_un, m_uw, r5, st5]
      rw [if_neg (by omega)])
  rw [e_M_copies]
  try simp (config := {maxSteps := 1000000}) (disch := omega) only [nI_add, nI_1, am_mulN, nI_clamp, am_gI, am_ifd, am_ifn, am_asIe, am_asLe, nI_leI, nI_ltI, nI_eq, am_neg1, am_neg1b, m_Mo, m_Mv, m_MF, m_MT, m_M0, m_M1, m_M2, m_M3, m_M4, m_M5, m_M6, m_M7, m_M8, m_M9, m_wv, m_w0, m_w1, m_w2, m_w3, m_w4, m_w5, m_w6, m_w7, m_w8, m_w9, m_wF, m_wT, m_Jn, m_Jw, m_Jo, m_un, m_uw, r0, r1, r2, r3, r4, st0]
  exact lp1 0 (by omega)
end
