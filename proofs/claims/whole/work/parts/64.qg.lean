/-! ===== L3: need: the fewest, then the smallest ===== -/
def n_bits (x : Nat) : Nat := fa_cnt (bt (nI x)) 8
def q_min (p : Nat → Bool) (n x : Nat) : Prop := (x = n ∧ ∀ y, y < n → p y = false) ∨ (x < n ∧ p x = true ∧ ∀ y, y < n → p y = true → n_bits x < n_bits y ∨ (n_bits x = n_bits y ∧ x ≤ y))
theorem q_min_eq {p : Nat → Bool} {n x y : Nat} (h : q_min p n x) (k : q_min p n y) : x = y := by
  rcases h with ⟨h1, h2⟩ | ⟨h1, h2, h3⟩ <;> rcases k with ⟨k1, k2⟩ | ⟨k1, k2, k3⟩
  · omega
  · rw [h2 y k1] at k2; cases k2
  · rw [k2 x h1] at h2; cases h2
  · have := h3 y k1 k2
    have := k3 x h1 h2
    omega
theorem n_bits_all : ∀ z, z < 6 → ∀ y, y < 2 ^ z - 1 → n_bits y < z := by decide +kernel
theorem n_bits_top : ∀ z, z < 6 → n_bits (2 ^ z - 1) = z := by decide +kernel
theorem n_bits_hi : ∀ y, y < 256 → ∀ i, 8 ≤ i → i < 32 → bt (nI y) i = false := by
  intro y hy i h1 h2
  have : nI y = nI y &&& nI 255 := by rw [show nI 255 = nI (2 ^ 8 - 1) from rfl, fa_mask, Nat.mod_eq_of_lt (by omega)]
  rw [this, b_and]
  have h255 : bt (nI 255) i = decide (i < 8) := b_255 i
  rw [h255, decide_eq_false (by omega), Bool.and_false]
section
variable {d N : Nat} {Q : Value → am_H → Prop} {r : am_rho} {I : Nat → Nat → Int32} {J : Nat → Nat → Int64}
def q_needP (I : Nat → Nat → Int32) (y : Nat) : Bool := !decide (q_arr I (nI (2 ^ m_nZ I - 1) &&& (nI y ^^^ (-nI 1))) < q_arr I (nI 0))
theorem g_needP {I' : Nat → Nat → Int32} (h : m_eq I I') : q_needP I' = q_needP I := by funext y; unfold q_needP; rw [g_qarr h, g_nZ h]
theorem mf_needP {I' : Nat → Nat → Int32} (h : mfr2 I I') (hst : st_ok I) (h8 : m_nH I ≤ 8) : q_needP I' = q_needP I := by funext y; unfold q_needP; rw [mf_qarr h hst h8, q_nZ (h.1.1 95 (by omega))]
theorem c_need (hv : i_inv r I J) : ∃ x, x < 32 ∧ q_min (q_needP I) (2 ^ m_nZ I - 1) x ∧ c_ans (d + 14) N 142 [] r I J (.int (nI x)) := by
  obtain ⟨rt, rs, rd, rl, rx, nt, nw, nf⟩ := r
  obtain ⟨ht, hok, eH, eZ, eL, h0, h12, e49, e118⟩ := iv_ref hv
  have hZ5 := hok.2.2.1.2
  have hp : 1 ≤ 2 ^ m_nZ I ∧ 2 ^ m_nZ I ≤ 32 := ⟨Nat.one_le_two_pow, by have := Nat.pow_le_pow_right (show 0 < 2 by omega) hZ5; omega⟩
  have e2k := c_2k (k := m_nZ I) (by omega)
  have hall : ∀ s, s < m_nZ I → bt (nI (2 ^ m_nZ I - 1)) s = true := by
    intro s hs
    rw [b_2k _ (by omega) _ (by omega)]
    exact decide_eq_true hs
  -- the least there is
  have hex : ∃ x, q_min (q_needP I) (2 ^ m_nZ I - 1) x := by
    by_cases c : ∃ y, y < 2 ^ m_nZ I - 1 ∧ q_needP I y = true
    · have key : ∀ m j, (∃ y, y < 2 ^ m_nZ I - 1 ∧ q_needP I y = true ∧ n_bits y * 64 + y = m) → (∀ y, y < 2 ^ m_nZ I - 1 → q_needP I y = true → j ≤ n_bits y * 64 + y) → j ≤ m → ∃ x, q_min (q_needP I) (2 ^ m_nZ I - 1) x := by
        intro m
        induction m using Nat.strongRecOn with
        | ind m ih =>
          intro j ⟨y, h1, h2, h3⟩ hj hjm
          by_cases c2 : ∃ y', y' < 2 ^ m_nZ I - 1 ∧ q_needP I y' = true ∧ n_bits y' * 64 + y' < m
          · obtain ⟨y', k1, k2, k3⟩ := c2
            exact ih _ k3 j ⟨y', k1, k2, rfl⟩ hj (hj y' k1 k2)
          · refine ⟨y, Or.inr ⟨h1, h2, ?_⟩⟩
            intro z k1 k2
            have : ¬ n_bits z * 64 + z < m := fun g => c2 ⟨z, k1, k2, g⟩
            omega
      obtain ⟨y, h1, h2⟩ := c
      exact key _ 0 ⟨y, h1, h2, rfl⟩ (fun _ _ _ => Nat.zero_le _) (Nat.zero_le _)
    · refine ⟨_, Or.inl ⟨rfl, ?_⟩⟩
      intro y hy
      cases e : q_needP I y
      · rfl
      · exact absurd ⟨y, hy, e⟩ c
  obtain ⟨x, hx⟩ := hex
  have hx32 : x < 32 := by rcases hx with ⟨h, _⟩ | ⟨h, _⟩ <;> omega
  refine ⟨x, hx32, hx, ?_⟩
  intro Q hQ
  rw [e_S_need ht, e_Tries_fewestWalkers ht, e_Town_allSleepers ht, eZ, e2k]
  try simp (config := {maxSteps := 1000000}) (disch := omega) only [nI_add, nI_1, am_mulN, nI_clamp, am_gI, am_ifd, am_ifn, am_asIe, am_asLe, nI_leI, nI_ltI, nI_eq, am_neg1, am_neg1b]
  rw [e_Tries_fewestWalkers_4 ht]
  refine s_T_arrivals (still := nI 0) hv (fun s hs => by rw [hall s hs, b_z]; rfl) ?_
  intro I1 J1 g1 g2
  try simp (config := {maxSteps := 1000000}) (disch := omega) only [nI_add, nI_1, am_mulN, nI_clamp, am_gI, am_ifd, am_ifn, am_asIe, am_asLe, nI_leI, nI_ltI, nI_eq, am_neg1, am_neg1b]
  rw [e_Tries_fewestWalkers_11 ht]
  have fin : ∀ y I' J', cfr I I' → c_cache I I (rt + 15) (I' 63) (J' 64) → y = x → am_asI (.int (nI y)) (fun y' => am_V (d + 13) Q 142 11 [some (.ref 1)] [.int y'] (am_hp N (rt, rs, rd, rl, rx, rt, rt + 4, rt + 5) I' J')) := by
    intro y I' J' k1 k2 k3
    subst k3
    show am_V _ _ _ _ _ _ _
    rw [e_S_need_11]
    exact hQ _ _ _ k1 (ref_t hv.1 ht) rfl k2
  have lpi : ∀ k y, 2 ^ m_nZ I - 1 = y + k → ∀ c, c < m_nZ I → (∀ y', y' < 2 ^ m_nZ I - 1 → q_needP I y' = true → c < n_bits y' ∨ (n_bits y' = c ∧ y ≤ y')) → (∀ I' J', cfr I I' → c_cache I I (rt + 15) (I' 63) (J' 64) → (∀ y', y' < 2 ^ m_nZ I - 1 → q_needP I y' = true → c + 1 ≤ n_bits y') → ∀ o, am_V (d + 12) (fun v h => am_asI v (fun y' => am_V (d + 13) Q 142 11 [some (.ref 1)] [.int y'] h)) 95 15 [some (.ref 81), some (.ref rt), some (.int (nI (2 ^ m_nZ I - 1))), some (.int (q_arr I (nI 0))), some (.int (nI (c + 1))), am_oi o] [] (am_hp N (rt, rs, rd, rl, rx, rt, rt + 4, rt + 5) I' J')) →
      ∀ I' J', cfr I I' → c_cache I I (rt + 15) (I' 63) (J' 64) → am_V (d + 12) (fun v h => am_asI v (fun y' => am_V (d + 13) Q 142 11 [some (.ref 1)] [.int y'] h)) 95 27 [some (.ref 81), some (.ref rt), some (.int (nI (2 ^ m_nZ I - 1))), some (.int (q_arr I (nI 0))), some (.int (nI c)), some (.int (nI y))] [] (am_hp N (rt, rs, rd, rl, rx, rt, rt + 4, rt + 5) I' J') := by
    intro k
    induction k with
    | zero =>
      intro y hy c hc hmin hout I' J' k1 k2
      rw [e_Tries_fewestWalkers_27 ht]
      try simp (config := {maxSteps := 1000000}) (disch := omega) only [nI_add, nI_1, am_mulN, nI_clamp, am_gI, am_ifd, am_ifn, am_asIe, am_asLe, nI_leI, nI_ltI, nI_eq, am_neg1, am_neg1b]
      rw [if_pos (by omega)]
      refine hout I' J' k1 k2 ?_ _
      intro y' h1 h2
      have := hmin y' h1 h2
      omega
    | succ k ih =>
      intro y hy c hc hmin hout I' J' k1 k2
      have hn : ∀ (h : n_bits y = c → q_needP I y = false), ∀ y', y' < 2 ^ m_nZ I - 1 → q_needP I y' = true → c < n_bits y' ∨ (n_bits y' = c ∧ y + 1 ≤ y') := by
        intro h y' h1 h2
        rcases hmin y' h1 h2 with g | ⟨g, g'⟩
        · exact Or.inl g
        · by_cases e : y' = y
          · subst e; rw [h g] at h2; cases h2
          · exact Or.inr ⟨g, by omega⟩
      rw [e_Tries_fewestWalkers_27 ht]
      try simp (config := {maxSteps := 1000000}) (disch := omega) only [nI_add, nI_1, am_mulN, nI_clamp, am_gI, am_ifd, am_ifn, am_asIe, am_asLe, nI_leI, nI_ltI, nI_eq, am_neg1, am_neg1b]
      rw [if_neg (by omega), s_J_bitCount (n_bits_hi y (by omega))]
      try simp (config := {maxSteps := 1000000}) (disch := omega) only [nI_add, nI_1, am_mulN, nI_clamp, am_gI, am_ifd, am_ifn, am_asIe, am_asLe, nI_leI, nI_ltI, nI_eq, am_neg1, am_neg1b]
      rw [e_Tries_fewestWalkers_38 ht]
      have hb8 : fa_cnt (bt (nI y)) 8 < 16 := fa_cnt8
      try simp (config := {maxSteps := 1000000}) (disch := omega) only [nI_add, nI_1, am_mulN, nI_clamp, am_gI, am_ifd, am_ifn, am_asIe, am_asLe, nI_leI, nI_ltI, nI_eq, am_neg1, am_neg1b]
      by_cases cb : n_bits y = c
      · rw [if_pos (show fa_cnt (bt (nI y)) 8 = c from cb)]
        have hv1 := inv_fr hv (cfr_fr k1) (ref_t hv.1 ht) rfl k2
        refine s_T_arrivals (still := nI (2 ^ m_nZ I - 1) &&& (nI y ^^^ (-nI 1))) hv1 (fun s hs => by rw [g_nZ k1.1] at hs; rw [b_and_not (by omega), hall s hs, Bool.true_and, Bool.not_not]) ?_
        intro I2 J2 g3 g4
        have k1' := cfr_trans k1 g3
        have k2' : c_cache I I (rt + 15) (I2 63) (J2 64) := e_cache (fun a h1 h2 => (k1.1 a (by omega)).symm) (k1.2 _ (by omega)).symm g4
        try simp (config := {maxSteps := 1000000}) (disch := omega) only [nI_add, nI_1, am_mulN, nI_clamp, am_gI, am_ifd, am_ifn, am_asIe, am_asLe, nI_leI, nI_ltI, nI_eq, am_neg1, am_neg1b]
        rw [e_Tries_fewestWalkers_50 ht, g_qarr k1.1]
        try simp (config := {maxSteps := 1000000}) (disch := omega) only [nI_add, nI_1, am_mulN, nI_clamp, am_gI, am_ifd, am_ifn, am_asIe, am_asLe, nI_leI, nI_ltI, nI_eq, am_neg1, am_neg1b]
        by_cases cp : q_arr I (nI (2 ^ m_nZ I - 1) &&& (nI y ^^^ (-nI 1))) < q_arr I (nI 0)
        · rw [if_pos cp]
          have hf : q_needP I y = false := by unfold q_needP; rw [decide_eq_true cp]; rfl
          exact ih (y + 1) (by omega) c hc (hn (fun _ => hf)) hout I2 J2 k1' k2'
        · rw [if_neg cp]
          have hf : q_needP I y = true := by unfold q_needP; rw [decide_eq_false cp]; rfl
          refine fin y I2 J2 k1' k2' (q_min_eq (Or.inr ⟨by omega, hf, ?_⟩) hx)
          intro y' h1 h2
          have := hmin y' h1 h2
          omega
      · rw [if_neg (show ¬ fa_cnt (bt (nI y)) 8 = c from cb)]
        exact ih (y + 1) (by omega) c hc (hn (fun h => absurd h cb)) hout I' J' k1 k2
  have lpo : ∀ k c, m_nZ I = c + k → ∀ I' J', cfr I I' → c_cache I I (rt + 15) (I' 63) (J' 64) → (∀ y', y' < 2 ^ m_nZ I - 1 → q_needP I y' = true → c ≤ n_bits y') → ∀ o, am_V (d + 12) (fun v h => am_asI v (fun y' => am_V (d + 13) Q 142 11 [some (.ref 1)] [.int y'] h)) 95 15 [some (.ref 81), some (.ref rt), some (.int (nI (2 ^ m_nZ I - 1))), some (.int (q_arr I (nI 0))), some (.int (nI c)), am_oi o] [] (am_hp N (rt, rs, rd, rl, rx, rt, rt + 4, rt + 5) I' J') := by
    intro k
    induction k with
    | zero =>
      intro c hc I' J' k1 k2 hmin o
      have eZ' : I' rt 2 = nI (m_nZ I) := by rw [k1.2 rt (by omega)]; exact eZ
      rw [e_Tries_fewestWalkers_15 ht, eZ']
      try simp (config := {maxSteps := 1000000}) (disch := omega) only [nI_add, nI_1, am_mulN, nI_clamp, am_gI, am_ifd, am_ifn, am_asIe, am_asLe, nI_leI, nI_ltI, nI_eq, am_neg1, am_neg1b]
      rw [if_pos (by omega)]
      refine fin _ I' J' k1 k2 (q_min_eq (Or.inl ⟨rfl, ?_⟩) hx)
      intro y hy
      cases e : q_needP I y
      · rfl
      · have := hmin y hy e
        have := n_bits_all (m_nZ I) (by omega) y hy
        omega
    | succ k ih =>
      intro c hc I' J' k1 k2 hmin o
      have eZ' : I' rt 2 = nI (m_nZ I) := by rw [k1.2 rt (by omega)]; exact eZ
      rw [e_Tries_fewestWalkers_15 ht, eZ']
      try simp (config := {maxSteps := 1000000}) (disch := omega) only [nI_add, nI_1, am_mulN, nI_clamp, am_gI, am_ifd, am_ifn, am_asIe, am_asLe, nI_leI, nI_ltI, nI_eq, am_neg1, am_neg1b]
      rw [if_neg (by omega)]
      refine lpi (2 ^ m_nZ I - 1) 0 (by omega) c (by omega) ?_ ?_ I' J' k1 k2
      · intro y' h1 h2
        have := hmin y' h1 h2
        omega
      · intro I2 J2 k3 k4 h o
        exact ih (c + 1) (by omega) I2 J2 k3 k4 h o
  exact lpo (m_nZ I) 0 (by omega) I1 J1 g1 g2 (fun _ _ _ => Nat.zero_le _) none
end
