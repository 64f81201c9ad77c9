/-! ===== L3: law ===== -/
section
variable {d N : Nat} {Q : Value → am_H → Prop} {r : am_rho} {I : Nat → Nat → Int32} {J : Nat → Nat → Int64}
/-- the way that a law is asked with -/
def q_way (I : Nat → Nat → Int32) (k s h : Nat) : Int32 := if k = 0 then m_way I (m_g I 0 5 s).toNatClampNeg h else nI 0
def q_law (I : Nat → Nat → Int32) (k s h : Nat) : Int64 := (m_law I k (m_nm0 I (m_g I 0) (m_far I (I 128)) s h (q_way I k s h))).getD lw_E
theorem g_qlaw {I' : Nat → Nat → Int32} (h : m_eq I I') : q_law I' = q_law I := by
  funext k s x
  unfold q_law q_way
  rw [g_law h, g_nm0 h, g_g h, g_far h, g_way h, h 128 (by omega)]
theorem c_law_ans {k s h : Nat} (hv : i_inv r I J) (hk : k < 3) (hs : s < m_nZ I) (hh : h < m_nH I) : c_ans (d + 12) N 123 [.int (nI k), .int (nI s), .int (nI h)] r I J (.long (q_law I k s h)) := by
  obtain ⟨rt, rs, rd, rl, rx, nt, nw, nf⟩ := r
  obtain ⟨ht, hok, eH, eZ, eL, h0, h12, e49, e118⟩ := iv_ref hv
  have h8 := hok.1.2
  have hZ5 := hok.2.2.1.2
  have hbell := iv_bell hv
  have hst := hv.2.1.1.2.2.1
  have henv := env_idle (w := 49) (F := I 128) (W := m_g I 0) (by omega) hv.2.1 hv.2.2.1 hbell
  have hlit : I 49 5 = m_g I 0 3 0 := hv.2.2.2.1.2.1
  have hrel := hv.2.2.2.1.1
  have hX := hv.2.2.2.1.2.2
  obtain ⟨fr, hfr, hat⟩ := hX.1 s hs
  have e50 : I 50 s = nI fr := by
    have := hrel.2.2.2.2.1 s hs
    rw [c_wI (by omega)] at this
    exact this.trans hat
  have e8 : fr * 8 + h = 8 * fr + h := by omega
  obtain ⟨⟨_, _, _⟩, _, eb, em, en, ed, edr, el, ef, ew, ewk, ebn, elr, eus, ero⟩ := henv
  obtain ⟨ew1, y, hy, ew2⟩ := ew fr h hfr hh
  have ewt : I (rt + 4) (8 * fr + h) = nI y := by rw [su_o (by omega)] at ew1; exact ew1.trans ew2
  have hq15 : rt + 15 = 18 ∨ rt + 15 = 38 := by omega
  have ec : am_hp N (rt, rs, rd, rl, rx, rt, rt + 4, rt + 5) (c_suit I rt 49 (m_nZ I)) J = am_hp N (rt, rs, rd, rl, rx, rt, rt + 4, rt + 5) (c_C (c_suit I rt 49 (m_nZ I)) 49 (c_w I 49) (c_suit I rt 49 (m_nZ I) 63) (c_suit I rt 49 (m_nZ I) 68)) (c_J J (J 64) (J 65)) := by rw [← @c_w_su I rt 49 49 (m_nZ I) (by omega), c_wid, c_Jid]
  have hcac : c_cache (c_suit I rt 49 (m_nZ I)) I (rt + 15) (c_suit I rt 49 (m_nZ I) 63) (J 64) := by rw [su_row (by omega)]; exact c_cache_row (su_row (by omega)) hv.2.2.2.2.2.2.2.2.2
  intro Q hQ
  have henv := env_idle (w := 49) (F := I 128) (W := m_g I 0) (by omega) hv.2.1 hv.2.2.1 hbell
  have go : ∀ (wy : Nat) (v4 : Int32), wy < 16 → nI wy = q_way I k s h → am_D (d + 11) 23 [.ref 61, .ref 49, .int (nI s), .int (nI h), .int (nI wy)] (am_hp N (rt, rs, rd, rl, rx, rt, rt + 4, rt + 5) (c_suit I rt 49 (m_nZ I)) J) (fun v hp => am_asI v (fun y => am_V (d + 11) Q 123 96 [some (.ref 1), some (.int (nI k)), some (.int (nI s)), some (.int (nI h)), some (.int v4)] [.int y, .int (nI k), .ref 61] hp)) := by
    intro wy v4 hwy hwe
    rw [ec]
    refine s_N_names henv hok hrel (by omega) (by rw [c_wI (by omega)]; exact hlit) hX.2.1 hs hh hwy ?_
    intro x hx
    try simp (config := {maxSteps := 1000000}) (disch := omega) only [nI_add, nI_1, am_mulN, nI_clamp, am_gI, am_ifd, am_ifn, am_asIe, am_asLe, nI_leI, nI_ltI, nI_eq, am_neg1, am_neg1b]
    rw [e_S_law_96, e_Night_worth ht]
    refine s_Re_value hq15 hk (by omega) hok.2.2.2.2.2.2 elr eus ero hcac ?_
    intro K' vl' st' hc'
    try simp (config := {maxSteps := 1000000}) (disch := omega) only [nI_add, nI_1, am_mulN, nI_clamp, am_gI, am_ifd, am_ifn, am_asIe, am_asLe, nI_leI, nI_ltI, nI_eq, am_neg1, am_neg1b]
    rw [e_Night_worth_16]
    try simp (config := {maxSteps := 1000000}) (disch := omega) only [nI_add, nI_1, am_mulN, nI_clamp, am_gI, am_ifd, am_ifn, am_asIe, am_asLe, nI_leI, nI_ltI, nI_eq, am_neg1, am_neg1b]
    rw [e_S_law_99]
    have el : (m_law I k (c_nm x)).getD lw_E = q_law I k s h := by
      unfold q_law
      rw [← hwe, m_law_nm hk hok.2.2.2.2.2.2 hx]
    rw [el]
    refine hQ _ _ _ ⟨?_, ?_⟩ (ref_t hv.1 ht) rfl ?_
    · intro a ha
      funext j
      rw [c_Co (by omega), su_o (by omega)]
    · intro a ha
      funext j
      by_cases c : 49 ≤ a ∧ a ≤ 54
      · obtain ⟨i, hi, rfl⟩ : ∃ i, i ≤ 5 ∧ a = 49 + i := ⟨a - 49, by omega, by omega⟩
        rw [c_Ci (by omega) hi, c_wI hi]
      · rw [c_Co (by omega), su_o (by omega)]
    · exact c_cache_row (su_row (by omega)).symm hc'
  rw [e_S_law]
  try simp (config := {maxSteps := 1000000}) (disch := omega) only [nI_add, nI_1, am_mulN, nI_clamp, am_gI, am_ifd, am_ifn, am_asIe, am_asLe, nI_leI, nI_ltI, nI_eq, am_neg1, am_neg1b]
  rw [if_neg (by omega), if_neg (by omega), s_S_isSleeper ht, eZ]
  try simp (config := {maxSteps := 1000000}) (disch := omega) only [nI_add, nI_1, am_mulN, nI_clamp, am_gI, am_ifd, am_ifn, am_asIe, am_asLe, nI_leI, nI_ltI, nI_eq, am_neg1, am_neg1b]
  rw [bo_t (by omega), e_S_law_14, s_S_isHouse ht, eH]
  try simp (config := {maxSteps := 1000000}) (disch := omega) only [nI_add, nI_1, am_mulN, nI_clamp, am_gI, am_ifd, am_ifn, am_asIe, am_asLe, nI_leI, nI_ltI, nI_eq, am_neg1, am_neg1b]
  rw [if_neg (by omega), bo_t (by omega), e_S_law_22 ht]
  try simp (config := {maxSteps := 1000000}) (disch := omega) only [nI_add, nI_1, am_mulN, nI_clamp, am_gI, am_ifd, am_ifn, am_asIe, am_asLe, nI_leI, nI_ltI, nI_eq, am_neg1, am_neg1b]
  rw [if_neg (by omega), s_N_suit ht (by omega) eZ hZ5, e_S_law_44 ht, su_o (by omega), e50]
  try simp (config := {maxSteps := 1000000}) (disch := omega) only [nI_add, nI_1, am_mulN, nI_clamp, am_gI, am_ifd, am_ifn, am_asIe, am_asLe, nI_leI, nI_ltI, nI_eq, am_neg1, am_neg1b, e8]
  by_cases c0 : k = 0
  · rw [if_pos c0, su_o (by omega), ewt]
    refine go y (nI y) hy ?_
    unfold q_way
    rw [if_pos c0, hat, nI_clamp (by omega)]
    exact ew2.symm
  · rw [if_neg c0]
    refine go 0 (nI 0) (by omega) ?_
    unfold q_way
    rw [if_neg c0]
end
