/-! ===== L3: law ===== -/
section
variable {d N : Nat} {Q : Value → am_H → Prop} {r : am_rho} {I : Nat → Nat → Int32} {J : Nat → Nat → Int64}
/-- the way that a law is asked with -/
def q_way (I : Nat → Nat → Int32) (k s h : Nat) : Int32 := if k = 0 then m_way I (m_g I 0 5 s).toNatClampNeg h else nI 0
def q_law (I : Nat → Nat → Int32) (k s h : Nat) : Int64 := (m_law I k (m_nm0 I (m_g I 0) (m_far I (I 128)) s h (q_way I k s h))).getD lw_E
theorem g_qlaw {I' : Nat → Nat → Int32} (h : m_eq I I') : q_law I' = q_law I := by
  funext k s x
  unfold q_law q_way
  rw [g_law h, g_nm0 h, g_g h, g_far h, g_way h, h 128 (by omega)]
theorem c_law_ans {k s h : Nat} (hv : i_inv r I J) (hk : k < 3) (hs : s < m_nZ I) (hh : h < m_nH I) : c_ans (d + 12) N 123 [.int (nI k), .int (nI s), .int (nI h)] r I J (.long (q_law I k s h)) := by
  obtain ⟨rt, rs, rd, rl, rx, nt, nw, nf⟩ := r
  obtain ⟨ht, hok, eH, eZ, eL, h0, h12, e49, e118⟩ := iv_ref hv
  have h8 := hok.1.2
  have hZ5 := hok.2.2.1.2
  have hbell := iv_bell hv
  have hst := hv.2.1.1.2.2.1
  have henv := env_idle (w := 49) (F := I 128) (W := m_g I 0) (by omega) hv.2.1 hv.2.2.1 hbell
  have hlit : I 49 5 = m_g I 0 3 0 := hv.2.2.2.1.2.1
  have hrel := hv.2.2.2.1.1
  have hX := hv.2.2.2.1.2.2
  obtain ⟨fr, hfr, hat⟩ := hX.1 s hs
  have e50 : I 50 s = nI fr := by
    have := hrel.2.2.2.2.1 s hs
    rw [c_wI (by omega)] at this
    exact this.trans hat
  have e8 : fr * 8 + h = 8 * fr + h := by omega
  obtain ⟨⟨_, _, _⟩, _, eb, em, en, ed, edr, el, ef, ew, ewk, ebn, elr, eus, ero⟩ := henv
  obtain ⟨ew1, y, hy, ew2⟩ := ew fr h hfr hh
  have ewt : I (rt + 4) (8 * fr + h) = nI y := by rw [su_o (by omega)] at ew1; exact ew1.trans ew2
  have hq15 : rt + 15 = 18 ∨ rt + 15 = 38 := by omega
  have ec : am_hp N (rt, rs, rd, rl, rx, rt, rt + 4, rt + 5) (c_suit I rt 49 (m_nZ I)) J = am_hp N (rt, rs, rd, rl, rx, rt, rt + 4, rt + 5) (c_C (c_suit I rt 49 (m_nZ I)) 49 (c_w I 49) (c_suit I rt 49 (m_nZ I) 63) (c_suit I rt 49 (m_nZ I) 68)) (c_J J (J 64) (J 65)) := by rw [← @c_w_su I rt 49 49 (m_nZ I) (by omega), c_wid, c_Jid]
  have hcac : c_cache (c_suit I rt 49 (m_nZ I)) I (rt + 15) (c_suit I rt 49 (m_nZ I) 63) (J 64) := by rw [su_row (by omega)]; exact c_cache_row (su_row (by omega)) hv.2.2.2.2.2.2.2.2.2
  intro Q hQ
  have henv := env_idle (w := 49) (F := I 128) (W := m_g I 0) (by omega) hv.2.1 hv.2.2.1 hbell
  have go : ∀ (wy : Nat) (v4 : Int32), wy < 16 → nI wy = q_way I k s h → am_D (d + 11) 23 [.ref 61, .ref 49, .int (nI s), .int (nI h), .int (nI wy)] (am_hp N (rt, rs, rd, rl, rx, rt, rt + 4, rt + 5) (c_suit I rt 49 (m_nZ I)) J) (fun v hp => am_asI v (fun y => am_V (d + 11) Q 123 96 [some (.ref 1), some (.int (nI k)), some (.int (nI s)), some (.int (nI h)), some (.int v4)] [.int y, .int (nI k), .ref 61] hp)) := by
    intro wy v4 hwy hwe
    rw [ec]
    refine s_N_names henv hok hrel (by omega) (by rw [c_wI (by omega)]; exact hlit) hX.2.1 hs hh hwy ?_
    intro x hx
    try simp (config := {maxSteps := 1000000}) (disch := omega) only [nI_add, nI_1, am_mulN, nI_clamp, am_gI, am_ifd, am_ifn, am_asIe, am_asLe, nI_leI, nI_ltI, nI_eq, am_neg1, am_neg1b]
    rw [e_S_law_96, e_Night_worth ht]
    refine s_Re_value hq15 hk (by omega) hok.2.2.2.2.2.2 elr eus ero hcac ?_
    intro K' vl' st' hc'
    try simp (config := {maxSteps := 1000000}) (disch := omega) only [nI_add, nI_1, am_mulN, nI_clamp, am_gI, am_ifd, am_ifn, am_asIe, am_asLe, nI_leI, nI_ltI, nI_eq, am_neg1, am_neg1b]
    rw [e_Night_worth_16]
    try simp (config := {maxSteps := 1000000}) (disch := omega) only [nI_add, nI_1, am_mulN, nI_clamp, am_gI, am_ifd, am_ifn, am_asIe, am_asLe, nI_leI, nI_ltI, nI_eq, am_neg1, am_neg1b]
    rw [e_S_law_99]
    have el : (m_law I k (c_nm x)).getD lw_E = q_law I k s h := by
      unfold q_law
      rw [← hwe, m_law_nm hk hok.2.2.2.2.2.2 hx]
    rw [el]
    refine hQ _ _ _ ⟨?_, ?_⟩ (ref_t hv.1 ht) rfl ?_
    · intro a ha
      funext j
      rw [c_Co (by omega), su_o (by omega)]
    · intro a ha
      funext j
      by_cases c : 49 ≤ a ∧ a ≤ 54
      · obtain ⟨i, hi, rfl⟩ : ∃ i, i ≤ 5 ∧ a = 49 + i := ⟨a - 49, by omega, by omega⟩
        rw [c_Ci (by omega) hi, c_wI hi]
      · rw [c_Co (by omega), su_o (by omega)]
    · exact c_cache_row (su_row (by omega)).symm hc'
  rw [e_S_law]
  try simp (config := {maxSteps := 1000000}) (disch := omega) only [nI_add, nI_1, am_mulN, nI_clamp, am_gI, am_ifd, am_ifn, am_asIe, am_asLe, nI_leI, nI_ltI, nI_eq, am_neg1, am_neg1b]
  rw [if_neg (by omega), if_neg (by omega), s_S_isSleeper ht, eZ]
  try simp (config := {maxSteps := 1000000}) (disch := omega) only [nI_add, nI_1, am_mulN, nI_clamp, am_gI, am_ifd, am_ifn, am_asIe, am_asLe, nI_leI, nI_ltI, nI_eq, am_neg1, am_neg1b]
  rw [bo_t (by omega), e_S_law_14, s_S_isHouse ht, eH]
  try simp (config := {maxSteps := 1000000}) (disch := omega) only [nI_add, nI_1, am_mulN, nI_clamp, am_gI, am_ifd, am_ifn, am_asIe, am_asLe, nI_leI, nI_ltI, nI_eq, am_neg1, am_neg1b]
  rw [if_neg (by omega), bo_t (by omega), e_S_law_22 ht]
  try simp (config := {maxSteps := 1000000}) (disch := omega) only [nI_add, nI_1, am_mulN, nI_clamp, am_gI, am_ifd, am_ifn, am_asIe, am_asLe, nI_leI, nI_ltI, nI_eq, am_neg1, am_neg1b]
  rw [if_neg (by omega), s_N_suit ht (by omega) eZ hZ5, e_S_law_44 ht, su_o (by omega)]
  try simp (config := {maxSteps := 1000000}) (disch := omega) only [nI_add, nI_1, am_mulN, nI_clamp, am_gI, am_ifd, am_ifn, am_asIe, am_asLe, nI_leI, nI_ltI, nI_eq, am_neg1, am_neg1b, e50, e8]
  by_cases c0 : k = 0
  · rw [if_pos c0, su_o (by omega), ewt]
    refine go y (nI y) hy ?_
    unfold q_way
    rw [if_pos c0, hat, nI_clamp (by omega)]
    exact ew2.symm
  · rw [if_neg c0]
    refine go 0 (nI 0) (by omega) ?_
    unfold q_way
    rw [if_neg c0]
theorem m_law_ans {k s h : Nat} (hv : i_inv r I J) (hk : k < 3) (hs : s < m_nZ I) (hh : h < m_nH I) : m_ans (d + 12) N 239 [.int (nI k), .int (nI s), .int (nI h)] r I J (.long (q_law I k s h)) := by
  obtain ⟨rt, rs, rd, rl, rx, nt, nw, nf⟩ := r
  obtain ⟨ht, hok, eH, eZ, eL, h0, h12, e49, e118⟩ := iv_ref hv
  have h8 := hok.1.2
  have hZ5 := hok.2.2.1.2
  have hH := hok.1.1
  have hZ := hok.2.2.1.1
  have hst := hv.2.1.1.2.2.1
  have hX := hv.2.2.2.1.2.2
  have hid := hv.2.2.1
  obtain ⟨fr, hfr, hat⟩ := hX.1 s hs
  have h2 := @th0_e2 I (nI 0)
  have hD : m_okD (am_u I 93 0 (nI 0)) := by
    refine k_okD h2 ?_
    intro s hs
    rw [m_dream_idle hid (by omega)]
    obtain ⟨_, _, _, _, h, hh, e⟩ := hv.2.1.2.2.2.2.2.2.2.2.1 s hs
    exact ⟨h, by omega, e⟩
  have hokM := k_ok h2 hok
  have hg := @th0_g I (nI 0) 0
  have hlok : m_lok (am_u I 93 0 (nI 0)) := hokM.2.2.2.2.2.2
  have eS : ∀ W v F T, m_M (am_u I 93 0 (nI 0)) 0 W v F T 95 1 = nI (m_nS I) := fun W v F T => by rw [m_Mo (by omega), am_uN (by omega)]; exact hok.2.1.1
  have e123 : ∀ v F T, m_M (am_u I 93 0 (nI 0)) 0 (m_g (am_u I 93 0 (nI 0)) 0) v F T 123 s = nI fr := by
    intro v F T
    have := m_M5 (I := am_u I 93 0 (nI 0)) (n := 0) (W := m_g (am_u I 93 0 (nI 0)) 0) (v := v) (F := F) (T := T) (s := s) (by omega)
    rw [show 5 * 0 + s = s by omega, hg, hat] at this
    rw [hg]
    exact this
  intro Q hQ
  have eF : m_far (am_u I 93 0 (nI 0)) (am_u I 93 0 (nI 0) 128) = m_far I (I 128) := by rw [k_far h2, am_uRow (by omega)]
  have mfM : ∀ W v F T, wq W (m_g I 0) → mfr I (m_M (am_u I 93 0 (nI 0)) 0 W v F T) := by
    intro W v F T hw
    refine mfr_trans (th0_mfr (x := nI 0)) ⟨?_, ?_, ?_⟩
    · intro a ha
      funext j
      exact m_Mx (by omega) (by omega) (by omega) (by omega) (by omega)
    · intro k h0 h39 _ _ _ _
      exact m_Mo (by omega)
    · intro n hn _
      by_cases e : n = 0
      · subst e
        rw [hg]
        refine wq_trans ?_ hw
        exact ⟨fun f hf => m_gn (by omega) (by omega) (by omega) (by omega), fun s hs => m_gn (by omega) (by omega) (by omega) (by omega), fun f l h1 h2 h3 => m_gn (by omega) (by omega) (by omega) (by omega)⟩
      · rw [m_gX e]; exact wq_refl
  have fin : ∀ v nm wk, nm = m_nmv (am_u I 93 0 (nI 0)) (m_g I 0) (m_far I (I 128)) s h (q_way I k s h) (J 116) → m_has I k = true → am_V (d + 11) Q 239 82 [some (.ref 93), some (.int (nI k)), some (.int (nI s)), some (.int (nI h))] [] (am_hp N (rt, rs, rd, rl, rx, nt, nw, nf) (m_M (am_u I 93 0 (nI 0)) 0 (m_g I 0) v (m_far I (I 128)) (I 129)) (m_J J nm wk)) := by
    intro v nm wk hnm hhas
    rw [e_M_law_82]
    refine s_M_goes hk hlok (by rw [k_has h2]; exact hhas) ?_
    have ev : m_law (am_u I 93 0 (nI 0)) k nm = m_law I k (m_nm0 I (m_g I 0) (m_far I (I 128)) s h (q_way I k s h)) := by
      rw [k_law h2, hnm, k_nmv h2]
      exact m_law_nm hk hok.2.2.2.2.2.2 m_nm07
    rw [ev]
    unfold q_law at hQ
    cases hm : m_law I k (m_nm0 I (m_g I 0) (m_far I (I 128)) s h (q_way I k s h)) with
    | none =>
      rw [hm] at hQ
      intro v' wk'
      try simp (config := {maxSteps := 1000000}) (disch := omega) only [nI_add, nI_1, am_mulN, nI_clamp, am_gI, am_ifd, am_ifn, am_asIe, am_asLe, nI_leI, nI_ltI, nI_eq, am_neg1, am_neg1b, m_Mo, m_Mv, m_MF, m_MT, m_M0, m_M1, m_M2, m_M3, m_M4, m_M5, m_M6, m_M7, m_M8, m_M9, m_wv, m_w0, m_w1, m_w2, m_w3, m_w4, m_w5, m_w6, m_w7, m_w8, m_w9, m_wF, m_wT, m_Jn, m_Jw, m_Jo, m_un, m_uw]
      rw [e_M_law_87]
      try simp (config := {maxSteps := 1000000}) (disch := omega) only [nI_add, nI_1, am_mulN, nI_clamp, am_gI, am_ifd, am_ifn, am_asIe, am_asLe, nI_leI, nI_ltI, nI_eq, am_neg1, am_neg1b, m_Mo, m_Mv, m_MF, m_MT, m_M0, m_M1, m_M2, m_M3, m_M4, m_M5, m_M6, m_M7, m_M8, m_M9, m_wv, m_w0, m_w1, m_w2, m_w3, m_w4, m_w5, m_w6, m_w7, m_w8, m_w9, m_wF, m_wT, m_Jn, m_Jw, m_Jo, m_un, m_uw, if_true]
      exact hQ _ _ (mfM _ _ _ _ wq_refl) rfl
    | some z =>
      rw [hm] at hQ
      intro v' wk' hz
      try simp (config := {maxSteps := 1000000}) (disch := omega) only [nI_add, nI_1, am_mulN, nI_clamp, am_gI, am_ifd, am_ifn, am_asIe, am_asLe, nI_leI, nI_ltI, nI_eq, am_neg1, am_neg1b, m_Mo, m_Mv, m_MF, m_MT, m_M0, m_M1, m_M2, m_M3, m_M4, m_M5, m_M6, m_M7, m_M8, m_M9, m_wv, m_w0, m_w1, m_w2, m_w3, m_w4, m_w5, m_w6, m_w7, m_w8, m_w9, m_wF, m_wT, m_Jn, m_Jw, m_Jo, m_un, m_uw]
      rw [e_M_law_87]
      try simp (config := {maxSteps := 1000000}) (disch := omega) only [nI_add, nI_1, am_mulN, nI_clamp, am_gI, am_ifd, am_ifn, am_asIe, am_asLe, nI_leI, nI_ltI, nI_eq, am_neg1, am_neg1b, m_Mo, m_Mv, m_MF, m_MT, m_M0, m_M1, m_M2, m_M3, m_M4, m_M5, m_M6, m_M7, m_M8, m_M9, m_wv, m_w0, m_w1, m_w2, m_w3, m_w4, m_w5, m_w6, m_w7, m_w8, m_w9, m_wF, m_wT, m_Jn, m_Jw, m_Jo, m_un, m_uw, hz]
      rw [if_neg (by omega)]
      exact hQ _ _ (mfM _ _ _ _ wq_refl) rfl
  have ecal : ∀ wy : Int32, wy = q_way I k s h → m_has I k = true → am_D (d + 11) 219 [.ref 93, .int (nI 0), .int (nI s), .int (nI h), .int wy] (am_hp N (rt, rs, rd, rl, rx, nt, nw, nf) (m_M (am_u I 93 0 (nI 0)) 0 (m_g I 0) (I 93 39) (m_far I (I 128)) (I 129)) (m_J J (J 116) (J 117))) (fun v hp => am_V (d + 11) Q 239 82 [some (.ref 93), some (.int (nI k)), some (.int (nI s)), some (.int (nI h))] [] hp) := by
    intro wy hwy hhas
    rw [s_M_calls hokM hD (by omega) (by rw [k_nZ h2]; exact hs) (by rw [k_nH h2]; exact hh)]
    exact fin _ _ _ (by rw [hwy]) hhas
  rw [e_M_law]
  try simp (config := {maxSteps := 1000000}) (disch := omega) only [nI_add, nI_1, am_mulN, nI_clamp, am_gI, am_ifd, am_ifn, am_asIe, am_asLe, nI_leI, nI_ltI, nI_eq, am_neg1, am_neg1b]
  rw [if_neg (by omega), if_neg (by omega), s_M_hasLaw (by omega), k_has h2]
  try simp (config := {maxSteps := 1000000}) (disch := omega) only [nI_add, nI_1, am_mulN, nI_clamp, am_gI, am_ifd, am_ifn, am_asIe, am_asLe, nI_leI, nI_ltI, nI_eq, am_neg1, am_neg1b]
  rw [e_M_law_19]
  try simp (config := {maxSteps := 1000000}) (disch := omega) only [nI_add, nI_1, am_mulN, nI_clamp, am_gI, am_ifd, am_ifn, am_asIe, am_asLe, nI_leI, nI_ltI, nI_eq, am_neg1, am_neg1b, b_v0]
  cases hhas : m_has I k
  · rw [if_pos rfl]
    unfold q_law m_law at hQ
    rw [hhas] at hQ
    exact hQ _ _ th0_mfr rfl
  · rw [if_neg (by decide), s_M_isSleeper, am_uN (by omega), hZ]
    try simp (config := {maxSteps := 1000000}) (disch := omega) only [nI_add, nI_1, am_mulN, nI_clamp, am_gI, am_ifd, am_ifn, am_asIe, am_asLe, nI_leI, nI_ltI, nI_eq, am_neg1, am_neg1b]
    rw [bo_t (by omega), e_M_law_27, s_M_isHouse, am_uN (by omega), hH]
    try simp (config := {maxSteps := 1000000}) (disch := omega) only [nI_add, nI_1, am_mulN, nI_clamp, am_gI, am_ifd, am_ifn, am_asIe, am_asLe, nI_leI, nI_ltI, nI_eq, am_neg1, am_neg1b]
    rw [if_neg (by omega), bo_t (by omega), e_M_law_35]
    try simp (config := {maxSteps := 1000000}) (disch := omega) only [nI_add, nI_1, am_mulN, nI_clamp, am_gI, am_ifd, am_ifn, am_asIe, am_asLe, nI_leI, nI_ltI, nI_eq, am_neg1, am_neg1b]
    rw [if_neg (by omega), m_idM (n := 0), s_M_layFar hokM (k_okS h2 (m_okS_of hst)), eF, e_M_law_46]
    try simp (config := {maxSteps := 1000000}) (disch := omega) only [nI_add, nI_1, am_mulN, nI_clamp, am_gI, am_ifd, am_ifn, am_asIe, am_asLe, nI_leI, nI_ltI, nI_eq, am_neg1, am_neg1b]
    rw [e123]
    try simp (config := {maxSteps := 1000000}) (disch := omega) only [nI_add, nI_1, am_mulN, nI_clamp, am_gI, am_ifd, am_ifn, am_asIe, am_asLe, nI_leI, nI_ltI, nI_eq, am_neg1, am_neg1b]
    have ev39 : am_u I 93 0 (nI 0) 93 39 = I 93 39 := am_uN (by omega)
    have e129 : am_u I 93 0 (nI 0) 129 = I 129 := am_uRow (by omega)
    rw [ev39, e129, hg]
    by_cases c0 : k = 0
    · rw [if_pos c0]
      have hqw : q_way I k s h = m_way I fr h := by unfold q_way; rw [if_pos c0, hat, nI_clamp (by omega)]
      by_cases c1 : fr = h
      · rw [if_pos c1]
        exact ecal _ (by rw [hqw, m_way, if_pos c1.symm]) hhas
      · rw [if_neg c1, s_M_streetTo (eS _ _ _ _) hok.2.1.2, m_street_M]
        try simp (config := {maxSteps := 1000000}) (disch := omega) only [nI_add, nI_1, am_mulN, nI_clamp, am_gI, am_ifd, am_ifn, am_asIe, am_asLe, nI_leI, nI_ltI, nI_eq, am_neg1, am_neg1b]
        rw [e_M_law_75]
        refine ecal _ ?_ hhas
        rw [hqw, m_way, if_neg (fun e => c1 e.symm), k_street h2]
    · rw [if_neg c0]
      exact ecal _ (by unfold q_way; rw [if_neg c0]) hhas
theorem op_law {a b c : Int32} (hv : i_inv r I J) : op2 (d + 12) N 123 239 [.int a, .int b, .int c] r I J := by
  have hv0 := hv
  obtain ⟨rt, rs, rd, rl, rx, nt, nw, nf⟩ := r
  obtain ⟨ht, hok, eH, eZ, eL, h0, h12, e49, e118⟩ := iv_ref hv
  have hH := hok.1.1
  have hZ := hok.2.2.1.1
  have h8 := hok.1.2
  have hZ5 := hok.2.2.1.2
  by_cases ca : ∃ k, k < 3 ∧ a = nI k
  · obtain ⟨k, hk, rfl⟩ := ca
    by_cases cb : ∃ s, s < m_nZ I ∧ b = nI s
    · obtain ⟨s, hs, rfl⟩ := cb
      by_cases cc : ∃ h, h < m_nH I ∧ c = nI h
      · obtain ⟨h, hh, rfl⟩ := cc
        refine op2_q hv (c_law_ans hv hk hs hh) ?_
        intro r' I' J' hv' he
        have := m_law_ans (d := d) (N := N) hv' hk (by rw [g_nZ he]; exact hs) (by rw [g_nH he]; exact hh)
        rw [g_qlaw he] at this
        exact this
      · have nc : ¬ (nI 0 ≤ c ∧ c < nI (m_nH I)) := fun g => cc ((am_irng (k := 0) rfl (by omega)).mp g)
        refine op2_q (v := .long lw_E) hv (iv_ans hv ?_) ?_
        · intro Q hQ
          rw [e_S_law]
          try simp (config := {maxSteps := 1000000}) (disch := omega) only [nI_add, nI_1, am_mulN, nI_clamp, am_gI, am_ifd, am_ifn, am_asIe, am_asLe, nI_leI, nI_ltI, nI_eq, am_neg1, am_neg1b]
          rw [if_neg (by omega), if_neg (by omega), s_S_isSleeper ht, eZ]
          try simp (config := {maxSteps := 1000000}) (disch := omega) only [nI_add, nI_1, am_mulN, nI_clamp, am_gI, am_ifd, am_ifn, am_asIe, am_asLe, nI_leI, nI_ltI, nI_eq, am_neg1, am_neg1b]
          rw [bo_t (by omega), e_S_law_14, s_S_isHouse ht, eH, bo_f nc]
          try simp (config := {maxSteps := 1000000}) (disch := omega) only [nI_add, nI_1, am_mulN, nI_clamp, am_gI, am_ifd, am_ifn, am_asIe, am_asLe, nI_leI, nI_ltI, nI_eq, am_neg1, am_neg1b]
          rw [if_neg (by omega), e_S_law_22 ht]
          try simp (config := {maxSteps := 1000000}) (disch := omega) only [nI_add, nI_1, am_mulN, nI_clamp, am_gI, am_ifd, am_ifn, am_asIe, am_asLe, nI_leI, nI_ltI, nI_eq, am_neg1, am_neg1b, if_true]
          exact hQ
        · intro r' I' J' hv' he
          refine iv_mans ?_
          intro Q hQ
          have hZ' : I' 95 2 = nI (m_nZ I) := by rw [he 95 (by omega)]; exact hZ
          have hH' : I' 95 0 = nI (m_nH I) := by rw [he 95 (by omega)]; exact hH
          rw [e_M_law]
          try simp (config := {maxSteps := 1000000}) (disch := omega) only [nI_add, nI_1, am_mulN, nI_clamp, am_gI, am_ifd, am_ifn, am_asIe, am_asLe, nI_leI, nI_ltI, nI_eq, am_neg1, am_neg1b]
          rw [if_neg (by omega), if_neg (by omega), s_M_hasLaw (by omega)]
          try simp (config := {maxSteps := 1000000}) (disch := omega) only [nI_add, nI_1, am_mulN, nI_clamp, am_gI, am_ifd, am_ifn, am_asIe, am_asLe, nI_leI, nI_ltI, nI_eq, am_neg1, am_neg1b]
          rw [e_M_law_19]
          try simp (config := {maxSteps := 1000000}) (disch := omega) only [nI_add, nI_1, am_mulN, nI_clamp, am_gI, am_ifd, am_ifn, am_asIe, am_asLe, nI_leI, nI_ltI, nI_eq, am_neg1, am_neg1b, b_v0]
          split
          · exact hQ
          · rw [s_M_isSleeper, am_uN (by omega), hZ']
            try simp (config := {maxSteps := 1000000}) (disch := omega) only [nI_add, nI_1, am_mulN, nI_clamp, am_gI, am_ifd, am_ifn, am_asIe, am_asLe, nI_leI, nI_ltI, nI_eq, am_neg1, am_neg1b]
            rw [bo_t (by omega), e_M_law_27, s_M_isHouse, am_uN (by omega), hH', bo_f nc]
            try simp (config := {maxSteps := 1000000}) (disch := omega) only [nI_add, nI_1, am_mulN, nI_clamp, am_gI, am_ifd, am_ifn, am_asIe, am_asLe, nI_leI, nI_ltI, nI_eq, am_neg1, am_neg1b]
            rw [if_neg (by omega), e_M_law_35]
            try simp (config := {maxSteps := 1000000}) (disch := omega) only [nI_add, nI_1, am_mulN, nI_clamp, am_gI, am_ifd, am_ifn, am_asIe, am_asLe, nI_leI, nI_ltI, nI_eq, am_neg1, am_neg1b, if_true]
            exact hQ
    · have nb : ¬ (nI 0 ≤ b ∧ b < nI (m_nZ I)) := fun g => cb ((am_irng (k := 0) rfl (by omega)).mp g)
      refine op2_q (v := .long lw_E) hv (iv_ans hv ?_) ?_
      · intro Q hQ
        rw [e_S_law]
        try simp (config := {maxSteps := 1000000}) (disch := omega) only [nI_add, nI_1, am_mulN, nI_clamp, am_gI, am_ifd, am_ifn, am_asIe, am_asLe, nI_leI, nI_ltI, nI_eq, am_neg1, am_neg1b]
        rw [if_neg (by omega), if_neg (by omega), s_S_isSleeper ht, eZ, bo_f nb]
        try simp (config := {maxSteps := 1000000}) (disch := omega) only [nI_add, nI_1, am_mulN, nI_clamp, am_gI, am_ifd, am_ifn, am_asIe, am_asLe, nI_leI, nI_ltI, nI_eq, am_neg1, am_neg1b]
        rw [e_S_law_14]
        try simp (config := {maxSteps := 1000000}) (disch := omega) only [nI_add, nI_1, am_mulN, nI_clamp, am_gI, am_ifd, am_ifn, am_asIe, am_asLe, nI_leI, nI_ltI, nI_eq, am_neg1, am_neg1b, if_true]
        exact hQ
      · intro r' I' J' hv' he
        refine iv_mans ?_
        intro Q hQ
        have hZ' : I' 95 2 = nI (m_nZ I) := by rw [he 95 (by omega)]; exact hZ
        rw [e_M_law]
        try simp (config := {maxSteps := 1000000}) (disch := omega) only [nI_add, nI_1, am_mulN, nI_clamp, am_gI, am_ifd, am_ifn, am_asIe, am_asLe, nI_leI, nI_ltI, nI_eq, am_neg1, am_neg1b]
        rw [if_neg (by omega), if_neg (by omega), s_M_hasLaw (by omega)]
        try simp (config := {maxSteps := 1000000}) (disch := omega) only [nI_add, nI_1, am_mulN, nI_clamp, am_gI, am_ifd, am_ifn, am_asIe, am_asLe, nI_leI, nI_ltI, nI_eq, am_neg1, am_neg1b]
        rw [e_M_law_19]
        try simp (config := {maxSteps := 1000000}) (disch := omega) only [nI_add, nI_1, am_mulN, nI_clamp, am_gI, am_ifd, am_ifn, am_asIe, am_asLe, nI_leI, nI_ltI, nI_eq, am_neg1, am_neg1b, b_v0]
        split
        · exact hQ
        · rw [s_M_isSleeper, am_uN (by omega), hZ', bo_f nb]
          try simp (config := {maxSteps := 1000000}) (disch := omega) only [nI_add, nI_1, am_mulN, nI_clamp, am_gI, am_ifd, am_ifn, am_asIe, am_asLe, nI_leI, nI_ltI, nI_eq, am_neg1, am_neg1b]
          rw [e_M_law_27]
          try simp (config := {maxSteps := 1000000}) (disch := omega) only [nI_add, nI_1, am_mulN, nI_clamp, am_gI, am_ifd, am_ifn, am_asIe, am_asLe, nI_leI, nI_ltI, nI_eq, am_neg1, am_neg1b, if_true]
          exact hQ
  · have na : a < nI 0 ∨ (¬ a < nI 0 ∧ nI 3 ≤ a ∧ nI 2 < a) := by
      by_cases g : a < nI 0
      · exact Or.inl g
      · have g2 : ¬ a < nI 3 := fun g2 => ca ((am_irng (k := 0) (x := a) (a := nI 3) rfl (by omega)).mp ⟨fa_of_nlt g, g2⟩)
        refine Or.inr ⟨g, fa_of_nlt g2, ?_⟩
        rw [fa_lt, nI_toInt (by omega)] at g2 ⊢
        omega
    refine op2_q (v := .long lw_E) hv (iv_ans hv ?_) ?_
    · intro Q hQ
      rw [e_S_law]
      try simp (config := {maxSteps := 1000000}) (disch := omega) only [nI_add, nI_1, am_mulN, nI_clamp, am_gI, am_ifd, am_ifn, am_asIe, am_asLe, nI_leI, nI_ltI, nI_eq, am_neg1, am_neg1b]
      rcases na with g | ⟨g, g2, _⟩
      · rw [if_pos g]; exact hQ
      · rw [if_neg g, if_pos g2]; exact hQ
    · intro r' I' J' hv' he
      refine iv_mans ?_
      intro Q hQ
      rw [e_M_law]
      try simp (config := {maxSteps := 1000000}) (disch := omega) only [nI_add, nI_1, am_mulN, nI_clamp, am_gI, am_ifd, am_ifn, am_asIe, am_asLe, nI_leI, nI_ltI, nI_eq, am_neg1, am_neg1b]
      rcases na with g | ⟨g, _, g2⟩
      · rw [if_pos g]; exact hQ
      · rw [if_neg g, if_pos g2]; exact hQ
end
