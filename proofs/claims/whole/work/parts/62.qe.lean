/-! ===== L3: cost, need: some stay in their beds ===== -/
section
variable {d N : Nat} {Q : Value → am_H → Prop} {r : am_rho} {I : Nat → Nat → Int32} {J : Nat → Nat → Int64}
/-- the night ahead under the model's fields of M, from the world that stands: hour h0 -/
def q_run (I M : Nat → Nat → Int32) (b : Bool) : Nat → Nat → Int32 := m_Wj M (m_far M (I 128)) b (m_g I 0) (I 118 0).toNatClampNeg (12 - (I 118 0).toNatClampNeg)
def q_arr (I : Nat → Nat → Int32) (still : Int32) : Int32 := q_cnt I (q_run I (am_u I 93 58 still) false)
theorem g_qrun {I' M M' : Nat → Nat → Int32} (h : m_eq I I') (k : m_e2 M M') : q_run I' M' = q_run I M := by
  funext b
  unfold q_run
  rw [k_Wj k, k_far k, g_g h, h 128 (by omega), h 118 (by omega)]
theorem e2_93 {I' : Nat → Nat → Int32} {k : Nat} {x : Int32} (h : m_eq I I') : m_e2 (am_u I 93 k x) (am_u I' 93 k x) := by
  refine ⟨fun a h1 h2 => ?_, fun j h1 h2 => ?_⟩
  · rw [am_uRow (by omega), am_uRow (by omega), h a (by omega)]
  · unfold am_u
    rw [h 93 (by omega)]
theorem g_qarr {I' : Nat → Nat → Int32} (h : m_eq I I') : q_arr I' = q_arr I := by
  funext x
  unfold q_arr q_cnt
  rw [g_qrun h (e2_93 h), g_nL h]
theorem s_T_arrivals {rt rs rd rl rx nt nw nf : Nat} {x still : Int32} (hv : i_inv (rt, rs, rd, rl, rx, nt, nw, nf) I J) (hx : ∀ s, s < m_nZ I → bt x s = !bt still s)
    (hQ : ∀ I' J', cfr I I' → c_cache I I (rt + 15) (I' 63) (J' 64) → Q (.int (q_arr I still)) (am_hp N (rt, rs, rd, rl, rx, rt, rt + 4, rt + 5) I' J')) :
    am_D (d + 8) 94 [.ref 81, .ref rt, .int x] (am_hp N (rt, rs, rd, rl, rx, nt, nw, nf) I J) Q := by
  obtain ⟨ht, hok, eH, eZ, eL, h0, h12, e49, e118⟩ := iv_ref hv
  have hbell := iv_bell hv
  obtain ⟨href, htr, hid, hnow, himg, hund, hsig, htap, hflt, hca⟩ := hv
  obtain ⟨n1, n2, n3⟩ := hnow
  have hZ := hok.2.2.1
  have hL8 := hok.2.2.2.1.2
  have hte : te I (am_u I 93 58 still) := te_93
  have hokM := e_ok hte hok
  have c5 : am_u I 93 58 still 93 52 = I 93 52 ∧ am_u I 93 58 still 93 53 = I 93 53 := ⟨am_uN (by omega), am_uN (by omega)⟩
  rw [e_Tries_arrivals ht, s_N_suit ht (by omega) eZ hZ.2, e_Tries_arrivals_12 ht]
  have henv0 := env_idle (w := 49) (F := I 128) (W := m_g I 0) (by omega) htr hid hbell
  have henv : c_env (am_u (c_suit I rt 49 (m_nZ I)) 61 10 x) (am_u I 93 58 still) rt (rt + 4) (rt + 5) (m_far (am_u I 93 58 still) (I 128)) false (m_g I 0 9) (m_g I 0 3 0) (m_g I 0 3 0) := by
    have he' := henv0
    obtain ⟨_, _, eb, em, en, ed, edr, el, ef, ew, ewk, ebn, elr, eus, ero⟩ := he'
    refine env_x hte henv0 (fun a h => am_uRow (by omega)) ⟨by omega, by omega⟩ ?_ ?_ ?_ ?_ ?_ ?_ ?_ ?_
    · rw [n_noise hte ⟨c5.1, am_uN (by omega), am_uN (by omega), am_uN (by omega), am_uN (by omega), am_uN (by omega)⟩, am_uRow (by omega)]; exact en
    · rw [n_deep hte c5, am_uRow (by omega)]; exact ed
    · rw [n_dream hte ⟨am_uN (by omega), am_uN (by omega)⟩, am_uRow (by omega)]; exact edr
    · rw [n_light hte ⟨c5.1, am_uN (by omega), am_uN (by omega)⟩]
      intro k hk hr hhr
      have := el k hk hr hhr
      unfold cl_light at this ⊢
      rw [am_uN (by omega), am_uN (by omega)]; exact this
    · rw [n_far hte c5, am_uRow (by omega)]; exact ef
    · rw [n_way hte c5, am_uRow (by omega)]; exact ew
    · intro s hs
      rw [am_uE, am_uE]; exact hx s hs
    · rw [am_uN (by omega)]; exact ebn
  have e49w : c_w (am_u (c_suit I rt 49 (m_nZ I)) 61 10 x) 49 = c_w I 49 := by
    funext i j; unfold c_w
    by_cases h : i ≤ 5
    · rw [if_pos h, if_pos h, am_uN (by omega), su_o (by omega)]
    · rw [if_neg h, if_neg h]
  have hrow : ∀ a, (a < 61 ∨ a = 62 ∨ a = 63 ∨ (72 ≤ a ∧ a ≤ 80) ∨ 93 ≤ a) → am_u (c_suit I rt 49 (m_nZ I)) 61 10 x a = I a := fun a h => by rw [am_uRow (by omega), su_row (by omega)]
  generalize am_u (c_suit I rt 49 (m_nZ I)) 61 10 x = I1 at henv e49w hrow ⊢
  have hrel : cw_rel (am_u I 93 58 still) (c_cp (c_w I1 82) (c_w I1 49)) (m_g I 0) := by
    refine e_cw hte (cw_cp hok ?_)
    rw [e49w]
    exact n1
  have hlit : c_cp (c_w I1 82) (c_w I1 49) 0 5 = m_g I 0 3 0 := by
    unfold c_cp
    rw [if_pos (by omega), e49w, c_wI (by omega)]
    exact n2
  have hh0 : m_g I 0 0 0 = nI h0 := e118
  have hcache : c_cache I1 (am_u I 93 58 still) (rt + 15) (I1 63) (J 64) := by
    rw [hrow 63 (by omega)]
    exact n_cache hte (c_cache_row (hrow _ (by omega)) hca)
  have e1 : am_hp N (rt, rs, rd, rl, rx, rt, rt + 4, rt + 5) I1 J = am_hp N (rt, rs, rd, rl, rx, rt, rt + 4, rt + 5) (c_C I1 82 (c_w I1 82) (I1 63) (I1 68)) (c_J J (J 64) (J 65)) := by rw [c_wid, c_Jid]
  rw [e1, s_W_become (by omega) (by omega) (by omega), c_cpw, e_Tries_arrivals_31 ht]
  have h11 : nI 11 = nI (h0 + (12 - h0) - 1) := by rw [show h0 + (12 - h0) - 1 = 11 by omega]
  rw [h11]
  refine s_N_walkTo henv hokM hrel (e_okW hte n3.1) (by omega) hlit hh0 (by omega) (by omega) hcache ?_
  intro C' K' P' vl' st' g1 g2 g3 g4
  obtain ⟨k1, k2⟩ := cw_cnt g1 (by rw [e_nL hte]; exact hL8)
  rw [e_Tries_arrivals_44 ht, c_C0 (by omega), s_J_bitCount k2]
  try simp (config := {maxSteps := 1000000}) (disch := omega) only [nI_add, nI_1, am_mulN, nI_clamp, am_gI, am_ifd, am_ifn, am_asIe, am_asLe, nI_leI, nI_ltI, nI_eq, am_neg1, am_neg1b]
  rw [e_Tries_arrivals_54 ht, k1]
  have ea : q_cnt (am_u I 93 58 still) (m_Wj (am_u I 93 58 still) (m_far (am_u I 93 58 still) (I 128)) false (m_g I 0) h0 (12 - h0)) = q_arr I still := by
    unfold q_arr q_cnt q_run
    rw [e118, nI_clamp (by omega), e_nL hte]
  rw [ea]
  refine hQ _ _ ⟨?_, ?_⟩ ?_
  · intro a ha
    funext j
    rw [c_Co (by omega), hrow a (by omega)]
  · intro a ha
    funext j
    rw [c_Co (by omega), hrow a (by omega)]
  · rw [show c_C I1 82 C' K' P' 63 = K' from rfl]
    exact c_cache_row (hrow _ (by omega)).symm (n_cacheR hte g3)
def mfr2 (I I' : Nat → Nat → Int32) : Prop := mfr I I' ∧ (∀ k, 64 ≤ k → I' 128 k = I 128 k) ∧ (∀ k, k ≠ 0 → k ≠ 39 → k ≠ 68 → I' 93 k = I 93 k)
theorem mfr2_trans {I' I'' : Nat → Nat → Int32} (h : mfr2 I I') (k : mfr2 I' I'') : mfr2 I I'' := ⟨mfr_trans h.1 k.1, fun j hj => (k.2.1 j hj).trans (h.2.1 j hj), fun j a b c => (k.2.2 j a b c).trans (h.2.2 j a b c)⟩
theorem mfr2_th0 {x : Int32} : mfr2 I (am_u I 93 0 x) := ⟨th0_mfr, fun k _ => by rw [am_uN (by omega)], fun k h _ _ => am_uN (by omega)⟩
theorem mf_e2 {I' : Nat → Nat → Int32} {k : Nat} {x : Int32} (h : mfr2 I I') : m_e2 (am_u I 93 k x) (am_u I' 93 k x) := by
  refine ⟨fun a h1 h2 => ?_, fun j h1 h2 => ?_⟩
  · rw [am_uRow (by omega), am_uRow (by omega), h.1.1 a (by omega)]
  · unfold am_u
    rw [h.2.2 j (by omega) (by omega) (by omega)]
theorem mf_qrun {I' M M' : Nat → Nat → Int32} (h : mfr2 I I') (k : m_e2 M M') (hst : st_ok M) (h8 : m_nH M ≤ 8) : q_run I' M' = q_run I M := by
  funext b
  have eg : m_g I' 0 = m_g I 0 := g_wq (h.1.2.2 0 (by omega) (by omega))
  have e118 : I' 118 0 = I 118 0 := by
    have := congrFun (congrFun eg 0) 0
    exact this
  have ef : m_far M (I' 128) = m_far M (I 128) := by
    funext j
    rcases Nat.lt_or_ge j 64 with hj | hj
    · exact m_far_lo hst h8 hj
    · rw [m_far_hi hst h8 hj, m_far_hi hst h8 hj, h.2.1 j hj]
  unfold q_run
  rw [k_Wj k, k_far k, eg, e118, ef]
theorem mf_qarr {I' : Nat → Nat → Int32} (h : mfr2 I I') (hst : st_ok I) (h8 : m_nH I ≤ 8) : q_arr I' = q_arr I := by
  funext x
  unfold q_arr q_cnt
  rw [mf_qrun h (mf_e2 h) (e_stok te_93 hst) (by rw [e_nH te_93]; exact h8), q_nL (h.1.1 95 (by omega))]
/-- the model's, out of what stands (thrown, far, trace, world 1 are as they may) -/
theorem s_M_arrivedBy {still : Int32} (hv : i_inv r I J) (hQ : ∀ I' J', mfr2 I I' → J' 64 = J 64 → Q (.int (q_arr I still)) (am_hp N r I' J')) :
    am_D (d + 10) 267 [.ref 93, .int still] (am_hp N r I J) Q := by
  obtain ⟨rt, rs, rd, rl, rx, nt, nw, nf⟩ := r
  obtain ⟨ht, hok, eH, eZ, eL, h0, h12, e49, e118⟩ := iv_ref hv
  obtain ⟨href, htr, hid, hnow, himg, hund, hsig, htap, hflt, hca⟩ := hv
  have hst := htr.1.2.2.1
  have hte : te I (am_u I 93 58 still) := te_93
  have hokM := e_ok hte hok
  have hD : m_okD (am_u I 93 58 still) := by
    intro s hs
    rw [e_nZ hte] at hs
    rw [n_dream hte ⟨am_uN (by omega), am_uN (by omega)⟩, m_dream_idle hid (by have := hok.2.2.1.2; omega)]
    obtain ⟨_, _, _, _, h, hh, e⟩ := htr.2.2.2.2.2.2.2.2.1 s hs
    exact ⟨h, by have := hok.1.2; omega, e⟩
  have hg : m_g (am_u I 93 58 still) 0 = m_g I 0 := by
    funext f k
    unfold m_g
    rw [am_uRow (by omega), am_uRow (by omega)]
  rw [e_M_arrivedBy]
  have e1 : am_hp N (rt, rs, rd, rl, rx, nt, nw, nf) (am_u I 93 58 still) J = am_hp N (rt, rs, rd, rl, rx, nt, nw, nf) (m_M (am_u I 93 58 still) 1 (m_g (am_u I 93 58 still) 1) (am_u I 93 58 still 93 39) (am_u I 93 58 still 128) (am_u I 93 58 still 129)) (m_J J (J 116) (J 117)) := by rw [m_id, m_Jid]
  rw [e1]
  refine s_M_tonight (h0 := h0) hokM (m_okS_of (e_stok hte hst)) hD (by rw [hg]; exact e_okW hte hnow.2.2.1) h12 (by rw [am_uN (by omega)]; exact e118) ?_
  intro v' nm' wk'
  have eu : ∀ W v F T, am_u (m_M (am_u I 93 58 still) 1 W v F T) 93 58 (nI 0) = m_M I 1 W v F T := by
    intro W v F T
    funext a j
    unfold am_u m_M
    try dsimp only
    by_cases c : a = 93 ∧ j = 58
    · rw [if_pos c, if_neg (by omega), if_neg (by omega), if_neg (by omega), if_neg (by omega), if_neg (by omega), if_neg (by omega), c.1, c.2, hid.2.2.2.2.1]
    · simp only [c, if_false]
  rw [e_M_arrivedBy_9, eu, s_M_arrived hok (by omega)]
  try simp (config := {maxSteps := 1000000}) (disch := omega) only [nI_add, nI_1, am_mulN, nI_clamp, am_gI, am_ifd, am_ifn, am_asIe, am_asLe, nI_leI, nI_ltI, nI_eq, am_neg1, am_neg1b]
  rw [e_M_arrivedBy_19]
  have ea : q_cnt I (m_Wj (am_u I 93 58 still) (m_far (am_u I 93 58 still) (am_u I 93 58 still 128)) false (m_g (am_u I 93 58 still) 0) h0 (12 - h0)) = q_arr I still := by
    unfold q_arr q_run
    rw [e118, nI_clamp (by omega), hg, am_uRow (show 128 ≠ 93 by omega)]
  rw [ea]
  refine hQ _ _ ⟨mfr_M, ?_, ?_⟩ rfl
  · intro k hk
    rw [m_MF, m_far_hi (e_stok hte hst) (by rw [e_nH hte]; exact hok.1.2) hk, am_uN (by omega)]
  · intro k _ h39 _
    exact m_Mo (by omega)
end
