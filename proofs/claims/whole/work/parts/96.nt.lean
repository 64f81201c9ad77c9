/-! ===== L3: whole nights, chain ===== -/
def m_nt (M : Nat → Nat → Int32) (F : Nat → Int32) (b : Bool) (W : Nat → Nat → Int32) : Nat → Nat → Int32 := m_endX M (m_Wj M F b W (W 0 0).toNatClampNeg (12 - (W 0 0).toNatClampNeg))
section
variable {M W : Nat → Nat → Int32} {F : Nat → Int32} {b : Bool}
theorem okX_hour {h : Nat} (hX : m_okX M W) (h12 : h < 12) : m_okX M (am_u W 0 0 (nI h)) := by
  obtain ⟨h1, h2, h3, h4, h5⟩ := hX
  refine ⟨?_, ⟨h, h12, am_uE⟩, okLt_u h3 (by omega), ?_, ?_⟩
  · intro s hs; rw [am_uN (by omega)]; exact h1 s hs
  · intro i i1 i2; rw [am_uN (by omega)]; exact h4 i i1 i2
  · intro x hx; rw [am_uN (by omega)]; exact h5 x hx
theorem okX_Wj {h0 : Nat} (hok : m_ok M) (hX : m_okX M W) : ∀ j, h0 + j ≤ 12 → m_okX M (m_Wj M F b W h0 j)
  | 0, _ => hX
  | j + 1, h => okX_pass hok (okX_hour (okX_Wj hok hX j (by omega)) (by omega)) _ (Nat.le_refl _)
theorem okX_nt (hok : m_ok M) (hX : m_okX M W) : m_okX M (m_nt M F b W) := by
  obtain ⟨q, hq, e⟩ := hX.2.1
  unfold m_nt
  rw [e, nI_clamp (by omega)]
  exact okX_endX hok (okX_Wj hok hX _ (by omega))
theorem nt_k {f : Nat} (hf : f = 3 ∨ f = 9) : m_nt M F b W f = W f := by
  unfold m_nt m_endX
  rw [am_uRow (by omega), am_uRow (by omega), am_uRow (by omega), m_endL_k (by omega), m_Wj_k (by omega)]
theorem nt_0 : m_nt M F b W 0 0 = nI 0 := by
  unfold m_nt m_endX
  rw [am_uN (by omega), am_uE]
theorem endL_6 {l : Nat} : ∀ n, (m_endL M W n 6 l = nI 2) = (W 6 l = nI 2)
  | 0 => rfl
  | n + 1 => by
    rw [← endL_6 n]
    rw [m_endL, am_uN (by omega)]
    unfold m_downF
    split
    · rename_i h
      rw [if_pos rfl, h.2.1.1]
      exact propext ⟨fun g => absurd g n02, fun g => absurd g n12⟩
    · rfl
theorem endX_6 {l : Nat} : (m_endX M W 6 l = nI 2) = (W 6 l = nI 2) := by
  unfold m_endX
  rw [am_uN (by omega), am_uN (by omega), am_uN (by omega), endL_6]
end
section
variable {d N : Nat} {Q : Value → am_H → Prop} {r : am_rho} {I : Nat → Nat → Int32} {J : Nat → Nat → Int64}
/-- the trial's night ends -/
theorem ct_end {M W I1 : Nat → Nat → Int32} {t : Nat} (ht : t = 3 ∨ t = 23) (hok : m_ok M) (hr : cw_rel M (c_w I1 82) W) (hW : m_okW M W) (e2 : I1 t 2 = M 95 2) (eb : ∀ s, s < m_nZ M → I1 (t + 6) s = M 104 s)
    (hQ : ∀ I2, (∀ a, (a < 82 ∨ 87 < a) → I2 a = I1 a) → cw_rel M (c_w I2 82) (m_endX M W) → I2 82 5 = I1 82 5 → Q .null (am_hp N r I2 J)) : am_D (d + 2) 112 [.ref 82, .ref t] (am_hp N r I1 J) Q := by
  have eS : am_hp N r I1 J = am_hp N r (c_C I1 82 (c_w I1 82) (I1 63) (I1 68)) J := by rw [c_wid]
  rw [eS]
  refine s_W_endNight ht (by omega) hok hr hW e2 eb ?_
  intro C' g1 g2 g3
  refine hQ _ ?_ (cw_wC (by omega) g1) ?_
  · intro a ha
    by_cases c : a = 63
    · subst c; rfl
    · by_cases c2 : a = 68
      · subst c2; rfl
      · funext j; exact c_Co (by omega)
  · rw [show (82 : Nat) = 82 + 0 from rfl, c_Ci (by omega) (by omega), g2, c_wI (by omega)]
/-- the world at the beginning of the n-th night from now, as it goes -/
def q_ch (I : Nat → Nat → Int32) : Nat → Nat → Nat → Int32
  | 0 => m_g I 0
  | n + 1 => m_nt I (m_far I (I 128)) false (q_ch I n)
def q_chp (I : Nat → Nat → Int32) (l n : Nat) : Bool := decide (q_ch I (n + 1) 6 l = nI 2)
def q_chv (I : Nat → Nat → Int32) (l : Nat) : Int32 := if fa_first (q_chp I l) 40 < 40 then nI (fa_first (q_chp I l) 40 + 1) else -nI 2
theorem ch_k {f : Nat} (hf : f = 3 ∨ f = 9) : ∀ n, q_ch I n f = m_g I 0 f
  | 0 => rfl
  | n + 1 => by unfold q_ch; rw [nt_k hf, ch_k hf n]
theorem ch_ok (hok : m_ok I) (hX : m_okX I (m_g I 0)) : ∀ n, m_okX I (q_ch I n)
  | 0 => hX
  | n + 1 => okX_nt hok (ch_ok hok hX n)
theorem ch_find {p : Nat → Bool} {n : Nat} (h : ∀ i, i < n → p i = false) (hp : p n = false) : ∀ i, i < n + 1 → p i = false := by
  intro i hi
  by_cases e : i = n
  · subst e; exact hp
  · exact h i (by omega)
theorem c_chain {rt rs rd rl rx nt nw nf l : Nat} (hv : i_inv (rt, rs, rd, rl, rx, nt, nw, nf) I J) (hl : l < m_nL I)
    (hQ : ∀ I' J', cfr I I' → c_cache I I (rt + 15) (I' 63) (J' 64) → Q (.int (q_chv I l)) (am_hp N (rt, rs, rd, rl, rx, rt, rt + 4, rt + 5) I' J')) :
    am_D (d + 8) 86 [.ref 81, .ref rt, .int (nI l)] (am_hp N (rt, rs, rd, rl, rx, nt, nw, nf) I J) Q := by
  obtain ⟨ht, hok, eH, eZ, eL, h0, h12, e49, e118⟩ := iv_ref hv
  have hbell := iv_bell hv
  have hL8 := hok.2.2.2.1.2
  have hZ5 := hok.2.2.1.2
  have hnow := hv.2.2.2.1
  have htr := hv.2.1
  have henv0 := env_idle (w := 49) (F := I 128) (W := m_g I 0) (by omega) hv.2.1 hv.2.2.1 hbell
  have srow : ∀ c, (c < 61 ∨ c = 62 ∨ (63 ≤ c ∧ c < 69) ∨ 72 ≤ c) → c_suit I rt 49 (m_nZ I) c = I c := fun c h => su_row (by omega)
  rw [e_Tries_nightOfArrival ht, s_N_suit ht (by omega) eZ hZ5, e_Tries_nightOfArrival_12 ht]
  generalize c_suit I rt 49 (m_nZ I) = S at henv0 srow ⊢
  have fin : ∀ I' : Nat → Nat → Int32, (∀ c, c ≠ 63 → c ≠ 68 → (c < 82 ∨ 87 < c) → I' c = S c) → cfr I I' := by
    intro I' k1
    refine ⟨?_, ?_⟩
    · intro c hc
      rw [k1 c (by omega) (by omega) (by omega), srow c (by omega)]
    · intro c hc
      rw [k1 c (by omega) (by omega) (by omega), srow c (by omega)]
  have lp : ∀ k n, 40 = n + k → (∀ i, i < n → q_chp I l i = false) → ∀ I1 J1, (∀ c, c ≠ 63 → c ≠ 68 → (c < 82 ∨ 87 < c) → I1 c = S c) → c_cache I I (rt + 15) (I1 63) (J1 64) → cw_rel I (c_w I1 82) (q_ch I n) → I1 82 5 = m_g I 0 3 0 → am_V (d + 7) Q 86 25 [some (.ref 81), some (.ref rt), some (.int (nI l)), some (.int (nI (n + 1)))] [] (am_hp N (rt, rs, rd, rl, rx, rt, rt + 4, rt + 5) I1 J1) := by
    intro k
    induction k with
    | zero =>
      intro n hn hp I1 J1 k1 k2 k3 k4
      obtain rfl : n = 40 := by omega
      rw [e_Tries_nightOfArrival_25 ht, am_ifd, if_pos (by rw [nI_ltI (by omega) (by omega)]; omega)]
      have := hQ I1 J1 (fin I1 k1) k2
      unfold q_chv at this
      rw [fa_first_none hp, if_neg (by omega)] at this
      exact this
    | succ k ih =>
      intro n hn hp I1 J1 k1 k2 k3 k4
      have hX := ch_ok hok hnow.2.2 n
      obtain ⟨h, hh12, eh⟩ := hX.2.1
      have henv : c_env I1 I rt (rt + 4) (rt + 5) (m_far I (I 128)) false (q_ch I n 9) (m_g I 0 3 0) (q_ch I n 3 0) := by
        rw [ch_k (by omega), ch_k (by omega)]
        have he' := henv0
        obtain ⟨_, _, eb, em, en, ed, edr, el, ef, ew, ewk, ebn, elr, eus, ero⟩ := he'
        have r1 : ∀ c, c ≠ 63 → c ≠ 68 → (c < 82 ∨ 87 < c) → I1 c = S c := k1
        refine env_x (fun _ _ _ => rfl) henv0 (fun c h => r1 c (by omega) (by omega) (by omega)) ⟨by omega, by omega⟩ ?_ ?_ ?_ ?_ ?_ ?_ ?_ ?_
        · rw [r1 69 (by omega) (by omega) (by omega)]; exact en
        · rw [r1 70 (by omega) (by omega) (by omega)]; exact ed
        · rw [r1 71 (by omega) (by omega) (by omega)]; exact edr
        · intro k hk hr hhr
          have := el k hk hr hhr
          unfold cl_light at this ⊢
          rw [r1 61 (by omega) (by omega) (by omega), r1 (rt + 12) (by omega) (by omega) (by omega)]; exact this
        · rw [r1 (rt + 5) (by omega) (by omega) (by omega)]; exact ef
        · rw [r1 (rt + 4) (by omega) (by omega) (by omega)]; exact ew
        · rw [r1 61 (by omega) (by omega) (by omega)]; exact ewk
        · rw [r1 61 (by omega) (by omega) (by omega)]; exact ebn
      rw [e_Tries_nightOfArrival_25 ht, am_ifd, if_neg (by rw [nI_ltI (by omega) (by omega)]; omega)]
      refine s_T_walk (I := I) (M := I) (W := q_ch I n) (h0 := h) (j := 12 - h) (fun _ _ _ => rfl) hok henv k3 hX.1 k4 eh (by omega) (by omega) (by rw [show h + (12 - h) - 1 = 11 by omega]) (by rw [k1 (rt + 19) (by omega) (by omega) (by omega), srow (rt + 19) (by omega)]) k2 ?_
      intro I5 J5 w1 w2 w3 w4 w5
      have ent : m_endX I (m_Wj I (m_far I (I 128)) false (q_ch I n) h (12 - h)) = q_ch I (n + 1) := by
        rw [q_ch, m_nt, eh, nI_clamp (by omega)]
      have ebt : bt (I5 82 4) l = q_chp I l n := by
        have := w3.2.2.2.2.2.2.2.1 l (by omega)
        rw [c_wI (by omega)] at this
        refine this.trans ?_
        unfold q_chp
        rw [← ent]
        simp only [endX_6, hl, true_and]
      have r5 : ∀ c, c ≠ 63 → c ≠ 68 → (c < 82 ∨ 87 < c) → I5 c = S c := fun c h1 h2 h3 => by rw [w1 c h1 h2 h3, k1 c h1 h2 h3]
      rw [e_Tries_nightOfArrival_44 ht, s_W_hasArrived (by omega) (by omega), am_asIe, ebt, e_Tries_nightOfArrival_52 ht, am_ifb]
      by_cases c : q_chp I l n = false
      · rw [if_pos c]
        refine ct_end (M := I) (W := m_Wj I (m_far I (I 128)) false (q_ch I n) h (12 - h)) ht hok w3 (okX_Wj hok hX _ (by omega)).1 (by rw [r5 rt (by omega) (by omega) (by omega), srow rt (by omega)]; exact htr.2.1.2.2.1) ?_ ?_
        · intro s hs
          rw [r5 (rt + 6) (by omega) (by omega) (by omega), srow (rt + 6) (by omega)]
          exact (htr.2.2.2.2.2.2.2.2.1 s hs).1
        · intro I6 g1 g2 g3
          rw [e_Tries_nightOfArrival_65 ht, show nI (n + 1) + nI 1 = nI (n + 1 + 1) from nI_add _ _]
          refine ih (n + 1) (by omega) (ch_find hp c) I6 J5 ?_ ?_ ?_ ?_
          · intro c h1 h2 h3; rw [g1 c h3, r5 c h1 h2 h3]
          · rw [g1 63 (by omega)]; exact w2
          · rw [← ent]; exact g2
          · rw [g3]; exact w4
      · rw [if_neg c]
        have ct : q_chp I l n = true := by
          cases e : q_chp I l n
          · exact absurd e c
          · rfl
        have := hQ I5 J5 (fin I5 r5) w2
        unfold q_chv at this
        rw [fa_first_step (show n < 40 by omega) hp ct, if_pos (by omega)] at this
        exact this
  refine ct_become (I := I) hok hnow (fun c h1 h2 => srow c (by omega)) ?_
  intro I2 k1 k2 k3
  rw [e_Tries_nightOfArrival_23 ht]
  refine lp 40 0 (by omega) (fun i hi => by omega) I2 J ?_ ?_ k2 k3
  · intro c h1 h2 h3; exact k1 c h3
  · rw [k1 63 (by omega), srow 63 (by omega)]; exact hv.2.2.2.2.2.2.2.2.2
/-- the model goes through a night, hour by hour -/
theorem m_night_c {M W : Nat → Nat → Int32} {v : Int32} {F T : Nat → Int32} {nm wk : Nat → Int64} {x1 x2 : Int32} (hok : m_ok M) (hD : m_okD M) (hX : m_okX M W)
    (hQ : ∀ v' nm' wk', am_V (d + 7) Q 250 56 [some (.ref 93), some (.int x1), some (.int x2)] [] (am_hp N r (m_M M 1 (m_nt M F false W) v' F T) (m_J J nm' wk'))) :
    am_V (d + 7) Q 250 45 [some (.ref 93), some (.int x1), some (.int x2)] [] (am_hp N r (m_M M 1 W v F T) (m_J J nm wk)) := by
  obtain ⟨h0, hh, e⟩ := hX.2.1
  have lp : ∀ k i, 12 = h0 + i + (k + 1) → ∀ v nm wk, am_V (d + 7) Q 250 45 [some (.ref 93), some (.int x1), some (.int x2)] [] (am_hp N r (m_M M 1 (am_u (m_Wj M F false W h0 i) 0 0 (nI (h0 + i))) v F T) (m_J J nm wk)) := by
    intro k
    induction k with
    | zero =>
      intro i hi v nm wk
      rw [e_M_chain_45, show nI 0 = nI false.toNat from rfl]
      refine s_M_passes hok hD (okX_hour (okX_Wj hok hX i (by omega)) (by omega)).1 (by omega) ?_
      intro v' nm' wk'
      rw [e_M_chain_51, s_M_ends hok (by omega), show m_pass M F false (am_u (m_Wj M F false W h0 i) 0 0 (nI (h0 + i))) (m_nZ M) = m_Wj M F false W h0 (i + 1) from rfl, m_end_eq]
      have e0 : m_Wj M F false W h0 (i + 1) 0 0 = nI (h0 + i) := by
        show m_pass M F false (am_u (m_Wj M F false W h0 i) 0 0 (nI (h0 + i))) (m_nZ M) 0 0 = _
        rw [m_pass_k (by omega), am_uE]
      rw [e0, nI_add, if_pos (by rw [nI_leI (by omega) (by omega)]; omega)]
      have := hQ v' nm' wk'
      unfold m_nt at this
      rw [e, nI_clamp (by omega), show 12 - h0 = i + 1 by omega] at this
      exact this
    | succ k ih =>
      intro i hi v nm wk
      rw [e_M_chain_45, show nI 0 = nI false.toNat from rfl]
      refine s_M_passes hok hD (okX_hour (okX_Wj hok hX i (by omega)) (by omega)).1 (by omega) ?_
      intro v' nm' wk'
      rw [e_M_chain_51, s_M_ends hok (by omega), show m_pass M F false (am_u (m_Wj M F false W h0 i) 0 0 (nI (h0 + i))) (m_nZ M) = m_Wj M F false W h0 (i + 1) from rfl, m_end_eq]
      have e0 : m_Wj M F false W h0 (i + 1) 0 0 = nI (h0 + i) := by
        show m_pass M F false (am_u (m_Wj M F false W h0 i) 0 0 (nI (h0 + i))) (m_nZ M) 0 0 = _
        rw [m_pass_k (by omega), am_uE]
      rw [e0, nI_add, if_neg (by rw [nI_leI (by omega) (by omega)]; omega), e_M_chain_56, am_ifd, m_M0, am_uE, if_pos (by rw [nI_ltI (by omega) (by omega)]; omega)]
      exact ih (i + 1) (by omega) v' nm' wk'
  have := lp (11 - h0) 0 (by omega) v nm wk
  rw [show m_Wj M F false W h0 0 = W from rfl, am_self (by rw [e]; rfl)] at this
  exact this
theorem m_chain {l : Nat} (hv : i_inv r I J) (hl : l < m_nL I) (hQ : ∀ I' J', mfr I I' → J' 64 = J 64 → Q (.int (q_chv I l)) (am_hp N r I' J')) :
    am_D (d + 7) 205 [.ref 93, .int (nI 1), .int (nI 0)] (am_hp N r I J) (fun v h => am_V (d + 7) Q 250 33 [some (.ref 93), some (.int (nI l)), none] [] h) := by
  have hok : m_ok I := hv.2.1.1.2.1
  have hst := hv.2.1.1.2.2.1
  have hid := hv.2.2.1
  have hX0 := hv.2.2.2.1.2.2
  have hL8 := hok.2.2.2.1.2
  have hD : m_okD I := by
    intro s hs
    rw [m_dream_idle hid (by have := hok.2.2.1.2; omega)]
    obtain ⟨_, _, _, _, h, hh, e⟩ := hv.2.1.2.2.2.2.2.2.2.2.1 s hs
    exact ⟨h, by have := hok.1.2; omega, e⟩
  rw [m_idM (n := 1), s_M_copies (by omega) (by omega) (by omega), e_M_chain_33, s_M_layFar hok (m_okS_of hst), e_M_chain_37]
  have lp : ∀ k n, 40 = n + k → (∀ i, i < n → q_chp I l i = false) → ∀ v nm wk, am_V (d + 7) Q 250 39 [some (.ref 93), some (.int (nI l)), some (.int (nI (n + 1)))] [] (am_hp N r (m_M I 1 (q_ch I n) v (m_far I (I 128)) (I 129)) (m_J J nm wk)) := by
    intro k
    induction k with
    | zero =>
      intro n hn hp v nm wk
      obtain rfl : n = 40 := by omega
      rw [e_M_chain_39, am_ifd, if_pos (by rw [nI_ltI (by omega) (by omega)]; omega)]
      have := hQ (m_M I 1 (q_ch I 40) v (m_far I (I 128)) (I 129)) (m_J J nm wk) mfr_M rfl
      unfold q_chv at this
      rw [fa_first_none hp, if_neg (by omega)] at this
      exact this
    | succ k ih =>
      intro n hn hp v nm wk
      rw [e_M_chain_39, am_ifd, if_neg (by rw [nI_ltI (by omega) (by omega)]; omega)]
      refine m_night_c hok hD (ch_ok hok hX0 n) ?_
      intro v' nm' wk'
      rw [show m_nt I (m_far I (I 128)) false (q_ch I n) = q_ch I (n + 1) from rfl, e_M_chain_56, am_ifd, m_M0, show q_ch I (n + 1) 0 0 = nI 0 from nt_0, if_neg (by decide +kernel), nI_add, am_gI (by omega) (by omega), nI_clamp (by omega), am_ifn, show 8 + l = 8 * 1 + l by omega, m_M6 (by omega), show nI (n + 1) + nI 1 = nI (n + 1 + 1) from nI_add _ _]
      by_cases c : q_ch I (n + 1) 6 l = nI 2
      · rw [if_pos c]
        have ct : q_chp I l n = true := decide_eq_true c
        have := hQ (m_M I 1 (q_ch I (n + 1)) v' (m_far I (I 128)) (I 129)) (m_J J nm' wk') mfr_M rfl
        unfold q_chv at this
        rw [fa_first_step (show n < 40 by omega) hp ct, if_pos (by omega)] at this
        exact this
      · rw [if_neg c]
        have ct : q_chp I l n = false := decide_eq_false c
        exact ih (n + 1) (by omega) (ch_find hp ct) v' nm' wk'
  exact lp 40 0 (by omega) (fun i hi => by omega) _ _ _
theorem g_qch {I' : Nat → Nat → Int32} (hg : m_g I' 0 = m_g I 0) (h128 : I' 128 = I 128) (k : m_e2 I I') : ∀ n, q_ch I' n = q_ch I n
  | 0 => hg
  | n + 1 => by
    unfold q_ch m_nt
    rw [g_qch hg h128 k n, h128, k_far k, k_Wj k]
    unfold m_endX
    rw [k_endL k, k_nZ k]
theorem op_chain {a : Int32} (hv : i_inv r I J) : op2 (d + 12) N 131 250 [.int a] r I J := by
  obtain ⟨rt, rs, rd, rl, rx, nt, nw, nf⟩ := r
  obtain ⟨ht, hok, eH, eZ, eL, h0, h12, e49, e118⟩ := iv_ref hv
  have hL8 := hok.2.2.2.1.2
  by_cases ca : nI 0 ≤ a ∧ a < nI (m_nL I)
  · obtain ⟨l, hl, rfl⟩ := (am_irng (k := 0) rfl (by omega)).mp ca
    have e6 := (iv_67 (I := I) (l := l) (by omega)).1
    have ebt : bt (I 49 4) l = decide (I 124 l = nI 2) := by
      have := hv.2.2.2.1.1.2.2.2.2.2.2.2.1 l (by omega)
      rw [c_wI (by omega), e6] at this
      refine this.trans ?_
      simp only [hl, true_and]
    refine op2_q (v := .int (if I 124 l = nI 2 then nI 0 else q_chv I l)) hv ?_ ?_
    · intro Q hQ
      rw [e_S_chain, s_S_isLetter ht, eL, bo_t ca, am_asIe, e_S_chain_5, am_ifn, if_neg n10, s_W_hasArrived (by omega) (by omega), am_asIe, ebt, e_S_chain_18 ht, am_ifb]
      by_cases c : I 124 l = nI 2
      · rw [if_pos c] at hQ
        rw [if_neg (by rw [decide_eq_true c]; decide), e_S_chain_37]
        exact hQ _ _ _ cfr_refl hv.1 rfl hv.2.2.2.2.2.2.2.2.2
      · rw [if_neg c] at hQ
        rw [if_pos (decide_eq_false c)]
        refine c_chain hv hl ?_
        intro I2 J2 g1 g2
        rw [am_asIe, e_S_chain_37]
        exact hQ _ _ _ g1 (ref_t hv.1 ht) rfl g2
    · intro r' I' J' hv' he Q hQ
      have hv0 := inv_mfr (J' := J') hv' (th0_mfr (x := nI 0)) rfl
      have hte : te I (am_u I' 93 0 (nI 0)) := fun a h1 h2 => by rw [am_uRow (by omega), he a (by omega)]
      have e95 : ∀ k, am_u I' 93 0 (nI 0) 95 k = I 95 k := fun k => by rw [am_uN (by omega), he 95 (by omega)]
      have e124 : am_u I' 93 0 (nI 0) 124 l = I 124 l := by rw [am_uN (by omega), he 124 (by omega)]
      rw [e_M_chain, s_M_isLetter, e95, hok.2.2.2.1.1, bo_t ca, am_asIe, e_M_chain_10, am_ifn, if_neg n10, am_gI (by omega) (by omega), nI_clamp (by omega), am_ifn, e124]
      by_cases c : I 124 l = nI 2
      · rw [if_pos c] at hQ
        rw [if_pos c]
        exact hQ _ _ th0_mfr rfl
      · rw [if_neg c] at hQ
        rw [if_neg c]
        refine m_chain hv0 (by rw [e_nL hte]; exact hl) ?_
        intro I2 J2 g1 g2
        have ev : q_chv (am_u I' 93 0 (nI 0)) l = q_chv I l := by
          have hq := g_qch (I := I) (I' := am_u I' 93 0 (nI 0)) (g_row (fun a h1 h2 => by rw [am_uRow (by omega), he a (by omega)])) (by rw [am_uRow (by omega), he 128 (by omega)]) ⟨fun a h1 h2 => by rw [am_uRow (by omega), he a (by omega)], fun k h1 h2 => by rw [am_uN (by omega), he 93 (by omega)]⟩
          unfold q_chv q_chp
          simp only [hq]
        rw [ev]
        exact hQ _ _ (mfr_trans th0_mfr g1) g2
  · refine op2_q (v := .int (-nI 1)) hv (iv_ans hv ?_) ?_
    · intro Q hQ
      rw [e_S_chain, s_S_isLetter ht, eL, bo_f ca, am_asIe, e_S_chain_5, am_ifn, if_pos rfl]
      exact hQ
    · intro r' I' J' hv' he
      refine iv_mans ?_
      intro Q hQ
      have e95 : ∀ k, am_u I' 93 0 (nI 0) 95 k = I 95 k := fun k => by rw [am_uN (by omega), he 95 (by omega)]
      rw [e_M_chain, s_M_isLetter, e95, hok.2.2.2.1.1, bo_f ca, am_asIe, e_M_chain_10, am_ifn, if_pos rfl]
      exact hQ
end
