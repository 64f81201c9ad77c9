/-! ===== L3: chance ===== -/
section
variable {d N : Nat} {Q : Value → am_H → Prop} {r : am_rho} {I : Nat → Nat → Int32} {J : Nat → Nat → Int64}
theorem c_lucky {rt rs rd rl rx nt nw nf l n : Nat} {x : Int32} (hv : i_inv (rt, rs, rd, rl, rx, nt, nw, nf) I J) (hl : l < m_nL I) (hn : n < 10) (hn0 : 0 < n)
    (hQ : ∀ I' J' nt' nw' nf', i_ref (rt, rs, rd, rl, rx, nt', nw', nf') → cfr I I' → c_cache I I (rt + 15) (I' 63) (J' 64) → Q (.int (nI (fa_cnt (q_cp I n x l) 10))) (am_hp N (rt, rs, rd, rl, rx, nt', nw', nf') I' J')) :
    am_D (d + 8) 96 [.ref 81, .ref rt, .int x, .int (nI l), .int (nI n)] (am_hp N (rt, rs, rd, rl, rx, nt, nw, nf) I J) Q := by
  obtain ⟨ht, hok, eH, eZ, eL, h0, h12, e49, e118⟩ := iv_ref hv
  have hL8 := hok.2.2.2.1.2
  have hZ5 := hok.2.2.1.2
  have hT := hv.2.1
  have hid := hv.2.2.1
  have hnow := hv.2.2.2.1
  have hH : 0 < m_nH I := by
    obtain ⟨s, hs, _⟩ := hT.1.2.2.2 l hl
    obtain ⟨h, hh, _⟩ := hok.2.2.2.2.2.1 s hs
    omega
  rw [e_Tries_luckyTimes ht]
  -- the nights of one time
  have lp2 : ∀ t x6 x7 o5, (∀ I1 J1 o7 o8, (∀ c, (c < 61 ∨ c = 62 ∨ (72 ≤ c ∧ c ≤ 80) ∨ 93 ≤ c) → I1 c = I c) → c_cache I I (rt + 15) (I1 63) (J1 64) → I1 82 2 = q_cl I n x (t + 1) → am_V (d + 7) Q 96 14 [some (.ref 81), some (.ref rt), some (.int x), some (.int (nI l)), some (.int (nI n)), some (.int (nI (o5 + (q_cp I n x l t).toNat))), some (.int (nI x6 + nI 1)), am_oi o7, am_oi o8] [] (am_hp N (rt, rs, rd, rl, rx, rt, rt + 4, rt + 5) I1 J1)) → 
      0 < n → ∀ k i, n = i + k → ∀ I1 J1 nt' nw' nf', (nt' = rt ∧ nw' = rt + 4 ∧ nf' = rt + 5 ∨ i < n) → (∀ c, (c < 61 ∨ c = 62 ∨ (72 ≤ c ∧ c ≤ 80) ∨ 93 ≤ c) → I1 c = I c) → c_cache I I (rt + 15) (I1 63) (J1 64) → cw_rel I (c_w I1 82) (q_cns I (am_u (m_g I 0) 2 0 (q_cl I n x t)) i) → am_V (d + 7) Q 96 53 [some (.ref 81), some (.ref rt), some (.int x), some (.int (nI l)), some (.int (nI n)), some (.int (nI o5)), some (.int (nI x6)), some (.int x7), some (.int (nI i))] [] (am_hp N (rt, rs, rd, rl, rx, nt', nw', nf') I1 J1) := by
    intro t x6 x7 o5 hK hn0 k
    have hX0 : m_okX I (am_u (m_g I 0) 2 0 (q_cl I n x t)) := okX_2 hnow.2.2
    induction k with
    | zero =>
      intro i hi I1 J1 nt' nw' nf' hr' k1 k2 k3
      obtain rfl : i = n := by omega
      obtain ⟨rfl, rfl, rfl⟩ : nt' = rt ∧ nw' = rt + 4 ∧ nf' = rt + 5 := by
        rcases hr' with h | h
        · exact h
        · omega
      have ebt : bt (I1 82 4) l = q_cp I i x l t := by
        have := k3.2.2.2.2.2.2.2.1 l (by omega)
        rw [c_wI (by omega)] at this
        refine this.trans ?_
        unfold q_cp
        simp only [hl, true_and]
      have e2 : I1 82 2 = q_cl I i x (t + 1) := by
        have := k3.2.2.1
        rw [c_wI (by omega)] at this
        exact this
      rw [e_Tries_luckyTimes_53 ht, am_ifd, if_pos (by rw [nI_leI (by omega) (by omega)]; omega), s_W_hasArrived (by omega) (by omega), am_asIe, ebt, e_Tries_luckyTimes_102 ht, am_ifb]
      have hk := fun o7 o8 => hK I1 J1 o7 o8 k1 k2 e2
      cases c : q_cp I i x l t with
      | false =>
        rw [if_pos rfl, nI_add]
        rw [c] at hk
        exact hk _ _
      | true =>
        rw [if_neg (by decide), nI_add]
        rw [c] at hk
        exact hk _ _
    | succ k ih =>
      intro i hi I1 J1 nt' nw' nf' hr' k1 k2 k3
      have hX := okX_cns hok hX0 i
      have h9 : q_cns I (am_u (m_g I 0) 2 0 (q_cl I n x t)) i 9 = m_g I 0 9 := by rw [cns_k (by omega), am_uRow (by omega)]
      have h3 : q_cns I (am_u (m_g I 0) 2 0 (q_cl I n x t)) i 3 0 = m_g I 0 3 0 := by rw [cns_k (by omega), am_uRow (by omega)]
      have eS : q_cns I (am_u (m_g I 0) 2 0 (q_cl I n x t)) (i + 1) = q_cn I (q_cns I (am_u (m_g I 0) 2 0 (q_cl I n x t)) i) := rfl
      rw [e_Tries_luckyTimes_53 ht, am_ifd, if_neg (by rw [nI_leI (by omega) (by omega)]; omega)]
      generalize q_cns I (am_u (m_g I 0) 2 0 (q_cl I n x t)) i = W at hX h9 h3 eS k3
      refine s_T_deal hT hid hnow hH hX h9 h3 k1 k3 ?_
      intro I3 lit g1 g2 g3 g4 g5
      have hX' := okX_cdW hX
      obtain ⟨h, hh12, eh⟩ := hX'.2.1
      have hte : te I (cd_M I W) := cd_te
      rw [e_Tries_luckyTimes_65 ht]
      refine s_T_walk (I := I) (M := cd_M I W) (W := cd_W W) (h0 := h) (j := 12 - h) hte hok g3 (e_cw hte g4) hX'.1 g5 eh (by omega) (by omega) (by rw [show h + (12 - h) - 1 = 11 by omega]) (g1 _ (by omega)) (by rw [g2]; exact k2) ?_
      intro I5 J5 w1 w2 w3 w4 w5
      have r5 : ∀ c, (c < 61 ∨ c = 62 ∨ (72 ≤ c ∧ c ≤ 80) ∨ 93 ≤ c) → I5 c = I c := fun c h => by rw [w1 c (by omega) (by omega) (by omega), g1 c h]
      have hokM := e_ok hte hok
      have ent : m_endX (cd_M I W) (m_Wj (cd_M I W) (m_far I (I 128)) true (cd_W W) h (12 - h)) = q_cn I W := by
        unfold q_cn m_nt
        rw [eh, nI_clamp (by omega)]
      rw [e_Tries_luckyTimes_78 ht]
      refine ct_end (M := cd_M I W) (W := m_Wj (cd_M I W) (m_far I (I 128)) true (cd_W W) h (12 - h)) ht hokM w3 (okX_Wj hokM (e_okX hte hX') _ (by omega)).1 (by rw [r5 rt (by omega), cd_row (by omega)]; exact hT.2.1.2.2.1) ?_ ?_
      · intro s hs
        rw [e_nZ hte] at hs
        rw [r5 (rt + 6) (by omega), cd_row (by omega)]
        exact (hT.2.2.2.2.2.2.2.2.1 s hs).1
      · intro I6 q1 q2 q3
        rw [e_Tries_luckyTimes_86 ht, show nI i + nI 1 = nI (i + 1) from nI_add _ _]
        refine ih (i + 1) (by omega) I6 J5 _ _ _ (Or.inl ⟨rfl, rfl, rfl⟩) ?_ ?_ ?_
        · intro c h; rw [q1 c (by omega), r5 c h]
        · rw [q1 63 (by omega)]; exact w2
        · rw [eS, ← ent]
          exact e_cw (fun a h1 h2 => (hte a h1 h2).symm) q2
  have lp : ∀ k t, 10 = t + k → ∀ I1 J1 o7 o8 nt' nw' nf', i_ref (rt, rs, rd, rl, rx, nt', nw', nf') → (∀ c, (c < 61 ∨ c = 62 ∨ (72 ≤ c ∧ c ≤ 80) ∨ 93 ≤ c) → I1 c = I c) → c_cache I I (rt + 15) (I1 63) (J1 64) → I1 82 2 = q_cl I n x t → 0 < n → am_V (d + 7) Q 96 14 [some (.ref 81), some (.ref rt), some (.int x), some (.int (nI l)), some (.int (nI n)), some (.int (nI (fa_cnt (q_cp I n x l) t))), some (.int (nI t)), am_oi o7, am_oi o8] [] (am_hp N (rt, rs, rd, rl, rx, nt', nw', nf') I1 J1) := by
    intro k
    induction k with
    | zero =>
      intro t ht' I1 J1 o7 o8 nt' nw' nf' k0 k1 k2 k3 _
      obtain rfl : t = 10 := by omega
      rw [e_Tries_luckyTimes_14 ht, am_ifd, if_pos (by decide +kernel)]
      exact hQ I1 J1 nt' nw' nf' k0 ⟨fun a ha => k1 a (by omega), fun a ha => k1 a (by omega)⟩ k2
    | succ k ih =>
      intro t ht' I1 J1 o7 o8 nt' nw' nf' k0 k1 k2 k3 hn0
      rw [e_Tries_luckyTimes_14 ht, am_ifd, if_neg (by rw [nI_leI (by omega) (by omega)]; omega), k3]
      refine ct_become (I := I) hok hnow (fun c h1 h2 => k1 c (by omega)) ?_
      intro I2 b1 b2 b3
      rw [e_Tries_luckyTimes_41 ht]
      refine lp2 t t _ (fa_cnt (q_cp I n x l) t) ?_ hn0 n 0 (by omega) _ _ _ _ _ (Or.inr hn0) ?_ ?_ (cw_2 b2)
      · intro I3 J3 o7 o8 g1 g2 g3
        rw [show nI t + nI 1 = nI (t + 1) from nI_add _ _, ← fa_cnt_succ]
        exact ih (t + 1) (by omega) I3 J3 o7 o8 _ _ _ (ref_t hv.1 ht) g1 g2 g3 hn0
      · intro c h; rw [am_uRow (by omega), b1 c (by omega), k1 c h]
      · rw [am_uRow (by omega), b1 63 (by omega)]; exact k2
  exact lp 10 0 (by omega) _ _ none none nt nw nf hv.1 (fun c h => am_uRow (by omega)) (by rw [am_uRow (by omega)]; exact hv.2.2.2.2.2.2.2.2.2) am_uE hn0
/-- the model goes through a night, by numbers -/
theorem m_night_h {M W : Nat → Nat → Int32} {v : Int32} {F T : Nat → Int32} {nm wk : Nat → Int64} {x1 x2 x3 x4 x5 x6 x7 : Int32} (hok : m_ok M) (hD : m_okD M) (hX : m_okX M W)
    (hQ : ∀ v' nm' wk', am_V (d + 7) Q 271 97 [some (.ref 93), some (.int x1), some (.int x2), some (.int x3), some (.int x4), some (.int x5), some (.int x6), some (.int x7)] [] (am_hp N r (m_M M 1 (m_nt M F true W) v' F T) (m_J J nm' wk'))) :
    am_V (d + 7) Q 271 86 [some (.ref 93), some (.int x1), some (.int x2), some (.int x3), some (.int x4), some (.int x5), some (.int x6), some (.int x7)] [] (am_hp N r (m_M M 1 W v F T) (m_J J nm wk)) := by
  obtain ⟨h0, hh, e⟩ := hX.2.1
  have lp : ∀ k i, 12 = h0 + i + (k + 1) → ∀ v nm wk, am_V (d + 7) Q 271 86 [some (.ref 93), some (.int x1), some (.int x2), some (.int x3), some (.int x4), some (.int x5), some (.int x6), some (.int x7)] [] (am_hp N r (m_M M 1 (am_u (m_Wj M F true W h0 i) 0 0 (nI (h0 + i))) v F T) (m_J J nm wk)) := by
    intro k
    induction k with
    | zero =>
      intro i hi v nm wk
      rw [e_M_chance_86]
      refine s_M_passes (b := true) hok hD (okX_hour (okX_Wj hok hX i (by omega)) (by omega)).1 (by omega) ?_
      intro v' nm' wk'
      rw [e_M_chance_92, s_M_ends hok (by omega), show m_pass M F true (am_u (m_Wj M F true W h0 i) 0 0 (nI (h0 + i))) (m_nZ M) = m_Wj M F true W h0 (i + 1) from rfl, m_end_eq]
      have e0 : m_Wj M F true W h0 (i + 1) 0 0 = nI (h0 + i) := by
        show m_pass M F true (am_u (m_Wj M F true W h0 i) 0 0 (nI (h0 + i))) (m_nZ M) 0 0 = _
        rw [m_pass_k (by omega), am_uE]
      rw [e0, nI_add, if_pos (by rw [nI_leI (by omega) (by omega)]; omega)]
      have := hQ v' nm' wk'
      unfold m_nt at this
      rw [e, nI_clamp (by omega), show 12 - h0 = i + 1 by omega] at this
      exact this
    | succ k ih =>
      intro i hi v nm wk
      rw [e_M_chance_86]
      refine s_M_passes (b := true) hok hD (okX_hour (okX_Wj hok hX i (by omega)) (by omega)).1 (by omega) ?_
      intro v' nm' wk'
      rw [e_M_chance_92, s_M_ends hok (by omega), show m_pass M F true (am_u (m_Wj M F true W h0 i) 0 0 (nI (h0 + i))) (m_nZ M) = m_Wj M F true W h0 (i + 1) from rfl, m_end_eq]
      have e0 : m_Wj M F true W h0 (i + 1) 0 0 = nI (h0 + i) := by
        show m_pass M F true (am_u (m_Wj M F true W h0 i) 0 0 (nI (h0 + i))) (m_nZ M) 0 0 = _
        rw [m_pass_k (by omega), am_uE]
      rw [e0, nI_add, if_neg (by rw [nI_leI (by omega) (by omega)]; omega), e_M_chance_97, am_ifd, m_M0, am_uE, if_pos (by rw [nI_ltI (by omega) (by omega)]; omega)]
      exact ih (i + 1) (by omega) v' nm' wk'
  have := lp (11 - h0) 0 (by omega) v nm wk
  rw [show m_Wj M F true W h0 0 = W from rfl, am_self (by rw [e]; rfl)] at this
  exact this
theorem s_M_drawW {M W : Nat → Nat → Int32} {v : Int32} {F T : Nat → Int32} {k : Nat} (hk : 0 < k) (hk2 : k < 2 ^ 31) : am_D (d + 1) 223 [.ref 93, .int (nI k)] (am_hp N r (m_M M 1 W v F T) J) Q = Q (.int (nI (q_rm (W 2 0) k))) (am_hp N r (m_M M 1 (am_u W 2 0 (m_rnd (W 2 0))) v F T) J) := by
  rw [e_M_draw, am_gn (by rw [nI_eq (by omega) (by omega)]; omega), am_uE, m_M2, show (W 2 0 * nI 1103515245 + nI 12345) &&& nI 2147483647 = m_rnd (W 2 0) from rfl, rm_e hk hk2, m_w2]
/-- the model deals a night -/
theorem s_M_dreamsOn {W : Nat → Nat → Int32} {v : Int32} {F T : Nat → Int32} (hok : m_ok I) (hid : m_idle I) (hH : 0 < m_nH I) (hz : W 0 0 = nI 0) : am_D (d + 2) 270 [.ref 93] (am_hp N r (m_M I 1 W v F T) J) Q = Q .null (am_hp N r (m_M (cd_M I W) 1 (cd_W W) v F T) J) := by
  have hH8 := hok.1.2
  have ei : am_u (am_u (m_M I 1 W v F T) 93 62 (nI 0)) 93 63 (-nI 1) = m_M I 1 W v F T := by
    rw [m_Mu (by omega), m_Mu (by omega), am_self hid.2.2.2.2.2.2.2.1, am_self hid.2.2.2.2.2.2.2.2]
  have h3l := rm_lt (x := W 2 0) (k := 3) (by omega)
  have e95 : ∀ (M W : Nat → Nat → Int32), te I M → m_M M 1 W v F T 95 0 = nI (m_nH I) := fun M W h => by rw [m_Mo (by omega), h 95 (by omega) (by omega)]; exact hok.1.1
  rw [e_M_dreamsOn, ei, s_M_drawW (by omega) (by omega), am_asIe, e_M_dreamsOn_15, am_ifn, am_ifn, am_ifn]
  by_cases c1 : q_rm (W 2 0) 3 = 0
  · have eM : cd_M I W = am_u I 93 62 (nI 1) := by unfold cd_M; rw [if_pos hz, if_pos c1]
    have eW : cd_W W = am_u W 2 0 (m_rnd (W 2 0)) := by unfold cd_W; rw [if_pos hz, if_neg (by omega)]
    rw [if_pos (by rw [c1]), if_neg (by rw [nI_eq (by omega) (by omega)]; omega), m_Mu (by omega), eM, eW]
  · rw [if_neg (by rw [nI_eq (by omega) (by omega)]; exact c1)]
    by_cases c2 : q_rm (W 2 0) 3 = 1
    · have eM : cd_M I W = am_u I 93 63 (nI (q_rm (m_rnd (W 2 0)) (m_nH I))) := by unfold cd_M; rw [if_pos hz, if_neg c1, if_pos c2]
      have eW : cd_W W = am_u (am_u W 2 0 (m_rnd (W 2 0))) 2 0 (m_rnd (m_rnd (W 2 0))) := by unfold cd_W; rw [if_pos hz, if_pos c2, am_uu]
      rw [if_pos (by rw [c2]), am_ifd, e95 I _ (fun _ _ _ => rfl), if_neg (by rw [nI_leI (by omega) (by omega)]; omega), s_M_drawW hH (by omega), am_asIe, e_M_dreamsOn_50, m_Mu (by omega), eM, eW, am_uE]
    · have eM : cd_M I W = I := by unfold cd_M; rw [if_pos hz, if_neg c1, if_neg c2]
      have eW : cd_W W = am_u W 2 0 (m_rnd (W 2 0)) := by unfold cd_W; rw [if_pos hz, if_neg c2]
      rw [if_neg (by rw [nI_eq (by omega) (by omega)]; exact c2), eM, eW]
theorem m_chance {l n : Nat} {x : Int32} (hv : i_inv r I J) (hl : l < m_nL I) (hn : n < 10) (hQ : ∀ I' J', mfr I I' → J' 64 = J 64 → Q (.int (nI (fa_cnt (q_cp I n x l) 10))) (am_hp N r I' J')) :
    am_D (d + 7) 210 [.ref 93] (am_hp N r I J) (fun v h => am_V (d + 7) Q 271 34 [some (.ref 93), some (.int x), some (.int (nI l)), some (.int (nI n)), none, none, none, none] [] h) := by
  have hok : m_ok I := hv.2.1.1.2.1
  have hst := hv.2.1.1.2.2.1
  have hid := hv.2.2.1
  have hX0 := hv.2.2.2.1.2.2
  have hL8 := hok.2.2.2.1.2
  have hZ5 := hok.2.2.1.2
  have hH8 := hok.1.2
  have hH : 0 < m_nH I := by
    obtain ⟨s, hs, _⟩ := hv.2.1.1.2.2.2 l hl
    obtain ⟨h, hh, _⟩ := hok.2.2.2.2.2.1 s hs
    omega
  have hD : ∀ W, m_okD (cd_M I W) := by
    intro W s hs
    rw [e_nZ cd_te] at hs
    rw [cd_dream hid (by omega)]
    obtain ⟨_, _, _, _, h, hh, e⟩ := hv.2.1.2.2.2.2.2.2.2.2.1 s hs
    exact ⟨h, by omega, e⟩
  have bk : ∀ W V v F T, am_u (am_u (m_M (cd_M I W) 1 V v F T) 93 62 (nI 0)) 93 63 (-nI 1) = m_M I 1 V v F T := by
    intro W V v F T
    rw [m_Mu (by omega), m_Mu (by omega)]
    congr 1
    funext a j
    by_cases c3 : a = 93 ∧ j = 63
    · rw [c3.1, c3.2, am_uE, hid.2.2.2.2.2.2.2.2]
    rw [am_uN (by omega)]
    by_cases c2 : a = 93 ∧ j = 62
    · rw [c2.1, c2.2, am_uE, hid.2.2.2.2.2.2.2.1]
    rw [am_uN (by omega)]
    by_cases c : a = 93
    · subst c; exact cd_o (by omega) (by omega)
    · rw [cd_row c]
  rw [m_idM (n := 1), s_M_layFar hok (m_okS_of hst), e_M_chance_34]
  -- the nights
  have lp2 : ∀ W0, m_okX I W0 → ∀ x4 x5 x6, (∀ v nm wk, am_V (d + 7) Q 271 67 [some (.ref 93), some (.int x), some (.int (nI l)), some (.int (nI n)), some (.int x4), some (.int x5), some (.int x6), some (.int (nI n))] [] (am_hp N r (m_M I 1 (q_cns I W0 n) v (m_far I (I 128)) (I 129)) (m_J J nm wk))) →
      ∀ k i, n = i + k → ∀ v nm wk, am_V (d + 7) Q 271 67 [some (.ref 93), some (.int x), some (.int (nI l)), some (.int (nI n)), some (.int x4), some (.int x5), some (.int x6), some (.int (nI i))] [] (am_hp N r (m_M I 1 (q_cns I W0 i) v (m_far I (I 128)) (I 129)) (m_J J nm wk)) := by
    intro W0 hW0 x4 x5 x6 hK k
    induction k with
    | zero =>
      intro i hi v nm wk
      obtain rfl : i = n := by omega
      exact hK v nm wk
    | succ k ih =>
      intro i hi v nm wk
      have hX := okX_cns hok hW0 i
      have eS : q_cns I W0 (i + 1) = q_cn I (q_cns I W0 i) := rfl
      generalize q_cns I W0 i = W at hX eS ⊢
      have go : am_V (d + 7) Q 271 86 [some (.ref 93), some (.int x), some (.int (nI l)), some (.int (nI n)), some (.int x4), some (.int x5), some (.int x6), some (.int (nI i))] [] (am_hp N r (m_M (cd_M I W) 1 (cd_W W) v (m_far I (I 128)) (I 129)) (m_J J nm wk)) := by
        refine m_night_h (e_ok cd_te hok) (hD W) (e_okX cd_te (okX_cdW hX)) ?_
        intro v' nm' wk'
        rw [e_M_chance_97, am_ifd, m_M0, nt_0, if_neg (by decide +kernel), bk, show nI i + nI 1 = nI (i + 1) from nI_add _ _]
        have := ih (i + 1) (by omega) v' nm' wk'
        rw [eS] at this
        exact this
      rw [e_M_chance_67, am_ifd, if_neg (by rw [nI_leI (by omega) (by omega)]; omega), am_ifn, m_M0]
      by_cases hz : W 0 0 = nI 0
      · rw [if_pos hz, s_M_dreamsOn hok hid hH hz]
        exact go
      · rw [if_neg hz]
        have eM : cd_M I W = I := by unfold cd_M; rw [if_neg hz]
        have eW : cd_W W = W := by unfold cd_W; rw [if_neg hz]
        rw [eM, eW] at go
        exact go
  have lp : ∀ k t, 10 = t + k → ∀ W v o7 nm wk, am_V (d + 7) Q 271 43 [some (.ref 93), some (.int x), some (.int (nI l)), some (.int (nI n)), some (.int (q_cl I n x t)), some (.int (nI (fa_cnt (q_cp I n x l) t))), some (.int (nI t)), am_oi o7] [] (am_hp N r (m_M I 1 W v (m_far I (I 128)) (I 129)) (m_J J nm wk)) := by
    intro k
    induction k with
    | zero =>
      intro t ht' W v o7 nm wk
      obtain rfl : t = 10 := by omega
      rw [e_M_chance_43, am_ifd, if_pos (by decide +kernel)]
      exact hQ _ _ mfr_M rfl
    | succ k ih =>
      intro t ht' W v o7 nm wk
      rw [e_M_chance_43, am_ifd, if_neg (by rw [nI_leI (by omega) (by omega)]; omega), s_M_copies (by omega) (by omega) (by omega), e_M_chance_56, m_w2]
      refine lp2 (am_u (m_g I 0) 2 0 (q_cl I n x t)) (okX_2 hX0) _ _ _ ?_ n 0 (by omega) v nm wk
      intro v' nm' wk'
      rw [e_M_chance_67, am_ifd, if_pos (by rw [nI_leI (by omega) (by omega)]; omega), nI_add, am_gI (by omega) (by omega), nI_clamp (by omega), am_ifn, show 8 + l = 8 * 1 + l by omega, m_M6 (by omega), m_M2, show nI t + nI 1 = nI (t + 1) from nI_add _ _, nI_add, nI_add]
      have hi := fun o7 => ih (t + 1) (by omega) (q_cns I (am_u (m_g I 0) 2 0 (q_cl I n x t)) n) v' o7 nm' wk'
      rw [fa_cnt_succ] at hi
      by_cases c : q_cns I (am_u (m_g I 0) 2 0 (q_cl I n x t)) n 6 l = nI 2
      · rw [if_pos c]
        rw [show q_cp I n x l t = true from decide_eq_true c] at hi
        exact hi _
      · rw [if_neg c]
        rw [show q_cp I n x l t = false from decide_eq_false c] at hi
        exact hi _
  exact lp 10 0 (by omega) _ _ none _ _
theorem g_qcp {I' : Nat → Nat → Int32} (h : m_eq I I') {n : Nat} {x : Int32} {l : Nat} : q_cp (am_u I' 93 0 (nI 0)) n x l = q_cp I n x l := by
  have hr : ∀ a, 94 ≤ a → am_u I' 93 0 (nI 0) a = I a := fun a ha => by rw [am_uRow (by omega), h a (by omega)]
  have h93 : ∀ k, k ≠ 0 → am_u I' 93 0 (nI 0) 93 k = I 93 k := fun k hk => by rw [am_uN (by omega), h 93 (by omega)]
  have hte : te I (am_u I' 93 0 (nI 0)) := fun a h1 h2 => hr a (by omega)
  have e2 : m_e2 I (am_u I' 93 0 (nI 0)) := ⟨fun a h1 h2 => hr a (by omega), fun k h1 h2 => h93 k (by omega)⟩
  have k2 : ∀ W, m_e2 (cd_M I W) (cd_M (am_u I' 93 0 (nI 0)) W) := by
    intro W
    refine ⟨fun a h1 h2 => ?_, fun k h1 h2 => ?_⟩
    · rw [cd_row (by omega), cd_row (by omega), hr a (by omega)]
    · by_cases c : k = 62 ∨ k = 63
      · unfold cd_M
        rw [e_nH hte]
        split
        · split
          · by_cases c2 : k = 62
            · subst c2; rw [am_uE, am_uE]
            · rw [am_uN (by omega), h93 k (by omega), am_uN (by omega)]
          · split
            · by_cases c2 : k = 63
              · subst c2; rw [am_uE, am_uE]
              · rw [am_uN (by omega), h93 k (by omega), am_uN (by omega)]
            · exact h93 k (by omega)
        · exact h93 k (by omega)
      · rw [cd_o (by omega) (by omega), cd_o (by omega) (by omega), h93 k (by omega)]
  have ecn : ∀ W, q_cn (am_u I' 93 0 (nI 0)) W = q_cn I W := by
    intro W
    unfold q_cn m_nt
    rw [k_far e2, hr 128 (by omega), k_Wj (k2 W)]
    unfold m_endX
    rw [k_endL (k2 W), k_nZ (k2 W)]
  have ecns : ∀ W k, q_cns (am_u I' 93 0 (nI 0)) W k = q_cns I W k := by
    intro W k
    induction k with
    | zero => rfl
    | succ k ih => rw [q_cns, q_cns, ih, ecn]
  have eg : m_g (am_u I' 93 0 (nI 0)) 0 = m_g I 0 := g_row (fun a h1 h2 => hr a (by omega))
  have ecl : ∀ t, q_cl (am_u I' 93 0 (nI 0)) n x t = q_cl I n x t := by
    intro t
    induction t with
    | zero => rfl
    | succ t ih => rw [q_cl, q_cl, ih, eg, ecns]
  funext t
  unfold q_cp
  rw [ecl, eg, ecns]
theorem op_chance {a b c : Int32} (hv : i_inv r I J) : op2 (d + 12) N 143 271 [.int a, .int b, .int c] r I J := by
  obtain ⟨rt, rs, rd, rl, rx, nt, nw, nf⟩ := r
  obtain ⟨ht, hok, eH, eZ, eL, h0, h12, e49, e118⟩ := iv_ref hv
  have hL8 := hok.2.2.2.1.2
  by_cases ca : a < nI 0
  · refine op2_q (v := .int (-nI 1)) hv (iv_ans hv ?_) ?_
    · intro Q hQ
      rw [e_S_chance, am_ifd, if_pos ca]
      exact hQ
    · intro r' I' J' hv' he
      refine iv_mans ?_
      intro Q hQ
      rw [e_M_chance, am_ifd, if_pos ca]
      exact hQ
  by_cases cb : nI 0 ≤ b ∧ b < nI (m_nL I)
  · by_cases cc : c < nI 1
    · refine op2_q (v := .int (-nI 1)) hv (iv_ans hv ?_) ?_
      · intro Q hQ
        rw [e_S_chance, am_ifd, if_neg ca, s_S_isLetter ht, eL, bo_t cb, am_asIe, e_S_chance_9 ht, am_ifd, if_neg n10, am_ifd, if_pos cc]
        exact hQ
      · intro r' I' J' hv' he
        refine iv_mans ?_
        intro Q hQ
        have e95 : ∀ k, am_u I' 93 0 (nI 0) 95 k = I 95 k := fun k => by rw [am_uN (by omega), he 95 (by omega)]
        rw [e_M_chance, am_ifd, if_neg ca, s_M_isLetter, e95, hok.2.2.2.1.1, bo_t cb, am_asIe, e_M_chance_14, am_ifd, if_neg n10, am_ifd, if_pos cc]
        exact hQ
    · by_cases cd : c ≤ nI 9
      · obtain ⟨l, hl, rfl⟩ := (am_irng (k := 0) rfl (by omega)).mp cb
        obtain ⟨n, hn, hn0, rfl⟩ : ∃ n, n < 10 ∧ 0 < n ∧ c = nI n := by
          rw [fa_lt, nI_toInt (by omega)] at cc
          rw [fa_le, nI_toInt (by omega)] at cd
          refine ⟨c.toInt.toNat, by omega, by omega, ?_⟩
          rw [fa_eq, nI_toInt (by omega)]
          omega
        refine op2_q (v := .int (nI (fa_cnt (q_cp I n a l) 10))) hv ?_ ?_
        · intro Q hQ
          rw [e_S_chance, am_ifd, if_neg ca, s_S_isLetter ht, eL, bo_t cb, am_asIe, e_S_chance_9 ht, am_ifd, if_neg n10, am_ifd, if_neg cc, am_ifd, if_pos cd]
          refine c_lucky hv hl hn hn0 ?_
          intro I2 J2 nt' nw' nf' g0 g1 g2
          rw [am_asIe, e_S_chance_39]
          exact hQ _ _ _ g1 g0 rfl g2
        · intro r' I' J' hv' he Q hQ
          have hv0 := inv_mfr (J' := J') hv' (th0_mfr (x := nI 0)) rfl
          have hte : te I (am_u I' 93 0 (nI 0)) := fun a h1 h2 => by rw [am_uRow (by omega), he a (by omega)]
          have e95 : ∀ k, am_u I' 93 0 (nI 0) 95 k = I 95 k := fun k => by rw [am_uN (by omega), he 95 (by omega)]
          rw [e_M_chance, am_ifd, if_neg ca, s_M_isLetter, e95, hok.2.2.2.1.1, bo_t cb, am_asIe, e_M_chance_14, am_ifd, if_neg n10, am_ifd, if_neg cc, am_ifd, if_pos cd]
          refine m_chance hv0 (by rw [e_nL hte]; exact hl) hn ?_
          intro I2 J2 g1 g2
          rw [g_qcp he]
          exact hQ _ _ (mfr_trans th0_mfr g1) g2
      · refine op2_q (v := .int (-nI 1)) hv (iv_ans hv ?_) ?_
        · intro Q hQ
          rw [e_S_chance, am_ifd, if_neg ca, s_S_isLetter ht, eL, bo_t cb, am_asIe, e_S_chance_9 ht, am_ifd, if_neg n10, am_ifd, if_neg cc, am_ifd, if_neg cd]
          exact hQ
        · intro r' I' J' hv' he
          refine iv_mans ?_
          intro Q hQ
          have e95 : ∀ k, am_u I' 93 0 (nI 0) 95 k = I 95 k := fun k => by rw [am_uN (by omega), he 95 (by omega)]
          rw [e_M_chance, am_ifd, if_neg ca, s_M_isLetter, e95, hok.2.2.2.1.1, bo_t cb, am_asIe, e_M_chance_14, am_ifd, if_neg n10, am_ifd, if_neg cc, am_ifd, if_neg cd]
          exact hQ
  · refine op2_q (v := .int (-nI 1)) hv (iv_ans hv ?_) ?_
    · intro Q hQ
      rw [e_S_chance, am_ifd, if_neg ca, s_S_isLetter ht, eL, bo_f cb, am_asIe, e_S_chance_9 ht, am_ifd, if_pos rfl]
      exact hQ
    · intro r' I' J' hv' he
      refine iv_mans ?_
      intro Q hQ
      have e95 : ∀ k, am_u I' 93 0 (nI 0) 95 k = I 95 k := fun k => by rw [am_uN (by omega), he 95 (by omega)]
      rw [e_M_chance, am_ifd, if_neg ca, s_M_isLetter, e95, hok.2.2.2.1.1, bo_f cb, am_asIe, e_M_chance_14, am_ifd, if_pos rfl]
      exact hQ
end
