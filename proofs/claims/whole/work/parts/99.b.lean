/-! ===== L3: dreamt, tells answer alike ===== -/
/-- the hour of the most, the first of several -/
def q_bh (u : Nat → Nat) : Nat → Nat
  | 0 => 0
  | j + 1 => if u (q_bh u j) < u (j + 1) then j + 1 else q_bh u j
theorem q_bh_le {u : Nat → Nat} : ∀ j, q_bh u j ≤ j
  | 0 => Nat.le_refl _
  | j + 1 => by
    have := q_bh_le (u := u) j
    unfold q_bh
    split <;> omega
theorem am_if1n {b : Bool} {p q : Prop} : am_if (!(decide (nI b.toNat = nI 1))) p q = if b = true then q else p := by
  rw [am_ifn]
  cases b
  · exact (if_neg (show ¬ nI false.toNat = nI 1 by decide)).trans (if_neg (by decide)).symm
  · exact (if_pos (show nI true.toNat = nI 1 from rfl)).trans (if_pos rfl).symm
section
variable {d N : Nat} {Q : Value → am_H → Prop} {r : am_rho} {I : Nat → Nat → Int32} {J : Nat → Nat → Int64}
def q_un (I : Nat → Nat → Int32) (s h : Nat) : Nat := fa_cnt (bt (q_pl I s h (m_nH I))) 8
theorem q_un8 {s h : Nat} : q_un I s h ≤ 8 := fa_cnt_le _ 8
theorem pl_hi {s h t : Nat} (hT : t_rel I t) (hs : s < m_nZ I) : ∀ n, ∀ i, 8 ≤ i → i < 32 → bt (q_pl I s h n) i = false := by
  have hH8 := hT.1.2.1.1.2
  intro n
  induction n with
  | zero => intro i _ _; exact b_z i
  | succ n ih =>
    intro i h1 h2
    have e : q_pl I s h (n + 1) = q_pl I s h n ||| (if q_fit I s n then nI 1 <<< (q_dt I s n h &&& nI 31) else nI 0) := by
      unfold q_pl; rw [am_or_S, Nat.zero_add]
    rw [e, b_or, ih i h1 h2]
    obtain ⟨z, hz, ez⟩ := dr_house (e := n) (h := h) hT hs
    split
    · rw [ez, am_pwe, b_pw (by omega) h2, decide_eq_false (by omega)]; rfl
    · rw [b_z]; rfl
theorem s_T_unlike {h : Nat} {s t : Nat} {I1 : Nat → Nat → Int32} (hT : t_rel I t) (hs : s < m_nZ I) (h89 : ∀ h, h < 12 → I1 89 h = q_pl I s h (m_nH I)) (hh : h < 12) : am_D (d + 2) 89 [.ref 81, .int (nI h)] (am_hp N r I1 J) Q = Q (.int (nI (q_un I s h))) (am_hp N r I1 J) := by
  rw [e_Tries_unlikeHouses, am_gI (by omega) (by omega), nI_clamp (by omega), h89 h hh, s_J_bitCount (pl_hi hT hs _), am_asIe, e_Tries_unlikeHouses_9]
  rfl
theorem s_T_telling {s t : Nat} {I1 : Nat → Nat → Int32} (hT : t_rel I t) (hs : s < m_nZ I) (h89 : ∀ h, h < 12 → I1 89 h = q_pl I s h (m_nH I)) : am_D (d + 3) 88 [.ref 81] (am_hp N r I1 J) Q = Q (.int (nI (q_bh (q_un I s) 11))) (am_hp N r I1 J) := by
  have lp := am_up (P := fun j => am_V (d + 2) Q 88 4 [some (.ref 81), some (.int (nI (q_bh (q_un I s) j))), some (.int (nI (j + 1)))] [] (am_hp N r I1 J)) (R := Q (.int (nI (q_bh (q_un I s) 11))) (am_hp N r I1 J)) 11
    (by
      try dsimp only
      rw [e_Tries_tellingHour_4, am_ifd, if_pos (by decide +kernel)])
    (by
      intro j hj
      have hb := q_bh_le (u := q_un I s) j
      have u1 := q_un8 (I := I) (s := s) (h := q_bh (q_un I s) j)
      have u2 := q_un8 (I := I) (s := s) (h := j + 1)
      try dsimp only
      rw [e_Tries_tellingHour_4, am_ifd, if_neg (by rw [nI_leI (by omega) (by omega)]; omega), s_T_unlike hT hs h89 (by omega), am_asIe, e_Tries_tellingHour_15, s_T_unlike hT hs h89 (by omega), am_asIe, e_Tries_tellingHour_20, am_ifd, show nI (j + 1) + nI 1 = nI (j + 1 + 1) from nI_add _ _, q_bh]
      by_cases c : q_un I s (q_bh (q_un I s) j) < q_un I s (j + 1)
      · rw [if_neg (by rw [nI_leI (by omega) (by omega)]; omega), if_pos c]
      · rw [if_pos (by rw [nI_leI (by omega) (by omega)]; omega), if_neg c])
  rw [e_Tries_tellingHour]
  exact lp 0 (by omega)
/-- the model's count of houses at an hour, its choice of the hour -/
theorem s_M_tellsL {s x2 t : Nat} {M : Nat → Nat → Int32} (hT : t_rel I t) (hs : s < m_nZ I) (hn : M 95 0 = nI (m_nH I)) (h137 : ∀ e h, e < m_nH I → h < 12 → M 137 (12 * e + h) = q_dt I s e h) (hx2 : x2 < 2) :
    am_V (d + 1) Q 258 46 [some (.ref 93), some (.int (nI s)), some (.int (nI x2)), some (.int (am_mk1 (q_fit I s) (m_nH I))), some (.int (nI 0)), some (.int (nI 0)), some (.int (nI 0)), am_oi none, am_oi none] [] (am_hp N r M J) = Q (.int (if x2 = 0 then nI (q_bh (q_un I s) 11) else nI (q_un I s (q_bh (q_un I s) 11)))) (am_hp N r M J) := by
  have hH8 := hT.1.2.1.1.2
  have inn : ∀ x4 x5 h, h < 12 → ∀ k e, m_nH I = e + k → am_V (d + 1) Q 258 59 [some (.ref 93), some (.int (nI s)), some (.int (nI x2)), some (.int (am_mk1 (q_fit I s) (m_nH I))), some (.int x4), some (.int x5), some (.int (nI h)), some (.int (q_pl I s h e)), some (.int (nI e))] [] (am_hp N r M J) = am_V (d + 1) Q 258 115 [some (.ref 93), some (.int (nI s)), some (.int (nI x2)), some (.int (am_mk1 (q_fit I s) (m_nH I))), some (.int x4), some (.int x5), some (.int (nI h)), some (.int (q_pl I s h (m_nH I))), some (.int (nI (m_nH I)))] [.int (nI (q_un I s h))] (am_hp N r M J) := by
    intro x4 x5 h hh k
    induction k with
    | zero =>
      intro e he
      obtain rfl : e = m_nH I := by omega
      rw [e_M_tells_59, am_ifd, hn, if_pos (by rw [nI_leI (by omega) (by omega)]; omega), s_M_bitsOf, am_asIe]
      rfl
    | succ k ih =>
      intro e he
      have eS : q_pl I s h (e + 1) = q_pl I s h e ||| (if q_fit I s e then nI 1 <<< (q_dt I s e h &&& nI 31) else nI 0) := by
        unfold q_pl; rw [am_or_S, Nat.zero_add]
      rw [e_M_tells_59, am_ifd, hn, if_neg (by rw [nI_leI (by omega) (by omega)]; omega), b_v (by omega), am_if1n, b_mk (by omega) (by omega), decide_eq_true (show e < m_nH I by omega), Bool.true_and, am_mulN, nI_add, am_gI (by omega) (by omega), nI_clamp (by omega), h137 e h (by omega) hh, show nI e + nI 1 = nI (e + 1) from nI_add _ _, ← ih (e + 1) (by omega), eS]
      cases q_fit I s e with
      | false => rw [if_neg (by decide), if_neg (by decide)]
      | true => rw [if_pos rfl, if_pos rfl]
  have pl0 : ∀ h, q_pl I s h 0 = nI 0 := fun _ => rfl
  have st : ∀ x4 x5 h o7 o8, h < 12 → x5 ≤ 8 → am_V (d + 1) Q 258 46 [some (.ref 93), some (.int (nI s)), some (.int (nI x2)), some (.int (am_mk1 (q_fit I s) (m_nH I))), some (.int (nI x4)), some (.int (nI x5)), some (.int (nI h)), am_oi o7, am_oi o8] [] (am_hp N r M J) = am_V (d + 1) Q 258 46 [some (.ref 93), some (.int (nI s)), some (.int (nI x2)), some (.int (am_mk1 (q_fit I s) (m_nH I))), some (.int (nI (if x5 < q_un I s h then h else x4))), some (.int (nI (if x5 < q_un I s h then q_un I s h else x5))), some (.int (nI (h + 1))), am_oi (some (q_pl I s h (m_nH I))), am_oi (some (nI (m_nH I)))] [] (am_hp N r M J) := by
    intro x4 x5 h o7 o8 hh hx5
    have u1 := q_un8 (I := I) (s := s) (h := h)
    have := inn (nI x4) (nI x5) h hh (m_nH I) 0 (by omega)
    rw [pl0] at this
    rw [e_M_tells_46, am_ifd, if_neg (by rw [nI_leI (by omega) (by omega)]; omega), this, e_M_tells_115, am_ifd, show nI h + nI 1 = nI (h + 1) from nI_add _ _]
    by_cases c : x5 < q_un I s h
    · rw [if_pos (by rw [nI_ltI (by omega) (by omega)]; exact c), if_pos c, if_pos c, s_M_bitsOf, am_asIe, e_M_tells_128, show nI h + nI 1 = nI (h + 1) from nI_add _ _]
      rfl
    · rw [if_neg (by rw [nI_ltI (by omega) (by omega)]; exact c), if_neg c, if_neg c]
  have lp := am_up (P := fun j => am_V (d + 1) Q 258 46 [some (.ref 93), some (.int (nI s)), some (.int (nI x2)), some (.int (am_mk1 (q_fit I s) (m_nH I))), some (.int (nI (q_bh (q_un I s) j))), some (.int (nI (q_un I s (q_bh (q_un I s) j)))), some (.int (nI (j + 1))), am_oi (some (q_pl I s j (m_nH I))), am_oi (some (nI (m_nH I)))] [] (am_hp N r M J)) (R := Q (.int (if x2 = 0 then nI (q_bh (q_un I s) 11) else nI (q_un I s (q_bh (q_un I s) 11)))) (am_hp N r M J)) 11
    (by
      try dsimp only
      rw [e_M_tells_46, am_ifd, if_pos (by decide +kernel), am_ifn]
      by_cases c : x2 = 0
      · rw [if_pos (by rw [c]), if_pos c]
      · rw [if_neg (by rw [nI_eq (by omega) (by omega)]; exact c), if_neg c])
    (by
      intro j hj
      try dsimp only
      rw [st _ _ (j + 1) _ _ (by omega) q_un8, q_bh]
      by_cases c : q_un I s (q_bh (q_un I s) j) < q_un I s (j + 1)
      · simp only [if_pos c]
      · simp only [if_neg c])
  refine (st 0 0 0 none none (by omega) (by omega)).trans ?_
  have l0 := lp 0 (by omega)
  have e1 : (if 0 < q_un I s 0 then 0 else 0) = 0 := by split <;> rfl
  have e2 : (if 0 < q_un I s 0 then q_un I s 0 else 0) = q_un I s 0 := by split <;> omega
  rw [e1, e2]
  exact l0
/-- the dreams are the same for both -/
theorem g_dr {I' : Nat → Nat → Int32} (h : m_eq I I') {s : Nat} : (∀ e k, q_dt (am_u I' 93 0 (nI 0)) s e k = q_dt I s e k) ∧ (∀ e, q_fit (am_u I' 93 0 (nI 0)) s e = q_fit I s e) ∧ (∀ k n, q_pl (am_u I' 93 0 (nI 0)) s k n = q_pl I s k n) := by
  have hr : ∀ a, 94 ≤ a → am_u I' 93 0 (nI 0) a = I a := fun a ha => by rw [am_uRow (by omega), h a (by omega)]
  have h93 : ∀ k, k ≠ 0 → am_u I' 93 0 (nI 0) 93 k = I 93 k := fun k hk => by rw [am_uN (by omega), h 93 (by omega)]
  have hte : te I (am_u I' 93 0 (nI 0)) := fun a h1 h2 => hr a (by omega)
  have k2 : ∀ e, m_e2 (dr_M I s e) (dr_M (am_u I' 93 0 (nI 0)) s e) := by
    intro e
    refine ⟨fun a h1 h2 => ?_, fun k h1 h2 => ?_⟩
    · rw [dr_row (by omega), dr_row (by omega), hr a (by omega)]
    · by_cases c9 : k = 59
      · subst c9; rw [dr_59, dr_59]
      · by_cases c0 : k = 60
        · subst c0; rw [dr_60, dr_60]
        · rw [dr_o c9 c0, dr_o c9 c0, h93 k (by omega)]
  have eW : dr_W (am_u I' 93 0 (nI 0)) = dr_W I := by
    unfold dr_W
    rw [g_row (I := I) (fun a h1 h2 => hr a (by omega))]
    funext f k
    unfold m_start
    rw [e_nZ hte, e_nL hte, e_nH hte, hte 95 (by omega) (by omega), hte 104 (by omega) (by omega), hte 107 (by omega) (by omega), hte 97 (by omega) (by omega)]
  have a1 : ∀ e k, q_dt (am_u I' 93 0 (nI 0)) s e k = q_dt I s e k := by
    intro e k
    unfold q_dt
    rw [k_Wj (k2 e), k_far (k2 e), hr 128 (by omega), eW]
  have ekn : q_kn (am_u I' 93 0 (nI 0)) = q_kn I := by unfold q_kn; rw [h93 70 (by omega), h93 69 (by omega)]
  have a2 : ∀ e, q_fit (am_u I' 93 0 (nI 0)) s e = q_fit I s e := by
    intro e
    have : q_bad (am_u I' 93 0 (nI 0)) s e = q_bad I s e := by
      funext k
      unfold q_bad q_st
      rw [ekn, hr 135 (by omega), hr 133 (by omega), hr 132 (by omega), hr 134 (by omega), a1]
    unfold q_fit
    rw [this, ekn]
  refine ⟨a1, a2, ?_⟩
  intro k n
  unfold q_pl
  have : (fun d => q_fit (am_u I' 93 0 (nI 0)) s d) = fun d => q_fit I s d := funext a2
  have t2 : (fun d => nI 1 <<< (q_dt (am_u I' 93 0 (nI 0)) s d k &&& nI 31)) = fun d => nI 1 <<< (q_dt I s d k &&& nI 31) := funext fun d => by rw [a1]
  rw [this, t2]
theorem op_dreamt {a : Int32} (hv : i_inv r I J) : op2 (d + 12) N 136 257 [.int a] r I J := by
  obtain ⟨rt, rs, rd, rl, rx, nt, nw, nf⟩ := r
  obtain ⟨ht, hok, eH, eZ, eL, h0, h12, e49, e118⟩ := iv_ref hv
  have hZ5 := hok.2.2.1.2
  by_cases ca : nI 0 ≤ a ∧ a < nI (m_nZ I)
  · obtain ⟨s, hs, rfl⟩ := (am_irng (k := 0) rfl (by omega)).mp ca
    refine op2_q (v := .int (am_mk1 (q_fit I s) (m_nH I))) hv ?_ ?_
    · intro Q hQ
      rw [e_S_dreamt, s_S_isSleeper ht, eZ, bo_t ca, am_asIe, e_S_dreamt_5 ht, am_ifd, if_neg n10]
      refine s_T_dreams hv hs ?_
      intro I2 J2 nt' nw' nf' g0 g1 g2 g3
      rw [am_asIe, e_S_dreamt_20]
      exact hQ _ _ _ g1 g0 rfl g2
    · intro r' I' J' hv' he Q hQ
      have hv0 := inv_mfr (J' := J') hv' (th0_mfr (x := nI 0)) rfl
      have hte : te I (am_u I' 93 0 (nI 0)) := fun a h1 h2 => by rw [am_uRow (by omega), he a (by omega)]
      have e95 : ∀ k, am_u I' 93 0 (nI 0) 95 k = I 95 k := fun k => by rw [am_uN (by omega), he 95 (by omega)]
      rw [e_M_dreamt, s_M_isSleeper, e95, hok.2.2.1.1, bo_t ca, am_asIe, e_M_dreamt_10, am_ifd, if_neg n10]
      refine s_M_layDreamt hv0 (by rw [e_nZ hte]; exact hs) ?_
      intro M J2 g1 g2 g3
      rw [am_asIe, e_M_dreamt_18, e_nH hte, am_mkc (P' := q_fit I s) (fun k _ => (g_dr he).2.1 k)]
      exact hQ _ _ (mfr_trans th0_mfr g1) g2
  · refine op2_q (v := .int (-nI 1)) hv (iv_ans hv ?_) ?_
    · intro Q hQ
      rw [e_S_dreamt, s_S_isSleeper ht, eZ, bo_f ca, am_asIe, e_S_dreamt_5 ht, am_ifd, if_pos rfl]
      exact hQ
    · intro r' I' J' hv' he
      refine iv_mans ?_
      intro Q hQ
      have e95 : ∀ k, am_u I' 93 0 (nI 0) 95 k = I 95 k := fun k => by rw [am_uN (by omega), he 95 (by omega)]
      rw [e_M_dreamt, s_M_isSleeper, e95, hok.2.2.1.1, bo_f ca, am_asIe, e_M_dreamt_10, am_ifd, if_pos rfl]
      exact hQ
theorem op_tells {a b : Int32} (hv : i_inv r I J) : op2 (d + 12) N 137 258 [.int a, .int b] r I J := by
  obtain ⟨rt, rs, rd, rl, rx, nt, nw, nf⟩ := r
  obtain ⟨ht, hok, eH, eZ, eL, h0, h12, e49, e118⟩ := iv_ref hv
  have hZ5 := hok.2.2.1.2
  have hT := hv.2.1
  by_cases ca : nI 0 ≤ a ∧ a < nI (m_nZ I)
  · by_cases cb : b < nI 0
    · refine op2_q (v := .int (-nI 1)) hv (iv_ans hv ?_) ?_
      · intro Q hQ
        rw [e_S_tells, s_S_isSleeper ht, eZ, bo_t ca, am_asIe, e_S_tells_5 ht, am_ifd, if_neg n10, am_ifd, if_pos cb]
        exact hQ
      · intro r' I' J' hv' he
        refine iv_mans ?_
        intro Q hQ
        have e95 : ∀ k, am_u I' 93 0 (nI 0) 95 k = I 95 k := fun k => by rw [am_uN (by omega), he 95 (by omega)]
        rw [e_M_tells, s_M_isSleeper, e95, hok.2.2.1.1, bo_t ca, am_asIe, e_M_tells_10, am_ifd, if_neg n10, am_ifd, if_pos cb]
        exact hQ
    · by_cases cb2 : b ≤ nI 1
      · obtain ⟨s, hs, rfl⟩ := (am_irng (k := 0) rfl (by omega)).mp ca
        obtain ⟨x2, hx2, rfl⟩ : ∃ x2, x2 < 2 ∧ b = nI x2 := by
          refine (am_irng (k := 0) (a := nI 2) rfl (by omega)).mp ⟨fa_of_nlt cb, ?_⟩
          rw [fa_le, nI_toInt (by omega)] at cb2
          rw [fa_lt, nI_toInt (by omega)]
          omega
        refine op2_q (v := .int (if am_mk1 (q_fit I s) (m_nH I) = nI 0 then -nI 2 else if x2 = 0 then nI (q_bh (q_un I s) 11) else nI (q_un I s (q_bh (q_un I s) 11)))) hv ?_ ?_
        · intro Q hQ
          rw [e_S_tells, s_S_isSleeper ht, eZ, bo_t ca, am_asIe, e_S_tells_5 ht, am_ifd, if_neg n10, am_ifd, if_neg cb, am_ifd, if_pos cb2]
          refine s_T_dreams hv hs ?_
          intro I2 J2 nt' nw' nf' g0 g1 g2 g3
          rw [am_asIe, e_S_tells_31, am_ifn]
          by_cases c : am_mk1 (q_fit I s) (m_nH I) = nI 0
          · rw [if_pos c]
            rw [if_pos c] at hQ
            exact hQ _ _ _ g1 g0 rfl g2
          · rw [if_neg c, s_T_telling hT hs g3, am_asIe, e_S_tells_44, am_ifn]
            rw [if_neg c] at hQ
            by_cases c2 : x2 = 0
            · rw [if_pos (by rw [c2]), e_S_tells_61]
              rw [if_pos c2] at hQ
              exact hQ _ _ _ g1 g0 rfl g2
            · have hb := q_bh_le (u := q_un I s) 11
              rw [if_neg (by rw [nI_eq (by omega) (by omega)]; exact c2), s_T_unlike hT hs g3 (by omega), am_asIe, e_S_tells_61]
              rw [if_neg c2] at hQ
              exact hQ _ _ _ g1 g0 rfl g2
        · intro r' I' J' hv' he Q hQ
          have hv0 := inv_mfr (J' := J') hv' (th0_mfr (x := nI 0)) rfl
          have hte : te I (am_u I' 93 0 (nI 0)) := fun a h1 h2 => by rw [am_uRow (by omega), he a (by omega)]
          have e95 : ∀ k, am_u I' 93 0 (nI 0) 95 k = I 95 k := fun k => by rw [am_uN (by omega), he 95 (by omega)]
          rw [e_M_tells, s_M_isSleeper, e95, hok.2.2.1.1, bo_t ca, am_asIe, e_M_tells_10, am_ifd, if_neg n10, am_ifd, if_neg cb, am_ifd, if_pos cb2]
          refine s_M_layDreamt hv0 (by rw [e_nZ hte]; exact hs) ?_
          intro M J2 g1 g2 g3
          rw [am_asIe, e_nH hte, am_mkc (P' := q_fit I s) (fun k _ => (g_dr he).2.1 k), e_M_tells_29, am_ifn]
          by_cases c : am_mk1 (q_fit I s) (m_nH I) = nI 0
          · rw [if_pos c]
            rw [if_pos c] at hQ
            exact hQ _ _ (mfr_trans th0_mfr g1) g2
          · rw [if_neg c, s_M_tellsL (I := I) hT hs (by rw [g1.1 95 (by omega), e95]; exact hok.1.1) (fun e h he' hh => by rw [g3 e h (by rw [e_nH hte]; exact he') hh, (g_dr he).1]) hx2]
            rw [if_neg c] at hQ
            exact hQ _ _ (mfr_trans th0_mfr g1) g2
      · refine op2_q (v := .int (-nI 1)) hv (iv_ans hv ?_) ?_
        · intro Q hQ
          rw [e_S_tells, s_S_isSleeper ht, eZ, bo_t ca, am_asIe, e_S_tells_5 ht, am_ifd, if_neg n10, am_ifd, if_neg cb, am_ifd, if_neg cb2]
          exact hQ
        · intro r' I' J' hv' he
          refine iv_mans ?_
          intro Q hQ
          have e95 : ∀ k, am_u I' 93 0 (nI 0) 95 k = I 95 k := fun k => by rw [am_uN (by omega), he 95 (by omega)]
          rw [e_M_tells, s_M_isSleeper, e95, hok.2.2.1.1, bo_t ca, am_asIe, e_M_tells_10, am_ifd, if_neg n10, am_ifd, if_neg cb, am_ifd, if_neg cb2]
          exact hQ
  · refine op2_q (v := .int (-nI 1)) hv (iv_ans hv ?_) ?_
    · intro Q hQ
      rw [e_S_tells, s_S_isSleeper ht, eZ, bo_f ca, am_asIe, e_S_tells_5 ht, am_ifd, if_pos rfl]
      exact hQ
    · intro r' I' J' hv' he
      refine iv_mans ?_
      intro Q hQ
      have e95 : ∀ k, am_u I' 93 0 (nI 0) 95 k = I 95 k := fun k => by rw [am_uN (by omega), he 95 (by omega)]
      rw [e_M_tells, s_M_isSleeper, e95, hok.2.2.1.1, bo_f ca, am_asIe, e_M_tells_10, am_ifd, if_pos rfl]
      exact hQ
end
