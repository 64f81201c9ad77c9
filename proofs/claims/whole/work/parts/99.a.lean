/-! ===== L3: what one dreamt of: the model, dreamt and tells ===== -/
section
variable {d N : Nat} {Q : Value → am_H → Prop} {r : am_rho} {I : Nat → Nat → Int32} {J : Nat → Nat → Int64}
theorem s_M_knownI {M : Nat → Nat → Int32} (h : i_sig I) (h69 : M 93 69 = I 93 69) (h70 : M 93 70 = I 93 70) : am_D (d + 1) 255 [.ref 93] (am_hp N r M J) Q = Q (.int (nI (q_kn I))) (am_hp N r M J) := by
  obtain ⟨n, hn, hk, h1, h2, h3, h4⟩ := iv_kn h
  rw [e_M_knownMany, am_ifn, h69, h70, ← h3]
  by_cases c : I 93 70 = -nI 1
  · rw [if_pos c, if_pos c]
  · rw [if_neg c, if_neg c]
/-- the model's dreams so far -/
def dm_inv (I : Nat → Nat → Int32) (J : Nat → Nat → Int64) (s e : Nat) (M : Nat → Nat → Int32) (J2 : Nat → Nat → Int64) : Prop :=
  mtd I M ∧ (∀ k, k ≠ 39 → k ≠ 59 → k ≠ 60 → M 93 k = I 93 k) ∧ M 93 59 = nI s ∧ J2 64 = J 64 ∧ lov I (m_g M 1) (m_g I 1) ∧
  (∀ k, k < q_kn I → M 136 k = nI (q_sk (I 135) (q_kn I) (q_kn I) k).toNat) ∧ (∀ e' h, e' < e → h < 12 → M 137 (12 * e' + h) = q_dt I s e' h)
theorem lo_m {M W W' : Nat → Nat → Int32} (h : te I M) (k : lov M W W') : lov I W W' := by
  unfold lov at k ⊢
  rw [e_nZ h, e_nL h, e_nH h] at k
  exact k
theorem lo_wq {V W W' : Nat → Nat → Int32} (h : lov I W W') (k : wq V W) (hV : (∀ s, 5 ≤ s → V 5 s = W' 5 s) ∧ (∀ f l, 6 ≤ f → f < 10 → 8 ≤ l → V f l = W' f l)) : lov I V W' := by
  refine ⟨trivial, ?_, ?_, ?_⟩
  · intro s hs
    by_cases c : s < 5
    · rw [k.2.1 s c, h.2.1 s hs]
    · exact hV.1 s (by omega)
  · intro f l h1 h2 h3
    by_cases c : l < 8
    · rw [k.2.2 f l h1 (by omega) c, h.2.2.1 f l h1 h2 h3]
    · exact hV.2 f l h1 (by omega) (by omega)
  · intro l h3
    by_cases c : l < 8
    · rw [k.2.2 9 l (by omega) (by omega) c, h.2.2.2 l h3]
    · exact hV.2 9 l (by omega) (by omega) (by omega)
theorem g_hi {I I' : Nat → Nat → Int32} {n n' : Nat} : (∀ s, 5 ≤ s → m_g I n 5 s = m_g I' n' 5 s) ∧ (∀ f l, 6 ≤ f → f < 10 → 8 ≤ l → m_g I n f l = m_g I' n' f l) := by
  refine ⟨?_, ?_⟩
  · intro s hs
    unfold m_g
    rw [if_neg (by omega), if_pos rfl, if_neg (by omega), if_neg (by omega), if_pos rfl, if_neg (by omega)]
  · intro f l h1 h2 h3
    unfold m_g
    rw [if_neg (by omega), if_neg (by omega), if_neg (by omega), if_neg (by omega), if_neg (by omega), if_neg (by omega)]
theorem lo_st {W : Nat → Nat → Int32} : lov I (m_start I W) W := by
  refine ⟨trivial, ?_, ?_, ?_⟩
  · intro s hs
    show m_sta I W _ _ _ 5 s = _
    unfold m_sta
    rw [if_neg (by omega), if_neg (by omega), if_neg (by omega), if_neg (by omega), if_neg (by omega), if_neg (by omega)]
  · intro f l h1 h2 h3
    show m_sta I W _ _ _ f l = _
    unfold m_sta
    rw [if_neg (by omega), if_neg (by omega), if_neg (by omega), if_neg (by omega), if_neg (by omega), if_neg (by omega)]
  · intro h hh
    show m_sta I W _ _ _ 9 h = _
    unfold m_sta
    rw [if_neg (by omega), if_neg (by omega), if_neg (by omega), if_neg (by omega), if_neg (by omega), if_neg (by omega)]
theorem dm_step {s e : Nat} {x2 : Int32} {o4 o5 : Option Int32} {M : Nat → Nat → Int32} {J2 : Nat → Nat → Int64} (hv : i_inv r I J) (hs : s < m_nZ I) (he : e < m_nH I) (hi : dm_inv I J s e M J2)
    (hQ : ∀ M3 J3 o4 o5, dm_inv I J s (e + 1) M3 J3 → am_V (d + 8) Q 256 80 [some (.ref 93), some (.int (nI s)), some (.int (x2 ||| (if q_fit I s e then am_pw e else nI 0))), some (.int (nI (e + 1))), am_oi o4, am_oi o5] [] (am_hp N r M3 J3)) :
    am_V (d + 8) Q 256 80 [some (.ref 93), some (.int (nI s)), some (.int x2), some (.int (nI e)), am_oi o4, am_oi o5] [] (am_hp N r M J2) := by
  obtain ⟨rt, rs, rd, rl, rx, nt, nw, nf⟩ := r
  obtain ⟨ht, hok, eH, eZ, eL, h0, h12, e49, e118⟩ := iv_ref hv
  obtain ⟨href, htr, hid, hnow, himg, hund, hsig, htap, hflt, hca⟩ := hv
  have hH8 := hok.1.2
  have hZ5 := hok.2.2.1.2
  have hst := htr.1.2.2.1
  have hokL := htr.1.2.2.2
  obtain ⟨i1, i2, i3, i4, i5, i6, i7⟩ := hi
  have hnH : M 95 0 = nI (m_nH I) := by rw [i1.1 95 (by omega)]; exact hok.1.1
  rw [e_M_layDreamt_80, am_ifd, hnH, if_neg (by rw [nI_leI (by omega) (by omega)]; omega)]
  have m2 : mtd I (am_u M 93 60 (nI e)) := mt_row i1 (by omega)
  have hte := mt_te m2
  have he2 : m_e2 (dr_M I s e) (am_u M 93 60 (nI e)) := by
    refine ⟨fun c h1 h2 => ?_, fun k h1 h2 => ?_⟩
    · rw [am_uRow (by omega), dr_row (by omega), i1.1 c (by omega)]
    · by_cases c6 : k = 60
      · subst c6; rw [am_uE, dr_60]
      · by_cases c5 : k = 59
        · subst c5; rw [am_uN (by omega), i3, dr_59]
        · rw [am_uN (by omega), i2 k (by omega) c5 c6, dr_o c5 c6]
  have hlo : lov I (m_g (am_u M 93 60 (nI e)) 1) (m_g I 1) := by
    rw [g_row (fun a h1 h2 => am_uRow (by omega))]; exact i5
  have f2 : ∀ k, k ≠ 39 → k ≠ 59 → k ≠ 60 → am_u M 93 60 (nI e) 93 k = I 93 k := fun k h1 h2 h3 => by rw [am_uN (by omega), i2 k h1 h2 h3]
  have f59 : am_u M 93 60 (nI e) 93 59 = nI s := by rw [am_uN (by omega)]; exact i3
  have r136 : am_u M 93 60 (nI e) 136 = M 136 := am_uRow (by omega)
  have r137 : am_u M 93 60 (nI e) 137 = M 137 := am_uRow (by omega)
  generalize am_u M 93 60 (nI e) = M2 at m2 hte he2 hlo f2 f59 r136 r137 ⊢
  have hokM := e_ok hte hok
  have hteD : te I (dr_M I s e) := dr_te
  have hstD := e_stok hteD hst
  have h8D : m_nH (dr_M I s e) ≤ 8 := by rw [e_nH hteD]; exact hH8
  have eW : ∀ v F T, m_M M2 1 (m_start M2 (m_g M2 1)) v F T = m_M M2 1 (dr_W I) v F T := by
    intro v F T
    have hq : wq (m_start M2 (m_g M2 1)) (dr_W I) := by
      have e1 : m_start M2 = m_start I := by
        funext W f k
        unfold m_start
        rw [e_nZ hte, e_nL hte, e_nH hte, hte 95 (by omega) (by omega), hte 104 (by omega) (by omega), hte 107 (by omega) (by omega), hte 97 (by omega) (by omega)]
      rw [e1]
      exact lo_start hlo
    exact m_M_ext hq.1 hq.2.1 hq.2.2
  have hX := okX_start (W := m_g I 1) htr
  rw [m_idM (I := M2) (n := 1), s_M_starts hokM (e_okL hte hokL) (by omega), eW, e_M_layDreamt_100]
  refine s_M_goesThrough (h0 := 0) hokM (m_okS_of (e_stok hte hst)) (k_okD he2 (dr_okD htr hs he)) (e_okW hte hX.1) (by omega) rfl ?_
  intro v' nm' wk'
  have hlo3 : lov I (m_Wj M2 (m_far M2 (M2 128)) false (dr_W I) 0 (12 - 0)) (m_g I 1) := lo_trans (lo_m hte (lo_Wj (12 - 0))) lo_st
  have m3 : mtd I (m_M M2 1 (m_Wj M2 (m_far M2 (M2 128)) false (dr_W I) 0 (12 - 0)) v' (m_far M2 (M2 128)) (m_Tj M2 (m_far M2 (M2 128)) false (dr_W I) (M2 129) 0 (12 - 0))) := by
    refine mt_M m2 ?_
    intro k hk
    exact m_far_hi (e_stok hte hst) (by rw [e_nH hte]; exact hH8) hk
  have l3 : lov I (m_g (m_M M2 1 (m_Wj M2 (m_far M2 (M2 128)) false (dr_W I) 0 (12 - 0)) v' (m_far M2 (M2 128)) (m_Tj M2 (m_far M2 (M2 128)) false (dr_W I) (M2 129) 0 (12 - 0))) 1) (m_g I 1) := lo_wq hlo3 wq_n g_hi
  have f3 : ∀ k, k ≠ 39 → k ≠ 59 → k ≠ 60 → m_M M2 1 (m_Wj M2 (m_far M2 (M2 128)) false (dr_W I) 0 (12 - 0)) v' (m_far M2 (M2 128)) (m_Tj M2 (m_far M2 (M2 128)) false (dr_W I) (M2 129) 0 (12 - 0)) 93 k = I 93 k := fun k h1 h2 h3 => by rw [m_Mo (by omega), f2 k h1 h2 h3]
  have f359 : m_M M2 1 (m_Wj M2 (m_far M2 (M2 128)) false (dr_W I) 0 (12 - 0)) v' (m_far M2 (M2 128)) (m_Tj M2 (m_far M2 (M2 128)) false (dr_W I) (M2 129) 0 (12 - 0)) 93 59 = nI s := by rw [m_Mo (by omega), f59]
  have t3 : ∀ h, h < 12 → m_M M2 1 (m_Wj M2 (m_far M2 (M2 128)) false (dr_W I) 0 (12 - 0)) v' (m_far M2 (M2 128)) (m_Tj M2 (m_far M2 (M2 128)) false (dr_W I) (M2 129) 0 (12 - 0)) 129 (12 * s + h) = q_dt I s e h := by
    intro h hh
    have := m_Tj_in (I := M2) (F := m_far M2 (M2 128)) (b := false) (W := dr_W I) (T := M2 129) (h0 := 0) (s := s) (i := h) (j := 12 - 0) (by rw [e_nZ hte]; exact hs) (by omega) (by omega)
    rw [Nat.zero_add] at this
    rw [m_MT, this]
    unfold q_dt
    rw [k_Wj he2, k_far he2, mt_far m2 hstD h8D]
  have q3 : ∀ a, a = 136 ∨ a = 137 → m_M M2 1 (m_Wj M2 (m_far M2 (M2 128)) false (dr_W I) 0 (12 - 0)) v' (m_far M2 (M2 128)) (m_Tj M2 (m_far M2 (M2 128)) false (dr_W I) (M2 129) 0 (12 - 0)) a = M a := by
    intro a ha
    funext j
    rw [m_Mo (by omega)]
    rcases ha with rfl | rfl
    · rw [r136]
    · rw [r137]
  generalize m_M M2 1 (m_Wj M2 (m_far M2 (M2 128)) false (dr_W I) 0 (12 - 0)) v' (m_far M2 (M2 128)) (m_Tj M2 (m_far M2 (M2 128)) false (dr_W I) (M2 129) 0 (12 - 0)) = M3 at m3 l3 f3 f359 t3 q3 ⊢
  have hj64 : m_J J2 nm' wk' 64 = J 64 := i4
  generalize m_J J2 nm' wk' = J3 at hj64 ⊢
  rw [e_M_layDreamt_104]
  -- the hours are kept
  have lp2 : ∀ (b : Bool), b = q_fit I s e → ∀ k j, 12 = j + k → ∀ M4, (∀ a, a ≠ 137 → M4 a = M3 a) → (∀ e' h, e' < e → h < 12 → M4 137 (12 * e' + h) = q_dt I s e' h) → (∀ h, h < j → M4 137 (12 * e + h) = q_dt I s e h) → am_V (d + 8) Q 256 193 [some (.ref 93), some (.int (nI s)), some (.int x2), some (.int (nI e)), some (.int (nI b.toNat)), some (.int (nI j))] [] (am_hp N (rt, rs, rd, rl, rx, nt, nw, nf) M4 J3) := by
    intro b hb k
    induction k with
    | zero =>
      intro j hj M4 g1 g2 g3
      obtain rfl : j = 12 := by omega
      have hd : dm_inv I J s (e + 1) M4 J3 := by
        refine ⟨⟨fun a ha => by rw [g1 a (by omega), m3.1 a ha], fun k hk => by rw [g1 128 (by omega), m3.2.1 k hk], fun n h1 h2 => ?_⟩, fun k h1 h2 h3 => by rw [g1 93 (by omega), f3 k h1 h2 h3], by rw [g1 93 (by omega)]; exact f359, hj64, ?_, fun k hk => by rw [g1 136 (by omega), q3 136 (by omega), i6 k hk], ?_⟩
        · rw [g_row (fun a h1 h2 => g1 a (by omega))]; exact m3.2.2 n h1 h2
        · rw [g_row (fun a h1 h2 => g1 a (by omega))]; exact l3
        · intro e' h he' hh
          by_cases c : e' = e
          · subst c; exact g3 h hh
          · exact g2 e' h (by omega) hh
      rw [e_M_layDreamt_193, am_ifd, if_pos (by decide +kernel), am_ifb, am_pwe, show nI e + nI 1 = nI (e + 1) from nI_add _ _]
      have hq := fun o4 o5 => hQ M4 J3 o4 o5 hd
      rw [← hb] at hq
      cases b with
      | false => rw [if_pos rfl]; exact hq _ _
      | true => rw [if_neg (by decide)]; exact hq _ _
    | succ k ih =>
      intro j hj M4 g1 g2 g3
      rw [e_M_layDreamt_193, am_ifd, if_neg (by rw [nI_leI (by omega) (by omega)]; omega), am_mulN, nI_add, am_mulN, nI_add, am_gI (by omega) (by omega), am_gI (by omega) (by omega), nI_clamp (by omega), nI_clamp (by omega), g1 129 (by omega), t3 j (by omega), show nI j + nI 1 = nI (j + 1) from nI_add _ _]
      refine ih (j + 1) (by omega) _ (fun a ha => by rw [am_uRow ha, g1 a ha]) ?_ ?_
      · intro e' h he' hh
        rw [am_uN (by omega)]; exact g2 e' h he' hh
      · intro h hh
        by_cases c : h = j
        · subst c; rw [am_uE]
        · rw [am_uN (by omega)]; exact g3 h (by omega)
  -- does it fit
  have hsig0 := hsig
  obtain ⟨n, hn, hkn, h1, h2, h3, h4⟩ := iv_kn hsig
  obtain ⟨n', hn', h1', _, _, _, hks⟩ := hsig
  obtain rfl : n' = n := (nI_eq (by omega) (by omega)).mp (h1'.symm.trans h1)
  have lp1 : ∀ k j, q_kn I = j + k → am_V (d + 8) Q 256 110 [some (.ref 93), some (.int (nI s)), some (.int x2), some (.int (nI e)), some (.int (nI (nbad (q_bad I s e) j).toNat)), some (.int (nI j))] [] (am_hp N (rt, rs, rd, rl, rx, nt, nw, nf) M3 J3) := by
    intro k
    induction k with
    | zero =>
      intro j hj
      obtain rfl : j = q_kn I := by omega
      rw [e_M_layDreamt_110, s_M_knownI hsig0 (f3 69 (by omega) (by omega) (by omega)) (f3 70 (by omega) (by omega) (by omega)), am_asIe, e_M_layDreamt_116, am_ifd, if_pos (by rw [nI_leI (by omega) (by omega)]; omega)]
      refine lp2 _ rfl 12 0 (by omega) M3 (fun _ _ => rfl) ?_ (fun h hh => by omega)
      intro e' h he' hh
      rw [q3 137 (by omega)]; exact i7 e' h he' hh
    | succ k ih =>
      intro j hj
      have nx : q_bad I s e j = false → nbad (q_bad I s e) (j + 1) = nbad (q_bad I s e) j := by
        intro g; rw [nbad, g]; exact Bool.and_true _
      have eq : q_st I j = !q_sk (I 135) (q_kn I) (q_kn I) j := by
        unfold q_st; rw [decide_eq_true (by omega)]; rfl
      rw [e_M_layDreamt_110, s_M_knownI hsig0 (f3 69 (by omega) (by omega) (by omega)) (f3 70 (by omega) (by omega) (by omega)), am_asIe, e_M_layDreamt_116, am_ifd, if_neg (by rw [nI_leI (by omega) (by omega)]; omega), am_gI (by omega) (by omega), nI_clamp (by omega), q3 136 (by omega), i6 j (by omega), am_ifbn, am_gI (by omega) (by omega), am_ifn, m3.1 135 (by omega), am_gI (by omega) (by omega), am_ifd, m3.1 133 (by omega), am_gI (by omega) (by omega), m3.1 132 (by omega), am_gI (show j < 24 by omega) (by omega), m3.1 134 (by omega), show nI j + nI 1 = nI (j + 1) from nI_add _ _]
      by_cases c : q_sk (I 135) (q_kn I) (q_kn I) j = false
      · rw [if_pos c]
        have ct : q_st I j = true := by rw [eq, c]; rfl
        by_cases c2 : I 135 j = -nI 1
        · rw [if_pos c2]
          by_cases c3 : I 133 j = nI s
          · rw [if_pos c3]
            rcases (hks j (by omega)).2 with ⟨g1, g2, g3, g4, hr', s', h', hhr, hs', hh', g5, g6, g7⟩ | ⟨g1, j0, _, g2⟩
            · have eb : q_bad I s e j = !decide (q_dt I s e hr' = I 134 j) := by
                unfold q_bad
                rw [ct, decide_eq_true c2, decide_eq_true c3, g5, nI_clamp (by omega)]
                rfl
              rw [g5, am_mulN, nI_add, am_gI (by omega) (by omega), nI_clamp (by omega), t3 hr' hhr, am_ifd]
              by_cases c4 : q_dt I s e hr' = I 134 j
              · rw [if_pos c4]
                have := ih (j + 1) (by omega)
                rw [nx (by rw [eb, decide_eq_true c4]; rfl)] at this
                exact this
              · rw [if_neg c4]
                have := ih (j + 1) (by omega)
                rw [nbad, eb, decide_eq_false c4] at this
                simp only [Bool.not_false, Bool.not_true, Bool.and_false] at this
                exact this
            · rw [g2] at c2
              exact absurd c2 (am_neg1' (by omega))
          · rw [if_neg c3]
            have := ih (j + 1) (by omega)
            rw [nx (by unfold q_bad; rw [decide_eq_false c3]; simp)] at this
            exact this
        · rw [if_neg c2]
          have := ih (j + 1) (by omega)
          rw [nx (by unfold q_bad; rw [decide_eq_false c2]; simp)] at this
          exact this
      · rw [if_neg c]
        have ct : q_st I j = false := by
          rw [eq]
          cases g : q_sk (I 135) (q_kn I) (q_kn I) j
          · exact absurd g c
          · rfl
        have := ih (j + 1) (by omega)
        rw [nx (by unfold q_bad; rw [ct]; rfl)] at this
        exact this
  exact lp1 (q_kn I) 0 (by omega)
theorem s_M_layDreamt {s : Nat} (hv : i_inv r I J) (hs : s < m_nZ I)
    (hQ : ∀ M J2, mfr I M → J2 64 = J 64 → (∀ e h, e < m_nH I → h < 12 → M 137 (12 * e + h) = q_dt I s e h) → Q (.int (am_mk1 (q_fit I s) (m_nH I))) (am_hp N r M J2)) :
    am_D (d + 9) 256 [.ref 93, .int (nI s)] (am_hp N r I J) Q := by
  have hok : m_ok I := hv.2.1.1.2.1
  have hid := hv.2.2.1
  have hH8 := hok.1.2
  have hsig := hv.2.2.2.2.2.2.1
  have hsig0 := hsig
  obtain ⟨n, hn, hkn, h1, h2, h3, h4⟩ := iv_kn hsig
  obtain ⟨n', hn', h1', _, _, _, hks⟩ := hsig
  obtain rfl : n' = n := (nI_eq (by omega) (by omega)).mp (h1'.symm.trans h1)
  -- dream after dream
  have lp3 : ∀ k e, m_nH I = e + k → ∀ M J2 o4 o5, dm_inv I J s e M J2 → am_V (d + 8) Q 256 80 [some (.ref 93), some (.int (nI s)), some (.int (am_mk1 (q_fit I s) e)), some (.int (nI e)), am_oi o4, am_oi o5] [] (am_hp N r M J2) := by
    intro k
    induction k with
    | zero =>
      intro e he M J2 o4 o5 hi
      obtain rfl : e = m_nH I := by omega
      obtain ⟨i1, i2, i3, i4, i5, i6, i7⟩ := hi
      have hnH : M 95 0 = nI (m_nH I) := by rw [i1.1 95 (by omega)]; exact hok.1.1
      rw [e_M_layDreamt_80, am_ifd, hnH, if_pos (by rw [nI_leI (by omega) (by omega)]; omega)]
      refine hQ _ _ (mt_mfr (mt_row i1 (by omega)) ?_) i4 ?_
      · intro k k0 k39 k56 k57 k60 k68
        by_cases c : k = 59
        · subst c; rw [am_uE, hid.2.2.2.2.2.1]
        · rw [am_uN (by omega), i2 k k39 c k60]
      · intro e h he hh
        rw [am_uN (by omega)]; exact i7 e h he hh
    | succ k ih =>
      intro e he M J2 o4 o5 hi
      refine dm_step hv hs (by omega) hi ?_
      intro M3 J3 o4 o5 hi3
      exact ih (e + 1) (by omega) M3 J3 o4 o5 hi3
  -- strikes
  have lp2 : ∀ j, j ≤ q_kn I → ∀ M, (∀ a, a ≠ 136 → M a = I a) → (∀ k, k < q_kn I → M 136 k = nI (q_sk (I 135) (q_kn I) (q_kn I - j) k).toNat) → am_V (d + 8) Q 256 30 [some (.ref 93), some (.int (nI s)), some (.int (nI j - nI 1)), none, none, none] [] (am_hp N r M J) := by
    intro j
    induction j with
    | zero =>
      intro _ M g1 g2
      rw [e_M_layDreamt_30, am_ifd, if_pos m1_0]
      refine lp3 (m_nH I) 0 (by omega) _ _ none none ⟨⟨fun a ha => by rw [am_uRow (by omega), g1 a (by omega)], fun k hk => by rw [am_uRow (by omega), g1 128 (by omega)], fun n a b => ?_⟩, fun k h1 h2 h3 => by rw [am_uN (by omega), g1 93 (by omega)], am_uE, rfl, ?_, fun k hk => by rw [am_uRow (by omega)]; exact g2 k hk, fun e' h he' _ => by omega⟩
      · rw [g_row (I := I) (fun a h1 h2 => by rw [am_uRow (by omega), g1 a (by omega)])]; exact wq_refl
      · rw [g_row (I := I) (fun a h1 h2 => by rw [am_uRow (by omega), g1 a (by omega)])]; exact lo_refl
    | succ j ih =>
      intro hj M g1 g2
      have em : q_kn I - j = (q_kn I - (j + 1)) + 1 := by omega
      have ek : q_kn I - 1 - (q_kn I - (j + 1)) = j := by omega
      have st : ∀ i, q_sk (I 135) (q_kn I) (q_kn I - j) i = (q_sk (I 135) (q_kn I) (q_kn I - (j + 1)) i || (!decide (I 135 j = -nI 1) && !q_sk (I 135) (q_kn I) (q_kn I - (j + 1)) j && decide (nI i = I 135 j))) := by
        intro i
        rw [em, q_sk, ek]
      rw [m1_S, e_M_layDreamt_30, am_ifd, if_neg (by rw [nI_ltI (by omega) (by omega)]; omega), am_gI (by omega) (by omega), nI_clamp (by omega), g2 j (by omega), am_ifbn, am_gI (by omega) (by omega), am_ifd, g1 135 (by omega), m1_sub]
      by_cases c2 : q_sk (I 135) (q_kn I) (q_kn I - (j + 1)) j = false
      · rw [if_pos c2]
        by_cases c : I 135 j = -nI 1
        · rw [if_pos c]
          refine ih (by omega) M g1 ?_
          intro k hk
          rw [g2 k hk, st k, decide_eq_true c]
          simp
        · obtain ⟨j0, hj0, e0⟩ : ∃ j0, j0 < j ∧ I 135 j = nI j0 := by
            rcases (hks j (by omega)).2 with g | ⟨_, g⟩
            · exact absurd g.1 c
            · exact g
          rw [if_neg c, am_gI (by omega) (by omega), e0, am_gI (by omega) (by omega), nI_clamp (by omega)]
          refine ih (by omega) _ (fun a ha => by rw [am_uRow ha, g1 a ha]) ?_
          intro k hk
          have ed : decide (nI k = nI j0) = decide (k = j0) := decide_eq_decide.mpr (nI_eq (by omega) (by omega))
          rw [st k, decide_eq_false c, c2, e0, ed]
          by_cases ck : k = j0
          · subst ck; rw [am_uE, decide_eq_true rfl]; simp
          · rw [am_uN (by omega), g2 k hk, decide_eq_false ck]; simp
      · have c3 : q_sk (I 135) (q_kn I) (q_kn I - (j + 1)) j = true := by
          cases e : q_sk (I 135) (q_kn I) (q_kn I - (j + 1)) j
          · exact absurd e c2
          · rfl
        rw [if_neg c2]
        refine ih (by omega) M g1 ?_
        intro k hk
        rw [g2 k hk, st k, c3]
        simp
  have lp1 : ∀ k j, q_kn I = j + k → ∀ M, (∀ a, a ≠ 136 → M a = I a) → (∀ k, k < j → M 136 k = nI 0) → am_V (d + 8) Q 256 2 [some (.ref 93), some (.int (nI s)), some (.int (nI j)), none, none, none] [] (am_hp N r M J) := by
    intro k
    induction k with
    | zero =>
      intro j hj M g1 g2
      obtain rfl : j = q_kn I := by omega
      rw [e_M_layDreamt_2, s_M_knownI hsig0 (by rw [g1 93 (by omega)]) (by rw [g1 93 (by omega)]), am_asIe, e_M_layDreamt_7, am_ifd, if_pos (by rw [nI_leI (by omega) (by omega)]; omega), s_M_knownI hsig0 (by rw [g1 93 (by omega)]) (by rw [g1 93 (by omega)]), am_asIe, e_M_layDreamt_27]
      refine lp2 (q_kn I) (Nat.le_refl _) M g1 ?_
      intro k hk
      rw [g2 k hk, Nat.sub_self]
      rfl
    | succ k ih =>
      intro j hj M g1 g2
      rw [e_M_layDreamt_2, s_M_knownI hsig0 (by rw [g1 93 (by omega)]) (by rw [g1 93 (by omega)]), am_asIe, e_M_layDreamt_7, am_ifd, if_neg (by rw [nI_leI (by omega) (by omega)]; omega), am_gI (by omega) (by omega), nI_clamp (by omega), show nI j + nI 1 = nI (j + 1) from nI_add _ _]
      refine ih (j + 1) (by omega) _ (fun a ha => by rw [am_uRow ha, g1 a ha]) ?_
      intro k hk
      by_cases c : k = j
      · subst c; rw [am_uE]
      · rw [am_uN (by omega)]; exact g2 k (by omega)
  rw [e_M_layDreamt]
  exact lp1 (q_kn I) 0 (by omega) I (fun _ _ => rfl) (fun k hk => by omega)
end
