/-! ===== L3: what one dreamt of: the class ===== -/
def q_kn (I : Nat → Nat → Int32) : Nat := if I 93 70 = -nI 1 then (I 93 69).toNatClampNeg else (I 93 70).toNatClampNeg
/-- struck, asked from the last one on -/
def q_sk (f : Nat → Int32) (kn : Nat) : Nat → Nat → Bool
  | 0 => fun _ => false
  | m + 1 => fun i => q_sk f kn m i || (!decide (f (kn - 1 - m) = -nI 1) && !q_sk f kn m (kn - 1 - m) && decide (nI i = f (kn - 1 - m)))
def q_st (I : Nat → Nat → Int32) (i : Nat) : Bool := decide (i < q_kn I) && !q_sk (I 135) (q_kn I) (q_kn I) i
def dr_M (I : Nat → Nat → Int32) (s d : Nat) : Nat → Nat → Int32 := am_u (am_u I 93 59 (nI s)) 93 60 (nI d)
def dr_W (I : Nat → Nat → Int32) : Nat → Nat → Int32 := m_start I (m_g I 1)
def q_dt (I : Nat → Nat → Int32) (s d h : Nat) : Int32 := m_Wj (dr_M I s d) (m_far (dr_M I s d) (I 128)) false (dr_W I) 0 (h + 1) 5 s
def q_bad (I : Nat → Nat → Int32) (s d k : Nat) : Bool := q_st I k && (decide (I 135 k = -nI 1) && (decide (I 133 k = nI s) && !decide (q_dt I s d (I 132 k).toNatClampNeg = I 134 k)))
def nbad (p : Nat → Bool) : Nat → Bool
  | 0 => true
  | k + 1 => nbad p k && !p k
def q_fit (I : Nat → Nat → Int32) (s d : Nat) : Bool := nbad (q_bad I s d) (q_kn I)
def q_pl (I : Nat → Nat → Int32) (s h n : Nat) : Int32 := am_or (fun d => q_fit I s d) (fun d => nI 1 <<< (q_dt I s d h &&& nI 31)) 0 (nI 0) n
theorem nbad_no {p : Nat → Bool} {i : Nat} (h : p i = true) : ∀ n, i < n → nbad p n = false
  | 0, hi => by omega
  | n + 1, hi => by
    unfold nbad
    by_cases e : i = n
    · subst e; rw [h]; exact Bool.and_false _
    · rw [nbad_no h n (by omega)]; rfl
theorem nbad_hi {p : Nat → Bool} {m : Nat} : ∀ k, (∀ i, m ≤ i → i < m + k → p i = false) → nbad p (m + k) = nbad p m
  | 0, _ => rfl
  | k + 1, h => by
    rw [show m + (k + 1) = (m + k) + 1 by omega, nbad, nbad_hi k (fun i h1 h2 => h i h1 (by omega)), h (m + k) (by omega) (by omega)]
    exact Bool.and_true _
theorem b_2kk : ∀ k, k < 25 → ∀ i, i < 32 → bt (nI (2 ^ k - 1)) i = decide (i < k) := by decide +kernel
section
variable {d N : Nat} {Q : Value → am_H → Prop} {r : am_rho} {I : Nat → Nat → Int32} {J : Nat → Nat → Int64}
theorem iv_kn (h : i_sig I) : ∃ n, n ≤ 24 ∧ q_kn I ≤ n ∧ I 72 0 = nI n ∧ I 93 69 = nI n ∧ (if I 93 70 = -nI 1 then I 93 69 else I 93 70) = nI (q_kn I) ∧ I 72 1 = I 93 70 := by
  obtain ⟨n, hn, h1, h2, h3, h4, _⟩ := h
  refine ⟨n, hn, ?_, h1, h2, ?_, h3⟩
  · unfold q_kn
    by_cases c : I 93 70 = -nI 1
    · rw [if_pos c, h2, nI_clamp (by omega)]; omega
    · rw [if_neg c]
      rcases h4 with h4 | ⟨k, hk, h4⟩
      · exact absurd h4 c
      · rw [h4, nI_clamp (by omega)]; exact hk
  · unfold q_kn
    by_cases c : I 93 70 = -nI 1
    · rw [if_pos c, if_pos c, h2, nI_clamp (by omega)]
    · rw [if_neg c, if_neg c]
      rcases h4 with h4 | ⟨k, hk, h4⟩
      · exact absurd h4 c
      · rw [h4, nI_clamp (by omega)]
theorem s_M_known (h : i_sig I) : am_D (d + 1) 255 [.ref 93] (am_hp N r I J) Q = Q (.int (nI (q_kn I))) (am_hp N r I J) := by
  obtain ⟨n, hn, hk, h1, h2, h3, h4⟩ := iv_kn h
  rw [e_M_knownMany, am_ifn, ← h3]
  by_cases c : I 93 70 = -nI 1
  · rw [if_pos c, if_pos c]
  · rw [if_neg c, if_neg c]
theorem s_Si_known (h : i_sig I) : am_D (d + 1) 59 [.ref 72] (am_hp N r I J) Q = Q (.int (nI (q_kn I))) (am_hp N r I J) := by
  obtain ⟨n, hn, hk, h1, h2, h3, h4⟩ := iv_kn h
  rw [e_Sights_knownCount, am_ifn, ← h3, h4]
  by_cases c : I 93 70 = -nI 1
  · rw [if_pos c, if_pos c, h1, h2]
  · rw [if_neg c, if_neg c]
theorem m1_sub {j : Nat} : nI j + -nI 1 = nI j - nI 1 := (Int32.sub_eq_add_neg _ _).symm
theorem m1_S {j : Nat} : nI (j + 1) - nI 1 = nI j := am_subN (by omega)
theorem m1_0 : (nI 0 - nI 1 : Int32) < nI 0 := by decide +kernel
theorem s_Si_standing (h : i_sig I) (hQ : ∀ x, (∀ i, i < 32 → bt x i = q_st I i) → Q (.int x) (am_hp N r I J)) : am_D (d + 2) 60 [.ref 72] (am_hp N r I J) Q := by
  have hsig := h
  obtain ⟨n, hn, hk, h1, h2, h3, h4⟩ := iv_kn h
  obtain ⟨n', hn', h1', _, _, _, hks⟩ := h
  obtain rfl : n' = n := (nI_eq (by omega) (by omega)).mp (h1'.symm.trans h1)
  rw [e_Sights_standing, s_Si_known hsig, am_asIe, e_Sights_standing_6]
  have lp : ∀ j, j ≤ q_kn I → ∀ x, (∀ i, i < 32 → bt x i = q_sk (I 135) (q_kn I) (q_kn I - j) i) → am_V (d + 1) Q 60 9 [some (.ref 72), some (.int x), some (.int (nI j - nI 1))] [] (am_hp N r I J) := by
    intro j
    induction j with
    | zero =>
      intro _ x hx
      rw [e_Sights_standing_9, am_ifd, if_pos m1_0, s_Si_known hsig, am_asIe, e_Sights_standing_53, c_2k (by omega)]
      refine hQ _ ?_
      intro i hi
      rw [b_and_not hi, b_2kk _ (by omega) i hi, hx i hi]
      rfl
    | succ j ih =>
      intro hj x hx
      have em : q_kn I - j = (q_kn I - (j + 1)) + 1 := by omega
      have ek : q_kn I - 1 - (q_kn I - (j + 1)) = j := by omega
      have e76 := (hks j (by omega)).1
      have st : ∀ i, q_sk (I 135) (q_kn I) (q_kn I - j) i = (q_sk (I 135) (q_kn I) (q_kn I - (j + 1)) i || (!decide (I 135 j = -nI 1) && !q_sk (I 135) (q_kn I) (q_kn I - (j + 1)) j && decide (nI i = I 135 j))) := by
        intro i
        rw [em, q_sk, ek]
      rw [m1_S, e_Sights_standing_9, am_ifd, if_neg (by rw [nI_ltI (by omega) (by omega)]; omega), am_gI (by omega) (by omega), nI_clamp (by omega), am_ifd, e76, m1_sub]
      by_cases c : I 135 j = -nI 1
      · rw [if_pos c]
        refine ih (by omega) x ?_
        intro i hi
        rw [st i, decide_eq_true c, hx i hi]
        simp
      · rw [if_neg c, b_v (by omega), am_ifbn, hx j (by omega)]
        by_cases c2 : q_sk (I 135) (q_kn I) (q_kn I - (j + 1)) j = false
        · rw [if_pos c2, am_gI (by omega) (by omega)]
          obtain ⟨j0, hj0, e0⟩ : ∃ j0, j0 < j ∧ I 135 j = nI j0 := by
            rcases (hks j (by omega)).2 with g | ⟨_, g⟩
            · exact absurd g.1 c
            · exact g
          refine ih (by omega) _ ?_
          intro i hi
          rw [st i, decide_eq_false c, c2, e0, am_pwe, b_or, b_pw (by omega) hi, hx i hi]
          have : decide (nI i = nI j0) = decide (i = j0) := decide_eq_decide.mpr (nI_eq (by omega) (by omega))
          rw [this]
          simp
        · rw [if_neg c2]
          refine ih (by omega) x ?_
          intro i hi
          have c3 : q_sk (I 135) (q_kn I) (q_kn I - (j + 1)) j = true := by
            cases e : q_sk (I 135) (q_kn I) (q_kn I - (j + 1)) j
            · exact absurd e c2
            · rfl
          rw [st i, c3, hx i hi]
          simp
  refine lp (q_kn I) (Nat.le_refl _) (nI 0) ?_
  intro i hi
  rw [b_z, Nat.sub_self]
  rfl
/-- does it fit, the path being that of dream d -/
theorem s_Si_fit {I1 : Nat → Nat → Int32} {s e : Nat} {x : Int32} (h : i_sig I) (hr : ∀ a, 72 ≤ a → a ≤ 76 → I1 a = I a) (hs : s < 5) (hx : ∀ i, i < 32 → bt x i = q_st I i) (hp : ∀ k, k < 12 → I1 68 (5 * k + s) = q_dt I s e k) :
    am_D (d + 2) 61 [.ref 72, .ref 61, .int (nI s), .int x] (am_hp N r I1 J) Q = Q (.int (nI (q_fit I s e).toNat)) (am_hp N r I1 J) := by
  obtain ⟨n, hn, hk, h1, h2, h3, h4⟩ := iv_kn h
  obtain ⟨n', hn', h1', _, _, _, hks⟩ := h
  obtain rfl : n' = n := (nI_eq (by omega) (by omega)).mp (h1'.symm.trans h1)
  have hfit : q_fit I s e = nbad (q_bad I s e) n' := by
    unfold q_fit
    obtain ⟨k, rfl⟩ : ∃ k, n' = q_kn I + k := ⟨n' - q_kn I, by omega⟩
    symm
    refine nbad_hi k ?_
    intro i g1 g2
    unfold q_bad q_st
    rw [decide_eq_false (by omega)]
    rfl
  rw [hfit, e_Sights_fit]
  have lp : ∀ k i, n' = i + k → ∀ o5, nbad (q_bad I s e) i = true → am_V (d + 1) Q 61 3 [some (.ref 72), some (.ref 61), some (.int (nI s)), some (.int x), some (.int (nI i)), am_oi o5] [] (am_hp N r I1 J) = Q (.int (nI (nbad (q_bad I s e) n').toNat)) (am_hp N r I1 J) := by
    intro k
    induction k with
    | zero =>
      intro i hi o5 hg
      obtain rfl : n' = i := by omega
      rw [e_Sights_fit_3, hr 72 (by omega) (by omega), h1, am_ifd, if_pos (by rw [nI_leI (by omega) (by omega)]; omega), hg]
      rfl
    | succ k ih =>
      intro i hi o5 hg
      have nx : q_bad I s e i = false → nbad (q_bad I s e) (i + 1) = true := by
        intro g; unfold nbad; rw [hg, g]; rfl
      rw [e_Sights_fit_3, hr 72 (by omega) (by omega), hr 73 (by omega) (by omega), hr 74 (by omega) (by omega), h1, am_ifd, if_neg (by rw [nI_leI (by omega) (by omega)]; omega), b_v (by omega), am_ifb, hx i (by omega), am_gI (by omega) (by omega), nI_clamp (by omega), am_gI (by omega) (by omega), am_ifn, show nI i + nI 1 = nI (i + 1) from nI_add _ _]
      by_cases c : q_st I i = false
      · rw [if_pos c]
        exact ih (i + 1) (by omega) _ (nx (by unfold q_bad; rw [c]; rfl))
      · have ct : q_st I i = true := by
          cases g : q_st I i
          · exact absurd g c
          · rfl
        rw [if_neg c]
        rcases (hks i (by omega)).2 with ⟨g1, g2, g3, g4, hr', s', h', hhr, hs', hh', g5, g6, g7⟩ | ⟨g1, j0, _, g2⟩
        · rw [g3, g2, g5]
          by_cases c2 : I 133 i = nI s
          · rw [if_pos c2, s_N_stood hs hhr, am_asIe, hp _ hhr, e_Sights_fit_56, am_gI (by omega) (by omega), hr 75 (by omega) (by omega), nI_clamp (by omega), g4, am_ifd, show nI i + nI 1 = nI (i + 1) from nI_add _ _]
            have eb : q_bad I s e i = !decide (q_dt I s e hr' = I 134 i) := by
              unfold q_bad
              rw [ct, decide_eq_true g1, decide_eq_true c2, g5, nI_clamp (by omega)]
              rfl
            by_cases c3 : q_dt I s e hr' = I 134 i
            · rw [if_pos c3]
              exact ih (i + 1) (by omega) _ (nx (by rw [eb, decide_eq_true c3]; rfl))
            · rw [if_neg c3, nbad_no (p := q_bad I s e) (i := i) (by rw [eb, decide_eq_false c3]; rfl) n' (by omega)]
              rfl
          · rw [if_neg c2]
            exact ih (i + 1) (by omega) _ (nx (by unfold q_bad; rw [decide_eq_false c2]; simp))
        · rw [g1, if_neg (fun g => am_neg1' (show s < 2 ^ 31 by omega) g.symm)]
          refine ih (i + 1) (by omega) _ (nx ?_)
          unfold q_bad
          rw [decide_eq_false (show ¬ I 135 i = -nI 1 by rw [g2]; exact am_neg1' (by omega))]
          simp
  exact lp n' 0 (by omega) none rfl
theorem dr_te {s e : Nat} : te I (dr_M I s e) := te_trans te_93 te_93
theorem dr_o {s e k : Nat} (h : k ≠ 59) (h' : k ≠ 60) : dr_M I s e 93 k = I 93 k := by unfold dr_M; rw [am_uN (by omega), am_uN (by omega)]
theorem dr_59 {s e : Nat} : dr_M I s e 93 59 = nI s := by unfold dr_M; rw [am_uN (by omega), am_uE]
theorem dr_60 {s e : Nat} : dr_M I s e 93 60 = nI e := by unfold dr_M; rw [am_uE]
theorem dr_row {s e a : Nat} (h : a ≠ 93) : dr_M I s e a = I a := by unfold dr_M; rw [am_uRow h, am_uRow h]
theorem dr_dream {s e k : Nat} (hs : s < 8) (hk : k < 8) : m_dream (dr_M I s e) k = if k = s then nI e else I 106 k := by
  unfold m_dream
  rw [dr_59, dr_60, dr_row (by omega)]
  by_cases c : k = s
  · rw [if_pos c, if_pos (by rw [c])]
  · rw [if_neg c, if_neg (by rw [nI_eq (by omega) (by omega)]; exact c)]
theorem dr_okD {s e t : Nat} (hT : t_rel I t) (hs : s < m_nZ I) (he : e < m_nH I) : m_okD (dr_M I s e) := by
  have hok := hT.1.2.1
  have hZ5 := hok.2.2.1.2
  have hH8 := hok.1.2
  intro k hk
  rw [e_nZ dr_te] at hk
  rw [dr_dream (by omega) (by omega)]
  by_cases c : k = s
  · rw [if_pos c]; exact ⟨e, by omega, rfl⟩
  · rw [if_neg c]
    obtain ⟨_, _, _, _, h, hh, e⟩ := hT.2.2.2.2.2.2.2.2.1 k hk
    exact ⟨h, by omega, e⟩
theorem dr_house {s e t h : Nat} (hT : t_rel I t) (hs : s < m_nZ I) : ∃ z, z < m_nH I ∧ q_dt I s e h = nI z := by
  have hok := hT.1.2.1
  have hX := okX_start (W := m_g I 1) hT
  have := m_okW_Wj (M := dr_M I s e) (F := m_far (dr_M I s e) (I 128)) (b := false) (W := dr_W I) (h0 := 0) (e_okW dr_te hX.1) (by rw [e_nH dr_te]; exact hok.1.2) (h + 1) s (by rw [e_nZ dr_te]; exact hs)
  obtain ⟨z, hz, ez⟩ := this
  exact ⟨z, by rw [e_nH dr_te] at hz; exact hz, ez⟩
/-- the class tries dream after dream -/
theorem dr_step {rt rs rd rl rx nt nw nf s e : Nat} {x4 x3 : Int32} {o6 : Option Int32} {I1 : Nat → Nat → Int32} {J1 : Nat → Nat → Int64} (hT : t_rel I rt) (hid : m_idle I) (hsg : i_sig I) (hs : s < m_nZ I) (he : e < m_nH I)
    (hx : ∀ i, i < 32 → bt x3 i = q_st I i) (hi : ∀ c, (c < 61 ∨ c = 62 ∨ (72 ≤ c ∧ c ≤ 80) ∨ 93 ≤ c) → I1 c = I c) (hc : c_cache I I (rt + 15) (I1 63) (J1 64)) (h89 : ∀ h, h < 12 → I1 89 h = q_pl I s h e)
    (hQ : ∀ I2 J2 o6, (∀ c, (c < 61 ∨ c = 62 ∨ (72 ≤ c ∧ c ≤ 80) ∨ 93 ≤ c) → I2 c = I c) → c_cache I I (rt + 15) (I2 63) (J2 64) → (∀ h, h < 12 → I2 89 h = q_pl I s h (e + 1)) → am_V (d + 7) Q 87 22 [some (.ref 81), some (.ref rt), some (.int (nI s)), some (.int x3), some (.int (x4 ||| (if q_fit I s e then am_pw e else nI 0))), some (.int (nI (e + 1))), am_oi o6] [] (am_hp N (rt, rs, rd, rl, rx, rt, rt + 4, rt + 5) I2 J2)) :
    am_V (d + 7) Q 87 22 [some (.ref 81), some (.ref rt), some (.int (nI s)), some (.int x3), some (.int x4), some (.int (nI e)), am_oi o6] [] (am_hp N (rt, rs, rd, rl, rx, nt, nw, nf) I1 J1) := by
  have hT' := hT
  obtain ⟨⟨ht, hok, hst, hokL⟩, ⟨e0, e1, e2, e3, e4, e6⟩, ecat, ehn, esn, ese, ewy, efa, esl, ele, ema, ela, ebe, elw, eus, ekn, ero⟩ := hT'
  have hH8 := hok.1.2
  have hZ5 := hok.2.2.1.2
  have hte1 : te I I1 := fun a h1 h2 => hi a (by omega)
  have hm1 : m_eq I I1 := fun a h => hi a (by omega)
  have hT1 : t_rel I1 rt := e_trel hte1 (fun i hi' => hi _ (by omega)) ⟨hi 2001 (by omega), hi 2002 (by omega)⟩ hT
  rw [e_Tries_dreams_22 ht, am_ifd, hi rt (by omega), e0, hok.1.1, if_neg (by rw [nI_leI (by omega) (by omega)]; omega)]
  refine s_W_begin (W := m_g I 1) (by omega) hT1 ?_
  intro I2 b1 b2 b3 b4
  rw [g_start hm1] at b2
  have r2 : ∀ c, (c < 61 ∨ c = 62 ∨ (72 ≤ c ∧ c ≤ 80) ∨ 93 ≤ c) → I2 c = I c := fun c h => by rw [b1 c (by omega), hi c h]
  have hte2 : te I I2 := fun a h1 h2 => r2 a (by omega)
  have hm2 : m_eq I I2 := fun a h => r2 a (by omega)
  have hT2 : t_rel I2 rt := e_trel hte2 (fun i hi' => r2 _ (by omega)) ⟨r2 2001 (by omega), r2 2002 (by omega)⟩ hT
  have hid2 : m_idle I2 := f_idl (fun k _ _ => by rw [r2 93 (by omega)]) hid
  have b2' : cw_rel I (c_w I2 82) (dr_W I) := g_cw (fun a h => (hm1 a h).symm) b2
  rw [e_Tries_dreams_39 ht, s_N_suit (z := m_nZ I) ht (by omega) (by rw [r2 rt (by omega), e2]; exact hok.2.2.1.1) hZ5, e_Tries_dreams_51 ht, am_gI (by omega) (by omega), nI_clamp (by omega)]
  have hbell : ∀ h, h < m_nH I2 → I2 (82 + 5) h = dr_W I 9 h ∧ ∃ k, k ≤ 9 ∧ dr_W I 9 h = nI k := by
    intro h hh
    rw [g_nH hm2] at hh
    have := b2'.2.2.2.2.2.2.2.2.2 h hh
    rw [c_wI (by omega)] at this
    exact ⟨this, (okX_start (W := m_g I 1) hT).2.2.2.2 h hh⟩
  have henv0 := env_idle (w := 82) (F := I 128) (W := dr_W I) (by omega) hT2 hid2 hbell
  rw [g_nZ hm2] at henv0
  have srow : ∀ c, (c < 61 ∨ (62 ≤ c ∧ c < 69) ∨ 72 ≤ c) → c_suit I2 rt 82 (m_nZ I) c = I2 c := fun c h => su_row (by omega)
  generalize c_suit I2 rt 82 (m_nZ I) = S at henv0 srow ⊢
  have hteM : te I2 (dr_M I s e) := fun a h1 h2 => by rw [dr_row (by omega), r2 a (by omega)]
  have hf : ∀ k, k ≠ 59 → k ≠ 60 → dr_M I s e 93 k = I2 93 k := fun k h1 h2 => by rw [dr_o h1 h2, r2 93 (by omega)]
  have rS : ∀ c, c ≠ 71 → am_u S 71 s (nI e) c = S c := fun c h => am_uRow h
  have henv : c_env (am_u S 71 s (nI e)) (dr_M I s e) rt (rt + 4) (rt + 5) (m_far (dr_M I s e) (I 128)) false (dr_W I 9) (dr_W I 3 0) (dr_W I 3 0) := by
    have he' := henv0
    obtain ⟨_, _, eb, em, en, ed, edr, el, ef, ew, ewk, ebn, elr, eus, ero⟩ := he'
    refine env_x hteM henv0 (fun c h => rS c (by omega)) ⟨by omega, by omega⟩ ?_ ?_ ?_ ?_ ?_ ?_ ?_ ?_
    · rw [n_noise hteM ⟨hf _ (by omega) (by omega), hf _ (by omega) (by omega), hf _ (by omega) (by omega), hf _ (by omega) (by omega), hf _ (by omega) (by omega), hf _ (by omega) (by omega)⟩, rS 69 (by omega)]; exact en
    · rw [n_deep hteM ⟨hf _ (by omega) (by omega), hf _ (by omega) (by omega)⟩, rS 70 (by omega)]; exact ed
    · intro k hk
      rw [g_nZ hm2] at hk
      rw [dr_dream (by omega) (by omega)]
      by_cases c : k = s
      · subst c
        rw [am_uE, if_pos rfl]
        exact ⟨rfl, e, by omega, rfl⟩
      · have := edr k (by rw [g_nZ hm2]; exact hk)
        rw [m_dream_idle hid2 (by omega), r2 106 (by omega)] at this
        rw [am_uN (by omega), if_neg c]
        exact this
    · rw [n_light hteM ⟨hf _ (by omega) (by omega), hf _ (by omega) (by omega), hf _ (by omega) (by omega)⟩]
      intro k hk hr hhr
      have := el k hk hr hhr
      unfold cl_light at this ⊢
      rw [rS 61 (by omega), rS (rt + 12) (by omega)]; exact this
    · rw [n_far hteM ⟨hf _ (by omega) (by omega), hf _ (by omega) (by omega)⟩, rS (rt + 5) (by omega)]; exact ef
    · rw [n_way hteM ⟨hf _ (by omega) (by omega), hf _ (by omega) (by omega)⟩, rS (rt + 4) (by omega)]; exact ew
    · rw [rS 61 (by omega), hf _ (by omega) (by omega)]; exact ewk
    · rw [rS 61 (by omega)]; exact ebn
  have hteI : te I (dr_M I s e) := dr_te
  have hrel : cw_rel (dr_M I s e) (c_w (am_u S 71 s (nI e)) 82) (dr_W I) := by
    refine e_cw hteI (cw_82 (I1 := I2) ?_ b2')
    intro a j h1 h2 h3
    rw [am_uN (by omega), srow a (by omega)]
  have hX := okX_start (W := m_g I 1) hT
  refine s_T_walk (I := I) (M := dr_M I s e) (W := dr_W I) (h0 := 0) (j := 12) hteI hok henv hrel hX.1 (by rw [am_uN (by omega), srow 82 (by omega), b3]; rfl) rfl (by omega) (by omega) rfl (by rw [rS (rt + 19) (by omega), srow (rt + 19) (by omega), r2 (rt + 19) (by omega)]) (by rw [rS 63 (by omega), srow 63 (by omega), b1 63 (by omega)]; exact hc) ?_
  intro I5 J5 w1 w2 w3 w4 w5
  have r5 : ∀ c, (c < 61 ∨ c = 62 ∨ (72 ≤ c ∧ c ≤ 80) ∨ 93 ≤ c) → I5 c = I c := fun c h => by rw [w1 c (by omega) (by omega) (by omega), rS c (by omega), srow c (by omega), r2 c h]
  have p5 : ∀ k, k < 12 → I5 68 (5 * k + s) = q_dt I s e k := by
    intro k hk
    have := w5 k hk s hs
    rw [Nat.zero_add] at this
    exact this
  have h5 : ∀ h, h < 12 → I5 89 h = q_pl I s h e := by
    intro h hh
    rw [w1 89 (by omega) (by omega) (by omega), rS 89 (by omega), srow 89 (by omega), b1 89 (by omega), h89 h hh]
  rw [e_Tries_dreams_75 ht, s_Si_fit (e := e) hsg (fun a h1 h2 => r5 a (by omega)) (by omega) hx p5, am_asIe, e_Tries_dreams_88 ht, am_ifbn, am_pwe, show nI e + nI 1 = nI (e + 1) from nI_add _ _]
  have eS : ∀ h, q_pl I s h (e + 1) = q_pl I s h e ||| (if q_fit I s e then nI 1 <<< (q_dt I s e h &&& nI 31) else nI 0) := by
    intro h
    unfold q_pl
    rw [am_or_S, Nat.zero_add]
  by_cases c : q_fit I s e = false
  · rw [if_pos c]
    have := hQ I5 J5 o6 r5 w2 (fun h hh => by rw [eS, c, h5 h hh]; exact (am_or0 _).symm)
    rw [c, if_neg (by decide), am_or0] at this
    exact this
  · have ct : q_fit I s e = true := by
      cases g : q_fit I s e
      · exact absurd g c
      · rfl
    rw [if_neg c]
    have lp : ∀ k j, 12 = j + k → ∀ I6, (∀ a, a ≠ 89 → I6 a = I5 a) → (∀ h, h < 12 → I6 89 h = if h < j then q_pl I s h (e + 1) else q_pl I s h e) → am_V (d + 7) Q 87 106 [some (.ref 81), some (.ref rt), some (.int (nI s)), some (.int x3), some (.int (x4 ||| am_pw e)), some (.int (nI e)), some (.int (nI j))] [] (am_hp N (rt, rs, rd, rl, rx, rt, rt + 4, rt + 5) I6 J5) := by
      intro k
      induction k with
      | zero =>
        intro j hj I6 g1 g2
        obtain rfl : j = 12 := by omega
        rw [e_Tries_dreams_106 ht, am_ifd, if_pos (by decide +kernel), show nI e + nI 1 = nI (e + 1) from nI_add _ _]
        have := hQ I6 J5 (some (nI 12)) (fun c h => by rw [g1 c (by omega), r5 c h]) (by rw [g1 63 (by omega)]; exact w2) (fun h hh => by rw [g2 h hh, if_pos hh])
        rw [ct, if_pos rfl] at this
        exact this
      | succ k ih =>
        intro j hj I6 g1 g2
        rw [e_Tries_dreams_106 ht, am_ifd, if_neg (by rw [nI_leI (by omega) (by omega)]; omega), am_gI (by omega) (by omega), nI_clamp (by omega), s_N_stood (by omega) (by omega), am_asIe, e_Tries_dreams_132 ht, am_gI (by omega) (by omega), nI_clamp (by omega), g1 68 (by omega), p5 j (by omega), g2 j (by omega), if_neg (by omega), show nI j + nI 1 = nI (j + 1) from nI_add _ _]
        refine ih (j + 1) (by omega) _ (fun a ha => by rw [am_uRow ha, g1 a ha]) ?_
        intro h hh
        by_cases q : h = j
        · subst q
          rw [am_uE, if_pos (by omega), eS, ct, if_pos rfl]
        · rw [am_uN (by omega), g2 h hh]
          by_cases q2 : h < j
          · rw [if_pos q2, if_pos (by omega)]
          · rw [if_neg q2, if_neg (by omega)]
    exact lp 12 0 (by omega) I5 (fun _ _ => rfl) (fun h hh => by rw [if_neg (by omega)]; exact h5 h hh)
theorem s_T_dreams {rt rs rd rl rx nt nw nf s : Nat} (hv : i_inv (rt, rs, rd, rl, rx, nt, nw, nf) I J) (hs : s < m_nZ I)
    (hQ : ∀ I2 J2 nt' nw' nf', i_ref (rt, rs, rd, rl, rx, nt', nw', nf') → cfr I I2 → c_cache I I (rt + 15) (I2 63) (J2 64) → (∀ h, h < 12 → I2 89 h = q_pl I s h (m_nH I)) → Q (.int (am_mk1 (q_fit I s) (m_nH I))) (am_hp N (rt, rs, rd, rl, rx, nt', nw', nf') I2 J2)) :
    am_D (d + 8) 87 [.ref 81, .ref rt, .int (nI s)] (am_hp N (rt, rs, rd, rl, rx, nt, nw, nf) I J) Q := by
  obtain ⟨ht, hok, eH, eZ, eL, h0, h12, e49, e118⟩ := iv_ref hv
  have hH8 := hok.1.2
  have hsg := hv.2.2.2.2.2.2.1
  rw [e_Tries_dreams ht, s_J_fill (show am_TT N 89 = (1, 12) from rfl) (by omega), e_Tries_dreams_8 ht]
  have hF : ∀ a, a ≠ 89 → am_fl I 89 12 (nI 0) a = I a := by
    intro a ha
    funext j
    unfold am_fl
    rw [if_neg (by omega)]
  have hF9 : ∀ h, h < 12 → am_fl I 89 12 (nI 0) 89 h = nI 0 := by
    intro h hh
    unfold am_fl
    rw [if_pos (by omega)]
  have hsg1 : i_sig (am_fl I 89 12 (nI 0)) := f_sig (fun a h1 h2 => hF a (by omega)) (fun a h => hF a (by omega)) (by rw [hF 93 (by omega)]) (by rw [hF 93 (by omega)]) hsg
  generalize am_fl I 89 12 (nI 0) = I1 at hF hF9 hsg1 ⊢
  refine s_Si_standing hsg1 ?_
  intro x3 hx
  have ekn : q_kn I1 = q_kn I := by unfold q_kn; rw [hF 93 (by omega)]
  have hx' : ∀ i, i < 32 → bt x3 i = q_st I i := by
    intro i hi
    rw [hx i hi]
    unfold q_st
    rw [ekn, hF 135 (by omega)]
  rw [am_asIe, e_Tries_dreams_15 ht]
  have lp : ∀ k e, m_nH I = e + k → ∀ I2 J2 o6 nt' nw' nf', i_ref (rt, rs, rd, rl, rx, nt', nw', nf') → (∀ c, (c < 61 ∨ c = 62 ∨ (72 ≤ c ∧ c ≤ 80) ∨ 93 ≤ c) → I2 c = I c) → c_cache I I (rt + 15) (I2 63) (J2 64) → (∀ h, h < 12 → I2 89 h = q_pl I s h e) → am_V (d + 7) Q 87 22 [some (.ref 81), some (.ref rt), some (.int (nI s)), some (.int x3), some (.int (am_mk1 (q_fit I s) e)), some (.int (nI e)), am_oi o6] [] (am_hp N (rt, rs, rd, rl, rx, nt', nw', nf') I2 J2) := by
    intro k
    induction k with
    | zero =>
      intro e he I2 J2 o6 nt' nw' nf' k0 k1 k2 k3
      obtain rfl : e = m_nH I := by omega
      rw [e_Tries_dreams_22 ht, am_ifd, k1 rt (by omega), eH, if_pos (by rw [nI_leI (by omega) (by omega)]; omega)]
      exact hQ I2 J2 nt' nw' nf' k0 ⟨fun a ha => k1 a (by omega), fun a ha => k1 a (by omega)⟩ k2 k3
    | succ k ih =>
      intro e he I2 J2 o6 nt' nw' nf' k0 k1 k2 k3
      refine dr_step hv.2.1 hv.2.2.1 hsg hs (by omega) hx' k1 k2 k3 ?_
      intro I3 J3 o6' g1 g2 g3
      exact ih (e + 1) (by omega) I3 J3 o6' _ _ _ (ref_t hv.1 ht) g1 g2 g3
  refine lp (m_nH I) 0 (by omega) I1 J none nt nw nf hv.1 (fun c h => hF c (by omega)) (by rw [hF 63 (by omega)]; exact hv.2.2.2.2.2.2.2.2.2) ?_
  intro h hh
  rw [hF9 h hh]
  rfl
end
