/-! ===== L3: match ===== -/
section
variable {d N : Nat} {Q : Value → am_H → Prop} {r : am_rho} {I : Nat → Nat → Int32} {J : Nat → Nat → Int64}
/-- the first way by which all arrive, and who has the letter then -/
def q_mv (I : Nat → Nat → Int32) (l : Nat) : Int32 :=
  let m := ml_c I (m_nL I)
  if 4 < m then -nI 3 else if fa_first (q_ma I m) (m_nZ I ^ m) < m_nZ I ^ m then nI (dg (m_nZ I) m (fa_first (q_ma I m) (m_nZ I ^ m)) (ml_c I l)) else -nI 2
theorem pw_le {z m : Nat} (hz : z ≤ 5) (hm : m ≤ 4) : z ^ m ≤ 625 := by
  have h1 : z ^ m ≤ 5 ^ m := Nat.pow_le_pow_left hz m
  have h2 : 5 ^ m ≤ 5 ^ 4 := Nat.pow_le_pow_right (by omega) hm
  omega
theorem c_carrier {rt rs rd rl rx nt nw nf lt : Nat} (hv : i_inv (rt, rs, rd, rl, rx, nt, nw, nf) I J) (hlt : lt < m_nL I) (hlp : ml_p I lt = true)
    (hQ : ∀ I' J' nt' nw' nf', i_ref (rt, rs, rd, rl, rx, nt', nw', nf') → cfr I I' → c_cache I I (rt + 15) (I' 63) (J' 64) → Q (.int (q_mv I lt)) (am_hp N (rt, rs, rd, rl, rx, nt', nw', nf') I' J')) :
    am_D (d + 9) 82 [.ref 81, .ref rt, .int (nI lt)] (am_hp N (rt, rs, rd, rl, rx, nt, nw, nf) I J) Q := by
  obtain ⟨ht, hok, eH, eZ, eL, h0, h12, e49, e118⟩ := iv_ref hv
  have hbell := iv_bell hv
  have hv0 := hv
  obtain ⟨href, htr, hid, hnow, himg, hund, hsig, htap, hflt, hca⟩ := hv
  have hH8 := hok.1.2
  have hZ5 := hok.2.2.1.2
  have hL8 := hok.2.2.2.1.2
  have hz : 0 < m_nZ I := by
    obtain ⟨s, hs, _⟩ := htr.1.2.2.2 lt hlt
    omega
  have elie : ∀ l, l < m_nL I → ∀ I1 : Nat → Nat → Int32, I1 52 = I 52 → (q_row (I1 52) 8 l = -nI 1 ↔ ml_p I l = false) := by
    intro l hl I1 e52
    have := lie_eq hnow.1 hnow.2.2 hL8 hH8 hl
    have e3 : c_w I 49 3 = I 52 := by funext j; rw [c_wI (by omega)]
    rw [e3] at this
    obtain ⟨e6, e7⟩ := iv_67 (I := I) (show l < 8 by omega)
    rw [e52, this, e6]
    unfold ml_p
    by_cases c : I 124 l = nI 0
    · rw [if_pos c, decide_eq_true c]
      constructor
      · intro g
        rcases hnow.2.2.2.2.1 l hl with ⟨_, h, hh, e⟩ | ⟨q, _⟩ | ⟨q, _⟩
        · rw [e] at g; exact absurd g (am_neg1' (by omega))
        · rw [e6, c] at q; exact absurd q n01
        · rw [e6, c] at q; exact absurd q n02
      · intro g; cases g
    · rw [if_neg c, decide_eq_false c]
      exact ⟨fun _ => rfl, fun _ => rfl⟩
  -- behind the letters
  have fin : ∀ I1 x6, ml_c I (m_nL I) ≤ 4 → (∀ c, c ≠ 88 → I1 c = I c) → (∀ l, l < m_nL I → ml_p I l = true → I1 88 (ml_c I l) = nI l) → am_D (d + 8) 20 [.ref 61, .ref rt, .ref 49] (am_hp N (rt, rs, rd, rl, rx, nt, nw, nf) I1 J) (fun v h => am_V (d + 8) Q 82 96 [some (.ref 81), some (.ref rt), some (.int (nI lt)), some (.int (nI (ml_c I (m_nL I)))), some (.int (nI (ml_c I lt))), some (.int (nI (m_nZ I ^ ml_c I (m_nL I)))), some (.int x6)] [] h) := by
    intro I1 x6 hm4 g1 g2
    have hp := pw_le (z := m_nZ I) (m := ml_c I (m_nL I)) hZ5 hm4
    have hcl : ml_c I lt < ml_c I (m_nL I) := cnt_lt hlt hlp
    have hT1 : t_rel I1 rt := e_trel (fun a h1 h2 => g1 a (by omega)) (fun i hi' => g1 _ (by omega)) ⟨g1 2001 (by omega), g1 2002 (by omega)⟩ htr
    have hm1 : m_eq I I1 := fun a h => g1 a (by omega)
    have hid1 : m_idle I1 := f_idl (fun k _ _ => by rw [g1 93 (by omega)]) hid
    have hbell1 : ∀ h, h < m_nH I1 → I1 (49 + 5) h = m_g I 0 9 h ∧ ∃ k, k ≤ 9 ∧ m_g I 0 9 h = nI k := by
      intro h hh
      rw [g_nH hm1] at hh
      rw [g1 (49 + 5) (by omega)]
      exact hbell h hh
    have henv1 := env_idle (w := 49) (F := I 128) (W := m_g I 0) (by omega) hT1 hid1 hbell1
    rw [g_nZ hm1, g_far hm1] at henv1
    rw [s_N_suit (z := m_nZ I) ht (by omega) (by rw [g1 rt (by omega)]; exact eZ) hZ5, e_Tries_carrier_96 ht]
    have srow1 : ∀ c, (c < 61 ∨ (62 ≤ c ∧ c < 69) ∨ 72 ≤ c) → c_suit I1 rt 49 (m_nZ I) c = I1 c := fun c h => su_row (by omega)
    generalize c_suit I1 rt 49 (m_nZ I) = S at henv1 srow1 ⊢
    have srow : ∀ c, (c < 61 ∨ c = 62 ∨ (63 ≤ c ∧ c < 69) ∨ (72 ≤ c ∧ c ≠ 88)) → S c = I c := fun c h => by rw [srow1 c (by omega), g1 c (by omega)]
    have h88 : ∀ l, l < m_nL I → ml_p I l = true → S 88 (ml_c I l) = nI l := fun l hl hp => by rw [srow1 88 (by omega)]; exact g2 l hl hp
    have henv0 : c_env S I rt (rt + 4) (rt + 5) (m_far I (I 128)) false (m_g I 0 9) (m_g I 0 3 0) (m_g I 0 3 0) := by
      have he' := henv1
      obtain ⟨_, _, eb, em, en, ed, edr, el, ef, ew, ewk, ebn, elr, eus, ero⟩ := he'
      have hte : te I1 I := fun a h1 h2 => (g1 a (by omega)).symm
      have e93 : I1 93 = I 93 := g1 93 (by omega)
      refine env_x hte henv1 (fun c h => rfl) ⟨by omega, by omega⟩ ?_ ?_ ?_ ?_ ef ?_ ?_ ebn
      · rw [n_noise hte ⟨by rw [e93], by rw [e93], by rw [e93], by rw [e93], by rw [e93], by rw [e93]⟩]; exact en
      · rw [n_deep hte ⟨by rw [e93], by rw [e93]⟩]; exact ed
      · rw [n_dream hte ⟨by rw [e93], by rw [e93]⟩]; exact edr
      · rw [n_light hte ⟨by rw [e93], by rw [e93], by rw [e93]⟩]; exact el
      · rw [n_way hte ⟨by rw [e93], by rw [e93]⟩]; exact ew
      · rw [← e93]; exact ewk
    have done : ∀ I' J' v, v = q_mv I lt → (∀ c, c ≠ 63 → c ≠ 68 → (c < 82 ∨ 87 < c) → I' c = S c) → c_cache I I (rt + 15) (I' 63) (J' 64) → Q (.int v) (am_hp N (rt, rs, rd, rl, rx, rt, rt + 4, rt + 5) I' J') := by
      intro I' J' v ev k1 k2
      rw [ev]
      refine hQ I' J' _ _ _ (ref_t href ht) ⟨?_, ?_⟩ k2
      · intro c hc
        rw [k1 c (by omega) (by omega) (by omega), srow c (by omega)]
      · intro c hc
        rw [k1 c (by omega) (by omega) (by omega), srow c (by omega)]
    have lp : ∀ k w, m_nZ I ^ ml_c I (m_nL I) = w + k → (∀ i, i < w → q_ma I (ml_c I (m_nL I)) i = false) → ∀ I2 J2, (∀ c, c ≠ 63 → c ≠ 68 → (c < 82 ∨ 87 < c) → I2 c = S c) → c_cache I I (rt + 15) (I2 63) (J2 64) → am_V (d + 8) Q 82 99 [some (.ref 81), some (.ref rt), some (.int (nI lt)), some (.int (nI (ml_c I (m_nL I)))), some (.int (nI (ml_c I lt))), some (.int (nI (m_nZ I ^ ml_c I (m_nL I)))), some (.int (nI w))] [] (am_hp N (rt, rs, rd, rl, rx, rt, rt + 4, rt + 5) I2 J2) := by
      intro k
      induction k with
      | zero =>
        intro w hw hn I2 J2 k1 k2
        rw [e_Tries_carrier_99 ht, am_ifd, if_pos (by rw [nI_leI (by omega) (by omega)]; omega)]
        refine done I2 J2 _ ?_ k1 k2
        unfold q_mv
        dsimp only
        rw [if_neg (by omega), fa_first_none (fun i hi => hn i (by omega)), if_neg (by omega)]
      | succ k ih =>
        intro w hw hn I2 J2 k1 k2
        rw [e_Tries_carrier_99 ht, am_ifd, if_neg (by rw [nI_leI (by omega) (by omega)]; omega)]
        refine ma_try hv0 hz rfl hm4 (by omega) henv0 srow k1 h88 k2 ?_
        intro I3 J3 g3 g4
        rw [am_asIe, e_Tries_carrier_114 ht, am_ifb, show nI w + nI 1 = nI (w + 1) from nI_add _ _]
        cases c : q_ma I (ml_c I (m_nL I)) w with
        | false =>
          rw [if_pos rfl]
          exact ih (w + 1) (by omega) (ch_find hn c) I3 J3 g3 g4
        | true =>
          rw [if_neg (by decide), am_subN (by omega), am_subN (by omega), s_T_sleeperOf ht (by rw [g3 rt (by omega) (by omega) (by omega), srow rt (by omega)]; exact eZ) hz hZ5 (by omega) (by omega), am_asIe, e_Tries_carrier_129 ht]
          refine done I3 J3 _ ?_ g3 g4
          unfold q_mv
          dsimp only
          rw [if_neg (by omega), fa_first_step (by omega) hn c, if_pos (by omega)]
          rfl
    exact lp (m_nZ I ^ ml_c I (m_nL I)) 0 (by omega) (fun i hi => by omega) S J (fun _ _ _ _ => rfl) (by rw [srow 63 (by omega)]; exact hca)
  rw [e_Tries_carrier ht]
  have lp : ∀ k j, m_nL I = j + k → ml_c I j ≤ 4 → ∀ I1, (∀ c, c ≠ 88 → I1 c = I c) → (∀ l, l < j → ml_p I l = true → I1 88 (ml_c I l) = nI l) → am_V (d + 8) Q 82 11 [some (.ref 81), some (.ref rt), some (.int (nI lt)), some (.int (nI (ml_c I j))), some (.int (nI (if lt < j then ml_c I lt else 0))), some (.int (nI (m_nZ I ^ ml_c I j))), some (.int (nI j))] [] (am_hp N (rt, rs, rd, rl, rx, nt, nw, nf) I1 J) := by
    intro k
    induction k with
    | zero =>
      intro j hj h4 I1 g1 g2
      obtain rfl : j = m_nL I := by omega
      rw [e_Tries_carrier_11 ht, am_ifd, g1 rt (by omega), eL, if_pos (by rw [nI_leI (by omega) (by omega)]; omega), if_pos hlt]
      exact fin I1 _ h4 g1 g2
    | succ k ih =>
      intro j hj h4 I1 g1 g2
      have hS : ml_c I (j + 1) = ml_c I j + (ml_p I j).toNat := fa_cnt_succ
      rw [e_Tries_carrier_11 ht, am_ifd, g1 rt (by omega), eL, if_neg (by rw [nI_leI (by omega) (by omega)]; omega), s_W_lyingIn (by omega) (by omega), am_asIe, e_Tries_carrier_29 ht, am_ifn, show 49 + 3 = 52 from rfl, show nI j + nI 1 = nI (j + 1) from nI_add _ _]
      have hle := elie j (by omega) I1 (g1 52 (by omega))
      cases c : ml_p I j with
      | false =>
        rw [if_pos (hle.mpr c)]
        rw [c, show false.toNat = 0 from rfl, Nat.add_zero] at hS
        have := ih (j + 1) (by omega) (by omega) I1 g1 (fun l hl hp => by
          by_cases e : l = j
          · subst e; rw [c] at hp; cases hp
          · exact g2 l (by omega) hp)
        have ei : (if lt < j + 1 then ml_c I lt else 0) = if lt < j then ml_c I lt else 0 := by
          by_cases q : lt < j
          · rw [if_pos q, if_pos (by omega)]
          · rw [if_neg q, if_neg]
            intro q2
            have : lt = j := by omega
            rw [this, c] at hlp
            cases hlp
        rw [hS, ei] at this
        exact this
      | true =>
        rw [if_neg (fun g => by have := hle.mp g; rw [c] at this; cases this), am_ifd]
        rw [c, show true.toNat = 1 from rfl] at hS
        by_cases c4 : ml_c I j < 4
        · have ei : (if lt < j + 1 then ml_c I lt else 0) = if j = lt then ml_c I j else if lt < j then ml_c I lt else 0 := by
            by_cases q : j = lt
            · rw [if_pos q, if_pos (by omega), q]
            · rw [if_neg q]
              by_cases q2 : lt < j
              · rw [if_pos q2, if_pos (by omega)]
              · rw [if_neg q2, if_neg (by omega)]
          have := ih (j + 1) (by omega) (by omega) (am_u I1 88 (ml_c I j) (nI j)) (fun c hc => by rw [am_uRow hc, g1 c hc]) (fun l hl hp => by
            by_cases e : l = j
            · subst e; rw [am_uE]
            · have hlt' : ml_c I l < ml_c I j := cnt_lt (show l < j by omega) hp
              rw [am_uN (by omega)]; exact g2 l (by omega) hp)
          rw [hS, ei, Nat.pow_succ] at this
          rw [if_pos (by rw [nI_ltI (by omega) (by omega)]; exact c4), am_ifn, am_gI (by omega) (by omega), nI_clamp (by omega), am_uRow (show rt ≠ 88 by omega), g1 rt (by omega), eZ, am_mulN, nI_add]
          by_cases q : j = lt
          · rw [if_pos (by rw [q])]
            rw [if_pos q] at this
            exact this
          · rw [if_neg (by rw [nI_eq (by omega) (by omega)]; exact q), am_gI (by omega) (by omega)]
            rw [if_neg q] at this
            exact this
        · rw [if_neg (by rw [nI_ltI (by omega) (by omega)]; exact c4)]
          have hm : 4 < ml_c I (m_nL I) := by
            have : ml_c I j < ml_c I (m_nL I) := cnt_lt (show j < m_nL I by omega) c
            omega
          have hq := hQ I1 J nt nw nf href ⟨fun a ha => g1 a (by omega), fun a ha => g1 a (by omega)⟩ (by rw [g1 63 (by omega)]; exact hca)
          unfold q_mv at hq
          dsimp only at hq
          rw [if_pos hm] at hq
          exact hq
  have := lp (m_nL I) 0 (by omega) (by show 0 ≤ 4; omega) I (fun _ _ => rfl) (fun l hl => by omega)
  exact this
/-! the model's -/
def mm_inv (I : Nat → Nat → Int32) (J : Nat → Nat → Int64) (m k P : Nat) (M : Nat → Nat → Int32) (J2 : Nat → Nat → Int64) : Prop :=
  mtd I M ∧ (∀ i, i ≠ 39 → i ≠ 68 → M 93 i = I 93 i) ∧ M 93 68 = nI m ∧ J2 64 = J 64 ∧ (∀ l, l < m_nL I → ml_p I l = true → M 130 (ml_c I l) = nI l) ∧ (∀ i, i < k → M 131 i = nI (dg (m_nZ I) k P i))
theorem s_M_allArrive {m w : Nat} {M : Nat → Nat → Int32} {J2 : Nat → Nat → Int64} (hv : i_inv r I J) (hz : 0 < m_nZ I) (hm : m = ml_c I (m_nL I)) (hm4 : m ≤ 4) (hi : mm_inv I J m m w M J2)
    (hQ : ∀ M' J', mm_inv I J m m w M' J' → Q (.int (nI (q_ma I m w).toNat)) (am_hp N r M' J')) : am_D (d + 9) 246 [.ref 93] (am_hp N r M J2) Q := by
  obtain ⟨rt, rs, rd, rl, rx, nt, nw, nf⟩ := r
  obtain ⟨ht, hok, eH, eZ, eL, h0, h12, e49, e118⟩ := iv_ref hv
  obtain ⟨href, htr, hid, hnow, himg, hund, hsig, htap, hflt, hca⟩ := hv
  have hH8 := hok.1.2
  have hZ5 := hok.2.2.1.2
  have hL8 := hok.2.2.2.1.2
  have hst := htr.1.2.2.1
  obtain ⟨i1, i2, i3, i4, i5, i6⟩ := hi
  have hte := mt_te i1
  have eg := mt_g0 i1
  have hD : m_okD M := by
    intro s hs
    rw [e_nZ hte] at hs
    rw [n_dream hte ⟨i2 59 (by omega) (by omega), i2 60 (by omega) (by omega)⟩, m_dream_idle hid (by omega)]
    obtain ⟨_, _, _, _, h, hh, e⟩ := htr.2.2.2.2.2.2.2.2.1 s hs
    exact ⟨h, by omega, e⟩
  have he2 : m_e2 I M := ⟨fun a h1 h2 => i1.1 a (by omega), fun k h1 h2 => i2 k (by omega) (by omega)⟩
  rw [e_M_allArrive, m_idM (I := M) (n := 1), s_M_copies (by omega) (by omega) (by omega), e_M_allArrive_6, eg]
  have hcnt : ∀ i, i < m → ∃ l, l < m_nL I ∧ ml_p I l = true ∧ ml_c I l = i := fun i hi => cnt_ex (p := ml_p I) (m_nL I) i (by rw [show fa_cnt (ml_p I) (m_nL I) = m from hm.symm]; exact hi)
  have w0 : mw_W I m w 0 = m_g I 0 := by
    funext f l; unfold mw_W; rw [if_neg (by omega)]
  rw [← w0]
  have lp : ∀ k j, m = j + k → am_V (d + 8) Q 246 8 [some (.ref 93), some (.int (nI j))] [] (am_hp N (rt, rs, rd, rl, rx, nt, nw, nf) (m_M M 1 (mw_W I m w j) (M 93 39) (M 128) (M 129)) (m_J J2 (J2 116) (J2 117))) := by
    intro k
    induction k with
    | zero =>
      intro j hj
      obtain rfl : j = m := by omega
      rw [e_M_allArrive_8, am_ifd, m_Mo (by omega), i3, if_pos (by rw [nI_leI (by omega) (by omega)]; omega)]
      refine s_M_goesThrough (h0 := h0) (e_ok hte hok) (m_okS_of (e_stok hte hst)) hD (e_okW hte (fun s hs => by rw [mw_k (by omega)]; exact hnow.2.2.1 s hs)) h12 (by rw [mw_k (by omega)]; exact e118) ?_
      intro v' nm' wk'
      have ef : m_Wj M (m_far M (M 128)) false (mw_W I j w j) h0 (12 - h0) = q_mf I j w := by
        unfold q_mf
        rw [k_Wj he2, k_far he2, mt_far i1 hst hH8, e118, nI_clamp (by omega)]
      rw [ef, e_M_allArrive_51]
      have hinv : mm_inv I J j j w (m_M M 1 (q_mf I j w) v' (m_far M (M 128)) (m_Tj M (m_far M (M 128)) false (mw_W I j w j) (M 129) h0 (12 - h0))) (m_J J2 nm' wk') := by
        refine ⟨mt_M i1 (fun k hk => m_far_hi (e_stok hte hst) (by rw [e_nH hte]; exact hH8) hk), fun i h1 h2 => by rw [m_Mo (by omega), i2 i h1 h2], by rw [m_Mo (by omega)]; exact i3, i4, fun l hl hp => by rw [m_Mo (by omega)]; exact i5 l hl hp, fun i hi => by rw [m_Mo (by omega)]; exact i6 i hi⟩
      have e6 : ∀ l, l < 8 → m_M M 1 (q_mf I j w) v' (m_far M (M 128)) (m_Tj M (m_far M (M 128)) false (mw_W I j w j) (M 129) h0 (12 - h0)) 124 (8 + l) = q_mf I j w 6 l := fun l hl => by rw [show 8 + l = 8 * 1 + l by omega, m_M6 hl]
      generalize m_M M 1 (q_mf I j w) v' (m_far M (M 128)) (m_Tj M (m_far M (M 128)) false (mw_W I j w j) (M 129) h0 (12 - h0)) = M3 at hinv e6 ⊢
      generalize m_J J2 nm' wk' = J3 at hinv ⊢
      have hq := hQ M3 J3 hinv
      have lq : ∀ k i, j = i + k → (∀ l, l < m_nL I → ml_p I l = true → ml_c I l < i → q_mf I j w 6 l = nI 2) → am_V (d + 8) Q 246 53 [some (.ref 93), some (.int (nI i))] [] (am_hp N (rt, rs, rd, rl, rx, nt, nw, nf) M3 J3) := by
        intro k
        induction k with
        | zero =>
          intro i hi' g
          obtain rfl : i = j := by omega
          rw [e_M_allArrive_53, am_ifd, hinv.2.2.1, if_pos (by rw [nI_leI (by omega) (by omega)]; omega)]
          have : q_ma I i w = true := by
            unfold q_ma
            rw [nbad_iff]
            intro l hl
            cases c : ml_p I l
            · rfl
            · rw [g l hl c (by rw [hm]; exact cnt_lt hl c), decide_eq_true rfl]; rfl
          rw [this] at hq
          exact hq
        | succ k ih =>
          intro i hi' g
          obtain ⟨l, hl, hp, hcl⟩ := hcnt i (by omega)
          have e130 : M3 130 i = nI l := by rw [← hcl]; exact hinv.2.2.2.2.1 l hl hp
          rw [e_M_allArrive_53, am_ifd, hinv.2.2.1, if_neg (by rw [nI_leI (by omega) (by omega)]; omega), am_gI (by omega) (by omega), nI_clamp (show i < 2 ^ 31 by omega), e130, nI_add, am_gI (by omega) (by omega), nI_clamp (by omega), e6 l (by omega), am_ifd, show nI i + nI 1 = nI (i + 1) from nI_add _ _]
          by_cases c : q_mf I j w 6 l = nI 2
          · rw [if_pos c]
            refine ih (i + 1) (by omega) ?_
            intro l' hl' hp' hc'
            by_cases e : ml_c I l' < i
            · exact g l' hl' hp' e
            · have : l' = l := cnt_inj hp' hp (by have := hcl; unfold ml_c at *; omega)
              rw [this]; exact c
          · rw [if_neg c]
            have : q_ma I j w = false := by
              cases q : q_ma I j w
              · rfl
              · unfold q_ma at q
                have := (nbad_iff _).mp q l hl
                try dsimp only at this
                rw [hp, decide_eq_false c] at this
                cases this
            rw [this] at hq
            exact hq
      exact lq j 0 (by omega) (fun l hl hp hc => by omega)
    | succ k ih =>
      intro j hj
      obtain ⟨l, hl, hp, hcl⟩ := hcnt j (by omega)
      have hdl := dg_lt (z := m_nZ I) (m := m) (w := w) (i := j) hz
      have e130 : M 130 j = nI l := by rw [← hcl]; exact i5 l hl hp
      rw [e_M_allArrive_8, am_ifd, m_Mo (by omega), i3, if_neg (by rw [nI_leI (by omega) (by omega)]; omega), am_gI (by omega) (by omega), am_gI (by omega) (by omega), nI_clamp (show j < 2 ^ 31 by omega), m_Mo (by omega), m_Mo (by omega), m_Mo (by omega), i6 j (by omega), e130, nI_add, am_gI (by omega) (by omega), am_gI (by omega) (by omega), nI_clamp (by omega), nI_clamp (by omega), show 8 + l = 8 * 1 + l by omega, m_w7 (by omega), i1.1 104 (by omega), show nI j + nI 1 = nI (j + 1) from nI_add _ _]
      have eS : am_u (mw_W I m w j) 7 l (I 104 (dg (m_nZ I) m w j)) = mw_W I m w (j + 1) := by
        funext f l'
        unfold am_u
        by_cases c : f = 7 ∧ l' = l
        · rw [if_pos c]
          unfold mw_W
          rw [if_pos ⟨c.1, by rw [c.2]; exact hl, by rw [c.2]; exact hp, by rw [c.2, hcl]; omega⟩, c.2, hcl]
        · rw [if_neg c]
          unfold mw_W
          by_cases c2 : f = 7 ∧ l' < m_nL I ∧ ml_p I l' = true ∧ ml_c I l' < j
          · rw [if_pos c2, if_pos ⟨c2.1, c2.2.1, c2.2.2.1, by omega⟩]
          · rw [if_neg c2, if_neg]
            intro g
            by_cases e : ml_c I l' < j
            · exact c2 ⟨g.1, g.2.1, g.2.2.1, e⟩
            · have : l' = l := cnt_inj g.2.2.1 hp (by have := hcl; have := g.2.2.2; unfold ml_c at *; omega)
              exact c ⟨g.1, this⟩
      rw [eS]
      exact ih (j + 1) (by omega)
  exact lp m 0 (by omega)
/-- the model's search -/
theorem s_M_matches {m : Nat} (hv : i_inv r I J) (hz : 0 < m_nZ I) (hm : m = ml_c I (m_nL I)) (hm4 : m ≤ 4) : ∀ (j k P : Nat) (Q : Value → am_H → Prop) (M : Nat → Nat → Int32) (J2 : Nat → Nat → Int64), m = k + j → mm_inv I J m k P M J2 →
    (∀ w M' J', P * m_nZ I ^ j ≤ w → w < (P + 1) * m_nZ I ^ j → q_ma I m w = true → (∀ w', P * m_nZ I ^ j ≤ w' → w' < w → q_ma I m w' = false) → mm_inv I J m m w M' J' → Q (.int (nI 1)) (am_hp N r M' J')) →
    (∀ M' J', (∀ w', P * m_nZ I ^ j ≤ w' → w' < (P + 1) * m_nZ I ^ j → q_ma I m w' = false) → mm_inv I J m k P M' J' → Q (.int (nI 0)) (am_hp N r M' J')) →
    am_D (d + 10 + j) 247 [.ref 93, .int (nI k)] (am_hp N r M J2) Q := by
  have hok : m_ok I := hv.2.1.1.2.1
  have hZ5 := hok.2.2.1.2
  intro j
  induction j with
  | zero =>
    intro k P Q M J2 hj hi hY hN
    obtain rfl : k = m := by omega
    rw [show d + 10 + 0 = d + 9 + 1 by omega, e_M_matches, am_ifn, hi.2.2.1, if_pos rfl]
    refine s_M_allArrive hv hz hm hm4 hi ?_
    intro M' J' hi'
    rw [am_asIe, e_M_matches_12]
    rw [Nat.pow_zero, Nat.mul_one, Nat.mul_one] at hY hN
    cases c : q_ma I k P with
    | false =>
      show Q (.int (nI 0)) _
      refine hN M' J' ?_ hi'
      intro w' h1 h2
      rw [show w' = P by omega]; exact c
    | true =>
      show Q (.int (nI 1)) _
      exact hY P M' J' (by omega) (by omega) c (fun w' h1 h2 => by omega) hi'
  | succ j ih =>
    intro k P Q M J2 hj hi hY hN
    rw [show d + 10 + (j + 1) = d + 10 + j + 1 by omega, e_M_matches, am_ifn, hi.2.2.1, if_neg (by rw [nI_eq (by omega) (by omega)]; omega)]
    have epw : m_nZ I ^ (j + 1) = m_nZ I * m_nZ I ^ j := by rw [Nat.pow_succ, Nat.mul_comm]
    have est : ∀ s, (P * m_nZ I + s) * m_nZ I ^ j = P * m_nZ I ^ (j + 1) + s * m_nZ I ^ j := by
      intro s; rw [Nat.add_mul, Nat.mul_assoc, epw]
    have hend : (P + 1) * m_nZ I ^ (j + 1) = P * m_nZ I ^ (j + 1) + m_nZ I * m_nZ I ^ j := by rw [Nat.add_mul, Nat.one_mul, epw]
    have lp : ∀ n s, m_nZ I = s + n → ∀ M J2, mm_inv I J m k P M J2 → (∀ w', P * m_nZ I ^ (j + 1) ≤ w' → w' < P * m_nZ I ^ (j + 1) + s * m_nZ I ^ j → q_ma I m w' = false) → am_V (d + 10 + j) Q 247 15 [some (.ref 93), some (.int (nI k)), some (.int (nI s))] [] (am_hp N r M J2) := by
      intro n
      induction n with
      | zero =>
        intro s hs M J2 hi hf
        have e95 : M 95 2 = nI (m_nZ I) := by rw [hi.1.1 95 (by omega)]; exact hok.2.2.1.1
        rw [e_M_matches_15, am_ifd, e95, if_pos (by rw [nI_leI (by omega) (by omega)]; omega)]
        refine hN M J2 ?_ hi
        intro w' h1 h2
        refine hf w' h1 ?_
        rw [hend] at h2
        rw [show s = m_nZ I by omega]; exact h2
      | succ n ihn =>
        intro s hs M J2 hi hf
        have e95 : M 95 2 = nI (m_nZ I) := by rw [hi.1.1 95 (by omega)]; exact hok.2.2.1.1
        obtain ⟨a1, a2, a3, a4, a5, a6⟩ := hi
        have hsz : s < m_nZ I := by omega
        rw [e_M_matches_15, am_ifd, e95, if_neg (by rw [nI_leI (by omega) (by omega)]; omega), am_gI (by omega) (by omega), nI_clamp (by omega), show nI k + nI 1 = nI (k + 1) from nI_add _ _]
        refine ih (k + 1) (P * m_nZ I + s) _ _ _ (by omega) ⟨mt_row a1 (by omega), fun i h1 h2 => by rw [am_uN (by omega), a2 i h1 h2], by rw [am_uN (by omega)]; exact a3, a4, fun l hl hp => by rw [am_uN (by omega)]; exact a5 l hl hp, ?_⟩ ?_ ?_
        · intro i hi'
          by_cases c : i = k
          · subst c; rw [am_uE, dg_0 hsz]
          · rw [am_uN (by omega), a6 i (by omega), dg_S hsz (by omega)]
        · intro w M' J' h1 h2 h3 h4 h5
          rw [est] at h1 h4
          have e2 : (P * m_nZ I + s + 1) * m_nZ I ^ j = P * m_nZ I ^ (j + 1) + (s + 1) * m_nZ I ^ j := by rw [Nat.add_assoc, est]
          rw [e2] at h2
          rw [am_asIe, e_M_matches_39, am_ifd, if_neg n10]
          refine hY w M' J' (by omega) ?_ h3 ?_ h5
          · rw [hend]
            have : (s + 1) * m_nZ I ^ j ≤ m_nZ I * m_nZ I ^ j := Nat.mul_le_mul_right _ (by omega)
            omega
          · intro w' g1 g2
            by_cases c : w' < P * m_nZ I ^ (j + 1) + s * m_nZ I ^ j
            · exact hf w' g1 c
            · exact h4 w' (by omega) g2
        · intro M' J' h1 h2
          have e2 : (P * m_nZ I + s + 1) * m_nZ I ^ j = P * m_nZ I ^ (j + 1) + (s + 1) * m_nZ I ^ j := by rw [Nat.add_assoc, est]
          rw [est, e2] at h1
          rw [am_asIe, e_M_matches_39, am_ifd, if_pos rfl, show nI s + nI 1 = nI (s + 1) from nI_add _ _]
          obtain ⟨b1, b2, b3, b4, b5, b6⟩ := h2
          refine ihn (s + 1) (by omega) M' J' ⟨b1, b2, b3, b4, b5, ?_⟩ ?_
          · intro i hi'
            rw [b6 i (by omega), dg_S hsz hi']
          · intro w' g1 g2
            by_cases c : w' < P * m_nZ I ^ (j + 1) + s * m_nZ I ^ j
            · exact hf w' g1 c
            · exact h1 w' (by omega) g2
    exact lp (m_nZ I) 0 (by omega) M J2 hi (fun w' h1 h2 => by omega)
theorem m_match {lt : Nat} (hv : i_inv r I J) (hlt : lt < m_nL I) (hlp : ml_p I lt = true) (hQ : ∀ I' J', mfr I I' → J' 64 = J 64 → Q (.int (q_mv I lt)) (am_hp N r I' J')) :
    am_V (d + 14) Q 248 45 [some (.ref 93), some (.int (nI lt)), some (.int (-nI 1)), some (.int (nI 0))] [] (am_hp N r (am_u I 93 68 (nI 0)) J) := by
  have hok : m_ok I := hv.2.1.1.2.1
  have hZ5 := hok.2.2.1.2
  have hL8 := hok.2.2.2.1.2
  have hz : 0 < m_nZ I := by
    obtain ⟨s, hs, _⟩ := hv.2.1.1.2.2.2 lt hlt
    omega
  have hmf : ∀ M, mtd I M → (∀ i, i ≠ 39 → i ≠ 68 → M 93 i = I 93 i) → mfr I M := fun M h1 h2 => mt_mfr h1 (fun k _ a _ _ _ b => h2 k a b)
  have lp : ∀ k j, m_nL I = j + k → ml_c I j ≤ 4 → ∀ M, mtd I M → (∀ i, i ≠ 68 → M 93 i = I 93 i) → M 93 68 = nI (ml_c I j) → (∀ a, 118 ≤ a → a ≤ 128 → M a = I a) → (∀ l, l < j → ml_p I l = true → M 130 (ml_c I l) = nI l) → am_V (d + 14) Q 248 45 [some (.ref 93), some (.int (nI lt)), some (.int (if lt < j then nI (ml_c I lt) else -nI 1)), some (.int (nI j))] [] (am_hp N r M J) := by
    intro k
    induction k with
    | zero =>
      intro j hj h4 M g1 g2 g3 g4 g5
      obtain rfl : j = m_nL I := by omega
      have e95 : M 95 3 = nI (m_nL I) := by rw [g1.1 95 (by omega)]; exact hok.2.2.2.1.1
      have hp := pw_le (z := m_nZ I) (m := ml_c I (m_nL I)) hZ5 h4
      have hcl : ml_c I lt < ml_c I (m_nL I) := cnt_lt hlt hlp
      rw [e_M_match_45, am_ifd, e95, if_pos (by rw [nI_leI (by omega) (by omega)]; omega), if_pos hlt, show d + 14 = (d + 4 - ml_c I (m_nL I)) + 10 + ml_c I (m_nL I) by omega]
      refine s_M_matches (m := ml_c I (m_nL I)) hv hz rfl h4 (ml_c I (m_nL I)) 0 0 _ M J (by omega) ⟨g1, fun i _ h2 => g2 i h2, g3, rfl, g5, fun i hi => by omega⟩ ?_ ?_
      · intro w M' J' h1 h2 h3 h4' h5
        rw [Nat.zero_mul] at h1 h4'
        rw [Nat.zero_add, Nat.one_mul] at h2
        rw [am_asIe, e_M_match_119, am_ifd, if_neg n10, am_gI (by omega) (by omega), nI_clamp (by omega), h5.2.2.2.2.2 _ hcl]
        have hq := hQ M' J' (hmf M' h5.1 h5.2.1) h5.2.2.2.1
        unfold q_mv at hq
        dsimp only at hq
        rw [if_neg (by omega), fa_first_step h2 (fun i hi => h4' i (by omega) hi) h3, if_pos h2] at hq
        exact hq
      · intro M' J' h1 h5
        rw [Nat.zero_mul, Nat.zero_add, Nat.one_mul] at h1
        rw [am_asIe, e_M_match_119, am_ifd, if_pos rfl]
        have hq := hQ M' J' (hmf M' h5.1 h5.2.1) h5.2.2.2.1
        unfold q_mv at hq
        dsimp only at hq
        rw [if_neg (by omega), fa_first_none (fun i hi => h1 i (by omega) hi), if_neg (by omega)] at hq
        exact hq
    | succ k ih =>
      intro j hj h4 M g1 g2 g3 g4 g5
      have e95 : M 95 3 = nI (m_nL I) := by rw [g1.1 95 (by omega)]; exact hok.2.2.2.1.1
      have hS : ml_c I (j + 1) = ml_c I j + (ml_p I j).toNat := fa_cnt_succ
      rw [e_M_match_45, am_ifd, e95, if_neg (by rw [nI_leI (by omega) (by omega)]; omega), am_gI (by omega) (by omega), nI_clamp (show j < 2 ^ 31 by omega), g4 124 (by omega) (by omega), am_ifd, show nI j + nI 1 = nI (j + 1) from nI_add _ _]
      cases c : ml_p I j with
      | false =>
        have cf : ¬ I 124 j = nI 0 := of_decide_eq_false c
        rw [if_neg cf]
        rw [c, show false.toNat = 0 from rfl, Nat.add_zero] at hS
        have := ih (j + 1) (by omega) (by omega) M g1 g2 (by rw [hS]; exact g3) g4 (fun l hl hp => by
          by_cases e : l = j
          · subst e; rw [c] at hp; cases hp
          · exact g5 l (by omega) hp)
        have ei : (if lt < j + 1 then nI (ml_c I lt) else -nI 1) = if lt < j then nI (ml_c I lt) else -nI 1 := by
          by_cases q : lt < j
          · rw [if_pos q, if_pos (by omega)]
          · rw [if_neg q, if_neg]
            intro q2
            have : lt = j := by omega
            rw [this, c] at hlp
            cases hlp
        rw [ei] at this
        exact this
      | true =>
        have cf : I 124 j = nI 0 := of_decide_eq_true c
        rw [if_pos cf, am_ifn, g3]
        rw [c, show true.toNat = 1 from rfl] at hS
        by_cases c4 : ml_c I j = 4
        · rw [if_pos (by rw [c4])]
          have hm : 4 < ml_c I (m_nL I) := by
            have : ml_c I j < ml_c I (m_nL I) := cnt_lt (show j < m_nL I by omega) c
            omega
          have hq := hQ M J (hmf M g1 (fun i _ h => g2 i h)) rfl
          unfold q_mv at hq
          dsimp only at hq
          rw [if_pos hm] at hq
          exact hq
        · have ei : (if lt < j + 1 then nI (ml_c I lt) else -nI 1) = if j = lt then nI (ml_c I j) else if lt < j then nI (ml_c I lt) else -nI 1 := by
            by_cases q : j = lt
            · rw [if_pos q, if_pos (by omega), q]
            · rw [if_neg q]
              by_cases q2 : lt < j
              · rw [if_pos q2, if_pos (by omega)]
              · rw [if_neg q2, if_neg (by omega)]
          have := ih (j + 1) (by omega) (by omega) (am_u (am_u M 130 (ml_c I j) (nI j)) 93 68 (nI (ml_c I j + 1))) (mt_row (mt_row g1 (by omega)) (by omega)) (fun i hi => by rw [am_uN (by omega), am_uN (by omega), g2 i hi]) (by rw [am_uE, hS]) (fun a h1 h2 => by rw [am_uRow (by omega), am_uRow (by omega), g4 a h1 h2]) (fun l hl hp => by
            by_cases e : l = j
            · subst e; rw [am_uN (by omega), am_uE]
            · have hlt' : ml_c I l < ml_c I j := cnt_lt (show l < j by omega) hp
              rw [am_uN (by omega), am_uN (by omega)]; exact g5 l (by omega) hp)
          rw [ei] at this
          rw [if_neg (by rw [nI_eq (by omega) (by omega)]; exact c4), am_ifn, am_gI (by omega) (by omega), nI_clamp (by omega), am_uN (show (93 : Nat) ≠ 130 ∨ 68 ≠ ml_c I j by omega), g3, nI_add]
          by_cases q : j = lt
          · rw [if_pos (by rw [q])]
            rw [if_pos q] at this
            exact this
          · rw [if_neg (by rw [nI_eq (by omega) (by omega)]; exact q), am_gI (by omega) (by omega)]
            rw [if_neg q] at this
            exact this
  have := lp (m_nL I) 0 (by omega) (by show 0 ≤ 4; omega) (am_u I 93 68 (nI 0)) (mt_row mt_refl (by omega)) (fun i hi => am_uN (by omega)) am_uE (fun a h1 h2 => am_uRow (by omega)) (fun l hl => by omega)
  rw [if_neg (by omega)] at this
  exact this
theorem g_qmv {I' : Nat → Nat → Int32} (h : m_eq I I') {l : Nat} : q_mv (am_u I' 93 0 (nI 0)) l = q_mv I l := by
  have hr : ∀ a, 94 ≤ a → am_u I' 93 0 (nI 0) a = I a := fun a ha => by rw [am_uRow (by omega), h a (by omega)]
  have h93 : ∀ k, k ≠ 0 → am_u I' 93 0 (nI 0) 93 k = I 93 k := fun k hk => by rw [am_uN (by omega), h 93 (by omega)]
  have hte : te I (am_u I' 93 0 (nI 0)) := fun a h1 h2 => hr a (by omega)
  have e2 : m_e2 I (am_u I' 93 0 (nI 0)) := ⟨fun a h1 h2 => hr a (by omega), fun k h1 h2 => h93 k (by omega)⟩
  have ep : ml_p (am_u I' 93 0 (nI 0)) = ml_p I := by funext k; unfold ml_p; rw [hr 124 (by omega)]
  have ec : ml_c (am_u I' 93 0 (nI 0)) = ml_c I := by funext k; unfold ml_c; rw [ep]
  have ew : ∀ m w j, mw_W (am_u I' 93 0 (nI 0)) m w j = mw_W I m w j := by
    intro m w j
    funext f k
    unfold mw_W
    rw [e_nL hte, ep, ec, hr 104 (by omega), e_nZ hte, g_row (I := I) (fun a h1 h2 => hr a (by omega))]
  have ea : ∀ m, q_ma (am_u I' 93 0 (nI 0)) m = q_ma I m := by
    intro m
    funext w
    have : q_mf (am_u I' 93 0 (nI 0)) m w = q_mf I m w := by
      unfold q_mf
      rw [k_Wj e2, k_far e2, hr 128 (by omega), hr 118 (by omega), ew]
    unfold q_ma
    rw [this, ep, e_nL hte]
  unfold q_mv
  rw [ec, e_nL hte, e_nZ hte]
  dsimp only
  rw [ea]
theorem op_match {a : Int32} (hv : i_inv r I J) : op2 (d + 16) N 129 248 [.int a] r I J := by
  obtain ⟨rt, rs, rd, rl, rx, nt, nw, nf⟩ := r
  obtain ⟨ht, hok, eH, eZ, eL, h0, h12, e49, e118⟩ := iv_ref hv
  have hL8 := hok.2.2.2.1.2
  have hZ5 := hok.2.2.1.2
  have hH8 := hok.1.2
  by_cases ca : nI 0 ≤ a ∧ a < nI (m_nL I)
  · obtain ⟨l, hl, rfl⟩ := (am_irng (k := 0) rfl (by omega)).mp ca
    have hz : 0 < m_nZ I := by
      obtain ⟨s, hs, _⟩ := hv.2.1.1.2.2.2 l hl
      omega
    have hnow := hv.2.2.2.1
    have hlie : q_row (I 52) 8 l = -nI 1 ↔ ml_p I l = false := by
      have := lie_eq hnow.1 hnow.2.2 hL8 hH8 hl
      have e3 : c_w I 49 3 = I 52 := by funext j; rw [c_wI (by omega)]
      rw [e3] at this
      obtain ⟨e6, e7⟩ := iv_67 (I := I) (show l < 8 by omega)
      rw [this, e6]
      unfold ml_p
      by_cases c : I 124 l = nI 0
      · rw [if_pos c, decide_eq_true c]
        constructor
        · intro g
          rcases hnow.2.2.2.2.1 l hl with ⟨_, h, hh, e⟩ | ⟨q, _⟩ | ⟨q, _⟩
          · rw [e] at g; exact absurd g (am_neg1' (by omega))
          · rw [e6, c] at q; exact absurd q n01
          · rw [e6, c] at q; exact absurd q n02
        · intro g; cases g
      · rw [if_neg c, decide_eq_false c]
        exact ⟨fun _ => rfl, fun _ => rfl⟩
    refine op2_q (v := .int (if ml_p I l = true then q_mv I l else -nI 2)) hv ?_ ?_
    · intro Q hQ
      rw [e_S_match, s_S_isLetter ht, eL, bo_t ca, am_asIe, e_S_match_5, am_ifn, if_neg n10, s_W_lyingIn (by omega) (by omega), am_asIe, e_S_match_18 ht, am_ifn, show 49 + 3 = 52 from rfl]
      cases c : ml_p I l with
      | false =>
        rw [if_pos (hlie.mpr c), e_S_match_39]
        rw [c, if_neg (by decide)] at hQ
        exact hQ _ _ _ cfr_refl hv.1 rfl hv.2.2.2.2.2.2.2.2.2
      | true =>
        rw [if_neg (fun g => by have := hlie.mp g; rw [c] at this; cases this)]
        rw [c, if_pos rfl] at hQ
        refine c_carrier hv hl c ?_
        intro I2 J2 nt' nw' nf' g0 g1 g2
        rw [am_asIe, e_S_match_39]
        exact hQ _ _ _ g1 g0 rfl g2
    · intro r' I' J' hv' he Q hQ
      have hv0 := inv_mfr (J' := J') hv' (th0_mfr (x := nI 0)) rfl
      have hte : te I (am_u I' 93 0 (nI 0)) := fun a h1 h2 => by rw [am_uRow (by omega), he a (by omega)]
      have e95 : ∀ k, am_u I' 93 0 (nI 0) 95 k = I 95 k := fun k => by rw [am_uN (by omega), he 95 (by omega)]
      have e124 : am_u I' 93 0 (nI 0) 124 l = I 124 l := by rw [am_uN (by omega), he 124 (by omega)]
      have ep : ml_p (am_u I' 93 0 (nI 0)) l = ml_p I l := by unfold ml_p; rw [e124]
      rw [e_M_match, s_M_isLetter, e95, hok.2.2.2.1.1, bo_t ca, am_asIe, e_M_match_10, am_ifd, if_neg n10, am_ifn, e95, hok.2.2.1.1, if_neg (by rw [nI_eq (by omega) (by omega)]; omega), am_gI (by omega) (by omega), nI_clamp (by omega), am_ifd, e124]
      cases c : ml_p I l with
      | false =>
        rw [if_neg (of_decide_eq_false c)]
        rw [c, if_neg (by decide)] at hQ
        exact hQ _ _ th0_mfr rfl
      | true =>
        rw [if_pos (of_decide_eq_true c)]
        rw [c, if_pos rfl] at hQ
        refine m_match (d := d + 1) hv0 (by rw [e_nL hte]; exact hl) (by rw [ep]; exact c) ?_
        intro I2 J2 g1 g2
        rw [g_qmv he]
        exact hQ _ _ (mfr_trans th0_mfr g1) g2
  · refine op2_q (v := .int (-nI 1)) hv (iv_ans hv ?_) ?_
    · intro Q hQ
      rw [e_S_match, s_S_isLetter ht, eL, bo_f ca, am_asIe, e_S_match_5, am_ifn, if_pos rfl]
      exact hQ
    · intro r' I' J' hv' he
      refine iv_mans ?_
      intro Q hQ
      have e95 : ∀ k, am_u I' 93 0 (nI 0) 95 k = I 95 k := fun k => by rw [am_uN (by omega), he 95 (by omega)]
      rw [e_M_match, s_M_isLetter, e95, hok.2.2.2.1.1, bo_f ca, am_asIe, e_M_match_10, am_ifd, if_pos rfl]
      exact hQ
end
