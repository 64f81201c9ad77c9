/-! ===== L3: lead ===== -/
section
variable {d N : Nat} {Q : Value → am_H → Prop} {r : am_rho} {I : Nat → Nat → Int32} {J : Nat → Nat → Int64}
theorem ld_ans {n x : Nat} : (if x < n then nI x else -nI 2) = if x < n then nI x else -nI 2 := rfl
theorem fa_cnt8' {p : Nat → Bool} : fa_cnt p 8 ≤ 8 := fa_cnt_le p 8
theorem c_lead {rt rs rd rl rx nt nw nf s h hr x : Nat} (hv : i_inv (rt, rs, rd, rl, rx, nt, nw, nf) I J) (hs : s < m_nZ I) (hh : h < m_nH I) (hr0 : (I 118 0).toNatClampNeg ≤ hr) (hr12 : hr < 12)
    (hx : q_min (q_lp I s h hr) (2 ^ m_nH I) x)
    (hQ : ∀ I' J', cfr I I' → c_cache I I (rt + 15) (I' 63) (J' 64) → Q (.int (if x < 2 ^ m_nH I then nI x else -nI 2)) (am_hp N (rt, rs, rd, rl, rx, rt, rt + 4, rt + 5) I' J')) :
    am_D (d + 8) 85 [.ref 81, .ref rt, .int (nI s), .int (nI h), .int (nI hr)] (am_hp N (rt, rs, rd, rl, rx, nt, nw, nf) I J) Q := by
  obtain ⟨ht, hok, eH, eZ, eL, h0, h12, e49, e118⟩ := iv_ref hv
  have hbell := iv_bell hv
  have hH8 := hok.1.2
  have hZ5 := hok.2.2.1.2
  have hp : 1 ≤ 2 ^ m_nH I ∧ 2 ^ m_nH I ≤ 256 := ⟨Nat.one_le_two_pow, by have := Nat.pow_le_pow_right (show 0 < 2 by omega) hH8; omega⟩
  have henv0 := env_idle (w := 49) (F := I 128) (W := m_g I 0) (by omega) hv.2.1 hv.2.2.1 hbell
  have srow : ∀ c, (c < 61 ∨ c = 62 ∨ (63 ≤ c ∧ c < 69) ∨ 72 ≤ c) → c_suit I rt 49 (m_nZ I) c = I c := fun c h => su_row (by omega)
  have h11 : c_suit I rt 49 (m_nZ I) 61 11 = nI 0 := su_61.2.1
  rw [e_Tries_fewestLamps ht, s_N_suit ht (by omega) eZ hZ5, e_Tries_fewestLamps_12 ht]
  generalize c_suit I rt 49 (m_nZ I) = S at henv0 srow h11 ⊢
  have n5 := hv.2.2.2.1.2.1
  have hus : c_used I I (rt + 15) := hv.2.1.2.2.2.2.2.2.2.2.2.2.2.2.2.2.1
  have hlok : m_lok I := hok.2.2.2.2.2.2
  -- lit houses are in no least set
  have sub : ∀ y, y < 2 ^ m_nH I → q_lp I s h hr y = true → ¬ nI y &&& I 49 5 = nI 0 → ∃ y', y' < 2 ^ m_nH I ∧ q_lp I s h hr y' = true ∧ n_bits y' < n_bits y := by
    intro y hy hpy hne
    obtain ⟨m, hm, em⟩ := c_of32 (I 49 5 ^^^ (-nI 1))
    have eb : ∀ i, i < 32 → bt (nI (y &&& m)) i = (bt (nI y) i && !bt (I 49 5) i) := by
      intro i hi
      rw [← fa_and, ← em, b_and, b_not hi]
    refine ⟨y &&& m, Nat.lt_of_le_of_lt Nat.and_le_left hy, ?_, ?_⟩
    · have hl : lgt (am_u I 93 61 (nI y)) (am_u I 93 61 (nI (y &&& m))) (m_g I 0 3 0) := by
        refine lg_A ?_
        intro i
        rcases Nat.lt_or_ge i 32 with hi | hi
        · rw [eb i hi, ← n5]
          cases bt (I 49 5) i <;> cases bt (nI y) i <;> rfl
        · rw [b_big hi, b_big hi, b_big hi]
      unfold q_lp at hpy ⊢
      rw [lg_tr hl]; exact hpy
    · refine fa_cnt_lt 8 ?_ ?_
      · intro k hk hb
        rw [eb k (by omega)] at hb
        cases c : bt (nI y) k
        · rw [c] at hb; cases hb
        · rfl
      · apply Classical.byContradiction
        intro hc
        apply hne
        apply b_ext
        intro i hi
        rw [b_and, b_z]
        rcases Nat.lt_or_ge i 8 with h8 | h8
        · cases c1 : bt (nI y) i
          · rfl
          · cases c2 : bt (I 49 5) i
            · rfl
            · exact absurd ⟨i, h8, c1, by rw [eb i hi, c1, c2]; rfl⟩ hc
        · rw [n_bits_hi y (by omega) i h8 hi]; rfl
  have fin : ∀ (I' : Nat → Nat → Int32) (J' : Nat → Nat → Int64), (∀ c, c ≠ 63 → c ≠ 68 → (c < 82 ∨ 87 < c) → I' c = S c) → cfr I I' := by
    intro I' J' k1
    refine ⟨?_, ?_⟩
    · intro c hc
      rw [k1 c (by omega) (by omega) (by omega), srow c (by omega)]
    · intro c hc
      rw [k1 c (by omega) (by omega) (by omega), srow c (by omega)]
  -- with so many lamps
  have lpi : ∀ most c, c ≤ 8 → (∀ I' J', (∀ c, c ≠ 63 → c ≠ 68 → (c < 82 ∨ 87 < c) → I' c = S c) → c_cache I I (rt + 15) (I' 63) (J' 64) → (∀ y', y' < 2 ^ m_nH I → q_lp I s h hr y' = true → c + 1 ≤ n_bits y') → ∀ o, am_V (d + 7) Q 85 35 [some (.ref 81), some (.ref rt), some (.int (nI s)), some (.int (nI h)), some (.int (nI hr)), some (.int (nI most)), some (.int (nI (c + 1))), am_oi o] [] (am_hp N (rt, rs, rd, rl, rx, rt, rt + 4, rt + 5) I' J')) →
      ∀ k y, 2 ^ m_nH I = y + k → (∀ y', y' < 2 ^ m_nH I → q_lp I s h hr y' = true → c < n_bits y' ∨ (n_bits y' = c ∧ y ≤ y')) →
      ∀ I' J', (∀ c, c ≠ 63 → c ≠ 68 → (c < 82 ∨ 87 < c) → I' c = S c) → c_cache I I (rt + 15) (I' 63) (J' 64) → am_V (d + 7) Q 85 45 [some (.ref 81), some (.ref rt), some (.int (nI s)), some (.int (nI h)), some (.int (nI hr)), some (.int (nI most)), some (.int (nI c)), some (.int (nI y))] [] (am_hp N (rt, rs, rd, rl, rx, rt, rt + 4, rt + 5) I' J') := by
    intro most c hc8 hout k
    induction k with
    | zero =>
      intro y hy hmin I' J' k1 k2
      have eH' : I' rt 0 = nI (m_nH I) := by rw [k1 rt (by omega) (by omega) (by omega), srow rt (by omega)]; exact eH
      rw [e_Tries_fewestLamps_45 ht, s_T_allH ht eH' hH8, am_asIe, e_Tries_fewestLamps_51 ht, am_ifd]
      unfold c_all
      rw [if_pos (by rw [nI_ltI (by omega) (by omega)]; omega), show nI c + nI 1 = nI (c + 1) from nI_add _ _]
      refine hout I' J' k1 k2 ?_ _
      intro y' h1 h2
      have := hmin y' h1 h2
      omega
    | succ k ih =>
      intro y hy hmin I' J' k1 k2
      have eH' : I' rt 0 = nI (m_nH I) := by rw [k1 rt (by omega) (by omega) (by omega), srow rt (by omega)]; exact eH
      have e49' : I' 49 5 = I 49 5 := by rw [k1 49 (by omega) (by omega) (by omega), srow 49 (by omega)]
      have hb8 := @fa_cnt8' (bt (nI y))
      have hn : (n_bits y = c → q_lp I s h hr y = false) → ∀ y', y' < 2 ^ m_nH I → q_lp I s h hr y' = true → c < n_bits y' ∨ (n_bits y' = c ∧ y + 1 ≤ y') := by
        intro h y' h1 h2
        rcases hmin y' h1 h2 with g | ⟨g, g'⟩
        · exact Or.inl g
        · by_cases e : y' = y
          · subst e; rw [h g] at h2; cases h2
          · exact Or.inr ⟨g, by omega⟩
      rw [e_Tries_fewestLamps_45 ht, s_T_allH ht eH' hH8, am_asIe, e_Tries_fewestLamps_51 ht, am_ifd]
      unfold c_all
      rw [if_neg (by rw [nI_ltI (by omega) (by omega)]; omega), s_J_bitCount (n_bits_hi y (by omega)), am_asIe, e_Tries_fewestLamps_59 ht, am_ifn, am_ifd, show nI y + nI 1 = nI (y + 1) from nI_add _ _]
      by_cases cb : n_bits y = c
      · rw [if_pos (by rw [show fa_cnt (bt (nI y)) 8 = c from cb]), e49']
        by_cases cl : nI y &&& I 49 5 = nI 0
        · rw [if_pos cl]
          refine ld_try hv hs henv0 srow h11 hr0 hr12 k1 k2 ?_
          intro I3 J3 g1 g2
          rw [e_Tries_fewestLamps_128 ht, am_ifn, show nI y + nI 1 = nI (y + 1) from nI_add _ _]
          by_cases cp : q_tr I (am_u I 93 61 (nI y)) s hr = nI h
          · rw [if_pos cp]
            have hf : q_lp I s h hr y = true := decide_eq_true cp
            have : y = x := by
              refine q_min_eq (Or.inr ⟨by omega, hf, ?_⟩) hx
              intro y' h1 h2
              have := hmin y' h1 h2
              omega
            have := hQ I3 J3 (fin I3 J3 g1) g2
            rw [← ‹y = x›, if_pos (by omega)] at this
            exact this
          · rw [if_neg cp]
            have hf : q_lp I s h hr y = false := decide_eq_false cp
            exact ih (y + 1) (by omega) (hn (fun _ => hf)) I3 J3 g1 g2
        · rw [if_neg cl]
          refine ih (y + 1) (by omega) (hn (fun _ => ?_)) I' J' k1 k2
          cases e : q_lp I s h hr y
          · rfl
          · obtain ⟨y', h1, h2, h3⟩ := sub y (by omega) e cl
            have := hmin y' h1 h2
            omega
      · rw [if_neg (by rw [nI_eq (by omega) (by omega)]; exact cb)]
        exact ih (y + 1) (by omega) (hn (fun g => absurd g cb)) I' J' k1 k2
  have lpo : ∀ most, most ≤ 8 → ((∀ y', y' < 2 ^ m_nH I → q_lp I s h hr y' = true → most + 1 ≤ n_bits y') → ∀ y', y' < 2 ^ m_nH I → q_lp I s h hr y' = false) →
      ∀ k c, most + 1 = c + k → ∀ I' J', (∀ c, c ≠ 63 → c ≠ 68 → (c < 82 ∨ 87 < c) → I' c = S c) → c_cache I I (rt + 15) (I' 63) (J' 64) → (∀ y', y' < 2 ^ m_nH I → q_lp I s h hr y' = true → c ≤ n_bits y') → ∀ o, am_V (d + 7) Q 85 35 [some (.ref 81), some (.ref rt), some (.int (nI s)), some (.int (nI h)), some (.int (nI hr)), some (.int (nI most)), some (.int (nI c)), am_oi o] [] (am_hp N (rt, rs, rd, rl, rx, rt, rt + 4, rt + 5) I' J') := by
    intro most hm8 hend k
    induction k with
    | zero =>
      intro c hc I' J' k1 k2 hmin o
      obtain rfl : c = most + 1 := by omega
      rw [e_Tries_fewestLamps_35 ht, am_ifd, if_pos (by rw [nI_ltI (by omega) (by omega)]; omega)]
      have : x = 2 ^ m_nH I := q_min_eq hx (Or.inl ⟨rfl, hend hmin⟩)
      have hq := hQ I' J' (fin I' J' k1) k2
      rw [if_neg (by omega)] at hq
      exact hq
    | succ k ih =>
      intro c hc I' J' k1 k2 hmin o
      rw [e_Tries_fewestLamps_35 ht, am_ifd, if_neg (by rw [nI_ltI (by omega) (by omega)]; omega)]
      refine lpi most c (by omega) ?_ (2 ^ m_nH I) 0 (by omega) ?_ I' J' k1 k2
      · intro I2 J2 k3 k4 h o
        exact ih (c + 1) (by omega) I2 J2 k3 k4 h o
      · intro y' h1 h2
        have := hmin y' h1 h2
        omega
  have hcs : c_cache I I (rt + 15) (S 63) (J 64) := by
    rw [srow 63 (by omega)]
    exact hv.2.2.2.2.2.2.2.2.2
  have rS : ∀ k, S (rt + 15 + 4) k = I (rt + 15 + 4) k := fun k => by rw [srow (rt + 15 + 4) (by omega)]
  rw [e_Laws_usesLight (show rt + 15 = 18 ∨ rt + 15 = 38 by omega), rS, rS, rS, b_v (by omega), b_or, b_or, am_ifb]
  by_cases cu : (bt (I (rt + 15 + 4) 0) 29 || bt (I (rt + 15 + 4) 1) 29 || bt (I (rt + 15 + 4) 2) 29) = false
  · rw [if_pos cu, am_asIe, e_Tries_fewestLamps_19 ht, am_ifd, if_pos rfl]
    refine lpo 0 (by omega) ?_ 1 0 (by omega) S J (fun _ _ _ _ => rfl) hcs (fun _ _ _ => Nat.zero_le _) none
    intro hm y' hy'
    cases e : q_lp I s h hr y'
    · rfl
    · have hb : ∀ k, k < 3 → bt (I (rt + 15 + 4) k) 29 = false := by
        intro k hk
        simp only [Bool.or_eq_false_iff] at cu
        rcases (show k = 0 ∨ k = 1 ∨ k = 2 by omega) with rfl | rfl | rfl
        · exact cu.1.1
        · exact cu.1.2
        · exact cu.2
      have hl : lgt (am_u I 93 61 (nI y')) (am_u I 93 61 (nI 0)) (m_g I 0 3 0) := lg_B hlok hus hb
      have e0 : q_lp I s h hr 0 = true := by
        unfold q_lp at e ⊢
        rw [lg_tr hl]; exact e
      have := hm 0 (by omega) e0
      have : n_bits 0 = 0 := by decide +kernel
      omega
  · rw [if_neg cu, am_asIe, e_Tries_fewestLamps_19 ht, am_ifd, if_neg n10]
    have eH' : S rt 0 = nI (m_nH I) := by rw [srow rt (by omega)]; exact eH
    rw [eH']
    refine lpo (m_nH I) hH8 ?_ (m_nH I + 1) 0 (by omega) S J (fun _ _ _ _ => rfl) hcs (fun _ _ _ => Nat.zero_le _) none
    intro hm y' hy'
    cases e : q_lp I s h hr y'
    · rfl
    · have := hm y' hy' e
      have := n_bits_le (m_nH I) (by omega) y' hy'
      omega
theorem m_lead {s h hr x : Nat} (hv : i_inv r I J) (hs : s < m_nZ I) (hh : h < m_nH I) (hr0 : (I 118 0).toNatClampNeg ≤ hr) (hr12 : hr < 12) (hx : q_min (q_lp I s h hr) (2 ^ m_nH I) x)
    (hQ : ∀ I' J', mfr I I' → J' 64 = J 64 → Q (.int (if x < 2 ^ m_nH I then nI x else -nI 2)) (am_hp N r I' J')) :
    am_V (d + 9) Q 249 38 [some (.ref 93), some (.int (nI s)), some (.int (nI h)), some (.int (nI hr)), some (.int (-nI 2)), some (.int (nI 0))] [] (am_hp N r I J) := by
  obtain ⟨rt, rs, rd, rl, rx, nt, nw, nf⟩ := r
  obtain ⟨ht, hok, eH, eZ, eL, h0, h12, e49, e118⟩ := iv_ref hv
  obtain ⟨href, htr, hid, hnow, himg, hund, hsig, htap, hflt, hca⟩ := hv
  have hH8 := hok.1.2
  have hZ5 := hok.2.2.1.2
  have hst := htr.1.2.2.1
  rw [e118, nI_clamp (by omega)] at hr0
  have hp : 1 ≤ 2 ^ m_nH I ∧ 2 ^ m_nH I ≤ 256 := ⟨Nat.one_le_two_pow, by have := Nat.pow_le_pow_right (show 0 < 2 by omega) hH8; omega⟩
  have e1k := c_shl (a := 1) (k := m_nH I) (by omega) (by omega)
  rw [Nat.one_mul] at e1k
  have m2 : (-nI 2 : Int32) < nI 0 := by decide +kernel
  have lp : ∀ k j, 2 ^ m_nH I = j + k → ∀ best, ((best = 2 ^ m_nH I ∧ ∀ y, y < j → q_lp I s h hr y = false) ∨ (best < j ∧ q_lp I s h hr best = true ∧ ∀ y, y < j → q_lp I s h hr y = true → n_bits best < n_bits y ∨ (n_bits best = n_bits y ∧ best ≤ y))) → ∀ M J', mtd I M → (∀ k, k ≠ 39 → k ≠ 61 → M 93 k = I 93 k) → J' 64 = J 64 → am_V (d + 9) Q 249 38 [some (.ref 93), some (.int (nI s)), some (.int (nI h)), some (.int (nI hr)), some (.int (if best < 2 ^ m_nH I then nI best else -nI 2)), some (.int (nI j))] [] (am_hp N (rt, rs, rd, rl, rx, nt, nw, nf) M J') := by
    intro k
    induction k with
    | zero =>
      intro j hj best hb M J' k1 k2 k3
      have eM : M 95 0 = nI (m_nH I) := by rw [k1.1 95 (by omega)]; exact hok.1.1
      rw [e_M_lead_38, am_ifd, eM, e1k, if_pos (by rw [nI_leI (by omega) (by omega)]; omega)]
      have : best = x := by
        refine q_min_eq ?_ hx
        rcases hb with ⟨b1, b2⟩ | ⟨b1, b2, b3⟩
        · exact Or.inl ⟨b1, fun y hy => b2 y (by omega)⟩
        · exact Or.inr ⟨by omega, b2, fun y hy => b3 y (by omega)⟩
      rw [this]
      refine hQ _ _ (mt_mfr (mt_row k1 (by omega)) ?_) k3
      intro i i0 i39 i56 i57 i60 i68
      by_cases c : i = 61
      · subst c; rw [am_uE, hid.2.2.2.2.2.2.1]
      · rw [am_uN (by omega), k2 i i39 c]
    | succ k ih =>
      intro j hj best hb M J' k1 k2 k3
      have eM : M 95 0 = nI (m_nH I) := by rw [k1.1 95 (by omega)]; exact hok.1.1
      have hbl : best ≤ 2 ^ m_nH I := by rcases hb with ⟨b1, _⟩ | ⟨b1, _⟩ <;> omega
      have hj8 := @fa_cnt8' (bt (nI j))
      have hb8 := @fa_cnt8' (bt (nI best))
      -- j is tried
      have try_ : (best = 2 ^ m_nH I ∨ n_bits j < n_bits best) → am_D (d + 9) 232 [.ref 93] (am_hp N (rt, rs, rd, rl, rx, nt, nw, nf) (am_u M 93 61 (nI j)) J') (fun v h' => am_V (d + 9) Q 249 82 [some (.ref 93), some (.int (nI s)), some (.int (nI h)), some (.int (nI hr)), some (.int (if best < 2 ^ m_nH I then nI best else -nI 2)), some (.int (nI j))] [] h') := by
        intro hlt
        have hte0 : te I (am_u I 93 61 (nI j)) := te_93
        have hD : m_okD (am_u I 93 61 (nI j)) := by
          intro s hs
          rw [e_nZ hte0] at hs
          rw [n_dream hte0 ⟨am_uN (by omega), am_uN (by omega)⟩, m_dream_idle hid (by omega)]
          obtain ⟨_, _, _, _, h, hh, e⟩ := htr.2.2.2.2.2.2.2.2.1 s hs
          exact ⟨h, by omega, e⟩
        have he2 : m_e2 (am_u I 93 61 (nI j)) (am_u M 93 61 (nI j)) := by
          refine ⟨fun c h1 h2 => ?_, fun k h1 h2 => ?_⟩
          · rw [am_uRow (by omega), am_uRow (by omega), k1.1 c (by omega)]
          · by_cases c : k = 61
            · subst c; rw [am_uE, am_uE]
            · rw [am_uN (by omega), am_uN (by omega), k2 k (by omega) c]
        refine mt_run (I := I) (M0 := am_u I 93 61 (nI j)) (h0 := h0) hok hst hnow.2.2.1 (mt_row k1 (by omega)) hte0 hD he2 h12 e118 ?_
        intro M3 J3 w1 w2 w3 w4 w5 w6
        have e12 : nI 12 * nI s + nI hr = nI (12 * s + hr) := by rw [am_mulN, nI_add]
        have f2 : ∀ k, k ≠ 39 → k ≠ 61 → M3 93 k = I 93 k := fun k h1 h2 => by rw [w2 k h1, am_uN (by omega), k2 k h1 h2]
        rw [e_M_lead_82, e12, am_gI (by omega) (by omega), am_ifn, nI_clamp (by omega), w6 s hr hs hr0 hr12, show nI j + nI 1 = nI (j + 1) from nI_add _ _]
        by_cases cp : q_tr I (am_u I 93 61 (nI j)) s hr = nI h
        · rw [if_pos cp]
          have hf : q_lp I s h hr j = true := decide_eq_true cp
          have hi := ih (j + 1) (by omega) j (Or.inr ⟨by omega, hf, ?_⟩) M3 J3 w1 f2 (w4.trans k3)
          · rw [if_pos (by omega)] at hi; exact hi
          · intro y hy hpy
            by_cases e : y = j
            · subst e; exact Or.inr ⟨rfl, Nat.le_refl _⟩
            · rcases hb with ⟨b1, b2⟩ | ⟨b1, b2, b3⟩
              · rw [b2 y (by omega)] at hpy; cases hpy
              · have := b3 y (by omega) hpy
                omega
        · rw [if_neg cp]
          have hf : q_lp I s h hr j = false := decide_eq_false cp
          refine ih (j + 1) (by omega) best ?_ M3 J3 w1 f2 (w4.trans k3)
          rcases hb with ⟨b1, b2⟩ | ⟨b1, b2, b3⟩
          · left
            refine ⟨b1, ?_⟩
            intro y hy
            by_cases e : y = j
            · subst e; exact hf
            · exact b2 y (by omega)
          · right
            refine ⟨by omega, b2, ?_⟩
            intro y hy hpy
            by_cases e : y = j
            · subst e; rw [hf] at hpy; cases hpy
            · exact b3 y (by omega) hpy
      rw [e_M_lead_38, am_ifd, eM, e1k, if_neg (by rw [nI_leI (by omega) (by omega)]; omega), am_ifd]
      rcases hb with ⟨b1, b2⟩ | ⟨b1, b2, b3⟩
      · rw [if_pos (by rw [if_neg (by omega)]; exact m2)]
        exact try_ (Or.inl b1)
      · rw [if_pos (show best < 2 ^ m_nH I by omega)] at try_ ⊢
        rw [if_neg (by rw [nI_ltI (by omega) (by omega)]; omega), s_M_bitsOf, am_asIe, e_M_lead_61, s_M_bitsOf, am_asIe, e_M_lead_66, am_ifd]
        by_cases c : fa_cnt (bt (nI j)) 8 < fa_cnt (bt (nI best)) 8
        · rw [if_pos (by rw [nI_ltI (by omega) (by omega)]; exact c)]
          exact try_ (Or.inr c)
        · rw [if_neg (by rw [nI_ltI (by omega) (by omega)]; exact c), show nI j + nI 1 = nI (j + 1) from nI_add _ _]
          have hi := ih (j + 1) (by omega) best (Or.inr ⟨by omega, b2, ?_⟩) M J' k1 k2 k3
          · rw [if_pos (by omega)] at hi; exact hi
          · intro y hy hpy
            by_cases e : y = j
            · subst e
              unfold n_bits
              omega
            · exact b3 y (by omega) hpy
  have := lp (2 ^ m_nH I) 0 (by omega) (2 ^ m_nH I) (Or.inl ⟨rfl, fun y hy => by omega⟩) I J mt_refl (fun _ _ _ => rfl) rfl
  rw [if_neg (by omega)] at this
  exact this
theorem g_qtr {I' M M' : Nat → Nat → Int32} (h : ∀ a, 118 ≤ a → a ≤ 128 → I' a = I a) (k : m_e2 M M') : q_tr I' M' = q_tr I M := by
  funext s hr
  unfold q_tr
  have eg : m_g I' 0 = m_g I 0 := g_row (fun a h1 h2 => h a h1 (by omega))
  rw [k_Wj k, k_far k, eg, h 128 (by omega) (by omega), h 118 (by omega) (by omega)]
theorem op_lead {a b c : Int32} (hv : i_inv r I J) : op2 (d + 12) N 130 249 [.int a, .int b, .int c] r I J := by
  obtain ⟨rt, rs, rd, rl, rx, nt, nw, nf⟩ := r
  obtain ⟨ht, hok, eH, eZ, eL, h0, h12, e49, e118⟩ := iv_ref hv
  have hH8 := hok.1.2
  have hZ5 := hok.2.2.1.2
  by_cases ca : nI 0 ≤ a ∧ a < nI (m_nZ I)
  · by_cases cb : nI 0 ≤ b ∧ b < nI (m_nH I)
    · by_cases cc : nI h0 ≤ c ∧ c < nI 12
      · obtain ⟨s, hs, rfl⟩ := (am_irng (k := 0) rfl (by omega)).mp ca
        obtain ⟨h, hh, rfl⟩ := (am_irng (k := 0) rfl (by omega)).mp cb
        obtain ⟨hr, hr0, hr12, rfl⟩ := (iv_hr h12).mp cc
        have hr0' : (I 118 0).toNatClampNeg ≤ hr := by rw [e118, nI_clamp (by omega)]; exact hr0
        have hp : 2 ^ m_nH I ≤ 256 := by have := Nat.pow_le_pow_right (show 0 < 2 by omega) hH8; omega
        obtain ⟨x, hx⟩ := q_min_ex (p := q_lp I s h hr) (n := 2 ^ m_nH I) (by omega)
        refine op2_q (v := .int (if x < 2 ^ m_nH I then nI x else -nI 2)) hv ?_ ?_
        · intro Q hQ
          rw [e_S_lead, s_S_isSleeper ht, eZ, bo_t ca, am_asIe, e_S_lead_5, am_ifd, if_neg n10, s_S_isHouse ht, eH, bo_t cb, am_asIe, e_S_lead_13, am_ifd, if_neg n10, s_S_isAhead, e49, bo_t cc, am_asIe, e_S_lead_21 ht, am_ifn, if_neg n10]
          refine c_lead hv hs hh hr0' hr12 hx ?_
          intro I2 J2 g1 g2
          rw [am_asIe, e_S_lead_40]
          exact hQ _ _ _ g1 (ref_t hv.1 ht) rfl g2
        · intro r' I' J' hv' he Q hQ
          have hv0 := inv_mfr (J' := J') hv' (th0_mfr (x := nI 0)) rfl
          have hte : te I (am_u I' 93 0 (nI 0)) := fun a h1 h2 => by rw [am_uRow (by omega), he a (by omega)]
          have e95 : ∀ k, am_u I' 93 0 (nI 0) 95 k = I 95 k := fun k => by rw [am_uN (by omega), he 95 (by omega)]
          have e118' : am_u I' 93 0 (nI 0) 118 0 = I 118 0 := by rw [am_uN (by omega), he 118 (by omega)]
          have hx' : q_min (q_lp (am_u I' 93 0 (nI 0)) s h hr) (2 ^ m_nH (am_u I' 93 0 (nI 0))) x := by
            have : q_lp (am_u I' 93 0 (nI 0)) s h hr = q_lp I s h hr := by
              funext y
              unfold q_lp
              rw [g_qtr (I := I) (M := am_u I 93 61 (nI y)) (fun a h1 h2 => by rw [am_uRow (by omega), he a (by omega)]) ⟨fun a h1 h2 => ?_, fun k h1 h2 => ?_⟩]
              · rw [am_uRow (by omega), am_uRow (by omega), am_uRow (by omega), he a (by omega)]
              · by_cases c : k = 61
                · subst c; rw [am_uE, am_uE]
                · rw [am_uN (by omega), am_uN (by omega), am_uN (by omega), he 93 (by omega)]
            rw [this, e_nH hte]; exact hx
          rw [e_M_lead, s_M_isSleeper, e95, hok.2.2.1.1, bo_t ca, am_asIe, e_M_lead_10, am_ifd, if_neg n10, s_M_isHouse, e95, hok.1.1, bo_t cb, am_asIe, e_M_lead_18, am_ifd, if_neg n10, s_M_isTonight, e118', e118, bo_t cc, am_asIe, e_M_lead_26, am_ifn, if_neg n10]
          refine m_lead (x := x) hv0 (by rw [e_nZ hte]; exact hs) (by rw [e_nH hte]; exact hh) (by rw [e118']; exact hr0') hr12 hx' ?_
          intro I2 J2 g1 g2
          rw [e_nH hte]
          exact hQ _ _ (mfr_trans th0_mfr g1) g2
      · refine op2_q (v := .int (-nI 1)) hv (iv_ans hv ?_) ?_
        · intro Q hQ
          rw [e_S_lead, s_S_isSleeper ht, eZ, bo_t ca, am_asIe, e_S_lead_5, am_ifd, if_neg n10, s_S_isHouse ht, eH, bo_t cb, am_asIe, e_S_lead_13, am_ifd, if_neg n10, s_S_isAhead, e49, bo_f cc, am_asIe, e_S_lead_21 ht, am_ifn, if_pos rfl]
          exact hQ
        · intro r' I' J' hv' he
          refine iv_mans ?_
          intro Q hQ
          have e95 : ∀ k, am_u I' 93 0 (nI 0) 95 k = I 95 k := fun k => by rw [am_uN (by omega), he 95 (by omega)]
          have e118' : am_u I' 93 0 (nI 0) 118 0 = I 118 0 := by rw [am_uN (by omega), he 118 (by omega)]
          rw [e_M_lead, s_M_isSleeper, e95, hok.2.2.1.1, bo_t ca, am_asIe, e_M_lead_10, am_ifd, if_neg n10, s_M_isHouse, e95, hok.1.1, bo_t cb, am_asIe, e_M_lead_18, am_ifd, if_neg n10, s_M_isTonight, e118', e118, bo_f cc, am_asIe, e_M_lead_26, am_ifn, if_pos rfl]
          exact hQ
    · refine op2_q (v := .int (-nI 1)) hv (iv_ans hv ?_) ?_
      · intro Q hQ
        rw [e_S_lead, s_S_isSleeper ht, eZ, bo_t ca, am_asIe, e_S_lead_5, am_ifd, if_neg n10, s_S_isHouse ht, eH, bo_f cb, am_asIe, e_S_lead_13, am_ifd, if_pos rfl]
        exact hQ
      · intro r' I' J' hv' he
        refine iv_mans ?_
        intro Q hQ
        have e95 : ∀ k, am_u I' 93 0 (nI 0) 95 k = I 95 k := fun k => by rw [am_uN (by omega), he 95 (by omega)]
        rw [e_M_lead, s_M_isSleeper, e95, hok.2.2.1.1, bo_t ca, am_asIe, e_M_lead_10, am_ifd, if_neg n10, s_M_isHouse, e95, hok.1.1, bo_f cb, am_asIe, e_M_lead_18, am_ifd, if_pos rfl]
        exact hQ
  · refine op2_q (v := .int (-nI 1)) hv (iv_ans hv ?_) ?_
    · intro Q hQ
      rw [e_S_lead, s_S_isSleeper ht, eZ, bo_f ca, am_asIe, e_S_lead_5, am_ifd, if_pos rfl]
      exact hQ
    · intro r' I' J' hv' he
      refine iv_mans ?_
      intro Q hQ
      have e95 : ∀ k, am_u I' 93 0 (nI 0) 95 k = I 95 k := fun k => by rw [am_uN (by omega), he 95 (by omega)]
      rw [e_M_lead, s_M_isSleeper, e95, hok.2.2.1.1, bo_f ca, am_asIe, e_M_lead_10, am_ifd, if_pos rfl]
      exact hQ
end
