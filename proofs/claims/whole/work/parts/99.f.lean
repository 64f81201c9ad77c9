/-! ===== L3: match ===== -/
section
variable {d N : Nat} {Q : Value → am_H → Prop} {r : am_rho} {I : Nat → Nat → Int32} {J : Nat → Nat → Int64}
/-- the first way by which all arrive, and who has the letter then -/
def q_mv (I : Nat → Nat → Int32) (l : Nat) : Int32 :=
  let m := ml_c I (m_nL I)
  if 4 < m then -nI 3 else if fa_first (q_ma I m) (m_nZ I ^ m) < m_nZ I ^ m then nI (dg (m_nZ I) m (fa_first (q_ma I m) (m_nZ I ^ m)) (ml_c I l)) else -nI 2
theorem pw_le {z m : Nat} (hz : z ≤ 5) (hm : m ≤ 4) : z ^ m ≤ 625 := by
  have h1 : z ^ m ≤ 5 ^ m := Nat.pow_le_pow_left hz m
  have h2 : 5 ^ m ≤ 5 ^ 4 := Nat.pow_le_pow_right (by omega) hm
  omega
theorem c_carrier {rt rs rd rl rx nt nw nf lt : Nat} (hv : i_inv (rt, rs, rd, rl, rx, nt, nw, nf) I J) (hlt : lt < m_nL I) (hlp : ml_p I lt = true)
    (hQ : ∀ I' J' nt' nw' nf', i_ref (rt, rs, rd, rl, rx, nt', nw', nf') → cfr I I' → c_cache I I (rt + 15) (I' 63) (J' 64) → Q (.int (q_mv I lt)) (am_hp N (rt, rs, rd, rl, rx, nt', nw', nf') I' J')) :
    am_D (d + 9) 82 [.ref 81, .ref rt, .int (nI lt)] (am_hp N (rt, rs, rd, rl, rx, nt, nw, nf) I J) Q := sorry
/-! the model's -/
def mm_inv (I : Nat → Nat → Int32) (J : Nat → Nat → Int64) (m k P : Nat) (M : Nat → Nat → Int32) (J2 : Nat → Nat → Int64) : Prop :=
  mtd I M ∧ (∀ i, i ≠ 39 → i ≠ 68 → M 93 i = I 93 i) ∧ M 93 68 = nI m ∧ J2 64 = J 64 ∧ (∀ l, l < m_nL I → ml_p I l = true → M 130 (ml_c I l) = nI l) ∧ (∀ i, i < k → M 131 i = nI (dg (m_nZ I) k P i))
theorem s_M_allArrive {m w : Nat} {M : Nat → Nat → Int32} {J2 : Nat → Nat → Int64} (hv : i_inv r I J) (hz : 0 < m_nZ I) (hm : m = ml_c I (m_nL I)) (hm4 : m ≤ 4) (hi : mm_inv I J m m w M J2)
    (hQ : ∀ M' J', mm_inv I J m m w M' J' → Q (.int (nI (q_ma I m w).toNat)) (am_hp N r M' J')) : am_D (d + 9) 246 [.ref 93] (am_hp N r M J2) Q := sorry
/-- the model's search -/
theorem s_M_matches {m : Nat} (hv : i_inv r I J) (hz : 0 < m_nZ I) (hm : m = ml_c I (m_nL I)) (hm4 : m ≤ 4) : ∀ (j k P : Nat) (Q : Value → am_H → Prop) (M : Nat → Nat → Int32) (J2 : Nat → Nat → Int64), m = k + j → mm_inv I J m k P M J2 →
    (∀ w M' J', P * m_nZ I ^ j ≤ w → w < (P + 1) * m_nZ I ^ j → q_ma I m w = true → (∀ w', P * m_nZ I ^ j ≤ w' → w' < w → q_ma I m w' = false) → mm_inv I J m m w M' J' → Q (.int (nI 1)) (am_hp N r M' J')) →
    (∀ M' J', (∀ w', P * m_nZ I ^ j ≤ w' → w' < (P + 1) * m_nZ I ^ j → q_ma I m w' = false) → mm_inv I J m k P M' J' → Q (.int (nI 0)) (am_hp N r M' J')) →
    am_D (d + 10 + j) 247 [.ref 93, .int (nI k)] (am_hp N r M J2) Q := by
  have hok : m_ok I := hv.2.1.1.2.1
  have hZ5 := hok.2.2.1.2
  intro j
  induction j with
  | zero =>
    intro k P Q M J2 hj hi hY hN
    obtain rfl : k = m := by omega
    rw [show d + 10 + 0 = d + 9 + 1 by omega, e_M_matches, am_ifn, hi.2.2.1, if_pos rfl]
    refine s_M_allArrive hv hz hm hm4 hi ?_
    intro M' J' hi'
    rw [am_asIe, e_M_matches_12]
    rw [Nat.pow_zero, Nat.mul_one, Nat.mul_one] at hY hN
    cases c : q_ma I k P with
    | false =>
      show Q (.int (nI 0)) _
      refine hN M' J' ?_ hi'
      intro w' h1 h2
      rw [show w' = P by omega]; exact c
    | true =>
      show Q (.int (nI 1)) _
      exact hY P M' J' (by omega) (by omega) c (fun w' h1 h2 => by omega) hi'
  | succ j ih =>
    intro k P Q M J2 hj hi hY hN
    rw [show d + 10 + (j + 1) = d + 10 + j + 1 by omega, e_M_matches, am_ifn, hi.2.2.1, if_neg (by rw [nI_eq (by omega) (by omega)]; omega)]
    have epw : m_nZ I ^ (j + 1) = m_nZ I * m_nZ I ^ j := by rw [Nat.pow_succ, Nat.mul_comm]
    have est : ∀ s, (P * m_nZ I + s) * m_nZ I ^ j = P * m_nZ I ^ (j + 1) + s * m_nZ I ^ j := by
      intro s; rw [Nat.add_mul, Nat.mul_assoc, epw]
    have hend : (P + 1) * m_nZ I ^ (j + 1) = P * m_nZ I ^ (j + 1) + m_nZ I * m_nZ I ^ j := by rw [Nat.add_mul, Nat.one_mul, epw]
    have lp : ∀ n s, m_nZ I = s + n → ∀ M J2, mm_inv I J m k P M J2 → (∀ w', P * m_nZ I ^ (j + 1) ≤ w' → w' < P * m_nZ I ^ (j + 1) + s * m_nZ I ^ j → q_ma I m w' = false) → am_V (d + 10 + j) Q 247 15 [some (.ref 93), some (.int (nI k)), some (.int (nI s))] [] (am_hp N r M J2) := by
      intro n
      induction n with
      | zero =>
        intro s hs M J2 hi hf
        have e95 : M 95 2 = nI (m_nZ I) := by rw [hi.1.1 95 (by omega)]; exact hok.2.2.1.1
        rw [e_M_matches_15, am_ifd, e95, if_pos (by rw [nI_leI (by omega) (by omega)]; omega)]
        refine hN M J2 ?_ hi
        intro w' h1 h2
        refine hf w' h1 ?_
        rw [hend] at h2
        rw [show s = m_nZ I by omega]; exact h2
      | succ n ihn =>
        intro s hs M J2 hi hf
        have e95 : M 95 2 = nI (m_nZ I) := by rw [hi.1.1 95 (by omega)]; exact hok.2.2.1.1
        obtain ⟨a1, a2, a3, a4, a5, a6⟩ := hi
        have hsz : s < m_nZ I := by omega
        rw [e_M_matches_15, am_ifd, e95, if_neg (by rw [nI_leI (by omega) (by omega)]; omega), am_gI (by omega) (by omega), nI_clamp (by omega), show nI k + nI 1 = nI (k + 1) from nI_add _ _]
        refine ih (k + 1) (P * m_nZ I + s) _ _ _ (by omega) ⟨mt_row a1 (by omega), fun i h1 h2 => by rw [am_uN (by omega), a2 i h1 h2], by rw [am_uN (by omega)]; exact a3, a4, fun l hl hp => by rw [am_uN (by omega)]; exact a5 l hl hp, ?_⟩ ?_ ?_
        · intro i hi'
          by_cases c : i = k
          · subst c; rw [am_uE, dg_0 hsz]
          · rw [am_uN (by omega), a6 i (by omega), dg_S hsz (by omega)]
        · intro w M' J' h1 h2 h3 h4 h5
          rw [est] at h1 h4
          have e2 : (P * m_nZ I + s + 1) * m_nZ I ^ j = P * m_nZ I ^ (j + 1) + (s + 1) * m_nZ I ^ j := by rw [Nat.add_assoc, est]
          rw [e2] at h2
          rw [am_asIe, e_M_matches_39, am_ifd, if_neg n10]
          refine hY w M' J' (by omega) ?_ h3 ?_ h5
          · rw [hend]
            have : (s + 1) * m_nZ I ^ j ≤ m_nZ I * m_nZ I ^ j := Nat.mul_le_mul_right _ (by omega)
            omega
          · intro w' g1 g2
            by_cases c : w' < P * m_nZ I ^ (j + 1) + s * m_nZ I ^ j
            · exact hf w' g1 c
            · exact h4 w' (by omega) g2
        · intro M' J' h1 h2
          have e2 : (P * m_nZ I + s + 1) * m_nZ I ^ j = P * m_nZ I ^ (j + 1) + (s + 1) * m_nZ I ^ j := by rw [Nat.add_assoc, est]
          rw [est, e2] at h1
          rw [am_asIe, e_M_matches_39, am_ifd, if_pos rfl, show nI s + nI 1 = nI (s + 1) from nI_add _ _]
          obtain ⟨b1, b2, b3, b4, b5, b6⟩ := h2
          refine ihn (s + 1) (by omega) M' J' ⟨b1, b2, b3, b4, b5, ?_⟩ ?_
          · intro i hi'
            rw [b6 i (by omega), dg_S hsz hi']
          · intro w' g1 g2
            by_cases c : w' < P * m_nZ I ^ (j + 1) + s * m_nZ I ^ j
            · exact hf w' g1 c
            · exact h1 w' (by omega) g2
    exact lp (m_nZ I) 0 (by omega) M J2 hi (fun w' h1 h2 => by omega)
theorem m_match {lt : Nat} (hv : i_inv r I J) (hlt : lt < m_nL I) (hlp : ml_p I lt = true) (hQ : ∀ I' J', mfr I I' → J' 64 = J 64 → Q (.int (q_mv I lt)) (am_hp N r I' J')) :
    am_V (d + 14) Q 248 45 [some (.ref 93), some (.int (nI lt)), some (.int (-nI 1)), some (.int (nI 0))] [] (am_hp N r (am_u I 93 68 (nI 0)) J) := sorry
theorem g_qmv {I' : Nat → Nat → Int32} (h : m_eq I I') {l : Nat} : q_mv (am_u I' 93 0 (nI 0)) l = q_mv I l := by
  have hr : ∀ a, 94 ≤ a → am_u I' 93 0 (nI 0) a = I a := fun a ha => by rw [am_uRow (by omega), h a (by omega)]
  have h93 : ∀ k, k ≠ 0 → am_u I' 93 0 (nI 0) 93 k = I 93 k := fun k hk => by rw [am_uN (by omega), h 93 (by omega)]
  have hte : te I (am_u I' 93 0 (nI 0)) := fun a h1 h2 => hr a (by omega)
  have e2 : m_e2 I (am_u I' 93 0 (nI 0)) := ⟨fun a h1 h2 => hr a (by omega), fun k h1 h2 => h93 k (by omega)⟩
  have ep : ml_p (am_u I' 93 0 (nI 0)) = ml_p I := by funext k; unfold ml_p; rw [hr 124 (by omega)]
  have ec : ml_c (am_u I' 93 0 (nI 0)) = ml_c I := by funext k; unfold ml_c; rw [ep]
  have ew : ∀ m w j, mw_W (am_u I' 93 0 (nI 0)) m w j = mw_W I m w j := by
    intro m w j
    funext f k
    unfold mw_W
    rw [e_nL hte, ep, ec, hr 104 (by omega), e_nZ hte, g_row (I := I) (fun a h1 h2 => hr a (by omega))]
  have ea : ∀ m, q_ma (am_u I' 93 0 (nI 0)) m = q_ma I m := by
    intro m
    funext w
    have : q_mf (am_u I' 93 0 (nI 0)) m w = q_mf I m w := by
      unfold q_mf
      rw [k_Wj e2, k_far e2, hr 128 (by omega), hr 118 (by omega), ew]
    unfold q_ma
    rw [this, ep, e_nL hte]
  unfold q_mv
  rw [ec, e_nL hte, e_nZ hte]
  dsimp only
  rw [ea]
theorem op_match {a : Int32} (hv : i_inv r I J) : op2 (d + 16) N 129 248 [.int a] r I J := by
  obtain ⟨rt, rs, rd, rl, rx, nt, nw, nf⟩ := r
  obtain ⟨ht, hok, eH, eZ, eL, h0, h12, e49, e118⟩ := iv_ref hv
  have hL8 := hok.2.2.2.1.2
  have hZ5 := hok.2.2.1.2
  have hH8 := hok.1.2
  by_cases ca : nI 0 ≤ a ∧ a < nI (m_nL I)
  · obtain ⟨l, hl, rfl⟩ := (am_irng (k := 0) rfl (by omega)).mp ca
    have hz : 0 < m_nZ I := by
      obtain ⟨s, hs, _⟩ := hv.2.1.1.2.2.2 l hl
      omega
    have hnow := hv.2.2.2.1
    have hlie : q_row (I 52) 8 l = -nI 1 ↔ ml_p I l = false := by
      have := lie_eq hnow.1 hnow.2.2 hL8 hH8 hl
      have e3 : c_w I 49 3 = I 52 := by funext j; rw [c_wI (by omega)]
      rw [e3] at this
      obtain ⟨e6, e7⟩ := iv_67 (I := I) (show l < 8 by omega)
      rw [this, e6]
      unfold ml_p
      by_cases c : I 124 l = nI 0
      · rw [if_pos c, decide_eq_true c]
        constructor
        · intro g
          rcases hnow.2.2.2.2.1 l hl with ⟨_, h, hh, e⟩ | ⟨q, _⟩ | ⟨q, _⟩
          · rw [e] at g; exact absurd g (am_neg1' (by omega))
          · rw [e6, c] at q; exact absurd q n01
          · rw [e6, c] at q; exact absurd q n02
        · intro g; cases g
      · rw [if_neg c, decide_eq_false c]
        exact ⟨fun _ => rfl, fun _ => rfl⟩
    refine op2_q (v := .int (if ml_p I l = true then q_mv I l else -nI 2)) hv ?_ ?_
    · intro Q hQ
      rw [e_S_match, s_S_isLetter ht, eL, bo_t ca, am_asIe, e_S_match_5, am_ifn, if_neg n10, s_W_lyingIn (by omega) (by omega), am_asIe, e_S_match_18 ht, am_ifn, show 49 + 3 = 52 from rfl]
      cases c : ml_p I l with
      | false =>
        rw [if_pos (hlie.mpr c), e_S_match_39]
        rw [c, if_neg (by decide)] at hQ
        exact hQ _ _ _ cfr_refl hv.1 rfl hv.2.2.2.2.2.2.2.2.2
      | true =>
        rw [if_neg (fun g => by have := hlie.mp g; rw [c] at this; cases this)]
        rw [c, if_pos rfl] at hQ
        refine c_carrier hv hl c ?_
        intro I2 J2 nt' nw' nf' g0 g1 g2
        rw [am_asIe, e_S_match_39]
        exact hQ _ _ _ g1 g0 rfl g2
    · intro r' I' J' hv' he Q hQ
      have hv0 := inv_mfr (J' := J') hv' (th0_mfr (x := nI 0)) rfl
      have hte : te I (am_u I' 93 0 (nI 0)) := fun a h1 h2 => by rw [am_uRow (by omega), he a (by omega)]
      have e95 : ∀ k, am_u I' 93 0 (nI 0) 95 k = I 95 k := fun k => by rw [am_uN (by omega), he 95 (by omega)]
      have e124 : am_u I' 93 0 (nI 0) 124 l = I 124 l := by rw [am_uN (by omega), he 124 (by omega)]
      have ep : ml_p (am_u I' 93 0 (nI 0)) l = ml_p I l := by unfold ml_p; rw [e124]
      rw [e_M_match, s_M_isLetter, e95, hok.2.2.2.1.1, bo_t ca, am_asIe, e_M_match_10, am_ifd, if_neg n10, am_ifn, e95, hok.2.2.1.1, if_neg (by rw [nI_eq (by omega) (by omega)]; omega), am_gI (by omega) (by omega), nI_clamp (by omega), am_ifd, e124]
      cases c : ml_p I l with
      | false =>
        rw [if_neg (of_decide_eq_false c)]
        rw [c, if_neg (by decide)] at hQ
        exact hQ _ _ th0_mfr rfl
      | true =>
        rw [if_pos (of_decide_eq_true c)]
        rw [c, if_pos rfl] at hQ
        refine m_match (d := d + 1) hv0 (by rw [e_nL hte]; exact hl) (by rw [ep]; exact c) ?_
        intro I2 J2 g1 g2
        rw [g_qmv he]
        exact hQ _ _ (mfr_trans th0_mfr g1) g2
  · refine op2_q (v := .int (-nI 1)) hv (iv_ans hv ?_) ?_
    · intro Q hQ
      rw [e_S_match, s_S_isLetter ht, eL, bo_f ca, am_asIe, e_S_match_5, am_ifn, if_pos rfl]
      exact hQ
    · intro r' I' J' hv' he
      refine iv_mans ?_
      intro Q hQ
      have e95 : ∀ k, am_u I' 93 0 (nI 0) 95 k = I 95 k := fun k => by rw [am_uN (by omega), he 95 (by omega)]
      rw [e_M_match, s_M_isLetter, e95, hok.2.2.2.1.1, bo_f ca, am_asIe, e_M_match_10, am_ifd, if_pos rfl]
      exact hQ
end
