/-! ===== L3: rests, rest answer alike ===== -/
section
variable {d N : Nat} {Q : Value → am_H → Prop} {r : am_rho} {I : Nat → Nat → Int32} {J : Nat → Nat → Int64}
theorem rs_corn {x y a : Int32} {H : am_H} : am_if (decide (x < nI 1)) (Q (.int (nI 0)) H) (am_if (decide (nI 9 < x)) (Q (.int (nI 0)) H) (am_if (decide (y < nI 1)) (Q (.int (nI 0)) H) (am_if (decide (nI 9 < y)) (Q (.int (nI 0)) H) (am_if (decide (a ≤ nI 0)) (Q (.int (nI 0)) H) (Q (.int (nI 1)) H))))) = Q (.int (nI (decide ((¬ x < nI 1 ∧ ¬ nI 9 < x) ∧ (¬ y < nI 1 ∧ ¬ nI 9 < y) ∧ ¬ a ≤ nI 0)).toNat)) H := by
  rw [am_ifd, am_ifd, am_ifd, am_ifd, am_ifd]
  by_cases c1 : x < nI 1
  · rw [if_pos c1, bo_f (fun h => h.1.1 c1)]
  rw [if_neg c1]
  by_cases c2 : nI 9 < x
  · rw [if_pos c2, bo_f (fun h => h.1.2 c2)]
  rw [if_neg c2]
  by_cases c3 : y < nI 1
  · rw [if_pos c3, bo_f (fun h => h.2.1.1 c3)]
  rw [if_neg c3]
  by_cases c4 : nI 9 < y
  · rw [if_pos c4, bo_f (fun h => h.2.1.2 c4)]
  rw [if_neg c4]
  by_cases c5 : a ≤ nI 0
  · rw [if_pos c5, bo_f (fun h => h.2.2 c5)]
  rw [if_neg c5, bo_t ⟨⟨c1, c2⟩, ⟨c3, c4⟩, c5⟩]
theorem s_S_singers {rt rs rd rl rx nt nw nf : Nat} {x y : Int32} (ht : rt = 3 ∨ rt = 23) : am_D (d + 1) 155 [.ref 1, .int x, .int y] (am_hp N (rt, rs, rd, rl, rx, nt, nw, nf) I J) Q = Q (.int (nI (decide ((¬ x < nI 1 ∧ ¬ nI 9 < x) ∧ (¬ y < nI 1 ∧ ¬ nI 9 < y) ∧ ¬ I rt 0 ≤ nI 0)).toNat)) (am_hp N (rt, rs, rd, rl, rx, nt, nw, nf) I J) :=
  (e_S_areSingers ht).trans rs_corn
theorem s_M_corners {x y : Int32} : am_D (d + 1) 263 [.ref 93, .int x, .int y] (am_hp N r I J) Q = Q (.int (nI (decide ((¬ x < nI 1 ∧ ¬ nI 9 < x) ∧ (¬ y < nI 1 ∧ ¬ nI 9 < y) ∧ ¬ I 95 0 ≤ nI 0)).toNat)) (am_hp N r I J) :=
  e_M_areCorners.trans rs_corn
theorem rs_19 {x : Int32} (h1 : ¬ x < nI 1) (h2 : ¬ nI 9 < x) : ∃ p, p ≤ 9 ∧ x = nI p := by
  rw [fa_lt, nI_toInt (by omega)] at h1 h2
  refine ⟨x.toInt.toNat, by omega, ?_⟩
  rw [fa_eq, nI_toInt (by omega)]
  omega
theorem nI_nn {x : Int32} (h : nI 0 ≤ x) : ∃ k, k < 2 ^ 31 ∧ x = nI k := by
  rw [fa_le, nI_toInt (by omega)] at h
  have := Int32.toInt_lt x
  refine ⟨x.toInt.toNat, by omega, ?_⟩
  rw [fa_eq, nI_toInt (by omega)]
  omega
theorem rs_eq {I' : Nat → Nat → Int32} (h : m_eq I I') {p q : Nat} : q_rp (am_u I' 93 0 (nI 0)) p q = q_rp I p q := by
  have hte : te I (am_u I' 93 0 (nI 0)) := fun a h1 h2 => by rw [am_uRow (by omega), h a (by omega)]
  have ew : ∀ a b, q_rsW (am_u I' 93 0 (nI 0)) p q a b = q_rsW I p q a b := by
    intro a b
    unfold q_rsW
    have : q_run (am_u I' 93 0 (nI 0)) (rs_M (am_u I' 93 0 (nI 0)) (nI p) (nI q) a b) = q_run I (rs_M I (nI p) (nI q) a b) := by
      refine qrun_c (fun a h1 h2 => by rw [am_uRow (by omega), h a (by omega)]) ⟨fun c h1 h2 => ?_, fun k h1 h2 => ?_⟩
      · rw [rs_row (by omega), rs_row (by omega), am_uRow (by omega), h c (by omega)]
      · unfold rs_M
        by_cases c : k = 0
        · omega
        · unfold am_u
          rw [h 93 (by omega)]
          simp only [c, and_false, if_false]
    rw [this]
  unfold q_rp
  rw [e_nH hte]
  congr 1
  · funext a b; unfold q_c1; rw [ew, e_nZ hte]
  · funext a b; unfold q_c2; rw [ew, e_nZ hte]
theorem op_rests {a b : Int32} (hv : i_inv r I J) : op2 (d + 12) N 138 264 [.int a, .int b] r I J := by
  obtain ⟨rt, rs, rd, rl, rx, nt, nw, nf⟩ := r
  obtain ⟨ht, hok, eH, eZ, eL, h0, h12, e49, e118⟩ := iv_ref hv
  have hH8 := hok.1.2
  by_cases c : (¬ a < nI 1 ∧ ¬ nI 9 < a) ∧ (¬ b < nI 1 ∧ ¬ nI 9 < b) ∧ ¬ nI (m_nH I) ≤ nI 0
  · obtain ⟨p, hp, rfl⟩ := rs_19 c.1.1 c.1.2
    obtain ⟨q, hq, rfl⟩ := rs_19 c.2.1.1 c.2.1.2
    refine op2_q (v := .int (nI (rcA (q_rp I p q) (m_nH I) (m_nH I)))) hv ?_ ?_
    · intro Q hQ
      rw [e_S_rests, s_S_singers ht, eH, bo_t c, am_asIe, e_S_rests_6 ht, am_ifn, if_neg n10]
      refine s_T_findRests hv hp hq ?_
      intro I2 J2 g1 g2 g3 g4
      rw [e_S_rests_24, g3]
      exact hQ _ _ _ g1 (ref_t hv.1 ht) rfl g2
    · intro r' I' J' hv' he Q hQ
      have hv0 := inv_mfr (J' := J') hv' (th0_mfr (x := nI 0)) rfl
      have hte : te I (am_u I' 93 0 (nI 0)) := fun a h1 h2 => by rw [am_uRow (by omega), he a (by omega)]
      have e95 : am_u I' 93 0 (nI 0) 95 0 = nI (m_nH I) := by rw [am_uN (by omega), he 95 (by omega)]; exact hok.1.1
      rw [e_M_rests, s_M_corners, e95, bo_t c, am_asIe, e_M_rests_11, am_ifn, if_neg n10]
      refine s_M_layCorners hv0 ?_
      intro M J2 g1 g2 g3
      rw [e_M_rests_22]
      have hr := rs_eq (I := I) he (p := p) (q := q)
      have e95' : M 95 0 = nI (m_nH I) := by rw [g1.1 95 (by omega)]; exact e95
      refine s_M_restOf (n := m_nH I) (p := q_rp I p q) (fun _ => True) e95' hH8 ?_ trivial (fun _ _ _ _ => trivial) ?_ ?_
      · intro a b ha hb
        rw [← hr]
        unfold q_rp
        rw [e_nH hte]
        exact rsb_c ha hb (fun i j hi hj => g3 i j (by rw [e_nH hte]; exact hi) (by rw [e_nH hte]; exact hj))
      · intro a b ha hb hpp hlt e
        have := rcA_le (p := q_rp I p q) hH8 (m_nH I)
        exact absurd e (am_neg1' (by omega))
      · intro _
        rw [if_pos rfl, am_asIe, e_M_rests_27]
        exact hQ _ _ (mfr_trans th0_mfr g1) g2
  · refine op2_q (v := .int (-nI 1)) hv (iv_ans hv ?_) ?_
    · intro Q hQ
      rw [e_S_rests, s_S_singers ht, eH, bo_f c, am_asIe, e_S_rests_6 ht, am_ifn, if_pos rfl]
      exact hQ
    · intro r' I' J' hv' he
      refine iv_mans ?_
      intro Q hQ
      have e95 : am_u I' 93 0 (nI 0) 95 0 = nI (m_nH I) := by rw [am_uN (by omega), he 95 (by omega)]; exact hok.1.1
      rw [e_M_rests, s_M_corners, e95, bo_f c, am_asIe, e_M_rests_11, am_ifn, if_pos rfl]
      exact hQ
theorem op_rest {a b x : Int32} (hv : i_inv r I J) : op2 (d + 12) N 139 265 [.int a, .int b, .int x] r I J := by
  obtain ⟨rt, rs, rd, rl, rx, nt, nw, nf⟩ := r
  obtain ⟨ht, hok, eH, eZ, eL, h0, h12, e49, e118⟩ := iv_ref hv
  have hH8 := hok.1.2
  by_cases c : (¬ a < nI 1 ∧ ¬ nI 9 < a) ∧ (¬ b < nI 1 ∧ ¬ nI 9 < b) ∧ ¬ nI (m_nH I) ≤ nI 0
  · by_cases cx : nI 0 ≤ x
    · obtain ⟨p, hp, rfl⟩ := rs_19 c.1.1 c.1.2
      obtain ⟨q, hq, rfl⟩ := rs_19 c.2.1.1 c.2.1.2
      obtain ⟨k, hk, rfl⟩ := nI_nn cx
      have h64 := rcA_le (p := q_rp I p q) hH8 (m_nH I)
      refine op2_r (A := fun v => (∀ a b, a < m_nH I → b < m_nH I → q_rp I p q a b = true → rc (q_rp I p q) (m_nH I) a b = k → v = .int (nI (10 * a + b))) ∧ (rcA (q_rp I p q) (m_nH I) (m_nH I) ≤ k → v = .int (-nI 2))) hv ?_ ?_
      · intro Q hQ
        rw [e_S_rest, s_S_singers ht, eH, bo_t c, am_asIe, e_S_rest_6 ht, am_ifd, if_neg n10, am_ifd, if_pos cx]
        refine s_T_findRests hv hp hq ?_
        intro I2 J2 g1 g2 g3 g4
        rw [e_S_rest_28, am_ifd, g3]
        by_cases ck : rcA (q_rp I p q) (m_nH I) (m_nH I) ≤ k
        · rw [if_pos (by rw [nI_leI (by omega) (by omega)]; exact ck)]
          refine hQ _ _ _ _ ⟨?_, fun _ => rfl⟩ g1 (ref_t hv.1 ht) rfl g2
          intro a b ha hb hpp e
          have := rc_lt (p := q_rp I p q) (n := m_nH I) (a := m_nH I) (b := 0) (a' := a) (b' := b) (by omega) hb hpp
          rw [rc_0] at this
          omega
        · rw [if_neg (by rw [nI_leI (by omega) (by omega)]; exact ck), am_gI (by omega) (by omega), nI_clamp (by omega)]
          refine hQ _ _ _ _ ⟨?_, fun h => absurd h ck⟩ g1 (ref_t hv.1 ht) rfl g2
          intro a b ha hb hpp e
          have := g4 a b ha hb hpp
          rw [e] at this
          rw [this]
      · intro v hA r' I' J' hv' he Q hQ
        have hv0 := inv_mfr (J' := J') hv' (th0_mfr (x := nI 0)) rfl
        have hte : te I (am_u I' 93 0 (nI 0)) := fun a h1 h2 => by rw [am_uRow (by omega), he a (by omega)]
        have e95 : am_u I' 93 0 (nI 0) 95 0 = nI (m_nH I) := by rw [am_uN (by omega), he 95 (by omega)]; exact hok.1.1
        rw [e_M_rest, s_M_corners, e95, bo_t c, am_asIe, e_M_rest_11, am_ifd, if_neg n10, am_ifd, if_pos cx]
        refine s_M_layCorners hv0 ?_
        intro M J2 g1 g2 g3
        rw [e_M_rest_26]
        have hr := rs_eq (I := I) he (p := p) (q := q)
        have e95' : M 95 0 = nI (m_nH I) := by rw [g1.1 95 (by omega)]; exact e95
        refine s_M_restOf (n := m_nH I) (p := q_rp I p q) (fun c => c ≤ k) e95' hH8 ?_ (Nat.zero_le _) ?_ ?_ ?_
        · intro a b ha hb
          rw [← hr]
          unfold q_rp
          rw [e_nH hte]
          exact rsb_c ha hb (fun i j hi hj => g3 i j (by rw [e_nH hte]; exact hi) (by rw [e_nH hte]; exact hj))
        · intro c hc hck hne
          have : c ≠ k := fun e => hne (by rw [e])
          omega
        · intro a b ha hb hpp hlt e
          have := hA.1 a b ha hb hpp ((nI_eq (by omega) (by omega)).mp e)
          rw [am_asIe, e_M_rest_31, ← this]
          exact hQ _ _ (mfr_trans th0_mfr g1) g2
        · intro hc
          rw [if_neg (am_neg1' hk), am_asIe, e_M_rest_31, ← hA.2 hc]
          exact hQ _ _ (mfr_trans th0_mfr g1) g2
    · refine op2_q (v := .int (-nI 1)) hv (iv_ans hv ?_) ?_
      · intro Q hQ
        rw [e_S_rest, s_S_singers ht, eH, bo_t c, am_asIe, e_S_rest_6 ht, am_ifd, if_neg n10, am_ifd, if_neg cx]
        exact hQ
      · intro r' I' J' hv' he
        refine iv_mans ?_
        intro Q hQ
        have e95 : am_u I' 93 0 (nI 0) 95 0 = nI (m_nH I) := by rw [am_uN (by omega), he 95 (by omega)]; exact hok.1.1
        rw [e_M_rest, s_M_corners, e95, bo_t c, am_asIe, e_M_rest_11, am_ifd, if_neg n10, am_ifd, if_neg cx]
        exact hQ
  · refine op2_q (v := .int (-nI 1)) hv (iv_ans hv ?_) ?_
    · intro Q hQ
      rw [e_S_rest, s_S_singers ht, eH, bo_f c, am_asIe, e_S_rest_6 ht, am_ifd, if_pos rfl]
      exact hQ
    · intro r' I' J' hv' he
      refine iv_mans ?_
      intro Q hQ
      have e95 : am_u I' 93 0 (nI 0) 95 0 = nI (m_nH I) := by rw [am_uN (by omega), he 95 (by omega)]; exact hok.1.1
      rw [e_M_rest, s_M_corners, e95, bo_f c, am_asIe, e_M_rest_11, am_ifd, if_pos rfl]
      exact hQ
end
