/-! ===== L3: the model reads a text, line by line ===== -/
section
variable {Z : Nat → Nat → Int32} {n p m lo hi : Nat} {T : Nat → Nat} {sd : Bool} {f : Nat → Int32} {o : Nat × Nat}
theorem tkE_ge (h7 : n ≤ 700) (hp : p ≤ n) : p ≤ tkE n T p ∧ tkP n T p ≤ tkE n T p := by
  obtain ⟨k1, k2, k3, k4, k5, k6⟩ := tk_pos (T := T) h7 hp
  by_cases c : tkK n T p = 0
  · have e : tkE n T p = tkP n T p := by unfold tkE; rw [if_pos (by omega)]
    omega
  · have := k4 c
    omega
theorem stG_ge (h7 : n ≤ 700) (ho : o.2 ≤ n) : o.2 ≤ (stG n T o).2 := by
  unfold stG
  split
  · exact (tkE_ge h7 ho).1
  · exact Nat.le_refl _
theorem sxN_ge (h7 : n ≤ 700) (ho : o.2 ≤ n) : o.2 ≤ (sxN n T lo hi o).2 := by
  unfold sxN
  split
  · split
    · exact (tkE_ge h7 ho).1
    · exact Nat.le_refl _
  · exact Nat.le_refl _
theorem sxF_ge (h7 : n ≤ 700) (ho : o.2 ≤ n) : o.2 ≤ (sxF n T f m o).2 := by
  unfold sxF
  split
  · split
    · exact (tkE_ge h7 ho).1
    · exact Nat.le_refl _
  · exact Nat.le_refl _
theorem ln12_9 : (ln12 n T p sd).1 ≤ 9 := by
  unfold ln12
  split
  · show 3 ≤ 9; omega
  · split
    · exact Nat.le_trans nuF_9 (by omega)
    · exact Nat.zero_le _
theorem ln12_q (h : (ln12 n T p sd).1 = 0) : (ln12 n T p sd).2 = tkE n T (tkE n T p) := by
  have c := ln12_0 h
  have c0 : ¬ sd = true := by
    intro c0
    unfold ln12 at h
    rw [if_pos c0] at h
    exact absurd (show (3 : Nat) = 0 from h) (by omega)
  unfold ln12
  rw [if_neg c0, if_neg (by omega)]
/-- a line goes on -/
theorem lnR_b (h7 : n ≤ 700) (hp : p ≤ n) (hz : zok Z) : (lnR Z sd n T p).1 ≤ 9 ∧ ((lnR Z sd n T p).1 = 0 → (lnR Z sd n T p).2 ≤ n ∧ tkP n T p < tkP n T (lnR Z sd n T p).2) := by
  obtain ⟨k1, k2, k3, k4, k5, k6⟩ := tk_pos (T := T) h7 hp
  have fin : tkK n T p ≠ 0 → ∀ q, q ≤ n → tkE n T p ≤ q → tkP n T p < tkP n T q := by
    intro h0 q hq hle
    have := k4 h0
    have := (tk_pos (T := T) h7 hq).1
    omega
  have g2 := tkE_ge (T := T) h7 k3
  have k3' := (tk_pos (T := T) h7 k3).2.2.1
  have g3 := tkE_ge (T := T) h7 k3'
  have k3'' := (tk_pos (T := T) h7 k3').2.2.1
  have g4 := tkE_ge (T := T) h7 k3''
  have k3''' := (tk_pos (T := T) h7 k3'').2.2.1
  have two : ∀ q : Nat, ((2, q) : Nat × Nat).1 ≤ 9 ∧ (((2, q) : Nat × Nat).1 = 0 → ((2, q) : Nat × Nat).2 ≤ n ∧ tkP n T p < tkP n T ((2, q) : Nat × Nat).2) := fun q => ⟨by show 2 ≤ 9; omega, fun h => absurd (show (2 : Nat) = 0 from h) (by omega)⟩
  have o0 : ((0, tkE n T p) : Nat × Nat).1 ≤ 9 := Nat.zero_le _
  by_cases c4 : tkK n T p = 4
  · rw [lnR_4 c4]
    by_cases c : m_nH Z = 8
    · rw [show ln4 n T p (Z 96) (m_nH Z) = (2, p) from if_pos c]; exact two p
    · rw [ln4_s c]
      have b := sxF_b (T := T) (f := Z 96) (m := m_nH Z) (o := (0, tkE n T p)) h7 k3 o0
      exact ⟨b.2, fun _ => ⟨b.1, fin (by omega) _ b.1 (sxF_ge (o := (0, tkE n T p)) h7 k3)⟩⟩
  by_cases c5 : tkK n T p = 5
  · rw [lnR_5 c5]
    have b := ln5_b (T := T) (hn := Z 96) (m := m_nH Z) (s := m_nS Z) (wy := wyZ Z) h7 hp
    refine ⟨b.2, fun h => ⟨b.1, fin (by omega) _ b.1 ?_⟩⟩
    obtain ⟨d1, d2, d3, d4, d5⟩ := ln5_0 h
    have d0 := ln5_12 h
    have e : (ln5 n T p (Z 96) (m_nH Z) (m_nS Z) (wyZ Z)).2 = tkE n T (tkE n T (tkE n T (tkE n T p))) := by
      unfold ln5
      rw [if_neg d0, if_neg (by omega), if_neg (by omega), if_neg d3, if_neg (by rw [d4]; exact Bool.false_ne_true), if_neg (by omega)]
    rw [e]; omega
  by_cases c6 : tkK n T p = 6
  · rw [lnR_6 c6]
    by_cases c : m_nZ Z = 5
    · rw [show ln6 n T p (Z 96) (Z 103) (m_nH Z) (m_nZ Z) = (2, p) from if_pos c]; exact two p
    · rw [ln6_s c]
      have b1 := sxF_b (T := T) (f := Z 103) (m := m_nZ Z) (o := (0, tkE n T p)) h7 k3 o0
      have e1 := sxF_ge (T := T) (f := Z 103) (m := m_nZ Z) (o := (0, tkE n T p)) h7 k3
      have b2 := sxA_b (T := T) (f := Z 96) (m := m_nH Z) b1.1 b1.2
      have b3 := stG_b (T := T) h7 b2.1 b2.2
      have e3 := stG_ge (T := T) h7 b2.1
      rw [sxA_2] at e3
      have b4 := sxN_b (T := T) (lo := 0) (hi := 9) h7 b3.1 b3.2
      have e4 := sxN_ge (T := T) (lo := 0) (hi := 9) h7 b3.1
      have b5 := sxA_b (T := T) (f := Z 96) (m := m_nH Z) b4.1 b4.2
      have b6 := stG_b (T := T) h7 b5.1 b5.2
      have e6 := stG_ge (T := T) h7 b5.1
      rw [sxA_2] at e6
      refine ⟨b6.2, fun _ => ⟨b6.1, fin (by omega) _ b6.1 ?_⟩⟩
      exact Nat.le_trans (Nat.le_trans (Nat.le_trans e1 e3) e4) e6
  by_cases c7 : tkK n T p = 7
  · rw [lnR_7 c7]
    by_cases c : m_nL Z = 8
    · rw [show ln7 n T p (Z 96) (Z 103) (m_nH Z) (m_nZ Z) (m_nL Z) = (2, p) from if_pos c]; exact two p
    · rw [ln7_s c]
      have b2 := sxA_b (T := T) (f := Z 103) (m := m_nZ Z) (o := (0, tkE n T p)) k3 o0
      have b3 := stG_b (T := T) h7 b2.1 b2.2
      have e3 := stG_ge (T := T) h7 b2.1
      rw [sxA_2] at e3
      have b5 := sxA_b (T := T) (f := Z 96) (m := m_nH Z) b3.1 b3.2
      have b6 := stG_b (T := T) h7 b5.1 b5.2
      have e6 := stG_ge (T := T) h7 b5.1
      rw [sxA_2] at e6
      refine ⟨b6.2, fun _ => ⟨b6.1, fin (by omega) _ b6.1 ?_⟩⟩
      exact Nat.le_trans e3 e6
  by_cases c8 : tkK n T p = 8
  · rw [lnR_8 c8]
    by_cases c : m_nA Z = 6
    · rw [show ln8 n T p (Z 96) (m_nH Z) (m_nA Z) = (2, p) from if_pos c]; exact two p
    · rw [ln8_s c]
      have b2 := sxA_b (T := T) (f := Z 96) (m := m_nH Z) (o := (0, tkE n T p)) k3 o0
      have b3 := stG_b (T := T) h7 b2.1 b2.2
      have e3 := stG_ge (T := T) h7 b2.1
      rw [sxA_2] at e3
      have b4 := sxN_b (T := T) (lo := 0) (hi := 11) h7 b3.1 b3.2
      have e4 := sxN_ge (T := T) (lo := 0) (hi := 11) h7 b3.1
      generalize (if (sxN n T 0 11 (stG n T (sxA n T (Z 96) (m_nH Z) (0, tkE n T p)))).1 = 0 then tkV n T (stG n T (sxA n T (Z 96) (m_nH Z) (0, tkE n T p))).2 else 0) = w
      have b5 := sxN_b (T := T) (lo := w) (hi := 11) h7 b4.1 b4.2
      have e5 := sxN_ge (T := T) (lo := w) (hi := 11) h7 b4.1
      refine ⟨b5.2, fun _ => ⟨b5.1, fin (by omega) _ b5.1 ?_⟩⟩
      exact Nat.le_trans (Nat.le_trans e3 e4) e5
  have h9 : ∀ a, (ln9 n T p (Z 96) (m_nH Z) (fun h => decide (¬ Z a h ≤ nI 0))).2 ≤ n ∧ (ln9 n T p (Z 96) (m_nH Z) (fun h => decide (¬ Z a h ≤ nI 0))).1 ≤ 9 ∧ tkE n T p ≤ (ln9 n T p (Z 96) (m_nH Z) (fun h => decide (¬ Z a h ≤ nI 0))).2 := by
    intro a
    have b := ln9_b (T := T) (hn := Z 96) (m := m_nH Z) (lw := fun h => decide (¬ Z a h ≤ nI 0)) h7 k3
    refine ⟨b.1, b.2, ?_⟩
    rw [ln9_s]
    have b1 := sxA_b (T := T) (f := Z 96) (m := m_nH Z) (o := (0, tkE n T p)) k3 o0
    have b2 := sxL_b (b := decide (¬ Z a (nhI (Z 96) (m_nH Z) n T (tkE n T p)) ≤ nI 0)) b1.1 b1.2
    have b3 := stG_b (T := T) h7 b2.1 b2.2
    have e3 := stG_ge (T := T) h7 b2.1
    rw [sxL_2, sxA_2] at e3
    have e4 := sxN_ge (T := T) (lo := 1) (hi := 9) h7 b3.1
    exact Nat.le_trans e3 e4
  by_cases c9 : tkK n T p = 9
  · rw [lnR_9 c9]
    obtain ⟨b1, b2, b3⟩ := h9 97
    exact ⟨b2, fun _ => ⟨b1, fin (by omega) _ b1 b3⟩⟩
  by_cases c11 : tkK n T p = 11
  · rw [lnR_11 c11]
    obtain ⟨b1, b2, b3⟩ := h9 99
    exact ⟨b2, fun _ => ⟨b1, fin (by omega) _ b1 b3⟩⟩
  by_cases c10 : tkK n T p = 10
  · rw [lnR_10 c10]
    have b := ln10_b (T := T) (hn := Z 96) (m := m_nH Z) (lw := fun h => decide (¬ Z 98 h ≤ nI 0)) h7 k3
    refine ⟨b.2, fun _ => ⟨b.1, fin (by omega) _ b.1 ?_⟩⟩
    rw [ln10_s]
    have b1 := sxA_b (T := T) (f := Z 96) (m := m_nH Z) (o := (0, tkE n T p)) k3 o0
    have b2 := sxL_b (b := decide (¬ Z 98 (nhI (Z 96) (m_nH Z) n T (tkE n T p)) ≤ nI 0)) b1.1 b1.2
    have e3 := stG_ge (T := T) h7 b2.1
    rw [sxL_2, sxA_2] at e3
    exact e3
  by_cases c12 : tkK n T p = 12
  · rw [lnR_12 c12]
    refine ⟨ln12_9, fun h => ?_⟩
    rw [ln12_q h]
    exact ⟨k3', fin (by omega) _ k3' (by omega)⟩
  by_cases c13 : tkK n T p = 13
  · rw [lnR_13 c13]
    refine ⟨ln13_9, fun h => ?_⟩
    obtain ⟨⟨_, _, _, _, _, ⟨z6, z6'⟩⟩, _⟩ := hz
    by_cases d1 : tkK n T (tkE n T p) < 14 ∨ 16 < tkK n T (tkE n T p)
    · unfold ln13 at h
      rw [if_pos d1] at h
      exact absurd (show (1 : Nat) = 0 from h) (by omega)
    · by_cases d2 : m_has Z (tkK n T (tkE n T p) - 14) = true
      · unfold ln13 at h
        rw [if_neg d1, if_pos d2] at h
        exact absurd (show (3 : Nat) = 0 from h) (by omega)
      · have e : ln13 n T p (m_has Z) (m_kn Z) = ((sy n T 701 (tkE n T (tkE n T p)) [] [false] true true (m_kn Z) []).1, (sy n T 701 (tkE n T (tkE n T p)) [] [false] true true (m_kn Z) []).2.1) := by
          unfold ln13
          rw [if_neg d1, if_neg d2]
        rw [e] at h ⊢
        have so := sy_ok (st := m_kn Z) h7 (m := 701) (p := tkE n T (tkE n T p)) (w := []) (cp := [false]) (sd := true) (nm := true) (kn := m_kn Z) (R := []) k3' (by omega) ⟨z6', by show m_kn Z + 0 + 0 = _; omega, rfl, by show 1 ≤ 1; omega, by show 1 ≤ 9; omega, fun k hk => by cases hk⟩ (fun k hk => by cases hk) (fun x hx => by cases hx) (by show 0 = (if true = true then 0 else 1) + 0; rw [if_pos rfl]) h
        refine ⟨so.2.2.2.2.2.1, ?_⟩
        have a1 := so.2.2.2.2.2.2
        have a2 := fin (by omega) (tkE n T (tkE n T p)) k3' (by omega)
        show tkP n T p < tkP n T (sy n T 701 (tkE n T (tkE n T p)) [] [false] true true (m_kn Z) []).2.1
        omega
  · rw [lnR_no (by omega)]
    exact ⟨by show 1 ≤ 9; omega, fun h => absurd (show (1 : Nat) = 0 from h) (by omega)⟩
end
section
variable {d N : Nat} {Q : Value → am_H → Prop} {r : am_rho} {J : Nat → Nat → Int64} {n : Nat} {T : Nat → Nat}
/-- from line to line -/
theorem md_loop {x1 x2 : Int32} : ∀ (m p : Nat) (Z : Nat → Nat → Int32) (sd : Bool) (ln : Nat) (I : Nat → Nat → Int32) (v : Int32), n ≤ tkP n T p + m → p ≤ n → txm I n T → mdI Z sd ln I → tvm n T p v →
    (∀ f q ln' Z' I' v', rdF n T m p Z sd ln = (f, q, ln', Z') → f ≠ 0 → frm I I' → Q (.int (-nI 1)) (am_hp N r (mS (am_u (am_u I' 93 33 (nI f)) 93 34 (nI (tkP n T q))) n T (f, q) v') J)) →
    (∀ q ln' Z' I' v', rdF n T m p Z sd ln = (0, q, ln', Z') → frm I I' → mV I' Z' → zok Z' → I' 93 25 = nI ln' → am_D (d + 151) 195 [.ref 95] (am_hp N r (mS (am_u (am_u I' 93 33 (nI 0)) 93 34 (-nI 1)) n T (0, q) v') J) (fun _ h => am_V (d + 151) Q 196 171 [some (.ref 93), some (.int x1), some (.int x2)] [] h)) →
    am_V (d + 151) Q 196 117 [some (.ref 93), some (.int x1), some (.int x2)] [] (am_hp N r (mS I n T (0, p) v) J) := by
  have stop : ∀ (f q : Nat) (I' : Nat → Nat → Int32) (v' : Int32), f ≠ 0 → f ≤ 9 → Q (.int (-nI 1)) (am_hp N r (mS (am_u (am_u I' 93 33 (nI f)) 93 34 (nI (tkP n T q))) n T (f, q) v') J) → am_V (d + 151) Q 196 117 [some (.ref 93), some (.int x1), some (.int x2)] [] (am_hp N r (mS I' n T (f, q) v') J) := by
    intro f q I' v' hf hf9 h
    rw [e_M_text_117, mS_31, mS_u (by omega), mS_32, mS_u (by omega), mS_31, am_ifni (nI_eq (by show f < _; omega) (by omega)), if_neg (show ¬ (f, q).1 = 0 from hf), if_neg (show ¬ (f, q).1 = 0 from hf), am_ifi (nI_eq (by show f < _; omega) (by omega)), if_neg (show ¬ (f, q).1 = 0 from hf)]
    exact h
  intro m
  induction m with
  | zero =>
    intro p Z sd ln I v hm hp hx hi hv hF hS
    have h7 := hx.1.1
    obtain ⟨k1, k2, k3, k4, k5, k6⟩ := tk_pos (T := T) h7 hp
    have c0 : tkK n T p = 0 := k5.mpr (by omega)
    have t4 : tso (tkK n T p) = 4 := (tso_t _ k6).2.2.2.2.1.mpr c0
    rw [e_M_text_117, mS_31, mS_u (by omega), mS_32, mS_u (by omega), mS_31, am_ifni (nI_eq (by show (0 : Nat) < _; omega) (by omega)), if_pos (show (0, p).1 = 0 from rfl), mS_29p, t4, am_ifd, if_pos rfl, am_ifi (nI_eq (by show (0 : Nat) < _; omega) (by omega)), if_pos (show (0, p).1 = 0 from rfl), if_pos (show (0, p).1 = 0 from rfl)]
    exact hS p ln Z I v rfl frm_re hi.2.1 hi.1 hi.2.2.1
  | succ m ih =>
    intro p Z sd ln I v hm hp hx hi hv hF hS
    have h7 := hx.1.1
    obtain ⟨k1, k2, k3, k4, k5, k6⟩ := tk_pos (T := T) h7 hp
    obtain ⟨_, _, _, _, t4, t6⟩ := tso_t (tkK n T p) k6
    rw [rdF_S] at hF hS
    rw [e_M_text_117, mS_31, mS_u (by omega), mS_32, mS_u (by omega), mS_31, am_ifni (nI_eq (by show (0 : Nat) < _; omega) (by omega)), if_pos (show (0, p).1 = 0 from rfl), mS_29p, am_ifi (nI_eq (by omega) (by omega))]
    by_cases c0 : tkK n T p = 0
    · rw [if_pos c0] at hS
      rw [if_pos (t4.mpr c0), am_ifi (nI_eq (by show (0 : Nat) < _; omega) (by omega)), if_pos (show (0, p).1 = 0 from rfl), if_pos (show (0, p).1 = 0 from rfl)]
      exact hS p ln Z I v rfl frm_re hi.2.1 hi.1 hi.2.2.1
    · rw [if_neg c0] at hF hS
      rw [if_neg (fun g => c0 (t4.mp g))]
      have lb := lnR_b (sd := sd) (T := T) h7 hp hi.1
      refine md_line (d := d) hx hi hp hv ?_ ?_
      · intro f I' v' hh fr
        rw [e_M_text_136]
        rcases hh with ⟨g1, g2⟩ | ⟨g1, g2, g3⟩
        · subst g2
          refine stop _ _ I' v' g1 lb.1 ?_
          exact hF _ _ ln Z I' v' (by rw [if_pos g1]) g1 fr
        · subst g3
          refine stop _ _ I' v' (by omega) (by omega) ?_
          exact hF _ _ ln Z I' v' (by rw [if_neg (by simp [g1]), if_pos g2]) (by omega) fr
      · intro q I' v' e h27 hv' fr hi'
        rw [e_M_text_136]
        rw [e] at lb
        obtain ⟨hq, hlt⟩ := lb.2 rfl
        have hlt' : tkP n T p < tkP n T q := hlt
        have hq' : q ≤ n := hq
        obtain ⟨j1, j2, j3, j4, j5, j6⟩ := tk_pos (T := T) h7 hq'
        have j7 := (tk_pos (T := T) h7 j3).1
        have j8 := j4 (by omega)
        rw [e, if_neg (by simp), if_neg (by simp [h27])] at hF hS
        refine ih (tkE n T q) (zL Z n T p) (sd || decide (tkK n T p = 12)) (ln + 1) I' v' (by omega) j3 (txm_f hx fr) hi' hv' ?_ ?_
        · intro f q' ln' Z' I2 v2 k1 k2 k3
          exact hF f q' ln' Z' I2 v2 k1 k2 (frm_tr fr k3)
        · intro q' ln' Z' I2 v2 k1 k2 k3 k4 k5
          exact hS q' ln' Z' I2 v2 k1 (frm_tr fr k2) k3 k4 k5
end
