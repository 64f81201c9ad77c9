/-! ===== L3: the model reads a text, line by line ===== -/
section
variable {Z : Nat → Nat → Int32} {n p m lo hi : Nat} {T : Nat → Nat} {sd : Bool} {f : Nat → Int32} {o : Nat × Nat}
theorem tkE_ge (h7 : n ≤ 700) (hp : p ≤ n) : p ≤ tkE n T p ∧ tkP n T p ≤ tkE n T p := by
  obtain ⟨k1, k2, k3, k4, k5, k6⟩ := tk_pos (T := T) h7 hp
  by_cases c : tkK n T p = 0
  · have e : tkE n T p = tkP n T p := by unfold tkE; rw [if_pos (by omega)]
    omega
  · have := k4 c
    omega
theorem stG_ge (h7 : n ≤ 700) (ho : o.2 ≤ n) : o.2 ≤ (stG n T o).2 := by
  unfold stG
  split
  · exact (tkE_ge h7 ho).1
  · exact Nat.le_refl _
theorem sxN_ge (h7 : n ≤ 700) (ho : o.2 ≤ n) : o.2 ≤ (sxN n T lo hi o).2 := by
  unfold sxN
  split
  · split
    · exact (tkE_ge h7 ho).1
    · exact Nat.le_refl _
  · exact Nat.le_refl _
theorem sxF_ge (h7 : n ≤ 700) (ho : o.2 ≤ n) : o.2 ≤ (sxF n T f m o).2 := by
  unfold sxF
  split
  · split
    · exact (tkE_ge h7 ho).1
    · exact Nat.le_refl _
  · exact Nat.le_refl _
theorem ln12_9 : (ln12 n T p sd).1 ≤ 9 := by
  unfold ln12
  split
  · show 3 ≤ 9; omega
  · split
    · exact Nat.le_trans nuF_9 (by omega)
    · exact Nat.zero_le _
theorem ln12_q (h : (ln12 n T p sd).1 = 0) : (ln12 n T p sd).2 = tkE n T (tkE n T p) := by
  have c := ln12_0 h
  have c0 : ¬ sd = true := by
    intro c0
    unfold ln12 at h
    rw [if_pos c0] at h
    exact absurd (show (3 : Nat) = 0 from h) (by omega)
  unfold ln12
  rw [if_neg c0, if_neg (by omega)]
/-- a line goes on -/
theorem lnR_b (h7 : n ≤ 700) (hp : p ≤ n) (hz : zok Z) : (lnR Z sd n T p).1 ≤ 9 ∧ ((lnR Z sd n T p).1 = 0 → (lnR Z sd n T p).2 ≤ n ∧ tkP n T p < tkP n T (lnR Z sd n T p).2) := sorry
end
section
variable {d N : Nat} {Q : Value → am_H → Prop} {r : am_rho} {J : Nat → Nat → Int64} {n : Nat} {T : Nat → Nat}
/-- from line to line -/
theorem md_loop {x1 x2 : Int32} : ∀ (m p : Nat) (Z : Nat → Nat → Int32) (sd : Bool) (ln : Nat) (I : Nat → Nat → Int32) (v : Int32), n ≤ tkP n T p + m → p ≤ n → txm I n T → mdI Z sd ln I → tvm n T p v →
    (∀ f q ln' Z' I' v', rdF n T m p Z sd ln = (f, q, ln', Z') → f ≠ 0 → frm I I' → Q (.int (-nI 1)) (am_hp N r (mS (am_u (am_u I' 93 33 (nI f)) 93 34 (nI (tkP n T q))) n T (f, q) v') J)) →
    (∀ q ln' Z' I' v', rdF n T m p Z sd ln = (0, q, ln', Z') → frm I I' → mV I' Z' → zok Z' → I' 93 25 = nI ln' → am_D (d + 151) 195 [.ref 95] (am_hp N r (mS (am_u (am_u I' 93 33 (nI 0)) 93 34 (-nI 1)) n T (0, q) v') J) (fun _ h => am_V (d + 151) Q 196 171 [some (.ref 93), some (.int x1), some (.int x2)] [] h)) →
    am_V (d + 151) Q 196 117 [some (.ref 93), some (.int x1), some (.int x2)] [] (am_hp N r (mS I n T (0, p) v) J) := by
  have stop : ∀ (f q : Nat) (I' : Nat → Nat → Int32) (v' : Int32), f ≠ 0 → f ≤ 9 → Q (.int (-nI 1)) (am_hp N r (mS (am_u (am_u I' 93 33 (nI f)) 93 34 (nI (tkP n T q))) n T (f, q) v') J) → am_V (d + 151) Q 196 117 [some (.ref 93), some (.int x1), some (.int x2)] [] (am_hp N r (mS I' n T (f, q) v') J) := by
    intro f q I' v' hf hf9 h
    rw [e_M_text_117, mS_31, mS_u (by omega), mS_32, mS_u (by omega), mS_31, am_ifni (nI_eq (by show f < _; omega) (by omega)), if_neg (show ¬ (f, q).1 = 0 from hf), if_neg (show ¬ (f, q).1 = 0 from hf), am_ifi (nI_eq (by show f < _; omega) (by omega)), if_neg (show ¬ (f, q).1 = 0 from hf)]
    exact h
  intro m
  induction m with
  | zero =>
    intro p Z sd ln I v hm hp hx hi hv hF hS
    have h7 := hx.1.1
    obtain ⟨k1, k2, k3, k4, k5, k6⟩ := tk_pos (T := T) h7 hp
    have c0 : tkK n T p = 0 := k5.mpr (by omega)
    have t4 : tso (tkK n T p) = 4 := (tso_t _ k6).2.2.2.2.1.mpr c0
    rw [e_M_text_117, mS_31, mS_u (by omega), mS_32, mS_u (by omega), mS_31, am_ifni (nI_eq (by show (0 : Nat) < _; omega) (by omega)), if_pos (show (0, p).1 = 0 from rfl), mS_29p, t4, am_ifd, if_pos rfl, am_ifi (nI_eq (by show (0 : Nat) < _; omega) (by omega)), if_pos (show (0, p).1 = 0 from rfl), if_pos (show (0, p).1 = 0 from rfl)]
    exact hS p ln Z I v rfl frm_re hi.2.1 hi.1 hi.2.2.1
  | succ m ih =>
    intro p Z sd ln I v hm hp hx hi hv hF hS
    have h7 := hx.1.1
    obtain ⟨k1, k2, k3, k4, k5, k6⟩ := tk_pos (T := T) h7 hp
    obtain ⟨_, _, _, _, t4, t6⟩ := tso_t (tkK n T p) k6
    rw [rdF_S] at hF hS
    rw [e_M_text_117, mS_31, mS_u (by omega), mS_32, mS_u (by omega), mS_31, am_ifni (nI_eq (by show (0 : Nat) < _; omega) (by omega)), if_pos (show (0, p).1 = 0 from rfl), mS_29p, am_ifi (nI_eq (by omega) (by omega))]
    by_cases c0 : tkK n T p = 0
    · rw [if_pos c0] at hS
      rw [if_pos (t4.mpr c0), am_ifi (nI_eq (by show (0 : Nat) < _; omega) (by omega)), if_pos (show (0, p).1 = 0 from rfl), if_pos (show (0, p).1 = 0 from rfl)]
      exact hS p ln Z I v rfl frm_re hi.2.1 hi.1 hi.2.2.1
    · rw [if_neg c0] at hF hS
      rw [if_neg (fun g => c0 (t4.mp g))]
      have lb := lnR_b (sd := sd) (T := T) h7 hp hi.1
      refine md_line (d := d) hx hi hp hv ?_ ?_
      · intro f I' v' hh fr
        rw [e_M_text_136]
        rcases hh with ⟨g1, g2⟩ | ⟨g1, g2, g3⟩
        · subst g2
          refine stop _ _ I' v' g1 lb.1 ?_
          exact hF _ _ ln Z I' v' (by rw [if_pos g1]) g1 fr
        · subst g3
          refine stop _ _ I' v' (by omega) (by omega) ?_
          exact hF _ _ ln Z I' v' (by rw [if_neg (by simp [g1]), if_pos g2]) (by omega) fr
      · intro q I' v' e h27 hv' fr hi'
        rw [e_M_text_136]
        rw [e] at lb
        obtain ⟨hq, hlt⟩ := lb.2 rfl
        have hlt' : tkP n T p < tkP n T q := hlt
        have hq' : q ≤ n := hq
        obtain ⟨j1, j2, j3, j4, j5, j6⟩ := tk_pos (T := T) h7 hq'
        have j7 := (tk_pos (T := T) h7 j3).1
        have j8 := j4 (by omega)
        rw [e, if_neg (by simp), if_neg (by simp [h27])] at hF hS
        refine ih (tkE n T q) (zL Z n T p) (sd || decide (tkK n T p = 12)) (ln + 1) I' v' (by omega) j3 (txm_f hx fr) hi' hv' ?_ ?_
        · intro f q' ln' Z' I2 v2 k1 k2 k3
          exact hF f q' ln' Z' I2 v2 k1 k2 (frm_tr fr k3)
        · intro q' ln' Z' I2 v2 k1 k2 k3 k4 k5
          exact hS q' ln' Z' I2 v2 k1 (frm_tr fr k2) k3 k4 k5
end
