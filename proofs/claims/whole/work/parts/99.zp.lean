/-! ===== L3: the model reads a line ===== -/
section
variable {Z : Nat → Nat → Int32} {n p m s q lo hi : Nat} {T : Nat → Nat} {sd : Bool} {f hn : Nat → Int32}
theorem nhF_9 : nhF f m n T q ≤ 9 := by unfold nhF; split; omega; split <;> omega
theorem ln5_b {wy : Nat → Nat → Bool} (h7 : n ≤ 700) (hp : p ≤ n) : (ln5 n T p hn m s wy).2 ≤ n ∧ (ln5 n T p hn m s wy).1 ≤ 9 := by
  have k1 := (tk_pos (T := T) h7 hp).2.2.1
  have k2 := (tk_pos (T := T) h7 k1).2.2.1
  have k3 := (tk_pos (T := T) h7 k2).2.2.1
  have k4 := (tk_pos (T := T) h7 k3).2.2.1
  unfold ln5
  split
  · exact ⟨hp, by show 2 ≤ 9; omega⟩
  · split
    · exact ⟨k1, nhF_9⟩
    · split
      · exact ⟨k2, nhF_9⟩
      · split
        · exact ⟨k2, by show 5 ≤ 9; omega⟩
        · split
          · exact ⟨k2, by show 3 ≤ 9; omega⟩
          · split
            · exact ⟨k3, Nat.le_trans nuF_9 (by omega)⟩
            · exact ⟨k4, Nat.zero_le _⟩
theorem ln9_b {lw : Nat → Bool} (h7 : n ≤ 700) (hp : tkE n T p ≤ n) : (ln9 n T p hn m lw).2 ≤ n ∧ (ln9 n T p hn m lw).1 ≤ 9 := by
  rw [ln9_s]
  have b1 := sxA_b (T := T) (f := hn) (m := m) (o := (0, tkE n T p)) hp (Nat.zero_le _)
  have b2 := sxL_b (b := lw (nhI hn m n T (tkE n T p))) b1.1 b1.2
  have b3 := stG_b (T := T) h7 b2.1 b2.2
  exact sxN_b h7 b3.1 b3.2
theorem ln10_b {lw : Nat → Bool} (h7 : n ≤ 700) (hp : tkE n T p ≤ n) : (ln10 n T p hn m lw).2 ≤ n ∧ (ln10 n T p hn m lw).1 ≤ 9 := by
  rw [ln10_s]
  have b1 := sxA_b (T := T) (f := hn) (m := m) (o := (0, tkE n T p)) hp (Nat.zero_le _)
  have b2 := sxL_b (b := lw (nhI hn m n T (tkE n T p))) b1.1 b1.2
  exact stG_b (T := T) h7 b2.1 b2.2
/-- one more than may be -/
theorem lnR_ful {w : Nat} (hk : tkK n T p = 4 + w) (h : ful Z w = true) : lnR Z sd n T p = (2, p) := by
  unfold ful at h
  have h' := of_decide_eq_true h
  rcases h' with ⟨rfl, e⟩ | ⟨rfl, e⟩ | ⟨rfl, e⟩ | ⟨rfl, e⟩ | ⟨rfl, e⟩
  · rw [lnR_4 hk]; unfold ln4; rw [if_pos e]
  · rw [lnR_5 hk]; unfold ln5; rw [if_pos e]
  · rw [lnR_6 hk]; unfold ln6; rw [if_pos e]
  · rw [lnR_7 hk]; unfold ln7; rw [if_pos e]
  · rw [lnR_8 hk]; unfold ln8; rw [if_pos e]
theorem lnR_no (h : tkK n T p < 4 ∨ 13 < tkK n T p) : lnR Z sd n T p = (1, p) := by
  unfold lnR
  rw [if_neg (by omega), if_neg (by omega), if_neg (by omega), if_neg (by omega), if_neg (by omega), if_neg (by omega), if_neg (by omega), if_neg (by omega), if_neg (by omega), if_neg (by omega)]
theorem zL_k (hk : 4 ≤ tkK n T p ∧ tkK n T p ≤ 12) : m_kn (zL Z n T p) = m_kn Z ∧ ∀ k, m_has (zL Z n T p) k = m_has Z k := by
  rcases (show tkK n T p = 4 ∨ tkK n T p = 5 ∨ tkK n T p = 6 ∨ tkK n T p = 7 ∨ tkK n T p = 8 ∨ tkK n T p = 9 ∨ tkK n T p = 10 ∨ tkK n T p = 11 ∨ tkK n T p = 12 by omega) with e | e | e | e | e | e | e | e | e
  · rw [zL_4 e]; unfold z4; refine ⟨?_, fun k => ?_⟩
    · unfold m_kn; rw [am_uN (by omega), am_uN (by omega), am_uN (by omega), am_uN (by omega), am_uN (by omega)]
    · unfold m_has; rw [am_uRow (by omega), am_uRow (by omega), am_uRow (by omega), am_uRow (by omega), am_uRow (by omega), am_uRow (by omega), am_uRow (by omega), am_uRow (by omega), am_uRow (by omega), am_uRow (by omega)]
  · rw [zL_5 e]; unfold z5; refine ⟨?_, fun k => ?_⟩
    · unfold m_kn; rw [am_uN (by omega), am_uN (by omega), am_uN (by omega), am_uN (by omega)]
    · unfold m_has; rw [am_uRow (by omega), am_uRow (by omega), am_uRow (by omega), am_uRow (by omega), am_uRow (by omega), am_uRow (by omega), am_uRow (by omega), am_uRow (by omega)]
  · rw [zL_6 e]; unfold z6; refine ⟨?_, fun k => ?_⟩
    · unfold m_kn; rw [am_uN (by omega), am_uN (by omega), am_uN (by omega), am_uN (by omega), am_uN (by omega)]
    · unfold m_has; rw [am_uRow (by omega), am_uRow (by omega), am_uRow (by omega), am_uRow (by omega), am_uRow (by omega), am_uRow (by omega), am_uRow (by omega), am_uRow (by omega), am_uRow (by omega), am_uRow (by omega)]
  · rw [zL_7 e]; unfold z7; refine ⟨?_, fun k => ?_⟩
    · unfold m_kn; rw [am_uN (by omega), am_uN (by omega), am_uN (by omega)]
    · unfold m_has; rw [am_uRow (by omega), am_uRow (by omega), am_uRow (by omega), am_uRow (by omega), am_uRow (by omega), am_uRow (by omega)]
  · rw [zL_8 e]; unfold z8; refine ⟨?_, fun k => ?_⟩
    · unfold m_kn; rw [am_uN (by omega), am_uN (by omega), am_uN (by omega), am_uN (by omega)]
    · unfold m_has; rw [am_uRow (by omega), am_uRow (by omega), am_uRow (by omega), am_uRow (by omega), am_uRow (by omega), am_uRow (by omega), am_uRow (by omega), am_uRow (by omega)]
  · rw [zL_9 e]; exact ⟨by unfold m_kn; rw [am_uN (by omega)], fun k => by unfold m_has; rw [am_uRow (by omega), am_uRow (by omega)]⟩
  · rw [zL_10 e]; exact ⟨by unfold m_kn; rw [am_uN (by omega)], fun k => by unfold m_has; rw [am_uRow (by omega), am_uRow (by omega)]⟩
  · rw [zL_11 e]; exact ⟨by unfold m_kn; rw [am_uN (by omega)], fun k => by unfold m_has; rw [am_uRow (by omega), am_uRow (by omega)]⟩
  · rw [zL_12 e]; exact ⟨by unfold m_kn; rw [am_uN (by omega)], fun k => by unfold m_has; rw [am_uRow (by omega), am_uRow (by omega)]⟩
theorem z13_k {ru kn kn' : Nat} {R : List Nat} (h : kn' < 2 ^ 31) : m_kn (z13 ru kn kn' R Z) = kn' := by
  unfold m_kn z13
  rw [am_uE, nI_clamp h]
theorem z13_h {ru kn kn' k : Nat} {R : List Nat} (h : kn < kn') (h' : kn' ≤ 64) : m_has (z13 ru kn kn' R Z) k = (m_has Z k || decide (k = ru)) := by
  unfold m_has z13
  rw [am_uN (by omega), am_uN (by omega)]
  by_cases e : k = ru
  · subst e
    rw [am_uE, am_uN (by omega), am_uE, decide_eq_true (nI_lt h (by omega)), decide_eq_true rfl, Bool.or_true]
  · rw [am_uN (by omega), rwz_oo (by omega) (by omega), am_uN (by omega), am_uN (by omega), am_uN (by omega), rwz_oo (by omega) (by omega), decide_eq_false e, Bool.or_false]
end
section
variable {d N : Nat} {Q : Value → am_H → Prop} {r : am_rho} {I Z : Nat → Nat → Int32} {J : Nat → Nat → Int64} {n p ln : Nat} {T : Nat → Nat} {v : Int32} {sd : Bool}
/-- what stands between the model's lines -/
def mdI (Z : Nat → Nat → Int32) (sd : Bool) (ln : Nat) (I : Nat → Nat → Int32) : Prop := zok Z ∧ mV I Z ∧ I 93 25 = nI ln ∧ I 93 35 = nI 0 ∧ I 93 36 = nI (m_kn Z) ∧ bt (I 93 24) 8 = sd ∧ ∀ k, k < 3 → bt (I 93 24) (16 + k) = m_has Z k
/-- a line, behind its first word -/
theorem md_line90 {w : Nat} (hx : txm I n T) (hi : mdI Z sd ln I) (hp : p ≤ n) (hw : tkK n T p = 4 + w) (hw9 : w ≤ 9) (hfu : ful Z w = false) (hsd : w = 8 → sd = false) (hv : tvm n T (tkE n T p) v)
    (hF : lnE N r J Q I n T (lnR Z sd n T p))
    (hS : ∀ q I' v', lnR Z sd n T p = (0, q) → tkK n T q = 27 → tvm n T (tkE n T q) v' → frm I I' → mdI (zL Z n T p) (sd || decide (tkK n T p = 12)) (ln + 1) I' → Q .null (am_hp N r (mS I' n T (0, tkE n T q) v') J)) :
    am_V (d + 150) Q 182 90 [some (.ref 93), some (.int (nI w)), none, none, none, none] [] (am_hp N r (mS (am_u I 93 24 (I 93 24 ||| am_pw w)) n T (0, tkE n T p) v) J) := by
  have h7 := hx.1.1
  have hE := (tk_pos (T := T) h7 hp).2.2.1
  obtain ⟨hz, hV, h25, h35, h36, hb8, hb16⟩ := hi
  have hf' := of_decide_eq_false hfu
  generalize hI1 : am_u I 93 24 (I 93 24 ||| am_pw w) = I1
  have fr1 : frm I I1 := by rw [← hI1]; exact frm_u (by omega)
  have hx1 := txm_f hx fr1
  have hV1 : mV I1 Z := by rw [← hI1]; exact mV_o (by omega) hV
  have a25 : I1 93 25 = nI ln := by rw [← hI1, am_uN (by omega)]; exact h25
  have a35 : I1 93 35 = nI 0 := by rw [← hI1, am_uN (by omega)]; exact h35
  have a36 : I1 93 36 = nI (m_kn Z) := by rw [← hI1, am_uN (by omega)]; exact h36
  have a24 : ∀ i, i < 32 → bt (I1 93 24) i = (bt (I 93 24) i || decide (i = w)) := by
    intro i hi
    rw [← hI1, am_uE, b_or, b_pw (by omega) hi]
  have hF1 : lnE N r J Q I1 n T (lnR Z sd n T p) := lnE_f hF fr1
  have hG : w ≤ 8 → lnG N r J Q I1 n T ln (zL Z n T p) (lnR Z sd n T p) := by
    intro hw8 v' I' e0 e27 hv' fr hV' h33 h24 h25'
    obtain ⟨g1, g2⟩ := zL_k (Z := Z) (n := n) (p := p) (T := T) (by omega)
    refine hS _ I' v' (Prod.ext e0 rfl) e27 hv' (frm_tr fr1 fr) ⟨zok_L hz e0 (by omega), hV', h25', ?_, ?_, ?_, ?_⟩
    · rw [h33 35 (by omega)]; exact a35
    · rw [h33 36 (by omega), g1]; exact a36
    · rw [h24, a24 8 (by omega), hb8]
      congr 1
      exact decide_eq_decide.mpr (by omega)
    · intro k hk
      rw [h24, a24 (16 + k) (by omega), hb16 k hk, g2, decide_eq_false (by omega), Bool.or_false]
  rcases (show w = 0 ∨ w = 1 ∨ w = 2 ∨ w = 3 ∨ w = 4 ∨ w = 5 ∨ w = 6 ∨ w = 7 ∨ w = 8 ∨ w = 9 by omega) with rfl | rfl | rfl | rfl | rfl | rfl | rfl | rfl | rfl | rfl
  · have G := hG (by omega)
    rw [lnR_4 hw, zL_4 hw] at G
    rw [lnR_4 hw] at hF1
    exact md_house (d := d + 141) hx1 hz hV1 (by omega) hE hv a25 hF1 G
  · have G := hG (by omega)
    rw [lnR_5 hw, zL_5 hw] at G
    rw [lnR_5 hw] at hF1
    obtain ⟨⟨_, ⟨z1, z1'⟩, _⟩, _⟩ := id hz
    have f1 : I1 95 8 = nI (m_nS Z) := by rw [← z1]; exact hV1 95 1 (by omega) (by omega) (show 1 < 7 by omega)
    rw [e_M_line_90, am_ifd, if_neg (by decide +kernel), am_ifd, if_pos rfl, md_fresher (by omega), am_asIe, show 7 + 1 = 8 from rfl, f1, e_M_line_214, nI_add]
    refine md_streetL (d := d + 140) hx1 hz hV1 (by omega) hE hv ?_
    intro X v' fr h93 hv' hm
    rw [e_M_line_218]
    exact md_end (d := d + 143) (ln := ln) (o2 := none) (o3 := none) (o4 := none) (o5 := none) hx1 fr (ln5_b h7 hp) hv' a25 h93 hF1 G hm
  · have G := hG (by omega)
    rw [lnR_6 hw, zL_6 hw] at G
    rw [lnR_6 hw] at hF1
    exact md_sleeper (d := d + 140) hx1 hz hV1 (by omega) hE hv a25 hF1 G
  · have G := hG (by omega)
    rw [lnR_7 hw, zL_7 hw] at G
    rw [lnR_7 hw] at hF1
    exact md_letter (d := d + 140) hx1 hz hV1 (by omega) hE hv a25 hF1 G
  · have G := hG (by omega)
    rw [lnR_8 hw, zL_8 hw] at G
    rw [lnR_8 hw] at hF1
    exact md_lamp (d := d + 140) hx1 hz hV1 (by omega) hE hv a25 hF1 G
  · have G := hG (by omega)
    rw [lnR_9 hw, zL_9 hw] at G
    rw [lnR_9 hw] at hF1
    rw [e_M_line_90, am_ifd, if_neg (by decide +kernel), am_ifd, if_neg (by decide +kernel), am_ifd, if_neg (by decide +kernel), am_ifd, if_neg (by decide +kernel), am_ifd, if_neg (by decide +kernel), am_ifd, if_pos rfl]
    refine md_loudL (d := d + 140) (w := 0) (pc := 0) hx1 hz hV1 (Or.inl rfl) hE hv ?_
    intro X v' fr h93 hv' hm
    rw [e_M_line_422]
    exact md_end (d := d + 143) (ln := ln) (o2 := none) (o3 := none) (o4 := none) (o5 := none) hx1 fr (ln9_b h7 hE) hv' a25 h93 hF1 G hm
  · have G := hG (by omega)
    rw [lnR_10 hw, zL_10 hw] at G
    rw [lnR_10 hw] at hF1
    rw [e_M_line_90, am_ifd, if_neg (by decide +kernel), am_ifd, if_neg (by decide +kernel), am_ifd, if_neg (by decide +kernel), am_ifd, if_neg (by decide +kernel), am_ifd, if_neg (by decide +kernel), am_ifd, if_neg (by decide +kernel), am_ifd, if_pos rfl]
    refine md_catL (d := d + 140) hx1 hz hV1 hE hv ?_
    intro X v' fr h93 hv' hm
    rw [e_M_line_429]
    exact md_end (d := d + 143) (ln := ln) (o2 := none) (o3 := none) (o4 := none) (o5 := none) hx1 fr (ln10_b h7 hE) hv' a25 h93 hF1 G hm
  · have G := hG (by omega)
    rw [lnR_11 hw, zL_11 hw] at G
    rw [lnR_11 hw] at hF1
    rw [e_M_line_90, am_ifd, if_neg (by decide +kernel), am_ifd, if_neg (by decide +kernel), am_ifd, if_neg (by decide +kernel), am_ifd, if_neg (by decide +kernel), am_ifd, if_neg (by decide +kernel), am_ifd, if_neg (by decide +kernel), am_ifd, if_neg (by decide +kernel), am_ifd, if_pos rfl]
    refine md_loudL (d := d + 140) (w := 0) (pc := 0) hx1 hz hV1 (Or.inr rfl) hE hv ?_
    intro X v' fr h93 hv' hm
    rw [e_M_line_440]
    exact md_end (d := d + 143) (ln := ln) (o2 := none) (o3 := none) (o4 := none) (o5 := none) hx1 fr (ln9_b h7 hE) hv' a25 h93 hF1 G hm
  · have G := hG (by omega)
    have hs := hsd rfl
    rw [lnR_12 hw, zL_12 hw] at G
    rw [lnR_12 hw] at hF1
    exact md_seed (d := d + 140) (sd := sd) hx1 hV1 (by rw [hs]; exact Bool.false_ne_true) hE hv a25 hF1 G
  · have eR := lnR_13 (Z := Z) (sd := sd) hw
    rw [eR] at hF1
    refine md_lawV (d := d) hx1 hz hV1 hE hv a25 a35 a36 ?_ hF1 ?_
    · intro k hk
      rw [a24 (16 + k) (by omega), hb16 k hk, decide_eq_false (by omega), Bool.or_false]
    · intro ru kn' R' q v' I' hru hk hh es e h27 hv' fr h24 h25' h35' h36' hk1 hk2 hV'
      have eZ : zL Z n T p = z13 ru (m_kn Z) kn' R' Z := by rw [zL_13 hw, es, show tkK n T (tkE n T p) - 14 = ru by omega]
      obtain ⟨⟨_, _, _, _, _, ⟨z6, z6'⟩⟩, _⟩ := id hz
      have k2 := (tk_pos (T := T) h7 hE).2.2.1
      have so := sy_ok (st := m_kn Z) h7 (m := 701) (p := tkE n T (tkE n T p)) (w := []) (cp := [false]) (sd := true) (nm := true) (kn := m_kn Z) (R := []) k2 (by omega) ⟨z6', by show m_kn Z + 0 + 0 = _; omega, rfl, by show 1 ≤ 1; omega, by show 1 ≤ 9; omega, fun k hk => by cases hk⟩ (fun k hk => by cases hk) (fun x hx => by cases hx) (by show 0 = (if true = true then 0 else 1) + 0; rw [if_pos rfl]) (by rw [es])
      rw [es] at so
      have hlt : m_kn Z < kn' := by
        have a1 := dps_len so.2.1
        have a2 : m_kn Z + R'.length = kn' := so.2.2.1
        have a3 : 1 ≤ R'.length := a1
        omega
      refine hS q I' v' (by rw [eR, e]) h27 hv' (frm_tr fr1 fr) ?_
      rw [eZ]
      refine ⟨zok_13 hz hk2, hV', h25', h35', by rw [z13_k (by omega)]; exact h36', ?_, ?_⟩
      · rw [h24, b_or, b_pw (by omega) (by omega), a24 8 (by omega), hb8, decide_eq_false (by omega), decide_eq_false (by omega), decide_eq_false (by omega)]
        simp only [Bool.or_false]
      · intro k hk
        rw [h24, b_or, b_pw (by omega) (by omega), a24 (16 + k) (by omega), hb16 k hk, decide_eq_false (by omega : ¬ 16 + k = 9), Bool.or_false, z13_h hlt hk2]
        congr 1
        exact decide_eq_decide.mpr (by omega)
/-- a line -/
theorem md_line (hx : txm I n T) (hi : mdI Z sd ln I) (hp : p ≤ n) (hv : tvm n T p v)
    (hF : lnE N r J Q I n T (lnR Z sd n T p))
    (hS : ∀ q I' v', lnR Z sd n T p = (0, q) → tkK n T q = 27 → tvm n T (tkE n T q) v' → frm I I' → mdI (zL Z n T p) (sd || decide (tkK n T p = 12)) (ln + 1) I' → Q .null (am_hp N r (mS I' n T (0, tkE n T q) v') J)) :
    am_D (d + 151) 182 [.ref 93] (am_hp N r (mS I n T (0, p) v) J) Q := by
  have h7 := hx.1.1
  obtain ⟨k1, k2, k3, k4, k5, k6⟩ := tk_pos (T := T) h7 hp
  obtain ⟨t2, t1, t0, t3, t4, t6⟩ := tso_t (tkK n T p) k6
  have hi' := hi
  obtain ⟨hz, hV, h25, h35, h36, hb8, hb16⟩ := hi'
  have z9 : ((0, p) : Nat × Nat).1 ≤ 9 := Nat.zero_le _
  have bad : (tkK n T p < 4 ∨ 13 < tkK n T p) → am_D (d + 150) 168 [.ref 93, .int (nI 1)] (am_hp N r (mS I n T (0, p) v) J) (fun _ h => am_V (d + 150) Q 182 21 [some (.ref 93), none, none, none, none, none] [] h) := by
    intro c
    rw [md_wrong (by omega) z9]
    show am_V (d + 150) Q 182 21 _ [] (am_hp N r (mS I n T (1, p) v) J)
    rw [e_M_line_21]
    rw [lnR_no c] at hF
    exact hF 1 I v (Or.inl ⟨by show (1 : Nat) ≠ 0; omega, rfl⟩) frm_re
  rw [e_M_line, mS_29p, mS_30, am_ifni (nI_eq (by omega) (by omega))]
  by_cases c0 : tso (tkK n T p) = 0
  · have hk := t0.mp c0
    have hvv : v = nI (tkK n T p - 4) := hv.1 hk.1 hk.2
    rw [if_pos c0, hvv, am_ifi (nI_leI (by omega) (by omega)), ← hvv]
    by_cases c1 : tkK n T p - 4 ≤ 9
    · rw [if_pos c1]
      obtain ⟨w, hw⟩ : ∃ w, tkK n T p = 4 + w := ⟨tkK n T p - 4, by omega⟩
      have hvw : v = nI w := by rw [hvv, hw, show 4 + w - 4 = w by omega]
      have hw9 : w ≤ 9 := by omega
      subst hvw
      have st66 : ∀ f, f ≠ 0 → f ≤ 9 → lnR Z sd n T p = (f, p) → am_V (d + 150) Q 182 66 [some (.ref 93), some (.int (nI w)), none, none, none, none] [] (am_hp N r (mS I n T (f, p) (nI w)) J) := by
        intro f hf hf9 e
        rw [e_M_line_66, mS_31, am_ifi (nI_eq (by show f < _; omega) (by omega)), if_neg (show ¬ (f, p).1 = 0 from hf)]
        rw [e] at hF
        exact hF f I _ (Or.inl ⟨hf, rfl⟩) frm_re
      rw [md_isFull (w := w) hz hV (by omega), am_asIe, e_M_line_32]
      cases hfu : ful Z w with
      | true =>
        rw [am_ifd, if_neg (by show ¬ (nI 1 : Int32) = nI 0; decide), md_wrong (by omega) z9, e_M_line_40]
        exact st66 2 (by omega) (by omega) (lnR_ful hw hfu)
      | false =>
        have go : (w = 8 → sd = false) → am_V (d + 150) Q 182 66 [some (.ref 93), some (.int (nI w)), none, none, none, none] [] (am_hp N r (mS I n T (0, p) (nI w)) J) := by
          intro hsd
          rw [e_M_line_66, mS_31, am_ifi (nI_eq (by show (0 : Nat) < _; omega) (by omega)), if_pos (show (0, p).1 = 0 from rfl), mS_o (by omega), mS_u (by omega), am_pwe]
          refine md_tok (d := d + 143) (txm_f hx (frm_u (by omega))) hp ?_
          intro v' hv'
          exact md_line90 hx hi hp hw hw9 hfu hsd hv' hF hS
        rw [am_ifd, if_pos (show (nI (false).toNat : Int32) = nI 0 from rfl), am_ifni (nI_eq (by omega) (by omega))]
        by_cases c8 : w = 8
        · rw [if_pos c8, mS_o (by omega), am_ifn, b_v (by omega)]
          cases hsd : sd with
          | true =>
            rw [if_pos (by rw [c8, hb8, hsd]; rfl), md_wrong (by omega) z9]
            refine st66 3 (by omega) (by omega) ?_
            rw [hsd, lnR_12 (by omega)]
            unfold ln12
            rw [if_pos rfl]
          | false =>
            rw [if_neg (by rw [c8, hb8, hsd]; decide +kernel)]
            exact go (fun _ => hsd)
        · rw [if_neg c8]
          exact go (fun h => absurd h c8)
    · rw [if_neg c1]; exact bad (by omega)
  · rw [if_neg c0]; exact bad (by omega)
end
