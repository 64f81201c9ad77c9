/-! ===== L3: the model reads a law line, 3 ===== -/
section
variable {d N : Nat} {Q : Value → am_H → Prop} {r : am_rho} {I Z : Nat → Nat → Int32} {J : Nat → Nat → Int64} {n p ln : Nat} {T : Nat → Nat} {v : Int32}
/-- what a law line leaves of the rows -/
theorem mV_law {I1 I' : Nat → Nat → Int32} {ru kn' : Nat} {R : List Nat} {x : Int32} (hru : ru < 3) (hV : mV I Z) (hk' : kn' ≤ 64) (hR : m_kn Z + R.length = kn') (fr1 : ∀ a, a ≠ 93 → a ≠ 112 → I1 a = I a) (e12 : ∀ j, j ≠ 3 + ru → I1 112 j = I 112 j) (e12' : I1 112 (3 + ru) = nI (m_kn Z)) (fe : frE (m_kn Z) I1 I') (hM : mwU I' (m_kn Z) R) (h13 : I' 95 13 = nI kn') (hx : x = nI kn') : mV (am_u I' 113 (3 + ru) x) (z13 ru (m_kn Z) kn' R Z) := by
  subst hx
  obtain ⟨f1, f2, f3, f4⟩ := fe
  have ek : m_kn (z13 ru (m_kn Z) kn' R Z) = kn' := by
    unfold m_kn z13
    rw [am_uE, nI_clamp (by omega)]
  intro a j h1 h2 h3
  by_cases a4 : a = 114 ∨ a = 115
  · have hj : j < kn' := by
      unfold hfy at h3
      rw [if_neg (by omega), ek] at h3
      exact h3
    have eh : hfz a = 64 := by rcases a4 with rfl | rfl <;> rfl
    have eh0 : hfy Z a = m_kn Z := by unfold hfy; rw [if_neg (by omega)]
    rw [eh, am_uN (by omega)]
    unfold z13
    rw [am_uN (by omega), am_uN (by omega), am_uN (by omega)]
    by_cases cj : j < m_kn Z
    · have g0 := rwz_lo (R := R) (Z := Z) cj
      have g1 := f3 (64 + j) (by omega)
      have g2 := hV a j h1 h2 (by rw [eh0]; exact cj)
      rw [eh] at g2
      rcases a4 with rfl | rfl
      · rw [g1.1, fr1 114 (by omega) (by omega), g2, g0.1]
      · rw [g1.2, fr1 115 (by omega) (by omega), g2, g0.2]
    · have g0 := rwz_mw (Z := Z) hM (k := j) (by omega) (by omega)
      rcases a4 with rfl | rfl
      · exact g0.1
      · exact g0.2
  · have h3' : j < hfz a := by
      unfold hfy at h3
      rw [if_pos (by omega)] at h3
      exact h3
    have g2 := hV a j h1 h2 (by unfold hfy; rw [if_pos (by omega)]; exact h3')
    unfold z13
    by_cases a95 : a = 95
    · subst a95
      have h7 : j < 7 := h3'
      rw [show hfz 95 = 7 from rfl] at g2 ⊢
      rw [am_uN (by omega)]
      by_cases j6 : j = 6
      · subst j6
        rw [am_uE]
        exact h13
      · rw [am_uN (by omega), am_uN (by omega), am_uN (by omega), rwz_oo (by omega) (by omega), f2 (7 + j) (by omega), fr1 95 (by omega) (by omega)]
        exact g2
    by_cases a112 : a = 112
    · subst a112
      have h7 : j < 3 := h3'
      rw [show hfz 112 = 3 from rfl] at g2 ⊢
      rw [am_uN (by omega), am_uN (by omega), am_uN (by omega), f1 112 (by omega) (by omega) (by omega) (by omega)]
      by_cases ej : j = ru
      · subst ej
        rw [am_uE, e12']
      · rw [am_uN (by omega), rwz_oo (by omega) (by omega), e12 (3 + j) (by omega)]
        exact g2
    by_cases a113 : a = 113
    · subst a113
      have h7 : j < 3 := h3'
      rw [show hfz 113 = 3 from rfl] at g2 ⊢
      by_cases ej : j = ru
      · subst ej
        rw [am_uE, am_uN (by omega), am_uE]
      · rw [am_uN (by omega), am_uN (by omega), am_uN (by omega), am_uN (by omega), rwz_oo (by omega) (by omega), f1 113 (by omega) (by omega) (by omega) (by omega), fr1 113 (by omega) (by omega)]
        exact g2
    · rw [am_uN (by omega), am_uN (by omega), am_uN (by omega), am_uN (by omega), rwz_oo (by omega) (by omega), f1 a (by omega) (by omega) (by omega) (by omega), fr1 a (by omega) (by omega)]
      exact g2
theorem ln13_t {hs : Nat → Bool} {kn ru : Nat} (hru : ru < 3) (hk : tkK n T (tkE n T p) = 14 + ru) (hh : hs ru = false) : ln13 n T p hs kn = ((sy n T 701 (tkE n T (tkE n T p)) [] [false] true true kn []).1, (sy n T 701 (tkE n T (tkE n T p)) [] [false] true true kn []).2.1) := by
  unfold ln13
  rw [if_neg (by omega), show tkK n T (tkE n T p) - 14 = ru by omega, if_neg (by rw [hh]; exact Bool.false_ne_true)]
theorem ln13_9 {hs : Nat → Bool} {kn : Nat} : (ln13 n T p hs kn).1 ≤ 9 := by
  unfold ln13
  split
  · show 1 ≤ 9; omega
  · split
    · show 3 ≤ 9; omega
    · have := @sy_f n T 701 (tkE n T (tkE n T p)) [] [false] true true kn []
      show (sy n T 701 (tkE n T (tkE n T p)) [] [false] true true kn []).1 ≤ 9
      omega
/-- a law line, behind its word -/
theorem md_law2 (hx : txm I n T) (hz : zok Z) (hV : mV I Z) (hp : tkE n T p ≤ n) (hv : tvm n T (tkE n T p) v) (hop : I 93 35 = nI 0) (hkn : I 93 36 = nI (m_kn Z)) (hb : ∀ k, k < 3 → bt (I 93 24) (16 + k) = m_has Z k)
    (hF : ∀ f q I' v', ln13 n T p (m_has Z) (m_kn Z) = (f, q) → f ≠ 0 → frm I I' → Q .null (am_hp N r (mS I' n T (f, q) v') J))
    (hB : ∀ q I' v', ln13 n T p (m_has Z) (m_kn Z) = (1, q) → tkK n T q ≠ 27 → q ≤ n → frm I I' → tvm n T q v' → I' 93 25 = I 93 25 → Q .null (am_hp N r (mS I' n T (0, q) v') J))
    (hG : ∀ ru kn' R' q I' v', ru < 3 → tkK n T (tkE n T p) = 14 + ru → m_has Z ru = false → sy n T 701 (tkE n T (tkE n T p)) [] [false] true true (m_kn Z) [] = (0, q, kn', R') → ln13 n T p (m_has Z) (m_kn Z) = (0, q) → tkK n T q = 27 → q ≤ n → frm I I' → tvm n T q v' → I' 93 24 = I 93 24 ||| am_pw (16 + ru) → I' 93 25 = I 93 25 → I' 93 35 = nI 0 → I' 93 36 = nI kn' → m_kn Z ≤ kn' → kn' ≤ 64 → mV I' (z13 ru (m_kn Z) kn' R' Z) → Q .null (am_hp N r (mS I' n T (0, q) v') J)) :
    am_D (d + 150) 186 [.ref 93] (am_hp N r (mS I n T (0, tkE n T p) v) J) Q := by
  have h7 := hx.1.1
  have hz' := hz
  obtain ⟨⟨_, _, _, _, _, ⟨z6, z6'⟩⟩, _⟩ := hz'
  obtain ⟨k1, k2, k3, k4, k5, k6⟩ := tk_pos (T := T) h7 hp
  obtain ⟨j1, j2, j3, j4, j5, j6⟩ := tk_pos (T := T) h7 k3
  refine md_law1 (d := d + 141) (hs := m_has Z) (kn := m_kn Z) hx hp hv ?_ ?_ ?_
  · intro k hk
    rw [nI_add, b_v (by omega), hb k hk, b_v1]
  · intro f q e hf
    exact hF f q I v e hf frm_re
  · intro ru v1 hru hk hh hv1
    have e0 := ln13_t (T := T) (p := p) (kn := m_kn Z) hru hk hh
    rw [nI_add, am_pwe]
    generalize hI1 : am_u I 93 24 (I 93 24 ||| am_pw (16 + ru)) = I1
    have fr1 : frm I I1 := by rw [← hI1]; exact frm_u (by omega)
    have e13 : I1 95 13 = nI (m_kn Z) := by
      rw [← hI1, am_uN (by omega)]
      have := hV 95 6 (by omega) (by omega) (show 6 < 7 by omega)
      rw [show hfz 95 + 6 = 13 from rfl] at this
      rw [this]
      exact z6
    rw [e_M_lawLine_92, md_fresher (by omega), am_asIe, e_M_lawLine_105, nI_add, am_gI (by omega) (by omega), nI_clamp (by omega), mS_u (by omega), show 7 + 6 = 13 from rfl, e13]
    generalize hI2 : am_u I1 112 (3 + ru) (nI (m_kn Z)) = I2
    have fr2 : frm I I2 := frm_tr fr1 (by rw [← hI2]; exact frm_up (by omega) (by show 3 ≤ _; omega))
    have hM : exM (m_kn Z) (m_kn Z) 0 [] I2 := by
      refine ⟨?_, ?_, ?_, trivial⟩
      · rw [← hI2, am_uN (by omega), ← hI1, am_uN (by omega)]; exact hop
      · rw [← hI2, am_uN (by omega), ← hI1, am_uN (by omega)]; exact hkn
      · rw [← hI2, am_uN (by omega)]; exact e13
    have tail : ∀ (o : Nat × Nat) (I' : Nat → Nat → Int32) (v' : Int32), Q .null (am_hp N r (mS (am_u I' 113 (3 + ru) (I' 95 13)) n T o v') J) → am_V (d + 149) Q 186 110 [some (.ref 93), some (.int (nI ru))] [] (am_hp N r (mS I' n T o v') J) := by
      intro o I' v' h
      rw [e_M_lawLine_110, md_fresher (by omega), am_asIe, e_M_lawLine_123, nI_add, am_gI (by omega) (by omega), nI_clamp (by omega), mS_u (by omega)]
      exact h
    refine ex_all h7 701 (d + 149) 0 (m_kn Z) (tkE n T (tkE n T p)) 701 [] [false] true [] I2 v1 _ (by omega) (by omega) ⟨k3, hv1, txm_f hx fr2, hM, ⟨z6', by show m_kn Z + 0 + 0 = _; omega, rfl, by show 1 ≤ 1; omega, by show 1 ≤ 9; omega, fun k hk => by cases hk⟩, rfl, by omega, fun _ => ⟨rfl, rfl⟩, fun g => by omega, trivial⟩ ?_ ?_
    · intro q I' v' s cp' nm' kn' R' m' g1 gk g2 g3 g4 g5 g6 g7 g8 g9 g10 g11 g12
      refine tail (0, q) I' v' ?_
      have fr3 : frm I (am_u I' 113 (3 + ru) (I' 95 13)) := frm_tr fr2 (frm_tr (frE_frm g6) (frm_up (by omega) (by show 3 ≤ _; omega)))
      obtain ⟨p1, p2, p3, p4, p5, p6⟩ := tk_pos (T := T) h7 g2
      obtain ⟨m', rfl⟩ : ∃ m2, m' = m2 + 1 := ⟨m' - 1, by omega⟩
      obtain ⟨x1, x2, x3, x4, x5, x6⟩ := g8
      have hcl : cp'.length = 1 := by
        have : cp'.tail.length = 0 := by rw [g10]; rfl
        rw [List.length_tail] at this
        omega
      by_cases c27 : tkK n T q = 27
      · rw [sy_end c27 hcl, stl_app (w := []) (fun k hk => ⟨(g9 k hk).1, Nat.zero_le _⟩) trivial] at g1
        obtain ⟨M1, M2, M3, M4⟩ := g7
        have hop' := opc_app (w := []) (fun k hk => (g9 k hk).1)
        have hlen : m_kn Z + (apd s R').length = kn' := by
          rw [apd_len]
          have : opc (s ++ []) = s.length + 0 := hop'
          omega
        have h13 : I' 95 13 = nI kn' := by rw [M3, hlen]
        rw [g1] at e0
        refine hG ru kn' (apd s R') q _ v' hru hk hh g1 e0 c27 g2 fr3 g5 ?_ ?_ ?_ ?_ gk x1 ?_
        · rw [am_uN (by omega), g6.2.2.2 24 (by omega) (by omega), ← hI2, am_uN (by omega), ← hI1, am_uE]
        · rw [am_uN (by omega), g6.2.2.2 25 (by omega) (by omega), ← hI2, am_uN (by omega), ← hI1, am_uN (by omega)]
        · rw [am_uN (by omega)]; exact M1
        · rw [am_uN (by omega)]; exact M2
        · refine mV_law (I1 := I2) hru hV x1 hlen ?_ ?_ ?_ g6 M4 h13 h13
          · intro a ha1 ha2
            rw [← hI2, am_uRow (by omega), ← hI1, am_uRow (by omega)]
          · intro j hj
            rw [← hI2, am_uN (by omega), ← hI1, am_uN (by omega)]
          · rw [← hI2, am_uE]
      · have hs := sy_stop (R := R') (kn := kn') (nm := nm') (w := s ++ []) c27 hcl g12 (by omega : 1 ≤ m' + 1)
        rw [g1, hs.1, hs.2] at e0
        refine hB q _ v' e0 c27 g2 fr3 g5 ?_
        rw [am_uN (by omega), g6.2.2.2 25 (by omega) (by omega), ← hI2, am_uN (by omega), ← hI1, am_uN (by omega)]
    · intro f q I' v' hf hf2 g1 g2 g3 g4
      refine tail (f, q) I' v' ?_
      rw [g1, g2] at e0
      exact hF f q _ v' e0 hf (frm_tr fr2 (frm_tr (frE_frm g4) (frm_up (by omega) (by show 3 ≤ _; omega))))
/-- a law line, whole -/
theorem md_lawV (hx : txm I n T) (hz : zok Z) (hV : mV I Z) (hp : tkE n T p ≤ n) (hv : tvm n T (tkE n T p) v) (hln : I 93 25 = nI ln) (hop : I 93 35 = nI 0) (hkn : I 93 36 = nI (m_kn Z)) (hb : ∀ k, k < 3 → bt (I 93 24) (16 + k) = m_has Z k)
    (hF : lnE N r J Q I n T (ln13 n T p (m_has Z) (m_kn Z)))
    (hS : ∀ ru kn' R' q v' I', ru < 3 → tkK n T (tkE n T p) = 14 + ru → m_has Z ru = false → sy n T 701 (tkE n T (tkE n T p)) [] [false] true true (m_kn Z) [] = (0, q, kn', R') → ln13 n T p (m_has Z) (m_kn Z) = (0, q) → tkK n T q = 27 → tvm n T (tkE n T q) v' → frm I I' → I' 93 24 = I 93 24 ||| am_pw (16 + ru) → I' 93 25 = nI (ln + 1) → I' 93 35 = nI 0 → I' 93 36 = nI kn' → m_kn Z ≤ kn' → kn' ≤ 64 → mV I' (z13 ru (m_kn Z) kn' R' Z) → Q .null (am_hp N r (mS I' n T (0, tkE n T q) v') J)) :
    am_V (d + 150) Q 182 90 [some (.ref 93), some (.int (nI 9)), none, none, none, none] [] (am_hp N r (mS I n T (0, tkE n T p) v) J) := by
  rw [e_M_line_90, am_ifd, if_neg (by decide +kernel), am_ifd, if_neg (by decide +kernel), am_ifd, if_neg (by decide +kernel), am_ifd, if_neg (by decide +kernel), am_ifd, if_neg (by decide +kernel), am_ifd, if_neg (by decide +kernel), am_ifd, if_neg (by decide +kernel), am_ifd, if_neg (by decide +kernel), am_ifd, if_neg (by decide +kernel)]
  refine md_law2 hx hz hV hp hv hop hkn hb ?_ ?_ ?_
  · intro f q I' v' e hf fr
    have h9 : f ≤ 9 := by have := @ln13_9 n p T (m_has Z) (m_kn Z); rw [e] at this; exact this
    rw [e_M_line_462, mS_31, am_ifi (nI_eq (by show f < _; omega) (by omega)), if_neg (show ¬ (f, q).1 = 0 from hf)]
    have := hF f I' v' (Or.inl ⟨by rw [e]; exact hf, by rw [e]⟩) fr
    rw [e] at this
    exact this
  · intro q I' v' e h27 hq fr hv' h25
    refine md_462 (d := d + 143) (ln := ln) (o2 := none) (o3 := none) (o4 := none) (o5 := none) (txm_f hx fr) hq (Nat.zero_le _) hv' (by rw [h25]; exact hln) ?_ ?_
    · intro f I2 v2 h1 fr2
      have hf1 : f = 1 := by
        rcases h1 with ⟨a1, a2⟩ | ⟨a1, a2, a3⟩
        · exact absurd rfl a1
        · exact a3
      have := hF 1 I2 v2 (Or.inl ⟨by rw [e]; show (1 : Nat) ≠ 0; omega, by rw [e]⟩) (frm_tr fr fr2)
      rw [e] at this
      rw [hf1]
      exact this
    · intro v2 h1 h2 h3
      exact absurd h2 h27
  · intro ru kn' R' q I' v' hru hk hh es e h27 hq fr hv' h24 h25 h35 h36 hk1 hk2 hV'
    refine md_462 (d := d + 143) (ln := ln) (o2 := none) (o3 := none) (o4 := none) (o5 := none) (txm_f hx fr) hq (Nat.zero_le _) hv' (by rw [h25]; exact hln) ?_ ?_
    · intro f I2 v2 h1 fr2
      rcases h1 with ⟨a1, a2⟩ | ⟨a1, a2, a3⟩
      · exact absurd rfl a1
      · exact absurd h27 a2
    · intro v2 h1 h2 h3
      refine hS ru kn' R' q v2 _ hru hk hh es e h27 h3 (frm_tr fr (frm_u (by omega))) ?_ ?_ ?_ ?_ hk1 hk2 (mV_o (by omega) hV')
      · rw [am_uN (by omega)]; exact h24
      · rw [am_uE]
      · rw [am_uN (by omega)]; exact h35
      · rw [am_uN (by omega)]; exact h36
end
