/-! ===== L3: a text answers alike ===== -/
theorem by_tp {x y : Int32} (h : y = x &&& nI 255) (h2 : x = x.toInt8.toInt32) : y.toNatClampNeg < 256 ∧ y = nI y.toNatClampNeg ∧ x = sbx y.toNatClampNeg := by
  obtain ⟨a, ha, ha'⟩ := pk_andE x (m := nI 255) 8 (by decide)
  have ha2 : a < 256 := ha
  have hy : y = nI a := by rw [h]; exact ha'
  have hc : y.toNatClampNeg = a := by rw [hy, nI_clamp (by omega)]
  refine ⟨by omega, by rw [hc]; exact hy, ?_⟩
  rw [hc]
  unfold sbx
  rw [← ha', show nI 255 = (255 : Int32) from rfl, fa_byte_low]
  exact h2
section
variable {V V' : Nat → Nat → Int32} {t B : Nat}
/-- a town told, with how far it is, is a town -/
theorem tr_pre (h : t_pre V t) (hf : ∀ k, k < 64 → V (t + 5) k = fl_out (fl_i (V (t + 4))) 8 k) : t_rel V t := by
  obtain ⟨p0, p1, p2, p3, p4, p5, p6, p7, p8, p9, p10, p11, p12, p13, p14, p15, _⟩ := h
  have h8 := p0.2.1.1.2
  exact ⟨p0, p1, p2, p3, p4, p5, p6, fun _ => hf, p7, p8, fun h hh => p9 h (by omega), fun h hh => p10 h (by omega), p11, p12, p13, p14, p15⟩
theorem tr_B (h : t_pre V t) : lw_bd (m_kn V) V := by
  obtain ⟨p0, p1, p2, p3, p4, p5, p6, p7, p8, p9, p10, p11, p12, p13, p14, p15, p16, p17, p18, p19⟩ := h
  exact p19.2.2
theorem p_start {W : Nat → Nat → Int32} (h : hpB B V V') (hok : m_ok V) (hL : m_okL V) : m_start V' W = m_start V W := by
  have b0 := hok.1.2
  have b2 := hok.2.2.1.2
  have b3 := hok.2.2.2.1.2
  funext f k
  unfold m_start
  rw [p_nZ h, p_nL h, p_nH h, pB_95 h (k := 5) (by omega)]
  by_cases c0 : f < 5 ∧ k = 0
  · rw [if_pos c0, if_pos c0]
  rw [if_neg c0, if_neg c0]
  by_cases c1 : f = 5 ∧ k < m_nZ V
  · rw [if_pos c1, if_pos c1, pB_c h (a := 104) (by omega) (show k < 5 by omega)]
  rw [if_neg c1, if_neg c1]
  by_cases c2 : f = 6 ∧ k < m_nL V
  · rw [if_pos c2, if_pos c2]
  rw [if_neg c2, if_neg c2]
  by_cases c3 : f = 7 ∧ k < m_nL V
  · obtain ⟨s, hs, es⟩ := hL k c3.2
    rw [if_pos c3, if_pos c3, pB_c h (a := 107) (by omega) (show k < 8 by omega), es, nI_clamp (by omega), pB_c h (a := 104) (by omega) (show s < 5 by omega)]
  rw [if_neg c3, if_neg c3]
  by_cases c4 : f = 8 ∧ k < m_nL V
  · rw [if_pos c4, if_pos c4]
  rw [if_neg c4, if_neg c4]
  by_cases c5 : f = 9 ∧ k < m_nH V
  · rw [if_pos c5, if_pos c5, pB_c h (a := 97) (by omega) (show k < 8 by omega)]
  rw [if_neg c5, if_neg c5]
end
theorem z0_eq {I I' : Nat → Nat → Int32} (h : ∀ a, 95 ≤ a → I' a = I a) : z0 I' = z0 I := by
  funext a k
  unfold z0
  by_cases ha : 95 ≤ a
  · rw [h a ha]
  · rw [if_neg (by omega), if_neg (by omega), if_neg (by omega), if_neg (by omega)]
section
variable {d N : Nat} {r : am_rho} {I : Nat → Nat → Int32} {J : Nat → Nat → Int64}
/-- the new town stands -/
theorem inv_txt {rt rs rl rl' nt nw nf : Nat} {I1 I2 Z' : Nat → Nat → Int32} (hv : i_inv (rt, rs, rs, rl, 2, nt, nw, nf) I J ∨ True) (hr : i_ref (rs, rt, rs, rl', 2, nt, nw, nf)) (hid : m_idle I)
    (f1 : ∀ a, 92 < a → I1 a = I a) (hT : t_pr I1 Z' rs) (hfar : ∀ k, k < 64 → I1 (rs + 5) k = fl_out (fl_i (I1 (rs + 4))) 8 k) (g1 : I1 43 6 = nI 0) (g2 : I1 43 7 = -nI 1) (g3 : I1 1 1 = nI 0) (g4 : I1 1 7 = nI 0) (g5 : I1 72 0 = nI 0) (g6 : I1 72 1 = -nI 1) (g7 : I1 77 0 = nI 0) (g8 : ∀ k, k < 512 → I1 63 k = -nI 1) (g9 : cw_rel (mix I1 Z') (c_w I1 49) (m_start (mix I1 Z') (m_g I 0))) (g10 : I1 49 5 = nI 0)
    (ft : frT I1 I2) (hy : ∀ a k, 95 ≤ a → a ≤ 115 → k < hfy Z' a → I2 a k = Z' a k) (k1 : I2 93 2 = nI 0) (k3 : I2 93 33 = nI 0) (k4 : I2 93 34 = -nI 1) (k5 : I2 93 50 = nI 0) (k6 : I2 93 51 = nI 0) (k7 : I2 93 69 = nI 0) (k8 : I2 93 70 = -nI 1) :
    m_ok I2 ∧ m_okL I2 ∧ i_inv (rs, rt, rs, rl', 2, nt, nw, nf) (m_M I2 0 (m_start I2 (m_g I2 0)) (I2 93 39) (I2 128) (I2 129)) J := by
  have hrs : rs = 3 ∨ rs = 23 := by have := hr.1; omega
  have hT' : t_pre (mix I1 Z') rs := hT
  have eK : m_kn (mix I1 Z') = m_kn Z' := mx_K
  have TV : t_rel (mix I1 Z') rs := tr_pre hT' (by rw [mix_c (by omega), mix_c (by omega)]; exact hfar)
  have hB : lw_bd (m_kn Z') (mix I1 Z') := by rw [← eK]; exact tr_B hT'
  have hp : hpB (m_kn Z') (mix I1 Z') I2 := by
    intro a k h1 h2 h3
    rw [mix_z ⟨h1, h2⟩]
    exact hy a k h1 h2 h3
  have T2 : t_rel I2 rs := p_trel hp hB (fun i hi => by rw [ft.1 _ (by omega) (by omega), mix_c (by omega)]) ⟨by rw [ft.1 _ (by omega) (by omega), mix_c (by omega)], by rw [ft.1 _ (by omega) (by omega), mix_c (by omega)]⟩ TV
  have hok2 := T2.1.2.1
  have hokL2 := T2.1.2.2.2
  refine ⟨hok2, hokL2, ?_⟩
  have bZ := hok2.2.2.1.2
  have bL := hok2.2.2.2.1.2
  have bH := hok2.1.2
  have est : m_start I2 (m_g I2 0) = m_start (mix I1 Z') (m_g I2 0) := p_start hp TV.1.2.1 TV.1.2.2.2
  have eg : m_g I2 0 = m_g I 0 := (g_row (fun a h1 h2 => ft.1 a (by omega) (by omega))).trans (g_row (fun a h1 h2 => f1 a (by omega)))
  generalize hW : m_start I2 (m_g I2 0) = W at *
  generalize hI3 : m_M I2 0 W (I2 93 39) (I2 128) (I2 129) = I3
  have row : ∀ a, a < 118 ∨ 129 < a → I3 a = I2 a := by
    intro a h
    funext k
    rw [← hI3]
    by_cases c : a = 93 ∧ k = 39
    · rw [c.1, c.2, m_Mv]
    · exact m_Mo (by omega)
  have wg : wq W (m_g I3 0) := by
    rw [← hI3]
    exact ⟨fun f hf => (m_gn (by omega) (by omega) (by omega) (by omega)).symm, fun s hs => (m_gn (by omega) (by omega) (by omega) (by omega)).symm, fun f l h1 h2 h3 => (m_gn (by omega) (by omega) (by omega) (by omega)).symm⟩
  have hte : te I2 I3 := fun a h1 h2 => row a (by omega)
  have T3 : t_rel I3 rs := e_trel hte (fun i hi => row _ (by omega)) ⟨row _ (by omega), row _ (by omega)⟩ T2
  have lo : ∀ a, a < 93 → I3 a = I1 a := fun a ha => by rw [row a (by omega), ft.1 a (by omega) (by omega)]
  have c93 : ∀ k, 37 ≤ k → k ≠ 50 → k ≠ 51 → k ≠ 69 → k ≠ 70 → I3 93 k = I 93 k := fun k h1 h2 h3 h4 h5 => by rw [row 93 (by omega), ft.2 k h1 h2 h3 h4 h5, f1 93 (by omega)]
  have s30 : W 3 0 = nI 0 := by
    rw [← hW]
    unfold m_start
    rw [if_pos ⟨by omega, rfl⟩, if_neg (by omega)]
  refine ⟨hr, T3, ?_, ⟨?_, ?_, ?_⟩, ⟨false, ?_, ?_, fun h => by cases h⟩, ⟨0, by omega, ?_, ?_, fun k hk => by omega⟩, ⟨0, by omega, ?_, ?_, ?_, ?_, fun k hk => by omega⟩, ⟨0, by omega, ?_, ?_, fun k hk => by omega⟩, ⟨?_, ?_⟩, ?_⟩
  · unfold m_idle
    rw [c93 52 (by omega) (by omega) (by omega) (by omega) (by omega), c93 53 (by omega) (by omega) (by omega) (by omega) (by omega), c93 54 (by omega) (by omega) (by omega) (by omega) (by omega), c93 55 (by omega) (by omega) (by omega) (by omega) (by omega), c93 58 (by omega) (by omega) (by omega) (by omega) (by omega), c93 59 (by omega) (by omega) (by omega) (by omega) (by omega), c93 61 (by omega) (by omega) (by omega) (by omega) (by omega), c93 62 (by omega) (by omega) (by omega) (by omega) (by omega), c93 63 (by omega) (by omega) (by omega) (by omega) (by omega)]
    exact hid
  · have ec : c_w I3 49 = c_w I1 49 := by
      funext i j
      unfold c_w
      by_cases hi : i ≤ 5
      · rw [if_pos hi, if_pos hi, lo _ (by omega)]
      · rw [if_neg hi, if_neg hi]
    rw [ec]
    refine e_cw hte (p_cw hp ?_)
    have g9' : cw_rel (mix I1 Z') (c_w I1 49) W := by rw [est, eg]; exact g9
    have h8 := TV.1.2.1
    exact cw_q h8.2.2.1.2 h8.2.2.2.1.2 h8.1.2 wg g9'
  · rw [lo 49 (by omega), g10, ← wg.1 3 (by omega), s30]
  · have hx := okX_start (W := m_g I2 0) T2
    rw [hW] at hx
    exact e_okX hte (okX_q bZ bL bH wg hx)
  · rw [lo 1 (by omega)]; exact g4
  · rw [row 93 (by omega)]; exact k5
  · rw [lo 77 (by omega)]; exact g7
  · rw [row 93 (by omega)]; exact k6
  · rw [lo 72 (by omega)]; exact g5
  · rw [row 93 (by omega)]; exact k7
  · rw [lo 72 (by omega), g6, row 93 (by omega), k8]
  · left; rw [row 93 (by omega)]; exact k8
  · rw [lo 1 (by omega)]; exact g3
  · rw [row 93 (by omega)]; exact k1
  · rw [lo 43 (by omega), g1, row 93 (by omega), k3]
  · rw [lo 43 (by omega), g2, row 93 (by omega), k4]
  · intro z hz
    left
    rw [lo 63 (by omega)]
    exact g8 z hz
theorem op_text {a : Int32} (hv : i_inv r I J) (hi : i_str I) : op2 (d + 152) N 116 196 [.int a] r I J := by
  obtain ⟨rt, rs, rd, rl, rx, nt, nw, nf⟩ := r
  have hv' := hv
  obtain ⟨⟨hr1, hr2, hr3, hr4, hr5, hr6, hr7⟩, htr, hid, hnow, himg, hund, hsig, ⟨N0, hN7, t1, t2, t3⟩, hflt, hca⟩ := hv'
  have hrs' : rs = 3 ∨ rs = 23 := by omega
  have hrt : rt = 3 ∨ rt = 23 := by omega
  by_cases c1 : a < nI 0
  · refine op2_q (v := .int (-nI 2)) hv (iv_ans hv fun Q hQ => ?_) (fun r' I' J' hv' he => iv_mans fun Q hQ => ?_)
    · rw [e_S_text hrs', am_ifd, if_pos c1]; exact hQ
    · rw [e_M_text, am_ifd, if_pos c1]; exact hQ
  by_cases c2 : a ≤ nI N0
  · obtain ⟨n, hn, rfl⟩ : ∃ n, n ≤ N0 ∧ a = nI n := by
      rw [fa_lt, nI_toInt (by omega)] at c1
      rw [fa_le, nI_toInt (by omega)] at c2
      refine ⟨a.toInt.toNat, by omega, ?_⟩
      rw [fa_eq, nI_toInt (by omega)]
      omega
    intro Q hQ
    have hT : ∀ k, k < n → (I 94 k).toNatClampNeg < 256 ∧ I 94 k = nI (I 94 k).toNatClampNeg ∧ I 2 k = sbx (I 94 k).toNatClampNeg := by
      intro k hk
      obtain ⟨a1, a2⟩ := t3 k (by omega)
      exact by_tp a1 a2
    have ero : c_ro I := by
      obtain ⟨_, _, _, _, _, _, _, _, _, _, _, _, _, _, _, _, ero⟩ := htr
      exact ero
    refine cl_text (d := d + 131) (T := fun k => (I 94 k).toNatClampNeg) (Z0 := z0 I) (N0 := N0) hrt (by omega) ⟨⟨by omega, fun k hk => ⟨(hT k hk).1, (hT k hk).2.2⟩⟩, hi⟩ t1 hn hN7 ero (fun i hi => z0_95 hi) (fun k hk => z0_11 hk) ?_ ?_
    · intro f q ln' Z' rl' I1 e hf hrl fr g6 g7
      have r1 : ∀ a, 92 < a → I1 a = I a := fun a ha => by rw [fr a (by omega) (by omega) (by omega) (by omega), am_uRow (by omega)]
      have ez : rdF n (fun k => (I 94 k).toNatClampNeg) n 0 (z0 I1) false 0 = rdF n (fun k => (I 94 k).toNatClampNeg) n 0 (z0 I) false 0 := by
        rw [show z0 I1 = z0 I from z0_eq (fun a h => r1 a (by omega))]
      refine md_text (d := d) (T := fun k => (I 94 k).toNatClampNeg) (N0 := N0) ?_ ?_ ?_ hn hN7 ?_ ?_
      · unfold i_str
        rw [r1 2003 (by omega), r1 2004 (by omega), r1 2005 (by omega), r1 2013 (by omega), r1 2014 (by omega), r1 2015 (by omega)]
        exact hi
      · intro k hk
        rw [r1 94 (by omega)]
        exact ⟨(hT k hk).1, (hT k hk).2.1⟩
      · rw [r1 93 (by omega)]; exact t2
      · intro f' q' ln2 Z2 I2 e2 hf2 ft hlo h37 h2 h33 h34
        rw [ez, e] at e2
        injection e2 with e2a e2b
        injection e2b with e2b e2c
        subst e2a e2b
        refine hQ _ _ _ _ (inv_flt hv hrl (fun a k h1 h2 h3 => ?_) ?_ ?_ ?_ ?_ h2 ⟨?_, ?_⟩)
        · have h3' : k < hfz a := by
            by_cases c : a < 114
            · rw [if_pos c] at h3; exact h3
            · rw [if_neg c] at h3
              have e64 : hfz a = 64 := by rcases (show a = 114 ∨ a = 115 by omega) with rfl | rfl <;> rfl
              omega
          rw [hlo a k h1 h2 h3', r1 a (by omega)]
        · intro a h1 h2 h3 h4 h5 h6 h7
          rw [ft.1 a h6 h7, fr a h2 h3 h4 h5, am_uRow h1]
        · intro k hk
          rw [ft.1 1 (by omega) (by omega), fr 1 (by omega) (by omega) (by omega) (by omega), am_uN (by omega)]
        · rw [ft.1 1 (by omega) (by omega), fr 1 (by omega) (by omega) (by omega) (by omega), am_uE]
        · intro k hk
          rw [h37 k hk, r1 93 (by omega)]
        · rw [ft.1 43 (by omega) (by omega), g6, h33]
        · rw [ft.1 43 (by omega) (by omega), g7, h34]
      · intro q' ln2 Z2 I2 e2
        rw [ez, e] at e2
        injection e2 with e2a e2b
        exact absurd e2a hf
    · intro q ln' Z' rl' I1 e hrl f1 g0 g00 g1 g2 g3 g4 g5 g6 g7 g8 g9 g10
      have ez : rdF n (fun k => (I 94 k).toNatClampNeg) n 0 (z0 I1) false 0 = rdF n (fun k => (I 94 k).toNatClampNeg) n 0 (z0 I) false 0 := by
        rw [show z0 I1 = z0 I from z0_eq (fun a h => f1 a (by omega))]
      refine md_text (d := d) (T := fun k => (I 94 k).toNatClampNeg) (N0 := N0) ?_ ?_ ?_ hn hN7 ?_ ?_
      · unfold i_str
        rw [f1 2003 (by omega), f1 2004 (by omega), f1 2005 (by omega), f1 2013 (by omega), f1 2014 (by omega), f1 2015 (by omega)]
        exact hi
      · intro k hk
        rw [f1 94 (by omega)]
        exact ⟨(hT k hk).1, (hT k hk).2.1⟩
      · rw [f1 93 (by omega)]; exact t2
      · intro f' q' ln2 Z2 I2 e2 hf2
        rw [ez, e] at e2
        injection e2 with e2a e2b
        exact absurd e2a.symm hf2
      · intro q' ln2 Z2 I2 e2 ft hy hz' k1 k2 k3 k4 k5 k6 k7 k8 x2
        rw [ez, e] at e2
        injection e2 with e2a e2b
        injection e2b with e2b e2c
        injection e2c with e2c e2d
        subst e2b e2c e2d
        obtain ⟨m1, m2, m3⟩ := inv_txt (rl := rl) (rl' := rl') (rt := rt) (nt := nt) (nw := nw) (nf := nf) (I := I) (J := J) (I1 := I1) (I2 := I2) (Or.inr trivial) ⟨by omega, hrs', by omega, Or.inl rfl, hr5, hr6, hr7⟩ hid f1 g0 g00 g1 g2 g3 g4 g5 g6 g7 g8 g9 g10 ft hy k1 k3 k4 k5 k6 k7 k8
        rw [e_M_begins, m_idM (n := 0), s_M_starts m1 m2 (by omega), e_M_begins_5, e_M_text_335, m_Jid, m_Mo (by omega), k2]
        exact hQ _ _ _ _ m3
  · refine op2_q (v := .int (-nI 2)) hv (iv_ans hv fun Q hQ => ?_) (fun r' I' J' hv' he => iv_mans fun Q hQ => ?_)
    · rw [e_S_text hrs', am_ifd, if_neg c1, t1, am_ifd, if_neg c2]; exact hQ
    · rw [e_M_text, am_ifd, if_neg c1, am_uN (by omega), he 93 (by omega), t2, am_ifd, if_neg c2]; exact hQ
end
