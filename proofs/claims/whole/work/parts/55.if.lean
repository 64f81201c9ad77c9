/-! ===== L3: a question leaves what stands ===== -/
section
variable {I I' C W W' : Nat → Nat → Int32} {J J' : Nat → Nat → Int64}
def te (I I' : Nat → Nat → Int32) : Prop := ∀ a, 95 ≤ a → a < 118 → I' a = I a
theorem e_nH (h : te I I') : m_nH I' = m_nH I := q_nH (h 95 (by omega) (by omega))
theorem e_nS (h : te I I') : m_nS I' = m_nS I := q_nS (h 95 (by omega) (by omega))
theorem e_nZ (h : te I I') : m_nZ I' = m_nZ I := q_nZ (h 95 (by omega) (by omega))
theorem e_nL (h : te I I') : m_nL I' = m_nL I := q_nL (h 95 (by omega) (by omega))
theorem e_nA (h : te I I') : m_nA I' = m_nA I := q_nA (h 95 (by omega) (by omega))
theorem e_has (h : te I I') : m_has I' = m_has I := by funext k; unfold m_has; rw [h 112 (by omega) (by omega), h 113 (by omega) (by omega)]
theorem e_law (h : te I I') : m_law I' = m_law I := by funext k nm; unfold m_law; rw [e_has h, h 112 (by omega) (by omega), h 113 (by omega) (by omega), h 114 (by omega) (by omega), h 115 (by omega) (by omega)]
theorem e_lok (h : te I I') (k : m_lok I) : m_lok I' := by unfold m_lok; rw [h 112 (by omega) (by omega), h 113 (by omega) (by omega), h 114 (by omega) (by omega), h 115 (by omega) (by omega)]; exact k
theorem e_ok (h : te I I') (k : m_ok I) : m_ok I' := by
  have hl := e_lok h k.2.2.2.2.2.2
  unfold m_ok
  rw [e_nH h, e_nS h, e_nZ h, e_nL h, e_nA h, h 95 (by omega) (by omega), h 104 (by omega) (by omega)]
  exact ⟨k.1, k.2.1, k.2.2.1, k.2.2.2.1, k.2.2.2.2.1, k.2.2.2.2.2.1, hl⟩
theorem e_st0 (h : te I I') : st0 I' = st0 I := by funext a b l; unfold st0; rw [h 100 (by omega) (by omega), h 101 (by omega) (by omega)]
theorem e_stok (h : te I I') (k : st_ok I) : st_ok I' := by unfold st_ok; rw [e_nS h, e_nH h, e_st0 h, h 100 (by omega) (by omega), h 101 (by omega) (by omega), h 102 (by omega) (by omega)]; exact k
theorem e_wayP (h : te I I') : wayP I' = wayP I := by funext p n a b; unfold wayP; rw [e_st0 h, h 102 (by omega) (by omega)]
theorem e_okL (h : te I I') (k : m_okL I) : m_okL I' := by unfold m_okL; rw [e_nL h, e_nZ h, h 107 (by omega) (by omega)]; exact k
theorem e_lampH (h : te I I') : m_lampH I' = m_lampH I := by funext a b l; unfold m_lampH; rw [h 109 (by omega) (by omega), h 110 (by omega) (by omega), h 111 (by omega) (by omega)]
theorem e_lamp (h : te I I') : m_lamp I' = m_lamp I := by funext n a b; unfold m_lamp; rw [e_lampH h]
theorem e_okW (h : te I I') (k : m_okW I W) : m_okW I' W := by unfold m_okW; rw [e_nZ h, e_nH h]; exact k
theorem e_okX (h : te I I') (k : m_okX I W) : m_okX I' W := by
  obtain ⟨k1, k2, k3, k4, k5⟩ := k
  refine ⟨e_okW h k1, k2, ?_, k4, ?_⟩
  · rw [e_nL h, e_nH h, e_nZ h, h 108 (by omega) (by omega)]; exact k3
  · rw [e_nH h]; exact k5
theorem e_cw (h : te I I') (k : cw_rel I C W) : cw_rel I' C W := by unfold cw_rel; rw [e_nZ h, e_nL h, e_nH h]; exact k
theorem e_u (h : te I I') {kd wh bf : Int32} (k : u_rel I kd wh bf W W') : u_rel I' kd wh bf W W' := by unfold u_rel; rw [e_nL h, e_nH h]; exact k
theorem e_lwr (h : te I I') {q : Nat} (h1 : I' (q + 1) = I (q + 1)) (h2 : I' (q + 2) = I (q + 2)) (h3 : I' (q + 3) = I (q + 3)) (k : c_lwr I I q) : c_lwr I' I' q := by
  unfold c_lwr
  rw [h1, h2, h3, h 112 (by omega) (by omega), h 113 (by omega) (by omega), h 114 (by omega) (by omega), h 115 (by omega) (by omega)]
  exact k
theorem e_used (h : te I I') {q : Nat} (h4 : I' (q + 4) = I (q + 4)) (k : c_used I I q) : c_used I' I' q := by
  unfold c_used
  rw [h4, h 112 (by omega) (by omega), h 113 (by omega) (by omega), h 114 (by omega) (by omega), h 115 (by omega) (by omega)]
  exact k
theorem e_cache (h : te I I') {q : Nat} (h4 : I' (q + 4) = I (q + 4)) {K : Nat → Int32} {vl : Nat → Int64} (k : c_cache I I q K vl) : c_cache I' I' q K vl := by
  have e : c_key I' q = c_key I q := by funext a b; unfold c_key; rw [h4]
  unfold c_cache
  rw [e, e_has h, e_law h]
  exact k
theorem e_trel (h : te I I') {t : Nat} (ht : ∀ i, i ≤ 19 → I' (t + i) = I (t + i)) (hr : I' 2001 = I 2001 ∧ I' 2002 = I 2002) (k : t_rel I t) : t_rel I' t := by
  obtain ⟨⟨ht3, hok, hst, hokL⟩, e0, ecat, ehn, esn, ese, ewy, efa, esl, ele, ema, ela, ebe, elw, eus, ekn, ero⟩ := k
  have t0 : I' t = I t := ht 0 (by omega)
  refine ⟨⟨ht3, e_ok h hok, e_stok h hst, e_okL h hokL⟩, ?_, ?_, ?_, ?_, ?_, ?_, ?_, ?_, ?_, ?_, ?_, ?_, ?_, ?_, ?_, ?_⟩
  · rw [t0, h 95 (by omega) (by omega)]; exact e0
  · rw [t0, e_nH h, h 98 (by omega) (by omega)]; exact ecat
  · rw [ht 1 (by omega), e_nH h, h 96 (by omega) (by omega)]; exact ehn
  · rw [ht 2 (by omega), e_nZ h, h 103 (by omega) (by omega)]; exact esn
  · rw [ht 3 (by omega), e_nS h, h 100 (by omega) (by omega), h 101 (by omega) (by omega)]; exact ese
  · rw [ht 4 (by omega), e_nS h, e_wayP h]; exact ewy
  · rw [ht 4 (by omega), ht 5 (by omega), e_nH h]; exact efa
  · rw [ht 6 (by omega), ht 7 (by omega), ht 8 (by omega), e_nZ h, e_nH h, h 104 (by omega) (by omega), h 105 (by omega) (by omega), h 106 (by omega) (by omega)]; exact esl
  · rw [ht 9 (by omega), ht 10 (by omega), e_nL h, e_nH h, h 107 (by omega) (by omega), h 108 (by omega) (by omega)]; exact ele
  · rw [ht 11 (by omega), e_nL h, e_nH h, h 108 (by omega) (by omega)]; exact ema
  · rw [ht 12 (by omega), e_nA h, e_nH h, e_lamp h]; exact ela
  · rw [ht 13 (by omega), ht 14 (by omega), e_nH h, h 97 (by omega) (by omega), h 99 (by omega) (by omega)]; exact ebe
  · exact e_lwr h (ht 16 (by omega)) (ht 17 (by omega)) (ht 18 (by omega)) elw
  · exact e_used h (ht 19 (by omega)) eus
  · rw [ht 15 (by omega), h 95 (by omega) (by omega)]; exact ekn
  · unfold c_ro; rw [hr.1, hr.2]; exact ero
theorem fr_te (h : fr I I') : te I I' := fun a h1 h2 => h.1 a (by unfold fr_row; omega)
theorem inv_fr {r r' : am_rho} (hv : i_inv r I J) (hf : fr I I') (hr : i_ref r') (h1 : r'.1 = r.1) (hc : c_cache I I (r.1 + 15) (I' 63) (J' 64)) : i_inv r' I' J' := by
  obtain ⟨href, htr, hid, hnow, himg, hund, hsig, htap, hflt, hca⟩ := hv
  have ht := fr_te hf
  have ht3 : r.1 = 3 ∨ r.1 = 23 := htr.1.1
  have hok : m_ok I := htr.1.2.1
  have bZ := hok.2.2.1.2
  have bL := hok.2.2.2.1.2
  have bH := hok.1.2
  have f93 := hf.2.1
  have fW := hf.2.2
  have row : ∀ a, fr_row a → I' a = I a := hf.1
  have cw : ∀ w, (w = 49 ∨ w = 55) → c_w I' w = c_w I w := by
    intro w hw; funext i j
    unfold c_w
    by_cases hi : i ≤ 5
    · rw [if_pos hi, if_pos hi, row _ (by unfold fr_row; omega)]
    · rw [if_neg hi, if_neg hi]
  refine ⟨hr, ?_, ?_, ?_, ?_, ?_, ?_, ?_, ?_, ?_⟩
  · rw [h1]
    exact e_trel ht (fun i hi => row _ (by unfold fr_row; omega)) ⟨row _ (by unfold fr_row; omega), row _ (by unfold fr_row; omega)⟩ htr
  · unfold m_idle
    rw [f93 52 (by omega) (by omega) (by omega) (by omega) (by omega) (by omega), f93 53 (by omega) (by omega) (by omega) (by omega) (by omega) (by omega), f93 54 (by omega) (by omega) (by omega) (by omega) (by omega) (by omega), f93 55 (by omega) (by omega) (by omega) (by omega) (by omega) (by omega), f93 58 (by omega) (by omega) (by omega) (by omega) (by omega) (by omega), f93 59 (by omega) (by omega) (by omega) (by omega) (by omega) (by omega), f93 61 (by omega) (by omega) (by omega) (by omega) (by omega) (by omega), f93 62 (by omega) (by omega) (by omega) (by omega) (by omega) (by omega), f93 63 (by omega) (by omega) (by omega) (by omega) (by omega) (by omega)]
    exact hid
  · obtain ⟨a1, a2, a3⟩ := hnow
    refine ⟨?_, ?_, ?_⟩
    · rw [cw 49 (by omega)]
      exact e_cw ht (cw_q bZ bL bH (wq_symm (fW 0 (by omega) (by omega))) a1)
    · rw [row 49 (by unfold fr_row; omega), (fW 0 (by omega) (by omega)).1 3 (by omega)]; exact a2
    · exact e_okX ht (okX_q bZ bL bH (wq_symm (fW 0 (by omega) (by omega))) a3)
  · obtain ⟨b, a1, a2, a3⟩ := himg
    refine ⟨b, ?_, ?_, ?_⟩
    · rw [row 1 (by unfold fr_row; omega)]; exact a1
    · rw [f93 50 (by omega) (by omega) (by omega) (by omega) (by omega) (by omega)]; exact a2
    · intro hb
      obtain ⟨c1, c2, c3⟩ := a3 hb
      refine ⟨?_, ?_, ?_⟩
      · rw [cw 55 (by omega)]
        exact e_cw ht (cw_q bZ bL bH (wq_symm (fW 2 (by omega) (by omega))) c1)
      · rw [row 55 (by unfold fr_row; omega), (fW 2 (by omega) (by omega)).1 3 (by omega)]; exact c2
      · exact e_okX ht (okX_q bZ bL bH (wq_symm (fW 2 (by omega) (by omega))) c3)
  · obtain ⟨n, hn, a1, a2, a3⟩ := hund
    refine ⟨n, hn, ?_, ?_, ?_⟩
    · rw [row 77 (by unfold fr_row; omega)]; exact a1
    · rw [f93 51 (by omega) (by omega) (by omega) (by omega) (by omega) (by omega)]; exact a2
    · intro k hk
      obtain ⟨c1, c2⟩ := a3 k hk
      rw [row 78 (by unfold fr_row; omega), row 79 (by unfold fr_row; omega), row 80 (by unfold fr_row; omega)]
      refine ⟨e_okX ht (okX_q bZ bL bH (wq_symm (fW (3 + k) (by omega) (by omega))) c1), e_u ht (u_q bL bH (wq_symm (fW (3 + k) (by omega) (by omega))) (wq_symm (fW _ ?_ ?_)) c2)⟩
      · split <;> omega
      · split <;> omega
  · obtain ⟨n, hn, a1, a2, a3, a4, a5⟩ := hsig
    refine ⟨n, hn, ?_, ?_, ?_, ?_, ?_⟩
    · rw [row 72 (by unfold fr_row; omega)]; exact a1
    · rw [f93 69 (by omega) (by omega) (by omega) (by omega) (by omega) (by omega)]; exact a2
    · rw [row 72 (by unfold fr_row; omega), f93 70 (by omega) (by omega) (by omega) (by omega) (by omega) (by omega)]; exact a3
    · rw [f93 70 (by omega) (by omega) (by omega) (by omega) (by omega) (by omega)]; exact a4
    · rw [row 73 (by unfold fr_row; omega), row 74 (by unfold fr_row; omega), row 75 (by unfold fr_row; omega), row 76 (by unfold fr_row; omega), row 132 (by unfold fr_row; omega), row 133 (by unfold fr_row; omega), row 134 (by unfold fr_row; omega), row 135 (by unfold fr_row; omega), e_nZ ht, e_nH ht]
      exact a5
  · obtain ⟨n, hn, a1, a2, a3⟩ := htap
    refine ⟨n, hn, ?_, ?_, ?_⟩
    · rw [row 1 (by unfold fr_row; omega)]; exact a1
    · rw [f93 2 (by omega) (by omega) (by omega) (by omega) (by omega) (by omega)]; exact a2
    · rw [row 94 (by unfold fr_row; omega), row 2 (by unfold fr_row; omega)]; exact a3
  · unfold i_flt
    rw [row 43 (by unfold fr_row; omega), f93 33 (by omega) (by omega) (by omega) (by omega) (by omega) (by omega), f93 34 (by omega) (by omega) (by omega) (by omega) (by omega) (by omega)]
    exact hflt
  · rw [h1]
    exact e_cache ht (row _ (by unfold fr_row; omega)) hc
end
