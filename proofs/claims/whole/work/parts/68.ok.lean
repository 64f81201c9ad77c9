/-! ===== L3: a change leaves the rest ===== -/
def fr2_row (a : Nat) : Prop := a < 49 ∨ (55 ≤ a ∧ a < 61) ∨ a = 62 ∨ (72 ≤ a ∧ a ≤ 76) ∨ (94 ≤ a ∧ a < 118) ∨ (132 ≤ a ∧ a ≤ 135) ∨ 140 < a
def fr2 (I I' : Nat → Nat → Int32) : Prop := (∀ a, fr2_row a → I' a = I a) ∧ (∀ k, k ≠ 0 → k ≠ 39 → k ≠ 51 → k ≠ 56 → k ≠ 57 → k ≠ 60 → k ≠ 68 → I' 93 k = I 93 k) ∧ wq (m_g I' 2) (m_g I 2)
section
variable {I I' C W W' : Nat → Nat → Int32} {J J' : Nat → Nat → Int64}
theorem inv_fr2 {r r' : am_rho} (hv : i_inv r I J) (hf : fr2 I I') (hr : i_ref r') (h1 : r'.1 = r.1) (hc : c_cache I I (r.1 + 15) (I' 63) (J' 64)) (hnow' : i_now I') (hund' : i_und I') : i_inv r' I' J' := by
  obtain ⟨href, htr, hid, hnow, himg, hund, hsig, htap, hflt, hca⟩ := hv
  have ht : te I I' := fun a h1 h2 => hf.1 a (by unfold fr2_row; omega)
  have ht3 : r.1 = 3 ∨ r.1 = 23 := htr.1.1
  have hok : m_ok I := htr.1.2.1
  have bZ := hok.2.2.1.2
  have bL := hok.2.2.2.1.2
  have bH := hok.1.2
  have f93 := hf.2.1
  have fW := hf.2.2
  have row : ∀ a, fr2_row a → I' a = I a := hf.1
  have cw : ∀ w, (w = 55) → c_w I' w = c_w I w := by
    intro w hw; funext i j
    unfold c_w
    by_cases hi : i ≤ 5
    · rw [if_pos hi, if_pos hi, row _ (by unfold fr2_row; omega)]
    · rw [if_neg hi, if_neg hi]
  refine ⟨hr, ?_, ?_, ?_, ?_, ?_, ?_, ?_, ?_, ?_⟩
  · rw [h1]
    exact e_trel ht (fun i hi => row _ (by unfold fr2_row; omega)) ⟨row _ (by unfold fr2_row; omega), row _ (by unfold fr2_row; omega)⟩ htr
  · unfold m_idle
    rw [f93 52 (by omega) (by omega) (by omega) (by omega) (by omega) (by omega) (by omega), f93 53 (by omega) (by omega) (by omega) (by omega) (by omega) (by omega) (by omega), f93 54 (by omega) (by omega) (by omega) (by omega) (by omega) (by omega) (by omega), f93 55 (by omega) (by omega) (by omega) (by omega) (by omega) (by omega) (by omega), f93 58 (by omega) (by omega) (by omega) (by omega) (by omega) (by omega) (by omega), f93 59 (by omega) (by omega) (by omega) (by omega) (by omega) (by omega) (by omega), f93 61 (by omega) (by omega) (by omega) (by omega) (by omega) (by omega) (by omega), f93 62 (by omega) (by omega) (by omega) (by omega) (by omega) (by omega) (by omega), f93 63 (by omega) (by omega) (by omega) (by omega) (by omega) (by omega) (by omega)]
    exact hid
  · exact hnow'
  · obtain ⟨b, a1, a2, a3⟩ := himg
    refine ⟨b, ?_, ?_, ?_⟩
    · rw [row 1 (by unfold fr2_row; omega)]; exact a1
    · rw [f93 50 (by omega) (by omega) (by omega) (by omega) (by omega) (by omega) (by omega)]; exact a2
    · intro hb
      obtain ⟨c1, c2, c3⟩ := a3 hb
      refine ⟨?_, ?_, ?_⟩
      · rw [cw 55 (by omega)]
        exact e_cw ht (cw_q bZ bL bH (wq_symm (fW)) c1)
      · rw [row 55 (by unfold fr2_row; omega), (fW).1 3 (by omega)]; exact c2
      · exact e_okX ht (okX_q bZ bL bH (wq_symm (fW)) c3)
  · exact hund'
  · obtain ⟨n, hn, a1, a2, a3, a4, a5⟩ := hsig
    refine ⟨n, hn, ?_, ?_, ?_, ?_, ?_⟩
    · rw [row 72 (by unfold fr2_row; omega)]; exact a1
    · rw [f93 69 (by omega) (by omega) (by omega) (by omega) (by omega) (by omega) (by omega)]; exact a2
    · rw [row 72 (by unfold fr2_row; omega), f93 70 (by omega) (by omega) (by omega) (by omega) (by omega) (by omega) (by omega)]; exact a3
    · rw [f93 70 (by omega) (by omega) (by omega) (by omega) (by omega) (by omega) (by omega)]; exact a4
    · rw [row 73 (by unfold fr2_row; omega), row 74 (by unfold fr2_row; omega), row 75 (by unfold fr2_row; omega), row 76 (by unfold fr2_row; omega), row 132 (by unfold fr2_row; omega), row 133 (by unfold fr2_row; omega), row 134 (by unfold fr2_row; omega), row 135 (by unfold fr2_row; omega), e_nZ ht, e_nH ht]
      exact a5
  · obtain ⟨n, hn, a1, a2, a3⟩ := htap
    refine ⟨n, hn, ?_, ?_, ?_⟩
    · rw [row 1 (by unfold fr2_row; omega)]; exact a1
    · rw [f93 2 (by omega) (by omega) (by omega) (by omega) (by omega) (by omega) (by omega)]; exact a2
    · rw [row 94 (by unfold fr2_row; omega), row 2 (by unfold fr2_row; omega)]; exact a3
  · unfold i_flt
    rw [row 43 (by unfold fr2_row; omega), f93 33 (by omega) (by omega) (by omega) (by omega) (by omega) (by omega) (by omega), f93 34 (by omega) (by omega) (by omega) (by omega) (by omega) (by omega) (by omega)]
    exact hflt
  · rw [h1]
    exact e_cache ht (row _ (by unfold fr2_row; omega)) hc

/-! worlds stay sound -/
def okLt (I W : Nat → Nat → Int32) : Prop := ∀ l, l < m_nL I → (W 6 l = nI 0 ∧ ∃ h, h < m_nH I ∧ W 7 l = nI h) ∨ (W 6 l = nI 1 ∧ ∃ s, s < m_nZ I ∧ W 7 l = nI s) ∨ (W 6 l = nI 2 ∧ W 7 l = I 108 l)
theorem okLt_take {s b n : Nat} (h : okLt I W) (hs : s < m_nZ I) : okLt I (m_takeF I (nI s) (nI b) W n) := by
  intro l hl
  unfold m_takeF
  by_cases c : l < n ∧ W 6 l = nI 0 ∧ W 7 l = nI b
  · right; left
    rw [if_pos ⟨c.1, c.2, by omega⟩, if_pos rfl, if_pos ⟨c.1, c.2, by omega⟩, if_neg (by omega)]
    exact ⟨rfl, s, hs, rfl⟩
  · rw [if_neg (fun g => c ⟨g.1, g.2.1⟩), if_neg (fun g => c ⟨g.1, g.2.1⟩)]
    exact h l hl
theorem okLt_bring {s b n : Nat} (h : okLt I W) : okLt I (m_bringF I (nI s) (nI b) W n) := by
  intro l hl
  unfold m_bringF
  by_cases c : l < n ∧ (W 6 l = nI 1 ∧ W 7 l = nI s) ∧ I 108 l = nI b
  · right; right
    rw [if_pos ⟨c.1, c.2, by omega⟩, if_pos rfl, if_pos ⟨c.1, c.2, by omega⟩, if_neg (by omega)]
    exact ⟨rfl, c.2.2.symm⟩
  · rw [if_neg (fun g => c ⟨g.1, g.2.1⟩), if_neg (fun g => c ⟨g.1, g.2.1⟩)]
    exact h l hl
theorem okLt_down {s b n : Nat} (h : okLt I W) (hb : b < m_nH I) : okLt I (m_downF (nI s) (nI b) W n) := by
  intro l hl
  unfold m_downF
  by_cases c : l < n ∧ W 6 l = nI 1 ∧ W 7 l = nI s
  · left
    rw [if_pos ⟨c.1, c.2, by omega⟩, if_pos rfl, if_pos ⟨c.1, c.2, by omega⟩, if_neg (by omega)]
    exact ⟨rfl, b, hb, rfl⟩
  · rw [if_neg (fun g => c ⟨g.1, g.2.1⟩), if_neg (fun g => c ⟨g.1, g.2.1⟩)]
    exact h l hl
theorem okLt_u {f k : Nat} {x : Int32} (h : okLt I W) (hf : f ≠ 6 ∧ f ≠ 7) : okLt I (am_u W f k x) := by
  intro l hl
  rw [am_uN (by omega), am_uN (by omega)]
  exact h l hl
def okB (W : Nat → Nat → Int32) : Prop := ∀ i, 5 ≤ i → i < 32 → bt (W 4 0) i = false
theorem okX_walk {F : Nat → Int32} {b : Bool} {s : Nat} (hok : m_ok I) (h : m_okX I W) (hs : s < m_nZ I) : m_okX I (m_walk I F b W s) := by
  obtain ⟨h1, h2, h3, h4, h5⟩ := h
  have h8 := hok.1.2
  have hZ5 := hok.2.2.1.2
  obtain ⟨fr, hfr, hat⟩ := h1 s hs
  obtain ⟨bd, hbd, hbed⟩ := hok.2.2.2.2.2.1 s hs
  refine ⟨m_okW_walk h1 hs h8, ?_, ?_, ?_, ?_⟩
  · rw [m_walk_k (by omega)]; exact h2
  · have a1 : okLt I (m_walk1 I W s) := by
      unfold m_walk1
      split
      · rw [hbed]; exact okLt_take h3 hs
      · exact h3
    have e5 : m_walk1 I W s 5 s = nI fr := by rw [m_walk1_k (by omega)]; exact hat
    have hgo : m_go I (m_walk1 I W s) F s fr < m_nH I := m_goL_lt hfr _ (Nat.le_refl _)
    have a2 : okLt I (m_walk2 I F (m_walk1 I W s) s) := okLt_u a1 (by omega)
    have e2 : m_walk2 I F (m_walk1 I W s) s 5 s = nI (m_go I (m_walk1 I W s) F s fr) := by
      unfold m_walk2; rw [am_uE, e5, nI_clamp (by omega)]
    have a3 : okLt I (m_walk3 I (m_walk2 I F (m_walk1 I W s) s) s) := by unfold m_walk3; rw [e2]; exact okLt_bring a2
    have e3 : m_walk3 I (m_walk2 I F (m_walk1 I W s) s) s 5 s = nI (m_go I (m_walk1 I W s) F s fr) := by rw [m_walk3_k (by omega)]; exact e2
    unfold m_walk
    generalize m_walk3 I (m_walk2 I F (m_walk1 I W s) s) s = W3 at a3 e3
    show okLt I _
    unfold m_walk4
    dsimp only
    rw [e3]
    split
    · exact okLt_down a3 hgo
    · split
      · refine okLt_down (okLt_u ?_ (by omega)) hgo
        split
        · exact a3
        · exact okLt_u a3 (by omega)
      · split
        · exact a3
        · exact okLt_u a3 (by omega)
  · have a1 : okB (m_walk3 I (m_walk2 I F (m_walk1 I W s) s) s) := by
      unfold okB
      rw [m_walk3_k (by omega), m_walk2_k (by omega), m_walk1_k (by omega)]
      exact h4
    unfold m_walk
    generalize m_walk3 I (m_walk2 I F (m_walk1 I W s) s) s = W3 at a1
    show okB _
    unfold m_walk4
    dsimp only
    have hd : ∀ (x y : Int32) (V : Nat → Nat → Int32) (n : Nat), m_downF x y V n 4 = V 4 := fun x y V n => m_downF_k (by omega)
    have hu : ∀ (V : Nat → Nat → Int32) (x : Int32), am_u V 2 0 x 4 = V 4 := fun V x => am_uRow (by omega)
    unfold okB
    split
    · rw [hd]; exact a1
    · split
      · rw [hd]
        intro i hi1 hi2
        rw [am_uE, b_or, a1 i hi1 hi2, b_pw (by omega) hi2, decide_eq_false (by omega)]
        rfl
      · split
        · exact a1
        · rw [hu]; exact a1
  · rw [m_walk_k (by omega)]; exact h5
theorem okX_pass {F : Nat → Int32} {b : Bool} (hok : m_ok I) (h : m_okX I W) : ∀ n, n ≤ m_nZ I → m_okX I (m_pass I F b W n)
  | 0, _ => h
  | n + 1, hn => by
    unfold m_pass
    split
    · exact okX_walk hok (okX_pass hok h n (by omega)) (by omega)
    · exact okX_pass hok h n (by omega)
theorem okLt_endL (hok : m_ok I) (h : okLt I W) (hW : m_okW I W) : ∀ n, n ≤ m_nZ I → okLt I (m_endL I W n)
  | 0, _ => h
  | n + 1, hn => by
    unfold m_endL
    obtain ⟨q, hq, e⟩ := m_okW_endL hok hW n (by omega) n (by omega)
    rw [e]
    exact okLt_u (okLt_down (okLt_endL hok h hW n (by omega)) hq) (by omega)
theorem okX_endX (hok : m_ok I) (h : m_okX I W) : m_okX I (m_endX I W) := by
  obtain ⟨h1, h2, h3, h4, h5⟩ := h
  unfold m_endX
  refine ⟨?_, ?_, ?_, ?_, ?_⟩
  · intro s hs
    rw [am_uN (by omega), am_uN (by omega), am_uN (by omega)]
    exact m_okW_endL hok h1 _ (Nat.le_refl _) s hs
  · rw [am_uN (by omega), am_uE]; exact ⟨0, by omega, rfl⟩
  · exact okLt_u (okLt_u (okLt_u (okLt_endL hok h3 h1 _ (Nat.le_refl _)) (by omega)) (by omega)) (by omega)
  · intro i hi1 hi2
    rw [am_uN (by omega), am_uN (by omega), am_uE, b_z]
  · intro x hx
    rw [am_uN (by omega), am_uN (by omega), am_uN (by omega), m_endL_k (by omega)]
    exact h5 x hx
theorem okX_end (hok : m_ok I) (h : m_okX I W) : m_okX I (m_end I W) := by
  rw [m_end_eq]
  obtain ⟨q, hq, e⟩ := h.2.1
  split
  · exact okX_endX hok h
  · rename_i c
    obtain ⟨h1, h2, h3, h4, h5⟩ := h
    rw [e, nI_add, nI_leI (by omega) (by omega)] at c
    refine ⟨?_, ?_, ?_, ?_, ?_⟩
    · intro s hs; rw [am_uN (by omega)]; exact h1 s hs
    · rw [am_uE, e, nI_add]; exact ⟨q + 1, by omega, rfl⟩
    · exact okLt_u h3 (by omega)
    · rw [am_uN (by omega)]; exact h4
    · intro x hx; rw [am_uN (by omega)]; exact h5 x hx
end
