/-! ===== L3: what stands does not see the upper halves ===== -/
def hpB (B : Nat) (V V' : Nat → Nat → Int32) : Prop := ∀ a k, 95 ≤ a → a ≤ 115 → k < (if a < 114 then hfz a else B) → V' a k = V a k
def lw_bd (B : Nat) (V : Nat → Nat → Int32) : Prop := ∀ k, k < 3 → (V 113 k).toNatClampNeg ≤ B
theorem lw_ok_p {so va so' va' : Nat → Int32} : ∀ {c i k : Nat}, (∀ j, i ≤ j → j < i + c → so' j = so j ∧ va' j = va j) → lw_ok so va c i k → lw_ok so' va' c i k
  | 0, _, _, _, g => g
  | c + 1, i, k, h, g => by
    obtain ⟨e1, e2⟩ := h i (Nat.le_refl _) (by omega)
    have h' : ∀ j, i + 1 ≤ j → j < i + 1 + c → so' j = so j ∧ va' j = va j := fun j h1 h2 => h j (by omega) (by omega)
    unfold lw_ok at g ⊢
    rw [e1, e2]
    rcases g with ⟨g1, g2, g3, g4⟩ | ⟨g1, g2, g3, g4⟩ | ⟨g1, g2, g3⟩ | ⟨g1, g2, g3, g4⟩
    · exact Or.inl ⟨g1, g2, g3, lw_ok_p h' g4⟩
    · exact Or.inr (Or.inl ⟨g1, g2, g3, lw_ok_p h' g4⟩)
    · exact Or.inr (Or.inr (Or.inl ⟨g1, g2, lw_ok_p h' g3⟩))
    · exact Or.inr (Or.inr (Or.inr ⟨g1, g2, g3, lw_ok_p h' g4⟩))
theorem lw_run_p {so va so' va' : Nat → Int32} {nm : Nat → Int64} : ∀ {c i : Nat} {st : List Int64}, (∀ j, i ≤ j → j < i + c → so' j = so j ∧ va' j = va j) → lw_run so' va' nm c i st = lw_run so va nm c i st
  | 0, _, _, _ => rfl
  | c + 1, i, st, h => by
    obtain ⟨e1, e2⟩ := h i (Nat.le_refl _) (by omega)
    have h' : ∀ j, i + 1 ≤ j → j < i + 1 + c → so' j = so j ∧ va' j = va j := fun j h1 h2 => h j (by omega) (by omega)
    unfold lw_run
    rw [e1, e2]
    cases lw_step (so i) (va i) nm st with
    | none => rfl
    | some st' => exact lw_run_p h'
section
variable {V V' C W W' : Nat → Nat → Int32} {B : Nat}
theorem pB_c (h : hpB B V V') {a k : Nat} (ha : 95 ≤ a ∧ a < 114) (hk : k < hfz a) : V' a k = V a k := h a k ha.1 (by omega) (by rw [if_pos ha.2]; exact hk)
theorem pB_k (h : hpB B V V') {k : Nat} (hk : k < B) : V' 114 k = V 114 k ∧ V' 115 k = V 115 k := ⟨h 114 k (by omega) (by omega) (by rw [if_neg (by omega)]; exact hk), h 115 k (by omega) (by omega) (by rw [if_neg (by omega)]; exact hk)⟩
theorem pB_95 (h : hpB B V V') {k : Nat} (hk : k < 7) : V' 95 k = V 95 k := pB_c h (by omega) hk
theorem p_nH (h : hpB B V V') : m_nH V' = m_nH V := by unfold m_nH; rw [pB_95 h (by omega)]
theorem p_nS (h : hpB B V V') : m_nS V' = m_nS V := by unfold m_nS; rw [pB_95 h (by omega)]
theorem p_nZ (h : hpB B V V') : m_nZ V' = m_nZ V := by unfold m_nZ; rw [pB_95 h (by omega)]
theorem p_nL (h : hpB B V V') : m_nL V' = m_nL V := by unfold m_nL; rw [pB_95 h (by omega)]
theorem p_nA (h : hpB B V V') : m_nA V' = m_nA V := by unfold m_nA; rw [pB_95 h (by omega)]
theorem p_11 (h : hpB B V V') {k : Nat} (hk : k < 3) : V' 112 k = V 112 k ∧ V' 113 k = V 113 k := ⟨pB_c h (by omega) hk, pB_c h (by omega) hk⟩
theorem p_has (h : hpB B V V') {k : Nat} (hk : k < 3) : m_has V' k = m_has V k := by unfold m_has; rw [(p_11 h hk).1, (p_11 h hk).2]
theorem p_lwB (h : hpB B V V') (hB : lw_bd B V) : lw_bd B V' := fun k hk => by rw [(p_11 h hk).2]; exact hB k hk
theorem p_law (h : hpB B V V') (hB : lw_bd B V) {k : Nat} (hk : k < 3) : m_law V' k = m_law V k := by
  funext nm
  unfold m_law lw_val
  rw [p_has h hk, (p_11 h hk).1, (p_11 h hk).2, lw_run_p (so := V 114) (va := V 115)]
  intro j h1 h2
  have := hB k hk
  exact pB_k h (by omega)
theorem p_lok (h : hpB B V V') (hB : lw_bd B V) (g : m_lok V) : m_lok V' := by
  intro k hk
  obtain ⟨a, b, g1, g2, g3, g4, g5⟩ := g k hk
  refine ⟨a, b, by rw [(p_11 h hk).1]; exact g1, by rw [(p_11 h hk).2]; exact g2, g3, g4, fun hab => lw_ok_p ?_ (g5 hab)⟩
  intro j h1 h2
  have := hB k hk
  rw [g2, nI_clamp (by omega)] at this
  exact pB_k h (by omega)
theorem p_ok (h : hpB B V V') (hB : lw_bd B V) (g : m_ok V) : m_ok V' := by
  obtain ⟨g0, g1, g2, g3, g4, g5, g6⟩ := g
  refine ⟨?_, ?_, ?_, ?_, ?_, ?_, p_lok h hB g6⟩
  · rw [p_nH h, pB_95 h (by omega)]; exact g0
  · rw [p_nS h, pB_95 h (by omega)]; exact g1
  · rw [p_nZ h, pB_95 h (by omega)]; exact g2
  · rw [p_nL h, pB_95 h (by omega)]; exact g3
  · rw [p_nA h, pB_95 h (by omega)]; exact g4
  · rw [p_nZ h, p_nH h]
    intro s hs
    rw [pB_c h (a := 104) (by omega) (show s < 5 by omega)]
    exact g5 s hs
theorem p_st0 (h : hpB B V V') {a b l : Nat} (hl : l < 12) : st0 V' a b l = st0 V a b l := by
  unfold st0
  rw [pB_c h (a := 100) (k := l) (by omega) hl, pB_c h (a := 101) (k := l) (by omega) hl]
theorem p_stok (h : hpB B V V') (hS : m_nS V ≤ 12) (g : st_ok V) : st_ok V' := by
  unfold st_ok
  rw [p_nS h, p_nH h]
  refine ⟨fun l hl => ?_, fun a b l l' h1 h2 k1 k2 => ?_⟩
  · rw [pB_c h (a := 100) (k := l) (by omega) (show l < 12 by omega), pB_c h (a := 101) (k := l) (by omega) (show l < 12 by omega), pB_c h (a := 102) (k := l) (by omega) (show l < 12 by omega)]
    exact g.1 l hl
  · rw [p_st0 h (by omega)] at k1 k2
    exact g.2 a b l l' h1 h2 k1 k2
theorem p_okL (h : hpB B V V') (hL : m_nL V ≤ 8) (g : m_okL V) : m_okL V' := by
  unfold m_okL
  rw [p_nL h, p_nZ h]
  intro l hl
  rw [pB_c h (a := 107) (k := l) (by omega) (show l < 8 by omega)]
  exact g l hl
theorem p_lamp (h : hpB B V V') (hA : m_nA V ≤ 6) {x y : Int32} : m_lamp V' (m_nA V) x y = m_lamp V (m_nA V) x y := by
  unfold m_lamp
  rw [fa_first_cg (q := m_lampH V x y)]
  intro l hl
  unfold m_lampH
  rw [pB_c h (a := 109) (k := l) (by omega) (show l < 6 by omega), pB_c h (a := 110) (k := l) (by omega) (show l < 6 by omega), pB_c h (a := 111) (k := l) (by omega) (show l < 6 by omega)]
theorem p_way (h : hpB B V V') (hS : m_nS V ≤ 12) {a b : Nat} : wayP V' (fun _ => false) (m_nS V) a b = wayP V (fun _ => false) (m_nS V) a b := by
  unfold wayP
  have e : fa_first (fun l => !false && st0 V' a b l) (m_nS V) = fa_first (fun l => !false && st0 V a b l) (m_nS V) := fa_first_cg (fun l hl => by rw [p_st0 h (by omega)])
  rw [e]
  by_cases c : fa_first (fun l => !false && st0 V a b l) (m_nS V) < m_nS V
  · rw [if_pos c, if_pos c, pB_c h (a := 102) (by omega) (show _ < 12 by omega)]
  · rw [if_neg c, if_neg c]
theorem p_lwr (h : hpB B V V') (hB : lw_bd B V) {q : Nat} (h1 : V' (q + 1) = V (q + 1)) (h2 : V' (q + 2) = V (q + 2)) (h3 : V' (q + 3) = V (q + 3)) (g : c_lwr V V q) : c_lwr V' V' q := by
  refine ⟨fun k hk => ?_, fun k hk i a1 a2 => ?_⟩
  · rw [h2, h3, (p_11 h hk).1, (p_11 h hk).2]; exact g.1 k hk
  · rw [(p_11 h hk).1] at a1
    rw [(p_11 h hk).2] at a2
    have := hB k hk
    rw [h1, (pB_k h (k := i) (by omega)).1, (pB_k h (k := i) (by omega)).2]
    exact g.2 k hk i a1 a2
theorem p_used (h : hpB B V V') (hB : lw_bd B V) {q : Nat} (h4 : V' (q + 4) = V (q + 4)) (g : c_used V V q) : c_used V' V' q := by
  intro k hk p hp
  rw [h4, (p_11 h hk).1, (p_11 h hk).2]
  have hb := hB k hk
  rw [g k hk p hp]
  constructor
  · rintro ⟨a0, i, a1, a2, a3, a4⟩
    exact ⟨a0, i, a1, a2, by rw [(pB_k h (k := i) (by omega)).1]; exact a3, by rw [(pB_k h (k := i) (by omega)).2]; exact a4⟩
  · rintro ⟨a0, i, a1, a2, a3, a4⟩
    rw [(pB_k h (k := i) (by omega)).1] at a3
    rw [(pB_k h (k := i) (by omega)).2] at a4
    exact ⟨a0, i, a1, a2, a3, a4⟩
theorem p_trel (h : hpB B V V') (hB : lw_bd B V) {t : Nat} (ht : ∀ i, i ≤ 19 → V' (t + i) = V (t + i)) (hr : V' 2001 = V 2001 ∧ V' 2002 = V 2002) (k : t_rel V t) : t_rel V' t := by
  obtain ⟨⟨ht3, hok, hst, hokL⟩, ⟨e0, e1, e2, e3, e4, e6⟩, ecat, ehn, esn, ese, ewy, efa, esl, ele, ema, ela, ebe, elw, eus, ekn, ero⟩ := k
  have t0 : V' t = V t := ht 0 (by omega)
  have b0 := hok.1.2
  have b1 := hok.2.1.2
  have b2 := hok.2.2.1.2
  have b3 := hok.2.2.2.1.2
  have b4 := hok.2.2.2.2.1.2
  refine ⟨⟨ht3, p_ok h hB hok, p_stok h b1 hst, p_okL h b3 hokL⟩, ⟨?_, ?_, ?_, ?_, ?_, ?_⟩, ?_, ?_, ?_, ?_, ?_, ?_, ?_, ?_, ?_, ?_, ?_, ?_, ?_, ?_, ?_⟩
  · rw [t0, pB_95 h (by omega)]; exact e0
  · rw [t0, pB_95 h (by omega)]; exact e1
  · rw [t0, pB_95 h (by omega)]; exact e2
  · rw [t0, pB_95 h (by omega)]; exact e3
  · rw [t0, pB_95 h (by omega)]; exact e4
  · rw [t0, pB_95 h (by omega)]; exact e6
  · rw [t0, p_nH h]
    intro x hx
    rw [pB_c h (a := 98) (k := x) (by omega) (show x < 8 by omega)]; exact ecat x hx
  · rw [ht 1 (by omega), p_nH h]
    intro x hx
    rw [pB_c h (a := 96) (k := x) (by omega) (show x < 8 by omega)]; exact ehn x hx
  · rw [ht 2 (by omega), p_nZ h]
    intro x hx
    rw [pB_c h (a := 103) (k := x) (by omega) (show x < 5 by omega)]; exact esn x hx
  · rw [ht 3 (by omega), p_nS h]
    intro x hx
    rw [pB_c h (a := 100) (k := x) (by omega) (show x < 12 by omega), pB_c h (a := 101) (k := x) (by omega) (show x < 12 by omega)]; exact ese x hx
  · rw [ht 4 (by omega), p_nS h]
    intro a b ha hb
    rw [p_way h b1]; exact ewy a b ha hb
  · rw [ht 4 (by omega), ht 5 (by omega), p_nH h]; exact efa
  · rw [ht 6 (by omega), ht 7 (by omega), ht 8 (by omega), p_nZ h, p_nH h]
    intro x hx
    rw [pB_c h (a := 104) (k := x) (by omega) (show x < 5 by omega), pB_c h (a := 105) (k := x) (by omega) (show x < 5 by omega), pB_c h (a := 106) (k := x) (by omega) (show x < 5 by omega)]; exact esl x hx
  · rw [ht 9 (by omega), ht 10 (by omega), p_nL h, p_nH h]
    intro x hx
    rw [pB_c h (a := 107) (k := x) (by omega) (show x < 8 by omega), pB_c h (a := 108) (k := x) (by omega) (show x < 8 by omega)]; exact ele x hx
  · rw [ht 11 (by omega), p_nL h, p_nH h]
    intro x hx l hl
    rw [ema x hx l hl]
    by_cases c : l < m_nL V
    · rw [pB_c h (a := 108) (k := l) (by omega) (show l < 8 by omega)]
    · rw [decide_eq_false (fun g => c g.1), decide_eq_false (fun g => c g.1)]
  · rw [ht 12 (by omega), p_nA h, p_nH h]
    intro x hx hr' hh
    rw [p_lamp h b4]; exact ela x hx hr' hh
  · rw [ht 13 (by omega), ht 14 (by omega), p_nH h]
    intro x hx
    rw [pB_c h (a := 97) (k := x) (by omega) (show x < 8 by omega), pB_c h (a := 99) (k := x) (by omega) (show x < 8 by omega)]; exact ebe x hx
  · exact p_lwr h hB (ht 16 (by omega)) (ht 17 (by omega)) (ht 18 (by omega)) elw
  · exact p_used h hB (ht 19 (by omega)) eus
  · rw [ht 15 (by omega), pB_95 h (by omega)]; exact ekn
  · unfold c_ro; rw [hr.1, hr.2]; exact ero
theorem p_okX (h : hpB B V V') (hL : m_nL V ≤ 8) (k : m_okX V W) : m_okX V' W := by
  obtain ⟨k1, k2, k3, k4, k5⟩ := k
  refine ⟨?_, k2, ?_, k4, ?_⟩
  · unfold m_okW; rw [p_nZ h, p_nH h]; exact k1
  · rw [p_nL h, p_nH h, p_nZ h]
    intro l hl
    rw [pB_c h (a := 108) (k := l) (by omega) (show l < 8 by omega)]
    exact k3 l hl
  · rw [p_nH h]; exact k5
theorem p_cw (h : hpB B V V') (k : cw_rel V C W) : cw_rel V' C W := by unfold cw_rel; rw [p_nZ h, p_nL h, p_nH h]; exact k
theorem p_u (h : hpB B V V') {kd wh bf : Int32} (k : u_rel V kd wh bf W W') : u_rel V' kd wh bf W W' := by unfold u_rel; rw [p_nL h, p_nH h]; exact k
theorem p_cache (h : hpB B V V') (hB : lw_bd B V) {q : Nat} (h4 : V' (q + 4) = V (q + 4)) {K : Nat → Int32} {vl : Nat → Int64} (k : c_cache V V q K vl) : c_cache V' V' q K vl := by
  have e : c_key V' q = c_key V q := by funext a b; unfold c_key; rw [h4]
  intro z hz
  rcases k z hz with g | ⟨j, x, g1, g2, g3, g4⟩
  · exact Or.inl g
  · refine Or.inr ⟨j, x, g1, by rw [p_has h g1]; exact g2, by rw [e]; exact g3, by rw [p_law h hB g1]; exact g4⟩
theorem lwB_64 (h : m_ok V) : lw_bd 64 V := by
  intro k hk
  obtain ⟨a, b, g1, g2, g3, g4, g5⟩ := h.2.2.2.2.2.2 k hk
  rw [g2, nI_clamp (by omega)]
  exact g4
end
section
variable {I I' : Nat → Nat → Int32} {J : Nat → Nat → Int64}
/-- a text that has a fault leaves the town -/
theorem inv_flt {rt rs rd rl rx nt nw nf rl' : Nat} (hv : i_inv (rt, rs, rd, rl, rx, nt, nw, nf) I J) (hl : rl' = rl ∨ rl' = rs + 15) (hh : hpB 64 I I')
    (row : ∀ a, a ≠ 1 → a ≠ 43 → a ≠ 44 → ¬ (46 ≤ a ∧ a ≤ 48) → ¬ (rs ≤ a ∧ a ≤ rs + 19) → a ≠ 93 → ¬ (95 ≤ a ∧ a ≤ 115) → I' a = I a) (r1 : ∀ k, k ≠ 1 → I' 1 k = I 1 k) (r11 : I' 1 1 = nI 0) (r93 : ∀ k, 37 ≤ k → I' 93 k = I 93 k) (r92 : I' 93 2 = nI 0) (hf : I' 43 6 = I' 93 33 ∧ I' 43 7 = I' 93 34) : i_inv (rt, rs, rs, rl', 2, nt, nw, nf) I' J := by
  obtain ⟨href, htr, hid, hnow, himg, hund, hsig, htap, hflt, hca⟩ := hv
  obtain ⟨hr1, hr2, hr3, hr4, hr5, hr6, hr7⟩ := href
  have hok : m_ok I := htr.1.2.1
  have hB := lwB_64 hok
  have bL := hok.2.2.2.1.2
  have gg : ∀ m, m_g I' m = m_g I m := by
    intro m
    funext f k
    unfold m_g
    by_cases c5 : f < 5
    · rw [if_pos c5, if_pos c5, row (118 + f) (by omega) (by omega) (by omega) (by omega) (by omega) (by omega) (by omega)]
    rw [if_neg c5, if_neg c5]
    by_cases c6 : f = 5
    · rw [if_pos c6, if_pos c6, row 123 (by omega) (by omega) (by omega) (by omega) (by omega) (by omega) (by omega)]
    rw [if_neg c6, if_neg c6]
    by_cases c7 : f < 10 ∧ k < 8
    · rw [if_pos c7, if_pos c7, row (118 + f) (by omega) (by omega) (by omega) (by omega) (by omega) (by omega) (by omega)]
    · rw [if_neg c7, if_neg c7]
  have cw : ∀ w, (w = 49 ∨ w = 55) → c_w I' w = c_w I w := by
    intro w hw; funext i j
    unfold c_w
    by_cases hi : i ≤ 5
    · rw [if_pos hi, if_pos hi, row _ (by omega) (by omega) (by omega) (by omega) (by omega) (by omega) (by omega)]
    · rw [if_neg hi, if_neg hi]
  have R : ∀ a, (a = 2 ∨ (49 ≤ a ∧ a < 93) ∨ a = 94 ∨ (115 < a)) → I' a = I a := fun a h => row a (by omega) (by omega) (by omega) (by omega) (by omega) (by omega) (by omega)
  refine ⟨⟨hr1, by omega, by omega, Or.inl rfl, hr5, hr6, hr7⟩, ?_, ?_, ?_, ?_, ?_, ?_, ?_, ?_, ?_⟩
  · exact p_trel hh hB (fun i hi => row _ (by omega) (by omega) (by omega) (by omega) (by omega) (by omega) (by omega)) ⟨R _ (by omega), R _ (by omega)⟩ htr
  · unfold m_idle
    rw [r93 52 (by omega), r93 53 (by omega), r93 54 (by omega), r93 55 (by omega), r93 58 (by omega), r93 59 (by omega), r93 61 (by omega), r93 62 (by omega), r93 63 (by omega)]
    exact hid
  · obtain ⟨a1, a2, a3⟩ := hnow
    refine ⟨?_, ?_, ?_⟩
    · rw [cw 49 (by omega), gg]; exact p_cw hh a1
    · rw [R 49 (by omega), gg]; exact a2
    · rw [gg]; exact p_okX hh bL a3
  · obtain ⟨b, a1, a2, a3⟩ := himg
    refine ⟨b, ?_, ?_, ?_⟩
    · rw [r1 7 (by omega)]; exact a1
    · rw [r93 50 (by omega)]; exact a2
    · intro hb
      obtain ⟨c1, c2, c3⟩ := a3 hb
      refine ⟨?_, ?_, ?_⟩
      · rw [cw 55 (by omega), gg]; exact p_cw hh c1
      · rw [R 55 (by omega), gg]; exact c2
      · rw [gg]; exact p_okX hh bL c3
  · obtain ⟨n, hn, a1, a2, a3⟩ := hund
    refine ⟨n, hn, ?_, ?_, ?_⟩
    · rw [R 77 (by omega)]; exact a1
    · rw [r93 51 (by omega)]; exact a2
    · intro k hk
      obtain ⟨c1, c2⟩ := a3 k hk
      rw [R 78 (by omega), R 79 (by omega), R 80 (by omega), gg, gg]
      exact ⟨p_okX hh bL c1, p_u hh c2⟩
  · obtain ⟨n, hn, a1, a2, a3, a4, a5⟩ := hsig
    refine ⟨n, hn, ?_, ?_, ?_, ?_, ?_⟩
    · rw [R 72 (by omega)]; exact a1
    · rw [r93 69 (by omega)]; exact a2
    · rw [R 72 (by omega), r93 70 (by omega)]; exact a3
    · rw [r93 70 (by omega)]; exact a4
    · rw [R 73 (by omega), R 74 (by omega), R 75 (by omega), R 76 (by omega), R 132 (by omega), R 133 (by omega), R 134 (by omega), R 135 (by omega), p_nZ hh, p_nH hh]
      exact a5
  · exact ⟨0, by omega, r11, r92, fun k hk => by omega⟩
  · exact hf
  · have e15 : rt + 15 + 4 = rt + 19 := rfl
    have e63 : I' 63 = I 63 := R 63 (by omega)
    show c_cache I' I' (rt + 15) (I' 63) (J 64)
    rw [e63]
    exact p_cache hh hB (row _ (by omega) (by omega) (by omega) (by omega) (by omega) (by omega) (by omega)) hca
end
