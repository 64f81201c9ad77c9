/-! ===== L3: a line told keeps the town (by mktp.py) ===== -/
theorem fa_lt_S {p : Nat → Bool} {n : Nat} : decide (fa_first p (n + 1) < n + 1) = (decide (fa_first p n < n) || p n) := by
  have h1 := fa_first_le p n
  rw [fa_first_S]
  by_cases c : fa_first p n < n
  · rw [if_pos c, decide_eq_true c, decide_eq_true (by omega)]; rfl
  · rw [if_neg c, decide_eq_false c]
    cases e : p n with
    | true => rw [if_pos rfl, decide_eq_true (by omega)]; rfl
    | false => rw [if_neg (by simp), decide_eq_false (by omega)]; rfl
theorem fa_first_cg {p q : Nat → Bool} {n : Nat} (h : ∀ k, k < n → p k = q k) : fa_first p n = fa_first q n := by
  have : ∀ j, j ≤ n → fa_first p j = fa_first q j := by
    intro j hj
    induction j with
    | zero => rfl
    | succ j ih => rw [fa_first_S, fa_first_S, ih (by omega), h j (by omega)]
  exact this n (Nat.le_refl _)
theorem b_rng : ∀ to, to < 12 → ∀ fr, fr < 12 → fr ≤ to → ∀ hr, hr < 12 → bt (am_pw (to + 1) - am_pw fr) hr = decide (fr ≤ hr ∧ hr ≤ to) := by decide +kernel
section
variable {V V' : Nat → Nat → Int32} {t m s x y c z b dp dr l h0 A fr to k : Nat}
theorem tp_street (h : t_pre V t) (r : ∀ a, a ≠ t + 3 → a ≠ t + 4 → a ≠ 100 → a ≠ 101 → a ≠ 102 → a ≠ t → a ≠ 95 → V' a = V a) (tk : ∀ k, k ≠ 1 → V' t k = V t k) (nk : ∀ k, k ≠ 1 → V' 95 k = V 95 k)
    (hs : m_nS V = s) (hs12 : s < 12) (hx : x < m_nH V) (hy : y < m_nH V) (hxy : x ≠ y) (hc : 1 ≤ c ∧ c ≤ 9) (hno : ∀ l, l < s → st0 V x y l = false) (t1 : V' t 1 = nI (s + 1)) (n1 : V' 95 1 = nI (s + 1)) (y3 : V' (t + 3) s = nI (8 * x + y)) (y3' : ∀ k, k ≠ s → V' (t + 3) k = V (t + 3) k) (z0 : V' 100 s = nI x ∧ V' 101 s = nI y ∧ V' 102 s = nI c) (z1 : ∀ k, k ≠ s → V' 100 k = V 100 k ∧ V' 101 k = V 101 k ∧ V' 102 k = V 102 k) (y4 : V' (t + 4) (8 * x + y) = nI c ∧ V' (t + 4) (8 * y + x) = nI c) (y4' : ∀ k, k ≠ 8 * x + y → k ≠ 8 * y + x → V' (t + 4) k = V (t + 4) k) : t_pre V' t := by
  obtain ⟨⟨ht, ⟨⟨b0, b0'⟩, ⟨b1, b1'⟩, ⟨b2, b2'⟩, ⟨b3, b3'⟩, ⟨b4, b4'⟩, b5, b6⟩, hst, hokL⟩, ⟨e0, e1, e2, e3, e4, e6⟩, ecat, ehn, esn, ese, ewy, esl, ele, ema, ela, ebe, elw, eus, ekn, ero, elk, eun, ewr, ekk, ek64, ek3⟩ := h
  have N0 : V' 95 0 = V 95 0 := nk 0 (by omega)
  have T0 : V' t 0 = V t 0 := tk 0 (by omega)
  have N2 : V' 95 2 = V 95 2 := nk 2 (by omega)
  have T2 : V' t 2 = V t 2 := tk 2 (by omega)
  have N3 : V' 95 3 = V 95 3 := nk 3 (by omega)
  have T3 : V' t 3 = V t 3 := tk 3 (by omega)
  have N4 : V' 95 4 = V 95 4 := nk 4 (by omega)
  have T4 : V' t 4 = V t 4 := tk 4 (by omega)
  have N5 : V' 95 5 = V 95 5 := nk 5 (by omega)
  have T5 : V' t 5 = V t 5 := tk 5 (by omega)
  have N6 : V' 95 6 = V 95 6 := nk 6 (by omega)
  have T6 : V' t 6 = V t 6 := tk 6 (by omega)
  have eH : m_nH V' = m_nH V := by unfold m_nH; rw [N0]
  have eZ : m_nZ V' = m_nZ V := by unfold m_nZ; rw [N2]
  have eL : m_nL V' = m_nL V := by unfold m_nL; rw [N3]
  have eA : m_nA V' = m_nA V := by unfold m_nA; rw [N4]
  have eK : m_kn V' = m_kn V := by unfold m_kn; rw [N6]
  have Q96 : V' 96 = V 96 := r 96 (by omega) (by omega) (by omega) (by omega) (by omega) (by omega) (by omega) 
  have Q97 : V' 97 = V 97 := r 97 (by omega) (by omega) (by omega) (by omega) (by omega) (by omega) (by omega) 
  have Q98 : V' 98 = V 98 := r 98 (by omega) (by omega) (by omega) (by omega) (by omega) (by omega) (by omega) 
  have Q99 : V' 99 = V 99 := r 99 (by omega) (by omega) (by omega) (by omega) (by omega) (by omega) (by omega) 
  have Q103 : V' 103 = V 103 := r 103 (by omega) (by omega) (by omega) (by omega) (by omega) (by omega) (by omega) 
  have Q104 : V' 104 = V 104 := r 104 (by omega) (by omega) (by omega) (by omega) (by omega) (by omega) (by omega) 
  have Q105 : V' 105 = V 105 := r 105 (by omega) (by omega) (by omega) (by omega) (by omega) (by omega) (by omega) 
  have Q106 : V' 106 = V 106 := r 106 (by omega) (by omega) (by omega) (by omega) (by omega) (by omega) (by omega) 
  have Q107 : V' 107 = V 107 := r 107 (by omega) (by omega) (by omega) (by omega) (by omega) (by omega) (by omega) 
  have Q108 : V' 108 = V 108 := r 108 (by omega) (by omega) (by omega) (by omega) (by omega) (by omega) (by omega) 
  have Q109 : V' 109 = V 109 := r 109 (by omega) (by omega) (by omega) (by omega) (by omega) (by omega) (by omega) 
  have Q110 : V' 110 = V 110 := r 110 (by omega) (by omega) (by omega) (by omega) (by omega) (by omega) (by omega) 
  have Q111 : V' 111 = V 111 := r 111 (by omega) (by omega) (by omega) (by omega) (by omega) (by omega) (by omega) 
  have Q112 : V' 112 = V 112 := r 112 (by omega) (by omega) (by omega) (by omega) (by omega) (by omega) (by omega) 
  have Q113 : V' 113 = V 113 := r 113 (by omega) (by omega) (by omega) (by omega) (by omega) (by omega) (by omega) 
  have Q114 : V' 114 = V 114 := r 114 (by omega) (by omega) (by omega) (by omega) (by omega) (by omega) (by omega) 
  have Q115 : V' 115 = V 115 := r 115 (by omega) (by omega) (by omega) (by omega) (by omega) (by omega) (by omega) 
  have Q2001 : V' 2001 = V 2001 := r 2001 (by omega) (by omega) (by omega) (by omega) (by omega) (by omega) (by omega) 
  have Q2002 : V' 2002 = V 2002 := r 2002 (by omega) (by omega) (by omega) (by omega) (by omega) (by omega) (by omega) 
  have Qt1 : V' (t + 1) = V (t + 1) := r (t + 1) (by omega) (by omega) (by omega) (by omega) (by omega) (by omega) (by omega) 
  have Qt2 : V' (t + 2) = V (t + 2) := r (t + 2) (by omega) (by omega) (by omega) (by omega) (by omega) (by omega) (by omega) 
  have Qt5 : V' (t + 5) = V (t + 5) := r (t + 5) (by omega) (by omega) (by omega) (by omega) (by omega) (by omega) (by omega) 
  have Qt6 : V' (t + 6) = V (t + 6) := r (t + 6) (by omega) (by omega) (by omega) (by omega) (by omega) (by omega) (by omega) 
  have Qt7 : V' (t + 7) = V (t + 7) := r (t + 7) (by omega) (by omega) (by omega) (by omega) (by omega) (by omega) (by omega) 
  have Qt8 : V' (t + 8) = V (t + 8) := r (t + 8) (by omega) (by omega) (by omega) (by omega) (by omega) (by omega) (by omega) 
  have Qt9 : V' (t + 9) = V (t + 9) := r (t + 9) (by omega) (by omega) (by omega) (by omega) (by omega) (by omega) (by omega) 
  have Qt10 : V' (t + 10) = V (t + 10) := r (t + 10) (by omega) (by omega) (by omega) (by omega) (by omega) (by omega) (by omega) 
  have Qt11 : V' (t + 11) = V (t + 11) := r (t + 11) (by omega) (by omega) (by omega) (by omega) (by omega) (by omega) (by omega) 
  have Qt12 : V' (t + 12) = V (t + 12) := r (t + 12) (by omega) (by omega) (by omega) (by omega) (by omega) (by omega) (by omega) 
  have Qt13 : V' (t + 13) = V (t + 13) := r (t + 13) (by omega) (by omega) (by omega) (by omega) (by omega) (by omega) (by omega) 
  have Qt14 : V' (t + 14) = V (t + 14) := r (t + 14) (by omega) (by omega) (by omega) (by omega) (by omega) (by omega) (by omega) 
  have Qt15 : V' (t + 15) = V (t + 15) := r (t + 15) (by omega) (by omega) (by omega) (by omega) (by omega) (by omega) (by omega) 
  have Qt16 : V' (t + 16) = V (t + 16) := r (t + 16) (by omega) (by omega) (by omega) (by omega) (by omega) (by omega) (by omega) 
  have Qt17 : V' (t + 17) = V (t + 17) := r (t + 17) (by omega) (by omega) (by omega) (by omega) (by omega) (by omega) (by omega) 
  have Qt18 : V' (t + 18) = V (t + 18) := r (t + 18) (by omega) (by omega) (by omega) (by omega) (by omega) (by omega) (by omega) 
  have Qt19 : V' (t + 19) = V (t + 19) := r (t + 19) (by omega) (by omega) (by omega) (by omega) (by omega) (by omega) (by omega) 
  have hla := cg_lamp Q109 Q110 Q111
  have eS : m_nS V' = s + 1 := nN_of n1 (by omega)
  have h8 := b0'
  have stO : ∀ {a b : Nat} (l : Nat), l ≠ s → st0 V' a b l = st0 V a b l := by
    intro a b l hl; unfold st0; rw [(z1 l hl).1, (z1 l hl).2.1]
  refine ⟨⟨ht, ⟨⟨?_, ?_⟩, ⟨?_, ?_⟩, ⟨?_, ?_⟩, ⟨?_, ?_⟩, ⟨?_, ?_⟩, ?_, ?_⟩, ?_, ?_⟩, ⟨?_, ?_, ?_, ?_, ?_, ?_⟩, ?_, ?_, ?_, ?_, ?_, ?_, ?_, ?_, ?_, ?_, ?_, ?_, ?_, ?_, ?_, ?_, ?_, ?_, ?_, ?_⟩
  · rw [eH, N0]; exact b0
  · rw [eH]; exact b0'
  · rw [eS]; exact n1
  · rw [eS]; omega
  · rw [eZ, N2]; exact b2
  · rw [eZ]; exact b2'
  · rw [eL, N3]; exact b3
  · rw [eL]; exact b3'
  · rw [eA, N4]; exact b4
  · rw [eA]; exact b4'
  · rw [eZ, eH, Q104]; exact b5
  · exact cg_lok Q112 Q113 Q114 Q115 b6
  · unfold st_ok
    rw [eS, eH]
    refine ⟨fun l hl => ?_, fun a b l l' hl hl' g g' => ?_⟩
    · by_cases e : l = s
      · subst e
        exact ⟨x, y, c, hx, hy, hxy, z0.1, z0.2.1, z0.2.2, hc.1, hc.2⟩
      · rw [(z1 l e).1, (z1 l e).2.1, (z1 l e).2.2]; exact hst.1 l (by omega)
    · have key : ∀ l', l' < s → st0 V' a b s = true → st0 V' a b l' = true → False := by
        intro l' hl' g g'
        rw [stO l' (by omega)] at g'
        have hn := hno l' hl'
        unfold st0 at g g' hn
        rw [z0.1, z0.2.1] at g
        simp only [Bool.or_eq_true, decide_eq_true_eq] at g
        rcases g with ⟨g1, g2⟩ | ⟨g1, g2⟩
        · rw [← g1, ← g2] at g'; rw [g'] at hn; cases hn
        · rw [← g1, ← g2, Bool.or_comm] at g'; rw [g'] at hn; cases hn
      by_cases e : l = s
      · subst e
        by_cases e2 : l' = l
        · exact e2.symm
        · exact (key l' (by omega) g g').elim
      · by_cases e2 : l' = s
        · subst e2; exact (key l (by omega) g' g).elim
        · rw [stO l e] at g
          rw [stO l' e2] at g'
          exact hst.2 a b l l' (by omega) (by omega) g g'
  · unfold m_okL; rw [eL, eZ, Q107]; exact hokL
  · rw [T0, N0]; exact e0
  · rw [t1, n1]
  · rw [T2, N2]; exact e2
  · rw [T3, N3]; exact e3
  · rw [T4, N4]; exact e4
  · rw [T6, N5]; exact e6
  · rw [eH, T5, Q98]; exact ecat
  · rw [eH, Qt1, Q96]; exact ehn
  · rw [eZ, Qt2, Q103]; exact esn
  · rw [eS]
    intro l hl
    by_cases e : l = s
    · subst e; rw [y3, z0.1, z0.2.1, am_mulN, nI_add]
    · rw [y3' l e, (z1 l e).1, (z1 l e).2.1]; exact ese l (by omega)
  · rw [eS]
    intro a b ha hb
    have hold := ewy a b ha hb
    unfold wayP at hold ⊢
    simp only [Bool.not_false, Bool.true_and] at hold ⊢
    have hcg : fa_first (fun l => st0 V' a b l) s = fa_first (fun l => st0 V a b l) s := fa_first_cg (fun l hl => stO l (by omega))
    have hs1 : st0 V' a b s = decide ((a = x ∧ b = y) ∨ (a = y ∧ b = x)) := st0_n z0.1 z0.2.1 (by omega) (by omega) ha hb
    by_cases c1 : (a = x ∧ b = y) ∨ (a = y ∧ b = x)
    · have hf : fa_first (fun l => st0 V' a b l) (s + 1) = s := by
        refine fa_first_step (by omega) (fun l hl => ?_) (by rw [hs1, decide_eq_true c1])
        rw [stO l (by omega)]
        have hn := hno l hl
        rcases c1 with ⟨rfl, rfl⟩ | ⟨rfl, rfl⟩
        · exact hn
        · unfold st0 at hn ⊢; rw [Bool.or_comm]; exact hn
      rw [hf, if_pos (by omega), z0.2.2]
      rcases c1 with ⟨rfl, rfl⟩ | ⟨rfl, rfl⟩
      · exact y4.1
      · exact y4.2
    · rw [y4' _ (by omega) (by omega), hold, hs, fa_first_S, hs1, decide_eq_false c1, hcg]
      by_cases c2 : fa_first (fun l => st0 V a b l) s < s
      · rw [if_pos c2, if_pos c2, if_pos (by omega), (z1 _ (by omega)).2.2]
      · rw [if_neg c2, if_neg c2, if_neg (by simp)]
  · rw [eZ, eH, Qt6, Qt7, Qt8, Q104, Q105, Q106]; exact esl
  · rw [eL, eH, Qt9, Qt10, Q107, Q108]; exact ele
  · rw [eL, Qt11, Q108]; exact ema
  · rw [eA, Qt12, hla]; exact ela
  · rw [eH, Qt13, Qt14, Q97, Q99]; exact ebe
  · exact cg_lwr Q112 Q113 Q114 Q115 Qt16 Qt17 Qt18 elw
  · exact cg_used Q112 Q113 Q114 Q115 Qt19 eus
  · rw [Qt15, N6]; exact ekn
  · exact cg_ro Q2001 Q2002 ero
  · unfold lok; rw [eA, eH, Q109, Q110, Q111]; exact elk
  · rw [eH, Qt13, Qt14, T5]; exact eun
  · rw [Qt15, N6]; exact ewr
  · rw [eK, N6]; exact ekk
  · rw [eK]; exact ek64
  · rw [eK, Q113]; exact ek3
theorem tp_sleeper (h : t_pre V t) (r : ∀ a, a ≠ t + 2 → a ≠ t + 6 → a ≠ t + 7 → a ≠ t + 8 → a ≠ 103 → a ≠ 104 → a ≠ 105 → a ≠ 106 → a ≠ t → a ≠ 95 → V' a = V a) (tk : ∀ k, k ≠ 2 → V' t k = V t k) (nk : ∀ k, k ≠ 2 → V' 95 k = V 95 k)
    (hz : m_nZ V = z) (hz5 : z < 5) (hb : b < m_nH V) (hd : dp ≤ 9) (hr : dr < m_nH V) (t2 : V' t 2 = nI (z + 1)) (n2 : V' 95 2 = nI (z + 1)) (y1 : V' (t + 2) z = V' 103 z ∧ V' (t + 6) z = nI b ∧ V' (t + 7) z = nI dp ∧ V' (t + 8) z = nI dr) (y2 : ∀ k, k ≠ z → V' (t + 2) k = V (t + 2) k ∧ V' (t + 6) k = V (t + 6) k ∧ V' (t + 7) k = V (t + 7) k ∧ V' (t + 8) k = V (t + 8) k) (z0 : V' 104 z = nI b ∧ V' 105 z = nI dp ∧ V' 106 z = nI dr) (z1 : ∀ k, k ≠ z → V' 103 k = V 103 k ∧ V' 104 k = V 104 k ∧ V' 105 k = V 105 k ∧ V' 106 k = V 106 k) : t_pre V' t := by
  obtain ⟨⟨ht, ⟨⟨b0, b0'⟩, ⟨b1, b1'⟩, ⟨b2, b2'⟩, ⟨b3, b3'⟩, ⟨b4, b4'⟩, b5, b6⟩, hst, hokL⟩, ⟨e0, e1, e2, e3, e4, e6⟩, ecat, ehn, esn, ese, ewy, esl, ele, ema, ela, ebe, elw, eus, ekn, ero, elk, eun, ewr, ekk, ek64, ek3⟩ := h
  have N0 : V' 95 0 = V 95 0 := nk 0 (by omega)
  have T0 : V' t 0 = V t 0 := tk 0 (by omega)
  have N1 : V' 95 1 = V 95 1 := nk 1 (by omega)
  have T1 : V' t 1 = V t 1 := tk 1 (by omega)
  have N3 : V' 95 3 = V 95 3 := nk 3 (by omega)
  have T3 : V' t 3 = V t 3 := tk 3 (by omega)
  have N4 : V' 95 4 = V 95 4 := nk 4 (by omega)
  have T4 : V' t 4 = V t 4 := tk 4 (by omega)
  have N5 : V' 95 5 = V 95 5 := nk 5 (by omega)
  have T5 : V' t 5 = V t 5 := tk 5 (by omega)
  have N6 : V' 95 6 = V 95 6 := nk 6 (by omega)
  have T6 : V' t 6 = V t 6 := tk 6 (by omega)
  have eH : m_nH V' = m_nH V := by unfold m_nH; rw [N0]
  have eS : m_nS V' = m_nS V := by unfold m_nS; rw [N1]
  have eL : m_nL V' = m_nL V := by unfold m_nL; rw [N3]
  have eA : m_nA V' = m_nA V := by unfold m_nA; rw [N4]
  have eK : m_kn V' = m_kn V := by unfold m_kn; rw [N6]
  have Q96 : V' 96 = V 96 := r 96 (by omega) (by omega) (by omega) (by omega) (by omega) (by omega) (by omega) (by omega) (by omega) (by omega) 
  have Q97 : V' 97 = V 97 := r 97 (by omega) (by omega) (by omega) (by omega) (by omega) (by omega) (by omega) (by omega) (by omega) (by omega) 
  have Q98 : V' 98 = V 98 := r 98 (by omega) (by omega) (by omega) (by omega) (by omega) (by omega) (by omega) (by omega) (by omega) (by omega) 
  have Q99 : V' 99 = V 99 := r 99 (by omega) (by omega) (by omega) (by omega) (by omega) (by omega) (by omega) (by omega) (by omega) (by omega) 
  have Q100 : V' 100 = V 100 := r 100 (by omega) (by omega) (by omega) (by omega) (by omega) (by omega) (by omega) (by omega) (by omega) (by omega) 
  have Q101 : V' 101 = V 101 := r 101 (by omega) (by omega) (by omega) (by omega) (by omega) (by omega) (by omega) (by omega) (by omega) (by omega) 
  have Q102 : V' 102 = V 102 := r 102 (by omega) (by omega) (by omega) (by omega) (by omega) (by omega) (by omega) (by omega) (by omega) (by omega) 
  have Q107 : V' 107 = V 107 := r 107 (by omega) (by omega) (by omega) (by omega) (by omega) (by omega) (by omega) (by omega) (by omega) (by omega) 
  have Q108 : V' 108 = V 108 := r 108 (by omega) (by omega) (by omega) (by omega) (by omega) (by omega) (by omega) (by omega) (by omega) (by omega) 
  have Q109 : V' 109 = V 109 := r 109 (by omega) (by omega) (by omega) (by omega) (by omega) (by omega) (by omega) (by omega) (by omega) (by omega) 
  have Q110 : V' 110 = V 110 := r 110 (by omega) (by omega) (by omega) (by omega) (by omega) (by omega) (by omega) (by omega) (by omega) (by omega) 
  have Q111 : V' 111 = V 111 := r 111 (by omega) (by omega) (by omega) (by omega) (by omega) (by omega) (by omega) (by omega) (by omega) (by omega) 
  have Q112 : V' 112 = V 112 := r 112 (by omega) (by omega) (by omega) (by omega) (by omega) (by omega) (by omega) (by omega) (by omega) (by omega) 
  have Q113 : V' 113 = V 113 := r 113 (by omega) (by omega) (by omega) (by omega) (by omega) (by omega) (by omega) (by omega) (by omega) (by omega) 
  have Q114 : V' 114 = V 114 := r 114 (by omega) (by omega) (by omega) (by omega) (by omega) (by omega) (by omega) (by omega) (by omega) (by omega) 
  have Q115 : V' 115 = V 115 := r 115 (by omega) (by omega) (by omega) (by omega) (by omega) (by omega) (by omega) (by omega) (by omega) (by omega) 
  have Q2001 : V' 2001 = V 2001 := r 2001 (by omega) (by omega) (by omega) (by omega) (by omega) (by omega) (by omega) (by omega) (by omega) (by omega) 
  have Q2002 : V' 2002 = V 2002 := r 2002 (by omega) (by omega) (by omega) (by omega) (by omega) (by omega) (by omega) (by omega) (by omega) (by omega) 
  have Qt1 : V' (t + 1) = V (t + 1) := r (t + 1) (by omega) (by omega) (by omega) (by omega) (by omega) (by omega) (by omega) (by omega) (by omega) (by omega) 
  have Qt3 : V' (t + 3) = V (t + 3) := r (t + 3) (by omega) (by omega) (by omega) (by omega) (by omega) (by omega) (by omega) (by omega) (by omega) (by omega) 
  have Qt4 : V' (t + 4) = V (t + 4) := r (t + 4) (by omega) (by omega) (by omega) (by omega) (by omega) (by omega) (by omega) (by omega) (by omega) (by omega) 
  have Qt5 : V' (t + 5) = V (t + 5) := r (t + 5) (by omega) (by omega) (by omega) (by omega) (by omega) (by omega) (by omega) (by omega) (by omega) (by omega) 
  have Qt9 : V' (t + 9) = V (t + 9) := r (t + 9) (by omega) (by omega) (by omega) (by omega) (by omega) (by omega) (by omega) (by omega) (by omega) (by omega) 
  have Qt10 : V' (t + 10) = V (t + 10) := r (t + 10) (by omega) (by omega) (by omega) (by omega) (by omega) (by omega) (by omega) (by omega) (by omega) (by omega) 
  have Qt11 : V' (t + 11) = V (t + 11) := r (t + 11) (by omega) (by omega) (by omega) (by omega) (by omega) (by omega) (by omega) (by omega) (by omega) (by omega) 
  have Qt12 : V' (t + 12) = V (t + 12) := r (t + 12) (by omega) (by omega) (by omega) (by omega) (by omega) (by omega) (by omega) (by omega) (by omega) (by omega) 
  have Qt13 : V' (t + 13) = V (t + 13) := r (t + 13) (by omega) (by omega) (by omega) (by omega) (by omega) (by omega) (by omega) (by omega) (by omega) (by omega) 
  have Qt14 : V' (t + 14) = V (t + 14) := r (t + 14) (by omega) (by omega) (by omega) (by omega) (by omega) (by omega) (by omega) (by omega) (by omega) (by omega) 
  have Qt15 : V' (t + 15) = V (t + 15) := r (t + 15) (by omega) (by omega) (by omega) (by omega) (by omega) (by omega) (by omega) (by omega) (by omega) (by omega) 
  have Qt16 : V' (t + 16) = V (t + 16) := r (t + 16) (by omega) (by omega) (by omega) (by omega) (by omega) (by omega) (by omega) (by omega) (by omega) (by omega) 
  have Qt17 : V' (t + 17) = V (t + 17) := r (t + 17) (by omega) (by omega) (by omega) (by omega) (by omega) (by omega) (by omega) (by omega) (by omega) (by omega) 
  have Qt18 : V' (t + 18) = V (t + 18) := r (t + 18) (by omega) (by omega) (by omega) (by omega) (by omega) (by omega) (by omega) (by omega) (by omega) (by omega) 
  have Qt19 : V' (t + 19) = V (t + 19) := r (t + 19) (by omega) (by omega) (by omega) (by omega) (by omega) (by omega) (by omega) (by omega) (by omega) (by omega) 
  have hw := cg_way Q100 Q101 Q102
  have hs0 := cg_st0 Q100 Q101
  have hla := cg_lamp Q109 Q110 Q111
  have eZ : m_nZ V' = z + 1 := nN_of n2 (by omega)
  refine ⟨⟨ht, ⟨⟨?_, ?_⟩, ⟨?_, ?_⟩, ⟨?_, ?_⟩, ⟨?_, ?_⟩, ⟨?_, ?_⟩, ?_, ?_⟩, ?_, ?_⟩, ⟨?_, ?_, ?_, ?_, ?_, ?_⟩, ?_, ?_, ?_, ?_, ?_, ?_, ?_, ?_, ?_, ?_, ?_, ?_, ?_, ?_, ?_, ?_, ?_, ?_, ?_, ?_⟩
  · rw [eH, N0]; exact b0
  · rw [eH]; exact b0'
  · rw [eS, N1]; exact b1
  · rw [eS]; exact b1'
  · rw [eZ]; exact n2
  · rw [eZ]; omega
  · rw [eL, N3]; exact b3
  · rw [eL]; exact b3'
  · rw [eA, N4]; exact b4
  · rw [eA]; exact b4'
  · rw [eZ, eH]
    intro s hs
    by_cases e : s = z
    · subst e; exact ⟨b, hb, z0.1⟩
    · rw [(z1 s e).2.1]; exact b5 s (by omega)
  · exact cg_lok Q112 Q113 Q114 Q115 b6
  · unfold st_ok; rw [eS, eH, hs0, Q100, Q101, Q102]; exact hst
  · unfold m_okL
    rw [eL, eZ, Q107]
    intro l hl
    obtain ⟨s, hs, e⟩ := hokL l hl
    exact ⟨s, by omega, e⟩
  · rw [T0, N0]; exact e0
  · rw [T1, N1]; exact e1
  · rw [t2, n2]
  · rw [T3, N3]; exact e3
  · rw [T4, N4]; exact e4
  · rw [T6, N5]; exact e6
  · rw [eH, T5, Q98]; exact ecat
  · rw [eH, Qt1, Q96]; exact ehn
  · rw [eZ]
    intro s hs
    by_cases e : s = z
    · subst e; exact y1.1
    · rw [(y2 s e).1, (z1 s e).1]; exact esn s (by omega)
  · rw [eS, Qt3, Q100, Q101]; exact ese
  · rw [eS, Qt4, hw]; exact ewy
  · rw [eZ, eH]
    intro s hs
    by_cases e : s = z
    · subst e
      rw [y1.2.1, y1.2.2.1, y1.2.2.2, z0.1, z0.2.1, z0.2.2]
      exact ⟨rfl, rfl, rfl, ⟨dp, hd, rfl⟩, ⟨dr, hr, rfl⟩⟩
    · rw [(y2 s e).2.1, (y2 s e).2.2.1, (y2 s e).2.2.2, (z1 s e).2.1, (z1 s e).2.2.1, (z1 s e).2.2.2]; exact esl s (by omega)
  · rw [eL, eH, Qt9, Qt10, Q107, Q108]; exact ele
  · rw [eL, Qt11, Q108]; exact ema
  · rw [eA, Qt12, hla]; exact ela
  · rw [eH, Qt13, Qt14, Q97, Q99]; exact ebe
  · exact cg_lwr Q112 Q113 Q114 Q115 Qt16 Qt17 Qt18 elw
  · exact cg_used Q112 Q113 Q114 Q115 Qt19 eus
  · rw [Qt15, N6]; exact ekn
  · exact cg_ro Q2001 Q2002 ero
  · unfold lok; rw [eA, eH, Q109, Q110, Q111]; exact elk
  · rw [eH, Qt13, Qt14, T5]; exact eun
  · rw [Qt15, N6]; exact ewr
  · rw [eK, N6]; exact ekk
  · rw [eK]; exact ek64
  · rw [eK, Q113]; exact ek3
theorem tp_letter (h : t_pre V t) (r : ∀ a, a ≠ t + 9 → a ≠ t + 10 → a ≠ t + 11 → a ≠ 107 → a ≠ 108 → a ≠ t → a ≠ 95 → V' a = V a) (tk : ∀ k, k ≠ 3 → V' t k = V t k) (nk : ∀ k, k ≠ 3 → V' 95 k = V 95 k)
    (hl : m_nL V = l) (hl8 : l < 8) (hs : s < m_nZ V) (hh : h0 < m_nH V) (t3 : V' t 3 = nI (l + 1)) (n3 : V' 95 3 = nI (l + 1)) (y1 : V' (t + 9) l = nI s ∧ V' (t + 10) l = nI h0) (y2 : ∀ k, k ≠ l → V' (t + 9) k = V (t + 9) k ∧ V' (t + 10) k = V (t + 10) k) (y3 : V' (t + 11) h0 = V (t + 11) h0 ||| am_pw l) (y4 : ∀ k, k ≠ h0 → V' (t + 11) k = V (t + 11) k) (z0 : V' 107 l = nI s ∧ V' 108 l = nI h0) (z1 : ∀ k, k ≠ l → V' 107 k = V 107 k ∧ V' 108 k = V 108 k) : t_pre V' t := by
  obtain ⟨⟨ht, ⟨⟨b0, b0'⟩, ⟨b1, b1'⟩, ⟨b2, b2'⟩, ⟨b3, b3'⟩, ⟨b4, b4'⟩, b5, b6⟩, hst, hokL⟩, ⟨e0, e1, e2, e3, e4, e6⟩, ecat, ehn, esn, ese, ewy, esl, ele, ema, ela, ebe, elw, eus, ekn, ero, elk, eun, ewr, ekk, ek64, ek3⟩ := h
  have N0 : V' 95 0 = V 95 0 := nk 0 (by omega)
  have T0 : V' t 0 = V t 0 := tk 0 (by omega)
  have N1 : V' 95 1 = V 95 1 := nk 1 (by omega)
  have T1 : V' t 1 = V t 1 := tk 1 (by omega)
  have N2 : V' 95 2 = V 95 2 := nk 2 (by omega)
  have T2 : V' t 2 = V t 2 := tk 2 (by omega)
  have N4 : V' 95 4 = V 95 4 := nk 4 (by omega)
  have T4 : V' t 4 = V t 4 := tk 4 (by omega)
  have N5 : V' 95 5 = V 95 5 := nk 5 (by omega)
  have T5 : V' t 5 = V t 5 := tk 5 (by omega)
  have N6 : V' 95 6 = V 95 6 := nk 6 (by omega)
  have T6 : V' t 6 = V t 6 := tk 6 (by omega)
  have eH : m_nH V' = m_nH V := by unfold m_nH; rw [N0]
  have eS : m_nS V' = m_nS V := by unfold m_nS; rw [N1]
  have eZ : m_nZ V' = m_nZ V := by unfold m_nZ; rw [N2]
  have eA : m_nA V' = m_nA V := by unfold m_nA; rw [N4]
  have eK : m_kn V' = m_kn V := by unfold m_kn; rw [N6]
  have Q96 : V' 96 = V 96 := r 96 (by omega) (by omega) (by omega) (by omega) (by omega) (by omega) (by omega) 
  have Q97 : V' 97 = V 97 := r 97 (by omega) (by omega) (by omega) (by omega) (by omega) (by omega) (by omega) 
  have Q98 : V' 98 = V 98 := r 98 (by omega) (by omega) (by omega) (by omega) (by omega) (by omega) (by omega) 
  have Q99 : V' 99 = V 99 := r 99 (by omega) (by omega) (by omega) (by omega) (by omega) (by omega) (by omega) 
  have Q100 : V' 100 = V 100 := r 100 (by omega) (by omega) (by omega) (by omega) (by omega) (by omega) (by omega) 
  have Q101 : V' 101 = V 101 := r 101 (by omega) (by omega) (by omega) (by omega) (by omega) (by omega) (by omega) 
  have Q102 : V' 102 = V 102 := r 102 (by omega) (by omega) (by omega) (by omega) (by omega) (by omega) (by omega) 
  have Q103 : V' 103 = V 103 := r 103 (by omega) (by omega) (by omega) (by omega) (by omega) (by omega) (by omega) 
  have Q104 : V' 104 = V 104 := r 104 (by omega) (by omega) (by omega) (by omega) (by omega) (by omega) (by omega) 
  have Q105 : V' 105 = V 105 := r 105 (by omega) (by omega) (by omega) (by omega) (by omega) (by omega) (by omega) 
  have Q106 : V' 106 = V 106 := r 106 (by omega) (by omega) (by omega) (by omega) (by omega) (by omega) (by omega) 
  have Q109 : V' 109 = V 109 := r 109 (by omega) (by omega) (by omega) (by omega) (by omega) (by omega) (by omega) 
  have Q110 : V' 110 = V 110 := r 110 (by omega) (by omega) (by omega) (by omega) (by omega) (by omega) (by omega) 
  have Q111 : V' 111 = V 111 := r 111 (by omega) (by omega) (by omega) (by omega) (by omega) (by omega) (by omega) 
  have Q112 : V' 112 = V 112 := r 112 (by omega) (by omega) (by omega) (by omega) (by omega) (by omega) (by omega) 
  have Q113 : V' 113 = V 113 := r 113 (by omega) (by omega) (by omega) (by omega) (by omega) (by omega) (by omega) 
  have Q114 : V' 114 = V 114 := r 114 (by omega) (by omega) (by omega) (by omega) (by omega) (by omega) (by omega) 
  have Q115 : V' 115 = V 115 := r 115 (by omega) (by omega) (by omega) (by omega) (by omega) (by omega) (by omega) 
  have Q2001 : V' 2001 = V 2001 := r 2001 (by omega) (by omega) (by omega) (by omega) (by omega) (by omega) (by omega) 
  have Q2002 : V' 2002 = V 2002 := r 2002 (by omega) (by omega) (by omega) (by omega) (by omega) (by omega) (by omega) 
  have Qt1 : V' (t + 1) = V (t + 1) := r (t + 1) (by omega) (by omega) (by omega) (by omega) (by omega) (by omega) (by omega) 
  have Qt2 : V' (t + 2) = V (t + 2) := r (t + 2) (by omega) (by omega) (by omega) (by omega) (by omega) (by omega) (by omega) 
  have Qt3 : V' (t + 3) = V (t + 3) := r (t + 3) (by omega) (by omega) (by omega) (by omega) (by omega) (by omega) (by omega) 
  have Qt4 : V' (t + 4) = V (t + 4) := r (t + 4) (by omega) (by omega) (by omega) (by omega) (by omega) (by omega) (by omega) 
  have Qt5 : V' (t + 5) = V (t + 5) := r (t + 5) (by omega) (by omega) (by omega) (by omega) (by omega) (by omega) (by omega) 
  have Qt6 : V' (t + 6) = V (t + 6) := r (t + 6) (by omega) (by omega) (by omega) (by omega) (by omega) (by omega) (by omega) 
  have Qt7 : V' (t + 7) = V (t + 7) := r (t + 7) (by omega) (by omega) (by omega) (by omega) (by omega) (by omega) (by omega) 
  have Qt8 : V' (t + 8) = V (t + 8) := r (t + 8) (by omega) (by omega) (by omega) (by omega) (by omega) (by omega) (by omega) 
  have Qt12 : V' (t + 12) = V (t + 12) := r (t + 12) (by omega) (by omega) (by omega) (by omega) (by omega) (by omega) (by omega) 
  have Qt13 : V' (t + 13) = V (t + 13) := r (t + 13) (by omega) (by omega) (by omega) (by omega) (by omega) (by omega) (by omega) 
  have Qt14 : V' (t + 14) = V (t + 14) := r (t + 14) (by omega) (by omega) (by omega) (by omega) (by omega) (by omega) (by omega) 
  have Qt15 : V' (t + 15) = V (t + 15) := r (t + 15) (by omega) (by omega) (by omega) (by omega) (by omega) (by omega) (by omega) 
  have Qt16 : V' (t + 16) = V (t + 16) := r (t + 16) (by omega) (by omega) (by omega) (by omega) (by omega) (by omega) (by omega) 
  have Qt17 : V' (t + 17) = V (t + 17) := r (t + 17) (by omega) (by omega) (by omega) (by omega) (by omega) (by omega) (by omega) 
  have Qt18 : V' (t + 18) = V (t + 18) := r (t + 18) (by omega) (by omega) (by omega) (by omega) (by omega) (by omega) (by omega) 
  have Qt19 : V' (t + 19) = V (t + 19) := r (t + 19) (by omega) (by omega) (by omega) (by omega) (by omega) (by omega) (by omega) 
  have hw := cg_way Q100 Q101 Q102
  have hs0 := cg_st0 Q100 Q101
  have hla := cg_lamp Q109 Q110 Q111
  have eL : m_nL V' = l + 1 := nN_of n3 (by omega)
  have h8 := b0'
  refine ⟨⟨ht, ⟨⟨?_, ?_⟩, ⟨?_, ?_⟩, ⟨?_, ?_⟩, ⟨?_, ?_⟩, ⟨?_, ?_⟩, ?_, ?_⟩, ?_, ?_⟩, ⟨?_, ?_, ?_, ?_, ?_, ?_⟩, ?_, ?_, ?_, ?_, ?_, ?_, ?_, ?_, ?_, ?_, ?_, ?_, ?_, ?_, ?_, ?_, ?_, ?_, ?_, ?_⟩
  · rw [eH, N0]; exact b0
  · rw [eH]; exact b0'
  · rw [eS, N1]; exact b1
  · rw [eS]; exact b1'
  · rw [eZ, N2]; exact b2
  · rw [eZ]; exact b2'
  · rw [eL]; exact n3
  · rw [eL]; omega
  · rw [eA, N4]; exact b4
  · rw [eA]; exact b4'
  · rw [eZ, eH, Q104]; exact b5
  · exact cg_lok Q112 Q113 Q114 Q115 b6
  · unfold st_ok; rw [eS, eH, hs0, Q100, Q101, Q102]; exact hst
  · unfold m_okL
    rw [eL, eZ]
    intro k hk
    by_cases e : k = l
    · subst e; exact ⟨s, hs, z0.1⟩
    · rw [(z1 k e).1]; exact hokL k (by omega)
  · rw [T0, N0]; exact e0
  · rw [T1, N1]; exact e1
  · rw [T2, N2]; exact e2
  · rw [t3, n3]
  · rw [T4, N4]; exact e4
  · rw [T6, N5]; exact e6
  · rw [eH, T5, Q98]; exact ecat
  · rw [eH, Qt1, Q96]; exact ehn
  · rw [eZ, Qt2, Q103]; exact esn
  · rw [eS, Qt3, Q100, Q101]; exact ese
  · rw [eS, Qt4, hw]; exact ewy
  · rw [eZ, eH, Qt6, Qt7, Qt8, Q104, Q105, Q106]; exact esl
  · rw [eL, eH]
    intro k hk
    by_cases e : k = l
    · subst e
      rw [y1.1, y1.2, z0.1, z0.2]
      exact ⟨rfl, rfl, h0, hh, rfl⟩
    · rw [(y2 k e).1, (y2 k e).2, (z1 k e).1, (z1 k e).2]; exact ele k (by omega)
  · rw [eL]
    intro h hh8 k hk
    have old := ema h hh8 k hk
    by_cases e : h = h0
    · subst e
      rw [y3, b_or, b_pw (by omega) hk, old, hl]
      by_cases ek : k = l
      · subst ek
        rw [decide_eq_true (show k = k from rfl), Bool.or_true, decide_eq_true ⟨by omega, z0.2⟩]
      · rw [decide_eq_false ek, Bool.or_false, (z1 k ek).2]
        apply decide_eq_decide.mpr
        constructor
        · intro g; exact ⟨by omega, g.2⟩
        · intro g; exact ⟨by omega, g.2⟩
    · rw [y4 h e, old, hl]
      by_cases ek : k = l
      · subst ek
        rw [decide_eq_false (fun g => by omega), decide_eq_false (fun g => ?_)]
        have g2 := g.2
        rw [z0.2, nI_eq (by omega) (by omega)] at g2
        omega
      · rw [(z1 k ek).2]
        apply decide_eq_decide.mpr
        constructor
        · intro g; exact ⟨by omega, g.2⟩
        · intro g; exact ⟨by omega, g.2⟩
  · rw [eA, Qt12, hla]; exact ela
  · rw [eH, Qt13, Qt14, Q97, Q99]; exact ebe
  · exact cg_lwr Q112 Q113 Q114 Q115 Qt16 Qt17 Qt18 elw
  · exact cg_used Q112 Q113 Q114 Q115 Qt19 eus
  · rw [Qt15, N6]; exact ekn
  · exact cg_ro Q2001 Q2002 ero
  · unfold lok; rw [eA, eH, Q109, Q110, Q111]; exact elk
  · rw [eH, Qt13, Qt14, T5]; exact eun
  · rw [Qt15, N6]; exact ewr
  · rw [eK, N6]; exact ekk
  · rw [eK]; exact ek64
  · rw [eK, Q113]; exact ek3
theorem tp_lamp (h : t_pre V t) (r : ∀ a, a ≠ t + 12 → a ≠ 109 → a ≠ 110 → a ≠ 111 → a ≠ t → a ≠ 95 → V' a = V a) (tk : ∀ k, k ≠ 4 → V' t k = V t k) (nk : ∀ k, k ≠ 4 → V' 95 k = V 95 k)
    (hA : m_nA V = A) (hA6 : A < 6) (hh : h0 < m_nH V) (hf : fr ≤ to) (ho : to ≤ 11) (t4 : V' t 4 = nI (A + 1)) (n4 : V' 95 4 = nI (A + 1)) (y3 : V' (t + 12) h0 = V (t + 12) h0 ||| (am_pw (to + 1) - am_pw fr)) (y4 : ∀ k, k ≠ h0 → V' (t + 12) k = V (t + 12) k) (z0 : V' 109 A = nI h0 ∧ V' 110 A = nI fr ∧ V' 111 A = nI to) (z1 : ∀ k, k ≠ A → V' 109 k = V 109 k ∧ V' 110 k = V 110 k ∧ V' 111 k = V 111 k) : t_pre V' t := by
  obtain ⟨⟨ht, ⟨⟨b0, b0'⟩, ⟨b1, b1'⟩, ⟨b2, b2'⟩, ⟨b3, b3'⟩, ⟨b4, b4'⟩, b5, b6⟩, hst, hokL⟩, ⟨e0, e1, e2, e3, e4, e6⟩, ecat, ehn, esn, ese, ewy, esl, ele, ema, ela, ebe, elw, eus, ekn, ero, elk, eun, ewr, ekk, ek64, ek3⟩ := h
  have N0 : V' 95 0 = V 95 0 := nk 0 (by omega)
  have T0 : V' t 0 = V t 0 := tk 0 (by omega)
  have N1 : V' 95 1 = V 95 1 := nk 1 (by omega)
  have T1 : V' t 1 = V t 1 := tk 1 (by omega)
  have N2 : V' 95 2 = V 95 2 := nk 2 (by omega)
  have T2 : V' t 2 = V t 2 := tk 2 (by omega)
  have N3 : V' 95 3 = V 95 3 := nk 3 (by omega)
  have T3 : V' t 3 = V t 3 := tk 3 (by omega)
  have N5 : V' 95 5 = V 95 5 := nk 5 (by omega)
  have T5 : V' t 5 = V t 5 := tk 5 (by omega)
  have N6 : V' 95 6 = V 95 6 := nk 6 (by omega)
  have T6 : V' t 6 = V t 6 := tk 6 (by omega)
  have eH : m_nH V' = m_nH V := by unfold m_nH; rw [N0]
  have eS : m_nS V' = m_nS V := by unfold m_nS; rw [N1]
  have eZ : m_nZ V' = m_nZ V := by unfold m_nZ; rw [N2]
  have eL : m_nL V' = m_nL V := by unfold m_nL; rw [N3]
  have eK : m_kn V' = m_kn V := by unfold m_kn; rw [N6]
  have Q96 : V' 96 = V 96 := r 96 (by omega) (by omega) (by omega) (by omega) (by omega) (by omega) 
  have Q97 : V' 97 = V 97 := r 97 (by omega) (by omega) (by omega) (by omega) (by omega) (by omega) 
  have Q98 : V' 98 = V 98 := r 98 (by omega) (by omega) (by omega) (by omega) (by omega) (by omega) 
  have Q99 : V' 99 = V 99 := r 99 (by omega) (by omega) (by omega) (by omega) (by omega) (by omega) 
  have Q100 : V' 100 = V 100 := r 100 (by omega) (by omega) (by omega) (by omega) (by omega) (by omega) 
  have Q101 : V' 101 = V 101 := r 101 (by omega) (by omega) (by omega) (by omega) (by omega) (by omega) 
  have Q102 : V' 102 = V 102 := r 102 (by omega) (by omega) (by omega) (by omega) (by omega) (by omega) 
  have Q103 : V' 103 = V 103 := r 103 (by omega) (by omega) (by omega) (by omega) (by omega) (by omega) 
  have Q104 : V' 104 = V 104 := r 104 (by omega) (by omega) (by omega) (by omega) (by omega) (by omega) 
  have Q105 : V' 105 = V 105 := r 105 (by omega) (by omega) (by omega) (by omega) (by omega) (by omega) 
  have Q106 : V' 106 = V 106 := r 106 (by omega) (by omega) (by omega) (by omega) (by omega) (by omega) 
  have Q107 : V' 107 = V 107 := r 107 (by omega) (by omega) (by omega) (by omega) (by omega) (by omega) 
  have Q108 : V' 108 = V 108 := r 108 (by omega) (by omega) (by omega) (by omega) (by omega) (by omega) 
  have Q112 : V' 112 = V 112 := r 112 (by omega) (by omega) (by omega) (by omega) (by omega) (by omega) 
  have Q113 : V' 113 = V 113 := r 113 (by omega) (by omega) (by omega) (by omega) (by omega) (by omega) 
  have Q114 : V' 114 = V 114 := r 114 (by omega) (by omega) (by omega) (by omega) (by omega) (by omega) 
  have Q115 : V' 115 = V 115 := r 115 (by omega) (by omega) (by omega) (by omega) (by omega) (by omega) 
  have Q2001 : V' 2001 = V 2001 := r 2001 (by omega) (by omega) (by omega) (by omega) (by omega) (by omega) 
  have Q2002 : V' 2002 = V 2002 := r 2002 (by omega) (by omega) (by omega) (by omega) (by omega) (by omega) 
  have Qt1 : V' (t + 1) = V (t + 1) := r (t + 1) (by omega) (by omega) (by omega) (by omega) (by omega) (by omega) 
  have Qt2 : V' (t + 2) = V (t + 2) := r (t + 2) (by omega) (by omega) (by omega) (by omega) (by omega) (by omega) 
  have Qt3 : V' (t + 3) = V (t + 3) := r (t + 3) (by omega) (by omega) (by omega) (by omega) (by omega) (by omega) 
  have Qt4 : V' (t + 4) = V (t + 4) := r (t + 4) (by omega) (by omega) (by omega) (by omega) (by omega) (by omega) 
  have Qt5 : V' (t + 5) = V (t + 5) := r (t + 5) (by omega) (by omega) (by omega) (by omega) (by omega) (by omega) 
  have Qt6 : V' (t + 6) = V (t + 6) := r (t + 6) (by omega) (by omega) (by omega) (by omega) (by omega) (by omega) 
  have Qt7 : V' (t + 7) = V (t + 7) := r (t + 7) (by omega) (by omega) (by omega) (by omega) (by omega) (by omega) 
  have Qt8 : V' (t + 8) = V (t + 8) := r (t + 8) (by omega) (by omega) (by omega) (by omega) (by omega) (by omega) 
  have Qt9 : V' (t + 9) = V (t + 9) := r (t + 9) (by omega) (by omega) (by omega) (by omega) (by omega) (by omega) 
  have Qt10 : V' (t + 10) = V (t + 10) := r (t + 10) (by omega) (by omega) (by omega) (by omega) (by omega) (by omega) 
  have Qt11 : V' (t + 11) = V (t + 11) := r (t + 11) (by omega) (by omega) (by omega) (by omega) (by omega) (by omega) 
  have Qt13 : V' (t + 13) = V (t + 13) := r (t + 13) (by omega) (by omega) (by omega) (by omega) (by omega) (by omega) 
  have Qt14 : V' (t + 14) = V (t + 14) := r (t + 14) (by omega) (by omega) (by omega) (by omega) (by omega) (by omega) 
  have Qt15 : V' (t + 15) = V (t + 15) := r (t + 15) (by omega) (by omega) (by omega) (by omega) (by omega) (by omega) 
  have Qt16 : V' (t + 16) = V (t + 16) := r (t + 16) (by omega) (by omega) (by omega) (by omega) (by omega) (by omega) 
  have Qt17 : V' (t + 17) = V (t + 17) := r (t + 17) (by omega) (by omega) (by omega) (by omega) (by omega) (by omega) 
  have Qt18 : V' (t + 18) = V (t + 18) := r (t + 18) (by omega) (by omega) (by omega) (by omega) (by omega) (by omega) 
  have Qt19 : V' (t + 19) = V (t + 19) := r (t + 19) (by omega) (by omega) (by omega) (by omega) (by omega) (by omega) 
  have hw := cg_way Q100 Q101 Q102
  have hs0 := cg_st0 Q100 Q101
  have eA : m_nA V' = A + 1 := nN_of n4 (by omega)
  have h8 := b0'
  refine ⟨⟨ht, ⟨⟨?_, ?_⟩, ⟨?_, ?_⟩, ⟨?_, ?_⟩, ⟨?_, ?_⟩, ⟨?_, ?_⟩, ?_, ?_⟩, ?_, ?_⟩, ⟨?_, ?_, ?_, ?_, ?_, ?_⟩, ?_, ?_, ?_, ?_, ?_, ?_, ?_, ?_, ?_, ?_, ?_, ?_, ?_, ?_, ?_, ?_, ?_, ?_, ?_, ?_⟩
  · rw [eH, N0]; exact b0
  · rw [eH]; exact b0'
  · rw [eS, N1]; exact b1
  · rw [eS]; exact b1'
  · rw [eZ, N2]; exact b2
  · rw [eZ]; exact b2'
  · rw [eL, N3]; exact b3
  · rw [eL]; exact b3'
  · rw [eA]; exact n4
  · rw [eA]; omega
  · rw [eZ, eH, Q104]; exact b5
  · exact cg_lok Q112 Q113 Q114 Q115 b6
  · unfold st_ok; rw [eS, eH, hs0, Q100, Q101, Q102]; exact hst
  · unfold m_okL; rw [eL, eZ, Q107]; exact hokL
  · rw [T0, N0]; exact e0
  · rw [T1, N1]; exact e1
  · rw [T2, N2]; exact e2
  · rw [T3, N3]; exact e3
  · rw [t4, n4]
  · rw [T6, N5]; exact e6
  · rw [eH, T5, Q98]; exact ecat
  · rw [eH, Qt1, Q96]; exact ehn
  · rw [eZ, Qt2, Q103]; exact esn
  · rw [eS, Qt3, Q100, Q101]; exact ese
  · rw [eS, Qt4, hw]; exact ewy
  · rw [eZ, eH, Qt6, Qt7, Qt8, Q104, Q105, Q106]; exact esl
  · rw [eL, eH, Qt9, Qt10, Q107, Q108]; exact ele
  · rw [eL, Qt11, Q108]; exact ema
  · rw [eA]
    intro h hh8 hr hhr
    have old := ela h hh8 hr hhr
    rw [hA] at old
    unfold m_lamp at old ⊢
    rw [fa_lt_S, fa_first_cg (q := m_lampH V (nI h) (nI hr)) (fun k hk => by unfold m_lampH; rw [(z1 k (by omega)).1, (z1 k (by omega)).2.1, (z1 k (by omega)).2.2]), ← old]
    have hlast : m_lampH V' (nI h) (nI hr) A = decide (h0 = h ∧ fr ≤ hr ∧ hr ≤ to) := by
      unfold m_lampH
      rw [z0.1, z0.2.1, z0.2.2]
      apply decide_eq_decide.mpr
      rw [nI_eq (by omega) (by omega), nI_leI (by omega) (by omega), nI_leI (by omega) (by omega)]
    rw [hlast]
    by_cases e : h = h0
    · subst e
      rw [y3, b_or, b_rng to (by omega) fr (by omega) hf hr hhr]
      congr 1
      apply decide_eq_decide.mpr
      constructor
      · intro g; exact ⟨rfl, g⟩
      · intro g; exact g.2
    · rw [y4 h e, decide_eq_false (fun g => e g.1.symm), Bool.or_false]
  · rw [eH, Qt13, Qt14, Q97, Q99]; exact ebe
  · exact cg_lwr Q112 Q113 Q114 Q115 Qt16 Qt17 Qt18 elw
  · exact cg_used Q112 Q113 Q114 Q115 Qt19 eus
  · rw [Qt15, N6]; exact ekn
  · exact cg_ro Q2001 Q2002 ero
  · unfold lok
    rw [eA, eH]
    intro k hk
    by_cases e : k = A
    · subst e; exact ⟨h0, fr, to, hh, hf, ho, z0.1, z0.2.1, z0.2.2⟩
    · rw [(z1 k e).1, (z1 k e).2.1, (z1 k e).2.2]; exact elk k (by omega)
  · rw [eH, Qt13, Qt14, T5]; exact eun
  · rw [Qt15, N6]; exact ewr
  · rw [eK, N6]; exact ekk
  · rw [eK]; exact ek64
  · rw [eK, Q113]; exact ek3
theorem tp_bell (h : t_pre V t) (r : ∀ a, a ≠ t + 13 → a ≠ 97 → V' a = V a)  
    (hh0 : h0 < m_nH V) (hk9 : k ≤ 9) (y1 : V' (t + 13) h0 = nI k) (y2 : ∀ j, j ≠ h0 → V' (t + 13) j = V (t + 13) j) (z0 : V' 97 h0 = nI k) (z1 : ∀ j, j ≠ h0 → V' 97 j = V 97 j) : t_pre V' t := by
  obtain ⟨⟨ht, ⟨⟨b0, b0'⟩, ⟨b1, b1'⟩, ⟨b2, b2'⟩, ⟨b3, b3'⟩, ⟨b4, b4'⟩, b5, b6⟩, hst, hokL⟩, ⟨e0, e1, e2, e3, e4, e6⟩, ecat, ehn, esn, ese, ewy, esl, ele, ema, ela, ebe, elw, eus, ekn, ero, elk, eun, ewr, ekk, ek64, ek3⟩ := h
  have N0 : V' 95 0 = V 95 0 := by rw [r 95 (by omega) (by omega) ]
  have T0 : V' t 0 = V t 0 := by rw [r t (by omega) (by omega) ]
  have N1 : V' 95 1 = V 95 1 := by rw [r 95 (by omega) (by omega) ]
  have T1 : V' t 1 = V t 1 := by rw [r t (by omega) (by omega) ]
  have N2 : V' 95 2 = V 95 2 := by rw [r 95 (by omega) (by omega) ]
  have T2 : V' t 2 = V t 2 := by rw [r t (by omega) (by omega) ]
  have N3 : V' 95 3 = V 95 3 := by rw [r 95 (by omega) (by omega) ]
  have T3 : V' t 3 = V t 3 := by rw [r t (by omega) (by omega) ]
  have N4 : V' 95 4 = V 95 4 := by rw [r 95 (by omega) (by omega) ]
  have T4 : V' t 4 = V t 4 := by rw [r t (by omega) (by omega) ]
  have N5 : V' 95 5 = V 95 5 := by rw [r 95 (by omega) (by omega) ]
  have T5 : V' t 5 = V t 5 := by rw [r t (by omega) (by omega) ]
  have N6 : V' 95 6 = V 95 6 := by rw [r 95 (by omega) (by omega) ]
  have T6 : V' t 6 = V t 6 := by rw [r t (by omega) (by omega) ]
  have eH : m_nH V' = m_nH V := by unfold m_nH; rw [N0]
  have eS : m_nS V' = m_nS V := by unfold m_nS; rw [N1]
  have eZ : m_nZ V' = m_nZ V := by unfold m_nZ; rw [N2]
  have eL : m_nL V' = m_nL V := by unfold m_nL; rw [N3]
  have eA : m_nA V' = m_nA V := by unfold m_nA; rw [N4]
  have eK : m_kn V' = m_kn V := by unfold m_kn; rw [N6]
  have Q96 : V' 96 = V 96 := r 96 (by omega) (by omega) 
  have Q98 : V' 98 = V 98 := r 98 (by omega) (by omega) 
  have Q99 : V' 99 = V 99 := r 99 (by omega) (by omega) 
  have Q100 : V' 100 = V 100 := r 100 (by omega) (by omega) 
  have Q101 : V' 101 = V 101 := r 101 (by omega) (by omega) 
  have Q102 : V' 102 = V 102 := r 102 (by omega) (by omega) 
  have Q103 : V' 103 = V 103 := r 103 (by omega) (by omega) 
  have Q104 : V' 104 = V 104 := r 104 (by omega) (by omega) 
  have Q105 : V' 105 = V 105 := r 105 (by omega) (by omega) 
  have Q106 : V' 106 = V 106 := r 106 (by omega) (by omega) 
  have Q107 : V' 107 = V 107 := r 107 (by omega) (by omega) 
  have Q108 : V' 108 = V 108 := r 108 (by omega) (by omega) 
  have Q109 : V' 109 = V 109 := r 109 (by omega) (by omega) 
  have Q110 : V' 110 = V 110 := r 110 (by omega) (by omega) 
  have Q111 : V' 111 = V 111 := r 111 (by omega) (by omega) 
  have Q112 : V' 112 = V 112 := r 112 (by omega) (by omega) 
  have Q113 : V' 113 = V 113 := r 113 (by omega) (by omega) 
  have Q114 : V' 114 = V 114 := r 114 (by omega) (by omega) 
  have Q115 : V' 115 = V 115 := r 115 (by omega) (by omega) 
  have Q2001 : V' 2001 = V 2001 := r 2001 (by omega) (by omega) 
  have Q2002 : V' 2002 = V 2002 := r 2002 (by omega) (by omega) 
  have Qt1 : V' (t + 1) = V (t + 1) := r (t + 1) (by omega) (by omega) 
  have Qt2 : V' (t + 2) = V (t + 2) := r (t + 2) (by omega) (by omega) 
  have Qt3 : V' (t + 3) = V (t + 3) := r (t + 3) (by omega) (by omega) 
  have Qt4 : V' (t + 4) = V (t + 4) := r (t + 4) (by omega) (by omega) 
  have Qt5 : V' (t + 5) = V (t + 5) := r (t + 5) (by omega) (by omega) 
  have Qt6 : V' (t + 6) = V (t + 6) := r (t + 6) (by omega) (by omega) 
  have Qt7 : V' (t + 7) = V (t + 7) := r (t + 7) (by omega) (by omega) 
  have Qt8 : V' (t + 8) = V (t + 8) := r (t + 8) (by omega) (by omega) 
  have Qt9 : V' (t + 9) = V (t + 9) := r (t + 9) (by omega) (by omega) 
  have Qt10 : V' (t + 10) = V (t + 10) := r (t + 10) (by omega) (by omega) 
  have Qt11 : V' (t + 11) = V (t + 11) := r (t + 11) (by omega) (by omega) 
  have Qt12 : V' (t + 12) = V (t + 12) := r (t + 12) (by omega) (by omega) 
  have Qt14 : V' (t + 14) = V (t + 14) := r (t + 14) (by omega) (by omega) 
  have Qt15 : V' (t + 15) = V (t + 15) := r (t + 15) (by omega) (by omega) 
  have Qt16 : V' (t + 16) = V (t + 16) := r (t + 16) (by omega) (by omega) 
  have Qt17 : V' (t + 17) = V (t + 17) := r (t + 17) (by omega) (by omega) 
  have Qt18 : V' (t + 18) = V (t + 18) := r (t + 18) (by omega) (by omega) 
  have Qt19 : V' (t + 19) = V (t + 19) := r (t + 19) (by omega) (by omega) 
  have hw := cg_way Q100 Q101 Q102
  have hs0 := cg_st0 Q100 Q101
  have hla := cg_lamp Q109 Q110 Q111
  refine ⟨⟨ht, ⟨⟨?_, ?_⟩, ⟨?_, ?_⟩, ⟨?_, ?_⟩, ⟨?_, ?_⟩, ⟨?_, ?_⟩, ?_, ?_⟩, ?_, ?_⟩, ⟨?_, ?_, ?_, ?_, ?_, ?_⟩, ?_, ?_, ?_, ?_, ?_, ?_, ?_, ?_, ?_, ?_, ?_, ?_, ?_, ?_, ?_, ?_, ?_, ?_, ?_, ?_⟩
  · rw [eH, N0]; exact b0
  · rw [eH]; exact b0'
  · rw [eS, N1]; exact b1
  · rw [eS]; exact b1'
  · rw [eZ, N2]; exact b2
  · rw [eZ]; exact b2'
  · rw [eL, N3]; exact b3
  · rw [eL]; exact b3'
  · rw [eA, N4]; exact b4
  · rw [eA]; exact b4'
  · rw [eZ, eH, Q104]; exact b5
  · exact cg_lok Q112 Q113 Q114 Q115 b6
  · unfold st_ok; rw [eS, eH, hs0, Q100, Q101, Q102]; exact hst
  · unfold m_okL; rw [eL, eZ, Q107]; exact hokL
  · rw [T0, N0]; exact e0
  · rw [T1, N1]; exact e1
  · rw [T2, N2]; exact e2
  · rw [T3, N3]; exact e3
  · rw [T4, N4]; exact e4
  · rw [T6, N5]; exact e6
  · rw [eH, T5, Q98]; exact ecat
  · rw [eH, Qt1, Q96]; exact ehn
  · rw [eZ, Qt2, Q103]; exact esn
  · rw [eS, Qt3, Q100, Q101]; exact ese
  · rw [eS, Qt4, hw]; exact ewy
  · rw [eZ, eH, Qt6, Qt7, Qt8, Q104, Q105, Q106]; exact esl
  · rw [eL, eH, Qt9, Qt10, Q107, Q108]; exact ele
  · rw [eL, Qt11, Q108]; exact ema
  · rw [eA, Qt12, hla]; exact ela
  · rw [eH, Qt14, Q99]
    intro h hh
    by_cases e : h = h0
    · subst e
      obtain ⟨g1, g2, g3, g4⟩ := ebe h hh
      rw [y1, z0]
      exact ⟨rfl, g2, ⟨k, hk9, rfl⟩, g4⟩
    · rw [y2 h e, z1 h e]; exact ebe h hh
  · exact cg_lwr Q112 Q113 Q114 Q115 Qt16 Qt17 Qt18 elw
  · exact cg_used Q112 Q113 Q114 Q115 Qt19 eus
  · rw [Qt15, N6]; exact ekn
  · exact cg_ro Q2001 Q2002 ero
  · unfold lok; rw [eA, eH, Q109, Q110, Q111]; exact elk
  · rw [eH, Qt14, T5]
    intro h hh h8
    rw [y2 h (by omega)]; exact eun h hh h8
  · rw [Qt15, N6]; exact ewr
  · rw [eK, N6]; exact ekk
  · rw [eK]; exact ek64
  · rw [eK, Q113]; exact ek3
theorem tp_corner (h : t_pre V t) (r : ∀ a, a ≠ t + 14 → a ≠ 99 → V' a = V a)  
    (hh0 : h0 < m_nH V) (hk9 : k ≤ 9) (y1 : V' (t + 14) h0 = nI k) (y2 : ∀ j, j ≠ h0 → V' (t + 14) j = V (t + 14) j) (z0 : V' 99 h0 = nI k) (z1 : ∀ j, j ≠ h0 → V' 99 j = V 99 j) : t_pre V' t := by
  obtain ⟨⟨ht, ⟨⟨b0, b0'⟩, ⟨b1, b1'⟩, ⟨b2, b2'⟩, ⟨b3, b3'⟩, ⟨b4, b4'⟩, b5, b6⟩, hst, hokL⟩, ⟨e0, e1, e2, e3, e4, e6⟩, ecat, ehn, esn, ese, ewy, esl, ele, ema, ela, ebe, elw, eus, ekn, ero, elk, eun, ewr, ekk, ek64, ek3⟩ := h
  have N0 : V' 95 0 = V 95 0 := by rw [r 95 (by omega) (by omega) ]
  have T0 : V' t 0 = V t 0 := by rw [r t (by omega) (by omega) ]
  have N1 : V' 95 1 = V 95 1 := by rw [r 95 (by omega) (by omega) ]
  have T1 : V' t 1 = V t 1 := by rw [r t (by omega) (by omega) ]
  have N2 : V' 95 2 = V 95 2 := by rw [r 95 (by omega) (by omega) ]
  have T2 : V' t 2 = V t 2 := by rw [r t (by omega) (by omega) ]
  have N3 : V' 95 3 = V 95 3 := by rw [r 95 (by omega) (by omega) ]
  have T3 : V' t 3 = V t 3 := by rw [r t (by omega) (by omega) ]
  have N4 : V' 95 4 = V 95 4 := by rw [r 95 (by omega) (by omega) ]
  have T4 : V' t 4 = V t 4 := by rw [r t (by omega) (by omega) ]
  have N5 : V' 95 5 = V 95 5 := by rw [r 95 (by omega) (by omega) ]
  have T5 : V' t 5 = V t 5 := by rw [r t (by omega) (by omega) ]
  have N6 : V' 95 6 = V 95 6 := by rw [r 95 (by omega) (by omega) ]
  have T6 : V' t 6 = V t 6 := by rw [r t (by omega) (by omega) ]
  have eH : m_nH V' = m_nH V := by unfold m_nH; rw [N0]
  have eS : m_nS V' = m_nS V := by unfold m_nS; rw [N1]
  have eZ : m_nZ V' = m_nZ V := by unfold m_nZ; rw [N2]
  have eL : m_nL V' = m_nL V := by unfold m_nL; rw [N3]
  have eA : m_nA V' = m_nA V := by unfold m_nA; rw [N4]
  have eK : m_kn V' = m_kn V := by unfold m_kn; rw [N6]
  have Q96 : V' 96 = V 96 := r 96 (by omega) (by omega) 
  have Q97 : V' 97 = V 97 := r 97 (by omega) (by omega) 
  have Q98 : V' 98 = V 98 := r 98 (by omega) (by omega) 
  have Q100 : V' 100 = V 100 := r 100 (by omega) (by omega) 
  have Q101 : V' 101 = V 101 := r 101 (by omega) (by omega) 
  have Q102 : V' 102 = V 102 := r 102 (by omega) (by omega) 
  have Q103 : V' 103 = V 103 := r 103 (by omega) (by omega) 
  have Q104 : V' 104 = V 104 := r 104 (by omega) (by omega) 
  have Q105 : V' 105 = V 105 := r 105 (by omega) (by omega) 
  have Q106 : V' 106 = V 106 := r 106 (by omega) (by omega) 
  have Q107 : V' 107 = V 107 := r 107 (by omega) (by omega) 
  have Q108 : V' 108 = V 108 := r 108 (by omega) (by omega) 
  have Q109 : V' 109 = V 109 := r 109 (by omega) (by omega) 
  have Q110 : V' 110 = V 110 := r 110 (by omega) (by omega) 
  have Q111 : V' 111 = V 111 := r 111 (by omega) (by omega) 
  have Q112 : V' 112 = V 112 := r 112 (by omega) (by omega) 
  have Q113 : V' 113 = V 113 := r 113 (by omega) (by omega) 
  have Q114 : V' 114 = V 114 := r 114 (by omega) (by omega) 
  have Q115 : V' 115 = V 115 := r 115 (by omega) (by omega) 
  have Q2001 : V' 2001 = V 2001 := r 2001 (by omega) (by omega) 
  have Q2002 : V' 2002 = V 2002 := r 2002 (by omega) (by omega) 
  have Qt1 : V' (t + 1) = V (t + 1) := r (t + 1) (by omega) (by omega) 
  have Qt2 : V' (t + 2) = V (t + 2) := r (t + 2) (by omega) (by omega) 
  have Qt3 : V' (t + 3) = V (t + 3) := r (t + 3) (by omega) (by omega) 
  have Qt4 : V' (t + 4) = V (t + 4) := r (t + 4) (by omega) (by omega) 
  have Qt5 : V' (t + 5) = V (t + 5) := r (t + 5) (by omega) (by omega) 
  have Qt6 : V' (t + 6) = V (t + 6) := r (t + 6) (by omega) (by omega) 
  have Qt7 : V' (t + 7) = V (t + 7) := r (t + 7) (by omega) (by omega) 
  have Qt8 : V' (t + 8) = V (t + 8) := r (t + 8) (by omega) (by omega) 
  have Qt9 : V' (t + 9) = V (t + 9) := r (t + 9) (by omega) (by omega) 
  have Qt10 : V' (t + 10) = V (t + 10) := r (t + 10) (by omega) (by omega) 
  have Qt11 : V' (t + 11) = V (t + 11) := r (t + 11) (by omega) (by omega) 
  have Qt12 : V' (t + 12) = V (t + 12) := r (t + 12) (by omega) (by omega) 
  have Qt13 : V' (t + 13) = V (t + 13) := r (t + 13) (by omega) (by omega) 
  have Qt15 : V' (t + 15) = V (t + 15) := r (t + 15) (by omega) (by omega) 
  have Qt16 : V' (t + 16) = V (t + 16) := r (t + 16) (by omega) (by omega) 
  have Qt17 : V' (t + 17) = V (t + 17) := r (t + 17) (by omega) (by omega) 
  have Qt18 : V' (t + 18) = V (t + 18) := r (t + 18) (by omega) (by omega) 
  have Qt19 : V' (t + 19) = V (t + 19) := r (t + 19) (by omega) (by omega) 
  have hw := cg_way Q100 Q101 Q102
  have hs0 := cg_st0 Q100 Q101
  have hla := cg_lamp Q109 Q110 Q111
  refine ⟨⟨ht, ⟨⟨?_, ?_⟩, ⟨?_, ?_⟩, ⟨?_, ?_⟩, ⟨?_, ?_⟩, ⟨?_, ?_⟩, ?_, ?_⟩, ?_, ?_⟩, ⟨?_, ?_, ?_, ?_, ?_, ?_⟩, ?_, ?_, ?_, ?_, ?_, ?_, ?_, ?_, ?_, ?_, ?_, ?_, ?_, ?_, ?_, ?_, ?_, ?_, ?_, ?_⟩
  · rw [eH, N0]; exact b0
  · rw [eH]; exact b0'
  · rw [eS, N1]; exact b1
  · rw [eS]; exact b1'
  · rw [eZ, N2]; exact b2
  · rw [eZ]; exact b2'
  · rw [eL, N3]; exact b3
  · rw [eL]; exact b3'
  · rw [eA, N4]; exact b4
  · rw [eA]; exact b4'
  · rw [eZ, eH, Q104]; exact b5
  · exact cg_lok Q112 Q113 Q114 Q115 b6
  · unfold st_ok; rw [eS, eH, hs0, Q100, Q101, Q102]; exact hst
  · unfold m_okL; rw [eL, eZ, Q107]; exact hokL
  · rw [T0, N0]; exact e0
  · rw [T1, N1]; exact e1
  · rw [T2, N2]; exact e2
  · rw [T3, N3]; exact e3
  · rw [T4, N4]; exact e4
  · rw [T6, N5]; exact e6
  · rw [eH, T5, Q98]; exact ecat
  · rw [eH, Qt1, Q96]; exact ehn
  · rw [eZ, Qt2, Q103]; exact esn
  · rw [eS, Qt3, Q100, Q101]; exact ese
  · rw [eS, Qt4, hw]; exact ewy
  · rw [eZ, eH, Qt6, Qt7, Qt8, Q104, Q105, Q106]; exact esl
  · rw [eL, eH, Qt9, Qt10, Q107, Q108]; exact ele
  · rw [eL, Qt11, Q108]; exact ema
  · rw [eA, Qt12, hla]; exact ela
  · rw [eH, Qt13, Q97]
    intro h hh
    by_cases e : h = h0
    · subst e
      obtain ⟨g1, g2, g3, g4⟩ := ebe h hh
      rw [y1, z0]
      exact ⟨g1, rfl, g3, ⟨k, hk9, rfl⟩⟩
    · rw [y2 h e, z1 h e]; exact ebe h hh
  · exact cg_lwr Q112 Q113 Q114 Q115 Qt16 Qt17 Qt18 elw
  · exact cg_used Q112 Q113 Q114 Q115 Qt19 eus
  · rw [Qt15, N6]; exact ekn
  · exact cg_ro Q2001 Q2002 ero
  · unfold lok; rw [eA, eH, Q109, Q110, Q111]; exact elk
  · rw [eH, Qt13, T5]
    intro h hh h8
    rw [y2 h (by omega)]; exact eun h hh h8
  · rw [Qt15, N6]; exact ewr
  · rw [eK, N6]; exact ekk
  · rw [eK]; exact ek64
  · rw [eK, Q113]; exact ek3
theorem tp_cat (h : t_pre V t) (r : ∀ a, a ≠ 98 → a ≠ t → V' a = V a) (tk : ∀ k, k ≠ 5 → V' t k = V t k) 
    (hh0 : h0 < m_nH V) (y1 : V' t 5 = V t 5 ||| am_pw h0) (z0 : V' 98 h0 = nI 1) (z1 : ∀ j, j ≠ h0 → V' 98 j = V 98 j) : t_pre V' t := by
  obtain ⟨⟨ht, ⟨⟨b0, b0'⟩, ⟨b1, b1'⟩, ⟨b2, b2'⟩, ⟨b3, b3'⟩, ⟨b4, b4'⟩, b5, b6⟩, hst, hokL⟩, ⟨e0, e1, e2, e3, e4, e6⟩, ecat, ehn, esn, ese, ewy, esl, ele, ema, ela, ebe, elw, eus, ekn, ero, elk, eun, ewr, ekk, ek64, ek3⟩ := h
  have N0 : V' 95 0 = V 95 0 := by rw [r 95 (by omega) (by omega) ]
  have T0 : V' t 0 = V t 0 := tk 0 (by omega)
  have N1 : V' 95 1 = V 95 1 := by rw [r 95 (by omega) (by omega) ]
  have T1 : V' t 1 = V t 1 := tk 1 (by omega)
  have N2 : V' 95 2 = V 95 2 := by rw [r 95 (by omega) (by omega) ]
  have T2 : V' t 2 = V t 2 := tk 2 (by omega)
  have N3 : V' 95 3 = V 95 3 := by rw [r 95 (by omega) (by omega) ]
  have T3 : V' t 3 = V t 3 := tk 3 (by omega)
  have N4 : V' 95 4 = V 95 4 := by rw [r 95 (by omega) (by omega) ]
  have T4 : V' t 4 = V t 4 := tk 4 (by omega)
  have N5 : V' 95 5 = V 95 5 := by rw [r 95 (by omega) (by omega) ]
  have N6 : V' 95 6 = V 95 6 := by rw [r 95 (by omega) (by omega) ]
  have T6 : V' t 6 = V t 6 := tk 6 (by omega)
  have eH : m_nH V' = m_nH V := by unfold m_nH; rw [N0]
  have eS : m_nS V' = m_nS V := by unfold m_nS; rw [N1]
  have eZ : m_nZ V' = m_nZ V := by unfold m_nZ; rw [N2]
  have eL : m_nL V' = m_nL V := by unfold m_nL; rw [N3]
  have eA : m_nA V' = m_nA V := by unfold m_nA; rw [N4]
  have eK : m_kn V' = m_kn V := by unfold m_kn; rw [N6]
  have Q96 : V' 96 = V 96 := r 96 (by omega) (by omega) 
  have Q97 : V' 97 = V 97 := r 97 (by omega) (by omega) 
  have Q99 : V' 99 = V 99 := r 99 (by omega) (by omega) 
  have Q100 : V' 100 = V 100 := r 100 (by omega) (by omega) 
  have Q101 : V' 101 = V 101 := r 101 (by omega) (by omega) 
  have Q102 : V' 102 = V 102 := r 102 (by omega) (by omega) 
  have Q103 : V' 103 = V 103 := r 103 (by omega) (by omega) 
  have Q104 : V' 104 = V 104 := r 104 (by omega) (by omega) 
  have Q105 : V' 105 = V 105 := r 105 (by omega) (by omega) 
  have Q106 : V' 106 = V 106 := r 106 (by omega) (by omega) 
  have Q107 : V' 107 = V 107 := r 107 (by omega) (by omega) 
  have Q108 : V' 108 = V 108 := r 108 (by omega) (by omega) 
  have Q109 : V' 109 = V 109 := r 109 (by omega) (by omega) 
  have Q110 : V' 110 = V 110 := r 110 (by omega) (by omega) 
  have Q111 : V' 111 = V 111 := r 111 (by omega) (by omega) 
  have Q112 : V' 112 = V 112 := r 112 (by omega) (by omega) 
  have Q113 : V' 113 = V 113 := r 113 (by omega) (by omega) 
  have Q114 : V' 114 = V 114 := r 114 (by omega) (by omega) 
  have Q115 : V' 115 = V 115 := r 115 (by omega) (by omega) 
  have Q2001 : V' 2001 = V 2001 := r 2001 (by omega) (by omega) 
  have Q2002 : V' 2002 = V 2002 := r 2002 (by omega) (by omega) 
  have Qt1 : V' (t + 1) = V (t + 1) := r (t + 1) (by omega) (by omega) 
  have Qt2 : V' (t + 2) = V (t + 2) := r (t + 2) (by omega) (by omega) 
  have Qt3 : V' (t + 3) = V (t + 3) := r (t + 3) (by omega) (by omega) 
  have Qt4 : V' (t + 4) = V (t + 4) := r (t + 4) (by omega) (by omega) 
  have Qt5 : V' (t + 5) = V (t + 5) := r (t + 5) (by omega) (by omega) 
  have Qt6 : V' (t + 6) = V (t + 6) := r (t + 6) (by omega) (by omega) 
  have Qt7 : V' (t + 7) = V (t + 7) := r (t + 7) (by omega) (by omega) 
  have Qt8 : V' (t + 8) = V (t + 8) := r (t + 8) (by omega) (by omega) 
  have Qt9 : V' (t + 9) = V (t + 9) := r (t + 9) (by omega) (by omega) 
  have Qt10 : V' (t + 10) = V (t + 10) := r (t + 10) (by omega) (by omega) 
  have Qt11 : V' (t + 11) = V (t + 11) := r (t + 11) (by omega) (by omega) 
  have Qt12 : V' (t + 12) = V (t + 12) := r (t + 12) (by omega) (by omega) 
  have Qt13 : V' (t + 13) = V (t + 13) := r (t + 13) (by omega) (by omega) 
  have Qt14 : V' (t + 14) = V (t + 14) := r (t + 14) (by omega) (by omega) 
  have Qt15 : V' (t + 15) = V (t + 15) := r (t + 15) (by omega) (by omega) 
  have Qt16 : V' (t + 16) = V (t + 16) := r (t + 16) (by omega) (by omega) 
  have Qt17 : V' (t + 17) = V (t + 17) := r (t + 17) (by omega) (by omega) 
  have Qt18 : V' (t + 18) = V (t + 18) := r (t + 18) (by omega) (by omega) 
  have Qt19 : V' (t + 19) = V (t + 19) := r (t + 19) (by omega) (by omega) 
  have hw := cg_way Q100 Q101 Q102
  have hs0 := cg_st0 Q100 Q101
  have hla := cg_lamp Q109 Q110 Q111
  have h8 := b0'
  refine ⟨⟨ht, ⟨⟨?_, ?_⟩, ⟨?_, ?_⟩, ⟨?_, ?_⟩, ⟨?_, ?_⟩, ⟨?_, ?_⟩, ?_, ?_⟩, ?_, ?_⟩, ⟨?_, ?_, ?_, ?_, ?_, ?_⟩, ?_, ?_, ?_, ?_, ?_, ?_, ?_, ?_, ?_, ?_, ?_, ?_, ?_, ?_, ?_, ?_, ?_, ?_, ?_, ?_⟩
  · rw [eH, N0]; exact b0
  · rw [eH]; exact b0'
  · rw [eS, N1]; exact b1
  · rw [eS]; exact b1'
  · rw [eZ, N2]; exact b2
  · rw [eZ]; exact b2'
  · rw [eL, N3]; exact b3
  · rw [eL]; exact b3'
  · rw [eA, N4]; exact b4
  · rw [eA]; exact b4'
  · rw [eZ, eH, Q104]; exact b5
  · exact cg_lok Q112 Q113 Q114 Q115 b6
  · unfold st_ok; rw [eS, eH, hs0, Q100, Q101, Q102]; exact hst
  · unfold m_okL; rw [eL, eZ, Q107]; exact hokL
  · rw [T0, N0]; exact e0
  · rw [T1, N1]; exact e1
  · rw [T2, N2]; exact e2
  · rw [T3, N3]; exact e3
  · rw [T4, N4]; exact e4
  · rw [T6, N5]; exact e6
  · rw [eH, y1]
    intro h hh
    rw [b_or, b_pw (by omega) (by omega)]
    by_cases e : h = h0
    · subst e
      rw [z0, decide_eq_true (show h = h from rfl), Bool.or_true]; rfl
    · rw [z1 h e, decide_eq_false e, Bool.or_false]; exact ecat h hh
  · rw [eH, Qt1, Q96]; exact ehn
  · rw [eZ, Qt2, Q103]; exact esn
  · rw [eS, Qt3, Q100, Q101]; exact ese
  · rw [eS, Qt4, hw]; exact ewy
  · rw [eZ, eH, Qt6, Qt7, Qt8, Q104, Q105, Q106]; exact esl
  · rw [eL, eH, Qt9, Qt10, Q107, Q108]; exact ele
  · rw [eL, Qt11, Q108]; exact ema
  · rw [eA, Qt12, hla]; exact ela
  · rw [eH, Qt13, Qt14, Q97, Q99]; exact ebe
  · exact cg_lwr Q112 Q113 Q114 Q115 Qt16 Qt17 Qt18 elw
  · exact cg_used Q112 Q113 Q114 Q115 Qt19 eus
  · rw [Qt15, N6]; exact ekn
  · exact cg_ro Q2001 Q2002 ero
  · unfold lok; rw [eA, eH, Q109, Q110, Q111]; exact elk
  · rw [eH, Qt13, Qt14, y1]
    intro h hh h8
    obtain ⟨g1, g2, g3⟩ := eun h hh h8
    refine ⟨g1, g2, ?_⟩
    rw [b_or, b_pw (by omega) (by omega), g3, decide_eq_false (by omega)]; rfl
  · rw [Qt15, N6]; exact ewr
  · rw [eK, N6]; exact ekk
  · rw [eK]; exact ek64
  · rw [eK, Q113]; exact ek3
theorem tp_seed (h : t_pre V t) (r : ∀ a, a ≠ t → a ≠ 95 → V' a = V a) (tk : ∀ k, k ≠ 6 → V' t k = V t k) (nk : ∀ k, k ≠ 5 → V' 95 k = V 95 k)
    (t6 : V' t 6 = V' 95 5) : t_pre V' t := by
  obtain ⟨⟨ht, ⟨⟨b0, b0'⟩, ⟨b1, b1'⟩, ⟨b2, b2'⟩, ⟨b3, b3'⟩, ⟨b4, b4'⟩, b5, b6⟩, hst, hokL⟩, ⟨e0, e1, e2, e3, e4, e6⟩, ecat, ehn, esn, ese, ewy, esl, ele, ema, ela, ebe, elw, eus, ekn, ero, elk, eun, ewr, ekk, ek64, ek3⟩ := h
  have N0 : V' 95 0 = V 95 0 := nk 0 (by omega)
  have T0 : V' t 0 = V t 0 := tk 0 (by omega)
  have N1 : V' 95 1 = V 95 1 := nk 1 (by omega)
  have T1 : V' t 1 = V t 1 := tk 1 (by omega)
  have N2 : V' 95 2 = V 95 2 := nk 2 (by omega)
  have T2 : V' t 2 = V t 2 := tk 2 (by omega)
  have N3 : V' 95 3 = V 95 3 := nk 3 (by omega)
  have T3 : V' t 3 = V t 3 := tk 3 (by omega)
  have N4 : V' 95 4 = V 95 4 := nk 4 (by omega)
  have T4 : V' t 4 = V t 4 := tk 4 (by omega)
  have T5 : V' t 5 = V t 5 := tk 5 (by omega)
  have N6 : V' 95 6 = V 95 6 := nk 6 (by omega)
  have eH : m_nH V' = m_nH V := by unfold m_nH; rw [N0]
  have eS : m_nS V' = m_nS V := by unfold m_nS; rw [N1]
  have eZ : m_nZ V' = m_nZ V := by unfold m_nZ; rw [N2]
  have eL : m_nL V' = m_nL V := by unfold m_nL; rw [N3]
  have eA : m_nA V' = m_nA V := by unfold m_nA; rw [N4]
  have eK : m_kn V' = m_kn V := by unfold m_kn; rw [N6]
  have Q96 : V' 96 = V 96 := r 96 (by omega) (by omega) 
  have Q97 : V' 97 = V 97 := r 97 (by omega) (by omega) 
  have Q98 : V' 98 = V 98 := r 98 (by omega) (by omega) 
  have Q99 : V' 99 = V 99 := r 99 (by omega) (by omega) 
  have Q100 : V' 100 = V 100 := r 100 (by omega) (by omega) 
  have Q101 : V' 101 = V 101 := r 101 (by omega) (by omega) 
  have Q102 : V' 102 = V 102 := r 102 (by omega) (by omega) 
  have Q103 : V' 103 = V 103 := r 103 (by omega) (by omega) 
  have Q104 : V' 104 = V 104 := r 104 (by omega) (by omega) 
  have Q105 : V' 105 = V 105 := r 105 (by omega) (by omega) 
  have Q106 : V' 106 = V 106 := r 106 (by omega) (by omega) 
  have Q107 : V' 107 = V 107 := r 107 (by omega) (by omega) 
  have Q108 : V' 108 = V 108 := r 108 (by omega) (by omega) 
  have Q109 : V' 109 = V 109 := r 109 (by omega) (by omega) 
  have Q110 : V' 110 = V 110 := r 110 (by omega) (by omega) 
  have Q111 : V' 111 = V 111 := r 111 (by omega) (by omega) 
  have Q112 : V' 112 = V 112 := r 112 (by omega) (by omega) 
  have Q113 : V' 113 = V 113 := r 113 (by omega) (by omega) 
  have Q114 : V' 114 = V 114 := r 114 (by omega) (by omega) 
  have Q115 : V' 115 = V 115 := r 115 (by omega) (by omega) 
  have Q2001 : V' 2001 = V 2001 := r 2001 (by omega) (by omega) 
  have Q2002 : V' 2002 = V 2002 := r 2002 (by omega) (by omega) 
  have Qt1 : V' (t + 1) = V (t + 1) := r (t + 1) (by omega) (by omega) 
  have Qt2 : V' (t + 2) = V (t + 2) := r (t + 2) (by omega) (by omega) 
  have Qt3 : V' (t + 3) = V (t + 3) := r (t + 3) (by omega) (by omega) 
  have Qt4 : V' (t + 4) = V (t + 4) := r (t + 4) (by omega) (by omega) 
  have Qt5 : V' (t + 5) = V (t + 5) := r (t + 5) (by omega) (by omega) 
  have Qt6 : V' (t + 6) = V (t + 6) := r (t + 6) (by omega) (by omega) 
  have Qt7 : V' (t + 7) = V (t + 7) := r (t + 7) (by omega) (by omega) 
  have Qt8 : V' (t + 8) = V (t + 8) := r (t + 8) (by omega) (by omega) 
  have Qt9 : V' (t + 9) = V (t + 9) := r (t + 9) (by omega) (by omega) 
  have Qt10 : V' (t + 10) = V (t + 10) := r (t + 10) (by omega) (by omega) 
  have Qt11 : V' (t + 11) = V (t + 11) := r (t + 11) (by omega) (by omega) 
  have Qt12 : V' (t + 12) = V (t + 12) := r (t + 12) (by omega) (by omega) 
  have Qt13 : V' (t + 13) = V (t + 13) := r (t + 13) (by omega) (by omega) 
  have Qt14 : V' (t + 14) = V (t + 14) := r (t + 14) (by omega) (by omega) 
  have Qt15 : V' (t + 15) = V (t + 15) := r (t + 15) (by omega) (by omega) 
  have Qt16 : V' (t + 16) = V (t + 16) := r (t + 16) (by omega) (by omega) 
  have Qt17 : V' (t + 17) = V (t + 17) := r (t + 17) (by omega) (by omega) 
  have Qt18 : V' (t + 18) = V (t + 18) := r (t + 18) (by omega) (by omega) 
  have Qt19 : V' (t + 19) = V (t + 19) := r (t + 19) (by omega) (by omega) 
  have hw := cg_way Q100 Q101 Q102
  have hs0 := cg_st0 Q100 Q101
  have hla := cg_lamp Q109 Q110 Q111
  refine ⟨⟨ht, ⟨⟨?_, ?_⟩, ⟨?_, ?_⟩, ⟨?_, ?_⟩, ⟨?_, ?_⟩, ⟨?_, ?_⟩, ?_, ?_⟩, ?_, ?_⟩, ⟨?_, ?_, ?_, ?_, ?_, ?_⟩, ?_, ?_, ?_, ?_, ?_, ?_, ?_, ?_, ?_, ?_, ?_, ?_, ?_, ?_, ?_, ?_, ?_, ?_, ?_, ?_⟩
  · rw [eH, N0]; exact b0
  · rw [eH]; exact b0'
  · rw [eS, N1]; exact b1
  · rw [eS]; exact b1'
  · rw [eZ, N2]; exact b2
  · rw [eZ]; exact b2'
  · rw [eL, N3]; exact b3
  · rw [eL]; exact b3'
  · rw [eA, N4]; exact b4
  · rw [eA]; exact b4'
  · rw [eZ, eH, Q104]; exact b5
  · exact cg_lok Q112 Q113 Q114 Q115 b6
  · unfold st_ok; rw [eS, eH, hs0, Q100, Q101, Q102]; exact hst
  · unfold m_okL; rw [eL, eZ, Q107]; exact hokL
  · rw [T0, N0]; exact e0
  · rw [T1, N1]; exact e1
  · rw [T2, N2]; exact e2
  · rw [T3, N3]; exact e3
  · rw [T4, N4]; exact e4
  · exact t6
  · rw [eH, T5, Q98]; exact ecat
  · rw [eH, Qt1, Q96]; exact ehn
  · rw [eZ, Qt2, Q103]; exact esn
  · rw [eS, Qt3, Q100, Q101]; exact ese
  · rw [eS, Qt4, hw]; exact ewy
  · rw [eZ, eH, Qt6, Qt7, Qt8, Q104, Q105, Q106]; exact esl
  · rw [eL, eH, Qt9, Qt10, Q107, Q108]; exact ele
  · rw [eL, Qt11, Q108]; exact ema
  · rw [eA, Qt12, hla]; exact ela
  · rw [eH, Qt13, Qt14, Q97, Q99]; exact ebe
  · exact cg_lwr Q112 Q113 Q114 Q115 Qt16 Qt17 Qt18 elw
  · exact cg_used Q112 Q113 Q114 Q115 Qt19 eus
  · rw [Qt15, N6]; exact ekn
  · exact cg_ro Q2001 Q2002 ero
  · unfold lok; rw [eA, eH, Q109, Q110, Q111]; exact elk
  · rw [eH, Qt13, Qt14, T5]; exact eun
  · rw [Qt15, N6]; exact ewr
  · rw [eK, N6]; exact ekk
  · rw [eK]; exact ek64
  · rw [eK, Q113]; exact ek3
end
