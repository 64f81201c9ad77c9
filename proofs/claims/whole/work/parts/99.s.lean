/-! ===== L3: a town that is being told ===== -/
def lok (V : Nat → Nat → Int32) : Prop := ∀ a, a < m_nA V → ∃ h fr to, h < m_nH V ∧ fr ≤ to ∧ to ≤ 11 ∧ V 109 a = nI h ∧ V 110 a = nI fr ∧ V 111 a = nI to
def m_kn (V : Nat → Nat → Int32) : Nat := (V 95 6).toNatClampNeg
def t_pre (V : Nat → Nat → Int32) (t : Nat) : Prop :=
  ((t = 3 ∨ t = 23) ∧ m_ok V ∧ st_ok V ∧ m_okL V) ∧
  (V t 0 = V 95 0 ∧ V t 1 = V 95 1 ∧ V t 2 = V 95 2 ∧ V t 3 = V 95 3 ∧ V t 4 = V 95 4 ∧ V t 6 = V 95 5) ∧
  (∀ h, h < m_nH V → V 98 h = nI (bt (V t 5) h).toNat) ∧
  (∀ h, h < m_nH V → V (t + 1) h = V 96 h) ∧ (∀ s, s < m_nZ V → V (t + 2) s = V 103 s) ∧
  (∀ l, l < m_nS V → V (t + 3) l = nI 8 * V 100 l + V 101 l) ∧
  (∀ a b, a < 8 → b < 8 → V (t + 4) (8 * a + b) = wayP V (fun _ => false) (m_nS V) a b) ∧
  (∀ s, s < m_nZ V → V (t + 6) s = V 104 s ∧ V (t + 7) s = V 105 s ∧ V (t + 8) s = V 106 s ∧ (∃ k, k ≤ 9 ∧ V 105 s = nI k) ∧ ∃ h, h < m_nH V ∧ V 106 s = nI h) ∧
  (∀ l, l < m_nL V → V (t + 9) l = V 107 l ∧ V (t + 10) l = V 108 l ∧ ∃ h, h < m_nH V ∧ V 108 l = nI h) ∧
  (∀ h, h < 8 → ∀ l, l < 32 → bt (V (t + 11) h) l = decide (l < m_nL V ∧ V 108 l = nI h)) ∧
  (∀ h, h < 8 → ∀ hr, hr < 12 → bt (V (t + 12) h) hr = m_lamp V (m_nA V) (nI h) (nI hr)) ∧
  (∀ h, h < m_nH V → V (t + 13) h = V 97 h ∧ V (t + 14) h = V 99 h ∧ (∃ k, k ≤ 9 ∧ V 97 h = nI k) ∧ ∃ k, k ≤ 9 ∧ V 99 h = nI k) ∧
  c_lwr V V (t + 15) ∧ c_used V V (t + 15) ∧ V (t + 15) 0 = V 95 6 ∧ c_ro V ∧
  lok V ∧ (∀ h, m_nH V ≤ h → h < 8 → V (t + 13) h = nI 0 ∧ V (t + 14) h = nI 0 ∧ bt (V t 5) h = false) ∧ V (t + 15) 1 = V 95 6 ∧ (V 95 6 = nI (m_kn V) ∧ m_kn V ≤ 64 ∧ ∀ k, k < 3 → (V 113 k).toNatClampNeg ≤ m_kn V)
section
variable {V V' : Nat → Nat → Int32} {t m : Nat}
theorem cg_way (h0 : V' 100 = V 100) (h1 : V' 101 = V 101) (h2 : V' 102 = V 102) : wayP V' = wayP V := by
  funext p n a b
  unfold wayP
  have : st0 V' = st0 V := by funext a b l; unfold st0; rw [h0, h1]
  rw [this, h2]
theorem cg_st0 (h0 : V' 100 = V 100) (h1 : V' 101 = V 101) : st0 V' = st0 V := by funext a b l; unfold st0; rw [h0, h1]
theorem cg_lamp (h0 : V' 109 = V 109) (h1 : V' 110 = V 110) (h2 : V' 111 = V 111) : m_lamp V' = m_lamp V := by
  funext n a b; unfold m_lamp
  have : m_lampH V' = m_lampH V := by funext a b l; unfold m_lampH; rw [h0, h1, h2]
  rw [this]
theorem cg_lok (h0 : V' 112 = V 112) (h1 : V' 113 = V 113) (h2 : V' 114 = V 114) (h3 : V' 115 = V 115) (k : m_lok V) : m_lok V' := by unfold m_lok; rw [h0, h1, h2, h3]; exact k
theorem cg_lwr {q : Nat} (h0 : V' 112 = V 112) (h1 : V' 113 = V 113) (h2 : V' 114 = V 114) (h3 : V' 115 = V 115) (g1 : V' (q + 1) = V (q + 1)) (g2 : V' (q + 2) = V (q + 2)) (g3 : V' (q + 3) = V (q + 3)) (k : c_lwr V V q) : c_lwr V' V' q := by
  unfold c_lwr; rw [h0, h1, h2, h3, g1, g2, g3]; exact k
theorem cg_used {q : Nat} (h0 : V' 112 = V 112) (h1 : V' 113 = V 113) (h2 : V' 114 = V 114) (h3 : V' 115 = V 115) (g4 : V' (q + 4) = V (q + 4)) (k : c_used V V q) : c_used V' V' q := by
  unfold c_used; rw [h0, h1, h2, h3, g4]; exact k
theorem cg_ro (h0 : V' 2001 = V 2001) (h1 : V' 2002 = V 2002) (k : c_ro V) : c_ro V' := by unfold c_ro; rw [h0, h1]; exact k
theorem nN_of {a k : Nat} (h : V 95 a = nI k) (hk : k < 2 ^ 31) : (V 95 a).toNatClampNeg = k := by rw [h, nI_clamp hk]
/-- a house more -/
theorem tp_house (h : t_pre V t) (hm : m_nH V = m) (hm8 : m < 8) (r : ∀ a, a ≠ t → a ≠ t + 1 → a ≠ 95 → a ≠ 96 → a ≠ 97 → a ≠ 98 → a ≠ 99 → V' a = V a)
    (t0 : V' t 0 = nI (m + 1)) (tk : ∀ k, k ≠ 0 → V' t k = V t k) (n0 : V' 95 0 = nI (m + 1)) (nk : ∀ k, k ≠ 0 → V' 95 k = V 95 k)
    (x1 : V' (t + 1) m = V' 96 m) (x2 : ∀ k, k ≠ m → V' (t + 1) k = V (t + 1) k ∧ V' 96 k = V 96 k) (x3 : V' 97 m = nI 0 ∧ V' 98 m = nI 0 ∧ V' 99 m = nI 0) (x4 : ∀ k, k ≠ m → V' 97 k = V 97 k ∧ V' 98 k = V 98 k ∧ V' 99 k = V 99 k) : t_pre V' t := by
  obtain ⟨⟨ht, ⟨⟨b0, b0'⟩, ⟨b1, b1'⟩, ⟨b2, b2'⟩, ⟨b3, b3'⟩, ⟨b4, b4'⟩, b5, b6⟩, hst, hokL⟩, ⟨e0, e1, e2, e3, e4, e6⟩, ecat, ehn, esn, ese, ewy, esl, ele, ema, ela, ebe, elw, eus, ekn, ero, elk, eun, ewr, ekk, ek64, ek3⟩ := h
  have eH : m_nH V' = m + 1 := nN_of n0 (by omega)
  have eS : m_nS V' = m_nS V := by unfold m_nS; rw [nk 1 (by omega)]
  have eZ : m_nZ V' = m_nZ V := by unfold m_nZ; rw [nk 2 (by omega)]
  have eL : m_nL V' = m_nL V := by unfold m_nL; rw [nk 3 (by omega)]
  have eA : m_nA V' = m_nA V := by unfold m_nA; rw [nk 4 (by omega)]
  have eK : m_kn V' = m_kn V := by unfold m_kn; rw [nk 6 (by omega)]
  have R : ∀ a, (99 < a ∨ (t + 1 < a ∧ a < 95)) → V' a = V a := fun a g => r a (by omega) (by omega) (by omega) (by omega) (by omega) (by omega) (by omega)
  have hw := cg_way (R 100 (by omega)) (R 101 (by omega)) (R 102 (by omega))
  have hs0 := cg_st0 (R 100 (by omega)) (R 101 (by omega))
  have hla := cg_lamp (R 109 (by omega)) (R 110 (by omega)) (R 111 (by omega))
  refine ⟨⟨ht, ⟨⟨?_, ?_⟩, ⟨?_, ?_⟩, ⟨?_, ?_⟩, ⟨?_, ?_⟩, ⟨?_, ?_⟩, ?_, ?_⟩, ?_, ?_⟩, ⟨?_, ?_, ?_, ?_, ?_, ?_⟩, ?_, ?_, ?_, ?_, ?_, ?_, ?_, ?_, ?_, ?_, ?_, ?_, ?_, ?_, ?_, ?_, ?_, ?_, ?_, ?_⟩
  · rw [eH]; exact n0
  · rw [eH]; omega
  · rw [eS, nk 1 (by omega)]; exact b1
  · rw [eS]; exact b1'
  · rw [eZ, nk 2 (by omega)]; exact b2
  · rw [eZ]; exact b2'
  · rw [eL, nk 3 (by omega)]; exact b3
  · rw [eL]; exact b3'
  · rw [eA, nk 4 (by omega)]; exact b4
  · rw [eA]; exact b4'
  · rw [eZ, eH, R 104 (by omega)]
    intro s hs
    obtain ⟨x, hx, e⟩ := b5 s hs
    exact ⟨x, by omega, e⟩
  · exact cg_lok (R 112 (by omega)) (R 113 (by omega)) (R 114 (by omega)) (R 115 (by omega)) b6
  · unfold st_ok
    rw [eS, eH, hs0, R 100 (by omega), R 101 (by omega), R 102 (by omega)]
    refine ⟨fun l hl => ?_, hst.2⟩
    obtain ⟨a, b, c, g1, g2, g3⟩ := hst.1 l hl
    exact ⟨a, b, c, by omega, by omega, g3⟩
  · unfold m_okL
    rw [eL, eZ, R 107 (by omega)]; exact hokL
  · rw [t0, n0]
  · rw [tk 1 (by omega), nk 1 (by omega)]; exact e1
  · rw [tk 2 (by omega), nk 2 (by omega)]; exact e2
  · rw [tk 3 (by omega), nk 3 (by omega)]; exact e3
  · rw [tk 4 (by omega), nk 4 (by omega)]; exact e4
  · rw [tk 6 (by omega), nk 5 (by omega)]; exact e6
  · rw [eH, tk 5 (by omega)]
    intro x hx
    by_cases e : x = m
    · subst e
      rw [x3.2.1, (eun x (by omega) hm8).2.2]; rfl
    · rw [(x4 x e).2.1]; exact ecat x (by omega)
  · rw [eH]
    intro x hx
    by_cases e : x = m
    · subst e; exact x1
    · rw [(x2 x e).1, (x2 x e).2]; exact ehn x (by omega)
  · rw [eZ, R (t + 2) (by omega), R 103 (by omega)]; exact esn
  · rw [eS, R (t + 3) (by omega), R 100 (by omega), R 101 (by omega)]; exact ese
  · rw [eS, R (t + 4) (by omega), hw]; exact ewy
  · rw [eZ, eH, R (t + 6) (by omega), R (t + 7) (by omega), R (t + 8) (by omega), R 104 (by omega), R 105 (by omega), R 106 (by omega)]
    intro s hs
    obtain ⟨g1, g2, g3, g4, x, hx, g5⟩ := esl s hs
    exact ⟨g1, g2, g3, g4, x, by omega, g5⟩
  · rw [eL, eH, R (t + 9) (by omega), R (t + 10) (by omega), R 107 (by omega), R 108 (by omega)]
    intro l hl
    obtain ⟨g1, g2, x, hx, g5⟩ := ele l hl
    exact ⟨g1, g2, x, by omega, g5⟩
  · rw [eL, R (t + 11) (by omega), R 108 (by omega)]; exact ema
  · rw [eA, R (t + 12) (by omega), hla]; exact ela
  · rw [eH, R (t + 13) (by omega), R (t + 14) (by omega)]
    intro x hx
    by_cases e : x = m
    · subst e
      rw [x3.1, x3.2.2]
      have := eun x (by omega) hm8
      exact ⟨this.1, this.2.1, ⟨0, by omega, rfl⟩, ⟨0, by omega, rfl⟩⟩
    · rw [(x4 x e).1, (x4 x e).2.2]; exact ebe x (by omega)
  · exact cg_lwr (R 112 (by omega)) (R 113 (by omega)) (R 114 (by omega)) (R 115 (by omega)) (R _ (by omega)) (R _ (by omega)) (R _ (by omega)) elw
  · exact cg_used (R 112 (by omega)) (R 113 (by omega)) (R 114 (by omega)) (R 115 (by omega)) (R _ (by omega)) eus
  · rw [R (t + 15) (by omega), nk 6 (by omega)]; exact ekn
  · exact cg_ro (R _ (by omega)) (R _ (by omega)) ero
  · unfold lok
    rw [eA, eH, R 109 (by omega), R 110 (by omega), R 111 (by omega)]
    intro a ha
    obtain ⟨x, fr, to, g1, g2⟩ := elk a ha
    exact ⟨x, fr, to, by omega, g2⟩
  · rw [eH, R (t + 13) (by omega), R (t + 14) (by omega), tk 5 (by omega)]
    intro x hx; exact eun x (by omega)
  · rw [R (t + 15) (by omega), nk 6 (by omega)]; exact ewr
  · rw [eK, nk 6 (by omega)]; exact ekk
  · rw [eK]; exact ek64
  · rw [eK, R 113 (by omega)]; exact ek3
end
