/-! ===== L3: a law told keeps the town (by mktp.py) ===== -/
def sgx (k : Nat) : Nat := if k = 17 then 262 else if k = 18 then 261 else if k = 19 then 260 else sgc k
def cso (x : Nat) : Nat := if x ≤ 9999 then 0 else if 10020 ≤ x ∧ x < 10027 then 1 else 2
def cva (x : Nat) : Nat := if x ≤ 9999 then x else if 10020 ≤ x ∧ x < 10027 then x - 10020 else sgx (x - 10000)
def mwl (Z : Nat → Nat → Int32) (st : Nat) : List Nat → Prop
  | [] => True
  | x :: R => (Z 114 (st + R.length) = nI (cso x) ∧ Z 115 (st + R.length) = nI (cva x)) ∧ mwl Z st R
theorem sgx_t : ∀ k, k < 40 → (k = 17 ∨ k = 18 ∨ k = 19 ∨ 30 ≤ k) → lw_kd (sgx k) = k ∧ sgx k < 300 ∧ (sgx k = 260 ↔ k = 19) := by decide +kernel
theorem sgx_s : ∀ k, k < 40 → (k = 17 ∨ k = 18 ∨ k = 19 ∨ 30 ≤ k) → sgx k = 262 ∨ sgx k = 261 ∨ sgx k = 43 ∨ sgx k = 45 ∨ sgx k = 42 ∨ sgx k = 47 ∨ sgx k = 60 ∨ sgx k = 256 ∨ sgx k = 61 ∨ sgx k = 257 ∨ sgx k = 258 ∨ sgx k = 62 ∨ sgx k = 260 := by decide +kernel
theorem nmk_t : ∀ j, j < 7 → ∀ p, p < 32 → bt (nI (lw_mk j) <<< (nI (lw_sh j) &&& nI 31)) p = decide (p < 30 ∧ lw_nb p = j) := by decide +kernel
theorem lw_nb_lt (p : Nat) : lw_nb p < 8 := by unfold lw_nb; split; omega; split; omega; split; omega; split; omega; split; omega; split; omega; split <;> omega
theorem lw_ok_c {so va so' va' : Nat → Int32} : ∀ {c i k : Nat}, (∀ j, i ≤ j → j < i + c → so' j = so j ∧ va' j = va j) → lw_ok so va c i k → lw_ok so' va' c i k
  | 0, i, k, _, h => h
  | c + 1, i, k, e, h => by
    have e0 := e i (Nat.le_refl _) (by omega)
    have ih : ∀ k, lw_ok so va c (i + 1) k → lw_ok so' va' c (i + 1) k := fun k => lw_ok_c (fun j h1 h2 => e j (by omega) (by omega))
    unfold lw_ok at h ⊢
    rw [e0.1, e0.2]
    rcases h with ⟨h1, h2, h3, h4⟩ | ⟨h1, h2, h3, h4⟩ | ⟨h1, h2, h3⟩ | ⟨h1, h2, h3, h4⟩
    · exact Or.inl ⟨h1, h2, h3, ih _ h4⟩
    · exact Or.inr (Or.inl ⟨h1, h2, h3, ih _ h4⟩)
    · exact Or.inr (Or.inr (Or.inl ⟨h1, h2, ih _ h3⟩))
    · exact Or.inr (Or.inr (Or.inr ⟨h1, h2, h3, ih _ h4⟩))
theorem lw_mk_ok {Z : Nat → Nat → Int32} {st : Nat} : ∀ {R : List Nat} {k c : Nat}, mwl Z st R → dps R k → lw_ok (Z 114) (Z 115) c (st + R.length) k → lw_ok (Z 114) (Z 115) (R.length + c) st 0
  | [], k, c, _, hd, h => by
    have e : k = 0 := hd
    subst e
    show lw_ok (Z 114) (Z 115) (0 + c) st 0
    rw [Nat.zero_add]; exact h
  | x :: R, k, c, hm, hd, h => by
    obtain ⟨k1, h1, h2⟩ := hd
    have hc : lw_ok (Z 114) (Z 115) (c + 1) (st + R.length) k1 := by
      unfold lw_ok
      rw [hm.1.1, hm.1.2]
      have h' : lw_ok (Z 114) (Z 115) c (st + R.length + 1) k := h
      rcases h2 with ⟨hx, hk, rfl⟩ | ⟨rfl, hk, rfl⟩ | ⟨⟨s, hs, h19, rfl⟩, hk, rfl⟩
      · rcases hx with hx | hx
        · have e1 : cso x = 0 := if_pos hx
          rw [e1]
          exact Or.inr (Or.inr (Or.inl ⟨rfl, hk, h'⟩))
        · have e1 : cso x = 1 := by unfold cso; rw [if_neg (by omega), if_pos hx]
          have e2 : cva x = x - 10020 := by unfold cva; rw [if_neg (by omega), if_pos hx]
          rw [e1, e2]
          exact Or.inr (Or.inr (Or.inr ⟨rfl, ⟨x - 10020, by omega, rfl⟩, hk, h'⟩))
      · exact Or.inl ⟨rfl, rfl, hk, h'⟩
      · have hs40 : s < 40 ∧ (s = 17 ∨ s = 18 ∨ s = 19 ∨ 30 ≤ s) := by unfold sgs at hs; omega
        obtain ⟨g1, g2, g3⟩ := sgx_t s hs40.1 hs40.2
        have e1 : cso (10000 + s) = 2 := by unfold cso; rw [if_neg (by omega), if_neg (by omega)]
        have e2 : cva (10000 + s) = sgx s := by unfold cva; rw [if_neg (by omega), if_neg (by omega), show 10000 + s - 10000 = s by omega]
        rw [e1, e2]
        exact Or.inr (Or.inl ⟨rfl, by intro g; rw [nI_eq (by omega) (by omega)] at g; exact h19 (g3.mp g), hk, h'⟩)
    have := lw_mk_ok hm.2 h1 hc
    rw [show R.length + (c + 1) = (R.length + 1) + c by omega] at this
    exact this
theorem rw_at {V : Nat → Nat → Int32} {q st : Nat} : ∀ {R : List Nat}, rwl V q st R → mwl V st R → ∀ i, st ≤ i → i < st + R.length → ∃ x, x ∈ R ∧ V (q + 1) i = nI x ∧ V 114 i = nI (cso x) ∧ V 115 i = nI (cva x)
  | [], _, _, i, h1, h2 => by have h2' : i < st + 0 := h2; omega
  | x :: R, h, g, i, h1, h2 => by
    have h2' : i < st + (R.length + 1) := h2
    by_cases e : i = st + R.length
    · subst e; exact ⟨x, List.mem_cons_self .., h.1, g.1.1, g.1.2⟩
    · obtain ⟨y, hy, k⟩ := rw_at h.2 g.2 i h1 (by omega)
      exact ⟨y, List.mem_cons_of_mem _ hy, k⟩
theorem mw_mem {V : Nat → Nat → Int32} {st : Nat} : ∀ {R : List Nat}, mwl V st R → ∀ x ∈ R, ∃ i, st ≤ i ∧ i < st + R.length ∧ V 114 i = nI (cso x) ∧ V 115 i = nI (cva x)
  | [], _, x, h => by cases h
  | y :: R, g, x, h => by
    rcases List.mem_cons.mp h with rfl | h
    · exact ⟨st + R.length, by omega, by show st + R.length < st + (R.length + 1); omega, g.1⟩
    · obtain ⟨i, h1, h2, h3⟩ := mw_mem g.2 x h
      exact ⟨i, h1, by show i < st + (R.length + 1); omega, h3⟩
theorem uz_bt {p : Nat} (hp : p < 32) : ∀ {R : List Nat}, bt (uz R) p = true ↔ ∃ x, x ∈ R ∧ 10020 ≤ x ∧ x < 10027 ∧ p < 30 ∧ lw_nb p = x - 10020
  | [] => by
    show bt (nI 0) p = true ↔ _
    rw [b_z]
    constructor
    · intro h; cases h
    · intro ⟨x, h, _⟩; cases h
  | x :: R => by
    have ih := uz_bt hp (R := R)
    have e1 : uz (x :: R) = if 10020 ≤ x ∧ x < 10027 then uz R ||| nmk x else uz R := rfl
    rw [e1]
    by_cases c : 10020 ≤ x ∧ x < 10027
    · have e2 : bt (nmk x) p = decide (p < 30 ∧ lw_nb p = x - 10020) := nmk_t (x - 10020) (by omega) p hp
      rw [if_pos c, b_or, e2, Bool.or_eq_true, ih, decide_eq_true_eq]
      constructor
      · rintro (⟨y, h, k⟩ | k)
        · exact ⟨y, List.mem_cons_of_mem _ h, k⟩
        · exact ⟨x, List.mem_cons_self .., c.1, c.2, k⟩
      · rintro ⟨y, h, k⟩
        rcases List.mem_cons.mp h with rfl | h
        · exact Or.inr k.2.2
        · exact Or.inl ⟨y, h, k⟩
    · rw [if_neg c, ih]
      constructor
      · rintro ⟨y, h, k⟩; exact ⟨y, List.mem_cons_of_mem _ h, k⟩
      · rintro ⟨y, h, k⟩
        rcases List.mem_cons.mp h with rfl | h
        · exact absurd ⟨k.1, k.2.1⟩ c
        · exact ⟨y, h, k⟩
section
variable {V V' : Nat → Nat → Int32} {t ru kn kn' : Nat} {R : List Nat}
theorem tp_law (h : t_pre V t) (r : ∀ a, a ≠ t + 15 → a ≠ t + 16 → a ≠ t + 17 → a ≠ t + 18 → a ≠ t + 19 → a ≠ 112 → a ≠ 113 → a ≠ 114 → a ≠ 115 → a ≠ 95 → V' a = V a)  (nk : ∀ k, k ≠ 6 → V' 95 k = V 95 k)
    (hru : ru < 3) (hkn : m_kn V = kn) (hle : kn + R.length = kn') (h64 : kn' ≤ 64) (hco : ∀ x ∈ R, cok x) (hdp : dps R 1) (n6 : V' 95 6 = nI kn') (y0 : V' (t + 15) 0 = nI kn' ∧ V' (t + 15) 1 = nI kn') (y1 : rwl V' (t + 15) kn R) (y2 : ∀ i, i < kn → V' (t + 16) i = V (t + 16) i) (y3 : V' (t + 17) ru = nI kn ∧ V' (t + 18) ru = nI kn' ∧ V' (t + 19) ru = uz R) (y4 : ∀ j, j ≠ ru → V' (t + 17) j = V (t + 17) j ∧ V' (t + 18) j = V (t + 18) j ∧ V' (t + 19) j = V (t + 19) j) (z0 : V' 112 ru = nI kn ∧ V' 113 ru = nI kn') (z1 : ∀ j, j ≠ ru → V' 112 j = V 112 j ∧ V' 113 j = V 113 j) (z2 : mwl V' kn R) (z3 : ∀ i, i < kn → V' 114 i = V 114 i ∧ V' 115 i = V 115 i) : t_pre V' t := by
  obtain ⟨⟨ht, ⟨⟨b0, b0'⟩, ⟨b1, b1'⟩, ⟨b2, b2'⟩, ⟨b3, b3'⟩, ⟨b4, b4'⟩, b5, b6⟩, hst, hokL⟩, ⟨e0, e1, e2, e3, e4, e6⟩, ecat, ehn, esn, ese, ewy, esl, ele, ema, ela, ebe, elw, eus, ekn, ero, elk, eun, ewr, ekk, ek64, ek3⟩ := h
  have N0 : V' 95 0 = V 95 0 := nk 0 (by omega)
  have T0 : V' t 0 = V t 0 := by rw [r t (by omega) (by omega) (by omega) (by omega) (by omega) (by omega) (by omega) (by omega) (by omega) (by omega) ]
  have N1 : V' 95 1 = V 95 1 := nk 1 (by omega)
  have T1 : V' t 1 = V t 1 := by rw [r t (by omega) (by omega) (by omega) (by omega) (by omega) (by omega) (by omega) (by omega) (by omega) (by omega) ]
  have N2 : V' 95 2 = V 95 2 := nk 2 (by omega)
  have T2 : V' t 2 = V t 2 := by rw [r t (by omega) (by omega) (by omega) (by omega) (by omega) (by omega) (by omega) (by omega) (by omega) (by omega) ]
  have N3 : V' 95 3 = V 95 3 := nk 3 (by omega)
  have T3 : V' t 3 = V t 3 := by rw [r t (by omega) (by omega) (by omega) (by omega) (by omega) (by omega) (by omega) (by omega) (by omega) (by omega) ]
  have N4 : V' 95 4 = V 95 4 := nk 4 (by omega)
  have T4 : V' t 4 = V t 4 := by rw [r t (by omega) (by omega) (by omega) (by omega) (by omega) (by omega) (by omega) (by omega) (by omega) (by omega) ]
  have N5 : V' 95 5 = V 95 5 := nk 5 (by omega)
  have T5 : V' t 5 = V t 5 := by rw [r t (by omega) (by omega) (by omega) (by omega) (by omega) (by omega) (by omega) (by omega) (by omega) (by omega) ]
  have T6 : V' t 6 = V t 6 := by rw [r t (by omega) (by omega) (by omega) (by omega) (by omega) (by omega) (by omega) (by omega) (by omega) (by omega) ]
  have eH : m_nH V' = m_nH V := by unfold m_nH; rw [N0]
  have eS : m_nS V' = m_nS V := by unfold m_nS; rw [N1]
  have eZ : m_nZ V' = m_nZ V := by unfold m_nZ; rw [N2]
  have eL : m_nL V' = m_nL V := by unfold m_nL; rw [N3]
  have eA : m_nA V' = m_nA V := by unfold m_nA; rw [N4]
  have Q96 : V' 96 = V 96 := r 96 (by omega) (by omega) (by omega) (by omega) (by omega) (by omega) (by omega) (by omega) (by omega) (by omega) 
  have Q97 : V' 97 = V 97 := r 97 (by omega) (by omega) (by omega) (by omega) (by omega) (by omega) (by omega) (by omega) (by omega) (by omega) 
  have Q98 : V' 98 = V 98 := r 98 (by omega) (by omega) (by omega) (by omega) (by omega) (by omega) (by omega) (by omega) (by omega) (by omega) 
  have Q99 : V' 99 = V 99 := r 99 (by omega) (by omega) (by omega) (by omega) (by omega) (by omega) (by omega) (by omega) (by omega) (by omega) 
  have Q100 : V' 100 = V 100 := r 100 (by omega) (by omega) (by omega) (by omega) (by omega) (by omega) (by omega) (by omega) (by omega) (by omega) 
  have Q101 : V' 101 = V 101 := r 101 (by omega) (by omega) (by omega) (by omega) (by omega) (by omega) (by omega) (by omega) (by omega) (by omega) 
  have Q102 : V' 102 = V 102 := r 102 (by omega) (by omega) (by omega) (by omega) (by omega) (by omega) (by omega) (by omega) (by omega) (by omega) 
  have Q103 : V' 103 = V 103 := r 103 (by omega) (by omega) (by omega) (by omega) (by omega) (by omega) (by omega) (by omega) (by omega) (by omega) 
  have Q104 : V' 104 = V 104 := r 104 (by omega) (by omega) (by omega) (by omega) (by omega) (by omega) (by omega) (by omega) (by omega) (by omega) 
  have Q105 : V' 105 = V 105 := r 105 (by omega) (by omega) (by omega) (by omega) (by omega) (by omega) (by omega) (by omega) (by omega) (by omega) 
  have Q106 : V' 106 = V 106 := r 106 (by omega) (by omega) (by omega) (by omega) (by omega) (by omega) (by omega) (by omega) (by omega) (by omega) 
  have Q107 : V' 107 = V 107 := r 107 (by omega) (by omega) (by omega) (by omega) (by omega) (by omega) (by omega) (by omega) (by omega) (by omega) 
  have Q108 : V' 108 = V 108 := r 108 (by omega) (by omega) (by omega) (by omega) (by omega) (by omega) (by omega) (by omega) (by omega) (by omega) 
  have Q109 : V' 109 = V 109 := r 109 (by omega) (by omega) (by omega) (by omega) (by omega) (by omega) (by omega) (by omega) (by omega) (by omega) 
  have Q110 : V' 110 = V 110 := r 110 (by omega) (by omega) (by omega) (by omega) (by omega) (by omega) (by omega) (by omega) (by omega) (by omega) 
  have Q111 : V' 111 = V 111 := r 111 (by omega) (by omega) (by omega) (by omega) (by omega) (by omega) (by omega) (by omega) (by omega) (by omega) 
  have Q2001 : V' 2001 = V 2001 := r 2001 (by omega) (by omega) (by omega) (by omega) (by omega) (by omega) (by omega) (by omega) (by omega) (by omega) 
  have Q2002 : V' 2002 = V 2002 := r 2002 (by omega) (by omega) (by omega) (by omega) (by omega) (by omega) (by omega) (by omega) (by omega) (by omega) 
  have Qt1 : V' (t + 1) = V (t + 1) := r (t + 1) (by omega) (by omega) (by omega) (by omega) (by omega) (by omega) (by omega) (by omega) (by omega) (by omega) 
  have Qt2 : V' (t + 2) = V (t + 2) := r (t + 2) (by omega) (by omega) (by omega) (by omega) (by omega) (by omega) (by omega) (by omega) (by omega) (by omega) 
  have Qt3 : V' (t + 3) = V (t + 3) := r (t + 3) (by omega) (by omega) (by omega) (by omega) (by omega) (by omega) (by omega) (by omega) (by omega) (by omega) 
  have Qt4 : V' (t + 4) = V (t + 4) := r (t + 4) (by omega) (by omega) (by omega) (by omega) (by omega) (by omega) (by omega) (by omega) (by omega) (by omega) 
  have Qt5 : V' (t + 5) = V (t + 5) := r (t + 5) (by omega) (by omega) (by omega) (by omega) (by omega) (by omega) (by omega) (by omega) (by omega) (by omega) 
  have Qt6 : V' (t + 6) = V (t + 6) := r (t + 6) (by omega) (by omega) (by omega) (by omega) (by omega) (by omega) (by omega) (by omega) (by omega) (by omega) 
  have Qt7 : V' (t + 7) = V (t + 7) := r (t + 7) (by omega) (by omega) (by omega) (by omega) (by omega) (by omega) (by omega) (by omega) (by omega) (by omega) 
  have Qt8 : V' (t + 8) = V (t + 8) := r (t + 8) (by omega) (by omega) (by omega) (by omega) (by omega) (by omega) (by omega) (by omega) (by omega) (by omega) 
  have Qt9 : V' (t + 9) = V (t + 9) := r (t + 9) (by omega) (by omega) (by omega) (by omega) (by omega) (by omega) (by omega) (by omega) (by omega) (by omega) 
  have Qt10 : V' (t + 10) = V (t + 10) := r (t + 10) (by omega) (by omega) (by omega) (by omega) (by omega) (by omega) (by omega) (by omega) (by omega) (by omega) 
  have Qt11 : V' (t + 11) = V (t + 11) := r (t + 11) (by omega) (by omega) (by omega) (by omega) (by omega) (by omega) (by omega) (by omega) (by omega) (by omega) 
  have Qt12 : V' (t + 12) = V (t + 12) := r (t + 12) (by omega) (by omega) (by omega) (by omega) (by omega) (by omega) (by omega) (by omega) (by omega) (by omega) 
  have Qt13 : V' (t + 13) = V (t + 13) := r (t + 13) (by omega) (by omega) (by omega) (by omega) (by omega) (by omega) (by omega) (by omega) (by omega) (by omega) 
  have Qt14 : V' (t + 14) = V (t + 14) := r (t + 14) (by omega) (by omega) (by omega) (by omega) (by omega) (by omega) (by omega) (by omega) (by omega) (by omega) 
  have hw := cg_way Q100 Q101 Q102
  have hs0 := cg_st0 Q100 Q101
  have hla := cg_lamp Q109 Q110 Q111
  have eK : m_kn V' = kn' := nN_of n6 (by omega)
  refine ⟨⟨ht, ⟨⟨?_, ?_⟩, ⟨?_, ?_⟩, ⟨?_, ?_⟩, ⟨?_, ?_⟩, ⟨?_, ?_⟩, ?_, ?_⟩, ?_, ?_⟩, ⟨?_, ?_, ?_, ?_, ?_, ?_⟩, ?_, ?_, ?_, ?_, ?_, ?_, ?_, ?_, ?_, ?_, ?_, ?_, ?_, ?_, ?_, ?_, ?_, ?_, ?_, ?_⟩
  · rw [eH, N0]; exact b0
  · rw [eH]; exact b0'
  · rw [eS, N1]; exact b1
  · rw [eS]; exact b1'
  · rw [eZ, N2]; exact b2
  · rw [eZ]; exact b2'
  · rw [eL, N3]; exact b3
  · rw [eL]; exact b3'
  · rw [eA, N4]; exact b4
  · rw [eA]; exact b4'
  · rw [eZ, eH, Q104]; exact b5
  · intro k hk
    by_cases e : k = ru
    · subst e
      refine ⟨kn, kn', z0.1, z0.2, by omega, h64, fun _ => ?_⟩
      have := lw_mk_ok (c := 0) z2 hdp (show (1 : Nat) = 1 from rfl)
      rw [show R.length + 0 = kn' - kn by omega] at this
      exact this
    · obtain ⟨a, b, g1, g2, g3, g4, g5⟩ := b6 k hk
      have hb := ek3 k hk
      rw [g2, nI_clamp (by omega), hkn] at hb
      refine ⟨a, b, by rw [(z1 k e).1]; exact g1, by rw [(z1 k e).2]; exact g2, g3, g4, fun g => ?_⟩
      exact lw_ok_c (fun j h1 h2 => z3 j (by omega)) (g5 g)
  · unfold st_ok; rw [eS, eH, hs0, Q100, Q101, Q102]; exact hst
  · unfold m_okL; rw [eL, eZ, Q107]; exact hokL
  · rw [T0, N0]; exact e0
  · rw [T1, N1]; exact e1
  · rw [T2, N2]; exact e2
  · rw [T3, N3]; exact e3
  · rw [T4, N4]; exact e4
  · rw [T6, N5]; exact e6
  · rw [eH, T5, Q98]; exact ecat
  · rw [eH, Qt1, Q96]; exact ehn
  · rw [eZ, Qt2, Q103]; exact esn
  · rw [eS, Qt3, Q100, Q101]; exact ese
  · rw [eS, Qt4, hw]; exact ewy
  · rw [eZ, eH, Qt6, Qt7, Qt8, Q104, Q105, Q106]; exact esl
  · rw [eL, eH, Qt9, Qt10, Q107, Q108]; exact ele
  · rw [eL, Qt11, Q108]; exact ema
  · rw [eA, Qt12, hla]; exact ela
  · rw [eH, Qt13, Qt14, Q97, Q99]; exact ebe
  · refine ⟨fun k hk => ?_, fun k hk i hi1 hi2 => ?_⟩
    · show V' (t + 17) k = V' 112 k ∧ V' (t + 18) k = V' 113 k
      by_cases e : k = ru
      · subst e; rw [y3.1, y3.2.1, z0.1, z0.2]; exact ⟨rfl, rfl⟩
      · rw [(y4 k e).1, (y4 k e).2.1, (z1 k e).1, (z1 k e).2]; exact elw.1 k hk
    · by_cases e : k = ru
      · subst e
        rw [z0.1, nI_clamp (by omega)] at hi1
        rw [z0.2, nI_clamp (by omega)] at hi2
        obtain ⟨x, hx, g1, g2, g3⟩ := rw_at y1 z2 i hi1 (by omega)
        rcases hco x hx with c | c | ⟨s, hs, rfl⟩
        · have e1 : cso x = 0 := if_pos c
          have e2 : cva x = x := if_pos c
          rw [e1] at g2; rw [e2] at g3
          exact Or.inl ⟨g2, x, c, g3, g1⟩
        · have e1 : cso x = 1 := by unfold cso; rw [if_neg (by omega), if_pos c]
          have e2 : cva x = x - 10020 := by unfold cva; rw [if_neg (by omega), if_pos c]
          rw [e1] at g2; rw [e2] at g3
          exact Or.inr (Or.inl ⟨g2, x - 10020, by omega, g3, by rw [g1, show 10020 + (x - 10020) = x by omega]⟩)
        · have hs40 : s < 40 ∧ (s = 17 ∨ s = 18 ∨ s = 19 ∨ 30 ≤ s) := by unfold sgs at hs; omega
          obtain ⟨k1, k2, k3⟩ := sgx_t s hs40.1 hs40.2
          have k4 := sgx_s s hs40.1 hs40.2
          have e1 : cso (10000 + s) = 2 := by unfold cso; rw [if_neg (by omega), if_neg (by omega)]
          have e2 : cva (10000 + s) = sgx s := by unfold cva; rw [if_neg (by omega), if_neg (by omega), show 10000 + s - 10000 = s by omega]
          rw [e1] at g2; rw [e2] at g3
          refine Or.inr (Or.inr ⟨g2, sgx s, ?_, g3, by rw [g1, k1]⟩)
          unfold lw_sg
          omega
      · rw [(z1 k e).1] at hi1
        rw [(z1 k e).2] at hi2
        have hb := ek3 k hk
        rw [hkn] at hb
        rw [(z3 i (by omega)).1, (z3 i (by omega)).2, show t + 15 + 1 = t + 16 from rfl, y2 i (by omega)]
        exact elw.2 k hk i hi1 hi2
  · intro k hk p hp
    show bt (V' (t + 19) k) p = true ↔ _
    by_cases e : k = ru
    · subst e
      rw [y3.2.2, z0.1, z0.2, nI_clamp (by omega), nI_clamp (by omega), uz_bt hp]
      have hnb := lw_nb_lt p
      constructor
      · rintro ⟨x, hx, g1, g2, g3, g4⟩
        obtain ⟨i, k1, k2, k3, k4⟩ := mw_mem z2 x hx
        have e1 : cso x = 1 := by unfold cso; rw [if_neg (by omega), if_pos ⟨g1, g2⟩]
        have e2 : cva x = x - 10020 := by unfold cva; rw [if_neg (by omega), if_pos ⟨g1, g2⟩]
        exact ⟨g3, i, k1, by omega, by rw [k3, e1], by rw [k4, e2, g4]⟩
      · rintro ⟨g3, i, k1, k2, k3, k4⟩
        obtain ⟨x, hx, j1, j2, j3⟩ := rw_at y1 z2 i k1 (by omega)
        rw [j2] at k3
        rw [j3] at k4
        have c1 : cso x = 1 := by
          unfold cso at k3 ⊢
          split at k3
          · exact absurd k3 (by decide +kernel)
          · rename_i h1
            rw [if_neg h1]
            split at k3
            · rename_i h2; rw [if_pos h2]
            · exact absurd k3 (by decide +kernel)
        have c2 : ¬ x ≤ 9999 ∧ 10020 ≤ x ∧ x < 10027 := by
          unfold cso at c1
          split at c1
          · omega
          · rename_i h1
            split at c1
            · rename_i h2; exact ⟨h1, h2⟩
            · omega
        have e2 : cva x = x - 10020 := by unfold cva; rw [if_neg c2.1, if_pos c2.2]
        rw [e2, nI_eq (by omega) (by omega)] at k4
        exact ⟨x, hx, c2.2.1, c2.2.2, g3, k4.symm⟩
    · have old := eus k hk p hp
      have hb := ek3 k hk
      rw [hkn] at hb
      rw [(y4 k e).2.2, (z1 k e).1, (z1 k e).2]
      refine old.trans ?_
      constructor
      · rintro ⟨g0, i, g1, g2, g3, g4⟩
        exact ⟨g0, i, g1, g2, by rw [(z3 i (by omega)).1]; exact g3, by rw [(z3 i (by omega)).2]; exact g4⟩
      · rintro ⟨g0, i, g1, g2, g3, g4⟩
        rw [(z3 i (by omega)).1] at g3
        rw [(z3 i (by omega)).2] at g4
        exact ⟨g0, i, g1, g2, g3, g4⟩
  · rw [y0.1, n6]
  · exact cg_ro Q2001 Q2002 ero
  · unfold lok; rw [eA, eH, Q109, Q110, Q111]; exact elk
  · rw [eH, Qt13, Qt14, T5]; exact eun
  · rw [y0.2, n6]
  · rw [eK]; exact n6
  · rw [eK]; exact h64
  · rw [eK]
    intro k hk
    by_cases e : k = ru
    · subst e; rw [z0.2, nI_clamp (by omega)]; omega
    · have hb := ek3 k hk
      rw [(z1 k e).2]; omega
theorem tp_keep (h : t_pre V t) (r : ∀ a, a ≠ t + 5 → V' a = V a)  
     : t_pre V' t := by
  obtain ⟨⟨ht, ⟨⟨b0, b0'⟩, ⟨b1, b1'⟩, ⟨b2, b2'⟩, ⟨b3, b3'⟩, ⟨b4, b4'⟩, b5, b6⟩, hst, hokL⟩, ⟨e0, e1, e2, e3, e4, e6⟩, ecat, ehn, esn, ese, ewy, esl, ele, ema, ela, ebe, elw, eus, ekn, ero, elk, eun, ewr, ekk, ek64, ek3⟩ := h
  have N0 : V' 95 0 = V 95 0 := by rw [r 95 (by omega) ]
  have T0 : V' t 0 = V t 0 := by rw [r t (by omega) ]
  have N1 : V' 95 1 = V 95 1 := by rw [r 95 (by omega) ]
  have T1 : V' t 1 = V t 1 := by rw [r t (by omega) ]
  have N2 : V' 95 2 = V 95 2 := by rw [r 95 (by omega) ]
  have T2 : V' t 2 = V t 2 := by rw [r t (by omega) ]
  have N3 : V' 95 3 = V 95 3 := by rw [r 95 (by omega) ]
  have T3 : V' t 3 = V t 3 := by rw [r t (by omega) ]
  have N4 : V' 95 4 = V 95 4 := by rw [r 95 (by omega) ]
  have T4 : V' t 4 = V t 4 := by rw [r t (by omega) ]
  have N5 : V' 95 5 = V 95 5 := by rw [r 95 (by omega) ]
  have T5 : V' t 5 = V t 5 := by rw [r t (by omega) ]
  have N6 : V' 95 6 = V 95 6 := by rw [r 95 (by omega) ]
  have T6 : V' t 6 = V t 6 := by rw [r t (by omega) ]
  have eH : m_nH V' = m_nH V := by unfold m_nH; rw [N0]
  have eS : m_nS V' = m_nS V := by unfold m_nS; rw [N1]
  have eZ : m_nZ V' = m_nZ V := by unfold m_nZ; rw [N2]
  have eL : m_nL V' = m_nL V := by unfold m_nL; rw [N3]
  have eA : m_nA V' = m_nA V := by unfold m_nA; rw [N4]
  have eK : m_kn V' = m_kn V := by unfold m_kn; rw [N6]
  have Q96 : V' 96 = V 96 := r 96 (by omega) 
  have Q97 : V' 97 = V 97 := r 97 (by omega) 
  have Q98 : V' 98 = V 98 := r 98 (by omega) 
  have Q99 : V' 99 = V 99 := r 99 (by omega) 
  have Q100 : V' 100 = V 100 := r 100 (by omega) 
  have Q101 : V' 101 = V 101 := r 101 (by omega) 
  have Q102 : V' 102 = V 102 := r 102 (by omega) 
  have Q103 : V' 103 = V 103 := r 103 (by omega) 
  have Q104 : V' 104 = V 104 := r 104 (by omega) 
  have Q105 : V' 105 = V 105 := r 105 (by omega) 
  have Q106 : V' 106 = V 106 := r 106 (by omega) 
  have Q107 : V' 107 = V 107 := r 107 (by omega) 
  have Q108 : V' 108 = V 108 := r 108 (by omega) 
  have Q109 : V' 109 = V 109 := r 109 (by omega) 
  have Q110 : V' 110 = V 110 := r 110 (by omega) 
  have Q111 : V' 111 = V 111 := r 111 (by omega) 
  have Q112 : V' 112 = V 112 := r 112 (by omega) 
  have Q113 : V' 113 = V 113 := r 113 (by omega) 
  have Q114 : V' 114 = V 114 := r 114 (by omega) 
  have Q115 : V' 115 = V 115 := r 115 (by omega) 
  have Q2001 : V' 2001 = V 2001 := r 2001 (by omega) 
  have Q2002 : V' 2002 = V 2002 := r 2002 (by omega) 
  have Qt1 : V' (t + 1) = V (t + 1) := r (t + 1) (by omega) 
  have Qt2 : V' (t + 2) = V (t + 2) := r (t + 2) (by omega) 
  have Qt3 : V' (t + 3) = V (t + 3) := r (t + 3) (by omega) 
  have Qt4 : V' (t + 4) = V (t + 4) := r (t + 4) (by omega) 
  have Qt6 : V' (t + 6) = V (t + 6) := r (t + 6) (by omega) 
  have Qt7 : V' (t + 7) = V (t + 7) := r (t + 7) (by omega) 
  have Qt8 : V' (t + 8) = V (t + 8) := r (t + 8) (by omega) 
  have Qt9 : V' (t + 9) = V (t + 9) := r (t + 9) (by omega) 
  have Qt10 : V' (t + 10) = V (t + 10) := r (t + 10) (by omega) 
  have Qt11 : V' (t + 11) = V (t + 11) := r (t + 11) (by omega) 
  have Qt12 : V' (t + 12) = V (t + 12) := r (t + 12) (by omega) 
  have Qt13 : V' (t + 13) = V (t + 13) := r (t + 13) (by omega) 
  have Qt14 : V' (t + 14) = V (t + 14) := r (t + 14) (by omega) 
  have Qt15 : V' (t + 15) = V (t + 15) := r (t + 15) (by omega) 
  have Qt16 : V' (t + 16) = V (t + 16) := r (t + 16) (by omega) 
  have Qt17 : V' (t + 17) = V (t + 17) := r (t + 17) (by omega) 
  have Qt18 : V' (t + 18) = V (t + 18) := r (t + 18) (by omega) 
  have Qt19 : V' (t + 19) = V (t + 19) := r (t + 19) (by omega) 
  have hw := cg_way Q100 Q101 Q102
  have hs0 := cg_st0 Q100 Q101
  have hla := cg_lamp Q109 Q110 Q111
  refine ⟨⟨ht, ⟨⟨?_, ?_⟩, ⟨?_, ?_⟩, ⟨?_, ?_⟩, ⟨?_, ?_⟩, ⟨?_, ?_⟩, ?_, ?_⟩, ?_, ?_⟩, ⟨?_, ?_, ?_, ?_, ?_, ?_⟩, ?_, ?_, ?_, ?_, ?_, ?_, ?_, ?_, ?_, ?_, ?_, ?_, ?_, ?_, ?_, ?_, ?_, ?_, ?_, ?_⟩
  · rw [eH, N0]; exact b0
  · rw [eH]; exact b0'
  · rw [eS, N1]; exact b1
  · rw [eS]; exact b1'
  · rw [eZ, N2]; exact b2
  · rw [eZ]; exact b2'
  · rw [eL, N3]; exact b3
  · rw [eL]; exact b3'
  · rw [eA, N4]; exact b4
  · rw [eA]; exact b4'
  · rw [eZ, eH, Q104]; exact b5
  · exact cg_lok Q112 Q113 Q114 Q115 b6
  · unfold st_ok; rw [eS, eH, hs0, Q100, Q101, Q102]; exact hst
  · unfold m_okL; rw [eL, eZ, Q107]; exact hokL
  · rw [T0, N0]; exact e0
  · rw [T1, N1]; exact e1
  · rw [T2, N2]; exact e2
  · rw [T3, N3]; exact e3
  · rw [T4, N4]; exact e4
  · rw [T6, N5]; exact e6
  · rw [eH, T5, Q98]; exact ecat
  · rw [eH, Qt1, Q96]; exact ehn
  · rw [eZ, Qt2, Q103]; exact esn
  · rw [eS, Qt3, Q100, Q101]; exact ese
  · rw [eS, Qt4, hw]; exact ewy
  · rw [eZ, eH, Qt6, Qt7, Qt8, Q104, Q105, Q106]; exact esl
  · rw [eL, eH, Qt9, Qt10, Q107, Q108]; exact ele
  · rw [eL, Qt11, Q108]; exact ema
  · rw [eA, Qt12, hla]; exact ela
  · rw [eH, Qt13, Qt14, Q97, Q99]; exact ebe
  · exact cg_lwr Q112 Q113 Q114 Q115 Qt16 Qt17 Qt18 elw
  · exact cg_used Q112 Q113 Q114 Q115 Qt19 eus
  · rw [Qt15, N6]; exact ekn
  · exact cg_ro Q2001 Q2002 ero
  · unfold lok; rw [eA, eH, Q109, Q110, Q111]; exact elk
  · rw [eH, Qt13, Qt14, T5]; exact eun
  · rw [Qt15, N6]; exact ewr
  · rw [eK, N6]; exact ekk
  · rw [eK]; exact ek64
  · rw [eK, Q113]; exact ek3
end
