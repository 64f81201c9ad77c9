/-! ===== L3: the model's halves, and its text ===== -/
def hlf (I : Nat → Nat → Int32) (a m j : Nat) : Nat → Nat → Int32 := fun b k => if b = a ∧ k < j then I a (m + k) else I b k
def hAll (I : Nat → Nat → Int32) (j : Nat) : Nat → Nat → Int32 := fun a k => if 95 ≤ a ∧ a < 95 + j ∧ k < hfz a then I a (hfz a + k) else I a k
theorem half_n : ∀ m, m < 65 → nI (2 * m) / nI 2 = nI m := by decide +kernel
theorem hfz_TT {N : Nat} : ∀ a, 95 ≤ a → a ≤ 115 → am_TT N a = (1, 2 * hfz a) ∧ hfz a < 65 := by
  intro a h1 h2
  rcases (show a = 95 ∨ a = 96 ∨ a = 97 ∨ a = 98 ∨ a = 99 ∨ a = 100 ∨ a = 101 ∨ a = 102 ∨ a = 103 ∨ a = 104 ∨ a = 105 ∨ a = 106 ∨ a = 107 ∨ a = 108 ∨ a = 109 ∨ a = 110 ∨ a = 111 ∨ a = 112 ∨ a = 113 ∨ a = 114 ∨ a = 115 by omega) with rfl | rfl | rfl | rfl | rfl | rfl | rfl | rfl | rfl | rfl | rfl | rfl | rfl | rfl | rfl | rfl | rfl | rfl | rfl | rfl | rfl <;> exact ⟨rfl, by decide⟩
theorem am_uid {I : Nat → Nat → Int32} {a k : Nat} {x : Int32} (h : I a k = x) : am_u I a k x = I := by
  funext b j
  unfold am_u
  by_cases c : b = a ∧ j = k
  · rw [if_pos c, c.1, c.2, h]
  · rw [if_neg c]
section
variable {d N : Nat} {Q : Value → am_H → Prop} {r : am_rho} {I : Nat → Nat → Int32} {J : Nat → Nat → Int64}
theorem s_M_half {a m : Nat} (ht : am_TT N a = (1, 2 * m)) (hm : m < 65) : am_D (d + 1) 195 [.ref a] (am_hp N r I J) Q = Q .null (am_hp N r (hlf I a m m) J) := by
  have h0 : hlf I a m 0 = I := by
    funext b k
    unfold hlf
    rw [if_neg (by omega)]
  have l := am_up (P := fun j => am_V d Q 195 7 [some (.ref a), some (.int (nI m)), some (.int (nI j))] [] (am_hp N r (hlf I a m j) J)) (R := Q .null (am_hp N r (hlf I a m m) J)) m
    (by
      try dsimp only
      rw [e_M_half_7, am_ifi (nI_leI (by omega) (by omega)), if_pos (Nat.le_refl _)])
    (by
      intro j hj
      try dsimp only
      have e : am_u (hlf I a m j) a j (hlf I a m j a (m + j)) = hlf I a m (j + 1) := by
        funext b k
        unfold hlf am_u
        by_cases c : b = a ∧ k = j
        · rw [if_pos c, if_neg (by omega), if_pos (by omega), c.2]
        · rw [if_neg c]
          dsimp only
          by_cases c2 : b = a ∧ k < j
          · rw [if_pos c2, if_pos (by omega)]
          · rw [if_neg c2, if_neg (by omega)]
      rw [e_M_half_7, am_ifi (nI_leI (by omega) (by omega)), if_neg (by omega), ht, nI_add, nI_add, nI_clamp (by omega), nI_clamp (by omega), am_gT (by rw [am_inbT (by omega) (by omega)]; rfl), am_gT (by rw [am_inbT (by omega) (by omega)]; rfl), e])
  rw [e_M_half, ht, am_gT (by rfl)]
  show am_V d Q 195 7 [some (.ref a), some (.int (nI (2 * m) / nI 2)), some (.int (nI 0))] [] (am_hp N r I J) = _
  rw [half_n m hm]
  have := l 0 (by omega)
  rw [h0] at this
  exact this
theorem hAll_S {j a : Nat} (ha : a = 95 + j) : hlf (hAll I j) a (hfz a) (hfz a) = hAll I (j + 1) := by
  subst ha
  funext b k
  unfold hlf hAll
  by_cases c : b = 95 + j ∧ k < hfz (95 + j)
  · obtain ⟨rfl, c2⟩ := c
    rw [if_pos ⟨rfl, c2⟩, if_neg (by omega), if_pos ⟨by omega, by omega, c2⟩]
  · rw [if_neg c]
    by_cases c2 : 95 ≤ b ∧ b < 95 + j ∧ k < hfz b
    · rw [if_pos c2, if_pos ⟨c2.1, by omega, c2.2.2⟩]
    · rw [if_neg c2, if_neg]
      intro g
      by_cases e : b = 95 + j
      · subst e; exact c ⟨rfl, g.2.2⟩
      · exact c2 ⟨g.1, by omega, g.2.2⟩
theorem hAll_0 : hAll I 0 = I := by
  funext a k
  unfold hAll
  rw [if_neg (by omega)]
theorem md_hf {j a : Nat} (ha : a = 95 + j) (hj : j < 21) : am_D (d + 1) 195 [.ref a] (am_hp N r (hAll I j) J) Q = Q .null (am_hp N r (hAll I (j + 1)) J) := by
  obtain ⟨h1, h2⟩ := hfz_TT (N := N) a (by omega) (by omega)
  rw [s_M_half h1 h2, hAll_S ha]
theorem md_hf0 : am_D (d + 1) 195 [.ref 95] (am_hp N r I J) Q = Q .null (am_hp N r (hAll I 1) J) := by
  have := md_hf (d := d) (N := N) (Q := Q) (r := r) (I := I) (J := J) (j := 0) (a := 95) rfl (by omega)
  rw [hAll_0] at this
  exact this
/-- all rows take their upper halves -/
theorem md_halves {x1 x2 : Int32} : am_D (d + 1) 195 [.ref 95] (am_hp N r I J) (fun _ h => am_V (d + 1) Q 196 171 [some (.ref 93), some (.int x1), some (.int x2)] [] h) =
    am_D (d + 1) 204 [.ref 93] (am_hp N r (am_u (am_u (am_u (am_u (hAll I 21) 93 69 (nI 0)) 93 70 (-nI 1)) 93 50 (nI 0)) 93 51 (nI 0)) J) (fun _ h => am_V (d + 1) Q 196 335 [some (.ref 93), some (.int x1), some (.int x2)] [] h) := by
  rw [md_hf0, e_M_text_171, md_hf (a := 96) (j := 1) rfl (by omega), e_M_text_178, md_hf (a := 97) (j := 2) rfl (by omega), e_M_text_185, md_hf (a := 98) (j := 3) rfl (by omega), e_M_text_192, md_hf (a := 99) (j := 4) rfl (by omega), e_M_text_199, md_hf (a := 100) (j := 5) rfl (by omega), e_M_text_206, md_hf (a := 101) (j := 6) rfl (by omega), e_M_text_213, md_hf (a := 102) (j := 7) rfl (by omega), e_M_text_220, md_hf (a := 103) (j := 8) rfl (by omega), e_M_text_227, md_hf (a := 104) (j := 9) rfl (by omega), e_M_text_234, md_hf (a := 105) (j := 10) rfl (by omega), e_M_text_241, md_hf (a := 106) (j := 11) rfl (by omega), e_M_text_248, md_hf (a := 107) (j := 12) rfl (by omega), e_M_text_255, md_hf (a := 108) (j := 13) rfl (by omega), e_M_text_262, md_hf (a := 109) (j := 14) rfl (by omega), e_M_text_269, md_hf (a := 110) (j := 15) rfl (by omega), e_M_text_276, md_hf (a := 111) (j := 16) rfl (by omega), e_M_text_283, md_hf (a := 112) (j := 17) rfl (by omega), e_M_text_290, md_hf (a := 113) (j := 18) rfl (by omega), e_M_text_297, md_hf (a := 114) (j := 19) rfl (by omega), e_M_text_304, md_hf (a := 115) (j := 20) rfl (by omega), e_M_text_311]
end
/-! the model's text begins -/
def mt0 (I : Nat → Nat → Int32) (n : Nat) : Nat → Nat → Int32 := am_u (am_u (am_u (am_u (am_u (am_u I 93 0 (nI 0)) 93 26 (nI n)) 93 2 (nI 0)) 93 27 (nI 0)) 93 31 (nI 0)) 93 32 (-nI 1)
def zf95 (I : Nat → Nat → Int32) (j : Nat) : Nat → Nat → Int32 := fun a k => if a = 95 ∧ 7 ≤ k ∧ k < 7 + j then nI 0 else I a k
def zf112 (I : Nat → Nat → Int32) (j : Nat) : Nat → Nat → Int32 := fun a k => if (a = 112 ∨ a = 113) ∧ 3 ≤ k ∧ k < 3 + j then nI 0 else I a k
def mt4 (I : Nat → Nat → Int32) (n : Nat) : Nat → Nat → Int32 := am_u (am_u (am_u (am_u (zf112 (zf95 (mt0 I n) 7) 3) 93 24 (nI 0)) 93 25 (nI 0)) 93 35 (nI 0)) 93 36 (nI 0)
/-- what is told at the beginning: nothing -/
def z0 (I : Nat → Nat → Int32) : Nat → Nat → Int32 := fun a k => if (a = 95 ∧ k < 7) ∨ ((a = 112 ∨ a = 113) ∧ k < 3) then nI 0 else if 95 ≤ a then I a (hfz a + k) else nI 0
section
variable {I : Nat → Nat → Int32} {n : Nat}
theorem mt4_o {a : Nat} (h : a ≠ 93 ∧ a ≠ 95 ∧ a ≠ 112 ∧ a ≠ 113) : mt4 I n a = I a := by
  unfold mt4 mt0
  rw [am_uRow (by omega), am_uRow (by omega), am_uRow (by omega), am_uRow (by omega)]
  funext k
  unfold zf112 zf95
  rw [if_neg (by omega), if_neg (by omega), am_uRow (by omega), am_uRow (by omega), am_uRow (by omega), am_uRow (by omega), am_uRow (by omega), am_uRow (by omega)]
theorem mt4_lo {a k : Nat} (h : 95 ≤ a ∧ a ≤ 115) (hk : k < hfz a) : mt4 I n a k = I a k := by
  unfold mt4 mt0
  rw [am_uN (by omega), am_uN (by omega), am_uN (by omega), am_uN (by omega)]
  unfold zf112 zf95
  have e1 : ¬ ((a = 112 ∨ a = 113) ∧ 3 ≤ k ∧ k < 3 + 3) := by
    intro g
    rcases g.1 with rfl | rfl
    · have : k < 3 := hk; omega
    · have : k < 3 := hk; omega
  have e2 : ¬ (a = 95 ∧ 7 ≤ k ∧ k < 7 + 7) := by
    intro g
    obtain ⟨rfl, g2⟩ := g
    have : k < 7 := hk; omega
  rw [if_neg e1, if_neg e2, am_uN (by omega), am_uN (by omega), am_uN (by omega), am_uN (by omega), am_uN (by omega), am_uN (by omega)]
theorem mt4_hi {a k : Nat} (h : 95 ≤ a ∧ a ≤ 115) (hk : k < hfz a) : mt4 I n a (hfz a + k) = z0 I a k := by
  unfold mt4 mt0 z0
  rw [am_uN (by omega), am_uN (by omega), am_uN (by omega), am_uN (by omega)]
  unfold zf112 zf95
  by_cases c : a = 112 ∨ a = 113
  · have e : hfz a = 3 := by rcases c with rfl | rfl <;> rfl
    rw [e] at hk ⊢
    rw [if_pos ⟨c, by omega, by omega⟩, if_pos (Or.inr ⟨c, hk⟩)]
  · rw [if_neg (fun g => c g.1)]
    by_cases c2 : a = 95
    · subst c2
      have hk' : k < 7 := hk
      rw [show hfz 95 = 7 from rfl, if_pos ⟨rfl, by omega, by omega⟩, if_pos (Or.inl ⟨rfl, hk'⟩)]
    · rw [if_neg (fun g => c2 g.1), if_neg (by omega), if_pos h.1, am_uN (by omega), am_uN (by omega), am_uN (by omega), am_uN (by omega), am_uN (by omega), am_uN (by omega)]
theorem mt4_93 {k : Nat} : mt4 I n 93 k = if k = 0 ∨ k = 2 ∨ k = 24 ∨ k = 25 ∨ k = 27 ∨ k = 31 ∨ k = 35 ∨ k = 36 then nI 0 else if k = 26 then nI n else if k = 32 then -nI 1 else I 93 k := by
  unfold mt4 mt0 zf112 zf95 am_u
  simp only [true_and, show ¬ ((93 : Nat) = 112 ∨ (93 : Nat) = 113) by omega, show ¬ (93 : Nat) = 95 by omega, false_and, if_false]
  by_cases c36 : k = 36
  · rw [if_pos c36, if_pos (by omega)]
  rw [if_neg c36]
  by_cases c35 : k = 35
  · rw [if_pos c35, if_pos (by omega)]
  rw [if_neg c35]
  by_cases c25 : k = 25
  · rw [if_pos c25, if_pos (by omega)]
  rw [if_neg c25]
  by_cases c24 : k = 24
  · rw [if_pos c24, if_pos (by omega)]
  rw [if_neg c24]
  by_cases c32 : k = 32
  · rw [if_pos c32, if_neg (by omega), if_neg (by omega), if_pos c32]
  rw [if_neg c32]
  by_cases c31 : k = 31
  · rw [if_pos c31, if_pos (by omega)]
  rw [if_neg c31]
  by_cases c27 : k = 27
  · rw [if_pos c27, if_pos (by omega)]
  rw [if_neg c27]
  by_cases c2 : k = 2
  · rw [if_pos c2, if_pos (by omega)]
  rw [if_neg c2]
  by_cases c26 : k = 26
  · rw [if_pos c26, if_neg (by omega), if_pos c26]
  rw [if_neg c26]
  by_cases c0 : k = 0
  · rw [if_pos c0, if_pos (by omega)]
  rw [if_neg c0, if_neg (by omega), if_neg c26, if_neg c32]
theorem z0_95 {k : Nat} (h : k < 7) : z0 I 95 k = nI 0 := if_pos (Or.inl ⟨rfl, h⟩)
theorem z0_11 {k : Nat} (h : k < 3) : z0 I 112 k = nI 0 ∧ z0 I 113 k = nI 0 := ⟨if_pos (Or.inr ⟨Or.inl rfl, h⟩), if_pos (Or.inr ⟨Or.inr rfl, h⟩)⟩
theorem z0_ok : zok (z0 I) := by
  have c0 : (nI 0 : Int32).toNatClampNeg = 0 := nI_clamp (by omega)
  have eH : m_nH (z0 I) = 0 := by unfold m_nH; rw [z0_95 (by omega), c0]
  have eS : m_nS (z0 I) = 0 := by unfold m_nS; rw [z0_95 (by omega), c0]
  have eZ : m_nZ (z0 I) = 0 := by unfold m_nZ; rw [z0_95 (by omega), c0]
  have eL : m_nL (z0 I) = 0 := by unfold m_nL; rw [z0_95 (by omega), c0]
  have eA : m_nA (z0 I) = 0 := by unfold m_nA; rw [z0_95 (by omega), c0]
  have eK : m_kn (z0 I) = 0 := by unfold m_kn; rw [z0_95 (by omega), c0]
  refine ⟨⟨?_, ?_, ?_, ?_, ?_, ?_⟩, ?_⟩
  · rw [eH, z0_95 (by omega)]; exact ⟨rfl, by omega⟩
  · rw [eS, z0_95 (by omega)]; exact ⟨rfl, by omega⟩
  · rw [eZ, z0_95 (by omega)]; exact ⟨rfl, by omega⟩
  · rw [eL, z0_95 (by omega)]; exact ⟨rfl, by omega⟩
  · rw [eA, z0_95 (by omega)]; exact ⟨rfl, by omega⟩
  · rw [eK, z0_95 (by omega)]; exact ⟨rfl, by omega⟩
  · unfold st_ok
    rw [eS]
    exact ⟨fun l hl => by omega, fun a b l l' hl => by omega⟩
end
/-- what a text leaves as it is -/
def frT (I I' : Nat → Nat → Int32) : Prop := (∀ a, a ≠ 93 → ¬ (95 ≤ a ∧ a ≤ 115) → I' a = I a) ∧ (∀ k, 37 ≤ k → k ≠ 50 → k ≠ 51 → k ≠ 69 → k ≠ 70 → I' 93 k = I 93 k)
section
variable {d N : Nat} {Q : Value → am_H → Prop} {r : am_rho} {I : Nat → Nat → Int32} {J : Nat → Nat → Int64} {n N0 : Nat} {T : Nat → Nat}
theorem md_text (hi : i_str I) (hT : ∀ k, k < n → T k < 256 ∧ I 94 k = nI (T k)) (h2 : I 93 2 = nI N0) (hn : n ≤ N0) (hN7 : N0 ≤ 700)
    (hF : ∀ f q ln' Z' I', rdF n T n 0 (z0 I) false 0 = (f, q, ln', Z') → f ≠ 0 → frT I I' → (∀ a k, 95 ≤ a → a ≤ 115 → k < hfz a → I' a k = I a k) → (∀ k, 37 ≤ k → I' 93 k = I 93 k) → I' 93 2 = nI 0 → I' 93 33 = nI f → I' 93 34 = nI (tkP n T q) → Q (.int (-nI 1)) (am_hp N r I' J))
    (hS : ∀ q ln' Z' I', rdF n T n 0 (z0 I) false 0 = (0, q, ln', Z') → frT I I' → (∀ a k, 95 ≤ a → a ≤ 115 → k < hfy Z' a → I' a k = Z' a k) → zok Z' → I' 93 2 = nI 0 → I' 93 25 = nI ln' → I' 93 33 = nI 0 → I' 93 34 = -nI 1 → I' 93 50 = nI 0 → I' 93 51 = nI 0 → I' 93 69 = nI 0 → I' 93 70 = -nI 1 → ∀ x2, am_D (d + 151) 204 [.ref 93] (am_hp N r I' J) (fun _ h => am_V (d + 151) Q 196 335 [some (.ref 93), some (.int (nI n)), some (.int x2)] [] h)) :
    am_D (d + 152) 196 [.ref 93, .int (nI n)] (am_hp N r I J) Q := by
  have h7 : n ≤ 700 := by omega
  have go : am_D (d + 151) 164 [.ref 93] (am_hp N r (mt4 I n) J) (fun _ h => am_V (d + 151) Q 196 117 [some (.ref 93), some (.int (nI n)), some (.int (nI 6))] [] h) := by
    have e : mt4 I n = mT (mt4 I n) (nI 0) (mt4 I n 93 28) (mt4 I n 93 29) (mt4 I n 93 30) := by
      funext a k
      unfold mT
      by_cases c : a = 93
      · subst c
        rw [if_pos rfl]
        by_cases c1 : k = 27
        · rw [if_pos c1, c1, mt4_93, if_pos (by omega)]
        rw [if_neg c1]
        by_cases c2 : k = 28
        · rw [if_pos c2, c2]
        rw [if_neg c2]
        by_cases c3 : k = 29
        · rw [if_pos c3, c3]
        rw [if_neg c3]
        by_cases c4 : k = 30
        · rw [if_pos c4, c4]
        rw [if_neg c4]
      · rw [if_neg c]
    have htx : tx_m (mt4 I n) n T := by
      refine ⟨h7, ?_, ?_⟩
      · rw [mt4_93, if_neg (by omega), if_pos rfl]
      · intro k hk
        rw [mt4_o (by omega)]
        exact hT k hk
    have his : i_str (mt4 I n) := by
      unfold i_str
      rw [mt4_o (by omega), mt4_o (by omega), mt4_o (by omega), mt4_o (by omega), mt4_o (by omega), mt4_o (by omega)]
      exact hi
    have hV : mV (mt4 I n) (z0 I) := by
      intro a k h1 h2 h3
      refine mt4_hi ⟨h1, h2⟩ ?_
      unfold hfy at h3
      by_cases c : a < 114
      · rw [if_pos c] at h3; exact h3
      · rw [if_neg c] at h3
        unfold m_kn at h3
        rw [z0_95 (by omega), nI_clamp (by omega)] at h3
        omega
    rw [e]
    refine s_M_token (d := d + 144) htx his (Nat.zero_le n) ?_
    intro v hv
    have e2 : mK (mt4 I n) n T 0 v = mS (mt4 I n) n T (0, 0) v := by
      show _ = mK (am_u (am_u (mt4 I n) 93 31 (nI 0)) 93 32 (if 0 = 0 then -nI 1 else nI (tkP n T 0))) n T 0 v
      rw [if_pos rfl, am_uid (x := nI 0) (by rw [mt4_93, if_pos (by omega)]), am_uid (x := -nI 1) (by rw [mt4_93, if_neg (by omega), if_neg (by omega), if_pos rfl])]
    rw [e2]
    refine md_loop n 0 (z0 I) false 0 (mt4 I n) v (by omega) (Nat.zero_le _) ⟨htx, his⟩ ⟨z0_ok, hV, ?_, ?_, ?_, ?_, ?_⟩ hv ?_ ?_
    · rw [mt4_93, if_pos (by omega)]
    · rw [mt4_93, if_pos (by omega)]
    · rw [mt4_93, if_pos (by omega)]
      unfold m_kn
      rw [z0_95 (by omega), nI_clamp (by omega)]
    · rw [mt4_93, if_pos (by omega)]; exact b_z 8
    · intro k hk
      rw [mt4_93, if_pos (by omega), b_z]
      unfold m_has
      rw [(z0_11 hk).1, (z0_11 hk).2, decide_eq_false (by decide)]
    · intro f q ln' Z' I' v' e hf fr
      refine hF f q ln' Z' _ e hf ⟨?_, ?_⟩ ?_ ?_ ?_ ?_ ?_
      · intro a h1 h2
        rw [mS_row h1, am_uRow h1, am_uRow h1, fr.1 a h1 h2, mt4_o (by omega)]
      · intro k h1 _ _ _ _
        rw [mS_o (by omega), am_uN (by omega), am_uN (by omega), fr.2.2 k (by omega), mt4_93, if_neg (by omega), if_neg (by omega), if_neg (by omega)]
      · intro a k h1 h2 h3
        rw [mS_o (by omega), am_uN (by omega), am_uN (by omega), fr.2.1 a k h1 h2 h3, mt4_lo ⟨h1, h2⟩ h3]
      · intro k h1
        rw [mS_o (by omega), am_uN (by omega), am_uN (by omega), fr.2.2 k (by omega), mt4_93, if_neg (by omega), if_neg (by omega), if_neg (by omega)]
      · rw [mS_o (by omega), am_uN (by omega), am_uN (by omega), fr.2.2 2 (by omega), mt4_93, if_pos (by omega)]
      · rw [mS_o (by omega), am_uN (by omega), am_uE]
      · rw [mS_o (by omega), am_uE]
    · intro q ln' Z' I' v' e fr hV' hz' h25
      rw [md_halves]
      have X0 : ∀ a k, a ≠ 93 → mS (am_u (am_u I' 93 33 (nI 0)) 93 34 (-nI 1)) n T (0, q) v' a k = I' a k := by
        intro a k h1
        rw [mS_o (by omega), am_uN (by omega), am_uN (by omega)]
      have X93 : ∀ k, k < 27 ∨ 32 < k → k ≠ 33 → k ≠ 34 → mS (am_u (am_u I' 93 33 (nI 0)) 93 34 (-nI 1)) n T (0, q) v' 93 k = I' 93 k := by
        intro k h1 h2 h3
        rw [mS_o (by omega), am_uN (by omega), am_uN (by omega)]
      have X33 : mS (am_u (am_u I' 93 33 (nI 0)) 93 34 (-nI 1)) n T (0, q) v' 93 33 = nI 0 := by
        rw [mS_o (by omega), am_uN (by omega), am_uE]
      have X34 : mS (am_u (am_u I' 93 33 (nI 0)) 93 34 (-nI 1)) n T (0, q) v' 93 34 = -nI 1 := by
        rw [mS_o (by omega), am_uE]
      generalize mS (am_u (am_u I' 93 33 (nI 0)) 93 34 (-nI 1)) n T (0, q) v' = X at X0 X93 X33 X34
      have Y93 : ∀ k, hAll X 21 93 k = X 93 k := fun k => if_neg (by omega)
      refine hS q ln' Z' _ e ⟨?_, ?_⟩ ?_ hz' ?_ ?_ ?_ ?_ ?_ ?_ ?_ ?_ (nI 6)
      · intro a h1 h2
        rw [am_uRow h1, am_uRow h1, am_uRow h1, am_uRow h1]
        funext k
        show hAll X 21 a k = I a k
        unfold hAll
        rw [if_neg (by omega), X0 a k h1, fr.1 a h1 h2, mt4_o (by omega)]
      · intro k h1 h2 h3 h4 h5
        rw [am_uN (by omega), am_uN (by omega), am_uN (by omega), am_uN (by omega), Y93, X93 k (by omega) (by omega) (by omega), fr.2.2 k (by omega), mt4_93, if_neg (by omega), if_neg (by omega), if_neg (by omega)]
      · intro a k h1 h2 h3
        rw [am_uN (by omega), am_uN (by omega), am_uN (by omega), am_uN (by omega)]
        have h3' : k < hfz a := by
          unfold hfy at h3
          by_cases c : a < 114
          · rw [if_pos c] at h3; exact h3
          · rw [if_neg c] at h3
            have := hz'.1.2.2.2.2.2.2
            have e64 : hfz a = 64 := by rcases (show a = 114 ∨ a = 115 by omega) with rfl | rfl <;> rfl
            omega
        unfold hAll
        rw [if_pos ⟨h1, by omega, h3'⟩, X0 a _ (by omega)]
        exact hV' a k h1 h2 h3
      · rw [am_uN (by omega), am_uN (by omega), am_uN (by omega), am_uN (by omega), Y93, X93 2 (by omega) (by omega) (by omega), fr.2.2 2 (by omega), mt4_93, if_pos (by omega)]
      · rw [am_uN (by omega), am_uN (by omega), am_uN (by omega), am_uN (by omega), Y93, X93 25 (by omega) (by omega) (by omega)]; exact h25
      · rw [am_uN (by omega), am_uN (by omega), am_uN (by omega), am_uN (by omega), Y93, X33]
      · rw [am_uN (by omega), am_uN (by omega), am_uN (by omega), am_uN (by omega), Y93, X34]
      · rw [am_uN (by omega), am_uE]
      · rw [am_uE]
      · rw [am_uN (by omega), am_uN (by omega), am_uN (by omega), am_uE]
      · rw [am_uN (by omega), am_uN (by omega), am_uE]
  have l2 := am_up (P := fun j => am_V (d + 151) Q 196 67 [some (.ref 93), some (.int (nI n)), some (.int (nI (3 + j)))] [] (am_hp N r (zf112 (zf95 (mt0 I n) 7) j) J)) (R := am_D (d + 151) 164 [.ref 93] (am_hp N r (mt4 I n) J) (fun _ h => am_V (d + 151) Q 196 117 [some (.ref 93), some (.int (nI n)), some (.int (nI 6))] [] h)) 3
    (by
      try dsimp only
      rw [e_M_text_67, am_ifi (nI_leI (by omega) (by omega)), if_pos (by omega)]
      rfl)
    (by
      intro j hj
      try dsimp only
      have e : am_u (am_u (zf112 (zf95 (mt0 I n) 7) j) 112 (3 + j) (nI 0)) 113 (3 + j) (nI 0) = zf112 (zf95 (mt0 I n) 7) (j + 1) := by
        generalize zf95 (mt0 I n) 7 = X
        funext a k
        unfold zf112 am_u
        by_cases c : a = 113 ∧ k = 3 + j
        · rw [if_pos c, if_pos (by omega)]
        rw [if_neg c]
        by_cases c1 : a = 112 ∧ k = 3 + j
        · rw [if_pos c1, if_pos (by omega)]
        rw [if_neg c1]
        dsimp only
        by_cases c2 : (a = 112 ∨ a = 113) ∧ 3 ≤ k ∧ k < 3 + j
        · rw [if_pos c2, if_pos (by omega)]
        · rw [if_neg c2, if_neg (by omega)]
      rw [e_M_text_67, am_ifi (nI_leI (by omega) (by omega)), if_neg (by omega), am_gI (by omega) (by omega), am_gI (by omega) (by omega), nI_clamp (by omega), nI_add, e, show 3 + j + 1 = 3 + (j + 1) by omega])
  have l1 := am_up (P := fun j => am_V (d + 151) Q 196 47 [some (.ref 93), some (.int (nI n)), some (.int (nI j))] [] (am_hp N r (zf95 (mt0 I n) j) J)) (R := am_D (d + 151) 164 [.ref 93] (am_hp N r (mt4 I n) J) (fun _ h => am_V (d + 151) Q 196 117 [some (.ref 93), some (.int (nI n)), some (.int (nI 6))] [] h)) 7
    (by
      try dsimp only
      rw [e_M_text_47, am_ifi (nI_leI (by omega) (by omega)), if_pos (Nat.le_refl _)]
      have := l2 0 (by omega)
      have e0 : zf112 (zf95 (mt0 I n) 7) 0 = zf95 (mt0 I n) 7 := by
        funext a k
        show (if _ then _ else _) = _
        rw [if_neg (by omega)]
      rw [e0] at this
      exact this)
    (by
      intro j hj
      try dsimp only
      have e : am_u (zf95 (mt0 I n) j) 95 (7 + j) (nI 0) = zf95 (mt0 I n) (j + 1) := by
        generalize mt0 I n = X
        funext a k
        unfold zf95 am_u
        by_cases c : a = 95 ∧ k = 7 + j
        · rw [if_pos c, if_pos (by omega)]
        rw [if_neg c]
        dsimp only
        by_cases c2 : a = 95 ∧ 7 ≤ k ∧ k < 7 + j
        · rw [if_pos c2, if_pos (by omega)]
        · rw [if_neg c2, if_neg (by omega)]
      rw [e_M_text_47, am_ifi (nI_leI (by omega) (by omega)), if_neg (by omega), e_M_reads, nI_add, am_gI (by omega) (by omega), nI_clamp (by omega), e_M_text_59, nI_add, e])
  have e0 : zf95 (mt0 I n) 0 = mt0 I n := by
    funext a k
    show (if _ then _ else _) = _
    rw [if_neg (by omega)]
  have l := l1 0 (by omega)
  rw [e0] at l
  rw [e_M_text, am_ifi (nI_ltI (by omega) (by omega)), if_neg (by omega), am_uN (by omega), h2, am_ifi (nI_leI (by omega) (by omega)), if_pos hn]
  exact Eq.mpr l go
end
