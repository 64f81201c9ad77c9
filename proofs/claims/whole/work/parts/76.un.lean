/-! ===== L3: a change is kept for undo, by both ===== -/
def m_cpy (I : Nat → Nat → Int32) (n a : Nat) : Nat → Nat → Int32 := m_M I n (m_g I a) (I 93 39) (I 128) (I 129)
section
variable {d N : Nat} {Q : Value → am_H → Prop} {r : am_rho} {I : Nat → Nat → Int32} {J : Nat → Nat → Int64}
theorem cpy_row {n a b : Nat} (h : b < 118 ∨ 127 < b) : m_cpy I n a b = I b := by
  funext j
  unfold m_cpy
  by_cases c : b = 128
  · subst c; rw [m_MF]
  · by_cases c2 : b = 129
    · subst c2; rw [m_MT]
    · by_cases c3 : b = 93 ∧ j = 39
      · rw [c3.1, c3.2, m_Mv]
      · exact m_Mo (by omega)
theorem cpy_n {n a : Nat} : m_g (m_cpy I n a) n = m_g I a := g_wq (I := I) wq_n
theorem cpy_o {n a m : Nat} (h : m ≠ n) : m_g (m_cpy I n a) m = m_g I m := m_gX h
theorem s_M_cpy {n a : Nat} (hn : n < 23) (ha : a < 23) (hne : a ≠ n) : am_D (d + 1) 205 [.ref 93, .int (nI n), .int (nI a)] (am_hp N r I J) Q = Q .null (am_hp N r (m_cpy I n a) J) := by
  have e : am_hp N r I J = am_hp N r (m_M I n (m_g I n) (I 93 39) (I 128) (I 129)) J := by rw [m_id]
  rw [e, s_M_copies hn ha hne]
  rfl
/-- what keepNow leaves: n worlds were kept, s of them fall out -/
def kept (I I' : Nat → Nat → Int32) (n s : Nat) : Prop := (∀ a, a ≠ 93 → (a < 118 ∨ 127 < a) → I' a = I a) ∧ (∀ k, k ≠ 51 → I' 93 k = I 93 k) ∧ I' 93 51 = nI (n - s + 1) ∧ (∀ m, m < 3 → m_g I' m = m_g I m) ∧ (∀ j, j < n - s → m_g I' (3 + j) = m_g I (3 + (j + s))) ∧ m_g I' (3 + (n - s)) = m_g I 0
theorem s_M_keepNow {n : Nat} (h : I 93 51 = nI n) (hn : n ≤ 20) (hQ : ∀ I' s, (s = if n = 20 then 1 else 0) → kept I I' n s → Q .null (am_hp N r I' J)) : am_D (d + 2) 240 [.ref 93] (am_hp N r I J) Q := by
  rw [e_M_keepNow, h]
  by_cases c : n = 20
  · subst c
    rw [am_ifn, if_pos rfl]
    have lp : ∀ k j, 20 = j + k → 1 ≤ j → ∀ I', (∀ a, (a < 118 ∨ 127 < a) → I' a = I a) → (∀ i, i + 1 < j → m_g I' (3 + i) = m_g I (3 + (i + 1))) → (∀ m, (m < 3 ∨ 2 + j ≤ m) → m_g I' m = m_g I m) → am_V (d + 1) Q 240 11 [some (.ref 93), some (.int (nI j))] [] (am_hp N r I' J) := by
      intro k
      induction k with
      | zero =>
        intro j hj hj1 I' h1 h2 h3
        obtain rfl : j = 20 := by omega
        rw [e_M_keepNow_11]
        try simp (config := {maxSteps := 1000000}) (disch := omega) only [nI_add, nI_1, am_mulN, nI_clamp, am_gI, am_ifd, am_ifn, am_asIe, am_asLe, nI_leI, nI_ltI, nI_eq, am_neg1, am_neg1b, Nat.le_refl, if_true]
        rw [h1 93 (by omega), h, am_subN (by omega), am_uE]
        try simp (config := {maxSteps := 1000000}) (disch := omega) only [nI_add, nI_1, am_mulN, nI_clamp, am_gI, am_ifd, am_ifn, am_asIe, am_asLe, nI_leI, nI_ltI, nI_eq, am_neg1, am_neg1b]
        rw [show 3 + (20 - 1) = 22 by omega, s_M_cpy (by omega) (by omega) (by omega), e_M_keepNow_56]
        refine hQ _ 1 (by rw [if_pos rfl]) ⟨?_, ?_, ?_, ?_, ?_, ?_⟩
        · intro a ha hb
          rw [am_uRow (by omega), cpy_row hb, am_uRow (by omega), h1 a hb]
        · intro k hk
          rw [am_uN (by omega), cpy_row (by omega), am_uN (by omega), h1 93 (by omega)]
        · rw [am_uE, cpy_row (by omega), am_uE, nI_add]
        · intro m hm
          have e : m_g (am_u (m_cpy (am_u I' 93 51 (nI (20 - 1))) 22 0) 93 51 (m_cpy (am_u I' 93 51 (nI (20 - 1))) 22 0 93 51 + nI 1)) m = m_g (m_cpy (am_u I' 93 51 (nI (20 - 1))) 22 0) m := g_row (fun a h1 h2 => am_uRow (by omega))
          have e2 : m_g (am_u I' 93 51 (nI (20 - 1))) m = m_g I' m := g_row (fun a h1 h2 => am_uRow (by omega))
          rw [e, cpy_o (by omega), e2, h3 m (by omega)]
        · intro i hi
          have e : m_g (am_u (m_cpy (am_u I' 93 51 (nI (20 - 1))) 22 0) 93 51 (m_cpy (am_u I' 93 51 (nI (20 - 1))) 22 0 93 51 + nI 1)) (3 + i) = m_g (m_cpy (am_u I' 93 51 (nI (20 - 1))) 22 0) (3 + i) := g_row (fun a h1 h2 => am_uRow (by omega))
          have e2 : m_g (am_u I' 93 51 (nI (20 - 1))) (3 + i) = m_g I' (3 + i) := g_row (fun a h1 h2 => am_uRow (by omega))
          rw [e, cpy_o (by omega), e2, h2 i (by omega)]
        · have e : m_g (am_u (m_cpy (am_u I' 93 51 (nI (20 - 1))) 22 0) 93 51 (m_cpy (am_u I' 93 51 (nI (20 - 1))) 22 0 93 51 + nI 1)) 22 = m_g (m_cpy (am_u I' 93 51 (nI (20 - 1))) 22 0) 22 := g_row (fun a h1 h2 => am_uRow (by omega))
          have e2 : m_g (am_u I' 93 51 (nI (20 - 1))) 0 = m_g I' 0 := g_row (fun a h1 h2 => am_uRow (by omega))
          rw [show 3 + (20 - 1) = 22 by omega, e, cpy_n, e2, h3 0 (by omega)]
      | succ k ih =>
        intro j hj hj1 I' h1 h2 h3
        rw [e_M_keepNow_11]
        try simp (config := {maxSteps := 1000000}) (disch := omega) only [nI_add, nI_1, am_mulN, nI_clamp, am_gI, am_ifd, am_ifn, am_asIe, am_asLe, nI_leI, nI_ltI, nI_eq, am_neg1, am_neg1b]
        rw [if_neg (by omega), am_subN (by omega), s_M_cpy (by omega) (by omega) (by omega), e_M_keepNow_29]
        try simp (config := {maxSteps := 1000000}) (disch := omega) only [nI_add, nI_1, am_mulN, nI_clamp, am_gI, am_ifd, am_ifn, am_asIe, am_asLe, nI_leI, nI_ltI, nI_eq, am_neg1, am_neg1b]
        refine ih (j + 1) (by omega) (by omega) _ ?_ ?_ ?_
        · intro a ha
          rw [cpy_row ha, h1 a ha]
        · intro i hi
          by_cases e : 3 + i = 3 + j - 1
          · rw [e, cpy_n, h3 (3 + j) (by omega), show 3 + (i + 1) = 3 + j by omega]
          · rw [cpy_o e, h2 i (by omega)]
        · intro m hm
          rw [cpy_o (by omega), h3 m (by omega)]
    exact lp 19 1 (by omega) (by omega) I (fun a ha => rfl) (fun i hi => by omega) (fun m hm => rfl)
  · rw [am_ifn, if_neg (by rw [nI_eq (by omega) (by omega)]; omega), nI_add, s_M_cpy (by omega) (by omega) (by omega), e_M_keepNow_56]
    refine hQ _ 0 (by rw [if_neg c]) ⟨?_, ?_, ?_, ?_, ?_, ?_⟩
    · intro a ha hb
      rw [am_uRow (by omega), cpy_row hb]
    · intro k hk
      rw [am_uN (by omega), cpy_row (by omega)]
    · rw [am_uE, cpy_row (by omega), h, nI_add]; rfl
    · intro m hm
      have e : m_g (am_u (m_cpy I (3 + n) 0) 93 51 (m_cpy I (3 + n) 0 93 51 + nI 1)) m = m_g (m_cpy I (3 + n) 0) m := g_row (fun a h1 h2 => am_uRow (by omega))
      rw [e, cpy_o (by omega)]
    · intro i hi
      have e : m_g (am_u (m_cpy I (3 + n) 0) 93 51 (m_cpy I (3 + n) 0 93 51 + nI 1)) (3 + i) = m_g (m_cpy I (3 + n) 0) (3 + i) := g_row (fun a h1 h2 => am_uRow (by omega))
      rw [e, cpy_o (by omega)]; rfl
    · have e : m_g (am_u (m_cpy I (3 + n) 0) 93 51 (m_cpy I (3 + n) 0 93 51 + nI 1)) (3 + n) = m_g (m_cpy I (3 + n) 0) (3 + n) := g_row (fun a h1 h2 => am_uRow (by omega))
      rw [show 3 + (n - 0) = 3 + n by omega, e, cpy_n]
/-- what the class's Changes keep -/
def chgd (I I' : Nat → Nat → Int32) (n s : Nat) (x y z : Int32) : Prop := (∀ a, a < 77 ∨ 80 < a → I' a = I a) ∧ I' 77 0 = nI (n - s + 1) ∧ (∀ j, j < n - s → I' 78 j = I 78 (j + s) ∧ I' 79 j = I 79 (j + s) ∧ I' 80 j = I 80 (j + s)) ∧ I' 78 (n - s) = x ∧ I' 79 (n - s) = y ∧ I' 80 (n - s) = z
theorem s_Ch_add {n : Nat} {x y z : Int32} (h : I 77 0 = nI n) (hn : n ≤ 20) (hQ : ∀ I' s, (s = if n = 20 then 1 else 0) → chgd I I' n s x y z → Q .null (am_hp N r I' J)) : am_D (d + 2) 1 [.ref 77, .int x, .int y, .int z] (am_hp N r I J) Q := by
  have u : ∀ {I : Nat → Nat → Int32} {a k : Nat} {v : Int32}, a ≠ 77 → am_u I a k v 77 0 = I 77 0 := fun h => am_uN (by omega)
  rw [e_Changes_add]
  by_cases c : n = 20
  · subst c
    have T78 : am_TT N 78 = (1, 20) := rfl
    have T79 : am_TT N 79 = (1, 20) := rfl
    have T80 : am_TT N 80 = (1, 20) := rfl
    rw [h, am_ifd, if_neg (by decide +kernel), s_901 T78 T78 (by omega) (by omega) (by omega) (by omega), e_Changes_add_24, s_901 T79 T79 (by omega) (by omega) (by omega) (by omega), e_Changes_add_39, s_901 T80 T80 (by omega) (by omega) (by omega) (by omega), e_Changes_add_54]
    simp (disch := omega) only [u, am_uE, nI_clamp, am_gI, nI_add]
    have cy : ∀ {I : Nat → Nat → Int32} {a b j : Nat}, b ≠ a → am_cyI I a 1 a 0 19 b j = I b j := by
      intro I a b j hb; unfold am_cyI; rw [if_neg (by omega)]
    have cyr : ∀ {I : Nat → Nat → Int32} {a b : Nat}, b ≠ a → am_cyI I a 1 a 0 19 b = I b := by
      intro I a b hb; funext j; exact cy hb
    have cyi : ∀ {I : Nat → Nat → Int32} {a j : Nat}, j < 19 → am_cyI I a 1 a 0 19 a j = I a (j + 1) := by
      intro I a j hj; unfold am_cyI; rw [if_pos (by omega), show 1 + (j - 0) = j + 1 by omega]
    refine hQ _ 1 (by rw [if_pos rfl]) ⟨?_, ?_, ?_, ?_, ?_, ?_⟩
    · intro a ha
      rw [am_uRow (by omega), am_uRow (by omega), am_uRow (by omega), am_uRow (by omega), am_uRow (by omega), cyr (by omega), cyr (by omega), cyr (by omega)]
    · rw [am_uE]
    · intro j hj
      refine ⟨?_, ?_, ?_⟩
      · rw [am_uN (by omega), am_uN (by omega), am_uN (by omega), am_uN (by omega), am_uN (by omega), cy (by omega), cy (by omega), cyi (by omega)]
      · rw [am_uN (by omega), am_uN (by omega), am_uN (by omega), am_uN (by omega), am_uN (by omega), cy (by omega), cyi (by omega), cy (by omega)]
      · rw [am_uN (by omega), am_uN (by omega), am_uN (by omega), am_uN (by omega), am_uN (by omega), cyi (by omega), cy (by omega), cy (by omega)]
    · rw [am_uN (by omega), am_uN (by omega), am_uN (by omega), am_uE]
    · rw [am_uN (by omega), am_uN (by omega), am_uE]
    · rw [am_uN (by omega), am_uE]
  · simp (disch := omega) only [u, am_uE, h, nI_clamp, am_gI, am_ifd, nI_ltI, nI_add]
    rw [if_pos (by omega)]
    refine hQ _ 0 (by rw [if_neg c]) ⟨?_, ?_, ?_, ?_, ?_, ?_⟩
    · intro a ha
      rw [am_uRow (by omega), am_uRow (by omega), am_uRow (by omega), am_uRow (by omega)]
    · rw [am_uE]; rfl
    · intro j hj
      refine ⟨?_, ?_, ?_⟩
      · rw [am_uN (by omega), am_uN (by omega), am_uN (by omega), am_uN (by omega)]; rfl
      · rw [am_uN (by omega), am_uN (by omega), am_uN (by omega), am_uN (by omega)]; rfl
      · rw [am_uN (by omega), am_uN (by omega), am_uN (by omega), am_uN (by omega)]; rfl
    · rw [am_uN (by omega), am_uN (by omega), am_uN (by omega), show n - 0 = n by omega, am_uE]
    · rw [am_uN (by omega), am_uN (by omega), show n - 0 = n by omega, am_uE]
    · rw [am_uN (by omega), show n - 0 = n by omega, am_uE]
end
