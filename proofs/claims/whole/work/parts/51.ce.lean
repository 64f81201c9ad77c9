/-! ===== L3: worlds become others, begin, end their night ===== -/
def c_cp (C D : Nat → Nat → Int32) : Nat → Nat → Int32 := fun i j => if (i = 0 ∧ j < 6) ∨ ((i = 1 ∨ i = 2) ∧ j < 5) ∨ ((3 ≤ i ∧ i ≤ 5) ∧ j < 8) then D i j else C i j
def c_rw (C : Nat → Nat → Int32) (i n : Nat) (f : Nat → Int32) : Nat → Nat → Int32 := fun i' j => if i' = i ∧ j < n then f j else C i' j
section
variable {d N w v : Nat} {Q : Value → am_H → Prop} {r : am_rho} {I M C D W : Nat → Nat → Int32} {J : Nat → Nat → Int64} {K P : Nat → Int32}
theorem c_cy {a i n : Nat} (hw : w = 49 ∨ w = 55 ∨ w = 82) (hi : i ≤ 5) (ha : a ≠ 63 ∧ a ≠ 68 ∧ (a < w ∨ w + 5 < a)) : am_cyI (c_C I w C K P) a 0 (w + i) 0 n = c_C I w (c_rw C i n (I a)) K P := by
  funext b j
  unfold am_cyI
  by_cases c : b = w + i ∧ 0 ≤ j ∧ j < 0 + n
  · rw [if_pos c, c_Co ha, c.1, c_Ci hw hi]
    unfold c_rw
    rw [if_pos (by omega), show 0 + (j - 0) = j by omega]
  · rw [if_neg c]
    unfold c_C
    by_cases c1 : b = 63
    · rw [if_pos c1, if_pos c1]
    rw [if_neg c1, if_neg c1]
    by_cases c2 : b = 68
    · rw [if_pos c2, if_pos c2]
    rw [if_neg c2, if_neg c2]
    by_cases c3 : w ≤ b ∧ b ≤ w + 5
    · rw [if_pos c3, if_pos c3]
      unfold c_rw
      rw [if_neg (by omega)]
    · rw [if_neg c3, if_neg c3]
theorem c_fl {i n : Nat} {x : Int32} (hw : w = 49 ∨ w = 55 ∨ w = 82) (hi : i ≤ 5) : am_fl (c_C I w C K P) (w + i) n x = c_C I w (c_rw C i n (fun _ => x)) K P := by
  funext b j
  unfold am_fl
  by_cases c : b = w + i ∧ j < n
  · rw [if_pos c, c.1, c_Ci hw hi]
    unfold c_rw
    rw [if_pos (by omega)]
  · rw [if_neg c]
    unfold c_C
    by_cases c1 : b = 63
    · rw [if_pos c1, if_pos c1]
    rw [if_neg c1, if_neg c1]
    by_cases c2 : b = 68
    · rw [if_pos c2, if_pos c2]
    rw [if_neg c2, if_neg c2]
    by_cases c3 : w ≤ b ∧ b ≤ w + 5
    · rw [if_pos c3, if_pos c3]
      unfold c_rw
      rw [if_neg (by omega)]
    · rw [if_neg c3, if_neg c3]
theorem w_TT (hw : w = 49 ∨ w = 55 ∨ w = 82) : am_TT N (w + 1) = (1, 5) ∧ am_TT N (w + 2) = (1, 5) ∧ am_TT N (w + 3) = (1, 8) ∧ am_TT N (w + 4) = (1, 8) ∧ am_TT N (w + 5) = (1, 8) := by
  rcases hw with rfl | rfl | rfl <;> exact ⟨rfl, rfl, rfl, rfl, rfl⟩
theorem t_TT {t : Nat} (ht : t = 3 ∨ t = 23) : am_TT N (t + 6) = (1, 5) ∧ am_TT N (t + 13) = (1, 8) ∧ am_TT N (t + 4) = (1, 64) ∧ am_TT N (t + 5) = (1, 64) := by
  rcases ht with rfl | rfl <;> exact ⟨rfl, rfl, rfl, rfl⟩
theorem s_W_become (hw : w = 49 ∨ w = 55 ∨ w = 82) (hv : v = 49 ∨ v = 55 ∨ v = 82) (hne : v ≠ w) : am_D (d + 2) 101 [.ref w, .ref v] (am_hp N r (c_C I w C K P) J) Q = Q .null (am_hp N r (c_C I w (c_cp C (fun i j => I (v + i) j)) K P) J) := by
  obtain ⟨w1, w2, w3, w4, w5⟩ := w_TT (N := N) hw
  obtain ⟨v1, v2, v3, v4, v5⟩ := w_TT (N := N) hv
  have o : ∀ {C : Nat → Nat → Int32} {j : Nat}, c_C I w C K P v j = I v j := c_Co (by omega)
  rw [e_World_become hw hv]
  simp (disch := omega) only [o, c_u0]
  rw [s_901 v1 w1 (by omega) (by omega) (by omega) (by omega), c_cy hw (by omega) (by omega), e_World_become_62 hw hv]
  rw [s_901 v2 w2 (by omega) (by omega) (by omega) (by omega), c_cy hw (by omega) (by omega), e_World_become_76 hw hv]
  rw [s_901 v3 w3 (by omega) (by omega) (by omega) (by omega), c_cy hw (by omega) (by omega), e_World_become_91 hw hv]
  rw [s_901 v4 w4 (by omega) (by omega) (by omega) (by omega), c_cy hw (by omega) (by omega), e_World_become_106 hw hv]
  rw [s_901 v5 w5 (by omega) (by omega) (by omega) (by omega), c_cy hw (by omega) (by omega), e_World_become_121 hw hv]
  refine congrArg (fun X => Q .null (am_hp N r (c_C I w X K P) J)) ?_
  funext i j
  unfold c_rw am_u c_cp
  try dsimp only
  by_cases c5 : i = 5 ∧ j < 8
  · rw [if_pos c5, if_pos (by omega), c5.1]
  rw [if_neg c5]
  by_cases c4 : i = 4 ∧ j < 8
  · rw [if_pos c4, if_pos (by omega), c4.1]
  rw [if_neg c4]
  by_cases c3 : i = 3 ∧ j < 8
  · rw [if_pos c3, if_pos (by omega), c3.1]
  rw [if_neg c3]
  by_cases c2 : i = 2 ∧ j < 5
  · rw [if_pos c2, if_pos (by omega), c2.1]
  rw [if_neg c2]
  by_cases c1 : i = 1 ∧ j < 5
  · rw [if_pos c1, if_pos (by omega), c1.1]
  rw [if_neg c1]
  by_cases c0 : i = 0 ∧ j < 6
  · rw [if_pos (Or.inl c0)]
    obtain ⟨rfl, hj⟩ := c0
    have : j = 0 ∨ j = 1 ∨ j = 2 ∨ j = 3 ∨ j = 4 ∨ j = 5 := by omega
    rcases this with rfl | rfl | rfl | rfl | rfl | rfl <;> rfl
  · rw [if_neg (show ¬ ((i = 0 ∧ j < 6) ∨ ((i = 1 ∨ i = 2) ∧ j < 5) ∨ ((3 ≤ i ∧ i ≤ 5) ∧ j < 8)) by omega)]
    rw [if_neg (by omega), if_neg (by omega), if_neg (by omega), if_neg (by omega), if_neg (by omega), if_neg (by omega)]
theorem cw_cp (hok : m_ok M) (hr : cw_rel M D W) : cw_rel M (c_cp C D) W := by
  obtain ⟨⟨hH, hH8⟩, ⟨hS, hS12⟩, ⟨hZ, hZ5⟩, ⟨hL, hL8⟩, ⟨hA, hA6⟩, hB, hl⟩ := hok
  obtain ⟨r0, r1, r2, r3, r4, r5, r6, r7, r8, r9⟩ := hr
  have e : ∀ {i j : Nat}, (i = 0 ∧ j < 6) ∨ ((i = 1 ∨ i = 2) ∧ j < 5) ∨ ((3 ≤ i ∧ i ≤ 5) ∧ j < 8) → c_cp C D i j = D i j := fun h => if_pos h
  refine ⟨?_, ?_, ?_, ?_, ?_, ?_, ?_, ?_, ?_, ?_⟩
  · rw [e (by omega)]; exact r0
  · rw [e (by omega)]; exact r1
  · rw [e (by omega)]; exact r2
  · rw [e (by omega)]; exact r3
  · intro k hk; rw [e (by omega)]; exact r4 k hk
  · intro k hk l hl; rw [e (by omega)]; exact r5 k hk l hl
  · intro k hk l hl; rw [e (by omega)]; exact r6 k hk l hl
  · intro l hl; rw [e (by omega)]; exact r7 l hl
  · intro l hl; rw [e (by omega)]; exact r8 l hl
  · intro k hk; rw [e (by omega)]; exact r9 k hk
def m_endX (I : Nat → Nat → Int32) (W : Nat → Nat → Int32) : Nat → Nat → Int32 := am_u (am_u (am_u (m_endL I W (m_nZ I)) 4 0 (nI 0)) 0 0 (nI 0)) 1 0 (W 1 0 + nI 1)
theorem m_endL_k {f : Nat} (hf : f < 5 ∨ f = 8 ∨ f = 9) : ∀ n, m_endL M W n f = W f
  | 0 => rfl
  | n + 1 => by
    unfold m_endL
    rw [am_uRow (by omega), m_downF_k (by omega), m_endL_k hf n]
theorem m_okW_endL (hok : m_ok M) (hW : m_okW M W) : ∀ n, n ≤ m_nZ M → m_okW M (m_endL M W n)
  | 0, _ => hW
  | n + 1, h => by
    intro s hs
    unfold m_endL
    by_cases e : s = n
    · subst e
      rw [am_uE]
      exact hok.2.2.2.2.2.1 s hs
    · rw [am_uN (by omega), m_downF_k (by omega)]
      exact m_okW_endL hok hW n (by omega) s hs
theorem s_W_endNight {t : Nat} (ht : t = 3 ∨ t = 23) (hw : w = 49 ∨ w = 55 ∨ w = 82) (hok : m_ok M) (hr : cw_rel M C W) (hW : m_okW M W) (e2 : I t 2 = M 95 2) (eb : ∀ s, s < m_nZ M → I (t + 6) s = M 104 s)
    (hQ : ∀ C', cw_rel M C' (m_endX M W) → C' 0 5 = C 0 5 → (∀ h, C' 5 h = C 5 h) → Q .null (am_hp N r (c_C I w C' K P) J)) : am_D (d + 2) 112 [.ref w, .ref t] (am_hp N r (c_C I w C K P) J) Q := by
  have hok' := hok
  obtain ⟨⟨hH, hH8⟩, ⟨hS, hS12⟩, ⟨hZ, hZ5⟩, ⟨hL, hL8⟩, ⟨hA, hA6⟩, hB, hl⟩ := hok'
  have lp : ∀ k s, m_nZ M = s + k → ∀ C', cw_rel M C' (m_endL M W s) → C' 0 5 = C 0 5 → (∀ h, C' 5 h = C 5 h) → am_V (d + 1) Q 112 2 [some (.ref w), some (.ref t), some (.int (nI s))] [] (am_hp N r (c_C I w C' K P) J) := by
    intro k
    induction k with
    | zero =>
      intro s hs C' h1 h2 h3
      obtain rfl : s = m_nZ M := by omega
      rw [e_World_endNight_2 hw ht]
      try simp (config := {maxSteps := 1000000}) (disch := omega) only [nI_add, nI_1, am_mulN, nI_clamp, am_gI, am_ifd, am_ifn, am_asIe, am_asLe, nI_leI, nI_ltI, nI_eq, am_neg1, am_neg1b, c_CK, c_CP, c_Co, c_C0, c_Ci, c_ui, c_u0, c_uK, c_uP, c_Jv, c_Js, c_uv, c_us, e2, hZ, Nat.le_refl, if_true, am_uN]
      refine hQ _ ?_ ?_ ?_
      · have := cw_u1 (x := C' 0 1 + nI 1) (cw_u0 (x := nI 0) (cw_u3 (x := nI 0) h1))
        rw [h1.2.1, m_endL_k (by omega)] at this
        rw [h1.2.1, m_endL_k (by omega)]
        exact this
      · rw [am_uN (by omega), am_uN (by omega), am_uN (by omega)]; exact h2
      · intro h; rw [am_uN (by omega), am_uN (by omega), am_uN (by omega)]; exact h3 h
    | succ k ih =>
      intro s hs C' h1 h2 h3
      have ih1 := ih (s + 1) (by omega)
      obtain ⟨q, hq, hq'⟩ := m_okW_endL hok hW s (by omega) s (by omega)
      have hC1 : C' 1 s = nI q := by rw [h1.2.2.2.2.1 s (by omega)]; exact hq'
      obtain ⟨bd, hbd, hbd'⟩ := hB s (by omega)
      rw [e_World_endNight_2 hw ht]
      try simp (config := {maxSteps := 1000000}) (disch := omega) only [nI_add, nI_1, am_mulN, nI_clamp, am_gI, am_ifd, am_ifn, am_asIe, am_asLe, nI_leI, nI_ltI, nI_eq, am_neg1, am_neg1b, c_CK, c_CP, c_Co, c_C0, c_Ci, c_ui, c_u0, c_uK, c_uP, c_Jv, c_Js, c_uv, c_us, e2, hZ]
      rw [if_neg (by omega), s_W_down hw (by omega) (by omega) hC1, e_World_endNight_15 hw ht]
      try simp (config := {maxSteps := 1000000}) (disch := omega) only [nI_add, nI_1, am_mulN, nI_clamp, am_gI, am_ifd, am_ifn, am_asIe, am_asLe, nI_leI, nI_ltI, nI_eq, am_neg1, am_neg1b, c_CK, c_CP, c_Co, c_C0, c_Ci, c_ui, c_u0, c_uK, c_uP, c_Jv, c_Js, c_uv, c_us, eb, hbd']
      refine ih1 _ ?_ ?_ ?_
      · have := cw_at (s := s) (h := bd) (cw_down (s := s) (h := q) h1 (by omega) (by omega))
        unfold m_endL
        rw [hq', hbd']
        exact this
      · unfold c_down
        rw [am_uN (by omega), am_uN (by omega), am_uN (by omega)]; exact h2
      · intro h
        unfold c_down
        rw [am_uN (by omega), am_uN (by omega), am_uN (by omega)]; exact h3 h
  rw [e_World_endNight hw ht]
  exact lp (m_nZ M) 0 (by omega) C hr rfl (fun _ => rfl)
theorem m_endL_0 {x : Int32} : ∀ n, m_endL M (am_u W 0 0 x) n = am_u (m_endL M W n) 0 0 x
  | 0 => rfl
  | n + 1 => by
    unfold m_endL
    rw [m_endL_0 n]
    have e5 : am_u (m_endL M W n) 0 0 x 5 n = m_endL M W n 5 n := am_uN (by omega)
    rw [e5]
    generalize m_endL M W n = V
    funext f k
    unfold am_u m_downF
    try dsimp only
    by_cases c : f = 5 ∧ k = n
    · rw [if_pos c, if_neg (by omega), if_pos c]
    · rw [if_neg c]
      by_cases c0 : f = 0 ∧ k = 0
      · rw [if_neg (by omega), if_pos c0, if_pos c0]
      · rw [if_neg c0, if_neg c0, if_neg c]
        simp only [show ¬ (6 = 0 ∧ k = 0) by omega, show ¬ (7 = 0 ∧ k = 0) by omega, if_false]
theorem m_end_eq : m_end M W = if nI 12 ≤ W 0 0 + nI 1 then m_endX M W else am_u W 0 0 (W 0 0 + nI 1) := by
  unfold m_end m_endX
  try dsimp only
  split
  · rw [m_endL_0]
    have e1 : am_u (m_endL M W (m_nZ M)) 0 0 (W 0 0 + nI 1) 1 0 = W 1 0 := by rw [am_uN (by omega), m_endL_k (by omega)]
    rw [e1]
    funext f k
    unfold am_u
    by_cases c0 : f = 0 ∧ k = 0
    · simp [c0]
    · simp only [c0, if_false]
  · rfl
end
