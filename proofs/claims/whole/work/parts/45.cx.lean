/-! ===== L3: the class walks, second part ===== -/
theorem c_rnd (x : Int32) : Int64.toInt32 (((Int32.toInt64 x) * (Int64.ofNat 1103515245) + (Int64.ofNat 12345)) &&& (Int64.ofNat 2147483647)) = m_rnd x := by
  unfold m_rnd
  rw [Int64.toInt32_and, Int64.toInt32_add, Int64.toInt32_mul, Int32.toInt32_toInt64]
  rfl
theorem c_rndN (x : Int32) : ∃ m, m < 2 ^ 31 ∧ m_rnd x = nI m := by
  unfold m_rnd
  generalize x * nI 1103515245 + nI 12345 = y
  obtain ⟨j, hj, he⟩ := pk_andE y (m := nI 2147483647) 31 (by decide +kernel)
  exact ⟨j, hj, he⟩
theorem c_d65 (x : Int32) : m_rnd x / nI 65536 = m_rnd x >>> (nI 16 &&& nI 31) := by
  obtain ⟨m, hm, he⟩ := c_rndN x
  rw [he, pk_div hm (by omega) (by omega), c_shr (by omega) hm]
section
variable {d N w : Nat} {Q : Value → am_H → Prop} {r : am_rho} {I M C W : Nat → Nat → Int32} {J : Nat → Nat → Int64} {K P : Nat → Int32} {vl st : Nat → Int64} {t nw nf rt rs rd rl rx : Nat} {F : Nat → Int32} {b : Bool} {bl : Nat → Int32} {lit ml : Int32}
theorem s_W_draw (hw : w = 49 ∨ w = 55 ∨ w = 82) : am_D (d + 1) 113 [.ref w] (am_hp N r (c_C I w C K P) J) Q = Q (.int (m_rnd (C 0 2) >>> (nI 16 &&& nI 31))) (am_hp N r (c_C I w (am_u C 0 2 (m_rnd (C 0 2))) K P) J) := by
  rw [e_World_draw hw]
  try simp (config := {maxSteps := 1000000}) (disch := omega) only [nI_add, nI_1, am_mulN, nI_clamp, am_gI, am_ifd, am_ifn, am_asIe, am_asLe, nI_leI, nI_ltI, nI_eq, am_neg1, am_neg1b, c_CK, c_CP, c_Co, c_C0, c_Ci, c_ui, c_u0, c_uK, c_uP, c_Jv, c_Js, c_uv, c_us, c_rnd, am_uE, c_d65]
theorem s_W_over {s : Nat} {m : Int32} (hw : w = 49 ∨ w = 55 ∨ w = 82) (hs : s < 5) : am_D (d + 1) 109 [.ref w, .int (nI s), .int m] (am_hp N r (c_C I w C K P) J) Q = Q .null (am_hp N r (c_C I w (c_over C s m) K P) J) := by
  rw [e_World_handOver hw]
  try simp (config := {maxSteps := 1000000}) (disch := omega) only [nI_add, nI_1, am_mulN, nI_clamp, am_gI, am_ifd, am_ifn, am_asIe, am_asLe, nI_leI, nI_ltI, nI_eq, am_neg1, am_neg1b, c_CK, c_CP, c_Co, c_C0, c_Ci, c_ui, c_u0, c_uK, c_uP, c_Jv, c_Js, c_uv, c_us, c_over, am_uN]
theorem s_W_down {s h : Nat} (hw : w = 49 ∨ w = 55 ∨ w = 82) (hs : s < 5) (hh : h < 8) (ha : C 1 s = nI h) : am_D (d + 1) 110 [.ref w, .int (nI s)] (am_hp N r (c_C I w C K P) J) Q = Q .null (am_hp N r (c_C I w (c_down C s h) K P) J) := by
  rw [e_World_putDown hw]
  try simp (config := {maxSteps := 1000000}) (disch := omega) only [nI_add, nI_1, am_mulN, nI_clamp, am_gI, am_ifd, am_ifn, am_asIe, am_asLe, nI_leI, nI_ltI, nI_eq, am_neg1, am_neg1b, c_CK, c_CP, c_Co, c_C0, c_Ci, c_ui, c_u0, c_uK, c_uP, c_Jv, c_Js, c_uv, c_us, c_down, am_uN, ha]
theorem s_W_take {s h : Nat} (hw : w = 49 ∨ w = 55 ∨ w = 82) (hs : s < 5) (hh : h < 8) : am_D (d + 1) 108 [.ref w, .int (nI s), .int (nI h)] (am_hp N r (c_C I w C K P) J) Q = Q .null (am_hp N r (c_C I w (if C 1 s = nI h then c_take C s h else C) K P) J) := by
  have tz : ∀ l, l < 8 → C 3 h >>> (nI l &&& nI 31) = nI 0 → ∀ i, l ≤ i → i < 8 → bt (C 3 h) i = false := by
    intro l hl e i h1 h2
    have e1 : bt (C 3 h >>> (nI l &&& nI 31)) (i - l) = _ := b_sshr l (by omega) (C 3 h) (show i - l < 32 by omega)
    rw [e, b_z, if_pos (by omega), show l + (i - l) = i by omega] at e1
    exact e1.symm
  let A : Nat → Nat → Nat → Int32 := fun k f l => if f = 4 ∧ l < k ∧ bt (C 3 h) l = true then nI s else am_u (am_u C 3 h (nI 0)) 2 s (C 2 s ||| C 3 h) f l
  have A8 : A 8 = c_take C s h := rfl
  have A0 : A 0 = am_u (am_u C 3 h (nI 0)) 2 s (C 2 s ||| C 3 h) := by
    funext f l
    show (if _ then _ else _) = _
    rw [if_neg (by omega)]
  have Ay : ∀ k, bt (C 3 h) k = true → am_u (A k) 4 k (nI s) = A (k + 1) := by
    intro k hk
    funext f l
    unfold am_u
    show _ = if _ then _ else _
    by_cases c : f = 4 ∧ l = k
    · rw [if_pos c, if_pos ⟨c.1, by omega, by rw [c.2]; exact hk⟩]
    · rw [if_neg c]
      show (if _ then _ else _) = _
      by_cases c2 : f = 4 ∧ l < k ∧ bt (C 3 h) l = true
      · rw [if_pos c2, if_pos ⟨c2.1, by omega, c2.2.2⟩]
      · rw [if_neg c2, if_neg]
        intro g
        exact c2 ⟨g.1, by omega, g.2.2⟩
  have An : ∀ k, bt (C 3 h) k = false → A k = A (k + 1) := by
    intro k hk
    funext f l
    show (if _ then _ else _) = if _ then _ else _
    by_cases c2 : f = 4 ∧ l < k ∧ bt (C 3 h) l = true
    · rw [if_pos c2, if_pos ⟨c2.1, by omega, c2.2.2⟩]
    · rw [if_neg c2, if_neg]
      intro g
      by_cases e : l = k
      · rw [e, hk] at g; exact absurd g.2.2 (by decide)
      · exact c2 ⟨g.1, by omega, g.2.2⟩
  have lp : ∀ k j, 8 = j + k → am_V d Q 108 38 [some (.ref w), some (.int (nI s)), some (.int (nI h)), some (.int (C 3 h)), some (.int (nI j))] [] (am_hp N r (c_C I w (A j) K P) J) = Q .null (am_hp N r (c_C I w (c_take C s h) K P) J) := by
    intro k
    induction k with
    | zero =>
      intro j hj
      obtain rfl : j = 8 := by omega
      rw [e_World_take_38 hw]
      try simp (config := {maxSteps := 1000000}) (disch := omega) only [nI_add, nI_1, am_mulN, nI_clamp, am_gI, am_ifd, am_ifn, am_asIe, am_asLe, nI_leI, nI_ltI, nI_eq, am_neg1, am_neg1b, c_CK, c_CP, c_Co, c_C0, c_Ci, c_ui, c_u0, c_uK, c_uP, c_Jv, c_Js, c_uv, c_us, Nat.le_refl, if_true, A8]
    | succ k ih =>
      intro j hj
      have ih1 := ih (j + 1) (by omega)
      rw [e_World_take_38 hw]
      try simp (config := {maxSteps := 1000000}) (disch := omega) only [nI_add, nI_1, am_mulN, nI_clamp, am_gI, am_ifd, am_ifn, am_asIe, am_asLe, nI_leI, nI_ltI, nI_eq, am_neg1, am_neg1b, c_CK, c_CP, c_Co, c_C0, c_Ci, c_ui, c_u0, c_uK, c_uP, c_Jv, c_Js, c_uv, c_us, b_v, b_v0]
      rw [if_neg (by omega)]
      by_cases c : C 3 h >>> (nI j &&& nI 31) = nI 0
      · rw [if_pos c]
        have : ∀ m, m ≤ 8 - j → A j = A (j + m) := by
          intro m
          induction m with
          | zero => intro _; rfl
          | succ m ihm =>
            intro hm
            rw [ihm (by omega)]
            exact An (j + m) (tz j (by omega) c (j + m) (by omega) (by omega))
        rw [this (8 - j) (by omega), show j + (8 - j) = 8 by omega, A8]
      · rw [if_neg c]
        cases hb : bt (C 3 h) j
        · rw [if_pos rfl, An j hb]; exact ih1
        · rw [if_neg (by decide), Ay j hb]; exact ih1
  rw [e_World_take hw]
  try simp (config := {maxSteps := 1000000}) (disch := omega) only [nI_add, nI_1, am_mulN, nI_clamp, am_gI, am_ifd, am_ifn, am_asIe, am_asLe, nI_leI, nI_ltI, nI_eq, am_neg1, am_neg1b, c_CK, c_CP, c_Co, c_C0, c_Ci, c_ui, c_u0, c_uK, c_uP, c_Jv, c_Js, c_uv, c_us, am_uN]
  by_cases c : C 1 s = nI h
  · rw [if_pos c, if_pos c, ← A0]
    exact lp 8 0 (by omega)
  · rw [if_neg c, if_neg c]
end
