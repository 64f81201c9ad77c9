/-! ===== L3: the constructors, and the law from its first row ===== -/
theorem am_zE {I : Nat → Nat → Int32} {a k : Nat} : am_z I a a k = nI 0 := if_pos rfl
theorem am_zN {I : Nat → Nat → Int32} {a b k : Nat} (h : b ≠ a) : am_z I a b k = I b k := if_neg h
theorem k_900 {d a : Nat} {h : am_H} {Q : Value → am_H → Prop} : am_D (d + 1) 900 [.ref a] h Q = Q .null h := rfl
section
variable {d N : Nat} {Q : Value → am_H → Prop} {I : Nat → Nat → Int32} {J : Nat → Nat → Int64}
set_option maxRecDepth 100000 in
theorem k_law_0 : am_VU d Q 296 (0, 0) 0 [some (.ref 2000), none, none, none, none, none, none] [] (0, am_Ts N 0, I, J, am_Rc0) =
    am_D d 114 [.ref 1] (1, am_Ts N 1, am_z I 1, am_zJ J 1, am_Rc1) (fun v h => am_VU d Q 296 (92, 3279) 7 [some (.ref 2000), none, none, none, none, none, none] [.ref 1] h) :=
  (am_VU_un lw_cut 6).trans rfl
set_option maxRecDepth 100000 in
theorem k_law_7 : am_VU d Q 296 (92, 3279) 7 [some (.ref 2000), none, none, none, none, none, none] [.ref 1] (92, am_Ts N 92, I, J, am_Rc32) =
    am_D d 158 [.ref 93] (93, am_Ts N 93, am_z I 93, am_zJ J 93, am_Rc33) (fun v h => am_VU d Q 296 (139, 6097) 15 [some (.ref 2000), some (.ref 1), none, none, none, none, none] [.ref 93] h) :=
  (am_VU_un lw_cut 6).trans rfl
set_option maxRecDepth 100000 in
theorem k_law_15 : am_VU d Q 296 (139, 6097) 15 [some (.ref 2000), some (.ref 1), none, none, none, none, none] [.ref 93] (139, am_Ts N 139, I, J, am_Rc38) =
    am_VU d Q 296 (140, 6098) 23 [some (.ref 2000), some (.ref 1), some (.ref 93), some (.ref 140), some (.int (nI 0)), am_oi none, am_oi none] [] (140, am_Ts N 140, am_z I 140, am_zJ J 140, am_zR am_Rc38 140) :=
  (am_VU_un lw_cut 8).trans rfl
theorem q_fill {a m : Nat} {x : Int32} (ha : am_Ts N 92 a = (1, m)) (hm : m < 1000) : am_D (d + 1) 294 [.ref a, .int x] (92, am_Ts N 92, I, J, am_Rc32) Q = Q .null (92, am_Ts N 92, am_fl I a m x, J, am_Rc32) := by
  have step : ∀ k, k < m → am_u (am_fl I a k x) a k x = am_fl I a (k + 1) x := by
    intro k hk
    funext b j; unfold am_u am_fl; try dsimp only
    by_cases c : b = a ∧ j = k
    · rw [if_pos c, if_pos (by omega)]
    · rw [if_neg c]
      by_cases c2 : b = a ∧ j < k
      · rw [if_pos c2, if_pos (by omega)]
      · rw [if_neg c2, if_neg (by omega)]
  have lp := am_up (P := fun k => am_V d Q 294 5 [some (.ref a), some (.int x), some (.int (nI k)), some (.int (nI m))] [] (92, am_Ts N 92, am_fl I a k x, J, am_Rc32)) (R := Q .null (92, am_Ts N 92, am_fl I a m x, J, am_Rc32)) m
    (by
      try dsimp only
      rw [q_J_fill_5, am_ifi (nI_leI (by omega) (by omega)), if_pos (Nat.le_refl _)])
    (by
      intro k hk
      try dsimp only
      have hg : (Nat.beq ((1, m) : Nat × Nat).1 1 && am_inb (nI k) ((1, m) : Nat × Nat).2) = true := by
        show (true && am_inb (nI k) m) = true
        rw [am_inbT hk (by omega)]; rfl
      rw [q_J_fill_5, ha, am_ifi (nI_leI (by omega) (by omega)), if_neg (by omega), am_gT hg, nI_clamp (by omega), step k hk, nI_add])
  have h0 : am_fl I a 0 x = I := by funext b j; unfold am_fl; rw [if_neg (by omega)]
  rw [q_J_fill, ha, am_gT (by rfl)]
  have := lp 0 (by omega)
  try dsimp only at this
  rw [h0] at this
  exact this
theorem am_flN {a m b j : Nat} {x : Int32} (h : b ≠ a) : am_fl I a m x b j = I b j := by unfold am_fl; rw [if_neg (fun g => h g.1)]
theorem am_flE {a m j : Nat} {x : Int32} (h : j < m) : am_fl I a m x a j = x := by unfold am_fl; rw [if_pos ⟨rfl, h⟩]
/-- the class is made: its cells -/
theorem ctor_S0 (hQ : ∀ I' J', I' 1 1 = nI 0 → I' 43 6 = nI 0 → I' 43 7 = -nI 1 → (∀ a, 140 < a → I' a = I a) → am_D (d + 5) 73 [.ref 3] (92, am_Ts N 92, I', J', am_Rc32) (fun _ h => am_VU (d + 5) Q 114 (91, 3267) 149 [some (.ref 1)] [] h)) : am_D (d + 6) 114 [.ref 1] (1, am_Ts N 1, I, J, am_Rc1) Q := by
  rw [k_S_init_0, k_900, k_S_init_0_4, k_Town_init_0, k_900, k_Town_init_0_4, k_Laws_init_0, k_900, k_Laws_init_0_4, k_Town_init_0_120, k_S_init_0_26, k_Town_init_1, k_900, k_Town_init_1_4, k_Laws_init_1, k_900, k_Laws_init_1_4, k_Town_init_1_120, k_S_init_0_37, k_Reader_init_0, k_900, k_Reader_init_0_4, k_Tokens_init_0, k_900, k_Tokens_init_0_4, k_Reader_init_0_12, k_Expression_init_0, k_900, k_Expression_init_0_4, k_Reader_init_0_41, k_S_init_0_52, k_World_init_0, k_900, k_World_init_0_4, k_S_init_0_63, k_World_init_1, k_900, k_World_init_1_4, k_S_init_0_74, k_Night_init_0, k_900, k_Night_init_0_4, k_Reckoner_init_0, k_900, k_Reckoner_init_0_4, k_Night_init_0_12, k_S_init_0_94, k_Sights_init_0, k_900, k_Sights_init_0_4, k_S_init_0_105, k_Changes_init_0, k_900, k_Changes_init_0_4, k_S_init_0_116, k_Tries_init_0, k_900, k_Tries_init_0_4, k_World_init_2, k_900, k_World_init_2_4, k_Tries_init_0_12, k_S_init_0_139]
  refine hQ _ _ ?_ ?_ ?_ ?_
  · repeat (first | rw [am_zE] | rw [am_uE] | rw [am_uN (by omega)] | rw [am_zN (by omega)])
    try rfl
  · repeat (first | rw [am_zE] | rw [am_uE] | rw [am_uN (by omega)] | rw [am_zN (by omega)])
    try rfl
  · repeat (first | rw [am_zE] | rw [am_uE] | rw [am_uN (by omega)] | rw [am_zN (by omega)])
    try rfl
  · intro a ha
    funext k
    repeat (first | rw [am_uN (by omega)] | rw [am_zN (by omega)])
/-- its first town is cleared -/
theorem q_clear (hQ : ∀ I', (∀ a, ¬ (3 ≤ a ∧ a ≤ 22) → I' a = I a) → (∀ i, i < 7 → I' 3 i = nI 0) → (∀ k, k < 3 → I' 20 k = nI 0 ∧ I' 21 k = nI 0 ∧ I' 22 k = nI 0) → (∀ k, k < 64 → I' 7 k = nI 0) → (I' 18 0 = nI 0 ∧ I' 18 1 = nI 0) → Q .null (92, am_Ts N 92, I', J, am_Rc32)) : am_D (d + 3) 73 [.ref 3] (92, am_Ts N 92, I, J, am_Rc32) Q := by
  rw [q_Town_clear, q_fill (m := 64) (by rfl) (by omega), q_Town_clear_43, q_fill (m := 8) (by rfl) (by omega), q_Town_clear_51, q_fill (m := 8) (by rfl) (by omega), q_Town_clear_59, q_fill (m := 8) (by rfl) (by omega), q_Town_clear_67, q_fill (m := 8) (by rfl) (by omega), q_Town_clear_75, q_Laws_clear, q_fill (m := 3) (by rfl) (by omega), q_Laws_clear_18, q_fill (m := 3) (by rfl) (by omega), q_Laws_clear_26, q_fill (m := 3) (by rfl) (by omega), q_Laws_clear_34, q_Town_clear_82]
  refine hQ _ ?_ ?_ ?_ ?_ ?_
  · intro a ha
    funext j
    repeat (first | rw [am_flN (by omega)] | rw [am_uN (by omega)])
  · intro i hi
    rcases (show i = 0 ∨ i = 1 ∨ i = 2 ∨ i = 3 ∨ i = 4 ∨ i = 5 ∨ i = 6 by omega) with rfl | rfl | rfl | rfl | rfl | rfl | rfl <;> (repeat (first | rw [am_uE] | rw [am_flN (by omega)] | rw [am_uN (by omega)]))
  · intro k hk
    refine ⟨?_, ?_, ?_⟩
    · rw [am_flN (by omega), am_flN (by omega), am_flE hk]
    · rw [am_flN (by omega), am_flE hk]
    · rw [am_flE hk]
  · intro k hk
    repeat (first | rw [am_flE hk] | rw [am_flN (by omega)] | rw [am_uN (by omega)])
  · refine ⟨?_, ?_⟩ <;> (repeat (first | rw [am_uE] | rw [am_flN (by omega)] | rw [am_uN (by omega)]))
theorem q_901 {a b la lb m : Nat} (ha : am_Ts N 92 a = (1, la)) (hb : am_Ts N 92 b = (1, lb)) (h1 : m ≤ la) (h2 : m ≤ lb) (hl : la < 1000) (hm : lb < 1000) : am_D (d + 1) 901 [.ref a, .int (nI 0), .ref b, .int (nI 0), .int (nI m)] (92, am_Ts N 92, I, J, am_Rc32) Q = Q .null (92, am_Ts N 92, am_cyI I a 0 b 0 m, J, am_Rc32) := by
  rw [am_D_901]
  show am_g (Nat.beq (am_Ts N 92 a).1 1 && (Nat.beq (am_Ts N 92 b).1 1 && (!(decide (nI 0 < 0)) && (!(decide (nI 0 < 0)) && (!(decide (nI m < 0)) && (Nat.ble ((nI 0).toNatClampNeg + (nI m).toNatClampNeg) (am_Ts N 92 a).2 && Nat.ble ((nI 0).toNatClampNeg + (nI m).toNatClampNeg) (am_Ts N 92 b).2)))))) (Q .null (92, am_Ts N 92, am_cyI I a (nI 0).toNatClampNeg b (nI 0).toNatClampNeg (nI m).toNatClampNeg, J, am_Rc32)) = _
  have p1 : ∀ k, k < 2 ^ 31 → ¬ nI k < 0 := by
    intro k hk
    rw [show (0 : Int32) = nI 0 from rfl, nI_ltI hk (by omega)]
    omega
  have q0 := p1 0 (by omega)
  have qm := p1 m (by omega)
  rw [ha, hb, nI_clamp (by omega), nI_clamp (by omega)]
  refine am_gT ?_
  simp only [q0, qm, decide_false, Bool.not_false, Bool.true_and, Nat.ble_eq_true_of_le (show 0 + m ≤ la by omega), Nat.ble_eq_true_of_le (show 0 + m ≤ lb by omega)]
  rfl
/-- it begins -/
theorem q_begin (h33 : I 3 3 = nI 0) (h36 : I 3 6 = nI 0) (hQ : ∀ I', (∀ a, a ≠ 1 → ¬ (49 ≤ a ∧ a ≤ 54) → a ≠ 63 → a ≠ 72 → a ≠ 77 → I' a = I a) → (∀ k, k ≠ 7 → I' 1 k = I 1 k) → I' 1 7 = nI 0 → (∀ j, j < 6 → I' 49 j = nI 0) → (∀ s, s < 5 → I' 51 s = nI 0) → (∀ h, h < 8 → I' 52 h = nI 0) → (∀ k, k < 512 → I' 63 k = -nI 1) → I' 72 0 = nI 0 → I' 72 1 = -nI 1 → I' 77 0 = nI 0 → Q .null (92, am_Ts N 92, I', J, am_Rc32)) : am_D (d + 4) 150 [.ref 1] (92, am_Ts N 92, I, J, am_Rc32) Q := by
  have cyN : ∀ {X : Nat → Nat → Int32} {a b m c j : Nat}, c ≠ b → am_cyI X a 0 b 0 m c j = X c j := by
    intro X a b m c j h
    unfold am_cyI
    rw [if_neg (fun g => h g.1)]
  rw [q_S_begin, q_World_begin, q_901 (la := 5) (lb := 5) (by rfl) (by rfl) (by omega) (by omega) (by omega) (by omega), q_World_begin_47, q_901 (la := 8) (lb := 8) (by rfl) (by rfl) (by omega) (by omega) (by omega) (by omega), q_World_begin_62, q_fill (m := 5) (by rfl) (by omega), q_World_begin_70, q_fill (m := 8) (by rfl) (by omega), q_World_begin_78, q_fill (m := 8) (by rfl) (by omega), q_World_begin_86, q_World_begin_88]
  have e36 : am_u (am_u I 49 0 (nI 0)) 49 1 (nI 0) 3 6 = nI 0 := by rw [am_uN (by omega), am_uN (by omega)]; exact h36
  rw [e36]
  have fl33 : ∀ X : Nat → Nat → Int32, am_fl (am_fl (am_fl (am_cyI (am_cyI X 9 0 50 0 5) 16 0 54 0 8) 51 5 (nI 0)) 52 8 (nI 0)) 53 8 (-nI 1) 3 3 = X 3 3 := by
    intro X
    rw [am_flN (by omega), am_flN (by omega), am_flN (by omega), cyN (by omega), cyN (by omega)]
  rw [fl33, am_uN (by omega), am_uN (by omega), am_uN (by omega), am_uN (by omega), am_uN (by omega), am_uN (by omega), h33, am_ifi (nI_leI (by omega) (by omega)), if_pos (Nat.le_refl _), q_S_begin_11, q_Night_forget, q_Reckoner_forget, q_fill (m := 512) (by rfl) (by omega), q_Reckoner_forget_8, q_Night_forget_7, q_S_begin_18, q_Sights_clear, q_S_begin_25]
  refine hQ _ ?_ ?_ ?_ ?_ ?_ ?_ ?_ ?_ ?_ ?_
  · intro a h1 h2 h3 h4 h5
    funext j
    repeat (first | rw [am_uN (by omega)] | rw [am_flN (by omega)] | rw [cyN (by omega)])
  · intro k hk
    repeat (first | rw [am_uN (by omega)] | rw [am_flN (by omega)] | rw [cyN (by omega)])
  · repeat (first | rw [am_uE] | rw [am_uN (by omega)] | rw [am_flN (by omega)] | rw [cyN (by omega)])
  · intro j hj
    rcases (show j = 0 ∨ j = 1 ∨ j = 2 ∨ j = 3 ∨ j = 4 ∨ j = 5 by omega) with rfl | rfl | rfl | rfl | rfl | rfl <;> (repeat (first | rw [am_uE] | rw [am_uN (by omega)] | rw [am_flN (by omega)] | rw [cyN (by omega)]))
  · intro s hs
    repeat (first | rw [am_flE hs] | rw [am_uN (by omega)] | rw [am_flN (by omega)] | rw [cyN (by omega)])
  · intro h hh
    repeat (first | rw [am_flE hh] | rw [am_uN (by omega)] | rw [am_flN (by omega)] | rw [cyN (by omega)])
  · intro k hk
    repeat (first | rw [am_flE hk] | rw [am_uN (by omega)] | rw [am_flN (by omega)] | rw [cyN (by omega)])
  · repeat (first | rw [am_uE] | rw [am_uN (by omega)] | rw [am_flN (by omega)] | rw [cyN (by omega)])
  · repeat (first | rw [am_uE] | rw [am_uN (by omega)] | rw [am_flN (by omega)] | rw [cyN (by omega)])
  · repeat (first | rw [am_uE] | rw [am_uN (by omega)] | rw [am_flN (by omega)] | rw [cyN (by omega)])
/-- what stands when the class is made -/
def st_S (I : Nat → Nat → Int32) : Prop := (I 1 1 = nI 0 ∧ I 1 7 = nI 0) ∧ (∀ i, i < 7 → I 3 i = nI 0) ∧ (∀ k, k < 3 → I 20 k = nI 0 ∧ I 21 k = nI 0 ∧ I 22 k = nI 0) ∧ (∀ k, k < 64 → I 7 k = nI 0) ∧ (I 18 0 = nI 0 ∧ I 18 1 = nI 0) ∧ (I 43 6 = nI 0 ∧ I 43 7 = -nI 1) ∧ (∀ j, j < 6 → I 49 j = nI 0) ∧ (∀ s, s < 5 → I 51 s = nI 0) ∧ (∀ h, h < 8 → I 52 h = nI 0) ∧ (∀ k, k < 512 → I 63 k = -nI 1) ∧ (I 72 0 = nI 0 ∧ I 72 1 = -nI 1) ∧ I 77 0 = nI 0
theorem ctor_S (hQ : ∀ I' J', st_S I' → (∀ a, 140 < a → I' a = I a) → Q .null (92, am_Ts N 92, I', J', am_Rc32)) : am_D (d + 6) 114 [.ref 1] (1, am_Ts N 1, I, J, am_Rc1) Q := by
  refine ctor_S0 ?_
  intro I1 J1 a1 a2 a3 a4
  refine q_clear (d := d + 2) ?_
  intro I2 b1 b2 b3 b4 b5
  rw [k_S_init_0_149]
  refine q_begin (d := d + 1) (b2 3 (by omega)) (b2 6 (by omega)) ?_
  intro I3 c1 c2 c3 c4 c5 c6 c7 c8 c9 c10
  rw [k_S_init_0_153]
  refine hQ I3 J1 ⟨⟨?_, c3⟩, ?_, ?_, ?_, ⟨?_, ?_⟩, ⟨?_, ?_⟩, c4, c5, c6, c7, ⟨c8, c9⟩, c10⟩ ?_
  · rw [c2 1 (by omega), b1 1 (by omega)]; exact a1
  · intro i hi; rw [c1 3 (by omega) (by omega) (by omega) (by omega) (by omega)]; exact b2 i hi
  · intro k hk; rw [c1 20 (by omega) (by omega) (by omega) (by omega) (by omega), c1 21 (by omega) (by omega) (by omega) (by omega) (by omega), c1 22 (by omega) (by omega) (by omega) (by omega) (by omega)]; exact b3 k hk
  · intro k hk; rw [c1 7 (by omega) (by omega) (by omega) (by omega) (by omega)]; exact b4 k hk
  · rw [c1 18 (by omega) (by omega) (by omega) (by omega) (by omega)]; exact b5.1
  · rw [c1 18 (by omega) (by omega) (by omega) (by omega) (by omega)]; exact b5.2
  · rw [c1 43 (by omega) (by omega) (by omega) (by omega) (by omega), b1 43 (by omega)]; exact a2
  · rw [c1 43 (by omega) (by omega) (by omega) (by omega) (by omega), b1 43 (by omega)]; exact a3
  · intro a ha
    rw [c1 a (by omega) (by omega) (by omega) (by omega) (by omega), b1 a (by omega)]; exact a4 a ha
/-- what stands when the model is made -/
def st_M (I : Nat → Nat → Int32) : Prop := (∀ k, I 93 k = if k = 34 ∨ k = 53 ∨ k = 54 ∨ k = 55 ∨ k = 59 ∨ k = 63 ∨ k = 70 then -nI 1 else nI 0) ∧ (∀ a k, 95 ≤ a → a ≤ 115 → I a k = nI 0) ∧ (I 118 0 = nI 0 ∧ I 119 0 = nI 0 ∧ I 120 0 = nI 0 ∧ I 121 0 = nI 0 ∧ I 122 0 = nI 0)
theorem ctor_M (h93 : ∀ k, I 93 k = nI 0) (hQ : ∀ I' J', st_M I' → (∀ a, a < 93 ∨ 140 < a → I' a = I a) → Q .null (139, am_Ts N 139, I', J', am_Rc38)) : am_D (d + 4) 158 [.ref 93] (93, am_Ts N 93, I, J, am_Rc33) Q := by
  rw [k_M_init_0, k_900, k_M_init_0_4, k_M_init_0_85, k_M_init_0_165, k_M_init_0_252, k_M_init_0_364]
  have key : ∀ (X : Nat → Nat → Int32) (JX : Nat → Nat → Int64), (∀ k, X 93 k = if k = 34 ∨ k = 53 ∨ k = 54 ∨ k = 55 ∨ k = 59 ∨ k = 63 ∨ k = 70 then -nI 1 else nI 0) → (∀ a k, 95 ≤ a → a ≤ 115 → X a k = nI 0) → (∀ a, a < 93 ∨ 140 < a → X a = I a) → am_D (d + 3) 204 [.ref 93] (139, am_Ts N 139, X, JX, am_Rc38) (fun _ h => am_VU (d + 3) Q 158 (46, 2739) 416 [some (.ref 93)] [] h) := by
    intro X JX x1 x2 x3
    have n5 : ∀ a k, am_u (am_u (am_u (am_u (am_u X 118 0 (nI 0)) 119 0 (nI 0)) 120 0 (nI 0)) 121 0 (nI 0)) 122 0 (nI 0) a k = if (118 ≤ a ∧ a ≤ 122) ∧ k = 0 then nI 0 else X a k := by
      intro a k
      by_cases c : (118 ≤ a ∧ a ≤ 122) ∧ k = 0
      · rw [if_pos c]
        obtain ⟨c1, rfl⟩ := c
        rcases (show a = 118 ∨ a = 119 ∨ a = 120 ∨ a = 121 ∨ a = 122 by omega) with rfl | rfl | rfl | rfl | rfl <;> (repeat (first | rw [am_uE] | rw [am_uN (by omega)]))
      · rw [if_neg c, am_uN (by omega), am_uN (by omega), am_uN (by omega), am_uN (by omega), am_uN (by omega)]
    rw [q_M_begins, q_M_starts, am_gI (by omega) (by omega), am_gI (by omega) (by omega), am_gI (by omega) (by omega), am_gI (by omega) (by omega), am_gI (by omega) (by omega), nI_clamp (by omega), show (am_u (am_u X 118 0 (nI 0)) 119 0 (nI 0)) 95 5 = nI 0 by rw [am_uN (by omega), am_uN (by omega)]; exact x2 95 5 (by omega) (by omega)]
    rw [q_M_starts_42, n5, if_neg (by omega), x2 95 2 (by omega) (by omega), am_ifi (nI_leI (by omega) (by omega)), if_pos (Nat.le_refl _), q_M_starts_76, n5, if_neg (by omega), x2 95 3 (by omega) (by omega), am_ifi (nI_leI (by omega) (by omega)), if_pos (Nat.le_refl _), q_M_starts_140, n5, if_neg (by omega), x2 95 0 (by omega) (by omega), am_ifi (nI_leI (by omega) (by omega)), if_pos (Nat.le_refl _), q_M_begins_5, k_M_init_0_416]
    refine hQ _ JX ⟨?_, ?_, ?_, ?_, ?_, ?_, ?_⟩ ?_
    · intro k; rw [n5, if_neg (by omega)]; exact x1 k
    · intro a k h1 h2; rw [n5, if_neg (by omega)]; exact x2 a k h1 h2
    · rw [n5, if_pos (by omega)]
    · rw [n5, if_pos (by omega)]
    · rw [n5, if_pos (by omega)]
    · rw [n5, if_pos (by omega)]
    · rw [n5, if_pos (by omega)]
    · intro a ha
      funext k
      rw [n5, if_neg (by omega), x3 a ha]
  refine key _ _ ?_ ?_ ?_
  · intro k
    by_cases c : k = 34 ∨ k = 53 ∨ k = 54 ∨ k = 55 ∨ k = 59 ∨ k = 63 ∨ k = 70
    · rw [if_pos c]
      rcases c with rfl | rfl | rfl | rfl | rfl | rfl | rfl <;> (repeat (first | rw [am_uE] | rw [am_uN (by omega)] | rw [am_zN (by omega)])) <;> rfl
    · rw [if_neg c]
      repeat (first | rw [am_uN (by omega)] | rw [am_zN (by omega)])
      exact h93 k
  · intro a k h1 h2
    rcases (show a = 95 ∨ a = 96 ∨ a = 97 ∨ a = 98 ∨ a = 99 ∨ a = 100 ∨ a = 101 ∨ a = 102 ∨ a = 103 ∨ a = 104 ∨ a = 105 ∨ a = 106 ∨ a = 107 ∨ a = 108 ∨ a = 109 ∨ a = 110 ∨ a = 111 ∨ a = 112 ∨ a = 113 ∨ a = 114 ∨ a = 115 by omega) with rfl | rfl | rfl | rfl | rfl | rfl | rfl | rfl | rfl | rfl | rfl | rfl | rfl | rfl | rfl | rfl | rfl | rfl | rfl | rfl | rfl <;> (repeat (first | rw [am_zE] | rw [am_uN (by omega)] | rw [am_zN (by omega)]))
  · intro a ha
    funext k
    repeat (first | rw [am_uN (by omega)] | rw [am_zN (by omega)])
/-- at the beginning, both made -/
theorem inv_beg (hS : st_S I) (hM : st_M I) (ro : c_ro I) : i_inv (3, 23, 23, 38, 45, 3, 7, 8) I J := by
  obtain ⟨⟨a1, a2⟩, a3, a4, a5, ⟨a6, a7⟩, ⟨a8, a9⟩, a10, a11, a12, a13, ⟨a14, a15⟩, a16⟩ := hS
  obtain ⟨m1, m2, m3, m4, m5, m6, m7⟩ := hM
  have c0 : (nI 0 : Int32).toNatClampNeg = 0 := nI_clamp (by omega)
  have n95 : ∀ k, I 95 k = nI 0 := fun k => m2 95 k (by omega) (by omega)
  have eH : m_nH I = 0 := by unfold m_nH; rw [n95, c0]
  have eS : m_nS I = 0 := by unfold m_nS; rw [n95, c0]
  have eZ : m_nZ I = 0 := by unfold m_nZ; rw [n95, c0]
  have eL : m_nL I = 0 := by unfold m_nL; rw [n95, c0]
  have eA : m_nA I = 0 := by unfold m_nA; rw [n95, c0]
  have hok : m_ok I := by
    refine ⟨?_, ?_, ?_, ?_, ?_, ?_, ?_⟩
    · rw [eH, n95]; exact ⟨rfl, by omega⟩
    · rw [eS, n95]; exact ⟨rfl, by omega⟩
    · rw [eZ, n95]; exact ⟨rfl, by omega⟩
    · rw [eL, n95]; exact ⟨rfl, by omega⟩
    · rw [eA, n95]; exact ⟨rfl, by omega⟩
    · rw [eZ]; intro s hs; omega
    · intro k hk
      exact ⟨0, 0, m2 112 k (by omega) (by omega), m2 113 k (by omega) (by omega), by omega, by omega, fun h => by omega⟩
  have g0 : ∀ f, f < 5 → m_g I 0 f 0 = nI 0 := by
    intro f hf
    unfold m_g
    rw [if_pos hf]
    rcases (show f = 0 ∨ f = 1 ∨ f = 2 ∨ f = 3 ∨ f = 4 by omega) with rfl | rfl | rfl | rfl | rfl
    · exact m3
    · exact m4
    · exact m5
    · exact m6
    · exact m7
  refine ⟨⟨Or.inl ⟨rfl, rfl⟩, Or.inr rfl, Or.inr rfl, Or.inr rfl, Or.inl rfl, Or.inl rfl, Or.inl rfl⟩, ?_, ?_, ⟨?_, ?_, ?_⟩, ⟨false, a2, ?_, fun h => by cases h⟩, ⟨0, by omega, a16, ?_, fun k hk => by omega⟩, ⟨0, by omega, a14, ?_, ?_, ?_, fun k hk => by omega⟩, ⟨0, by omega, a1, ?_, fun k hk => by omega⟩, ⟨?_, ?_⟩, fun z hz => Or.inl (a13 z hz)⟩
  · refine ⟨⟨Or.inl rfl, hok, ⟨fun l hl => by omega, fun a b l l' hl => by omega⟩, fun l hl => by omega⟩, ⟨?_, ?_, ?_, ?_, ?_, ?_⟩, ?_, ?_, ?_, ?_, ?_, ?_, ?_, ?_, ?_, ?_, ?_, ?_, ?_, ?_, ro⟩
    · rw [n95]; exact a3 0 (by omega)
    · rw [n95]; exact a3 1 (by omega)
    · rw [n95]; exact a3 2 (by omega)
    · rw [n95]; exact a3 3 (by omega)
    · rw [n95]; exact a3 4 (by omega)
    · rw [n95]; exact a3 6 (by omega)
    · intro h hh; omega
    · intro h hh; omega
    · intro h hh; omega
    · intro h hh; omega
    · intro a b ha hb
      unfold wayP
      rw [eS, if_neg (by omega)]
      exact a5 (8 * a + b) (by omega)
    · intro h; omega
    · intro h hh; omega
    · intro h hh; omega
    · intro h hh; omega
    · intro h hh; omega
    · intro h hh; omega
    · refine ⟨fun k hk => ?_, fun k hk i h1 h2 => ?_⟩
      · rw [m2 112 k (by omega) (by omega), m2 113 k (by omega) (by omega)]
        exact ⟨(a4 k hk).1, (a4 k hk).2.1⟩
      · rw [m2 113 k (by omega) (by omega), c0] at h2; omega
    · intro k hk p hp
      have e22 : I (3 + 15 + 4) k = nI 0 := (a4 k hk).2.2
      rw [e22, b_z, m2 113 k (by omega) (by omega), c0]
      constructor
      · intro h; cases h
      · rintro ⟨_, i, _, h2, _⟩; omega
    · rw [n95]; exact a6
  · exact ⟨by rw [m1, if_neg (by omega)], by rw [m1, if_pos (by omega)], by rw [m1, if_pos (by omega)], by rw [m1, if_pos (by omega)], by rw [m1, if_neg (by omega)], by rw [m1, if_pos (by omega)], by rw [m1, if_neg (by omega)], by rw [m1, if_neg (by omega)], by rw [m1, if_pos (by omega)]⟩
  · refine ⟨?_, ?_, ?_, ?_, ?_, ?_, ?_, ?_, ?_, ?_⟩
    · rw [c_wI (by omega), g0 0 (by omega)]; exact a10 0 (by omega)
    · rw [c_wI (by omega), g0 1 (by omega)]; exact a10 1 (by omega)
    · rw [c_wI (by omega), g0 2 (by omega)]; exact a10 2 (by omega)
    · rw [c_wI (by omega), g0 4 (by omega)]; exact a10 3 (by omega)
    · intro s hs; omega
    · intro s hs l hl
      rw [c_wI (by omega), show I (49 + 2) s = nI 0 from a11 s hs, b_z, decide_eq_false (by omega)]
    · intro h hh l hl
      rw [c_wI (by omega), show I (49 + 3) h = nI 0 from a12 h hh, b_z, decide_eq_false (by omega)]
    · intro l hl
      rw [c_wI (by omega), show I (49 + 0) 4 = nI 0 from a10 4 (by omega), b_z, decide_eq_false (by omega)]
    · intro l hl; omega
    · intro h hh; omega
  · rw [g0 3 (by omega)]; exact a10 5 (by omega)
  · refine ⟨?_, ⟨0, by omega, g0 0 (by omega)⟩, ?_, ?_, ?_⟩
    · intro s hs; omega
    · intro l hl; omega
    · intro i h1 h2
      rw [g0 4 (by omega), b_z]
    · intro h hh; omega
  · rw [m1, if_neg (by omega)]; rfl
  · rw [m1, if_neg (by omega)]
  · rw [m1, if_neg (by omega)]
  · rw [m1, if_pos (by omega)]; exact a15
  · left; rw [m1, if_pos (by omega)]
  · rw [m1, if_neg (by omega)]
  · rw [m1, if_neg (by omega)]; exact a8
  · rw [m1, if_pos (by omega)]; exact a9
end
theorem am_Ts_140 {N : Nat} : am_Ts N 140 = am_TT N := by
  have key : ∀ k, k ≤ 140 → ∀ m, am_Ts N k m = bif Nat.ble 1 m && Nat.ble m k then am_TT N m else bif Nat.ble m 140 then (0, 0) else am_TT N m := by
    intro k
    induction k with
    | zero =>
      intro _ m
      have e : (Nat.ble 1 m && Nat.ble m 0) = false := by
        cases m with
        | zero => rfl
        | succ m => rfl
      rw [e]
      rfl
    | succ k ih =>
      intro hk m
      show am_uT (am_Ts N k) (k + 1) (am_TT N (k + 1)) m = _
      unfold am_uT
      cases c : Nat.beq m (k + 1) with
      | true =>
        have e := Nat.eq_of_beq_eq_true c
        subst e
        rw [Nat.ble_eq_true_of_le (show 1 ≤ k + 1 by omega), Nat.ble_eq_true_of_le (Nat.le_refl (k + 1))]
        rfl
      | false =>
        have hne : m ≠ k + 1 := fun e => by subst e; rw [show Nat.beq (k + 1) (k + 1) = true from Nat.beq_refl (k + 1)] at c; cases c
        show am_Ts N k m = _
        rw [ih (by omega) m]
        have e : Nat.ble m (k + 1) = Nat.ble m k := by
          cases d : Nat.ble m k with
          | true => exact Nat.ble_eq_true_of_le (by have := Nat.le_of_ble_eq_true d; omega)
          | false =>
            cases d2 : Nat.ble m (k + 1) with
            | false => rfl
            | true =>
              have h1 := Nat.le_of_ble_eq_true d2
              have h2 : Nat.ble m k = true := Nat.ble_eq_true_of_le (by omega)
              rw [h2] at d; cases d
        rw [e]
  funext m
  rw [key 140 (Nat.le_refl _) m]
  by_cases c : 1 ≤ m ∧ m ≤ 140
  · rw [Nat.ble_eq_true_of_le c.1, Nat.ble_eq_true_of_le c.2]
    rfl
  · by_cases c0 : m = 0
    · subst c0; rfl
    · have e : Nat.ble m 140 = false := by
        cases d : Nat.ble m 140 with
        | false => rfl
        | true => have := Nat.le_of_ble_eq_true d; omega
      rw [e, Bool.and_false]
      rfl
theorem am_Rc_fin : am_zR am_Rc38 140 = am_RR (3, 23, 23, 38, 45, 3, 7, 8) := by
  have key : (List.range 141).all (fun m => (List.range 80).all fun k => Nat.beq (am_zR am_Rc38 140 m k) (am_RR (3, 23, 23, 38, 45, 3, 7, 8) m k)) = true := by decide +kernel
  funext m k
  by_cases hk : 80 ≤ k
  · rw [am_RR_80 hk, am_bd_z am_bd_38 m k hk]
  · by_cases hm : m ≤ 140
    · have h1 := List.all_eq_true.mp key m (List.mem_range.mpr (by omega))
      exact Nat.eq_of_beq_eq_true (List.all_eq_true.mp h1 k (List.mem_range.mpr (by omega)))
    · rw [am_hi_z (Nat.le_refl _) am_hi_38 m k (by omega)]
      have e0 : Nat.ble m 140 = false := by
        cases d : Nat.ble m 140 with
        | false => rfl
        | true => have := Nat.le_of_ble_eq_true d; omega
      have e1 : Nat.ble m 139 = false := by
        cases d : Nat.ble m 139 with
        | false => rfl
        | true => have := Nat.le_of_ble_eq_true d; omega
      unfold am_RR0 am_RR
      rw [e0, e1]
      rfl
section
variable {d N : Nat} {Q : Value → am_H → Prop} {I : Nat → Nat → Int32} {J : Nat → Nat → Int64}
/-- the law, from its first row to its end -/
theorem law_all (hN : N ≤ 3072) (hQ : ∀ h, Q (.int (nI 1)) h) (hi : i_str I) (ro : c_ro I) : am_VU (d + 152) Q 296 (0, 0) 0 [some (.ref 2000), none, none, none, none, none, none] [] (0, am_Ts N 0, I, J, am_Rc0) := by
  rw [k_law_0]
  refine ctor_S (d := d + 146) ?_
  intro I1 J1 s1 f1
  rw [k_law_7]
  refine ctor_M (d := d + 148) (fun k => am_zE) ?_
  intro I2 J2 s2 f2
  have z1 : ∀ a, a ≠ 93 → am_z I1 93 a = I1 a := fun a h => by funext k; exact am_zN h
  have z2 : ∀ a, a ≠ 140 → am_z I2 140 a = I2 a := fun a h => by funext k; exact am_zN h
  have z0 : ∀ a, a ≠ 1 → am_z I 1 a = I a := fun a h => by funext k; exact am_zN h
  have lo : ∀ a, a < 93 → am_z I2 140 a = I1 a := fun a h => by rw [z2 a (by omega), f2 a (by omega), z1 a (by omega)]
  have hi2 : ∀ a, 140 < a → am_z I2 140 a = I a := fun a h => by rw [z2 a (by omega), f2 a (by omega), z1 a (by omega), f1 a h, z0 a (by omega)]
  rw [k_law_15, am_Ts_140, am_Rc_fin]
  refine law_loop hN hQ N 0 140 6098 none none (3, 23, 23, 38, 45, 3, 7, 8) _ _ (by omega) (by omega) (by omega) (by omega) (inv_beg ?_ ?_ ?_) ?_
  · unfold st_S
    rw [lo 1 (by omega), lo 3 (by omega), lo 20 (by omega), lo 21 (by omega), lo 22 (by omega), lo 7 (by omega), lo 18 (by omega), lo 43 (by omega), lo 49 (by omega), lo 51 (by omega), lo 52 (by omega), lo 63 (by omega), lo 72 (by omega), lo 77 (by omega)]
    exact s1
  · obtain ⟨m1, m2, m3⟩ := s2
    refine ⟨?_, ?_, ?_⟩
    · intro k; rw [z2 93 (by omega)]; exact m1 k
    · intro a k h1 h2; rw [z2 a (by omega)]; exact m2 a k h1 h2
    · rw [z2 118 (by omega), z2 119 (by omega), z2 120 (by omega), z2 121 (by omega), z2 122 (by omega)]; exact m3
  · unfold c_ro; rw [hi2 2001 (by omega), hi2 2002 (by omega)]; exact ro
  · unfold i_str
    rw [hi2 2003 (by omega), hi2 2004 (by omega), hi2 2005 (by omega), hi2 2013 (by omega), hi2 2014 (by omega), hi2 2015 (by omega)]
    exact hi
end
