/-! ===== L3: lay ===== -/
def q_row (f : Nat → Int32) (n l : Nat) : Int32 := if fa_first (fun i => bt (f i) l) n < n then nI (fa_first (fun i => bt (f i) l) n) else -nI 1
section
variable {d N : Nat} {Q : Value → am_H → Prop} {r : am_rho} {I C W : Nat → Nat → Int32} {J : Nat → Nat → Int64}
theorem s_W_row {a la l : Nat} (ha : am_TT N a = (1, la)) (hl : la < 100) (hl2 : l < 32) : am_D (d + 1) 105 [.ref a, .int (nI l)] (am_hp N r I J) Q = Q (.int (q_row (I a) la l)) (am_hp N r I J) := by
  have lp : ∀ k j, la = j + k → (∀ i, i < j → bt (I a i) l = false) → am_V d Q 105 2 [some (.ref a), some (.int (nI l)), some (.int (nI j))] [] (am_hp N r I J) = Q (.int (q_row (I a) la l)) (am_hp N r I J) := by
    intro k
    have hg1 : (!(Nat.beq ((1, la) : Nat × Nat).1 0) && Nat.ble ((1, la) : Nat × Nat).1 7) = true := rfl
    induction k with
    | zero =>
      intro j hj hp
      obtain rfl : la = j := by omega
      rw [e_World_rowWith_2, ha, am_gT hg1]
      try simp (config := {maxSteps := 1000000}) (disch := omega) only [nI_add, nI_1, am_mulN, nI_clamp, am_gI, am_ifd, am_ifn, am_asIe, am_asLe, nI_leI, nI_ltI, nI_eq, am_neg1, am_neg1b, Nat.le_refl, if_true]
      unfold q_row
      rw [fa_first_none hp, if_neg (by omega)]
    | succ k ih =>
      intro j hj hp
      have hg2 : ((Nat.beq ((1, la) : Nat × Nat).1 1 || Nat.beq ((1, la) : Nat × Nat).1 5) && am_inb (nI j) ((1, la) : Nat × Nat).2) = true := by
        show (true && am_inb (nI j) la) = true
        rw [am_inbT (by omega) (by omega)]; rfl
      rw [e_World_rowWith_2, ha, am_gT hg1, am_gT hg2]
      try simp (config := {maxSteps := 1000000}) (disch := omega) only [nI_add, nI_1, am_mulN, nI_clamp, am_gI, am_ifd, am_ifn, am_asIe, am_asLe, nI_leI, nI_ltI, nI_eq, am_neg1, am_neg1b, b_v, b_v0]
      rw [if_neg (by omega)]
      by_cases c : bt (I a j) l = false
      · rw [if_pos c]
        refine ih (j + 1) (by omega) ?_
        intro i hi
        by_cases e : i = j
        · subst e; exact c
        · exact hp i (by omega)
      · rw [if_neg c]
        unfold q_row
        have ct : bt (I a j) l = true := by cases h : bt (I a j) l
                                            · exact absurd h c
                                            · rfl
        rw [fa_first_step (show j < la by omega) hp ct, if_pos (by omega)]
  rw [e_World_rowWith]
  exact lp la 0 (by omega) (fun i hi => by omega)
theorem q_row_eq {f : Nat → Int32} {n l h : Nat} (hh : h < n) (hb : ∀ i, i < n → bt (f i) l = decide (i = h)) : q_row f n l = nI h := by
  unfold q_row
  rw [fa_first_step hh (fun k hk => by rw [hb k (by omega)]; exact decide_eq_false (by omega)) (by rw [hb h hh]; exact decide_eq_true rfl), if_pos hh]
theorem q_row_no {f : Nat → Int32} {n l : Nat} (hb : ∀ i, i < n → bt (f i) l = false) : q_row f n l = -nI 1 := by
  unfold q_row
  rw [fa_first_none hb, if_neg (by omega)]
theorem lie_eq {M : Nat → Nat → Int32} {l : Nat} (hr : cw_rel M C W) (hX : m_okX M W) (hL : m_nL M ≤ 8) (hH : m_nH M ≤ 8) (hl : l < m_nL M) : q_row (C 3) 8 l = if W 6 l = nI 0 then W 7 l else -nI 1 := by
  have r6 := hr.2.2.2.2.2.2.1
  rcases hX.2.2.1 l hl with ⟨h1, h, hh, h2⟩ | ⟨h1, s, hs, h2⟩ | ⟨h1, h2⟩
  · rw [if_pos h1, h2]
    refine q_row_eq (by omega) ?_
    intro i hi
    rw [r6 i hi l (by omega), h2]
    apply decide_eq_decide.mpr
    rw [n8 (by omega) (by omega)]
    constructor
    · intro g; exact g.2.2.symm
    · intro g; exact ⟨hl, h1, g.symm⟩
  · rw [if_neg (by rw [h1]; exact n10)]
    refine q_row_no ?_
    intro i hi
    rw [r6 i hi l (by omega), h1]
    exact decide_eq_false (fun g => n10 g.2.1)
  · rw [if_neg (by rw [h1]; exact n20)]
    refine q_row_no ?_
    intro i hi
    rw [r6 i hi l (by omega), h1]
    exact decide_eq_false (fun g => n20 g.2.1)
theorem hold_eq {M : Nat → Nat → Int32} {l : Nat} (hr : cw_rel M C W) (hX : m_okX M W) (hL : m_nL M ≤ 8) (hZ : m_nZ M ≤ 5) (hl : l < m_nL M) : q_row (C 2) 5 l = if W 6 l = nI 1 then W 7 l else -nI 1 := by
  have r5 := hr.2.2.2.2.2.1
  rcases hX.2.2.1 l hl with ⟨h1, h, hh, h2⟩ | ⟨h1, s, hs, h2⟩ | ⟨h1, h2⟩
  · rw [if_neg (by rw [h1]; exact n01)]
    refine q_row_no ?_
    intro i hi
    rw [r5 i hi l (by omega), h1]
    exact decide_eq_false (fun g => n01 g.2.1)
  · rw [if_pos h1, h2]
    refine q_row_eq (by omega) ?_
    intro i hi
    rw [r5 i hi l (by omega), h2]
    apply decide_eq_decide.mpr
    rw [n8 (by omega) (by omega)]
    constructor
    · intro g; exact g.2.2.symm
    · intro g; exact ⟨hl, h1, g.symm⟩
  · rw [if_neg (by rw [h1]; exact n21)]
    refine q_row_no ?_
    intro i hi
    rw [r5 i hi l (by omega), h1]
    exact decide_eq_false (fun g => n21 g.2.1)
theorem s_W_lyingIn {w l : Nat} (hw : w = 49 ∨ w = 55 ∨ w = 82) (hl : l < 32) : am_D (d + 2) 104 [.ref w, .int (nI l)] (am_hp N r I J) Q = Q (.int (q_row (I (w + 3)) 8 l)) (am_hp N r I J) := by
  rw [e_World_lyingIn hw, s_W_row (w_TT hw).2.2.1 (by omega) hl]
  try simp (config := {maxSteps := 1000000}) (disch := omega) only [nI_add, nI_1, am_mulN, nI_clamp, am_gI, am_ifd, am_ifn, am_asIe, am_asLe, nI_leI, nI_ltI, nI_eq, am_neg1, am_neg1b]
  rw [e_World_lyingIn_8 hw]
theorem s_W_holder {w l : Nat} (hw : w = 49 ∨ w = 55 ∨ w = 82) (hl : l < 32) : am_D (d + 2) 103 [.ref w, .int (nI l)] (am_hp N r I J) Q = Q (.int (q_row (I (w + 2)) 5 l)) (am_hp N r I J) := by
  rw [e_World_holder hw, s_W_row (w_TT hw).2.1 (by omega) hl]
  try simp (config := {maxSteps := 1000000}) (disch := omega) only [nI_add, nI_1, am_mulN, nI_clamp, am_gI, am_ifd, am_ifn, am_asIe, am_asLe, nI_leI, nI_ltI, nI_eq, am_neg1, am_neg1b]
  rw [e_World_holder_8 hw]
/-- a letter from one house's row into another's -/
def c_shift (C : Nat → Nat → Int32) (l h h' : Nat) : Nat → Nat → Int32 := am_u (am_u C 3 h (C 3 h &&& (am_pw l ^^^ (-nI 1)))) 3 h' (am_u C 3 h (C 3 h &&& (am_pw l ^^^ (-nI 1))) 3 h' ||| am_pw l)
theorem cw_shift {M : Nat → Nat → Int32} {l h h' : Nat} (hr : cw_rel M C W) (hl : l < m_nL M) (hL : m_nL M ≤ 8) (hh : h < 8) (hh' : h' < 8) (h6 : W 6 l = nI 0) (h7 : W 7 l = nI h) : cw_rel M (c_shift C l h h') (am_u W 7 l (nI h')) := by
  obtain ⟨r0, r1, r2, r3, r4, r5, r6, r7, r8, r9⟩ := hr
  have c : ∀ {f k : Nat}, f ≠ 3 → c_shift C l h h' f k = C f k := by
    intro f k hf; unfold c_shift; rw [am_uN (by omega), am_uN (by omega)]
  have u : ∀ {f k : Nat}, f ≠ 7 → am_u W 7 l (nI h') f k = W f k := fun h => am_uN (by omega)
  refine ⟨?_, ?_, ?_, ?_, ?_, ?_, ?_, ?_, ?_, ?_⟩
  · rw [c (by omega), u (by omega)]; exact r0
  · rw [c (by omega), u (by omega)]; exact r1
  · rw [c (by omega), u (by omega)]; exact r2
  · rw [c (by omega), u (by omega)]; exact r3
  · intro k hk; rw [c (by omega), u (by omega)]; exact r4 k hk
  · intro k hk i hi
    rw [c (by omega), u (by omega), r5 k hk i hi]
    by_cases e : i = l
    · subst e
      rw [am_uE, h6]
      rw [decide_eq_false (fun g => n01 g.2.1), decide_eq_false (fun g => n01 g.2.1)]
    · rw [am_uN (by omega)]
  · intro k hk i hi
    rw [u (by omega)]
    have base : ∀ k, k < 8 → bt (am_u C 3 h (C 3 h &&& (am_pw l ^^^ (-nI 1))) 3 k) i = (bt (C 3 k) i && !(decide (i = l))) := by
      intro k hk
      by_cases e : k = h
      · subst e
        rw [am_uE, b_and_not hi, b_pw (by omega) hi]
      · rw [am_uN (by omega), r6 k hk i hi]
        by_cases ei : i = l
        · subst ei
          have ne : ¬ nI h = nI k := by rw [n8 (by omega) (by omega)]; omega
          rw [h7, decide_eq_false (fun g => ne g.2.2)]; rfl
        · rw [decide_eq_false ei]; simp
    unfold c_shift
    by_cases e : k = h'
    · subst e
      rw [am_uE, b_or, base k hk, b_pw (by omega) hi]
      by_cases ei : i = l
      · subst ei
        rw [am_uE]
        simp [hl, h6]
      · rw [am_uN (by omega), decide_eq_false ei, r6 k hk i hi]; simp
    · rw [am_uN (by omega), base k hk]
      by_cases ei : i = l
      · subst ei
        have ne : ¬ nI h' = nI k := by rw [n8 (by omega) (by omega)]; omega
        rw [am_uE, decide_eq_true rfl, Bool.not_true, Bool.and_false, decide_eq_false (fun g => ne g.2.2)]
      · rw [am_uN (by omega), decide_eq_false ei, r6 k hk i hi]; simp
  · intro i hi; rw [c (by omega), u (by omega)]; exact r7 i hi
  · intro i hi; rw [c (by omega), u (by omega)]; exact r8 i hi
  · intro k hk; rw [c (by omega), u (by omega)]; exact r9 k hk
theorem s_W_shift {w l h h' : Nat} {K P : Nat → Int32} (hw : w = 49 ∨ w = 55 ∨ w = 82) (hh : h < 8) (hh' : h' < 8) : am_D (d + 1) 107 [.ref w, .int (nI l), .int (nI h), .int (nI h')] (am_hp N r (c_C I w C K P) J) Q = Q .null (am_hp N r (c_C I w (c_shift C l h h') K P) J) := by
  rw [e_World_shift hw]
  try simp (config := {maxSteps := 1000000}) (disch := omega) only [nI_add, nI_1, am_mulN, nI_clamp, am_gI, am_ifd, am_ifn, am_asIe, am_asLe, nI_leI, nI_ltI, nI_eq, am_neg1, am_neg1b, c_CK, c_CP, c_Co, c_C0, c_Ci, c_ui, c_u0, c_uK, c_uP, c_Jv, c_Js, c_uv, c_us, if_false, am_pwe]
  rfl
end
