/-! ===== L3: the class walks ===== -/
def c_goL (p : Nat → Int64) (z : Nat → Bool) (fr : Nat) : Nat → Nat × Int64
  | 0 => (fr, lw_E)
  | j + 1 => if z j = true ∧ j ≠ fr then c_goL p z fr j else if (c_goL p z fr j).2 < p j ∨ ((c_goL p z fr j).2 = p j ∧ j = fr) then (j, p j) else c_goL p z fr j
theorem l_lt {x y : Int64} : x < y ↔ x.toInt < y.toInt := fa_lt64 x y
theorem l_ir {x y : Int64} (h : ¬ x < y) (h2 : ¬ x = y) : y < x := by
  rw [fa_lt64] at h ⊢
  rw [fa_eq64] at h2
  omega
theorem c_goL_eq {M W : Nat → Nat → Int32} {F : Nat → Int32} {s fr : Nat} : ∀ j, (j ≤ fr → m_goL M W F s fr j = if m_pull M W F s fr (nI 0) < (c_goL (fun h => m_pull M W F s h (m_way M fr h)) (fun h => decide (m_way M fr h = nI 0)) fr j).2 then c_goL (fun h => m_pull M W F s h (m_way M fr h)) (fun h => decide (m_way M fr h = nI 0)) fr j else (fr, m_pull M W F s fr (nI 0))) ∧
    (fr < j → m_goL M W F s fr j = c_goL (fun h => m_pull M W F s h (m_way M fr h)) (fun h => decide (m_way M fr h = nI 0)) fr j) := by
  have w0 : m_way M fr fr = nI 0 := by rw [m_way, if_pos rfl]
  have hE : ∀ z : Int64, ¬ z < lw_E := by
    intro z h
    rw [fa_lt64, lw_Et] at h
    have := Int64.minValue_le_toInt z
    have hm : Int64.minValue.toInt = -9223372036854775808 := by decide +kernel
    omega
  intro j
  induction j with
  | zero =>
    refine ⟨?_, by intro h; omega⟩
    intro _
    rw [m_goL, c_goL, if_neg (hE _)]
  | succ j ih =>
    obtain ⟨ih1, ih2⟩ := ih
    generalize hc : c_goL (fun h => m_pull M W F s h (m_way M fr h)) (fun h => decide (m_way M fr h = nI 0)) fr j = c at ih1 ih2
    generalize hP : m_pull M W F s fr (nI 0) = Pf at ih1 ih2 ⊢
    have cs : c_goL (fun h => m_pull M W F s h (m_way M fr h)) (fun h => decide (m_way M fr h = nI 0)) fr (j + 1) = if m_way M fr j = nI 0 ∧ j ≠ fr then c else if c.2 < m_pull M W F s j (m_way M fr j) ∨ (c.2 = m_pull M W F s j (m_way M fr j) ∧ j = fr) then (j, m_pull M W F s j (m_way M fr j)) else c := by
      rw [c_goL, hc]
      by_cases c1 : m_way M fr j = nI 0 <;> simp [c1]
    have ms : m_goL M W F s fr (j + 1) = if m_way M fr j = nI 0 then m_goL M W F s fr j else if (m_goL M W F s fr j).2 < m_pull M W F s j (m_way M fr j) then (j, m_pull M W F s j (m_way M fr j)) else m_goL M W F s fr j := by rw [m_goL]
    generalize c_goL (fun h => m_pull M W F s h (m_way M fr h)) (fun h => decide (m_way M fr h = nI 0)) fr (j + 1) = c' at cs ⊢
    generalize m_goL M W F s fr (j + 1) = m' at ms ⊢
    generalize m_goL M W F s fr j = mj at ms ih1 ih2
    refine ⟨?_, ?_⟩
    · intro hj
      have ih1 := ih1 (by omega)
      by_cases hw : m_way M fr j = nI 0
      · rw [if_pos hw] at ms
        rw [if_pos ⟨hw, by omega⟩] at cs
        rw [ms, cs, ih1]
      · rw [if_neg hw] at ms
        rw [if_neg (fun h => hw h.1)] at cs
        generalize m_pull M W F s j (m_way M fr j) = pj at ms cs
        have hne : ¬ (c.2 = pj ∧ j = fr) := by omega
        by_cases g : Pf < c.2
        · rw [if_pos g] at ih1
          subst ih1
          by_cases g2 : mj.2 < pj
          · have : Pf < pj := by rw [fa_lt64] at *; omega
            rw [if_pos g2] at ms
            rw [if_pos (Or.inl g2)] at cs
            rw [ms, cs, if_pos this]
          · rw [if_neg g2] at ms
            rw [if_neg (by intro h; rcases h with h | h; exact g2 h; exact hne h)] at cs
            rw [ms, cs, if_pos g]
        · rw [if_neg g] at ih1
          subst ih1
          by_cases g2 : Pf < pj
          · have g3 : c.2 < pj := by rw [fa_lt64] at *; omega
            rw [if_pos g2] at ms
            rw [if_pos (Or.inl g3)] at cs
            rw [ms, cs, if_pos g2]
          · rw [if_neg g2] at ms
            by_cases g3 : c.2 < pj
            · rw [if_pos (Or.inl g3)] at cs
              rw [ms, cs, if_neg g2]
            · rw [if_neg (by intro h; rcases h with h | h; exact g3 h; exact hne h)] at cs
              rw [ms, cs, if_neg g]
    · intro hj
      by_cases e : j = fr
      · subst e
        have ih1 := ih1 (by omega)
        rw [if_pos w0] at ms
        rw [if_neg (fun h => h.2 rfl), w0, hP] at cs
        by_cases g : Pf < c.2
        · rw [if_pos g] at ih1
          rw [if_neg] at cs
          · rw [ms, cs, ih1]
          · intro h
            rcases h with h | ⟨h, _⟩
            · rw [fa_lt64] at *; omega
            · rw [h, fa_lt64] at g; omega
        · rw [if_neg g] at ih1
          rw [if_pos] at cs
          · rw [ms, cs, ih1]
          · by_cases g2 : c.2 = Pf
            · exact Or.inr ⟨g2, rfl⟩
            · exact Or.inl (l_ir g (fun h => g2 h.symm))
      · have ih2 := ih2 (by omega)
        subst ih2
        by_cases hw : m_way M fr j = nI 0
        · rw [if_pos hw] at ms
          rw [if_pos ⟨hw, e⟩] at cs
          rw [ms, cs]
        · rw [if_neg hw] at ms
          rw [if_neg (fun h => hw h.1)] at cs
          by_cases g2 : mj.2 < m_pull M W F s j (m_way M fr j)
          · rw [if_pos g2] at ms
            rw [if_pos (Or.inl g2)] at cs
            rw [ms, cs]
          · rw [if_neg g2] at ms
            rw [if_neg] at cs
            · rw [ms, cs]
            · intro h
              rcases h with h | h
              · exact g2 h
              · exact e h.2
section
variable {d N w : Nat} {Q : Value → am_H → Prop} {r : am_rho} {I M C W : Nat → Nat → Int32} {J : Nat → Nat → Int64} {K P : Nat → Int32} {vl st : Nat → Int64} {t nw nf rt rs rd rl rx : Nat} {F : Nat → Int32} {b : Bool} {bl : Nat → Int32} {lit ml : Int32}
/-- a law's value for a place, as the model has it -/
theorem c_law_eq {s h y k : Nat} {x : Int32} (hk : k < 3) (hl : m_lok M) (hx : ∀ j, j < 7 → c_nm x j = m_nm0 M W F s h (nI y) j) : m_law M k (c_nm x) = m_law M k (m_nm0 M W F s h (nI y)) := m_law_nm hk hl hx
theorem c_law_E {q k : Nat} {x : Int32} (hk : k < 3) (hl : m_lok M) (hr : c_lwr I M q) : (m_law M k (c_nm x)).getD lw_E = lw_E ↔ m_law M k (c_nm x) = none := by
  cases h : m_law M k (c_nm x) with
  | none => simp
  | some z =>
    have hB := m_law_B hk hl hr (fun j hj => lw_nmB x j hj) h
    constructor
    · intro e; exact absurd e (lw_B_E hB)
    · intro e; cases e
theorem s_N_choose {s fr : Nat} (he : c_env I M t nw nf F b (W 9) lit (W 3 0)) (hok : m_ok M) (hr : cw_rel M C W) (hw : w = 49 ∨ w = 55 ∨ w = 82) (hlit : C 0 5 = lit) (hhr : ∃ q, q < 12 ∧ W 0 0 = nI q) (hs : s < m_nZ M) (hf : fr < m_nH M) (hat : W 5 s = nI fr) (hc : c_cache I M (t + 15) K vl)
    (hQ : ∀ K' vl' st', c_cache I M (t + 15) K' vl' → Q (.int (nI (m_go M W F s fr))) (am_hp N (rt, rs, rd, rl, rx, t, nw, nf) (c_C I w C K' P) (c_J J vl' st'))) : am_D (d + 5) 27 [.ref 61, .ref w, .int (nI s)] (am_hp N (rt, rs, rd, rl, rx, t, nw, nf) (c_C I w C K P) (c_J J vl st)) Q := by
  have he' := he
  obtain ⟨⟨ht, hnw, hnf⟩, ⟨e0, e2⟩, eb, em, en, ed, edr, el, ef, ew, ewk, ebn, elr, eus, ero⟩ := he'
  have hok' := hok
  obtain ⟨⟨hH, hH8⟩, ⟨hS, hS12⟩, ⟨hZ, hZ5⟩, ⟨hL, hL8⟩, ⟨hA, hA6⟩, hB, hl⟩ := hok'
  have hq15 : t + 15 = 18 ∨ t + 15 = 38 := by omega
  have hCat : C 1 s = nI fr := by rw [hr.2.2.2.2.1 s hs]; exact hat
  obtain ⟨er1, kr, hkr, er2⟩ := edr s hs
  have hE : Int64.ofNat 9223372036854775808 = lw_E := rfl
  have cgo : (c_goL (fun h => m_pull M W F s h (m_way M fr h)) (fun h => decide (m_way M fr h = nI 0)) fr (m_nH M)).1 = m_go M W F s fr := by
    rw [m_go, (c_goL_eq (m_nH M)).2 hf]
  have lp : ∀ k j, m_nH M = j + k → ∀ o8 o9 K vl st, c_cache I M (t + 15) K vl → am_V (d + 4) Q 27 18 [some (.ref 61), some (.ref w), some (.int (nI s)), some (.int (nI fr)), some (.int (nI (c_goL (fun h => m_pull M W F s h (m_way M fr h)) (fun h => decide (m_way M fr h = nI 0)) fr j).1)), some (.long (c_goL (fun h => m_pull M W F s h (m_way M fr h)) (fun h => decide (m_way M fr h = nI 0)) fr j).2), none, some (.int (nI j)), am_oi o8, am_ol o9, none] [] (am_hp N (rt, rs, rd, rl, rx, t, nw, nf) (c_C I w C K P) (c_J J vl st)) := by
    intro k
    induction k with
    | zero =>
      intro j hj o8 o9 K vl st hc
      rw [e_Night_choose_18 hw ht hnw]
      try simp (config := {maxSteps := 1000000}) (disch := omega) only [nI_add, nI_1, am_mulN, nI_clamp, am_gI, am_ifd, am_ifn, am_asIe, am_asLe, nI_leI, nI_ltI, nI_eq, am_neg1, am_neg1b, c_CK, c_CP, c_Co, c_C0, c_Ci, c_ui, c_u0, c_uK, c_uP, c_Jv, c_Js, c_uv, c_us, e0, hH]
      rw [if_pos (by omega)]
      have e : j = m_nH M := by omega
      subst e
      rw [cgo]
      exact hQ _ _ _ hc
    | succ k ih =>
      intro j hj o8 o9 K vl st hc
      obtain ⟨ew1, y, hy, ew2⟩ := ew fr j hf (by omega)
      obtain ⟨ef1, kf, hkf, ef2⟩ := ef (by omega) (8 * j + kr) (by omega)
      have i8 : fr * 8 + j = 8 * fr + j := by omega
      have j8 : j * 8 + kr = 8 * j + kr := by omega
      have ih1 := ih (j + 1) (by omega)
      have hstep : c_goL (fun h => m_pull M W F s h (m_way M fr h)) (fun h => decide (m_way M fr h = nI 0)) fr (j + 1) = if m_way M fr j = nI 0 ∧ j ≠ fr then c_goL (fun h => m_pull M W F s h (m_way M fr h)) (fun h => decide (m_way M fr h = nI 0)) fr j else if (c_goL (fun h => m_pull M W F s h (m_way M fr h)) (fun h => decide (m_way M fr h = nI 0)) fr j).2 < m_pull M W F s j (m_way M fr j) ∨ ((c_goL (fun h => m_pull M W F s h (m_way M fr h)) (fun h => decide (m_way M fr h = nI 0)) fr j).2 = m_pull M W F s j (m_way M fr j) ∧ j = fr) then (j, m_pull M W F s j (m_way M fr j)) else c_goL (fun h => m_pull M W F s h (m_way M fr h)) (fun h => decide (m_way M fr h = nI 0)) fr j := by
        rw [c_goL]
        by_cases c1 : m_way M fr j = nI 0 <;> simp [c1]
      generalize c_goL (fun h => m_pull M W F s h (m_way M fr h)) (fun h => decide (m_way M fr h = nI 0)) fr j = c at hstep ⊢
      -- the pull is known
      have p117 : ∀ K vl st, c_cache I M (t + 15) K vl → ¬ (m_way M fr j = nI 0 ∧ j ≠ fr) → am_V (d + 4) Q 27 117 [some (.ref 61), some (.ref w), some (.int (nI s)), some (.int (nI fr)), some (.int (nI c.1)), some (.long c.2), none, some (.int (nI j)), some (.int (nI y)), some (.long (m_pull M W F s j (m_way M fr j))), none] [] (am_hp N (rt, rs, rd, rl, rx, t, nw, nf) (c_C I w C K P) (c_J J vl st)) := by
        intro K vl st hc hn
        rw [if_neg hn] at hstep
        rw [e_Night_choose_117 hw]
        try simp (config := {maxSteps := 1000000}) (disch := omega) only [nI_add, nI_1, am_mulN, nI_clamp, am_gI, am_ifd, am_ifn, am_asIe, am_asLe, nI_leI, nI_ltI, nI_eq, am_neg1, am_neg1b, c_CK, c_CP, c_Co, c_C0, c_Ci, c_ui, c_u0, c_uK, c_uP, c_Jv, c_Js, c_uv, c_us, am_lgg, am_lgE]
        by_cases g1 : c.2 < m_pull M W F s j (m_way M fr j)
        · rw [if_pos g1]
          rw [if_pos (Or.inl g1)] at hstep
          rw [hstep] at ih1
          exact ih1 _ _ _ _ _ hc
        · rw [if_neg g1]
          by_cases g2 : m_pull M W F s j (m_way M fr j) = c.2
          · rw [if_pos g2]
            by_cases g3 : j = fr
            · rw [if_pos g3]
              rw [if_pos (Or.inr ⟨g2.symm, g3⟩)] at hstep
              rw [hstep] at ih1
              exact ih1 _ _ _ _ _ hc
            · rw [if_neg g3]
              rw [if_neg (by intro h; rcases h with h | h; exact g1 h; exact g3 h.2)] at hstep
              rw [hstep] at ih1
              exact ih1 _ _ _ _ _ hc
          · rw [if_neg g2]
            rw [if_neg (by intro h; rcases h with h | h; exact g1 h; exact g2 h.1.symm)] at hstep
            rw [hstep] at ih1
            exact ih1 _ _ _ _ _ hc
      have pn : ¬ (m_way M fr j = nI 0 ∧ j ≠ fr) → ∀ K vl st, c_cache I M (t + 15) K vl → am_D (d + 4) 23 [.ref 61, .ref w, .int (nI s), .int (nI j), .int (nI y)] (am_hp N (rt, rs, rd, rl, rx, t, nw, nf) (c_C I w C K P) (c_J J vl st)) (fun v h => am_asI v (fun y' => am_V (d + 4) Q 27 80 [some (.ref 61), some (.ref w), some (.int (nI s)), some (.int (nI fr)), some (.int (nI c.1)), some (.long c.2), none, some (.int (nI j)), some (.int (nI y)), am_ol o9, none] [.int y', .int (nI 0), .ref (t + 15), .ref 62] h)) := by
        intro hn K vl st hc
        refine s_N_names he hok hr hw hlit hhr hs (by omega) hy ?_
        intro x hx
        try simp (config := {maxSteps := 1000000}) (disch := omega) only [nI_add, nI_1, am_mulN, nI_clamp, am_gI, am_ifd, am_ifn, am_asIe, am_asLe, nI_leI, nI_ltI, nI_eq, am_neg1, am_neg1b, c_CK, c_CP, c_Co, c_C0, c_Ci, c_ui, c_u0, c_uK, c_uP, c_Jv, c_Js, c_uv, c_us]
        rw [e_Night_choose_80 hw hq15]
        refine s_Re_value hq15 (by omega) hw hl elr eus ero hc ?_
        intro K' vl' st' hc'
        try simp (config := {maxSteps := 1000000}) (disch := omega) only [nI_add, nI_1, am_mulN, nI_clamp, am_gI, am_ifd, am_ifn, am_asIe, am_asLe, nI_leI, nI_ltI, nI_eq, am_neg1, am_neg1b, c_CK, c_CP, c_Co, c_C0, c_Ci, c_ui, c_u0, c_uK, c_uP, c_Jv, c_Js, c_uv, c_us]
        rw [e_Night_choose_83 hw hnf, hE]
        try simp (config := {maxSteps := 1000000}) (disch := omega) only [nI_add, nI_1, am_mulN, nI_clamp, am_gI, am_ifd, am_ifn, am_asIe, am_asLe, nI_leI, nI_ltI, nI_eq, am_neg1, am_neg1b, c_CK, c_CP, c_Co, c_C0, c_Ci, c_ui, c_u0, c_uK, c_uP, c_Jv, c_Js, c_uv, c_us, am_lgE, er2, j8, ef1]
        have h117 := p117 K' vl' st' hc' hn
        have hpull : m_pull M W F s j (m_way M fr j) = (m_law M 0 (c_nm x)).getD (Int64.ofNat 100 - (F (8 * j + kr)).toInt64) := by
          rw [m_pull, ew2, c_law_eq (by omega) hl hx, ← er1, er2, nI_clamp (by omega)]
          cases m_law M 0 (m_nm0 M W F s j (nI y)) <;> rfl
        by_cases hz : m_law M 0 (c_nm x) = none
        · rw [if_pos ((c_law_E (by omega) hl elr).mpr hz), ef2, c_100 kf hkf]
          rw [hpull, hz, Option.getD_none, ef2] at h117
          exact h117
        · rw [if_neg (fun h => hz ((c_law_E (by omega) hl elr).mp h))]
          cases hz2 : m_law M 0 (c_nm x) with
          | none => exact absurd hz2 hz
          | some z =>
            rw [hpull, hz2] at h117
            exact h117
      rw [e_Night_choose_18 hw ht hnw]
      try simp (config := {maxSteps := 1000000}) (disch := omega) only [nI_add, nI_1, am_mulN, nI_clamp, am_gI, am_ifd, am_ifn, am_asIe, am_asLe, nI_leI, nI_ltI, nI_eq, am_neg1, am_neg1b, c_CK, c_CP, c_Co, c_C0, c_Ci, c_ui, c_u0, c_uK, c_uP, c_Jv, c_Js, c_uv, c_us, e0, hH, i8, ew1]
      rw [if_neg (by omega)]
      by_cases g0 : m_way M fr j = nI 0
      · rw [if_pos g0]
        by_cases g3 : j = fr
        · rw [if_pos g3]
          have := pn (fun h => h.2 g3) K vl st hc
          rw [← ew2] at this
          exact this
        · rw [if_neg g3]
          rw [if_pos ⟨g0, g3⟩] at hstep
          rw [hstep] at ih1
          exact ih1 _ _ _ _ _ hc
      · rw [if_neg g0]
        have := pn (fun h => g0 h.1) K vl st hc
        rw [← ew2] at this
        exact this
  rw [e_Night_choose hw]
  try simp (config := {maxSteps := 1000000}) (disch := omega) only [nI_add, nI_1, am_mulN, nI_clamp, am_gI, am_ifd, am_ifn, am_asIe, am_asLe, nI_leI, nI_ltI, nI_eq, am_neg1, am_neg1b, c_CK, c_CP, c_Co, c_C0, c_Ci, c_ui, c_u0, c_uK, c_uP, c_Jv, c_Js, c_uv, c_us, hCat]
  exact lp (m_nH M) 0 (by omega) none none _ _ _ hc
end
