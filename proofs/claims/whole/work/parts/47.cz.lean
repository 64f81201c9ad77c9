/-! ===== L3: arriving, and the walk to an hour's end ===== -/
section
variable {M W : Nat → Nat → Int32} {F : Nat → Int32} {b : Bool} {s : Nat}
theorem m_downF_k {s h : Int32} {n f : Nat} (hf : f < 6 ∨ f = 8 ∨ f = 9) : m_downF s h W n f = W f := by
  funext k; unfold m_downF; rw [if_neg (by omega)]
theorem m_bringF_k {s h : Int32} {n f : Nat} (hf : f < 6 ∨ f = 8 ∨ f = 9) : m_bringF M s h W n f = W f := by
  funext k; unfold m_bringF; rw [if_neg (by omega)]
theorem m_takeF_k {s h : Int32} {n f : Nat} (hf : f < 6 ∨ f = 9) : m_takeF M s h W n f = W f := by
  funext k; unfold m_takeF; rw [if_neg (by omega)]
theorem m_walk1_k {f : Nat} (hf : f < 6 ∨ f = 9) : m_walk1 M W s f = W f := by
  unfold m_walk1; split
  · exact m_takeF_k hf
  · rfl
theorem m_walk2_k {f : Nat} (hf : f ≠ 5) : m_walk2 M F W s f = W f := am_uRow hf
theorem m_walk3_k {f : Nat} (hf : f < 6 ∨ f = 8 ∨ f = 9) : m_walk3 M W s f = W f := m_bringF_k hf
theorem m_walk4_k {f : Nat} (hf : f = 0 ∨ f = 1 ∨ f = 3 ∨ f = 5 ∨ f = 9) : m_walk4 M F b W s f = W f := by
  have h2 : ∀ (W : Nat → Nat → Int32) (x : Int32), am_u W 2 0 x f = W f := fun W x => am_uRow (by omega)
  have h4 : ∀ (W : Nat → Nat → Int32) (x : Int32), am_u W 4 0 x f = W f := fun W x => am_uRow (by omega)
  unfold m_walk4
  dsimp only
  split
  · exact m_downF_k (by omega)
  · split
    · rw [m_downF_k (by omega), h4]
      split
      · rfl
      · exact h2 _ _
    · split
      · rfl
      · exact h2 _ _
theorem m_walk_k {f : Nat} (hf : f = 0 ∨ f = 1 ∨ f = 3 ∨ f = 9) : m_walk M F b W s f = W f := by
  unfold m_walk
  rw [m_walk4_k (by omega), m_walk3_k (by omega), m_walk2_k (by omega), m_walk1_k (by omega)]
theorem m_pass_k {f : Nat} (hf : f = 0 ∨ f = 1 ∨ f = 3 ∨ f = 9) : ∀ n, m_pass M F b W n f = W f
  | 0 => rfl
  | n + 1 => by
    unfold m_pass
    split
    · rw [m_walk_k hf, m_pass_k hf n]
    · exact m_pass_k hf n
end
section
variable {d N w : Nat} {Q : Value → am_H → Prop} {r : am_rho} {I M C W : Nat → Nat → Int32} {J : Nat → Nat → Int64} {K P : Nat → Int32} {vl st : Nat → Int64} {t nw nf rt rs rd rl rx : Nat} {F : Nat → Int32} {b : Bool} {bl : Nat → Int32} {lit ml : Int32}
theorem cw_at {s h : Nat} (hr : cw_rel M C W) : cw_rel M (am_u C 1 s (nI h)) (am_u W 5 s (nI h)) := by
  obtain ⟨r0, r1, r2, r3, r4, r5, r6, r7, r8, r9⟩ := hr
  have c : ∀ {f k : Nat}, f ≠ 1 → am_u C 1 s (nI h) f k = C f k := fun h => am_uN (by omega)
  have u : ∀ {f k : Nat}, f ≠ 5 → am_u W 5 s (nI h) f k = W f k := fun h => am_uN (by omega)
  refine ⟨?_, ?_, ?_, ?_, ?_, ?_, ?_, ?_, ?_, ?_⟩
  · rw [c (by omega), u (by omega)]; exact r0
  · rw [c (by omega), u (by omega)]; exact r1
  · rw [c (by omega), u (by omega)]; exact r2
  · rw [c (by omega), u (by omega)]; exact r3
  · intro k hk
    by_cases e : k = s
    · subst e; rw [am_uE, am_uE]
    · rw [am_uN (by omega), am_uN (by omega)]; exact r4 k hk
  · intro k hk l hl; rw [c (by omega), u (by omega), u (by omega)]; exact r5 k hk l hl
  · intro k hk l hl; rw [c (by omega), u (by omega), u (by omega)]; exact r6 k hk l hl
  · intro l hl; rw [c (by omega), u (by omega)]; exact r7 l hl
  · intro l hl; rw [c (by omega), u (by omega)]; exact r8 l hl
  · intro k hk; rw [c (by omega), u (by omega)]; exact r9 k hk
theorem cw_u2 {x : Int32} (hr : cw_rel M C W) : cw_rel M (am_u C 0 2 x) (am_u W 2 0 x) := by
  obtain ⟨r0, r1, r2, r3, r4, r5, r6, r7, r8, r9⟩ := hr
  have c : ∀ {f k : Nat}, f ≠ 0 ∨ k ≠ 2 → am_u C 0 2 x f k = C f k := fun h => am_uN h
  have u : ∀ {f k : Nat}, f ≠ 2 → am_u W 2 0 x f k = W f k := fun h => am_uN (by omega)
  refine ⟨?_, ?_, ?_, ?_, ?_, ?_, ?_, ?_, ?_, ?_⟩
  · rw [c (by omega), u (by omega)]; exact r0
  · rw [c (by omega), u (by omega)]; exact r1
  · rw [am_uE, am_uE]
  · rw [c (by omega), u (by omega)]; exact r3
  · intro k hk; rw [c (by omega), u (by omega)]; exact r4 k hk
  · intro k hk l hl; rw [c (by omega), u (by omega), u (by omega)]; exact r5 k hk l hl
  · intro k hk l hl; rw [c (by omega), u (by omega), u (by omega)]; exact r6 k hk l hl
  · intro l hl; rw [c (by omega), u (by omega)]; exact r7 l hl
  · intro l hl; rw [c (by omega), u (by omega)]; exact r8 l hl
  · intro k hk; rw [c (by omega), u (by omega)]; exact r9 k hk
theorem cw_u3 {x : Int32} (hr : cw_rel M C W) : cw_rel M (am_u C 0 3 x) (am_u W 4 0 x) := by
  obtain ⟨r0, r1, r2, r3, r4, r5, r6, r7, r8, r9⟩ := hr
  have c : ∀ {f k : Nat}, f ≠ 0 ∨ k ≠ 3 → am_u C 0 3 x f k = C f k := fun h => am_uN h
  have u : ∀ {f k : Nat}, f ≠ 4 → am_u W 4 0 x f k = W f k := fun h => am_uN (by omega)
  refine ⟨?_, ?_, ?_, ?_, ?_, ?_, ?_, ?_, ?_, ?_⟩
  · rw [c (by omega), u (by omega)]; exact r0
  · rw [c (by omega), u (by omega)]; exact r1
  · rw [c (by omega), u (by omega)]; exact r2
  · rw [am_uE, am_uE]
  · intro k hk; rw [c (by omega), u (by omega)]; exact r4 k hk
  · intro k hk l hl; rw [c (by omega), u (by omega), u (by omega)]; exact r5 k hk l hl
  · intro k hk l hl; rw [c (by omega), u (by omega), u (by omega)]; exact r6 k hk l hl
  · intro l hl; rw [c (by omega), u (by omega)]; exact r7 l hl
  · intro l hl; rw [c (by omega), u (by omega)]; exact r8 l hl
  · intro k hk; rw [c (by omega), u (by omega)]; exact r9 k hk
theorem cw_u0 {x : Int32} (hr : cw_rel M C W) : cw_rel M (am_u C 0 0 x) (am_u W 0 0 x) := by
  obtain ⟨r0, r1, r2, r3, r4, r5, r6, r7, r8, r9⟩ := hr
  have c : ∀ {f k : Nat}, f ≠ 0 ∨ k ≠ 0 → am_u C 0 0 x f k = C f k := fun h => am_uN h
  have u : ∀ {f k : Nat}, f ≠ 0 → am_u W 0 0 x f k = W f k := fun h => am_uN (by omega)
  refine ⟨?_, ?_, ?_, ?_, ?_, ?_, ?_, ?_, ?_, ?_⟩
  · rw [am_uE, am_uE]
  · rw [c (by omega), u (by omega)]; exact r1
  · rw [c (by omega), u (by omega)]; exact r2
  · rw [c (by omega), u (by omega)]; exact r3
  · intro k hk; rw [c (by omega), u (by omega)]; exact r4 k hk
  · intro k hk l hl; rw [c (by omega), u (by omega), u (by omega)]; exact r5 k hk l hl
  · intro k hk l hl; rw [c (by omega), u (by omega), u (by omega)]; exact r6 k hk l hl
  · intro l hl; rw [c (by omega), u (by omega)]; exact r7 l hl
  · intro l hl; rw [c (by omega), u (by omega)]; exact r8 l hl
  · intro k hk; rw [c (by omega), u (by omega)]; exact r9 k hk
theorem cw_u1 {x : Int32} (hr : cw_rel M C W) : cw_rel M (am_u C 0 1 x) (am_u W 1 0 x) := by
  obtain ⟨r0, r1, r2, r3, r4, r5, r6, r7, r8, r9⟩ := hr
  have c : ∀ {f k : Nat}, f ≠ 0 ∨ k ≠ 1 → am_u C 0 1 x f k = C f k := fun h => am_uN h
  have u : ∀ {f k : Nat}, f ≠ 1 → am_u W 1 0 x f k = W f k := fun h => am_uN (by omega)
  refine ⟨?_, ?_, ?_, ?_, ?_, ?_, ?_, ?_, ?_, ?_⟩
  · rw [c (by omega), u (by omega)]; exact r0
  · rw [am_uE, am_uE]
  · rw [c (by omega), u (by omega)]; exact r2
  · rw [c (by omega), u (by omega)]; exact r3
  · intro k hk; rw [c (by omega), u (by omega)]; exact r4 k hk
  · intro k hk l hl; rw [c (by omega), u (by omega), u (by omega)]; exact r5 k hk l hl
  · intro k hk l hl; rw [c (by omega), u (by omega), u (by omega)]; exact r6 k hk l hl
  · intro l hl; rw [c (by omega), u (by omega)]; exact r7 l hl
  · intro l hl; rw [c (by omega), u (by omega)]; exact r8 l hl
  · intro k hk; rw [c (by omega), u (by omega)]; exact r9 k hk
theorem s_N_arrive {s h : Nat} (he : c_env I M t nw nf F b (W 9) lit (W 3 0)) (hok : m_ok M) (hr : cw_rel M C W) (hw : w = 49 ∨ w = 55 ∨ w = 82) (hlit : C 0 5 = lit) (hhr : ∃ q, q < 12 ∧ W 0 0 = nI q) (hs : s < m_nZ M) (hh : h < m_nH M) (hat : W 5 s = nI h) (hc : c_cache I M (t + 15) K vl)
    (hQ : ∀ C' K' vl' st', cw_rel M C' (m_walk4 M F b (m_walk3 M W s) s) → C' 0 5 = lit → c_cache I M (t + 15) K' vl' → Q .null (am_hp N (rt, rs, rd, rl, rx, t, nw, nf) (c_C I w C' K' P) (c_J J vl' st'))) : am_D (d + 5) 28 [.ref 61, .ref w, .int (nI s)] (am_hp N (rt, rs, rd, rl, rx, t, nw, nf) (c_C I w C K P) (c_J J vl st)) Q := by
  have he' := he
  obtain ⟨⟨ht, hnw, hnf⟩, ⟨e0, e2⟩, eb, em, en, ed, edr, el, ef, ew, ewk, ebn, elr, eus, ero⟩ := he'
  have hok' := hok
  obtain ⟨⟨hH, hH8⟩, ⟨hS, hS12⟩, ⟨hZ, hZ5⟩, ⟨hL, hL8⟩, ⟨hA, hA6⟩, hB, hl⟩ := hok'
  have hs5 : s < 5 := by omega
  have hq15 : t + 15 = 18 ∨ t + 15 = 38 := by omega
  have hC1 : C 1 s = nI h := by rw [hr.2.2.2.2.1 s hs]; exact hat
  rw [e_Night_arrive hw ht]
  try simp (config := {maxSteps := 1000000}) (disch := omega) only [nI_add, nI_1, am_mulN, nI_clamp, am_gI, am_ifd, am_ifn, am_asIe, am_asLe, nI_leI, nI_ltI, nI_eq, am_neg1, am_neg1b, c_CK, c_CP, c_Co, c_C0, c_Ci, c_ui, c_u0, c_uK, c_uP, c_Jv, c_Js, c_uv, c_us, hC1]
  rw [s_W_over hw hs5]
  have hr3 : cw_rel M (c_over C s (I (t + 11) h)) (m_walk3 M W s) := by
    have := cw_over (s := s) (h := h) (m := I (t + 11) h) hr hs5 (em h hh)
    rw [m_walk3, hat]
    exact this
  have hlit3 : c_over C s (I (t + 11) h) 0 5 = lit := by
    unfold c_over
    rw [am_uN (by omega), am_uN (by omega)]
    exact hlit
  have he3 : c_env I M t nw nf F b (m_walk3 M W s 9) lit (m_walk3 M W s 3 0) := by
    rw [m_walk3_k (by omega), m_walk3_k (by omega)]
    exact he
  have hhr3 : ∃ q, q < 12 ∧ m_walk3 M W s 0 0 = nI q := by rw [m_walk3_k (by omega)]; exact hhr
  have hat3 : m_walk3 M W s 5 s = nI h := by rw [m_walk3_k (by omega)]; exact hat
  generalize m_walk3 M W s = W3 at hr3 he3 hhr3 hat3 hQ
  generalize c_over C s (I (t + 11) h) = C3 at hr3 hlit3
  have hC31 : C3 1 s = nI h := by rw [hr3.2.2.2.2.1 s hs]; exact hat3
  rw [e_Night_arrive_21 hw]
  refine s_N_names he3 hok hr3 hw hlit3 hhr3 hs hh (by omega) ?_
  intro x hx
  try simp (config := {maxSteps := 1000000}) (disch := omega) only [nI_add, nI_1, am_mulN, nI_clamp, am_gI, am_ifd, am_ifn, am_asIe, am_asLe, nI_leI, nI_ltI, nI_eq, am_neg1, am_neg1b, c_CK, c_CP, c_Co, c_C0, c_Ci, c_ui, c_u0, c_uK, c_uP, c_Jv, c_Js, c_uv, c_us]
  rw [e_Night_arrive_29 hw ht]
  refine s_Re_value hq15 (by omega) hw hl elr eus ero hc ?_
  intro K1 vl1 st1 hc1
  try simp (config := {maxSteps := 1000000}) (disch := omega) only [nI_add, nI_1, am_mulN, nI_clamp, am_gI, am_ifd, am_ifn, am_asIe, am_asLe, nI_leI, nI_ltI, nI_eq, am_neg1, am_neg1b, c_CK, c_CP, c_Co, c_C0, c_Ci, c_ui, c_u0, c_uK, c_uP, c_Jv, c_Js, c_uv, c_us]
  rw [e_Night_arrive_48 hw ht]
  try simp (config := {maxSteps := 1000000}) (disch := omega) only [nI_add, nI_1, am_mulN, nI_clamp, am_gI, am_ifd, am_ifn, am_asIe, am_asLe, nI_leI, nI_ltI, nI_eq, am_neg1, am_neg1b, c_CK, c_CP, c_Co, c_C0, c_Ci, c_ui, c_u0, c_uK, c_uP, c_Jv, c_Js, c_uv, c_us, am_lgL]
  unfold m_walk4 at hQ
  rw [hat3, nI_clamp (by omega)] at hQ
  dsimp only at hQ
  have hdrop : m_drop M W3 F s h = !decide ((m_law M 2 (c_nm x)).getD lw_E ≤ 0) := by
    rw [m_drop, ← c_law_eq (by omega) hl hx]
    cases m_law M 2 (c_nm x) with
    | none => rfl
    | some z =>
      rw [Option.getD_some]
      by_cases c : z ≤ 0
      · have : ¬ 0 < z := by rw [fa_lt64]; rw [fa_le64] at c; omega
        simp [c, this]
      · have : 0 < z := by rw [fa_lt64]; rw [fa_le64] at c; omega
        simp [c, this]
  rw [hdrop] at hQ
  by_cases hd : (m_law M 2 (c_nm x)).getD lw_E ≤ 0
  · rw [if_pos hd]
    rw [decide_eq_true hd, Bool.not_true, if_neg (by decide)] at hQ
    refine s_Re_value hq15 (by omega) hw hl elr eus ero hc1 ?_
    intro K2 vl2 st2 hc2
    try simp (config := {maxSteps := 1000000}) (disch := omega) only [nI_add, nI_1, am_mulN, nI_clamp, am_gI, am_ifd, am_ifn, am_asIe, am_asLe, nI_leI, nI_ltI, nI_eq, am_neg1, am_neg1b, c_CK, c_CP, c_Co, c_C0, c_Ci, c_ui, c_u0, c_uK, c_uP, c_Jv, c_Js, c_uv, c_us]
    rw [e_Night_arrive_81 hw hw]
    refine s_N_wakes he3 hok hr3 hw hs hh hat3 hx ?_
    generalize m_woke (m_wake M W3 F s h) b (W3 2 0) = q at hQ
    have hW' : (if q.2 = W3 2 0 then W3 else am_u W3 2 0 q.2) = am_u W3 2 0 q.2 := by
      by_cases c : q.2 = W3 2 0
      · rw [if_pos c, am_self c.symm]
      · rw [if_neg c]
    rw [hW'] at hQ
    try simp (config := {maxSteps := 1000000}) (disch := omega) only [nI_add, nI_1, am_mulN, nI_clamp, am_gI, am_ifd, am_ifn, am_asIe, am_asLe, nI_leI, nI_ltI, nI_eq, am_neg1, am_neg1b, c_CK, c_CP, c_Co, c_C0, c_Ci, c_ui, c_u0, c_uK, c_uP, c_Jv, c_Js, c_uv, c_us]
    rw [e_Night_arrive_84 hw]
    try simp (config := {maxSteps := 1000000}) (disch := omega) only [nI_add, nI_1, am_mulN, nI_clamp, am_gI, am_ifd, am_ifn, am_asIe, am_asLe, nI_leI, nI_ltI, nI_eq, am_neg1, am_neg1b, c_CK, c_CP, c_Co, c_C0, c_Ci, c_ui, c_u0, c_uK, c_uP, c_Jv, c_Js, c_uv, c_us, b_v0, e_Night_arrive_104]
    by_cases hq : q.1 = true
    · rw [if_neg (by rw [hq]; decide)]
      rw [if_pos hq] at hQ
      have c3 : am_u C3 0 2 q.2 0 3 = C3 0 3 := am_uN (by omega)
      have hr5 := cw_u3 (x := W3 4 0 ||| am_pw s) (cw_u2 (x := q.2) hr3)
      have hr6 := cw_down (s := s) (h := h) hr5 hs5 (by omega)
      rw [c3, hr3.2.2.2.1, am_pwe, s_W_down (h := h) hw hs5 (by omega) (by rw [am_uN (by omega), am_uN (by omega)]; exact hC31), e_Night_arrive_104 hw]
      refine hQ _ _ _ _ hr6 ?_ hc2
      unfold c_down
      rw [am_uN (by omega), am_uN (by omega), am_uN (by omega), am_uN (by omega)]
      exact hlit3
    · rw [if_pos (ts_ne hq)]
      rw [if_neg hq] at hQ
      try rw [e_Night_arrive_104 hw]
      refine hQ _ _ _ _ (cw_u2 (x := q.2) hr3) ?_ hc2
      rw [am_uN (by omega)]
      exact hlit3
  · rw [if_neg hd, s_W_down (h := h) hw hs5 (by omega) hC31, e_Night_arrive_58 hw, e_Night_arrive_104 hw]
    rw [decide_eq_false hd, Bool.not_false, if_pos rfl] at hQ
    refine hQ _ _ _ _ (cw_down hr3 hs5 (by omega)) ?_ hc1
    unfold c_down
    rw [am_uN (by omega), am_uN (by omega)]
    exact hlit3
/-- one sleeper's step -/
theorem s_N_step {s : Nat} {x2 x3 : Int32} (he : c_env I M t nw nf F b (W 9) lit (W 3 0)) (hok : m_ok M) (hr : cw_rel M C W) (hW : m_okW M W) (hw : w = 49 ∨ w = 55 ∨ w = 82) (hlit : C 0 5 = lit) (hhr : ∃ q, q < 12 ∧ W 0 0 = nI q) (hs : s < m_nZ M) (hc : c_cache I M (t + 15) K vl)
    (hQ : ∀ C' K' vl' st', cw_rel M C' (m_walk M F b W s) → C' 0 5 = lit → c_cache I M (t + 15) K' vl' → am_V (d + 6) Q 26 92 [some (.ref 61), some (.ref w), some (.int x2), some (.int x3), some (.int (nI s))] [] (am_hp N (rt, rs, rd, rl, rx, t, nw, nf) (c_C I w C' K' P) (c_J J vl' st'))) :
    am_D (d + 6) 108 [.ref w, .int (nI s), .int (M 104 s)] (am_hp N (rt, rs, rd, rl, rx, t, nw, nf) (c_C I w C K P) (c_J J vl st)) (fun v h => am_V (d + 6) Q 26 71 [some (.ref 61), some (.ref w), some (.int x2), some (.int x3), some (.int (nI s))] [] h) := by
  have hok' := hok
  obtain ⟨⟨hH, hH8⟩, ⟨hS, hS12⟩, ⟨hZ, hZ5⟩, ⟨hL, hL8⟩, ⟨hA, hA6⟩, hB, hl⟩ := hok'
  have hs5 : s < 5 := by omega
  obtain ⟨bd, hbd, hbd'⟩ := hB s hs
  obtain ⟨fr, hfr, hfr'⟩ := hW s hs
  rw [hbd', s_W_take hw hs5 (by omega)]
  have hCat : C 1 s = W 5 s := hr.2.2.2.2.1 s hs
  have hr1 : cw_rel M (if C 1 s = nI bd then c_take C s bd else C) (m_walk1 M W s) := by
    rw [m_walk1, hCat, hbd']
    by_cases c : W 5 s = nI bd
    · rw [if_pos c, if_pos c]; exact cw_take hr hs5 (by omega) hL8
    · rw [if_neg c, if_neg c]; exact hr
  have hl1 : (if C 1 s = nI bd then c_take C s bd else C) 0 5 = lit := by
    split
    · unfold c_take; rw [if_neg (by omega), am_uN (by omega), am_uN (by omega)]; exact hlit
    · exact hlit
  have he1 : c_env I M t nw nf F b (m_walk1 M W s 9) lit (m_walk1 M W s 3 0) := by
    rw [m_walk1_k (by omega), m_walk1_k (by omega)]; exact he
  have hh1 : ∃ q, q < 12 ∧ m_walk1 M W s 0 0 = nI q := by rw [m_walk1_k (by omega)]; exact hhr
  have ha1 : m_walk1 M W s 5 s = nI fr := by rw [m_walk1_k (by omega)]; exact hfr'
  have hwalk : m_walk M F b W s = m_walk4 M F b (m_walk3 M (am_u (m_walk1 M W s) 5 s (nI (m_go M (m_walk1 M W s) F s fr))) s) s := by
    rw [m_walk, m_walk2, ha1, nI_clamp (by omega)]
  rw [hwalk] at hQ
  generalize m_walk1 M W s = W1 at hr1 he1 hh1 ha1 hQ
  generalize (if C 1 s = nI bd then c_take C s bd else C) = C1 at hr1 hl1
  rw [e_Night_walkTo_71 hw]
  refine s_N_choose he1 hok hr1 hw hl1 hh1 hs hfr ha1 hc ?_
  intro K1 vl1 st1 hc1
  try simp (config := {maxSteps := 1000000}) (disch := omega) only [nI_add, nI_1, am_mulN, nI_clamp, am_gI, am_ifd, am_ifn, am_asIe, am_asLe, nI_leI, nI_ltI, nI_eq, am_neg1, am_neg1b, c_CK, c_CP, c_Co, c_C0, c_Ci, c_ui, c_u0, c_uK, c_uP, c_Jv, c_Js, c_uv, c_us]
  rw [e_Night_walkTo_84 hw (by omega)]
  try simp (config := {maxSteps := 1000000}) (disch := omega) only [nI_add, nI_1, am_mulN, nI_clamp, am_gI, am_ifd, am_ifn, am_asIe, am_asLe, nI_leI, nI_ltI, nI_eq, am_neg1, am_neg1b, c_CK, c_CP, c_Co, c_C0, c_Ci, c_ui, c_u0, c_uK, c_uP, c_Jv, c_Js, c_uv, c_us]
  have hgo : m_go M W1 F s fr < m_nH M := m_goL_lt hfr _ (Nat.le_refl _)
  generalize m_go M W1 F s fr = g at hQ hgo
  refine s_N_arrive (F := F) (b := b) (lit := lit) (W := am_u W1 5 s (nI g)) (h := g) ?_ hok (cw_at hr1) hw ?_ ?_ hs hgo am_uE hc1 ?_
  · rw [am_uRow (by omega), am_uRow (by omega)]; exact he1
  · rw [am_uN (by omega)]; exact hl1
  · rw [am_uRow (by omega)]; exact hh1
  · intro C' K' vl' st' h1 h2 h3
    exact hQ _ _ _ _ h1 h2 h3
end
