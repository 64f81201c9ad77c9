/-! ===== L3: the walk to an hour's end, whole ===== -/
theorem m_pass_5 {M W : Nat → Nat → Int32} {F : Nat → Int32} {b : Bool} {s : Nat} : ∀ {n : Nat}, s < n → m_pass M F b W n 5 s = m_pass M F b W (s + 1) 5 s
  | 0, h => by omega
  | n + 1, h => by
    by_cases e : s = n
    · subst e; rfl
    · have ih := m_pass_5 (M := M) (W := W) (F := F) (b := b) (s := s) (n := n) (by omega)
      conv => lhs; unfold m_pass
      split
      · rw [m_walk_5, if_neg e]; exact ih
      · exact ih
section
variable {d N w : Nat} {Q : Value → am_H → Prop} {r : am_rho} {I M C W : Nat → Nat → Int32} {J : Nat → Nat → Int64} {K P : Nat → Int32} {vl st : Nat → Int64} {t nw nf rt rs rd rl rx : Nat} {F : Nat → Int32} {b : Bool} {bl : Nat → Int32} {lit ml : Int32}
/-- an hour: all sleepers -/
theorem s_N_hour {x2 : Int32} {h : Nat} (he : c_env I M t nw nf F b (W 9) lit (W 3 0)) (hok : m_ok M) (hw : w = 49 ∨ w = 55 ∨ w = 82) (hh : h < 12) (hW : m_okW M W) (hW0 : W 0 0 = nI h)
    (hQ : ∀ C' K' P' vl' st', cw_rel M C' (m_pass M F b W (m_nZ M)) → C' 0 5 = lit → c_cache I M (t + 15) K' vl' → (∀ k, (∀ s, s < m_nZ M → k ≠ 5 * h + s) → P' k = P k) → (∀ s, s < m_nZ M → P' (5 * h + s) = m_pass M F b W (m_nZ M) 5 s) → am_V (d + 6) Q 26 5 [some (.ref 61), some (.ref w), some (.int x2), some (.int (nI (h + 1))), am_oi (some (nI (m_nZ M)))] [] (am_hp N (rt, rs, rd, rl, rx, t, nw, nf) (c_C I w C' K' P') (c_J J vl' st'))) :
    ∀ k s, m_nZ M = s + k → ∀ C K P1 vl st, cw_rel M C (m_pass M F b W s) → C 0 5 = lit → c_cache I M (t + 15) K vl → (∀ k, (∀ s, s < m_nZ M → k ≠ 5 * h + s) → P1 k = P k) → (∀ s', s' < s → P1 (5 * h + s') = m_pass M F b W (m_nZ M) 5 s') →
    am_V (d + 6) Q 26 24 [some (.ref 61), some (.ref w), some (.int x2), some (.int (nI h)), some (.int (nI s))] [] (am_hp N (rt, rs, rd, rl, rx, t, nw, nf) (c_C I w C K P1) (c_J J vl st)) := by
  have he' := he
  obtain ⟨⟨ht, hnw, hnf⟩, ⟨e0, e2⟩, eb, em, en, ed, edr, el, ef, ew, ewk, ebn, elr, eus, ero⟩ := he'
  have hok' := hok
  obtain ⟨⟨hH, hH8⟩, ⟨hS, hS12⟩, ⟨hZ, hZ5⟩, ⟨hL, hL8⟩, ⟨hA, hA6⟩, hB, hl⟩ := hok'
  intro k
  induction k with
  | zero =>
    intro s hs C K P1 vl st hr hlit hc hP hP2
    obtain rfl : s = m_nZ M := by omega
    rw [e_Night_walkTo_24 hw ht]
    try simp (config := {maxSteps := 1000000}) (disch := omega) only [nI_add, nI_1, am_mulN, nI_clamp, am_gI, am_ifd, am_ifn, am_asIe, am_asLe, nI_leI, nI_ltI, nI_eq, am_neg1, am_neg1b, c_CK, c_CP, c_Co, c_C0, c_Ci, c_ui, c_u0, c_uK, c_uP, c_Jv, c_Js, c_uv, c_us, e2, hZ, Nat.le_refl, if_true]
    exact hQ _ _ _ _ _ hr hlit hc hP hP2
  | succ k ih =>
    intro s hs C K P1 vl st hr hlit hc hP hP2
    have ih1 := ih (s + 1) (by omega)
    have p92 : ∀ C' K' vl' st', cw_rel M C' (m_pass M F b W (s + 1)) → C' 0 5 = lit → c_cache I M (t + 15) K' vl' → am_V (d + 6) Q 26 92 [some (.ref 61), some (.ref w), some (.int x2), some (.int (nI h)), some (.int (nI s))] [] (am_hp N (rt, rs, rd, rl, rx, t, nw, nf) (c_C I w C' K' P1) (c_J J vl' st')) := by
      intro C' K' vl' st' hr' hlit' hc'
      have i5 : h * 5 + s = 5 * h + s := by omega
      rw [e_Night_walkTo_92 hw]
      try simp (config := {maxSteps := 1000000}) (disch := omega) only [nI_add, nI_1, am_mulN, nI_clamp, am_gI, am_ifd, am_ifn, am_asIe, am_asLe, nI_leI, nI_ltI, nI_eq, am_neg1, am_neg1b, c_CK, c_CP, c_Co, c_C0, c_Ci, c_ui, c_u0, c_uK, c_uP, c_Jv, c_Js, c_uv, c_us, i5]
      refine ih1 _ _ _ _ _ hr' hlit' hc' ?_ ?_
      · intro k hk
        rw [pk_un (hk s (by omega))]
        exact hP k hk
      · intro s' hs'
        by_cases e : s' = s
        · subst e
          rw [pk_us, hr'.2.2.2.2.1 s' (by omega), m_pass_5 (n := m_nZ M) (by omega)]
        · rw [pk_un (by omega)]
          exact hP2 s' (by omega)
    have hbit : bt (I 61 10 &&& (C 0 3 ^^^ -nI 1)) s = (!bt (M 93 58) s && !bt (m_pass M F b W s 4 0) s) := by
      rw [b_and, b_not (by omega), ewk s (by omega), hr.2.2.2.1]
    rw [e_Night_walkTo_24 hw ht]
    try simp (config := {maxSteps := 1000000}) (disch := omega) only [nI_add, nI_1, am_mulN, nI_clamp, am_gI, am_ifd, am_ifn, am_asIe, am_asLe, nI_leI, nI_ltI, nI_eq, am_neg1, am_neg1b, c_CK, c_CP, c_Co, c_C0, c_Ci, c_ui, c_u0, c_uK, c_uP, c_Jv, c_Js, c_uv, c_us, e2, hZ, b_v, b_v0, hbit]
    rw [if_neg (by omega)]
    by_cases g : bt (m_pass M F b W s 4 0) s = false ∧ bt (M 93 58) s = false
    · rw [if_neg (by rw [g.1, g.2]; decide), eb s (by omega)]
      have hwk : m_pass M F b W (s + 1) = m_walk M F b (m_pass M F b W s) s := by rw [m_pass, if_pos g]
      rw [hwk] at p92
      refine s_N_step (F := F) (b := b) (lit := lit) (W := m_pass M F b W s) ?_ hok hr (m_okW_pass hW hH8 s (by omega)) hw hlit ?_ (by omega) hc p92
      · rw [m_pass_k (by omega), m_pass_k (by omega)]; exact he
      · rw [m_pass_k (by omega)]; exact ⟨h, hh, hW0⟩
    · have hwk : m_pass M F b W (s + 1) = m_pass M F b W s := by rw [m_pass, if_neg g]
      rw [hwk] at p92
      rw [if_pos]
      · exact p92 _ _ _ _ hr hlit hc
      · cases g1 : bt (m_pass M F b W s 4 0) s
        · cases g2 : bt (M 93 58) s
          · exact absurd ⟨g1, g2⟩ g
          · rfl
        · rw [Bool.not_true, Bool.and_false]
theorem m_Wj_k {h0 f : Nat} (hf : f = 1 ∨ f = 3 ∨ f = 9) : ∀ j, m_Wj M F b W h0 j f = W f
  | 0 => rfl
  | j + 1 => by
    unfold m_Wj m_hr
    rw [m_pass_k (by omega), am_uRow (by omega), m_Wj_k hf j]
theorem m_okW_Wj {h0 : Nat} (hW : m_okW M W) (h8 : m_nH M ≤ 8) : ∀ j, m_okW M (m_Wj M F b W h0 j)
  | 0 => hW
  | j + 1 => by
    refine m_okW_pass ?_ h8 _ (Nat.le_refl _)
    intro s hs
    rw [am_uN (by omega)]
    exact m_okW_Wj hW h8 j s hs
theorem s_N_walkTo {h0 j : Nat} (he : c_env I M t nw nf F b (W 9) lit (W 3 0)) (hok : m_ok M) (hr : cw_rel M C W) (hW : m_okW M W) (hw : w = 49 ∨ w = 55 ∨ w = 82) (hlit : C 0 5 = lit) (hh : W 0 0 = nI h0) (hj : h0 + j ≤ 12) (hj0 : 1 ≤ j) (hc : c_cache I M (t + 15) K vl)
    (hQ : ∀ C' K' P' vl' st', cw_rel M C' (m_Wj M F b W h0 j) → C' 0 5 = lit → c_cache I M (t + 15) K' vl' → (∀ i, i < j → ∀ s, s < m_nZ M → P' (5 * (h0 + i) + s) = m_Wj M F b W h0 (i + 1) 5 s) → Q .null (am_hp N (rt, rs, rd, rl, rx, t, nw, nf) (c_C I w C' K' P') (c_J J vl' st'))) :
    am_D (d + 7) 26 [.ref 61, .ref w, .int (nI (h0 + j - 1))] (am_hp N (rt, rs, rd, rl, rx, t, nw, nf) (c_C I w C K P) (c_J J vl st)) Q := by
  have hok' := hok
  obtain ⟨⟨hH, hH8⟩, ⟨hS, hS12⟩, ⟨hZ, hZ5⟩, ⟨hL, hL8⟩, ⟨hA, hA6⟩, hB, hl⟩ := hok'
  have lp : ∀ k i, j = i + k → ∀ o C K P vl st, cw_rel M C (m_Wj M F b W h0 i) → C 0 5 = lit → c_cache I M (t + 15) K vl → (∀ i', i' < i → ∀ s, s < m_nZ M → P (5 * (h0 + i') + s) = m_Wj M F b W h0 (i' + 1) 5 s) → am_V (d + 6) Q 26 5 [some (.ref 61), some (.ref w), some (.int (nI (h0 + j - 1))), some (.int (nI (h0 + i))), am_oi o] [] (am_hp N (rt, rs, rd, rl, rx, t, nw, nf) (c_C I w C K P) (c_J J vl st)) := by
    intro k
    induction k with
    | zero =>
      intro i hi o C K P vl st hr hlit hc hP
      obtain rfl : j = i := by omega
      rw [e_Night_walkTo_5 hw]
      try simp (config := {maxSteps := 1000000}) (disch := omega) only [nI_add, nI_1, am_mulN, nI_clamp, am_gI, am_ifd, am_ifn, am_asIe, am_asLe, nI_leI, nI_ltI, nI_eq, am_neg1, am_neg1b, c_CK, c_CP, c_Co, c_C0, c_Ci, c_ui, c_u0, c_uK, c_uP, c_Jv, c_Js, c_uv, c_us]
      rw [if_pos (by omega)]
      exact hQ _ _ _ _ _ hr hlit hc hP
    | succ k ih =>
      intro i hi o C K P vl st hr hlit hc hP
      have ih1 := ih (i + 1) (by omega)
      rw [e_Night_walkTo_5 hw]
      try simp (config := {maxSteps := 1000000}) (disch := omega) only [nI_add, nI_1, am_mulN, nI_clamp, am_gI, am_ifd, am_ifn, am_asIe, am_asLe, nI_leI, nI_ltI, nI_eq, am_neg1, am_neg1b, c_CK, c_CP, c_Co, c_C0, c_Ci, c_ui, c_u0, c_uK, c_uP, c_Jv, c_Js, c_uv, c_us]
      rw [if_neg (by omega), if_neg (by omega)]
      refine s_N_hour (F := F) (b := b) (lit := lit) (W := am_u (m_Wj M F b W h0 i) 0 0 (nI (h0 + i))) (h := h0 + i) (P := P) ?_ hok hw (by omega) ?_ am_uE ?_ (m_nZ M) 0 (by omega) _ _ _ _ _ (cw_u0 hr) ?_ hc (fun _ _ => rfl) (fun s' h => by omega)
      · rw [am_uRow (by omega), am_uRow (by omega), m_Wj_k (by omega), m_Wj_k (by omega)]; exact he
      · intro s hs
        rw [am_uN (by omega)]
        exact m_okW_Wj hW hH8 i s hs
      · intro C' K' P' vl' st' h1 h2 h3 h4 h5
        refine ih1 _ _ _ _ _ _ h1 h2 h3 ?_
        intro i' hi' s hs
        by_cases e : i' = i
        · subst e
          exact h5 s hs
        · rw [h4 _ (fun s' hs' => by omega)]
          exact hP i' (by omega) s hs
      · rw [am_uN (by omega)]; exact hlit
  rw [e_Night_walkTo hw]
  have hC0 : C 0 0 = nI h0 := by rw [hr.1]; exact hh
  try simp (config := {maxSteps := 1000000}) (disch := omega) only [nI_add, nI_1, am_mulN, nI_clamp, am_gI, am_ifd, am_ifn, am_asIe, am_asLe, nI_leI, nI_ltI, nI_eq, am_neg1, am_neg1b, c_CK, c_CP, c_Co, c_C0, c_Ci, c_ui, c_u0, c_uK, c_uP, c_Jv, c_Js, c_uv, c_us, hC0]
  exact lp j 0 (by omega) none _ _ _ _ _ hr hlit hc (fun i' h => by omega)
end
