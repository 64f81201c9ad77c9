/-! ===== L3: hours ===== -/
def m_st (I : Nat → Nat → Int32) (F : Nat → Int32) (W : Nat → Nat → Int32) : Nat → Nat → Int32 := m_end I (m_pass I F true W (m_nZ I))
def m_sts (I : Nat → Nat → Int32) (F : Nat → Int32) (W : Nat → Nat → Int32) : Nat → Nat → Nat → Int32
  | 0 => W
  | n + 1 => m_st I F (m_sts I F W n)
section
variable {d N w : Nat} {Q : Value → am_H → Prop} {r : am_rho} {I M C W : Nat → Nat → Int32} {J : Nat → Nat → Int64} {K P F : Nat → Int32}
theorem m_end_k {f : Nat} (hf : f = 2 ∨ f = 3 ∨ f = 9) : m_end I W f = W f := by
  rw [m_end_eq]
  split
  · unfold m_endX
    rw [am_uRow (by omega), am_uRow (by omega), am_uRow (by omega), m_endL_k (by omega)]
  · rw [am_uRow (by omega)]
theorem m_sts_k {f : Nat} (hf : f = 3 ∨ f = 9) : ∀ n, m_sts I F W n f = W f
  | 0 => rfl
  | n + 1 => by
    unfold m_sts m_st
    rw [m_end_k (by omega), m_pass_k (by omega), m_sts_k hf n]
theorem okX_sts (hok : m_ok I) (h : m_okX I W) : ∀ n, m_okX I (m_sts I F W n)
  | 0 => h
  | n + 1 => okX_end hok (okX_pass hok (okX_sts hok h n) _ (Nat.le_refl _))
theorem s_W_passHour {t : Nat} (ht : t = 3 ∨ t = 23) (hw : w = 49 ∨ w = 55 ∨ w = 82) (hok : m_ok M) (hr : cw_rel M C W) (hW : m_okW M W) (e2 : I t 2 = M 95 2) (eb : ∀ s, s < m_nZ M → I (t + 6) s = M 104 s)
    (hQ : ∀ C', cw_rel M C' (m_end M W) → C' 0 5 = C 0 5 → Q .null (am_hp N r (c_C I w C' K P) J)) : am_D (d + 3) 111 [.ref w, .ref t] (am_hp N r (c_C I w C K P) J) Q := by
  rw [m_end_eq] at hQ
  rw [e_World_passHour hw ht]
  try simp (config := {maxSteps := 1000000}) (disch := omega) only [nI_add, nI_1, am_mulN, nI_clamp, am_gI, am_ifd, am_ifn, am_asIe, am_asLe, nI_leI, nI_ltI, nI_eq, am_neg1, am_neg1b, c_CK, c_CP, c_Co, c_C0, c_Ci, c_ui, c_u0, c_uK, c_uP, c_Jv, c_Js, c_uv, c_us, hr.1]
  by_cases c : nI 12 ≤ W 0 0 + nI 1
  · rw [if_pos c]
    rw [if_pos c] at hQ
    refine s_W_endNight ht hw hok hr hW e2 eb ?_
    intro C' g1 g2 g3
    rw [e_World_passHour_29 hw ht]
    exact hQ C' g1 g2
  · rw [if_neg c, e_World_passHour_29 hw ht]
    rw [if_neg c] at hQ
    refine hQ _ (cw_u0 hr) ?_
    rw [am_uN (by omega)]
theorem su_u77 {t z : Nat} {x : Int32} (ht : t = 3 ∨ t = 23) : c_suit (am_u I 77 0 x) t 49 z = am_u (c_suit I t 49 z) 77 0 x := by
  funext a j
  unfold c_suit
  rw [am_uRow (show t ≠ 77 by omega), am_uRow (show 49 + 5 ≠ 77 by omega), am_uRow (show t + 14 ≠ 77 by omega), am_uRow (show t + 7 ≠ 77 by omega), am_uRow (show t + 8 ≠ 77 by omega)]
  unfold am_u
  by_cases c : a = 77 ∧ j = 0
  · obtain ⟨rfl, rfl⟩ := c
    simp
  · simp only [c, if_false]
/-- the class's hours, from a heap that is made ready -/
theorem c_hours {rt rs rd rl rx n h0 : Nat} {vl st : Nat → Int64} {W0 : Nat → Nat → Int32} (ht : rt = 3 ∨ rt = 23) (hok : m_ok M) (henv : c_env I M rt (rt + 4) (rt + 5) F true (W0 9) (W0 3 0) (W0 3 0)) (hX : m_okX M W0) (hn : n < 100)
    (hQ : ∀ C' K' P' vl' st', cw_rel M C' (m_sts M F W0 n) → C' 0 5 = W0 3 0 → c_cache I M (rt + 15) K' vl' → Q (.int (m_sts M F W0 n 0 0)) (am_hp N (rt, rs, rd, rl, rx, rt, rt + 4, rt + 5) (c_C I 49 C' K' P') (c_J J vl' st'))) :
    ∀ k i, n = i + k → ∀ C K P vl st, cw_rel M C (m_sts M F W0 i) → C 0 5 = W0 3 0 → c_cache I M (rt + 15) K vl → am_V (d + 7) Q 127 75 [some (.ref 1), some (.int (nI n)), some (.int (nI i))] [] (am_hp N (rt, rs, rd, rl, rx, rt, rt + 4, rt + 5) (c_C I 49 C K P) (c_J J vl st)) := by
  have e2 : I rt 2 = M 95 2 := henv.2.1.2
  have eb := henv.2.2.1
  intro k
  induction k with
  | zero =>
    intro i hi C K P vl st h1 h2 h3
    obtain rfl : n = i := by omega
    rw [e_S_hours_75]
    try simp (config := {maxSteps := 1000000}) (disch := omega) only [nI_add, nI_1, am_mulN, nI_clamp, am_gI, am_ifd, am_ifn, am_asIe, am_asLe, nI_leI, nI_ltI, nI_eq, am_neg1, am_neg1b, c_CK, c_CP, c_Co, c_C0, c_Ci, c_ui, c_u0, c_uK, c_uP, c_Jv, c_Js, c_uv, c_us, Nat.le_refl, if_true, h1.1]
    exact hQ _ _ _ _ _ h1 h2 h3
  | succ k ih =>
    intro i hi C K P vl st h1 h2 h3
    have hXi := okX_sts (F := F) hok hX i
    obtain ⟨q, hq, eq⟩ := hXi.2.1
    have hC0 : C 0 0 = nI q := by rw [h1.1]; exact eq
    rw [e_S_hours_75]
    try simp (config := {maxSteps := 1000000}) (disch := omega) only [nI_add, nI_1, am_mulN, nI_clamp, am_gI, am_ifd, am_ifn, am_asIe, am_asLe, nI_leI, nI_ltI, nI_eq, am_neg1, am_neg1b, c_CK, c_CP, c_Co, c_C0, c_Ci, c_ui, c_u0, c_uK, c_uP, c_Jv, c_Js, c_uv, c_us, hC0]
    rw [if_neg (by omega)]
    have hq1 : nI q = nI (q + 1 - 1) := by rw [show q + 1 - 1 = q by omega]
    rw [hq1]
    refine s_N_walkTo (W := m_sts M F W0 i) (h0 := q) (j := 1) (lit := W0 3 0) (F := F) (b := true) (by rw [m_sts_k (by omega), m_sts_k (by omega)]; exact henv) hok h1 hXi.1 (by omega) h2 eq (by omega) (by omega) h3 ?_
    intro C' K' P' vl' st' g1 g2 g3 g4
    have ew : m_Wj M F true (m_sts M F W0 i) q 1 = m_pass M F true (m_sts M F W0 i) (m_nZ M) := by
      show m_pass M F true (am_u (m_sts M F W0 i) 0 0 (nI (q + 0))) (m_nZ M) = _
      rw [am_self (by rw [eq]; rfl)]
    rw [ew] at g1
    rw [e_S_hours_98 ht]
    refine s_W_passHour ht (by omega) hok g1 (m_okW_pass hXi.1 hok.1.2 _ (Nat.le_refl _)) e2 eb ?_
    intro C2 g5 g6
    rw [e_S_hours_109]
    try simp (config := {maxSteps := 1000000}) (disch := omega) only [nI_add, nI_1, am_mulN, nI_clamp, am_gI, am_ifd, am_ifn, am_asIe, am_asLe, nI_leI, nI_ltI, nI_eq, am_neg1, am_neg1b, c_CK, c_CP, c_Co, c_C0, c_Ci, c_ui, c_u0, c_uK, c_uP, c_Jv, c_Js, c_uv, c_us]
    exact ih (i + 1) (by omega) C2 K' P' vl' st' g5 (g6.trans g2) g3
theorem m_hours {n v : Nat} {F T : Nat → Int32} (hok : m_ok M) (hD : m_okD M) {W0 : Nat → Nat → Int32} (hX : m_okX M W0) (hn : n < 100)
    (hQ : ∀ v' nm' wk', Q (.int (m_sts M F W0 n 0 0)) (am_hp N r (m_M M 0 (m_sts M F W0 n) v' F T) (m_J J nm' wk'))) :
    ∀ k i, n = i + k → ∀ v nm wk, am_V (d + 7) Q 244 56 [some (.ref 93), some (.int (nI n)), some (.int (nI i))] [] (am_hp N r (m_M M 0 (m_sts M F W0 i) v F T) (m_J J nm wk)) := by
  intro k
  induction k with
  | zero =>
    intro i hi v nm wk
    obtain rfl : n = i := by omega
    rw [e_M_hours_56]
    try simp (config := {maxSteps := 1000000}) (disch := omega) only [nI_add, nI_1, am_mulN, nI_clamp, am_gI, am_ifd, am_ifn, am_asIe, am_asLe, nI_leI, nI_ltI, nI_eq, am_neg1, am_neg1b, m_Mo, m_Mv, m_MF, m_MT, m_M0, m_M1, m_M2, m_M3, m_M4, m_M5, m_M6, m_M7, m_M8, m_M9, m_wv, m_w0, m_w1, m_w2, m_w3, m_w4, m_w5, m_w6, m_w7, m_w8, m_w9, m_wF, m_wT, m_Jn, m_Jw, m_Jo, m_un, m_uw, Nat.le_refl, if_true]
    exact hQ _ _ _
  | succ k ih =>
    intro i hi v nm wk
    have hXi := okX_sts (F := F) hok hX i
    rw [e_M_hours_56]
    try simp (config := {maxSteps := 1000000}) (disch := omega) only [nI_add, nI_1, am_mulN, nI_clamp, am_gI, am_ifd, am_ifn, am_asIe, am_asLe, nI_leI, nI_ltI, nI_eq, am_neg1, am_neg1b, m_Mo, m_Mv, m_MF, m_MT, m_M0, m_M1, m_M2, m_M3, m_M4, m_M5, m_M6, m_M7, m_M8, m_M9, m_wv, m_w0, m_w1, m_w2, m_w3, m_w4, m_w5, m_w6, m_w7, m_w8, m_w9, m_wF, m_wT, m_Jn, m_Jw, m_Jo, m_un, m_uw]
    rw [if_neg (by omega)]
    refine s_M_passes (b := true) hok hD hXi.1 (by omega) ?_
    intro v' nm' wk'
    rw [e_M_hours_67, s_M_ends hok (by omega), e_M_hours_72]
    try simp (config := {maxSteps := 1000000}) (disch := omega) only [nI_add, nI_1, am_mulN, nI_clamp, am_gI, am_ifd, am_ifn, am_asIe, am_asLe, nI_leI, nI_ltI, nI_eq, am_neg1, am_neg1b, m_Mo, m_Mv, m_MF, m_MT, m_M0, m_M1, m_M2, m_M3, m_M4, m_M5, m_M6, m_M7, m_M8, m_M9, m_wv, m_w0, m_w1, m_w2, m_w3, m_w4, m_w5, m_w6, m_w7, m_w8, m_w9, m_wF, m_wT, m_Jn, m_Jw, m_Jo, m_un, m_uw]
    exact ih (i + 1) (by omega) _ _ _
end
