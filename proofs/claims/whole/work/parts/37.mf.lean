/-! ===== L3: how far, the beginning, a night through ===== -/
def fl_0 (F : Nat → Int32) : Nat → Int32 := fun k => if k < 64 then (if k % 9 = 0 then nI 0 else nI 99) else F k
def fl_s (I : Nat → Nat → Int32) (F : Nat → Int32) : Nat → Nat → Int32
  | 0 => F
  | l + 1 => if m_gone I l then fl_s I F l else upd (upd (fl_s I F l) (8 * (I 100 l).toNatClampNeg + (I 101 l).toNatClampNeg) (I 102 l)) (8 * (I 101 l).toNatClampNeg + (I 100 l).toNatClampNeg) (I 102 l)
def fl_min (x y : Int32) : Int32 := if y < x then y else x
def fl_st (m i : Nat) (f : Nat → Int32) : Nat → Int32 := upd f i (fl_min (f i) (f (8 * (i / 8) + m) + f (8 * m + i % 8)))
def fl_in (m : Nat) (f : Nat → Int32) : Nat → Nat → Int32
  | 0 => f
  | i + 1 => fl_st m i (fl_in m f i)
def fl_out (f : Nat → Int32) : Nat → Nat → Int32
  | 0 => f
  | m + 1 => fl_in m (fl_out f m) 64
def m_far (I : Nat → Nat → Int32) (F : Nat → Int32) : Nat → Int32 := fl_out (fl_s I (fl_0 F) (m_nS I)) 8
/-- the streets' ends are houses, their lengths 1 to 9 -/
def m_okS (I : Nat → Nat → Int32) : Prop := ∀ l, l < m_nS I → ∃ a b c, a < m_nH I ∧ b < m_nH I ∧ I 100 l = nI a ∧ I 101 l = nI b ∧ I 102 l = nI c ∧ 1 ≤ c ∧ c ≤ 9
def m_start (I : Nat → Nat → Int32) (W : Nat → Nat → Int32) : Nat → Nat → Int32 := fun f k =>
  if f < 5 ∧ k = 0 then (if f = 2 then I 95 5 else nI 0)
  else if f = 5 ∧ k < m_nZ I then I 104 k
  else if f = 6 ∧ k < m_nL I then nI 0
  else if f = 7 ∧ k < m_nL I then I 104 (I 107 k).toNatClampNeg
  else if f = 8 ∧ k < m_nL I then -nI 1
  else if f = 9 ∧ k < m_nH I then I 97 k
  else W f k
def m_okL (I : Nat → Nat → Int32) : Prop := ∀ l, l < m_nL I → ∃ s, s < m_nZ I ∧ I 107 l = nI s
def m_hr (I : Nat → Nat → Int32) (F : Nat → Int32) (b : Bool) (W : Nat → Nat → Int32) (h : Nat) : Nat → Nat → Int32 := m_pass I F b (am_u W 0 0 (nI h)) (m_nZ I)
def m_Wj (I : Nat → Nat → Int32) (F : Nat → Int32) (b : Bool) (W : Nat → Nat → Int32) (h0 : Nat) : Nat → Nat → Nat → Int32
  | 0 => W
  | j + 1 => m_hr I F b (m_Wj I F b W h0 j) (h0 + j)
def m_tr (T : Nat → Int32) (W : Nat → Nat → Int32) (h : Nat) : Nat → Nat → Int32
  | 0 => T
  | s + 1 => upd (m_tr T W h s) (12 * s + h) (W 5 s)
def m_Tj (I : Nat → Nat → Int32) (F : Nat → Int32) (b : Bool) (W : Nat → Nat → Int32) (T : Nat → Int32) (h0 : Nat) : Nat → Nat → Int32
  | 0 => T
  | j + 1 => m_tr (m_Tj I F b W T h0 j) (m_Wj I F b W h0 (j + 1)) (h0 + j) (m_nZ I)
theorem m_tr_in {T : Nat → Int32} {W : Nat → Nat → Int32} {h s : Nat} (hh : h < 12) : ∀ {n : Nat}, s < n → m_tr T W h n (12 * s + h) = W 5 s
  | 0, hs => by omega
  | n + 1, hs => by
    unfold m_tr
    by_cases e : s = n
    · subst e; exact pk_us
    · rw [pk_un (by omega)]; exact m_tr_in hh (by omega)
theorem m_tr_out {T : Nat → Int32} {W : Nat → Nat → Int32} {h k : Nat} : ∀ {n : Nat}, (∀ s, s < n → k ≠ 12 * s + h) → m_tr T W h n k = T k
  | 0, _ => rfl
  | n + 1, hs => by
    unfold m_tr
    rw [pk_un (hs n (by omega))]; exact m_tr_out (fun s h => hs s (by omega))
theorem m_Tj_in {I : Nat → Nat → Int32} {F : Nat → Int32} {W : Nat → Nat → Int32} {T : Nat → Int32} {b : Bool} {h0 s i : Nat} (hs : s < m_nZ I) : ∀ {j : Nat}, i < j → h0 + j ≤ 12 → m_Tj I F b W T h0 j (12 * s + (h0 + i)) = m_Wj I F b W h0 (i + 1) 5 s
  | 0, h, _ => by omega
  | j + 1, h, h12 => by
    unfold m_Tj
    by_cases e : i = j
    · subst e; exact m_tr_in (by omega) hs
    · rw [m_tr_out (fun s' h' => by omega)]; exact m_Tj_in hs (by omega) (by omega)
section
variable {d N n : Nat} {Q : Value → am_H → Prop} {r : am_rho} {I : Nat → Nat → Int32} {J : Nat → Nat → Int64} {W : Nat → Nat → Int32} {v : Int32} {F T : Nat → Int32} {nm wk : Nat → Int64}
theorem s_J_min {x y : Int32} : am_D (d + 1) 281 [.int x, .int y] (am_hp N r I J) Q = Q (.int (fl_min x y)) (am_hp N r I J) := by
  rw [e_J_min]
  simp only [am_ifd, fl_min]
  split <;> rfl
theorem fl_rem9 {k : Nat} (h : k < 64) : nI k - nI k / nI 9 * nI 9 = nI (k % 9) := pk_rem (by omega) (by omega) (by omega)
theorem s_M_layFar (hok : m_ok I) (hS : m_okS I) : am_D (d + 2) 210 [.ref 93] (am_hp N r (m_M I n W v F T) J) Q = Q .null (am_hp N r (m_M I n W v (m_far I F) T) J) := by
  have hok' := hok
  obtain ⟨⟨hH, hH8⟩, ⟨hS1, hS12⟩, _⟩ := hok'
  have p187 : ∀ m a b f, m < 8 → a < 8 → b < 8 → am_V (d + 1) Q 210 134 [some (.ref 93), some (.int (nI m)), some (.int (nI a)), some (.int (nI b))] [] (am_hp N r (m_M I n W v f T) J) = am_V (d + 1) Q 210 134 [some (.ref 93), some (.int (nI m)), some (.int (nI a)), some (.int (nI (b + 1)))] [] (am_hp N r (m_M I n W v (fl_st m (8 * a + b) f) T) J) := by
    intro m a b f hm ha hb
    rw [e_M_layFar_134]
    try simp (config := {maxSteps := 1000000}) (disch := omega) only [nI_add, nI_1, am_mulN, nI_clamp, am_gI, am_ifd, am_ifn, am_asIe, am_asLe, nI_leI, nI_ltI, nI_eq, am_neg1, am_neg1b, m_Mo, m_Mv, m_MF, m_MT, m_M0, m_M1, m_M2, m_M3, m_M4, m_M5, m_M6, m_M7, m_M8, m_M9, m_wv, m_w0, m_w1, m_w2, m_w3, m_w4, m_w5, m_w6, m_w7, m_w8, m_w9, m_wF, m_wT, m_Jn, m_Jw, m_Jo, m_un, m_uw]
    rw [if_neg (by omega), s_J_min]
    try simp (config := {maxSteps := 1000000}) (disch := omega) only [nI_add, nI_1, am_mulN, nI_clamp, am_gI, am_ifd, am_ifn, am_asIe, am_asLe, nI_leI, nI_ltI, nI_eq, am_neg1, am_neg1b, m_Mo, m_Mv, m_MF, m_MT, m_M0, m_M1, m_M2, m_M3, m_M4, m_M5, m_M6, m_M7, m_M8, m_M9, m_wv, m_w0, m_w1, m_w2, m_w3, m_w4, m_w5, m_w6, m_w7, m_w8, m_w9, m_wF, m_wT, m_Jn, m_Jw, m_Jo, m_un, m_uw]
    rw [e_M_layFar_187]
    try simp (config := {maxSteps := 1000000}) (disch := omega) only [nI_add, nI_1, am_mulN, nI_clamp, am_gI, am_ifd, am_ifn, am_asIe, am_asLe, nI_leI, nI_ltI, nI_eq, am_neg1, am_neg1b, m_Mo, m_Mv, m_MF, m_MT, m_M0, m_M1, m_M2, m_M3, m_M4, m_M5, m_M6, m_M7, m_M8, m_M9, m_wv, m_w0, m_w1, m_w2, m_w3, m_w4, m_w5, m_w6, m_w7, m_w8, m_w9, m_wF, m_wT, m_Jn, m_Jw, m_Jo, m_un, m_uw]
    have e1 : (8 * a + b) / 8 = a := by omega
    have e2 : (8 * a + b) % 8 = b := by omega
    rw [fl_st, e1, e2]
  have lb : ∀ m a f, m < 8 → a < 8 → ∀ _ : Unit, am_V (d + 1) Q 210 134 [some (.ref 93), some (.int (nI m)), some (.int (nI a)), some (.int (nI 0))] [] (am_hp N r (m_M I n W v (fl_in m f (8 * a)) T) J) = am_V (d + 1) Q 210 126 [some (.ref 93), some (.int (nI m)), some (.int (nI (a + 1))), am_oi (some (nI 8))] [] (am_hp N r (m_M I n W v (fl_in m f (8 * (a + 1))) T) J) := by
    intro m a f hm ha o
    have lp := am_up (P := fun b => am_V (d + 1) Q 210 134 [some (.ref 93), some (.int (nI m)), some (.int (nI a)), some (.int (nI b))] [] (am_hp N r (m_M I n W v (fl_in m f (8 * a + b)) T) J)) (R := am_V (d + 1) Q 210 126 [some (.ref 93), some (.int (nI m)), some (.int (nI (a + 1))), am_oi (some (nI 8))] [] (am_hp N r (m_M I n W v (fl_in m f (8 * (a + 1))) T) J)) 8
      (by
        try dsimp only
        rw [e_M_layFar_134]
        try simp (config := {maxSteps := 1000000}) (disch := omega) only [nI_add, nI_1, am_mulN, nI_clamp, am_gI, am_ifd, am_ifn, am_asIe, am_asLe, nI_leI, nI_ltI, nI_eq, am_neg1, am_neg1b, m_Mo, m_Mv, m_MF, m_MT, m_M0, m_M1, m_M2, m_M3, m_M4, m_M5, m_M6, m_M7, m_M8, m_M9, m_wv, m_w0, m_w1, m_w2, m_w3, m_w4, m_w5, m_w6, m_w7, m_w8, m_w9, m_wF, m_wT, m_Jn, m_Jw, m_Jo, m_un, m_uw, Nat.le_refl, if_true]
        rfl)
      (by
        intro b hb
        try dsimp only
        rw [p187 m a b _ hm ha hb]
        rfl)
    exact lp 0 (by omega)
  have la : ∀ m f, m < 8 → ∀ o3, am_V (d + 1) Q 210 126 [some (.ref 93), some (.int (nI m)), some (.int (nI 0)), am_oi o3] [] (am_hp N r (m_M I n W v f T) J) = am_V (d + 1) Q 210 118 [some (.ref 93), some (.int (nI (m + 1))), am_oi (some (nI 8)), am_oi (some (nI 8))] [] (am_hp N r (m_M I n W v (fl_in m f 64) T) J) := by
    intro m f hm o3
    have lp := am_up (P := fun a => am_V (d + 1) Q 210 126 [some (.ref 93), some (.int (nI m)), some (.int (nI (a + 1))), am_oi (some (nI 8))] [] (am_hp N r (m_M I n W v (fl_in m f (8 * (a + 1))) T) J)) (R := am_V (d + 1) Q 210 118 [some (.ref 93), some (.int (nI (m + 1))), am_oi (some (nI 8)), am_oi (some (nI 8))] [] (am_hp N r (m_M I n W v (fl_in m f 64) T) J)) 7
      (by
        try dsimp only
        rw [e_M_layFar_126]
        try simp (config := {maxSteps := 1000000}) (disch := omega) only [nI_add, nI_1, am_mulN, nI_clamp, am_gI, am_ifd, am_ifn, am_asIe, am_asLe, nI_leI, nI_ltI, nI_eq, am_neg1, am_neg1b, m_Mo, m_Mv, m_MF, m_MT, m_M0, m_M1, m_M2, m_M3, m_M4, m_M5, m_M6, m_M7, m_M8, m_M9, m_wv, m_w0, m_w1, m_w2, m_w3, m_w4, m_w5, m_w6, m_w7, m_w8, m_w9, m_wF, m_wT, m_Jn, m_Jw, m_Jo, m_un, m_uw, Nat.le_refl, if_true])
      (by
        intro a ha
        try dsimp only
        rw [e_M_layFar_126]
        try simp (config := {maxSteps := 1000000}) (disch := omega) only [nI_add, nI_1, am_mulN, nI_clamp, am_gI, am_ifd, am_ifn, am_asIe, am_asLe, nI_leI, nI_ltI, nI_eq, am_neg1, am_neg1b, m_Mo, m_Mv, m_MF, m_MT, m_M0, m_M1, m_M2, m_M3, m_M4, m_M5, m_M6, m_M7, m_M8, m_M9, m_wv, m_w0, m_w1, m_w2, m_w3, m_w4, m_w5, m_w6, m_w7, m_w8, m_w9, m_wF, m_wT, m_Jn, m_Jw, m_Jo, m_un, m_uw]
        rw [if_neg (by omega)]
        exact lb m (a + 1) f hm (by omega) ())
    rw [e_M_layFar_126]
    try simp (config := {maxSteps := 1000000}) (disch := omega) only [nI_add, nI_1, am_mulN, nI_clamp, am_gI, am_ifd, am_ifn, am_asIe, am_asLe, nI_leI, nI_ltI, nI_eq, am_neg1, am_neg1b, m_Mo, m_Mv, m_MF, m_MT, m_M0, m_M1, m_M2, m_M3, m_M4, m_M5, m_M6, m_M7, m_M8, m_M9, m_wv, m_w0, m_w1, m_w2, m_w3, m_w4, m_w5, m_w6, m_w7, m_w8, m_w9, m_wF, m_wT, m_Jn, m_Jw, m_Jo, m_un, m_uw]
    rw [if_neg (by omega)]
    exact (lb m 0 f hm (by omega) ()).trans (lp 0 (by omega))
  have lm : ∀ f o2 o3, am_V (d + 1) Q 210 118 [some (.ref 93), some (.int (nI 0)), am_oi o2, am_oi o3] [] (am_hp N r (m_M I n W v f T) J) = Q .null (am_hp N r (m_M I n W v (fl_out f 8) T) J) := by
    intro f
    have lp := am_upO (α := Option Int32 × Option Int32) (P := fun m o => am_V (d + 1) Q 210 118 [some (.ref 93), some (.int (nI m)), am_oi o.1, am_oi o.2] [] (am_hp N r (m_M I n W v (fl_out f m) T) J)) (R := Q .null (am_hp N r (m_M I n W v (fl_out f 8) T) J)) 8
      (by
        intro o
        try dsimp only
        rw [e_M_layFar_118]
        try simp (config := {maxSteps := 1000000}) (disch := omega) only [nI_add, nI_1, am_mulN, nI_clamp, am_gI, am_ifd, am_ifn, am_asIe, am_asLe, nI_leI, nI_ltI, nI_eq, am_neg1, am_neg1b, m_Mo, m_Mv, m_MF, m_MT, m_M0, m_M1, m_M2, m_M3, m_M4, m_M5, m_M6, m_M7, m_M8, m_M9, m_wv, m_w0, m_w1, m_w2, m_w3, m_w4, m_w5, m_w6, m_w7, m_w8, m_w9, m_wF, m_wT, m_Jn, m_Jw, m_Jo, m_un, m_uw, Nat.le_refl, if_true])
      (by
        intro m hm o
        refine ⟨(some (nI 8), some (nI 8)), ?_⟩
        try dsimp only
        rw [e_M_layFar_118]
        try simp (config := {maxSteps := 1000000}) (disch := omega) only [nI_add, nI_1, am_mulN, nI_clamp, am_gI, am_ifd, am_ifn, am_asIe, am_asLe, nI_leI, nI_ltI, nI_eq, am_neg1, am_neg1b, m_Mo, m_Mv, m_MF, m_MT, m_M0, m_M1, m_M2, m_M3, m_M4, m_M5, m_M6, m_M7, m_M8, m_M9, m_wv, m_w0, m_w1, m_w2, m_w3, m_w4, m_w5, m_w6, m_w7, m_w8, m_w9, m_wF, m_wT, m_Jn, m_Jw, m_Jo, m_un, m_uw]
        rw [if_neg (by omega), la m _ hm]
        rfl)
    intro o2 o3
    exact lp 0 (by omega) (o2, o3)
  have ls := am_up (P := fun l => am_V (d + 1) Q 210 35 [some (.ref 93), some (.int (nI l)), none, none] [] (am_hp N r (m_M I n W v (fl_s I (fl_0 F) l) T) J)) (R := Q .null (am_hp N r (m_M I n W v (m_far I F) T) J)) (m_nS I)
    (by
      try dsimp only
      rw [e_M_layFar_35]
      try simp (config := {maxSteps := 1000000}) (disch := omega) only [nI_add, nI_1, am_mulN, nI_clamp, am_gI, am_ifd, am_ifn, am_asIe, am_asLe, nI_leI, nI_ltI, nI_eq, am_neg1, am_neg1b, m_Mo, m_Mv, m_MF, m_MT, m_M0, m_M1, m_M2, m_M3, m_M4, m_M5, m_M6, m_M7, m_M8, m_M9, m_wv, m_w0, m_w1, m_w2, m_w3, m_w4, m_w5, m_w6, m_w7, m_w8, m_w9, m_wF, m_wT, m_Jn, m_Jw, m_Jo, m_un, m_uw, hS1, Nat.le_refl, if_true]
      exact lm _ _ _)
    (by
      intro l hl
      obtain ⟨a, b, c, ha, hb, ea, eb, ec, hc⟩ := hS l hl
      try dsimp only
      rw [e_M_layFar_35]
      try simp (config := {maxSteps := 1000000}) (disch := omega) only [nI_add, nI_1, am_mulN, nI_clamp, am_gI, am_ifd, am_ifn, am_asIe, am_asLe, nI_leI, nI_ltI, nI_eq, am_neg1, am_neg1b, m_Mo, m_Mv, m_MF, m_MT, m_M0, m_M1, m_M2, m_M3, m_M4, m_M5, m_M6, m_M7, m_M8, m_M9, m_wv, m_w0, m_w1, m_w2, m_w3, m_w4, m_w5, m_w6, m_w7, m_w8, m_w9, m_wF, m_wT, m_Jn, m_Jw, m_Jo, m_un, m_uw, hS1]
      rw [if_neg (by omega), s_M_isGone]
      try simp (config := {maxSteps := 1000000}) (disch := omega) only [nI_add, nI_1, am_mulN, nI_clamp, am_gI, am_ifd, am_ifn, am_asIe, am_asLe, nI_leI, nI_ltI, nI_eq, am_neg1, am_neg1b, m_Mo, m_Mv, m_MF, m_MT, m_M0, m_M1, m_M2, m_M3, m_M4, m_M5, m_M6, m_M7, m_M8, m_M9, m_wv, m_w0, m_w1, m_w2, m_w3, m_w4, m_w5, m_w6, m_w7, m_w8, m_w9, m_wF, m_wT, m_Jn, m_Jw, m_Jo, m_un, m_uw, m_gone_M]
      rw [e_M_layFar_50]
      try simp (config := {maxSteps := 1000000}) (disch := omega) only [nI_add, nI_1, am_mulN, nI_clamp, am_gI, am_ifd, am_ifn, am_asIe, am_asLe, nI_leI, nI_ltI, nI_eq, am_neg1, am_neg1b, m_Mo, m_Mv, m_MF, m_MT, m_M0, m_M1, m_M2, m_M3, m_M4, m_M5, m_M6, m_M7, m_M8, m_M9, m_wv, m_w0, m_w1, m_w2, m_w3, m_w4, m_w5, m_w6, m_w7, m_w8, m_w9, m_wF, m_wT, m_Jn, m_Jw, m_Jo, m_un, m_uw, b_v0, ea, eb, ec]
      rw [fl_s]
      cases hg : m_gone I l
      · simp only [if_true, Bool.false_eq_true, if_false]
        rw [ea, eb, ec, nI_clamp (by omega), nI_clamp (by omega)]
      · simp only [Bool.true_eq_false, if_false, if_true])
  have l0 := am_up (P := fun k => am_V (d + 1) Q 210 2 [some (.ref 93), some (.int (nI k)), none, none] [] (am_hp N r (m_M I n W v (fun i => if i < k then fl_0 F i else F i) T) J)) (R := Q .null (am_hp N r (m_M I n W v (m_far I F) T) J)) 64
    (by
      have e : (fun i => if i < 64 then fl_0 F i else F i) = fl_0 F := by
        funext i
        by_cases h : i < 64
        · rw [if_pos h]
        · rw [if_neg h, fl_0, if_neg h]
      try dsimp only
      rw [e_M_layFar_2]
      try simp (config := {maxSteps := 1000000}) (disch := omega) only [nI_add, nI_1, am_mulN, nI_clamp, am_gI, am_ifd, am_ifn, am_asIe, am_asLe, nI_leI, nI_ltI, nI_eq, am_neg1, am_neg1b, m_Mo, m_Mv, m_MF, m_MT, m_M0, m_M1, m_M2, m_M3, m_M4, m_M5, m_M6, m_M7, m_M8, m_M9, m_wv, m_w0, m_w1, m_w2, m_w3, m_w4, m_w5, m_w6, m_w7, m_w8, m_w9, m_wF, m_wT, m_Jn, m_Jw, m_Jo, m_un, m_uw, Nat.le_refl, if_true, e]
      exact ls 0 (by omega))
    (by
      intro k hk
      have e : ∀ x, x = fl_0 F k → upd (fun i => if i < k then fl_0 F i else F i) k x = (fun i => if i < k + 1 then fl_0 F i else F i) := by
        intro x hx
        funext i
        by_cases h : i = k
        · subst h; rw [pk_us, if_pos (by omega), hx]
        · rw [pk_un h]
          by_cases h2 : i < k
          · rw [if_pos h2, if_pos (by omega)]
          · rw [if_neg h2, if_neg (by omega)]
      try dsimp only
      rw [e_M_layFar_2]
      try simp (config := {maxSteps := 1000000}) (disch := omega) only [nI_add, nI_1, am_mulN, nI_clamp, am_gI, am_ifd, am_ifn, am_asIe, am_asLe, nI_leI, nI_ltI, nI_eq, am_neg1, am_neg1b, m_Mo, m_Mv, m_MF, m_MT, m_M0, m_M1, m_M2, m_M3, m_M4, m_M5, m_M6, m_M7, m_M8, m_M9, m_wv, m_w0, m_w1, m_w2, m_w3, m_w4, m_w5, m_w6, m_w7, m_w8, m_w9, m_wF, m_wT, m_Jn, m_Jw, m_Jo, m_un, m_uw, fl_rem9]
      rw [if_neg (by omega)]
      by_cases h9 : k % 9 = 0
      · rw [if_pos h9, e _ (by rw [fl_0, if_pos hk, if_pos h9])]
      · rw [if_neg h9, e _ (by rw [fl_0, if_pos hk, if_neg h9])])
  rw [e_M_layFar]
  have := l0 0 (by omega)
  try dsimp only at this
  have e : (fun i => if i < 0 then fl_0 F i else F i) = F := by funext i; rw [if_neg (by omega)]
  rw [e] at this
  exact this
theorem s_M_goesThrough {h0 : Nat} (hok : m_ok I) (hS : m_okS I) (hD : m_okD I) (hW : m_okW I W) (h12 : h0 < 12) (hh : W 0 0 = nI h0) (hQ : ∀ v' nm' wk', Q .null (am_hp N r (m_M I 1 (m_Wj I (m_far I F) false W h0 (12 - h0)) v' (m_far I F) (m_Tj I (m_far I F) false W T h0 (12 - h0))) (m_J J nm' wk'))) : am_D (d + 8) 233 [.ref 93] (am_hp N r (m_M I 1 W v F T) (m_J J nm wk)) Q := by
  have hok' := hok
  obtain ⟨⟨hH, hH8⟩, ⟨hS1, hS12⟩, ⟨hZ, hZ5⟩, ⟨hL, hL8⟩, ⟨hA, hA6⟩, hB, hl⟩ := hok'
  have okj : ∀ j, m_okW I (m_Wj I (m_far I F) false W h0 j) := by
    intro j
    induction j with
    | zero => exact hW
    | succ j ih =>
      refine m_okW_pass ?_ hH8 _ (Nat.le_refl _)
      intro s hs
      rw [am_uN (by omega)]
      exact ih s hs
  have m5 : ∀ {W : Nat → Nat → Int32} {v : Int32} {F T : Nat → Int32} {s : Nat}, s < 5 → m_M I 1 W v F T 123 (5 + s) = W 5 s := fun h => m_M5 (n := 1) h
  have lp : ∀ k j, 12 - h0 = j + k → ∀ o v nm wk, am_V (d + 7) Q 233 11 [some (.ref 93), some (.int (nI (h0 + j))), am_oi o] [] (am_hp N r (m_M I 1 (m_Wj I (m_far I F) false W h0 j) v (m_far I F) (m_Tj I (m_far I F) false W T h0 j)) (m_J J nm wk)) := by
    intro k
    induction k with
    | zero =>
      intro j hj o v nm wk
      rw [e_M_goesThrough_11]
      try simp (config := {maxSteps := 1000000}) (disch := omega) only [nI_add, nI_1, am_mulN, nI_clamp, am_gI, am_ifd, am_ifn, am_asIe, am_asLe, nI_leI, nI_ltI, nI_eq, am_neg1, am_neg1b, m_Mo, m_Mv, m_MF, m_MT, m_M0, m_M1, m_M2, m_M3, m_M4, m_M5, m_M6, m_M7, m_M8, m_M9, m_wv, m_w0, m_w1, m_w2, m_w3, m_w4, m_w5, m_w6, m_w7, m_w8, m_w9, m_wF, m_wT, m_Jn, m_Jw, m_Jo, m_un, m_uw]
      rw [if_pos (by omega)]
      have e : j = 12 - h0 := by omega
      subst e
      exact hQ _ _ _
    | succ k ih =>
      intro j hj o v nm wk
      have ih1 := ih (j + 1) (by omega)
      rw [e_M_goesThrough_11]
      try simp (config := {maxSteps := 1000000}) (disch := omega) only [nI_add, nI_1, am_mulN, nI_clamp, am_gI, am_ifd, am_ifn, am_asIe, am_asLe, nI_leI, nI_ltI, nI_eq, am_neg1, am_neg1b, m_Mo, m_Mv, m_MF, m_MT, m_M0, m_M1, m_M2, m_M3, m_M4, m_M5, m_M6, m_M7, m_M8, m_M9, m_wv, m_w0, m_w1, m_w2, m_w3, m_w4, m_w5, m_w6, m_w7, m_w8, m_w9, m_wF, m_wT, m_Jn, m_Jw, m_Jo, m_un, m_uw]
      rw [if_neg (by omega)]
      have := s_M_passes (d := d) (Q := fun x h => am_V (d + 7) Q 233 30 [some (.ref 93), some (.int (nI (h0 + j))), am_oi o] [] h) (N := N) (r := r) (J := J) (v := v) (nm := nm) (wk := wk) (T := m_Tj I (m_far I F) false W T h0 j) (b := false) (F := m_far I F) (W := am_u (m_Wj I (m_far I F) false W h0 j) 0 0 (nI (h0 + j))) hok hD (by
        intro s hs
        rw [am_uN (by omega)]
        exact okj j s hs) (show 1 < 23 by omega)
      refine this ?_
      intro v' nm' wk'
      have eW : m_pass I (m_far I F) false (am_u (m_Wj I (m_far I F) false W h0 j) 0 0 (nI (h0 + j))) (m_nZ I) = m_Wj I (m_far I F) false W h0 (j + 1) := rfl
      rw [eW, e_M_goesThrough_30]
      try simp (config := {maxSteps := 1000000}) (disch := omega) only [nI_add, nI_1, am_mulN, nI_clamp, am_gI, am_ifd, am_ifn, am_asIe, am_asLe, nI_leI, nI_ltI, nI_eq, am_neg1, am_neg1b, m_Mo, m_Mv, m_MF, m_MT, m_M0, m_M1, m_M2, m_M3, m_M4, m_M5, m_M6, m_M7, m_M8, m_M9, m_wv, m_w0, m_w1, m_w2, m_w3, m_w4, m_w5, m_w6, m_w7, m_w8, m_w9, m_wF, m_wT, m_Jn, m_Jw, m_Jo, m_un, m_uw]
      have l2 := am_up (P := fun s => am_V (d + 7) Q 233 32 [some (.ref 93), some (.int (nI (h0 + j))), some (.int (nI s))] [] (am_hp N r (m_M I 1 (m_Wj I (m_far I F) false W h0 (j + 1)) v' (m_far I F) (m_tr (m_Tj I (m_far I F) false W T h0 j) (m_Wj I (m_far I F) false W h0 (j + 1)) (h0 + j) s)) (m_J J nm' wk'))) (R := am_V (d + 7) Q 233 11 [some (.ref 93), some (.int (nI (h0 + (j + 1)))), am_oi (some (nI (m_nZ I)))] [] (am_hp N r (m_M I 1 (m_Wj I (m_far I F) false W h0 (j + 1)) v' (m_far I F) (m_Tj I (m_far I F) false W T h0 (j + 1))) (m_J J nm' wk'))) (m_nZ I)
        (by
          try dsimp only
          rw [e_M_goesThrough_32]
          try simp (config := {maxSteps := 1000000}) (disch := omega) only [nI_add, nI_1, am_mulN, nI_clamp, am_gI, am_ifd, am_ifn, am_asIe, am_asLe, nI_leI, nI_ltI, nI_eq, am_neg1, am_neg1b, m_Mo, m_Mv, m_MF, m_MT, m_M0, m_M1, m_M2, m_M3, m_M4, m_M5, m_M6, m_M7, m_M8, m_M9, m_wv, m_w0, m_w1, m_w2, m_w3, m_w4, m_w5, m_w6, m_w7, m_w8, m_w9, m_wF, m_wT, m_Jn, m_Jw, m_Jo, m_un, m_uw, hZ, Nat.le_refl, if_true]
          rfl)
        (by
          intro s hs
          try dsimp only
          rw [e_M_goesThrough_32]
          try simp (config := {maxSteps := 1000000}) (disch := omega) only [nI_add, nI_1, am_mulN, nI_clamp, am_gI, am_ifd, am_ifn, am_asIe, am_asLe, nI_leI, nI_ltI, nI_eq, am_neg1, am_neg1b, m_Mo, m_Mv, m_MF, m_MT, m_M0, m_M1, m_M2, m_M3, m_M4, m_M5, m_M6, m_M7, m_M8, m_M9, m_wv, m_w0, m_w1, m_w2, m_w3, m_w4, m_w5, m_w6, m_w7, m_w8, m_w9, m_wF, m_wT, m_Jn, m_Jw, m_Jo, m_un, m_uw, hZ, m5]
          rw [if_neg (by omega)]
          rfl)
      have l3 := l2 0 (by omega)
      try dsimp only at l3
      rw [m_tr] at l3
      rw [l3]
      exact ih1 _ _ _ _
  rw [e_M_goesThrough, s_M_layFar hok hS, e_M_goesThrough_4]
  try simp (config := {maxSteps := 1000000}) (disch := omega) only [nI_add, nI_1, am_mulN, nI_clamp, am_gI, am_ifd, am_ifn, am_asIe, am_asLe, nI_leI, nI_ltI, nI_eq, am_neg1, am_neg1b, m_Mo, m_Mv, m_MF, m_MT, m_M0, m_M1, m_M2, m_M3, m_M4, m_M5, m_M6, m_M7, m_M8, m_M9, m_wv, m_w0, m_w1, m_w2, m_w3, m_w4, m_w5, m_w6, m_w7, m_w8, m_w9, m_wF, m_wT, m_Jn, m_Jw, m_Jo, m_un, m_uw, hh]
  exact lp (12 - h0) 0 (by omega) none _ _ _
/-- the night ahead, tried -/
theorem s_M_tonight {h0 : Nat} (hok : m_ok I) (hS : m_okS I) (hD : m_okD I) (hW : m_okW I (m_g I 0)) (h12 : h0 < 12) (hh : I 118 0 = nI h0) (hQ : ∀ v' nm' wk', Q .null (am_hp N r (m_M I 1 (m_Wj I (m_far I F) false (m_g I 0) h0 (12 - h0)) v' (m_far I F) (m_Tj I (m_far I F) false (m_g I 0) T h0 (12 - h0))) (m_J J nm' wk'))) : am_D (d + 9) 232 [.ref 93] (am_hp N r (m_M I 1 W v F T) (m_J J nm wk)) Q := by
  rw [e_M_tonight, s_M_copies (by omega) (by omega) (by omega), e_M_tonight_6]
  refine s_M_goesThrough hok hS hD hW h12 hh ?_
  intro v' nm' wk'
  rw [e_M_tonight_10]
  exact hQ _ _ _
end
