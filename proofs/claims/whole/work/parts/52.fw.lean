/-! ===== L3: ways and how far, the class's and the model's ===== -/
def st0 (I : Nat → Nat → Int32) (a b l : Nat) : Bool := decide (I 100 l = nI a ∧ I 101 l = nI b) || decide (I 100 l = nI b ∧ I 101 l = nI a)
theorem st0_n {I : Nat → Nat → Int32} {a b l x y : Nat} (h4 : I 100 l = nI x) (h5 : I 101 l = nI y) (hx : x < 8) (hy : y < 8) (ha : a < 8) (hb : b < 8) : st0 I a b l = decide ((a = x ∧ b = y) ∨ (a = y ∧ b = x)) := by
  unfold st0
  simp only [h4, h5, n8 (show x < 100 by omega) (show a < 100 by omega), n8 (show y < 100 by omega) (show b < 100 by omega), n8 (show x < 100 by omega) (show b < 100 by omega), n8 (show y < 100 by omega) (show a < 100 by omega)]
  rw [← Bool.decide_or]
  apply decide_eq_decide.mpr
  omega
/-- streets' ends are houses, unlike; each pair once -/
def st_ok (I : Nat → Nat → Int32) : Prop := (∀ l, l < m_nS I → ∃ a b c, a < m_nH I ∧ b < m_nH I ∧ a ≠ b ∧ I 100 l = nI a ∧ I 101 l = nI b ∧ I 102 l = nI c ∧ 1 ≤ c ∧ c ≤ 9) ∧
  (∀ a b l l', l < m_nS I → l' < m_nS I → st0 I a b l = true → st0 I a b l' = true → l = l')
/-- the length of the street that is not gone (skip p), 0 if none -/
def wayP (I : Nat → Nat → Int32) (p : Nat → Bool) (n a b : Nat) : Int32 := if fa_first (fun l => !p l && st0 I a b l) n < n then I 102 (fa_first (fun l => !p l && st0 I a b l) n) else nI 0
theorem m_okS_of {I : Nat → Nat → Int32} (h : st_ok I) : m_okS I := by
  intro l hl
  obtain ⟨a, b, c, h1, h2, _, h3, h4, h5, h6, h7⟩ := h.1 l hl
  exact ⟨a, b, c, h1, h2, h3, h4, h5, h6, h7⟩
theorem m_street_P {I : Nat → Nat → Int32} {n a b : Nat} : m_street I n (nI a) (nI b) = wayP I (m_gone I) n a b := rfl
theorem wayP_diag {I : Nat → Nat → Int32} {p : Nat → Bool} {a : Nat} (h : st_ok I) (h8 : m_nH I ≤ 8) (ha : a < 8) : wayP I p (m_nS I) a a = nI 0 := by
  unfold wayP
  rw [if_neg]
  intro hlt
  have := fa_first_yes _ _ hlt
  generalize fa_first (fun l => !p l && st0 I a a l) (m_nS I) = l at this hlt
  obtain ⟨x, y, c, h1, h2, h3, h4, h5, _⟩ := h.1 l hlt
  try dsimp only at this
  rw [st0_n h4 h5 (by omega) (by omega) ha ha] at this
  simp at this
  omega
theorem m_way_P {I : Nat → Nat → Int32} {a b : Nat} (h : st_ok I) (h8 : m_nH I ≤ 8) (ha : a < 8) : m_way I a b = wayP I (m_gone I) (m_nS I) a b := by
  unfold m_way
  by_cases e : b = a
  · subst e; rw [if_pos rfl, wayP_diag h h8 ha]
  · rw [if_neg e, m_street_P]
theorem wayP_lt {I : Nat → Nat → Int32} {p : Nat → Bool} {a b : Nat} (h : st_ok I) : ∃ q, q < 10 ∧ wayP I p (m_nS I) a b = nI q := by
  unfold wayP
  split
  · rename_i hlt
    obtain ⟨x, y, c, _, _, _, _, _, h5, _, h7⟩ := h.1 _ hlt
    exact ⟨c, by omega, h5⟩
  · exact ⟨0, by omega, rfl⟩
theorem wayP_0 {I : Nat → Nat → Int32} {p : Nat → Bool} {a b : Nat} (h : st_ok I) (h8 : m_nH I ≤ 8) (hab : m_nH I ≤ a ∨ m_nH I ≤ b) (ha : a < 8) (hb : b < 8) : wayP I p (m_nS I) a b = nI 0 := by
  unfold wayP
  rw [if_neg]
  intro hlt
  have := fa_first_yes _ _ hlt
  generalize fa_first (fun l => !p l && st0 I a b l) (m_nS I) = l at this hlt
  obtain ⟨x, y, c, h1, h2, h3, h4, h5, _⟩ := h.1 l hlt
  try dsimp only at this
  rw [st0_n h4 h5 (by omega) (by omega) ha hb] at this
  simp at this
  omega
theorem st0_sym {I : Nat → Nat → Int32} {a b l : Nat} : st0 I a b l = st0 I b a l := by unfold st0; rw [Bool.or_comm]
theorem wayP_sym {I : Nat → Nat → Int32} {p : Nat → Bool} {n a b : Nat} : wayP I p n a b = wayP I p n b a := by
  unfold wayP
  have : (fun l => !p l && st0 I a b l) = (fun l => !p l && st0 I b a l) := by funext l; rw [st0_sym]
  rw [this]
/-- how far at first, by a table of ways -/
def fl_i (w : Nat → Int32) : Nat → Int32 := fun k => if k / 8 = k % 8 then nI 0 else if w k ≤ nI 0 then nI 99 else w k
theorem fa_first_S {p : Nat → Bool} {n : Nat} : fa_first p (n + 1) = if fa_first p n < n then fa_first p n else if p n then n else n + 1 := rfl
theorem wayP_S {I : Nat → Nat → Int32} {p : Nat → Bool} {n a b : Nat} : wayP I p (n + 1) a b = if (fa_first (fun l => !p l && st0 I a b l) n < n) then wayP I p n a b else if p n = false ∧ st0 I a b n = true then I 102 n else nI 0 := by
  unfold wayP
  rw [fa_first_S]
  by_cases c : fa_first (fun l => !p l && st0 I a b l) n < n
  · rw [if_pos c, if_pos c, if_pos c, if_pos (by omega)]
  · rw [if_neg c, if_neg c]
    cases hp : p n <;> cases hs : st0 I a b n <;> simp [hp, hs]
theorem fl_s_eq {I : Nat → Nat → Int32} {f : Nat → Int32} (h : st_ok I) (h8 : m_nH I ≤ 8) {a b : Nat} (ha : a < 8) (hb : b < 8) : ∀ n, n ≤ m_nS I → fl_s I f n (8 * a + b) = if fa_first (fun l => !m_gone I l && st0 I a b l) n < n then wayP I (m_gone I) n a b else f (8 * a + b)
  | 0, _ => by rw [if_neg (by omega)]; rfl
  | n + 1, hn => by
    have ih := fl_s_eq (f := f) h h8 ha hb n (by omega)
    obtain ⟨x, y, c, h1, h2, h3, h4, h5, h6, _⟩ := h.1 n (by omega)
    have e1 : st0 I a b n = decide ((a = x ∧ b = y) ∨ (a = y ∧ b = x)) := st0_n h4 h5 (by omega) (by omega) ha hb
    have pre : st0 I a b n = true → ¬ fa_first (fun l => !m_gone I l && st0 I a b l) n < n := by
      intro hs hlt
      have := fa_first_yes _ _ hlt
      try dsimp only at this
      rw [Bool.and_eq_true] at this
      have e := h.2 a b _ n (by omega) (by omega) this.2 hs
      omega
    unfold fl_s
    rw [h4, h5, nI_clamp (by omega), nI_clamp (by omega), fa_first_S, wayP_S]
    cases hg : m_gone I n
    · rw [if_neg (by decide)]
      by_cases hs : (a = x ∧ b = y) ∨ (a = y ∧ b = x)
      · have hst : st0 I a b n = true := by rw [e1]; exact decide_eq_true hs
        have hp := pre hst
        simp only [hp, if_false, hg, hst, Bool.not_false, Bool.and_self, if_true, and_self]
        rw [if_pos (by omega)]
        rcases hs with ⟨rfl, rfl⟩ | ⟨rfl, rfl⟩
        · by_cases e : 8 * a + b = 8 * b + a
          · rw [← e, pk_us]
          · rw [pk_un e, pk_us]
        · rw [pk_us]
      · have hst : st0 I a b n = false := by rw [e1]; exact decide_eq_false hs
        rw [pk_un (by omega), pk_un (by omega), ih]
        simp only [hg, hst, Bool.not_false, Bool.and_false, Bool.false_eq_true, if_false, and_false]
        by_cases c : fa_first (fun l => !m_gone I l && st0 I a b l) n < n
        · simp only [c, if_true]; rw [if_pos (by omega)]
        · simp only [c, if_false]; rw [if_neg (by omega)]
    · rw [if_pos rfl, ih]
      simp only [hg, Bool.not_true, Bool.false_and, Bool.false_eq_true, if_false, Bool.true_eq_false, false_and]
      by_cases c : fa_first (fun l => !m_gone I l && st0 I a b l) n < n
      · simp only [c, if_true]; rw [if_pos (by omega)]
      · simp only [c, if_false]; rw [if_neg (by omega)]
theorem fl_first {I : Nat → Nat → Int32} {F w : Nat → Int32} (h : st_ok I) (h8 : m_nH I ≤ 8) (hw : ∀ a b, a < 8 → b < 8 → w (8 * a + b) = wayP I (m_gone I) (m_nS I) a b) {k : Nat} (hk : k < 64) : fl_s I (fl_0 F) (m_nS I) k = fl_i w k := by
  obtain ⟨a, b, ha, hb, rfl⟩ : ∃ a b, a < 8 ∧ b < 8 ∧ k = 8 * a + b := ⟨k / 8, k % 8, by omega, by omega, by omega⟩
  rw [fl_s_eq h h8 ha hb _ (Nat.le_refl _), fl_i, hw a b ha hb, show (8 * a + b) / 8 = a by omega, show (8 * a + b) % 8 = b by omega]
  by_cases e : a = b
  · subst e
    rw [if_pos rfl, if_neg, fl_0, if_pos hk, if_pos (by omega)]
    intro hlt
    have := wayP_diag (p := m_gone I) h h8 ha
    unfold wayP at this
    rw [if_pos hlt] at this
    obtain ⟨x, y, c, _, _, _, _, _, h6, h7, h9⟩ := h.1 _ hlt
    rw [h6, n8 (by omega) (by omega)] at this
    omega
  · rw [if_neg e]
    by_cases c : fa_first (fun l => !m_gone I l && st0 I a b l) (m_nS I) < m_nS I
    · rw [if_pos c, if_neg]
      unfold wayP
      rw [if_pos c]
      obtain ⟨x, y, c, _, _, _, _, _, h6, h7, h9⟩ := h.1 _ c
      rw [h6, nI_leI (by omega) (by omega)]
      omega
    · have e0 : wayP I (m_gone I) (m_nS I) a b = nI 0 := by unfold wayP; rw [if_neg c]
      rw [if_neg c, e0, if_pos (by decide +kernel), fl_0, if_pos hk, if_neg (by omega)]
theorem fl_st_c {f g : Nat → Int32} {m i : Nat} (hm : m < 8) (hi : i < 64) (h : ∀ k, k < 64 → f k = g k) : ∀ k, k < 64 → fl_st m i f k = fl_st m i g k := by
  intro k hk
  unfold fl_st
  rw [h i hi, h _ (show 8 * (i / 8) + m < 64 by omega), h _ (show 8 * m + i % 8 < 64 by omega)]
  by_cases e : k = i
  · subst e; rw [pk_us, pk_us]
  · rw [pk_un e, pk_un e]; exact h k hk
theorem fl_in_c {f g : Nat → Int32} {m : Nat} (hm : m < 8) (h : ∀ k, k < 64 → f k = g k) : ∀ n, n ≤ 64 → ∀ k, k < 64 → fl_in m f n k = fl_in m g n k
  | 0, _ => h
  | n + 1, hn => fl_st_c hm (by omega) (fl_in_c hm h n (by omega))
theorem fl_out_c {f g : Nat → Int32} (h : ∀ k, k < 64 → f k = g k) : ∀ n, n ≤ 8 → ∀ k, k < 64 → fl_out f n k = fl_out g n k
  | 0, _ => h
  | n + 1, hn => fl_in_c (by omega) (fl_out_c h n (by omega)) 64 (Nat.le_refl _)
def fl_B (f : Nat → Int32) : Prop := ∀ k, k < 64 → ∃ q, q ≤ 99 ∧ f k = nI q
theorem fl_st_B {f : Nat → Int32} {m i : Nat} (hm : m < 8) (hi : i < 64) (h : fl_B f) : fl_B (fl_st m i f) := by
  intro k hk
  unfold fl_st
  by_cases e : k = i
  · subst e
    rw [pk_us]
    obtain ⟨x, hx, ex⟩ := h k hk
    obtain ⟨y, hy, ey⟩ := h _ (show 8 * (k / 8) + m < 64 by omega)
    obtain ⟨z, hz, ez⟩ := h _ (show 8 * m + k % 8 < 64 by omega)
    rw [ex, ey, ez, nI_add, fl_min]
    split
    · rename_i c
      rw [nI_ltI (by omega) (by omega)] at c
      exact ⟨y + z, by omega, rfl⟩
    · exact ⟨x, hx, rfl⟩
  · rw [pk_un e]; exact h k hk
theorem fl_in_B {f : Nat → Int32} {m : Nat} (hm : m < 8) (h : fl_B f) : ∀ n, n ≤ 64 → fl_B (fl_in m f n)
  | 0, _ => h
  | n + 1, hn => fl_st_B hm (by omega) (fl_in_B hm h n (by omega))
theorem fl_out_B {f : Nat → Int32} (h : fl_B f) : ∀ n, n ≤ 8 → fl_B (fl_out f n)
  | 0, _ => h
  | n + 1, hn => fl_in_B (by omega) (fl_out_B h n (by omega)) 64 (Nat.le_refl _)
theorem fl_i_B {I : Nat → Nat → Int32} {p : Nat → Bool} {w : Nat → Int32} (h : st_ok I) (hw : ∀ a b, a < 8 → b < 8 → w (8 * a + b) = wayP I p (m_nS I) a b) : fl_B (fl_i w) := by
  intro k hk
  unfold fl_i
  split
  · exact ⟨0, by omega, rfl⟩
  · split
    · exact ⟨99, by omega, rfl⟩
    · have := hw (k / 8) (k % 8) (by omega) (by omega)
      rw [show 8 * (k / 8) + k % 8 = k by omega] at this
      rw [this]
      obtain ⟨q, hq, e⟩ := wayP_lt (p := p) (a := k / 8) (b := k % 8) h
      exact ⟨q, by omega, e⟩
/-- the model's far is the class's, out of the same ways -/
theorem far_eq {I : Nat → Nat → Int32} {F w : Nat → Int32} (h : st_ok I) (h8 : m_nH I ≤ 8) (hw : ∀ a b, a < 8 → b < 8 → w (8 * a + b) = wayP I (m_gone I) (m_nS I) a b) : ∀ k, k < 64 → m_far I F k = fl_out (fl_i w) 8 k ∧ ∃ q, q ≤ 99 ∧ m_far I F k = nI q := by
  intro k hk
  have e : m_far I F k = fl_out (fl_i w) 8 k := fl_out_c (fun k hk => fl_first h h8 hw hk) 8 (Nat.le_refl _) k hk
  refine ⟨e, ?_⟩
  rw [e]
  exact fl_out_B (fl_i_B h hw) 8 (Nat.le_refl _) k hk
