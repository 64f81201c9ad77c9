/-! ===== L3: the class's town and the model's; a night made ready stands as the model's ===== -/
def m_idle (I : Nat → Nat → Int32) : Prop := I 93 52 = nI 0 ∧ I 93 53 = -nI 1 ∧ I 93 54 = -nI 1 ∧ I 93 55 = -nI 1 ∧ I 93 58 = nI 0 ∧ I 93 59 = -nI 1 ∧ I 93 61 = nI 0 ∧ I 93 62 = nI 0 ∧ I 93 63 = -nI 1
def t_rel (I : Nat → Nat → Int32) (t : Nat) : Prop :=
  ((t = 3 ∨ t = 23) ∧ m_ok I ∧ st_ok I ∧ m_okL I) ∧
  (I t 0 = I 95 0 ∧ I t 1 = I 95 1 ∧ I t 2 = I 95 2 ∧ I t 3 = I 95 3 ∧ I t 4 = I 95 4 ∧ I t 6 = I 95 5) ∧
  (∀ h, h < m_nH I → I 98 h = nI (bt (I t 5) h).toNat) ∧
  (∀ h, h < m_nH I → I (t + 1) h = I 96 h) ∧ (∀ s, s < m_nZ I → I (t + 2) s = I 103 s) ∧
  (∀ l, l < m_nS I → I (t + 3) l = nI 8 * I 100 l + I 101 l) ∧
  (∀ a b, a < 8 → b < 8 → I (t + 4) (8 * a + b) = wayP I (fun _ => false) (m_nS I) a b) ∧
  (0 < m_nH I → ∀ k, k < 64 → I (t + 5) k = fl_out (fl_i (I (t + 4))) 8 k) ∧
  (∀ s, s < m_nZ I → I (t + 6) s = I 104 s ∧ I (t + 7) s = I 105 s ∧ I (t + 8) s = I 106 s ∧ (∃ k, k ≤ 9 ∧ I 105 s = nI k) ∧ ∃ h, h < m_nH I ∧ I 106 s = nI h) ∧
  (∀ l, l < m_nL I → I (t + 9) l = I 107 l ∧ I (t + 10) l = I 108 l ∧ ∃ h, h < m_nH I ∧ I 108 l = nI h) ∧
  (∀ h, h < m_nH I → ∀ l, l < 32 → bt (I (t + 11) h) l = decide (l < m_nL I ∧ I 108 l = nI h)) ∧
  (∀ h, h < m_nH I → ∀ hr, hr < 12 → bt (I (t + 12) h) hr = m_lamp I (m_nA I) (nI h) (nI hr)) ∧
  (∀ h, h < m_nH I → I (t + 13) h = I 97 h ∧ I (t + 14) h = I 99 h ∧ (∃ k, k ≤ 9 ∧ I 97 h = nI k) ∧ ∃ k, k ≤ 9 ∧ I 99 h = nI k) ∧
  c_lwr I I (t + 15) ∧ c_used I I (t + 15) ∧ I (t + 15) 0 = I 95 6 ∧ c_ro I
theorem fl_in_hi {f : Nat → Int32} {m k : Nat} (hk : 64 ≤ k) : ∀ n, n ≤ 64 → fl_in m f n k = f k
  | 0, _ => rfl
  | n + 1, h => by unfold fl_in fl_st; rw [pk_un (by omega)]; exact fl_in_hi hk n (by omega)
theorem fl_out_hi {f : Nat → Int32} {k : Nat} (hk : 64 ≤ k) : ∀ n, fl_out f n k = f k
  | 0 => rfl
  | n + 1 => by unfold fl_out; rw [fl_in_hi hk 64 (Nat.le_refl _)]; exact fl_out_hi hk n
theorem fl_s_hi {I : Nat → Nat → Int32} {f : Nat → Int32} {k : Nat} (h : st_ok I) (h8 : m_nH I ≤ 8) (hk : 64 ≤ k) : ∀ n, n ≤ m_nS I → fl_s I f n k = f k
  | 0, _ => rfl
  | n + 1, hn => by
    obtain ⟨x, y, c, h1, h2, h3, h4, h5, h6, _⟩ := h.1 n (by omega)
    unfold fl_s
    split
    · exact fl_s_hi h h8 hk n (by omega)
    · rw [h4, h5, nI_clamp (by omega), nI_clamp (by omega), pk_un (by omega), pk_un (by omega)]
      exact fl_s_hi h h8 hk n (by omega)
theorem m_far_hi {I : Nat → Nat → Int32} {F : Nat → Int32} {k : Nat} (h : st_ok I) (h8 : m_nH I ≤ 8) (hk : 64 ≤ k) : m_far I F k = F k := by
  unfold m_far
  rw [fl_out_hi hk, fl_s_hi h h8 hk _ (Nat.le_refl _), fl_0, if_neg (by omega)]
theorem m_far_lo {I : Nat → Nat → Int32} {F F' : Nat → Int32} {k : Nat} (h : st_ok I) (h8 : m_nH I ≤ 8) (hk : k < 64) : m_far I F k = m_far I F' k := by
  unfold m_far
  refine fl_out_c ?_ 8 (Nat.le_refl _) k hk
  intro k hk
  obtain ⟨a, b, ha, hb, rfl⟩ : ∃ a b, a < 8 ∧ b < 8 ∧ k = 8 * a + b := ⟨k / 8, k % 8, by omega, by omega, by omega⟩
  rw [fl_s_eq h h8 ha hb _ (Nat.le_refl _), fl_s_eq h h8 ha hb _ (Nat.le_refl _)]
  split
  · rfl
  · rw [fl_0, fl_0, if_pos hk, if_pos hk]
theorem m_far_id {I : Nat → Nat → Int32} {F : Nat → Int32} (h : st_ok I) (h8 : m_nH I ≤ 8) : m_far I (m_far I F) = m_far I F := by
  funext k
  rcases Nat.lt_or_ge k 64 with hk | hk
  · exact m_far_lo h h8 hk
  · rw [m_far_hi h h8 hk]
theorem g_wayP {I I' : Nat → Nat → Int32} (h : m_eq I I') : wayP I' = wayP I := by
  funext p n a b
  unfold wayP
  have : st0 I' = st0 I := by funext a b l; unfold st0; rw [h 100 (by omega), h 101 (by omega)]
  rw [this, h 102 (by omega)]
theorem g_stok {I I' : Nat → Nat → Int32} (h : m_eq I I') (k : st_ok I) : st_ok I' := by
  have e : st0 I' = st0 I := by funext a b l; unfold st0; rw [h 100 (by omega), h 101 (by omega)]
  unfold st_ok
  rw [g_nS h, g_nH h, e, h 100 (by omega), h 101 (by omega), h 102 (by omega)]
  exact k
theorem m_gone_idle {I : Nat → Nat → Int32} (h : I 93 52 = nI 0) : m_gone I = fun _ => false := by
  funext l
  unfold m_gone
  apply decide_eq_false
  intro ⟨h1, _⟩
  rw [h] at h1
  exact absurd h1 (by decide +kernel)
theorem am_neg1' {k : Nat} (h : k < 2 ^ 31) : ¬ nI k = -nI 1 := fun e => cast (am_neg1 h) e
theorem m_noise_idle {I : Nat → Nat → Int32} {b : Int32} {h kb ks kc : Nat} (hi : m_idle I) (hb : b = nI kb) (hs : I 99 h = nI ks) (hc : I 98 h = nI kc) (hh : h < 8) : m_noise I b h = nI (kb + ks + kc * 3) := by
  obtain ⟨i0, i1, i2, i3, i4, i5, i6, i7, i8⟩ := hi
  unfold m_noise
  rw [i0, i2, i3, i8, if_neg (by decide +kernel), if_neg (by decide +kernel), if_neg (by decide +kernel), if_neg (am_neg1' (by omega)), if_neg (am_neg1' (by omega)), if_neg (am_neg1' (by omega)), hb, hs, hc]
  rw [am_mulN, nI_add, nI_add, nI_add, nI_add, nI_add]
  congr 1
  omega
theorem m_light_idle {I : Nat → Nat → Int32} {n h : Nat} {lit hr : Int32} (hi : m_idle I) : m_light I n lit h hr = (bt lit h || m_lamp I n (nI h) hr) := by
  obtain ⟨i0, i1, i2, i3, i4, i5, i6, i7, i8⟩ := hi
  unfold m_light
  rw [i0, i6, i7, b_z, decide_eq_false (by decide +kernel), decide_eq_false (by decide +kernel), decide_eq_true rfl]
  simp
theorem m_deep_idle {I : Nat → Nat → Int32} {s : Nat} (hi : m_idle I) : m_deep I s = I 105 s := by
  unfold m_deep
  rw [if_neg]
  intro ⟨h, _⟩
  rw [hi.1] at h
  exact absurd h (by decide +kernel)
theorem m_dream_idle {I : Nat → Nat → Int32} {s : Nat} (hi : m_idle I) (hs : s < 8) : m_dream I s = I 106 s := by
  unfold m_dream
  rw [hi.2.2.2.2.2.1, if_neg (am_neg1' (by omega))]
section
variable {I C W : Nat → Nat → Int32} {F : Nat → Int32} {t w z : Nat} {lit : Int32}
theorem su_o {a j : Nat} (h : a ≠ 61 ∧ a ≠ 69 ∧ a ≠ 70 ∧ a ≠ 71) : c_suit I t w z a j = I a j := by
  unfold c_suit
  rw [if_neg (by omega), if_neg (by omega), if_neg (by omega), if_neg (by omega), if_neg (by omega)]
theorem su_row {a : Nat} (h : a ≠ 61 ∧ a ≠ 69 ∧ a ≠ 70 ∧ a ≠ 71) : c_suit I t w z a = I a := by funext j; exact su_o h
theorem su_61 : c_suit I t w z 61 10 = c_all z ∧ c_suit I t w z 61 11 = nI 0 ∧ c_suit I t w z 61 12 = nI 0 := by
  refine ⟨?_, ?_, ?_⟩
  · unfold c_suit; rw [if_pos (by omega)]
  · unfold c_suit; rw [if_neg (by omega), if_pos (by omega)]
  · unfold c_suit; rw [if_neg (by omega), if_pos (by omega)]
theorem su_69 {j : Nat} (h : j < 8) : c_suit I t w z 69 j = (I (w + 5) j + I (t + 14) j) + nI ((bt (I t 5) j).toNat * 3) := by
  unfold c_suit; rw [if_neg (by omega), if_neg (by omega), if_pos (by omega)]
theorem su_70 {j : Nat} (h : j < 5) : c_suit I t w z 70 j = I (t + 7) j := by
  unfold c_suit; rw [if_neg (by omega), if_neg (by omega), if_neg (by omega), if_pos (by omega)]
theorem su_71 {j : Nat} (h : j < 5) : c_suit I t w z 71 j = I (t + 8) j := by
  unfold c_suit; rw [if_neg (by omega), if_neg (by omega), if_neg (by omega), if_neg (by omega), if_pos (by omega)]
theorem su_eq : m_eq I (c_suit I t w z) := fun a h => su_row (by omega)
theorem bt_toNat2 (b : Bool) : b.toNat < 2 := by cases b <;> decide
theorem c_lwr_row {I I' M : Nat → Nat → Int32} {q : Nat} (h1 : I' (q + 1) = I (q + 1)) (h2 : I' (q + 2) = I (q + 2)) (h3 : I' (q + 3) = I (q + 3)) (h : c_lwr I M q) : c_lwr I' M q := by
  unfold c_lwr
  rw [h1, h2, h3]
  exact h
theorem c_used_row {I I' M : Nat → Nat → Int32} {q : Nat} (h4 : I' (q + 4) = I (q + 4)) (h : c_used I M q) : c_used I' M q := by
  unfold c_used
  rw [h4]
  exact h
theorem c_ro_row {I I' : Nat → Nat → Int32} (h1 : I' 2001 = I 2001) (h2 : I' 2002 = I 2002) (h : c_ro I) : c_ro I' := by
  unfold c_ro
  rw [h1, h2]
  exact h
theorem c_cache_row {I I' M : Nat → Nat → Int32} {q : Nat} {K : Nat → Int32} {vl : Nat → Int64} (h4 : I' (q + 4) = I (q + 4)) (h : c_cache I M q K vl) : c_cache I' M q K vl := by
  have e : c_key I' q = c_key I q := by funext a b; unfold c_key; rw [h4]
  unfold c_cache
  rw [e]
  exact h
theorem env_idle (hw : w = 49 ∨ w = 55 ∨ w = 82) (hT : t_rel I t) (hi : m_idle I) (hb : ∀ h, h < m_nH I → I (w + 5) h = W 9 h ∧ ∃ k, k ≤ 9 ∧ W 9 h = nI k) : c_env (c_suit I t w (m_nZ I)) I t (t + 4) (t + 5) (m_far I F) false (W 9) (W 3 0) (W 3 0) := by
  obtain ⟨⟨ht, hok, hst, hokL⟩, ⟨e0, e1, e2, e3, e4, e6⟩, ecat, ehn, esn, ese, ewy, efa, esl, ele, ema, ela, ebe, elw, eus, ekn, ero⟩ := hT
  have hok' := hok
  obtain ⟨⟨hH, hH8⟩, ⟨hS, hS12⟩, ⟨hZ, hZ5⟩, ⟨hL, hL8⟩, ⟨hA, hA6⟩, hB, hl⟩ := hok'
  have hg := m_gone_idle hi.1
  refine ⟨⟨ht, by omega, by omega⟩, ⟨?_, ?_⟩, ?_, ?_, ?_, ?_, ?_, ?_, ?_, ?_, ?_, ?_, ?_, ?_, ?_⟩
  · rw [su_o (by omega)]; exact e0
  · rw [su_o (by omega)]; exact e2
  · intro s hs
    rw [su_o (by omega)]; exact (esl s hs).1
  · intro h hh l hl
    rw [su_o (by omega)]; exact ema h hh l hl
  · intro h hh
    obtain ⟨b1, k, hk, b2⟩ := hb h hh
    obtain ⟨_, b4, _, k2, hk2, b5⟩ := ebe h hh
    have hc := bt_toNat2 (bt (I t 5) h)
    rw [m_noise_idle hi b2 b5 (ecat h hh) (by omega), su_69 (by omega), b1, b2, b4, b5, nI_add, nI_add]
    exact ⟨rfl, _, by omega, rfl⟩
  · intro s hs
    obtain ⟨_, b2, _, ⟨k, hk, b4⟩, _⟩ := esl s hs
    rw [m_deep_idle hi, su_70 (by omega), b2]
    exact ⟨rfl, k, by omega, b4⟩
  · intro s hs
    obtain ⟨_, _, b3, _, h, hh, b4⟩ := esl s hs
    rw [m_dream_idle hi (by omega), su_71 (by omega), b3]
    exact ⟨rfl, h, by omega, b4⟩
  · intro h hh hr hhr
    unfold cl_light
    rw [su_61.2.1, su_o (by omega), m_light_idle hi, ela h hh hr hhr, decide_eq_true rfl, Bool.true_and, Bool.or_comm]
  · intro hH0 k hk
    have hww : ∀ a b, a < 8 → b < 8 → I (t + 4) (8 * a + b) = wayP I (m_gone I) (m_nS I) a b := by rw [hg]; exact ewy
    obtain ⟨f1, q, hq1, f2⟩ := far_eq (F := F) hst hH8 hww k hk
    rw [su_o (by omega), efa hH0 k hk, f1]
    exact ⟨rfl, q, by omega, by rw [← f1]; exact f2⟩
  · intro a h ha hh
    rw [su_o (by omega), m_way_P hst hH8 (by omega), hg, ewy a h (by omega) (by omega)]
    obtain ⟨q, hq1, f2⟩ := wayP_lt (p := fun _ => false) (a := a) (b := h) hst
    exact ⟨rfl, q, by omega, f2⟩
  · intro s hs
    rw [su_61.1, hi.2.2.2.2.1, b_z]
    unfold c_all
    rw [b_2k _ (by omega) _ (by omega), decide_eq_true hs]
    rfl
  · exact su_61.2.2
  · exact c_lwr_row (su_row (by omega)) (su_row (by omega)) (su_row (by omega)) elw
  · exact c_used_row (su_row (by omega)) eus
  · exact c_ro_row (su_row (by omega)) (su_row (by omega)) ero
end
