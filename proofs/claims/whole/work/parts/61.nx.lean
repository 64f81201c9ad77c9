/-! ===== L3: which of the model's fields each of its readers reads ===== -/
section
variable {I M W : Nat → Nat → Int32} {F : Nat → Int32}
theorem n_noise (h : te I M) (c : M 93 52 = I 93 52 ∧ M 93 54 = I 93 54 ∧ M 93 55 = I 93 55 ∧ M 93 56 = I 93 56 ∧ M 93 57 = I 93 57 ∧ M 93 63 = I 93 63) : m_noise M = m_noise I := by
  obtain ⟨c1, c2, c3, c4, c5, c6⟩ := c
  funext b k; unfold m_noise; rw [c1, c2, c3, c4, c5, c6, h 98 (by omega) (by omega), h 99 (by omega) (by omega)]
theorem n_light (h : te I M) (c : M 93 52 = I 93 52 ∧ M 93 61 = I 93 61 ∧ M 93 62 = I 93 62) : m_light M = m_light I := by
  obtain ⟨c1, c2, c3⟩ := c
  funext n a b k; unfold m_light; rw [c1, c2, c3, e_lamp h]
theorem n_deep (h : te I M) (c : M 93 52 = I 93 52 ∧ M 93 53 = I 93 53) : m_deep M = m_deep I := by
  obtain ⟨c1, c2⟩ := c
  funext s; unfold m_deep; rw [c1, c2, h 105 (by omega) (by omega)]
theorem n_dream (h : te I M) (c : M 93 59 = I 93 59 ∧ M 93 60 = I 93 60) : m_dream M = m_dream I := by
  obtain ⟨c1, c2⟩ := c
  funext s; unfold m_dream; rw [c1, c2, h 106 (by omega) (by omega)]
theorem n_gone (c : M 93 52 = I 93 52 ∧ M 93 53 = I 93 53) : m_gone M = m_gone I := by
  obtain ⟨c1, c2⟩ := c
  funext s; unfold m_gone; rw [c1, c2]
theorem n_stH (h : te I M) (c : M 93 52 = I 93 52 ∧ M 93 53 = I 93 53) : m_stH M = m_stH I := by
  funext a b l; unfold m_stH; rw [n_gone c, h 100 (by omega) (by omega), h 101 (by omega) (by omega)]
theorem n_way (h : te I M) (c : M 93 52 = I 93 52 ∧ M 93 53 = I 93 53) : m_way M = m_way I := by
  funext a b; unfold m_way m_street; rw [n_stH h c, e_nS h, h 102 (by omega) (by omega)]
theorem n_fls (h : te I M) (c : M 93 52 = I 93 52 ∧ M 93 53 = I 93 53) : fl_s M = fl_s I := by
  funext F k
  induction k with
  | zero => rfl
  | succ k ih => unfold fl_s; rw [ih, n_gone c, h 100 (by omega) (by omega), h 101 (by omega) (by omega), h 102 (by omega) (by omega)]
theorem n_far (h : te I M) (c : M 93 52 = I 93 52 ∧ M 93 53 = I 93 53) : m_far M = m_far I := by funext F; unfold m_far; rw [n_fls h c, e_nS h]
theorem n_lwr (h : te I M) {I2 : Nat → Nat → Int32} {q : Nat} (k : c_lwr I2 I q) : c_lwr I2 M q := by
  unfold c_lwr
  rw [h 112 (by omega) (by omega), h 113 (by omega) (by omega), h 114 (by omega) (by omega), h 115 (by omega) (by omega)]
  exact k
theorem n_used (h : te I M) {I2 : Nat → Nat → Int32} {q : Nat} (k : c_used I2 I q) : c_used I2 M q := by
  unfold c_used
  rw [h 112 (by omega) (by omega), h 113 (by omega) (by omega), h 114 (by omega) (by omega), h 115 (by omega) (by omega)]
  exact k
theorem n_cache (h : te I M) {I2 : Nat → Nat → Int32} {q : Nat} {K : Nat → Int32} {vl : Nat → Int64} (k : c_cache I2 I q K vl) : c_cache I2 M q K vl := by
  unfold c_cache
  rw [e_has h, e_law h]
  exact k
theorem n_cacheR (h : te I M) {I2 : Nat → Nat → Int32} {q : Nat} {K : Nat → Int32} {vl : Nat → Int64} (k : c_cache I2 M q K vl) : c_cache I2 I q K vl := by
  unfold c_cache at k
  rw [e_has h, e_law h] at k
  exact k
theorem te_93 {k : Nat} {x : Int32} : te I (am_u I 93 k x) := fun a h1 h2 => am_uRow (by omega)
theorem te_trans {M' : Nat → Nat → Int32} (h : te I M) (k : te M M') : te I M' := fun a h1 h2 => (k a h1 h2).trans (h a h1 h2)
/-- the class's night of another heap, and the model's of another: clause by clause -/
theorem env_x {I1 I2 : Nat → Nat → Int32} {t nw nf nw' nf' : Nat} {F F' : Nat → Int32} {b b' : Bool} {bl : Nat → Int32} {lit lit' ml : Int32} (h : te I M) (he : c_env I1 I t nw nf F b bl lit ml)
    (rows : ∀ a, a < 61 ∨ 93 ≤ a → I2 a = I1 a)
    (hnw : (nw' = 7 ∨ nw' = 27 ∨ nw' = 66) ∧ (nf' = 8 ∨ nf' = 28 ∨ nf' = 67))
    (cn : ∀ k, k < m_nH I → I2 69 k = m_noise M (bl k) k ∧ ∃ q, q < 64 ∧ I2 69 k = nI q)
    (cd : ∀ s, s < m_nZ I → I2 70 s = m_deep M s ∧ ∃ k, k < 16 ∧ I2 70 s = nI k)
    (cr : ∀ s, s < m_nZ I → I2 71 s = m_dream M s ∧ ∃ k, k < 8 ∧ I2 71 s = nI k)
    (cl : ∀ k, k < m_nH I → ∀ hr, hr < 12 → cl_light I2 t lit' k hr = m_light M (m_nA I) ml k (nI hr))
    (cf : 0 < m_nH I → ∀ k, k < 64 → I2 nf' k = F' k ∧ ∃ q, q < 128 ∧ F' k = nI q)
    (cw : ∀ a k, a < m_nH I → k < m_nH I → I2 nw' (8 * a + k) = m_way M a k ∧ ∃ q, q < 16 ∧ m_way M a k = nI q)
    (cs : ∀ s, s < m_nZ I → bt (I2 61 10) s = !bt (M 93 58) s) (cb : I2 61 12 = nI b'.toNat) : c_env I2 M t nw' nf' F' b' bl lit' ml := by
  obtain ⟨⟨ht, hnw0, hnf0⟩, ⟨e0, e2⟩, eb, em, en, ed, edr, el, ef, ew, ewk, ebn, elr, eus, ero⟩ := he
  refine ⟨⟨ht, hnw.1, hnw.2⟩, ⟨?_, ?_⟩, ?_, ?_, ?_, ?_, ?_, ?_, (by rw [e_nH h]; exact cf), ?_, ?_, cb, ?_, ?_, ?_⟩
  · rw [rows t (by omega), h 95 (by omega) (by omega)]; exact e0
  · rw [rows t (by omega), h 95 (by omega) (by omega)]; exact e2
  · rw [rows _ (by omega), e_nZ h, h 104 (by omega) (by omega)]; exact eb
  · rw [rows _ (by omega), e_nH h, e_nL h, h 108 (by omega) (by omega)]; exact em
  · rw [e_nH h]; exact cn
  · rw [e_nZ h]; exact cd
  · rw [e_nZ h]; exact cr
  · rw [e_nH h, e_nA h]; exact cl
  · rw [e_nH h]; exact cw
  · rw [e_nZ h]; exact cs
  · exact n_lwr h (c_lwr_row (rows _ (by omega)) (rows _ (by omega)) (rows _ (by omega)) elr)
  · exact n_used h (c_used_row (rows _ (by omega)) eus)
  · exact c_ro_row (rows _ (by omega)) (rows _ (by omega)) ero
end
section
variable {d N : Nat} {Q : Value → am_H → Prop} {r : am_rho} {I : Nat → Nat → Int32} {J : Nat → Nat → Int64}
/-- bells and the rest at the beginning of a try -/
theorem iv_bell {rt rs rd rl rx nt nw nf : Nat} (hv : i_inv (rt, rs, rd, rl, rx, nt, nw, nf) I J) : ∀ h, h < m_nH I → I (49 + 5) h = m_g I 0 9 h ∧ ∃ k, k ≤ 9 ∧ m_g I 0 9 h = nI k := by
  intro h hh
  have n1 := hv.2.2.2.1.1
  have n3 := hv.2.2.2.1.2.2
  have := n1.2.2.2.2.2.2.2.2.2 h hh
  rw [c_wI (by omega)] at this
  exact ⟨this, n3.2.2.2.2 h hh⟩
theorem fa_cnt_and {p : Nat → Bool} {n : Nat} : ∀ m, n ≤ m → fa_cnt (fun l => decide (l < n) && p l) m = fa_cnt p n := by
  intro m hm
  obtain ⟨k, rfl⟩ : ∃ k, m = n + k := ⟨m - n, by omega⟩
  induction k with
  | zero => exact fa_cnt_cong (fun k hk => by simp [show k < n by omega])
  | succ k ih =>
    rw [show n + (k + 1) = (n + k) + 1 by omega, fa_cnt_no (by rw [decide_eq_false (by omega)]; rfl), ih (by omega)]
/-- how many letters have arrived -/
def q_cnt (I W : Nat → Nat → Int32) : Int32 := nI (fa_cnt (fun l => decide (W 6 l = nI 2)) (m_nL I))
theorem cw_cnt {M C W : Nat → Nat → Int32} (h : cw_rel M C W) (hL : m_nL M ≤ 8) : nI (fa_cnt (bt (C 0 4)) 8) = q_cnt M W ∧ ∀ i, 8 ≤ i → i < 32 → bt (C 0 4) i = false := by
  have r7 := h.2.2.2.2.2.2.2.1
  refine ⟨?_, ?_⟩
  · unfold q_cnt
    rw [← fa_cnt_and (n := m_nL M) 8 hL]
    congr 1
    refine fa_cnt_cong ?_
    intro k hk
    rw [r7 k (by omega)]
    by_cases c : k < m_nL M <;> simp [c]
  · intro i h1 h2
    rw [r7 i h2]
    exact decide_eq_false (by omega)
theorem s_M_arrived {n : Nat} {W : Nat → Nat → Int32} {v : Int32} {F T : Nat → Int32} (hok : m_ok I) (hn : n < 23) : am_D (d + 1) 234 [.ref 93, .int (nI n)] (am_hp N r (m_M I n W v F T) J) Q = Q (.int (q_cnt I W)) (am_hp N r (m_M I n W v F T) J) := by
  obtain ⟨hL, hL8⟩ := hok.2.2.2.1
  have lp := am_up (P := fun j => am_V d Q 234 4 [some (.ref 93), some (.int (nI n)), some (.int (nI (fa_cnt (fun l => decide (W 6 l = nI 2)) j))), some (.int (nI j))] [] (am_hp N r (m_M I n W v F T) J)) (R := Q (.int (q_cnt I W)) (am_hp N r (m_M I n W v F T) J)) (m_nL I)
    (by
      try dsimp only
      rw [e_M_arrived_4]
      try simp (config := {maxSteps := 1000000}) (disch := omega) only [nI_add, nI_1, am_mulN, nI_clamp, am_gI, am_ifd, am_ifn, am_asIe, am_asLe, nI_leI, nI_ltI, nI_eq, am_neg1, am_neg1b, m_Mo, m_Mv, m_MF, m_MT, m_M0, m_M1, m_M2, m_M3, m_M4, m_M5, m_M6, m_M7, m_M8, m_M9, m_wv, m_w0, m_w1, m_w2, m_w3, m_w4, m_w5, m_w6, m_w7, m_w8, m_w9, m_wF, m_wT, m_Jn, m_Jw, m_Jo, m_un, m_uw, hL, Nat.le_refl, if_true]
      rfl)
    (by
      intro j hj
      try dsimp only
      rw [e_M_arrived_4]
      try simp (config := {maxSteps := 1000000}) (disch := omega) only [nI_add, nI_1, am_mulN, nI_clamp, am_gI, am_ifd, am_ifn, am_asIe, am_asLe, nI_leI, nI_ltI, nI_eq, am_neg1, am_neg1b, m_Mo, m_Mv, m_MF, m_MT, m_M0, m_M1, m_M2, m_M3, m_M4, m_M5, m_M6, m_M7, m_M8, m_M9, m_wv, m_w0, m_w1, m_w2, m_w3, m_w4, m_w5, m_w6, m_w7, m_w8, m_w9, m_wF, m_wT, m_Jn, m_Jw, m_Jo, m_un, m_uw, hL]
      rw [if_neg (by omega)]
      by_cases c : W 6 j = nI 2
      · rw [if_pos c, fa_cnt_yes (by simp [c])]
      · rw [if_neg c, fa_cnt_no (by simp [c])]; rfl)
  rw [e_M_arrived]
  exact lp 0 (by omega)
end
