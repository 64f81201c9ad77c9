/-! ===== L3: tried otherwise ===== -/
section
variable {d N : Nat} {Q : Value → am_H → Prop} {r : am_rho} {I : Nat → Nat → Int32} {J : Nat → Nat → Int64}
theorem m_Mu {n k : Nat} {W : Nat → Nat → Int32} {v x : Int32} {F T : Nat → Int32} (hk : k ≠ 39) : am_u (m_M I n W v F T) 93 k x = m_M (am_u I 93 k x) n W v F T := by
  funext a j
  by_cases c : a = 93 ∧ j = k
  · rw [c.1, c.2, am_uE, m_Mo (by omega), am_uE]
  · rw [am_uN (by omega)]
    unfold m_M
    rw [am_uN (by omega)]
theorem qrun_c {I' M M' : Nat → Nat → Int32} (h : ∀ a, 118 ≤ a → a ≤ 128 → I' a = I a) (k : m_e2 M M') : q_run I' M' = q_run I M := by
  funext b
  unfold q_run
  have eg : m_g I' 0 = m_g I 0 := g_row (fun a h1 h2 => h a h1 (by omega))
  rw [k_Wj k, k_far k, eg, h 128 (by omega) (by omega), h 118 (by omega) (by omega)]
/-- the model's night ahead, the fields as they are in M -/
theorem s_M_run {M : Nat → Nat → Int32} {h0 : Nat} (hte : te I M) (hok : m_ok I) (hst : st_ok I) (hD : m_okD M) (hW : m_okW I (m_g M 0)) (h12 : h0 < 12) (hh : M 118 0 = nI h0)
    (hQ : ∀ v' nm' wk', Q .null (am_hp N r (m_M M 1 (q_run M M false) v' (m_far M (M 128)) (m_Tj M (m_far M (M 128)) false (m_g M 0) (M 129) h0 (12 - h0))) (m_J J nm' wk'))) :
    am_D (d + 9) 232 [.ref 93] (am_hp N r M J) Q := by
  have e1 : am_hp N r M J = am_hp N r (m_M M 1 (m_g M 1) (M 93 39) (M 128) (M 129)) (m_J J (J 116) (J 117)) := by rw [m_id, m_Jid]
  rw [e1]
  refine s_M_tonight (h0 := h0) (e_ok hte hok) (m_okS_of (e_stok hte hst)) hD (e_okW hte hW) h12 hh ?_
  intro v' nm' wk'
  have : m_Wj M (m_far M (M 128)) false (m_g M 0) h0 (12 - h0) = q_run M M false := by
    unfold q_run; rw [hh, nI_clamp (by omega)]
  rw [this]
  exact hQ _ _ _
def td_M (I : Nat → Nat → Int32) (w i : Nat) : Nat → Nat → Int32 := am_u (am_u I 93 52 (nI w)) 93 53 (nI i)
theorem td_te {w i : Nat} : te I (td_M I w i) := te_trans te_93 te_93
theorem td_o {w i k : Nat} (h : k ≠ 52) (h' : k ≠ 53) : td_M I w i 93 k = I 93 k := by unfold td_M; rw [am_uN (by omega), am_uN (by omega)]
theorem td_52 {w i : Nat} : td_M I w i 93 52 = nI w := by unfold td_M; rw [am_uN (by omega), am_uE]
theorem td_53 {w i : Nat} : td_M I w i 93 53 = nI i := by unfold td_M; rw [am_uE]
theorem td_row {w i a : Nat} (h : a ≠ 93) : td_M I w i a = I a := by unfold td_M; rw [am_uRow h, am_uRow h]
theorem td_noise {w i h kb ks kc : Nat} {b : Int32} (hi : m_idle I) (hw : w < 8) (hb : b = nI kb) (hs : I 99 h = nI ks) (hc : I 98 h = nI kc) (hh : h < 8) : m_noise (td_M I w i) b h = nI ((if w = 2 then 0 else kb) + (if w = 3 then 0 else ks) + (if w = 1 then 0 else kc * 3)) := by
  obtain ⟨i0, i1, i2, i3, i4, i5, i6, i7, i8⟩ := hi
  have q : ∀ k, k < 8 → ∀ x, (if nI w = nI k then nI 0 else nI x) = nI (if w = k then 0 else x) := by
    intro k hk x
    by_cases c : w = k
    · rw [if_pos c, if_pos (by rw [c])]
    · rw [if_neg c, if_neg (by rw [nI_eq (by omega) (by omega)]; exact c)]
  unfold m_noise
  rw [td_52, td_o (k := 63) (by omega) (by omega), td_o (k := 54) (by omega) (by omega), td_o (k := 55) (by omega) (by omega), i2, i3, i8, if_neg (am_neg1' (by omega)), if_neg (am_neg1' (by omega)), if_neg (am_neg1' (by omega)), td_row (by omega), td_row (by omega), hb, hs, hc, am_mulN, q 2 (by omega), q 3 (by omega), q 1 (by omega), nI_add, nI_add, nI_add, nI_add, nI_add]
  congr 1
  by_cases c : w = 1
  · rw [if_pos c, if_pos c]
  · rw [if_neg c, if_neg c]; omega
end
