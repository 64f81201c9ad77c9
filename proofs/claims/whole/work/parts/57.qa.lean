/-! ===== L3: where, meet, brought ===== -/
section
variable {d N : Nat} {Q : Value → am_H → Prop} {r : am_rho} {I : Nat → Nat → Int32} {J : Nat → Nat → Int64}
theorem am_irng {k n : Nat} {x a : Int32} (ha : a = nI n) (hn : n < 2 ^ 31) : (nI 0 ≤ x ∧ x < a) ↔ ∃ k, k < n ∧ x = nI k := by
  subst ha
  constructor
  · intro ⟨h1, h2⟩
    rw [fa_le, nI_toInt (by omega)] at h1
    rw [fa_lt, nI_toInt hn] at h2
    refine ⟨x.toInt.toNat, by omega, ?_⟩
    rw [fa_eq, nI_toInt (by omega)]
    omega
  · intro ⟨k, hk, e⟩
    rw [e]
    exact ⟨nI_le (by omega) (by omega), nI_lt hk hn⟩
theorem s_S_isSleeper {rt rs rd rl rx nt nw nf : Nat} {x : Int32} (ht : rt = 3 ∨ rt = 23) : am_D (d + 1) 152 [.ref 1, .int x] (am_hp N (rt, rs, rd, rl, rx, nt, nw, nf) I J) Q = Q (.int (nI (decide (nI 0 ≤ x ∧ x < I rt 2)).toNat)) (am_hp N (rt, rs, rd, rl, rx, nt, nw, nf) I J) := by
  rw [e_S_isSleeper ht]
  try simp (config := {maxSteps := 1000000}) (disch := omega) only [nI_add, nI_1, am_mulN, nI_clamp, am_gI, am_ifd, am_ifn, am_asIe, am_asLe, nI_leI, nI_ltI, nI_eq, am_neg1, am_neg1b, am_inrange]
theorem s_S_isHouse {rt rs rd rl rx nt nw nf : Nat} {x : Int32} (ht : rt = 3 ∨ rt = 23) : am_D (d + 1) 151 [.ref 1, .int x] (am_hp N (rt, rs, rd, rl, rx, nt, nw, nf) I J) Q = Q (.int (nI (decide (nI 0 ≤ x ∧ x < I rt 0)).toNat)) (am_hp N (rt, rs, rd, rl, rx, nt, nw, nf) I J) := by
  rw [e_S_isHouse ht]
  try simp (config := {maxSteps := 1000000}) (disch := omega) only [nI_add, nI_1, am_mulN, nI_clamp, am_gI, am_ifd, am_ifn, am_asIe, am_asLe, nI_leI, nI_ltI, nI_eq, am_neg1, am_neg1b, am_inrange]
theorem s_S_isLetter {rt rs rd rl rx nt nw nf : Nat} {x : Int32} (ht : rt = 3 ∨ rt = 23) : am_D (d + 1) 153 [.ref 1, .int x] (am_hp N (rt, rs, rd, rl, rx, nt, nw, nf) I J) Q = Q (.int (nI (decide (nI 0 ≤ x ∧ x < I rt 3)).toNat)) (am_hp N (rt, rs, rd, rl, rx, nt, nw, nf) I J) := by
  rw [e_S_isLetter ht]
  try simp (config := {maxSteps := 1000000}) (disch := omega) only [nI_add, nI_1, am_mulN, nI_clamp, am_gI, am_ifd, am_ifn, am_asIe, am_asLe, nI_leI, nI_ltI, nI_eq, am_neg1, am_neg1b, am_inrange]
theorem am_inr2 {x a b : Int32} {H : am_H} : (if x < a then Q (.int (nI 0)) H else if b ≤ x then Q (.int (nI 0)) H else Q (.int (nI 1)) H) = Q (.int (nI (decide (a ≤ x ∧ x < b)).toNat)) H := by
  by_cases h : x < a
  · have : ¬ a ≤ x := by rw [fa_le]; rw [fa_lt] at h; omega
    simp [h, this]
  · have h' := fa_of_nlt h
    by_cases h2 : b ≤ x
    · have : ¬ x < b := by rw [fa_lt]; rw [fa_le] at h2; omega
      simp [h, h2, this]
    · have := fa_of_nle h2
      simp [h, h2, this, h']
theorem s_S_isAhead {x : Int32} : am_D (d + 1) 154 [.ref 1, .int x] (am_hp N r I J) Q = Q (.int (nI (decide (I 49 0 ≤ x ∧ x < nI 12)).toNat)) (am_hp N r I J) := by
  rw [e_S_isAhead]
  try simp (config := {maxSteps := 1000000}) (disch := omega) only [nI_add, nI_1, am_mulN, nI_clamp, am_gI, am_ifd, am_ifn, am_asIe, am_asLe, nI_leI, nI_ltI, nI_eq, am_neg1, am_neg1b, am_inr2]
theorem s_M_isTonight {x : Int32} : am_D (d + 1) 209 [.ref 93, .int x] (am_hp N r I J) Q = Q (.int (nI (decide (I 118 0 ≤ x ∧ x < nI 12)).toNat)) (am_hp N r I J) := by
  rw [e_M_isTonight]
  try simp (config := {maxSteps := 1000000}) (disch := omega) only [nI_add, nI_1, am_mulN, nI_clamp, am_gI, am_ifd, am_ifn, am_asIe, am_asLe, nI_leI, nI_ltI, nI_eq, am_neg1, am_neg1b, am_inr2]
theorem s_N_stood {s h : Nat} (hs : s < 5) (hh : h < 12) : am_D (d + 1) 25 [.ref 61, .int (nI s), .int (nI h)] (am_hp N r I J) Q = Q (.int (I 68 (5 * h + s))) (am_hp N r I J) := by
  have e : h * 5 + s = 5 * h + s := by omega
  rw [e_Night_stood]
  try simp (config := {maxSteps := 1000000}) (disch := omega) only [nI_add, nI_1, am_mulN, nI_clamp, am_gI, am_ifd, am_ifn, am_asIe, am_asLe, nI_leI, nI_ltI, nI_eq, am_neg1, am_neg1b, e]
/-- where s stands at h in the night ahead -/
def q_at (I : Nat → Nat → Int32) (h0 s h : Nat) : Int32 := m_Wj I (m_far I (I 128)) false (m_g I 0) h0 (h - h0 + 1) 5 s
theorem th0_e2 {x : Int32} : m_e2 I (am_u I 93 0 x) := ⟨fun a h1 h2 => am_uRow (by omega), fun k h1 h2 => am_uN (by omega)⟩
theorem th0_mfr {x : Int32} : mfr I (am_u I 93 0 x) := by
  refine ⟨fun a h => am_uRow (by omega), fun k h _ _ _ _ _ => am_uN (by omega), fun n h1 h2 => ?_⟩
  have : ∀ f k, m_g (am_u I 93 0 x) n f k = m_g I n f k := by
    intro f k
    unfold m_g
    rw [am_uRow (by omega), am_uRow (by omega)]
  exact ⟨fun f _ => this f 0, fun s _ => this 5 s, fun f l _ _ _ => this f l⟩
theorem th0_g {x : Int32} {n : Nat} : m_g (am_u I 93 0 x) n = m_g I n := by
  funext f k
  unfold m_g
  rw [am_uRow (by omega), am_uRow (by omega)]
/-- the model tries the night, out of what stands -/
theorem s_M_tonightI {h0 : Nat} (hv : i_inv r I J) (hh : I 118 0 = nI h0) (h12 : h0 < 12) (hQ : ∀ I' J', mfr I I' → J' 64 = J 64 → I' 118 0 = I 118 0 → I' 95 = I 95 → (∀ s h, s < m_nZ I → h0 ≤ h → h < 12 → I' 129 (12 * s + h) = q_at I h0 s h) → Q .null (am_hp N r I' J')) :
    am_D (d + 9) 232 [.ref 93] (am_hp N r (am_u I 93 0 (nI 0)) J) Q := by
  obtain ⟨href, htr, hid, hnow, himg, hund, hsig, htap, hflt, hca⟩ := hv
  have hok : m_ok I := htr.1.2.1
  have hst := htr.1.2.2.1
  have h2 := @th0_e2 I (nI 0)
  have hg := @th0_g I (nI 0) 0
  have hD : m_okD (am_u I 93 0 (nI 0)) := by
    refine k_okD h2 ?_
    intro s hs
    rw [m_dream_idle hid (by have := hok.2.2.1.2; omega)]
    obtain ⟨_, _, _, _, h, hh, e⟩ := htr.2.2.2.2.2.2.2.2.1 s hs
    exact ⟨h, by have := hok.1.2; omega, e⟩
  have e1 : am_hp N r (am_u I 93 0 (nI 0)) J = am_hp N r (m_M (am_u I 93 0 (nI 0)) 1 (m_g (am_u I 93 0 (nI 0)) 1) (am_u I 93 0 (nI 0) 93 39) (am_u I 93 0 (nI 0) 128) (am_u I 93 0 (nI 0) 129)) (m_J J (J 116) (J 117)) := by rw [m_id, m_Jid]
  rw [e1]
  refine s_M_tonight (h0 := h0) (k_ok h2 hok) (k_okS h2 (m_okS_of hst)) hD (by rw [hg]; exact k_okW h2 hnow.2.2.1) h12 (by rw [am_uN (by omega)]; exact hh) ?_
  intro v' nm' wk'
  refine hQ _ _ (mfr_trans th0_mfr mfr_M) rfl ?_ ?_ ?_
  · rw [m_Mx (by omega) (by omega) (by omega) (by omega) (by omega), am_uN (by omega)]
  · funext j; rw [m_Mo (by omega), am_uN (by omega)]
  · intro s h hs hh1 hh2
    rw [m_MT]
    have := m_Tj_in (I := am_u I 93 0 (nI 0)) (F := m_far (am_u I 93 0 (nI 0)) (am_u I 93 0 (nI 0) 128)) (b := false) (W := m_g (am_u I 93 0 (nI 0)) 0) (T := am_u I 93 0 (nI 0) 129) (h0 := h0) (s := s) (i := h - h0) (j := 12 - h0) (by rw [k_nZ h2]; exact hs) (by omega) (by omega)
    rw [show h0 + (h - h0) = h by omega] at this
    rw [this, k_Wj h2, k_far h2, hg, am_uRow (by omega)]
    rfl
theorem g_q_at {I' : Nat → Nat → Int32} (h : m_eq I I') : q_at I' = q_at I := by
  funext h0 s k
  unfold q_at
  rw [g_Wj h, g_far h, g_g h, h 128 (by omega)]
end
