/-! ===== L3: the night ahead, tried by both ===== -/
def cfr (I I' : Nat → Nat → Int32) : Prop := m_eq I I' ∧ ∀ a, (a < 61 ∨ a = 62 ∨ (72 ≤ a ∧ a ≤ 80)) → I' a = I a
def mfr (I I' : Nat → Nat → Int32) : Prop := (∀ a, (a < 93 ∨ (94 ≤ a ∧ a < 118) ∨ (132 ≤ a ∧ a ≤ 135) ∨ 140 < a) → I' a = I a) ∧ (∀ k, k ≠ 0 → k ≠ 39 → k ≠ 56 → k ≠ 57 → k ≠ 60 → k ≠ 68 → I' 93 k = I 93 k) ∧ (∀ n, n ≠ 1 → n < 23 → wq (m_g I' n) (m_g I n))
section
variable {I I' I'' : Nat → Nat → Int32} {J J' : Nat → Nat → Int64}
theorem cfr_fr (h : cfr I I') : fr I I' := by
  refine ⟨?_, ?_, ?_⟩
  · intro a ha
    unfold fr_row at ha
    by_cases c : 93 ≤ a
    · exact h.1 a c
    · exact h.2 a (by omega)
  · intro k _ _ _ _ _ _; rw [h.1 93 (by omega)]
  · intro n _ _; rw [g_g h.1]; exact wq_refl
theorem cfr_refl : cfr I I := ⟨fun _ _ => rfl, fun _ _ => rfl⟩
theorem cfr_trans (h : cfr I I') (k : cfr I' I'') : cfr I I'' := ⟨fun a ha => (k.1 a ha).trans (h.1 a ha), fun a ha => (k.2 a ha).trans (h.2 a ha)⟩
theorem mfr_fr (h : mfr I I') : fr I I' := by
  refine ⟨?_, h.2.1, h.2.2⟩
  intro a ha
  unfold fr_row at ha
  exact h.1 a (by omega)
theorem mfr_refl : mfr I I := ⟨fun _ _ => rfl, fun _ _ _ _ _ _ _ => rfl, fun _ _ _ => wq_refl⟩
theorem mfr_trans (h : mfr I I') (k : mfr I' I'') : mfr I I'' :=
  ⟨fun a ha => (k.1 a ha).trans (h.1 a ha), fun j a b c d e f => (k.2.1 j a b c d e f).trans (h.2.1 j a b c d e f), fun n a b => wq_trans (k.2.2 n a b) (h.2.2 n a b)⟩
theorem mfr_63 (h : mfr I I') : I' 63 = I 63 := h.1 63 (by omega)
/-- the model's heap behind a try, seen from before it -/
theorem mfr_M {W : Nat → Nat → Int32} {v : Int32} {F T : Nat → Int32} : mfr I (m_M I 1 W v F T) := by
  refine ⟨?_, ?_, ?_⟩
  · intro a ha
    funext j
    exact m_Mx (by omega) (by omega) (by omega) (by omega) (by omega)
  · intro k h0 h39 _ _ _ _
    exact m_Mo (by omega)
  · intro n hn _
    refine ⟨?_, ?_, ?_⟩
    · intro f hf; exact m_gx hn (by omega) (by omega) (by omega)
    · intro s hs; exact m_gx hn (by omega) (by omega) (by omega)
    · intro f l h1 h2 h3; exact m_gx hn (by omega) (by omega) (by omega)
/-- both calls, one behind the other, answer alike, and what stands stands again -/
def op2 (D N mc mm : Nat) (as : List Value) (r : am_rho) (I : Nat → Nat → Int32) (J : Nat → Nat → Int64) : Prop :=
  ∀ Q : Value → Value → am_H → Prop, (∀ v r' I' J', i_inv r' I' J' → Q v v (am_hp N r' I' J')) → am_D D mc (.ref 1 :: as) (am_hp N r I J) (fun v1 h1 => am_D D mm (.ref 93 :: as) h1 (fun v2 h2 => Q v1 v2 h2))
/-- a question's two halves -/
def c_ans (D N mc : Nat) (as : List Value) (r : am_rho) (I : Nat → Nat → Int32) (J : Nat → Nat → Int64) (v : Value) : Prop :=
  ∀ Q : Value → am_H → Prop, (∀ r' I' J', cfr I I' → i_ref r' → r'.1 = r.1 → c_cache I I (r.1 + 15) (I' 63) (J' 64) → Q v (am_hp N r' I' J')) → am_D D mc (.ref 1 :: as) (am_hp N r I J) Q
def m_ans (D N mm : Nat) (as : List Value) (r : am_rho) (I : Nat → Nat → Int32) (J : Nat → Nat → Int64) (v : Value) : Prop :=
  ∀ Q : Value → am_H → Prop, (∀ I' J', mfr I I' → J' 64 = J 64 → Q v (am_hp N r I' J')) → am_D D mm (.ref 93 :: as) (am_hp N r I J) Q
theorem op2_q {D N mc mm : Nat} {as : List Value} {r : am_rho} {v : Value} (hv : i_inv r I J) (hc : c_ans D N mc as r I J v) (hm : ∀ r' I' J', i_inv r' I' J' → m_eq I I' → m_ans D N mm as r' I' J' v) : op2 D N mc mm as r I J := by
  intro Q hQ
  refine hc _ ?_
  intro r1 I1 J1 h1 h2 h3 h4
  have hv1 := inv_fr hv (cfr_fr h1) h2 h3 h4
  refine hm r1 I1 J1 hv1 h1.1 _ ?_
  intro I2 J2 h5 h6
  refine hQ v r1 I2 J2 (inv_fr hv1 (mfr_fr h5) h2 rfl ?_)
  rw [mfr_63 h5, h6]
  exact hv1.2.2.2.2.2.2.2.2.2
end
section
variable {d N : Nat} {Q : Value → am_H → Prop} {r : am_rho} {I : Nat → Nat → Int32} {J : Nat → Nat → Int64}
theorem c_w_su {t w v z : Nat} (hv : v = 49 ∨ v = 55) : c_w (c_suit I t w z) v = c_w I v := by
  funext i j; unfold c_w
  by_cases h : i ≤ 5
  · rw [if_pos h, if_pos h, su_o (by omega)]
  · rw [if_neg h, if_neg h]
theorem cw_wC {M I1 C' W : Nat → Nat → Int32} {w : Nat} {K' P' : Nat → Int32} (hw : w = 49 ∨ w = 55 ∨ w = 82) (g1 : cw_rel M C' W) : cw_rel M (c_w (c_C I1 w C' K' P') w) W := by
  have this : ∀ i j, i ≤ 5 → c_w (c_C I1 w C' K' P') w i j = C' i j := by
    intro i j hi
    rw [c_wI hi, c_Ci hw hi]
  obtain ⟨r0, r1, r2, r3, r4, r5, r6, r7, r8, r9⟩ := g1
  refine ⟨?_, ?_, ?_, ?_, ?_, ?_, ?_, ?_, ?_, ?_⟩
  · rw [this _ _ (by omega)]; exact r0
  · rw [this _ _ (by omega)]; exact r1
  · rw [this _ _ (by omega)]; exact r2
  · rw [this _ _ (by omega)]; exact r3
  · intro k hk; rw [this _ _ (by omega)]; exact r4 k hk
  · intro k hk l hl; rw [this _ _ (by omega)]; exact r5 k hk l hl
  · intro k hk l hl; rw [this _ _ (by omega)]; exact r6 k hk l hl
  · intro l hl; rw [this _ _ (by omega)]; exact r7 l hl
  · intro l hl; rw [this _ _ (by omega)]; exact r8 l hl
  · intro k hk; rw [this _ _ (by omega)]; exact r9 k hk
theorem s_T_goTonight {rt rs rd rl rx nt nw nf h0 : Nat} (hv : i_inv (rt, rs, rd, rl, rx, nt, nw, nf) I J) (hh : I 49 0 = nI h0) (h12 : h0 < 12)
    (hQ : ∀ I' J', cfr I I' → c_cache I I (rt + 15) (I' 63) (J' 64) → (∀ i, i < 12 - h0 → ∀ s, s < m_nZ I → I' 68 (5 * (h0 + i) + s) = m_Wj I (m_far I (I 128)) false (m_g I 0) h0 (i + 1) 5 s) → cw_rel I (c_w I' 82) (m_Wj I (m_far I (I 128)) false (m_g I 0) h0 (12 - h0)) → Q .null (am_hp N (rt, rs, rd, rl, rx, rt, rt + 4, rt + 5) I' J')) :
    am_D (d + 8) 81 [.ref 81, .ref rt] (am_hp N (rt, rs, rd, rl, rx, nt, nw, nf) I J) Q := by
  obtain ⟨href, htr, hid, hnow, himg, hund, hsig, htap, hflt, hca⟩ := hv
  obtain ⟨n1, n2, n3⟩ := hnow
  have ht : rt = 3 ∨ rt = 23 := htr.1.1
  have hok : m_ok I := htr.1.2.1
  have hZ := hok.2.2.1
  have hz : I rt 2 = nI (m_nZ I) := by rw [htr.2.1.2.2.1]; exact hZ.1
  rw [e_Tries_goTonight ht, s_N_suit ht (by omega) hz hZ.2, e_Tries_goTonight_12 ht]
  have hbell : ∀ h, h < m_nH I → I (49 + 5) h = m_g I 0 9 h ∧ ∃ k, k ≤ 9 ∧ m_g I 0 9 h = nI k := by
    intro h hh
    have := n1.2.2.2.2.2.2.2.2.2 h hh
    rw [c_wI (by omega)] at this
    exact ⟨this, n3.2.2.2.2 h hh⟩
  have henv := env_idle (w := 49) (F := I 128) (W := m_g I 0) (by omega) htr hid hbell
  have e49 := @c_w_su I rt 49 49 (m_nZ I) (by omega)
  have hrel : cw_rel I (c_cp (c_w (c_suit I rt 49 (m_nZ I)) 82) (c_w (c_suit I rt 49 (m_nZ I)) 49)) (m_g I 0) := by
    refine cw_cp hok ?_
    rw [e49]
    exact n1
  have hlit : c_cp (c_w (c_suit I rt 49 (m_nZ I)) 82) (c_w (c_suit I rt 49 (m_nZ I)) 49) 0 5 = m_g I 0 3 0 := by
    unfold c_cp
    rw [if_pos (by omega), e49, c_wI (by omega)]
    exact n2
  have hh0 : m_g I 0 0 0 = nI h0 := by
    rw [← n1.1, c_wI (by omega)]; exact hh
  have hcache : c_cache (c_suit I rt 49 (m_nZ I)) I (rt + 15) (c_suit I rt 49 (m_nZ I) 63) (J 64) := by
    rw [su_row (by omega)]
    exact c_cache_row (su_row (by omega)) hca
  have hrow : ∀ a, (a < 61 ∨ a = 62 ∨ (72 ≤ a ∧ a ≤ 80) ∨ 93 ≤ a) → c_suit I rt 49 (m_nZ I) a = I a := fun a h => su_row (by omega)
  have hca2 : ∀ K vl, c_cache (c_suit I rt 49 (m_nZ I)) I (rt + 15) K vl → c_cache I I (rt + 15) K vl := by
    intro K vl h
    exact c_cache_row (su_row (by omega)).symm h
  generalize c_suit I rt 49 (m_nZ I) = I1 at henv hrel hlit hcache hrow hca2 ⊢
  have e1 : am_hp N (rt, rs, rd, rl, rx, rt, rt + 4, rt + 5) I1 J = am_hp N (rt, rs, rd, rl, rx, rt, rt + 4, rt + 5) (c_C I1 82 (c_w I1 82) (I1 63) (I1 68)) (c_J J (J 64) (J 65)) := by rw [c_wid, c_Jid]
  rw [e1, s_W_become (by omega) (by omega) (by omega), c_cpw, e_Tries_goTonight_23 ht]
  have h11 : nI 11 = nI (h0 + (12 - h0) - 1) := by rw [show h0 + (12 - h0) - 1 = 11 by omega]
  rw [h11]
  refine s_N_walkTo henv hok hrel n3.1 (by omega) hlit hh0 (by omega) (by omega) hcache ?_
  intro C' K' P' vl' st' g1 g2 g3 g4
  rw [e_Tries_goTonight_36 ht]
  refine hQ _ _ ?_ ?_ ?_ ?_
  · refine ⟨?_, ?_⟩
    · intro a ha
      funext j
      rw [c_Co (by omega), hrow a (by omega)]
    · intro a ha
      funext j
      rw [c_Co (by omega), hrow a (by omega)]
  · exact hca2 _ _ g3
  · intro i hi s hs
    rw [c_CP, g4 i hi s hs]
  · exact cw_wC (by omega) g1
end
