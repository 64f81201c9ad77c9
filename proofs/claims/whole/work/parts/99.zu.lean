/-! ===== L3: look, as the law asks it ===== -/
theorem am_ifB {b : Bool} {p q : Prop} : am_if b p q = if b = true then p else q := by cases b <;> rfl
section
variable {d N : Nat} {r : am_rho} {I : Nat → Nat → Int32} {J J' : Nat → Nat → Int64}
theorem inv_th {x : Int32} (hv : i_inv r I J) (hJ : J' 64 = J 64) : i_inv r (am_u I 93 0 x) J' := inv_fr hv (mfr_fr th0_mfr) hv.1 rfl (by rw [am_uRow (by omega), hJ]; exact hv.2.2.2.2.2.2.2.2.2)
def lkV (I : Nat → Nat → Int32) (s j : Nat) : Int32 := if j = 0 then I 123 s else if j = 1 then I 104 s else if j = 2 then I 106 s else if j = 3 then I 105 s else if j = 4 then nI (bt (I 122 0) s).toNat else am_mk1 (fun l => decide (I 124 (8 * 0 + l) = nI 1 ∧ I 125 (8 * 0 + l) = nI s)) (m_nL I)
theorem am_905 {Q : Value → am_H → Prop} {a b : Int32} {rt rs rd rl rx nt nw nf : Nat} (ht : rt = 3 ∨ rt = 23) : am_D (d + 1) 905 [.ref 1, .int a, .int b, .ref 140] (am_hp N (rt, rs, rd, rl, rx, nt, nw, nf) I J) Q =
    am_if (decide (nI 0 ≤ a) && decide (a < I rt 2)) (am_if (decide (nI 0 ≤ b) && decide (b ≤ nI 5)) (am_D d 119 [.ref 1, .int a, .int b] (am_hp N (rt, rs, rd, rl, rx, nt, nw, nf) I J) (fun v h => am_asI v (fun y => Q (.int (nI 0)) (am_wJ h 140 0 y.toInt64)))) (Q (.int (nI 2)) (am_hp N (rt, rs, rd, rl, rx, nt, nw, nf) I J))) (Q (.int (nI 1)) (am_hp N (rt, rs, rd, rl, rx, nt, nw, nf) I J)) := by
  rcases ht with rfl | rfl <;> rfl
theorem lk_c {rt rs rd rl rx nt nw nf s j : Nat} {Q : Value → am_H → Prop} (hv : i_inv (rt, rs, rd, rl, rx, nt, nw, nf) I J) (hs : s < m_nZ I) (hj : j < 6) (hQ : Q (.int (lkV I s j)) (am_hp N (rt, rs, rd, rl, rx, nt, nw, nf) I J)) : am_D (d + 2) 119 [.ref 1, .int (nI s), .int (nI j)] (am_hp N (rt, rs, rd, rl, rx, nt, nw, nf) I J) Q := by
  obtain ⟨ht, hok, eH, eZ, eL, h0, h12, e49, e118⟩ := iv_ref hv
  obtain ⟨n1, n2, n3⟩ := hv.2.2.2.1
  have bZ := hok.2.2.1.2
  have bL := hok.2.2.2.1.2
  have hsl := hv.2.1.2.2.2.2.2.2.2.2.1 s hs
  have g5 : m_g I 0 5 s = I 123 s := by
    unfold m_g
    rw [if_neg (by omega), if_pos rfl, if_pos (by omega), show 5 * 0 + s = s by omega]
  have g4 : m_g I 0 4 0 = I 122 0 := by unfold m_g; rw [if_pos (by omega)]
  have g67 : ∀ l, l < 8 → m_g I 0 6 l = I 124 (8 * 0 + l) ∧ m_g I 0 7 l = I 125 (8 * 0 + l) := by
    intro l hl
    unfold m_g
    exact ⟨by rw [if_neg (by omega), if_neg (by omega), if_pos (by omega)], by rw [if_neg (by omega), if_neg (by omega), if_pos (by omega)]⟩
  have c50 : I 50 s = I 123 s := by
    have := n1.2.2.2.2.1 s hs
    rw [c_wI (by omega), g5] at this
    exact this
  have c43 : I 49 3 = I 122 0 := by
    have := n1.2.2.2.1
    rw [c_wI (by omega), g4] at this
    exact this
  have c51 : I 51 s = am_mk1 (fun l => decide (I 124 (8 * 0 + l) = nI 1 ∧ I 125 (8 * 0 + l) = nI s)) (m_nL I) := by
    apply b_ext
    intro i hi
    have := n1.2.2.2.2.2.1 s (by omega) i hi
    rw [c_wI (by omega)] at this
    rw [b_mk (by omega) hi]
    rw [show I 51 s = I (49 + 2) s from rfl, this]
    by_cases c : i < m_nL I
    · rw [(g67 i (by omega)).1, (g67 i (by omega)).2, decide_eq_true c, Bool.true_and]
      exact decide_eq_decide.mpr ⟨fun g => g.2, fun g => ⟨c, g⟩⟩
    · rw [decide_eq_false c, Bool.false_and]
      exact decide_eq_false (fun g => c g.1)
  rw [e_S_look, s_S_isSleeper ht, eZ, bo_t ⟨nI_le (by omega) (by omega), nI_lt hs (by omega)⟩, am_asIe, e_S_look_5 ht, am_ifn, if_neg n10]
  unfold lkV at hQ
  rcases (show j = 0 ∨ j = 1 ∨ j = 2 ∨ j = 3 ∨ j = 4 ∨ j = 5 by omega) with rfl | rfl | rfl | rfl | rfl | rfl
  · rw [am_ifd, if_pos rfl, am_gI (by omega) (by omega), nI_clamp (by omega), c50]
    exact hQ
  · rw [am_ifd, if_neg (by decide +kernel), am_ifd, if_pos rfl, am_gI (by omega) (by omega), nI_clamp (by omega), hsl.1]
    exact hQ
  · rw [am_ifd, if_neg (by decide +kernel), am_ifd, if_neg (by decide +kernel), am_ifd, if_pos rfl, am_gI (by omega) (by omega), nI_clamp (by omega), hsl.2.2.1]
    exact hQ
  · rw [am_ifd, if_neg (by decide +kernel), am_ifd, if_neg (by decide +kernel), am_ifd, if_neg (by decide +kernel), am_ifd, if_pos rfl, am_gI (by omega) (by omega), nI_clamp (by omega), hsl.2.1]
    exact hQ
  · rw [am_ifd, if_neg (by decide +kernel), am_ifd, if_neg (by decide +kernel), am_ifd, if_neg (by decide +kernel), am_ifd, if_neg (by decide +kernel), am_ifd, if_pos rfl, b_v (by omega), c43]
    exact hQ
  · rw [am_ifd, if_neg (by decide +kernel), am_ifd, if_neg (by decide +kernel), am_ifd, if_neg (by decide +kernel), am_ifd, if_neg (by decide +kernel), am_ifd, if_neg (by decide +kernel), am_ifd, if_pos rfl, am_gI (by omega) (by omega), nI_clamp (by omega), c51]
    exact hQ
theorem lk_m {s j : Nat} {Q : Value → am_H → Prop} (hok : m_ok I) (hs : s < m_nZ I) (hj : j < 6) (hQ : Q (.int (lkV I s j)) (am_hp N r (am_u I 93 0 (nI 0)) J)) : am_D (d + 2) 235 [.ref 93, .int (nI s), .int (nI j)] (am_hp N r I J) Q := by
  have bZ := hok.2.2.1.2
  have eZ := hok.2.2.1.1
  have bL := hok.2.2.2.1.2
  have eL := hok.2.2.2.1.1
  have u : ∀ a k, a ≠ 93 → am_u I 93 0 (nI 0) a k = I a k := fun a k h => am_uN (Or.inl h)
  rw [e_M_look, s_M_isSleeper, eZ, bo_t ⟨nI_le (by omega) (by omega), nI_lt hs (by omega)⟩, am_asIe, e_M_look_6, am_ifn, if_neg n10, am_ifi (nI_ltI (by omega) (by omega)), if_neg (by omega), am_ifi (nI_leI (by omega) (by omega)), if_pos (by omega), am_uE, am_ifd, if_pos rfl]
  unfold lkV at hQ
  rcases (show j = 0 ∨ j = 1 ∨ j = 2 ∨ j = 3 ∨ j = 4 ∨ j = 5 by omega) with rfl | rfl | rfl | rfl | rfl | rfl
  · rw [am_ifd, if_pos rfl, am_gI (by omega) (by omega), nI_clamp (by omega), u 123 _ (by omega)]
    exact hQ
  · rw [am_ifd, if_neg (by decide +kernel), am_ifd, if_pos rfl, am_gI (by omega) (by omega), nI_clamp (by omega), u 104 _ (by omega)]
    exact hQ
  · rw [am_ifd, if_neg (by decide +kernel), am_ifd, if_neg (by decide +kernel), am_ifd, if_pos rfl, am_gI (by omega) (by omega), nI_clamp (by omega), u 106 _ (by omega)]
    exact hQ
  · rw [am_ifd, if_neg (by decide +kernel), am_ifd, if_neg (by decide +kernel), am_ifd, if_neg (by decide +kernel), am_ifd, if_pos rfl, am_gI (by omega) (by omega), nI_clamp (by omega), u 105 _ (by omega)]
    exact hQ
  · rw [am_ifd, if_neg (by decide +kernel), am_ifd, if_neg (by decide +kernel), am_ifd, if_neg (by decide +kernel), am_ifd, if_neg (by decide +kernel), am_ifd, if_pos rfl, b_v (by omega), u 122 _ (by omega)]
    exact hQ
  · rw [am_ifd, if_neg (by decide +kernel), am_ifd, if_neg (by decide +kernel), am_ifd, if_neg (by decide +kernel), am_ifd, if_neg (by decide +kernel), am_ifd, if_neg (by decide +kernel), s_M_inHand (n := 0) (by omega) (by rw [u 95 _ (by omega)]; exact eL) bL, am_asIe, e_M_look_121]
    have e : (fun l => decide (am_u I 93 0 (nI 0) 124 (8 * 0 + l) = nI 1 ∧ am_u I 93 0 (nI 0) 125 (8 * 0 + l) = nI s)) = (fun l => decide (I 124 (8 * 0 + l) = nI 1 ∧ I 125 (8 * 0 + l) = nI s)) := by
      funext l
      rw [u 124 _ (by omega), u 125 _ (by omega)]
    rw [e]
    exact hQ
/-- look, as the law asks it of the class; then what the model says -/
theorem op_look {a b : Int32} {K : Value → am_H → Prop} (hv : i_inv r I J)
    (hK : ∀ k y J1, J1 64 = J 64 → (k = nI 0 → J1 140 0 = y.toInt64) → (∀ K2 : Value → am_H → Prop, K2 (.int y) (am_hp N r (am_u I 93 0 k) J1) → am_D (d + 3) 235 [.ref 93, .int a, .int b] (am_hp N r I J1) K2) → K (.int k) (am_hp N r I J1)) :
    am_D (d + 3) 905 [.ref 1, .int a, .int b, .ref 140] (am_hp N r I J) K := by
  obtain ⟨rt, rs, rd, rl, rx, nt, nw, nf⟩ := r
  obtain ⟨ht, hok, eH, eZ, eL, h0, h12, e49, e118⟩ := iv_ref hv
  have bZ := hok.2.2.1.2
  have mZ := hok.2.2.1.1
  rw [am_905 ht, am_ifB, am_ifB]
  by_cases ca : ∃ s, s < m_nZ I ∧ a = nI s
  · obtain ⟨s, hs, rfl⟩ := ca
    rw [if_pos (by rw [eZ, decide_eq_true (nI_le (by omega) (by omega)), decide_eq_true (nI_lt hs (by omega))]; rfl)]
    by_cases cb : nI 0 ≤ b ∧ b ≤ nI 5
    · obtain ⟨j, hj, rfl⟩ : ∃ j, j < 6 ∧ b = nI j := by
        obtain ⟨c1, c2⟩ := cb
        rw [fa_le, nI_toInt (by omega)] at c1
        rw [fa_le, nI_toInt (by omega)] at c2
        refine ⟨b.toInt.toNat, by omega, ?_⟩
        rw [fa_eq, nI_toInt (by omega)]
        omega
      rw [if_pos (by rw [decide_eq_true cb.1, decide_eq_true cb.2]; rfl)]
      refine lk_c hv hs hj ?_
      rw [am_asIe]
      exact hK (nI 0) (lkV I s j) (am_uJ J 140 0 (lkV I s j).toInt64) (by funext k; exact am_uJN (by omega)) (fun _ => am_uJE) (fun K2 h => lk_m hok hs hj h)
    · have nb : ¬ (decide (nI 0 ≤ b) && decide (b ≤ nI 5)) = true := by
        intro g
        rw [Bool.and_eq_true, decide_eq_true_eq, decide_eq_true_eq] at g
        exact cb g
      rw [if_neg nb]
      refine hK (nI 2) (nI 0) J rfl (fun h => absurd h (by decide +kernel)) (fun K2 h => ?_)
      rw [e_M_look, s_M_isSleeper, mZ, bo_t ⟨nI_le (by omega) (by omega), nI_lt hs (by omega)⟩, am_asIe, e_M_look_6, am_ifn, if_neg n10]
      by_cases c1 : b < nI 0
      · rw [am_ifd, if_pos c1, am_uE, am_ifd, if_neg (by decide +kernel)]
        exact h
      · rw [am_ifd, if_neg c1, am_ifd, if_neg (fun g => cb ⟨fa_of_nlt c1, g⟩), am_uE, am_ifd, if_neg (by decide +kernel)]
        exact h
  · have na : ¬ (decide (nI 0 ≤ a) && decide (a < I rt 2)) = true := by
      intro g
      rw [Bool.and_eq_true, decide_eq_true_eq, decide_eq_true_eq, eZ] at g
      exact ca ((am_irng (k := 0) rfl (by omega)).mp g)
    have ns : ¬ (nI 0 ≤ a ∧ a < I 95 2) := by
      intro g
      rw [mZ] at g
      exact ca ((am_irng (k := 0) rfl (by omega)).mp g)
    rw [if_neg na]
    refine hK (nI 1) (nI 0) J rfl (fun h => absurd h (by decide +kernel)) (fun K2 h => ?_)
    rw [e_M_look, s_M_isSleeper, bo_f ns, am_asIe, e_M_look_6, am_ifn, if_pos rfl, am_uE, am_ifd, if_neg (by decide +kernel)]
    exact h
end
