/-! ===== L3: the model's lines, 4 ===== -/
section
variable {n p q m lo hi z l : Nat} {T : Nat → Nat} {o : Nat × Nat} {f g : Nat → Int32}
/-- what is told already -/
def sxL (b : Bool) (o : Nat × Nat) : Nat × Nat := if o.1 = 0 ∧ b = true then (3, o.2) else o
theorem sxL_b {b : Bool} (ho : o.2 ≤ n) (h9 : o.1 ≤ 9) : (sxL b o).2 ≤ n ∧ (sxL b o).1 ≤ 9 := by
  unfold sxL
  split
  · exact ⟨ho, by show 3 ≤ 9; omega⟩
  · exact ⟨ho, h9⟩
theorem sxL_2 {b : Bool} : (sxL b o).2 = o.2 := by unfold sxL; split <;> rfl
theorem sL_ne {b : Bool} {f q : Nat} (h : f ≠ 0) : sxL b (f, q) = (f, q) := if_neg (fun g => h g.1)
theorem ln9_s {hn : Nat → Int32} {lw : Nat → Bool} : ln9 n T p hn m lw = sxN n T 1 9 (stG n T (sxL (lw (nhI hn m n T (tkE n T p))) (sxA n T hn m (0, tkE n T p)))) := by
  unfold ln9
  by_cases c : nhF hn m n T (tkE n T p) = 0
  · rw [if_neg (by omega), sA_ok c]
    by_cases c2 : lw (nhI hn m n T (tkE n T p)) = true
    · have e : sxL (lw (nhI hn m n T (tkE n T p))) (0, tkE n T p) = (3, tkE n T p) := if_pos ⟨rfl, c2⟩
      rw [if_pos c2, e, sG_ne (by omega), sN_ne (by omega)]
    · have e : sxL (lw (nhI hn m n T (tkE n T p))) (0, tkE n T p) = (0, tkE n T p) := if_neg (fun g => c2 g.2)
      rw [if_neg c2, e, sG_ok, sN_0]
      by_cases c3 : nuF 1 9 n T (tkE n T (tkE n T p)) = 0
      · rw [if_neg (by omega), if_pos c3]
      · rw [if_pos c3, if_neg c3]
  · have e : sxA n T hn m (0, tkE n T p) = (nhF hn m n T (tkE n T p), tkE n T p) := by unfold sxA; rw [if_pos rfl]
    rw [if_pos c, e, sL_ne c, sG_ne c, sN_ne c]
theorem ln9_0 {hn : Nat → Int32} {lw : Nat → Bool} (h : (ln9 n T p hn m lw).1 = 0) : nhF hn m n T (tkE n T p) = 0 ∧ lw (nhI hn m n T (tkE n T p)) = false ∧ nuF 1 9 n T (tkE n T (tkE n T p)) = 0 := by
  unfold ln9 at h
  by_cases c1 : nhF hn m n T (tkE n T p) ≠ 0
  · rw [if_pos c1] at h; exact absurd h c1
  rw [if_neg c1] at h
  by_cases c2 : lw (nhI hn m n T (tkE n T p)) = true
  · rw [if_pos c2] at h; exact absurd (show (3 : Nat) = 0 from h) (by omega)
  rw [if_neg c2] at h
  by_cases c3 : nuF 1 9 n T (tkE n T (tkE n T p)) ≠ 0
  · rw [if_pos c3] at h; exact absurd h c3
  exact ⟨by omega, ts_ne c2, by omega⟩
theorem ln10_s {hn : Nat → Int32} {lw : Nat → Bool} : ln10 n T p hn m lw = stG n T (sxL (lw (nhI hn m n T (tkE n T p))) (sxA n T hn m (0, tkE n T p))) := by
  unfold ln10
  by_cases c : nhF hn m n T (tkE n T p) = 0
  · rw [if_neg (by omega), sA_ok c]
    by_cases c2 : lw (nhI hn m n T (tkE n T p)) = true
    · have e : sxL (lw (nhI hn m n T (tkE n T p))) (0, tkE n T p) = (3, tkE n T p) := if_pos ⟨rfl, c2⟩
      rw [if_pos c2, e, sG_ne (by omega)]
    · have e : sxL (lw (nhI hn m n T (tkE n T p))) (0, tkE n T p) = (0, tkE n T p) := if_neg (fun g => c2 g.2)
      rw [if_neg c2, e, sG_ok]
  · have e : sxA n T hn m (0, tkE n T p) = (nhF hn m n T (tkE n T p), tkE n T p) := by unfold sxA; rw [if_pos rfl]
    rw [if_pos c, e, sL_ne c, sG_ne c]
theorem ln12_0 {sd : Bool} (h : (ln12 n T p sd).1 = 0) : nuF 0 99999 n T (tkE n T p) = 0 := by
  unfold ln12 at h
  by_cases c1 : sd = true
  · rw [if_pos c1] at h; exact absurd (show (3 : Nat) = 0 from h) (by omega)
  rw [if_neg c1] at h
  by_cases c2 : nuF 0 99999 n T (tkE n T p) ≠ 0
  · rw [if_pos c2] at h; exact absurd h c2
  omega
end
section
variable {d N : Nat} {Q : Value → am_H → Prop} {r : am_rho} {I Z : Nat → Nat → Int32} {J : Nat → Nat → Int64} {n p ln : Nat} {T : Nat → Nat} {v : Int32}
theorem md_letter (hx : txm I n T) (hz : zok Z) (hV : mV I Z) (hl8 : m_nL Z ≠ 8) (hp : tkE n T p ≤ n) (hv : tvm n T (tkE n T p) v) (hln : I 93 25 = nI ln)
    (hF : lnE N r J Q I n T (ln7 n T p (Z 96) (Z 103) (m_nH Z) (m_nZ Z) (m_nL Z)))
    (hS : lnG N r J Q I n T ln (z7 (m_nL Z) (nhI (Z 103) (m_nZ Z) n T (tkE n T p)) (nhI (Z 96) (m_nH Z) n T (tkE n T (tkE n T p))) Z) (ln7 n T p (Z 96) (Z 103) (m_nH Z) (m_nZ Z) (m_nL Z))) :
    am_V (d + 10) Q 182 90 [some (.ref 93), some (.int (nI 3)), none, none, none, none] [] (am_hp N r (mS I n T (0, tkE n T p) v) J) := by
  have h7 := hx.1.1
  obtain ⟨⟨⟨z0, z0'⟩, _, ⟨z2, z2'⟩, ⟨z3, z3'⟩, _⟩, _⟩ := hz
  have f0 : I 95 7 = nI (m_nH Z) := by rw [← z0]; exact hV 95 0 (by omega) (by omega) (show 0 < 7 by omega)
  have f2 : I 95 9 = nI (m_nZ Z) := by rw [← z2]; exact hV 95 2 (by omega) (by omega) (show 2 < 7 by omega)
  have f3 : I 95 10 = nI (m_nL Z) := by rw [← z3]; exact hV 95 3 (by omega) (by omega) (show 3 < 7 by omega)
  have hn : ∀ k, k < m_nH Z → I 96 (8 + k) = Z 96 k := fun k hk => hV 96 k (by omega) (by omega) (show k < 8 by omega)
  have zn : ∀ k, k < m_nZ Z → I 103 (5 + k) = Z 103 k := fun k hk => hV 103 k (by omega) (by omega) (show k < 5 by omega)
  have o0 : (0, tkE n T p).1 ≤ 9 := Nat.zero_le _
  rw [e_M_line_90, am_ifd, if_neg (by decide +kernel), am_ifd, if_neg (by decide +kernel), am_ifd, if_neg (by decide +kernel), am_ifd, if_pos rfl, md_fresher (by omega), am_asIe, e_M_line_304, show 7 + 3 = 10 from rfl, f3, nI_add]
  refine md_sleeperAhead (d := d + 1) (z := m_nZ Z) hx f2 z2' hp o0 hv ?_
  rw [sxA_c zn, nh_c zn]
  intro v1 hv1
  have b1a := sxA_b (T := T) (f := Z 103) (m := m_nZ Z) (o := (0, tkE n T p)) hp o0
  have b1 := stG_b (T := T) h7 b1a.1 b1a.2
  generalize hans1 : (if (sxA n T (Z 103) (m_nZ Z) (0, tkE n T p)).1 = 0 then nhI (Z 103) (m_nZ Z) n T (0, tkE n T p).2 else 0) = a1
  rw [am_asIe, e_M_line_317, am_gI (by omega) (by omega), nI_clamp (by omega), mS_u (by omega)]
  have fr1 : frm I (am_u I 107 (8 + m_nL Z) (nI a1)) := frm_up (by omega) (by show 8 ≤ _; omega)
  refine md_houseAhead (d := d + 1) (m := m_nH Z) (txm_f hx fr1) (by rw [am_uN (by omega)]; exact f0) z0' b1.1 b1.2 hv1 ?_
  rw [show (fun k => am_u I 107 (8 + m_nL Z) (nI a1) 96 (8 + k)) = (fun k => I 96 (8 + k)) from funext fun k => am_uN (by omega), sxA_c hn, nh_c hn]
  intro v2 hv2
  have b2a := sxA_b (T := T) (f := Z 96) (m := m_nH Z) b1.1 b1.2
  have b2 := stG_b (T := T) h7 b2a.1 b2a.2
  generalize hans2 : (if (sxA n T (Z 96) (m_nH Z) (stG n T (sxA n T (Z 103) (m_nZ Z) (0, tkE n T p)))).1 = 0 then nhI (Z 96) (m_nH Z) n T (stG n T (sxA n T (Z 103) (m_nZ Z) (0, tkE n T p))).2 else 0) = a2
  rw [am_asIe, e_M_line_328, am_gI (by omega) (by omega), nI_clamp (by omega), mS_u (by omega), md_fresher (by omega), am_asIe, e_M_line_336, md_reads (by omega), e_M_line_341, show (am_u (am_u I 107 (8 + m_nL Z) (nI a1)) 108 (8 + m_nL Z) (nI a2)) 95 (7 + 3) = nI (m_nL Z) by rw [am_uN (by omega), am_uN (by omega)]; exact f3, nI_add]
  rw [← ln7_s hl8] at b2 hv2 ⊢
  refine md_end (d := d + 3) (ln := ln) hx (frm_tr fr1 (frm_tr (frm_up (by omega) (by show 8 ≤ _; omega)) (frm_up (by omega) (by show 7 ≤ _; omega)))) b2 hv2 hln (by rw [am_uRow (by omega), am_uRow (by omega), am_uRow (by omega)]) hF hS ?_
  intro e0
  obtain ⟨c1, c2⟩ := ln7_0 e0
  rw [sA_ok c1, if_pos rfl] at hans1
  rw [sA_ok c1, sG_ok, sA_ok c2, if_pos rfl] at hans2
  have k8 : m_nL Z < 8 := by omega
  unfold z7
  rw [← hans1, ← hans2]
  exact mV_u (k := 3) (by omega) (by decide) (mV_u (k := m_nL Z) (by omega) k8 (mV_u (k := m_nL Z) (by omega) k8 hV))
theorem md_lamp (hx : txm I n T) (hz : zok Z) (hV : mV I Z) (ha6 : m_nA Z ≠ 6) (hp : tkE n T p ≤ n) (hv : tvm n T (tkE n T p) v) (hln : I 93 25 = nI ln)
    (hF : lnE N r J Q I n T (ln8 n T p (Z 96) (m_nH Z) (m_nA Z)))
    (hS : lnG N r J Q I n T ln (z8 (m_nA Z) (nhI (Z 96) (m_nH Z) n T (tkE n T p)) (tkV n T (tkE n T (tkE n T p))) (tkV n T (tkE n T (tkE n T (tkE n T p)))) Z) (ln8 n T p (Z 96) (m_nH Z) (m_nA Z))) :
    am_V (d + 10) Q 182 90 [some (.ref 93), some (.int (nI 4)), none, none, none, none] [] (am_hp N r (mS I n T (0, tkE n T p) v) J) := by
  have h7 := hx.1.1
  obtain ⟨⟨⟨z0, z0'⟩, _, _, _, ⟨z4, z4'⟩, _⟩, _⟩ := hz
  have f0 : I 95 7 = nI (m_nH Z) := by rw [← z0]; exact hV 95 0 (by omega) (by omega) (show 0 < 7 by omega)
  have f4 : I 95 11 = nI (m_nA Z) := by rw [← z4]; exact hV 95 4 (by omega) (by omega) (show 4 < 7 by omega)
  have hn : ∀ k, k < m_nH Z → I 96 (8 + k) = Z 96 k := fun k hk => hV 96 k (by omega) (by omega) (show k < 8 by omega)
  have o0 : (0, tkE n T p).1 ≤ 9 := Nat.zero_le _
  rw [e_M_line_90, am_ifd, if_neg (by decide +kernel), am_ifd, if_neg (by decide +kernel), am_ifd, if_neg (by decide +kernel), am_ifd, if_neg (by decide +kernel), am_ifd, if_pos rfl, md_fresher (by omega), am_asIe, e_M_line_351, show 7 + 4 = 11 from rfl, f4, nI_add]
  refine md_houseAhead (d := d + 1) (m := m_nH Z) hx f0 z0' hp o0 hv ?_
  rw [sxA_c hn, nh_c hn]
  intro v1 hv1
  have b1a := sxA_b (T := T) (f := Z 96) (m := m_nH Z) (o := (0, tkE n T p)) hp o0
  have b1 := stG_b (T := T) h7 b1a.1 b1a.2
  generalize hans1 : (if (sxA n T (Z 96) (m_nH Z) (0, tkE n T p)).1 = 0 then nhI (Z 96) (m_nH Z) n T (0, tkE n T p).2 else 0) = a1
  rw [am_asIe, e_M_line_364, am_gI (by omega) (by omega), nI_clamp (by omega), mS_u (by omega)]
  have fr1 : frm I (am_u I 109 (6 + m_nA Z) (nI a1)) := frm_up (by omega) (by show 6 ≤ _; omega)
  refine md_numeral (d := d + 2) (txm_f hx fr1) b1.1 b1.2 hv1 (by omega) (by omega) ?_
  intro v2 hv2
  have b2 := sxN_b (T := T) (lo := 0) (hi := 11) h7 b1.1 b1.2
  have ha11 : (if (sxN n T 0 11 (stG n T (sxA n T (Z 96) (m_nH Z) (0, tkE n T p)))).1 = 0 then tkV n T (stG n T (sxA n T (Z 96) (m_nH Z) (0, tkE n T p))).2 else 0) ≤ 11 := by
    split
    · rename_i h
      unfold sxN at h
      split at h
      · split at h
        · rename_i h2; exact (nuF_in h2).2
        · rename_i h2; exact absurd h h2
      · rename_i h2; exact absurd h h2
    · omega
  generalize hans2 : (if (sxN n T 0 11 (stG n T (sxA n T (Z 96) (m_nH Z) (0, tkE n T p)))).1 = 0 then tkV n T (stG n T (sxA n T (Z 96) (m_nH Z) (0, tkE n T p))).2 else 0) = a2 at ha11 ⊢
  rw [am_asIe, e_M_line_378, am_gI (by omega) (by omega), am_gI (by omega) (by omega), nI_clamp (by omega), am_uE, mS_u (by omega)]
  have fr2 : frm I (am_u (am_u I 109 (6 + m_nA Z) (nI a1)) 110 (6 + m_nA Z) (nI a2)) := frm_tr fr1 (frm_up (by omega) (by show 6 ≤ _; omega))
  refine md_numeral (d := d + 2) (txm_f hx fr2) b2.1 b2.2 hv2 (by omega) (by omega) ?_
  intro v3 hv3
  have b3 := sxN_b (T := T) (lo := a2) (hi := 11) h7 b2.1 b2.2
  generalize hans3 : (if (sxN n T a2 11 (sxN n T 0 11 (stG n T (sxA n T (Z 96) (m_nH Z) (0, tkE n T p))))).1 = 0 then tkV n T (sxN n T 0 11 (stG n T (sxA n T (Z 96) (m_nH Z) (0, tkE n T p)))).2 else a2) = a3
  rw [am_asIe, e_M_line_398, am_gI (by omega) (by omega), nI_clamp (by omega), mS_u (by omega), md_fresher (by omega), am_asIe, e_M_line_406, md_reads (by omega), e_M_line_411, show (am_u (am_u (am_u I 109 (6 + m_nA Z) (nI a1)) 110 (6 + m_nA Z) (nI a2)) 111 (6 + m_nA Z) (nI a3)) 95 (7 + 4) = nI (m_nA Z) by rw [am_uN (by omega), am_uN (by omega), am_uN (by omega)]; exact f4, nI_add]
  have es : sxN n T a2 11 (sxN n T 0 11 (stG n T (sxA n T (Z 96) (m_nH Z) (0, tkE n T p)))) = ln8 n T p (Z 96) (m_nH Z) (m_nA Z) := by rw [ln8_s ha6, hans2]
  rw [es] at b3 hv3 hans3 ⊢
  refine md_end (d := d + 3) (ln := ln) hx (frm_tr fr2 (frm_tr (frm_up (by omega) (by show 6 ≤ _; omega)) (frm_up (by omega) (by show 7 ≤ _; omega)))) b3 hv3 hln (by rw [am_uRow (by omega), am_uRow (by omega), am_uRow (by omega), am_uRow (by omega)]) hF hS ?_
  intro e0
  obtain ⟨c1, c2, c3⟩ := ln8_0 e0
  rw [sA_ok c1, if_pos rfl] at hans1
  rw [sA_ok c1, sG_ok, sN_ok c2, if_pos rfl] at hans2
  rw [if_pos e0, sA_ok c1, sG_ok, sN_ok c2] at hans3
  have k6 : m_nA Z < 6 := by omega
  unfold z8
  rw [← hans1, ← hans2, ← hans3]
  exact mV_u (k := 4) (by omega) (by decide) (mV_u (k := m_nA Z) (by omega) k6 (mV_u (k := m_nA Z) (by omega) k6 (mV_u (k := m_nA Z) (by omega) k6 hV)))
theorem md_seed {sd : Bool} (hx : txm I n T) (hV : mV I Z) (hsd : sd ≠ true) (hp : tkE n T p ≤ n) (hv : tvm n T (tkE n T p) v) (hln : I 93 25 = nI ln)
    (hF : lnE N r J Q I n T (ln12 n T p sd))
    (hS : lnG N r J Q I n T ln (am_u Z 95 5 (nI (tkV n T (tkE n T p)))) (ln12 n T p sd)) :
    am_V (d + 10) Q 182 90 [some (.ref 93), some (.int (nI 8)), none, none, none, none] [] (am_hp N r (mS I n T (0, tkE n T p) v) J) := by
  have h7 := hx.1.1
  have o0 : (0, tkE n T p).1 ≤ 9 := Nat.zero_le _
  rw [e_M_line_90, am_ifd, if_neg (by decide +kernel), am_ifd, if_neg (by decide +kernel), am_ifd, if_neg (by decide +kernel), am_ifd, if_neg (by decide +kernel), am_ifd, if_neg (by decide +kernel), am_ifd, if_neg (by decide +kernel), am_ifd, if_neg (by decide +kernel), am_ifd, if_neg (by decide +kernel), am_ifd, if_pos rfl]
  refine md_numeral (d := d + 2) hx hp o0 hv (by omega) (by omega) ?_
  intro v1 hv1
  have b1 := sxN_b (T := T) (lo := 0) (hi := 99999) (o := (0, tkE n T p)) h7 hp o0
  rw [← ln12_s hsd] at b1 hv1 ⊢
  rw [am_asIe, e_M_line_452, md_reads (by omega), e_M_line_455]
  refine md_end (d := d + 3) (ln := ln) hx (frm_up (by omega) (by show 7 ≤ _; omega)) b1 hv1 hln (by rw [am_uRow (by omega)]) hF hS ?_
  intro e0
  rw [if_pos e0]
  exact mV_u (k := 5) (by omega) (by decide) hV
theorem md_loudL {a w : Nat} {pc : Nat} (hx : txm I n T) (hz : zok Z) (hV : mV I Z) (ha : a = 97 ∨ a = 99) (hp : tkE n T p ≤ n) (hv : tvm n T (tkE n T p) v)
    (hQ : ∀ X v', frm I X → X 93 = I 93 → tvm n T (ln9 n T p (Z 96) (m_nH Z) (fun h => decide (¬ Z a h ≤ nI 0))).2 v' → ((ln9 n T p (Z 96) (m_nH Z) (fun h => decide (¬ Z a h ≤ nI 0))).1 = 0 → mV X (am_u Z a (nhI (Z 96) (m_nH Z) n T (tkE n T p)) (nI (tkV n T (tkE n T (tkE n T p)))))) → Q .null (am_hp N r (mS X n T (ln9 n T p (Z 96) (m_nH Z) (fun h => decide (¬ Z a h ≤ nI 0))) v') J)) :
    am_D (d + 10) 184 [.ref 93, .ref a] (am_hp N r (mS I n T (0, tkE n T p) v) J) Q := by
  have h7 := hx.1.1
  obtain ⟨⟨⟨z0, z0'⟩, _⟩, _⟩ := hz
  have f0 : I 95 7 = nI (m_nH Z) := by rw [← z0]; exact hV 95 0 (by omega) (by omega) (show 0 < 7 by omega)
  have hn : ∀ k, k < m_nH Z → I 96 (8 + k) = Z 96 k := fun k hk => hV 96 k (by omega) (by omega) (show k < 8 by omega)
  have ra : ∀ k, k < m_nH Z → I a (8 + k) = Z a k := fun k hk => by rcases ha with rfl | rfl <;> exact hV _ k (by omega) (by omega) (show k < 8 by omega)
  have o0 : (0, tkE n T p).1 ≤ 9 := Nat.zero_le _
  have ta : am_TT N a = (1, 16) := by rcases ha with rfl | rfl <;> rfl
  rw [e_M_loudLine]
  refine md_houseAtHand (d := d + 6) (m := m_nH Z) hx f0 z0' hp o0 hv ?_
  rw [sxA_c hn, nh_c hn]
  have b1 := sxA_b (T := T) (f := Z 96) (m := m_nH Z) (o := (0, tkE n T p)) hp o0
  rw [am_asIe, e_M_loudLine_4, mS_31, am_ifni (nI_eq (by omega) (by omega)), ta]
  have tail : ∀ o x, o = sxL (decide (¬ Z a (nhI (Z 96) (m_nH Z) n T (tkE n T p)) ≤ nI 0)) (sxA n T (Z 96) (m_nH Z) (0, tkE n T p)) → ((ln9 n T p (Z 96) (m_nH Z) (fun h => decide (¬ Z a h ≤ nI 0))).1 = 0 → x = nhI (Z 96) (m_nH Z) n T (tkE n T p)) → am_V (d + 9) Q 184 26 [some (.ref 93), some (.ref a), some (.int (nI x)), none] [] (am_hp N r (mS I n T o v) J) := by
    intro o x ho hxx
    have b2 : o.2 ≤ n ∧ o.1 ≤ 9 := by rw [ho]; exact sxL_b b1.1 b1.2
    have hvo : tvm n T o.2 v := by rw [ho, sxL_2, sxA_2]; exact hv
    rw [e_M_loudLine_26]
    refine md_goOn (d := d + 1) hx b2.1 b2.2 hvo ?_
    intro v2 hv2
    have b3 := stG_b (T := T) h7 b2.1 b2.2
    rw [e_M_loudLine_30]
    refine md_numeral (d := d + 1) hx b3.1 b3.2 hv2 (by omega) (by omega) ?_
    intro v3 hv3
    have b4 := sxN_b (T := T) (lo := 1) (hi := 9) h7 b3.1 b3.2
    have es : sxN n T 1 9 (stG n T o) = ln9 n T p (Z 96) (m_nH Z) (fun h => decide (¬ Z a h ≤ nI 0)) := by rw [ln9_s, ho]
    rw [es] at hv3 b4 ⊢
    rw [am_asIe, e_M_loudLine_37, mS_31, am_ifni (nI_eq (by omega) (by omega))]
    by_cases c : (ln9 n T p (Z 96) (m_nH Z) (fun h => decide (¬ Z a h ≤ nI 0))).1 = 0
    · obtain ⟨c1, c2, c3⟩ := ln9_0 c
      have gh := nhF_lt c1
      have eo : stG n T o = (0, tkE n T (tkE n T p)) := by
        have e : sxL (decide (¬ Z a (nhI (Z 96) (m_nH Z) n T (tkE n T p)) ≤ nI 0)) (0, tkE n T p) = (0, tkE n T p) := if_neg (fun g => by have := g.2; rw [c2] at this; cases this)
        rw [ho, sA_ok c1, e, sG_ok]
      rw [if_pos c, if_pos c, hxx c, nI_add, ta, eo]
      have g8 : (Nat.beq ((1, 16) : Nat × Nat).1 1 && am_inb (nI (8 + nhI (Z 96) (m_nH Z) n T (tkE n T p))) ((1, 16) : Nat × Nat).2) = true := by
        show (true && am_inb (nI (8 + nhI (Z 96) (m_nH Z) n T (tkE n T p))) 16) = true
        rw [am_inbT (by omega) (by omega)]; rfl
      rw [am_gT g8, nI_clamp (by omega), mS_u (by omega)]
      refine hQ _ v3 ?_ (by rw [am_uRow (by omega)]) hv3 (fun _ => ?_)
      · rcases ha with rfl | rfl
        · exact frm_up (by omega) (by show 8 ≤ _; omega)
        · exact frm_up (by omega) (by show 8 ≤ _; omega)
      · rcases ha with rfl | rfl
        · exact mV_u (k := nhI (Z 96) (m_nH Z) n T (tkE n T p)) (by omega) (show _ < 8 by omega) hV
        · exact mV_u (k := nhI (Z 96) (m_nH Z) n T (tkE n T p)) (by omega) (show _ < 8 by omega) hV
    · rw [if_neg c]
      exact hQ I v3 frm_re rfl hv3 (fun g => absurd g c)
  by_cases c : (sxA n T (Z 96) (m_nH Z) (0, tkE n T p)).1 = 0
  · have c1 : nhF (Z 96) (m_nH Z) n T (tkE n T p) = 0 := by
      unfold sxA at c; rw [if_pos rfl] at c; exact c
    have gh := nhF_lt c1
    have g8 : ((Nat.beq ((1, 16) : Nat × Nat).1 1 || Nat.beq ((1, 16) : Nat × Nat).1 5) && am_inb (nI (8 + nhI (Z 96) (m_nH Z) n T (tkE n T p))) ((1, 16) : Nat × Nat).2) = true := by
      show (true && am_inb (nI (8 + nhI (Z 96) (m_nH Z) n T (tkE n T p))) 16) = true
      rw [am_inbT (by omega) (by omega)]; rfl
    rw [if_pos c, if_pos c]
    show am_g ((Nat.beq ((1, 16) : Nat × Nat).1 1 || Nat.beq ((1, 16) : Nat × Nat).1 5) && am_inb (nI 8 + nI (nhI (Z 96) (m_nH Z) n T (tkE n T p))) ((1, 16) : Nat × Nat).2) _
    rw [nI_add, am_gT g8, nI_clamp (by omega), mS_o (by omega), ra _ gh, am_ifd, sA_ok c1]
    by_cases c2 : Z a (nhI (Z 96) (m_nH Z) n T (tkE n T p)) ≤ nI 0
    · rw [if_pos c2]
      exact tail _ _ (by rw [sA_ok c1]; exact (if_neg (fun g => by have := g.2; rw [decide_eq_false (fun k => k c2)] at this; cases this)).symm) (fun _ => rfl)
    · rw [if_neg c2, md_wrong (by omega) (by show 0 ≤ 9; omega)]
      exact tail _ _ (by rw [sA_ok c1]; exact (if_pos ⟨rfl, decide_eq_true c2⟩).symm) (fun _ => rfl)
  · rw [if_neg c, if_neg c]
    refine tail _ 0 (by exact (if_neg (fun g => c g.1)).symm) (fun g => ?_)
    exact absurd (by rw [sA_ok (ln9_0 g).1]) c
end
