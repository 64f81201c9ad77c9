/-! ===== L3: the model's lines, 3 ===== -/
section
variable {n p q m lo hi z l : Nat} {T : Nat → Nat} {o : Nat × Nat} {f g : Nat → Int32}
theorem sxA_c (h : ∀ k, k < m → f k = g k) : sxA n T f m o = sxA n T g m o := by unfold sxA; rw [nhF_c h]
theorem sxF_c (h : ∀ k, k < m → f k = g k) : sxF n T f m o = sxF n T g m o := by unfold sxF; rw [nfF_c h]
theorem sF_ok (h : nfF f m n T q = 0) : sxF n T f m (0, q) = (0, tkE n T q) := by rw [sF_0, if_pos h]
theorem sA_ok (h : nhF f m n T q = 0) : sxA n T f m (0, q) = (0, q) := by unfold sxA; rw [if_pos rfl, show nhF f m n T (0, q).2 = 0 from h]
theorem sN_ok (h : nuF lo hi n T q = 0) : sxN n T lo hi (0, q) = (0, tkE n T q) := by rw [sN_0, if_pos h]
theorem sG_ok : stG n T (0, q) = (0, tkE n T q) := by unfold stG; rw [if_pos rfl]
theorem ln6_0 {hn zn : Nat → Int32} (h : (ln6 n T p hn zn m z).1 = 0) : nfF zn z n T (tkE n T p) = 0 ∧ nhF hn m n T (tkE n T (tkE n T p)) = 0 ∧ nuF 0 9 n T (tkE n T (tkE n T (tkE n T p))) = 0 ∧ nhF hn m n T (tkE n T (tkE n T (tkE n T (tkE n T p)))) = 0 := by
  unfold ln6 at h
  by_cases c0 : z = 5
  · rw [if_pos c0] at h; exact absurd (show (2 : Nat) = 0 from h) (by omega)
  rw [if_neg c0] at h
  by_cases c1 : nfF zn z n T (tkE n T p) ≠ 0
  · rw [if_pos c1] at h; exact absurd h c1
  rw [if_neg c1] at h
  by_cases c2 : nhF hn m n T (tkE n T (tkE n T p)) ≠ 0
  · rw [if_pos c2] at h; exact absurd h c2
  rw [if_neg c2] at h
  by_cases c3 : nuF 0 9 n T (tkE n T (tkE n T (tkE n T p))) ≠ 0
  · rw [if_pos c3] at h; exact absurd h c3
  rw [if_neg c3] at h
  by_cases c4 : nhF hn m n T (tkE n T (tkE n T (tkE n T (tkE n T p)))) ≠ 0
  · rw [if_pos c4] at h; exact absurd h c4
  exact ⟨by omega, by omega, by omega, by omega⟩
theorem ln7_0 {hn zn : Nat → Int32} (h : (ln7 n T p hn zn m z l).1 = 0) : nhF zn z n T (tkE n T p) = 0 ∧ nhF hn m n T (tkE n T (tkE n T p)) = 0 := by
  unfold ln7 at h
  by_cases c0 : l = 8
  · rw [if_pos c0] at h; exact absurd (show (2 : Nat) = 0 from h) (by omega)
  rw [if_neg c0] at h
  by_cases c1 : nhF zn z n T (tkE n T p) ≠ 0
  · rw [if_pos c1] at h; exact absurd h c1
  rw [if_neg c1] at h
  by_cases c2 : nhF hn m n T (tkE n T (tkE n T p)) ≠ 0
  · rw [if_pos c2] at h; exact absurd h c2
  exact ⟨by omega, by omega⟩
theorem ln8_0 {hn : Nat → Int32} {a : Nat} (h : (ln8 n T p hn m a).1 = 0) : nhF hn m n T (tkE n T p) = 0 ∧ nuF 0 11 n T (tkE n T (tkE n T p)) = 0 ∧ nuF (tkV n T (tkE n T (tkE n T p))) 11 n T (tkE n T (tkE n T (tkE n T p))) = 0 := by
  unfold ln8 at h
  by_cases c0 : a = 6
  · rw [if_pos c0] at h; exact absurd (show (2 : Nat) = 0 from h) (by omega)
  rw [if_neg c0] at h
  by_cases c1 : nhF hn m n T (tkE n T p) ≠ 0
  · rw [if_pos c1] at h; exact absurd h c1
  rw [if_neg c1] at h
  by_cases c2 : nuF 0 11 n T (tkE n T (tkE n T p)) ≠ 0
  · rw [if_pos c2] at h; exact absurd h c2
  rw [if_neg c2] at h
  by_cases c3 : nuF (tkV n T (tkE n T (tkE n T p))) 11 n T (tkE n T (tkE n T (tkE n T p))) ≠ 0
  · rw [if_pos c3] at h; exact absurd h c3
  exact ⟨by omega, by omega, by omega⟩
/-- the last number of a lamp is asked from the first one on, 0 after a fault -/
theorem ln8_s {hn : Nat → Int32} {a : Nat} (h : a ≠ 6) : ln8 n T p hn m a = sxN n T (if (sxN n T 0 11 (stG n T (sxA n T hn m (0, tkE n T p)))).1 = 0 then tkV n T (stG n T (sxA n T hn m (0, tkE n T p))).2 else 0) 11 (sxN n T 0 11 (stG n T (sxA n T hn m (0, tkE n T p)))) := by
  unfold ln8
  rw [if_neg h, sA_G]
  by_cases c : nhF hn m n T (tkE n T p) = 0
  · rw [if_neg (by omega), if_pos c, sN_0]
    by_cases c2 : nuF 0 11 n T (tkE n T (tkE n T p)) = 0
    · rw [if_neg (by omega), if_pos c2, if_pos rfl, sN_0]
      by_cases c3 : nuF (tkV n T (tkE n T (tkE n T p))) 11 n T (tkE n T (tkE n T (tkE n T p))) = 0
      · rw [if_neg (by omega), if_pos c3]
      · rw [if_pos c3, if_neg c3]
    · rw [if_pos c2, if_neg c2, sN_ne c2]
  · rw [if_pos c, if_neg c, sN_ne c, sN_ne c]
theorem nuF_9 : nuF lo hi n T q ≤ 2 := by unfold nuF; split; omega; split <;> omega
end
section
variable {d N : Nat} {Q : Value → am_H → Prop} {r : am_rho} {I Z : Nat → Nat → Int32} {J : Nat → Nat → Int64} {n p ln : Nat} {T : Nat → Nat} {v : Int32}
/-- a line's good end -/
def lnG (N : Nat) (r : am_rho) (J : Nat → Nat → Int64) (Q : Value → am_H → Prop) (I : Nat → Nat → Int32) (n : Nat) (T : Nat → Nat) (ln : Nat) (Z' : Nat → Nat → Int32) (o : Nat × Nat) : Prop := ∀ v' I', o.1 = 0 → tkK n T o.2 = 27 → tvm n T (tkE n T o.2) v' → frm I I' → mV I' Z' → (∀ k, 33 ≤ k → I' 93 k = I 93 k) → I' 93 24 = I 93 24 → I' 93 25 = nI (ln + 1) → Q .null (am_hp N r (mS I' n T (0, tkE n T o.2) v') J)
theorem frm_up {a k : Nat} {x : Int32} (h : 95 ≤ a ∧ a ≤ 115) (hk : hfz a ≤ k) : frm I (am_u I a k x) := frm_u (Or.inl ⟨h.1, h.2, hk⟩)
/-- the end of a line, from its last state -/
theorem md_end {w : Nat} {o : Nat × Nat} {o2 o3 o4 o5 : Option Int32} {X Z' : Nat → Nat → Int32} (hx : txm I n T) (fr : frm I X) (hb : o.2 ≤ n ∧ o.1 ≤ 9) (hv : tvm n T o.2 v) (hln : I 93 25 = nI ln) (h93 : X 93 = I 93) (hF : lnE N r J Q I n T o) (hS : lnG N r J Q I n T ln Z' o) (hm : o.1 = 0 → mV X Z') :
    am_V (d + 7) Q 182 462 [some (.ref 93), some (.int (nI w)), am_oi o2, am_oi o3, am_oi o4, am_oi o5] [] (am_hp N r (mS X n T o v) J) := by
  refine md_462 (ln := ln) (txm_f hx fr) hb.1 hb.2 hv (by rw [h93]; exact hln) (lnE_f hF fr) ?_
  intro v2 e0 e27 hv2
  refine hS v2 _ e0 e27 hv2 (frm_tr fr (frm_u (by omega))) (mV_o (by omega) (hm e0)) ?_ ?_ ?_
  · intro k hk; rw [am_uN (by omega), h93]
  · rw [am_uN (by omega), h93]
  · rw [am_uE]
theorem md_sleeper (hx : txm I n T) (hz : zok Z) (hV : mV I Z) (hz5 : m_nZ Z ≠ 5) (hp : tkE n T p ≤ n) (hv : tvm n T (tkE n T p) v) (hln : I 93 25 = nI ln)
    (hF : lnE N r J Q I n T (ln6 n T p (Z 96) (Z 103) (m_nH Z) (m_nZ Z)))
    (hS : lnG N r J Q I n T ln (z6 (m_nZ Z) (tkN n T (tkE n T p)) (nhI (Z 96) (m_nH Z) n T (tkE n T (tkE n T p))) (tkV n T (tkE n T (tkE n T (tkE n T p)))) (nhI (Z 96) (m_nH Z) n T (tkE n T (tkE n T (tkE n T (tkE n T p))))) Z) (ln6 n T p (Z 96) (Z 103) (m_nH Z) (m_nZ Z))) :
    am_V (d + 10) Q 182 90 [some (.ref 93), some (.int (nI 2)), none, none, none, none] [] (am_hp N r (mS I n T (0, tkE n T p) v) J) := by
  have h7 := hx.1.1
  obtain ⟨⟨⟨z0, z0'⟩, _, ⟨z2, z2'⟩, _⟩, _⟩ := hz
  have f0 : I 95 7 = nI (m_nH Z) := by rw [← z0]; exact hV 95 0 (by omega) (by omega) (show 0 < 7 by omega)
  have f2 : I 95 9 = nI (m_nZ Z) := by rw [← z2]; exact hV 95 2 (by omega) (by omega) (show 2 < 7 by omega)
  have hn : ∀ k, k < m_nH Z → I 96 (8 + k) = Z 96 k := fun k hk => hV 96 k (by omega) (by omega) (show k < 8 by omega)
  have zn : ∀ k, k < m_nZ Z → I 103 (5 + k) = Z 103 k := fun k hk => hV 103 k (by omega) (by omega) (show k < 5 by omega)
  have o0 : (0, tkE n T p).1 ≤ 9 := Nat.zero_le _
  rw [e_M_line_90, am_ifd, if_neg (by decide +kernel), am_ifd, if_neg (by decide +kernel), am_ifd, if_pos rfl, md_fresher (by omega), am_asIe, e_M_line_227, md_fresher (by omega), am_asIe, e_M_line_245, show 7 + 2 = 9 from rfl, f2, nI_add]
  refine md_fresh (d := d + 2) (la := 10) (m := m_nZ Z) hx (by rfl) (by omega) (by omega) (by omega) hp o0 hv ?_
  rw [sxF_c zn]
  intro v1 x1 hv1 hx1
  have b1 := sxF_b (T := T) (f := Z 103) (m := m_nZ Z) (o := (0, tkE n T p)) h7 hp o0
  rw [am_asIe, e_M_line_248, am_gI (by omega) (by omega), nI_clamp (by omega), mS_u (by omega)]
  have fr1 : frm I (am_u I 103 (5 + m_nZ Z) x1) := frm_up (by omega) (by show 5 ≤ _; omega)
  refine md_houseAhead (d := d + 1) (m := m_nH Z) (txm_f hx fr1) (by rw [am_uN (by omega)]; exact f0) z0' b1.1 b1.2 hv1 ?_
  rw [show (fun k => am_u I 103 (5 + m_nZ Z) x1 96 (8 + k)) = (fun k => I 96 (8 + k)) from funext fun k => am_uN (by omega), sxA_c hn, nh_c hn]
  intro v2 hv2
  have b2a := sxA_b (T := T) (f := Z 96) (m := m_nH Z) b1.1 b1.2
  have b2 := stG_b (T := T) h7 b2a.1 b2a.2
  generalize hans2 : (if (sxA n T (Z 96) (m_nH Z) (sxF n T (Z 103) (m_nZ Z) (0, tkE n T p))).1 = 0 then nhI (Z 96) (m_nH Z) n T (sxF n T (Z 103) (m_nZ Z) (0, tkE n T p)).2 else 0) = a2
  rw [am_asIe, e_M_line_258, am_gI (by omega) (by omega), nI_clamp (by omega), mS_u (by omega)]
  have fr2 : frm I (am_u (am_u I 103 (5 + m_nZ Z) x1) 104 (5 + m_nZ Z) (nI a2)) := frm_tr fr1 (frm_up (by omega) (by show 5 ≤ _; omega))
  refine md_numeral (d := d + 2) (txm_f hx fr2) b2.1 b2.2 hv2 (by omega) (by omega) ?_
  intro v3 hv3
  have b3 := sxN_b (T := T) (lo := 0) (hi := 9) h7 b2.1 b2.2
  generalize hans3 : (if (sxN n T 0 9 (stG n T (sxA n T (Z 96) (m_nH Z) (sxF n T (Z 103) (m_nZ Z) (0, tkE n T p))))).1 = 0 then tkV n T (stG n T (sxA n T (Z 96) (m_nH Z) (sxF n T (Z 103) (m_nZ Z) (0, tkE n T p)))).2 else 0) = a3
  rw [am_asIe, e_M_line_271, am_gI (by omega) (by omega), nI_clamp (by omega), mS_u (by omega)]
  have fr3 : frm I (am_u (am_u (am_u I 103 (5 + m_nZ Z) x1) 104 (5 + m_nZ Z) (nI a2)) 105 (5 + m_nZ Z) (nI a3)) := frm_tr fr2 (frm_up (by omega) (by show 5 ≤ _; omega))
  refine md_houseAhead (d := d + 1) (m := m_nH Z) (txm_f hx fr3) (by rw [am_uN (by omega), am_uN (by omega), am_uN (by omega)]; exact f0) z0' b3.1 b3.2 hv3 ?_
  rw [show (fun k => am_u (am_u (am_u I 103 (5 + m_nZ Z) x1) 104 (5 + m_nZ Z) (nI a2)) 105 (5 + m_nZ Z) (nI a3) 96 (8 + k)) = (fun k => I 96 (8 + k)) from funext fun k => by rw [am_uN (by omega), am_uN (by omega), am_uN (by omega)], sxA_c hn, nh_c hn]
  intro v4 hv4
  have b4a := sxA_b (T := T) (f := Z 96) (m := m_nH Z) b3.1 b3.2
  have b4 := stG_b (T := T) h7 b4a.1 b4a.2
  generalize hans4 : (if (sxA n T (Z 96) (m_nH Z) (sxN n T 0 9 (stG n T (sxA n T (Z 96) (m_nH Z) (sxF n T (Z 103) (m_nZ Z) (0, tkE n T p)))))).1 = 0 then nhI (Z 96) (m_nH Z) n T (sxN n T 0 9 (stG n T (sxA n T (Z 96) (m_nH Z) (sxF n T (Z 103) (m_nZ Z) (0, tkE n T p))))).2 else 0) = a4
  rw [am_asIe, e_M_line_281, am_gI (by omega) (by omega), nI_clamp (by omega), mS_u (by omega), md_fresher (by omega), am_asIe, e_M_line_289, md_reads (by omega), e_M_line_294, show (am_u (am_u (am_u (am_u I 103 (5 + m_nZ Z) x1) 104 (5 + m_nZ Z) (nI a2)) 105 (5 + m_nZ Z) (nI a3)) 106 (5 + m_nZ Z) (nI a4)) 95 (7 + 2) = nI (m_nZ Z) by rw [am_uN (by omega), am_uN (by omega), am_uN (by omega), am_uN (by omega)]; exact f2, nI_add]
  rw [← ln6_s hz5] at b4 hv4 ⊢
  refine md_end (d := d + 3) (ln := ln) (Z' := z6 (m_nZ Z) (tkN n T (tkE n T p)) (nhI (Z 96) (m_nH Z) n T (tkE n T (tkE n T p))) (tkV n T (tkE n T (tkE n T (tkE n T p)))) (nhI (Z 96) (m_nH Z) n T (tkE n T (tkE n T (tkE n T (tkE n T p))))) Z) hx (frm_tr fr3 (frm_tr (frm_up (by omega) (by show 5 ≤ _; omega)) (frm_up (by omega) (by show 7 ≤ _; omega)))) b4 hv4 hln (by rw [am_uRow (by omega), am_uRow (by omega), am_uRow (by omega), am_uRow (by omega), am_uRow (by omega)]) hF hS ?_
  intro e0
  obtain ⟨c1, c2, c3, c4⟩ := ln6_0 e0
  rw [sF_ok c1, sA_ok c2, if_pos rfl] at hans2
  rw [sF_ok c1, sA_ok c2, sG_ok, sN_ok c3, if_pos rfl] at hans3
  rw [sF_ok c1, sA_ok c2, sG_ok, sN_ok c3, sA_ok c4, if_pos rfl] at hans4
  have hxe := hx1 (by rw [sF_ok c1])
  have k5 : m_nZ Z < 5 := by omega
  unfold z6
  rw [← hans2, ← hans3, ← hans4, hxe]
  exact mV_u (k := 2) (by omega) (by decide) (mV_u (k := m_nZ Z) (by omega) k5 (mV_u (k := m_nZ Z) (by omega) k5 (mV_u (k := m_nZ Z) (by omega) k5 (mV_u (k := m_nZ Z) (by omega) k5 hV))))
end
