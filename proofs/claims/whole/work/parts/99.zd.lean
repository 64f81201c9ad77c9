/-! ===== L3: the model's lines, 2 ===== -/
section
variable {n p : Nat} {T : Nat → Nat}
theorem ln4_s {hn : Nat → Int32} {m : Nat} (h : m ≠ 8) : ln4 n T p hn m = sxF n T hn m (0, tkE n T p) := by
  unfold ln4 sxF
  rw [if_neg h, if_pos rfl]
  by_cases c : nfF hn m n T (tkE n T p) = 0
  · rw [if_neg (by omega), if_pos c]
  · rw [if_pos c, if_neg c]
theorem sA_G {f : Nat → Int32} {m q : Nat} : stG n T (sxA n T f m (0, q)) = if nhF f m n T q = 0 then (0, tkE n T q) else (nhF f m n T q, q) := by
  unfold stG sxA
  rw [if_pos rfl]
theorem sG_ne {f q : Nat} (h : f ≠ 0) : stG n T (f, q) = (f, q) := if_neg h
theorem sA_ne {g : Nat → Int32} {m f q : Nat} (h : f ≠ 0) : sxA n T g m (f, q) = (f, q) := if_neg h
theorem sN_ne {lo hi f q : Nat} (h : f ≠ 0) : sxN n T lo hi (f, q) = (f, q) := if_neg h
theorem sN_0 {lo hi q : Nat} : sxN n T lo hi (0, q) = if nuF lo hi n T q = 0 then (0, tkE n T q) else (nuF lo hi n T q, q) := by unfold sxN; rw [if_pos rfl]
theorem sF_0 {f : Nat → Int32} {m q : Nat} : sxF n T f m (0, q) = if nfF f m n T q = 0 then (0, tkE n T q) else (nfF f m n T q, q) := by unfold sxF; rw [if_pos rfl]
theorem ln6_s {hn zn : Nat → Int32} {m z : Nat} (h : z ≠ 5) : ln6 n T p hn zn m z = stG n T (sxA n T hn m (sxN n T 0 9 (stG n T (sxA n T hn m (sxF n T zn z (0, tkE n T p)))))) := by
  unfold ln6
  rw [if_neg h, sF_0]
  by_cases c : nfF zn z n T (tkE n T p) = 0
  · rw [if_neg (by omega), if_pos c, sA_G]
    by_cases c2 : nhF hn m n T (tkE n T (tkE n T p)) = 0
    · rw [if_neg (by omega), if_pos c2, sN_0]
      by_cases c3 : nuF 0 9 n T (tkE n T (tkE n T (tkE n T p))) = 0
      · rw [if_neg (by omega), if_pos c3, sA_G]
        by_cases c4 : nhF hn m n T (tkE n T (tkE n T (tkE n T (tkE n T p)))) = 0
        · rw [if_neg (by omega), if_pos c4]
        · rw [if_pos c4, if_neg c4]
      · rw [if_pos c3, if_neg c3, sA_ne c3, sG_ne c3]
    · rw [if_pos c2, if_neg c2, sN_ne c2, sA_ne c2, sG_ne c2]
  · rw [if_pos c, if_neg c, sA_ne c, sG_ne c, sN_ne c, sA_ne c, sG_ne c]
theorem ln7_s {hn zn : Nat → Int32} {m z l : Nat} (h : l ≠ 8) : ln7 n T p hn zn m z l = stG n T (sxA n T hn m (stG n T (sxA n T zn z (0, tkE n T p)))) := by
  unfold ln7
  rw [if_neg h, sA_G]
  by_cases c : nhF zn z n T (tkE n T p) = 0
  · rw [if_neg (by omega), if_pos c, sA_G]
    by_cases c2 : nhF hn m n T (tkE n T (tkE n T p)) = 0
    · rw [if_neg (by omega), if_pos c2]
    · rw [if_pos c2, if_neg c2]
  · rw [if_pos c, if_neg c, sA_ne c, sG_ne c]
theorem ln12_s {sd : Bool} (h : sd ≠ true) : ln12 n T p sd = sxN n T 0 99999 (0, tkE n T p) := by
  unfold ln12
  rw [if_neg h, sN_0]
  by_cases c : nuF 0 99999 n T (tkE n T p) = 0
  · rw [if_neg (by omega), if_pos c]
  · rw [if_pos c, if_neg c]
end
section
variable {n : Nat} {T : Nat → Nat} {o : Nat × Nat} {m lo hi : Nat} {f : Nat → Int32}
theorem stG_b (h7 : n ≤ 700) (ho : o.2 ≤ n) (h9 : o.1 ≤ 9) : (stG n T o).2 ≤ n ∧ (stG n T o).1 ≤ 9 := by
  unfold stG
  split
  · exact ⟨(tk_pos h7 ho).2.2.1, Nat.zero_le _⟩
  · exact ⟨ho, h9⟩
theorem sxA_b (ho : o.2 ≤ n) (h9 : o.1 ≤ 9) : (sxA n T f m o).2 ≤ n ∧ (sxA n T f m o).1 ≤ 9 := ⟨by rw [sxA_2]; exact ho, sxA_9 h9⟩
theorem sxN_b (h7 : n ≤ 700) (ho : o.2 ≤ n) (h9 : o.1 ≤ 9) : (sxN n T lo hi o).2 ≤ n ∧ (sxN n T lo hi o).1 ≤ 9 := by
  unfold sxN
  split
  · split
    · exact ⟨(tk_pos h7 ho).2.2.1, Nat.zero_le _⟩
    · refine ⟨ho, ?_⟩
      show nuF lo hi n T o.2 ≤ 9
      unfold nuF; split; omega; split <;> omega
  · exact ⟨ho, h9⟩
theorem sxF_b (h7 : n ≤ 700) (ho : o.2 ≤ n) (h9 : o.1 ≤ 9) : (sxF n T f m o).2 ≤ n ∧ (sxF n T f m o).1 ≤ 9 := by
  unfold sxF
  split
  · split
    · exact ⟨(tk_pos h7 ho).2.2.1, Nat.zero_le _⟩
    · refine ⟨ho, ?_⟩
      show nfF f m n T o.2 ≤ 9
      unfold nfF; split; omega; split <;> omega
  · exact ⟨ho, h9⟩
end
section
variable {d N : Nat} {Q : Value → am_H → Prop} {r : am_rho} {I Z : Nat → Nat → Int32} {J : Nat → Nat → Int64} {n p ln : Nat} {T : Nat → Nat} {v : Int32}
theorem hfy_u {a k b : Nat} {x : Int32} (h6 : a ≠ 95 ∨ k ≠ 6) : hfy (am_u Z a k x) b = hfy Z b := by
  unfold hfy m_kn
  rw [am_uN (by omega)]
theorem mV_u {a k : Nat} {x : Int32} (ha : 95 ≤ a ∧ a ≤ 115) (hk : k < hfz a) (h : mV I Z) (h6 : a ≠ 95 ∨ k ≠ 6 := by omega) : mV (am_u I a (hfz a + k) x) (am_u Z a k x) := by
  intro b j h1 h2 h3
  rw [hfy_u h6] at h3
  by_cases e : b = a ∧ j = k
  · obtain ⟨rfl, rfl⟩ := e
    rw [am_uE, am_uE]
  · by_cases e2 : b = a
    · subst e2
      rw [am_uN (by omega), am_uN (by omega)]; exact h b j h1 h2 h3
    · rw [am_uN (by omega), am_uN (by omega)]; exact h b j h1 h2 h3
theorem mV_o {a k : Nat} {x : Int32} (ha : ¬ (95 ≤ a ∧ a ≤ 115)) (h : mV I Z) : mV (am_u I a k x) Z := by
  intro b j h1 h2 h3
  rw [am_uN (by omega)]; exact h b j h1 h2 h3
/-- how a line may end -/
def lnE (N : Nat) (r : am_rho) (J : Nat → Nat → Int64) (Q : Value → am_H → Prop) (I : Nat → Nat → Int32) (n : Nat) (T : Nat → Nat) (o : Nat × Nat) : Prop := ∀ f I' v', (o.1 ≠ 0 ∧ f = o.1) ∨ (o.1 = 0 ∧ tkK n T o.2 ≠ 27 ∧ f = 1) → frm I I' → Q .null (am_hp N r (mS I' n T (f, o.2) v') J)
theorem lnE_f {o : Nat × Nat} {X : Nat → Nat → Int32} (h : lnE N r J Q I n T o) (k : frm I X) : lnE N r J Q X n T o := fun f I' v' g1 g2 => h f I' v' g1 (frm_tr k g2)
theorem md_house (hx : txm I n T) (hz : zok Z) (hV : mV I Z) (hm8 : m_nH Z ≠ 8) (hp : tkE n T p ≤ n) (hv : tvm n T (tkE n T p) v) (hln : I 93 25 = nI ln)
    (hF : lnE N r J Q I n T (ln4 n T p (Z 96) (m_nH Z)))
    (hS : ∀ v' I', (ln4 n T p (Z 96) (m_nH Z)).1 = 0 → tkK n T (ln4 n T p (Z 96) (m_nH Z)).2 = 27 → tvm n T (tkE n T (ln4 n T p (Z 96) (m_nH Z)).2) v' → frm I I' → mV I' (z4 (m_nH Z) (tkN n T (tkE n T p)) Z) → (∀ k, 33 ≤ k → I' 93 k = I 93 k) → I' 93 24 = I 93 24 → I' 93 25 = nI (ln + 1) → Q .null (am_hp N r (mS I' n T (0, tkE n T (ln4 n T p (Z 96) (m_nH Z)).2) v') J)) :
    am_V (d + 9) Q 182 90 [some (.ref 93), some (.int (nI 0)), none, none, none, none] [] (am_hp N r (mS I n T (0, tkE n T p) v) J) := by
  have h7 := hx.1.1
  obtain ⟨⟨⟨z0, z0'⟩, _⟩, _⟩ := hz
  have f0 : I 95 7 = nI (m_nH Z) := by rw [← z0]; exact hV 95 0 (by omega) (by omega) (show 0 < 7 by omega)
  have hn : ∀ k, k < m_nH Z → I 96 (8 + k) = Z 96 k := fun k hk => hV 96 k (by omega) (by omega) (show k < 8 by omega)
  rw [e_M_line_90, am_ifd, if_pos rfl, md_fresher (by omega), am_asIe, e_M_line_147, md_fresher (by omega), am_asIe, e_M_line_166, show 7 + 0 = 7 from rfl, f0, nI_add]
  refine md_fresh (la := 16) (m := m_nH Z) hx (by rfl) (by omega) (by omega) (by omega) hp (by show 0 ≤ 9; omega) hv ?_
  intro v' x hv' hxx
  have hsx : sxF n T (fun k => I 96 (8 + k)) (m_nH Z) (0, tkE n T p) = ln4 n T p (Z 96) (m_nH Z) := by
    rw [ln4_s hm8]
    unfold sxF
    rw [if_pos rfl, if_pos rfl, nfF_c hn]
  rw [hsx] at hv' hxx ⊢
  have hb := sxF_b (T := T) (f := fun k => I 96 (8 + k)) (m := m_nH Z) (o := (0, tkE n T p)) h7 hp (by show 0 ≤ 9; omega)
  rw [hsx] at hb
  rw [am_asIe, e_M_line_169, am_gI (by omega) (by omega), am_gI (by omega) (by omega), am_gI (by omega) (by omega), am_gI (by omega) (by omega), nI_clamp (by omega), mS_u (by omega), mS_u (by omega), mS_u (by omega), mS_u (by omega), md_fresher (by omega), am_asIe, e_M_line_198, md_reads (by omega), e_M_line_203]
  rw [show (am_u (am_u (am_u (am_u I 96 (8 + m_nH Z) x) 97 (8 + m_nH Z) (nI 0)) 98 (8 + m_nH Z) (nI 0)) 99 (8 + m_nH Z) (nI 0)) 95 (7 + 0) = nI (m_nH Z) by rw [am_uN (by omega), am_uN (by omega), am_uN (by omega), am_uN (by omega)]; exact f0, nI_add]
  have fr : frm I (am_u (am_u (am_u (am_u (am_u I 96 (8 + m_nH Z) x) 97 (8 + m_nH Z) (nI 0)) 98 (8 + m_nH Z) (nI 0)) 99 (8 + m_nH Z) (nI 0)) 95 (7 + 0) (nI (m_nH Z + 1))) := frm_tr (frm_u (Or.inl ⟨by omega, by omega, by show 8 ≤ _; omega⟩)) (frm_tr (frm_u (Or.inl ⟨by omega, by omega, by show 8 ≤ _; omega⟩)) (frm_tr (frm_u (Or.inl ⟨by omega, by omega, by show 8 ≤ _; omega⟩)) (frm_tr (frm_u (Or.inl ⟨by omega, by omega, by show 8 ≤ _; omega⟩)) (frm_u (Or.inl ⟨by omega, by omega, by show 7 ≤ _; omega⟩)))))
  refine md_462 (d := d + 2) (ln := ln) (txm_f hx fr) hb.1 hb.2 hv' (by rw [am_uN (by omega), am_uN (by omega), am_uN (by omega), am_uN (by omega), am_uN (by omega)]; exact hln) (lnE_f hF fr) ?_
  intro v2 e0 e27 hv2
  refine hS v2 _ e0 e27 hv2 (frm_tr fr (frm_u (by omega))) ?_ ?_ ?_ ?_
  · unfold z4
    rw [hxx e0]
    exact mV_o (by omega) (mV_u (k := 0) (by omega) (by decide) (mV_u (k := m_nH Z) (by omega) (show m_nH Z < 8 by omega) (mV_u (k := m_nH Z) (by omega) (show m_nH Z < 8 by omega) (mV_u (k := m_nH Z) (by omega) (show m_nH Z < 8 by omega) (mV_u (k := m_nH Z) (by omega) (show m_nH Z < 8 by omega) hV)))))
  · intro k hk
    rw [am_uN (by omega), am_uN (by omega), am_uN (by omega), am_uN (by omega), am_uN (by omega), am_uN (by omega)]
  · rw [am_uN (by omega), am_uN (by omega), am_uN (by omega), am_uN (by omega), am_uN (by omega), am_uN (by omega)]
  · rw [am_uE]
end
