/-! ===== L3: the model's lines, 5 ===== -/
section
variable {n p q m lo hi z l s : Nat} {T : Nat → Nat} {o : Nat × Nat} {f g : Nat → Int32}
def sx5 (wy : Nat → Nat → Bool) (x y : Nat) (o : Nat × Nat) : Nat × Nat := if o.1 = 0 then (if wy x y = true then (3, o.2) else if x = y then (5, o.2) else o) else o
theorem sxA_z (h : (sxA n T f m o).1 = 0) : o.1 = 0 ∧ nhF f m n T o.2 = 0 := by
  unfold sxA at h
  by_cases c : o.1 = 0
  · rw [if_pos c] at h; exact ⟨c, h⟩
  · rw [if_neg c] at h; exact absurd h c
theorem sx5_b {wy : Nat → Nat → Bool} {x y : Nat} (ho : o.2 ≤ n) (h9 : o.1 ≤ 9) : (sx5 wy x y o).2 ≤ n ∧ (sx5 wy x y o).1 ≤ 9 := by
  unfold sx5
  split
  · split
    · exact ⟨ho, by show 3 ≤ 9; omega⟩
    · split
      · exact ⟨ho, by show 5 ≤ 9; omega⟩
      · exact ⟨ho, h9⟩
  · exact ⟨ho, h9⟩
theorem sx5_2 {wy : Nat → Nat → Bool} {x y : Nat} : (sx5 wy x y o).2 = o.2 := by
  unfold sx5
  split
  · split
    · rfl
    · split <;> rfl
  · rfl
theorem sx5_ne {wy : Nat → Nat → Bool} {x y f q : Nat} (h : f ≠ 0) : sx5 wy x y (f, q) = (f, q) := if_neg h
theorem ln5_s {hn : Nat → Int32} {wy : Nat → Nat → Bool} {x y : Nat} (h : s ≠ 12) (hxx : ∀ x, x < m → wy x x = false) (hx : nhF hn m n T (tkE n T p) = 0 → x = nhI hn m n T (tkE n T p)) (hy : nhF hn m n T (tkE n T p) = 0 → nhF hn m n T (tkE n T (tkE n T p)) = 0 → y = nhI hn m n T (tkE n T (tkE n T p))) : ln5 n T p hn m s wy = sxN n T 1 9 (stG n T (sx5 wy x y (sxA n T hn m (stG n T (sxA n T hn m (0, tkE n T p)))))) := by
  unfold ln5
  rw [if_neg h, sA_G]
  by_cases c : nhF hn m n T (tkE n T p) = 0
  · rw [if_neg (by omega), if_pos c]
    have hx' := hx c
    by_cases c2 : nhF hn m n T (tkE n T (tkE n T p)) = 0
    · have hy' := hy c c2
      have gx := nhF_lt c
      rw [if_neg (by omega), sA_ok c2, ← hx', ← hy']
      have e : sx5 wy x y (0, tkE n T (tkE n T p)) = if wy x y = true then (3, tkE n T (tkE n T p)) else if x = y then (5, tkE n T (tkE n T p)) else (0, tkE n T (tkE n T p)) := if_pos rfl
      rw [e]
      by_cases c3 : x = y
      · have hw : wy x y = false := by rw [← c3]; exact hxx x (by omega)
        rw [if_pos c3, hw, if_neg (by simp), if_pos c3, sG_ne (by omega), sN_ne (by omega)]
      · rw [if_neg c3]
        by_cases c4 : wy x y = true
        · rw [if_pos c4, if_pos c4, sG_ne (by omega), sN_ne (by omega)]
        · rw [if_neg c4, if_neg c4, if_neg c3, sG_ok, sN_0]
          by_cases c5 : nuF 1 9 n T (tkE n T (tkE n T (tkE n T p))) = 0
          · rw [if_neg (by omega), if_pos c5]
          · rw [if_pos c5, if_neg c5]
    · have e : sxA n T hn m (0, tkE n T (tkE n T p)) = (nhF hn m n T (tkE n T (tkE n T p)), tkE n T (tkE n T p)) := by unfold sxA; rw [if_pos rfl]
      rw [if_pos c2, e, sx5_ne c2, sG_ne c2, sN_ne c2]
  · rw [if_pos c, if_neg c, sA_ne c, sx5_ne c, sG_ne c, sN_ne c]
theorem ln5_0 {hn : Nat → Int32} {wy : Nat → Nat → Bool} (h : (ln5 n T p hn m s wy).1 = 0) : nhF hn m n T (tkE n T p) = 0 ∧ nhF hn m n T (tkE n T (tkE n T p)) = 0 ∧ nhI hn m n T (tkE n T p) ≠ nhI hn m n T (tkE n T (tkE n T p)) ∧ wy (nhI hn m n T (tkE n T p)) (nhI hn m n T (tkE n T (tkE n T p))) = false ∧ nuF 1 9 n T (tkE n T (tkE n T (tkE n T p))) = 0 := by
  unfold ln5 at h
  by_cases c0 : s = 12
  · rw [if_pos c0] at h; exact absurd (show (2 : Nat) = 0 from h) (by omega)
  rw [if_neg c0] at h
  by_cases c1 : nhF hn m n T (tkE n T p) ≠ 0
  · rw [if_pos c1] at h; exact absurd h c1
  rw [if_neg c1] at h
  by_cases c2 : nhF hn m n T (tkE n T (tkE n T p)) ≠ 0
  · rw [if_pos c2] at h; exact absurd h c2
  rw [if_neg c2] at h
  by_cases c3 : nhI hn m n T (tkE n T p) = nhI hn m n T (tkE n T (tkE n T p))
  · rw [if_pos c3] at h; exact absurd (show (5 : Nat) = 0 from h) (by omega)
  rw [if_neg c3] at h
  by_cases c4 : wy (nhI hn m n T (tkE n T p)) (nhI hn m n T (tkE n T (tkE n T p))) = true
  · rw [if_pos c4] at h; exact absurd (show (3 : Nat) = 0 from h) (by omega)
  rw [if_neg c4] at h
  by_cases c5 : nuF 1 9 n T (tkE n T (tkE n T (tkE n T p))) ≠ 0
  · rw [if_pos c5] at h; exact absurd h c5
  exact ⟨by omega, by omega, c3, ts_ne c4, by omega⟩
end
section
variable {d N : Nat} {Q : Value → am_H → Prop} {r : am_rho} {I Z : Nat → Nat → Int32} {J : Nat → Nat → Int64} {n p ln : Nat} {T : Nat → Nat} {v : Int32}
theorem md_catL (hx : txm I n T) (hz : zok Z) (hV : mV I Z) (hp : tkE n T p ≤ n) (hv : tvm n T (tkE n T p) v)
    (hQ : ∀ X v', frm I X → X 93 = I 93 → tvm n T (ln10 n T p (Z 96) (m_nH Z) (fun h => decide (¬ Z 98 h ≤ nI 0))).2 v' → ((ln10 n T p (Z 96) (m_nH Z) (fun h => decide (¬ Z 98 h ≤ nI 0))).1 = 0 → mV X (am_u Z 98 (nhI (Z 96) (m_nH Z) n T (tkE n T p)) (nI 1))) → Q .null (am_hp N r (mS X n T (ln10 n T p (Z 96) (m_nH Z) (fun h => decide (¬ Z 98 h ≤ nI 0))) v') J)) :
    am_D (d + 10) 185 [.ref 93] (am_hp N r (mS I n T (0, tkE n T p) v) J) Q := by
  have h7 := hx.1.1
  obtain ⟨⟨⟨z0, z0'⟩, _⟩, _⟩ := hz
  have f0 : I 95 7 = nI (m_nH Z) := by rw [← z0]; exact hV 95 0 (by omega) (by omega) (show 0 < 7 by omega)
  have hn : ∀ k, k < m_nH Z → I 96 (8 + k) = Z 96 k := fun k hk => hV 96 k (by omega) (by omega) (show k < 8 by omega)
  have ra : ∀ k, k < m_nH Z → I 98 (8 + k) = Z 98 k := fun k hk => hV _ k (by omega) (by omega) (show k < 8 by omega)
  have o0 : (0, tkE n T p).1 ≤ 9 := Nat.zero_le _
  rw [e_M_catLine]
  refine md_houseAtHand (d := d + 6) (m := m_nH Z) hx f0 z0' hp o0 hv ?_
  rw [sxA_c hn, nh_c hn]
  have b1 := sxA_b (T := T) (f := Z 96) (m := m_nH Z) (o := (0, tkE n T p)) hp o0
  rw [am_asIe, e_M_catLine_4, mS_31, am_ifni (nI_eq (by omega) (by omega))]
  have es := ln10_s (n := n) (T := T) (p := p) (m := m_nH Z) (hn := Z 96) (lw := fun h => decide (¬ Z 98 h ≤ nI 0))
  by_cases c : (sxA n T (Z 96) (m_nH Z) (0, tkE n T p)).1 = 0
  · have c1 : nhF (Z 96) (m_nH Z) n T (tkE n T p) = 0 := by
      unfold sxA at c; rw [if_pos rfl] at c; exact c
    have gh := nhF_lt c1
    rw [sA_ok c1] at es
    rw [if_pos c, if_pos c]
    show am_g (am_inb (nI 8 + nI (nhI (Z 96) (m_nH Z) n T (tkE n T p))) 16) _
    rw [nI_add, am_gI (by omega) (by omega), nI_clamp (by omega), mS_o (by omega), ra _ gh, am_ifd, sA_ok c1]
    by_cases c2 : Z 98 (nhI (Z 96) (m_nH Z) n T (tkE n T p)) ≤ nI 0
    · have e : sxL (decide (¬ Z 98 (nhI (Z 96) (m_nH Z) n T (tkE n T p)) ≤ nI 0)) (0, tkE n T p) = (0, tkE n T p) := if_neg (fun g => by have := g.2; rw [decide_eq_false (fun k => k c2)] at this; cases this)
      rw [e, sG_ok] at es
      rw [es] at hQ
      rw [if_pos c2, e_M_catLine_29, mS_31, am_ifi (nI_eq (by omega) (by omega)), if_pos rfl]
      show am_g (am_inb (nI 8 + nI (nhI (Z 96) (m_nH Z) n T (tkE n T p))) 16) _
      rw [nI_add, am_gI (by omega) (by omega), nI_clamp (by omega), mS_u (by omega)]
      refine md_tok (d := d + 2) (txm_f hx (frm_up (by omega) (by show 8 ≤ _; omega))) hp ?_
      intro v2 hv2
      rw [e_M_catLine_51]
      exact hQ _ v2 (frm_up (by omega) (by show 8 ≤ _; omega)) (by rw [am_uRow (by omega)]) hv2 (fun _ => mV_u (k := nhI (Z 96) (m_nH Z) n T (tkE n T p)) (by omega) (show _ < 8 by omega) hV)
    · have e : sxL (decide (¬ Z 98 (nhI (Z 96) (m_nH Z) n T (tkE n T p)) ≤ nI 0)) (0, tkE n T p) = (3, tkE n T p) := if_pos ⟨rfl, decide_eq_true c2⟩
      rw [e, sG_ne (by omega)] at es
      rw [es] at hQ
      rw [if_neg c2, md_wrong (by omega) (by show 0 ≤ 9; omega), e_M_catLine_29]
      show am_if (decide (mS I n T (3, tkE n T p) v 93 31 = nI 0)) _ _
      rw [mS_31, am_ifi (nI_eq (by omega) (by omega)), if_neg (by show ¬ (3 : Nat) = 0; omega)]
      exact hQ I v frm_re rfl hv (fun g => absurd (show (3 : Nat) = 0 from g) (by omega))
  · have e1 : sxA n T (Z 96) (m_nH Z) (0, tkE n T p) = (nhF (Z 96) (m_nH Z) n T (tkE n T p), tkE n T p) := by unfold sxA; rw [if_pos rfl]
    rw [e1] at c b1
    have c' : nhF (Z 96) (m_nH Z) n T (tkE n T p) ≠ 0 := c
    have b9 : nhF (Z 96) (m_nH Z) n T (tkE n T p) ≤ 9 := b1.2
    rw [e1, sL_ne c', sG_ne c'] at es
    rw [es] at hQ
    rw [e1, if_neg c, e_M_catLine_29, mS_31, am_ifi (nI_eq (by omega) (by omega)), if_neg c]
    exact hQ I v frm_re rfl hv (fun g => absurd g c')
/-- the streets told, one by one -/
theorem md_st14 {s x y q : Nat} (hs : s ≤ 12) (hx8 : x < 8) (hy8 : y < 8) (r0 : ∀ k, k < s → I 100 (12 + k) = Z 100 k ∧ I 101 (12 + k) = Z 101 k) (hsZ : m_nS Z = s)
    (hR : ∀ x4, am_V (d + 1) Q 183 99 [some (.ref 93), some (.int (nI (12 + s))), some (.int (nI x)), some (.int (nI y)), some (.int x4)] [] (am_hp N r (mS I n T (sx5 (wyZ Z) x y (0, q)) v) J)) :
    ∀ k j, s = j + k → (∀ i, i < j → st0 Z x y i = false) → am_V (d + 1) Q 183 14 [some (.ref 93), some (.int (nI (12 + s))), some (.int (nI x)), some (.int (nI y)), some (.int (nI (12 + j)))] [] (am_hp N r (mS I n T (0, q) v) J) := by
  intro k
  induction k with
  | zero =>
    intro j hj hp
    obtain rfl : s = j := by omega
    have hw : wyZ Z x y = false := by unfold wyZ; rw [hsZ, fa_first_none hp]; exact decide_eq_false (by omega)
    unfold sx5 at hR
    rw [if_pos rfl, hw, if_neg (by simp)] at hR
    rw [e_M_streetLine_14, am_ifi (nI_leI (by omega) (by omega)), if_pos (by omega), mS_31, am_ifni (nI_eq (by omega) (by omega)), if_pos rfl, am_ifni (nI_eq (by omega) (by omega))]
    by_cases c : x = y
    · rw [if_pos c] at hR
      rw [if_pos c, md_wrong (by omega) (by show 0 ≤ 9; omega)]
      exact hR _
    · rw [if_neg c] at hR
      rw [if_neg c]
      exact hR _
  | succ k ih =>
    intro j hj hp
    obtain ⟨q1, q2⟩ := r0 j (by omega)
    have stop : st0 Z x y j = true → am_D (d + 1) 168 [.ref 93, .int (nI 3)] (am_hp N r (mS I n T (0, q) v) J) (fun _ h => am_V (d + 1) Q 183 76 [some (.ref 93), some (.int (nI (12 + s))), some (.int (nI x)), some (.int (nI y)), some (.int (nI (12 + j)))] [] h) := by
      intro hst
      have hw : wyZ Z x y = true := by unfold wyZ; rw [hsZ]; exact decide_eq_true (by rw [fa_first_step (show j < s by omega) hp hst]; omega)
      unfold sx5 at hR
      rw [if_pos rfl, if_pos hw] at hR
      rw [md_wrong (by omega) (by show 0 ≤ 9; omega), e_M_streetLine_76, nI_add, e_M_streetLine_14]
      show am_if _ (am_if (!(decide (mS I n T (3, q) v 93 31 = nI 0))) _ _) (am_if (!(decide (mS I n T (3, q) v 93 31 = nI 0))) (am_if (!(decide (mS I n T (3, q) v 93 31 = nI 0))) _ _) _)
      have hne : ¬ nI ((3, q) : Nat × Nat).1 = nI 0 := by show ¬ nI 3 = nI 0; decide +kernel
      rw [mS_31]
      simp only [am_ifn, if_neg hne, am_ifd]
      split
      · exact hR _
      · exact hR _
    have go : st0 Z x y j = false → am_V (d + 1) Q 183 76 [some (.ref 93), some (.int (nI (12 + s))), some (.int (nI x)), some (.int (nI y)), some (.int (nI (12 + j)))] [] (am_hp N r (mS I n T (0, q) v) J) := by
      intro hst
      rw [e_M_streetLine_76, nI_add]
      refine ih (j + 1) (by omega) ?_
      intro i hi
      by_cases e : i = j
      · subst e; exact hst
      · exact hp i (by omega)
    have hst : ∀ {P : Prop} [Decidable P], ((Z 100 j = nI x ∧ Z 101 j = nI y) ∨ (Z 100 j = nI y ∧ Z 101 j = nI x) ↔ P) → st0 Z x y j = decide P := by
      intro P _ h
      unfold st0
      rw [← Bool.decide_or]
      exact decide_eq_decide.mpr h
    rw [e_M_streetLine_14, am_ifi (nI_leI (by omega) (by omega)), if_neg (by omega), mS_31, am_ifni (nI_eq (by omega) (by omega)), if_pos rfl]
    repeat rw [am_gI (by omega) (by omega)]
    rw [nI_clamp (by omega), mS_o (by omega), mS_o (by omega), q1, q2]
    simp only [am_ifn, am_ifd]
    by_cases a1 : Z 100 j = nI x
    · rw [if_pos a1]
      by_cases a2 : Z 101 j = nI y
      · rw [if_pos a2]
        exact stop (by rw [hst (P := True) ⟨fun _ => trivial, fun _ => Or.inl ⟨a1, a2⟩⟩]; rfl)
      · rw [if_neg a2]
        by_cases a3 : Z 100 j = nI y
        · rw [if_pos a3]
          by_cases a4 : Z 101 j = nI x
          · rw [if_pos a4]
            exact stop (by rw [hst (P := True) ⟨fun _ => trivial, fun _ => Or.inr ⟨a3, a4⟩⟩]; rfl)
          · rw [if_neg a4]
            exact go (by rw [hst (P := False) ⟨fun h => by rcases h with h | h; exact a2 h.2; exact a4 h.2, fun h => h.elim⟩]; rfl)
        · rw [if_neg a3]
          exact go (by rw [hst (P := False) ⟨fun h => by rcases h with h | h; exact a2 h.2; exact a3 h.1, fun h => h.elim⟩]; rfl)
    · rw [if_neg a1]
      by_cases a3 : Z 100 j = nI y
      · rw [if_pos a3]
        by_cases a4 : Z 101 j = nI x
        · rw [if_pos a4]
          exact stop (by rw [hst (P := True) ⟨fun _ => trivial, fun _ => Or.inr ⟨a3, a4⟩⟩]; rfl)
        · rw [if_neg a4]
          exact go (by rw [hst (P := False) ⟨fun h => by rcases h with h | h; exact a1 h.1; exact a4 h.2, fun h => h.elim⟩]; rfl)
      · rw [if_neg a3]
        exact go (by rw [hst (P := False) ⟨fun h => by rcases h with h | h; exact a1 h.1; exact a3 h.1, fun h => h.elim⟩]; rfl)
theorem wy_xx (hz : zok Z) : ∀ x, x < m_nH Z → wyZ Z x x = false := by
  intro x hx
  unfold wyZ
  rw [fa_first_none]
  · exact decide_eq_false (by omega)
  · intro l hl
    obtain ⟨a, b, c, h1, h2, h3, h4, h5, _⟩ := hz.2.1 l hl
    have h8 := hz.1.1.2
    rw [st0_n h4 h5 (by omega) (by omega) (by omega) (by omega)]
    exact decide_eq_false (by omega)
theorem md_streetL (hx : txm I n T) (hz : zok Z) (hV : mV I Z) (hs12 : m_nS Z ≠ 12) (hp : tkE n T p ≤ n) (hv : tvm n T (tkE n T p) v)
    (hQ : ∀ X v', frm I X → X 93 = I 93 → tvm n T (ln5 n T p (Z 96) (m_nH Z) (m_nS Z) (wyZ Z)).2 v' → ((ln5 n T p (Z 96) (m_nH Z) (m_nS Z) (wyZ Z)).1 = 0 → mV X (z5 (m_nS Z) (nhI (Z 96) (m_nH Z) n T (tkE n T p)) (nhI (Z 96) (m_nH Z) n T (tkE n T (tkE n T p))) (tkV n T (tkE n T (tkE n T (tkE n T p)))) Z)) → Q .null (am_hp N r (mS X n T (ln5 n T p (Z 96) (m_nH Z) (m_nS Z) (wyZ Z)) v') J)) :
    am_D (d + 10) 183 [.ref 93, .int (nI (12 + m_nS Z))] (am_hp N r (mS I n T (0, tkE n T p) v) J) Q := by
  have h7 := hx.1.1
  have hxx := wy_xx hz
  obtain ⟨⟨⟨z0, z0'⟩, ⟨z1, z1'⟩, _⟩, _⟩ := hz
  have f0 : I 95 7 = nI (m_nH Z) := by rw [← z0]; exact hV 95 0 (by omega) (by omega) (show 0 < 7 by omega)
  have f1 : I 95 8 = nI (m_nS Z) := by rw [← z1]; exact hV 95 1 (by omega) (by omega) (show 1 < 7 by omega)
  have hn : ∀ k, k < m_nH Z → I 96 (8 + k) = Z 96 k := fun k hk => hV 96 k (by omega) (by omega) (show k < 8 by omega)
  have rs : ∀ k, k < m_nS Z → I 100 (12 + k) = Z 100 k ∧ I 101 (12 + k) = Z 101 k := fun k hk => ⟨hV 100 k (by omega) (by omega) (show k < 12 by omega), hV 101 k (by omega) (by omega) (show k < 12 by omega)⟩
  have o0 : (0, tkE n T p).1 ≤ 9 := Nat.zero_le _
  rw [e_M_streetLine]
  refine md_houseAhead (m := m_nH Z) hx f0 z0' hp o0 hv ?_
  rw [sxA_c hn, nh_c hn]
  intro v1 hv1
  have b1a := sxA_b (T := T) (f := Z 96) (m := m_nH Z) (o := (0, tkE n T p)) hp o0
  have b1 := stG_b (T := T) h7 b1a.1 b1a.2
  have hx8 : (if (sxA n T (Z 96) (m_nH Z) (0, tkE n T p)).1 = 0 then nhI (Z 96) (m_nH Z) n T (0, tkE n T p).2 else 0) < 8 := by
    split
    · rename_i h
      have c1 : nhF (Z 96) (m_nH Z) n T (tkE n T p) = 0 := by unfold sxA at h; rw [if_pos rfl] at h; exact h
      have := nhF_lt c1
      show nhI (Z 96) (m_nH Z) n T (tkE n T p) < 8
      omega
    · omega
  generalize hans1 : (if (sxA n T (Z 96) (m_nH Z) (0, tkE n T p)).1 = 0 then nhI (Z 96) (m_nH Z) n T (0, tkE n T p).2 else 0) = x at hx8 ⊢
  rw [am_asIe, e_M_streetLine_4]
  refine md_houseAtHand (d := d + 6) (m := m_nH Z) hx f0 z0' b1.1 b1.2 hv1 ?_
  rw [sxA_c hn, nh_c hn]
  have b2 := sxA_b (T := T) (f := Z 96) (m := m_nH Z) b1.1 b1.2
  have hv2 : tvm n T (sxA n T (Z 96) (m_nH Z) (stG n T (sxA n T (Z 96) (m_nH Z) (0, tkE n T p)))).2 v1 := by rw [sxA_2]; exact hv1
  have hy8 : (if (sxA n T (Z 96) (m_nH Z) (stG n T (sxA n T (Z 96) (m_nH Z) (0, tkE n T p)))).1 = 0 then nhI (Z 96) (m_nH Z) n T (stG n T (sxA n T (Z 96) (m_nH Z) (0, tkE n T p))).2 else 0) < 8 := by
    split
    · rename_i h
      have := nhF_lt (sxA_z h).2
      omega
    · omega
  have hy0 : nhF (Z 96) (m_nH Z) n T (tkE n T p) = 0 → nhF (Z 96) (m_nH Z) n T (tkE n T (tkE n T p)) = 0 → (if (sxA n T (Z 96) (m_nH Z) (stG n T (sxA n T (Z 96) (m_nH Z) (0, tkE n T p)))).1 = 0 then nhI (Z 96) (m_nH Z) n T (stG n T (sxA n T (Z 96) (m_nH Z) (0, tkE n T p))).2 else 0) = nhI (Z 96) (m_nH Z) n T (tkE n T (tkE n T p)) := by
    intro c1 c2
    rw [sA_ok c1, sG_ok, sA_ok c2, if_pos rfl]
  generalize hans2 : (if (sxA n T (Z 96) (m_nH Z) (stG n T (sxA n T (Z 96) (m_nH Z) (0, tkE n T p)))).1 = 0 then nhI (Z 96) (m_nH Z) n T (stG n T (sxA n T (Z 96) (m_nH Z) (0, tkE n T p))).2 else 0) = y at hy8 hy0 ⊢
  have hx0 : nhF (Z 96) (m_nH Z) n T (tkE n T p) = 0 → x = nhI (Z 96) (m_nH Z) n T (tkE n T p) := by
    intro c1
    rw [← hans1, sA_ok c1, if_pos rfl]
  have es := ln5_s (n := n) (T := T) (p := p) (m := m_nH Z) (hn := Z 96) (wy := wyZ Z) (x := x) (y := y) hs12 hxx hx0 hy0
  rw [am_asIe, e_M_streetLine_9]
  generalize ho2 : sxA n T (Z 96) (m_nH Z) (stG n T (sxA n T (Z 96) (m_nH Z) (0, tkE n T p))) = o2 at b2 hv2 es ⊢
  have fin : ∀ x4, am_V (d + 9) Q 183 99 [some (.ref 93), some (.int (nI (12 + m_nS Z))), some (.int (nI x)), some (.int (nI y)), some (.int x4)] [] (am_hp N r (mS I n T (sx5 (wyZ Z) x y o2) v1) J) := by
    intro x4
    have b3 := sx5_b (wy := wyZ Z) (x := x) (y := y) b2.1 b2.2
    rw [e_M_streetLine_99]
    refine md_goOn (d := d + 1) hx b3.1 b3.2 (by rw [sx5_2]; exact hv2) ?_
    intro v4 hv4
    have b4 := stG_b (T := T) h7 b3.1 b3.2
    rw [e_M_streetLine_103, am_gI (by omega) (by omega), am_gI (by omega) (by omega), nI_clamp (by omega), mS_u (by omega), mS_u (by omega)]
    have fr1 : frm I (am_u (am_u I 100 (12 + m_nS Z) (nI x)) 101 (12 + m_nS Z) (nI y)) := frm_tr (frm_up (by omega) (by show 12 ≤ _; omega)) (frm_up (by omega) (by show 12 ≤ _; omega))
    refine md_numeral (d := d + 1) (txm_f hx fr1) b4.1 b4.2 hv4 (by omega) (by omega) ?_
    intro v5 hv5
    rw [am_asIe, e_M_streetLine_129, am_gI (by omega) (by omega), nI_clamp (by omega), mS_u (by omega), md_fresher (by omega), am_asIe, e_M_streetLine_137, md_reads (by omega), e_M_streetLine_142]
    rw [← es] at hv5 ⊢
    rw [show ∀ c : Int32, (am_u (am_u (am_u I 100 (12 + m_nS Z) (nI x)) 101 (12 + m_nS Z) (nI y)) 102 (12 + m_nS Z) c) 95 (7 + 1) = nI (m_nS Z) from fun c => by rw [am_uN (by omega), am_uN (by omega), am_uN (by omega)]; exact f1, nI_add]
    refine hQ _ v5 (frm_tr fr1 (frm_tr (frm_up (by omega) (by show 12 ≤ _; omega)) (frm_up (by omega) (by show 7 ≤ _; omega)))) (by rw [am_uRow (by omega), am_uRow (by omega), am_uRow (by omega), am_uRow (by omega)]) hv5 ?_
    intro e0
    obtain ⟨c1, c2, c3, c4, c5⟩ := ln5_0 e0
    have hs' : m_nS Z < 12 := by omega
    have hx1 := hx0 c1
    have hy1 := hy0 c1 c2
    rw [← hx1, ← hy1] at c3 c4
    rw [sA_ok c1, sG_ok, sA_ok c2] at ho2
    have e5 : sx5 (wyZ Z) x y o2 = (0, tkE n T (tkE n T p)) := by
      rw [← ho2]
      unfold sx5
      rw [if_pos rfl, c4, if_neg (by simp), if_neg c3]
    rw [if_pos e0, e5, sG_ok, ← hx1, ← hy1]
    unfold z5
    exact mV_u (k := 1) (by omega) (by decide) (mV_u (k := m_nS Z) (by omega) hs' (mV_u (k := m_nS Z) (by omega) hs' (mV_u (k := m_nS Z) (by omega) hs' hV)))
  obtain ⟨g, q⟩ := o2
  by_cases cg : g = 0
  · subst cg
    exact md_st14 (d := d + 8) z1' hx8 hy8 rs rfl fin (m_nS Z) 0 (by omega) (fun i hi => by omega)
  · have h9 : g ≤ 9 := b2.2
    have hne : ¬ nI ((g, q) : Nat × Nat).1 = nI 0 := by show ¬ nI g = nI 0; rw [nI_eq (by omega) (by omega)]; exact cg
    rw [sx5_ne cg] at fin
    rw [e_M_streetLine_14, mS_31]
    simp only [am_ifn, if_neg hne, am_ifd]
    split
    · exact fin _
    · exact fin _
end
