/-! ===== L3: a line told keeps the model's half sound ===== -/
section
variable {Z Z' : Nat → Nat → Int32} {n p : Nat} {T : Nat → Nat}
theorem zok_g (h : zok Z) (b0 : Z' 95 0 = nI (m_nH Z') ∧ m_nH Z' ≤ 8) (hH : m_nH Z ≤ m_nH Z') (b1 : Z' 95 1 = Z 95 1) (b2 : Z' 95 2 = nI (m_nZ Z') ∧ m_nZ Z' ≤ 5) (b3 : Z' 95 3 = nI (m_nL Z') ∧ m_nL Z' ≤ 8) (b4 : Z' 95 4 = nI (m_nA Z') ∧ m_nA Z' ≤ 6) (b6 : Z' 95 6 = nI (m_kn Z') ∧ m_kn Z' ≤ 64) (r0 : Z' 100 = Z 100) (r1 : Z' 101 = Z 101) (r2 : Z' 102 = Z 102) : zok Z' := by
  have eS : m_nS Z' = m_nS Z := by unfold m_nS; rw [b1]
  have hs0 := cg_st0 r0 r1
  refine ⟨⟨b0, by rw [eS, b1]; exact h.1.2.1, b2, b3, b4, b6⟩, ?_⟩
  unfold st_ok
  rw [eS, hs0, r0, r1, r2]
  refine ⟨fun l hl => ?_, h.2.2⟩
  obtain ⟨a, b, c, h1, h2, h3⟩ := h.2.1 l hl
  exact ⟨a, b, c, by omega, by omega, h3⟩
theorem zok_c (h : zok Z) (h5 : Z' 95 = Z 95) (r0 : Z' 100 = Z 100) (r1 : Z' 101 = Z 101) (r2 : Z' 102 = Z 102) : zok Z' := by
  have e0 : m_nH Z' = m_nH Z := by unfold m_nH; rw [h5]
  have e2 : m_nZ Z' = m_nZ Z := by unfold m_nZ; rw [h5]
  have e3 : m_nL Z' = m_nL Z := by unfold m_nL; rw [h5]
  have e4 : m_nA Z' = m_nA Z := by unfold m_nA; rw [h5]
  have e6 : m_kn Z' = m_kn Z := by unfold m_kn; rw [h5]
  obtain ⟨⟨b0, b1, b2, b3, b4, b6⟩, hs⟩ := h
  exact zok_g ⟨⟨b0, b1, b2, b3, b4, b6⟩, hs⟩ (by rw [e0, h5]; exact b0) (by rw [e0]; exact Nat.le_refl _) (by rw [h5]) (by rw [e2, h5]; exact b2) (by rw [e3, h5]; exact b3) (by rw [e4, h5]; exact b4) (by rw [e6, h5]; exact b6) r0 r1 r2
theorem zok_95 {i k : Nat} (h : zok Z) (hi : i ≠ 1) (hk : k < 2 ^ 31) (h0 : i = 0 → m_nH Z ≤ k ∧ k ≤ 8) (h2 : i = 2 → k ≤ 5) (h3 : i = 3 → k ≤ 8) (h4 : i = 4 → k ≤ 6) (h6 : i = 6 → k ≤ 64) : zok (am_u Z 95 i (nI k)) := by
  obtain ⟨⟨b0, b1, b2, b3, b4, b6⟩, hs⟩ := h
  have key : ∀ j, j ≠ i → am_u Z 95 i (nI k) 95 j = Z 95 j := fun j hj => am_uN (by omega)
  have at_ : am_u Z 95 i (nI k) 95 i = nI k := am_uE
  have hcl : (nI k : Int32).toNatClampNeg = k := nI_clamp hk
  refine zok_g (Z := Z) ⟨⟨b0, b1, b2, b3, b4, b6⟩, hs⟩ ?_ ?_ (key 1 (by omega)) ?_ ?_ ?_ ?_ (am_uRow (by omega)) (am_uRow (by omega)) (am_uRow (by omega))
  · unfold m_nH
    by_cases e : i = 0
    · subst e; rw [at_, hcl]; exact ⟨rfl, (h0 rfl).2⟩
    · rw [key 0 (by omega)]; exact b0
  · unfold m_nH
    by_cases e : i = 0
    · subst e; rw [at_, hcl]; exact (h0 rfl).1
    · rw [key 0 (by omega)]; exact Nat.le_refl _
  · unfold m_nZ
    by_cases e : i = 2
    · subst e; rw [at_, hcl]; exact ⟨rfl, h2 rfl⟩
    · rw [key 2 (by omega)]; exact b2
  · unfold m_nL
    by_cases e : i = 3
    · subst e; rw [at_, hcl]; exact ⟨rfl, h3 rfl⟩
    · rw [key 3 (by omega)]; exact b3
  · unfold m_nA
    by_cases e : i = 4
    · subst e; rw [at_, hcl]; exact ⟨rfl, h4 rfl⟩
    · rw [key 4 (by omega)]; exact b4
  · unfold m_kn
    by_cases e : i = 6
    · subst e; rw [at_, hcl]; exact ⟨rfl, h6 rfl⟩
    · rw [key 6 (by omega)]; exact b6
theorem zok_row {a k : Nat} {x : Int32} (h : zok Z) (ha : a ≠ 95 ∧ a ≠ 100 ∧ a ≠ 101 ∧ a ≠ 102) : zok (am_u Z a k x) := zok_c h (am_uRow (by omega)) (am_uRow (by omega)) (am_uRow (by omega)) (am_uRow (by omega))
theorem zok_5 {x y c s : Nat} (h : zok Z) (hs : m_nS Z = s) (hs12 : s < 12) (hx : x < m_nH Z) (hy : y < m_nH Z) (hxy : x ≠ y) (hc : 1 ≤ c ∧ c ≤ 9) (hno : ∀ l, l < s → st0 Z x y l = false) : zok (z5 s x y c Z) := by
  obtain ⟨⟨b0, b1, b2, b3, b4, b6⟩, hst⟩ := h
  have n1 : z5 s x y c Z 95 1 = nI (s + 1) := by unfold z5; rw [am_uE]
  have nk : ∀ k, k ≠ 1 → z5 s x y c Z 95 k = Z 95 k := by intro k hk; unfold z5; rw [am_uN (by omega), am_uN (by omega), am_uN (by omega), am_uN (by omega)]
  have z0 : z5 s x y c Z 100 s = nI x ∧ z5 s x y c Z 101 s = nI y ∧ z5 s x y c Z 102 s = nI c := by
    unfold z5
    refine ⟨?_, ?_, ?_⟩
    · rw [am_uN (by omega), am_uN (by omega), am_uN (by omega), am_uE]
    · rw [am_uN (by omega), am_uN (by omega), am_uE]
    · rw [am_uN (by omega), am_uE]
  have z1 : ∀ k, k ≠ s → z5 s x y c Z 100 k = Z 100 k ∧ z5 s x y c Z 101 k = Z 101 k ∧ z5 s x y c Z 102 k = Z 102 k := by
    intro k hk
    unfold z5
    refine ⟨?_, ?_, ?_⟩ <;> rw [am_uN (by omega), am_uN (by omega), am_uN (by omega), am_uN (by omega)]
  generalize z5 s x y c Z = Z' at n1 nk z0 z1
  have eS : m_nS Z' = s + 1 := nN_of n1 (by omega)
  have eH : m_nH Z' = m_nH Z := by unfold m_nH; rw [nk 0 (by omega)]
  have e2 : m_nZ Z' = m_nZ Z := by unfold m_nZ; rw [nk 2 (by omega)]
  have e3 : m_nL Z' = m_nL Z := by unfold m_nL; rw [nk 3 (by omega)]
  have e4 : m_nA Z' = m_nA Z := by unfold m_nA; rw [nk 4 (by omega)]
  have e6 : m_kn Z' = m_kn Z := by unfold m_kn; rw [nk 6 (by omega)]
  have stO : ∀ {a b : Nat} (l : Nat), l ≠ s → st0 Z' a b l = st0 Z a b l := by
    intro a b l hl; unfold st0; rw [(z1 l hl).1, (z1 l hl).2.1]
  refine ⟨⟨by rw [eH, nk 0 (by omega)]; exact b0, by rw [eS]; exact ⟨n1, by omega⟩, by rw [e2, nk 2 (by omega)]; exact b2, by rw [e3, nk 3 (by omega)]; exact b3, by rw [e4, nk 4 (by omega)]; exact b4, by rw [e6, nk 6 (by omega)]; exact b6⟩, ?_⟩
  unfold st_ok
  rw [eS, eH]
  refine ⟨fun l hl => ?_, fun a b l l' hl hl' g g' => ?_⟩
  · by_cases e : l = s
    · subst e
      exact ⟨x, y, c, hx, hy, hxy, z0.1, z0.2.1, z0.2.2, hc.1, hc.2⟩
    · rw [(z1 l e).1, (z1 l e).2.1, (z1 l e).2.2]; exact hst.1 l (by omega)
  · have key : ∀ l', l' < s → st0 Z' a b s = true → st0 Z' a b l' = true → False := by
      intro l' hl' g g'
      rw [stO l' (by omega)] at g'
      have hn := hno l' hl'
      unfold st0 at g g' hn
      rw [z0.1, z0.2.1] at g
      simp only [Bool.or_eq_true, decide_eq_true_eq] at g
      rcases g with ⟨g1, g2⟩ | ⟨g1, g2⟩
      · rw [← g1, ← g2] at g'; rw [g'] at hn; cases hn
      · rw [← g1, ← g2, Bool.or_comm] at g'; rw [g'] at hn; cases hn
    by_cases e : l = s
    · subst e
      by_cases e2 : l' = l
      · exact e2.symm
      · exact (key l' (by omega) g g').elim
    · by_cases e2 : l' = s
      · subst e2; exact (key l (by omega) g' g).elim
      · rw [stO l e] at g
        rw [stO l' e2] at g'
        exact hst.2 a b l l' (by omega) (by omega) g g'
theorem ln4_8 {hn : Nat → Int32} {m : Nat} (h : (ln4 n T p hn m).1 = 0) : m ≠ 8 := by
  intro e
  unfold ln4 at h
  rw [if_pos e] at h
  exact absurd (show (2 : Nat) = 0 from h) (by omega)
theorem ln5_12 {hn : Nat → Int32} {m s : Nat} {wy : Nat → Nat → Bool} (h : (ln5 n T p hn m s wy).1 = 0) : s ≠ 12 := by
  intro e
  unfold ln5 at h
  rw [if_pos e] at h
  exact absurd (show (2 : Nat) = 0 from h) (by omega)
theorem ln6_5 {hn zn : Nat → Int32} {m z : Nat} (h : (ln6 n T p hn zn m z).1 = 0) : z ≠ 5 := by
  intro e
  unfold ln6 at h
  rw [if_pos e] at h
  exact absurd (show (2 : Nat) = 0 from h) (by omega)
theorem ln7_8 {hn zn : Nat → Int32} {m z l : Nat} (h : (ln7 n T p hn zn m z l).1 = 0) : l ≠ 8 := by
  intro e
  unfold ln7 at h
  rw [if_pos e] at h
  exact absurd (show (2 : Nat) = 0 from h) (by omega)
theorem ln8_6 {hn : Nat → Int32} {m a : Nat} (h : (ln8 n T p hn m a).1 = 0) : a ≠ 6 := by
  intro e
  unfold ln8 at h
  rw [if_pos e] at h
  exact absurd (show (2 : Nat) = 0 from h) (by omega)
theorem wyZ_no {x y : Nat} (h : wyZ Z x y = false) : ∀ l, l < m_nS Z → st0 Z x y l = false := by
  intro l hl
  unfold wyZ at h
  have h' := of_decide_eq_false h
  have := fa_first_le (fun l => st0 Z x y l) (m_nS Z)
  exact fa_first_no (fun l => st0 Z x y l) (m_nS Z) l (by omega)
/-- a law line keeps it -/
theorem zok_13 {ru kn' : Nat} {R : List Nat} (h : zok Z) (hk : kn' ≤ 64) : zok (z13 ru (m_kn Z) kn' R Z) := by
  have e : ∀ a, a ≠ 114 → a ≠ 115 → rwz (m_kn Z) R Z a = Z a := fun a h1 h2 => rwz_oo h1 h2
  have h1 : zok (rwz (m_kn Z) R Z) := zok_c h (e _ (by omega) (by omega)) (e _ (by omega) (by omega)) (e _ (by omega) (by omega)) (e _ (by omega) (by omega))
  unfold z13
  exact zok_95 (zok_row (zok_row h1 (by omega)) (by omega)) (by omega) (by omega) (by omega) (by omega) (by omega) (by omega) (fun _ => hk)
/-- any other line keeps it -/
theorem zok_L {sd : Bool} (h : zok Z) (hl : (lnR Z sd n T p).1 = 0) (hk : 4 ≤ tkK n T p ∧ tkK n T p ≤ 12) : zok (zL Z n T p) := by
  have h' := h
  obtain ⟨⟨b0, b1, b2, b3, b4, b6⟩, hs⟩ := h'
  rcases (show tkK n T p = 4 ∨ tkK n T p = 5 ∨ tkK n T p = 6 ∨ tkK n T p = 7 ∨ tkK n T p = 8 ∨ tkK n T p = 9 ∨ tkK n T p = 10 ∨ tkK n T p = 11 ∨ tkK n T p = 12 by omega) with e | e | e | e | e | e | e | e | e
  · rw [lnR_4 e] at hl
    have := ln4_8 hl
    rw [zL_4 e]
    unfold z4
    have hm : m_nH (am_u (am_u (am_u (am_u Z 96 (m_nH Z) (tkN n T (tkE n T p))) 97 (m_nH Z) (nI 0)) 98 (m_nH Z) (nI 0)) 99 (m_nH Z) (nI 0)) = m_nH Z := by
      unfold m_nH
      rw [am_uN (by omega), am_uN (by omega), am_uN (by omega), am_uN (by omega)]
    exact zok_95 (zok_row (zok_row (zok_row (zok_row h (by omega)) (by omega)) (by omega)) (by omega)) (by omega) (by omega) (fun _ => by rw [hm]; omega) (by omega) (by omega) (by omega) (by omega)
  · rw [lnR_5 e] at hl
    have := ln5_12 hl
    obtain ⟨c1, c2, c3, c4, c5⟩ := ln5_0 hl
    rw [zL_5 e]
    exact zok_5 h rfl (by omega) (nhF_lt c1) (nhF_lt c2) c3 (nuF_in c5) (wyZ_no c4)
  · rw [lnR_6 e] at hl
    have := ln6_5 hl
    rw [zL_6 e]
    unfold z6
    exact zok_95 (zok_row (zok_row (zok_row (zok_row h (by omega)) (by omega)) (by omega)) (by omega)) (by omega) (by omega) (by omega) (by omega) (by omega) (by omega) (by omega)
  · rw [lnR_7 e] at hl
    have := ln7_8 hl
    rw [zL_7 e]
    unfold z7
    exact zok_95 (zok_row (zok_row h (by omega)) (by omega)) (by omega) (by omega) (by omega) (by omega) (by omega) (by omega) (by omega)
  · rw [lnR_8 e] at hl
    have := ln8_6 hl
    rw [zL_8 e]
    unfold z8
    exact zok_95 (zok_row (zok_row (zok_row h (by omega)) (by omega)) (by omega)) (by omega) (by omega) (by omega) (by omega) (by omega) (by omega) (by omega)
  · rw [zL_9 e]; exact zok_row h (by omega)
  · rw [zL_10 e]; exact zok_row h (by omega)
  · rw [zL_11 e]; exact zok_row h (by omega)
  · rw [lnR_12 e] at hl
    have := nuF_in (ln12_0 hl)
    rw [zL_12 e]; exact zok_95 h (by omega) (by omega) (by omega) (by omega) (by omega) (by omega) (by omega)
end
