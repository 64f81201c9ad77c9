/-! ===== L3: a line, told to the class ===== -/
def mix (I Z : Nat → Nat → Int32) : Nat → Nat → Int32 := fun a => if 95 ≤ a ∧ a ≤ 115 then Z a else if (2 < a ∧ a < 43) ∨ 2000 < a then I a else fun _ => nI 0
theorem mix_c {I Z : Nat → Nat → Int32} {a : Nat} (h : (2 < a ∧ a < 43) ∨ 2000 < a) : mix I Z a = I a := by unfold mix; rw [if_neg (by omega), if_pos h]
theorem mix_z {I Z : Nat → Nat → Int32} {a : Nat} (h : 95 ≤ a ∧ a ≤ 115) : mix I Z a = Z a := if_pos h
def t_pr (I Z : Nat → Nat → Int32) (t : Nat) : Prop := t_pre (mix I Z) t
def wyZ (Z : Nat → Nat → Int32) (x y : Nat) : Bool := decide (fa_first (fun l => st0 Z x y l) (m_nS Z) < m_nS Z)
def z4 (m : Nat) (nm : Int32) (Z : Nat → Nat → Int32) : Nat → Nat → Int32 := am_u (am_u (am_u (am_u (am_u Z 96 m nm) 97 m (nI 0)) 98 m (nI 0)) 99 m (nI 0)) 95 0 (nI (m + 1))
def z5 (s x y c : Nat) (Z : Nat → Nat → Int32) : Nat → Nat → Int32 := am_u (am_u (am_u (am_u Z 100 s (nI x)) 101 s (nI y)) 102 s (nI c)) 95 1 (nI (s + 1))
def z6 (z : Nat) (nm : Int32) (b dp dr : Nat) (Z : Nat → Nat → Int32) : Nat → Nat → Int32 := am_u (am_u (am_u (am_u (am_u Z 103 z nm) 104 z (nI b)) 105 z (nI dp)) 106 z (nI dr)) 95 2 (nI (z + 1))
def z7 (l s h : Nat) (Z : Nat → Nat → Int32) : Nat → Nat → Int32 := am_u (am_u (am_u Z 107 l (nI s)) 108 l (nI h)) 95 3 (nI (l + 1))
def z8 (a h fr to : Nat) (Z : Nat → Nat → Int32) : Nat → Nat → Int32 := am_u (am_u (am_u (am_u Z 109 a (nI h)) 110 a (nI fr)) 111 a (nI to)) 95 4 (nI (a + 1))
def rwz (st : Nat) : List Nat → (Nat → Nat → Int32) → Nat → Nat → Int32
  | [], Z => Z
  | x :: R, Z => am_u (am_u (rwz st R Z) 114 (st + R.length) (nI (cso x))) 115 (st + R.length) (nI (cva x))
def z13 (ru kn kn' : Nat) (R : List Nat) (Z : Nat → Nat → Int32) : Nat → Nat → Int32 := am_u (am_u (am_u (rwz kn R Z) 112 ru (nI kn)) 113 ru (nI kn')) 95 6 (nI kn')
section
variable (Z : Nat → Nat → Int32) (sd : Bool) (n : Nat) (T : Nat → Nat) (p : Nat)
def lnR : Nat × Nat :=
  if tkK n T p = 4 then ln4 n T p (Z 96) (m_nH Z)
  else if tkK n T p = 5 then ln5 n T p (Z 96) (m_nH Z) (m_nS Z) (wyZ Z)
  else if tkK n T p = 6 then ln6 n T p (Z 96) (Z 103) (m_nH Z) (m_nZ Z)
  else if tkK n T p = 7 then ln7 n T p (Z 96) (Z 103) (m_nH Z) (m_nZ Z) (m_nL Z)
  else if tkK n T p = 8 then ln8 n T p (Z 96) (m_nH Z) (m_nA Z)
  else if tkK n T p = 9 then ln9 n T p (Z 96) (m_nH Z) (fun h => decide (¬ Z 97 h ≤ nI 0))
  else if tkK n T p = 10 then ln10 n T p (Z 96) (m_nH Z) (fun h => decide (¬ Z 98 h ≤ nI 0))
  else if tkK n T p = 11 then ln9 n T p (Z 96) (m_nH Z) (fun h => decide (¬ Z 99 h ≤ nI 0))
  else if tkK n T p = 12 then ln12 n T p sd
  else if tkK n T p = 13 then ln13 n T p (m_has Z) (m_kn Z)
  else (1, p)
def zL : Nat → Nat → Int32 :=
  if tkK n T p = 4 then z4 (m_nH Z) (tkN n T (tkE n T p)) Z
  else if tkK n T p = 5 then z5 (m_nS Z) (nhI (Z 96) (m_nH Z) n T (tkE n T p)) (nhI (Z 96) (m_nH Z) n T (tkE n T (tkE n T p))) (tkV n T (tkE n T (tkE n T (tkE n T p)))) Z
  else if tkK n T p = 6 then z6 (m_nZ Z) (tkN n T (tkE n T p)) (nhI (Z 96) (m_nH Z) n T (tkE n T (tkE n T p))) (tkV n T (tkE n T (tkE n T (tkE n T p)))) (nhI (Z 96) (m_nH Z) n T (tkE n T (tkE n T (tkE n T (tkE n T p))))) Z
  else if tkK n T p = 7 then z7 (m_nL Z) (nhI (Z 103) (m_nZ Z) n T (tkE n T p)) (nhI (Z 96) (m_nH Z) n T (tkE n T (tkE n T p))) Z
  else if tkK n T p = 8 then z8 (m_nA Z) (nhI (Z 96) (m_nH Z) n T (tkE n T p)) (tkV n T (tkE n T (tkE n T p))) (tkV n T (tkE n T (tkE n T (tkE n T p)))) Z
  else if tkK n T p = 9 then am_u Z 97 (nhI (Z 96) (m_nH Z) n T (tkE n T p)) (nI (tkV n T (tkE n T (tkE n T p))))
  else if tkK n T p = 10 then am_u Z 98 (nhI (Z 96) (m_nH Z) n T (tkE n T p)) (nI 1)
  else if tkK n T p = 11 then am_u Z 99 (nhI (Z 96) (m_nH Z) n T (tkE n T p)) (nI (tkV n T (tkE n T (tkE n T p))))
  else if tkK n T p = 12 then am_u Z 95 5 (nI (tkV n T (tkE n T p)))
  else z13 (tkK n T (tkE n T p) - 14) (m_kn Z) (sy n T 701 (tkE n T (tkE n T p)) [] [false] true true (m_kn Z) []).2.2.1 (sy n T 701 (tkE n T (tkE n T p)) [] [false] true true (m_kn Z) []).2.2.2 Z
end
section
variable {I Z : Nat → Nat → Int32} {t n p : Nat} {T : Nat → Nat}
theorem mx_H : m_nH (mix I Z) = m_nH Z := by unfold m_nH; rw [mix_z (by omega)]
theorem mx_S : m_nS (mix I Z) = m_nS Z := by unfold m_nS; rw [mix_z (by omega)]
theorem mx_Z : m_nZ (mix I Z) = m_nZ Z := by unfold m_nZ; rw [mix_z (by omega)]
theorem mx_L : m_nL (mix I Z) = m_nL Z := by unfold m_nL; rw [mix_z (by omega)]
theorem mx_A : m_nA (mix I Z) = m_nA Z := by unfold m_nA; rw [mix_z (by omega)]
theorem mx_K : m_kn (mix I Z) = m_kn Z := by unfold m_kn; rw [mix_z (by omega)]
theorem mx_st0 : st0 (mix I Z) = st0 Z := cg_st0 (mix_z (by omega)) (mix_z (by omega))
/-- what the class sees of a town that is being told -/
theorem tpr_f (h : t_pr I Z t) : (t = 3 ∨ t = 23) ∧ (I t 0 = nI (m_nH Z) ∧ m_nH Z ≤ 8) ∧ (I t 1 = nI (m_nS Z) ∧ m_nS Z ≤ 12) ∧ (I t 2 = nI (m_nZ Z) ∧ m_nZ Z ≤ 5) ∧ (I t 3 = nI (m_nL Z) ∧ m_nL Z ≤ 8) ∧ (I t 4 = nI (m_nA Z) ∧ m_nA Z ≤ 6) ∧ (∀ h, h < m_nH Z → I (t + 1) h = Z 96 h) ∧ (∀ s, s < m_nZ Z → I (t + 2) s = Z 103 s) ∧ (∀ x y, x < m_nH Z → y < m_nH Z → (wyZ Z x y = true ↔ ¬ I (t + 4) (8 * x + y) ≤ nI 0)) ∧ (∀ h, h < m_nH Z → I (t + 13) h = Z 97 h ∧ I (t + 14) h = Z 99 h) ∧ (∀ h, h < m_nH Z → bt (I t 5) h = decide (¬ Z 98 h ≤ nI 0)) ∧ (I (t + 15) 0 = nI (m_kn Z) ∧ I (t + 15) 1 = nI (m_kn Z) ∧ m_kn Z ≤ 64) ∧ (∀ k, k < 3 → (m_has Z k = true ↔ ¬ I (t + 18) k ≤ I (t + 17) k)) ∧ (∀ k, k < 3 → m_has Z k = false → I (t + 19) k = nI 0) ∧ c_ro I := by
  obtain ⟨⟨ht, ⟨⟨b0, b0'⟩, ⟨b1, b1'⟩, ⟨b2, b2'⟩, ⟨b3, b3'⟩, ⟨b4, b4'⟩, b5, b6⟩, hst, hokL⟩, ⟨e0, e1, e2, e3, e4, e6⟩, ecat, ehn, esn, ese, ewy, esl, ele, ema, ela, ebe, elw, eus, ekn, ero, elk, eun, ewr, ekk, ek64, ek3⟩ := h
  have hst' := hst
  unfold st_ok at hst'
  simp only [mx_H, mx_S, mx_Z, mx_L, mx_A, mx_K, mx_st0] at b0 b0' b1 b1' b2 b2' b3 b3' b4 b4' ecat ehn esn ewy ebe ekk ek64 hst'
  have C : ∀ a, ((2 < a ∧ a < 43) ∨ 2000 < a) → mix I Z a = I a := fun a h => mix_c h
  have D : ∀ a, 95 ≤ a → a ≤ 115 → mix I Z a = Z a := fun a h1 h2 => mix_z ⟨h1, h2⟩
  rw [C t (by omega), D 95 (by omega) (by omega)] at e0 e1 e2 e3 e4
  rw [D 95 (by omega) (by omega)] at b0 b1 b2 b3 b4 ekk ekn ewr
  rw [C (t + 15) (by omega)] at ekn ewr
  rw [D 100 (by omega) (by omega), D 101 (by omega) (by omega), D 102 (by omega) (by omega)] at hst'
  have hlw := elw.1
  refine ⟨ht, ⟨e0.trans b0, b0'⟩, ⟨e1.trans b1, b1'⟩, ⟨e2.trans b2, b2'⟩, ⟨e3.trans b3, b3'⟩, ⟨e4.trans b4, b4'⟩, ?_, ?_, ?_, ?_, ?_, ⟨ekn.trans ekk, ewr.trans ekk, ek64⟩, ?_, ?_, ?_⟩
  · rw [C (t + 1) (by omega), D 96 (by omega) (by omega)] at ehn; exact ehn
  · rw [C (t + 2) (by omega), D 103 (by omega) (by omega)] at esn; exact esn
  · intro x y hx hy
    have := ewy x y (by omega) (by omega)
    rw [C (t + 4) (by omega)] at this
    unfold wayP at this
    simp only [Bool.not_false, Bool.true_and, mx_st0] at this
    rw [D 102 (by omega) (by omega)] at this
    unfold wyZ
    rw [decide_eq_true_eq, this]
    by_cases c : fa_first (fun l => st0 Z x y l) (m_nS Z) < m_nS Z
    · obtain ⟨a, b, k, _, _, _, _, _, g1, g2, g3⟩ := hst'.1 _ c
      rw [if_pos c, g1, nI_leI (by omega) (by omega)]
      constructor
      · intro _; omega
      · intro _; exact c
    · rw [if_neg c]
      constructor
      · intro g; exact absurd g c
      · intro g; exact absurd (by rw [nI_leI (by omega) (by omega)]; omega) g
  · intro h hh
    obtain ⟨g1, g2, _⟩ := ebe h hh
    rw [C (t + 13) (by omega), D 97 (by omega) (by omega)] at g1
    rw [C (t + 14) (by omega), D 99 (by omega) (by omega)] at g2
    exact ⟨g1, g2⟩
  · intro h hh
    have := ecat h hh
    rw [C t (by omega), D 98 (by omega) (by omega)] at this
    rw [this]
    cases bt (I t 5) h <;> decide +kernel
  · intro k hk
    obtain ⟨g1, g2⟩ := hlw k hk
    rw [show t + 15 + 2 = t + 17 from rfl, C (t + 17) (by omega), D 112 (by omega) (by omega)] at g1
    rw [show t + 15 + 3 = t + 18 from rfl, C (t + 18) (by omega), D 113 (by omega) (by omega)] at g2
    unfold m_has
    rw [decide_eq_true_eq, g1, g2]
    constructor
    · intro g; exact (fa_of_lt g).2.1
    · intro g; exact fa_of_nle g
  · intro k hk hh
    have := eus k hk
    rw [show t + 15 + 4 = t + 19 from rfl, C (t + 19) (by omega), D 112 (by omega) (by omega), D 113 (by omega) (by omega)] at this
    unfold m_has at hh
    have hh' := of_decide_eq_false hh
    obtain ⟨a, b, g1, g2, g3, g4, g5⟩ := b6 k hk
    rw [D 112 (by omega) (by omega)] at g1
    rw [D 113 (by omega) (by omega)] at g2
    rw [g1, g2, nI_ltI (by omega) (by omega)] at hh'
    apply b_ext
    intro i hi
    rw [b_z]
    apply ts_ne
    intro g
    obtain ⟨_, j, h1, h2, _⟩ := (this i hi).mp g
    rw [g1, nI_clamp (by omega)] at h1
    rw [g2, nI_clamp (by omega)] at h2
    omega
  · unfold c_ro at ero ⊢
    rw [C 2001 (by omega), C 2002 (by omega)] at ero
    exact ero
theorem ln4_c {f g : Nat → Int32} {m : Nat} (h : ∀ k, k < m → f k = g k) : ln4 n T p f m = ln4 n T p g m := by unfold ln4; simp only [nfF_c h]
theorem ln5_c {f g : Nat → Int32} {m s : Nat} {wy : Nat → Nat → Bool} (h : ∀ k, k < m → f k = g k) : ln5 n T p f m s wy = ln5 n T p g m s wy := by unfold ln5; simp only [nhF_c h, nh_c h]
theorem ln6_c {f g f' g' : Nat → Int32} {m z : Nat} (h : ∀ k, k < m → f k = g k) (h' : ∀ k, k < z → f' k = g' k) : ln6 n T p f f' m z = ln6 n T p g g' m z := by unfold ln6; simp only [nhF_c h, nfF_c h']
theorem ln7_c {f g f' g' : Nat → Int32} {m z l : Nat} (h : ∀ k, k < m → f k = g k) (h' : ∀ k, k < z → f' k = g' k) : ln7 n T p f f' m z l = ln7 n T p g g' m z l := by unfold ln7; simp only [nhF_c h, nhF_c h']
theorem ln8_c {f g : Nat → Int32} {m a : Nat} (h : ∀ k, k < m → f k = g k) : ln8 n T p f m a = ln8 n T p g m a := by unfold ln8; simp only [nhF_c h]
theorem ln9_c {f g : Nat → Int32} {m : Nat} {lo : Nat → Bool} (h : ∀ k, k < m → f k = g k) : ln9 n T p f m lo = ln9 n T p g m lo := by unfold ln9; simp only [nhF_c h, nh_c h]
theorem ln10_c {f g : Nat → Int32} {m : Nat} {lo lo' : Nat → Bool} (h : ∀ k, k < m → f k = g k) (hl : ∀ k, k < m → lo k = lo' k) : ln10 n T p f m lo = ln10 n T p g m lo' := by
  unfold ln10
  simp only [nhF_c h, nh_c h]
  by_cases c : nhF g m n T (tkE n T p) ≠ 0
  · rw [if_pos c, if_pos c]
  · rw [if_neg c, if_neg c, hl _ (nhF_lt (by omega))]
theorem frt_e43 {I I' X : Nat → Nat → Int32} (h : e43 I' X) (k : frt t I X) : frt t I I' := fun a h1 h2 h3 h4 => (h.1 a h1).trans (k a h1 h2 h3 h4)
end
