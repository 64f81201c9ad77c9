/-! ===== L3: the model reads a law line, 3 ===== -/
section
variable {d N : Nat} {Q : Value → am_H → Prop} {r : am_rho} {I Z : Nat → Nat → Int32} {J : Nat → Nat → Int64} {n p ln : Nat} {T : Nat → Nat} {v : Int32}
/-- what a law line leaves of the rows -/
theorem mV_law {I1 I' : Nat → Nat → Int32} {ru kn' : Nat} {R : List Nat} {x : Int32} (hru : ru < 3) (hV : mV I Z) (hk' : kn' ≤ 64) (hR : m_kn Z + R.length = kn') (fr1 : ∀ a, a ≠ 93 → a ≠ 112 → I1 a = I a) (e12 : ∀ j, j ≠ 3 + ru → I1 112 j = I 112 j) (e12' : I1 112 (3 + ru) = nI (m_kn Z)) (fe : frE (m_kn Z) I1 I') (hM : mwU I' (m_kn Z) R) (h13 : I' 95 13 = nI kn') (hx : x = nI kn') : mV (am_u I' 113 (3 + ru) x) (z13 ru (m_kn Z) kn' R Z) := sorry
theorem ln13_t {hs : Nat → Bool} {kn ru : Nat} (hru : ru < 3) (hk : tkK n T (tkE n T p) = 14 + ru) (hh : hs ru = false) : ln13 n T p hs kn = ((sy n T 701 (tkE n T (tkE n T p)) [] [false] true true kn []).1, (sy n T 701 (tkE n T (tkE n T p)) [] [false] true true kn []).2.1) := by
  unfold ln13
  rw [if_neg (by omega), show tkK n T (tkE n T p) - 14 = ru by omega, if_neg (by rw [hh]; exact Bool.false_ne_true)]
theorem ln13_9 {hs : Nat → Bool} {kn : Nat} : (ln13 n T p hs kn).1 ≤ 9 := by
  unfold ln13
  split
  · show 1 ≤ 9; omega
  · split
    · show 3 ≤ 9; omega
    · have := @sy_f n T 701 (tkE n T (tkE n T p)) [] [false] true true kn []
      show (sy n T 701 (tkE n T (tkE n T p)) [] [false] true true kn []).1 ≤ 9
      omega
/-- a law line, behind its word -/
theorem md_law2 (hx : txm I n T) (hz : zok Z) (hV : mV I Z) (hp : tkE n T p ≤ n) (hv : tvm n T (tkE n T p) v) (hop : I 93 35 = nI 0) (hkn : I 93 36 = nI (m_kn Z)) (hb : ∀ k, k < 3 → bt (I 93 24) (16 + k) = m_has Z k)
    (hF : ∀ f q I' v', ln13 n T p (m_has Z) (m_kn Z) = (f, q) → f ≠ 0 → frm I I' → Q .null (am_hp N r (mS I' n T (f, q) v') J))
    (hB : ∀ q I' v', ln13 n T p (m_has Z) (m_kn Z) = (1, q) → tkK n T q ≠ 27 → q ≤ n → frm I I' → tvm n T q v' → I' 93 25 = I 93 25 → Q .null (am_hp N r (mS I' n T (0, q) v') J))
    (hG : ∀ ru kn' R' q I' v', ru < 3 → tkK n T (tkE n T p) = 14 + ru → m_has Z ru = false → sy n T 701 (tkE n T (tkE n T p)) [] [false] true true (m_kn Z) [] = (0, q, kn', R') → ln13 n T p (m_has Z) (m_kn Z) = (0, q) → tkK n T q = 27 → q ≤ n → frm I I' → tvm n T q v' → I' 93 24 = I 93 24 ||| am_pw (16 + ru) → I' 93 25 = I 93 25 → I' 93 35 = nI 0 → I' 93 36 = nI kn' → m_kn Z ≤ kn' → kn' ≤ 64 → mV I' (z13 ru (m_kn Z) kn' R' Z) → Q .null (am_hp N r (mS I' n T (0, q) v') J)) :
    am_D (d + 150) 186 [.ref 93] (am_hp N r (mS I n T (0, tkE n T p) v) J) Q := sorry
/-- a law line, whole -/
theorem md_lawV (hx : txm I n T) (hz : zok Z) (hV : mV I Z) (hp : tkE n T p ≤ n) (hv : tvm n T (tkE n T p) v) (hln : I 93 25 = nI ln) (hop : I 93 35 = nI 0) (hkn : I 93 36 = nI (m_kn Z)) (hb : ∀ k, k < 3 → bt (I 93 24) (16 + k) = m_has Z k)
    (hF : lnE N r J Q I n T (ln13 n T p (m_has Z) (m_kn Z)))
    (hS : ∀ ru kn' R' q v' I', ru < 3 → tkK n T (tkE n T p) = 14 + ru → m_has Z ru = false → sy n T 701 (tkE n T (tkE n T p)) [] [false] true true (m_kn Z) [] = (0, q, kn', R') → ln13 n T p (m_has Z) (m_kn Z) = (0, q) → tkK n T q = 27 → tvm n T (tkE n T q) v' → frm I I' → I' 93 24 = I 93 24 ||| am_pw (16 + ru) → I' 93 25 = nI (ln + 1) → I' 93 35 = nI 0 → I' 93 36 = nI kn' → m_kn Z ≤ kn' → kn' ≤ 64 → mV I' (z13 ru (m_kn Z) kn' R' Z) → Q .null (am_hp N r (mS I' n T (0, tkE n T q) v') J)) :
    am_V (d + 150) Q 182 90 [some (.ref 93), some (.int (nI 9)), none, none, none, none] [] (am_hp N r (mS I n T (0, tkE n T p) v) J) := by
  rw [e_M_line_90, am_ifd, if_neg (by decide +kernel), am_ifd, if_neg (by decide +kernel), am_ifd, if_neg (by decide +kernel), am_ifd, if_neg (by decide +kernel), am_ifd, if_neg (by decide +kernel), am_ifd, if_neg (by decide +kernel), am_ifd, if_neg (by decide +kernel), am_ifd, if_neg (by decide +kernel), am_ifd, if_neg (by decide +kernel)]
  refine md_law2 hx hz hV hp hv hop hkn hb ?_ ?_ ?_
  · intro f q I' v' e hf fr
    have h9 : f ≤ 9 := by have := @ln13_9 n p T (m_has Z) (m_kn Z); rw [e] at this; exact this
    rw [e_M_line_462, mS_31, am_ifi (nI_eq (by show f < _; omega) (by omega)), if_neg (show ¬ (f, q).1 = 0 from hf)]
    have := hF f I' v' (Or.inl ⟨by rw [e]; exact hf, by rw [e]⟩) fr
    rw [e] at this
    exact this
  · intro q I' v' e h27 hq fr hv' h25
    refine md_462 (d := d + 143) (ln := ln) (o2 := none) (o3 := none) (o4 := none) (o5 := none) (txm_f hx fr) hq (Nat.zero_le _) hv' (by rw [h25]; exact hln) ?_ ?_
    · intro f I2 v2 h1 fr2
      have hf1 : f = 1 := by
        rcases h1 with ⟨a1, a2⟩ | ⟨a1, a2, a3⟩
        · exact absurd rfl a1
        · exact a3
      have := hF 1 I2 v2 (Or.inl ⟨by rw [e]; show (1 : Nat) ≠ 0; omega, by rw [e]⟩) (frm_tr fr fr2)
      rw [e] at this
      rw [hf1]
      exact this
    · intro v2 h1 h2 h3
      exact absurd h2 h27
  · intro ru kn' R' q I' v' hru hk hh es e h27 hq fr hv' h24 h25 h35 h36 hk1 hk2 hV'
    refine md_462 (d := d + 143) (ln := ln) (o2 := none) (o3 := none) (o4 := none) (o5 := none) (txm_f hx fr) hq (Nat.zero_le _) hv' (by rw [h25]; exact hln) ?_ ?_
    · intro f I2 v2 h1 fr2
      rcases h1 with ⟨a1, a2⟩ | ⟨a1, a2, a3⟩
      · exact absurd rfl a1
      · exact absurd h27 a2
    · intro v2 h1 h2 h3
      refine hS ru kn' R' q v2 _ hru hk hh es e h27 h3 (frm_tr fr (frm_u (by omega))) ?_ ?_ ?_ ?_ hk1 hk2 (mV_o (by omega) hV')
      · rw [am_uN (by omega)]; exact h24
      · rw [am_uE]
      · rw [am_uN (by omega)]; exact h35
      · rw [am_uN (by omega)]; exact h36
end
