/-! ===== L3: known, sight, strike ===== -/
section
variable {d N : Nat} {Q : Value → am_H → Prop} {r : am_rho} {I : Nat → Nat → Int32} {J : Nat → Nat → Int64}
/-- what stands again behind a change among the sights -/
theorem inv_sig {I' : Nat → Nat → Int32} (hv : i_inv r I J) (h1 : ∀ a, a < 72 ∨ (77 ≤ a ∧ a < 93) ∨ (94 ≤ a ∧ a < 132) ∨ 135 < a → I' a = I a) (h2 : ∀ k, k ≠ 0 → k ≠ 69 → k ≠ 70 → I' 93 k = I 93 k) (hs : i_sig I') : i_inv r I' J := by
  have hok := hv.2.1.1.2.1
  have hte : te I I' := fun a x y => h1 a (by omega)
  refine inv_row hv hte (fun a x y => h1 a (by omega)) (fun a x => h1 a (by omega)) (h1 63 (by omega)) rfl (fun k x y => h2 k (by omega) (by omega) (by omega)) ?_ ?_ ?_ hs ?_ ?_
  · exact f_now hok hte (fun a x y => h1 a (by omega)) (by rw [g_row (fun a x y => h1 a (by omega))]; exact wq_refl) hv.2.2.2.1
  · exact f_img hok hte (fun a x y => h1 a (by omega)) (by rw [h1 1 (by omega)]) (h2 50 (by omega) (by omega) (by omega)) (by rw [g_row (fun a x y => h1 a (by omega))]; exact wq_refl) hv.2.2.2.2.1
  · exact f_und hok hte (by rw [h1 77 (by omega)]) (fun a x y => h1 a (by omega)) (h2 51 (by omega) (by omega) (by omega)) (fun n _ _ _ => by rw [g_row (fun a x y => h1 a (by omega))]; exact wq_refl) hv.2.2.2.2.2.1
  · exact f_tap (by rw [h1 1 (by omega)]) (h2 2 (by omega) (by omega) (by omega)) (h1 94 (by omega)) (h1 2 (by omega)) hv.2.2.2.2.2.2.2.1
  · exact f_flt ⟨by rw [h1 43 (by omega)], by rw [h1 43 (by omega)]⟩ ⟨h2 33 (by omega) (by omega) (by omega), h2 34 (by omega) (by omega) (by omega)⟩ hv.2.2.2.2.2.2.2.2.1
theorem op_known {a : Int32} (hv : i_inv r I J) : op2 (d + 12) N 135 254 [.int a] r I J := by
  obtain ⟨n, hn, a1, a2, a3, a4, a5⟩ := hv.2.2.2.2.2.2.1
  by_cases c1 : a < -nI 1
  · refine op2_q (v := .int (nI 0)) hv (iv_ans hv ?_) ?_
    · intro Q hQ
      rw [e_S_known]
      simp only [am_ifd]
      rw [if_pos c1]
      exact hQ
    · intro r' I' J' hv' he
      refine iv_mans ?_
      intro Q hQ
      rw [e_M_known]
      simp only [am_ifd]
      rw [if_pos c1]
      exact hQ
  · by_cases c2 : a ≤ nI n
    · intro Q hQ
      rw [e_S_known, a1]
      simp only [am_ifd]
      rw [if_neg c1, if_pos c2, e_M_known, am_uN (by omega), am_uN (by omega), a2]
      simp only [am_ifd]
      rw [if_neg c1, if_pos c2]
      refine hQ _ _ _ _ (inv_sig hv ?_ ?_ ?_)
      · intro x hx
        rw [am_uRow (by omega), am_uRow (by omega), am_uRow (by omega)]
      · intro k k0 k69 k70
        rw [am_uN (by omega), am_uN (by omega), am_uN (by omega)]
      · refine ⟨n, hn, ?_, ?_, ?_, ?_, ?_⟩
        · rw [am_uN (by omega), am_uN (by omega), am_uN (by omega)]; exact a1
        · rw [am_uN (by omega), am_uN (by omega), am_uN (by omega)]; exact a2
        · rw [am_uN (by omega), am_uN (by omega), am_uE, am_uE]
        · rw [am_uE]
          have hm : (-nI 1).toInt = -1 := by decide +kernel
          rw [fa_lt, hm] at c1
          rw [fa_le, nI_toInt (by omega)] at c2
          by_cases e : a.toInt = -1
          · left; rw [fa_eq, hm]; exact e
          · right
            refine ⟨a.toInt.toNat, by omega, ?_⟩
            rw [fa_eq, nI_toInt (by omega)]
            omega
        · intro k hk
          have z : ∀ {x i : Nat}, x ≠ 93 → x ≠ 72 → am_u (am_u (am_u I 72 1 a) 93 0 (nI 0)) 93 70 a x i = I x i := by
            intro x i h1 h2
            rw [am_uN (by omega), am_uN (by omega), am_uN (by omega)]
          have e95 : am_u (am_u (am_u I 72 1 a) 93 0 (nI 0)) 93 70 a 95 = I 95 := by
            rw [am_uRow (by omega), am_uRow (by omega), am_uRow (by omega)]
          rw [z (by omega) (by omega), z (by omega) (by omega), z (by omega) (by omega), z (by omega) (by omega), z (by omega) (by omega), z (by omega) (by omega), z (by omega) (by omega), z (by omega) (by omega), q_nZ e95, q_nH e95]
          exact a5 k hk
    · refine op2_q (v := .int (nI 0)) hv (iv_ans hv ?_) ?_
      · intro Q hQ
        rw [e_S_known, a1]
        simp only [am_ifd]
        rw [if_neg c1, if_neg c2]
        exact hQ
      · intro r' I' J' hv' he
        refine iv_mans ?_
        intro Q hQ
        rw [e_M_known, am_uN (by omega), he 93 (by omega), a2]
        simp only [am_ifd]
        rw [if_neg c1, if_neg c2]
        exact hQ
/-- the class adds one -/
theorem s_Si_add {n : Nat} {x y z : Int32} (h : I 72 0 = nI n) (hn : n < 24) : am_D (d + 1) 57 [.ref 72, .int x, .int y, .int z] (am_hp N r I J) Q = Q (.int (nI n)) (am_hp N r (am_u (am_u (am_u (am_u (am_u I 73 n x) 74 n y) 75 n z) 76 n (-nI 1)) 72 0 (nI (n + 1))) J) := by
  have u : ∀ {I : Nat → Nat → Int32} {a k : Nat} {v : Int32}, a ≠ 72 → am_u I a k v 72 0 = I 72 0 := fun h => am_uN (by omega)
  rw [e_Sights_add]
  simp (disch := omega) only [u, am_uE, h, nI_clamp, am_gI, am_ifd, nI_ltI, nI_add]
  rw [if_pos (by omega), am_subN (by omega), show n + 1 - 1 = n by omega]
theorem s_Si_addF {x y z : Int32} (h : I 72 0 = nI 24) : am_D (d + 1) 57 [.ref 72, .int x, .int y, .int z] (am_hp N r I J) Q = Q (.int (-nI 1)) (am_hp N r I J) := by
  rw [e_Sights_add, h, am_ifd, if_neg (by decide +kernel)]
end
