/-! ===== L3: the model reads a law line, 2 ===== -/
section
variable {d N : Nat} {Q : Value → am_H → Prop} {r : am_rho} {I Z : Nat → Nat → Int32} {J : Nat → Nat → Int64} {n p : Nat} {T : Nat → Nat} {v : Int32}
theorem md_law1 {hs : Nat → Bool} {kn : Nat} (hx : txm I n T) (hp : tkE n T p ≤ n) (hv : tvm n T (tkE n T p) v)
    (hb : ∀ k, k < 3 → ((((I 93 24) >>> ((nI 16 + nI k) &&& nI 31)) &&& nI 1) = nI 1 ↔ hs k = true))
    (hF : ∀ f q, ln13 n T p hs kn = (f, q) → f ≠ 0 → Q .null (am_hp N r (mS I n T (f, q) v) J))
    (hS : ∀ ru v', ru < 3 → tkK n T (tkE n T p) = 14 + ru → hs ru = false → tvm n T (tkE n T (tkE n T p)) v' → am_V (d + 8) Q 186 92 [some (.ref 93), some (.int (nI ru))] [] (am_hp N r (mS (am_u I 93 24 ((I 93 24) ||| ((nI 1) <<< (((nI 16) + nI ru) &&& nI 31)))) n T (0, tkE n T (tkE n T p)) v') J)) :
    am_D (d + 9) 186 [.ref 93] (am_hp N r (mS I n T (0, tkE n T p) v) J) Q := by
  have h7 := hx.1.1
  obtain ⟨k1, k2, k3, k4, k5, k6⟩ := tk_pos (T := T) h7 hp
  obtain ⟨t2, t1, t0, t3, t4, t6⟩ := tso_t (tkK n T (tkE n T p)) k6
  have z9 : ((0, tkE n T p) : Nat × Nat).1 ≤ 9 := Nat.zero_le _
  unfold ln13 at hF
  have bad : (tkK n T (tkE n T p) < 14 ∨ 16 < tkK n T (tkE n T p)) → am_D (d + 8) 168 [.ref 93, .int (nI 1)] (am_hp N r (mS I n T (0, tkE n T p) v) J) (fun _ h => am_V (d + 8) Q 186 30 [some (.ref 93), none] [] h) := by
    intro c
    rw [md_wrong (by omega) z9]
    show am_V (d + 8) Q 186 30 _ [] (am_hp N r (mS I n T (1, tkE n T p) v) J)
    have e1 : ¬ nI ((1, tkE n T p) : Nat × Nat).1 = nI 0 := by show ¬ nI 1 = nI 0; decide
    rw [e_M_lawLine_30, mS_31, am_ifn, if_neg e1, e_M_lawLine_65, mS_31, am_ifd, if_neg e1]
    exact hF 1 _ (by rw [if_pos c]) (by omega)
  rw [e_M_lawLine, mS_29p, mS_30, am_ifni (nI_eq (by omega) (by omega))]
  by_cases c0 : tso (tkK n T (tkE n T p)) = 0
  · have hk := t0.mp c0
    have hvv : v = nI (tkK n T (tkE n T p) - 4) := hv.1 hk.1 hk.2
    rw [if_pos c0, hvv, am_ifi (nI_ltI (by omega) (by omega)), am_ifi (nI_leI (by omega) (by omega)), ← hvv]
    by_cases c1 : tkK n T (tkE n T p) - 4 < 10
    · rw [if_pos c1]; exact bad (by omega)
    rw [if_neg c1]
    by_cases c2 : tkK n T (tkE n T p) - 4 ≤ 12
    · rw [if_pos c2]
      obtain ⟨ru, hru⟩ : ∃ ru, tkK n T (tkE n T p) = 14 + ru := ⟨tkK n T (tkE n T p) - 14, by omega⟩
      have hr3 : ru < 3 := by omega
      have e1 : v - nI 10 = nI ru := by rw [hvv, am_subN (by omega), show tkK n T (tkE n T p) - 4 - 10 = ru by omega]
      rw [if_neg (show ¬ (tkK n T (tkE n T p) < 14 ∨ 16 < tkK n T (tkE n T p)) by omega), show tkK n T (tkE n T p) - 14 = ru by omega] at hF
      rw [e_M_lawLine_30, mS_31, am_ifn, if_pos rfl, mS_30, e1, mS_o (by omega), am_ifn]
      cases ch : hs ru with
      | true =>
        rw [if_pos ((hb ru hr3).mpr ch), md_wrong (by omega) z9]
        show am_V (d + 8) Q 186 65 _ [] (am_hp N r (mS I n T (3, tkE n T p) v) J)
        have e3 : ¬ nI ((3, tkE n T p) : Nat × Nat).1 = nI 0 := by show ¬ nI 3 = nI 0; decide
        rw [e_M_lawLine_65, mS_31, am_ifd, if_neg e3]
        exact hF 3 _ (by rw [if_pos ch]) (by omega)
      | false =>
        rw [if_neg (fun g => by have := (hb ru hr3).mp g; rw [ch] at this; cases this), e_M_lawLine_65, mS_31, am_ifd, if_pos rfl, mS_o (by omega), mS_u (by omega)]
        refine md_tok (d := d + 1) (txm_f hx (frm_u (by omega))) hp ?_
        intro v' hv'
        exact hS ru v' hr3 hru ch hv'
    · rw [if_neg c2]; exact bad (by omega)
  · rw [if_neg c0]; exact bad (by omega)
end
