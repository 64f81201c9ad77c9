/-! ===== L3: the class reads a text ===== -/
def rdF (n : Nat) (T : Nat → Nat) : Nat → Nat → (Nat → Nat → Int32) → Bool → Nat → Nat × Nat × Nat × (Nat → Nat → Int32)
  | 0, p, Z, _, ln => (0, p, ln, Z)
  | m + 1, p, Z, sd, ln => if tkK n T p = 0 then (0, p, ln, Z) else if (lnR Z sd n T p).1 ≠ 0 then ((lnR Z sd n T p).1, (lnR Z sd n T p).2, ln, Z) else if tkK n T (lnR Z sd n T p).2 ≠ 27 then (1, (lnR Z sd n T p).2, ln, Z) else rdF n T m (tkE n T (lnR Z sd n T p).2) (zL Z n T p) (sd || decide (tkK n T p = 12)) (ln + 1)
section
variable {d N : Nat} {Q : Value → am_H → Prop} {r : am_rho} {J : Nat → Nat → Int64} {rt rs t rl nt nw nf n p m : Nat} {T : Nat → Nat} {Z I : Nat → Nat → Int32} {sd : Bool} {ln : Nat}
theorem rdF_S : rdF n T (m + 1) p Z sd ln = (if tkK n T p = 0 then (0, p, ln, Z) else if (lnR Z sd n T p).1 ≠ 0 then ((lnR Z sd n T p).1, (lnR Z sd n T p).2, ln, Z) else if tkK n T (lnR Z sd n T p).2 ≠ 27 then (1, (lnR Z sd n T p).2, ln, Z) else rdF n T m (tkE n T (lnR Z sd n T p).2) (zL Z n T p) (sd || decide (tkK n T p = 12)) (ln + 1)) := rfl
theorem cl_loop (ht : t = 3 ∨ t = 23) : ∀ (m i p : Nat) (Z : Nat → Nat → Int32) (sd : Bool) (ln : Nat) (I : Nat → Nat → Int32) (rl : Nat) (v : Int32), i + m = n → tx I n T → p ≤ n → t_pr I Z t → I 43 3 = nI sd.toNat → I 43 5 = nI ln → tvc n T p v →
    (∀ f q ln' Z' rl' I', rdF n T m p Z sd ln = (f, q, ln', Z') → f ≠ 0 → (rl' = rl ∨ rl' = t + 15) → frt t I I' → I' 43 6 = nI f → I' 43 7 = nI (tkP n T q) → Q (.int (nI 0)) (am_hp N (rt, rs, t, rl', 2, nt, nw, nf) I' J)) →
    (∀ q ln' Z' rl' I', rdF n T m p Z sd ln = (0, q, ln', Z') → (rl' = rl ∨ rl' = t + 15) → frt t I I' → t_pr I' Z' t → I' 43 5 = nI ln' → I' 43 6 = I 43 6 → I' 43 7 = I 43 7 → ∀ x4 : Int32, am_D (d + 18) 79 [.ref (t + 4), .ref (t + 5)] (am_hp N (rt, rs, t, rl', 2, nt, nw, nf) I' J) (fun _ h => am_V (d + 18) Q 31 104 [some (.ref 43), some (.ref 2), some (.int (nI n)), some (.ref t), some (.int x4)] [] h)) →
    am_V (d + 18) Q 31 37 [some (.ref 43), some (.ref 2), some (.int (nI n)), some (.ref t), some (.int (nI i))] [] (am_hp N (rt, rs, t, rl, 2, nt, nw, nf) (tK I n T p v) J) := by
  intro m
  induction m with
  | zero =>
    intro i p Z sd ln I rl v him hx hp hT h3 h5 hv hF hS
    have h7 := hx.1.1
    rw [e_Reader_read_37 (Or.inl rfl) ht ht, am_ifi (nI_leI (by omega) (by omega)), if_pos (by omega)]
    have := hS p ln Z rl (tK I n T p v) rfl (Or.inl rfl) (fun a h1 h2 h3 h4 => tK_row h2) ?_ ?_ ?_ ?_
    · exact this _
    · have e : mix (tK I n T p v) Z = mix I Z := by
        funext a
        by_cases ha : 95 ≤ a ∧ a ≤ 115
        · rw [mix_z ha, mix_z ha]
        · by_cases hc : (2 < a ∧ a < 43) ∨ 2000 < a
          · rw [mix_c hc, mix_c hc, tK_row (by omega)]
          · unfold mix; rw [if_neg ha, if_neg hc, if_neg ha, if_neg hc]
      unfold t_pr; rw [e]; exact hT
    · rw [tK_o (by omega)]; exact h5
    · rw [tK_o (by omega)]
    · rw [tK_o (by omega)]
  | succ m ih =>
    intro i p Z sd ln I rl v him hx hp hT h3 h5 hv hF hS
    have h7 := hx.1.1
    have hk := (tk_pos (T := T) h7 hp).2.2.2.2.2
    rw [rdF_S] at hF hS
    rw [e_Reader_read_37 (Or.inl rfl) ht ht, am_ifi (nI_leI (by omega) (by omega)), if_neg (by omega), tK_3, am_ifi (nI_eq (by omega) (by omega))]
    by_cases c0 : tkK n T p = 0
    · rw [if_pos c0] at hS
      rw [if_pos c0]
      have := hS p ln Z rl (tK I n T p v) rfl (Or.inl rfl) (fun a h1 h2 h3 h4 => tK_row h2) ?_ ?_ ?_ ?_
      · exact this _
      · have e : mix (tK I n T p v) Z = mix I Z := by
          funext a
          by_cases ha : 95 ≤ a ∧ a ≤ 115
          · rw [mix_z ha, mix_z ha]
          · by_cases hc : (2 < a ∧ a < 43) ∨ 2000 < a
            · rw [mix_c hc, mix_c hc, tK_row (by omega)]
            · unfold mix; rw [if_neg ha, if_neg hc, if_neg ha, if_neg hc]
        unfold t_pr; rw [e]; exact hT
      · rw [tK_o (by omega)]; exact h5
      · rw [tK_o (by omega)]
      · rw [tK_o (by omega)]
    · rw [if_neg c0] at hF hS
      rw [if_neg c0]
      refine cl_line (d := d + 2) hx hp hT h3 ?_ ?_
      · intro f q rl' e hf hrl I' g1 g2 g3
        rw [am_asIe, e_Reader_read_57 (Or.inl rfl) ht, am_ifd, if_pos rfl]
        exact hF f q ln Z rl' I' (by rw [e, if_pos hf]) hf hrl g1 g2 g3
      · intro q v' I' rl' e hq hv' hT' g1 g2 g3 g4 g5 hrl
        have hx' : tx I' n T := tx_mv hx (g1 2 (by omega) (by omega) (by omega) (by omega)) (fun a ha => g1 a (by omega) (by omega) (by omega) (by omega))
        have hkq := (tk_pos (T := T) h7 hq).2.2.2.2.2
        rw [e, if_neg (by simp)] at hF hS
        rw [am_asIe, e_Reader_read_57 (Or.inl rfl) ht, am_ifd, if_neg n10, e_Reader_pass, tK_3, am_ifi (nI_eq (by omega) (by omega))]
        by_cases c27 : tkK n T q = 27
        · rw [if_neg (by simp [c27])] at hF hS
          rw [if_pos c27]
          refine cl_adv hx' hq ?_
          intro v2 hv2
          rw [e_Reader_pass_24, am_asIe, e_Reader_read_66 (Or.inl rfl) ht, am_ifn, if_neg n10, tK_o (by omega), g3, h5, nI_add, nI_add, tK_u (by omega)]
          have frU : frt t I' (am_u I' 43 5 (nI (ln + 1))) := frt_u (by omega)
          refine ih (i + 1) (tkE n T q) (zL Z n T p) (sd || decide (tkK n T p = 12)) (ln + 1) (am_u I' 43 5 (nI (ln + 1))) rl' v2 (by omega) (tx_u hx' (by omega) (by omega)) (tkE_le hx' hq) ?_ (by rw [am_uN (by omega)]; exact g2) (by rw [am_uE]) hv2 ?_ ?_
          · have em : mix (am_u I' 43 5 (nI (ln + 1))) (zL Z n T p) = mix I' (zL Z n T p) := by
              funext a
              by_cases ha : 95 ≤ a ∧ a ≤ 115
              · rw [mix_z ha, mix_z ha]
              · by_cases hc : (2 < a ∧ a < 43) ∨ 2000 < a
                · rw [mix_c hc, mix_c hc, am_uRow (by omega)]
                · unfold mix; rw [if_neg ha, if_neg hc, if_neg ha, if_neg hc]
            unfold t_pr; rw [em]; exact hT'
          · intro f q' ln' Z' rl2 I2 k1 k2 k3 k4 k5 k6
            exact hF f q' ln' Z' rl2 I2 k1 k2 (by omega) (frt_tr g1 (frt_tr frU k4)) k5 k6
          · intro q' ln' Z' rl2 I2 k1 k3 k4 k5 k6 k7 k8
            exact hS q' ln' Z' rl2 I2 k1 (by omega) (frt_tr g1 (frt_tr frU k4)) k5 k6 (by rw [k7, am_uN (by omega), g4]) (by rw [k8, am_uN (by omega), g5])
        · rw [if_pos c27] at hF
          rw [if_neg c27]
          refine cl_fail ?_
          intro I2 k1 k2 k3
          rw [am_asIe, e_Reader_pass_16, am_gT (by rfl), am_asIe, e_Reader_read_66 (Or.inl rfl) ht, am_ifn, if_pos rfl]
          exact hF 1 q ln Z rl' I2 rfl (by omega) hrl (fun a h1 h2 h3 h4 => (k1 a h1 h2).trans (g1 a h1 h2 h3 h4)) k2 k3
end
