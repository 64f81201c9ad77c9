/-! ===== L3: a line, told to the class (by mkln.py) ===== -/
section
variable {d N : Nat} {Q : Value → am_H → Prop} {r : am_rho} {I Z : Nat → Nat → Int32} {J : Nat → Nat → Int64} {rt rs t rl nt nw nf n p : Nat} {T : Nat → Nat} {v : Int32} {sd : Bool}
theorem rwz_o {st : Nat} : ∀ {R : List Nat} {Z : Nat → Nat → Int32} {a j : Nat}, (a ≠ 114 ∧ a ≠ 115) ∨ j < st → rwz st R Z a j = Z a j
  | [], Z, a, j, _ => rfl
  | x :: R, Z, a, j, h => by
    show am_u (am_u (rwz st R Z) 114 (st + R.length) (nI (cso x))) 115 (st + R.length) (nI (cva x)) a j = Z a j
    rw [am_uN (by omega), am_uN (by omega)]
    exact rwz_o h
theorem rwz_m {st : Nat} : ∀ {R : List Nat} {Z : Nat → Nat → Int32}, mwl (rwz st R Z) st R
  | [], Z => trivial
  | x :: R, Z => by
    refine ⟨⟨?_, ?_⟩, ?_⟩
    · show am_u (am_u (rwz st R Z) 114 (st + R.length) (nI (cso x))) 115 (st + R.length) (nI (cva x)) 114 (st + R.length) = _
      rw [am_uN (by omega), am_uE]
    · show am_u (am_u (rwz st R Z) 114 (st + R.length) (nI (cso x))) 115 (st + R.length) (nI (cva x)) 115 (st + R.length) = _
      rw [am_uE]
    · have key : ∀ (R' : List Nat) (Y Y' : Nat → Nat → Int32), (∀ i, i < st + R'.length → Y' 114 i = Y 114 i ∧ Y' 115 i = Y 115 i) → mwl Y st R' → mwl Y' st R' := by
        intro R'
        induction R' with
        | nil => intro _ _ _ _; trivial
        | cons y R' ih =>
          intro Y Y' h k
          have h1 := h (st + R'.length) (by show st + R'.length < st + (R'.length + 1); omega)
          exact ⟨⟨h1.1.trans k.1.1, h1.2.trans k.1.2⟩, ih Y Y' (fun i hi => h i (by show i < st + (R'.length + 1); omega)) k.2⟩
      refine key R (rwz st R Z) _ (fun i hi => ?_) rwz_m
      show am_u (am_u (rwz st R Z) 114 (st + R.length) (nI (cso x))) 115 (st + R.length) (nI (cva x)) 114 i = _ ∧ am_u (am_u (rwz st R Z) 114 (st + R.length) (nI (cso x))) 115 (st + R.length) (nI (cva x)) 115 i = _
      rw [am_uN (by omega), am_uN (by omega), am_uN (by omega), am_uN (by omega)]
      exact ⟨rfl, rfl⟩
theorem mwl_c {st : Nat} : ∀ {R : List Nat} {Y Y' : Nat → Nat → Int32}, (∀ i, i < st + R.length → Y' 114 i = Y 114 i ∧ Y' 115 i = Y 115 i) → mwl Y st R → mwl Y' st R
  | [], _, _, _, _ => trivial
  | y :: R, Y, Y', h, k => by
    have h1 := h (st + R.length) (by show st + R.length < st + (R.length + 1); omega)
    exact ⟨⟨h1.1.trans k.1.1, h1.2.trans k.1.2⟩, mwl_c (fun i hi => h i (by show i < st + (R.length + 1); omega)) k.2⟩
theorem lnR_4 (h : tkK n T p = 4) : lnR Z sd n T p = ln4 n T p (Z 96) (m_nH Z) := by unfold lnR; rw [if_pos h]
theorem lnR_5 (h : tkK n T p = 5) : lnR Z sd n T p = ln5 n T p (Z 96) (m_nH Z) (m_nS Z) (wyZ Z) := by unfold lnR; rw [if_neg (by omega), if_pos h]
theorem lnR_6 (h : tkK n T p = 6) : lnR Z sd n T p = ln6 n T p (Z 96) (Z 103) (m_nH Z) (m_nZ Z) := by unfold lnR; rw [if_neg (by omega), if_neg (by omega), if_pos h]
theorem lnR_7 (h : tkK n T p = 7) : lnR Z sd n T p = ln7 n T p (Z 96) (Z 103) (m_nH Z) (m_nZ Z) (m_nL Z) := by unfold lnR; rw [if_neg (by omega), if_neg (by omega), if_neg (by omega), if_pos h]
theorem lnR_8 (h : tkK n T p = 8) : lnR Z sd n T p = ln8 n T p (Z 96) (m_nH Z) (m_nA Z) := by unfold lnR; rw [if_neg (by omega), if_neg (by omega), if_neg (by omega), if_neg (by omega), if_pos h]
theorem lnR_9 (h : tkK n T p = 9) : lnR Z sd n T p = ln9 n T p (Z 96) (m_nH Z) (fun h => decide (¬ Z 97 h ≤ nI 0)) := by unfold lnR; rw [if_neg (by omega), if_neg (by omega), if_neg (by omega), if_neg (by omega), if_neg (by omega), if_pos h]
theorem lnR_10 (h : tkK n T p = 10) : lnR Z sd n T p = ln10 n T p (Z 96) (m_nH Z) (fun h => decide (¬ Z 98 h ≤ nI 0)) := by unfold lnR; rw [if_neg (by omega), if_neg (by omega), if_neg (by omega), if_neg (by omega), if_neg (by omega), if_neg (by omega), if_pos h]
theorem lnR_11 (h : tkK n T p = 11) : lnR Z sd n T p = ln9 n T p (Z 96) (m_nH Z) (fun h => decide (¬ Z 99 h ≤ nI 0)) := by unfold lnR; rw [if_neg (by omega), if_neg (by omega), if_neg (by omega), if_neg (by omega), if_neg (by omega), if_neg (by omega), if_neg (by omega), if_pos h]
theorem lnR_12 (h : tkK n T p = 12) : lnR Z sd n T p = ln12 n T p sd := by unfold lnR; rw [if_neg (by omega), if_neg (by omega), if_neg (by omega), if_neg (by omega), if_neg (by omega), if_neg (by omega), if_neg (by omega), if_neg (by omega), if_pos h]
theorem lnR_13 (h : tkK n T p = 13) : lnR Z sd n T p = ln13 n T p (m_has Z) (m_kn Z) := by unfold lnR; rw [if_neg (by omega), if_neg (by omega), if_neg (by omega), if_neg (by omega), if_neg (by omega), if_neg (by omega), if_neg (by omega), if_neg (by omega), if_neg (by omega), if_pos h]
theorem zL_4 (h : tkK n T p = 4) : zL Z n T p = z4 (m_nH Z) (tkN n T (tkE n T p)) Z := by unfold zL; rw [if_pos h]
theorem zL_5 (h : tkK n T p = 5) : zL Z n T p = z5 (m_nS Z) (nhI (Z 96) (m_nH Z) n T (tkE n T p)) (nhI (Z 96) (m_nH Z) n T (tkE n T (tkE n T p))) (tkV n T (tkE n T (tkE n T (tkE n T p)))) Z := by unfold zL; rw [if_neg (by omega), if_pos h]
theorem zL_6 (h : tkK n T p = 6) : zL Z n T p = z6 (m_nZ Z) (tkN n T (tkE n T p)) (nhI (Z 96) (m_nH Z) n T (tkE n T (tkE n T p))) (tkV n T (tkE n T (tkE n T (tkE n T p)))) (nhI (Z 96) (m_nH Z) n T (tkE n T (tkE n T (tkE n T (tkE n T p))))) Z := by unfold zL; rw [if_neg (by omega), if_neg (by omega), if_pos h]
theorem zL_7 (h : tkK n T p = 7) : zL Z n T p = z7 (m_nL Z) (nhI (Z 103) (m_nZ Z) n T (tkE n T p)) (nhI (Z 96) (m_nH Z) n T (tkE n T (tkE n T p))) Z := by unfold zL; rw [if_neg (by omega), if_neg (by omega), if_neg (by omega), if_pos h]
theorem zL_8 (h : tkK n T p = 8) : zL Z n T p = z8 (m_nA Z) (nhI (Z 96) (m_nH Z) n T (tkE n T p)) (tkV n T (tkE n T (tkE n T p))) (tkV n T (tkE n T (tkE n T (tkE n T p)))) Z := by unfold zL; rw [if_neg (by omega), if_neg (by omega), if_neg (by omega), if_neg (by omega), if_pos h]
theorem zL_9 (h : tkK n T p = 9) : zL Z n T p = am_u Z 97 (nhI (Z 96) (m_nH Z) n T (tkE n T p)) (nI (tkV n T (tkE n T (tkE n T p)))) := by unfold zL; rw [if_neg (by omega), if_neg (by omega), if_neg (by omega), if_neg (by omega), if_neg (by omega), if_pos h]
theorem zL_10 (h : tkK n T p = 10) : zL Z n T p = am_u Z 98 (nhI (Z 96) (m_nH Z) n T (tkE n T p)) (nI 1) := by unfold zL; rw [if_neg (by omega), if_neg (by omega), if_neg (by omega), if_neg (by omega), if_neg (by omega), if_neg (by omega), if_pos h]
theorem zL_11 (h : tkK n T p = 11) : zL Z n T p = am_u Z 99 (nhI (Z 96) (m_nH Z) n T (tkE n T p)) (nI (tkV n T (tkE n T (tkE n T p)))) := by unfold zL; rw [if_neg (by omega), if_neg (by omega), if_neg (by omega), if_neg (by omega), if_neg (by omega), if_neg (by omega), if_neg (by omega), if_pos h]
theorem zL_12 (h : tkK n T p = 12) : zL Z n T p = am_u Z 95 5 (nI (tkV n T (tkE n T p))) := by unfold zL; rw [if_neg (by omega), if_neg (by omega), if_neg (by omega), if_neg (by omega), if_neg (by omega), if_neg (by omega), if_neg (by omega), if_neg (by omega), if_pos h]
theorem zL_13 (h : tkK n T p = 13) : zL Z n T p = z13 (tkK n T (tkE n T p) - 14) (m_kn Z) (sy n T 701 (tkE n T (tkE n T p)) [] [false] true true (m_kn Z) []).2.2.1 (sy n T 701 (tkE n T (tkE n T p)) [] [false] true true (m_kn Z) []).2.2.2 Z := by unfold zL; rw [if_neg (by omega), if_neg (by omega), if_neg (by omega), if_neg (by omega), if_neg (by omega), if_neg (by omega), if_neg (by omega), if_neg (by omega), if_neg (by omega)]
theorem cl_line (hx : tx I n T) (hp : p ≤ n) (hT : t_pr I Z t) (hsd : I 43 3 = nI sd.toNat)
    (hF : ∀ f q rl', lnR Z sd n T p = (f, q) → f ≠ 0 → (rl' = rl ∨ rl' = t + 15) → fltt t N (rt, rs, t, rl', 2, nt, nw, nf) J Q I f (tkP n T q))
    (hS : ∀ q v' I' rl', lnR Z sd n T p = (0, q) → q ≤ n → tvc n T q v' → t_pr I' (zL Z n T p) t → frt t I I' → I' 43 3 = nI (sd || decide (tkK n T p = 12)).toNat → I' 43 5 = I 43 5 → I' 43 6 = I 43 6 → I' 43 7 = I 43 7 → (rl' = rl ∨ rl' = t + 15) → Q (.int (nI 1)) (am_hp N (rt, rs, t, rl', 2, nt, nw, nf) (tK I' n T q v') J)) :
    am_D (d + 16) 34 [.ref 43] (am_hp N (rt, rs, t, rl, 2, nt, nw, nf) (tK I n T p v) J) Q := by
  obtain ⟨ht, ⟨m0, m0'⟩, ⟨m1, m1'⟩, ⟨m2, m2'⟩, ⟨m3, m3'⟩, ⟨m4, m4'⟩, hn, zn, wy, be, ct, ⟨k0, k1, k64⟩, hs, us, ro⟩ := tpr_f hT
  have hk := (tk_pos (T := T) hx.1.1 hp).2.2.2.2.2
  have hp1 := tkE_le hx hp
  have hp2 := tkE_le hx hp1
  have hp3 := tkE_le hx hp2
  have hp4 := tkE_le hx hp3
  have hp5 := tkE_le hx hp4
  rw [e_Reader_readLine ht, tK_3, am_ifi (nI_eq (b := 4) (by omega) (by omega)), am_ifi (nI_eq (b := 5) (by omega) (by omega)), am_ifi (nI_eq (b := 6) (by omega) (by omega)), am_ifi (nI_eq (b := 7) (by omega) (by omega)), am_ifi (nI_eq (b := 8) (by omega) (by omega)), am_ifi (nI_eq (b := 9) (by omega) (by omega)), am_ifi (nI_eq (b := 10) (by omega) (by omega)), am_ifi (nI_eq (b := 11) (by omega) (by omega)), am_ifi (nI_eq (b := 12) (by omega) (by omega)), am_ifi (nI_eq (b := 13) (by omega) (by omega))]
  by_cases c4 : tkK n T p = 4
  · rw [if_pos c4]
    have hR := lnR_4 (Z := Z) (sd := sd) c4
    have hZ := zL_4 (Z := Z) c4
    rw [hR] at hF hS
    rw [hZ] at hS
    refine cl_house hx ht hp m0 m0' ?_ ?_
    · intro f q e hf I' h1 h2 h3
      rw [am_asIe, e_Reader_readLine_64, am_gT (by rfl)]
      exact hF f q rl ((ln4_c hn).symm.trans e) hf (Or.inl rfl) I' h1 h2 h3
    · intro q v' I' e hv' he
      rw [ln4_c hn] at e
      rw [am_asIe, e_Reader_readLine_64, am_gT (by rfl)]
      have e0 := e
      unfold ln4 at e0
      have g0 : ¬ (m_nH Z = 8) := by
        intro g
        rw [if_pos g] at e0
        have e1 := congrArg Prod.fst e0
        have e2 : (_ : Nat) = 0 := e1
        first | omega | exact absurd e2 (by decide)
      rw [if_neg g0] at e0
      have g1 : ¬ (nfF (Z 96) (m_nH Z) n T (tkE n T p) ≠ 0) := by
        intro g
        rw [if_pos g] at e0
        have e1 := congrArg Prod.fst e0
        have e2 : (_ : Nat) = 0 := e1
        first | omega | exact absurd e2 (by decide)
      rw [if_neg g1] at e0
      have hq := congrArg Prod.snd e0
      have hq' : _ = q := hq
      refine hS q v' I' rl e (by rw [← hq']; exact hp2) hv' ?_ (frt_e43 he (by unfold uL4; exact frt_tr (frt_u (by omega)) (frt_u (by omega)))) (by rw [he.2.1]; unfold uL4; try simp (config := {maxSteps := 1000000}) (disch := omega) only [nI_add, nI_1, am_mulN, nI_clamp, am_gI, am_ifd, am_ifn, am_asIe, am_asLe, nI_leI, nI_ltI, nI_eq, am_neg1, am_neg1b, tK_u, tK_o, tK_1, tK_2, tK_3, tK_4, tK_5, am_uE, am_uN, hsd]; rw [decide_eq_false (by omega), Bool.or_false]) (by rw [he.2.2.1]; unfold uL4; try simp (config := {maxSteps := 1000000}) (disch := omega) only [nI_add, nI_1, am_mulN, nI_clamp, am_gI, am_ifd, am_ifn, am_asIe, am_asLe, nI_leI, nI_ltI, nI_eq, am_neg1, am_neg1b, tK_u, tK_o, tK_1, tK_2, tK_3, tK_4, tK_5, am_uE, am_uN]) (by rw [he.2.2.2.1]; unfold uL4; try simp (config := {maxSteps := 1000000}) (disch := omega) only [nI_add, nI_1, am_mulN, nI_clamp, am_gI, am_ifd, am_ifn, am_asIe, am_asLe, nI_leI, nI_ltI, nI_eq, am_neg1, am_neg1b, tK_u, tK_o, tK_1, tK_2, tK_3, tK_4, tK_5, am_uE, am_uN]) (by rw [he.2.2.2.2]; unfold uL4; try simp (config := {maxSteps := 1000000}) (disch := omega) only [nI_add, nI_1, am_mulN, nI_clamp, am_gI, am_ifd, am_ifn, am_asIe, am_asLe, nI_leI, nI_ltI, nI_eq, am_neg1, am_neg1b, tK_u, tK_o, tK_1, tK_2, tK_3, tK_4, tK_5, am_uE, am_uN]) (Or.inl rfl)
      have C : ∀ a, ((2 < a ∧ a < 43) ∨ 2000 < a) → mix I' (z4 (m_nH Z) (tkN n T (tkE n T p)) Z) a = (uL4 t (m_nH Z) (tkN n T (tkE n T p)) I) a := fun a h1 => by rw [mix_c h1, he.1 a (by omega)]
      have D : ∀ a, 95 ≤ a → a ≤ 115 → mix I' (z4 (m_nH Z) (tkN n T (tkE n T p)) Z) a = (z4 (m_nH Z) (tkN n T (tkE n T p)) Z) a := fun a h1 h2 => mix_z ⟨h1, h2⟩
      have C0 : ∀ a, ((2 < a ∧ a < 43) ∨ 2000 < a) → mix I Z a = I a := fun a h1 => mix_c h1
      have D0 : ∀ a, 95 ≤ a → a ≤ 115 → mix I Z a = Z a := fun a h1 h2 => mix_z ⟨h1, h2⟩
      unfold uL4 at C
      unfold z4 at C D ⊢
      refine tp_house hT mx_H (by omega) ?_ ?_ ?_ ?_ ?_ ?_ ?_ ?_ ?_
      · intro a q0 q1 q2 q3 q4 q5 q6
        by_cases ha : 95 ≤ a ∧ a ≤ 115
        · rw [D a ha.1 ha.2, D0 a ha.1 ha.2]
          try rw [am_uRow (by omega)]
          try rw [am_uRow (by omega)]
          try rw [am_uRow (by omega)]
          try rw [am_uRow (by omega)]
          try rw [am_uRow (by omega)]
        · by_cases hc : (2 < a ∧ a < 43) ∨ 2000 < a
          · rw [C a hc, C0 a hc]
            try rw [am_uRow (by omega)]
            try rw [am_uRow (by omega)]
            try rw [am_uRow (by omega)]
            try rw [am_uRow (by omega)]
            try rw [am_uRow (by omega)]
          · unfold mix; rw [if_neg ha, if_neg hc, if_neg ha, if_neg hc]
      · rw [C (t) (by omega)]; try simp (config := {maxSteps := 1000000}) (disch := omega) only [nI_add, nI_1, am_mulN, nI_clamp, am_gI, am_ifd, am_ifn, am_asIe, am_asLe, nI_leI, nI_ltI, nI_eq, am_neg1, am_neg1b, tK_u, tK_o, tK_1, tK_2, tK_3, tK_4, tK_5, am_uE, am_uN]
      · intro k hk; rw [C (t) (by omega), C0 (t) (by omega)]; try simp (config := {maxSteps := 1000000}) (disch := omega) only [nI_add, nI_1, am_mulN, nI_clamp, am_gI, am_ifd, am_ifn, am_asIe, am_asLe, nI_leI, nI_ltI, nI_eq, am_neg1, am_neg1b, tK_u, tK_o, tK_1, tK_2, tK_3, tK_4, tK_5, am_uE, am_uN]
      · rw [D 95 (by omega) (by omega)]; try simp (config := {maxSteps := 1000000}) (disch := omega) only [nI_add, nI_1, am_mulN, nI_clamp, am_gI, am_ifd, am_ifn, am_asIe, am_asLe, nI_leI, nI_ltI, nI_eq, am_neg1, am_neg1b, tK_u, tK_o, tK_1, tK_2, tK_3, tK_4, tK_5, am_uE, am_uN]
      · intro k hk; rw [D 95 (by omega) (by omega), D0 95 (by omega) (by omega)]; try simp (config := {maxSteps := 1000000}) (disch := omega) only [nI_add, nI_1, am_mulN, nI_clamp, am_gI, am_ifd, am_ifn, am_asIe, am_asLe, nI_leI, nI_ltI, nI_eq, am_neg1, am_neg1b, tK_u, tK_o, tK_1, tK_2, tK_3, tK_4, tK_5, am_uE, am_uN]
      · rw [C (t + 1) (by omega), D 96 (by omega) (by omega)]; try simp (config := {maxSteps := 1000000}) (disch := omega) only [nI_add, nI_1, am_mulN, nI_clamp, am_gI, am_ifd, am_ifn, am_asIe, am_asLe, nI_leI, nI_ltI, nI_eq, am_neg1, am_neg1b, tK_u, tK_o, tK_1, tK_2, tK_3, tK_4, tK_5, am_uE, am_uN]
      · intro k hk
        refine ⟨?_, ?_⟩
        · rw [C (t + 1) (by omega), C0 (t + 1) (by omega)]; try simp (config := {maxSteps := 1000000}) (disch := omega) only [nI_add, nI_1, am_mulN, nI_clamp, am_gI, am_ifd, am_ifn, am_asIe, am_asLe, nI_leI, nI_ltI, nI_eq, am_neg1, am_neg1b, tK_u, tK_o, tK_1, tK_2, tK_3, tK_4, tK_5, am_uE, am_uN]
        · rw [D 96 (by omega) (by omega), D0 96 (by omega) (by omega)]; try simp (config := {maxSteps := 1000000}) (disch := omega) only [nI_add, nI_1, am_mulN, nI_clamp, am_gI, am_ifd, am_ifn, am_asIe, am_asLe, nI_leI, nI_ltI, nI_eq, am_neg1, am_neg1b, tK_u, tK_o, tK_1, tK_2, tK_3, tK_4, tK_5, am_uE, am_uN]
      · refine ⟨?_, ?_, ?_⟩
        · rw [D 97 (by omega) (by omega)]; try simp (config := {maxSteps := 1000000}) (disch := omega) only [nI_add, nI_1, am_mulN, nI_clamp, am_gI, am_ifd, am_ifn, am_asIe, am_asLe, nI_leI, nI_ltI, nI_eq, am_neg1, am_neg1b, tK_u, tK_o, tK_1, tK_2, tK_3, tK_4, tK_5, am_uE, am_uN]
        · rw [D 98 (by omega) (by omega)]; try simp (config := {maxSteps := 1000000}) (disch := omega) only [nI_add, nI_1, am_mulN, nI_clamp, am_gI, am_ifd, am_ifn, am_asIe, am_asLe, nI_leI, nI_ltI, nI_eq, am_neg1, am_neg1b, tK_u, tK_o, tK_1, tK_2, tK_3, tK_4, tK_5, am_uE, am_uN]
        · rw [D 99 (by omega) (by omega)]; try simp (config := {maxSteps := 1000000}) (disch := omega) only [nI_add, nI_1, am_mulN, nI_clamp, am_gI, am_ifd, am_ifn, am_asIe, am_asLe, nI_leI, nI_ltI, nI_eq, am_neg1, am_neg1b, tK_u, tK_o, tK_1, tK_2, tK_3, tK_4, tK_5, am_uE, am_uN]
      · intro k hk
        refine ⟨?_, ?_, ?_⟩
        · rw [D 97 (by omega) (by omega), D0 97 (by omega) (by omega)]; try simp (config := {maxSteps := 1000000}) (disch := omega) only [nI_add, nI_1, am_mulN, nI_clamp, am_gI, am_ifd, am_ifn, am_asIe, am_asLe, nI_leI, nI_ltI, nI_eq, am_neg1, am_neg1b, tK_u, tK_o, tK_1, tK_2, tK_3, tK_4, tK_5, am_uE, am_uN]
        · rw [D 98 (by omega) (by omega), D0 98 (by omega) (by omega)]; try simp (config := {maxSteps := 1000000}) (disch := omega) only [nI_add, nI_1, am_mulN, nI_clamp, am_gI, am_ifd, am_ifn, am_asIe, am_asLe, nI_leI, nI_ltI, nI_eq, am_neg1, am_neg1b, tK_u, tK_o, tK_1, tK_2, tK_3, tK_4, tK_5, am_uE, am_uN]
        · rw [D 99 (by omega) (by omega), D0 99 (by omega) (by omega)]; try simp (config := {maxSteps := 1000000}) (disch := omega) only [nI_add, nI_1, am_mulN, nI_clamp, am_gI, am_ifd, am_ifn, am_asIe, am_asLe, nI_leI, nI_ltI, nI_eq, am_neg1, am_neg1b, tK_u, tK_o, tK_1, tK_2, tK_3, tK_4, tK_5, am_uE, am_uN]
  rw [if_neg c4]
  by_cases c5 : tkK n T p = 5
  · rw [if_pos c5]
    have hR := lnR_5 (Z := Z) (sd := sd) c5
    have hZ := zL_5 (Z := Z) c5
    rw [hR] at hF hS
    rw [hZ] at hS
    refine cl_street hx ht hp m0 m0' m1 m1' wy ?_ ?_
    · intro f q e hf I' h1 h2 h3
      rw [am_asIe, e_Reader_readLine_69, am_gT (by rfl)]
      exact hF f q rl ((ln5_c hn).symm.trans e) hf (Or.inl rfl) I' h1 h2 h3
    · intro q v' I' e hv' he
      rw [ln5_c hn] at e
      simp only [nh_c hn] at he
      rw [am_asIe, e_Reader_readLine_69, am_gT (by rfl)]
      have e0 := e
      unfold ln5 at e0
      have g0 : ¬ (m_nS Z = 12) := by
        intro g
        rw [if_pos g] at e0
        have e1 := congrArg Prod.fst e0
        have e2 : (_ : Nat) = 0 := e1
        first | omega | exact absurd e2 (by decide)
      rw [if_neg g0] at e0
      have g1 : ¬ (nhF (Z 96) (m_nH Z) n T (tkE n T p) ≠ 0) := by
        intro g
        rw [if_pos g] at e0
        have e1 := congrArg Prod.fst e0
        have e2 : (_ : Nat) = 0 := e1
        first | omega | exact absurd e2 (by decide)
      rw [if_neg g1] at e0
      have g2 : ¬ (nhF (Z 96) (m_nH Z) n T (tkE n T (tkE n T p)) ≠ 0) := by
        intro g
        rw [if_pos g] at e0
        have e1 := congrArg Prod.fst e0
        have e2 : (_ : Nat) = 0 := e1
        first | omega | exact absurd e2 (by decide)
      rw [if_neg g2] at e0
      have g3 : ¬ (nhI (Z 96) (m_nH Z) n T (tkE n T p) = nhI (Z 96) (m_nH Z) n T (tkE n T (tkE n T p))) := by
        intro g
        rw [if_pos g] at e0
        have e1 := congrArg Prod.fst e0
        have e2 : (_ : Nat) = 0 := e1
        first | omega | exact absurd e2 (by decide)
      rw [if_neg g3] at e0
      have g4 : ¬ (wyZ Z (nhI (Z 96) (m_nH Z) n T (tkE n T p)) (nhI (Z 96) (m_nH Z) n T (tkE n T (tkE n T p))) = true) := by
        intro g
        rw [if_pos g] at e0
        have e1 := congrArg Prod.fst e0
        have e2 : (_ : Nat) = 0 := e1
        first | omega | exact absurd e2 (by decide)
      rw [if_neg g4] at e0
      have g5 : ¬ (nuF 1 9 n T (tkE n T (tkE n T (tkE n T p))) ≠ 0) := by
        intro g
        rw [if_pos g] at e0
        have e1 := congrArg Prod.fst e0
        have e2 : (_ : Nat) = 0 := e1
        first | omega | exact absurd e2 (by decide)
      rw [if_neg g5] at e0
      have hq := congrArg Prod.snd e0
      have hq' : _ = q := hq
      refine hS q v' I' rl e (by rw [← hq']; exact hp4) hv' ?_ (frt_e43 he (by unfold uL5; exact frt_tr (frt_u (by omega)) (frt_tr (frt_u (by omega)) (frt_tr (frt_u (by omega)) (frt_u (by omega)))))) (by rw [he.2.1]; unfold uL5; try simp (config := {maxSteps := 1000000}) (disch := omega) only [nI_add, nI_1, am_mulN, nI_clamp, am_gI, am_ifd, am_ifn, am_asIe, am_asLe, nI_leI, nI_ltI, nI_eq, am_neg1, am_neg1b, tK_u, tK_o, tK_1, tK_2, tK_3, tK_4, tK_5, am_uE, am_uN, hsd]; rw [decide_eq_false (by omega), Bool.or_false]) (by rw [he.2.2.1]; unfold uL5; try simp (config := {maxSteps := 1000000}) (disch := omega) only [nI_add, nI_1, am_mulN, nI_clamp, am_gI, am_ifd, am_ifn, am_asIe, am_asLe, nI_leI, nI_ltI, nI_eq, am_neg1, am_neg1b, tK_u, tK_o, tK_1, tK_2, tK_3, tK_4, tK_5, am_uE, am_uN]) (by rw [he.2.2.2.1]; unfold uL5; try simp (config := {maxSteps := 1000000}) (disch := omega) only [nI_add, nI_1, am_mulN, nI_clamp, am_gI, am_ifd, am_ifn, am_asIe, am_asLe, nI_leI, nI_ltI, nI_eq, am_neg1, am_neg1b, tK_u, tK_o, tK_1, tK_2, tK_3, tK_4, tK_5, am_uE, am_uN]) (by rw [he.2.2.2.2]; unfold uL5; try simp (config := {maxSteps := 1000000}) (disch := omega) only [nI_add, nI_1, am_mulN, nI_clamp, am_gI, am_ifd, am_ifn, am_asIe, am_asLe, nI_leI, nI_ltI, nI_eq, am_neg1, am_neg1b, tK_u, tK_o, tK_1, tK_2, tK_3, tK_4, tK_5, am_uE, am_uN]) (Or.inl rfl)
      have C : ∀ a, ((2 < a ∧ a < 43) ∨ 2000 < a) → mix I' (z5 (m_nS Z) (nhI (Z 96) (m_nH Z) n T (tkE n T p)) (nhI (Z 96) (m_nH Z) n T (tkE n T (tkE n T p))) (tkV n T (tkE n T (tkE n T (tkE n T p)))) Z) a = (uL5 t (m_nS Z) (nhI (Z 96) (m_nH Z) n T (tkE n T p)) (nhI (Z 96) (m_nH Z) n T (tkE n T (tkE n T p))) (nI (tkV n T (tkE n T (tkE n T (tkE n T p))))) I) a := fun a h1 => by rw [mix_c h1, he.1 a (by omega)]
      have D : ∀ a, 95 ≤ a → a ≤ 115 → mix I' (z5 (m_nS Z) (nhI (Z 96) (m_nH Z) n T (tkE n T p)) (nhI (Z 96) (m_nH Z) n T (tkE n T (tkE n T p))) (tkV n T (tkE n T (tkE n T (tkE n T p)))) Z) a = (z5 (m_nS Z) (nhI (Z 96) (m_nH Z) n T (tkE n T p)) (nhI (Z 96) (m_nH Z) n T (tkE n T (tkE n T p))) (tkV n T (tkE n T (tkE n T (tkE n T p)))) Z) a := fun a h1 h2 => mix_z ⟨h1, h2⟩
      have C0 : ∀ a, ((2 < a ∧ a < 43) ∨ 2000 < a) → mix I Z a = I a := fun a h1 => mix_c h1
      have D0 : ∀ a, 95 ≤ a → a ≤ 115 → mix I Z a = Z a := fun a h1 h2 => mix_z ⟨h1, h2⟩
      unfold uL5 at C
      unfold z5 at C D ⊢
      have gx := nhF_lt (Decidable.not_not.mp g1)
      have gy := nhF_lt (Decidable.not_not.mp g2)
      have gn := nuF_in (Decidable.not_not.mp g5)
      have hno : ∀ l, l < m_nS Z → st0 (mix I Z) (nhI (Z 96) (m_nH Z) n T (tkE n T p)) (nhI (Z 96) (m_nH Z) n T (tkE n T (tkE n T p))) l = false := by
        intro l hl
        rw [mx_st0]
        have g4' := of_decide_eq_false (ts_ne g4)
        exact fa_first_no (fun l => st0 Z (nhI (Z 96) (m_nH Z) n T (tkE n T p)) (nhI (Z 96) (m_nH Z) n T (tkE n T (tkE n T p))) l) (m_nS Z) l (by omega)
      generalize (nhI (Z 96) (m_nH Z) n T (tkE n T p)) = x at *
      generalize (nhI (Z 96) (m_nH Z) n T (tkE n T (tkE n T p))) = y at *
      generalize (tkV n T (tkE n T (tkE n T (tkE n T p)))) = c at *
      refine tp_street hT ?_ ?_ ?_ mx_S (by omega) (by rw [mx_H]; exact gx) (by rw [mx_H]; exact gy) g3 gn hno ?_ ?_ ?_ ?_ ?_ ?_ ?_ ?_
      · intro a q0 q1 q2 q3 q4 q5 q6
        by_cases ha : 95 ≤ a ∧ a ≤ 115
        · rw [D a ha.1 ha.2, D0 a ha.1 ha.2]
          try rw [am_uRow (by omega)]
          try rw [am_uRow (by omega)]
          try rw [am_uRow (by omega)]
          try rw [am_uRow (by omega)]
          try rw [am_uRow (by omega)]
        · by_cases hc : (2 < a ∧ a < 43) ∨ 2000 < a
          · rw [C a hc, C0 a hc]
            try rw [am_uRow (by omega)]
            try rw [am_uRow (by omega)]
            try rw [am_uRow (by omega)]
            try rw [am_uRow (by omega)]
            try rw [am_uRow (by omega)]
          · unfold mix; rw [if_neg ha, if_neg hc, if_neg ha, if_neg hc]
      · intro k hk; rw [C (t) (by omega), C0 (t) (by omega)]; try simp (config := {maxSteps := 1000000}) (disch := omega) only [nI_add, nI_1, am_mulN, nI_clamp, am_gI, am_ifd, am_ifn, am_asIe, am_asLe, nI_leI, nI_ltI, nI_eq, am_neg1, am_neg1b, tK_u, tK_o, tK_1, tK_2, tK_3, tK_4, tK_5, am_uE, am_uN]
      · intro k hk; rw [D 95 (by omega) (by omega), D0 95 (by omega) (by omega)]; try simp (config := {maxSteps := 1000000}) (disch := omega) only [nI_add, nI_1, am_mulN, nI_clamp, am_gI, am_ifd, am_ifn, am_asIe, am_asLe, nI_leI, nI_ltI, nI_eq, am_neg1, am_neg1b, tK_u, tK_o, tK_1, tK_2, tK_3, tK_4, tK_5, am_uE, am_uN]
      · rw [C (t) (by omega)]; try simp (config := {maxSteps := 1000000}) (disch := omega) only [nI_add, nI_1, am_mulN, nI_clamp, am_gI, am_ifd, am_ifn, am_asIe, am_asLe, nI_leI, nI_ltI, nI_eq, am_neg1, am_neg1b, tK_u, tK_o, tK_1, tK_2, tK_3, tK_4, tK_5, am_uE, am_uN]
      · rw [D 95 (by omega) (by omega)]; try simp (config := {maxSteps := 1000000}) (disch := omega) only [nI_add, nI_1, am_mulN, nI_clamp, am_gI, am_ifd, am_ifn, am_asIe, am_asLe, nI_leI, nI_ltI, nI_eq, am_neg1, am_neg1b, tK_u, tK_o, tK_1, tK_2, tK_3, tK_4, tK_5, am_uE, am_uN]
      · rw [C (t + 3) (by omega)]; try simp (config := {maxSteps := 1000000}) (disch := omega) only [nI_add, nI_1, am_mulN, nI_clamp, am_gI, am_ifd, am_ifn, am_asIe, am_asLe, nI_leI, nI_ltI, nI_eq, am_neg1, am_neg1b, tK_u, tK_o, tK_1, tK_2, tK_3, tK_4, tK_5, am_uE, am_uN]
      · intro k hk; rw [C (t + 3) (by omega), C0 (t + 3) (by omega)]; try simp (config := {maxSteps := 1000000}) (disch := omega) only [nI_add, nI_1, am_mulN, nI_clamp, am_gI, am_ifd, am_ifn, am_asIe, am_asLe, nI_leI, nI_ltI, nI_eq, am_neg1, am_neg1b, tK_u, tK_o, tK_1, tK_2, tK_3, tK_4, tK_5, am_uE, am_uN]
      · refine ⟨?_, ?_, ?_⟩
        · rw [D 100 (by omega) (by omega)]; try simp (config := {maxSteps := 1000000}) (disch := omega) only [nI_add, nI_1, am_mulN, nI_clamp, am_gI, am_ifd, am_ifn, am_asIe, am_asLe, nI_leI, nI_ltI, nI_eq, am_neg1, am_neg1b, tK_u, tK_o, tK_1, tK_2, tK_3, tK_4, tK_5, am_uE, am_uN]
        · rw [D 101 (by omega) (by omega)]; try simp (config := {maxSteps := 1000000}) (disch := omega) only [nI_add, nI_1, am_mulN, nI_clamp, am_gI, am_ifd, am_ifn, am_asIe, am_asLe, nI_leI, nI_ltI, nI_eq, am_neg1, am_neg1b, tK_u, tK_o, tK_1, tK_2, tK_3, tK_4, tK_5, am_uE, am_uN]
        · rw [D 102 (by omega) (by omega)]; try simp (config := {maxSteps := 1000000}) (disch := omega) only [nI_add, nI_1, am_mulN, nI_clamp, am_gI, am_ifd, am_ifn, am_asIe, am_asLe, nI_leI, nI_ltI, nI_eq, am_neg1, am_neg1b, tK_u, tK_o, tK_1, tK_2, tK_3, tK_4, tK_5, am_uE, am_uN]
      · intro k hk
        refine ⟨?_, ?_, ?_⟩
        · rw [D 100 (by omega) (by omega), D0 100 (by omega) (by omega)]; try simp (config := {maxSteps := 1000000}) (disch := omega) only [nI_add, nI_1, am_mulN, nI_clamp, am_gI, am_ifd, am_ifn, am_asIe, am_asLe, nI_leI, nI_ltI, nI_eq, am_neg1, am_neg1b, tK_u, tK_o, tK_1, tK_2, tK_3, tK_4, tK_5, am_uE, am_uN]
        · rw [D 101 (by omega) (by omega), D0 101 (by omega) (by omega)]; try simp (config := {maxSteps := 1000000}) (disch := omega) only [nI_add, nI_1, am_mulN, nI_clamp, am_gI, am_ifd, am_ifn, am_asIe, am_asLe, nI_leI, nI_ltI, nI_eq, am_neg1, am_neg1b, tK_u, tK_o, tK_1, tK_2, tK_3, tK_4, tK_5, am_uE, am_uN]
        · rw [D 102 (by omega) (by omega), D0 102 (by omega) (by omega)]; try simp (config := {maxSteps := 1000000}) (disch := omega) only [nI_add, nI_1, am_mulN, nI_clamp, am_gI, am_ifd, am_ifn, am_asIe, am_asLe, nI_leI, nI_ltI, nI_eq, am_neg1, am_neg1b, tK_u, tK_o, tK_1, tK_2, tK_3, tK_4, tK_5, am_uE, am_uN]
      · refine ⟨?_, ?_⟩
        · rw [C (t + 4) (by omega)]; try simp (config := {maxSteps := 1000000}) (disch := omega) only [nI_add, nI_1, am_mulN, nI_clamp, am_gI, am_ifd, am_ifn, am_asIe, am_asLe, nI_leI, nI_ltI, nI_eq, am_neg1, am_neg1b, tK_u, tK_o, tK_1, tK_2, tK_3, tK_4, tK_5, am_uE, am_uN]
        · rw [C (t + 4) (by omega)]; try simp (config := {maxSteps := 1000000}) (disch := omega) only [nI_add, nI_1, am_mulN, nI_clamp, am_gI, am_ifd, am_ifn, am_asIe, am_asLe, nI_leI, nI_ltI, nI_eq, am_neg1, am_neg1b, tK_u, tK_o, tK_1, tK_2, tK_3, tK_4, tK_5, am_uE, am_uN]
      · intro k hk hk2; rw [C (t + 4) (by omega), C0 (t + 4) (by omega)]; try simp (config := {maxSteps := 1000000}) (disch := omega) only [nI_add, nI_1, am_mulN, nI_clamp, am_gI, am_ifd, am_ifn, am_asIe, am_asLe, nI_leI, nI_ltI, nI_eq, am_neg1, am_neg1b, tK_u, tK_o, tK_1, tK_2, tK_3, tK_4, tK_5, am_uE, am_uN]
  rw [if_neg c5]
  by_cases c6 : tkK n T p = 6
  · rw [if_pos c6]
    have hR := lnR_6 (Z := Z) (sd := sd) c6
    have hZ := zL_6 (Z := Z) c6
    rw [hR] at hF hS
    rw [hZ] at hS
    refine cl_sleeper hx ht hp m0 m0' m2 m2' ?_ ?_
    · intro f q e hf I' h1 h2 h3
      rw [am_asIe, e_Reader_readLine_74, am_gT (by rfl)]
      exact hF f q rl ((ln6_c hn zn).symm.trans e) hf (Or.inl rfl) I' h1 h2 h3
    · intro q v' I' e hv' he
      rw [ln6_c hn zn] at e
      simp only [nh_c hn] at he
      rw [am_asIe, e_Reader_readLine_74, am_gT (by rfl)]
      have e0 := e
      unfold ln6 at e0
      have g0 : ¬ (m_nZ Z = 5) := by
        intro g
        rw [if_pos g] at e0
        have e1 := congrArg Prod.fst e0
        have e2 : (_ : Nat) = 0 := e1
        first | omega | exact absurd e2 (by decide)
      rw [if_neg g0] at e0
      have g1 : ¬ (nfF (Z 103) (m_nZ Z) n T (tkE n T p) ≠ 0) := by
        intro g
        rw [if_pos g] at e0
        have e1 := congrArg Prod.fst e0
        have e2 : (_ : Nat) = 0 := e1
        first | omega | exact absurd e2 (by decide)
      rw [if_neg g1] at e0
      have g2 : ¬ (nhF (Z 96) (m_nH Z) n T (tkE n T (tkE n T p)) ≠ 0) := by
        intro g
        rw [if_pos g] at e0
        have e1 := congrArg Prod.fst e0
        have e2 : (_ : Nat) = 0 := e1
        first | omega | exact absurd e2 (by decide)
      rw [if_neg g2] at e0
      have g3 : ¬ (nuF 0 9 n T (tkE n T (tkE n T (tkE n T p))) ≠ 0) := by
        intro g
        rw [if_pos g] at e0
        have e1 := congrArg Prod.fst e0
        have e2 : (_ : Nat) = 0 := e1
        first | omega | exact absurd e2 (by decide)
      rw [if_neg g3] at e0
      have g4 : ¬ (nhF (Z 96) (m_nH Z) n T (tkE n T (tkE n T (tkE n T (tkE n T p)))) ≠ 0) := by
        intro g
        rw [if_pos g] at e0
        have e1 := congrArg Prod.fst e0
        have e2 : (_ : Nat) = 0 := e1
        first | omega | exact absurd e2 (by decide)
      rw [if_neg g4] at e0
      have hq := congrArg Prod.snd e0
      have hq' : _ = q := hq
      refine hS q v' I' rl e (by rw [← hq']; exact hp5) hv' ?_ (frt_e43 he (by unfold uL6; exact frt_tr (frt_u (by omega)) (frt_tr (frt_u (by omega)) (frt_tr (frt_u (by omega)) (frt_tr (frt_u (by omega)) (frt_u (by omega))))))) (by rw [he.2.1]; unfold uL6; try simp (config := {maxSteps := 1000000}) (disch := omega) only [nI_add, nI_1, am_mulN, nI_clamp, am_gI, am_ifd, am_ifn, am_asIe, am_asLe, nI_leI, nI_ltI, nI_eq, am_neg1, am_neg1b, tK_u, tK_o, tK_1, tK_2, tK_3, tK_4, tK_5, am_uE, am_uN, hsd]; rw [decide_eq_false (by omega), Bool.or_false]) (by rw [he.2.2.1]; unfold uL6; try simp (config := {maxSteps := 1000000}) (disch := omega) only [nI_add, nI_1, am_mulN, nI_clamp, am_gI, am_ifd, am_ifn, am_asIe, am_asLe, nI_leI, nI_ltI, nI_eq, am_neg1, am_neg1b, tK_u, tK_o, tK_1, tK_2, tK_3, tK_4, tK_5, am_uE, am_uN]) (by rw [he.2.2.2.1]; unfold uL6; try simp (config := {maxSteps := 1000000}) (disch := omega) only [nI_add, nI_1, am_mulN, nI_clamp, am_gI, am_ifd, am_ifn, am_asIe, am_asLe, nI_leI, nI_ltI, nI_eq, am_neg1, am_neg1b, tK_u, tK_o, tK_1, tK_2, tK_3, tK_4, tK_5, am_uE, am_uN]) (by rw [he.2.2.2.2]; unfold uL6; try simp (config := {maxSteps := 1000000}) (disch := omega) only [nI_add, nI_1, am_mulN, nI_clamp, am_gI, am_ifd, am_ifn, am_asIe, am_asLe, nI_leI, nI_ltI, nI_eq, am_neg1, am_neg1b, tK_u, tK_o, tK_1, tK_2, tK_3, tK_4, tK_5, am_uE, am_uN]) (Or.inl rfl)
      have C : ∀ a, ((2 < a ∧ a < 43) ∨ 2000 < a) → mix I' (z6 (m_nZ Z) (tkN n T (tkE n T p)) (nhI (Z 96) (m_nH Z) n T (tkE n T (tkE n T p))) (tkV n T (tkE n T (tkE n T (tkE n T p)))) (nhI (Z 96) (m_nH Z) n T (tkE n T (tkE n T (tkE n T (tkE n T p))))) Z) a = (uL6 t (m_nZ Z) (tkN n T (tkE n T p)) (nhI (Z 96) (m_nH Z) n T (tkE n T (tkE n T p))) (tkV n T (tkE n T (tkE n T (tkE n T p)))) (nhI (Z 96) (m_nH Z) n T (tkE n T (tkE n T (tkE n T (tkE n T p))))) I) a := fun a h1 => by rw [mix_c h1, he.1 a (by omega)]
      have D : ∀ a, 95 ≤ a → a ≤ 115 → mix I' (z6 (m_nZ Z) (tkN n T (tkE n T p)) (nhI (Z 96) (m_nH Z) n T (tkE n T (tkE n T p))) (tkV n T (tkE n T (tkE n T (tkE n T p)))) (nhI (Z 96) (m_nH Z) n T (tkE n T (tkE n T (tkE n T (tkE n T p))))) Z) a = (z6 (m_nZ Z) (tkN n T (tkE n T p)) (nhI (Z 96) (m_nH Z) n T (tkE n T (tkE n T p))) (tkV n T (tkE n T (tkE n T (tkE n T p)))) (nhI (Z 96) (m_nH Z) n T (tkE n T (tkE n T (tkE n T (tkE n T p))))) Z) a := fun a h1 h2 => mix_z ⟨h1, h2⟩
      have C0 : ∀ a, ((2 < a ∧ a < 43) ∨ 2000 < a) → mix I Z a = I a := fun a h1 => mix_c h1
      have D0 : ∀ a, 95 ≤ a → a ≤ 115 → mix I Z a = Z a := fun a h1 h2 => mix_z ⟨h1, h2⟩
      unfold uL6 at C
      unfold z6 at C D ⊢
      have gb := nhF_lt (Decidable.not_not.mp g2)
      have gd := nuF_in (Decidable.not_not.mp g3)
      have gr := nhF_lt (Decidable.not_not.mp g4)
      generalize (nhI (Z 96) (m_nH Z) n T (tkE n T (tkE n T p))) = b at *
      generalize (tkV n T (tkE n T (tkE n T (tkE n T p)))) = dp at *
      generalize (nhI (Z 96) (m_nH Z) n T (tkE n T (tkE n T (tkE n T (tkE n T p))))) = dr at *
      refine tp_sleeper hT ?_ ?_ ?_ mx_Z (by omega) (b := b) (dp := dp) (dr := dr) (by rw [mx_H]; exact gb) (by omega) (by rw [mx_H]; exact gr) ?_ ?_ ?_ ?_ ?_ ?_
      · intro a q0 q1 q2 q3 q4 q5 q6 q7 q8 q9
        by_cases ha : 95 ≤ a ∧ a ≤ 115
        · rw [D a ha.1 ha.2, D0 a ha.1 ha.2]
          try rw [am_uRow (by omega)]
          try rw [am_uRow (by omega)]
          try rw [am_uRow (by omega)]
          try rw [am_uRow (by omega)]
          try rw [am_uRow (by omega)]
        · by_cases hc : (2 < a ∧ a < 43) ∨ 2000 < a
          · rw [C a hc, C0 a hc]
            try rw [am_uRow (by omega)]
            try rw [am_uRow (by omega)]
            try rw [am_uRow (by omega)]
            try rw [am_uRow (by omega)]
            try rw [am_uRow (by omega)]
          · unfold mix; rw [if_neg ha, if_neg hc, if_neg ha, if_neg hc]
      · intro k hk; rw [C (t) (by omega), C0 (t) (by omega)]; try simp (config := {maxSteps := 1000000}) (disch := omega) only [nI_add, nI_1, am_mulN, nI_clamp, am_gI, am_ifd, am_ifn, am_asIe, am_asLe, nI_leI, nI_ltI, nI_eq, am_neg1, am_neg1b, tK_u, tK_o, tK_1, tK_2, tK_3, tK_4, tK_5, am_uE, am_uN]
      · intro k hk; rw [D 95 (by omega) (by omega), D0 95 (by omega) (by omega)]; try simp (config := {maxSteps := 1000000}) (disch := omega) only [nI_add, nI_1, am_mulN, nI_clamp, am_gI, am_ifd, am_ifn, am_asIe, am_asLe, nI_leI, nI_ltI, nI_eq, am_neg1, am_neg1b, tK_u, tK_o, tK_1, tK_2, tK_3, tK_4, tK_5, am_uE, am_uN]
      · rw [C (t) (by omega)]; try simp (config := {maxSteps := 1000000}) (disch := omega) only [nI_add, nI_1, am_mulN, nI_clamp, am_gI, am_ifd, am_ifn, am_asIe, am_asLe, nI_leI, nI_ltI, nI_eq, am_neg1, am_neg1b, tK_u, tK_o, tK_1, tK_2, tK_3, tK_4, tK_5, am_uE, am_uN]
      · rw [D 95 (by omega) (by omega)]; try simp (config := {maxSteps := 1000000}) (disch := omega) only [nI_add, nI_1, am_mulN, nI_clamp, am_gI, am_ifd, am_ifn, am_asIe, am_asLe, nI_leI, nI_ltI, nI_eq, am_neg1, am_neg1b, tK_u, tK_o, tK_1, tK_2, tK_3, tK_4, tK_5, am_uE, am_uN]
      · refine ⟨?_, ?_, ?_, ?_⟩
        · rw [C (t + 2) (by omega), D 103 (by omega) (by omega)]; try simp (config := {maxSteps := 1000000}) (disch := omega) only [nI_add, nI_1, am_mulN, nI_clamp, am_gI, am_ifd, am_ifn, am_asIe, am_asLe, nI_leI, nI_ltI, nI_eq, am_neg1, am_neg1b, tK_u, tK_o, tK_1, tK_2, tK_3, tK_4, tK_5, am_uE, am_uN]
        · rw [C (t + 6) (by omega)]; try simp (config := {maxSteps := 1000000}) (disch := omega) only [nI_add, nI_1, am_mulN, nI_clamp, am_gI, am_ifd, am_ifn, am_asIe, am_asLe, nI_leI, nI_ltI, nI_eq, am_neg1, am_neg1b, tK_u, tK_o, tK_1, tK_2, tK_3, tK_4, tK_5, am_uE, am_uN]
        · rw [C (t + 7) (by omega)]; try simp (config := {maxSteps := 1000000}) (disch := omega) only [nI_add, nI_1, am_mulN, nI_clamp, am_gI, am_ifd, am_ifn, am_asIe, am_asLe, nI_leI, nI_ltI, nI_eq, am_neg1, am_neg1b, tK_u, tK_o, tK_1, tK_2, tK_3, tK_4, tK_5, am_uE, am_uN]
        · rw [C (t + 8) (by omega)]; try simp (config := {maxSteps := 1000000}) (disch := omega) only [nI_add, nI_1, am_mulN, nI_clamp, am_gI, am_ifd, am_ifn, am_asIe, am_asLe, nI_leI, nI_ltI, nI_eq, am_neg1, am_neg1b, tK_u, tK_o, tK_1, tK_2, tK_3, tK_4, tK_5, am_uE, am_uN]
      · intro k hk
        refine ⟨?_, ?_, ?_, ?_⟩
        · rw [C (t + 2) (by omega), C0 (t + 2) (by omega)]; try simp (config := {maxSteps := 1000000}) (disch := omega) only [nI_add, nI_1, am_mulN, nI_clamp, am_gI, am_ifd, am_ifn, am_asIe, am_asLe, nI_leI, nI_ltI, nI_eq, am_neg1, am_neg1b, tK_u, tK_o, tK_1, tK_2, tK_3, tK_4, tK_5, am_uE, am_uN]
        · rw [C (t + 6) (by omega), C0 (t + 6) (by omega)]; try simp (config := {maxSteps := 1000000}) (disch := omega) only [nI_add, nI_1, am_mulN, nI_clamp, am_gI, am_ifd, am_ifn, am_asIe, am_asLe, nI_leI, nI_ltI, nI_eq, am_neg1, am_neg1b, tK_u, tK_o, tK_1, tK_2, tK_3, tK_4, tK_5, am_uE, am_uN]
        · rw [C (t + 7) (by omega), C0 (t + 7) (by omega)]; try simp (config := {maxSteps := 1000000}) (disch := omega) only [nI_add, nI_1, am_mulN, nI_clamp, am_gI, am_ifd, am_ifn, am_asIe, am_asLe, nI_leI, nI_ltI, nI_eq, am_neg1, am_neg1b, tK_u, tK_o, tK_1, tK_2, tK_3, tK_4, tK_5, am_uE, am_uN]
        · rw [C (t + 8) (by omega), C0 (t + 8) (by omega)]; try simp (config := {maxSteps := 1000000}) (disch := omega) only [nI_add, nI_1, am_mulN, nI_clamp, am_gI, am_ifd, am_ifn, am_asIe, am_asLe, nI_leI, nI_ltI, nI_eq, am_neg1, am_neg1b, tK_u, tK_o, tK_1, tK_2, tK_3, tK_4, tK_5, am_uE, am_uN]
      · refine ⟨?_, ?_, ?_⟩
        · rw [D 104 (by omega) (by omega)]; try simp (config := {maxSteps := 1000000}) (disch := omega) only [nI_add, nI_1, am_mulN, nI_clamp, am_gI, am_ifd, am_ifn, am_asIe, am_asLe, nI_leI, nI_ltI, nI_eq, am_neg1, am_neg1b, tK_u, tK_o, tK_1, tK_2, tK_3, tK_4, tK_5, am_uE, am_uN]
        · rw [D 105 (by omega) (by omega)]; try simp (config := {maxSteps := 1000000}) (disch := omega) only [nI_add, nI_1, am_mulN, nI_clamp, am_gI, am_ifd, am_ifn, am_asIe, am_asLe, nI_leI, nI_ltI, nI_eq, am_neg1, am_neg1b, tK_u, tK_o, tK_1, tK_2, tK_3, tK_4, tK_5, am_uE, am_uN]
        · rw [D 106 (by omega) (by omega)]; try simp (config := {maxSteps := 1000000}) (disch := omega) only [nI_add, nI_1, am_mulN, nI_clamp, am_gI, am_ifd, am_ifn, am_asIe, am_asLe, nI_leI, nI_ltI, nI_eq, am_neg1, am_neg1b, tK_u, tK_o, tK_1, tK_2, tK_3, tK_4, tK_5, am_uE, am_uN]
      · intro k hk
        refine ⟨?_, ?_, ?_, ?_⟩
        · rw [D 103 (by omega) (by omega), D0 103 (by omega) (by omega)]; try simp (config := {maxSteps := 1000000}) (disch := omega) only [nI_add, nI_1, am_mulN, nI_clamp, am_gI, am_ifd, am_ifn, am_asIe, am_asLe, nI_leI, nI_ltI, nI_eq, am_neg1, am_neg1b, tK_u, tK_o, tK_1, tK_2, tK_3, tK_4, tK_5, am_uE, am_uN]
        · rw [D 104 (by omega) (by omega), D0 104 (by omega) (by omega)]; try simp (config := {maxSteps := 1000000}) (disch := omega) only [nI_add, nI_1, am_mulN, nI_clamp, am_gI, am_ifd, am_ifn, am_asIe, am_asLe, nI_leI, nI_ltI, nI_eq, am_neg1, am_neg1b, tK_u, tK_o, tK_1, tK_2, tK_3, tK_4, tK_5, am_uE, am_uN]
        · rw [D 105 (by omega) (by omega), D0 105 (by omega) (by omega)]; try simp (config := {maxSteps := 1000000}) (disch := omega) only [nI_add, nI_1, am_mulN, nI_clamp, am_gI, am_ifd, am_ifn, am_asIe, am_asLe, nI_leI, nI_ltI, nI_eq, am_neg1, am_neg1b, tK_u, tK_o, tK_1, tK_2, tK_3, tK_4, tK_5, am_uE, am_uN]
        · rw [D 106 (by omega) (by omega), D0 106 (by omega) (by omega)]; try simp (config := {maxSteps := 1000000}) (disch := omega) only [nI_add, nI_1, am_mulN, nI_clamp, am_gI, am_ifd, am_ifn, am_asIe, am_asLe, nI_leI, nI_ltI, nI_eq, am_neg1, am_neg1b, tK_u, tK_o, tK_1, tK_2, tK_3, tK_4, tK_5, am_uE, am_uN]
  rw [if_neg c6]
  by_cases c7 : tkK n T p = 7
  · rw [if_pos c7]
    have hR := lnR_7 (Z := Z) (sd := sd) c7
    have hZ := zL_7 (Z := Z) c7
    rw [hR] at hF hS
    rw [hZ] at hS
    refine cl_letter hx ht hp m0 m0' m2 m2' m3 m3' ?_ ?_
    · intro f q e hf I' h1 h2 h3
      rw [am_asIe, e_Reader_readLine_79, am_gT (by rfl)]
      exact hF f q rl ((ln7_c hn zn).symm.trans e) hf (Or.inl rfl) I' h1 h2 h3
    · intro q v' I' e hv' he
      rw [ln7_c hn zn] at e
      rw [nh_c hn] at he
      rw [nh_c zn] at he
      rw [am_asIe, e_Reader_readLine_79, am_gT (by rfl)]
      have e0 := e
      unfold ln7 at e0
      have g0 : ¬ (m_nL Z = 8) := by
        intro g
        rw [if_pos g] at e0
        have e1 := congrArg Prod.fst e0
        have e2 : (_ : Nat) = 0 := e1
        first | omega | exact absurd e2 (by decide)
      rw [if_neg g0] at e0
      have g1 : ¬ (nhF (Z 103) (m_nZ Z) n T (tkE n T p) ≠ 0) := by
        intro g
        rw [if_pos g] at e0
        have e1 := congrArg Prod.fst e0
        have e2 : (_ : Nat) = 0 := e1
        first | omega | exact absurd e2 (by decide)
      rw [if_neg g1] at e0
      have g2 : ¬ (nhF (Z 96) (m_nH Z) n T (tkE n T (tkE n T p)) ≠ 0) := by
        intro g
        rw [if_pos g] at e0
        have e1 := congrArg Prod.fst e0
        have e2 : (_ : Nat) = 0 := e1
        first | omega | exact absurd e2 (by decide)
      rw [if_neg g2] at e0
      have hq := congrArg Prod.snd e0
      have hq' : _ = q := hq
      refine hS q v' I' rl e (by rw [← hq']; exact hp3) hv' ?_ (frt_e43 he (by unfold uL7; exact frt_tr (frt_u (by omega)) (frt_tr (frt_u (by omega)) (frt_tr (frt_u (by omega)) (frt_u (by omega)))))) (by rw [he.2.1]; unfold uL7; try simp (config := {maxSteps := 1000000}) (disch := omega) only [nI_add, nI_1, am_mulN, nI_clamp, am_gI, am_ifd, am_ifn, am_asIe, am_asLe, nI_leI, nI_ltI, nI_eq, am_neg1, am_neg1b, tK_u, tK_o, tK_1, tK_2, tK_3, tK_4, tK_5, am_uE, am_uN, hsd]; rw [decide_eq_false (by omega), Bool.or_false]) (by rw [he.2.2.1]; unfold uL7; try simp (config := {maxSteps := 1000000}) (disch := omega) only [nI_add, nI_1, am_mulN, nI_clamp, am_gI, am_ifd, am_ifn, am_asIe, am_asLe, nI_leI, nI_ltI, nI_eq, am_neg1, am_neg1b, tK_u, tK_o, tK_1, tK_2, tK_3, tK_4, tK_5, am_uE, am_uN]) (by rw [he.2.2.2.1]; unfold uL7; try simp (config := {maxSteps := 1000000}) (disch := omega) only [nI_add, nI_1, am_mulN, nI_clamp, am_gI, am_ifd, am_ifn, am_asIe, am_asLe, nI_leI, nI_ltI, nI_eq, am_neg1, am_neg1b, tK_u, tK_o, tK_1, tK_2, tK_3, tK_4, tK_5, am_uE, am_uN]) (by rw [he.2.2.2.2]; unfold uL7; try simp (config := {maxSteps := 1000000}) (disch := omega) only [nI_add, nI_1, am_mulN, nI_clamp, am_gI, am_ifd, am_ifn, am_asIe, am_asLe, nI_leI, nI_ltI, nI_eq, am_neg1, am_neg1b, tK_u, tK_o, tK_1, tK_2, tK_3, tK_4, tK_5, am_uE, am_uN]) (Or.inl rfl)
      have C : ∀ a, ((2 < a ∧ a < 43) ∨ 2000 < a) → mix I' (z7 (m_nL Z) (nhI (Z 103) (m_nZ Z) n T (tkE n T p)) (nhI (Z 96) (m_nH Z) n T (tkE n T (tkE n T p))) Z) a = (uL7 t (m_nL Z) (nhI (Z 103) (m_nZ Z) n T (tkE n T p)) (nhI (Z 96) (m_nH Z) n T (tkE n T (tkE n T p))) I) a := fun a h1 => by rw [mix_c h1, he.1 a (by omega)]
      have D : ∀ a, 95 ≤ a → a ≤ 115 → mix I' (z7 (m_nL Z) (nhI (Z 103) (m_nZ Z) n T (tkE n T p)) (nhI (Z 96) (m_nH Z) n T (tkE n T (tkE n T p))) Z) a = (z7 (m_nL Z) (nhI (Z 103) (m_nZ Z) n T (tkE n T p)) (nhI (Z 96) (m_nH Z) n T (tkE n T (tkE n T p))) Z) a := fun a h1 h2 => mix_z ⟨h1, h2⟩
      have C0 : ∀ a, ((2 < a ∧ a < 43) ∨ 2000 < a) → mix I Z a = I a := fun a h1 => mix_c h1
      have D0 : ∀ a, 95 ≤ a → a ≤ 115 → mix I Z a = Z a := fun a h1 h2 => mix_z ⟨h1, h2⟩
      unfold uL7 at C
      unfold z7 at C D ⊢
      have gs := nhF_lt (Decidable.not_not.mp g1)
      have gh := nhF_lt (Decidable.not_not.mp g2)
      generalize (nhI (Z 103) (m_nZ Z) n T (tkE n T p)) = s at *
      generalize (nhI (Z 96) (m_nH Z) n T (tkE n T (tkE n T p))) = h at *
      refine tp_letter hT ?_ ?_ ?_ mx_L (by omega) (s := s) (h0 := h) (by rw [mx_Z]; exact gs) (by rw [mx_H]; exact gh) ?_ ?_ ?_ ?_ ?_ ?_ ?_ ?_
      · intro a q0 q1 q2 q3 q4 q5 q6
        by_cases ha : 95 ≤ a ∧ a ≤ 115
        · rw [D a ha.1 ha.2, D0 a ha.1 ha.2]
          try rw [am_uRow (by omega)]
          try rw [am_uRow (by omega)]
          try rw [am_uRow (by omega)]
          try rw [am_uRow (by omega)]
          try rw [am_uRow (by omega)]
        · by_cases hc : (2 < a ∧ a < 43) ∨ 2000 < a
          · rw [C a hc, C0 a hc]
            try rw [am_uRow (by omega)]
            try rw [am_uRow (by omega)]
            try rw [am_uRow (by omega)]
            try rw [am_uRow (by omega)]
            try rw [am_uRow (by omega)]
          · unfold mix; rw [if_neg ha, if_neg hc, if_neg ha, if_neg hc]
      · intro k hk; rw [C (t) (by omega), C0 (t) (by omega)]; try simp (config := {maxSteps := 1000000}) (disch := omega) only [nI_add, nI_1, am_mulN, nI_clamp, am_gI, am_ifd, am_ifn, am_asIe, am_asLe, nI_leI, nI_ltI, nI_eq, am_neg1, am_neg1b, tK_u, tK_o, tK_1, tK_2, tK_3, tK_4, tK_5, am_uE, am_uN]
      · intro k hk; rw [D 95 (by omega) (by omega), D0 95 (by omega) (by omega)]; try simp (config := {maxSteps := 1000000}) (disch := omega) only [nI_add, nI_1, am_mulN, nI_clamp, am_gI, am_ifd, am_ifn, am_asIe, am_asLe, nI_leI, nI_ltI, nI_eq, am_neg1, am_neg1b, tK_u, tK_o, tK_1, tK_2, tK_3, tK_4, tK_5, am_uE, am_uN]
      · rw [C (t) (by omega)]; try simp (config := {maxSteps := 1000000}) (disch := omega) only [nI_add, nI_1, am_mulN, nI_clamp, am_gI, am_ifd, am_ifn, am_asIe, am_asLe, nI_leI, nI_ltI, nI_eq, am_neg1, am_neg1b, tK_u, tK_o, tK_1, tK_2, tK_3, tK_4, tK_5, am_uE, am_uN]
      · rw [D 95 (by omega) (by omega)]; try simp (config := {maxSteps := 1000000}) (disch := omega) only [nI_add, nI_1, am_mulN, nI_clamp, am_gI, am_ifd, am_ifn, am_asIe, am_asLe, nI_leI, nI_ltI, nI_eq, am_neg1, am_neg1b, tK_u, tK_o, tK_1, tK_2, tK_3, tK_4, tK_5, am_uE, am_uN]
      · refine ⟨?_, ?_⟩
        · rw [C (t + 9) (by omega)]; try simp (config := {maxSteps := 1000000}) (disch := omega) only [nI_add, nI_1, am_mulN, nI_clamp, am_gI, am_ifd, am_ifn, am_asIe, am_asLe, nI_leI, nI_ltI, nI_eq, am_neg1, am_neg1b, tK_u, tK_o, tK_1, tK_2, tK_3, tK_4, tK_5, am_uE, am_uN]
        · rw [C (t + 10) (by omega)]; try simp (config := {maxSteps := 1000000}) (disch := omega) only [nI_add, nI_1, am_mulN, nI_clamp, am_gI, am_ifd, am_ifn, am_asIe, am_asLe, nI_leI, nI_ltI, nI_eq, am_neg1, am_neg1b, tK_u, tK_o, tK_1, tK_2, tK_3, tK_4, tK_5, am_uE, am_uN]
      · intro k hk
        refine ⟨?_, ?_⟩
        · rw [C (t + 9) (by omega), C0 (t + 9) (by omega)]; try simp (config := {maxSteps := 1000000}) (disch := omega) only [nI_add, nI_1, am_mulN, nI_clamp, am_gI, am_ifd, am_ifn, am_asIe, am_asLe, nI_leI, nI_ltI, nI_eq, am_neg1, am_neg1b, tK_u, tK_o, tK_1, tK_2, tK_3, tK_4, tK_5, am_uE, am_uN]
        · rw [C (t + 10) (by omega), C0 (t + 10) (by omega)]; try simp (config := {maxSteps := 1000000}) (disch := omega) only [nI_add, nI_1, am_mulN, nI_clamp, am_gI, am_ifd, am_ifn, am_asIe, am_asLe, nI_leI, nI_ltI, nI_eq, am_neg1, am_neg1b, tK_u, tK_o, tK_1, tK_2, tK_3, tK_4, tK_5, am_uE, am_uN]
      · rw [C (t + 11) (by omega), C0 (t + 11) (by omega)]; try simp (config := {maxSteps := 1000000}) (disch := omega) only [nI_add, nI_1, am_mulN, nI_clamp, am_gI, am_ifd, am_ifn, am_asIe, am_asLe, nI_leI, nI_ltI, nI_eq, am_neg1, am_neg1b, tK_u, tK_o, tK_1, tK_2, tK_3, tK_4, tK_5, am_uE, am_uN]
      · intro k hk; rw [C (t + 11) (by omega), C0 (t + 11) (by omega)]; try simp (config := {maxSteps := 1000000}) (disch := omega) only [nI_add, nI_1, am_mulN, nI_clamp, am_gI, am_ifd, am_ifn, am_asIe, am_asLe, nI_leI, nI_ltI, nI_eq, am_neg1, am_neg1b, tK_u, tK_o, tK_1, tK_2, tK_3, tK_4, tK_5, am_uE, am_uN]
      · refine ⟨?_, ?_⟩
        · rw [D 107 (by omega) (by omega)]; try simp (config := {maxSteps := 1000000}) (disch := omega) only [nI_add, nI_1, am_mulN, nI_clamp, am_gI, am_ifd, am_ifn, am_asIe, am_asLe, nI_leI, nI_ltI, nI_eq, am_neg1, am_neg1b, tK_u, tK_o, tK_1, tK_2, tK_3, tK_4, tK_5, am_uE, am_uN]
        · rw [D 108 (by omega) (by omega)]; try simp (config := {maxSteps := 1000000}) (disch := omega) only [nI_add, nI_1, am_mulN, nI_clamp, am_gI, am_ifd, am_ifn, am_asIe, am_asLe, nI_leI, nI_ltI, nI_eq, am_neg1, am_neg1b, tK_u, tK_o, tK_1, tK_2, tK_3, tK_4, tK_5, am_uE, am_uN]
      · intro k hk
        refine ⟨?_, ?_⟩
        · rw [D 107 (by omega) (by omega), D0 107 (by omega) (by omega)]; try simp (config := {maxSteps := 1000000}) (disch := omega) only [nI_add, nI_1, am_mulN, nI_clamp, am_gI, am_ifd, am_ifn, am_asIe, am_asLe, nI_leI, nI_ltI, nI_eq, am_neg1, am_neg1b, tK_u, tK_o, tK_1, tK_2, tK_3, tK_4, tK_5, am_uE, am_uN]
        · rw [D 108 (by omega) (by omega), D0 108 (by omega) (by omega)]; try simp (config := {maxSteps := 1000000}) (disch := omega) only [nI_add, nI_1, am_mulN, nI_clamp, am_gI, am_ifd, am_ifn, am_asIe, am_asLe, nI_leI, nI_ltI, nI_eq, am_neg1, am_neg1b, tK_u, tK_o, tK_1, tK_2, tK_3, tK_4, tK_5, am_uE, am_uN]
  rw [if_neg c7]
  by_cases c8 : tkK n T p = 8
  · rw [if_pos c8]
    have hR := lnR_8 (Z := Z) (sd := sd) c8
    have hZ := zL_8 (Z := Z) c8
    rw [hR] at hF hS
    rw [hZ] at hS
    refine cl_lamp hx ht hp m0 m0' m4 m4' ?_ ?_
    · intro f q e hf I' h1 h2 h3
      rw [am_asIe, e_Reader_readLine_84, am_gT (by rfl)]
      exact hF f q rl ((ln8_c hn).symm.trans e) hf (Or.inl rfl) I' h1 h2 h3
    · intro q v' I' e hv' he
      rw [ln8_c hn] at e
      rw [nh_c hn] at he
      rw [am_asIe, e_Reader_readLine_84, am_gT (by rfl)]
      have e0 := e
      unfold ln8 at e0
      have g0 : ¬ (m_nA Z = 6) := by
        intro g
        rw [if_pos g] at e0
        have e1 := congrArg Prod.fst e0
        have e2 : (_ : Nat) = 0 := e1
        first | omega | exact absurd e2 (by decide)
      rw [if_neg g0] at e0
      have g1 : ¬ (nhF (Z 96) (m_nH Z) n T (tkE n T p) ≠ 0) := by
        intro g
        rw [if_pos g] at e0
        have e1 := congrArg Prod.fst e0
        have e2 : (_ : Nat) = 0 := e1
        first | omega | exact absurd e2 (by decide)
      rw [if_neg g1] at e0
      have g2 : ¬ (nuF 0 11 n T (tkE n T (tkE n T p)) ≠ 0) := by
        intro g
        rw [if_pos g] at e0
        have e1 := congrArg Prod.fst e0
        have e2 : (_ : Nat) = 0 := e1
        first | omega | exact absurd e2 (by decide)
      rw [if_neg g2] at e0
      have g3 : ¬ (nuF (tkV n T (tkE n T (tkE n T p))) 11 n T (tkE n T (tkE n T (tkE n T p))) ≠ 0) := by
        intro g
        rw [if_pos g] at e0
        have e1 := congrArg Prod.fst e0
        have e2 : (_ : Nat) = 0 := e1
        first | omega | exact absurd e2 (by decide)
      rw [if_neg g3] at e0
      have hq := congrArg Prod.snd e0
      have hq' : _ = q := hq
      refine hS q v' I' rl e (by rw [← hq']; exact hp4) hv' ?_ (frt_e43 he (by unfold uL8; exact frt_tr (frt_u (by omega)) (frt_u (by omega)))) (by rw [he.2.1]; unfold uL8; try simp (config := {maxSteps := 1000000}) (disch := omega) only [nI_add, nI_1, am_mulN, nI_clamp, am_gI, am_ifd, am_ifn, am_asIe, am_asLe, nI_leI, nI_ltI, nI_eq, am_neg1, am_neg1b, tK_u, tK_o, tK_1, tK_2, tK_3, tK_4, tK_5, am_uE, am_uN, hsd]; rw [decide_eq_false (by omega), Bool.or_false]) (by rw [he.2.2.1]; unfold uL8; try simp (config := {maxSteps := 1000000}) (disch := omega) only [nI_add, nI_1, am_mulN, nI_clamp, am_gI, am_ifd, am_ifn, am_asIe, am_asLe, nI_leI, nI_ltI, nI_eq, am_neg1, am_neg1b, tK_u, tK_o, tK_1, tK_2, tK_3, tK_4, tK_5, am_uE, am_uN]) (by rw [he.2.2.2.1]; unfold uL8; try simp (config := {maxSteps := 1000000}) (disch := omega) only [nI_add, nI_1, am_mulN, nI_clamp, am_gI, am_ifd, am_ifn, am_asIe, am_asLe, nI_leI, nI_ltI, nI_eq, am_neg1, am_neg1b, tK_u, tK_o, tK_1, tK_2, tK_3, tK_4, tK_5, am_uE, am_uN]) (by rw [he.2.2.2.2]; unfold uL8; try simp (config := {maxSteps := 1000000}) (disch := omega) only [nI_add, nI_1, am_mulN, nI_clamp, am_gI, am_ifd, am_ifn, am_asIe, am_asLe, nI_leI, nI_ltI, nI_eq, am_neg1, am_neg1b, tK_u, tK_o, tK_1, tK_2, tK_3, tK_4, tK_5, am_uE, am_uN]) (Or.inl rfl)
      have C : ∀ a, ((2 < a ∧ a < 43) ∨ 2000 < a) → mix I' (z8 (m_nA Z) (nhI (Z 96) (m_nH Z) n T (tkE n T p)) (tkV n T (tkE n T (tkE n T p))) (tkV n T (tkE n T (tkE n T (tkE n T p)))) Z) a = (uL8 t (m_nA Z) (nhI (Z 96) (m_nH Z) n T (tkE n T p)) (tkV n T (tkE n T (tkE n T p))) (tkV n T (tkE n T (tkE n T (tkE n T p)))) I) a := fun a h1 => by rw [mix_c h1, he.1 a (by omega)]
      have D : ∀ a, 95 ≤ a → a ≤ 115 → mix I' (z8 (m_nA Z) (nhI (Z 96) (m_nH Z) n T (tkE n T p)) (tkV n T (tkE n T (tkE n T p))) (tkV n T (tkE n T (tkE n T (tkE n T p)))) Z) a = (z8 (m_nA Z) (nhI (Z 96) (m_nH Z) n T (tkE n T p)) (tkV n T (tkE n T (tkE n T p))) (tkV n T (tkE n T (tkE n T (tkE n T p)))) Z) a := fun a h1 h2 => mix_z ⟨h1, h2⟩
      have C0 : ∀ a, ((2 < a ∧ a < 43) ∨ 2000 < a) → mix I Z a = I a := fun a h1 => mix_c h1
      have D0 : ∀ a, 95 ≤ a → a ≤ 115 → mix I Z a = Z a := fun a h1 h2 => mix_z ⟨h1, h2⟩
      unfold uL8 at C
      unfold z8 at C D ⊢
      have gh := nhF_lt (Decidable.not_not.mp g1)
      have gt := nuF_in (Decidable.not_not.mp g3)
      generalize (nhI (Z 96) (m_nH Z) n T (tkE n T p)) = h at *
      generalize (tkV n T (tkE n T (tkE n T (tkE n T p)))) = to at *
      generalize (tkV n T (tkE n T (tkE n T p))) = fr at *
      refine tp_lamp hT ?_ ?_ ?_ mx_A (by omega) (h0 := h) (fr := fr) (to := to) (by rw [mx_H]; exact gh) gt.1 gt.2 ?_ ?_ ?_ ?_ ?_ ?_
      · intro a q0 q1 q2 q3 q4 q5
        by_cases ha : 95 ≤ a ∧ a ≤ 115
        · rw [D a ha.1 ha.2, D0 a ha.1 ha.2]
          try rw [am_uRow (by omega)]
          try rw [am_uRow (by omega)]
          try rw [am_uRow (by omega)]
          try rw [am_uRow (by omega)]
          try rw [am_uRow (by omega)]
        · by_cases hc : (2 < a ∧ a < 43) ∨ 2000 < a
          · rw [C a hc, C0 a hc]
            try rw [am_uRow (by omega)]
            try rw [am_uRow (by omega)]
            try rw [am_uRow (by omega)]
            try rw [am_uRow (by omega)]
            try rw [am_uRow (by omega)]
          · unfold mix; rw [if_neg ha, if_neg hc, if_neg ha, if_neg hc]
      · intro k hk; rw [C (t) (by omega), C0 (t) (by omega)]; try simp (config := {maxSteps := 1000000}) (disch := omega) only [nI_add, nI_1, am_mulN, nI_clamp, am_gI, am_ifd, am_ifn, am_asIe, am_asLe, nI_leI, nI_ltI, nI_eq, am_neg1, am_neg1b, tK_u, tK_o, tK_1, tK_2, tK_3, tK_4, tK_5, am_uE, am_uN]
      · intro k hk; rw [D 95 (by omega) (by omega), D0 95 (by omega) (by omega)]; try simp (config := {maxSteps := 1000000}) (disch := omega) only [nI_add, nI_1, am_mulN, nI_clamp, am_gI, am_ifd, am_ifn, am_asIe, am_asLe, nI_leI, nI_ltI, nI_eq, am_neg1, am_neg1b, tK_u, tK_o, tK_1, tK_2, tK_3, tK_4, tK_5, am_uE, am_uN]
      · rw [C (t) (by omega)]; try simp (config := {maxSteps := 1000000}) (disch := omega) only [nI_add, nI_1, am_mulN, nI_clamp, am_gI, am_ifd, am_ifn, am_asIe, am_asLe, nI_leI, nI_ltI, nI_eq, am_neg1, am_neg1b, tK_u, tK_o, tK_1, tK_2, tK_3, tK_4, tK_5, am_uE, am_uN]
      · rw [D 95 (by omega) (by omega)]; try simp (config := {maxSteps := 1000000}) (disch := omega) only [nI_add, nI_1, am_mulN, nI_clamp, am_gI, am_ifd, am_ifn, am_asIe, am_asLe, nI_leI, nI_ltI, nI_eq, am_neg1, am_neg1b, tK_u, tK_o, tK_1, tK_2, tK_3, tK_4, tK_5, am_uE, am_uN]
      · rw [C (t + 12) (by omega), C0 (t + 12) (by omega)]; try simp (config := {maxSteps := 1000000}) (disch := omega) only [nI_add, nI_1, am_mulN, nI_clamp, am_gI, am_ifd, am_ifn, am_asIe, am_asLe, nI_leI, nI_ltI, nI_eq, am_neg1, am_neg1b, tK_u, tK_o, tK_1, tK_2, tK_3, tK_4, tK_5, am_uE, am_uN]
      · intro k hk; rw [C (t + 12) (by omega), C0 (t + 12) (by omega)]; try simp (config := {maxSteps := 1000000}) (disch := omega) only [nI_add, nI_1, am_mulN, nI_clamp, am_gI, am_ifd, am_ifn, am_asIe, am_asLe, nI_leI, nI_ltI, nI_eq, am_neg1, am_neg1b, tK_u, tK_o, tK_1, tK_2, tK_3, tK_4, tK_5, am_uE, am_uN]
      · refine ⟨?_, ?_, ?_⟩
        · rw [D 109 (by omega) (by omega)]; try simp (config := {maxSteps := 1000000}) (disch := omega) only [nI_add, nI_1, am_mulN, nI_clamp, am_gI, am_ifd, am_ifn, am_asIe, am_asLe, nI_leI, nI_ltI, nI_eq, am_neg1, am_neg1b, tK_u, tK_o, tK_1, tK_2, tK_3, tK_4, tK_5, am_uE, am_uN]
        · rw [D 110 (by omega) (by omega)]; try simp (config := {maxSteps := 1000000}) (disch := omega) only [nI_add, nI_1, am_mulN, nI_clamp, am_gI, am_ifd, am_ifn, am_asIe, am_asLe, nI_leI, nI_ltI, nI_eq, am_neg1, am_neg1b, tK_u, tK_o, tK_1, tK_2, tK_3, tK_4, tK_5, am_uE, am_uN]
        · rw [D 111 (by omega) (by omega)]; try simp (config := {maxSteps := 1000000}) (disch := omega) only [nI_add, nI_1, am_mulN, nI_clamp, am_gI, am_ifd, am_ifn, am_asIe, am_asLe, nI_leI, nI_ltI, nI_eq, am_neg1, am_neg1b, tK_u, tK_o, tK_1, tK_2, tK_3, tK_4, tK_5, am_uE, am_uN]
      · intro k hk
        refine ⟨?_, ?_, ?_⟩
        · rw [D 109 (by omega) (by omega), D0 109 (by omega) (by omega)]; try simp (config := {maxSteps := 1000000}) (disch := omega) only [nI_add, nI_1, am_mulN, nI_clamp, am_gI, am_ifd, am_ifn, am_asIe, am_asLe, nI_leI, nI_ltI, nI_eq, am_neg1, am_neg1b, tK_u, tK_o, tK_1, tK_2, tK_3, tK_4, tK_5, am_uE, am_uN]
        · rw [D 110 (by omega) (by omega), D0 110 (by omega) (by omega)]; try simp (config := {maxSteps := 1000000}) (disch := omega) only [nI_add, nI_1, am_mulN, nI_clamp, am_gI, am_ifd, am_ifn, am_asIe, am_asLe, nI_leI, nI_ltI, nI_eq, am_neg1, am_neg1b, tK_u, tK_o, tK_1, tK_2, tK_3, tK_4, tK_5, am_uE, am_uN]
        · rw [D 111 (by omega) (by omega), D0 111 (by omega) (by omega)]; try simp (config := {maxSteps := 1000000}) (disch := omega) only [nI_add, nI_1, am_mulN, nI_clamp, am_gI, am_ifd, am_ifn, am_asIe, am_asLe, nI_leI, nI_ltI, nI_eq, am_neg1, am_neg1b, tK_u, tK_o, tK_1, tK_2, tK_3, tK_4, tK_5, am_uE, am_uN]
  rw [if_neg c8]
  by_cases c9 : tkK n T p = 9
  · rw [if_pos c9]
    have hR := lnR_9 (Z := Z) (sd := sd) c9
    have hZ := zL_9 (Z := Z) c9
    rw [hR] at hF hS
    rw [hZ] at hS
    refine cl_loud (lo := fun h => decide (¬ Z 97 h ≤ nI 0)) hx ht hp m0 m0' (Or.inl rfl) (fun h hh => by rw [(be h hh).1, decide_eq_true_eq]) ?_ ?_
    · intro f q e hf I' h1 h2 h3
      rw [am_asIe, e_Reader_readLine_96, am_gT (by rfl)]
      exact hF f q rl ((ln9_c hn).symm.trans e) hf (Or.inl rfl) I' h1 h2 h3
    · intro q v' I' e hv' he
      rw [ln9_c hn] at e
      rw [nh_c hn] at he
      rw [am_asIe, e_Reader_readLine_96, am_gT (by rfl)]
      have e0 := e
      unfold ln9 at e0
      have g0 : ¬ (nhF (Z 96) (m_nH Z) n T (tkE n T p) ≠ 0) := by
        intro g
        rw [if_pos g] at e0
        have e1 := congrArg Prod.fst e0
        have e2 : (_ : Nat) = 0 := e1
        first | omega | exact absurd e2 (by decide)
      rw [if_neg g0] at e0
      have g1 : ¬ ((fun h => decide (¬ Z 97 h ≤ nI 0)) (nhI (Z 96) (m_nH Z) n T (tkE n T p)) = true) := by
        intro g
        rw [if_pos g] at e0
        have e1 := congrArg Prod.fst e0
        have e2 : (_ : Nat) = 0 := e1
        first | omega | exact absurd e2 (by decide)
      rw [if_neg g1] at e0
      have g2 : ¬ (nuF 1 9 n T (tkE n T (tkE n T p)) ≠ 0) := by
        intro g
        rw [if_pos g] at e0
        have e1 := congrArg Prod.fst e0
        have e2 : (_ : Nat) = 0 := e1
        first | omega | exact absurd e2 (by decide)
      rw [if_neg g2] at e0
      have hq := congrArg Prod.snd e0
      have hq' : _ = q := hq
      refine hS q v' I' rl e (by rw [← hq']; exact hp3) hv' ?_ (frt_e43 he (by unfold uL9; exact frt_u (by omega))) (by rw [he.2.1]; unfold uL9; try simp (config := {maxSteps := 1000000}) (disch := omega) only [nI_add, nI_1, am_mulN, nI_clamp, am_gI, am_ifd, am_ifn, am_asIe, am_asLe, nI_leI, nI_ltI, nI_eq, am_neg1, am_neg1b, tK_u, tK_o, tK_1, tK_2, tK_3, tK_4, tK_5, am_uE, am_uN, hsd]; rw [decide_eq_false (by omega), Bool.or_false]) (by rw [he.2.2.1]; unfold uL9; try simp (config := {maxSteps := 1000000}) (disch := omega) only [nI_add, nI_1, am_mulN, nI_clamp, am_gI, am_ifd, am_ifn, am_asIe, am_asLe, nI_leI, nI_ltI, nI_eq, am_neg1, am_neg1b, tK_u, tK_o, tK_1, tK_2, tK_3, tK_4, tK_5, am_uE, am_uN]) (by rw [he.2.2.2.1]; unfold uL9; try simp (config := {maxSteps := 1000000}) (disch := omega) only [nI_add, nI_1, am_mulN, nI_clamp, am_gI, am_ifd, am_ifn, am_asIe, am_asLe, nI_leI, nI_ltI, nI_eq, am_neg1, am_neg1b, tK_u, tK_o, tK_1, tK_2, tK_3, tK_4, tK_5, am_uE, am_uN]) (by rw [he.2.2.2.2]; unfold uL9; try simp (config := {maxSteps := 1000000}) (disch := omega) only [nI_add, nI_1, am_mulN, nI_clamp, am_gI, am_ifd, am_ifn, am_asIe, am_asLe, nI_leI, nI_ltI, nI_eq, am_neg1, am_neg1b, tK_u, tK_o, tK_1, tK_2, tK_3, tK_4, tK_5, am_uE, am_uN]) (Or.inl rfl)
      have C : ∀ a, ((2 < a ∧ a < 43) ∨ 2000 < a) → mix I' (am_u Z 97 (nhI (Z 96) (m_nH Z) n T (tkE n T p)) (nI (tkV n T (tkE n T (tkE n T p))))) a = (uL9 (t + 13) (nhI (Z 96) (m_nH Z) n T (tkE n T p)) (tkV n T (tkE n T (tkE n T p))) I) a := fun a h1 => by rw [mix_c h1, he.1 a (by omega)]
      have D : ∀ a, 95 ≤ a → a ≤ 115 → mix I' (am_u Z 97 (nhI (Z 96) (m_nH Z) n T (tkE n T p)) (nI (tkV n T (tkE n T (tkE n T p))))) a = (am_u Z 97 (nhI (Z 96) (m_nH Z) n T (tkE n T p)) (nI (tkV n T (tkE n T (tkE n T p))))) a := fun a h1 h2 => mix_z ⟨h1, h2⟩
      have C0 : ∀ a, ((2 < a ∧ a < 43) ∨ 2000 < a) → mix I Z a = I a := fun a h1 => mix_c h1
      have D0 : ∀ a, 95 ≤ a → a ≤ 115 → mix I Z a = Z a := fun a h1 h2 => mix_z ⟨h1, h2⟩
      unfold uL9 at C
      have gh := nhF_lt (Decidable.not_not.mp g0)
      have gn := nuF_in (Decidable.not_not.mp g2)
      generalize (nhI (Z 96) (m_nH Z) n T (tkE n T p)) = h at *
      generalize (tkV n T (tkE n T (tkE n T p))) = c at *
      refine tp_bell hT ?_ (h0 := h) (k := c) (by rw [mx_H]; exact gh) gn.2 ?_ ?_ ?_ ?_
      · intro a q0 q1
        by_cases ha : 95 ≤ a ∧ a ≤ 115
        · rw [D a ha.1 ha.2, D0 a ha.1 ha.2]
          try rw [am_uRow (by omega)]
          try rw [am_uRow (by omega)]
          try rw [am_uRow (by omega)]
          try rw [am_uRow (by omega)]
          try rw [am_uRow (by omega)]
        · by_cases hc : (2 < a ∧ a < 43) ∨ 2000 < a
          · rw [C a hc, C0 a hc]
            try rw [am_uRow (by omega)]
            try rw [am_uRow (by omega)]
            try rw [am_uRow (by omega)]
            try rw [am_uRow (by omega)]
            try rw [am_uRow (by omega)]
          · unfold mix; rw [if_neg ha, if_neg hc, if_neg ha, if_neg hc]
      · rw [C (t + 13) (by omega)]; try simp (config := {maxSteps := 1000000}) (disch := omega) only [nI_add, nI_1, am_mulN, nI_clamp, am_gI, am_ifd, am_ifn, am_asIe, am_asLe, nI_leI, nI_ltI, nI_eq, am_neg1, am_neg1b, tK_u, tK_o, tK_1, tK_2, tK_3, tK_4, tK_5, am_uE, am_uN]
      · intro k hk; rw [C (t + 13) (by omega), C0 (t + 13) (by omega)]; try simp (config := {maxSteps := 1000000}) (disch := omega) only [nI_add, nI_1, am_mulN, nI_clamp, am_gI, am_ifd, am_ifn, am_asIe, am_asLe, nI_leI, nI_ltI, nI_eq, am_neg1, am_neg1b, tK_u, tK_o, tK_1, tK_2, tK_3, tK_4, tK_5, am_uE, am_uN]
      · rw [D 97 (by omega) (by omega)]; try simp (config := {maxSteps := 1000000}) (disch := omega) only [nI_add, nI_1, am_mulN, nI_clamp, am_gI, am_ifd, am_ifn, am_asIe, am_asLe, nI_leI, nI_ltI, nI_eq, am_neg1, am_neg1b, tK_u, tK_o, tK_1, tK_2, tK_3, tK_4, tK_5, am_uE, am_uN]
      · intro k hk; rw [D 97 (by omega) (by omega), D0 97 (by omega) (by omega)]; try simp (config := {maxSteps := 1000000}) (disch := omega) only [nI_add, nI_1, am_mulN, nI_clamp, am_gI, am_ifd, am_ifn, am_asIe, am_asLe, nI_leI, nI_ltI, nI_eq, am_neg1, am_neg1b, tK_u, tK_o, tK_1, tK_2, tK_3, tK_4, tK_5, am_uE, am_uN]
  rw [if_neg c9]
  by_cases c10 : tkK n T p = 10
  · rw [if_pos c10]
    have hR := lnR_10 (Z := Z) (sd := sd) c10
    have hZ := zL_10 (Z := Z) c10
    rw [hR] at hF hS
    rw [hZ] at hS
    refine cl_cat hx ht hp m0 m0' ?_ ?_
    · intro f q e hf I' h1 h2 h3
      rw [am_asIe, e_Reader_readLine_101, am_gT (by rfl)]
      exact hF f q rl ((ln10_c hn ct).symm.trans e) hf (Or.inl rfl) I' h1 h2 h3
    · intro q v' I' e hv' he
      rw [ln10_c hn ct] at e
      rw [nh_c hn] at he
      rw [am_asIe, e_Reader_readLine_101, am_gT (by rfl)]
      have e0 := e
      unfold ln10 at e0
      have g0 : ¬ (nhF (Z 96) (m_nH Z) n T (tkE n T p) ≠ 0) := by
        intro g
        rw [if_pos g] at e0
        have e1 := congrArg Prod.fst e0
        have e2 : (_ : Nat) = 0 := e1
        first | omega | exact absurd e2 (by decide)
      rw [if_neg g0] at e0
      have g1 : ¬ ((fun h => decide (¬ Z 98 h ≤ nI 0)) (nhI (Z 96) (m_nH Z) n T (tkE n T p)) = true) := by
        intro g
        rw [if_pos g] at e0
        have e1 := congrArg Prod.fst e0
        have e2 : (_ : Nat) = 0 := e1
        first | omega | exact absurd e2 (by decide)
      rw [if_neg g1] at e0
      have hq := congrArg Prod.snd e0
      have hq' : _ = q := hq
      refine hS q v' I' rl e (by rw [← hq']; exact hp2) hv' ?_ (frt_e43 he (by unfold uL10; exact frt_u (by omega))) (by rw [he.2.1]; unfold uL10; try simp (config := {maxSteps := 1000000}) (disch := omega) only [nI_add, nI_1, am_mulN, nI_clamp, am_gI, am_ifd, am_ifn, am_asIe, am_asLe, nI_leI, nI_ltI, nI_eq, am_neg1, am_neg1b, tK_u, tK_o, tK_1, tK_2, tK_3, tK_4, tK_5, am_uE, am_uN, hsd]; rw [decide_eq_false (by omega), Bool.or_false]) (by rw [he.2.2.1]; unfold uL10; try simp (config := {maxSteps := 1000000}) (disch := omega) only [nI_add, nI_1, am_mulN, nI_clamp, am_gI, am_ifd, am_ifn, am_asIe, am_asLe, nI_leI, nI_ltI, nI_eq, am_neg1, am_neg1b, tK_u, tK_o, tK_1, tK_2, tK_3, tK_4, tK_5, am_uE, am_uN]) (by rw [he.2.2.2.1]; unfold uL10; try simp (config := {maxSteps := 1000000}) (disch := omega) only [nI_add, nI_1, am_mulN, nI_clamp, am_gI, am_ifd, am_ifn, am_asIe, am_asLe, nI_leI, nI_ltI, nI_eq, am_neg1, am_neg1b, tK_u, tK_o, tK_1, tK_2, tK_3, tK_4, tK_5, am_uE, am_uN]) (by rw [he.2.2.2.2]; unfold uL10; try simp (config := {maxSteps := 1000000}) (disch := omega) only [nI_add, nI_1, am_mulN, nI_clamp, am_gI, am_ifd, am_ifn, am_asIe, am_asLe, nI_leI, nI_ltI, nI_eq, am_neg1, am_neg1b, tK_u, tK_o, tK_1, tK_2, tK_3, tK_4, tK_5, am_uE, am_uN]) (Or.inl rfl)
      have C : ∀ a, ((2 < a ∧ a < 43) ∨ 2000 < a) → mix I' (am_u Z 98 (nhI (Z 96) (m_nH Z) n T (tkE n T p)) (nI 1)) a = (uL10 t (nhI (Z 96) (m_nH Z) n T (tkE n T p)) I) a := fun a h1 => by rw [mix_c h1, he.1 a (by omega)]
      have D : ∀ a, 95 ≤ a → a ≤ 115 → mix I' (am_u Z 98 (nhI (Z 96) (m_nH Z) n T (tkE n T p)) (nI 1)) a = (am_u Z 98 (nhI (Z 96) (m_nH Z) n T (tkE n T p)) (nI 1)) a := fun a h1 h2 => mix_z ⟨h1, h2⟩
      have C0 : ∀ a, ((2 < a ∧ a < 43) ∨ 2000 < a) → mix I Z a = I a := fun a h1 => mix_c h1
      have D0 : ∀ a, 95 ≤ a → a ≤ 115 → mix I Z a = Z a := fun a h1 h2 => mix_z ⟨h1, h2⟩
      unfold uL10 at C
      have gh := nhF_lt (Decidable.not_not.mp g0)
      generalize (nhI (Z 96) (m_nH Z) n T (tkE n T p)) = h at *
      refine tp_cat hT ?_ ?_ (h0 := h) (by rw [mx_H]; exact gh) ?_ ?_ ?_
      · intro a q0 q1
        by_cases ha : 95 ≤ a ∧ a ≤ 115
        · rw [D a ha.1 ha.2, D0 a ha.1 ha.2]
          try rw [am_uRow (by omega)]
          try rw [am_uRow (by omega)]
          try rw [am_uRow (by omega)]
          try rw [am_uRow (by omega)]
          try rw [am_uRow (by omega)]
        · by_cases hc : (2 < a ∧ a < 43) ∨ 2000 < a
          · rw [C a hc, C0 a hc]
            try rw [am_uRow (by omega)]
            try rw [am_uRow (by omega)]
            try rw [am_uRow (by omega)]
            try rw [am_uRow (by omega)]
            try rw [am_uRow (by omega)]
          · unfold mix; rw [if_neg ha, if_neg hc, if_neg ha, if_neg hc]
      · intro k hk; rw [C (t) (by omega), C0 (t) (by omega)]; try simp (config := {maxSteps := 1000000}) (disch := omega) only [nI_add, nI_1, am_mulN, nI_clamp, am_gI, am_ifd, am_ifn, am_asIe, am_asLe, nI_leI, nI_ltI, nI_eq, am_neg1, am_neg1b, tK_u, tK_o, tK_1, tK_2, tK_3, tK_4, tK_5, am_uE, am_uN]
      · rw [C (t) (by omega), C0 (t) (by omega)]; try simp (config := {maxSteps := 1000000}) (disch := omega) only [nI_add, nI_1, am_mulN, nI_clamp, am_gI, am_ifd, am_ifn, am_asIe, am_asLe, nI_leI, nI_ltI, nI_eq, am_neg1, am_neg1b, tK_u, tK_o, tK_1, tK_2, tK_3, tK_4, tK_5, am_uE, am_uN]
      · rw [D 98 (by omega) (by omega)]; try simp (config := {maxSteps := 1000000}) (disch := omega) only [nI_add, nI_1, am_mulN, nI_clamp, am_gI, am_ifd, am_ifn, am_asIe, am_asLe, nI_leI, nI_ltI, nI_eq, am_neg1, am_neg1b, tK_u, tK_o, tK_1, tK_2, tK_3, tK_4, tK_5, am_uE, am_uN]
      · intro k hk; rw [D 98 (by omega) (by omega), D0 98 (by omega) (by omega)]; try simp (config := {maxSteps := 1000000}) (disch := omega) only [nI_add, nI_1, am_mulN, nI_clamp, am_gI, am_ifd, am_ifn, am_asIe, am_asLe, nI_leI, nI_ltI, nI_eq, am_neg1, am_neg1b, tK_u, tK_o, tK_1, tK_2, tK_3, tK_4, tK_5, am_uE, am_uN]
  rw [if_neg c10]
  by_cases c11 : tkK n T p = 11
  · rw [if_pos c11]
    have hR := lnR_11 (Z := Z) (sd := sd) c11
    have hZ := zL_11 (Z := Z) c11
    rw [hR] at hF hS
    rw [hZ] at hS
    refine cl_loud (lo := fun h => decide (¬ Z 99 h ≤ nI 0)) hx ht hp m0 m0' (Or.inr rfl) (fun h hh => by rw [(be h hh).2, decide_eq_true_eq]) ?_ ?_
    · intro f q e hf I' h1 h2 h3
      rw [am_asIe, e_Reader_readLine_113, am_gT (by rfl)]
      exact hF f q rl ((ln9_c hn).symm.trans e) hf (Or.inl rfl) I' h1 h2 h3
    · intro q v' I' e hv' he
      rw [ln9_c hn] at e
      rw [nh_c hn] at he
      rw [am_asIe, e_Reader_readLine_113, am_gT (by rfl)]
      have e0 := e
      unfold ln9 at e0
      have g0 : ¬ (nhF (Z 96) (m_nH Z) n T (tkE n T p) ≠ 0) := by
        intro g
        rw [if_pos g] at e0
        have e1 := congrArg Prod.fst e0
        have e2 : (_ : Nat) = 0 := e1
        first | omega | exact absurd e2 (by decide)
      rw [if_neg g0] at e0
      have g1 : ¬ ((fun h => decide (¬ Z 99 h ≤ nI 0)) (nhI (Z 96) (m_nH Z) n T (tkE n T p)) = true) := by
        intro g
        rw [if_pos g] at e0
        have e1 := congrArg Prod.fst e0
        have e2 : (_ : Nat) = 0 := e1
        first | omega | exact absurd e2 (by decide)
      rw [if_neg g1] at e0
      have g2 : ¬ (nuF 1 9 n T (tkE n T (tkE n T p)) ≠ 0) := by
        intro g
        rw [if_pos g] at e0
        have e1 := congrArg Prod.fst e0
        have e2 : (_ : Nat) = 0 := e1
        first | omega | exact absurd e2 (by decide)
      rw [if_neg g2] at e0
      have hq := congrArg Prod.snd e0
      have hq' : _ = q := hq
      refine hS q v' I' rl e (by rw [← hq']; exact hp3) hv' ?_ (frt_e43 he (by unfold uL9; exact frt_u (by omega))) (by rw [he.2.1]; unfold uL9; try simp (config := {maxSteps := 1000000}) (disch := omega) only [nI_add, nI_1, am_mulN, nI_clamp, am_gI, am_ifd, am_ifn, am_asIe, am_asLe, nI_leI, nI_ltI, nI_eq, am_neg1, am_neg1b, tK_u, tK_o, tK_1, tK_2, tK_3, tK_4, tK_5, am_uE, am_uN, hsd]; rw [decide_eq_false (by omega), Bool.or_false]) (by rw [he.2.2.1]; unfold uL9; try simp (config := {maxSteps := 1000000}) (disch := omega) only [nI_add, nI_1, am_mulN, nI_clamp, am_gI, am_ifd, am_ifn, am_asIe, am_asLe, nI_leI, nI_ltI, nI_eq, am_neg1, am_neg1b, tK_u, tK_o, tK_1, tK_2, tK_3, tK_4, tK_5, am_uE, am_uN]) (by rw [he.2.2.2.1]; unfold uL9; try simp (config := {maxSteps := 1000000}) (disch := omega) only [nI_add, nI_1, am_mulN, nI_clamp, am_gI, am_ifd, am_ifn, am_asIe, am_asLe, nI_leI, nI_ltI, nI_eq, am_neg1, am_neg1b, tK_u, tK_o, tK_1, tK_2, tK_3, tK_4, tK_5, am_uE, am_uN]) (by rw [he.2.2.2.2]; unfold uL9; try simp (config := {maxSteps := 1000000}) (disch := omega) only [nI_add, nI_1, am_mulN, nI_clamp, am_gI, am_ifd, am_ifn, am_asIe, am_asLe, nI_leI, nI_ltI, nI_eq, am_neg1, am_neg1b, tK_u, tK_o, tK_1, tK_2, tK_3, tK_4, tK_5, am_uE, am_uN]) (Or.inl rfl)
      have C : ∀ a, ((2 < a ∧ a < 43) ∨ 2000 < a) → mix I' (am_u Z 99 (nhI (Z 96) (m_nH Z) n T (tkE n T p)) (nI (tkV n T (tkE n T (tkE n T p))))) a = (uL9 (t + 14) (nhI (Z 96) (m_nH Z) n T (tkE n T p)) (tkV n T (tkE n T (tkE n T p))) I) a := fun a h1 => by rw [mix_c h1, he.1 a (by omega)]
      have D : ∀ a, 95 ≤ a → a ≤ 115 → mix I' (am_u Z 99 (nhI (Z 96) (m_nH Z) n T (tkE n T p)) (nI (tkV n T (tkE n T (tkE n T p))))) a = (am_u Z 99 (nhI (Z 96) (m_nH Z) n T (tkE n T p)) (nI (tkV n T (tkE n T (tkE n T p))))) a := fun a h1 h2 => mix_z ⟨h1, h2⟩
      have C0 : ∀ a, ((2 < a ∧ a < 43) ∨ 2000 < a) → mix I Z a = I a := fun a h1 => mix_c h1
      have D0 : ∀ a, 95 ≤ a → a ≤ 115 → mix I Z a = Z a := fun a h1 h2 => mix_z ⟨h1, h2⟩
      unfold uL9 at C
      have gh := nhF_lt (Decidable.not_not.mp g0)
      have gn := nuF_in (Decidable.not_not.mp g2)
      generalize (nhI (Z 96) (m_nH Z) n T (tkE n T p)) = h at *
      generalize (tkV n T (tkE n T (tkE n T p))) = c at *
      refine tp_corner hT ?_ (h0 := h) (k := c) (by rw [mx_H]; exact gh) gn.2 ?_ ?_ ?_ ?_
      · intro a q0 q1
        by_cases ha : 95 ≤ a ∧ a ≤ 115
        · rw [D a ha.1 ha.2, D0 a ha.1 ha.2]
          try rw [am_uRow (by omega)]
          try rw [am_uRow (by omega)]
          try rw [am_uRow (by omega)]
          try rw [am_uRow (by omega)]
          try rw [am_uRow (by omega)]
        · by_cases hc : (2 < a ∧ a < 43) ∨ 2000 < a
          · rw [C a hc, C0 a hc]
            try rw [am_uRow (by omega)]
            try rw [am_uRow (by omega)]
            try rw [am_uRow (by omega)]
            try rw [am_uRow (by omega)]
            try rw [am_uRow (by omega)]
          · unfold mix; rw [if_neg ha, if_neg hc, if_neg ha, if_neg hc]
      · rw [C (t + 14) (by omega)]; try simp (config := {maxSteps := 1000000}) (disch := omega) only [nI_add, nI_1, am_mulN, nI_clamp, am_gI, am_ifd, am_ifn, am_asIe, am_asLe, nI_leI, nI_ltI, nI_eq, am_neg1, am_neg1b, tK_u, tK_o, tK_1, tK_2, tK_3, tK_4, tK_5, am_uE, am_uN]
      · intro k hk; rw [C (t + 14) (by omega), C0 (t + 14) (by omega)]; try simp (config := {maxSteps := 1000000}) (disch := omega) only [nI_add, nI_1, am_mulN, nI_clamp, am_gI, am_ifd, am_ifn, am_asIe, am_asLe, nI_leI, nI_ltI, nI_eq, am_neg1, am_neg1b, tK_u, tK_o, tK_1, tK_2, tK_3, tK_4, tK_5, am_uE, am_uN]
      · rw [D 99 (by omega) (by omega)]; try simp (config := {maxSteps := 1000000}) (disch := omega) only [nI_add, nI_1, am_mulN, nI_clamp, am_gI, am_ifd, am_ifn, am_asIe, am_asLe, nI_leI, nI_ltI, nI_eq, am_neg1, am_neg1b, tK_u, tK_o, tK_1, tK_2, tK_3, tK_4, tK_5, am_uE, am_uN]
      · intro k hk; rw [D 99 (by omega) (by omega), D0 99 (by omega) (by omega)]; try simp (config := {maxSteps := 1000000}) (disch := omega) only [nI_add, nI_1, am_mulN, nI_clamp, am_gI, am_ifd, am_ifn, am_asIe, am_asLe, nI_leI, nI_ltI, nI_eq, am_neg1, am_neg1b, tK_u, tK_o, tK_1, tK_2, tK_3, tK_4, tK_5, am_uE, am_uN]
  rw [if_neg c11]
  by_cases c12 : tkK n T p = 12
  · rw [if_pos c12]
    have hR := lnR_12 (Z := Z) (sd := sd) c12
    have hZ := zL_12 (Z := Z) c12
    rw [hR] at hF hS
    rw [hZ] at hS
    refine cl_seed hx ht hp hsd ?_ ?_
    · intro f q e hf I' h1 h2 h3
      rw [am_asIe, e_Reader_readLine_118, am_gT (by rfl)]
      exact hF f q rl (e) hf (Or.inl rfl) I' h1 h2 h3
    · intro q v' I' e hv' he
      rw [am_asIe, e_Reader_readLine_118, am_gT (by rfl)]
      have e0 := e
      unfold ln12 at e0
      have g0 : ¬ (sd = true) := by
        intro g
        rw [if_pos g] at e0
        have e1 := congrArg Prod.fst e0
        have e2 : (_ : Nat) = 0 := e1
        first | omega | exact absurd e2 (by decide)
      rw [if_neg g0] at e0
      have g1 : ¬ (nuF 0 99999 n T (tkE n T p) ≠ 0) := by
        intro g
        rw [if_pos g] at e0
        have e1 := congrArg Prod.fst e0
        have e2 : (_ : Nat) = 0 := e1
        first | omega | exact absurd e2 (by decide)
      rw [if_neg g1] at e0
      have hq := congrArg Prod.snd e0
      have hq' : _ = q := hq
      refine hS q v' I' rl e (by rw [← hq']; exact hp2) hv' ?_ (frt_e43 he (by unfold uL12; exact frt_tr (frt_u (by omega)) (frt_u (by omega)))) (by rw [he.2.1]; unfold uL12; rw [am_uN (by omega), am_uE, decide_eq_true c12, Bool.or_true]; rfl) (by rw [he.2.2.1]; unfold uL12; try simp (config := {maxSteps := 1000000}) (disch := omega) only [nI_add, nI_1, am_mulN, nI_clamp, am_gI, am_ifd, am_ifn, am_asIe, am_asLe, nI_leI, nI_ltI, nI_eq, am_neg1, am_neg1b, tK_u, tK_o, tK_1, tK_2, tK_3, tK_4, tK_5, am_uE, am_uN]) (by rw [he.2.2.2.1]; unfold uL12; try simp (config := {maxSteps := 1000000}) (disch := omega) only [nI_add, nI_1, am_mulN, nI_clamp, am_gI, am_ifd, am_ifn, am_asIe, am_asLe, nI_leI, nI_ltI, nI_eq, am_neg1, am_neg1b, tK_u, tK_o, tK_1, tK_2, tK_3, tK_4, tK_5, am_uE, am_uN]) (by rw [he.2.2.2.2]; unfold uL12; try simp (config := {maxSteps := 1000000}) (disch := omega) only [nI_add, nI_1, am_mulN, nI_clamp, am_gI, am_ifd, am_ifn, am_asIe, am_asLe, nI_leI, nI_ltI, nI_eq, am_neg1, am_neg1b, tK_u, tK_o, tK_1, tK_2, tK_3, tK_4, tK_5, am_uE, am_uN]) (Or.inl rfl)
      have C : ∀ a, ((2 < a ∧ a < 43) ∨ 2000 < a) → mix I' (am_u Z 95 5 (nI (tkV n T (tkE n T p)))) a = (uL12 t (tkV n T (tkE n T p)) I) a := fun a h1 => by rw [mix_c h1, he.1 a (by omega)]
      have D : ∀ a, 95 ≤ a → a ≤ 115 → mix I' (am_u Z 95 5 (nI (tkV n T (tkE n T p)))) a = (am_u Z 95 5 (nI (tkV n T (tkE n T p)))) a := fun a h1 h2 => mix_z ⟨h1, h2⟩
      have C0 : ∀ a, ((2 < a ∧ a < 43) ∨ 2000 < a) → mix I Z a = I a := fun a h1 => mix_c h1
      have D0 : ∀ a, 95 ≤ a → a ≤ 115 → mix I Z a = Z a := fun a h1 h2 => mix_z ⟨h1, h2⟩
      unfold uL12 at C
      refine tp_seed hT ?_ ?_ ?_ ?_
      · intro a q0 q1
        by_cases ha : 95 ≤ a ∧ a ≤ 115
        · rw [D a ha.1 ha.2, D0 a ha.1 ha.2]
          try rw [am_uRow (by omega)]
          try rw [am_uRow (by omega)]
          try rw [am_uRow (by omega)]
          try rw [am_uRow (by omega)]
          try rw [am_uRow (by omega)]
        · by_cases hc : (2 < a ∧ a < 43) ∨ 2000 < a
          · rw [C a hc, C0 a hc]
            try rw [am_uRow (by omega)]
            try rw [am_uRow (by omega)]
            try rw [am_uRow (by omega)]
            try rw [am_uRow (by omega)]
            try rw [am_uRow (by omega)]
          · unfold mix; rw [if_neg ha, if_neg hc, if_neg ha, if_neg hc]
      · intro k hk; rw [C (t) (by omega), C0 (t) (by omega)]; try simp (config := {maxSteps := 1000000}) (disch := omega) only [nI_add, nI_1, am_mulN, nI_clamp, am_gI, am_ifd, am_ifn, am_asIe, am_asLe, nI_leI, nI_ltI, nI_eq, am_neg1, am_neg1b, tK_u, tK_o, tK_1, tK_2, tK_3, tK_4, tK_5, am_uE, am_uN]
      · intro k hk; rw [D 95 (by omega) (by omega), D0 95 (by omega) (by omega)]; try simp (config := {maxSteps := 1000000}) (disch := omega) only [nI_add, nI_1, am_mulN, nI_clamp, am_gI, am_ifd, am_ifn, am_asIe, am_asLe, nI_leI, nI_ltI, nI_eq, am_neg1, am_neg1b, tK_u, tK_o, tK_1, tK_2, tK_3, tK_4, tK_5, am_uE, am_uN]
      · rw [C (t) (by omega), D 95 (by omega) (by omega)]; try simp (config := {maxSteps := 1000000}) (disch := omega) only [nI_add, nI_1, am_mulN, nI_clamp, am_gI, am_ifd, am_ifn, am_asIe, am_asLe, nI_leI, nI_ltI, nI_eq, am_neg1, am_neg1b, tK_u, tK_o, tK_1, tK_2, tK_3, tK_4, tK_5, am_uE, am_uN]
  rw [if_neg c12]
  by_cases c13 : tkK n T p = 13
  · rw [if_pos c13]
    have hR := lnR_13 (Z := Z) (sd := sd) c13
    have hZ := zL_13 (Z := Z) c13
    rw [hR] at hF hS
    rw [hZ] at hS
    refine cl_law hx ht hp ro k0 k64 k1 hs us ?_ ?_
    · intro f q rl' e hf hrl I' h1 h2 h3
      rw [am_asIe, e_Reader_readLine_123, am_gT (by rfl)]
      exact hF f q rl' e hf hrl I' h1 h2 h3
    · intro ru q v' I' kn' R' hr3 hkk hsf hsy hln hq hv' hL hfx
      rw [am_asIe, e_Reader_readLine_123, am_gT (by rfl)]
      have hok := sy_ok (n := n) (T := T) (st := m_kn Z) hx.1.1 (m := 701) (p := tkE n T (tkE n T p)) (w := []) (cp := [false]) (sd := true) (nm := true) (kn := m_kn Z) (R := []) hp2 (by have := hx.1.1; omega) ⟨k64, rfl, rfl, by decide, by decide, fun k hk => by cases hk⟩ (fun k hk => by cases hk) (fun k hk => by cases hk) rfl (by rw [hsy])
      rw [hsy] at hok hS
      obtain ⟨o1, o2, o3, o4, o5, o6, o7⟩ := hok
      rw [show tkK n T (tkE n T p) - 14 = ru by omega] at hS
      obtain ⟨l0, l1, l2, l3, l4⟩ := hL
      have frI : frt t I (am_u I (t + 17) ru (nI (m_kn Z))) := frt_u (by omega)
      have e43' : I' 43 = I 43 := by
        rw [hfx.1 43 (by omega) (by omega) (by omega) (by omega) (by omega) (by omega) (by omega) (by omega), am_uRow (by omega)]
      refine hS q v' I' (t + 15) hln hq hv' ?_ (frt_tr frI (frx_frt rfl hfx)) (by rw [e43', hsd, decide_eq_false (by omega), Bool.or_false]) (by rw [e43']) (by rw [e43']) (by rw [e43']) (Or.inr rfl)
      have o3' : m_kn Z + R'.length = kn' := o3
      have o4' : kn' ≤ 64 := o4
      rw [o3'] at l1 l3
      have C0 : ∀ a, ((2 < a ∧ a < 43) ∨ 2000 < a) → mix I Z a = I a := fun a h1 => mix_c h1
      have D0 : ∀ a, 95 ≤ a → a ≤ 115 → mix I Z a = Z a := fun a h1 h2 => mix_z ⟨h1, h2⟩
      have C : ∀ a, ((2 < a ∧ a < 43) ∨ 2000 < a) → mix I' (z13 ru (m_kn Z) kn' R' Z) a = I' a := fun a h1 => mix_c h1
      have D : ∀ a, 95 ≤ a → a ≤ 115 → mix I' (z13 ru (m_kn Z) kn' R' Z) a = (z13 ru (m_kn Z) kn' R' Z) a := fun a h1 h2 => mix_z ⟨h1, h2⟩
      unfold z13 at C D ⊢
      refine tp_law hT ?_ ?_ hr3 mx_K o3' o4' o1 o2 ?_ ?_ ?_ ?_ ?_ ?_ ?_ ?_ ?_ ?_
      · intro a q0 q1 q2 q3 q4 q5 q6 q7 q8 q9
        by_cases ha : 95 ≤ a ∧ a ≤ 115
        · rw [D a ha.1 ha.2, D0 a ha.1 ha.2, am_uRow (by omega), am_uRow (by omega), am_uRow (by omega)]
          funext j
          exact rwz_o (Or.inl ⟨by omega, by omega⟩)
        · by_cases hc : (2 < a ∧ a < 43) ∨ 2000 < a
          · rw [C a hc, C0 a hc, hfx.1 a (by omega) (by omega) (by omega) (by omega) (by omega) (by omega) (by omega) (by omega), am_uRow (by omega)]
          · unfold mix; rw [if_neg ha, if_neg hc, if_neg ha, if_neg hc]
      · intro k hk
        rw [D 95 (by omega) (by omega), D0 95 (by omega) (by omega), am_uN (by omega), am_uN (by omega), am_uN (by omega)]
        exact rwz_o (Or.inl ⟨by omega, by omega⟩)
      · rw [D 95 (by omega) (by omega), am_uE]
      · rw [C (t + 15) (by omega)]; exact ⟨l0, l1⟩
      · exact rwl_c (fun i hi => by rw [C (t + 15 + 1) (by omega)]) l2
      · intro i hi
        rw [C (t + 16) (by omega), C0 (t + 16) (by omega)]
        have := hfx.2.1 i hi
        rw [this, am_uN (by omega)]
      · rw [C (t + 17) (by omega), C (t + 18) (by omega), C (t + 19) (by omega), hfx.1 (t + 17) (by omega) (by omega) (by omega) (by omega) (by omega) (by omega) (by omega) (by omega), am_uE]
        exact ⟨rfl, l3, l4⟩
      · intro j hj
        rw [C (t + 17) (by omega), C (t + 18) (by omega), C (t + 19) (by omega), C0 (t + 17) (by omega), C0 (t + 18) (by omega), C0 (t + 19) (by omega), hfx.1 (t + 17) (by omega) (by omega) (by omega) (by omega) (by omega) (by omega) (by omega) (by omega), am_uN (by omega)]
        have := hfx.2.2 j hj
        refine ⟨rfl, ?_, ?_⟩
        · rw [show t + 18 = t + 15 + 3 from rfl, this.1, am_uN (by omega)]
        · rw [show t + 19 = t + 15 + 4 from rfl, this.2, am_uN (by omega)]
      · rw [D 112 (by omega) (by omega), D 113 (by omega) (by omega)]
        refine ⟨?_, ?_⟩
        · rw [am_uN (by omega), am_uN (by omega), am_uE]
        · rw [am_uN (by omega), am_uE]
      · intro j hj
        rw [D 112 (by omega) (by omega), D 113 (by omega) (by omega), D0 112 (by omega) (by omega), D0 113 (by omega) (by omega)]
        refine ⟨?_, ?_⟩
        · rw [am_uN (by omega), am_uN (by omega), am_uN (by omega)]; exact rwz_o (Or.inl ⟨by omega, by omega⟩)
        · rw [am_uN (by omega), am_uN (by omega), am_uN (by omega)]; exact rwz_o (Or.inl ⟨by omega, by omega⟩)
      · refine mwl_c (fun i hi => ?_) (rwz_m (Z := Z))
        rw [D 114 (by omega) (by omega), D 115 (by omega) (by omega), am_uRow (by omega), am_uRow (by omega), am_uRow (by omega), am_uRow (by omega), am_uRow (by omega), am_uRow (by omega)]
        exact ⟨rfl, rfl⟩
      · intro i hi
        rw [D 114 (by omega) (by omega), D 115 (by omega) (by omega), D0 114 (by omega) (by omega), D0 115 (by omega) (by omega), am_uRow (by omega), am_uRow (by omega), am_uRow (by omega), am_uRow (by omega), am_uRow (by omega), am_uRow (by omega)]
        exact ⟨rwz_o (Or.inr hi), rwz_o (Or.inr hi)⟩
  · rw [if_neg c13]
    have hR : lnR Z sd n T p = (1, p) := by unfold lnR; rw [if_neg c4, if_neg c5, if_neg c6, if_neg c7, if_neg c8, if_neg c9, if_neg c10, if_neg c11, if_neg c12, if_neg c13]
    refine cl_fail ?_
    intro I' h1 h2 h3
    rw [am_asIe, e_Reader_readLine_129, am_gT (by rfl)]
    exact fltt_q (hF 1 p rl hR (by omega) (Or.inl rfl)) frt_re I' h1 h2 h3
end
