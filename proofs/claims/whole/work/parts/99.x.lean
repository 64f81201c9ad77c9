/-! ===== L3: a line, told to the class (by mkln.py) ===== -/
section
variable {d N : Nat} {Q : Value → am_H → Prop} {r : am_rho} {I Z : Nat → Nat → Int32} {J : Nat → Nat → Int64} {rt rs t rl nt nw nf n p : Nat} {T : Nat → Nat} {v : Int32} {sd : Bool}
theorem rwz_o {st : Nat} : ∀ {R : List Nat} {Z : Nat → Nat → Int32} {a j : Nat}, (a ≠ 114 ∧ a ≠ 115) ∨ j < st → rwz st R Z a j = Z a j
  | [], Z, a, j, _ => rfl
  | x :: R, Z, a, j, h => by
    show am_u (am_u (rwz st R Z) 114 (st + R.length) (nI (cso x))) 115 (st + R.length) (nI (cva x)) a j = Z a j
    rw [am_uN (by omega), am_uN (by omega)]
    exact rwz_o h
theorem rwz_m {st : Nat} : ∀ {R : List Nat} {Z : Nat → Nat → Int32}, mwl (rwz st R Z) st R
  | [], Z => trivial
  | x :: R, Z => by
    refine ⟨⟨?_, ?_⟩, ?_⟩
    · show am_u (am_u (rwz st R Z) 114 (st + R.length) (nI (cso x))) 115 (st + R.length) (nI (cva x)) 114 (st + R.length) = _
      rw [am_uN (by omega), am_uE]
    · show am_u (am_u (rwz st R Z) 114 (st + R.length) (nI (cso x))) 115 (st + R.length) (nI (cva x)) 115 (st + R.length) = _
      rw [am_uE]
    · have key : ∀ (R' : List Nat) (Y Y' : Nat → Nat → Int32), (∀ i, i < st + R'.length → Y' 114 i = Y 114 i ∧ Y' 115 i = Y 115 i) → mwl Y st R' → mwl Y' st R' := by
        intro R'
        induction R' with
        | nil => intro _ _ _ _; trivial
        | cons y R' ih =>
          intro Y Y' h k
          have h1 := h (st + R'.length) (by show st + R'.length < st + (R'.length + 1); omega)
          exact ⟨⟨h1.1.trans k.1.1, h1.2.trans k.1.2⟩, ih Y Y' (fun i hi => h i (by show i < st + (R'.length + 1); omega)) k.2⟩
      refine key R (rwz st R Z) _ (fun i hi => ?_) rwz_m
      show am_u (am_u (rwz st R Z) 114 (st + R.length) (nI (cso x))) 115 (st + R.length) (nI (cva x)) 114 i = _ ∧ am_u (am_u (rwz st R Z) 114 (st + R.length) (nI (cso x))) 115 (st + R.length) (nI (cva x)) 115 i = _
      rw [am_uN (by omega), am_uN (by omega), am_uN (by omega), am_uN (by omega)]
      exact ⟨rfl, rfl⟩
theorem mwl_c {st : Nat} : ∀ {R : List Nat} {Y Y' : Nat → Nat → Int32}, (∀ i, i < st + R.length → Y' 114 i = Y 114 i ∧ Y' 115 i = Y 115 i) → mwl Y st R → mwl Y' st R
  | [], _, _, _, _ => trivial
  | y :: R, Y, Y', h, k => by
    have h1 := h (st + R.length) (by show st + R.length < st + (R.length + 1); omega)
    exact ⟨⟨h1.1.trans k.1.1, h1.2.trans k.1.2⟩, mwl_c (fun i hi => h i (by show i < st + (R.length + 1); omega)) k.2⟩
theorem lnR_4 (h : tkK n T p = 4) : lnR Z sd n T p = ln4 n T p (Z 96) (m_nH Z) := by unfold lnR; rw [if_pos h]
theorem lnR_5 (h : tkK n T p = 5) : lnR Z sd n T p = ln5 n T p (Z 96) (m_nH Z) (m_nS Z) (wyZ Z) := by unfold lnR; rw [if_neg (by omega), if_pos h]
theorem lnR_6 (h : tkK n T p = 6) : lnR Z sd n T p = ln6 n T p (Z 96) (Z 103) (m_nH Z) (m_nZ Z) := by unfold lnR; rw [if_neg (by omega), if_neg (by omega), if_pos h]
theorem lnR_7 (h : tkK n T p = 7) : lnR Z sd n T p = ln7 n T p (Z 96) (Z 103) (m_nH Z) (m_nZ Z) (m_nL Z) := by unfold lnR; rw [if_neg (by omega), if_neg (by omega), if_neg (by omega), if_pos h]
theorem lnR_8 (h : tkK n T p = 8) : lnR Z sd n T p = ln8 n T p (Z 96) (m_nH Z) (m_nA Z) := by unfold lnR; rw [if_neg (by omega), if_neg (by omega), if_neg (by omega), if_neg (by omega), if_pos h]
theorem lnR_9 (h : tkK n T p = 9) : lnR Z sd n T p = ln9 n T p (Z 96) (m_nH Z) (fun h => decide (¬ Z 97 h ≤ nI 0)) := by unfold lnR; rw [if_neg (by omega), if_neg (by omega), if_neg (by omega), if_neg (by omega), if_neg (by omega), if_pos h]
theorem lnR_10 (h : tkK n T p = 10) : lnR Z sd n T p = ln10 n T p (Z 96) (m_nH Z) (fun h => decide (¬ Z 98 h ≤ nI 0)) := by unfold lnR; rw [if_neg (by omega), if_neg (by omega), if_neg (by omega), if_neg (by omega), if_neg (by omega), if_neg (by omega), if_pos h]
theorem lnR_11 (h : tkK n T p = 11) : lnR Z sd n T p = ln9 n T p (Z 96) (m_nH Z) (fun h => decide (¬ Z 99 h ≤ nI 0)) := by unfold lnR; rw [if_neg (by omega), if_neg (by omega), if_neg (by omega), if_neg (by omega), if_neg (by omega), if_neg (by omega), if_neg (by omega), if_pos h]
theorem lnR_12 (h : tkK n T p = 12) : lnR Z sd n T p = ln12 n T p sd := by unfold lnR; rw [if_neg (by omega), if_neg (by omega), if_neg (by omega), if_neg (by omega), if_neg (by omega), if_neg (by omega), if_neg (by omega), if_neg (by omega), if_pos h]
theorem lnR_13 (h : tkK n T p = 13) : lnR Z sd n T p = ln13 n T p (m_has Z) (m_kn Z) := by unfold lnR; rw [if_neg (by omega), if_neg (by omega), if_neg (by omega), if_neg (by omega), if_neg (by omega), if_neg (by omega), if_neg (by omega), if_neg (by omega), if_neg (by omega), if_pos h]
theorem zL_4 (h : tkK n T p = 4) : zL Z n T p = z4 (m_nH Z) (tkN n T (tkE n T p)) Z := by unfold zL; rw [if_pos h]
theorem zL_5 (h : tkK n T p = 5) : zL Z n T p = z5 (m_nS Z) (nhI (Z 96) (m_nH Z) n T (tkE n T p)) (nhI (Z 96) (m_nH Z) n T (tkE n T (tkE n T p))) (tkV n T (tkE n T (tkE n T (tkE n T p)))) Z := by unfold zL; rw [if_neg (by omega), if_pos h]
theorem zL_6 (h : tkK n T p = 6) : zL Z n T p = z6 (m_nZ Z) (tkN n T (tkE n T p)) (nhI (Z 96) (m_nH Z) n T (tkE n T (tkE n T p))) (tkV n T (tkE n T (tkE n T (tkE n T p)))) (nhI (Z 96) (m_nH Z) n T (tkE n T (tkE n T (tkE n T (tkE n T p))))) Z := by unfold zL; rw [if_neg (by omega), if_neg (by omega), if_pos h]
theorem zL_7 (h : tkK n T p = 7) : zL Z n T p = z7 (m_nL Z) (nhI (Z 103) (m_nZ Z) n T (tkE n T p)) (nhI (Z 96) (m_nH Z) n T (tkE n T (tkE n T p))) Z := by unfold zL; rw [if_neg (by omega), if_neg (by omega), if_neg (by omega), if_pos h]
theorem zL_8 (h : tkK n T p = 8) : zL Z n T p = z8 (m_nA Z) (nhI (Z 96) (m_nH Z) n T (tkE n T p)) (tkV n T (tkE n T (tkE n T p))) (tkV n T (tkE n T (tkE n T (tkE n T p)))) Z := by unfold zL; rw [if_neg (by omega), if_neg (by omega), if_neg (by omega), if_neg (by omega), if_pos h]
theorem zL_9 (h : tkK n T p = 9) : zL Z n T p = am_u Z 97 (nhI (Z 96) (m_nH Z) n T (tkE n T p)) (nI (tkV n T (tkE n T (tkE n T p)))) := by unfold zL; rw [if_neg (by omega), if_neg (by omega), if_neg (by omega), if_neg (by omega), if_neg (by omega), if_pos h]
theorem zL_10 (h : tkK n T p = 10) : zL Z n T p = am_u Z 98 (nhI (Z 96) (m_nH Z) n T (tkE n T p)) (nI 1) := by unfold zL; rw [if_neg (by omega), if_neg (by omega), if_neg (by omega), if_neg (by omega), if_neg (by omega), if_neg (by omega), if_pos h]
theorem zL_11 (h : tkK n T p = 11) : zL Z n T p = am_u Z 99 (nhI (Z 96) (m_nH Z) n T (tkE n T p)) (nI (tkV n T (tkE n T (tkE n T p)))) := by unfold zL; rw [if_neg (by omega), if_neg (by omega), if_neg (by omega), if_neg (by omega), if_neg (by omega), if_neg (by omega), if_neg (by omega), if_pos h]
theorem zL_12 (h : tkK n T p = 12) : zL Z n T p = am_u Z 95 5 (nI (tkV n T (tkE n T p))) := by unfold zL; rw [if_neg (by omega), if_neg (by omega), if_neg (by omega), if_neg (by omega), if_neg (by omega), if_neg (by omega), if_neg (by omega), if_neg (by omega), if_pos h]
theorem zL_13 (h : tkK n T p = 13) : zL Z n T p = z13 (tkK n T (tkE n T p) - 14) (m_kn Z) (sy n T 701 (tkE n T (tkE n T p)) [] [false] true true (m_kn Z) []).2.2.1 (sy n T 701 (tkE n T (tkE n T p)) [] [false] true true (m_kn Z) []).2.2.2 Z := by unfold zL; rw [if_neg (by omega), if_neg (by omega), if_neg (by omega), if_neg (by omega), if_neg (by omega), if_neg (by omega), if_neg (by omega), if_neg (by omega), if_neg (by omega)]
theorem cl_line (hx : tx I n T) (hp : p ≤ n) (hT : t_pr I Z t) (hsd : I 43 3 = nI sd.toNat)
    (hF : ∀ f q rl', lnR Z sd n T p = (f, q) → f ≠ 0 → (rl' = rl ∨ rl' = t + 15) → fltt t N (rt, rs, t, rl', 2, nt, nw, nf) J Q I f (tkP n T q))
    (hS : ∀ q v' I' rl', lnR Z sd n T p = (0, q) → q ≤ n → tvc n T q v' → t_pr I' (zL Z n T p) t → frt t I I' → I' 43 3 = nI (sd || decide (tkK n T p = 12)).toNat → I' 43 5 = I 43 5 → (rl' = rl ∨ rl' = t + 15) → Q (.int (nI 1)) (am_hp N (rt, rs, t, rl', 2, nt, nw, nf) (tK I' n T q v') J)) :
    am_D (d + 16) 34 [.ref 43] (am_hp N (rt, rs, t, rl, 2, nt, nw, nf) (tK I n T p v) J) Q := by
  obtain ⟨ht, ⟨m0, m0'⟩, ⟨m1, m1'⟩, ⟨m2, m2'⟩, ⟨m3, m3'⟩, ⟨m4, m4'⟩, hn, zn, wy, be, ct, ⟨k0, k1, k64⟩, hs, us, ro⟩ := tpr_f hT
  have hk := (tk_pos (T := T) hx.1.1 hp).2.2.2.2.2
  have hp1 := tkE_le hx hp
  have hp2 := tkE_le hx hp1
  have hp3 := tkE_le hx hp2
  have hp4 := tkE_le hx hp3
  have hp5 := tkE_le hx hp4
  rw [e_Reader_readLine ht, tK_3, am_ifi (nI_eq (b := 4) (by omega) (by omega)), am_ifi (nI_eq (b := 5) (by omega) (by omega)), am_ifi (nI_eq (b := 6) (by omega) (by omega)), am_ifi (nI_eq (b := 7) (by omega) (by omega)), am_ifi (nI_eq (b := 8) (by omega) (by omega)), am_ifi (nI_eq (b := 9) (by omega) (by omega)), am_ifi (nI_eq (b := 10) (by omega) (by omega)), am_ifi (nI_eq (b := 11) (by omega) (by omega)), am_ifi (nI_eq (b := 12) (by omega) (by omega)), am_ifi (nI_eq (b := 13) (by omega) (by omega))]
  by_cases c4 : tkK n T p = 4
  · rw [if_pos c4]
    have hR := lnR_4 (Z := Z) (sd := sd) c4
    have hZ := zL_4 (Z := Z) c4
    rw [hR] at hF hS
    rw [hZ] at hS
    refine cl_house hx ht hp m0 m0' ?_ ?_
    · intro f q e hf I' h1 h2 h3
      rw [am_asIe, e_Reader_readLine_64, am_gT (by rfl)]
      exact hF f q rl ((ln4_c hn).symm.trans e) hf (Or.inl rfl) I' h1 h2 h3
    · intro q v' I' e hv' he
      rw [ln4_c hn] at e
      rw [am_asIe, e_Reader_readLine_64, am_gT (by rfl)]
      have e0 := e
      unfold ln4 at e0
      have g0 : ¬ (m_nH Z = 8) := by
        intro g
        rw [if_pos g] at e0
        have e1 := congrArg Prod.fst e0
        have e2 : (_ : Nat) = 0 := e1
        first | omega | exact absurd e2 (by decide)
      rw [if_neg g0] at e0
      have g1 : ¬ (nfF (Z 96) (m_nH Z) n T (tkE n T p) ≠ 0) := by
        intro g
        rw [if_pos g] at e0
        have e1 := congrArg Prod.fst e0
        have e2 : (_ : Nat) = 0 := e1
        first | omega | exact absurd e2 (by decide)
      rw [if_neg g1] at e0
      have hq := congrArg Prod.snd e0
      have hq' : _ = q := hq
      refine hS q v' I' rl e (by rw [← hq']; exact hp2) hv' ?_ (frt_e43 he (by unfold uL4; exact frt_tr (frt_u (by omega)) (frt_u (by omega)))) (by rw [he.2.1]; unfold uL4; try simp (config := {maxSteps := 1000000}) (disch := omega) only [nI_add, nI_1, am_mulN, nI_clamp, am_gI, am_ifd, am_ifn, am_asIe, am_asLe, nI_leI, nI_ltI, nI_eq, am_neg1, am_neg1b, tK_u, tK_o, tK_1, tK_2, tK_3, tK_4, tK_5, am_uE, am_uN, hsd]
          rw [decide_eq_false (by omega), Bool.or_false]) (by rw [he.2.2]; unfold uL4; try simp (config := {maxSteps := 1000000}) (disch := omega) only [nI_add, nI_1, am_mulN, nI_clamp, am_gI, am_ifd, am_ifn, am_asIe, am_asLe, nI_leI, nI_ltI, nI_eq, am_neg1, am_neg1b, tK_u, tK_o, tK_1, tK_2, tK_3, tK_4, tK_5, am_uE, am_uN]) (Or.inl rfl)
      have C : ∀ a, (a < 95 ∨ 115 < a) → a ≠ 43 → mix I' (z4 (m_nH Z) (tkN n T (tkE n T p)) Z) a = uL4 t (m_nH Z) (tkN n T (tkE n T p)) I a := fun a h1 h2 => by rw [mix_c h1, he.1 a h2]
      have D : ∀ a, 95 ≤ a → a ≤ 115 → mix I' (z4 (m_nH Z) (tkN n T (tkE n T p)) Z) a = (z4 (m_nH Z) (tkN n T (tkE n T p)) Z) a := fun a h1 h2 => mix_z ⟨h1, h2⟩
      have C0 : ∀ a, (a < 95 ∨ 115 < a) → mix I Z a = I a := fun a h1 => mix_c h1
      have D0 : ∀ a, 95 ≤ a → a ≤ 115 → mix I Z a = Z a := fun a h1 h2 => mix_z ⟨h1, h2⟩
      unfold uL4 at C
      unfold z4 at C D ⊢
      sorry
  by_cases c5 : tkK n T p = 5
  · rw [if_pos c5]
    have hR := lnR_5 (Z := Z) (sd := sd) c5
    have hZ := zL_5 (Z := Z) c5
    rw [hR] at hF hS
    rw [hZ] at hS
    refine cl_street hx ht hp m0 m0' m1 m1' wy ?_ ?_
    · intro f q e hf I' h1 h2 h3
      rw [am_asIe, e_Reader_readLine_69, am_gT (by rfl)]
      exact hF f q rl ((ln5_c hn).symm.trans e) hf (Or.inl rfl) I' h1 h2 h3
    · intro q v' I' e hv' he
      rw [ln5_c hn] at e
      simp only [nh_c hn] at he
      rw [am_asIe, e_Reader_readLine_69, am_gT (by rfl)]
      have e0 := e
      unfold ln5 at e0
      have g0 : ¬ (m_nS Z = 12) := by
        intro g
        rw [if_pos g] at e0
        have e1 := congrArg Prod.fst e0
        have e2 : (_ : Nat) = 0 := e1
        first | omega | exact absurd e2 (by decide)
      rw [if_neg g0] at e0
      have g1 : ¬ (nhF (Z 96) (m_nH Z) n T (tkE n T p) ≠ 0) := by
        intro g
        rw [if_pos g] at e0
        have e1 := congrArg Prod.fst e0
        have e2 : (_ : Nat) = 0 := e1
        first | omega | exact absurd e2 (by decide)
      rw [if_neg g1] at e0
      have g2 : ¬ (nhF (Z 96) (m_nH Z) n T (tkE n T (tkE n T p)) ≠ 0) := by
        intro g
        rw [if_pos g] at e0
        have e1 := congrArg Prod.fst e0
        have e2 : (_ : Nat) = 0 := e1
        first | omega | exact absurd e2 (by decide)
      rw [if_neg g2] at e0
      have g3 : ¬ (nhI (Z 96) (m_nH Z) n T (tkE n T p) = nhI (Z 96) (m_nH Z) n T (tkE n T (tkE n T p))) := by
        intro g
        rw [if_pos g] at e0
        have e1 := congrArg Prod.fst e0
        have e2 : (_ : Nat) = 0 := e1
        first | omega | exact absurd e2 (by decide)
      rw [if_neg g3] at e0
      have g4 : ¬ (wyZ Z (nhI (Z 96) (m_nH Z) n T (tkE n T p)) (nhI (Z 96) (m_nH Z) n T (tkE n T (tkE n T p))) = true) := by
        intro g
        rw [if_pos g] at e0
        have e1 := congrArg Prod.fst e0
        have e2 : (_ : Nat) = 0 := e1
        first | omega | exact absurd e2 (by decide)
      rw [if_neg g4] at e0
      have g5 : ¬ (nuF 1 9 n T (tkE n T (tkE n T (tkE n T p))) ≠ 0) := by
        intro g
        rw [if_pos g] at e0
        have e1 := congrArg Prod.fst e0
        have e2 : (_ : Nat) = 0 := e1
        first | omega | exact absurd e2 (by decide)
      rw [if_neg g5] at e0
      have hq := congrArg Prod.snd e0
      have hq' : _ = q := hq
      refine hS q v' I' rl e (by rw [← hq']; exact hp4) hv' ?_ (frt_e43 he (by unfold uL5; exact frt_tr (frt_u (by omega)) (frt_tr (frt_u (by omega)) (frt_tr (frt_u (by omega)) (frt_u (by omega)))))) (by rw [he.2.1]; unfold uL5; try simp (config := {maxSteps := 1000000}) (disch := omega) only [nI_add, nI_1, am_mulN, nI_clamp, am_gI, am_ifd, am_ifn, am_asIe, am_asLe, nI_leI, nI_ltI, nI_eq, am_neg1, am_neg1b, tK_u, tK_o, tK_1, tK_2, tK_3, tK_4, tK_5, am_uE, am_uN, hsd]
          rw [decide_eq_false (by omega), Bool.or_false]) (by rw [he.2.2]; unfold uL5; try simp (config := {maxSteps := 1000000}) (disch := omega) only [nI_add, nI_1, am_mulN, nI_clamp, am_gI, am_ifd, am_ifn, am_asIe, am_asLe, nI_leI, nI_ltI, nI_eq, am_neg1, am_neg1b, tK_u, tK_o, tK_1, tK_2, tK_3, tK_4, tK_5, am_uE, am_uN]) (Or.inl rfl)
      have C : ∀ a, (a < 95 ∨ 115 < a) → a ≠ 43 → mix I' (z5 (m_nS Z) (nhI (Z 96) (m_nH Z) n T (tkE n T p)) (nhI (Z 96) (m_nH Z) n T (tkE n T (tkE n T p))) (tkV n T (tkE n T (tkE n T (tkE n T p)))) Z) a = uL5 t (m_nS Z) (nhI (Z 96) (m_nH Z) n T (tkE n T p)) (nhI (Z 96) (m_nH Z) n T (tkE n T (tkE n T p))) (nI (tkV n T (tkE n T (tkE n T (tkE n T p))))) I a := fun a h1 h2 => by rw [mix_c h1, he.1 a h2]
      have D : ∀ a, 95 ≤ a → a ≤ 115 → mix I' (z5 (m_nS Z) (nhI (Z 96) (m_nH Z) n T (tkE n T p)) (nhI (Z 96) (m_nH Z) n T (tkE n T (tkE n T p))) (tkV n T (tkE n T (tkE n T (tkE n T p)))) Z) a = (z5 (m_nS Z) (nhI (Z 96) (m_nH Z) n T (tkE n T p)) (nhI (Z 96) (m_nH Z) n T (tkE n T (tkE n T p))) (tkV n T (tkE n T (tkE n T (tkE n T p)))) Z) a := fun a h1 h2 => mix_z ⟨h1, h2⟩
      have C0 : ∀ a, (a < 95 ∨ 115 < a) → mix I Z a = I a := fun a h1 => mix_c h1
      have D0 : ∀ a, 95 ≤ a → a ≤ 115 → mix I Z a = Z a := fun a h1 h2 => mix_z ⟨h1, h2⟩
      unfold uL5 at C
      unfold z5 at C D ⊢
      sorry
  by_cases c6 : tkK n T p = 6
  · rw [if_pos c6]
    have hR := lnR_6 (Z := Z) (sd := sd) c6
    have hZ := zL_6 (Z := Z) c6
    rw [hR] at hF hS
    rw [hZ] at hS
    refine cl_sleeper hx ht hp m0 m0' m2 m2' ?_ ?_
    · intro f q e hf I' h1 h2 h3
      rw [am_asIe, e_Reader_readLine_74, am_gT (by rfl)]
      exact hF f q rl ((ln6_c hn zn).symm.trans e) hf (Or.inl rfl) I' h1 h2 h3
    · intro q v' I' e hv' he
      rw [ln6_c hn zn] at e
      simp only [nh_c hn] at he
      rw [am_asIe, e_Reader_readLine_74, am_gT (by rfl)]
      have e0 := e
      unfold ln6 at e0
      have g0 : ¬ (m_nZ Z = 5) := by
        intro g
        rw [if_pos g] at e0
        have e1 := congrArg Prod.fst e0
        have e2 : (_ : Nat) = 0 := e1
        first | omega | exact absurd e2 (by decide)
      rw [if_neg g0] at e0
      have g1 : ¬ (nfF (Z 103) (m_nZ Z) n T (tkE n T p) ≠ 0) := by
        intro g
        rw [if_pos g] at e0
        have e1 := congrArg Prod.fst e0
        have e2 : (_ : Nat) = 0 := e1
        first | omega | exact absurd e2 (by decide)
      rw [if_neg g1] at e0
      have g2 : ¬ (nhF (Z 96) (m_nH Z) n T (tkE n T (tkE n T p)) ≠ 0) := by
        intro g
        rw [if_pos g] at e0
        have e1 := congrArg Prod.fst e0
        have e2 : (_ : Nat) = 0 := e1
        first | omega | exact absurd e2 (by decide)
      rw [if_neg g2] at e0
      have g3 : ¬ (nuF 0 9 n T (tkE n T (tkE n T (tkE n T p))) ≠ 0) := by
        intro g
        rw [if_pos g] at e0
        have e1 := congrArg Prod.fst e0
        have e2 : (_ : Nat) = 0 := e1
        first | omega | exact absurd e2 (by decide)
      rw [if_neg g3] at e0
      have g4 : ¬ (nhF (Z 96) (m_nH Z) n T (tkE n T (tkE n T (tkE n T (tkE n T p)))) ≠ 0) := by
        intro g
        rw [if_pos g] at e0
        have e1 := congrArg Prod.fst e0
        have e2 : (_ : Nat) = 0 := e1
        first | omega | exact absurd e2 (by decide)
      rw [if_neg g4] at e0
      have hq := congrArg Prod.snd e0
      have hq' : _ = q := hq
      refine hS q v' I' rl e (by rw [← hq']; exact hp5) hv' ?_ (frt_e43 he (by unfold uL6; exact frt_tr (frt_u (by omega)) (frt_tr (frt_u (by omega)) (frt_tr (frt_u (by omega)) (frt_tr (frt_u (by omega)) (frt_u (by omega))))))) (by rw [he.2.1]; unfold uL6; try simp (config := {maxSteps := 1000000}) (disch := omega) only [nI_add, nI_1, am_mulN, nI_clamp, am_gI, am_ifd, am_ifn, am_asIe, am_asLe, nI_leI, nI_ltI, nI_eq, am_neg1, am_neg1b, tK_u, tK_o, tK_1, tK_2, tK_3, tK_4, tK_5, am_uE, am_uN, hsd]
          rw [decide_eq_false (by omega), Bool.or_false]) (by rw [he.2.2]; unfold uL6; try simp (config := {maxSteps := 1000000}) (disch := omega) only [nI_add, nI_1, am_mulN, nI_clamp, am_gI, am_ifd, am_ifn, am_asIe, am_asLe, nI_leI, nI_ltI, nI_eq, am_neg1, am_neg1b, tK_u, tK_o, tK_1, tK_2, tK_3, tK_4, tK_5, am_uE, am_uN]) (Or.inl rfl)
      have C : ∀ a, (a < 95 ∨ 115 < a) → a ≠ 43 → mix I' (z6 (m_nZ Z) (tkN n T (tkE n T p)) (nhI (Z 96) (m_nH Z) n T (tkE n T (tkE n T p))) (tkV n T (tkE n T (tkE n T (tkE n T p)))) (nhI (Z 96) (m_nH Z) n T (tkE n T (tkE n T (tkE n T (tkE n T p))))) Z) a = uL6 t (m_nZ Z) (tkN n T (tkE n T p)) (nhI (Z 96) (m_nH Z) n T (tkE n T (tkE n T p))) (tkV n T (tkE n T (tkE n T (tkE n T p)))) (nhI (Z 96) (m_nH Z) n T (tkE n T (tkE n T (tkE n T (tkE n T p))))) I a := fun a h1 h2 => by rw [mix_c h1, he.1 a h2]
      have D : ∀ a, 95 ≤ a → a ≤ 115 → mix I' (z6 (m_nZ Z) (tkN n T (tkE n T p)) (nhI (Z 96) (m_nH Z) n T (tkE n T (tkE n T p))) (tkV n T (tkE n T (tkE n T (tkE n T p)))) (nhI (Z 96) (m_nH Z) n T (tkE n T (tkE n T (tkE n T (tkE n T p))))) Z) a = (z6 (m_nZ Z) (tkN n T (tkE n T p)) (nhI (Z 96) (m_nH Z) n T (tkE n T (tkE n T p))) (tkV n T (tkE n T (tkE n T (tkE n T p)))) (nhI (Z 96) (m_nH Z) n T (tkE n T (tkE n T (tkE n T (tkE n T p))))) Z) a := fun a h1 h2 => mix_z ⟨h1, h2⟩
      have C0 : ∀ a, (a < 95 ∨ 115 < a) → mix I Z a = I a := fun a h1 => mix_c h1
      have D0 : ∀ a, 95 ≤ a → a ≤ 115 → mix I Z a = Z a := fun a h1 h2 => mix_z ⟨h1, h2⟩
      unfold uL6 at C
      unfold z6 at C D ⊢
      sorry
  by_cases c7 : tkK n T p = 7
  · rw [if_pos c7]
    have hR := lnR_7 (Z := Z) (sd := sd) c7
    have hZ := zL_7 (Z := Z) c7
    rw [hR] at hF hS
    rw [hZ] at hS
    refine cl_letter hx ht hp m0 m0' m2 m2' m3 m3' ?_ ?_
    · intro f q e hf I' h1 h2 h3
      rw [am_asIe, e_Reader_readLine_79, am_gT (by rfl)]
      exact hF f q rl ((ln7_c hn zn).symm.trans e) hf (Or.inl rfl) I' h1 h2 h3
    · intro q v' I' e hv' he
      rw [ln7_c hn zn] at e
      rw [nh_c hn] at he
      rw [nh_c zn] at he
      rw [am_asIe, e_Reader_readLine_79, am_gT (by rfl)]
      have e0 := e
      unfold ln7 at e0
      have g0 : ¬ (m_nL Z = 8) := by
        intro g
        rw [if_pos g] at e0
        have e1 := congrArg Prod.fst e0
        have e2 : (_ : Nat) = 0 := e1
        first | omega | exact absurd e2 (by decide)
      rw [if_neg g0] at e0
      have g1 : ¬ (nhF (Z 103) (m_nZ Z) n T (tkE n T p) ≠ 0) := by
        intro g
        rw [if_pos g] at e0
        have e1 := congrArg Prod.fst e0
        have e2 : (_ : Nat) = 0 := e1
        first | omega | exact absurd e2 (by decide)
      rw [if_neg g1] at e0
      have g2 : ¬ (nhF (Z 96) (m_nH Z) n T (tkE n T (tkE n T p)) ≠ 0) := by
        intro g
        rw [if_pos g] at e0
        have e1 := congrArg Prod.fst e0
        have e2 : (_ : Nat) = 0 := e1
        first | omega | exact absurd e2 (by decide)
      rw [if_neg g2] at e0
      have hq := congrArg Prod.snd e0
      have hq' : _ = q := hq
      refine hS q v' I' rl e (by rw [← hq']; exact hp3) hv' ?_ (frt_e43 he (by unfold uL7; exact frt_tr (frt_u (by omega)) (frt_tr (frt_u (by omega)) (frt_tr (frt_u (by omega)) (frt_u (by omega)))))) (by rw [he.2.1]; unfold uL7; try simp (config := {maxSteps := 1000000}) (disch := omega) only [nI_add, nI_1, am_mulN, nI_clamp, am_gI, am_ifd, am_ifn, am_asIe, am_asLe, nI_leI, nI_ltI, nI_eq, am_neg1, am_neg1b, tK_u, tK_o, tK_1, tK_2, tK_3, tK_4, tK_5, am_uE, am_uN, hsd]
          rw [decide_eq_false (by omega), Bool.or_false]) (by rw [he.2.2]; unfold uL7; try simp (config := {maxSteps := 1000000}) (disch := omega) only [nI_add, nI_1, am_mulN, nI_clamp, am_gI, am_ifd, am_ifn, am_asIe, am_asLe, nI_leI, nI_ltI, nI_eq, am_neg1, am_neg1b, tK_u, tK_o, tK_1, tK_2, tK_3, tK_4, tK_5, am_uE, am_uN]) (Or.inl rfl)
      have C : ∀ a, (a < 95 ∨ 115 < a) → a ≠ 43 → mix I' (z7 (m_nL Z) (nhI (Z 103) (m_nZ Z) n T (tkE n T p)) (nhI (Z 96) (m_nH Z) n T (tkE n T (tkE n T p))) Z) a = uL7 t (m_nL Z) (nhI (Z 103) (m_nZ Z) n T (tkE n T p)) (nhI (Z 96) (m_nH Z) n T (tkE n T (tkE n T p))) I a := fun a h1 h2 => by rw [mix_c h1, he.1 a h2]
      have D : ∀ a, 95 ≤ a → a ≤ 115 → mix I' (z7 (m_nL Z) (nhI (Z 103) (m_nZ Z) n T (tkE n T p)) (nhI (Z 96) (m_nH Z) n T (tkE n T (tkE n T p))) Z) a = (z7 (m_nL Z) (nhI (Z 103) (m_nZ Z) n T (tkE n T p)) (nhI (Z 96) (m_nH Z) n T (tkE n T (tkE n T p))) Z) a := fun a h1 h2 => mix_z ⟨h1, h2⟩
      have C0 : ∀ a, (a < 95 ∨ 115 < a) → mix I Z a = I a := fun a h1 => mix_c h1
      have D0 : ∀ a, 95 ≤ a → a ≤ 115 → mix I Z a = Z a := fun a h1 h2 => mix_z ⟨h1, h2⟩
      unfold uL7 at C
      unfold z7 at C D ⊢
      sorry
  by_cases c8 : tkK n T p = 8
  · rw [if_pos c8]
    have hR := lnR_8 (Z := Z) (sd := sd) c8
    have hZ := zL_8 (Z := Z) c8
    rw [hR] at hF hS
    rw [hZ] at hS
    refine cl_lamp hx ht hp m0 m0' m4 m4' ?_ ?_
    · intro f q e hf I' h1 h2 h3
      rw [am_asIe, e_Reader_readLine_84, am_gT (by rfl)]
      exact hF f q rl ((ln8_c hn).symm.trans e) hf (Or.inl rfl) I' h1 h2 h3
    · intro q v' I' e hv' he
      rw [ln8_c hn] at e
      rw [nh_c hn] at he
      rw [am_asIe, e_Reader_readLine_84, am_gT (by rfl)]
      have e0 := e
      unfold ln8 at e0
      have g0 : ¬ (m_nA Z = 6) := by
        intro g
        rw [if_pos g] at e0
        have e1 := congrArg Prod.fst e0
        have e2 : (_ : Nat) = 0 := e1
        first | omega | exact absurd e2 (by decide)
      rw [if_neg g0] at e0
      have g1 : ¬ (nhF (Z 96) (m_nH Z) n T (tkE n T p) ≠ 0) := by
        intro g
        rw [if_pos g] at e0
        have e1 := congrArg Prod.fst e0
        have e2 : (_ : Nat) = 0 := e1
        first | omega | exact absurd e2 (by decide)
      rw [if_neg g1] at e0
      have g2 : ¬ (nuF 0 11 n T (tkE n T (tkE n T p)) ≠ 0) := by
        intro g
        rw [if_pos g] at e0
        have e1 := congrArg Prod.fst e0
        have e2 : (_ : Nat) = 0 := e1
        first | omega | exact absurd e2 (by decide)
      rw [if_neg g2] at e0
      have g3 : ¬ (nuF (tkV n T (tkE n T (tkE n T p))) 11 n T (tkE n T (tkE n T (tkE n T p))) ≠ 0) := by
        intro g
        rw [if_pos g] at e0
        have e1 := congrArg Prod.fst e0
        have e2 : (_ : Nat) = 0 := e1
        first | omega | exact absurd e2 (by decide)
      rw [if_neg g3] at e0
      have hq := congrArg Prod.snd e0
      have hq' : _ = q := hq
      refine hS q v' I' rl e (by rw [← hq']; exact hp4) hv' ?_ (frt_e43 he (by unfold uL8; exact frt_tr (frt_u (by omega)) (frt_u (by omega)))) (by rw [he.2.1]; unfold uL8; try simp (config := {maxSteps := 1000000}) (disch := omega) only [nI_add, nI_1, am_mulN, nI_clamp, am_gI, am_ifd, am_ifn, am_asIe, am_asLe, nI_leI, nI_ltI, nI_eq, am_neg1, am_neg1b, tK_u, tK_o, tK_1, tK_2, tK_3, tK_4, tK_5, am_uE, am_uN, hsd]
          rw [decide_eq_false (by omega), Bool.or_false]) (by rw [he.2.2]; unfold uL8; try simp (config := {maxSteps := 1000000}) (disch := omega) only [nI_add, nI_1, am_mulN, nI_clamp, am_gI, am_ifd, am_ifn, am_asIe, am_asLe, nI_leI, nI_ltI, nI_eq, am_neg1, am_neg1b, tK_u, tK_o, tK_1, tK_2, tK_3, tK_4, tK_5, am_uE, am_uN]) (Or.inl rfl)
      have C : ∀ a, (a < 95 ∨ 115 < a) → a ≠ 43 → mix I' (z8 (m_nA Z) (nhI (Z 96) (m_nH Z) n T (tkE n T p)) (tkV n T (tkE n T (tkE n T p))) (tkV n T (tkE n T (tkE n T (tkE n T p)))) Z) a = uL8 t (m_nA Z) (nhI (Z 96) (m_nH Z) n T (tkE n T p)) (tkV n T (tkE n T (tkE n T p))) (tkV n T (tkE n T (tkE n T (tkE n T p)))) I a := fun a h1 h2 => by rw [mix_c h1, he.1 a h2]
      have D : ∀ a, 95 ≤ a → a ≤ 115 → mix I' (z8 (m_nA Z) (nhI (Z 96) (m_nH Z) n T (tkE n T p)) (tkV n T (tkE n T (tkE n T p))) (tkV n T (tkE n T (tkE n T (tkE n T p)))) Z) a = (z8 (m_nA Z) (nhI (Z 96) (m_nH Z) n T (tkE n T p)) (tkV n T (tkE n T (tkE n T p))) (tkV n T (tkE n T (tkE n T (tkE n T p)))) Z) a := fun a h1 h2 => mix_z ⟨h1, h2⟩
      have C0 : ∀ a, (a < 95 ∨ 115 < a) → mix I Z a = I a := fun a h1 => mix_c h1
      have D0 : ∀ a, 95 ≤ a → a ≤ 115 → mix I Z a = Z a := fun a h1 h2 => mix_z ⟨h1, h2⟩
      unfold uL8 at C
      unfold z8 at C D ⊢
      sorry
  by_cases c9 : tkK n T p = 9
  · rw [if_pos c9]
    have hR := lnR_9 (Z := Z) (sd := sd) c9
    have hZ := zL_9 (Z := Z) c9
    rw [hR] at hF hS
    rw [hZ] at hS
    refine cl_loud (lo := fun h => decide (¬ Z 97 h ≤ nI 0)) hx ht hp m0 m0' (Or.inl rfl) (fun h hh => by rw [(be h hh).1, decide_eq_true_eq]) ?_ ?_
    · intro f q e hf I' h1 h2 h3
      rw [am_asIe, e_Reader_readLine_96, am_gT (by rfl)]
      exact hF f q rl ((ln9_c hn).symm.trans e) hf (Or.inl rfl) I' h1 h2 h3
    · intro q v' I' e hv' he
      rw [ln9_c hn] at e
      rw [nh_c hn] at he
      rw [am_asIe, e_Reader_readLine_96, am_gT (by rfl)]
      have e0 := e
      unfold ln9 at e0
      have g0 : ¬ (nhF (Z 96) (m_nH Z) n T (tkE n T p) ≠ 0) := by
        intro g
        rw [if_pos g] at e0
        have e1 := congrArg Prod.fst e0
        have e2 : (_ : Nat) = 0 := e1
        first | omega | exact absurd e2 (by decide)
      rw [if_neg g0] at e0
      have g1 : ¬ ((fun h => decide (¬ Z 97 h ≤ nI 0)) (nhI (Z 96) (m_nH Z) n T (tkE n T p)) = true) := by
        intro g
        rw [if_pos g] at e0
        have e1 := congrArg Prod.fst e0
        have e2 : (_ : Nat) = 0 := e1
        first | omega | exact absurd e2 (by decide)
      rw [if_neg g1] at e0
      have g2 : ¬ (nuF 1 9 n T (tkE n T (tkE n T p)) ≠ 0) := by
        intro g
        rw [if_pos g] at e0
        have e1 := congrArg Prod.fst e0
        have e2 : (_ : Nat) = 0 := e1
        first | omega | exact absurd e2 (by decide)
      rw [if_neg g2] at e0
      have hq := congrArg Prod.snd e0
      have hq' : _ = q := hq
      refine hS q v' I' rl e (by rw [← hq']; exact hp3) hv' ?_ (frt_e43 he (by unfold uL9; exact frt_u (by omega))) (by rw [he.2.1]; unfold uL9; try simp (config := {maxSteps := 1000000}) (disch := omega) only [nI_add, nI_1, am_mulN, nI_clamp, am_gI, am_ifd, am_ifn, am_asIe, am_asLe, nI_leI, nI_ltI, nI_eq, am_neg1, am_neg1b, tK_u, tK_o, tK_1, tK_2, tK_3, tK_4, tK_5, am_uE, am_uN, hsd]
          rw [decide_eq_false (by omega), Bool.or_false]) (by rw [he.2.2]; unfold uL9; try simp (config := {maxSteps := 1000000}) (disch := omega) only [nI_add, nI_1, am_mulN, nI_clamp, am_gI, am_ifd, am_ifn, am_asIe, am_asLe, nI_leI, nI_ltI, nI_eq, am_neg1, am_neg1b, tK_u, tK_o, tK_1, tK_2, tK_3, tK_4, tK_5, am_uE, am_uN]) (Or.inl rfl)
      have C : ∀ a, (a < 95 ∨ 115 < a) → a ≠ 43 → mix I' (am_u Z 97 (nhI (Z 96) (m_nH Z) n T (tkE n T p)) (nI (tkV n T (tkE n T (tkE n T p))))) a = uL9 (t + 13) (nhI (Z 96) (m_nH Z) n T (tkE n T p)) (tkV n T (tkE n T (tkE n T p))) I a := fun a h1 h2 => by rw [mix_c h1, he.1 a h2]
      have D : ∀ a, 95 ≤ a → a ≤ 115 → mix I' (am_u Z 97 (nhI (Z 96) (m_nH Z) n T (tkE n T p)) (nI (tkV n T (tkE n T (tkE n T p))))) a = (am_u Z 97 (nhI (Z 96) (m_nH Z) n T (tkE n T p)) (nI (tkV n T (tkE n T (tkE n T p))))) a := fun a h1 h2 => mix_z ⟨h1, h2⟩
      have C0 : ∀ a, (a < 95 ∨ 115 < a) → mix I Z a = I a := fun a h1 => mix_c h1
      have D0 : ∀ a, 95 ≤ a → a ≤ 115 → mix I Z a = Z a := fun a h1 h2 => mix_z ⟨h1, h2⟩
      unfold uL9 at C
      sorry
  by_cases c10 : tkK n T p = 10
  · rw [if_pos c10]
    have hR := lnR_10 (Z := Z) (sd := sd) c10
    have hZ := zL_10 (Z := Z) c10
    rw [hR] at hF hS
    rw [hZ] at hS
    refine cl_cat hx ht hp m0 m0' ?_ ?_
    · intro f q e hf I' h1 h2 h3
      rw [am_asIe, e_Reader_readLine_101, am_gT (by rfl)]
      exact hF f q rl ((ln10_c hn ct).symm.trans e) hf (Or.inl rfl) I' h1 h2 h3
    · intro q v' I' e hv' he
      rw [ln10_c hn ct] at e
      rw [nh_c hn] at he
      rw [am_asIe, e_Reader_readLine_101, am_gT (by rfl)]
      have e0 := e
      unfold ln10 at e0
      have g0 : ¬ (nhF (Z 96) (m_nH Z) n T (tkE n T p) ≠ 0) := by
        intro g
        rw [if_pos g] at e0
        have e1 := congrArg Prod.fst e0
        have e2 : (_ : Nat) = 0 := e1
        first | omega | exact absurd e2 (by decide)
      rw [if_neg g0] at e0
      have g1 : ¬ ((fun h => decide (¬ Z 98 h ≤ nI 0)) (nhI (Z 96) (m_nH Z) n T (tkE n T p)) = true) := by
        intro g
        rw [if_pos g] at e0
        have e1 := congrArg Prod.fst e0
        have e2 : (_ : Nat) = 0 := e1
        first | omega | exact absurd e2 (by decide)
      rw [if_neg g1] at e0
      have hq := congrArg Prod.snd e0
      have hq' : _ = q := hq
      refine hS q v' I' rl e (by rw [← hq']; exact hp2) hv' ?_ (frt_e43 he (by unfold uL10; exact frt_u (by omega))) (by rw [he.2.1]; unfold uL10; try simp (config := {maxSteps := 1000000}) (disch := omega) only [nI_add, nI_1, am_mulN, nI_clamp, am_gI, am_ifd, am_ifn, am_asIe, am_asLe, nI_leI, nI_ltI, nI_eq, am_neg1, am_neg1b, tK_u, tK_o, tK_1, tK_2, tK_3, tK_4, tK_5, am_uE, am_uN, hsd]
          rw [decide_eq_false (by omega), Bool.or_false]) (by rw [he.2.2]; unfold uL10; try simp (config := {maxSteps := 1000000}) (disch := omega) only [nI_add, nI_1, am_mulN, nI_clamp, am_gI, am_ifd, am_ifn, am_asIe, am_asLe, nI_leI, nI_ltI, nI_eq, am_neg1, am_neg1b, tK_u, tK_o, tK_1, tK_2, tK_3, tK_4, tK_5, am_uE, am_uN]) (Or.inl rfl)
      have C : ∀ a, (a < 95 ∨ 115 < a) → a ≠ 43 → mix I' (am_u Z 98 (nhI (Z 96) (m_nH Z) n T (tkE n T p)) (nI 1)) a = uL10 t (nhI (Z 96) (m_nH Z) n T (tkE n T p)) I a := fun a h1 h2 => by rw [mix_c h1, he.1 a h2]
      have D : ∀ a, 95 ≤ a → a ≤ 115 → mix I' (am_u Z 98 (nhI (Z 96) (m_nH Z) n T (tkE n T p)) (nI 1)) a = (am_u Z 98 (nhI (Z 96) (m_nH Z) n T (tkE n T p)) (nI 1)) a := fun a h1 h2 => mix_z ⟨h1, h2⟩
      have C0 : ∀ a, (a < 95 ∨ 115 < a) → mix I Z a = I a := fun a h1 => mix_c h1
      have D0 : ∀ a, 95 ≤ a → a ≤ 115 → mix I Z a = Z a := fun a h1 h2 => mix_z ⟨h1, h2⟩
      unfold uL10 at C
      sorry
  by_cases c11 : tkK n T p = 11
  · rw [if_pos c11]
    have hR := lnR_11 (Z := Z) (sd := sd) c11
    have hZ := zL_11 (Z := Z) c11
    rw [hR] at hF hS
    rw [hZ] at hS
    refine cl_loud (lo := fun h => decide (¬ Z 99 h ≤ nI 0)) hx ht hp m0 m0' (Or.inr rfl) (fun h hh => by rw [(be h hh).2, decide_eq_true_eq]) ?_ ?_
    · intro f q e hf I' h1 h2 h3
      rw [am_asIe, e_Reader_readLine_113, am_gT (by rfl)]
      exact hF f q rl ((ln9_c hn).symm.trans e) hf (Or.inl rfl) I' h1 h2 h3
    · intro q v' I' e hv' he
      rw [ln9_c hn] at e
      rw [nh_c hn] at he
      rw [am_asIe, e_Reader_readLine_113, am_gT (by rfl)]
      have e0 := e
      unfold ln9 at e0
      have g0 : ¬ (nhF (Z 96) (m_nH Z) n T (tkE n T p) ≠ 0) := by
        intro g
        rw [if_pos g] at e0
        have e1 := congrArg Prod.fst e0
        have e2 : (_ : Nat) = 0 := e1
        first | omega | exact absurd e2 (by decide)
      rw [if_neg g0] at e0
      have g1 : ¬ ((fun h => decide (¬ Z 99 h ≤ nI 0)) (nhI (Z 96) (m_nH Z) n T (tkE n T p)) = true) := by
        intro g
        rw [if_pos g] at e0
        have e1 := congrArg Prod.fst e0
        have e2 : (_ : Nat) = 0 := e1
        first | omega | exact absurd e2 (by decide)
      rw [if_neg g1] at e0
      have g2 : ¬ (nuF 1 9 n T (tkE n T (tkE n T p)) ≠ 0) := by
        intro g
        rw [if_pos g] at e0
        have e1 := congrArg Prod.fst e0
        have e2 : (_ : Nat) = 0 := e1
        first | omega | exact absurd e2 (by decide)
      rw [if_neg g2] at e0
      have hq := congrArg Prod.snd e0
      have hq' : _ = q := hq
      refine hS q v' I' rl e (by rw [← hq']; exact hp3) hv' ?_ (frt_e43 he (by unfold uL9; exact frt_u (by omega))) (by rw [he.2.1]; unfold uL9; try simp (config := {maxSteps := 1000000}) (disch := omega) only [nI_add, nI_1, am_mulN, nI_clamp, am_gI, am_ifd, am_ifn, am_asIe, am_asLe, nI_leI, nI_ltI, nI_eq, am_neg1, am_neg1b, tK_u, tK_o, tK_1, tK_2, tK_3, tK_4, tK_5, am_uE, am_uN, hsd]
          rw [decide_eq_false (by omega), Bool.or_false]) (by rw [he.2.2]; unfold uL9; try simp (config := {maxSteps := 1000000}) (disch := omega) only [nI_add, nI_1, am_mulN, nI_clamp, am_gI, am_ifd, am_ifn, am_asIe, am_asLe, nI_leI, nI_ltI, nI_eq, am_neg1, am_neg1b, tK_u, tK_o, tK_1, tK_2, tK_3, tK_4, tK_5, am_uE, am_uN]) (Or.inl rfl)
      have C : ∀ a, (a < 95 ∨ 115 < a) → a ≠ 43 → mix I' (am_u Z 99 (nhI (Z 96) (m_nH Z) n T (tkE n T p)) (nI (tkV n T (tkE n T (tkE n T p))))) a = uL9 (t + 14) (nhI (Z 96) (m_nH Z) n T (tkE n T p)) (tkV n T (tkE n T (tkE n T p))) I a := fun a h1 h2 => by rw [mix_c h1, he.1 a h2]
      have D : ∀ a, 95 ≤ a → a ≤ 115 → mix I' (am_u Z 99 (nhI (Z 96) (m_nH Z) n T (tkE n T p)) (nI (tkV n T (tkE n T (tkE n T p))))) a = (am_u Z 99 (nhI (Z 96) (m_nH Z) n T (tkE n T p)) (nI (tkV n T (tkE n T (tkE n T p))))) a := fun a h1 h2 => mix_z ⟨h1, h2⟩
      have C0 : ∀ a, (a < 95 ∨ 115 < a) → mix I Z a = I a := fun a h1 => mix_c h1
      have D0 : ∀ a, 95 ≤ a → a ≤ 115 → mix I Z a = Z a := fun a h1 h2 => mix_z ⟨h1, h2⟩
      unfold uL9 at C
      sorry
  by_cases c12 : tkK n T p = 12
  · rw [if_pos c12]
    have hR := lnR_12 (Z := Z) (sd := sd) c12
    have hZ := zL_12 (Z := Z) c12
    rw [hR] at hF hS
    rw [hZ] at hS
    refine cl_seed hx ht hp hsd ?_ ?_
    · intro f q e hf I' h1 h2 h3
      rw [am_asIe, e_Reader_readLine_118, am_gT (by rfl)]
      exact hF f q rl (e) hf (Or.inl rfl) I' h1 h2 h3
    · intro q v' I' e hv' he
      rw [am_asIe, e_Reader_readLine_118, am_gT (by rfl)]
      have e0 := e
      unfold ln12 at e0
      have g0 : ¬ (sd = true) := by
        intro g
        rw [if_pos g] at e0
        have e1 := congrArg Prod.fst e0
        have e2 : (_ : Nat) = 0 := e1
        first | omega | exact absurd e2 (by decide)
      rw [if_neg g0] at e0
      have g1 : ¬ (nuF 0 99999 n T (tkE n T p) ≠ 0) := by
        intro g
        rw [if_pos g] at e0
        have e1 := congrArg Prod.fst e0
        have e2 : (_ : Nat) = 0 := e1
        first | omega | exact absurd e2 (by decide)
      rw [if_neg g1] at e0
      have hq := congrArg Prod.snd e0
      have hq' : _ = q := hq
      refine hS q v' I' rl e (by rw [← hq']; exact hp2) hv' ?_ (frt_e43 he (by unfold uL12; exact frt_tr (frt_u (by omega)) (frt_u (by omega)))) (by rw [he.2.1]; unfold uL12; rw [am_uN (by omega), am_uE, decide_eq_true c12, Bool.or_true]; rfl) (by rw [he.2.2]; unfold uL12; try simp (config := {maxSteps := 1000000}) (disch := omega) only [nI_add, nI_1, am_mulN, nI_clamp, am_gI, am_ifd, am_ifn, am_asIe, am_asLe, nI_leI, nI_ltI, nI_eq, am_neg1, am_neg1b, tK_u, tK_o, tK_1, tK_2, tK_3, tK_4, tK_5, am_uE, am_uN]) (Or.inl rfl)
      have C : ∀ a, (a < 95 ∨ 115 < a) → a ≠ 43 → mix I' (am_u Z 95 5 (nI (tkV n T (tkE n T p)))) a = uL12 t (tkV n T (tkE n T p)) I a := fun a h1 h2 => by rw [mix_c h1, he.1 a h2]
      have D : ∀ a, 95 ≤ a → a ≤ 115 → mix I' (am_u Z 95 5 (nI (tkV n T (tkE n T p)))) a = (am_u Z 95 5 (nI (tkV n T (tkE n T p)))) a := fun a h1 h2 => mix_z ⟨h1, h2⟩
      have C0 : ∀ a, (a < 95 ∨ 115 < a) → mix I Z a = I a := fun a h1 => mix_c h1
      have D0 : ∀ a, 95 ≤ a → a ≤ 115 → mix I Z a = Z a := fun a h1 h2 => mix_z ⟨h1, h2⟩
      unfold uL12 at C
      sorry
  sorry
end
