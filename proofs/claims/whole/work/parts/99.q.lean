/-! ===== L3: the class reads the E of a law ===== -/
section
variable {d N : Nat} {Q : Value → am_H → Prop} {r : am_rho} {J : Nat → Nat → Int64} {rt rs t rl nt nw nf n q ru st : Nat} {T : Nat → Nat}
theorem frx_tx {I I' : Nat → Nat → Int32} (hq : q = 18 ∨ q = 38) (h : frx q ru st I I') (k : tx I n T) : tx I' n T :=
  tx_mv k (h.1 2 (by omega) (by omega) (by omega) (by omega) (by omega) (by omega) (by omega) (by omega)) (fun a ha => h.1 a (by omega) (by omega) (by omega) (by omega) (by omega) (by omega) (by omega) (by omega))
theorem frx_ro {I I' : Nat → Nat → Int32} (hq : q = 18 ∨ q = 38) (h : frx q ru st I I') (k : c_ro I) : c_ro I' := by
  unfold c_ro
  rw [h.1 2001 (by omega) (by omega) (by omega) (by omega) (by omega) (by omega) (by omega) (by omega), h.1 2002 (by omega) (by omega) (by omega) (by omega) (by omega) (by omega) (by omega) (by omega)]
  exact k
theorem bnd_lt (k : Nat) : bnd k < 8 := by unfold bnd; split; omega; split; omega; split; omega; split; omega; split; omega; split <;> omega
theorem cl_expr (hq : q = 18 ∨ q = 38) (hru : ru < 3) : ∀ (m i p : Nat) (w : List Nat) (cp : List Bool) (sd nm : Bool) (kn : Nat) (R : List Nat) (I : Nat → Nat → Int32) (v : Int32), i + m = 701 → tx I n T → p ≤ n → tvc n T p v → c_ro I → exW ru w cp sd nm I → exL q ru st kn R I → exN st kn w cp R →
    (∀ I' v', tvc n T (sy n T m p w cp sd nm kn R).2.1 v' → frx q ru st I I' → (sy n T m p w cp sd nm kn R).2.1 ≤ n → ((sy n T m p w cp sd nm kn R).1 = 0 → exL q ru st (sy n T m p w cp sd nm kn R).2.2.1 (sy n T m p w cp sd nm kn R).2.2.2 I') → Q (.int (nI (sy n T m p w cp sd nm kn R).1)) (am_hp N (rt, rs, t, q, 2, nt, nw, nf) (tK I' n T (sy n T m p w cp sd nm kn R).2.1 v') J)) →
    am_V (d + 12) Q 3 53 [some (.ref 46), some (.ref q), some (.int (nI ru)), some (.int (nI 0)), some (.int (nI i))] [] (am_hp N (rt, rs, t, q, 2, nt, nw, nf) (tK I n T p v) J) := by
  intro m
  induction m with
  | zero =>
    intro i p w cp sd nm kn R I v him hx hp hv hro hW hL hN hQ
    rw [e_Expression_read_53 hq, am_ifi (nI_ltI (by omega) (by omega)), if_pos (by omega)]
    exact hQ I v hv frx_re hp (fun _ => hL)
  | succ m ih =>
    intro i p w cp sd nm kn R I v him hx hp hv hro hW hL hN hQ
    have hk := (tk_pos (T := T) hx.1.1 hp).2.2.2.2.2
    have hW' := hW
    obtain ⟨w2, w4, w6, w7, w8, wW, wC⟩ := hW'
    have hL' := hL
    obtain ⟨l0, l1, l2, l3, l4⟩ := hL'
    obtain ⟨n1, n2, n3, n4, n5, n6⟩ := hN
    have hop := opc_le w
    have hlw : w.length ≤ 72 := by omega
    have stop : ∀ f I', f = 1 ∨ f = 2 → am_V (d + 12) Q 3 116 [some (.ref 46), some (.ref q), some (.int (nI ru)), some (.int (nI 0)), some (.int (nI i))] [.int (nI f)] (am_hp N (rt, rs, t, q, 2, nt, nw, nf) (tK I' n T p v) J) = Q (.int (nI f)) (am_hp N (rt, rs, t, q, 2, nt, nw, nf) (tK I' n T p v) J) := by
      intro f I' hf
      have hne : ¬ nI f = nI 0 := by rw [nI_eq (by omega) (by omega)]; omega
      rw [e_Expression_read_116 hq, am_ifn, if_neg hne, e_Expression_read_128 hq, e_Expression_read_53 hq, nI_add, am_ifi (nI_ltI (by omega) (by omega))]
      by_cases c : 700 < i + 1
      · rw [if_pos c]
      · rw [if_neg c, am_ifn, if_neg hne]
    have fail : ∀ f I', sy n T (m + 1) p w cp sd nm kn R = (f, p, kn, R) → f = 1 ∨ f = 2 → frx q ru st I I' → Q (.int (nI f)) (am_hp N (rt, rs, t, q, 2, nt, nw, nf) (tK I' n T p v) J) := by
      intro f I' hs hf hfr
      have := hQ I' v
      rw [hs] at this
      exact this hv hfr hp (fun g => by exfalso; have g' : f = 0 := g; omega)
    have next : ∀ I' w' cp' sd' nm' kn' R', sy n T (m + 1) p w cp sd nm kn R = sy n T m (tkE n T p) w' cp' sd' nm' kn' R' → frx q ru st I I' → exW ru w' cp' sd' nm' I' → exL q ru st kn' R' I' → exN st kn' w' cp' R' → am_V (d + 12) Q 3 116 [some (.ref 46), some (.ref q), some (.int (nI ru)), some (.int (nI 0)), some (.int (nI i))] [.int (nI 0)] (am_hp N (rt, rs, t, q, 2, nt, nw, nf) (tK I' n T p v) J) := by
      intro I' w' cp' sd' nm' kn' R' hs hfr hW2 hL2 hN2
      rw [e_Expression_read_116 hq, am_ifn, if_pos rfl]
      have hx2 := frx_tx hq hfr hx
      refine cl_adv hx2 hp ?_
      intro v' hv'
      rw [e_Expression_read_128 hq, nI_add]
      refine ih (i + 1) _ w' cp' sd' nm' kn' R' I' v' (by omega) hx2 (tkE_le hx hp) hv' (frx_ro hq hfr hro) hW2 hL2 hN2 ?_
      intro I2 v2 g1 g2 g3 g4
      have := hQ I2 v2
      rw [hs] at this
      exact this g1 (frx_tr hfr g2) g3 g4
    have go : ¬ (tkK n T p = 27 ∧ sd = false ∧ cp.length = 1) → am_if (decide (nI sd.toNat = nI 0)) (am_D (d + 12) 6 [.ref 46] (am_hp N (rt, rs, t, q, 2, nt, nw, nf) (tK I n T p v) J) (fun v h => am_asI v (fun y => am_V (d + 12) Q 3 116 [some (.ref 46), some (.ref q), some (.int (nI ru)), some (.int (nI 0)), some (.int (nI i))] [.int y] h))) (am_D (d + 12) 4 [.ref 46] (am_hp N (rt, rs, t, q, 2, nt, nw, nf) (tK I n T p v) J) (fun v h => am_asI v (fun y => am_V (d + 12) Q 3 109 [some (.ref 46), some (.ref q), some (.int (nI ru)), some (.int (nI 0)), some (.int (nI i))] [.int y] h))) := by
      intro h27
      unfold sy at fail next
      rw [if_neg h27] at fail
      simp only [if_neg h27] at next
      have await : ∀ (k : Nat) (wx : List Nat) (cpx : List Bool) (nmx : Bool) (Rx : List Nat) (I1 : Nat → Nat → Int32) (Q2 : Value → am_H → Prop), k < 40 → k ≠ 28 → frx q ru st I I1 → exW ru wx cpx true nmx I1 → exL q ru st kn Rx I1 → wx.length < 72 →
          (64 ≤ kn → Q2 (.int (nI 2)) (am_hp N (rt, rs, t, q, 2, nt, nw, nf) (tK I1 n T p v) J)) →
          (¬ 64 ≤ kn → ∀ I2, frx q ru st I I2 → exW ru (k :: wx) cpx true nmx I2 → exL q ru st (kn + 1) Rx I2 → Q2 (.int (nI 0)) (am_hp N (rt, rs, t, q, 2, nt, nw, nf) (tK I2 n T p v) J)) →
          am_D (d + 11) 7 [.ref 46, .int (nI k)] (am_hp N (rt, rs, t, q, 2, nt, nw, nf) (tK I1 n T p v) J) Q2 := by
        intro k wx cpx nmx Rx I1 Q2 hk40 hk28 hfr hW1 hL1 hlx h64 hlt
        obtain ⟨a2, a4, a6, a7, a8, aW, aC⟩ := hW1
        have hL1' := hL1
        obtain ⟨b0, b1, b2, b3, b4⟩ := hL1'
        rw [e_Expression_await hq]
        try simp (config := {maxSteps := 1000000}) (disch := omega) only [nI_add, nI_1, am_mulN, nI_clamp, am_gI, am_ifd, am_ifn, am_asIe, am_asLe, nI_leI, nI_ltI, nI_eq, am_neg1, am_neg1b, tK_u, tK_o, tK_1, tK_2, tK_3, tK_4, tK_5, am_uE, am_uN, b0, a4]
        by_cases c : 64 ≤ kn
        · rw [if_pos c]; exact h64 c
        · rw [if_neg c, if_pos hlx]
          refine hlt c _ (frx_tr hfr (frx_tr (frx_u hq (by omega)) (frx_tr (frx_u hq (by omega)) (frx_u hq (by omega))))) ⟨?_, ?_, ?_, ?_, ?_, ⟨?_, ?_⟩, ?_⟩ ⟨?_, ?_, ?_, ?_, ?_⟩
          · try simp (config := {maxSteps := 1000000}) (disch := omega) only [nI_add, nI_1, am_mulN, nI_clamp, am_gI, am_ifd, am_ifn, am_asIe, am_asLe, nI_leI, nI_ltI, nI_eq, am_neg1, am_neg1b, tK_u, tK_o, tK_1, tK_2, tK_3, tK_4, tK_5, am_uE, am_uN, a2]
          · try simp (config := {maxSteps := 1000000}) (disch := omega) only [nI_add, nI_1, am_mulN, nI_clamp, am_gI, am_ifd, am_ifn, am_asIe, am_asLe, nI_leI, nI_ltI, nI_eq, am_neg1, am_neg1b, tK_u, tK_o, tK_1, tK_2, tK_3, tK_4, tK_5, am_uE, am_uN]
            rfl
          · try simp (config := {maxSteps := 1000000}) (disch := omega) only [nI_add, nI_1, am_mulN, nI_clamp, am_gI, am_ifd, am_ifn, am_asIe, am_asLe, nI_leI, nI_ltI, nI_eq, am_neg1, am_neg1b, tK_u, tK_o, tK_1, tK_2, tK_3, tK_4, tK_5, am_uE, am_uN, a6]
          · try simp (config := {maxSteps := 1000000}) (disch := omega) only [nI_add, nI_1, am_mulN, nI_clamp, am_gI, am_ifd, am_ifn, am_asIe, am_asLe, nI_leI, nI_ltI, nI_eq, am_neg1, am_neg1b, tK_u, tK_o, tK_1, tK_2, tK_3, tK_4, tK_5, am_uE, am_uN, a7]
          · try simp (config := {maxSteps := 1000000}) (disch := omega) only [nI_add, nI_1, am_mulN, nI_clamp, am_gI, am_ifd, am_ifn, am_asIe, am_asLe, nI_leI, nI_ltI, nI_eq, am_neg1, am_neg1b, tK_u, tK_o, tK_1, tK_2, tK_3, tK_4, tK_5, am_uE, am_uN, a8]
          · try simp (config := {maxSteps := 1000000}) (disch := omega) only [nI_add, nI_1, am_mulN, nI_clamp, am_gI, am_ifd, am_ifn, am_asIe, am_asLe, nI_leI, nI_ltI, nI_eq, am_neg1, am_neg1b, tK_u, tK_o, tK_1, tK_2, tK_3, tK_4, tK_5, am_uE, am_uN]
          · exact wrl_c (fun j hj => by try simp (config := {maxSteps := 1000000}) (disch := omega) only [nI_add, nI_1, am_mulN, nI_clamp, am_gI, am_ifd, am_ifn, am_asIe, am_asLe, nI_leI, nI_ltI, nI_eq, am_neg1, am_neg1b, tK_u, tK_o, tK_1, tK_2, tK_3, tK_4, tK_5, am_uE, am_uN]) aW
          · exact cpl_c (fun j hj => by try simp (config := {maxSteps := 1000000}) (disch := omega) only [nI_add, nI_1, am_mulN, nI_clamp, am_gI, am_ifd, am_ifn, am_asIe, am_asLe, nI_leI, nI_ltI, nI_eq, am_neg1, am_neg1b, tK_u, tK_o, tK_1, tK_2, tK_3, tK_4, tK_5, am_uE, am_uN]) aC
          · try simp (config := {maxSteps := 1000000}) (disch := omega) only [nI_add, nI_1, am_mulN, nI_clamp, am_gI, am_ifd, am_ifn, am_asIe, am_asLe, nI_leI, nI_ltI, nI_eq, am_neg1, am_neg1b, tK_u, tK_o, tK_1, tK_2, tK_3, tK_4, tK_5, am_uE, am_uN]
          · try simp (config := {maxSteps := 1000000}) (disch := omega) only [nI_add, nI_1, am_mulN, nI_clamp, am_gI, am_ifd, am_ifn, am_asIe, am_asLe, nI_leI, nI_ltI, nI_eq, am_neg1, am_neg1b, tK_u, tK_o, tK_1, tK_2, tK_3, tK_4, tK_5, am_uE, am_uN, b1]
          · exact rwl_c (fun j hj => by try simp (config := {maxSteps := 1000000}) (disch := omega) only [nI_add, nI_1, am_mulN, nI_clamp, am_gI, am_ifd, am_ifn, am_asIe, am_asLe, nI_leI, nI_ltI, nI_eq, am_neg1, am_neg1b, tK_u, tK_o, tK_1, tK_2, tK_3, tK_4, tK_5, am_uE, am_uN]) b2
          · try simp (config := {maxSteps := 1000000}) (disch := omega) only [nI_add, nI_1, am_mulN, nI_clamp, am_gI, am_ifd, am_ifn, am_asIe, am_asLe, nI_leI, nI_ltI, nI_eq, am_neg1, am_neg1b, tK_u, tK_o, tK_1, tK_2, tK_3, tK_4, tK_5, am_uE, am_uN, b3]
          · try simp (config := {maxSteps := 1000000}) (disch := omega) only [nI_add, nI_1, am_mulN, nI_clamp, am_gI, am_ifd, am_ifn, am_asIe, am_asLe, nI_leI, nI_ltI, nI_eq, am_neg1, am_neg1b, tK_u, tK_o, tK_1, tK_2, tK_3, tK_4, tK_5, am_uE, am_uN, b4]
      cases sd with
      | true =>
        rw [am_ifd, if_neg nt0, e_Expression_readSide]
        try simp (config := {maxSteps := 1000000}) (disch := omega) only [nI_add, nI_1, am_mulN, nI_clamp, am_gI, am_ifd, am_ifn, am_asIe, am_asLe, nI_leI, nI_ltI, nI_eq, am_neg1, am_neg1b, tK_u, tK_o, tK_1, tK_2, tK_3, tK_4, tK_5, am_uE, am_uN, w8]
        simp only [if_pos rfl] at fail next
        have v38 : ¬ tkK n T p = 28 → ¬ (tkK n T p = 19 ∧ nm = true) → am_V (d + 11) (fun v h => am_asI v (fun y => am_V (d + 12) Q 3 109 [some (.ref 46), some (.ref q), some (.int (nI ru)), some (.int (nI 0)), some (.int (nI i))] [.int y] h)) 4 38 [some (.ref 46), some (.int (nI (tkK n T p))), none] [] (am_hp N (rt, rs, t, q, 2, nt, nw, nf) (tK I n T p v) J) := by
          intro c28 c19
          simp only [if_neg c28, if_neg c19] at fail next
          have v65 : ∀ x2, (tkK n T p ≠ 2 ∧ (tkK n T p < 20 ∨ 26 < tkK n T p)) → am_V (d + 11) (fun v h => am_asI v (fun y => am_V (d + 12) Q 3 109 [some (.ref 46), some (.ref q), some (.int (nI ru)), some (.int (nI 0)), some (.int (nI i))] [.int y] h)) 4 65 [some (.ref 46), some (.int (nI (tkK n T p))), some (.int x2)] [] (am_hp N (rt, rs, t, q, 2, nt, nw, nf) (tK I n T p v) J) := by
            intro x2 hc
            rw [e_Expression_readSide_65, am_asIe, e_Expression_read_109 hq, stop 1 I (by omega)]
            exact fail 1 I (by rw [if_pos hc]) (by omega) frx_re
          have v96 : ∀ x2, ¬ (tkK n T p ≠ 2 ∧ (tkK n T p < 20 ∨ 26 < tkK n T p)) → ((tkK n T p = 2 ∧ 9999 < tkV n T p) ∨ 64 ≤ kn) → am_V (d + 11) (fun v h => am_asI v (fun y => am_V (d + 12) Q 3 109 [some (.ref 46), some (.ref q), some (.int (nI ru)), some (.int (nI 0)), some (.int (nI i))] [.int y] h)) 4 96 [some (.ref 46), some (.int (nI (tkK n T p))), some (.int x2)] [] (am_hp N (rt, rs, t, q, 2, nt, nw, nf) (tK I n T p v) J) := by
            intro x2 hc hc2
            rw [e_Expression_readSide_96, am_asIe, e_Expression_read_109 hq, stop 2 I (by omega)]
            exact fail 2 I (by rw [if_neg hc, if_pos hc2]) (by omega) frx_re
          have wrt : ∀ x x2 (c1 : ¬ (tkK n T p ≠ 2 ∧ (tkK n T p < 20 ∨ 26 < tkK n T p))) (c2 : ¬ ((tkK n T p = 2 ∧ 9999 < tkV n T p) ∨ 64 ≤ kn)), x = (if tkK n T p = 2 then tkV n T p else 10000 + tkK n T p) → x < 10040 → am_D (d + 11) 15 [.ref q, .int (nI ru), .int (nI x)] (am_hp N (rt, rs, t, q, 2, nt, nw, nf) (tK (am_u I q 0 (nI (kn + 1))) n T p v) J) (fun _ h => am_V (d + 11) (fun v h => am_asI v (fun y => am_V (d + 12) Q 3 109 [some (.ref 46), some (.ref q), some (.int (nI ru)), some (.int (nI 0)), some (.int (nI i))] [.int y] h)) 4 141 [some (.ref 46), some (.int (nI (tkK n T p))), some (.int x2)] [] h) := by
            intro x x2 c1 c2 hxe hx40
            simp only [if_neg c1, if_neg c2, ← hxe] at next
            have hL3 : exL q ru st (kn + 1) R (tK (am_u I q 0 (nI (kn + 1))) n T p v) := by
              refine ⟨?_, ?_, rwl_c (fun j hj => by try simp (config := {maxSteps := 1000000}) (disch := omega) only [nI_add, nI_1, am_mulN, nI_clamp, am_gI, am_ifd, am_ifn, am_asIe, am_asLe, nI_leI, nI_ltI, nI_eq, am_neg1, am_neg1b, tK_u, tK_o, tK_1, tK_2, tK_3, tK_4, tK_5, am_uE, am_uN]) l2, ?_, ?_⟩
              · try simp (config := {maxSteps := 1000000}) (disch := omega) only [nI_add, nI_1, am_mulN, nI_clamp, am_gI, am_ifd, am_ifn, am_asIe, am_asLe, nI_leI, nI_ltI, nI_eq, am_neg1, am_neg1b, tK_u, tK_o, tK_1, tK_2, tK_3, tK_4, tK_5, am_uE, am_uN]
              · try simp (config := {maxSteps := 1000000}) (disch := omega) only [nI_add, nI_1, am_mulN, nI_clamp, am_gI, am_ifd, am_ifn, am_asIe, am_asLe, nI_leI, nI_ltI, nI_eq, am_neg1, am_neg1b, tK_u, tK_o, tK_1, tK_2, tK_3, tK_4, tK_5, am_uE, am_uN, l1]
              · try simp (config := {maxSteps := 1000000}) (disch := omega) only [nI_add, nI_1, am_mulN, nI_clamp, am_gI, am_ifd, am_ifn, am_asIe, am_asLe, nI_leI, nI_ltI, nI_eq, am_neg1, am_neg1b, tK_u, tK_o, tK_1, tK_2, tK_3, tK_4, tK_5, am_uE, am_uN, l3]
              · try simp (config := {maxSteps := 1000000}) (disch := omega) only [nI_add, nI_1, am_mulN, nI_clamp, am_gI, am_ifd, am_ifn, am_asIe, am_asLe, nI_leI, nI_ltI, nI_eq, am_neg1, am_neg1b, tK_u, tK_o, tK_1, tK_2, tK_3, tK_4, tK_5, am_uE, am_uN, l4]
            have hro3 : c_ro (tK (am_u I q 0 (nI (kn + 1))) n T p v) := by unfold c_ro; rw [tK_row (by omega), tK_row (by omega), am_uRow (by omega), am_uRow (by omega)]; exact hro
            refine s_write hq hro3 hru hx40 hL3 (by omega) ?_
            intro I2 g1 g2 g3
            have eI : tK I2 n T p v = I2 := tK_re (g3 44 (by omega) (by omega) (by omega) (by omega))
            rw [← eI, e_Expression_readSide_141, am_asIe, e_Expression_read_109 hq, tK_u (by omega)]
            refine next (am_u I2 46 7 (nI 0)) _ _ _ _ _ _ rfl ?_ ⟨?_, ?_, ?_, ?_, ?_, ?_, ?_⟩ (exL_c (fun a h => am_uRow (by omega)) g1) ⟨by omega, ?_, n3, n4, n5, n6⟩
            · refine frx_tr (I' := am_u I q 0 (nI (kn + 1))) (frx_u hq (by omega)) (frx_tr (I' := I2) ⟨fun a h1 h2 h3 h4 h5 h6 h7 h8 => ?_, fun j hj => ?_, fun j hj => ⟨?_, ?_⟩⟩ (frx_u hq (by omega)))
              · rw [g2.1 a h1 h2 h3 h4 h5 h6 h7 h8, tK_row h1]
              · rw [g2.2.1 j hj, tK_o (by omega)]
              · rw [(g2.2.2 j hj).1, tK_o (by omega)]
              · rw [(g2.2.2 j hj).2, tK_o (by omega)]
            · rw [am_uN (by omega), g3 46 (by omega) (by omega) (by omega) (by omega)]; try simp (config := {maxSteps := 1000000}) (disch := omega) only [nI_add, nI_1, am_mulN, nI_clamp, am_gI, am_ifd, am_ifn, am_asIe, am_asLe, nI_leI, nI_ltI, nI_eq, am_neg1, am_neg1b, tK_u, tK_o, tK_1, tK_2, tK_3, tK_4, tK_5, am_uE, am_uN, w2]
            · rw [am_uN (by omega), g3 46 (by omega) (by omega) (by omega) (by omega)]; try simp (config := {maxSteps := 1000000}) (disch := omega) only [nI_add, nI_1, am_mulN, nI_clamp, am_gI, am_ifd, am_ifn, am_asIe, am_asLe, nI_leI, nI_ltI, nI_eq, am_neg1, am_neg1b, tK_u, tK_o, tK_1, tK_2, tK_3, tK_4, tK_5, am_uE, am_uN, w4]
            · rw [am_uN (by omega), g3 46 (by omega) (by omega) (by omega) (by omega)]; try simp (config := {maxSteps := 1000000}) (disch := omega) only [nI_add, nI_1, am_mulN, nI_clamp, am_gI, am_ifd, am_ifn, am_asIe, am_asLe, nI_leI, nI_ltI, nI_eq, am_neg1, am_neg1b, tK_u, tK_o, tK_1, tK_2, tK_3, tK_4, tK_5, am_uE, am_uN, w6]
            · rw [am_uE]; rfl
            · rw [am_uN (by omega), g3 46 (by omega) (by omega) (by omega) (by omega)]; try simp (config := {maxSteps := 1000000}) (disch := omega) only [nI_add, nI_1, am_mulN, nI_clamp, am_gI, am_ifd, am_ifn, am_asIe, am_asLe, nI_leI, nI_ltI, nI_eq, am_neg1, am_neg1b, tK_u, tK_o, tK_1, tK_2, tK_3, tK_4, tK_5, am_uE, am_uN, w8]
            · exact wrl_c (fun j hj => by rw [am_uN (by omega), g3 47 (by omega) (by omega) (by omega) (by omega)]; try simp (config := {maxSteps := 1000000}) (disch := omega) only [nI_add, nI_1, am_mulN, nI_clamp, am_gI, am_ifd, am_ifn, am_asIe, am_asLe, nI_leI, nI_ltI, nI_eq, am_neg1, am_neg1b, tK_u, tK_o, tK_1, tK_2, tK_3, tK_4, tK_5, am_uE, am_uN]) wW
            · exact cpl_c (fun j hj => by rw [am_uN (by omega), g3 48 (by omega) (by omega) (by omega) (by omega)]; try simp (config := {maxSteps := 1000000}) (disch := omega) only [nI_add, nI_1, am_mulN, nI_clamp, am_gI, am_ifd, am_ifn, am_asIe, am_asLe, nI_leI, nI_ltI, nI_eq, am_neg1, am_neg1b, tK_u, tK_o, tK_1, tK_2, tK_3, tK_4, tK_5, am_uE, am_uN]) wC
            · show st + (R.length + 1) + opc w = kn + 1
              omega
          have v84 : ∀ b : Bool, b = decide (tkK n T p = 2) → (¬ (tkK n T p ≠ 2 ∧ (tkK n T p < 20 ∨ 26 < tkK n T p))) → ¬ (tkK n T p = 2 ∧ 9999 < tkV n T p) → am_V (d + 11) (fun v h => am_asI v (fun y => am_V (d + 12) Q 3 109 [some (.ref 46), some (.ref q), some (.int (nI ru)), some (.int (nI 0)), some (.int (nI i))] [.int y] h)) 4 84 [some (.ref 46), some (.int (nI (tkK n T p))), some (.int (nI b.toNat))] [] (am_hp N (rt, rs, t, q, 2, nt, nw, nf) (tK I n T p v) J) := by
            intro b hb c1 c2
            rw [e_Expression_readSide_84 hq]
            try simp (config := {maxSteps := 1000000}) (disch := omega) only [nI_add, nI_1, am_mulN, nI_clamp, am_gI, am_ifd, am_ifn, am_asIe, am_asLe, nI_leI, nI_ltI, nI_eq, am_neg1, am_neg1b, tK_u, tK_o, tK_1, tK_2, tK_3, tK_4, tK_5, am_uE, am_uN, l0, w2]
            by_cases c64 : kn < 64
            · rw [if_pos c64]
              by_cases ck : tkK n T p = 2
              · rw [decide_eq_true ck] at hb
                subst hb
                have hvv := hv.1 ck
                rw [if_neg nt0, hvv, show min (tkV n T p) 1000000 = tkV n T p by omega]
                rw [hvv, show min (tkV n T p) 1000000 = tkV n T p by omega] at wrt
                exact wrt _ _ c1 (by omega) (by rw [if_pos ck]) (by omega)
              · rw [decide_eq_false ck] at hb
                subst hb
                rw [if_pos nf0]
                exact wrt _ _ c1 (by omega) (by rw [if_neg ck]) (by omega)
            · rw [if_neg c64]
              exact v96 _ c1 (by omega)
          rw [e_Expression_readSide_38, am_ifni (nI_eq (by omega) (by omega))]
          by_cases ck : tkK n T p = 2
          · rw [if_pos ck, e_Expression_readSide_49, am_ifn, if_neg n10, e_Expression_readSide_67, am_ifd, if_neg n10, tK_5]
            have hvv := hv.1 ck
            have q1 : nI 9999 < v ↔ 9999 < tkV n T p := by rw [hvv, nI_ltI (by omega) (by omega)]; omega
            rw [am_ifi q1]
            by_cases c9 : 9999 < tkV n T p
            · rw [if_pos c9]
              exact v96 _ (by omega) (by omega)
            · rw [if_neg c9]
              exact v84 true (by rw [decide_eq_true ck]) (by omega) (by omega)
          · rw [if_neg ck, e_Expression_readSide_49, am_ifn, if_pos rfl, am_ifi (nI_ltI (by omega) (by omega)), am_ifi (nI_leI (by omega) (by omega))]
            by_cases c20 : tkK n T p < 20
            · rw [if_pos c20]; exact v65 _ (by omega)
            · rw [if_neg c20]
              by_cases c26 : tkK n T p ≤ 26
              · rw [if_pos c26, e_Expression_readSide_67, am_ifd, if_pos rfl]
                exact v84 false (by rw [decide_eq_false ck]) (by omega) (by omega)
              · rw [if_neg c26]; exact v65 _ (by omega)
        by_cases c28 : tkK n T p = 28
        · simp only [if_pos c28] at fail next
          rw [if_pos c28, e_Expression_readOpen]
          try simp (config := {maxSteps := 1000000}) (disch := omega) only [nI_add, nI_1, am_mulN, nI_clamp, am_gI, am_ifd, am_ifn, am_asIe, am_asLe, nI_leI, nI_ltI, nI_eq, am_neg1, am_neg1b, tK_u, tK_o, tK_1, tK_2, tK_3, tK_4, tK_5, am_uE, am_uN, w6, w4]
          by_cases c9 : 9 ≤ cp.length
          · rw [if_pos (by omega), e_Expression_readSide_18, am_asIe, e_Expression_read_109 hq, stop 2 I (by omega)]
            exact fail 2 I (by rw [if_pos c9]) (by omega) frx_re
          · simp only [if_neg c9] at next
            rw [if_neg (by omega), if_pos (by omega), show cp.length - 1 + 1 = cp.length by omega]
            try simp (config := {maxSteps := 1000000}) (disch := omega) only [nI_add, nI_1, am_mulN, nI_clamp, am_gI, am_ifd, am_ifn, am_asIe, am_asLe, nI_leI, nI_ltI, nI_eq, am_neg1, am_neg1b, tK_u, tK_o, tK_1, tK_2, tK_3, tK_4, tK_5, am_uE, am_uN]
            rw [e_Expression_readSide_18, am_asIe, e_Expression_read_109 hq]
            refine next _ _ _ _ _ _ _ rfl (frx_tr (frx_u hq (by omega)) (frx_tr (frx_u hq (by omega)) (frx_tr (frx_u hq (by omega)) (frx_tr (frx_u hq (by omega)) (frx_u hq (by omega)))))) ⟨?_, ?_, ?_, ?_, ?_, ⟨?_, ?_⟩, ⟨?_, ?_⟩⟩ (exL_c (fun a h => by rw [am_uRow (by omega), am_uRow (by omega), am_uRow (by omega), am_uRow (by omega), am_uRow (by omega)]) hL) ⟨n1, ?_, ?_, ?_, ?_, ?_⟩
            · try simp (config := {maxSteps := 1000000}) (disch := omega) only [nI_add, nI_1, am_mulN, nI_clamp, am_gI, am_ifd, am_ifn, am_asIe, am_asLe, nI_leI, nI_ltI, nI_eq, am_neg1, am_neg1b, tK_u, tK_o, tK_1, tK_2, tK_3, tK_4, tK_5, am_uE, am_uN, w2]
            · try simp (config := {maxSteps := 1000000}) (disch := omega) only [nI_add, nI_1, am_mulN, nI_clamp, am_gI, am_ifd, am_ifn, am_asIe, am_asLe, nI_leI, nI_ltI, nI_eq, am_neg1, am_neg1b, tK_u, tK_o, tK_1, tK_2, tK_3, tK_4, tK_5, am_uE, am_uN]
              rfl
            · try simp (config := {maxSteps := 1000000}) (disch := omega) only [nI_add, nI_1, am_mulN, nI_clamp, am_gI, am_ifd, am_ifn, am_asIe, am_asLe, nI_leI, nI_ltI, nI_eq, am_neg1, am_neg1b, tK_u, tK_o, tK_1, tK_2, tK_3, tK_4, tK_5, am_uE, am_uN]
              rfl
            · try simp (config := {maxSteps := 1000000}) (disch := omega) only [nI_add, nI_1, am_mulN, nI_clamp, am_gI, am_ifd, am_ifn, am_asIe, am_asLe, nI_leI, nI_ltI, nI_eq, am_neg1, am_neg1b, tK_u, tK_o, tK_1, tK_2, tK_3, tK_4, tK_5, am_uE, am_uN, w7]
            · try simp (config := {maxSteps := 1000000}) (disch := omega) only [nI_add, nI_1, am_mulN, nI_clamp, am_gI, am_ifd, am_ifn, am_asIe, am_asLe, nI_leI, nI_ltI, nI_eq, am_neg1, am_neg1b, tK_u, tK_o, tK_1, tK_2, tK_3, tK_4, tK_5, am_uE, am_uN]
              rfl
            · try simp (config := {maxSteps := 1000000}) (disch := omega) only [nI_add, nI_1, am_mulN, nI_clamp, am_gI, am_ifd, am_ifn, am_asIe, am_asLe, nI_leI, nI_ltI, nI_eq, am_neg1, am_neg1b, tK_u, tK_o, tK_1, tK_2, tK_3, tK_4, tK_5, am_uE, am_uN]
            · exact wrl_c (fun j hj => by try simp (config := {maxSteps := 1000000}) (disch := omega) only [nI_add, nI_1, am_mulN, nI_clamp, am_gI, am_ifd, am_ifn, am_asIe, am_asLe, nI_leI, nI_ltI, nI_eq, am_neg1, am_neg1b, tK_u, tK_o, tK_1, tK_2, tK_3, tK_4, tK_5, am_uE, am_uN]) wW
            · try simp (config := {maxSteps := 1000000}) (disch := omega) only [nI_add, nI_1, am_mulN, nI_clamp, am_gI, am_ifd, am_ifn, am_asIe, am_asLe, nI_leI, nI_ltI, nI_eq, am_neg1, am_neg1b, tK_u, tK_o, tK_1, tK_2, tK_3, tK_4, tK_5, am_uE, am_uN]
              rfl
            · exact cpl_c (fun j hj => by try simp (config := {maxSteps := 1000000}) (disch := omega) only [nI_add, nI_1, am_mulN, nI_clamp, am_gI, am_ifd, am_ifn, am_asIe, am_asLe, nI_leI, nI_ltI, nI_eq, am_neg1, am_neg1b, tK_u, tK_o, tK_1, tK_2, tK_3, tK_4, tK_5, am_uE, am_uN]) wC
            · show st + R.length + (0 + opc w) = kn
              omega
            · show w.length + 1 = (0 + opc w) + (cp.length + 1 - 1)
              omega
            · show 1 ≤ cp.length + 1
              omega
            · show cp.length + 1 ≤ 9
              omega
            · intro k hk
              rcases List.mem_cons.mp hk with rfl | hk
              · omega
              · exact n6 k hk
        · rw [if_neg c28]
          by_cases c19 : tkK n T p = 19
          · rw [if_pos c19]
            cases nm with
            | false =>
              rw [if_pos nf0]
              have := v38 c28 (by simp)
              exact this
            | true =>
              rw [if_neg nt0]
              simp only [if_neg c28, c19, true_and, if_true] at fail next
              rw [c19]
              refine await 19 w cp true R I _ (by omega) (by omega) frx_re hW hL (by omega) ?_ ?_
              · intro c64
                rw [am_asIe, e_Expression_readSide_37, am_asIe, e_Expression_read_109 hq, stop 2 I (by omega)]
                exact fail 2 I (by rw [if_pos c64]) (by omega) frx_re
              · intro c64 I2 g1 g2 g3
                simp only [if_neg c64] at next
                rw [am_asIe, e_Expression_readSide_37, am_asIe, e_Expression_read_109 hq]
                refine next I2 _ _ _ _ _ _ rfl g1 g2 g3 ⟨by omega, ?_, ?_, n4, n5, ?_⟩
                · show st + R.length + (1 + opc w) = kn + 1
                  omega
                · show w.length + 1 = (1 + opc w) + (cp.length - 1)
                  omega
                · intro k hk
                  rcases List.mem_cons.mp hk with rfl | hk
                  · omega
                  · exact n6 k hk
          · rw [if_neg c19]
            exact v38 c28 (by omega)
      | false =>
        sorry
    rw [e_Expression_read_53 hq, am_ifi (nI_ltI (by omega) (by omega)), if_neg (by omega), am_ifn, if_pos rfl]
    try simp (config := {maxSteps := 1000000}) (disch := omega) only [nI_add, nI_1, am_mulN, nI_clamp, am_gI, am_ifd, am_ifn, am_asIe, am_asLe, nI_leI, nI_ltI, nI_eq, am_neg1, am_neg1b, tK_u, tK_o, tK_1, tK_2, tK_3, tK_4, tK_5, am_uE, am_uN, w6, w7]
    sorry
end
