/-! ===== L3: the class reads the E of a law ===== -/
section
variable {d N : Nat} {Q : Value → am_H → Prop} {r : am_rho} {J : Nat → Nat → Int64} {rt rs t rl nt nw nf n q ru st : Nat} {T : Nat → Nat}
theorem frx_tx {I I' : Nat → Nat → Int32} (hq : q = 18 ∨ q = 38) (h : frx q ru st I I') (k : tx I n T) : tx I' n T :=
  tx_mv k (h.1 2 (by omega) (by omega) (by omega) (by omega) (by omega) (by omega) (by omega) (by omega)) (fun a ha => h.1 a (by omega) (by omega) (by omega) (by omega) (by omega) (by omega) (by omega) (by omega))
theorem frx_ro {I I' : Nat → Nat → Int32} (hq : q = 18 ∨ q = 38) (h : frx q ru st I I') (k : c_ro I) : c_ro I' := by
  unfold c_ro
  rw [h.1 2001 (by omega) (by omega) (by omega) (by omega) (by omega) (by omega) (by omega) (by omega), h.1 2002 (by omega) (by omega) (by omega) (by omega) (by omega) (by omega) (by omega) (by omega)]
  exact k
section
variable {m p kn : Nat} {w : List Nat} {cp : List Bool} {sd nm : Bool} {R : List Nat}
theorem sy_S : sy n T (m + 1) p w cp sd nm kn R = (if tkK n T p = 27 ∧ sd = false ∧ cp.length = 1 then (0, p, kn, (stl 0 w R).2)
    else if sd = true then
      if tkK n T p = 28 then (if 9 ≤ cp.length then (2, p, kn, R) else sy n T m (tkE n T p) (28 :: w) (false :: cp) true true kn R)
      else if tkK n T p = 19 ∧ nm = true then (if 64 ≤ kn then (2, p, kn, R) else sy n T m (tkE n T p) (19 :: w) cp true true (kn + 1) R)
      else if tkK n T p ≠ 2 ∧ (tkK n T p < 20 ∨ 26 < tkK n T p) then (1, p, kn, R)
      else if (tkK n T p = 2 ∧ 9999 < tkV n T p) ∨ 64 ≤ kn then (2, p, kn, R)
      else sy n T m (tkE n T p) w cp false nm (kn + 1) ((if tkK n T p = 2 then tkV n T p else 10000 + tkK n T p) :: R)
    else if tkK n T p = 29 ∧ 1 < cp.length then sy n T m (tkE n T p) (stl 0 w R).1.tail cp.tail false nm kn (stl 0 w R).2
    else if bnd (tkK n T p) = 0 ∨ tkK n T p = 19 ∨ (bnd (tkK n T p) = 4 ∧ hdb cp = true) then (1, p, kn, R)
    else if 64 ≤ kn then (2, p, kn, R)
    else sy n T m (tkE n T p) (tkK n T p :: (stl (bnd (tkK n T p)) w R).1) ((decide (bnd (tkK n T p) = 4) || (hdb cp && decide (4 < bnd (tkK n T p)))) :: cp.tail) true (decide (bnd (tkK n T p) < 4)) (kn + 1) (stl (bnd (tkK n T p)) w R).2) := rfl
theorem sy_end (h : tkK n T p = 27) (hc : cp.length = 1) : sy n T (m + 1) p w cp false nm kn R = (0, p, kn, (stl 0 w R).2) := by rw [sy_S, if_pos ⟨h, rfl, hc⟩]
theorem sy_T : sy n T (m + 1) p w cp true nm kn R = (if tkK n T p = 28 then (if 9 ≤ cp.length then (2, p, kn, R) else sy n T m (tkE n T p) (28 :: w) (false :: cp) true true kn R)
      else if tkK n T p = 19 ∧ nm = true then (if 64 ≤ kn then (2, p, kn, R) else sy n T m (tkE n T p) (19 :: w) cp true true (kn + 1) R)
      else if tkK n T p ≠ 2 ∧ (tkK n T p < 20 ∨ 26 < tkK n T p) then (1, p, kn, R)
      else if (tkK n T p = 2 ∧ 9999 < tkV n T p) ∨ 64 ≤ kn then (2, p, kn, R)
      else sy n T m (tkE n T p) w cp false nm (kn + 1) ((if tkK n T p = 2 then tkV n T p else 10000 + tkK n T p) :: R)) := by
  rw [sy_S, if_neg (fun g => by cases g.2.1), if_pos rfl]
theorem sy_F (h : ¬ (tkK n T p = 27 ∧ cp.length = 1)) : sy n T (m + 1) p w cp false nm kn R = (if tkK n T p = 29 ∧ 1 < cp.length then sy n T m (tkE n T p) (stl 0 w R).1.tail cp.tail false nm kn (stl 0 w R).2
    else if bnd (tkK n T p) = 0 ∨ tkK n T p = 19 ∨ (bnd (tkK n T p) = 4 ∧ hdb cp = true) then (1, p, kn, R)
    else if 64 ≤ kn then (2, p, kn, R)
    else sy n T m (tkE n T p) (tkK n T p :: (stl (bnd (tkK n T p)) w R).1) ((decide (bnd (tkK n T p) = 4) || (hdb cp && decide (4 < bnd (tkK n T p)))) :: cp.tail) true (decide (bnd (tkK n T p) < 4)) (kn + 1) (stl (bnd (tkK n T p)) w R).2) := by
  rw [sy_S, if_neg (fun g => h ⟨g.1, g.2.2⟩), if_neg (by simp)]
theorem sy_open (h : tkK n T p = 28) (hc : cp.length < 9) : sy n T (m + 1) p w cp true nm kn R = sy n T m (tkE n T p) (28 :: w) (false :: cp) true true kn R := by rw [sy_T, if_pos h, if_neg (by omega)]
theorem sy_openF (h : tkK n T p = 28) (hc : 9 ≤ cp.length) : sy n T (m + 1) p w cp true nm kn R = (2, p, kn, R) := by rw [sy_T, if_pos h, if_pos hc]
theorem sy_not (h : tkK n T p = 19) (hc : kn < 64) : sy n T (m + 1) p w cp true true kn R = sy n T m (tkE n T p) (19 :: w) cp true true (kn + 1) R := by rw [sy_T, if_neg (by omega), if_pos ⟨h, rfl⟩, if_neg (by omega)]
theorem sy_notF (h : tkK n T p = 19) (hc : 64 ≤ kn) : sy n T (m + 1) p w cp true true kn R = (2, p, kn, R) := by rw [sy_T, if_neg (by omega), if_pos ⟨h, rfl⟩, if_pos hc]
theorem sy_mis (h : ¬ tkK n T p = 28) (h2 : ¬ (tkK n T p = 19 ∧ nm = true)) (h3 : tkK n T p ≠ 2 ∧ (tkK n T p < 20 ∨ 26 < tkK n T p)) : sy n T (m + 1) p w cp true nm kn R = (1, p, kn, R) := by rw [sy_T, if_neg h, if_neg h2, if_pos h3]
theorem sy_muc (h : ¬ tkK n T p = 28) (h2 : ¬ (tkK n T p = 19 ∧ nm = true)) (h3 : ¬ (tkK n T p ≠ 2 ∧ (tkK n T p < 20 ∨ 26 < tkK n T p))) (h4 : (tkK n T p = 2 ∧ 9999 < tkV n T p) ∨ 64 ≤ kn) : sy n T (m + 1) p w cp true nm kn R = (2, p, kn, R) := by rw [sy_T, if_neg h, if_neg h2, if_neg h3, if_pos h4]
theorem sy_side (h : ¬ tkK n T p = 28) (h2 : ¬ (tkK n T p = 19 ∧ nm = true)) (h3 : ¬ (tkK n T p ≠ 2 ∧ (tkK n T p < 20 ∨ 26 < tkK n T p))) (h4 : ¬ ((tkK n T p = 2 ∧ 9999 < tkV n T p) ∨ 64 ≤ kn)) : sy n T (m + 1) p w cp true nm kn R = sy n T m (tkE n T p) w cp false nm (kn + 1) ((if tkK n T p = 2 then tkV n T p else 10000 + tkK n T p) :: R) := by rw [sy_T, if_neg h, if_neg h2, if_neg h3, if_neg h4]
theorem sy_close (h : tkK n T p = 29) (hc : 1 < cp.length) : sy n T (m + 1) p w cp false nm kn R = sy n T m (tkE n T p) (stl 0 w R).1.tail cp.tail false nm kn (stl 0 w R).2 := by rw [sy_F (by omega), if_pos ⟨h, hc⟩]
theorem sy_sgM (h : ¬ (tkK n T p = 27 ∧ cp.length = 1)) (h2 : ¬ (tkK n T p = 29 ∧ 1 < cp.length)) (h3 : bnd (tkK n T p) = 0 ∨ tkK n T p = 19 ∨ (bnd (tkK n T p) = 4 ∧ hdb cp = true)) : sy n T (m + 1) p w cp false nm kn R = (1, p, kn, R) := by rw [sy_F h, if_neg h2, if_pos h3]
theorem sy_sgF (h : ¬ (tkK n T p = 27 ∧ cp.length = 1)) (h2 : ¬ (tkK n T p = 29 ∧ 1 < cp.length)) (h3 : ¬ (bnd (tkK n T p) = 0 ∨ tkK n T p = 19 ∨ (bnd (tkK n T p) = 4 ∧ hdb cp = true))) (h4 : 64 ≤ kn) : sy n T (m + 1) p w cp false nm kn R = (2, p, kn, R) := by rw [sy_F h, if_neg h2, if_neg h3, if_pos h4]
theorem sy_sg (h : ¬ (tkK n T p = 27 ∧ cp.length = 1)) (h2 : ¬ (tkK n T p = 29 ∧ 1 < cp.length)) (h3 : ¬ (bnd (tkK n T p) = 0 ∨ tkK n T p = 19 ∨ (bnd (tkK n T p) = 4 ∧ hdb cp = true))) (h4 : ¬ 64 ≤ kn) : sy n T (m + 1) p w cp false nm kn R = sy n T m (tkE n T p) (tkK n T p :: (stl (bnd (tkK n T p)) w R).1) ((decide (bnd (tkK n T p) = 4) || (hdb cp && decide (4 < bnd (tkK n T p)))) :: cp.tail) true (decide (bnd (tkK n T p) < 4)) (kn + 1) (stl (bnd (tkK n T p)) w R).2 := by rw [sy_F h, if_neg h2, if_neg h3, if_neg h4]
theorem stl0_hd : ∀ {w R : List Nat}, (stl 0 w R).1 = [] ∨ ∃ w', (stl 0 w R).1 = 28 :: w'
  | [], R => Or.inl rfl
  | k :: w, R => by
    unfold stl
    by_cases c : k = 28
    · rw [if_pos (Or.inl c), c]; exact Or.inr ⟨w, rfl⟩
    · rw [if_neg (by omega)]; exact stl0_hd
end
theorem bnd_lt (k : Nat) : bnd k < 8 := by unfold bnd; split; omega; split; omega; split; omega; split; omega; split; omega; split <;> omega
theorem cl_expr (hq : q = 18 ∨ q = 38) (hru : ru < 3) : ∀ (m i p : Nat) (w : List Nat) (cp : List Bool) (sd nm : Bool) (kn : Nat) (R : List Nat) (I : Nat → Nat → Int32) (v : Int32), i + m = 701 → tx I n T → p ≤ n → tvc n T p v → c_ro I → exW ru w cp sd nm I → exL q ru st kn R I → exN st kn w cp R →
    (∀ I' v', tvc n T (sy n T m p w cp sd nm kn R).2.1 v' → frx q ru st I I' → (sy n T m p w cp sd nm kn R).2.1 ≤ n → ((sy n T m p w cp sd nm kn R).1 = 0 → exL q ru st (sy n T m p w cp sd nm kn R).2.2.1 (sy n T m p w cp sd nm kn R).2.2.2 I') → Q (.int (nI (sy n T m p w cp sd nm kn R).1)) (am_hp N (rt, rs, t, q, 2, nt, nw, nf) (tK I' n T (sy n T m p w cp sd nm kn R).2.1 v') J)) →
    am_V (d + 12) Q 3 53 [some (.ref 46), some (.ref q), some (.int (nI ru)), some (.int (nI 0)), some (.int (nI i))] [] (am_hp N (rt, rs, t, q, 2, nt, nw, nf) (tK I n T p v) J) := by
  intro m
  induction m with
  | zero =>
    intro i p w cp sd nm kn R I v him hx hp hv hro hW hL hN hQ
    rw [e_Expression_read_53 hq, am_ifi (nI_ltI (by omega) (by omega)), if_pos (by omega)]
    exact hQ I v hv frx_re hp (fun _ => hL)
  | succ m ih =>
    intro i p w cp sd nm kn R I v him hx hp hv hro hW hL hN hQ
    have hk := (tk_pos (T := T) hx.1.1 hp).2.2.2.2.2
    have hW' := hW
    obtain ⟨w2, w4, w6, w7, w8, wW, wC⟩ := hW'
    have hL' := hL
    obtain ⟨l0, l1, l2, l3, l4⟩ := hL'
    obtain ⟨n1, n2, n3, n4, n5, n6⟩ := hN
    have hop := opc_le w
    have hlw : w.length ≤ 72 := by omega
    have stop : ∀ f I', f = 1 ∨ f = 2 → am_V (d + 12) Q 3 116 [some (.ref 46), some (.ref q), some (.int (nI ru)), some (.int (nI 0)), some (.int (nI i))] [.int (nI f)] (am_hp N (rt, rs, t, q, 2, nt, nw, nf) (tK I' n T p v) J) = Q (.int (nI f)) (am_hp N (rt, rs, t, q, 2, nt, nw, nf) (tK I' n T p v) J) := by
      intro f I' hf
      have hne : ¬ nI f = nI 0 := by rw [nI_eq (by omega) (by omega)]; omega
      rw [e_Expression_read_116 hq, am_ifn, if_neg hne, e_Expression_read_128 hq, e_Expression_read_53 hq, nI_add, am_ifi (nI_ltI (by omega) (by omega))]
      by_cases c : 700 < i + 1
      · rw [if_pos c]
      · rw [if_neg c, am_ifn, if_neg hne]
    have fail : ∀ f I', sy n T (m + 1) p w cp sd nm kn R = (f, p, kn, R) → f = 1 ∨ f = 2 → frx q ru st I I' → Q (.int (nI f)) (am_hp N (rt, rs, t, q, 2, nt, nw, nf) (tK I' n T p v) J) := by
      intro f I' hs hf hfr
      have := hQ I' v
      rw [hs] at this
      exact this hv hfr hp (fun g => by exfalso; have g' : f = 0 := g; omega)
    have next : ∀ I' w' cp' sd' nm' kn' R', sy n T (m + 1) p w cp sd nm kn R = sy n T m (tkE n T p) w' cp' sd' nm' kn' R' → frx q ru st I I' → exW ru w' cp' sd' nm' I' → exL q ru st kn' R' I' → exN st kn' w' cp' R' → am_V (d + 12) Q 3 116 [some (.ref 46), some (.ref q), some (.int (nI ru)), some (.int (nI 0)), some (.int (nI i))] [.int (nI 0)] (am_hp N (rt, rs, t, q, 2, nt, nw, nf) (tK I' n T p v) J) := by
      intro I' w' cp' sd' nm' kn' R' hs hfr hW2 hL2 hN2
      rw [e_Expression_read_116 hq, am_ifn, if_pos rfl]
      have hx2 := frx_tx hq hfr hx
      refine cl_adv hx2 hp ?_
      intro v' hv'
      rw [e_Expression_read_128 hq, nI_add]
      refine ih (i + 1) _ w' cp' sd' nm' kn' R' I' v' (by omega) hx2 (tkE_le hx hp) hv' (frx_ro hq hfr hro) hW2 hL2 hN2 ?_
      intro I2 v2 g1 g2 g3 g4
      have := hQ I2 v2
      rw [hs] at this
      exact this g1 (frx_tr hfr g2) g3 g4
    have go : ¬ (tkK n T p = 27 ∧ sd = false ∧ cp.length = 1) → am_if (decide (nI sd.toNat = nI 0)) (am_D (d + 12) 6 [.ref 46] (am_hp N (rt, rs, t, q, 2, nt, nw, nf) (tK I n T p v) J) (fun v h => am_asI v (fun y => am_V (d + 12) Q 3 116 [some (.ref 46), some (.ref q), some (.int (nI ru)), some (.int (nI 0)), some (.int (nI i))] [.int y] h))) (am_D (d + 12) 4 [.ref 46] (am_hp N (rt, rs, t, q, 2, nt, nw, nf) (tK I n T p v) J) (fun v h => am_asI v (fun y => am_V (d + 12) Q 3 109 [some (.ref 46), some (.ref q), some (.int (nI ru)), some (.int (nI 0)), some (.int (nI i))] [.int y] h))) := by
      intro h27
      have await : ∀ (k : Nat) (wx : List Nat) (cpx : List Bool) (nmx : Bool) (Rx : List Nat) (I1 : Nat → Nat → Int32) (Q2 : Value → am_H → Prop), k < 40 → k ≠ 28 → frx q ru st I I1 → exW ru wx cpx true nmx I1 → exL q ru st kn Rx I1 → (¬ 64 ≤ kn → wx.length < 72) →
          (64 ≤ kn → Q2 (.int (nI 2)) (am_hp N (rt, rs, t, q, 2, nt, nw, nf) (tK I1 n T p v) J)) →
          (¬ 64 ≤ kn → ∀ I2, frx q ru st I I2 → exW ru (k :: wx) cpx true nmx I2 → exL q ru st (kn + 1) Rx I2 → Q2 (.int (nI 0)) (am_hp N (rt, rs, t, q, 2, nt, nw, nf) (tK I2 n T p v) J)) →
          am_D (d + 11) 7 [.ref 46, .int (nI k)] (am_hp N (rt, rs, t, q, 2, nt, nw, nf) (tK I1 n T p v) J) Q2 := by
        intro k wx cpx nmx Rx I1 Q2 hk40 hk28 hfr hW1 hL1 hlx h64 hlt
        obtain ⟨a2, a4, a6, a7, a8, aW, aC⟩ := hW1
        have hL1' := hL1
        obtain ⟨b0, b1, b2, b3, b4⟩ := hL1'
        rw [e_Expression_await hq]
        try simp (config := {maxSteps := 1000000}) (disch := omega) only [nI_add, nI_1, am_mulN, nI_clamp, am_gI, am_ifd, am_ifn, am_asIe, am_asLe, nI_leI, nI_ltI, nI_eq, am_neg1, am_neg1b, tK_u, tK_o, tK_1, tK_2, tK_3, tK_4, tK_5, am_uE, am_uN, b0, a4]
        by_cases c : 64 ≤ kn
        · rw [if_pos c]; exact h64 c
        · rw [if_neg c, if_pos (hlx c)]
          refine hlt c _ (frx_tr hfr (frx_tr (frx_u hq (by omega)) (frx_tr (frx_u hq (by omega)) (frx_u hq (by omega))))) ⟨?_, ?_, ?_, ?_, ?_, ⟨?_, ?_⟩, ?_⟩ ⟨?_, ?_, ?_, ?_, ?_⟩
          · try simp (config := {maxSteps := 1000000}) (disch := omega) only [nI_add, nI_1, am_mulN, nI_clamp, am_gI, am_ifd, am_ifn, am_asIe, am_asLe, nI_leI, nI_ltI, nI_eq, am_neg1, am_neg1b, tK_u, tK_o, tK_1, tK_2, tK_3, tK_4, tK_5, am_uE, am_uN, a2]
          · try simp (config := {maxSteps := 1000000}) (disch := omega) only [nI_add, nI_1, am_mulN, nI_clamp, am_gI, am_ifd, am_ifn, am_asIe, am_asLe, nI_leI, nI_ltI, nI_eq, am_neg1, am_neg1b, tK_u, tK_o, tK_1, tK_2, tK_3, tK_4, tK_5, am_uE, am_uN]
            rfl
          · try simp (config := {maxSteps := 1000000}) (disch := omega) only [nI_add, nI_1, am_mulN, nI_clamp, am_gI, am_ifd, am_ifn, am_asIe, am_asLe, nI_leI, nI_ltI, nI_eq, am_neg1, am_neg1b, tK_u, tK_o, tK_1, tK_2, tK_3, tK_4, tK_5, am_uE, am_uN, a6]
          · try simp (config := {maxSteps := 1000000}) (disch := omega) only [nI_add, nI_1, am_mulN, nI_clamp, am_gI, am_ifd, am_ifn, am_asIe, am_asLe, nI_leI, nI_ltI, nI_eq, am_neg1, am_neg1b, tK_u, tK_o, tK_1, tK_2, tK_3, tK_4, tK_5, am_uE, am_uN, a7]
          · try simp (config := {maxSteps := 1000000}) (disch := omega) only [nI_add, nI_1, am_mulN, nI_clamp, am_gI, am_ifd, am_ifn, am_asIe, am_asLe, nI_leI, nI_ltI, nI_eq, am_neg1, am_neg1b, tK_u, tK_o, tK_1, tK_2, tK_3, tK_4, tK_5, am_uE, am_uN, a8]
          · try simp (config := {maxSteps := 1000000}) (disch := omega) only [nI_add, nI_1, am_mulN, nI_clamp, am_gI, am_ifd, am_ifn, am_asIe, am_asLe, nI_leI, nI_ltI, nI_eq, am_neg1, am_neg1b, tK_u, tK_o, tK_1, tK_2, tK_3, tK_4, tK_5, am_uE, am_uN]
          · exact wrl_c (fun j hj => by try simp (config := {maxSteps := 1000000}) (disch := omega) only [nI_add, nI_1, am_mulN, nI_clamp, am_gI, am_ifd, am_ifn, am_asIe, am_asLe, nI_leI, nI_ltI, nI_eq, am_neg1, am_neg1b, tK_u, tK_o, tK_1, tK_2, tK_3, tK_4, tK_5, am_uE, am_uN]) aW
          · exact cpl_c (fun j hj => by try simp (config := {maxSteps := 1000000}) (disch := omega) only [nI_add, nI_1, am_mulN, nI_clamp, am_gI, am_ifd, am_ifn, am_asIe, am_asLe, nI_leI, nI_ltI, nI_eq, am_neg1, am_neg1b, tK_u, tK_o, tK_1, tK_2, tK_3, tK_4, tK_5, am_uE, am_uN]) aC
          · try simp (config := {maxSteps := 1000000}) (disch := omega) only [nI_add, nI_1, am_mulN, nI_clamp, am_gI, am_ifd, am_ifn, am_asIe, am_asLe, nI_leI, nI_ltI, nI_eq, am_neg1, am_neg1b, tK_u, tK_o, tK_1, tK_2, tK_3, tK_4, tK_5, am_uE, am_uN]
          · try simp (config := {maxSteps := 1000000}) (disch := omega) only [nI_add, nI_1, am_mulN, nI_clamp, am_gI, am_ifd, am_ifn, am_asIe, am_asLe, nI_leI, nI_ltI, nI_eq, am_neg1, am_neg1b, tK_u, tK_o, tK_1, tK_2, tK_3, tK_4, tK_5, am_uE, am_uN, b1]
          · exact rwl_c (fun j hj => by try simp (config := {maxSteps := 1000000}) (disch := omega) only [nI_add, nI_1, am_mulN, nI_clamp, am_gI, am_ifd, am_ifn, am_asIe, am_asLe, nI_leI, nI_ltI, nI_eq, am_neg1, am_neg1b, tK_u, tK_o, tK_1, tK_2, tK_3, tK_4, tK_5, am_uE, am_uN]) b2
          · try simp (config := {maxSteps := 1000000}) (disch := omega) only [nI_add, nI_1, am_mulN, nI_clamp, am_gI, am_ifd, am_ifn, am_asIe, am_asLe, nI_leI, nI_ltI, nI_eq, am_neg1, am_neg1b, tK_u, tK_o, tK_1, tK_2, tK_3, tK_4, tK_5, am_uE, am_uN, b3]
          · try simp (config := {maxSteps := 1000000}) (disch := omega) only [nI_add, nI_1, am_mulN, nI_clamp, am_gI, am_ifd, am_ifn, am_asIe, am_asLe, nI_leI, nI_ltI, nI_eq, am_neg1, am_neg1b, tK_u, tK_o, tK_1, tK_2, tK_3, tK_4, tK_5, am_uE, am_uN, b4]
      cases sd with
      | true =>
        rw [am_ifd, if_neg nt0, e_Expression_readSide]
        try simp (config := {maxSteps := 1000000}) (disch := omega) only [nI_add, nI_1, am_mulN, nI_clamp, am_gI, am_ifd, am_ifn, am_asIe, am_asLe, nI_leI, nI_ltI, nI_eq, am_neg1, am_neg1b, tK_u, tK_o, tK_1, tK_2, tK_3, tK_4, tK_5, am_uE, am_uN, w8]
        have v38 : ¬ tkK n T p = 28 → ¬ (tkK n T p = 19 ∧ nm = true) → am_V (d + 11) (fun v h => am_asI v (fun y => am_V (d + 12) Q 3 109 [some (.ref 46), some (.ref q), some (.int (nI ru)), some (.int (nI 0)), some (.int (nI i))] [.int y] h)) 4 38 [some (.ref 46), some (.int (nI (tkK n T p))), none] [] (am_hp N (rt, rs, t, q, 2, nt, nw, nf) (tK I n T p v) J) := by
          intro c28 c19
          have v65 : ∀ x2, (tkK n T p ≠ 2 ∧ (tkK n T p < 20 ∨ 26 < tkK n T p)) → am_V (d + 11) (fun v h => am_asI v (fun y => am_V (d + 12) Q 3 109 [some (.ref 46), some (.ref q), some (.int (nI ru)), some (.int (nI 0)), some (.int (nI i))] [.int y] h)) 4 65 [some (.ref 46), some (.int (nI (tkK n T p))), some (.int x2)] [] (am_hp N (rt, rs, t, q, 2, nt, nw, nf) (tK I n T p v) J) := by
            intro x2 hc
            rw [e_Expression_readSide_65, am_asIe, e_Expression_read_109 hq, stop 1 I (by omega)]
            exact fail 1 I (sy_mis c28 c19 hc) (by omega) frx_re
          have v96 : ∀ x2, ¬ (tkK n T p ≠ 2 ∧ (tkK n T p < 20 ∨ 26 < tkK n T p)) → ((tkK n T p = 2 ∧ 9999 < tkV n T p) ∨ 64 ≤ kn) → am_V (d + 11) (fun v h => am_asI v (fun y => am_V (d + 12) Q 3 109 [some (.ref 46), some (.ref q), some (.int (nI ru)), some (.int (nI 0)), some (.int (nI i))] [.int y] h)) 4 96 [some (.ref 46), some (.int (nI (tkK n T p))), some (.int x2)] [] (am_hp N (rt, rs, t, q, 2, nt, nw, nf) (tK I n T p v) J) := by
            intro x2 hc hc2
            rw [e_Expression_readSide_96, am_asIe, e_Expression_read_109 hq, stop 2 I (by omega)]
            exact fail 2 I (sy_muc c28 c19 hc hc2) (by omega) frx_re
          have wrt : ∀ x x2 (c1 : ¬ (tkK n T p ≠ 2 ∧ (tkK n T p < 20 ∨ 26 < tkK n T p))) (c2 : ¬ ((tkK n T p = 2 ∧ 9999 < tkV n T p) ∨ 64 ≤ kn)), x = (if tkK n T p = 2 then tkV n T p else 10000 + tkK n T p) → x < 10040 → am_D (d + 11) 15 [.ref q, .int (nI ru), .int (nI x)] (am_hp N (rt, rs, t, q, 2, nt, nw, nf) (tK (am_u I q 0 (nI (kn + 1))) n T p v) J) (fun _ h => am_V (d + 11) (fun v h => am_asI v (fun y => am_V (d + 12) Q 3 109 [some (.ref 46), some (.ref q), some (.int (nI ru)), some (.int (nI 0)), some (.int (nI i))] [.int y] h)) 4 141 [some (.ref 46), some (.int (nI (tkK n T p))), some (.int x2)] [] h) := by
            intro x x2 c1 c2 hxe hx40
            have hsy := sy_side (n := n) (T := T) (m := m) (p := p) (w := w) (cp := cp) (nm := nm) (kn := kn) (R := R) c28 c19 c1 c2
            rw [← hxe] at hsy
            have hL3 : exL q ru st (kn + 1) R (tK (am_u I q 0 (nI (kn + 1))) n T p v) := by
              refine ⟨?_, ?_, rwl_c (fun j hj => by try simp (config := {maxSteps := 1000000}) (disch := omega) only [nI_add, nI_1, am_mulN, nI_clamp, am_gI, am_ifd, am_ifn, am_asIe, am_asLe, nI_leI, nI_ltI, nI_eq, am_neg1, am_neg1b, tK_u, tK_o, tK_1, tK_2, tK_3, tK_4, tK_5, am_uE, am_uN]) l2, ?_, ?_⟩
              · try simp (config := {maxSteps := 1000000}) (disch := omega) only [nI_add, nI_1, am_mulN, nI_clamp, am_gI, am_ifd, am_ifn, am_asIe, am_asLe, nI_leI, nI_ltI, nI_eq, am_neg1, am_neg1b, tK_u, tK_o, tK_1, tK_2, tK_3, tK_4, tK_5, am_uE, am_uN]
              · try simp (config := {maxSteps := 1000000}) (disch := omega) only [nI_add, nI_1, am_mulN, nI_clamp, am_gI, am_ifd, am_ifn, am_asIe, am_asLe, nI_leI, nI_ltI, nI_eq, am_neg1, am_neg1b, tK_u, tK_o, tK_1, tK_2, tK_3, tK_4, tK_5, am_uE, am_uN, l1]
              · try simp (config := {maxSteps := 1000000}) (disch := omega) only [nI_add, nI_1, am_mulN, nI_clamp, am_gI, am_ifd, am_ifn, am_asIe, am_asLe, nI_leI, nI_ltI, nI_eq, am_neg1, am_neg1b, tK_u, tK_o, tK_1, tK_2, tK_3, tK_4, tK_5, am_uE, am_uN, l3]
              · try simp (config := {maxSteps := 1000000}) (disch := omega) only [nI_add, nI_1, am_mulN, nI_clamp, am_gI, am_ifd, am_ifn, am_asIe, am_asLe, nI_leI, nI_ltI, nI_eq, am_neg1, am_neg1b, tK_u, tK_o, tK_1, tK_2, tK_3, tK_4, tK_5, am_uE, am_uN, l4]
            have hro3 : c_ro (tK (am_u I q 0 (nI (kn + 1))) n T p v) := by unfold c_ro; rw [tK_row (by omega), tK_row (by omega), am_uRow (by omega), am_uRow (by omega)]; exact hro
            refine s_write hq hro3 hru hx40 hL3 (by omega) ?_
            intro I2 g1 g2 g3
            have eI : tK I2 n T p v = I2 := tK_re (g3 44 (by omega) (by omega) (by omega) (by omega))
            rw [← eI, e_Expression_readSide_141, am_asIe, e_Expression_read_109 hq, tK_u (by omega)]
            refine next (am_u I2 46 7 (nI 0)) _ _ _ _ _ _ hsy ?_ ⟨?_, ?_, ?_, ?_, ?_, ?_, ?_⟩ (exL_c (fun a h => am_uRow (by omega)) g1) ⟨by omega, ?_, n3, n4, n5, n6⟩
            · refine frx_tr (I' := am_u I q 0 (nI (kn + 1))) (frx_u hq (by omega)) (frx_tr (I' := I2) ⟨fun a h1 h2 h3 h4 h5 h6 h7 h8 => ?_, fun j hj => ?_, fun j hj => ⟨?_, ?_⟩⟩ (frx_u hq (by omega)))
              · rw [g2.1 a h1 h2 h3 h4 h5 h6 h7 h8, tK_row h1]
              · rw [g2.2.1 j hj, tK_o (by omega)]
              · rw [(g2.2.2 j hj).1, tK_o (by omega)]
              · rw [(g2.2.2 j hj).2, tK_o (by omega)]
            · rw [am_uN (by omega), g3 46 (by omega) (by omega) (by omega) (by omega)]; try simp (config := {maxSteps := 1000000}) (disch := omega) only [nI_add, nI_1, am_mulN, nI_clamp, am_gI, am_ifd, am_ifn, am_asIe, am_asLe, nI_leI, nI_ltI, nI_eq, am_neg1, am_neg1b, tK_u, tK_o, tK_1, tK_2, tK_3, tK_4, tK_5, am_uE, am_uN, w2]
            · rw [am_uN (by omega), g3 46 (by omega) (by omega) (by omega) (by omega)]; try simp (config := {maxSteps := 1000000}) (disch := omega) only [nI_add, nI_1, am_mulN, nI_clamp, am_gI, am_ifd, am_ifn, am_asIe, am_asLe, nI_leI, nI_ltI, nI_eq, am_neg1, am_neg1b, tK_u, tK_o, tK_1, tK_2, tK_3, tK_4, tK_5, am_uE, am_uN, w4]
            · rw [am_uN (by omega), g3 46 (by omega) (by omega) (by omega) (by omega)]; try simp (config := {maxSteps := 1000000}) (disch := omega) only [nI_add, nI_1, am_mulN, nI_clamp, am_gI, am_ifd, am_ifn, am_asIe, am_asLe, nI_leI, nI_ltI, nI_eq, am_neg1, am_neg1b, tK_u, tK_o, tK_1, tK_2, tK_3, tK_4, tK_5, am_uE, am_uN, w6]
            · rw [am_uE]; rfl
            · rw [am_uN (by omega), g3 46 (by omega) (by omega) (by omega) (by omega)]; try simp (config := {maxSteps := 1000000}) (disch := omega) only [nI_add, nI_1, am_mulN, nI_clamp, am_gI, am_ifd, am_ifn, am_asIe, am_asLe, nI_leI, nI_ltI, nI_eq, am_neg1, am_neg1b, tK_u, tK_o, tK_1, tK_2, tK_3, tK_4, tK_5, am_uE, am_uN, w8]
            · exact wrl_c (fun j hj => by rw [am_uN (by omega), g3 47 (by omega) (by omega) (by omega) (by omega)]; try simp (config := {maxSteps := 1000000}) (disch := omega) only [nI_add, nI_1, am_mulN, nI_clamp, am_gI, am_ifd, am_ifn, am_asIe, am_asLe, nI_leI, nI_ltI, nI_eq, am_neg1, am_neg1b, tK_u, tK_o, tK_1, tK_2, tK_3, tK_4, tK_5, am_uE, am_uN]) wW
            · exact cpl_c (fun j hj => by rw [am_uN (by omega), g3 48 (by omega) (by omega) (by omega) (by omega)]; try simp (config := {maxSteps := 1000000}) (disch := omega) only [nI_add, nI_1, am_mulN, nI_clamp, am_gI, am_ifd, am_ifn, am_asIe, am_asLe, nI_leI, nI_ltI, nI_eq, am_neg1, am_neg1b, tK_u, tK_o, tK_1, tK_2, tK_3, tK_4, tK_5, am_uE, am_uN]) wC
            · show st + (R.length + 1) + opc w = kn + 1
              omega
          have v84 : ∀ b : Bool, b = decide (tkK n T p = 2) → (¬ (tkK n T p ≠ 2 ∧ (tkK n T p < 20 ∨ 26 < tkK n T p))) → ¬ (tkK n T p = 2 ∧ 9999 < tkV n T p) → am_V (d + 11) (fun v h => am_asI v (fun y => am_V (d + 12) Q 3 109 [some (.ref 46), some (.ref q), some (.int (nI ru)), some (.int (nI 0)), some (.int (nI i))] [.int y] h)) 4 84 [some (.ref 46), some (.int (nI (tkK n T p))), some (.int (nI b.toNat))] [] (am_hp N (rt, rs, t, q, 2, nt, nw, nf) (tK I n T p v) J) := by
            intro b hb c1 c2
            rw [e_Expression_readSide_84 hq]
            try simp (config := {maxSteps := 1000000}) (disch := omega) only [nI_add, nI_1, am_mulN, nI_clamp, am_gI, am_ifd, am_ifn, am_asIe, am_asLe, nI_leI, nI_ltI, nI_eq, am_neg1, am_neg1b, tK_u, tK_o, tK_1, tK_2, tK_3, tK_4, tK_5, am_uE, am_uN, l0, w2]
            by_cases c64 : kn < 64
            · rw [if_pos c64]
              by_cases ck : tkK n T p = 2
              · rw [decide_eq_true ck] at hb
                subst hb
                have hvv := hv.1 ck
                rw [if_neg nt0, hvv, show min (tkV n T p) 1000000 = tkV n T p by omega]
                rw [hvv, show min (tkV n T p) 1000000 = tkV n T p by omega] at wrt
                exact wrt _ _ c1 (by omega) (by rw [if_pos ck]) (by omega)
              · rw [decide_eq_false ck] at hb
                subst hb
                rw [if_pos nf0]
                exact wrt _ _ c1 (by omega) (by rw [if_neg ck]) (by omega)
            · rw [if_neg c64]
              exact v96 _ c1 (by omega)
          rw [e_Expression_readSide_38, am_ifni (nI_eq (by omega) (by omega))]
          by_cases ck : tkK n T p = 2
          · rw [if_pos ck, e_Expression_readSide_49, am_ifn, if_neg n10, e_Expression_readSide_67, am_ifd, if_neg n10, tK_5]
            have hvv := hv.1 ck
            have q1 : nI 9999 < v ↔ 9999 < tkV n T p := by rw [hvv, nI_ltI (by omega) (by omega)]; omega
            rw [am_ifi q1]
            by_cases c9 : 9999 < tkV n T p
            · rw [if_pos c9]
              exact v96 _ (by omega) (by omega)
            · rw [if_neg c9]
              exact v84 true (by rw [decide_eq_true ck]) (by omega) (by omega)
          · rw [if_neg ck, e_Expression_readSide_49, am_ifn, if_pos rfl, am_ifi (nI_ltI (by omega) (by omega)), am_ifi (nI_leI (by omega) (by omega))]
            by_cases c20 : tkK n T p < 20
            · rw [if_pos c20]; exact v65 _ (by omega)
            · rw [if_neg c20]
              by_cases c26 : tkK n T p ≤ 26
              · rw [if_pos c26, e_Expression_readSide_67, am_ifd, if_pos rfl]
                exact v84 false (by rw [decide_eq_false ck]) (by omega) (by omega)
              · rw [if_neg c26]; exact v65 _ (by omega)
        by_cases c28 : tkK n T p = 28
        · rw [if_pos c28, e_Expression_readOpen]
          try simp (config := {maxSteps := 1000000}) (disch := omega) only [nI_add, nI_1, am_mulN, nI_clamp, am_gI, am_ifd, am_ifn, am_asIe, am_asLe, nI_leI, nI_ltI, nI_eq, am_neg1, am_neg1b, tK_u, tK_o, tK_1, tK_2, tK_3, tK_4, tK_5, am_uE, am_uN, w6, w4]
          by_cases c9 : 9 ≤ cp.length
          · rw [if_pos (by omega), e_Expression_readSide_18, am_asIe, e_Expression_read_109 hq, stop 2 I (by omega)]
            exact fail 2 I (sy_openF c28 c9) (by omega) frx_re
          · rw [if_neg (by omega), if_pos (by omega), show cp.length - 1 + 1 = cp.length by omega]
            try simp (config := {maxSteps := 1000000}) (disch := omega) only [nI_add, nI_1, am_mulN, nI_clamp, am_gI, am_ifd, am_ifn, am_asIe, am_asLe, nI_leI, nI_ltI, nI_eq, am_neg1, am_neg1b, tK_u, tK_o, tK_1, tK_2, tK_3, tK_4, tK_5, am_uE, am_uN]
            rw [e_Expression_readSide_18, am_asIe, e_Expression_read_109 hq]
            refine next _ _ _ _ _ _ _ (sy_open c28 (by omega)) (frx_tr (frx_u hq (by omega)) (frx_tr (frx_u hq (by omega)) (frx_tr (frx_u hq (by omega)) (frx_tr (frx_u hq (by omega)) (frx_u hq (by omega)))))) ⟨?_, ?_, ?_, ?_, ?_, ⟨?_, ?_⟩, ⟨?_, ?_⟩⟩ (exL_c (fun a h => by rw [am_uRow (by omega), am_uRow (by omega), am_uRow (by omega), am_uRow (by omega), am_uRow (by omega)]) hL) ⟨n1, ?_, ?_, ?_, ?_, ?_⟩
            · try simp (config := {maxSteps := 1000000}) (disch := omega) only [nI_add, nI_1, am_mulN, nI_clamp, am_gI, am_ifd, am_ifn, am_asIe, am_asLe, nI_leI, nI_ltI, nI_eq, am_neg1, am_neg1b, tK_u, tK_o, tK_1, tK_2, tK_3, tK_4, tK_5, am_uE, am_uN, w2]
            · try simp (config := {maxSteps := 1000000}) (disch := omega) only [nI_add, nI_1, am_mulN, nI_clamp, am_gI, am_ifd, am_ifn, am_asIe, am_asLe, nI_leI, nI_ltI, nI_eq, am_neg1, am_neg1b, tK_u, tK_o, tK_1, tK_2, tK_3, tK_4, tK_5, am_uE, am_uN]
              rfl
            · try simp (config := {maxSteps := 1000000}) (disch := omega) only [nI_add, nI_1, am_mulN, nI_clamp, am_gI, am_ifd, am_ifn, am_asIe, am_asLe, nI_leI, nI_ltI, nI_eq, am_neg1, am_neg1b, tK_u, tK_o, tK_1, tK_2, tK_3, tK_4, tK_5, am_uE, am_uN]
              rfl
            · try simp (config := {maxSteps := 1000000}) (disch := omega) only [nI_add, nI_1, am_mulN, nI_clamp, am_gI, am_ifd, am_ifn, am_asIe, am_asLe, nI_leI, nI_ltI, nI_eq, am_neg1, am_neg1b, tK_u, tK_o, tK_1, tK_2, tK_3, tK_4, tK_5, am_uE, am_uN, w7]
            · try simp (config := {maxSteps := 1000000}) (disch := omega) only [nI_add, nI_1, am_mulN, nI_clamp, am_gI, am_ifd, am_ifn, am_asIe, am_asLe, nI_leI, nI_ltI, nI_eq, am_neg1, am_neg1b, tK_u, tK_o, tK_1, tK_2, tK_3, tK_4, tK_5, am_uE, am_uN]
              rfl
            · try simp (config := {maxSteps := 1000000}) (disch := omega) only [nI_add, nI_1, am_mulN, nI_clamp, am_gI, am_ifd, am_ifn, am_asIe, am_asLe, nI_leI, nI_ltI, nI_eq, am_neg1, am_neg1b, tK_u, tK_o, tK_1, tK_2, tK_3, tK_4, tK_5, am_uE, am_uN]
            · exact wrl_c (fun j hj => by try simp (config := {maxSteps := 1000000}) (disch := omega) only [nI_add, nI_1, am_mulN, nI_clamp, am_gI, am_ifd, am_ifn, am_asIe, am_asLe, nI_leI, nI_ltI, nI_eq, am_neg1, am_neg1b, tK_u, tK_o, tK_1, tK_2, tK_3, tK_4, tK_5, am_uE, am_uN]) wW
            · try simp (config := {maxSteps := 1000000}) (disch := omega) only [nI_add, nI_1, am_mulN, nI_clamp, am_gI, am_ifd, am_ifn, am_asIe, am_asLe, nI_leI, nI_ltI, nI_eq, am_neg1, am_neg1b, tK_u, tK_o, tK_1, tK_2, tK_3, tK_4, tK_5, am_uE, am_uN]
              rfl
            · exact cpl_c (fun j hj => by try simp (config := {maxSteps := 1000000}) (disch := omega) only [nI_add, nI_1, am_mulN, nI_clamp, am_gI, am_ifd, am_ifn, am_asIe, am_asLe, nI_leI, nI_ltI, nI_eq, am_neg1, am_neg1b, tK_u, tK_o, tK_1, tK_2, tK_3, tK_4, tK_5, am_uE, am_uN]) wC
            · show st + R.length + (0 + opc w) = kn
              omega
            · show w.length + 1 = (0 + opc w) + (cp.length + 1 - 1)
              omega
            · show 1 ≤ cp.length + 1
              omega
            · show cp.length + 1 ≤ 9
              omega
            · intro k hk
              rcases List.mem_cons.mp hk with rfl | hk
              · omega
              · exact n6 k hk
        · rw [if_neg c28]
          by_cases c19 : tkK n T p = 19
          · rw [if_pos c19]
            cases nm with
            | false =>
              rw [if_pos nf0]
              have := v38 c28 (by simp)
              exact this
            | true =>
              rw [if_neg nt0]
              rw [c19]
              refine await 19 w cp true R I _ (by omega) (by omega) frx_re hW hL (fun _ => by omega) ?_ ?_
              · intro c64
                rw [am_asIe, e_Expression_readSide_37, am_asIe, e_Expression_read_109 hq, stop 2 I (by omega)]
                exact fail 2 I (sy_notF c19 c64) (by omega) frx_re
              · intro c64 I2 g1 g2 g3
                rw [am_asIe, e_Expression_readSide_37, am_asIe, e_Expression_read_109 hq]
                refine next I2 _ _ _ _ _ _ (sy_not c19 (by omega)) g1 g2 g3 ⟨by omega, ?_, ?_, n4, n5, ?_⟩
                · show st + R.length + (1 + opc w) = kn + 1
                  omega
                · show w.length + 1 = (1 + opc w) + (cp.length - 1)
                  omega
                · intro k hk
                  rcases List.mem_cons.mp hk with rfl | hk
                  · omega
                  · exact n6 k hk
          · rw [if_neg c19]
            exact v38 c28 (by omega)
      | false =>
        have h27' : ¬ (tkK n T p = 27 ∧ cp.length = 1) := fun g => h27 ⟨g.1, rfl, g.2⟩
        rw [am_ifd, if_pos nf0, e_Expression_readSign]
        try simp (config := {maxSteps := 1000000}) (disch := omega) only [nI_add, nI_1, am_mulN, nI_clamp, am_gI, am_ifd, am_ifn, am_asIe, am_asLe, nI_leI, nI_ltI, nI_eq, am_neg1, am_neg1b, tK_u, tK_o, tK_1, tK_2, tK_3, tK_4, tK_5, am_uE, am_uN, w6]
        have v52 : ¬ (tkK n T p = 29 ∧ 1 < cp.length) → am_D (d + 11) 9 [.int (nI (tkK n T p))] (am_hp N (rt, rs, t, q, 2, nt, nw, nf) (tK I n T p v) J) (fun v h => am_asI v (fun y => am_V (d + 11) (fun v h => am_asI v (fun y => am_V (d + 12) Q 3 116 [some (.ref 46), some (.ref q), some (.int (nI ru)), some (.int (nI 0)), some (.int (nI i))] [.int y] h)) 6 52 [some (.ref 46), some (.int (nI (tkK n T p))), none, none] [.int y] h)) := by
          intro c29
          have hb8 := bnd_lt (tkK n T p)
          rw [s_binding hk, am_asIe, e_Expression_readSign_52]
          have mis : (bnd (tkK n T p) = 0 ∨ tkK n T p = 19 ∨ (bnd (tkK n T p) = 4 ∧ hdb cp = true)) → am_asI (.int (nI 1)) (fun y => am_V (d + 12) Q 3 116 [some (.ref 46), some (.ref q), some (.int (nI ru)), some (.int (nI 0)), some (.int (nI i))] [.int y] (am_hp N (rt, rs, t, q, 2, nt, nw, nf) (tK I n T p v) J)) := by
            intro hc
            rw [am_asIe, stop 1 I (by omega)]
            exact fail 1 I (sy_sgM h27' c29 hc) (by omega) frx_re
          obtain ⟨c0, cr, hcp⟩ : ∃ c0 cr, cp = c0 :: cr := by
            cases cp with
            | nil => exact absurd n4 (by decide)
            | cons a b => exact ⟨a, b, rfl⟩
          subst hcp
          have wC0 : I 48 cr.length = nI c0.toNat := wC.1
          have hcl : (c0 :: cr).length = cr.length + 1 := rfl
          have set : ∀ x3, ¬ (bnd (tkK n T p) = 0 ∨ tkK n T p = 19 ∨ (bnd (tkK n T p) = 4 ∧ c0 = true)) → x3 = (decide (bnd (tkK n T p) = 4)).toNat → am_D (d + 11) 8 [.ref 46, .int (nI (bnd (tkK n T p)))] (am_hp N (rt, rs, t, q, 2, nt, nw, nf) (tK I n T p v) J) (fun _ h => am_V (d + 11) (fun v h => am_asI v (fun y => am_V (d + 12) Q 3 116 [some (.ref 46), some (.ref q), some (.int (nI ru)), some (.int (nI 0)), some (.int (nI i))] [.int y] h)) 6 97 [some (.ref 46), some (.int (nI (tkK n T p))), some (.int (nI (bnd (tkK n T p)))), some (.int (nI x3))] [] h) := by
            intro x3 hc hx3
            have e0 : ∀ Q2 : Value → am_H → Prop, am_D (d + 11) 8 [.ref 46, .int (nI (bnd (tkK n T p)))] (am_hp N (rt, rs, t, q, 2, nt, nw, nf) (tK I n T p v) J) Q2 = am_V (d + 10) Q2 8 0 [some (.ref 46), some (.int (nI (bnd (tkK n T p))))] [] (am_hp N (rt, rs, t, q, 2, nt, nw, nf) (tK I n T p v) J) := fun _ => rfl
            rw [e0]
            refine s_settle hq hru hb8 hro hW hL (by omega) hlw n6 ?_
            intro I1 g1 g2 g3 g4
            obtain ⟨p1, p2, p3, p4⟩ := @stl_p (bnd (tkK n T p)) w R
            have hop1 := opc_le (stl (bnd (tkK n T p)) w R).1
            obtain ⟨a2, a4, a6, a7, a8, aW, aC⟩ := g1
            have aC0 : I1 48 cr.length = nI c0.toNat := aC.1
            have a6' : I1 46 6 = nI cr.length := a6
            have fin : ∀ I2 b1 b2, b1 = (decide (bnd (tkK n T p) = 4) || (c0 && decide (4 < bnd (tkK n T p)))) → b2 = decide (bnd (tkK n T p) < 4) → I2 = am_u (am_u (am_u I1 48 cr.length (nI b1.toNat)) 46 7 (nI 1)) 46 8 (nI b2.toNat) → am_D (d + 11) 7 [.ref 46, .int (nI (tkK n T p))] (am_hp N (rt, rs, t, q, 2, nt, nw, nf) (tK I2 n T p v) J) (fun v h => am_asI v (fun y => am_V (d + 11) (fun v h => am_asI v (fun y => am_V (d + 12) Q 3 116 [some (.ref 46), some (.ref q), some (.int (nI ru)), some (.int (nI 0)), some (.int (nI i))] [.int y] h)) 6 156 [some (.ref 46), some (.int (nI (tkK n T p))), some (.int (nI (bnd (tkK n T p)))), some (.int (nI x3))] [.int y] h)) := by
              intro I2 b1 b2 hb1 hb2 hI2
              have f2 : frx q ru st I I2 := by rw [hI2]; exact frx_tr g3 (frx_tr (frx_u hq (by omega)) (frx_tr (frx_u hq (by omega)) (frx_u hq (by omega))))
              have hk28 : tkK n T p ≠ 28 := fun g => hc (Or.inl (by rw [g]; rfl))
              refine await (tkK n T p) (stl (bnd (tkK n T p)) w R).1 (b1 :: cr) b2 (stl (bnd (tkK n T p)) w R).2 I2 _ hk hk28 f2 ?_ (exL_c (fun a h => by rw [hI2, am_uRow (by omega), am_uRow (by omega), am_uRow (by omega)]) g2) ?_ ?_ ?_
              · rw [hI2]
                refine ⟨?_, ?_, ?_, ?_, ?_, ?_, ?_, ?_⟩
                · try simp (config := {maxSteps := 1000000}) (disch := omega) only [nI_add, nI_1, am_mulN, nI_clamp, am_gI, am_ifd, am_ifn, am_asIe, am_asLe, nI_leI, nI_ltI, nI_eq, am_neg1, am_neg1b, tK_u, tK_o, tK_1, tK_2, tK_3, tK_4, tK_5, am_uE, am_uN, a2]
                · try simp (config := {maxSteps := 1000000}) (disch := omega) only [nI_add, nI_1, am_mulN, nI_clamp, am_gI, am_ifd, am_ifn, am_asIe, am_asLe, nI_leI, nI_ltI, nI_eq, am_neg1, am_neg1b, tK_u, tK_o, tK_1, tK_2, tK_3, tK_4, tK_5, am_uE, am_uN, a4]
                · try simp (config := {maxSteps := 1000000}) (disch := omega) only [nI_add, nI_1, am_mulN, nI_clamp, am_gI, am_ifd, am_ifn, am_asIe, am_asLe, nI_leI, nI_ltI, nI_eq, am_neg1, am_neg1b, tK_u, tK_o, tK_1, tK_2, tK_3, tK_4, tK_5, am_uE, am_uN, a6']
                  rfl
                · try simp (config := {maxSteps := 1000000}) (disch := omega) only [nI_add, nI_1, am_mulN, nI_clamp, am_gI, am_ifd, am_ifn, am_asIe, am_asLe, nI_leI, nI_ltI, nI_eq, am_neg1, am_neg1b, tK_u, tK_o, tK_1, tK_2, tK_3, tK_4, tK_5, am_uE, am_uN]
                  rfl
                · try simp (config := {maxSteps := 1000000}) (disch := omega) only [nI_add, nI_1, am_mulN, nI_clamp, am_gI, am_ifd, am_ifn, am_asIe, am_asLe, nI_leI, nI_ltI, nI_eq, am_neg1, am_neg1b, tK_u, tK_o, tK_1, tK_2, tK_3, tK_4, tK_5, am_uE, am_uN]
                · exact wrl_c (fun j hj => by try simp (config := {maxSteps := 1000000}) (disch := omega) only [nI_add, nI_1, am_mulN, nI_clamp, am_gI, am_ifd, am_ifn, am_asIe, am_asLe, nI_leI, nI_ltI, nI_eq, am_neg1, am_neg1b, tK_u, tK_o, tK_1, tK_2, tK_3, tK_4, tK_5, am_uE, am_uN]) aW
                · try simp (config := {maxSteps := 1000000}) (disch := omega) only [nI_add, nI_1, am_mulN, nI_clamp, am_gI, am_ifd, am_ifn, am_asIe, am_asLe, nI_leI, nI_ltI, nI_eq, am_neg1, am_neg1b, tK_u, tK_o, tK_1, tK_2, tK_3, tK_4, tK_5, am_uE, am_uN]
                · exact cpl_c (fun j hj => by try simp (config := {maxSteps := 1000000}) (disch := omega) only [nI_add, nI_1, am_mulN, nI_clamp, am_gI, am_ifd, am_ifn, am_asIe, am_asLe, nI_leI, nI_ltI, nI_eq, am_neg1, am_neg1b, tK_u, tK_o, tK_1, tK_2, tK_3, tK_4, tK_5, am_uE, am_uN]) aC.2
              · intro c64; omega
              · intro c64
                rw [am_asIe, e_Expression_readSign_156, am_asIe, stop 2 I2 (by omega)]
                exact fail 2 I2 (sy_sgF h27' c29 hc c64) (by omega) f2
              · intro c64 I3 k1 k2 k3
                rw [am_asIe, e_Expression_readSign_156, am_asIe]
                have hsy := sy_sg (n := n) (T := T) (m := m) (p := p) (w := w) (cp := c0 :: cr) (nm := nm) (kn := kn) (R := R) h27' c29 hc c64
                rw [show hdb (c0 :: cr) = c0 from rfl, ← hb1, ← hb2, show (c0 :: cr).tail = cr from rfl] at hsy
                refine next I3 _ _ _ _ _ _ hsy k1 k2 k3 ⟨by omega, ?_, ?_, n4, n5, ?_⟩
                · show st + (stl (bnd (tkK n T p)) w R).2.length + ((if tkK n T p = 28 then 0 else 1) + opc (stl (bnd (tkK n T p)) w R).1) = kn + 1
                  rw [if_neg hk28]; omega
                · show (stl (bnd (tkK n T p)) w R).1.length + 1 = ((if tkK n T p = 28 then 0 else 1) + opc (stl (bnd (tkK n T p)) w R).1) + (cr.length + 1 - 1)
                  rw [if_neg hk28]; omega
                · intro k hk'
                  rcases List.mem_cons.mp hk' with rfl | hk'
                  · exact hk
                  · exact n6 k (p4 k hk')
            by_cases c4 : bnd (tkK n T p) = 4
            · obtain rfl : x3 = 1 := by rw [hx3, bo_t c4]
              rw [e_Expression_readSign_97]
              try simp (config := {maxSteps := 1000000}) (disch := omega) only [nI_add, nI_1, am_mulN, nI_clamp, am_gI, am_ifd, am_ifn, am_asIe, am_asLe, nI_leI, nI_ltI, nI_eq, am_neg1, am_neg1b, tK_u, tK_o, tK_1, tK_2, tK_3, tK_4, tK_5, am_uE, am_uN, a6', aC0]
              rw [if_neg (by omega), if_pos (by omega)]
              exact fin _ true false (by rw [decide_eq_true c4]; rfl) (by rw [decide_eq_false (by omega)]) rfl
            · obtain rfl : x3 = 0 := by rw [hx3, bo_f c4]
              rw [e_Expression_readSign_97]
              try simp (config := {maxSteps := 1000000}) (disch := omega) only [nI_add, nI_1, am_mulN, nI_clamp, am_gI, am_ifd, am_ifn, am_asIe, am_asLe, nI_leI, nI_ltI, nI_eq, am_neg1, am_neg1b, tK_u, tK_o, tK_1, tK_2, tK_3, tK_4, tK_5, am_uE, am_uN, a6', aC0]
              rw [if_pos trivial]
              cases c0 with
              | false =>
                rw [if_pos nf0]
                by_cases c5 : 4 ≤ bnd (tkK n T p)
                · rw [if_pos c5]
                  exact fin _ false false (by rw [decide_eq_false c4]; rfl) (by rw [decide_eq_false (by omega)]) rfl
                · rw [if_neg c5]
                  exact fin _ false true (by rw [decide_eq_false c4]; rfl) (by rw [decide_eq_true (by omega)]) rfl
              | true =>
                rw [if_neg nt0]
                by_cases c5 : bnd (tkK n T p) ≤ 4
                · rw [if_pos c5, if_neg (by omega)]
                  exact fin _ false true (by rw [decide_eq_false c4, decide_eq_false (by omega)]; rfl) (by rw [decide_eq_true (by omega)]) rfl
                · rw [if_neg c5, if_pos (by omega)]
                  exact fin _ true false (by rw [decide_eq_false c4, decide_eq_true (by omega)]; rfl) (by rw [decide_eq_false (by omega)]) rfl
          try simp (config := {maxSteps := 1000000}) (disch := omega) only [nI_add, nI_1, am_mulN, nI_clamp, am_gI, am_ifd, am_ifn, am_asIe, am_asLe, nI_leI, nI_ltI, nI_eq, am_neg1, am_neg1b, tK_u, tK_o, tK_1, tK_2, tK_3, tK_4, tK_5, am_uE, am_uN, hcl, w6, Nat.add_sub_cancel, wC0]
          by_cases c4 : bnd (tkK n T p) = 4
          · rw [if_pos c4, if_neg (by omega)]
            by_cases c19 : tkK n T p = 19
            · rw [if_pos c19]; exact mis (by omega)
            · rw [if_neg c19]
              cases c0 with
              | false =>
                rw [if_pos nf0]
                exact set 1 (by simp [c4, c19]) (by rw [bo_t c4])
              | true =>
                rw [if_neg nt0]
                exact mis (Or.inr (Or.inr ⟨c4, rfl⟩))
          · rw [if_neg c4]
            by_cases c0' : bnd (tkK n T p) = 0
            · rw [if_pos c0']; exact mis (Or.inl c0')
            · rw [if_neg c0']
              by_cases c19 : tkK n T p = 19
              · rw [if_pos c19]; exact mis (Or.inr (Or.inl c19))
              · rw [if_neg c19]
                exact set 0 (by simp [c4, c19, c0']) (by rw [bo_f c4])
        by_cases c29 : tkK n T p = 29
        · rw [if_pos c29]
          by_cases co : 1 < cp.length
          · rw [if_neg (by omega)]
            have e0 : ∀ Q2 : Value → am_H → Prop, am_D (d + 11) 8 [.ref 46, .int (nI 0)] (am_hp N (rt, rs, t, q, 2, nt, nw, nf) (tK I n T p v) J) Q2 = am_V (d + 10) Q2 8 0 [some (.ref 46), some (.int (nI 0))] [] (am_hp N (rt, rs, t, q, 2, nt, nw, nf) (tK I n T p v) J) := fun _ => rfl
            rw [e0]
            refine s_settle hq hru (by omega) hro hW hL (by omega) hlw n6 ?_
            intro I1 g1 g2 g3 g4
            obtain ⟨p1, p2, p3, p4⟩ := @stl_p 0 w R
            have hop1 := opc_le (stl 0 w R).1
            have hsy := sy_close (n := n) (T := T) (m := m) (p := p) (w := w) (nm := nm) (kn := kn) (R := R) c29 co
            rcases @stl0_hd w R with hh | ⟨w', hh⟩
            · exfalso
              rw [hh] at p1 p2
              have z1 : opc ([] : List Nat) = 0 := rfl
              have z2 : ([] : List Nat).length = 0 := rfl
              omega
            · rw [hh] at g1 hsy p1 p2 p3 p4 hop1
              obtain ⟨c0, cr, hcp⟩ : ∃ c0 cr, cp = c0 :: cr := by
                cases cp with
                | nil => exact absurd n4 (by decide)
                | cons a b => exact ⟨a, b, rfl⟩
              subst hcp
              obtain ⟨a2, a4, a6, a7, a8, aW, aC⟩ := g1
              have a4' : I1 46 4 = nI (w'.length + 1) := a4
              have a6' : I1 46 6 = nI cr.length := a6
              have hcl : 1 < cr.length + 1 := co
              have h28 : opc (28 :: w') = opc w' := by show (if 28 = 28 then 0 else 1) + opc w' = opc w'; rw [if_pos rfl]; omega
              have hl2 : (28 :: w').length = w'.length + 1 := rfl
              have hcl2 : (c0 :: cr).length = cr.length + 1 := rfl
              have s1 : nI (w'.length + 1) - nI 1 = nI w'.length := am_subN (by omega)
              have s2 : nI cr.length - nI 1 = nI (cr.length - 1) := am_subN (by omega)
              rw [e_Expression_readSign_26, am_asIe]
              try simp (config := {maxSteps := 1000000}) (disch := omega) only [nI_add, nI_1, am_mulN, nI_clamp, am_gI, am_ifd, am_ifn, am_asIe, am_asLe, nI_leI, nI_ltI, nI_eq, am_neg1, am_neg1b, tK_u, tK_o, tK_1, tK_2, tK_3, tK_4, tK_5, am_uE, am_uN, a4', a6', s1, s2]
              refine next _ _ _ _ _ _ _ hsy (frx_tr g3 (frx_tr (frx_u hq (by omega)) (frx_u hq (by omega)))) ⟨?_, ?_, ?_, ?_, ?_, ?_, ?_⟩ (exL_c (fun a h => by rw [am_uRow (by omega), am_uRow (by omega)]) g2) ⟨n1, ?_, ?_, ?_, ?_, ?_⟩
              · try simp (config := {maxSteps := 1000000}) (disch := omega) only [nI_add, nI_1, am_mulN, nI_clamp, am_gI, am_ifd, am_ifn, am_asIe, am_asLe, nI_leI, nI_ltI, nI_eq, am_neg1, am_neg1b, tK_u, tK_o, tK_1, tK_2, tK_3, tK_4, tK_5, am_uE, am_uN, a2]
              · try simp (config := {maxSteps := 1000000}) (disch := omega) only [nI_add, nI_1, am_mulN, nI_clamp, am_gI, am_ifd, am_ifn, am_asIe, am_asLe, nI_leI, nI_ltI, nI_eq, am_neg1, am_neg1b, tK_u, tK_o, tK_1, tK_2, tK_3, tK_4, tK_5, am_uE, am_uN]
                rfl
              · try simp (config := {maxSteps := 1000000}) (disch := omega) only [nI_add, nI_1, am_mulN, nI_clamp, am_gI, am_ifd, am_ifn, am_asIe, am_asLe, nI_leI, nI_ltI, nI_eq, am_neg1, am_neg1b, tK_u, tK_o, tK_1, tK_2, tK_3, tK_4, tK_5, am_uE, am_uN]
                rfl
              · try simp (config := {maxSteps := 1000000}) (disch := omega) only [nI_add, nI_1, am_mulN, nI_clamp, am_gI, am_ifd, am_ifn, am_asIe, am_asLe, nI_leI, nI_ltI, nI_eq, am_neg1, am_neg1b, tK_u, tK_o, tK_1, tK_2, tK_3, tK_4, tK_5, am_uE, am_uN, a7]
              · try simp (config := {maxSteps := 1000000}) (disch := omega) only [nI_add, nI_1, am_mulN, nI_clamp, am_gI, am_ifd, am_ifn, am_asIe, am_asLe, nI_leI, nI_ltI, nI_eq, am_neg1, am_neg1b, tK_u, tK_o, tK_1, tK_2, tK_3, tK_4, tK_5, am_uE, am_uN, a8]
              · exact wrl_c (fun j hj => by try simp (config := {maxSteps := 1000000}) (disch := omega) only [nI_add, nI_1, am_mulN, nI_clamp, am_gI, am_ifd, am_ifn, am_asIe, am_asLe, nI_leI, nI_ltI, nI_eq, am_neg1, am_neg1b, tK_u, tK_o, tK_1, tK_2, tK_3, tK_4, tK_5, am_uE, am_uN]) aW.2
              · exact cpl_c (fun j hj => by try simp (config := {maxSteps := 1000000}) (disch := omega) only [nI_add, nI_1, am_mulN, nI_clamp, am_gI, am_ifd, am_ifn, am_asIe, am_asLe, nI_leI, nI_ltI, nI_eq, am_neg1, am_neg1b, tK_u, tK_o, tK_1, tK_2, tK_3, tK_4, tK_5, am_uE, am_uN]) aC.2
              · show st + (stl 0 w R).2.length + opc w' = kn
                omega
              · show w'.length = opc w' + (cr.length - 1)
                omega
              · show 1 ≤ cr.length
                omega
              · show cr.length ≤ 9
                omega
              · intro k hk'
                exact n6 k (p4 k (List.mem_cons_of_mem _ hk'))
          · rw [if_pos (by omega)]
            exact v52 (by omega)
        · rw [if_neg c29]
          exact v52 (by omega)
    rw [e_Expression_read_53 hq, am_ifi (nI_ltI (by omega) (by omega)), if_neg (by omega), am_ifn, if_pos rfl]
    try simp (config := {maxSteps := 1000000}) (disch := omega) only [nI_add, nI_1, am_mulN, nI_clamp, am_gI, am_ifd, am_ifn, am_asIe, am_asLe, nI_leI, nI_ltI, nI_eq, am_neg1, am_neg1b, tK_u, tK_o, tK_1, tK_2, tK_3, tK_4, tK_5, am_uE, am_uN, w6, w7]
    by_cases c27 : tkK n T p = 27
    · rw [if_pos c27]
      cases sd with
      | true =>
        rw [if_neg nt0]
        have := go (by simp)
        rw [am_ifd] at this
        exact this
      | false =>
        rw [if_pos nf0]
        by_cases c1 : cp.length = 1
        · rw [if_pos (by omega)]
          have hsy := sy_end (n := n) (T := T) (m := m) (p := p) (w := w) (cp := cp) (nm := nm) (kn := kn) (R := R) c27 c1
          have e0 : ∀ Q2 : Value → am_H → Prop, am_D (d + 12) 8 [.ref 46, .int (nI 0)] (am_hp N (rt, rs, t, q, 2, nt, nw, nf) (tK I n T p v) J) Q2 = am_V (d + 11) Q2 8 0 [some (.ref 46), some (.int (nI 0))] [] (am_hp N (rt, rs, t, q, 2, nt, nw, nf) (tK I n T p v) J) := fun _ => rfl
          rw [e0]
          refine s_settle hq hru (by omega) hro hW hL (by omega) hlw n6 ?_
          intro I1 g1 g2 g3 g4
          rw [e_Expression_read_96 hq]
          have := hQ I1 v
          rw [hsy] at this
          exact this hv g3 hp (fun _ => g2)
        · rw [if_neg (by omega)]
          have := go (by simp [c1])
          rw [am_ifd] at this
          exact this
    · rw [if_neg c27]
      have := go (by simp [c27])
      rw [am_ifd] at this
      exact this
end
