/-! ===== L3: the class reads the lines, 2 ===== -/
section
variable {d N : Nat} {Q : Value → am_H → Prop} {r : am_rho} {I : Nat → Nat → Int32} {J : Nat → Nat → Int64} {rt rs t rl nt nw nf n p m la z l a s : Nat} {T : Nat → Nat} {v : Int32}
def uL6 (t z : Nat) (nm : Int32) (b dp dr : Nat) (I : Nat → Nat → Int32) : Nat → Nat → Int32 := am_u (am_u (am_u (am_u (am_u I (t + 2) z nm) (t + 6) z (nI b)) (t + 7) z (nI dp)) (t + 8) z (nI dr)) t 2 (nI (z + 1))
theorem cl_sleeper (hx : tx I n T) (ht : t = 3 ∨ t = 23) (hp : p ≤ n) (hm : I t 0 = nI m) (hm8 : m ≤ 8) (hz : I t 2 = nI z) (hz5 : z ≤ 5)
    (hF : ∀ f q, ln6 n T p (I (t + 1)) (I (t + 2)) m z = (f, q) → f ≠ 0 → fltt t N (rt, rs, t, rl, 2, nt, nw, nf) J Q I f (tkP n T q))
    (hS : ∀ q v' I', ln6 n T p (I (t + 1)) (I (t + 2)) m z = (0, q) → tvc n T q v' → e43 I' (uL6 t z (tkN n T (tkE n T p)) (nhI (I (t + 1)) m n T (tkE n T (tkE n T p))) (tkV n T (tkE n T (tkE n T (tkE n T p)))) (nhI (I (t + 1)) m n T (tkE n T (tkE n T (tkE n T (tkE n T p))))) I) → Q (.int (nI 1)) (am_hp N (rt, rs, t, rl, 2, nt, nw, nf) (tK I' n T q v') J)) :
    am_D (d + 14) 43 [.ref 43] (am_hp N (rt, rs, t, rl, 2, nt, nw, nf) (tK I n T p v) J) Q := by
  have hp1 := tkE_le hx hp
  have hp2 := tkE_le hx hp1
  have hp3 := tkE_le hx hp2
  have hp4 := tkE_le hx hp3
  unfold ln6 at hF hS
  rw [e_Reader_readSleeper ht, tK_o (by omega), hz]
  refine cl_oneMore hx hp hz5 (by omega) ?_ ?_
  · intro e I' h1 h2 h3
    rw [am_asIe, e_Reader_readSleeper_14 ht, am_ifd, if_pos rfl]
    exact fltt_q (hF 2 p (by rw [if_pos e]) (by omega)) frt_re I' h1 h2 h3
  · intro e v1 hv1
    rw [if_neg e] at hF hS
    rw [am_asIe, e_Reader_readSleeper_14 ht, am_ifd, if_neg n10]
    refine cl_isNew (la := 5) (by rcases ht with rfl | rfl <;> rfl) hz5 (by omega) (by omega) hp1 hx.1.1 hv1 ?_ ?_
    · intro g I' h1 h2 h3
      rw [am_asIe, e_Reader_readSleeper_29 ht, am_ifn, if_pos rfl]
      exact fltt_q (hF _ _ (by rw [if_pos g]) g) frt_re I' h1 h2 h3
    · intro g
      rw [if_neg (by omega)] at hF hS
      rw [am_asIe, e_Reader_readSleeper_29 ht, am_ifn, if_neg n10]
      try simp (config := {maxSteps := 1000000}) (disch := omega) only [nI_add, nI_1, am_mulN, nI_clamp, am_gI, am_ifd, am_ifn, am_asIe, am_asLe, nI_leI, nI_ltI, nI_eq, am_neg1, am_neg1b, tK_u, tK_o, tK_1, tK_2, tK_3, tK_4, tK_5, am_uE, am_uN]
      have hx1 := tx_u (k := z) (v := tkN n T (tkE n T p)) (a := t + 2) (tx_u (k := 4) (v := tkN n T (tkE n T p)) (a := 43) hx (by omega) (by omega)) (by omega) (by omega)
      have f1 : frt t I (am_u (am_u I 43 4 (tkN n T (tkE n T p))) (t + 2) z (tkN n T (tkE n T p))) := frt_tr (frt_u (by omega)) (frt_u (by omega))
      have e1 : ∀ b, b ≠ 43 → (am_u (am_u I 43 4 (tkN n T (tkE n T p))) (t + 2) z (tkN n T (tkE n T p))) b = am_u I (t + 2) z (tkN n T (tkE n T p)) b := by
        intro b hb; funext j; unfold am_u; simp only [hb, false_and, if_false]
      have e2 : (am_u (am_u I 43 4 (tkN n T (tkE n T p))) (t + 2) z (tkN n T (tkE n T p))) 43 3 = I 43 3 ∧ (am_u (am_u I 43 4 (tkN n T (tkE n T p))) (t + 2) z (tkN n T (tkE n T p))) 43 5 = I 43 5 := by
        constructor <;> rw [am_uN (by omega), am_uN (by omega)]
      have hm1 : (am_u (am_u I 43 4 (tkN n T (tkE n T p))) (t + 2) z (tkN n T (tkE n T p))) t 0 = nI m := by rw [am_uN (by omega), am_uN (by omega)]; exact hm
      have hz1 : (am_u (am_u I 43 4 (tkN n T (tkE n T p))) (t + 2) z (tkN n T (tkE n T p))) t 2 = nI z := by rw [am_uN (by omega), am_uN (by omega)]; exact hz
      have hn1 : (am_u (am_u I 43 4 (tkN n T (tkE n T p))) (t + 2) z (tkN n T (tkE n T p))) (t + 1) = I (t + 1) := by rw [am_uRow (by omega), am_uRow (by omega)]
      unfold uL6 at hS
      generalize am_u I (t + 2) z (tkN n T (tkE n T p)) = Y at e1 hS
      generalize am_u (am_u I 43 4 (tkN n T (tkE n T p))) (t + 2) z (tkN n T (tkE n T p)) = X at hx1 f1 e1 e2 hm1 hz1 hn1 ⊢
      refine cl_adv hx1 hp1 ?_
      intro v2 hv2
      rw [e_Reader_readSleeper_54]
      refine cl_takeHouse hx1 ht hm1 hm8 hp2 hv2 ?_ ?_
      · rw [hn1]
        intro g2 I' h1 h2 h3
        rw [am_asIe, e_Reader_readSleeper_58 ht, am_ifn, if_pos rfl]
        exact fltt_q (hF _ _ (by rw [if_pos g2]) g2) f1 I' h1 h2 h3
      · rw [hn1]
        intro g2 v3 hv3
        rw [if_neg (by omega)] at hF hS
        generalize nhI (I (t + 1)) m n T (tkE n T (tkE n T p)) = b at hF hS ⊢
        rw [am_asIe, e_Reader_readSleeper_58 ht, am_ifn, if_neg n10]
        try simp (config := {maxSteps := 1000000}) (disch := omega) only [nI_add, nI_1, am_mulN, nI_clamp, am_gI, am_ifd, am_ifn, am_asIe, am_asLe, nI_leI, nI_ltI, nI_eq, am_neg1, am_neg1b, tK_u, tK_o, tK_1, tK_2, tK_3, tK_4, tK_5, am_uE, am_uN]
        refine cl_takeNumber (tx_u (tx_u hx1 (by omega) (by omega)) (by omega) (by omega)) hp3 (by omega) (by omega) hv3 ?_ ?_
        · intro g3 I' h1 h2 h3
          rw [am_asIe, e_Reader_readSleeper_83 ht, am_ifn, if_pos rfl]
          exact fltt_q (hF _ _ (by rw [if_pos g3]) g3) (frt_tr f1 (frt_tr (frt_u (by omega)) (frt_u (by omega)))) I' h1 h2 h3
        · intro g3 v4 hv4
          rw [if_neg (by omega)] at hF hS
          rw [am_asIe, e_Reader_readSleeper_83 ht, am_ifn, if_neg n10]
          try simp (config := {maxSteps := 1000000}) (disch := omega) only [nI_add, nI_1, am_mulN, nI_clamp, am_gI, am_ifd, am_ifn, am_asIe, am_asLe, nI_leI, nI_ltI, nI_eq, am_neg1, am_neg1b, tK_u, tK_o, tK_1, tK_2, tK_3, tK_4, tK_5, am_uE, am_uN]
          refine cl_takeHouse (tx_u (tx_u (tx_u (tx_u hx1 (by omega) (by omega)) (by omega) (by omega)) (by omega) (by omega)) (by omega) (by omega)) ht (m := m) ?_ hm8 hp4 hv4 ?_ ?_
          · rw [am_uN (by omega), am_uN (by omega), am_uN (by omega), am_uN (by omega)]; exact hm1
          · rw [am_uRow (by omega), am_uRow (by omega), am_uRow (by omega), am_uRow (by omega), hn1]
            intro g4 I' h1 h2 h3
            rw [am_asIe, e_Reader_readSleeper_105 ht, am_ifn, if_pos rfl]
            exact fltt_q (hF _ _ (by rw [if_pos g4]) g4) (frt_tr f1 (frt_tr (frt_u (by omega)) (frt_tr (frt_u (by omega)) (frt_tr (frt_u (by omega)) (frt_u (by omega)))))) I' h1 h2 h3
          · rw [am_uRow (by omega), am_uRow (by omega), am_uRow (by omega), am_uRow (by omega), hn1]
            intro g4 v5 hv5
            rw [if_neg (by omega)] at hS
            rw [am_asIe, e_Reader_readSleeper_105 ht, am_ifn, if_neg n10]
            try simp (config := {maxSteps := 1000000}) (disch := omega) only [nI_add, nI_1, am_mulN, nI_clamp, am_gI, am_ifd, am_ifn, am_asIe, am_asLe, nI_leI, nI_ltI, nI_eq, am_neg1, am_neg1b, tK_u, tK_o, tK_1, tK_2, tK_3, tK_4, tK_5, am_uE, am_uN, hz1]
            refine hS _ v5 _ rfl hv5 ⟨?_, ?_, ?_⟩
            · intro b hb
              funext j
              have := e1 b hb
              unfold am_u
              simp only [hb, false_and, if_false, this]
            · try simp (config := {maxSteps := 1000000}) (disch := omega) only [nI_add, nI_1, am_mulN, nI_clamp, am_gI, am_ifd, am_ifn, am_asIe, am_asLe, nI_leI, nI_ltI, nI_eq, am_neg1, am_neg1b, tK_u, tK_o, tK_1, tK_2, tK_3, tK_4, tK_5, am_uE, am_uN, e2.1]
              sorry
            · try simp (config := {maxSteps := 1000000}) (disch := omega) only [nI_add, nI_1, am_mulN, nI_clamp, am_gI, am_ifd, am_ifn, am_asIe, am_asLe, nI_leI, nI_ltI, nI_eq, am_neg1, am_neg1b, tK_u, tK_o, tK_1, tK_2, tK_3, tK_4, tK_5, am_uE, am_uN, e2.2]
              sorry
end
