/-! ===== L3: the class reads the lines, 2 ===== -/
section
variable {d N : Nat} {Q : Value → am_H → Prop} {r : am_rho} {I : Nat → Nat → Int32} {J : Nat → Nat → Int64} {rt rs t rl nt nw nf n p m la z l a s : Nat} {T : Nat → Nat} {v : Int32}
def uL6 (t z : Nat) (nm : Int32) (b dp dr : Nat) (I : Nat → Nat → Int32) : Nat → Nat → Int32 := am_u (am_u (am_u (am_u (am_u I (t + 2) z nm) (t + 6) z (nI b)) (t + 7) z (nI dp)) (t + 8) z (nI dr)) t 2 (nI (z + 1))
theorem cl_sleeper (hx : tx I n T) (ht : t = 3 ∨ t = 23) (hp : p ≤ n) (hm : I t 0 = nI m) (hm8 : m ≤ 8) (hz : I t 2 = nI z) (hz5 : z ≤ 5)
    (hF : ∀ f q, ln6 n T p (I (t + 1)) (I (t + 2)) m z = (f, q) → f ≠ 0 → fltt t N (rt, rs, t, rl, 2, nt, nw, nf) J Q I f (tkP n T q))
    (hS : ∀ q v' I', ln6 n T p (I (t + 1)) (I (t + 2)) m z = (0, q) → tvc n T q v' → e43 I' (uL6 t z (tkN n T (tkE n T p)) (nhI (I (t + 1)) m n T (tkE n T (tkE n T p))) (tkV n T (tkE n T (tkE n T (tkE n T p)))) (nhI (I (t + 1)) m n T (tkE n T (tkE n T (tkE n T (tkE n T p))))) I) → Q (.int (nI 1)) (am_hp N (rt, rs, t, rl, 2, nt, nw, nf) (tK I' n T q v') J)) :
    am_D (d + 14) 43 [.ref 43] (am_hp N (rt, rs, t, rl, 2, nt, nw, nf) (tK I n T p v) J) Q := by
  have hp1 := tkE_le hx hp
  have hp2 := tkE_le hx hp1
  have hp3 := tkE_le hx hp2
  have hp4 := tkE_le hx hp3
  unfold ln6 at hF hS
  rw [e_Reader_readSleeper ht, tK_o (by omega), hz]
  refine cl_oneMore hx hp hz5 (by omega) ?_ ?_
  · intro e I' h1 h2 h3
    rw [am_asIe, e_Reader_readSleeper_14 ht, am_ifd, if_pos rfl]
    exact fltt_q (hF 2 p (by rw [if_pos e]) (by omega)) frt_re I' h1 h2 h3
  · intro e v1 hv1
    rw [if_neg e] at hF hS
    rw [am_asIe, e_Reader_readSleeper_14 ht, am_ifd, if_neg n10]
    refine cl_isNew (la := 5) (by rcases ht with rfl | rfl <;> rfl) hz5 (by omega) (by omega) hp1 hx.1.1 hv1 ?_ ?_
    · intro g I' h1 h2 h3
      rw [am_asIe, e_Reader_readSleeper_29 ht, am_ifn, if_pos rfl]
      exact fltt_q (hF _ _ (by rw [if_pos g]) g) frt_re I' h1 h2 h3
    · intro g
      rw [if_neg (by omega)] at hF hS
      rw [am_asIe, e_Reader_readSleeper_29 ht, am_ifn, if_neg n10]
      try simp (config := {maxSteps := 1000000}) (disch := omega) only [nI_add, nI_1, am_mulN, nI_clamp, am_gI, am_ifd, am_ifn, am_asIe, am_asLe, nI_leI, nI_ltI, nI_eq, am_neg1, am_neg1b, tK_u, tK_o, tK_1, tK_2, tK_3, tK_4, tK_5, am_uE, am_uN]
      have hx1 := tx_u (k := z) (v := tkN n T (tkE n T p)) (a := t + 2) (tx_u (k := 4) (v := tkN n T (tkE n T p)) (a := 43) hx (by omega) (by omega)) (by omega) (by omega)
      have f1 : frt t I (am_u (am_u I 43 4 (tkN n T (tkE n T p))) (t + 2) z (tkN n T (tkE n T p))) := frt_tr (frt_u (by omega)) (frt_u (by omega))
      have e1 : ∀ b, b ≠ 43 → (am_u (am_u I 43 4 (tkN n T (tkE n T p))) (t + 2) z (tkN n T (tkE n T p))) b = am_u I (t + 2) z (tkN n T (tkE n T p)) b := by
        intro b hb; funext j; unfold am_u; simp only [hb, false_and, if_false]
      have e2 : (am_u (am_u I 43 4 (tkN n T (tkE n T p))) (t + 2) z (tkN n T (tkE n T p))) 43 3 = I 43 3 ∧ (am_u (am_u I 43 4 (tkN n T (tkE n T p))) (t + 2) z (tkN n T (tkE n T p))) 43 5 = I 43 5 ∧ (am_u (am_u I 43 4 (tkN n T (tkE n T p))) (t + 2) z (tkN n T (tkE n T p))) 43 6 = I 43 6 ∧ (am_u (am_u I 43 4 (tkN n T (tkE n T p))) (t + 2) z (tkN n T (tkE n T p))) 43 7 = I 43 7 := by
        refine ⟨?_, ?_, ?_, ?_⟩ <;> rw [am_uN (by omega), am_uN (by omega)]
      have hm1 : (am_u (am_u I 43 4 (tkN n T (tkE n T p))) (t + 2) z (tkN n T (tkE n T p))) t 0 = nI m := by rw [am_uN (by omega), am_uN (by omega)]; exact hm
      have hz1 : (am_u (am_u I 43 4 (tkN n T (tkE n T p))) (t + 2) z (tkN n T (tkE n T p))) t 2 = nI z := by rw [am_uN (by omega), am_uN (by omega)]; exact hz
      have hn1 : (am_u (am_u I 43 4 (tkN n T (tkE n T p))) (t + 2) z (tkN n T (tkE n T p))) (t + 1) = I (t + 1) := by rw [am_uRow (by omega), am_uRow (by omega)]
      have e3 : (am_u I (t + 2) z (tkN n T (tkE n T p))) 43 3 = I 43 3 ∧ (am_u I (t + 2) z (tkN n T (tkE n T p))) 43 5 = I 43 5 ∧ (am_u I (t + 2) z (tkN n T (tkE n T p))) 43 6 = I 43 6 ∧ (am_u I (t + 2) z (tkN n T (tkE n T p))) 43 7 = I 43 7 := by
        refine ⟨?_, ?_, ?_, ?_⟩ <;> rw [am_uN (by omega)]
      unfold uL6 at hS
      generalize am_u I (t + 2) z (tkN n T (tkE n T p)) = Y at e1 e3 hS
      generalize am_u (am_u I 43 4 (tkN n T (tkE n T p))) (t + 2) z (tkN n T (tkE n T p)) = X at hx1 f1 e1 e2 hm1 hz1 hn1 ⊢
      refine cl_adv hx1 hp1 ?_
      intro v2 hv2
      rw [e_Reader_readSleeper_54]
      refine cl_takeHouse hx1 ht hm1 hm8 hp2 hv2 ?_ ?_
      · rw [hn1]
        intro g2 I' h1 h2 h3
        rw [am_asIe, e_Reader_readSleeper_58 ht, am_ifn, if_pos rfl]
        exact fltt_q (hF _ _ (by rw [if_pos g2]) g2) f1 I' h1 h2 h3
      · rw [hn1]
        intro g2 v3 hv3
        rw [if_neg (by omega)] at hF hS
        generalize nhI (I (t + 1)) m n T (tkE n T (tkE n T p)) = b at hF hS ⊢
        rw [am_asIe, e_Reader_readSleeper_58 ht, am_ifn, if_neg n10]
        try simp (config := {maxSteps := 1000000}) (disch := omega) only [nI_add, nI_1, am_mulN, nI_clamp, am_gI, am_ifd, am_ifn, am_asIe, am_asLe, nI_leI, nI_ltI, nI_eq, am_neg1, am_neg1b, tK_u, tK_o, tK_1, tK_2, tK_3, tK_4, tK_5, am_uE, am_uN]
        refine cl_takeNumber (tx_u (tx_u hx1 (by omega) (by omega)) (by omega) (by omega)) hp3 (by omega) (by omega) hv3 ?_ ?_
        · intro g3 I' h1 h2 h3
          rw [am_asIe, e_Reader_readSleeper_83 ht, am_ifn, if_pos rfl]
          exact fltt_q (hF _ _ (by rw [if_pos g3]) g3) (frt_tr f1 (frt_tr (frt_u (by omega)) (frt_u (by omega)))) I' h1 h2 h3
        · intro g3 v4 hv4
          rw [if_neg (by omega)] at hF hS
          rw [am_asIe, e_Reader_readSleeper_83 ht, am_ifn, if_neg n10]
          try simp (config := {maxSteps := 1000000}) (disch := omega) only [nI_add, nI_1, am_mulN, nI_clamp, am_gI, am_ifd, am_ifn, am_asIe, am_asLe, nI_leI, nI_ltI, nI_eq, am_neg1, am_neg1b, tK_u, tK_o, tK_1, tK_2, tK_3, tK_4, tK_5, am_uE, am_uN]
          refine cl_takeHouse (tx_u (tx_u (tx_u (tx_u hx1 (by omega) (by omega)) (by omega) (by omega)) (by omega) (by omega)) (by omega) (by omega)) ht (m := m) ?_ hm8 hp4 hv4 ?_ ?_
          · rw [am_uN (by omega), am_uN (by omega), am_uN (by omega), am_uN (by omega)]; exact hm1
          · rw [am_uRow (by omega), am_uRow (by omega), am_uRow (by omega), am_uRow (by omega), hn1]
            intro g4 I' h1 h2 h3
            rw [am_asIe, e_Reader_readSleeper_105 ht, am_ifn, if_pos rfl]
            exact fltt_q (hF _ _ (by rw [if_pos g4]) g4) (frt_tr f1 (frt_tr (frt_u (by omega)) (frt_tr (frt_u (by omega)) (frt_tr (frt_u (by omega)) (frt_u (by omega)))))) I' h1 h2 h3
          · rw [am_uRow (by omega), am_uRow (by omega), am_uRow (by omega), am_uRow (by omega), hn1]
            intro g4 v5 hv5
            rw [if_neg (by omega)] at hS
            rw [am_asIe, e_Reader_readSleeper_105 ht, am_ifn, if_neg n10]
            try simp (config := {maxSteps := 1000000}) (disch := omega) only [nI_add, nI_1, am_mulN, nI_clamp, am_gI, am_ifd, am_ifn, am_asIe, am_asLe, nI_leI, nI_ltI, nI_eq, am_neg1, am_neg1b, tK_u, tK_o, tK_1, tK_2, tK_3, tK_4, tK_5, am_uE, am_uN, hz1]
            refine hS _ v5 _ rfl hv5 ⟨?_, ?_, ?_⟩
            · intro b hb
              funext j
              have := e1 b hb
              unfold am_u
              simp only [hb, false_and, if_false, this]
            · try simp (config := {maxSteps := 1000000}) (disch := omega) only [nI_add, nI_1, am_mulN, nI_clamp, am_gI, am_ifd, am_ifn, am_asIe, am_asLe, nI_leI, nI_ltI, nI_eq, am_neg1, am_neg1b, tK_u, tK_o, tK_1, tK_2, tK_3, tK_4, tK_5, am_uE, am_uN, e2.1, e3.1]
            · try simp (config := {maxSteps := 1000000}) (disch := omega) only [nI_add, nI_1, am_mulN, nI_clamp, am_gI, am_ifd, am_ifn, am_asIe, am_asLe, nI_leI, nI_ltI, nI_eq, am_neg1, am_neg1b, tK_u, tK_o, tK_1, tK_2, tK_3, tK_4, tK_5, am_uE, am_uN, e2.2.1, e3.2.1, e2.2.2.1, e3.2.2.1, e2.2.2.2, e3.2.2.2, and_self]
def uL7 (t l s h : Nat) (I : Nat → Nat → Int32) : Nat → Nat → Int32 := am_u (am_u (am_u (am_u I (t + 9) l (nI s)) (t + 10) l (nI h)) (t + 11) h (I (t + 11) h ||| am_pw l)) t 3 (nI (l + 1))
theorem cl_letter (hx : tx I n T) (ht : t = 3 ∨ t = 23) (hp : p ≤ n) (hm : I t 0 = nI m) (hm8 : m ≤ 8) (hz : I t 2 = nI z) (hz5 : z ≤ 5) (hl : I t 3 = nI l) (hl8 : l ≤ 8)
    (hF : ∀ f q, ln7 n T p (I (t + 1)) (I (t + 2)) m z l = (f, q) → f ≠ 0 → fltt t N (rt, rs, t, rl, 2, nt, nw, nf) J Q I f (tkP n T q))
    (hS : ∀ q v' I', ln7 n T p (I (t + 1)) (I (t + 2)) m z l = (0, q) → tvc n T q v' → e43 I' (uL7 t l (nhI (I (t + 2)) z n T (tkE n T p)) (nhI (I (t + 1)) m n T (tkE n T (tkE n T p))) I) → Q (.int (nI 1)) (am_hp N (rt, rs, t, rl, 2, nt, nw, nf) (tK I' n T q v') J)) :
    am_D (d + 14) 44 [.ref 43] (am_hp N (rt, rs, t, rl, 2, nt, nw, nf) (tK I n T p v) J) Q := by
  have hp1 := tkE_le hx hp
  have hp2 := tkE_le hx hp1
  have hp3 := tkE_le hx hp2
  unfold ln7 at hF hS
  rw [e_Reader_readLetter ht, tK_o (by omega), hl]
  refine cl_oneMore hx hp hl8 (by omega) ?_ ?_
  · intro e I' h1 h2 h3
    rw [am_asIe, e_Reader_readLetter_13 ht, am_ifd, if_pos rfl]
    exact fltt_q (hF 2 p (by rw [if_pos e]) (by omega)) frt_re I' h1 h2 h3
  · intro e v1 hv1
    rw [if_neg e] at hF hS
    rw [am_asIe, e_Reader_readLetter_13 ht, am_ifd, if_neg n10, tK_o (by omega), hz]
    refine cl_isTold (la := 5) (by rcases ht with rfl | rfl <;> rfl) hz5 (by omega) (by omega) hp1 hx.1.1 hv1 ?_ ?_
    · intro g I' h1 h2 h3
      rw [am_asIe, e_Reader_readLetter_34, am_ifn, if_pos rfl]
      exact fltt_q (hF _ _ (by rw [if_pos g]) g) frt_re I' h1 h2 h3
    · intro g
      have gs := nhF_lt g
      rw [if_neg (by omega)] at hF hS
      generalize nhI (I (t + 2)) z n T (tkE n T p) = s at hF hS gs ⊢
      rw [am_asIe, e_Reader_readLetter_34, am_ifn, if_neg n10]
      try simp (config := {maxSteps := 1000000}) (disch := omega) only [nI_add, nI_1, am_mulN, nI_clamp, am_gI, am_ifd, am_ifn, am_asIe, am_asLe, nI_leI, nI_ltI, nI_eq, am_neg1, am_neg1b, tK_u, tK_o, tK_1, tK_2, tK_3, tK_4, tK_5, am_uE, am_uN]
      refine cl_adv (tx_u hx (by omega) (by omega)) hp1 ?_
      intro v2 hv2
      rw [e_Reader_readLetter_51]
      refine cl_takeHouse (tx_u hx (by omega) (by omega)) ht (m := m) (by rw [am_uN (by omega)]; exact hm) hm8 hp2 hv2 ?_ ?_
      · rw [am_uRow (by omega)]
        intro g2 I' h1 h2 h3
        rw [am_asIe, e_Reader_readLetter_55 ht, am_ifn, if_pos rfl]
        exact fltt_q (hF _ _ (by rw [if_pos g2]) g2) (frt_u (by omega)) I' h1 h2 h3
      · rw [am_uRow (by omega), am_uu]
        intro g2 v3 hv3
        have gh := nhF_lt g2
        rw [if_neg (by omega)] at hS
        generalize nhI (I (t + 1)) m n T (tkE n T (tkE n T p)) = h at hS gh ⊢
        have hl' : l < 8 := by omega
        rw [am_asIe, e_Reader_readLetter_55 ht, am_ifn, if_neg n10, e_Town_addLetter ht]
        try simp (config := {maxSteps := 1000000}) (disch := omega) only [nI_add, nI_1, am_mulN, nI_clamp, am_gI, am_ifd, am_ifn, am_asIe, am_asLe, nI_leI, nI_ltI, nI_eq, am_neg1, am_neg1b, tK_u, tK_o, tK_1, tK_2, tK_3, tK_4, tK_5, am_uE, am_uN, hl, am_pwe]
        rw [e_Reader_readLetter_72]
        refine hS _ v3 _ rfl hv3 ⟨?_, ?_, ?_⟩
        · intro b hb
          funext j
          unfold uL7 am_u
          simp only [hb, false_and, if_false]
        · unfold uL7; try simp (config := {maxSteps := 1000000}) (disch := omega) only [nI_add, nI_1, am_mulN, nI_clamp, am_gI, am_ifd, am_ifn, am_asIe, am_asLe, nI_leI, nI_ltI, nI_eq, am_neg1, am_neg1b, tK_u, tK_o, tK_1, tK_2, tK_3, tK_4, tK_5, am_uE, am_uN]
        · unfold uL7; try simp (config := {maxSteps := 1000000}) (disch := omega) only [nI_add, nI_1, am_mulN, nI_clamp, am_gI, am_ifd, am_ifn, am_asIe, am_asLe, nI_leI, nI_ltI, nI_eq, am_neg1, am_neg1b, tK_u, tK_o, tK_1, tK_2, tK_3, tK_4, tK_5, am_uE, am_uN, and_self]
def uL8 (t a h fr to : Nat) (I : Nat → Nat → Int32) : Nat → Nat → Int32 := am_u (am_u I (t + 12) h (I (t + 12) h ||| (am_pw (to + 1) - am_pw fr))) t 4 (nI (a + 1))
theorem cl_lamp (hx : tx I n T) (ht : t = 3 ∨ t = 23) (hp : p ≤ n) (hm : I t 0 = nI m) (hm8 : m ≤ 8) (ha : I t 4 = nI a) (ha6 : a ≤ 6)
    (hF : ∀ f q, ln8 n T p (I (t + 1)) m a = (f, q) → f ≠ 0 → fltt t N (rt, rs, t, rl, 2, nt, nw, nf) J Q I f (tkP n T q))
    (hS : ∀ q v' I', ln8 n T p (I (t + 1)) m a = (0, q) → tvc n T q v' → e43 I' (uL8 t a (nhI (I (t + 1)) m n T (tkE n T p)) (tkV n T (tkE n T (tkE n T p))) (tkV n T (tkE n T (tkE n T (tkE n T p)))) I) → Q (.int (nI 1)) (am_hp N (rt, rs, t, rl, 2, nt, nw, nf) (tK I' n T q v') J)) :
    am_D (d + 14) 45 [.ref 43] (am_hp N (rt, rs, t, rl, 2, nt, nw, nf) (tK I n T p v) J) Q := by
  have hp1 := tkE_le hx hp
  have hp2 := tkE_le hx hp1
  have hp3 := tkE_le hx hp2
  unfold ln8 at hF hS
  rw [e_Reader_readLamp ht, tK_o (by omega), ha]
  refine cl_oneMore hx hp ha6 (by omega) ?_ ?_
  · intro e I' h1 h2 h3
    rw [am_asIe, e_Reader_readLamp_13, am_ifd, if_pos rfl]
    exact fltt_q (hF 2 p (by rw [if_pos e]) (by omega)) frt_re I' h1 h2 h3
  · intro e v1 hv1
    rw [if_neg e] at hF hS
    rw [am_asIe, e_Reader_readLamp_13, am_ifd, if_neg n10]
    refine cl_takeHouse hx ht hm hm8 hp1 hv1 ?_ ?_
    · intro g I' h1 h2 h3
      rw [am_asIe, e_Reader_readLamp_20, am_ifn, if_pos rfl]
      exact fltt_q (hF _ _ (by rw [if_pos g]) g) frt_re I' h1 h2 h3
    · intro g v2 hv2
      have gh := nhF_lt g
      rw [if_neg (by omega)] at hF hS
      generalize nhI (I (t + 1)) m n T (tkE n T p) = h at hF hS gh ⊢
      rw [am_asIe, e_Reader_readLamp_20, am_ifn, if_neg n10]
      try simp (config := {maxSteps := 1000000}) (disch := omega) only [nI_add, nI_1, am_mulN, nI_clamp, am_gI, am_ifd, am_ifn, am_asIe, am_asLe, nI_leI, nI_ltI, nI_eq, am_neg1, am_neg1b, tK_u, tK_o, tK_1, tK_2, tK_3, tK_4, tK_5, am_uE, am_uN]
      refine cl_takeNumber (tx_u hx (by omega) (by omega)) hp2 (by omega) (by omega) hv2 ?_ ?_
      · intro g2 I' h1 h2 h3
        rw [am_asIe, e_Reader_readLamp_37, am_ifn, if_pos rfl]
        exact fltt_q (hF _ _ (by rw [if_pos g2]) g2) (frt_u (by omega)) I' h1 h2 h3
      · rw [am_uu]
        intro g2 v3 hv3
        have gf := nuF_in g2
        rw [if_neg (by omega)] at hF hS
        generalize tkV n T (tkE n T (tkE n T p)) = fr at hF hS gf ⊢
        rw [am_asIe, e_Reader_readLamp_37, am_ifn, if_neg n10]
        try simp (config := {maxSteps := 1000000}) (disch := omega) only [nI_add, nI_1, am_mulN, nI_clamp, am_gI, am_ifd, am_ifn, am_asIe, am_asLe, nI_leI, nI_ltI, nI_eq, am_neg1, am_neg1b, tK_u, tK_o, tK_1, tK_2, tK_3, tK_4, tK_5, am_uE, am_uN]
        refine cl_takeNumber (tx_u hx (by omega) (by omega)) hp3 (by omega) (by omega) hv3 ?_ ?_
        · intro g3 I' h1 h2 h3
          rw [am_asIe, e_Reader_readLamp_54 ht, am_ifn, if_pos rfl]
          exact fltt_q (hF _ _ (by rw [if_pos g3]) g3) (frt_u (by omega)) I' h1 h2 h3
        · rw [am_uu]
          intro g3 v4 hv4
          have gt := nuF_in g3
          rw [if_neg (by omega)] at hS
          generalize tkV n T (tkE n T (tkE n T (tkE n T p))) = to at hS gt ⊢
          rw [am_asIe, e_Reader_readLamp_54 ht, am_ifn, if_neg n10]
          try simp (config := {maxSteps := 1000000}) (disch := omega) only [nI_add, nI_1, am_mulN, nI_clamp, am_gI, am_ifd, am_ifn, am_asIe, am_asLe, nI_leI, nI_ltI, nI_eq, am_neg1, am_neg1b, tK_u, tK_o, tK_1, tK_2, tK_3, tK_4, tK_5, am_uE, am_uN, ha, am_pwe]
          refine hS _ v4 _ rfl hv4 ⟨?_, ?_, ?_⟩
          · intro b hb
            funext j
            unfold uL8 am_u
            simp only [hb, false_and, if_false]
          · unfold uL8; try simp (config := {maxSteps := 1000000}) (disch := omega) only [nI_add, nI_1, am_mulN, nI_clamp, am_gI, am_ifd, am_ifn, am_asIe, am_asLe, nI_leI, nI_ltI, nI_eq, am_neg1, am_neg1b, tK_u, tK_o, tK_1, tK_2, tK_3, tK_4, tK_5, am_uE, am_uN]
          · unfold uL8; try simp (config := {maxSteps := 1000000}) (disch := omega) only [nI_add, nI_1, am_mulN, nI_clamp, am_gI, am_ifd, am_ifn, am_asIe, am_asLe, nI_leI, nI_ltI, nI_eq, am_neg1, am_neg1b, tK_u, tK_o, tK_1, tK_2, tK_3, tK_4, tK_5, am_uE, am_uN, and_self]
def uL9 (a h k : Nat) (I : Nat → Nat → Int32) : Nat → Nat → Int32 := am_u I a h (nI k)
theorem cl_loud {lo : Nat → Bool} (hx : tx I n T) (ht : t = 3 ∨ t = 23) (hp : p ≤ n) (hm : I t 0 = nI m) (hm8 : m ≤ 8) (ha : a = t + 13 ∨ a = t + 14) (hlo : ∀ h, h < m → (lo h = true ↔ ¬ I a h ≤ nI 0))
    (hF : ∀ f q, ln9 n T p (I (t + 1)) m lo = (f, q) → f ≠ 0 → fltt t N (rt, rs, t, rl, 2, nt, nw, nf) J Q I f (tkP n T q))
    (hS : ∀ q v' I', ln9 n T p (I (t + 1)) m lo = (0, q) → tvc n T q v' → e43 I' (uL9 a (nhI (I (t + 1)) m n T (tkE n T p)) (tkV n T (tkE n T (tkE n T p))) I) → Q (.int (nI 1)) (am_hp N (rt, rs, t, rl, 2, nt, nw, nf) (tK I' n T q v') J)) :
    am_D (d + 14) 46 [.ref 43, .ref a] (am_hp N (rt, rs, t, rl, 2, nt, nw, nf) (tK I n T p v) J) Q := by
  have hp1 := tkE_le hx hp
  have hp2 := tkE_le hx hp1
  have ta : am_TT N a = (1, 8) := by rcases ht with rfl | rfl <;> rcases ha with rfl | rfl <;> rfl
  unfold ln9 at hF hS
  rw [e_Reader_readLoud]
  refine cl_adv hx hp ?_
  intro v1 hv1
  rw [e_Reader_readLoud_7]
  refine cl_isToldHouse ht hm hm8 hp1 hx.1.1 hv1 ?_ ?_
  · intro g I' h1 h2 h3
    rw [am_asIe, e_Reader_readLoud_11, am_ifn, if_pos rfl]
    exact fltt_q (hF _ _ (by rw [if_pos g]) g) frt_re I' h1 h2 h3
  · intro g
    have gh := nhF_lt g
    rw [if_neg (by omega)] at hF hS
    generalize nhI (I (t + 1)) m n T (tkE n T p) = h at hF hS gh ⊢
    have hl := hlo h gh
    have g8 : ((Nat.beq ((1, 8) : Nat × Nat).1 1 || Nat.beq ((1, 8) : Nat × Nat).1 5) && am_inb (nI h) ((1, 8) : Nat × Nat).2) = true := by
      show (true && am_inb (nI h) 8) = true
      rw [am_inbT (by omega) (by omega)]; rfl
    have g9 : (Nat.beq ((1, 8) : Nat × Nat).1 1 && am_inb (nI h) ((1, 8) : Nat × Nat).2) = true := by
      show (true && am_inb (nI h) 8) = true
      rw [am_inbT (by omega) (by omega)]; rfl
    rw [am_asIe, e_Reader_readLoud_11, am_ifn, if_neg n10, ta]
    try simp (config := {maxSteps := 1000000}) (disch := omega) only [nI_add, nI_1, am_mulN, nI_clamp, am_gI, am_ifd, am_ifn, am_asIe, am_asLe, nI_leI, nI_ltI, nI_eq, am_neg1, am_neg1b, tK_u, tK_o, tK_1, tK_2, tK_3, tK_4, tK_5, am_uE, am_uN]
    rw [am_gT g8]
    by_cases c : I a h ≤ nI 0
    · have hwf : lo h = false := ts_ne (fun g => hl.mp g c)
      rw [hwf, if_neg (by simp)] at hF hS
      rw [if_pos c]
      refine cl_adv (tx_u hx (by omega) (by omega)) hp1 ?_
      intro v2 hv2
      rw [e_Reader_readLoud_40]
      refine cl_takeNumber (tx_u hx (by omega) (by omega)) hp2 (by omega) (by omega) hv2 ?_ ?_
      · intro g2 I' h1 h2 h3
        rw [am_asIe, e_Reader_readLoud_47, am_ifn, if_pos rfl]
        exact fltt_q (hF _ _ (by rw [if_pos g2]) g2) (frt_u (by omega)) I' h1 h2 h3
      · rw [am_uu]
        intro g2 v3 hv3
        rw [if_neg (by omega)] at hS
        rw [am_asIe, e_Reader_readLoud_47, am_ifn, if_neg n10, ta, am_gT g9]
        try simp (config := {maxSteps := 1000000}) (disch := omega) only [nI_add, nI_1, am_mulN, nI_clamp, am_gI, am_ifd, am_ifn, am_asIe, am_asLe, nI_leI, nI_ltI, nI_eq, am_neg1, am_neg1b, tK_u, tK_o, tK_1, tK_2, tK_3, tK_4, tK_5, am_uE, am_uN]
        refine hS _ v3 _ rfl hv3 ⟨?_, ?_, ?_⟩
        · intro b hb
          funext j
          unfold uL9 am_u
          simp only [hb, false_and, if_false]
        · unfold uL9; try simp (config := {maxSteps := 1000000}) (disch := omega) only [nI_add, nI_1, am_mulN, nI_clamp, am_gI, am_ifd, am_ifn, am_asIe, am_asLe, nI_leI, nI_ltI, nI_eq, am_neg1, am_neg1b, tK_u, tK_o, tK_1, tK_2, tK_3, tK_4, tK_5, am_uE, am_uN]
        · unfold uL9; try simp (config := {maxSteps := 1000000}) (disch := omega) only [nI_add, nI_1, am_mulN, nI_clamp, am_gI, am_ifd, am_ifn, am_asIe, am_asLe, nI_leI, nI_ltI, nI_eq, am_neg1, am_neg1b, tK_u, tK_o, tK_1, tK_2, tK_3, tK_4, tK_5, am_uE, am_uN, and_self]
    · have hwt : lo h = true := hl.mpr c
      rw [if_pos hwt] at hF
      rw [if_neg c]
      refine cl_fail ?_
      intro I' h1 h2 h3
      rw [am_asIe, e_Reader_readLoud_32, am_gT (by rfl)]
      exact fltt_q (hF 3 _ rfl (by omega)) (frt_u (by omega)) I' h1 h2 h3
def uL10 (t h : Nat) (I : Nat → Nat → Int32) : Nat → Nat → Int32 := am_u I t 5 (I t 5 ||| am_pw h)
theorem cl_cat (hx : tx I n T) (ht : t = 3 ∨ t = 23) (hp : p ≤ n) (hm : I t 0 = nI m) (hm8 : m ≤ 8)
    (hF : ∀ f q, ln10 n T p (I (t + 1)) m (bt (I t 5)) = (f, q) → f ≠ 0 → fltt t N (rt, rs, t, rl, 2, nt, nw, nf) J Q I f (tkP n T q))
    (hS : ∀ q v' I', ln10 n T p (I (t + 1)) m (bt (I t 5)) = (0, q) → tvc n T q v' → e43 I' (uL10 t (nhI (I (t + 1)) m n T (tkE n T p)) I) → Q (.int (nI 1)) (am_hp N (rt, rs, t, rl, 2, nt, nw, nf) (tK I' n T q v') J)) :
    am_D (d + 14) 47 [.ref 43] (am_hp N (rt, rs, t, rl, 2, nt, nw, nf) (tK I n T p v) J) Q := by
  have hp1 := tkE_le hx hp
  unfold ln10 at hF hS
  rw [e_Reader_readCat]
  refine cl_adv hx hp ?_
  intro v1 hv1
  rw [e_Reader_readCat_7]
  refine cl_isToldHouse ht hm hm8 hp1 hx.1.1 hv1 ?_ ?_
  · intro g I' h1 h2 h3
    rw [am_asIe, e_Reader_readCat_11 ht, am_ifn, if_pos rfl]
    exact fltt_q (hF _ _ (by rw [if_pos g]) g) frt_re I' h1 h2 h3
  · intro g
    have gh := nhF_lt g
    rw [if_neg (by omega)] at hF hS
    generalize nhI (I (t + 1)) m n T (tkE n T p) = h at hF hS gh ⊢
    rw [am_asIe, e_Reader_readCat_11 ht, am_ifn, if_neg n10]
    try simp (config := {maxSteps := 1000000}) (disch := omega) only [nI_add, nI_1, am_mulN, nI_clamp, am_gI, am_ifd, am_ifn, am_asIe, am_asLe, nI_leI, nI_ltI, nI_eq, am_neg1, am_neg1b, tK_u, tK_o, tK_1, tK_2, tK_3, tK_4, tK_5, am_uE, am_uN, am_pwe]
    rw [b_v (by omega)]
    cases c : bt (I t 5) h with
    | false =>
      rw [c, if_neg (by simp)] at hS
      rw [if_pos nf0]
      refine cl_adv (tx_u (tx_u hx (by omega) (by omega)) (by omega) (by omega)) hp1 ?_
      intro v2 hv2
      rw [e_Reader_readCat_64]
      refine hS _ v2 _ rfl hv2 ⟨?_, ?_, ?_⟩
      · intro b hb
        funext j
        unfold uL10 am_u
        simp only [hb, false_and, if_false]
      · unfold uL10; try simp (config := {maxSteps := 1000000}) (disch := omega) only [nI_add, nI_1, am_mulN, nI_clamp, am_gI, am_ifd, am_ifn, am_asIe, am_asLe, nI_leI, nI_ltI, nI_eq, am_neg1, am_neg1b, tK_u, tK_o, tK_1, tK_2, tK_3, tK_4, tK_5, am_uE, am_uN]
      · unfold uL10; try simp (config := {maxSteps := 1000000}) (disch := omega) only [nI_add, nI_1, am_mulN, nI_clamp, am_gI, am_ifd, am_ifn, am_asIe, am_asLe, nI_leI, nI_ltI, nI_eq, am_neg1, am_neg1b, tK_u, tK_o, tK_1, tK_2, tK_3, tK_4, tK_5, am_uE, am_uN, and_self]
    | true =>
      rw [if_pos c] at hF
      rw [if_neg nt0]
      refine cl_fail ?_
      intro I' h1 h2 h3
      rw [am_asIe, e_Reader_readCat_38, am_gT (by rfl)]
      exact fltt_q (hF 3 _ rfl (by omega)) (frt_u (by omega)) I' h1 h2 h3
def uL12 (t k : Nat) (I : Nat → Nat → Int32) : Nat → Nat → Int32 := am_u (am_u I 43 3 (nI 1)) t 6 (nI k)
theorem cl_seed {sd : Bool} (hx : tx I n T) (ht : t = 3 ∨ t = 23) (hp : p ≤ n) (hsd : I 43 3 = nI sd.toNat)
    (hF : ∀ f q, ln12 n T p sd = (f, q) → f ≠ 0 → fltt t N (rt, rs, t, rl, 2, nt, nw, nf) J Q I f (tkP n T q))
    (hS : ∀ q v' I', ln12 n T p sd = (0, q) → tvc n T q v' → e43 I' (uL12 t (tkV n T (tkE n T p)) I) → Q (.int (nI 1)) (am_hp N (rt, rs, t, rl, 2, nt, nw, nf) (tK I' n T q v') J)) :
    am_D (d + 14) 48 [.ref 43] (am_hp N (rt, rs, t, rl, 2, nt, nw, nf) (tK I n T p v) J) Q := by
  have hp1 := tkE_le hx hp
  unfold ln12 at hF hS
  rw [e_Reader_readSeed]
  try simp (config := {maxSteps := 1000000}) (disch := omega) only [nI_add, nI_1, am_mulN, nI_clamp, am_gI, am_ifd, am_ifn, am_asIe, am_asLe, nI_leI, nI_ltI, nI_eq, am_neg1, am_neg1b, tK_u, tK_o, tK_1, tK_2, tK_3, tK_4, tK_5, am_uE, am_uN, hsd]
  cases sd with
  | true =>
    rw [if_neg nt0]
    refine cl_fail ?_
    intro I' h1 h2 h3
    rw [am_asIe, e_Reader_readSeed_12, am_gT (by rfl)]
    exact fltt_q (hF 3 p (by rw [if_pos rfl]) (by omega)) frt_re I' h1 h2 h3
  | false =>
    rw [if_neg (by simp)] at hF hS
    rw [if_pos nf0]
    refine cl_adv (tx_u hx (by omega) (by omega)) hp ?_
    intro v1 hv1
    rw [e_Reader_readSeed_25]
    refine cl_takeNumber (tx_u hx (by omega) (by omega)) hp1 (by omega) (by omega) hv1 ?_ ?_
    · intro g2 I' h1 h2 h3
      rw [am_asIe, e_Reader_readSeed_32 ht, am_ifn, if_pos rfl]
      exact fltt_q (hF _ _ (by rw [if_pos g2]) g2) (frt_u (by omega)) I' h1 h2 h3
    · intro g2 v2 hv2
      rw [if_neg (by omega)] at hS
      rw [am_asIe, e_Reader_readSeed_32 ht, am_ifn, if_neg n10]
      try simp (config := {maxSteps := 1000000}) (disch := omega) only [nI_add, nI_1, am_mulN, nI_clamp, am_gI, am_ifd, am_ifn, am_asIe, am_asLe, nI_leI, nI_ltI, nI_eq, am_neg1, am_neg1b, tK_u, tK_o, tK_1, tK_2, tK_3, tK_4, tK_5, am_uE, am_uN]
      refine hS _ v2 _ rfl hv2 ⟨?_, ?_, ?_⟩
      · intro b hb
        funext j
        unfold uL12 am_u
        simp only [hb, false_and, if_false]
      · unfold uL12; try simp (config := {maxSteps := 1000000}) (disch := omega) only [nI_add, nI_1, am_mulN, nI_clamp, am_gI, am_ifd, am_ifn, am_asIe, am_asLe, nI_leI, nI_ltI, nI_eq, am_neg1, am_neg1b, tK_u, tK_o, tK_1, tK_2, tK_3, tK_4, tK_5, am_uE, am_uN]
      · unfold uL12; try simp (config := {maxSteps := 1000000}) (disch := omega) only [nI_add, nI_1, am_mulN, nI_clamp, am_gI, am_ifd, am_ifn, am_asIe, am_asLe, nI_leI, nI_ltI, nI_eq, am_neg1, am_neg1b, tK_u, tK_o, tK_1, tK_2, tK_3, tK_4, tK_5, am_uE, am_uN, and_self]
end
