/-! ===== L3: the model's tokens, 2 ===== -/
def sgw (c c2 : Nat) : Nat := if c = 60 ∧ c2 = 61 then 256 else if c = 60 ∧ c2 = 62 then 257 else if c = 62 ∧ c2 = 61 then 258 else c
def sgin (c : Nat) : Bool := decide (c = 59 ∨ c = 40 ∨ c = 41 ∨ c = 43 ∨ c = 45 ∨ c = 42 ∨ c = 47 ∨ c = 60 ∨ c = 61 ∨ c = 62)
theorem sgk_0 {c c2 : Nat} (h : c ≠ 60) (h2 : c ≠ 62) : sgk c c2 = sgk c 0 := by
  unfold sgk
  rw [if_neg h, if_neg h2, if_neg h, if_neg h2]
def sgtb (c k : Nat) : Bool := decide (c = 60) || decide (c = 62) || (decide (k = 1) && !(sgin c)) || (decide (27 ≤ k) && decide (k < 40) && sgin c && decide (sgc k = c) && !(decide (k = 35)) && !(decide (k = 37)) && !(decide (k = 38)))
theorem sgk_tb : ∀ c, c < 256 → sgtb c (sgk c 0) = true := by decide +kernel
theorem sgk_t (c : Nat) (hc : c < 256) (h : c ≠ 60) (h2 : c ≠ 62) : (sgk c 0 = 1 ∧ sgin c = false) ∨ (27 ≤ sgk c 0 ∧ sgk c 0 < 40 ∧ sgin c = true ∧ sgc (sgk c 0) = c ∧ ¬ (sgk c 0 = 35 ∨ sgk c 0 = 37 ∨ sgk c 0 = 38)) := by
  have k := sgk_tb c hc
  unfold sgtb at k
  simp only [Bool.or_eq_true, Bool.and_eq_true, decide_eq_true_eq, Bool.not_eq_true', decide_eq_false_iff_not] at k
  rcases k with ((k | k) | k) | k
  · exact absurd k h
  · exact absurd k h2
  · exact Or.inl k
  · obtain ⟨⟨⟨⟨⟨⟨k1, k2⟩, k3⟩, k4⟩, k5⟩, k6⟩, k7⟩ := k
    exact Or.inr ⟨k1, k2, k3, k4, by omega⟩
theorem sgk_all {c c2 : Nat} (hc : c < 256) : (sgk c c2 = 1 ∧ sgin c = false ∧ sgw c c2 = c) ∨ (27 ≤ sgk c c2 ∧ sgk c c2 < 40 ∧ sgin c = true ∧ sgc (sgk c c2) = sgw c c2 ∧ ((sgk c c2 = 35 ∨ sgk c c2 = 37 ∨ sgk c c2 = 38) ↔ 256 ≤ sgw c c2)) := by
  by_cases h : c = 60
  · subst h
    refine Or.inr ?_
    by_cases h1 : c2 = 61
    · subst h1; decide +kernel
    · by_cases h2 : c2 = 62
      · subst h2; decide +kernel
      · have e : sgk 60 c2 = 34 := by unfold sgk; rw [if_pos rfl, if_neg h1, if_neg h2]
        have e2 : sgw 60 c2 = 60 := by unfold sgw; rw [if_neg (by omega), if_neg (by omega), if_neg (by omega)]
        rw [e, e2]; decide +kernel
  · by_cases h0 : c = 62
    · subst h0
      refine Or.inr ?_
      by_cases h1 : c2 = 61
      · subst h1; decide +kernel
      · have e : sgk 62 c2 = 39 := by unfold sgk; rw [if_neg (by omega), if_pos rfl, if_neg h1]
        have e2 : sgw 62 c2 = 62 := by unfold sgw; rw [if_neg (by omega), if_neg (by omega), if_neg (by omega)]
        rw [e, e2]; decide +kernel
    · have e2 : sgw c c2 = c := by unfold sgw; rw [if_neg (by omega), if_neg (by omega), if_neg (by omega)]
      rw [sgk_0 h h0, e2]
      rcases sgk_t c hc h h0 with ⟨a, b⟩ | ⟨a, b, b2, b3, b4⟩
      · exact Or.inl ⟨a, b, rfl⟩
      · exact Or.inr ⟨a, b, b2, b3, by constructor <;> intro g <;> omega⟩
section
variable {d N : Nat} {Q : Value → am_H → Prop} {r : am_rho} {I : Nat → Nat → Int32} {J : Nat → Nat → Int64} {n : Nat} {T : Nat → Nat} {x1 x2 x3 x4 : Int32}
theorem s_M_sgn79 {q s : Nat} (hx : tx_m I n T) (hq : q < n) : am_V (d + 1) Q 165 79 [some (.ref 93), some (.int (nI (T q)))] [] (am_hp N r (mT I (nI (q + 1)) x2 (nI s) x4) J) = Q .null (am_hp N r (mT I (nI (if 256 ≤ sgw (T q) (tcx n T (q + 1)) then q + 2 else q + 1)) x2 (nI s) (nI (sgw (T q) (tcx n T (q + 1))))) J) := by
  have h7 := hx.1
  have hT := hx.2.2
  have ht := hT q hq
  have hc2 : tcx n T (q + 1) ≤ 256 := tc_le (fun k hk => (hT k hk).1)
  have last : ∀ v, v < 300 → am_V (d + 1) Q 165 150 [some (.ref 93), some (.int (nI (T q)))] [] (am_hp N r (mT I (nI (q + 1)) x2 (nI s) (nI v)) J) = Q .null (am_hp N r (mT I (nI (if 256 ≤ v then q + 2 else q + 1)) x2 (nI s) (nI v)) J) := by
    intro v hv
    rw [e_M_sign_150, mT_4, am_ifi (nI_ltI (by omega) (by omega))]
    by_cases c : v < 256
    · rw [if_pos c, e_M_sign_170, if_neg (by omega)]
    · rw [if_neg c, e_M_sign_170, if_pos (by omega), mT_1, mT_u1, nI_add]
  rw [e_M_sign_79, mT_u4, am_ifni (nI_eq (by omega) (by omega))]
  by_cases c60 : T q = 60
  · rw [if_pos c60, s_M_here hx (by omega), am_asIe, e_M_sign_94, am_ifni (hv_eqI hc2 (by omega)), mT_u4]
    have s128 : ∀ v, am_V (d + 1) Q 165 128 [some (.ref 93), some (.int (nI (T q)))] [] (am_hp N r (mT I (nI (q + 1)) x2 (nI s) v) J) = am_V (d + 1) Q 165 150 [some (.ref 93), some (.int (nI (T q)))] [] (am_hp N r (mT I (nI (q + 1)) x2 (nI s) v) J) := by
      intro v
      rw [e_M_sign_128, am_ifni (nI_eq (by omega) (by omega)), if_neg (by omega)]
    have s106 : ∀ v, am_V (d + 1) Q 165 106 [some (.ref 93), some (.int (nI (T q)))] [] (am_hp N r (mT I (nI (q + 1)) x2 (nI s) v) J) = (if tcx n T (q + 1) = 62 then am_V (d + 1) Q 165 150 [some (.ref 93), some (.int (nI (T q)))] [] (am_hp N r (mT I (nI (q + 1)) x2 (nI s) (nI 257)) J) else am_V (d + 1) Q 165 150 [some (.ref 93), some (.int (nI (T q)))] [] (am_hp N r (mT I (nI (q + 1)) x2 (nI s) v) J)) := by
      intro v
      rw [e_M_sign_106, am_ifni (nI_eq (by omega) (by omega)), if_pos c60, s_M_here hx (by omega), am_asIe, e_M_sign_116, am_ifni (hv_eqI hc2 (by omega)), mT_u4, s128, s128]
    by_cases d61 : tcx n T (q + 1) = 61
    · rw [if_pos d61, s106, if_neg (by omega), last 256 (by omega)]
      have : sgw (T q) (tcx n T (q + 1)) = 256 := by unfold sgw; rw [if_pos ⟨c60, d61⟩]
      rw [this]
    · rw [if_neg d61, s106]
      by_cases d62 : tcx n T (q + 1) = 62
      · rw [if_pos d62, last 257 (by omega)]
        have : sgw (T q) (tcx n T (q + 1)) = 257 := by unfold sgw; rw [if_neg (by omega), if_pos ⟨c60, d62⟩]
        rw [this]
      · rw [if_neg d62, last _ (by omega)]
        have : sgw (T q) (tcx n T (q + 1)) = T q := by unfold sgw; rw [if_neg (by omega), if_neg (by omega), if_neg (by omega)]
        rw [this]
  · rw [if_neg c60, e_M_sign_106, am_ifni (nI_eq (by omega) (by omega)), if_neg c60, e_M_sign_128, am_ifni (nI_eq (by omega) (by omega))]
    by_cases c62 : T q = 62
    · rw [if_pos c62, s_M_here hx (by omega), am_asIe, e_M_sign_138, am_ifni (hv_eqI hc2 (by omega)), mT_u4]
      by_cases d61 : tcx n T (q + 1) = 61
      · rw [if_pos d61, last 258 (by omega)]
        have : sgw (T q) (tcx n T (q + 1)) = 258 := by unfold sgw; rw [if_neg (by omega), if_neg (by omega), if_pos ⟨c62, d61⟩]
        rw [this]
      · rw [if_neg d61, last _ (by omega)]
        have : sgw (T q) (tcx n T (q + 1)) = T q := by unfold sgw; rw [if_neg (by omega), if_neg (by omega), if_neg (by omega)]
        rw [this]
    · rw [if_neg c62, last _ (by omega)]
      have : sgw (T q) (tcx n T (q + 1)) = T q := by unfold sgw; rw [if_neg (by omega), if_neg (by omega), if_neg (by omega)]
      rw [this]
theorem s_M_sign {q : Nat} (hx : tx_m I n T) (hq : q < n) : am_D (d + 2) 165 [.ref 93, .int (nI (T q))] (am_hp N r (mT I (nI q) x2 x3 x4) J) Q = Q .null (am_hp N r (mT I (nI (if 256 ≤ sgw (T q) (tcx n T (q + 1)) then q + 2 else q + 1)) x2 (nI (if sgin (T q) = true then 3 else 5)) (nI (sgw (T q) (tcx n T (q + 1))))) J) := by
  have h7 := hx.1
  have ht := hx.2.2 q hq
  rw [e_M_sign, mT_1, mT_u1, nI_add, mT_u3, mT_u3, s_M_sgn79 hx hq, s_M_sgn79 hx hq]
  rw [am_ifi (nI_eq (b := 59) (by omega) (by omega)), am_ifi (nI_eq (b := 40) (by omega) (by omega)), am_ifi (nI_eq (b := 41) (by omega) (by omega)), am_ifi (nI_eq (b := 43) (by omega) (by omega)), am_ifi (nI_eq (b := 45) (by omega) (by omega)), am_ifi (nI_eq (b := 42) (by omega) (by omega)), am_ifi (nI_eq (b := 47) (by omega) (by omega)), am_ifi (nI_eq (b := 60) (by omega) (by omega)), am_ifi (nI_eq (b := 61) (by omega) (by omega)), am_ifni (nI_eq (b := 62) (by omega) (by omega))]
  have h3 : ∀ h : (T q = 59 ∨ T q = 40 ∨ T q = 41 ∨ T q = 43 ∨ T q = 45 ∨ T q = 42 ∨ T q = 47 ∨ T q = 60 ∨ T q = 61 ∨ T q = 62), (if sgin (T q) = true then 3 else 5) = 3 := fun h => if_pos (decide_eq_true h)
  by_cases g1 : T q = 59
  · rw [if_pos g1, h3 (by omega)]
  rw [if_neg g1]
  by_cases g2 : T q = 40
  · rw [if_pos g2, h3 (by omega)]
  rw [if_neg g2]
  by_cases g3 : T q = 41
  · rw [if_pos g3, h3 (by omega)]
  rw [if_neg g3]
  by_cases g4 : T q = 43
  · rw [if_pos g4, h3 (by omega)]
  rw [if_neg g4]
  by_cases g5 : T q = 45
  · rw [if_pos g5, h3 (by omega)]
  rw [if_neg g5]
  by_cases g6 : T q = 42
  · rw [if_pos g6, h3 (by omega)]
  rw [if_neg g6]
  by_cases g7 : T q = 47
  · rw [if_pos g7, h3 (by omega)]
  rw [if_neg g7]
  by_cases g8 : T q = 60
  · rw [if_pos g8, h3 (by omega)]
  rw [if_neg g8]
  by_cases g9 : T q = 61
  · rw [if_pos g9, h3 (by omega)]
  rw [if_neg g9]
  by_cases g10 : T q = 62
  · rw [if_pos g10, h3 (by omega)]
  · rw [if_neg g10]
    have : (if sgin (T q) = true then 3 else 5) = 5 := if_neg (by unfold sgin; rw [decide_eq_false (by omega)]; simp)
    rw [this]
theorem s_M_token {p : Nat} (hx : tx_m I n T) (hi : i_str I) (hp : p ≤ n) (hQ : ∀ v, tvm n T p v → Q .null (am_hp N r (mK I n T p v) J)) : am_D (d + 7) 164 [.ref 93] (am_hp N r (mT I (nI p) x2 x3 x4) J) Q := by
  have h7 := hx.1
  have hT := hx.2.2
  have htc : ∀ q, tcx n T q ≤ 256 := fun q => tc_le (fun k hk => (hT k hk).1)
  obtain ⟨s1, s2, s3, s4⟩ := scn_ex (P := fun q => spc (tcx n T q)) (n := n) (sc_n rfl) 701 p hp (by omega)
  change spc (tcx n T (tkP n T p)) = false at s1
  change p ≤ tkP n T p at s2
  change tkP n T p ≤ n at s3
  change ∀ i, p ≤ i → i < tkP n T p → spc (tcx n T i) = true at s4
  have after : ∀ q, q = tkP n T p → am_V (d + 6) Q 164 43 [some (.ref 93), none] [.int (hv (tcx n T q))] (am_hp N r (mT I (nI q) (nI q) x3 x4) J) := by
    intro q hq
    have fin : ∀ k e s v, tkK n T p = k → tkE n T p = e → tso k = s → tvm n T p v → Q .null (am_hp N r (mT I (nI e) (nI q) (nI s) v) J) := by
      intro k e s v hk he hs hvv
      have := hQ v hvv
      unfold mK at this
      rw [hk, he, hs, ← hq] at this
      exact this
    have hW : tkW n T p = scn (fun q => smc (tcx n T q)) 701 q := by unfold tkW; rw [← hq]
    have hD : tkD n T p = scn (fun q => dgc (tcx n T q)) 701 q := by unfold tkD; rw [← hq]
    rw [e_M_token_43, am_ifni (hv_m1 (htc q))]
    by_cases c : q < n
    · have ht := hT q c
      have hC : tkC n T p = T q := by unfold tkC; rw [← hq, tc_in c]
      rw [if_neg (by rw [tc_in c]; omega), s_M_small (htc q), am_asIe, e_M_token_61, am_ifd, tc_in c]
      cases c1 : smc (T q) with
      | true =>
        rw [if_neg nt0]
        have hE : tkE n T p = scn (fun q => smc (tcx n T q)) 701 q := by
          unfold tkE
          rw [← hq, if_neg (by omega), hC, c1, cond_true, hW]
        obtain ⟨t1, t2, t3, t4⟩ := scn_ex (P := fun q => smc (tcx n T q)) (n := n) (sc_n rfl) 701 q (by omega) (by omega)
        generalize hEe : scn (fun q => smc (tcx n T q)) 701 q = e at hE hW t1 t2 t3 t4
        have lp : ∀ k j, e = q + j + k → am_V (d + 6) Q 164 64 [some (.ref 93), some (.int (hv (T q)))] [] (am_hp N r (mT I (nI (q + j)) (nI q) x3 x4) J) := by
          intro k
          induction k with
          | zero =>
            intro j hj
            have hje : q + j = e := by omega
            have t1' : smc (tcx n T e) = false := t1
            rw [hje]
            obtain ⟨W, hWW⟩ : ∃ W, fa_first (wmt T q e) 23 = W := ⟨_, rfl⟩
            have hlt : W ≤ 23 := by rw [← hWW]; exact fa_first_le _ _
            have hK : tkK n T p = (if W < 23 then 4 + W else if e - q ≤ 6 then 3 else 1) := by
              unfold tkK tkI
              rw [← hq, if_neg (by omega), hC, c1, cond_true, hW, hWW]
            rw [e_M_token_64, s_M_here hx (by omega), am_asIe, e_M_token_68, s_M_small (htc e), am_asIe, e_M_token_71, t1', am_ifd, if_pos nf0, s_M_word hx hi (by omega) t3, am_asIe, hWW, e_M_token_92, mT_u4, mT_4, mT_1, mT_2, am_subN (by omega), mT_u3, mT_3, mT_u3, mT_3, mT_u3, mT_3, am_ifd]
            by_cases cW : W < 23
            · rw [if_pos cW] at hK ⊢
              rw [if_neg (am_neg1' (by omega)), am_ifn, if_neg (by decide +kernel), e_M_token_225]
              refine fin _ _ 0 _ hK hE ?_ ⟨fun _ _ => ?_, fun g => by omega, fun g => by omega, fun g => by omega⟩
              · unfold tso; rw [if_neg (by omega), if_neg (by omega), if_neg (by omega), if_neg (by omega), if_pos (by omega)]
              · rw [hK, show 4 + W - 4 = W by omega]
            · rw [if_neg cW] at hK ⊢
              rw [if_pos rfl, am_ifi (nI_leI (by omega) (by omega))]
              by_cases c6 : e - q ≤ 6
              · rw [if_pos c6] at hK ⊢
                rw [am_ifn, if_pos rfl, s_M_name hx (by omega) t3, e_M_token_142, e_M_token_225]
                refine fin _ _ 1 _ hK hE rfl ⟨fun g => by omega, fun _ => ?_, fun g => by omega, fun g => by omega⟩
                unfold tkN
                rw [← hq, hW]
              · rw [if_neg c6] at hK ⊢
                rw [am_ifn, if_neg (by decide +kernel), e_M_token_225]
                exact fin _ _ 5 _ hK hE rfl ⟨fun g => by omega, fun g => by omega, fun g => by omega, fun g => by omega⟩
          | succ k ih =>
            intro j hj
            have hc : smc (tcx n T (q + j)) = true := t4 (q + j) (by omega) (by omega)
            rw [e_M_token_64, s_M_here hx (by omega), am_asIe, e_M_token_68, s_M_small (htc _), am_asIe, e_M_token_71, hc, am_ifd, if_neg nt0, mT_1, mT_u1, nI_add]
            exact ih (j + 1) (by omega)
        exact lp (e - q) 0 (by omega)
      | false =>
        rw [if_pos nf0, s_M_digit (by omega), am_asIe, e_M_token_149, am_ifd]
        cases c2 : dgc (T q) with
        | true =>
          rw [if_neg nt0, mT_u3, mT_u4]
          have hE : tkE n T p = scn (fun q => dgc (tcx n T q)) 701 q := by
            unfold tkE
            rw [← hq, if_neg (by omega), hC, c1, cond_false, c2, cond_true, hD]
          have hK : tkK n T p = 2 := by
            unfold tkK
            rw [← hq, if_neg (by omega), hC, c1, cond_false, c2, cond_true]
          refine s_M_number hx (by omega) ?_
          intro v hvv
          rw [e_M_token_225]
          refine fin 2 _ 2 _ hK hE rfl ⟨fun g => by omega, fun g => by omega, fun _ => ?_, fun g => by omega⟩
          unfold tkV
          rw [← hq, hD]
          exact hvv
        | false =>
          have hK : tkK n T p = sgk (T q) (tcx n T (q + 1)) := by
            unfold tkK
            rw [← hq, if_neg (by omega), hC, c1, cond_false, c2, cond_false]
          have hE : tkE n T p = if tkK n T p = 35 ∨ tkK n T p = 37 ∨ tkK n T p = 38 then q + 2 else q + 1 := by
            unfold tkE
            rw [← hq, if_neg (by omega), hC, c1, cond_false, c2, cond_false]
          rw [if_pos nf0, hv_in ht.1, s_M_sign hx c, e_M_token_225]
          rcases sgk_all (c2 := tcx n T (q + 1)) ht.1 with ⟨a1, a2, a3⟩ | ⟨a1, a2, a3, a4, a5⟩
          · rw [← hK] at a1
            rw [if_neg (by omega)] at hE
            rw [a2, a3, if_neg (by omega), if_neg (by simp)]
            exact fin _ _ 5 _ a1 hE rfl ⟨fun g => by omega, fun g => by omega, fun g => by omega, fun g => by omega⟩
          · rw [← hK] at a1 a2 a4 a5
            have hE2 : tkE n T p = if 256 ≤ sgw (T q) (tcx n T (q + 1)) then q + 2 else q + 1 := by
              rw [hE]
              by_cases g : 256 ≤ sgw (T q) (tcx n T (q + 1))
              · rw [if_pos g, if_pos (a5.mpr g)]
              · rw [if_neg g, if_neg (fun k => g (a5.mp k))]
            rw [a3, if_pos rfl]
            refine fin _ _ 3 _ rfl hE2 ?_ ⟨fun g => by omega, fun g => by omega, fun g => by omega, fun _ => by rw [a4]⟩
            unfold tso; rw [if_neg (by omega), if_neg (by omega), if_neg (by omega), if_neg (by omega), if_neg (by omega)]
    · have hK : tkK n T p = 0 := by unfold tkK; rw [if_pos (by omega)]
      have hE : tkE n T p = q := by unfold tkE; rw [if_pos (by omega), ← hq]
      rw [if_pos (tc_out (by omega)), mT_u3, e_M_token_225]
      exact fin 0 q 4 x4 hK hE rfl ⟨fun g => by omega, fun g => by omega, fun g => by omega, fun g => by omega⟩
  have lp : ∀ k q, tkP n T p = q + k → p ≤ q → am_V (d + 6) Q 164 0 [some (.ref 93), none] [] (am_hp N r (mT I (nI q) x2 x3 x4) J) := by
    intro k
    induction k with
    | zero =>
      intro q hq hpq
      have := after q (by omega)
      have hs := of_decide_eq_false s1
      rw [show tkP n T p = q by omega] at hs
      rw [e_M_token_0, s_M_here hx (by omega), am_asIe, e_M_token_4, am_ifi (hv_eqI (htc q) (by omega)), if_neg (by omega), s_M_here hx (by omega), am_asIe, e_M_token_13, am_ifni (hv_eqI (htc q) (by omega)), if_neg (by omega), mT_1, mT_u2, s_M_here hx (by omega), am_asIe]
      exact this
    | succ k ih =>
      intro q hq hpq
      have hs := of_decide_eq_true (s4 q hpq (by omega))
      have := ih (q + 1) (by omega) (by omega)
      rw [e_M_token_0, s_M_here hx (by omega), am_asIe, e_M_token_4, am_ifi (hv_eqI (htc q) (by omega)), s_M_here hx (by omega), am_asIe, e_M_token_13, am_ifni (hv_eqI (htc q) (by omega)), mT_1, mT_u1, nI_add]
      rcases hs with hs | hs
      · rw [if_pos hs]; exact this
      · rw [if_neg (by omega), if_pos hs]; exact this
  have e0 : am_D (d + 7) 164 [.ref 93] (am_hp N r (mT I (nI p) x2 x3 x4) J) Q = am_V (d + 6) Q 164 0 [some (.ref 93), none] [] (am_hp N r (mT I (nI p) x2 x3 x4) J) := rfl
  rw [e0]
  exact lp (tkP n T p - p) p (by omega) (Nat.le_refl _)
end
