/-! ===== L3: the class's tokens ===== -/
section
variable {d N : Nat} {Q : Value → am_H → Prop} {r : am_rho} {I : Nat → Nat → Int32} {J : Nat → Nat → Int64} {rt rs rd rl nt nw nf n : Nat} {T : Nat → Nat} {x1 x2 x3 x4 x5 : Int32}
theorem tc_le {p : Nat} (hx : ∀ k, k < n → T k < 256) : tcx n T p ≤ 256 := by
  by_cases c : p < n
  · rw [tc_in c]; have := hx p c; omega
  · rw [tc_out (by omega)]; omega
theorem sc_n {P : Nat → Bool} (h : P 256 = false) : (fun q => P (tcx n T q)) n = false := by
  show P (tcx n T n) = false
  rw [tc_out (Nat.le_refl _)]; exact h
/-- SIGNS.indexOf -/
theorem s_Str_sign {c : Nat} (hi : i_str I) (hc : c < 256) : am_D (d + 6) 285 [.ref 2004, .int (nI c)] (am_hp N r I J) Q = Q (.int (if fa_first (fun i => decide (sg i = c)) 7 < 7 then nI (fa_first (fun i => decide (sg i = c)) 7) else -nI 1)) (am_hp N r I J) := by
  have hs : ∀ k, k < 7 → sg k < 128 := by decide +kernel
  have out : ∀ k w, 7 = w + k → (∀ i, i < w → decide (sg i = c) = false) → am_V (d + 2) (fun v h => am_asI v (fun y => am_V (d + 3) (fun v h => am_asI v (fun y => am_V (d + 4) (fun v h => am_asI v (fun y => am_V (d + 5) Q 285 6 [some (.ref 2004), some (.int (nI c))] [.int y] h)) 286 20 [some (.ref 2004), some (.int (nI c)), some (.int (nI 0))] [.int y] h)) 292 36 [some (.ref 2014), some (.int (nI c)), some (.int (nI 0)), some (.int (nI 7))] [.int y] h)) 293 7 [some (.ref 2014), some (.int (nI c)), some (.int (nI 0)), some (.int (nI 7)), some (.int (Int8.toInt32 (Int32.toInt8 (nI c)))), some (.int (nI w))] [] (am_hp N r I J) = Q (.int (if fa_first (fun i => decide (sg i = c)) 7 < 7 then nI (fa_first (fun i => decide (sg i = c)) 7) else -nI 1)) (am_hp N r I J) := by
    intro k
    induction k with
    | zero =>
      intro w hw hp
      obtain rfl : w = 7 := by omega
      rw [e_Lbt_indexOfChar_7 (by omega), am_ifd, if_pos (by decide +kernel), am_asIe, e_Lbt_indexOf_36 (by omega), am_asIe, e_Str_indexOf2_20 (by omega), am_asIe, e_Str_indexOf_6 (by omega), fa_first_none hp, if_neg (by omega)]
    | succ k ih =>
      intro w hw hp
      have g : ((Nat.beq (am_TT N 2014).1 3 || (Nat.beq (am_TT N 2014).1 4 || Nat.beq (am_TT N 2014).1 7)) && am_inb (nI w) (am_TT N 2014).2) = true := by
        show (true && am_inb (nI w) 7) = true
        rw [am_inbT (by omega) (by omega)]; rfl
      have hsb : Int8.toInt32 (Int32.toInt8 (nI c)) = sbx c := rfl
      rw [e_Lbt_indexOfChar_7 (by omega), am_ifd, if_neg (by rw [nI_leI (by omega) (by omega)]; omega), am_gT g, am_ifn, nI_clamp (by omega), hi.2.2.2.2.1 w (by omega)]
      by_cases c1 : sg w = c
      · have h128 := hs w (by omega)
        rw [if_pos (by rw [hsb, c1, sb_lo (by omega)]), am_asIe, e_Lbt_indexOf_36 (by omega), am_asIe, e_Str_indexOf2_20 (by omega), am_asIe, e_Str_indexOf_6 (by omega), fa_first_step (show w < 7 by omega) hp (decide_eq_true c1), if_pos (by omega)]
      · rw [if_neg (by rw [hsb]; intro e; exact c1 (((sb_eqI hc (hs w (by omega))).mp e.symm).symm)), nI_add]
        refine ih (w + 1) (by omega) ?_
        intro i hi
        by_cases e : i = w
        · subst e; exact decide_eq_false c1
        · exact hp i (by omega)
  rw [e_Str_indexOf (by omega), e_Str_indexOf2 (by omega), e_Str_isLatin1 (by omega), hi.2.1, am_ifn, if_pos rfl, am_asIe, e_Str_indexOf2_4 (by omega), am_ifd, if_neg n10, s_Str_len (n := 7) (by omega) hi.2.1 rfl, am_asIe, e_Str_indexOf2_17 (by omega) (by omega), e_Lbt_indexOf (by omega), e_Lat_canEncode, am_ifd, if_neg (by rw [nI_ltI (by omega) (by omega)]; omega), am_ifd, if_neg (by rw [nI_ltI (by omega) (by omega)]; omega), am_asIe, e_Lbt_indexOf_4 (by omega), am_ifn, if_neg n10, e_J_max, am_ifd, if_neg (by decide +kernel), am_asIe, e_Lbt_indexOf_14 (by omega), st_T4, am_gT (by rfl), e_J_min, am_ifd, if_neg (by decide +kernel), am_asIe, e_Lbt_indexOf_21 (by omega), am_ifd, if_pos (by decide +kernel), e_Lbt_indexOfChar (by omega)]
  exact out 7 0 (by omega) (fun i hi => by omega)
/-- a number, as the class reads it -/
theorem s_Tk_number {q : Nat} (hx : tx_c I n T) (hq : q ≤ n) (hQ : Q .null (am_hp N (rt, rs, rd, rl, 2, nt, nw, nf) (tH I (nI n) (nI (scn (fun q => dgc (tcx n T q)) 701 q)) (nI 2) x4 (nI (min (dgv T q (scn (fun q => dgc (tcx n T q)) 701 q - q)) 1000000))) J)) : am_D (d + 2) 68 [.ref 44] (am_hp N (rt, rs, rd, rl, 2, nt, nw, nf) (tH I (nI n) (nI q) x3 x4 x5) J) Q := by
  have h7 := hx.1
  have lp : ∀ k j, n = q + j + k → (∀ i, q ≤ i → i < q + j → dgc (tcx n T i) = true) → am_V (d + 1) Q 68 10 [some (.ref 44)] [] (am_hp N (rt, rs, rd, rl, 2, nt, nw, nf) (tH I (nI n) (nI (q + j)) (nI 2) x4 (nI (min (dgv T q j) 1000000))) J) := by
    intro k
    induction k with
    | zero =>
      intro j hj hp
      have e : scn (fun q => dgc (tcx n T q)) 701 q = q + j := scn_u (by show dgc (tcx n T (q + j)) = false; rw [tc_out (by omega)]; rfl) _ _ (by omega) (by omega) hp
      rw [e, show q + j - q = j by omega] at hQ
      rw [e_Tokens_readNumber_10, tH_1, tH_2, am_ifi (nI_leI (by omega) (by omega)), if_pos (by omega)]
      exact hQ
    | succ k ih =>
      intro j hj hp
      rw [e_Tokens_readNumber_10, tH_1, tH_2, am_ifi (nI_leI (by omega) (by omega)), if_neg (by omega), s_Tk_digit hx (by omega), am_asIe, e_Tokens_readNumber_29 (Or.inl rfl), am_ifd]
      cases c : dgc (tcx n T (q + j)) with
      | false =>
        have e : scn (fun q => dgc (tcx n T q)) 701 q = q + j := scn_u (P := fun q => dgc (tcx n T q)) (q := q + j) c _ _ (by omega) (by omega) hp
        rw [e, show q + j - q = j by omega] at hQ
        rw [if_pos (by decide +kernel)]
        exact hQ
      | true =>
        have hc := of_decide_eq_true c
        rw [tc_in (by omega)] at hc
        have ht := hx.2 (q + j) (by omega)
        rw [if_neg (show ¬ nI (true).toNat = nI 0 from n10), am_gT (by rw [tH_2]; exact tx_g (by omega)), tH_2, tH_5, nI_clamp (by omega), tH_o (by omega), ht.2, sb_lo (by omega), am_mulN, nI_add, am_subN (by omega), e_J_min, am_ifi (nI_ltI (by omega) (by omega))]
        have fin : ∀ y, y = min (dgv T q (j + 1)) 1000000 → am_V (d + 1) Q 68 58 [some (.ref 44)] [.int (nI y), .ref 44] (am_hp N (rt, rs, rd, rl, 2, nt, nw, nf) (tH I (nI n) (nI (q + j)) (nI 2) x4 (nI (min (dgv T q j) 1000000))) J) := by
          intro y hy
          rw [e_Tokens_readNumber_58, tH_u5, tH_2, tH_u2, nI_add, hy]
          refine ih (j + 1) (by omega) ?_
          intro i h1 h2
          by_cases e : i = q + j
          · subst e; exact c
          · exact hp i h1 (by omega)
        have hd : dgv T q (j + 1) = 10 * dgv T q j + (T (q + j) - 48) := rfl
        by_cases c2 : min (dgv T q j) 1000000 * 10 + T (q + j) - 48 < 1000000
        · rw [if_pos c2, am_asIe]
          exact fin _ (by rw [hd]; omega)
        · rw [if_neg c2, am_asIe]
          exact fin _ (by rw [hd]; omega)
  rw [e_Tokens_readNumber, tH_u3, tH_u5]
  exact lp (n - q) 0 (by omega) (fun i h1 h2 => by omega)
/-- a word or a name -/
theorem s_Tk_readWord {q e : Nat} (hx : tx_c I n T) (hi : i_str I) (hq : q ≤ n) (he : e = scn (fun q => smc (tcx n T q)) 701 q)
    (hQ : ∀ k v, k = (if fa_first (wmt T q e) 23 < 23 then 4 + fa_first (wmt T q e) 23 else if e - q ≤ 6 then 3 else 1) → (k = 3 → v = nmv T q e 6) → Q .null (am_hp N (rt, rs, rd, rl, 2, nt, nw, nf) (tH I (nI n) (nI e) (nI k) (nI q) v) J)) :
    am_D (d + 7) 69 [.ref 44] (am_hp N (rt, rs, rd, rl, 2, nt, nw, nf) (tH I (nI n) (nI q) x3 (nI q) x5) J) Q := by
  have h7 := hx.1
  obtain ⟨s1, s2, s3, s4⟩ := scn_ex (P := fun q => smc (tcx n T q)) (n := n) (sc_n rfl) 701 q hq (by omega)
  rw [← he] at s1 s2 s3 s4
  have nm : ∀ k j x1, 6 = j + k → am_V (d + 6) Q 69 92 [some (.ref 44), some (.int x1), some (.int (nI (q + j)))] [] (am_hp N (rt, rs, rd, rl, 2, nt, nw, nf) (tH I (nI n) (nI e) (nI 3) (nI q) (nmv T q e j)) J) = Q .null (am_hp N (rt, rs, rd, rl, 2, nt, nw, nf) (tH I (nI n) (nI e) (nI 3) (nI q) (nmv T q e 6)) J) := by
    intro k
    induction k with
    | zero =>
      intro j x1 hj
      obtain rfl : j = 6 := by omega
      rw [e_Tokens_readWord_92 (Or.inl rfl), tH_4, nI_add, am_ifd, if_pos (by rw [nI_leI (by omega) (by omega)]; omega)]
    | succ k ih =>
      intro j x1 hj
      have hv : nmv T q e (j + 1) = (nmv T q e j <<< (nI 5 &&& nI 31)) ||| (if q + j < e then (nI (T (q + j)) - nI 97) + nI 1 else nI 0) := rfl
      rw [e_Tokens_readWord_92 (Or.inl rfl), tH_4, nI_add, am_ifd, if_neg (by rw [nI_leI (by omega) (by omega)]; omega), tH_2, am_ifi (nI_leI (by omega) (by omega)), ← ih (j + 1) x1 (by omega), hv, show q + (j + 1) = q + j + 1 by omega]
      by_cases c : e ≤ q + j
      · rw [if_pos c, if_neg (by omega), tH_5, tH_u5, nI_add]
      · have ht := hx.2 (q + j) (by omega)
        have hc := of_decide_eq_true (s4 (q + j) (by omega) (by omega))
        rw [tc_in (by omega)] at hc
        rw [if_neg c, if_pos (by omega), am_gT (tx_g (by omega)), tH_5, tH_u5, nI_add, nI_clamp (by omega), tH_o (by omega), ht.2, sb_lo (by omega)]
  have lp : ∀ k j, e = q + j + k → am_V (d + 6) Q 69 0 [some (.ref 44), none, none] [] (am_hp N (rt, rs, rd, rl, 2, nt, nw, nf) (tH I (nI n) (nI (q + j)) x3 (nI q) x5) J) := by
    intro k
    induction k with
    | zero =>
      intro j hj
      have hje : q + j = e := by omega
      have s1' : smc (tcx n T e) = false := s1
      rw [hje]
      obtain ⟨W, hW⟩ : ∃ W, fa_first (wmt T q e) 23 = W := ⟨_, rfl⟩
      have hlt : W ≤ 23 := by rw [← hW]; exact fa_first_le _ _
      have tail : am_D (d + 6) 70 [.ref 44] (am_hp N (rt, rs, rd, rl, 2, nt, nw, nf) (tH I (nI n) (nI e) x3 (nI q) x5) J) (fun v h => am_asI v (fun y => am_V (d + 6) Q 69 39 [some (.ref 44), none, none] [.int y] h)) := by
        rw [s_Tk_word hx hi (by omega) s3, am_asIe, hW, e_Tokens_readWord_39, tH_2, tH_4, am_subN (by omega), am_ifd]
        rw [hW] at hQ
        by_cases c : W < 23
        · rw [if_pos c, if_neg (am_neg1' (by omega)), nI_add, tH_u3]
          exact hQ _ _ (by rw [if_pos c]) (fun g => by omega)
        · rw [if_neg c, if_pos rfl, am_ifi (nI_leI (by omega) (by omega))]
          by_cases c2 : e - q ≤ 6
          · rw [if_pos c2, tH_u3, tH_u5, tH_4]
            have := nm 6 0 (-nI 1) (by omega)
            rw [show q + 0 = q from rfl, show nmv T q e 0 = nI 0 from rfl] at this
            rw [this]
            exact hQ 3 _ (by rw [if_neg c, if_pos c2]) (fun _ => rfl)
          · rw [if_neg c2, tH_u3]
            exact hQ 1 _ (by rw [if_neg c, if_neg c2]) (fun g => by omega)
      rw [e_Tokens_readWord_0, tH_1, tH_2, am_ifi (nI_leI (by omega) (by omega))]
      by_cases c0 : n ≤ e
      · rw [if_pos c0]
        exact tail
      · rw [if_neg c0, s_Tk_small hx (by omega), am_asIe, e_Tokens_readWord_19, s1', am_ifd, if_pos (by decide +kernel)]
        exact tail
    | succ k ih =>
      intro j hj
      have hc : smc (tcx n T (q + j)) = true := s4 (q + j) (by omega) (by omega)
      rw [e_Tokens_readWord_0, tH_1, tH_2, am_ifi (nI_leI (by omega) (by omega)), if_neg (by omega), s_Tk_small hx (by omega), am_asIe, e_Tokens_readWord_19, hc, am_ifd, if_neg (show ¬ nI (true).toNat = nI 0 from n10), tH_2, tH_u2, nI_add]
      exact ih (j + 1) (by omega)
  have e0 : am_D (d + 7) 69 [.ref 44] (am_hp N (rt, rs, rd, rl, 2, nt, nw, nf) (tH I (nI n) (nI q) x3 (nI q) x5) J) Q = am_V (d + 6) Q 69 0 [some (.ref 44), none, none] [] (am_hp N (rt, rs, rd, rl, 2, nt, nw, nf) (tH I (nI n) (nI q) x3 (nI q) x5) J) := rfl
  rw [e0]
  exact lp (e - q) 0 (by omega)
/-- a sign -/
theorem sgk_le {c c2 : Nat} : 1 ≤ sgk c c2 ∧ sgk c c2 < 40 := by
  unfold sgk
  have := fa_first_le (fun i => decide (sg i = c)) 7
  split
  · split
    · omega
    · split <;> omega
  · split
    · split <;> omega
    · split
      · omega
      · split <;> omega
theorem s_Tk_sign {q : Nat} (hx : tx_c I n T) (hi : i_str I) (hq : q < n) (hQ : ∀ k, k = sgk (T q) (tcx n T (q + 1)) → Q .null (am_hp N (rt, rs, rd, rl, 2, nt, nw, nf) (tH I (nI n) (nI (if k = 35 ∨ k = 37 ∨ k = 38 then q + 2 else q + 1)) (nI k) x4 x5) J)) :
    am_D (d + 7) 71 [.ref 44] (am_hp N (rt, rs, rd, rl, 2, nt, nw, nf) (tH I (nI n) (nI q) x3 x4 x5) J) Q := by
  have h7 := hx.1
  have ht := hx.2 q hq
  have tail : ∀ k, k < 40 → k = sgk (T q) (tcx n T (q + 1)) → am_if (decide ((nI k) = (nI 35))) (Q .null (am_hp N (rt, rs, rd, rl, 2, nt, nw, nf) (tH I (nI n) (nI (q + 2)) (nI k) x4 x5) J)) (am_if (decide (nI k = (nI 37))) (Q .null (am_hp N (rt, rs, rd, rl, 2, nt, nw, nf) (tH I (nI n) (nI (q + 2)) (nI k) x4 x5) J)) (am_if (!(decide (nI k = (nI 38)))) (Q .null (am_hp N (rt, rs, rd, rl, 2, nt, nw, nf) (tH I (nI n) (nI (q + 1)) (nI k) x4 x5) J)) (Q .null (am_hp N (rt, rs, rd, rl, 2, nt, nw, nf) (tH I (nI n) (nI (q + 2)) (nI k) x4 x5) J)))) := by
    intro k h40 hk
    have := hQ k hk
    rw [am_ifi (nI_eq (by omega) (by omega)), am_ifi (nI_eq (by omega) (by omega)), am_ifni (nI_eq (by omega) (by omega))]
    by_cases c : k = 35 ∨ k = 37 ∨ k = 38
    · rw [if_pos c] at this
      rcases c with rfl | rfl | rfl
      · rw [if_pos rfl]; exact this
      · rw [if_neg (by omega), if_pos rfl]; exact this
      · rw [if_neg (by omega), if_neg (by omega), if_pos rfl]; exact this
    · rw [if_neg c] at this
      rw [if_neg (by omega), if_neg (by omega), if_neg (by omega)]; exact this
  have e2 : q + 1 + 1 = q + 2 := rfl
  rw [e_Tokens_readSign (Or.inl rfl), tH_2, am_gT (tx_g (by omega)), nI_clamp (by omega), tH_o (by omega), ht.2, sb_and _ ht.1, tH_u2, nI_add, tH_2, tH_u3, tH_3, tH_2, tH_u2, nI_add, e2]
  rw [am_ifi (c := nI (T q) = nI 60) (c' := T q = 60) (nI_eq (by omega) (by omega)), am_ifi (c := nI (T q) = nI 61) (c' := T q = 61) (nI_eq (by omega) (by omega)), am_ifi (c := nI (T q) = nI 62) (c' := T q = 62) (nI_eq (by omega) (by omega))]
  by_cases c60 : T q = 60
  · rw [if_pos c60, s_Tk_isAt hx (by omega) (by omega), am_asIe, e_Tokens_readSign_63, am_ifd]
    by_cases d61 : tcx n T (q + 1) = 61
    · rw [bo_t d61, if_neg n10, tH_u3, tH_3, tH_2, tH_u2, nI_add, e2]
      exact tail 35 (by omega) (by unfold sgk; rw [if_pos c60, if_pos d61])
    · rw [bo_f d61, if_pos rfl, tH_2, s_Tk_isAt hx (by omega) (by omega), am_asIe, e_Tokens_readSign_81, am_ifd]
      by_cases d62 : tcx n T (q + 1) = 62
      · rw [bo_t d62, if_neg n10, tH_u3, tH_3, tH_2, tH_u2, nI_add, e2]
        exact tail 37 (by omega) (by unfold sgk; rw [if_pos c60, if_neg d61, if_pos d62])
      · rw [bo_f d62, if_pos rfl, tH_u3, tH_3, tH_2, tH_u2, nI_add, e2]
        exact tail 34 (by omega) (by unfold sgk; rw [if_pos c60, if_neg d61, if_neg d62])
  · rw [if_neg c60]
    by_cases c61 : T q = 61
    · rw [if_pos c61]
      exact tail 36 (by omega) (by unfold sgk; rw [if_neg c60, if_neg (by omega), if_pos c61])
    · rw [if_neg c61]
      by_cases c62 : T q = 62
      · rw [if_pos c62, s_Tk_isAt hx (by omega) (by omega), am_asIe, e_Tokens_readSign_108, am_ifd]
        by_cases d61 : tcx n T (q + 1) = 61
        · rw [bo_t d61, if_neg n10, tH_u3, tH_3, tH_2, tH_u2, nI_add, e2]
          exact tail 38 (by omega) (by unfold sgk; rw [if_neg c60, if_pos c62, if_pos d61])
        · rw [bo_f d61, if_pos rfl, tH_u3, tH_3, tH_2, tH_u2, nI_add, e2]
          exact tail 39 (by omega) (by unfold sgk; rw [if_neg c60, if_pos c62, if_neg d61])
      · rw [if_neg c62, s_Str_sign (tH_str hi) ht.1, am_asIe, e_Tokens_readSign_139, am_ifd]
        have hle := fa_first_le (fun i => decide (sg i = T q)) 7
        by_cases cf : fa_first (fun i => decide (sg i = T q)) 7 < 7
        · rw [if_pos cf, if_pos (nI_le (by omega) (by omega)), nI_add, tH_u3, tH_3, tH_2, tH_u2, nI_add, e2]
          exact tail _ (by omega) (by unfold sgk; rw [if_neg c60, if_neg c62, if_neg c61, if_pos cf])
        · rw [if_neg cf, if_neg (by decide +kernel), tH_u3, tH_3, tH_2, tH_u2, nI_add, e2]
          exact tail 1 (by omega) (by unfold sgk; rw [if_neg c60, if_neg c62, if_neg c61, if_neg cf])
/-- what the value of a token is -/
def tvc (n : Nat) (T : Nat → Nat) (p : Nat) (v : Int32) : Prop := (tkK n T p = 2 → v = nI (min (tkV n T p) 1000000)) ∧ (tkK n T p = 3 → v = tkN n T p)
def tK (I : Nat → Nat → Int32) (n : Nat) (T : Nat → Nat) (p : Nat) (v : Int32) : Nat → Nat → Int32 := tH I (nI n) (nI (tkE n T p)) (nI (tkK n T p)) (nI (tkP n T p)) v
theorem s_Tk_advance {p : Nat} (hx : tx_c I n T) (hi : i_str I) (hp : p ≤ n) (hQ : ∀ v, tvc n T p v → Q .null (am_hp N (rt, rs, rd, rl, 2, nt, nw, nf) (tK I n T p v) J)) :
    am_D (d + 9) 64 [.ref 44] (am_hp N (rt, rs, rd, rl, 2, nt, nw, nf) (tH I (nI n) (nI p) x3 x4 x5) J) Q := by
  have h7 := hx.1
  obtain ⟨s1, s2, s3, s4⟩ := scn_ex (P := fun q => spc (tcx n T q)) (n := n) (sc_n rfl) 701 p hp (by omega)
  change spc (tcx n T (tkP n T p)) = false at s1
  change p ≤ tkP n T p at s2
  change tkP n T p ≤ n at s3
  change ∀ i, p ≤ i → i < tkP n T p → spc (tcx n T i) = true at s4
  have after : ∀ q, q = tkP n T p → am_if (decide (nI q < nI n)) (am_D (d + 8) 65 [.ref 44, .int (nI q)] (am_hp N (rt, rs, rd, rl, 2, nt, nw, nf) (tH I (nI n) (nI q) x3 (nI q) x5) J) (fun v h => am_asI v (fun y => am_V (d + 8) Q 64 87 [some (.ref 44)] [.int y] h))) (am_V (d + 8) Q 64 119 [some (.ref 44)] [] (am_hp N (rt, rs, rd, rl, 2, nt, nw, nf) (tH I (nI n) (nI q) (nI 0) (nI q) x5) J)) := by
    intro q hq
    rw [am_ifi (nI_ltI (by omega) (by omega))]
    have fin : ∀ k e v, tkK n T p = k → tkE n T p = e → tvc n T p v → Q .null (am_hp N (rt, rs, rd, rl, 2, nt, nw, nf) (tH I (nI n) (nI e) (nI k) (nI q) v) J) := by
      intro k e v hk he hv
      have := hQ v hv
      unfold tK at this
      rw [hk, he, ← hq] at this
      exact this
    have hW : tkW n T p = scn (fun q => smc (tcx n T q)) 701 q := by unfold tkW; rw [← hq]
    have hD : tkD n T p = scn (fun q => dgc (tcx n T q)) 701 q := by unfold tkD; rw [← hq]
    by_cases c : q < n
    · have ht := hx.2 q c
      have hC : tkC n T p = T q := by unfold tkC; rw [← hq, tc_in c]
      rw [if_pos c, s_Tk_small hx (by omega), am_asIe, e_Tokens_advance_87, am_ifd, tc_in c]
      cases c1 : smc (T q) with
      | true =>
        rw [if_neg nt0]
        have hE : tkE n T p = scn (fun q => smc (tcx n T q)) 701 q := by
          unfold tkE
          rw [← hq, if_neg (by omega), hC, c1, cond_true, hW]
        refine s_Tk_readWord hx hi (by omega) hE ?_
        intro k v hk hv
        have hK : tkK n T p = k := by
          unfold tkK tkI
          rw [← hq, if_neg (by omega), hC, c1, cond_true, hW, ← hE]
          exact hk.symm
        rw [e_Tokens_advance_94, e_Tokens_advance_119]
        refine fin k _ v hK rfl ⟨?_, ?_⟩
        · intro g
          rw [hK] at g
          exfalso
          rw [g] at hk
          split at hk
          · omega
          · split at hk <;> omega
        · intro g
          rw [hK] at g
          rw [hv g]
          unfold tkN
          rw [← hq, hW, ← hE]
      | false =>
        rw [if_pos nf0, tH_2, s_Tk_digit hx (by omega), am_asIe, e_Tokens_advance_105, am_ifd, tc_in c]
        cases c2 : dgc (T q) with
        | true =>
          rw [if_neg nt0]
          have hE : tkE n T p = scn (fun q => dgc (tcx n T q)) 701 q := by
            unfold tkE
            rw [← hq, if_neg (by omega), hC, c1, cond_false, c2, cond_true, hD]
          have hK : tkK n T p = 2 := by
            unfold tkK
            rw [← hq, if_neg (by omega), hC, c1, cond_false, c2, cond_true]
          refine s_Tk_number hx (by omega) ?_
          rw [e_Tokens_advance_112, e_Tokens_advance_119]
          refine fin 2 _ _ hK hE ⟨fun _ => ?_, fun g => by omega⟩
          unfold tkV
          rw [← hq, hD]
        | false =>
          rw [if_pos nf0]
          have hK : tkK n T p = sgk (T q) (tcx n T (q + 1)) := by
            unfold tkK
            rw [← hq, if_neg (by omega), hC, c1, cond_false, c2, cond_false]
          have hE : tkE n T p = if tkK n T p = 35 ∨ tkK n T p = 37 ∨ tkK n T p = 38 then q + 2 else q + 1 := by
            unfold tkE
            rw [← hq, if_neg (by omega), hC, c1, cond_false, c2, cond_false]
          refine s_Tk_sign hx hi c ?_
          intro k hk
          rw [← hK] at hk
          rw [e_Tokens_advance_119, hk]
          have h23 : tkK n T p ≠ 2 ∧ tkK n T p ≠ 3 := by
            rw [hK]
            unfold sgk
            have hle := fa_first_le (fun i => decide (sg i = T q)) 7
            split
            · split
              · omega
              · split <;> omega
            · split
              · split <;> omega
              · split
                · omega
                · split <;> omega
          exact fin _ _ x5 rfl hE ⟨fun g => absurd g h23.1, fun g => absurd g h23.2⟩
    · have hK : tkK n T p = 0 := by unfold tkK; rw [if_pos (by omega)]
      have hE : tkE n T p = q := by unfold tkE; rw [if_pos (by omega), ← hq]
      rw [if_neg c, e_Tokens_advance_119]
      exact fin 0 q x5 hK hE ⟨fun g => by omega, fun g => by omega⟩
  have lp : ∀ k q, tkP n T p = q + k → p ≤ q → am_V (d + 8) Q 64 0 [some (.ref 44)] [] (am_hp N (rt, rs, rd, rl, 2, nt, nw, nf) (tH I (nI n) (nI q) x3 x4 x5) J) := by
    intro k
    induction k with
    | zero =>
      intro q hq hpq
      have := after q (by omega)
      rw [e_Tokens_advance_0 (Or.inl rfl), tH_2, tH_1, tH_u4, tH_2, tH_1, tH_u3, am_ifd]
      by_cases c : n ≤ q
      · rw [if_pos (by rw [nI_leI (by omega) (by omega)]; exact c)]; exact this
      · have ht := hx.2 q (by omega)
        have hs := of_decide_eq_false s1
        rw [show tkP n T p = q by omega, tc_in (by omega)] at hs
        rw [if_neg (by rw [nI_leI (by omega) (by omega)]; exact c), am_gT (tx_g (by omega)), am_gT (tx_g (by omega)), nI_clamp (by omega), tH_o (by omega), ht.2, am_ifi (sb_eqI ht.1 (by omega)), am_ifni (sb_eqI ht.1 (by omega)), if_neg (by omega), if_neg (by omega)]
        exact this
    | succ k ih =>
      intro q hq hpq
      have ht := hx.2 q (by omega)
      have hs := of_decide_eq_true (s4 q hpq (by omega))
      rw [tc_in (by omega)] at hs
      have := ih (q + 1) (by omega) (by omega)
      rw [e_Tokens_advance_0 (Or.inl rfl), tH_2, tH_1, tH_u4, tH_2, tH_1, tH_u3, am_ifd, if_neg (by rw [nI_leI (by omega) (by omega)]; omega), am_gT (tx_g (by omega)), am_gT (tx_g (by omega)), nI_clamp (by omega), tH_o (by omega), ht.2, am_ifi (sb_eqI ht.1 (by omega)), am_ifni (sb_eqI ht.1 (by omega)), tH_u2, nI_add]
      rcases hs with hs | hs
      · rw [if_neg (by omega), if_pos hs]; exact this
      · rw [if_pos hs]; exact this
  have e0 : am_D (d + 9) 64 [.ref 44] (am_hp N (rt, rs, rd, rl, 2, nt, nw, nf) (tH I (nI n) (nI p) x3 x4 x5) J) Q = am_V (d + 8) Q 64 0 [some (.ref 44)] [] (am_hp N (rt, rs, rd, rl, 2, nt, nw, nf) (tH I (nI n) (nI p) x3 x4 x5) J) := rfl
  rw [e0]
  exact lp (tkP n T p - p) p (by omega) (Nat.le_refl _)
end
