/-! ===== L3: the signs of a text, and its tokens, as both read them ===== -/
def sbx (c : Nat) : Int32 := (nI c).toInt8.toInt32
theorem sb_lo {c : Nat} (h : c < 128) : sbx c = nI c := fa_byte_small h
theorem sb_hi : ∀ c, c < 256 → 128 ≤ c → sbx c < nI 0 := by decide +kernel
theorem sb_and : ∀ c, c < 256 → (UInt32.toInt32 (Int32.toUInt32 (sbx c &&& nI 255) % 65536)) = nI c := by decide +kernel
theorem sb_eqI {c x : Nat} (hc : c < 256) (hx : x < 128) : sbx c = nI x ↔ c = x := by
  rcases Nat.lt_or_ge c 128 with h | h
  · rw [sb_lo h, nI_eq (by omega) (by omega)]
  · have := sb_hi c hc h
    constructor
    · intro e; rw [e, nI_ltI (by omega) (by omega)] at this; omega
    · intro e; omega
theorem sb_ltI {c x : Nat} (hc : c < 256) (hx : x < 128) : sbx c < nI x ↔ (128 ≤ c ∨ c < x) := by
  rcases Nat.lt_or_ge c 128 with h | h
  · rw [sb_lo h, nI_ltI (by omega) (by omega)]; omega
  · have := sb_hi c hc h
    constructor
    · intro _; exact Or.inl h
    · intro _
      rw [fa_lt, nI_toInt (by omega)] at this
      rw [fa_lt, nI_toInt (by omega)]; omega
theorem sb_gtI {c x : Nat} (hc : c < 256) (hx : x < 128) : nI x < sbx c ↔ (c < 128 ∧ x < c) := by
  rcases Nat.lt_or_ge c 128 with h | h
  · rw [sb_lo h, nI_ltI (by omega) (by omega)]; omega
  · have := sb_hi c hc h
    constructor
    · intro g
      rw [fa_lt, nI_toInt (by omega)] at this
      rw [fa_lt, nI_toInt (by omega)] at g; omega
    · intro g; omega
def tcx (n : Nat) (T : Nat → Nat) (p : Nat) : Nat := if p < n then T p else 256
def smc (c : Nat) : Bool := decide (97 ≤ c ∧ c ≤ 122)
def dgc (c : Nat) : Bool := decide (48 ≤ c ∧ c ≤ 57)
def spc (c : Nat) : Bool := decide (c = 10 ∨ c = 32)
theorem tc_in {n : Nat} {T : Nat → Nat} {p : Nat} (h : p < n) : tcx n T p = T p := if_pos h
theorem tc_out {n : Nat} {T : Nat → Nat} {p : Nat} (h : n ≤ p) : tcx n T p = 256 := if_neg (by omega)
/-- on from p while it is so -/
def scn (P : Nat → Bool) : Nat → Nat → Nat
  | 0, p => p
  | m + 1, p => bif P p then scn P m (p + 1) else p
theorem scn_u {P : Nat → Bool} {q : Nat} (hq : P q = false) : ∀ (m p : Nat), p ≤ q → q ≤ p + m → (∀ i, p ≤ i → i < q → P i = true) → scn P m p = q
  | 0, p, h1, h2, _ => by show p = q; omega
  | m + 1, p, h1, h2, h3 => by
    show (bif P p then scn P m (p + 1) else p) = q
    by_cases e : p = q
    · subst e; rw [hq]; rfl
    · rw [h3 p (Nat.le_refl _) (by omega)]
      exact scn_u hq m (p + 1) (by omega) (by omega) (fun i a b => h3 i (by omega) b)
theorem scn_ex {P : Nat → Bool} {n : Nat} (hn : P n = false) : ∀ (m p : Nat), p ≤ n → n ≤ p + m → P (scn P m p) = false ∧ p ≤ scn P m p ∧ scn P m p ≤ n ∧ ∀ i, p ≤ i → i < scn P m p → P i = true
  | 0, p, h1, h2 => by
    obtain rfl : p = n := by omega
    have e : scn P 0 p = p := rfl
    rw [e]
    exact ⟨hn, Nat.le_refl _, Nat.le_refl _, fun i a b => by omega⟩
  | m + 1, p, h1, h2 => by
    cases hP : P p with
    | false =>
      have e : scn P (m + 1) p = p := by show (bif P p then _ else p) = p; rw [hP]; rfl
      rw [e]
      exact ⟨hP, Nat.le_refl _, h1, fun i a b => by omega⟩
    | true =>
      have hne : p ≠ n := fun q => by subst q; rw [hn] at hP; cases hP
      have e : scn P (m + 1) p = scn P m (p + 1) := by show (bif P p then scn P m (p + 1) else p) = _; rw [hP]; rfl
      rw [e]
      obtain ⟨a, b, c, f⟩ := scn_ex hn m (p + 1) (by omega) (by omega)
      refine ⟨a, by omega, c, fun i g1 g2 => ?_⟩
      by_cases q : i = p
      · subst q; exact hP
      · exact f i (by omega) g2
def wma (T : Nat → Nat) (pl e w : Nat) : Nat → Bool
  | 0 => true
  | j + 1 => wma T pl e w j && (decide (pl + j < e) && decide (T (pl + j) = wd (wsx w + j)))
def wmt (T : Nat → Nat) (pl e w : Nat) : Bool := wma T pl e w (wl w) && decide (pl + wl w = e)
def sgk (c c2 : Nat) : Nat := if c = 60 then (if c2 = 61 then 35 else if c2 = 62 then 37 else 34) else if c = 62 then (if c2 = 61 then 38 else 39) else if c = 61 then 36 else (if fa_first (fun i => decide (sg i = c)) 7 < 7 then 27 + fa_first (fun i => decide (sg i = c)) 7 else 1)
def nmv (T : Nat → Nat) (pl e : Nat) : Nat → Int32
  | 0 => nI 0
  | k + 1 => (nmv T pl e k <<< (nI 5 &&& nI 31)) ||| (if pl + k < e then (nI (T (pl + k)) - nI 97) + nI 1 else nI 0)
def dgv (T : Nat → Nat) (pl : Nat) : Nat → Nat
  | 0 => 0
  | k + 1 => 10 * dgv T pl k + (T (pl + k) - 48)
section
variable (n : Nat) (T : Nat → Nat) (p : Nat)
def tkP : Nat := scn (fun q => spc (tcx n T q)) 701 p
def tkC : Nat := tcx n T (tkP n T p)
def tkW : Nat := scn (fun q => smc (tcx n T q)) 701 (tkP n T p)
def tkD : Nat := scn (fun q => dgc (tcx n T q)) 701 (tkP n T p)
def tkI : Nat := fa_first (wmt T (tkP n T p) (tkW n T p)) 23
def tkK : Nat := if n ≤ tkP n T p then 0 else bif smc (tkC n T p) then (if tkI n T p < 23 then 4 + tkI n T p else if tkW n T p - tkP n T p ≤ 6 then 3 else 1) else bif dgc (tkC n T p) then 2 else sgk (tkC n T p) (tcx n T (tkP n T p + 1))
def tkE : Nat := if n ≤ tkP n T p then tkP n T p else bif smc (tkC n T p) then tkW n T p else bif dgc (tkC n T p) then tkD n T p else (if tkK n T p = 35 ∨ tkK n T p = 37 ∨ tkK n T p = 38 then tkP n T p + 2 else tkP n T p + 1)
def tkN : Int32 := nmv T (tkP n T p) (tkW n T p) 6
def tkV : Nat := dgv T (tkP n T p) (tkD n T p - tkP n T p)
end
/-! the tokens of the class lie in cell 44 -/
def tH (I : Nat → Nat → Int32) (x1 x2 x3 x4 x5 : Int32) : Nat → Nat → Int32 := fun a k => if a = 44 then (if k = 1 then x1 else if k = 2 then x2 else if k = 3 then x3 else if k = 4 then x4 else if k = 5 then x5 else I a k) else I a k
section
variable {I : Nat → Nat → Int32} {x1 x2 x3 x4 x5 v y1 y2 y3 y4 y5 : Int32} {a k : Nat}
theorem tH_1 : tH I x1 x2 x3 x4 x5 44 1 = x1 := by simp [tH]
theorem tH_2 : tH I x1 x2 x3 x4 x5 44 2 = x2 := by simp [tH]
theorem tH_3 : tH I x1 x2 x3 x4 x5 44 3 = x3 := by simp [tH]
theorem tH_4 : tH I x1 x2 x3 x4 x5 44 4 = x4 := by simp [tH]
theorem tH_5 : tH I x1 x2 x3 x4 x5 44 5 = x5 := by simp [tH]
theorem tH_o (h : a ≠ 44) : tH I x1 x2 x3 x4 x5 a k = I a k := by simp [tH, h]
theorem tH_row (h : a ≠ 44) : tH I x1 x2 x3 x4 x5 a = I a := by funext k; exact tH_o h
theorem tH_u1 : am_u (tH I x1 x2 x3 x4 x5) 44 1 v = tH I v x2 x3 x4 x5 := by
  funext b j; unfold am_u tH
  by_cases h : b = 44
  · subst h; by_cases c : j = 1 <;> simp [c]
  · simp [h]
theorem tH_u2 : am_u (tH I x1 x2 x3 x4 x5) 44 2 v = tH I x1 v x3 x4 x5 := by
  funext b j; unfold am_u tH
  by_cases h : b = 44
  · subst h; by_cases c : j = 2 <;> simp [c]
  · simp [h]
theorem tH_u3 : am_u (tH I x1 x2 x3 x4 x5) 44 3 v = tH I x1 x2 v x4 x5 := by
  funext b j; unfold am_u tH
  by_cases h : b = 44
  · subst h; by_cases c : j = 3 <;> simp [c]
  · simp [h]
theorem tH_u4 : am_u (tH I x1 x2 x3 x4 x5) 44 4 v = tH I x1 x2 x3 v x5 := by
  funext b j; unfold am_u tH
  by_cases h : b = 44
  · subst h; by_cases c : j = 4 <;> simp [c]
  · simp [h]
theorem tH_u5 : am_u (tH I x1 x2 x3 x4 x5) 44 5 v = tH I x1 x2 x3 x4 v := by
  funext b j; unfold am_u tH
  by_cases h : b = 44
  · subst h; by_cases c : j = 5 <;> simp [c]
  · simp [h]
theorem tH_uo (h : a ≠ 44) : am_u (tH I x1 x2 x3 x4 x5) a k v = tH (am_u I a k v) x1 x2 x3 x4 x5 := by
  funext b j; unfold am_u tH
  by_cases hb : b = 44
  · subst hb; simp [Ne.symm h]
  · simp [hb]
theorem tH_tH : tH (tH I y1 y2 y3 y4 y5) x1 x2 x3 x4 x5 = tH I x1 x2 x3 x4 x5 := by
  funext b j; unfold tH
  by_cases hb : b = 44
  · subst hb
    by_cases c1 : j = 1 <;> by_cases c2 : j = 2 <;> by_cases c3 : j = 3 <;> by_cases c4 : j = 4 <;> by_cases c5 : j = 5 <;> simp [c1, c2, c3, c4, c5]
  · simp [hb]
theorem tH_id : tH I (I 44 1) (I 44 2) (I 44 3) (I 44 4) (I 44 5) = I := by
  funext b j; unfold tH
  by_cases hb : b = 44
  · subst hb
    by_cases c1 : j = 1
    · subst c1; simp
    · by_cases c2 : j = 2
      · subst c2; simp
      · by_cases c3 : j = 3
        · subst c3; simp
        · by_cases c4 : j = 4
          · subst c4; simp
          · by_cases c5 : j = 5
            · subst c5; simp
            · simp [c1, c2, c3, c4, c5]
  · simp [hb]
theorem tH_str (h : i_str I) : i_str (tH I x1 x2 x3 x4 x5) := by
  unfold i_str
  rw [tH_row (by omega), tH_row (by omega), tH_row (by omega), tH_row (by omega), tH_row (by omega), tH_row (by omega)]
  exact h
end
def tx_c (I : Nat → Nat → Int32) (n : Nat) (T : Nat → Nat) : Prop := n ≤ 700 ∧ ∀ k, k < n → T k < 256 ∧ I 2 k = sbx (T k)
section
variable {d N : Nat} {Q : Value → am_H → Prop} {r : am_rho} {I : Nat → Nat → Int32} {J : Nat → Nat → Int64} {rt rs rd rl nt nw nf n : Nat} {T : Nat → Nat} {x1 x2 x3 x4 x5 : Int32}
theorem tx_g {p : Nat} (h : p < 700) : ((Nat.beq (am_TT N 2).1 3 || (Nat.beq (am_TT N 2).1 4 || Nat.beq (am_TT N 2).1 7)) && am_inb (nI p) (am_TT N 2).2) = true := by
  show (true && am_inb (nI p) 700) = true
  rw [am_inbT h (by omega)]; rfl
theorem s_Tk_small {p : Nat} (hx : tx_c I n T) (hp : p ≤ 1000) : am_D (d + 1) 65 [.ref 44, .int (nI p)] (am_hp N (rt, rs, rd, rl, 2, nt, nw, nf) (tH I (nI n) x2 x3 x4 x5) J) Q = Q (.int (nI (smc (tcx n T p)).toNat)) (am_hp N (rt, rs, rd, rl, 2, nt, nw, nf) (tH I (nI n) x2 x3 x4 x5) J) := by
  obtain ⟨h7, hT⟩ := hx
  rw [e_Tokens_isSmallLetter (Or.inl rfl), tH_1, am_ifd]
  by_cases c : n ≤ p
  · rw [if_pos (by rw [nI_leI (by omega) (by omega)]; exact c), tc_out c]; rfl
  · obtain ⟨g1, g2⟩ := hT p (by omega)
    rw [if_neg (by rw [nI_leI (by omega) (by omega)]; exact c), am_gT (tx_g (by omega)), am_gT (tx_g (by omega)), nI_clamp (by omega), tH_o (by omega), g2, am_ifi (sb_ltI g1 (by omega)), am_ifi (sb_gtI g1 (by omega)), tc_in (by omega)]
    unfold smc
    by_cases c1 : 128 ≤ T p ∨ T p < 97
    · rw [if_pos c1, decide_eq_false (by omega)]; rfl
    · rw [if_neg c1]
      by_cases c2 : T p < 128 ∧ 122 < T p
      · rw [if_pos c2, decide_eq_false (by omega)]; rfl
      · rw [if_neg c2, decide_eq_true (by omega)]; rfl
theorem s_Tk_digit {p : Nat} (hx : tx_c I n T) (hp : p ≤ 1000) : am_D (d + 1) 66 [.ref 44, .int (nI p)] (am_hp N (rt, rs, rd, rl, 2, nt, nw, nf) (tH I (nI n) x2 x3 x4 x5) J) Q = Q (.int (nI (dgc (tcx n T p)).toNat)) (am_hp N (rt, rs, rd, rl, 2, nt, nw, nf) (tH I (nI n) x2 x3 x4 x5) J) := by
  obtain ⟨h7, hT⟩ := hx
  rw [e_Tokens_isDigit (Or.inl rfl), tH_1, am_ifd]
  by_cases c : n ≤ p
  · rw [if_pos (by rw [nI_leI (by omega) (by omega)]; exact c), tc_out c]; rfl
  · obtain ⟨g1, g2⟩ := hT p (by omega)
    rw [if_neg (by rw [nI_leI (by omega) (by omega)]; exact c), am_gT (tx_g (by omega)), am_gT (tx_g (by omega)), nI_clamp (by omega), tH_o (by omega), g2, am_ifi (sb_ltI g1 (by omega)), am_ifi (sb_gtI g1 (by omega)), tc_in (by omega)]
    unfold dgc
    by_cases c1 : 128 ≤ T p ∨ T p < 48
    · rw [if_pos c1, decide_eq_false (by omega)]; rfl
    · rw [if_neg c1]
      by_cases c2 : T p < 128 ∧ 57 < T p
      · rw [if_pos c2, decide_eq_false (by omega)]; rfl
      · rw [if_neg c2, decide_eq_true (by omega)]; rfl
theorem s_Tk_isAt {p c : Nat} (hx : tx_c I n T) (hp : p ≤ 1000) (hc : c < 128) : am_D (d + 1) 67 [.ref 44, .int (nI p), .int (nI c)] (am_hp N (rt, rs, rd, rl, 2, nt, nw, nf) (tH I (nI n) x2 x3 x4 x5) J) Q = Q (.int (nI (decide (tcx n T p = c)).toNat)) (am_hp N (rt, rs, rd, rl, 2, nt, nw, nf) (tH I (nI n) x2 x3 x4 x5) J) := by
  obtain ⟨h7, hT⟩ := hx
  rw [e_Tokens_isAt (Or.inl rfl), tH_1, am_ifd]
  by_cases c1 : n ≤ p
  · rw [if_pos (by rw [nI_leI (by omega) (by omega)]; exact c1), tc_out c1, decide_eq_false (by omega)]; rfl
  · obtain ⟨g1, g2⟩ := hT p (by omega)
    rw [if_neg (by rw [nI_leI (by omega) (by omega)]; exact c1), am_gT (tx_g (by omega)), nI_clamp (by omega), tH_o (by omega), g2, am_ifni (sb_eqI g1 hc), tc_in (by omega)]
    by_cases c2 : T p = c
    · rw [if_pos c2, decide_eq_true c2]; rfl
    · rw [if_neg c2, decide_eq_false c2]; rfl
/-- the number of a word, as the class finds it -/
theorem s_Tk_word {q e : Nat} (hx : tx_c I n T) (hi : i_str I) (hq : q ≤ e) (he : e ≤ n) : am_D (d + 6) 70 [.ref 44] (am_hp N (rt, rs, rd, rl, 2, nt, nw, nf) (tH I (nI n) (nI e) x3 (nI q) x5) J) Q = Q (.int (if fa_first (wmt T q e) 23 < 23 then nI (fa_first (wmt T q e) 23) else -nI 1)) (am_hp N (rt, rs, rd, rl, 2, nt, nw, nf) (tH I (nI n) (nI e) x3 (nI q) x5) J) := by
  obtain ⟨h7, hT⟩ := hx
  have hi' := @tH_str I (nI n) (nI e) x3 (nI q) x5 hi
  have inr : ∀ k j w, wl w = j + k → w < 23 → am_V (d + 5) Q 70 12 [some (.ref 44), some (.int (nI w)), some (.int (nI (q + j))), some (.int (nI (wma T q e w j).toNat)), some (.int (nI (wsx w + j)))] [] (am_hp N (rt, rs, rd, rl, 2, nt, nw, nf) (tH I (nI n) (nI e) x3 (nI q) x5) J) = if wmt T q e w = true then Q (.int (nI w)) (am_hp N (rt, rs, rd, rl, 2, nt, nw, nf) (tH I (nI n) (nI e) x3 (nI q) x5) J) else am_V (d + 5) Q 70 12 [some (.ref 44), some (.int (nI (w + 1))), some (.int (nI q)), some (.int (nI 1)), some (.int (nI (wsx (w + 1))))] [] (am_hp N (rt, rs, rd, rl, 2, nt, nw, nf) (tH I (nI n) (nI e) x3 (nI q) x5) J) := by
    intro k
    induction k with
    | zero =>
      intro j w hj hw
      obtain rfl : j = wl w := by omega
      obtain ⟨f1, f2, f3, f4⟩ := wd_f w hw
      rw [e_Tokens_wordNumber_12, s_Str_len (n := 119) (Or.inl rfl) hi'.1 rfl, am_asIe, e_Tokens_wordNumber_19, am_ifd, if_neg (by rw [nI_leI (by omega) (by omega)]; omega), s_Str_charAt (n := 119) (c := 32) (Or.inl rfl) hi'.1 rfl (by omega) f2 (by rw [← f3]; exact hi'.2.2.2.1 _ f2) (by omega), am_asIe, e_Tokens_wordNumber_29 (Or.inl rfl), am_ifd, if_pos rfl, am_ifd, tH_2, tH_4, am_ifni (nI_eq (by omega) (by omega)), nI_add, nI_add, f1]
      unfold wmt
      cases c : wma T q e w (wl w) with
      | false => rw [if_pos nf0, if_neg (by simp)]
      | true =>
        rw [if_neg nt0]
        by_cases c2 : q + wl w = e
        · rw [if_pos c2, if_pos (by rw [decide_eq_true c2]; rfl)]
        · rw [if_neg c2, if_neg (by rw [decide_eq_false c2]; simp)]
    | succ k ih =>
      intro j w hj hw
      obtain ⟨f1, f2, f3, f4⟩ := wd_f w hw
      obtain ⟨g1, g2, g3⟩ := wd_c w hw j (by omega)
      have hlt : wsx w + j < 119 := by omega
      have hcv := hi'.2.2.2.1 _ hlt
      rw [← ih (j + 1) w (by omega) hw]
      rw [e_Tokens_wordNumber_12, s_Str_len (n := 119) (Or.inl rfl) hi'.1 rfl, am_asIe, e_Tokens_wordNumber_19, am_ifd, if_neg (by rw [nI_leI (by omega) (by omega)]; omega), s_Str_charAt (n := 119) (c := wd (wsx w + j)) (Or.inl rfl) hi'.1 rfl (by omega) hlt hcv (by omega), am_asIe, e_Tokens_wordNumber_29 (Or.inl rfl), am_ifd, if_neg (by rw [nI_eq (by omega) (by omega)]; exact g1), am_ifd, tH_2, am_ifi (nI_leI (by omega) (by omega)), nI_add, nI_add]
      have e1 : wma T q e w (j + 1) = (wma T q e w j && (decide (q + j < e) && decide (T (q + j) = wd (wsx w + j)))) := rfl
      rw [e1, show q + (j + 1) = q + j + 1 by omega, show wsx w + (j + 1) = wsx w + j + 1 by omega]
      cases c : wma T q e w j with
      | false => rw [if_pos nf0]; rfl
      | true =>
        rw [if_neg nt0]
        by_cases c2 : e ≤ q + j
        · rw [if_pos c2, decide_eq_false (by omega)]; rfl
        · rw [if_neg c2, decide_eq_true (show q + j < e by omega), am_gT (tx_g (by omega)), s_Str_charAt (n := 119) (c := wd (wsx w + j)) (Or.inl rfl) hi'.1 rfl (by omega) hlt hcv (by omega), am_asIe, e_Tokens_wordNumber_59, nI_clamp (by omega), tH_o (by omega), (hT (q + j) (by omega)).2, am_ifni (sb_eqI (hT (q + j) (by omega)).1 (by omega)), nI_add, nI_add]
          by_cases c3 : T (q + j) = wd (wsx w + j)
          · rw [if_pos c3, decide_eq_true c3]; rfl
          · rw [if_neg c3, decide_eq_false c3]; rfl
  have out : ∀ k w, 23 = w + k → (∀ i, i < w → wmt T q e i = false) → am_V (d + 5) Q 70 12 [some (.ref 44), some (.int (nI w)), some (.int (nI q)), some (.int (nI 1)), some (.int (nI (wsx w)))] [] (am_hp N (rt, rs, rd, rl, 2, nt, nw, nf) (tH I (nI n) (nI e) x3 (nI q) x5) J) = Q (.int (if fa_first (wmt T q e) 23 < 23 then nI (fa_first (wmt T q e) 23) else -nI 1)) (am_hp N (rt, rs, rd, rl, 2, nt, nw, nf) (tH I (nI n) (nI e) x3 (nI q) x5) J) := by
    intro k
    induction k with
    | zero =>
      intro w hw hp
      obtain rfl : w = 23 := by omega
      rw [e_Tokens_wordNumber_12, s_Str_len (n := 119) (Or.inl rfl) hi'.1 rfl, am_asIe, e_Tokens_wordNumber_19, am_ifd, if_pos (by decide +kernel), fa_first_none hp, if_neg (by omega)]
    | succ k ih =>
      intro w hw hp
      have := inr (wl w) 0 w (by omega) (by omega)
      rw [show q + 0 = q from rfl, show wsx w + 0 = wsx w from rfl] at this
      refine this.trans ?_
      cases c : wmt T q e w with
      | true => rw [if_pos rfl, fa_first_step (show w < 23 by omega) hp c, if_pos (by omega)]
      | false =>
        rw [if_neg (by simp)]
        refine ih (w + 1) (by omega) ?_
        intro i hi
        by_cases e : i = w
        · subst e; exact c
        · exact hp i (by omega)
  rw [e_Tokens_wordNumber, tH_4]
  exact out 23 0 (by omega) (fun i hi => by omega)
end
