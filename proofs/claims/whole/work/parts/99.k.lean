/-! ===== L3: the model's tokens ===== -/
def hv (c : Nat) : Int32 := if c = 256 then -nI 1 else nI c
theorem hv_in {c : Nat} (h : c < 256) : hv c = nI c := if_neg (by omega)
theorem hv_end : hv 256 = -nI 1 := rfl
theorem hv_eqI {c x : Nat} (hc : c ≤ 256) (hx : x < 256) : hv c = nI x ↔ c = x := by
  rcases Nat.lt_or_ge c 256 with h | h
  · rw [hv_in h, nI_eq (by omega) (by omega)]
  · obtain rfl : c = 256 := by omega
    rw [hv_end]
    constructor
    · intro e; exact (am_neg1' (by omega) e.symm).elim
    · intro e; omega
theorem hv_m1 {c : Nat} (hc : c ≤ 256) : hv c = -nI 1 ↔ c = 256 := by
  rcases Nat.lt_or_ge c 256 with h | h
  · rw [hv_in h]
    constructor
    · intro e; exact (am_neg1' (by omega) e).elim
    · intro e; omega
  · obtain rfl : c = 256 := by omega
    rw [hv_end]; simp
def mT (I : Nat → Nat → Int32) (x1 x2 x3 x4 : Int32) : Nat → Nat → Int32 := fun a k => if a = 93 then (if k = 27 then x1 else if k = 28 then x2 else if k = 29 then x3 else if k = 30 then x4 else I a k) else I a k
section
variable {I : Nat → Nat → Int32} {x1 x2 x3 x4 v y1 y2 y3 y4 : Int32} {a k : Nat}
theorem mT_1 : mT I x1 x2 x3 x4 93 27 = x1 := by simp [mT]
theorem mT_2 : mT I x1 x2 x3 x4 93 28 = x2 := by simp [mT]
theorem mT_3 : mT I x1 x2 x3 x4 93 29 = x3 := by simp [mT]
theorem mT_4 : mT I x1 x2 x3 x4 93 30 = x4 := by simp [mT]
theorem mT_o (h : a ≠ 93) : mT I x1 x2 x3 x4 a k = I a k := by simp [mT, h]
theorem mT_row (h : a ≠ 93) : mT I x1 x2 x3 x4 a = I a := by funext k; exact mT_o h
theorem mT_f (h : k < 27 ∨ 30 < k) : mT I x1 x2 x3 x4 93 k = I 93 k := by
  unfold mT
  rw [if_pos rfl, if_neg (by omega), if_neg (by omega), if_neg (by omega), if_neg (by omega)]
theorem mT_u1 : am_u (mT I x1 x2 x3 x4) 93 27 v = mT I v x2 x3 x4 := by
  funext b j; unfold am_u mT
  by_cases h : b = 93
  · subst h; by_cases c : j = 27 <;> simp [c]
  · simp [h]
theorem mT_u2 : am_u (mT I x1 x2 x3 x4) 93 28 v = mT I x1 v x3 x4 := by
  funext b j; unfold am_u mT
  by_cases h : b = 93
  · subst h; by_cases c : j = 28 <;> simp [c]
  · simp [h]
theorem mT_u3 : am_u (mT I x1 x2 x3 x4) 93 29 v = mT I x1 x2 v x4 := by
  funext b j; unfold am_u mT
  by_cases h : b = 93
  · subst h; by_cases c : j = 29 <;> simp [c]
  · simp [h]
theorem mT_u4 : am_u (mT I x1 x2 x3 x4) 93 30 v = mT I x1 x2 x3 v := by
  funext b j; unfold am_u mT
  by_cases h : b = 93
  · subst h; by_cases c : j = 30 <;> simp [c]
  · simp [h]
theorem mT_uo (h : a ≠ 93 ∨ k < 27 ∨ 30 < k) : am_u (mT I x1 x2 x3 x4) a k v = mT (am_u I a k v) x1 x2 x3 x4 := by
  funext b j; unfold am_u mT
  by_cases hb : b = 93
  · subst hb
    by_cases h2 : a = 93
    · subst h2
      by_cases c : j = k
      · subst c
        have a1 : ¬ j = 27 := by omega
        have a2 : ¬ j = 28 := by omega
        have a3 : ¬ j = 29 := by omega
        have a4 : ¬ j = 30 := by omega
        simp [a1, a2, a3, a4]
      · simp [c]
    · simp [Ne.symm h2]
  · simp [hb]
theorem mT_mT : mT (mT I y1 y2 y3 y4) x1 x2 x3 x4 = mT I x1 x2 x3 x4 := by
  funext b j; unfold mT
  by_cases hb : b = 93
  · subst hb
    by_cases c1 : j = 27 <;> by_cases c2 : j = 28 <;> by_cases c3 : j = 29 <;> by_cases c4 : j = 30 <;> simp [c1, c2, c3, c4]
  · simp [hb]
theorem mT_id : mT I (I 93 27) (I 93 28) (I 93 29) (I 93 30) = I := by
  funext b j; unfold mT
  by_cases hb : b = 93
  · subst hb
    by_cases c1 : j = 27
    · subst c1; simp
    · by_cases c2 : j = 28
      · subst c2; simp
      · by_cases c3 : j = 29
        · subst c3; simp
        · by_cases c4 : j = 30
          · subst c4; simp
          · simp [c1, c2, c3, c4]
  · simp [hb]
theorem mT_str (h : i_str I) : i_str (mT I x1 x2 x3 x4) := by
  unfold i_str
  rw [mT_row (by omega), mT_row (by omega), mT_row (by omega), mT_row (by omega), mT_row (by omega), mT_row (by omega)]
  exact h
end
def tx_m (I : Nat → Nat → Int32) (n : Nat) (T : Nat → Nat) : Prop := n ≤ 700 ∧ I 93 26 = nI n ∧ ∀ k, k < n → T k < 256 ∧ I 94 k = nI (T k)
/-- a token's sort, by its kind; a sign's value -/
def tso (k : Nat) : Nat := if k = 0 then 4 else if k = 1 then 5 else if k = 2 then 2 else if k = 3 then 1 else if k < 27 then 0 else 3
def sgcL : List Nat := [59, 40, 41, 43, 45, 42, 47, 60, 256, 61, 257, 258, 62]
def sgc (k : Nat) : Nat := sgcL.getD (k - 27) 0
def tvr (v : Int32) (m : Nat) : Prop := (m ≤ 99999 → v = nI m) ∧ (99999 < m → ∃ x, 99999 < x ∧ x ≤ 999999 ∧ v = nI x)
def tvm (n : Nat) (T : Nat → Nat) (p : Nat) (v : Int32) : Prop := (4 ≤ tkK n T p → tkK n T p < 27 → v = nI (tkK n T p - 4)) ∧ (tkK n T p = 3 → v = tkN n T p) ∧ (tkK n T p = 2 → tvr v (tkV n T p)) ∧ (27 ≤ tkK n T p → v = nI (sgc (tkK n T p)))
def mK (I : Nat → Nat → Int32) (n : Nat) (T : Nat → Nat) (p : Nat) (v : Int32) : Nat → Nat → Int32 := mT I (nI (tkE n T p)) (nI (tkP n T p)) (nI (tso (tkK n T p))) v
section
variable {d N : Nat} {Q : Value → am_H → Prop} {r : am_rho} {I : Nat → Nat → Int32} {J : Nat → Nat → Int64} {n : Nat} {T : Nat → Nat} {x1 x2 x3 x4 : Int32}
theorem s_M_here {p : Nat} (hx : tx_m I n T) (hp : p ≤ 1000) : am_D (d + 1) 161 [.ref 93] (am_hp N r (mT I (nI p) x2 x3 x4) J) Q = Q (.int (hv (tcx n T p))) (am_hp N r (mT I (nI p) x2 x3 x4) J) := by
  obtain ⟨h7, hn, hT⟩ := hx
  rw [e_M_here, mT_1, mT_f (by omega), hn, am_ifd]
  by_cases c : n ≤ p
  · rw [if_pos (by rw [nI_leI (by omega) (by omega)]; exact c), tc_out c]; rfl
  · obtain ⟨g1, g2⟩ := hT p (by omega)
    rw [if_neg (by rw [nI_leI (by omega) (by omega)]; exact c), am_gI (by omega) (by omega), nI_clamp (by omega), mT_o (by omega), g2, tc_in (by omega), hv_in g1]
theorem s_M_small {c : Nat} (hc : c ≤ 256) : am_D (d + 1) 162 [.int (hv c)] (am_hp N r I J) Q = Q (.int (nI (smc c).toNat)) (am_hp N r I J) := by
  unfold smc
  rcases Nat.lt_or_ge c 256 with h | h
  · rw [hv_in h, e_M_isSmall, am_ifi (nI_ltI (by omega) (by omega)), am_ifi (nI_ltI (by omega) (by omega))]
    by_cases c1 : c < 97
    · rw [if_pos c1, decide_eq_false (by omega)]; rfl
    · rw [if_neg c1]
      by_cases c2 : 122 < c
      · rw [if_pos c2, decide_eq_false (by omega)]; rfl
      · rw [if_neg c2, decide_eq_true (by omega)]; rfl
  · obtain rfl : c = 256 := by omega
    rw [hv_end, e_M_isSmall, am_ifd, if_pos (by decide +kernel), decide_eq_false (by omega)]; rfl
theorem s_M_digit {c : Nat} (hc : c ≤ 256) : am_D (d + 1) 163 [.int (hv c)] (am_hp N r I J) Q = Q (.int (nI (dgc c).toNat)) (am_hp N r I J) := by
  unfold dgc
  rcases Nat.lt_or_ge c 256 with h | h
  · rw [hv_in h, e_M_isDigit, am_ifi (nI_ltI (by omega) (by omega)), am_ifi (nI_ltI (by omega) (by omega))]
    by_cases c1 : c < 48
    · rw [if_pos c1, decide_eq_false (by omega)]; rfl
    · rw [if_neg c1]
      by_cases c2 : 57 < c
      · rw [if_pos c2, decide_eq_false (by omega)]; rfl
      · rw [if_neg c2, decide_eq_true (by omega)]; rfl
  · obtain rfl : c = 256 := by omega
    rw [hv_end, e_M_isDigit, am_ifd, if_pos (by decide +kernel), decide_eq_false (by omega)]; rfl
theorem wma_dn {q e w j : Nat} : ∀ k, wma T q e w j = false → wma T q e w (j + k) = false
  | 0, h => h
  | k + 1, h => by
    show (wma T q e w (j + k) && _) = false
    rw [wma_dn k h, Bool.false_and]
/-- the number of a word, as the model finds it -/
theorem s_M_word {q e : Nat} (hx : tx_m I n T) (hi : i_str I) (hq : q ≤ e) (he : e ≤ n) : am_D (d + 6) 166 [.ref 93] (am_hp N r (mT I (nI e) (nI q) x3 x4) J) Q = Q (.int (if fa_first (wmt T q e) 23 < 23 then nI (fa_first (wmt T q e) 23) else -nI 1)) (am_hp N r (mT I (nI e) (nI q) x3 x4) J) := by
  obtain ⟨h7, hn, hT⟩ := hx
  have hi' := @mT_str I (nI e) (nI q) x3 x4 hi
  have hb := hi'.2.2.1
  have hwv := hi'.2.2.2.2.2
  have chr : ∀ (Q : Value → am_H → Prop) k, k < 119 → am_D (d + 5) 284 [.ref 2005, .int (nI k)] (am_hp N r (mT I (nI e) (nI q) x3 x4) J) Q = Q (.int (nI (wd k))) (am_hp N r (mT I (nI e) (nI q) x3 x4) J) := fun Q k hk => s_Str_charAt (n := 119) (by omega) hb rfl (by omega) hk (hwv k hk) (wd_b k hk)
  have skp : ∀ k j w x3', wl w = j + k → w < 23 → am_V (d + 5) Q 166 97 [some (.ref 93), some (.int (nI w)), some (.int (nI (wsx w + j))), some (.int x3')] [] (am_hp N r (mT I (nI e) (nI q) x3 x4) J) = am_V (d + 5) Q 166 4 [some (.ref 93), some (.int (nI (w + 1))), some (.int (nI (wsx (w + 1)))), am_oi (some x3')] [] (am_hp N r (mT I (nI e) (nI q) x3 x4) J) := by
    intro k
    induction k with
    | zero =>
      intro j w x3' hj hw
      obtain rfl : j = wl w := by omega
      obtain ⟨f1, f2, f3, f4⟩ := wd_f w hw
      rw [e_M_word_97, chr _ _ f2, am_asIe, e_M_word_103, f3, am_ifd, if_pos rfl, nI_add, nI_add, f1]
    | succ k ih =>
      intro j w x3' hj hw
      obtain ⟨f1, f2, f3, f4⟩ := wd_f w hw
      obtain ⟨g1, g2, g3⟩ := wd_c w hw j (by omega)
      rw [e_M_word_97, chr _ _ (by omega), am_asIe, e_M_word_103, am_ifd, if_neg (by rw [nI_eq (by omega) (by omega)]; exact g1), nI_add]
      exact ih (j + 1) w x3' (by omega) hw
  have inr : ∀ (R : Prop) w, w < 23 → (∀ o, am_V (d + 5) Q 166 4 [some (.ref 93), some (.int (nI (w + 1))), some (.int (nI (wsx (w + 1)))), am_oi o] [] (am_hp N r (mT I (nI e) (nI q) x3 x4) J) = R) → ∀ k j, wl w = j + k → wma T q e w j = true → q + j ≤ e → am_V (d + 5) Q 166 15 [some (.ref 93), some (.int (nI w)), some (.int (nI (wsx w))), some (.int (nI j))] [] (am_hp N r (mT I (nI e) (nI q) x3 x4) J) = if wmt T q e w = true then Q (.int (nI w)) (am_hp N r (mT I (nI e) (nI q) x3 x4) J) else R := by
    intro R w hw hR k
    obtain ⟨f1, f2, f3, f4⟩ := wd_f w hw
    have sk0 : ∀ x3', am_V (d + 5) Q 166 97 [some (.ref 93), some (.int (nI w)), some (.int (nI (wsx w))), some (.int x3')] [] (am_hp N r (mT I (nI e) (nI q) x3 x4) J) = R := fun x3' => (skp (wl w) 0 w x3' (by omega) hw).trans (hR _)
    have no : ∀ j, j < wl w → wma T q e w (j + 1) = false → wmt T q e w = false := by
      intro j hj hf
      have := wma_dn (T := T) (q := q) (e := e) (w := w) (j := j + 1) (wl w - (j + 1)) hf
      rw [show j + 1 + (wl w - (j + 1)) = wl w by omega] at this
      unfold wmt
      rw [this, Bool.false_and]
    induction k with
    | zero =>
      intro j hj hm hle
      obtain rfl : j = wl w := by omega
      rw [e_M_word_15, nI_add, chr _ _ f2, am_asIe, e_M_word_23, f3, am_ifd, if_pos rfl, nI_add, chr _ _ f2, am_asIe, e_M_word_77, f3, am_ifn, if_pos rfl, mT_1, mT_2, nI_add, am_ifni (nI_eq (by omega) (by omega))]
      unfold wmt
      rw [hm, Bool.true_and]
      by_cases c : q + wl w = e
      · rw [if_pos c, if_pos (decide_eq_true c)]
      · rw [if_neg c, sk0, if_neg (by rw [decide_eq_false c]; simp)]
    | succ k ih =>
      intro j hj hm hle
      obtain ⟨g1, g2, g3⟩ := wd_c w hw j (by omega)
      have hlt : wsx w + j < 119 := by omega
      have e1 : wma T q e w (j + 1) = (wma T q e w j && (decide (q + j < e) && decide (T (q + j) = wd (wsx w + j)))) := rfl
      rw [hm, Bool.true_and] at e1
      have stop : wma T q e w (j + 1) = false → am_V (d + 5) Q 166 77 [some (.ref 93), some (.int (nI w)), some (.int (nI (wsx w))), some (.int (nI j))] [.int (nI (wd (wsx w + j)))] (am_hp N r (mT I (nI e) (nI q) x3 x4) J) = if wmt T q e w = true then Q (.int (nI w)) (am_hp N r (mT I (nI e) (nI q) x3 x4) J) else R := by
        intro hf
        rw [e_M_word_77, am_ifn, if_neg (by rw [nI_eq (by omega) (by omega)]; exact g1), sk0, no j (by omega) hf, if_neg (by simp)]
      rw [e_M_word_15, nI_add, chr _ _ hlt, am_asIe, e_M_word_23, am_ifd, if_neg (by rw [nI_eq (by omega) (by omega)]; exact g1), mT_1, mT_2, nI_add, nI_add, am_ifi (nI_leI (by omega) (by omega))]
      by_cases c : e ≤ q + j
      · rw [if_pos c, chr _ _ hlt, am_asIe]
        exact stop (by rw [e1, decide_eq_false (by omega)]; rfl)
      · have ht := hT (q + j) (by omega)
        rw [if_neg c, am_gI (by omega) (by omega), chr _ _ hlt, am_asIe, e_M_word_60, nI_clamp (by omega), mT_o (by omega), ht.2, am_ifni (nI_eq (by omega) (by omega))]
        by_cases c2 : T (q + j) = wd (wsx w + j)
        · rw [if_pos c2, nI_add]
          exact ih (j + 1) (by omega) (by rw [e1, decide_eq_true (by omega), decide_eq_true c2]; rfl) (by omega)
        · rw [if_neg c2, nI_add, chr _ _ hlt, am_asIe]
          exact stop (by rw [e1, decide_eq_false c2, Bool.and_false])
  have out : ∀ k w, 23 = w + k → (∀ i, i < w → wmt T q e i = false) → ∀ o, am_V (d + 5) Q 166 4 [some (.ref 93), some (.int (nI w)), some (.int (nI (wsx w))), am_oi o] [] (am_hp N r (mT I (nI e) (nI q) x3 x4) J) = Q (.int (if fa_first (wmt T q e) 23 < 23 then nI (fa_first (wmt T q e) 23) else -nI 1)) (am_hp N r (mT I (nI e) (nI q) x3 x4) J) := by
    intro k
    induction k with
    | zero =>
      intro w hw hp o
      obtain rfl : w = 23 := by omega
      rw [e_M_word_4, s_Str_len (n := 119) (by omega) hb rfl, am_asIe, e_M_word_10, am_ifd, if_pos (by decide +kernel), fa_first_none hp, if_neg (by omega)]
    | succ k ih =>
      intro w hw hp o
      have hws : wsx w < 119 := by have := wd_f w (by omega); omega
      rw [e_M_word_4, s_Str_len (n := 119) (by omega) hb rfl, am_asIe, e_M_word_10, am_ifd, if_neg (by rw [nI_leI (by omega) (by omega)]; omega)]
      cases c : wmt T q e w with
      | true =>
        by_cases hR : ∃ R, ∀ o, am_V (d + 5) Q 166 4 [some (.ref 93), some (.int (nI (w + 1))), some (.int (nI (wsx (w + 1)))), am_oi o] [] (am_hp N r (mT I (nI e) (nI q) x3 x4) J) = R
        · obtain ⟨R, hR⟩ := hR
          rw [inr R w (by omega) hR (wl w) 0 (by omega) rfl (by omega), c, if_pos rfl, fa_first_step (show w < 23 by omega) hp c, if_pos (by omega)]
        · exfalso
          apply hR
          refine ⟨am_V (d + 5) Q 166 4 [some (.ref 93), some (.int (nI (w + 1))), some (.int (nI (wsx (w + 1)))), am_oi none] [] (am_hp N r (mT I (nI e) (nI q) x3 x4) J), ?_⟩
          intro o
          rw [e_M_word_4, e_M_word_4, s_Str_len (n := 119) (by omega) hb rfl, s_Str_len (n := 119) (by omega) hb rfl, am_asIe, am_asIe, e_M_word_10, e_M_word_10]
      | false =>
        have := ih (w + 1) (by omega) (by
          intro i hi
          by_cases e : i = w
          · subst e; exact c
          · exact hp i (by omega))
        rw [inr _ w (by omega) this (wl w) 0 (by omega) rfl (by omega), c, if_neg (by simp)]
  rw [e_M_word]
  exact out 23 0 (by omega) (fun i hi => by omega) none
/-- a name -/
theorem s_M_name {q e : Nat} (hx : tx_m I n T) (hq : q ≤ e) (he : e ≤ n) : am_D (d + 1) 167 [.ref 93] (am_hp N r (mT I (nI e) (nI q) x3 x4) J) Q = Q .null (am_hp N r (mT I (nI e) (nI q) x3 (nmv T q e 6)) J) := by
  obtain ⟨h7, hn, hT⟩ := hx
  have nm : ∀ k j, 6 = j + k → am_V d Q 167 7 [some (.ref 93), some (.int (nI j))] [] (am_hp N r (mT I (nI e) (nI q) x3 (nmv T q e j)) J) = Q .null (am_hp N r (mT I (nI e) (nI q) x3 (nmv T q e 6)) J) := by
    intro k
    induction k with
    | zero =>
      intro j hj
      obtain rfl : j = 6 := by omega
      rw [e_M_name_7, am_ifd, if_pos (by decide +kernel)]
    | succ k ih =>
      intro j hj
      have hvv : nmv T q e (j + 1) = (nmv T q e j <<< (nI 5 &&& nI 31)) ||| (if q + j < e then (nI (T (q + j)) - nI 97) + nI 1 else nI 0) := rfl
      rw [e_M_name_7, am_ifd, if_neg (by rw [nI_leI (by omega) (by omega)]; omega), mT_1, mT_2, nI_add, am_ifi (nI_leI (by omega) (by omega)), ← ih (j + 1) (by omega), hvv]
      by_cases c : e ≤ q + j
      · rw [if_pos c, if_neg (by omega), mT_4, mT_u4, nI_add]
      · have ht := hT (q + j) (by omega)
        rw [if_neg c, if_pos (by omega), am_gI (by omega) (by omega), mT_4, mT_u4, nI_add, nI_clamp (by omega), mT_o (by omega), ht.2]
  rw [e_M_name, mT_u4]
  exact nm 6 0 (by omega)
/-- a number -/
theorem s_M_number {q : Nat} {y : Int32} (hx : tx_m I n T) (hq : q ≤ n) (hQ : ∀ v, tvr v (dgv T q (scn (fun q => dgc (tcx n T q)) 701 q - q)) → am_V (d + 1) Q 164 225 [some (.ref 93), some (.int y)] [] (am_hp N r (mT I (nI (scn (fun q => dgc (tcx n T q)) 701 q)) x2 (nI 2) v) J)) : am_V (d + 1) Q 164 162 [some (.ref 93), some (.int y)] [] (am_hp N r (mT I (nI q) x2 (nI 2) (nI 0)) J) := by
  have hx' := hx
  obtain ⟨h7, hn, hT⟩ := hx'
  have lp : ∀ k j x, n = q + j + k → (∀ i, q ≤ i → i < q + j → dgc (tcx n T i) = true) → x ≤ 999999 → (dgv T q j ≤ 99999 → x = dgv T q j) → (99999 < dgv T q j → 99999 < x) → am_V (d + 1) Q 164 162 [some (.ref 93), some (.int y)] [] (am_hp N r (mT I (nI (q + j)) x2 (nI 2) (nI x)) J) := by
    intro k
    induction k with
    | zero =>
      intro j x hj hp hx9 hxa hxb
      have e : scn (fun q => dgc (tcx n T q)) 701 q = q + j := scn_u (by show dgc (tcx n T (q + j)) = false; rw [tc_out (by omega)]; rfl) _ _ (by omega) (by omega) hp
      rw [e, show q + j - q = j by omega] at hQ
      rw [e_M_token_162, s_M_here hx (by omega), am_asIe, e_M_token_166, s_M_digit (by rw [tc_out (by omega)]; omega), am_asIe, e_M_token_169, tc_out (by omega), am_ifd, if_pos (by decide +kernel)]
      exact hQ _ ⟨fun g => by rw [hxa g], fun g => ⟨x, hxb g, hx9, rfl⟩⟩
    | succ k ih =>
      intro j x hj hp hx9 hxa hxb
      have ht := hT (q + j) (by omega)
      rw [e_M_token_162, s_M_here hx (by omega), am_asIe, e_M_token_166, s_M_digit (by rw [tc_in (by omega)]; omega), am_asIe, e_M_token_169, am_ifd]
      cases c : dgc (tcx n T (q + j)) with
      | false =>
        have e : scn (fun q => dgc (tcx n T q)) 701 q = q + j := scn_u (P := fun q => dgc (tcx n T q)) (q := q + j) c _ _ (by omega) (by omega) hp
        rw [e, show q + j - q = j by omega] at hQ
        rw [if_pos (by decide +kernel)]
        exact hQ _ ⟨fun g => by rw [hxa g], fun g => ⟨x, hxb g, hx9, rfl⟩⟩
      | true =>
        have hc := of_decide_eq_true c
        rw [tc_in (by omega)] at hc
        have hp' : ∀ i, q ≤ i → i < q + (j + 1) → dgc (tcx n T i) = true := by
          intro i h1 h2
          by_cases e : i = q + j
          · subst e; exact c
          · exact hp i h1 (by omega)
        have hd : dgv T q (j + 1) = 10 * dgv T q j + (T (q + j) - 48) := rfl
        rw [if_neg nt0, mT_4, am_ifi (nI_leI (by omega) (by omega))]
        by_cases c2 : x ≤ 99999
        · have hxe : x = dgv T q j := hxa (by
            rcases Nat.lt_or_ge 99999 (dgv T q j) with g | g
            · have := hxb g; omega
            · exact g)
          rw [if_pos c2, s_M_here hx (by omega), am_asIe, e_M_token_200, tc_in (by omega), hv_in (by omega), am_mulN, nI_add, am_subN (by omega), mT_u4, mT_1, mT_u1, nI_add]
          exact ih (j + 1) _ (by omega) hp' (by omega) (fun g => by rw [hd]; omega) (fun g => by rw [hd] at g; omega)
        · rw [if_neg c2, mT_u4, mT_1, mT_u1, nI_add]
          exact ih (j + 1) x (by omega) hp' hx9 (fun g => by rw [hd] at g; exfalso; have := hxa (by omega); omega) (fun g => by omega)
  exact lp (n - q) 0 0 (by omega) (fun i h1 h2 => by omega) (by omega) (fun _ => rfl) (fun g => absurd g (by show ¬ 99999 < 0; omega))
end
