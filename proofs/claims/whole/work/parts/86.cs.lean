/-! ===== L3: a street closed; a trial walks on ===== -/
section
variable {d N : Nat} {Q : Value → am_H → Prop} {r : am_rho} {I : Nat → Nat → Int32} {J : Nat → Nat → Int64}
theorem s_T_join {a x y : Nat} {c : Int32} (ha : am_TT N a = (1, 64)) (hx : x < 8) (hy : y < 8) : am_D (d + 1) 78 [.ref a, .int (nI (8 * x + y)), .int c] (am_hp N r I J) Q = Q .null (am_hp N r (am_u (am_u I a (8 * x + y) c) a (8 * y + x) c) J) := by
  have gw : ∀ {x : Int32}, (Nat.beq (am_TT N a).1 1 && am_inb x (am_TT N a).2) = am_inb x 64 := by intro x; rw [ha]; rfl
  obtain ⟨e1, e2⟩ := d8 (8 * x + y) (by omega)
  rw [e_Town_join, gw, gw, e2, e1, show (8 * x + y) / 8 = x by omega, show (8 * x + y) % 8 = y by omega]
  try simp (config := {maxSteps := 1000000}) (disch := omega) only [nI_add, nI_1, am_mulN, nI_clamp, am_gI, am_ifd, am_ifn, am_asIe, am_asLe, nI_leI, nI_ltI, nI_eq, am_neg1, am_neg1b]
  rw [show y * 8 + x = 8 * y + x by omega]
theorem s_N_close {rt rs rd rl rx nw nf i a b : Nat} (ht : rt = 3 ∨ rt = 23) (hi : i < 12) (he : I (rt + 3) i = nI (8 * a + b)) (ha : a < 8) (hb : b < 8)
    (hQ : ∀ I', (∀ c, c ≠ 66 → c ≠ 67 → I' c = I c) → (∀ x y, x < 8 → y < 8 → I' 66 (8 * x + y) = if (x = a ∧ y = b) ∨ (x = b ∧ y = a) then nI 0 else I (rt + 4) (8 * x + y)) → (∀ k, k < 64 → I' 67 k = fl_out (fl_i (I' 66)) 8 k) → Q .null (am_hp N (rt, rs, rd, rl, rx, rt, 66, 67) I' J)) :
    am_D (d + 3) 21 [.ref 61, .int (nI i)] (am_hp N (rt, rs, rd, rl, rx, rt, nw, nf) I J) Q := by
  have T4 : am_TT N (rt + 4) = (1, 64) := by rcases ht with rfl | rfl <;> rfl
  have T66 : am_TT N 66 = (1, 64) := rfl
  have T67 : am_TT N 67 = (1, 64) := rfl
  rw [e_Night_closeStreet ht, s_901 T4 T66 (by omega) (by omega) (by omega) (by omega), e_Night_closeStreet_21 ht]
  try simp (config := {maxSteps := 1000000}) (disch := omega) only [nI_add, nI_1, am_mulN, nI_clamp, am_gI, am_ifd, am_ifn, am_asIe, am_asLe, nI_leI, nI_ltI, nI_eq, am_neg1, am_neg1b]
  have e3 : am_cyI I (rt + 4) 0 66 0 64 (rt + 3) i = nI (8 * a + b) := by
    unfold am_cyI; rw [if_neg (by omega)]; exact he
  rw [e3, s_T_join T66 ha hb, e_Night_closeStreet_38, s_T_measure T66 T67 (by omega), e_Night_closeStreet_49]
  have er : am_uR (am_uR (am_RR (rt, rs, rd, rl, rx, rt, nw, nf)) 61 2 66) 61 3 67 = am_RR (rt, rs, rd, rl, rx, rt, 66, 67) := by rw [am_RRu6, am_RRu7]
  rw [er]
  refine hQ _ ?_ ?_ ?_
  · intro c h1 h2
    rw [sr_N h2, am_uRow (by omega), am_uRow (by omega)]
    funext j
    unfold am_cyI; rw [if_neg (by omega)]
  · intro x y hx hy
    rw [sr_N (by omega)]
    by_cases c2 : 8 * x + y = 8 * b + a
    · rw [c2, am_uE, if_pos (by omega)]
    · rw [am_uN (by omega)]
      by_cases c1 : 8 * x + y = 8 * a + b
      · rw [c1, am_uE, if_pos (by omega)]
      · rw [am_uN (by omega), if_neg (by omega)]
        unfold am_cyI
        rw [if_pos (by omega), show 0 + (8 * x + y - 0) = 8 * x + y by omega]
  · intro k hk
    rw [sr_E, sr_N (show (66 : Nat) ≠ 67 by omega)]
    exact ms_out hk
theorem fa_fcg {p q : Nat → Bool} : ∀ n, (∀ k, k < n → p k = q k) → fa_first p n = fa_first q n := by
  intro n
  induction n with
  | zero => intro _; rfl
  | succ n ih =>
    intro h
    rw [fa_first_S, fa_first_S, ih (fun k hk => h k (by omega)), h n (by omega)]
theorem wayP_cg {p q : Nat → Bool} {n a b : Nat} (h : ∀ k, k < n → p k = q k) : wayP I p n a b = wayP I q n a b := by
  have e : fa_first (fun l => !p l && st0 I a b l) n = fa_first (fun l => !q l && st0 I a b l) n := by
    refine fa_fcg n ?_
    intro k hk
    show (!p k && st0 I a b k) = (!q k && st0 I a b k)
    rw [h k hk]
  unfold wayP
  rw [e]
theorem wayP_gone {i a b : Nat} (h : st_ok I) (h8 : m_nH I ≤ 8) (hi : i < m_nS I) (ha : I 100 i = nI a) (hb : I 101 i = nI b) (ha8 : a < 8) (hb8 : b < 8) {x y : Nat} (hx : x < 8) (hy : y < 8) :
    wayP I (fun l => decide (l = i)) (m_nS I) x y = if (x = a ∧ y = b) ∨ (x = b ∧ y = a) then nI 0 else wayP I (fun _ => false) (m_nS I) x y := by
  by_cases c : (x = a ∧ y = b) ∨ (x = b ∧ y = a)
  · rw [if_pos c]
    unfold wayP
    rw [if_neg]
    rw [fa_first_none]
    · omega
    · intro l hl
      try dsimp only
      by_cases e : l = i
      · rw [decide_eq_true e]; rfl
      · have hs : st0 I x y i = true := by rw [st0_n ha hb ha8 hb8 hx hy]; exact decide_eq_true c
        cases hq : st0 I x y l
        · rw [Bool.and_false]
        · exact absurd (h.2 x y l i hl hi hq hs) e
  · rw [if_neg c]
    have hs : st0 I x y i = false := by rw [st0_n ha hb ha8 hb8 hx hy]; exact decide_eq_false c
    have : (fun l => !(decide (l = i)) && st0 I x y l) = (fun l => !false && st0 I x y l) := by
      funext l
      by_cases e : l = i
      · rw [e, hs, Bool.and_false, Bool.and_false]
      · rw [decide_eq_false e]
    unfold wayP
    rw [this]
theorem s_T_walk {I1 M W : Nat → Nat → Int32} {rt rs rd rl rx nw nf h0 j : Nat} {F : Nat → Int32} {b : Bool} {lit : Int32} {e : Int32} (hte : te I M) (hok : m_ok I) (henv : c_env I1 M rt nw nf F b (W 9) lit (W 3 0)) (hrel : cw_rel M (c_w I1 82) W) (hW : m_okW I W) (hlit : I1 82 5 = lit) (hh : W 0 0 = nI h0) (hj : h0 + j ≤ 12) (hj1 : 1 ≤ j) (he : e = nI (h0 + j - 1))
    (hrow : I1 (rt + 19) = I (rt + 19)) (hca : c_cache I I (rt + 15) (I1 63) (J 64))
    (hQ : ∀ I' J', (∀ a, a ≠ 63 → a ≠ 68 → (a < 82 ∨ 87 < a) → I' a = I1 a) → c_cache I I (rt + 15) (I' 63) (J' 64) → cw_rel M (c_w I' 82) (m_Wj M F b W h0 j) → I' 82 5 = lit → (∀ i, i < j → ∀ s, s < m_nZ I → I' 68 (5 * (h0 + i) + s) = m_Wj M F b W h0 (i + 1) 5 s) → Q .null (am_hp N (rt, rs, rd, rl, rx, rt, nw, nf) I' J')) :
    am_D (d + 7) 26 [.ref 61, .ref 82, .int e] (am_hp N (rt, rs, rd, rl, rx, rt, nw, nf) I1 J) Q := by
  have hokM := e_ok hte hok
  have e1 : am_hp N (rt, rs, rd, rl, rx, rt, nw, nf) I1 J = am_hp N (rt, rs, rd, rl, rx, rt, nw, nf) (c_C I1 82 (c_w I1 82) (I1 63) (I1 68)) (c_J J (J 64) (J 65)) := by rw [c_wid, c_Jid]
  have hcache : c_cache I1 M (rt + 15) (I1 63) (J 64) := n_cache hte (c_cache_row hrow hca)
  rw [e1, he]
  refine s_N_walkTo henv hokM hrel (e_okW hte hW) (by omega) (by rw [c_wI (by omega)]; exact hlit) hh hj hj1 hcache ?_
  intro C' K' P' vl' st' g1 g2 g3 g4
  refine hQ _ _ ?_ ?_ (cw_wC (by omega) g1) ?_ ?_
  · intro a h1 h2 h3
    funext k
    rw [c_Co (by omega)]
  · rw [show c_C I1 82 C' K' P' 63 = K' from rfl]
    exact c_cache_row hrow.symm (n_cacheR hte g3)
  · rw [show (82 : Nat) = 82 + 0 from rfl, c_Ci (by omega) (by omega)]; exact g2
  · intro i hi s hs
    rw [c_CP, g4 i hi s (by rw [e_nZ hte]; exact hs)]
end
