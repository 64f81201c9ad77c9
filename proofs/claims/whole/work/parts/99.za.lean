/-! ===== L3: the class's text ===== -/
theorem tp_clear {V : Nat → Nat → Int32} {t : Nat} (ht : t = 3 ∨ t = 23) (n0 : ∀ i, i < 7 → V 95 i = nI 0) (t0 : ∀ i, i < 7 → V t i = nI 0) (s0 : ∀ k, k < 3 → V 112 k = nI 0 ∧ V 113 k = nI 0 ∧ V (t + 17) k = nI 0 ∧ V (t + 18) k = nI 0 ∧ V (t + 19) k = nI 0) (w0 : ∀ k, k < 64 → V (t + 4) k = nI 0) (r0 : ∀ h, h < 8 → V (t + 11) h = nI 0 ∧ V (t + 12) h = nI 0 ∧ V (t + 13) h = nI 0 ∧ V (t + 14) h = nI 0) (l0 : V (t + 15) 0 = nI 0 ∧ V (t + 15) 1 = nI 0) (ro : c_ro V) : t_pre V t := by
  have eH : m_nH V = 0 := nN_of (n0 0 (by omega)) (by omega)
  have eS : m_nS V = 0 := nN_of (n0 1 (by omega)) (by omega)
  have eZ : m_nZ V = 0 := nN_of (n0 2 (by omega)) (by omega)
  have eL : m_nL V = 0 := nN_of (n0 3 (by omega)) (by omega)
  have eA : m_nA V = 0 := nN_of (n0 4 (by omega)) (by omega)
  have eK : m_kn V = 0 := nN_of (n0 6 (by omega)) (by omega)
  refine ⟨⟨ht, ⟨⟨?_, ?_⟩, ⟨?_, ?_⟩, ⟨?_, ?_⟩, ⟨?_, ?_⟩, ⟨?_, ?_⟩, ?_, ?_⟩, ?_, ?_⟩, ⟨?_, ?_, ?_, ?_, ?_, ?_⟩, ?_, ?_, ?_, ?_, ?_, ?_, ?_, ?_, ?_, ?_, ?_, ?_, ?_, ?_, ?_, ?_, ?_, ?_, ?_, ?_⟩
  · rw [eH]; exact n0 0 (by omega)
  · omega
  · rw [eS]; exact n0 1 (by omega)
  · omega
  · rw [eZ]; exact n0 2 (by omega)
  · omega
  · rw [eL]; exact n0 3 (by omega)
  · omega
  · rw [eA]; exact n0 4 (by omega)
  · omega
  · intro s hs; omega
  · intro k hk
    exact ⟨0, 0, (s0 k hk).1, (s0 k hk).2.1, by omega, by omega, fun g => by omega⟩
  · exact ⟨fun l hl => by omega, fun a b l l' hl => by omega⟩
  · intro l hl; omega
  · rw [t0 0 (by omega), n0 0 (by omega)]
  · rw [t0 1 (by omega), n0 1 (by omega)]
  · rw [t0 2 (by omega), n0 2 (by omega)]
  · rw [t0 3 (by omega), n0 3 (by omega)]
  · rw [t0 4 (by omega), n0 4 (by omega)]
  · rw [t0 6 (by omega), n0 5 (by omega)]
  · intro h hh; omega
  · intro h hh; omega
  · intro s hs; omega
  · intro l hl; omega
  · intro a b ha hb
    rw [w0 _ (by omega), eS]
    rfl
  · intro s hs; omega
  · intro l hl; omega
  · intro h hh l hl
    rw [(r0 h hh).1, b_z]
    symm
    exact decide_eq_false (by omega)
  · intro h hh hr hhr
    rw [(r0 h hh).2.1, b_z, eA]
    rfl
  · intro h hh; omega
  · refine ⟨fun k hk => ?_, fun k hk i h1 h2 => ?_⟩
    · show V (t + 17) k = V 112 k ∧ V (t + 18) k = V 113 k
      obtain ⟨a, b, c, d, e⟩ := s0 k hk
      rw [a, b, c, d]; exact ⟨rfl, rfl⟩
    · rw [(s0 k hk).2.1, nI_clamp (by omega)] at h2; omega
  · intro k hk p hp
    show bt (V (t + 19) k) p = true ↔ _
    rw [(s0 k hk).2.2.2.2, b_z]
    constructor
    · intro g; cases g
    · rintro ⟨_, i, _, h2, _⟩
      rw [(s0 k hk).2.1, nI_clamp (by omega)] at h2; omega
  · rw [l0.1, n0 6 (by omega)]
  · exact ro
  · intro a ha; omega
  · intro h _ hh
    exact ⟨(r0 h hh).2.2.1, (r0 h hh).2.2.2, by rw [t0 5 (by omega), b_z]⟩
  · rw [l0.2, n0 6 (by omega)]
  · rw [eK]; exact n0 6 (by omega)
  · omega
  · intro k hk
    rw [(s0 k hk).2.1, nI_clamp (by omega)]; omega
section
variable {d N : Nat} {Q : Value → am_H → Prop} {r : am_rho} {J : Nat → Nat → Int64} {rt rs rd rl rx nt nw nf n t : Nat} {T : Nat → Nat} {I : Nat → Nat → Int32}
/-- a town is cleared -/
theorem s_T_clear (ht : t = 3 ∨ t = 23) (hQ : ∀ I', (∀ a, ¬ (t ≤ a ∧ a ≤ t + 19) → I' a = I a) → (∀ i, i < 7 → I' t i = nI 0) → (∀ k, k < 3 → I' (t + 17) k = nI 0 ∧ I' (t + 18) k = nI 0 ∧ I' (t + 19) k = nI 0) → (∀ k, k < 64 → I' (t + 4) k = nI 0) → (∀ h, h < 8 → I' (t + 11) h = nI 0 ∧ I' (t + 12) h = nI 0 ∧ I' (t + 13) h = nI 0 ∧ I' (t + 14) h = nI 0) → (I' (t + 15) 0 = nI 0 ∧ I' (t + 15) 1 = nI 0) → Q .null (am_hp N r I' J)) : am_D (d + 3) 73 [.ref t] (am_hp N r I J) Q := by
  have hq : t + 15 = 18 ∨ t + 15 = 38 := by omega
  have T4 : am_TT N (t + 4) = (1, 64) := by rcases ht with rfl | rfl <;> rfl
  have T11 : am_TT N (t + 11) = (1, 8) := by rcases ht with rfl | rfl <;> rfl
  have T12 : am_TT N (t + 12) = (1, 8) := by rcases ht with rfl | rfl <;> rfl
  have T13 : am_TT N (t + 13) = (1, 8) := by rcases ht with rfl | rfl <;> rfl
  have T14 : am_TT N (t + 14) = (1, 8) := by rcases ht with rfl | rfl <;> rfl
  have T17 : am_TT N (t + 15 + 2) = (1, 3) := by rcases ht with rfl | rfl <;> rfl
  have T18 : am_TT N (t + 15 + 3) = (1, 3) := by rcases ht with rfl | rfl <;> rfl
  have T19 : am_TT N (t + 15 + 4) = (1, 3) := by rcases ht with rfl | rfl <;> rfl
  rw [e_Town_clear ht, s_J_fill T4 (by omega), e_Town_clear_43 ht, s_J_fill T11 (by omega), e_Town_clear_51 ht, s_J_fill T12 (by omega), e_Town_clear_59 ht, s_J_fill T13 (by omega), e_Town_clear_67 ht, s_J_fill T14 (by omega), e_Town_clear_75 ht, e_Laws_clear hq, s_J_fill T17 (by omega), e_Laws_clear_18 hq, s_J_fill T18 (by omega), e_Laws_clear_26 hq, s_J_fill T19 (by omega), e_Laws_clear_34 hq, e_Town_clear_82 ht]
  have fN : ∀ {X : Nat → Nat → Int32} {a m b j : Nat} {x : Int32}, b ≠ a → am_fl X a m x b j = X b j := fun h => by unfold am_fl; rw [if_neg (by omega)]
  have fE : ∀ {X : Nat → Nat → Int32} {a m j : Nat} {x : Int32}, j < m → am_fl X a m x a j = x := fun h => by unfold am_fl; rw [if_pos ⟨rfl, h⟩]
  refine hQ _ ?_ ?_ ?_ ?_ ?_ ?_
  · intro a ha
    funext j
    rw [fN (by omega), fN (by omega), fN (by omega), am_uN (by omega), am_uN (by omega), fN (by omega), fN (by omega), fN (by omega), fN (by omega), fN (by omega), am_uN (by omega), am_uN (by omega), am_uN (by omega), am_uN (by omega), am_uN (by omega), am_uN (by omega), am_uN (by omega)]
  · intro i hi
    rw [fN (by omega), fN (by omega), fN (by omega), am_uN (by omega), am_uN (by omega), fN (by omega), fN (by omega), fN (by omega), fN (by omega), fN (by omega)]
    rcases (show i = 0 ∨ i = 1 ∨ i = 2 ∨ i = 3 ∨ i = 4 ∨ i = 5 ∨ i = 6 by omega) with rfl | rfl | rfl | rfl | rfl | rfl | rfl <;> try simp (config := {maxSteps := 1000000}) (disch := omega) only [nI_add, nI_1, am_mulN, nI_clamp, am_gI, am_ifd, am_ifn, am_asIe, am_asLe, nI_leI, nI_ltI, nI_eq, am_neg1, am_neg1b, tK_u, tK_o, tK_1, tK_2, tK_3, tK_4, tK_5, am_uE, am_uN]
  · intro k hk
    refine ⟨?_, ?_, ?_⟩
    · rw [fN (by omega), fN (by omega)]; exact fE hk
    · rw [fN (by omega)]; exact fE hk
    · exact fE hk
  · intro k hk
    rw [fN (by omega), fN (by omega), fN (by omega), am_uN (by omega), am_uN (by omega), fN (by omega), fN (by omega), fN (by omega), fN (by omega), fE hk]
  · intro h hh
    refine ⟨?_, ?_, ?_, ?_⟩
    · rw [fN (by omega), fN (by omega), fN (by omega), am_uN (by omega), am_uN (by omega), fN (by omega), fN (by omega), fN (by omega), fE hh]
    · rw [fN (by omega), fN (by omega), fN (by omega), am_uN (by omega), am_uN (by omega), fN (by omega), fN (by omega), fE hh]
    · rw [fN (by omega), fN (by omega), fN (by omega), am_uN (by omega), am_uN (by omega), fN (by omega), fE hh]
    · rw [fN (by omega), fN (by omega), fN (by omega), am_uN (by omega), am_uN (by omega), fE hh]
  · refine ⟨?_, ?_⟩
    · rw [fN (by omega), fN (by omega), fN (by omega), am_uN (by omega), am_uE]
    · rw [fN (by omega), fN (by omega), fN (by omega), am_uE]
/-- a text is read -/
theorem cl_read {Z0 : Nat → Nat → Int32} (ht : t = 3 ∨ t = 23) (hx : tx I n T) (hT : t_pr I Z0 t)
    (hF : ∀ f q ln' Z' rl' I', rdF n T n 0 Z0 false 0 = (f, q, ln', Z') → f ≠ 0 → (rl' = rl ∨ rl' = t + 15) → frt t I I' → I' 43 6 = nI f → I' 43 7 = nI (tkP n T q) → Q (.int (nI 0)) (am_hp N (rt, rs, t, rl', 2, nt, nw, nf) I' J))
    (hS : ∀ q ln' Z' rl' I', rdF n T n 0 Z0 false 0 = (0, q, ln', Z') → (rl' = rl ∨ rl' = t + 15) → frt t I I' → t_pr I' Z' t → (∀ k, k < 64 → I' (t + 5) k = fl_out (fl_i (I' (t + 4))) 8 k) → I' 43 5 = nI ln' → I' 43 6 = nI 0 → I' 43 7 = -nI 1 → Q (.int (nI 1)) (am_hp N (rt, rs, t, rl', 2, nt, nw, nf) I' J)) :
    am_D (d + 19) 31 [.ref 43, .ref 2, .int (nI n), .ref t] (am_hp N (rt, rs, rd, rl, rx, nt, nw, nf) I J) Q := by
  have h7 := hx.1.1
  rw [e_Reader_read (Or.inl rfl) ht, am_RRu2]
  show am_D (d + 18) 63 [.ref 44, .ref 2, .int (nI n)] (am_hp N (rt, rs, t, rl, rx, nt, nw, nf) (am_u (am_u (am_u (am_u I 43 3 (nI 0)) 43 5 (nI 0)) 43 6 (nI 0)) 43 7 (-nI 1)) J) _
  have hx1 : tx (am_u (am_u (am_u (am_u I 43 3 (nI 0)) 43 5 (nI 0)) 43 6 (nI 0)) 43 7 (-nI 1)) n T := tx_u (tx_u (tx_u (tx_u hx (by omega) (by omega)) (by omega) (by omega)) (by omega) (by omega)) (by omega) (by omega)
  have fr1 : frt t I (am_u (am_u (am_u (am_u I 43 3 (nI 0)) 43 5 (nI 0)) 43 6 (nI 0)) 43 7 (-nI 1)) := frt_tr (frt_u (by omega)) (frt_tr (frt_u (by omega)) (frt_tr (frt_u (by omega)) (frt_u (by omega))))
  have c3 : (am_u (am_u (am_u (am_u I 43 3 (nI 0)) 43 5 (nI 0)) 43 6 (nI 0)) 43 7 (-nI 1)) 43 3 = nI 0 := by try simp (config := {maxSteps := 1000000}) (disch := omega) only [nI_add, nI_1, am_mulN, nI_clamp, am_gI, am_ifd, am_ifn, am_asIe, am_asLe, nI_leI, nI_ltI, nI_eq, am_neg1, am_neg1b, tK_u, tK_o, tK_1, tK_2, tK_3, tK_4, tK_5, am_uE, am_uN]
  have c5 : (am_u (am_u (am_u (am_u I 43 3 (nI 0)) 43 5 (nI 0)) 43 6 (nI 0)) 43 7 (-nI 1)) 43 5 = nI 0 := by try simp (config := {maxSteps := 1000000}) (disch := omega) only [nI_add, nI_1, am_mulN, nI_clamp, am_gI, am_ifd, am_ifn, am_asIe, am_asLe, nI_leI, nI_ltI, nI_eq, am_neg1, am_neg1b, tK_u, tK_o, tK_1, tK_2, tK_3, tK_4, tK_5, am_uE, am_uN]
  have c6 : (am_u (am_u (am_u (am_u I 43 3 (nI 0)) 43 5 (nI 0)) 43 6 (nI 0)) 43 7 (-nI 1)) 43 6 = nI 0 := by try simp (config := {maxSteps := 1000000}) (disch := omega) only [nI_add, nI_1, am_mulN, nI_clamp, am_gI, am_ifd, am_ifn, am_asIe, am_asLe, nI_leI, nI_ltI, nI_eq, am_neg1, am_neg1b, tK_u, tK_o, tK_1, tK_2, tK_3, tK_4, tK_5, am_uE, am_uN]
  have c7 : (am_u (am_u (am_u (am_u I 43 3 (nI 0)) 43 5 (nI 0)) 43 6 (nI 0)) 43 7 (-nI 1)) 43 7 = -nI 1 := by try simp (config := {maxSteps := 1000000}) (disch := omega) only [nI_add, nI_1, am_mulN, nI_clamp, am_gI, am_ifd, am_ifn, am_asIe, am_asLe, nI_leI, nI_ltI, nI_eq, am_neg1, am_neg1b, tK_u, tK_o, tK_1, tK_2, tK_3, tK_4, tK_5, am_uE, am_uN]
  have em : mix (am_u (am_u (am_u (am_u I 43 3 (nI 0)) 43 5 (nI 0)) 43 6 (nI 0)) 43 7 (-nI 1)) Z0 = mix I Z0 := by
    funext a
    by_cases ha : 95 ≤ a ∧ a ≤ 115
    · rw [mix_z ha, mix_z ha]
    · by_cases hc : (2 < a ∧ a < 43) ∨ 2000 < a
      · rw [mix_c hc, mix_c hc, am_uRow (by omega), am_uRow (by omega), am_uRow (by omega), am_uRow (by omega)]
      · unfold mix; rw [if_neg ha, if_neg hc, if_neg ha, if_neg hc]
  generalize am_u (am_u (am_u (am_u I 43 3 (nI 0)) 43 5 (nI 0)) 43 6 (nI 0)) 43 7 (-nI 1) = B at hx1 fr1 c3 c5 c6 c7 em ⊢
  rw [e_Tokens_begin (Or.inl rfl), am_RRu4, am_gT (by rfl)]
  show am_D (d + 17) 281 [.int (nI n), .int (nI 700)] (am_hp N (rt, rs, t, rl, 2, nt, nw, nf) B J) _
  have hmin : ∀ Q2 : Value → am_H → Prop, am_D (d + 17) 281 [.int (nI n), .int (nI 700)] (am_hp N (rt, rs, t, rl, 2, nt, nw, nf) B J) Q2 = Q2 (.int (nI n)) (am_hp N (rt, rs, t, rl, 2, nt, nw, nf) B J) := by
    intro Q2
    rw [e_J_min, am_ifi (nI_ltI (by omega) (by omega)), if_neg (by omega)]
  rw [hmin, am_asIe, e_Tokens_begin_12 (Or.inl rfl)]
  have eB : am_u (am_u B 44 1 (nI n)) 44 2 (nI 0) = tH B (nI n) (nI 0) (B 44 3) (B 44 4) (B 44 5) := by
    have := @tH_id B
    conv => lhs; rw [← this]
    rw [tH_u1, tH_u2]
  rw [eB]
  refine s_Tk_advance (d := d + 8) hx1.1 hx1.2 (by omega) ?_
  intro v hv
  rw [e_Tokens_begin_24 (Or.inl rfl), e_Reader_read_34 (Or.inl rfl) ht]
  refine cl_loop ht n 0 0 Z0 false 0 B rl v (by omega) hx1 (by omega) (by unfold t_pr; rw [em]; exact hT) c3 c5 hv ?_ ?_
  · intro f q ln' Z' rl' I' e hf hrl k1 k2 k3
    exact hF f q ln' Z' rl' I' e hf hrl (frt_tr fr1 k1) k2 k3
  · intro q ln' Z' rl' I' e hrl k1 k2 k3 k4 k5 x4
    rw [s_T_measure (by rcases ht with rfl | rfl <;> rfl) (by rcases ht with rfl | rfl <;> rfl) (by omega), e_Reader_read_104 (Or.inl rfl) ht]
    have sr : ∀ a, a ≠ t + 5 → setrow I' (t + 5) (fl_out (ms_0 (I' (t + 4)) (I' (t + 5)) 64) 8) a = I' a := by
      intro a ha; funext j; unfold setrow; rw [if_neg ha]
    refine hS q ln' Z' rl' _ e hrl ?_ ?_ ?_ ?_ ?_ ?_
    · intro a h1 h2 h3 h4
      rw [sr a (by omega), k1 a h1 h2 h3 h4, fr1 a h1 h2 h3 h4]
    · refine tp_keep k2 ?_
      intro a ha
      by_cases h1 : 95 ≤ a ∧ a ≤ 115
      · rw [mix_z h1, mix_z h1]
      · by_cases hc : (2 < a ∧ a < 43) ∨ 2000 < a
        · rw [mix_c hc, mix_c hc, sr a ha]
        · unfold mix; rw [if_neg h1, if_neg hc, if_neg h1, if_neg hc]
    · intro k hk
      rw [sr (t + 4) (by omega)]
      show (if t + 5 = t + 5 then _ else _) = _
      rw [if_pos rfl]
      exact ms_out hk
    · rw [sr 43 (by omega)]; exact k3
    · rw [sr 43 (by omega), k4]; exact c6
    · rw [sr 43 (by omega), k5]; exact c7
/-- the class's text, whole -/
theorem cl_text {Z0 : Nat → Nat → Int32} {N0 : Nat} (hrt : rt = 3 ∨ rt = 23) (hrs : (rt = 3 ∧ rs = 23) ∨ (rt = 23 ∧ rs = 3)) (hx : tx I n T) (hN0 : I 1 1 = nI N0) (hn : n ≤ N0) (hN7 : N0 ≤ 700) (hro : c_ro I) (hZ : ∀ i, i < 7 → Z0 95 i = nI 0) (hZ2 : ∀ k, k < 3 → Z0 112 k = nI 0 ∧ Z0 113 k = nI 0)
    (hF : ∀ f q ln' Z' rl' I', rdF n T n 0 Z0 false 0 = (f, q, ln', Z') → f ≠ 0 → (rl' = rl ∨ rl' = rs + 15) → frt rs (am_u I 1 1 (nI 0)) I' → I' 43 6 = nI f → I' 43 7 = nI (tkP n T q) → Q (.int (-nI 1)) (am_hp N (rt, rs, rs, rl', 2, nt, nw, nf) I' J))
    (hS : ∀ q ln' Z' rl' I', rdF n T n 0 Z0 false 0 = (0, q, ln', Z') → (rl' = rl ∨ rl' = rs + 15) → (∀ a, 92 < a → I' a = I a) → t_pr I' Z' rs → (∀ k, k < 64 → I' (rs + 5) k = fl_out (fl_i (I' (rs + 4))) 8 k) → I' 43 6 = nI 0 → I' 43 7 = -nI 1 → I' 1 1 = nI 0 → I' 1 7 = nI 0 → I' 72 0 = nI 0 → I' 72 1 = -nI 1 → I' 77 0 = nI 0 → (∀ k, k < 512 → I' 63 k = -nI 1) → cw_rel (mix I' Z') (c_w I' 49) (m_start (mix I' Z') (m_g I 0)) → I' 49 5 = nI 0 → Q (.int (nI ln')) (am_hp N (rs, rt, rs, rl', 2, nt, nw, nf) I' J)) :
    am_D (d + 21) 116 [.ref 1, .int (nI n)] (am_hp N (rt, rs, rd, rl, rx, nt, nw, nf) I J) Q := by
  have hrs' : rs = 3 ∨ rs = 23 := by omega
  rw [e_S_text hrs', am_ifi (nI_ltI (by omega) (by omega)), if_neg (by omega), hN0, am_ifi (nI_leI (by omega) (by omega)), if_pos hn]
  refine s_T_clear (d := d + 17) hrs' ?_
  intro I1 c1 c2 c3 c4 c5 c6
  rw [e_S_text_27 hrs']
  have hx1 : tx I1 n T := tx_mv hx (by rw [c1 2 (by omega), am_uRow (by omega)]) (fun a ha => by rw [c1 a (by omega), am_uRow (by omega)])
  have hT1 : t_pr I1 Z0 rs := by
    refine tp_clear hrs' ?_ ?_ ?_ ?_ ?_ ?_ ?_
    · rw [mix_z (by omega)]; exact hZ
    · rw [mix_c (by omega)]; exact c2
    · intro k hk
      rw [mix_z (by omega), mix_z (by omega), mix_c (by omega), mix_c (by omega), mix_c (by omega)]
      exact ⟨(hZ2 k hk).1, (hZ2 k hk).2, c3 k hk⟩
    · rw [mix_c (by omega)]; exact c4
    · rw [mix_c (by omega), mix_c (by omega), mix_c (by omega), mix_c (by omega)]; exact c5
    · rw [mix_c (by omega)]; exact c6
    · unfold c_ro
      rw [mix_c (by omega), mix_c (by omega), c1 2001 (by omega), c1 2002 (by omega), am_uRow (by omega), am_uRow (by omega)]
      exact hro
  have fr1 : frt rs (am_u I 1 1 (nI 0)) I1 := fun a h1 h2 h3 h4 => c1 a h4
  refine cl_read (d := d + 1) hrs' hx1 hT1 ?_ ?_
  · intro f q ln' Z' rl' I' e hf hrl k1 k2 k3
    rw [am_asIe, e_S_text_43 hrs' hrt, am_ifn, if_pos rfl]
    exact hF f q ln' Z' rl' I' e hf hrl (frt_tr fr1 k1) k2 k3
  · intro q ln' Z' rl' I' e hrl k1 k2 k3 k4 k5 k6
    rw [am_asIe, e_S_text_43 hrs' hrt, am_ifn, if_neg n10, am_RRu1, am_RRu0]
    show am_D (d + 20) 150 [.ref 1] (am_hp N (rs, rt, rs, rl', 2, nt, nw, nf) I' J) _
    have fa := frt_tr fr1 k1
    rw [e_S_begin hrs']
    refine s_W_beginV (d := d + 17) (W := m_g I 0) (V := mix I' Z') (by omega) k2 (fun a ha => mix_c (by omega)) ?_
    intro I2 j1 j2 j3 j4
    rw [e_S_begin_11, e_Night_forget, e_Reckoner_forget, s_J_fill (n := 512) (by rfl) (by omega), e_Reckoner_forget_8, e_Night_forget_7, e_S_begin_18, e_Sights_clear, e_S_begin_25, e_S_text_70]
    have fN : ∀ {X : Nat → Nat → Int32} {a m b j : Nat} {x : Int32}, b ≠ a → am_fl X a m x b j = X b j := fun h => by unfold am_fl; rw [if_neg (by omega)]
    have row : ∀ a, a ≠ 1 → a ≠ 63 → a ≠ 72 → a ≠ 77 → am_u (am_u (am_u (am_u (am_fl I2 63 512 (-nI 1)) 72 0 (nI 0)) 72 1 (-nI 1)) 1 7 (nI 0)) 77 0 (nI 0) a = I2 a := by
      intro a h1 h2 h3 h4
      funext j
      rw [am_uN (by omega), am_uN (by omega), am_uN (by omega), am_uN (by omega), fN h2]
    have r43 : am_u (am_u (am_u (am_u (am_fl I2 63 512 (-nI 1)) 72 0 (nI 0)) 72 1 (-nI 1)) 1 7 (nI 0)) 77 0 (nI 0) 43 = I' 43 := by rw [row 43 (by omega) (by omega) (by omega) (by omega), j1 43 (by omega)]
    have rcl : ∀ a, a < 43 → a ≠ 1 → am_u (am_u (am_u (am_u (am_fl I2 63 512 (-nI 1)) 72 0 (nI 0)) 72 1 (-nI 1)) 1 7 (nI 0)) 77 0 (nI 0) a = I' a := by
      intro a h1 h2; rw [row a (by omega) (by omega) (by omega) (by omega), j1 a (by omega)]
    have em : mix (am_u (am_u (am_u (am_u (am_fl I2 63 512 (-nI 1)) 72 0 (nI 0)) 72 1 (-nI 1)) 1 7 (nI 0)) 77 0 (nI 0)) Z' = mix I' Z' := by
      funext a
      by_cases h1 : 95 ≤ a ∧ a ≤ 115
      · rw [mix_z h1, mix_z h1]
      · by_cases hc : (2 < a ∧ a < 43) ∨ 2000 < a
        · rw [mix_c hc, mix_c hc, row a (by omega) (by omega) (by omega) (by omega), j1 a (by omega)]
        · unfold mix; rw [if_neg h1, if_neg hc, if_neg h1, if_neg hc]
    have e5 : am_u (am_u (am_u (am_u (am_fl I2 63 512 (-nI 1)) 72 0 (nI 0)) 72 1 (-nI 1)) 1 7 (nI 0)) 77 0 (nI 0) 43 5 = nI ln' := by rw [r43]; exact k4
    rw [e5]
    refine hS q ln' Z' rl' _ e hrl ?_ ?_ ?_ ?_ ?_ ?_ ?_ ?_ ?_ ?_ ?_ ?_ ?_
    · intro a ha
      rw [row a (by omega) (by omega) (by omega) (by omega), j1 a (by omega), fa a (by omega) (by omega) (by omega) (by omega), am_uRow (by omega)]
    · unfold t_pr; rw [em]; exact k2
    · rw [rcl (rs + 5) (by omega) (by omega), rcl (rs + 4) (by omega) (by omega)]; exact k3
    · rw [r43]; exact k5
    · rw [r43]; exact k6
    · rw [am_uN (by omega), am_uN (by omega), am_uN (by omega), am_uN (by omega), fN (by omega), j1 1 (by omega), fa 1 (by omega) (by omega) (by omega) (by omega), am_uE]
    · rw [am_uN (by omega), am_uE]
    · rw [am_uN (by omega), am_uN (by omega), am_uN (by omega), am_uE]
    · rw [am_uN (by omega), am_uN (by omega), am_uE]
    · rw [am_uE]
    · intro k hk
      rw [am_uN (by omega), am_uN (by omega), am_uN (by omega), am_uN (by omega)]
      unfold am_fl
      rw [if_pos ⟨rfl, hk⟩]
    · rw [em]
      have ec : c_w (am_u (am_u (am_u (am_u (am_fl I2 63 512 (-nI 1)) 72 0 (nI 0)) 72 1 (-nI 1)) 1 7 (nI 0)) 77 0 (nI 0)) 49 = c_w I2 49 := by
        funext i j
        unfold c_w
        by_cases hi : i ≤ 5
        · rw [if_pos hi, if_pos hi, row (49 + i) (by omega) (by omega) (by omega) (by omega)]
        · rw [if_neg hi, if_neg hi]
      rw [ec]
      exact j2
    · rw [row 49 (by omega) (by omega) (by omega) (by omega)]; exact j3
end
