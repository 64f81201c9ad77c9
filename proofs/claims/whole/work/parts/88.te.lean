/-! ===== L3: tried, the class's half ===== -/
section
variable {d N : Nat} {Q : Value → am_H → Prop} {r : am_rho} {I : Nat → Nat → Int32} {J : Nat → Nat → Int64}
def td_q (I : Nat → Nat → Int32) (rt w j : Nat) : Int32 := if w = 1 then nI ((bt (I rt 5) j).toNat * 3) else if w = 2 then I 54 j else if w = 3 then I (rt + 14) j else nI 0
theorem td_loop {rt rs rd rl rx nw nf w i : Nat} {I1 : Nat → Nat → Int32} (ht : rt = 3 ∨ rt = 23) (hw : w < 8) (h1 : I1 rt = I rt) (h54 : I1 54 = I 54) (h14 : I1 (rt + 14) = I (rt + 14))
    (hQ : ∀ I2 o5 o6, (∀ a, a ≠ 69 → I2 a = I1 a) → (∀ j, j < 8 → I2 69 j = I1 69 j - td_q I rt w j) → am_V d Q 98 26 [some (.ref 81), some (.ref rt), some (.int (nI w)), some (.int (nI i)), some (.int (nI 8)), am_oi o5, am_oi o6] [] (am_hp N (rt, rs, rd, rl, rx, rt, nw, nf) I2 J)) :
    am_V d Q 98 26 [some (.ref 81), some (.ref rt), some (.int (nI w)), some (.int (nI i)), some (.int (nI 0)), am_oi none, am_oi none] [] (am_hp N (rt, rs, rd, rl, rx, rt, nw, nf) I1 J) := by
  have lp : ∀ k j, 8 = j + k → ∀ I2 o5 o6, (∀ a, a ≠ 69 → I2 a = I1 a) → (∀ j', j' < 8 → I2 69 j' = if j' < j then I1 69 j' - td_q I rt w j' else I1 69 j') → am_V d Q 98 26 [some (.ref 81), some (.ref rt), some (.int (nI w)), some (.int (nI i)), some (.int (nI j)), am_oi o5, am_oi o6] [] (am_hp N (rt, rs, rd, rl, rx, rt, nw, nf) I2 J) := by
    intro k
    induction k with
    | zero =>
      intro j hj I2 o5 o6 g1 g2
      obtain rfl : j = 8 := by omega
      refine hQ I2 o5 o6 g1 ?_
      intro j hj
      rw [g2 j hj, if_pos hj]
    | succ k ih =>
      intro j hj I2 o5 o6 g1 g2
      have g8 : am_inb (nI j) 8 = true := am_inbT (by omega) (by omega)
      have nle : ¬ (nI 8 : Int32) ≤ nI j := by rw [nI_leI (by omega) (by omega)]; omega
      have fin : ∀ x o5 o6, x = td_q I rt w j → am_V d Q 98 26 [some (.ref 81), some (.ref rt), some (.int (nI w)), some (.int (nI i)), some (.int (nI (j + 1))), am_oi o5, am_oi o6] [] (am_hp N (rt, rs, rd, rl, rx, rt, nw, nf) (am_u I2 69 j (I2 69 j - x)) J) := by
        intro x o5 o6 hx
        refine ih (j + 1) (by omega) _ _ _ ?_ ?_
        · intro a ha
          rw [am_uRow (by omega), g1 a ha]
        · intro j' hj'
          by_cases e : j' = j
          · subst e
            rw [am_uE, if_pos (by omega), g2 _ hj', if_neg (by omega), hx]
          · rw [am_uN (by omega), g2 j' hj']
            by_cases c : j' < j
            · rw [if_pos c, if_pos (by omega)]
            · rw [if_neg c, if_neg (by omega)]
      have r1 : I2 rt = I rt := by rw [g1 rt (by omega), h1]
      have r54 : I2 54 = I 54 := by rw [g1 54 (by omega), h54]
      have r14 : I2 (rt + 14) = I (rt + 14) := by rw [g1 _ (by omega), h14]
      have e : ∀ k, k < 8 → (nI w = nI k) = (w = k) := fun k hk => propext (nI_eq (by omega) (by omega))
      rw [e_Tries_otherwise_26 ht, am_ifd, if_neg nle]
      simp only [am_gT g8]
      rw [am_ifn, am_ifn, am_ifn, r1, r54, r14, b_v (by omega), nI_clamp (by omega), am_mulN, show nI j + nI 1 = nI (j + 1) from nI_add _ _]
      by_cases c1 : w = 1
      · rw [if_pos (by rw [c1])]
        exact fin _ _ _ (by unfold td_q; rw [if_pos c1])
      rw [if_neg (by rw [e 1 (by omega)]; exact c1)]
      by_cases c2 : w = 2
      · rw [if_pos (by rw [c2])]
        exact fin _ _ _ (by unfold td_q; rw [if_neg c1, if_pos c2])
      rw [if_neg (by rw [e 2 (by omega)]; exact c2)]
      by_cases c3 : w = 3
      · rw [if_pos (by rw [c3])]
        exact fin _ _ _ (by unfold td_q; rw [if_neg c1, if_neg c2, if_pos c3])
      rw [if_neg (by rw [e 3 (by omega)]; exact c3)]
      exact fin _ _ _ (by unfold td_q; rw [if_neg c1, if_neg c2, if_neg c3])
  exact lp 8 0 (by omega) I1 none none (fun _ _ => rfl) (fun j hj => by rw [if_neg (by omega)])
theorem s_T_allH {rt n : Nat} (ht : rt = 3 ∨ rt = 23) (h : I rt 0 = nI n) (hn : n ≤ 8) : am_D (d + 1) 76 [.ref rt] (am_hp N r I J) Q = Q (.int (c_all n)) (am_hp N r I J) := by
  have : ∀ n, n < 9 → (nI 1 <<< (nI n &&& nI 31)) - nI 1 = c_all n := by decide +kernel
  rw [e_Town_allHouses ht, h, this n (by omega)]
theorem s_T_otherwise {rt rs rd rl rx nt nw nf w i : Nat} (hv : i_inv (rt, rs, rd, rl, rx, nt, nw, nf) I J) (hw : w < 8) (h6 : w = 6 → i < m_nZ I) (h7 : w = 7 → i < m_nS I)
    (hQ : ∀ I' J' nw' nf', cfr I I' → ((nw' = rt + 4 ∧ nf' = rt + 5) ∨ (nw' = 66 ∧ nf' = 67)) → c_cache I I (rt + 15) (I' 63) (J' 64) → Q (.int (q_cnt I (q_run I (td_M I w i) false))) (am_hp N (rt, rs, rd, rl, rx, rt, nw', nf') I' J')) :
    am_D (d + 9) 98 [.ref 81, .ref rt, .int (nI w), .int (nI i)] (am_hp N (rt, rs, rd, rl, rx, nt, nw, nf) I J) Q := by
  obtain ⟨ht, hok, eH, eZ, eL, h0, h12, e49, e118⟩ := iv_ref hv
  have hbell := iv_bell hv
  obtain ⟨href, htr, hid, hnow, himg, hund, hsig, htap, hflt, hca⟩ := hv
  obtain ⟨n1, n2, n3⟩ := hnow
  have htr' := htr
  obtain ⟨⟨_, _, hst, hokL⟩, ⟨e0, e1, e2, e3, e4, e6⟩, ecat, ehn, esn, ese, ewy, efa, esl, ele, ema, ela, ebe, elw, eus, ekn, ero⟩ := htr'
  have hZ := hok.2.2.1
  have hH8 := hok.1.2
  have hL8 := hok.2.2.2.1.2
  have hte : te I (td_M I w i) := td_te
  have henv0 := env_idle (w := 49) (F := I 128) (W := m_g I 0) (by omega) htr hid hbell
  rw [e_Tries_otherwise ht, s_N_suit ht (by omega) eZ hZ.2, e_Tries_otherwise_12 ht]
  have e49w : c_w (c_suit I rt 49 (m_nZ I)) 49 = c_w I 49 := c_w_su (by omega)
  have s69 : ∀ j, j < 8 → c_suit I rt 49 (m_nZ I) 69 j = (I 54 j + I (rt + 14) j) + nI ((bt (I rt 5) j).toNat * 3) := fun j hj => su_69 hj
  have srow : ∀ a, (a < 61 ∨ a = 62 ∨ a = 63 ∨ (64 ≤ a ∧ a < 69) ∨ 72 ≤ a) → c_suit I rt 49 (m_nZ I) a = I a := fun a h => su_row (by omega)
  generalize c_suit I rt 49 (m_nZ I) = S at henv0 e49w s69 srow ⊢
  have eS : am_hp N (rt, rs, rd, rl, rx, rt, rt + 4, rt + 5) S J = am_hp N (rt, rs, rd, rl, rx, rt, rt + 4, rt + 5) (c_C S 82 (c_w S 82) (S 63) (S 68)) J := by rw [c_wid]
  rw [eS, s_W_become (by omega) (by omega) (by omega), c_cpw, e_Tries_otherwise_23 ht, e49w]
  have p2 : cw_rel I (c_w (c_C S 82 (c_cp (c_w S 82) (c_w I 49)) (S 63) (S 68)) 82) (m_g I 0) := cw_wC (by omega) (cw_cp hok n1)
  have p3 : c_C S 82 (c_cp (c_w S 82) (c_w I 49)) (S 63) (S 68) 82 5 = m_g I 0 3 0 := by
    rw [show (82 : Nat) = 82 + 0 from rfl, c_Ci (by omega) (by omega)]
    unfold c_cp
    rw [if_pos (by omega), c_wI (by omega)]
    exact n2
  have p1 : ∀ a, (a < 82 ∨ 87 < a) → c_C S 82 (c_cp (c_w S 82) (c_w I 49)) (S 63) (S 68) a = S a := by
    intro a ha
    by_cases c : a = 63
    · subst c; rfl
    · by_cases c2 : a = 68
      · subst c2; rfl
      · funext j; exact c_Co (by omega)
  generalize c_C S 82 (c_cp (c_w S 82) (c_w I 49)) (S 63) (S 68) = I1 at p1 p2 p3 ⊢
  refine td_loop (I := I) ht hw (by rw [p1 rt (by omega), srow rt (by omega)]) (by rw [p1 54 (by omega), srow 54 (by omega)]) (by rw [p1 _ (by omega), srow _ (by omega)]) ?_
  intro I2 o5 o6 g1 g2
  have f : ∀ a, a ≠ 69 → (a < 82 ∨ 87 < a) → I2 a = S a := fun a h1 h2 => by rw [g1 a h1, p1 a h2]
  have noi : ∀ k, k < m_nH I → I2 69 k = m_noise (td_M I w i) (m_g I 0 9 k) k ∧ ∃ q, q < 64 ∧ I2 69 k = nI q := by
    intro h hh
    obtain ⟨b1, kb, hkb, b2⟩ := hbell h hh
    obtain ⟨_, b4, _, ks, hks, b5⟩ := ebe h hh
    have hc := bt_toNat2 (bt (I rt 5) h)
    rw [td_noise hid hw b2 b5 (ecat h hh) (by omega), g2 h (by omega), p1 69 (by omega), s69 h (by omega)]
    have b54 : I 54 h = nI kb := b1.trans b2
    have b14 : I (rt + 14) h = nI ks := b4.trans b5
    have : (I 54 h + I (rt + 14) h) + nI ((bt (I rt 5) h).toNat * 3) - td_q I rt w h = nI ((if w = 2 then 0 else kb) + (if w = 3 then 0 else ks) + (if w = 1 then 0 else (bt (I rt 5) h).toNat * 3)) := by
      unfold td_q
      rw [b54, b14, nI_add, nI_add]
      by_cases c1 : w = 1
      · rw [if_pos c1, if_pos c1, if_neg (by omega), if_neg (by omega), am_subN (by omega)]
        congr 1; omega
      rw [if_neg c1, if_neg c1]
      by_cases c2 : w = 2
      · rw [if_pos c2, if_pos c2, if_neg (by omega), am_subN (by omega)]
        congr 1; omega
      rw [if_neg c2, if_neg c2]
      by_cases c3 : w = 3
      · rw [if_pos c3, if_pos c3, am_subN (by omega)]
        congr 1; omega
      rw [if_neg c3, if_neg c3, am_subN (by omega)]
      rfl
    rw [this]
    refine ⟨rfl, _, ?_, rfl⟩
    have t1 : (if w = 2 then 0 else kb) ≤ kb := by split <;> omega
    have t2 : (if w = 3 then 0 else ks) ≤ ks := by split <;> omega
    have t3 : (if w = 1 then 0 else (bt (I rt 5) h).toNat * 3) ≤ 3 := by split <;> omega
    omega
  have fin : ∀ I3 lit nw' nf' x4 o5 o6, c_env I3 (td_M I w i) rt nw' nf' (m_far (td_M I w i) (I 128)) false (m_g I 0 9) lit (m_g I 0 3 0) → cw_rel (td_M I w i) (c_w I3 82) (m_g I 0) → I3 82 5 = lit → (∀ a, (a < 61 ∨ a = 62 ∨ a = 63 ∨ (72 ≤ a ∧ a ≤ 80) ∨ 93 ≤ a) → I3 a = I a) → ((nw' = rt + 4 ∧ nf' = rt + 5) ∨ (nw' = 66 ∧ nf' = 67)) → am_V (d + 8) Q 98 183 [some (.ref 81), some (.ref rt), some (.int (nI w)), some (.int (nI i)), some (.int x4), am_oi o5, am_oi o6] [] (am_hp N (rt, rs, rd, rl, rx, rt, nw', nf') I3 J) := by
    intro I3 lit nw' nf' x4 o5 o6 henv hrel hlit hrow hnf
    rw [e_Tries_otherwise_183 ht]
    refine s_T_walk (I := I) (M := td_M I w i) (W := m_g I 0) (h0 := h0) (j := 12 - h0) hte hok henv hrel n3.1 hlit e118 (by omega) (by omega) (by rw [show h0 + (12 - h0) - 1 = 11 by omega]) (hrow _ (by omega)) (by rw [hrow 63 (by omega)]; exact hca) ?_
    intro I' J' k1 k2 k3 k4 k5
    obtain ⟨c1, c2⟩ := cw_cnt k3 (by rw [e_nL hte]; exact hL8)
    rw [c_wI (by omega)] at c1 c2
    rw [e_Tries_otherwise_196 ht, s_J_bitCount c2]
    try simp (config := {maxSteps := 1000000}) (disch := omega) only [nI_add, nI_1, am_mulN, nI_clamp, am_gI, am_ifd, am_ifn, am_asIe, am_asLe, nI_leI, nI_ltI, nI_eq, am_neg1, am_neg1b]
    rw [e_Tries_otherwise_206 ht, c1]
    have ea : q_cnt (td_M I w i) (m_Wj (td_M I w i) (m_far (td_M I w i) (I 128)) false (m_g I 0) h0 (12 - h0)) = q_cnt I (q_run I (td_M I w i) false) := by
      unfold q_cnt q_run
      rw [e118, nI_clamp (by omega), e_nL hte]
    rw [ea]
    refine hQ _ _ _ _ ⟨?_, ?_⟩ hnf k2
    · intro a ha
      rw [k1 a (by omega) (by omega) (by omega), hrow a (by omega)]
    · intro a ha
      rw [k1 a (by omega) (by omega) (by omega), hrow a (by omega)]
  have hrelM : ∀ I3, (∀ a j, 82 ≤ a → a ≤ 87 → (a ≠ 82 ∨ j ≠ 5) → I3 a j = I1 a j) → cw_rel (td_M I w i) (c_w I3 82) (m_g I 0) := by
    intro I3 h
    refine e_cw hte ?_
    have := cw_lit (x := I3 82 5) (y := m_g I 0 3 0) p2
    have ew : am_u (m_g I 0) 3 0 (m_g I 0 3 0) = m_g I 0 := by
      funext a b; unfold am_u
      by_cases c : a = 3 ∧ b = 0
      · rw [if_pos c, c.1, c.2]
      · rw [if_neg c]
    rw [ew] at this
    refine cw_cong ?_ this
    intro a j ha
    by_cases c : a = 0 ∧ j = 5
    · rw [c.1, c.2, am_uE, c_wI (by omega)]
    · rw [am_uN (by omega), c_wI ha, c_wI ha, h _ _ (by omega) (by omega) (by omega)]
  have e : ∀ k, k < 8 → (nI w = nI k) = (w = k) := fun k hk => propext (nI_eq (by omega) (by omega))
  have stM := e_stok hte hst
  have wM : ∀ p n a b, wayP (td_M I w i) p n a b = wayP I p n a b := by
    intro p n a b
    unfold wayP st0
    rw [hte 100 (by omega) (by omega), hte 101 (by omega) (by omega), hte 102 (by omega) (by omega)]
  have mk : ∀ I3 lit nw' nf', ((nw' = rt + 4 ∧ nf' = rt + 5) ∨ (nw' = 66 ∧ nf' = 67)) → (∀ a, a < 61 ∨ 93 ≤ a → I3 a = S a) → I3 69 = I2 69 → I3 71 = S 71 → I3 61 10 = S 61 10 → I3 61 12 = S 61 12 →
      (∀ s, s < m_nZ I → I3 70 s = m_deep (td_M I w i) s ∧ ∃ k, k < 16 ∧ I3 70 s = nI k) →
      (∀ k, k < m_nH I → ∀ hr, hr < 12 → cl_light I3 rt lit k hr = m_light (td_M I w i) (m_nA I) (m_g I 0 3 0) k (nI hr)) →
      (∀ a b, a < 8 → b < 8 → I3 nw' (8 * a + b) = wayP I (m_gone (td_M I w i)) (m_nS I) a b) → (0 < m_nH I → ∀ k, k < 64 → I3 nf' k = fl_out (fl_i (I3 nw')) 8 k) →
      c_env I3 (td_M I w i) rt nw' nf' (m_far (td_M I w i) (I 128)) false (m_g I 0 9) lit (m_g I 0 3 0) := by
    intro I3 lit nw' nf' hnf rows r69 r71 r10 r12 cd cl cw cf
    refine env_x hte henv0 rows ⟨by omega, by omega⟩ ?_ cd ?_ cl ?_ ?_ ?_ ?_
    · rw [r69]; exact noi
    · rw [r71, n_dream hte ⟨td_o (by omega) (by omega), td_o (by omega) (by omega)⟩]; exact henv0.2.2.2.2.2.2.1
    · intro hH0 k hk
      obtain ⟨f1, q, hq1, f2⟩ := far_eq (F := I 128) stM (by rw [e_nH hte]; exact hH8) (w := I3 nw') (fun a b ha hb => by rw [wM, e_nS hte]; exact cw a b ha hb) k hk
      rw [cf hH0 k hk, f1]
      exact ⟨rfl, q, by omega, by rw [← f1]; exact f2⟩
    · intro a h ha hh
      rw [m_way_P stM (by rw [e_nH hte]; exact hH8) (by omega), wM, e_nS hte, cw a h (by omega) (by omega)]
      obtain ⟨q, hq1, f2⟩ := wayP_lt (p := m_gone (td_M I w i)) (a := a) (b := h) hst
      exact ⟨rfl, q, by omega, f2⟩
    · rw [r10, td_o (by omega) (by omega)]; exact henv0.2.2.2.2.2.2.2.2.2.2.1
    · rw [r12]; exact henv0.2.2.2.2.2.2.2.2.2.2.2.1
  have dee : w ≠ 6 → ∀ s, s < m_nZ I → S 70 s = m_deep (td_M I w i) s ∧ ∃ k, k < 16 ∧ S 70 s = nI k := by
    intro c s hs
    have : m_deep (td_M I w i) s = m_deep I s := by
      rw [m_deep_idle hid]
      unfold m_deep
      rw [td_52, if_neg (fun g => c ((nI_eq (by omega) (by omega)).mp g.1)), hte 105 (by omega) (by omega)]
    rw [this]
    exact henv0.2.2.2.2.2.1 s hs
  have lig : w ≠ 4 → w ≠ 5 → ∀ I3, I3 61 11 = nI 0 → I3 (rt + 12) = S (rt + 12) → ∀ k, k < m_nH I → ∀ hr, hr < 12 → cl_light I3 rt (m_g I 0 3 0) k hr = m_light (td_M I w i) (m_nA I) (m_g I 0 3 0) k (nI hr) := by
    intro c4 c5 I3 h11 h12' k hk hr hhr
    have h0' := henv0.2.2.2.2.2.2.2.1 k hk hr hhr
    have : m_light (td_M I w i) (m_nA I) (m_g I 0 3 0) k (nI hr) = m_light I (m_nA I) (m_g I 0 3 0) k (nI hr) := by
      rw [m_light_idle hid]
      unfold m_light
      rw [td_52, td_o (by omega) (by omega), td_o (by omega) (by omega), hid.2.2.2.2.2.2.1, hid.2.2.2.2.2.2.2.1, b_z, decide_eq_false (fun g => c4 ((nI_eq (by omega) (by omega)).mp g)), decide_eq_false (fun g => c5 ((nI_eq (by omega) (by omega)).mp g)), decide_eq_true rfl, e_lamp hte]
      simp
    rw [this, m_light_idle hid, ← ela k hk hr hhr]
    unfold cl_light
    rw [h11, h12', decide_eq_true rfl, Bool.true_and, srow _ (by omega), Bool.or_comm]
  have gon : w ≠ 7 → m_gone (td_M I w i) = fun _ => false := by
    intro c
    funext l
    unfold m_gone
    exact decide_eq_false (fun g => c ((nI_eq (by omega) (by omega)).mp (td_52.symm.trans g.1)))
  have way7 : w ≠ 7 → ∀ a b, a < 8 → b < 8 → I (rt + 4) (8 * a + b) = wayP I (m_gone (td_M I w i)) (m_nS I) a b := by
    intro c a b ha hb
    rw [gon c]; exact ewy a b ha hb
  have fr3 : ∀ a, a ≠ 69 → a ≠ 61 → a ≠ 70 → (a < 82 ∨ 87 < a) → I2 a = S a := fun a h1 _ _ h2 => f a h1 h2
  rw [e_Tries_otherwise_26 ht, am_ifd, if_pos (by decide +kernel), am_ifn, am_ifn, am_ifn, am_ifn, am_ifn, am_ifn, am_ifn]
  by_cases c4 : w = 4
  · rw [if_pos (by rw [c4]), if_neg (by rw [e 5 (by omega)]; omega), if_neg (by rw [e 6 (by omega)]; omega), if_neg (by rw [e 7 (by omega)]; omega)]
    refine fin _ (m_g I 0 3 0) _ _ _ _ _ (mk _ _ _ _ (Or.inl ⟨rfl, rfl⟩) ?_ ?_ ?_ ?_ ?_ ?_ ?_ ?_ ?_) (hrelM _ ?_) ?_ ?_ (Or.inl ⟨rfl, rfl⟩)
    · intro a ha; rw [am_uRow (by omega), f a (by omega) (by omega)]
    · rw [am_uRow (by omega)]
    · rw [am_uRow (by omega), f 71 (by omega) (by omega)]
    · rw [am_uN (by omega), f 61 (by omega) (by omega)]
    · rw [am_uN (by omega), f 61 (by omega) (by omega)]
    · rw [am_uRow (by omega), f 70 (by omega) (by omega)]; exact dee (by omega)
    · intro k hk hr hhr
      unfold cl_light m_light
      rw [am_uE, td_52, c4, decide_eq_false (by decide +kernel), decide_eq_true rfl]; rfl
    · rw [am_uRow (by omega), f _ (by omega) (by omega), srow _ (by omega)]; exact way7 (by omega)
    · rw [am_uRow (by omega), am_uRow (by omega), f _ (by omega) (by omega), f _ (by omega) (by omega), srow _ (by omega), srow _ (by omega)]; exact efa
    · intro a j h1 h2 _; rw [am_uN (by omega), g1 a (by omega)]
    · rw [am_uN (by omega), g1 82 (by omega)]; exact p3
    · intro a ha; rw [am_uRow (by omega), f a (by omega) (by omega), srow a (by omega)]
  rw [if_neg (by rw [e 4 (by omega)]; exact c4)]
  by_cases c5 : w = 5
  · rw [if_pos (by rw [c5]), s_T_allH ht (by rw [am_uN (by omega), f rt (by omega) (by omega), srow rt (by omega)]; exact eH) hH8]
    try simp (config := {maxSteps := 1000000}) (disch := omega) only [nI_add, nI_1, am_mulN, nI_clamp, am_gI, am_ifd, am_ifn, am_asIe, am_asLe, nI_leI, nI_ltI, nI_eq, am_neg1, am_neg1b]
    rw [e_Tries_otherwise_143 ht]
    refine fin _ (c_all (m_nH I)) _ _ _ _ _ (mk _ _ _ _ (Or.inl ⟨rfl, rfl⟩) ?_ ?_ ?_ ?_ ?_ ?_ ?_ ?_ ?_) (hrelM _ ?_) ?_ ?_ (Or.inl ⟨rfl, rfl⟩)
    · intro a ha; rw [am_uRow (by omega), am_uRow (by omega), f a (by omega) (by omega)]
    · rw [am_uRow (by omega), am_uRow (by omega)]
    · rw [am_uRow (by omega), am_uRow (by omega), f 71 (by omega) (by omega)]
    · rw [am_uN (by omega), am_uN (by omega), f 61 (by omega) (by omega)]
    · rw [am_uN (by omega), am_uN (by omega), f 61 (by omega) (by omega)]
    · rw [am_uRow (by omega), am_uRow (by omega), f 70 (by omega) (by omega)]; exact dee (by omega)
    · intro k hk hr hhr
      unfold cl_light m_light c_all
      rw [am_uN (by omega), am_uE, td_52, c5, decide_eq_true rfl, decide_eq_true rfl, decide_eq_false (by decide +kernel), b_2k _ (by omega) _ (by omega), decide_eq_true hk]
      simp
    · rw [am_uRow (by omega), am_uRow (by omega), f _ (by omega) (by omega), srow _ (by omega)]; exact way7 (by omega)
    · rw [am_uRow (by omega), am_uRow (by omega), am_uRow (by omega), am_uRow (by omega), f _ (by omega) (by omega), f _ (by omega) (by omega), srow _ (by omega), srow _ (by omega)]; exact efa
    · intro a j h1 h2 h3; rw [am_uN (by omega), am_uN (by omega), g1 a (by omega)]
    · rw [am_uE]
    · intro a ha; rw [am_uRow (by omega), am_uRow (by omega), f a (by omega) (by omega), srow a (by omega)]
  rw [if_neg (by rw [e 5 (by omega)]; exact c5)]
  by_cases c6 : w = 6
  · have hi5 := h6 c6
    have g5 : am_inb (nI i) 5 = true := am_inbT (by omega) (by omega)
    rw [if_pos (by rw [c6]), am_gT g5, nI_clamp (by omega)]
    refine fin _ (m_g I 0 3 0) _ _ _ _ _ (mk _ _ _ _ (Or.inl ⟨rfl, rfl⟩) ?_ ?_ ?_ ?_ ?_ ?_ ?_ ?_ ?_) (hrelM _ ?_) ?_ ?_ (Or.inl ⟨rfl, rfl⟩)
    · intro a ha; rw [am_uRow (by omega), am_uRow (by omega), f a (by omega) (by omega)]
    · rw [am_uRow (by omega), am_uRow (by omega)]
    · rw [am_uRow (by omega), am_uRow (by omega), f 71 (by omega) (by omega)]
    · rw [am_uN (by omega), am_uN (by omega), f 61 (by omega) (by omega)]
    · rw [am_uN (by omega), am_uN (by omega), f 61 (by omega) (by omega)]
    · intro s hs
      unfold m_deep
      rw [td_52, td_53, c6]
      by_cases q : i = s
      · subst q
        rw [am_uE, if_pos ⟨rfl, rfl⟩]
        exact ⟨rfl, 9, by omega, rfl⟩
      · rw [am_uN (by omega), am_uN (by omega), f 70 (by omega) (by omega), if_neg (fun g => q ((nI_eq (by omega) (by omega)).mp g.2)), td_row (by omega)]
        have := henv0.2.2.2.2.2.1 s hs
        rw [m_deep_idle hid] at this
        exact this
    · exact lig c4 c5 _ (by rw [am_uN (by omega), am_uE]) (by rw [am_uRow (by omega), am_uRow (by omega), f _ (by omega) (by omega)])
    · rw [am_uRow (by omega), am_uRow (by omega), f _ (by omega) (by omega), srow _ (by omega)]; exact way7 (by omega)
    · rw [am_uRow (by omega), am_uRow (by omega), am_uRow (by omega), am_uRow (by omega), f _ (by omega) (by omega), f _ (by omega) (by omega), srow _ (by omega), srow _ (by omega)]; exact efa
    · intro a j h1 h2 h3; rw [am_uN (by omega), am_uN (by omega), g1 a (by omega)]
    · rw [am_uN (by omega), am_uN (by omega), g1 82 (by omega)]; exact p3
    · intro a ha; rw [am_uRow (by omega), am_uRow (by omega), f a (by omega) (by omega), srow a (by omega)]
  rw [if_neg (by rw [e 6 (by omega)]; exact c6)]
  by_cases c7 : w = 7
  · have hi7 := h7 c7
    have hS12 := hok.2.1.2
    obtain ⟨a, b, c, ha, hb, hab, h100, h101, h102, _⟩ := hst.1 i hi7
    rw [if_pos (by rw [c7])]
    refine s_N_close (d := d + 5) (a := a) (b := b) ht (by omega) ?_ (by omega) (by omega) ?_
    · rw [am_uRow (by omega), f _ (by omega) (by omega), srow _ (by omega), ese i hi7, h100, h101, am_mulN, nI_add]
    intro I3 q1 q2 q3
    have q1' : ∀ c, c ≠ 66 → c ≠ 67 → c ≠ 61 → I3 c = I2 c := fun c h1 h2 h3 => by rw [q1 c h1 h2, am_uRow (by omega)]
    refine fin _ (m_g I 0 3 0) _ _ _ _ _ (mk _ _ _ _ (Or.inr ⟨rfl, rfl⟩) ?_ ?_ ?_ ?_ ?_ ?_ ?_ ?_ (fun _ => q3)) (hrelM _ ?_) ?_ ?_ (Or.inr ⟨rfl, rfl⟩)
    · intro a ha; rw [q1' a (by omega) (by omega) (by omega), f a (by omega) (by omega)]
    · rw [q1' _ (by omega) (by omega) (by omega)]
    · rw [q1' _ (by omega) (by omega) (by omega), f 71 (by omega) (by omega)]
    · rw [q1 61 (by omega) (by omega), am_uN (by omega), f 61 (by omega) (by omega)]
    · rw [q1 61 (by omega) (by omega), am_uN (by omega), f 61 (by omega) (by omega)]
    · rw [q1' _ (by omega) (by omega) (by omega), f 70 (by omega) (by omega)]; exact dee c6
    · exact lig c4 c5 _ (by rw [q1 61 (by omega) (by omega), am_uE]) (by rw [q1' _ (by omega) (by omega) (by omega), f _ (by omega) (by omega)])
    · intro x y hx hy
      have eg : ∀ l, l < m_nS I → m_gone (td_M I w i) l = decide (l = i) := by
        intro l hl
        unfold m_gone
        rw [td_52, td_53, c7]
        by_cases q : l = i
        · rw [decide_eq_true q, q]; exact decide_eq_true ⟨rfl, rfl⟩
        · rw [decide_eq_false q]
          exact decide_eq_false (fun g => q ((nI_eq (by omega) (by omega)).mp g.2.symm))
      rw [wayP_cg (q := fun l => decide (l = i)) eg, wayP_gone hst hH8 hi7 h100 h101 (by omega) (by omega) hx hy, q2 x y hx hy, am_uRow (by omega), f _ (by omega) (by omega), srow _ (by omega)]
      by_cases cc : (x = a ∧ y = b) ∨ (x = b ∧ y = a)
      · rw [if_pos cc, if_pos cc]
      · rw [if_neg cc, if_neg cc, ewy x y hx hy]
    · intro a j h1 h2 h3; rw [q1' a (by omega) (by omega) (by omega), g1 a (by omega)]
    · rw [q1' 82 (by omega) (by omega) (by omega), g1 82 (by omega)]; exact p3
    · intro a ha; rw [q1' a (by omega) (by omega) (by omega), f a (by omega) (by omega), srow a (by omega)]
  rw [if_neg (by rw [e 7 (by omega)]; exact c7)]
  refine fin _ (m_g I 0 3 0) _ _ _ _ _ (mk _ _ _ _ (Or.inl ⟨rfl, rfl⟩) ?_ ?_ ?_ ?_ ?_ ?_ ?_ ?_ ?_) (hrelM _ ?_) ?_ ?_ (Or.inl ⟨rfl, rfl⟩)
  · intro a ha; rw [am_uRow (by omega), f a (by omega) (by omega)]
  · rw [am_uRow (by omega)]
  · rw [am_uRow (by omega), f 71 (by omega) (by omega)]
  · rw [am_uN (by omega), f 61 (by omega) (by omega)]
  · rw [am_uN (by omega), f 61 (by omega) (by omega)]
  · rw [am_uRow (by omega), f 70 (by omega) (by omega)]; exact dee (by omega)
  · exact lig c4 c5 _ (by rw [am_uE]) (by rw [am_uRow (by omega), f _ (by omega) (by omega)])
  · rw [am_uRow (by omega), f _ (by omega) (by omega), srow _ (by omega)]; exact way7 (by omega)
  · rw [am_uRow (by omega), am_uRow (by omega), f _ (by omega) (by omega), f _ (by omega) (by omega), srow _ (by omega), srow _ (by omega)]; exact efa
  · intro a j h1 h2 _; rw [am_uN (by omega), g1 a (by omega)]
  · rw [am_uN (by omega), g1 82 (by omega)]; exact p3
  · intro a ha; rw [am_uRow (by omega), f a (by omega) (by omega), srow a (by omega)]
end
