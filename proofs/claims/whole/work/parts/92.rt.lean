/-! ===== L3: rests, rest ===== -/
theorem am_ifb {b : Bool} {p q : Prop} : am_if (decide (nI b.toNat = nI 0)) p q = if b = false then p else q := by
  rw [am_ifd]
  cases b
  · exact (if_pos (show nI false.toNat = nI 0 from rfl)).trans (if_pos rfl).symm
  · exact (if_neg (show ¬ nI true.toNat = nI 0 by decide)).trans (if_neg (by decide)).symm
theorem am_ifbn {b : Bool} {p q : Prop} : am_if (!(decide (nI b.toNat = nI 0))) p q = if b = false then q else p := by
  rw [am_ifn]
  cases b
  · exact (if_pos (show nI false.toNat = nI 0 from rfl)).trans (if_pos rfl).symm
  · exact (if_neg (show ¬ nI true.toNat = nI 0 by decide)).trans (if_neg (by decide)).symm
section
variable {d N : Nat} {Q : Value → am_H → Prop} {r : am_rho} {I : Nat → Nat → Int32} {J : Nat → Nat → Int64}
theorem s_T_findRests {rt rs rd rl rx nt nw nf p q : Nat} (hv : i_inv (rt, rs, rd, rl, rx, nt, nw, nf) I J) (hp : p ≤ 9) (hq : q ≤ 9)
    (hQ : ∀ I2 J2, cfr I I2 → c_cache I I (rt + 15) (I2 63) (J2 64) → I2 81 9 = nI (rcA (q_rp I p q) (m_nH I) (m_nH I)) → (∀ a b, a < m_nH I → b < m_nH I → q_rp I p q a b = true → I2 92 (rc (q_rp I p q) (m_nH I) a b) = nI (10 * a + b)) → Q .null (am_hp N (rt, rs, rd, rl, rx, rt, rt + 4, rt + 5) I2 J2)) :
    am_D (d + 9) 90 [.ref 81, .ref rt, .int (nI p), .int (nI q)] (am_hp N (rt, rs, rd, rl, rx, nt, nw, nf) I J) Q := by
  obtain ⟨ht, hok, eH, eZ, eL, h0, h12, e49, e118⟩ := iv_ref hv
  have hH8 := hok.1.2
  rw [e_Tries_findRests ht]
  refine s_T_sing hv hp hq ?_
  intro I1 J1 g1 g2 g3
  rw [e_Tries_findRests_7 ht]
  have hle : ∀ a b, a ≤ m_nH I → b ≤ m_nH I → (a < m_nH I ∨ b = 0) → rc (q_rp I p q) (m_nH I) a b ≤ 64 := by
    intro a b ha hb hab
    have h1 := rcA_le (p := q_rp I p q) hH8 (m_nH I)
    rcases hab with h | rfl
    · have h2 := rc_mn (p := q_rp I p q) (n := m_nH I) (a := m_nH I) (b := 0) (a' := a) (b' := b) (by omega) hb
      rw [rc_0] at h2
      omega
    · have h2 := rcA_mn (p := q_rp I p q) (n := m_nH I) ha
      rw [rc_0]
      omega
  have hrb : ∀ a b, a < m_nH I → b < m_nH I → q_rsb (fun i j => I1 90 (8 * i + j)) (fun i j => I1 91 (8 * i + j)) (m_nH I) a b = q_rp I p q a b := fun a b ha hb => rsb_c ha hb (fun i j hi hj => g3 i j hi hj)
  have ert : ∀ I2 : Nat → Nat → Int32, (∀ c, c ≠ 81 → c ≠ 92 → I2 c = I1 c) → I2 rt 0 = nI (m_nH I) := by
    intro I2 h
    rw [h rt (by omega) (by omega), g1.2 rt (by omega)]; exact eH
  have inner : ∀ a, a < m_nH I → (∀ I2 o5, ((∀ c, c ≠ 81 → c ≠ 92 → I2 c = I1 c) ∧ I2 81 9 = nI (rc (q_rp I p q) (m_nH I) (a + 1) 0) ∧ (∀ a' b', a' < m_nH I → b' < m_nH I → (a' < a + 1 ∨ (a' = a + 1 ∧ b' < 0)) → q_rp I p q a' b' = true → I2 92 (rc (q_rp I p q) (m_nH I) a' b') = nI (10 * a' + b'))) → am_V (d + 8) Q 90 15 [some (.ref 81), some (.ref rt), some (.int (nI p)), some (.int (nI q)), some (.int (nI (a + 1))), am_oi o5] [] (am_hp N (rt, rs, rd, rl, rx, rt, rt + 4, rt + 5) I2 J1)) →
      ∀ k b, m_nH I = b + k → ∀ I2, ((∀ c, c ≠ 81 → c ≠ 92 → I2 c = I1 c) ∧ I2 81 9 = nI (rc (q_rp I p q) (m_nH I) a b) ∧ (∀ a' b', a' < m_nH I → b' < m_nH I → (a' < a ∨ (a' = a ∧ b' < b)) → q_rp I p q a' b' = true → I2 92 (rc (q_rp I p q) (m_nH I) a' b') = nI (10 * a' + b'))) → am_V (d + 8) Q 90 27 [some (.ref 81), some (.ref rt), some (.int (nI p)), some (.int (nI q)), some (.int (nI a)), some (.int (nI b))] [] (am_hp N (rt, rs, rd, rl, rx, rt, rt + 4, rt + 5) I2 J1) := by
    intro a ha hK k
    induction k with
    | zero =>
      intro b hb I2 hi
      obtain ⟨h1, h2, h3⟩ := hi
      obtain rfl : b = m_nH I := by omega
      rw [e_Tries_findRests_27 ht, am_ifd, ert I2 h1, if_pos (by rw [nI_leI (by omega) (by omega)]; omega), show nI a + nI 1 = nI (a + 1) from nI_add _ _]
      refine hK _ _ ⟨h1, h2, ?_⟩
      intro a' b' ha' hb' h
      exact h3 a' b' ha' hb' (by omega)
    | succ k ih =>
      intro b hb I2 hi
      obtain ⟨h1, h2, h3⟩ := hi
      have hb' : b < m_nH I := by omega
      have hc64 := hle a (b + 1) (by omega) (by omega) (Or.inl ha)
      have erb : q_rsb (fun i j => I2 90 (8 * i + j)) (fun i j => I2 91 (8 * i + j)) (m_nH I) a b = q_rp I p q a b := by
        rw [h1 90 (by omega) (by omega), h1 91 (by omega) (by omega)]; exact hrb a b ha hb'
      rw [e_Tries_findRests_27 ht, am_ifd, ert I2 h1, if_neg (by rw [nI_leI (by omega) (by omega)]; omega), s_T_isRest ht (ert I2 h1) hH8 (by omega) (by omega), am_asIe, erb, e_Tries_findRests_45 ht, am_ifd]
      simp only [b_v0]
      rw [show nI b + nI 1 = nI (b + 1) from nI_add _ _]
      rw [rc_S] at hc64
      by_cases c : q_rp I p q a b = false
      · rw [if_pos c]
        refine ih (b + 1) (by omega) I2 ⟨h1, ?_, ?_⟩
        · rw [h2, rc_S, c]; rfl
        · intro a' b' ha' hb' h hpp
          by_cases e : a' = a ∧ b' = b
          · rw [e.1, e.2, c] at hpp; cases hpp
          · exact h3 a' b' ha' hb' (by omega) hpp
      · have ct : q_rp I p q a b = true := by
          cases h : q_rp I p q a b
          · exact absurd h c
          · rfl
        rw [ct, show true.toNat = 1 from rfl] at hc64
        have g64 : am_inb (nI (rc (q_rp I p q) (m_nH I) a b)) 64 = true := am_inbT (by omega) (by omega)
        rw [if_neg c, am_ifd, h2, if_neg (by rw [nI_leI (by omega) (by omega)]; omega), am_gT g64, nI_clamp (by omega), am_mulN, nI_add, am_uN (by omega), h2, nI_add]
        refine ih (b + 1) (by omega) _ ⟨?_, ?_, ?_⟩
        · intro c h81 h92
          rw [am_uRow h81, am_uRow h92, h1 c h81 h92]
        · rw [am_uE, rc_S, ct]; rfl
        · intro a' b' ha' hb' h hpp
          by_cases e : a' = a ∧ b' = b
          · rw [e.1, e.2, am_uN (by omega), am_uE]
          · have := rc_lt (n := m_nH I) (a := a) (b := b) (show a' < a ∨ (a' = a ∧ b' < b) by omega) hb' hpp
            rw [am_uN (by omega), am_uN (by omega)]
            exact h3 a' b' ha' hb' (by omega) hpp
  have outer : ∀ k a, m_nH I = a + k → ∀ I2 o5, ((∀ c, c ≠ 81 → c ≠ 92 → I2 c = I1 c) ∧ I2 81 9 = nI (rc (q_rp I p q) (m_nH I) a 0) ∧ (∀ a' b', a' < m_nH I → b' < m_nH I → (a' < a ∨ (a' = a ∧ b' < 0)) → q_rp I p q a' b' = true → I2 92 (rc (q_rp I p q) (m_nH I) a' b') = nI (10 * a' + b'))) → am_V (d + 8) Q 90 15 [some (.ref 81), some (.ref rt), some (.int (nI p)), some (.int (nI q)), some (.int (nI a)), am_oi o5] [] (am_hp N (rt, rs, rd, rl, rx, rt, rt + 4, rt + 5) I2 J1) := by
    intro k
    induction k with
    | zero =>
      intro a ha I2 o5 hi
      obtain ⟨h1, h2, h3⟩ := hi
      obtain rfl : a = m_nH I := by omega
      rw [e_Tries_findRests_15 ht, am_ifd, ert I2 h1, if_pos (by rw [nI_leI (by omega) (by omega)]; omega)]
      refine hQ I2 J1 ⟨?_, ?_⟩ ?_ h2 (fun a b ha hb hpp => h3 a b ha hb (by omega) hpp)
      · intro c hc; rw [h1 c (by omega) (by omega), g1.1 c hc]
      · intro c hc; rw [h1 c (by omega) (by omega), g1.2 c hc]
      · rw [h1 63 (by omega) (by omega)]; exact g2
    | succ k ih =>
      intro a ha I2 o5 hi
      rw [e_Tries_findRests_15 ht, am_ifd, ert I2 hi.1, if_neg (by rw [nI_leI (by omega) (by omega)]; omega)]
      exact inner a (by omega) (fun I2 o5 h => ih (a + 1) (by omega) I2 o5 h) (m_nH I) 0 (by omega) I2 hi
  refine outer (m_nH I) 0 (by omega) _ none ⟨?_, ?_, fun a' b' _ _ h => by omega⟩
  · intro c h81 _
    rw [am_uRow h81]
  · rw [am_uE]; rfl
/-! the model's -/
theorem s_M_standing {z : Nat} {x : Int32} (hz : I 95 2 = nI z) (hz5 : z ≤ 5) : am_D (d + 1) 259 [.ref 93, .int x] (am_hp N r I J) Q = Q (.int (nI (fa_cnt (fun s => decide (I 129 (12 * s + 11) = x)) z))) (am_hp N r I J) := by
  have lp := am_up (P := fun j => am_V d Q 259 4 [some (.ref 93), some (.int x), some (.int (nI (fa_cnt (fun s => decide (I 129 (12 * s + 11) = x)) j))), some (.int (nI j))] [] (am_hp N r I J)) (R := Q (.int (nI (fa_cnt (fun s => decide (I 129 (12 * s + 11) = x)) z))) (am_hp N r I J)) z
    (by
      try dsimp only
      rw [e_M_standing_4, am_ifd, hz, if_pos (by rw [nI_leI (by omega) (by omega)]; omega)])
    (by
      intro j hj
      try dsimp only
      rw [e_M_standing_4, am_ifd, hz, if_neg (by rw [nI_leI (by omega) (by omega)]; omega), am_mulN, nI_add (12 * j) 12, am_subN (by omega), show 12 * j + 12 - 1 = 12 * j + 11 by omega, am_gI (by omega) (by omega), am_ifn, nI_clamp (by omega), nI_add, nI_add, nI_add]
      by_cases c : I 129 (12 * j + 11) = x
      · rw [if_pos c, fa_cnt_yes (by simp [c])]
      · rw [if_neg c, fa_cnt_no (by simp [c])]; rfl)
  rw [e_M_standing]
  exact lp 0 (by omega)
theorem s_M_isRest {n a b : Nat} (hn : I 95 0 = nI n) (hn8 : n ≤ 8) (ha : a < 8) (hb : b < 8) : am_D (d + 1) 261 [.ref 93, .int (nI a), .int (nI b)] (am_hp N r I J) Q = Q (.int (nI (q_rsb (fun i j => I 138 (8 * i + j)) (fun i j => I 139 (8 * i + j)) n a b).toNat)) (am_hp N r I J) := by
  have e8 : ∀ i j, nI 8 * nI i + nI j = nI (8 * i + j) := fun i j => by rw [am_mulN, nI_add]
  have lp := am_find (P := fun j => am_V d Q 261 2 [some (.ref 93), some (.int (nI a)), some (.int (nI b)), some (.int (nI j))] [] (am_hp N r I J)) (p := fun k => decide (I 138 (8 * a + b) < I 138 (8 * k + b)) || !decide (I 139 (8 * a + k) ≤ I 139 (8 * a + b))) (Y := fun _ => Q (.int (nI 0)) (am_hp N r I J)) (R := Q (.int (nI 1)) (am_hp N r I J)) n
    (by
      try dsimp only
      rw [e_M_isRest_2, am_ifd, hn, if_pos (by rw [nI_leI (by omega) (by omega)]; omega)])
    (by
      intro j hj
      try dsimp only
      rw [e_M_isRest_2, am_ifd, hn, if_neg (by rw [nI_leI (by omega) (by omega)]; omega), e8, e8, e8, am_gI (by omega) (by omega), am_gI (by omega) (by omega), am_ifd, am_gI (by omega) (by omega), am_gI (by omega) (by omega), am_ifd, nI_clamp (by omega), nI_clamp (by omega), nI_clamp (by omega), nI_add]
      by_cases c : I 138 (8 * a + b) < I 138 (8 * j + b)
      · rw [if_pos c, if_pos (by rw [decide_eq_true c]; rfl)]
      · rw [if_neg c]
        by_cases c2 : I 139 (8 * a + j) ≤ I 139 (8 * a + b)
        · rw [if_pos c2, if_neg (by rw [decide_eq_false c, decide_eq_true c2]; decide)]
        · rw [if_neg c2, if_pos (by rw [decide_eq_false c, decide_eq_false c2]; rfl)])
  rw [e_M_isRest]
  refine lp.trans ?_
  unfold q_rsb
  by_cases c : fa_first (fun k => decide (I 138 (8 * a + b) < I 138 (8 * k + b)) || !decide (I 139 (8 * a + k) ≤ I 139 (8 * a + b))) n < n
  · rw [if_pos c, decide_eq_true c]; rfl
  · rw [if_neg c, decide_eq_false c]; rfl
/-- the model's search for the k-th rest, or their number -/
theorem s_M_restOf {n : Nat} {x : Int32} {p : Nat → Nat → Bool} (G : Nat → Prop) (hn : I 95 0 = nI n) (hn8 : n ≤ 8) (hpp : ∀ a b, a < n → b < n → q_rsb (fun i j => I 138 (8 * i + j)) (fun i j => I 139 (8 * i + j)) n a b = p a b) (g0 : G 0) (gs : ∀ c, c < 64 → G c → nI c ≠ x → G (c + 1))
    (hY : ∀ a b, a < n → b < n → p a b = true → rc p n a b < rcA p n n → nI (rc p n a b) = x → Q (.int (nI (10 * a + b))) (am_hp N r I J)) (hE : G (rcA p n n) → Q (.int (if x = -nI 1 then nI (rcA p n n) else -nI 2)) (am_hp N r I J)) :
    am_D (d + 2) 262 [.ref 93, .int x] (am_hp N r I J) Q := by
  have hle : ∀ a b, a < n → b < n → p a b = true → rc p n a b < 64 := by
    intro a b ha hb hp
    have h1 := rcA_le (p := p) hn8 n
    have h2 := rc_lt (p := p) (n := n) (a := n) (b := 0) (a' := a) (b' := b) (by omega) hb hp
    rw [rc_0] at h2
    omega
  rw [e_M_restOf]
  have inner : ∀ a, a < n → (∀ o4, G (rc p n (a + 1) 0) → am_V (d + 1) Q 262 4 [some (.ref 93), some (.int x), some (.int (nI (rc p n (a + 1) 0))), some (.int (nI (a + 1))), am_oi o4] [] (am_hp N r I J)) →
      ∀ k b, n = b + k → G (rc p n a b) → am_V (d + 1) Q 262 17 [some (.ref 93), some (.int x), some (.int (nI (rc p n a b))), some (.int (nI a)), some (.int (nI b))] [] (am_hp N r I J) := by
    intro a ha hK k
    induction k with
    | zero =>
      intro b hb hg
      obtain rfl : b = n := by omega
      rw [e_M_restOf_17, am_ifd, hn, if_pos (by rw [nI_leI (by omega) (by omega)]; omega), show nI a + nI 1 = nI (a + 1) from nI_add _ _]
      exact hK _ hg
    | succ k ih =>
      intro b hb hg
      rw [e_M_restOf_17, am_ifd, hn, if_neg (by rw [nI_leI (by omega) (by omega)]; omega), s_M_isRest hn hn8 (by omega) (by omega), am_asIe, hpp a b ha (by omega), e_M_restOf_35, am_ifn]
      simp only [b_v0]
      rw [am_ifn, show nI b + nI 1 = nI (b + 1) from nI_add _ _, am_mulN, nI_add, nI_add]
      have hS := rc_S (p := p) (n := n) (a := a) (b := b)
      cases c : p a b with
      | false =>
        rw [if_pos rfl]
        have hS' : rc p n a (b + 1) = rc p n a b := by rw [hS, c]; rfl
        rw [← hS']
        exact ih (b + 1) (by omega) (by rw [hS']; exact hg)
      | true =>
        rw [if_neg (by decide)]
        rw [c, show true.toNat = 1 from rfl] at hS
        by_cases e : nI (rc p n a b) = x
        · rw [if_pos e]
          have h2 := rc_lt (p := p) (n := n) (a := n) (b := 0) (a' := a) (b' := b) (by omega) (by omega) c
          exact hY a b ha (by omega) c h2 e
        · rw [if_neg e, ← hS]
          exact ih (b + 1) (by omega) (by rw [hS]; exact gs _ (hle a b ha (by omega) c) hg e)
  have outer : ∀ k a, n = a + k → ∀ o4, G (rc p n a 0) → am_V (d + 1) Q 262 4 [some (.ref 93), some (.int x), some (.int (nI (rc p n a 0))), some (.int (nI a)), am_oi o4] [] (am_hp N r I J) := by
    intro k
    induction k with
    | zero =>
      intro a ha o4 hg
      obtain rfl : a = n := by omega
      rw [e_M_restOf_4, am_ifd, hn, if_pos (by rw [nI_leI (by omega) (by omega)]; omega), am_ifn]
      have := hE hg
      rw [rc_0]
      by_cases c : x = -nI 1
      · rw [if_pos c]; rw [if_pos c] at this; exact this
      · rw [if_neg c]; rw [if_neg c] at this; exact this
    | succ k ih =>
      intro a ha o4 hg
      rw [e_M_restOf_4, am_ifd, hn, if_neg (by rw [nI_leI (by omega) (by omega)]; omega)]
      exact inner a (by omega) (fun o4 h => ih (a + 1) (by omega) o4 h) n 0 (by omega) hg
  exact outer n 0 (by omega) none g0
/-- the model's corners so far -/
def rm_inv (I : Nat → Nat → Int32) (J : Nat → Nat → Int64) (p q a b : Nat) (M : Nat → Nat → Int32) (J2 : Nat → Nat → Int64) : Prop :=
  mtd I M ∧ (∀ k, k ≠ 39 → k ≠ 54 → k ≠ 55 → M 93 k = am_u (am_u I 93 56 (nI p)) 93 57 (nI q) 93 k) ∧ J2 64 = J 64 ∧
  (∀ a' b', a' < m_nH I → b' < m_nH I → (a' < a ∨ (a' = a ∧ b' < b)) → M 138 (8 * a' + b') = q_c1 I p q a' b' ∧ M 139 (8 * a' + b') = q_c2 I p q a' b')
theorem rm_step {p q a b : Nat} {M : Nat → Nat → Int32} {J2 : Nat → Nat → Int64} (hv : i_inv r I J) (ha : a < m_nH I) (hb : b < m_nH I) (hi : rm_inv I J p q a b M J2)
    (hQ : ∀ M3 J3, rm_inv I J p q a (b + 1) M3 J3 → am_V (d + 9) Q 260 25 [some (.ref 93), some (.int (nI p)), some (.int (nI q)), some (.int (nI a)), some (.int (nI (b + 1)))] [] (am_hp N r M3 J3)) :
    am_V (d + 9) Q 260 25 [some (.ref 93), some (.int (nI p)), some (.int (nI q)), some (.int (nI a)), some (.int (nI b))] [] (am_hp N r M J2) := by
  obtain ⟨rt, rs, rd, rl, rx, nt, nw, nf⟩ := r
  obtain ⟨ht, hok, eH, eZ, eL, h0, h12, e49, e118⟩ := iv_ref hv
  obtain ⟨href, htr, hid, hnow, himg, hund, hsig, htap, hflt, hca⟩ := hv
  have hH8 := hok.1.2
  have hZ5 := hok.2.2.1.2
  obtain ⟨i1, i2, i3, i4⟩ := hi
  have hnH : M 95 0 = nI (m_nH I) := by rw [i1.1 95 (by omega)]; exact hok.1.1
  have hnZ : M 95 2 = nI (m_nZ I) := by rw [i1.1 95 (by omega)]; exact hok.2.2.1.1
  rw [e_M_layCorners_25, am_ifd, hnH, if_neg (by rw [nI_leI (by omega) (by omega)]; omega)]
  have hte0 : te I (rs_M I (nI p) (nI q) a b) := rs_te
  have hD : m_okD (rs_M I (nI p) (nI q) a b) := by
    intro s hs
    rw [e_nZ hte0] at hs
    rw [n_dream hte0 ⟨rs_o (by omega), rs_o (by omega)⟩, m_dream_idle hid (by omega)]
    obtain ⟨_, _, _, _, h, hh, e⟩ := htr.2.2.2.2.2.2.2.2.1 s hs
    exact ⟨h, by omega, e⟩
  have he2 : m_e2 (rs_M I (nI p) (nI q) a b) (am_u (am_u M 93 54 (nI a)) 93 55 (nI b)) := by
    refine ⟨fun c h1 h2 => ?_, fun k h1 h2 => ?_⟩
    · rw [am_uRow (by omega), am_uRow (by omega), rs_row (by omega), i1.1 c (by omega)]
    · by_cases c5 : k = 55
      · subst c5; rw [am_uE, rs_55]
      · by_cases c4 : k = 54
        · subst c4; rw [am_uN (by omega), am_uE, rs_54]
        · rw [am_uN (by omega), am_uN (by omega), i2 k (by omega) c4 c5]
          unfold rs_M
          rw [am_uN (show 93 ≠ 93 ∨ k ≠ 55 by omega), am_uN (show 93 ≠ 93 ∨ k ≠ 54 by omega)]
  refine mt_run (I := I) (M0 := rs_M I (nI p) (nI q) a b) (h0 := h0) hok htr.1.2.2.1 hnow.2.2.1 (mt_row (mt_row i1 (by omega)) (by omega)) hte0 hD he2 h12 e118 ?_
  intro M3 J3 w1 w2 w3 w4 w5 w6
  have z3 : M3 95 2 = nI (m_nZ I) := by rw [w1.1 95 (by omega)]; exact hok.2.2.1.1
  have cnt : ∀ c, fa_cnt (fun s => decide (M3 129 (12 * s + 11) = nI c)) (m_nZ I) = fa_cnt (fun s => decide (q_rsW I p q a b 5 s = nI c)) (m_nZ I) := by
    intro c
    refine fa_cnt_cong ?_
    intro s hs
    rw [w6 s 11 hs (by omega) (by omega), q_tr11 h12 e118]
    rfl
  have e8 : nI 8 * nI a + nI b = nI (8 * a + b) := by rw [am_mulN, nI_add]
  have g64 : am_inb (nI (8 * a + b)) 64 = true := am_inbT (by omega) (by omega)
  have r138 : ∀ c, c = 138 ∨ c = 139 → M3 c = M c := by
    intro c h
    rw [w3 c (by omega), am_uRow (by omega), am_uRow (by omega)]
  have nx : ∀ c1 c2, c1 = q_c1 I p q a b → c2 = q_c2 I p q a b → rm_inv I J p q a (b + 1) (am_u (am_u M3 138 (8 * a + b) c1) 139 (8 * a + b) c2) J3 := by
    intro c1 c2 h1 h2
    refine ⟨mt_row (mt_row w1 (by omega)) (by omega), ?_, w4.trans i3, ?_⟩
    · intro k k1 k2 k3
      rw [am_uN (by omega), am_uN (by omega), w2 k k1, am_uN (by omega), am_uN (by omega), i2 k k1 k2 k3]
    · intro a' b' ha' hb' hl
      by_cases e : a' = a ∧ b' = b
      · obtain ⟨rfl, rfl⟩ := e
        rw [am_uN (by omega), am_uE, am_uE]
        exact ⟨h1, h2⟩
      · rw [am_uN (by omega), am_uN (by omega), am_uN (by omega), am_uN (by omega), r138 138 (by omega), r138 139 (by omega)]
        exact i4 a' b' ha' hb' (by omega)
  have hc : ∀ c, fa_cnt (fun s => decide (q_rsW I p q a b 5 s = nI c)) (m_nZ I) < 6 := fun c => by
    have := fa_cnt_le (fun s => decide (q_rsW I p q a b 5 s = nI c)) (m_nZ I)
    omega
  rw [e_M_layCorners_51, s_M_standing z3 hZ5, am_asIe, e_M_layCorners_67, am_ifn, e8, cnt]
  by_cases c : a = b
  · rw [if_pos (by rw [c]), am_gT g64, s_M_standing (by rw [am_uRow (by omega)]; exact z3) hZ5, am_asIe, e_M_layCorners_97, am_ifn, if_pos (by rw [c]), am_gT g64, nI_clamp (show 8 * a + b < 2 ^ 31 by omega), am_uRow (show 129 ≠ 138 by omega), cnt, show nI b + nI 1 = nI (b + 1) from nI_add _ _]
    refine hQ _ _ (nx _ _ ?_ ?_)
    · unfold q_c1; rw [if_pos c]; exact (rs_div _ (hc a)).2
    · unfold q_c2; rw [if_pos c]; exact (rs_div _ (hc b)).2
  · have cn : ¬ nI a = nI b := by rw [nI_eq (by omega) (by omega)]; exact c
    rw [if_neg cn, am_gT g64, s_M_standing (by rw [am_uRow (by omega)]; exact z3) hZ5, am_asIe, e_M_layCorners_97, am_ifn, if_neg cn, am_gT g64, nI_clamp (show 8 * a + b < 2 ^ 31 by omega), am_uRow (show 129 ≠ 138 by omega), cnt, show nI b + nI 1 = nI (b + 1) from nI_add _ _]
    refine hQ _ _ (nx _ _ ?_ ?_)
    · unfold q_c1; rw [if_neg c]; exact (rs_div _ (hc a)).1
    · unfold q_c2; rw [if_neg c]; exact (rs_div _ (hc b)).1
theorem s_M_layCorners {p q : Nat} (hv : i_inv r I J)
    (hQ : ∀ M J2, mfr I M → J2 64 = J 64 → (∀ a b, a < m_nH I → b < m_nH I → M 138 (8 * a + b) = q_c1 I p q a b ∧ M 139 (8 * a + b) = q_c2 I p q a b) → Q .null (am_hp N r M J2)) :
    am_D (d + 10) 260 [.ref 93, .int (nI p), .int (nI q)] (am_hp N r I J) Q := by
  have hok : m_ok I := hv.2.1.1.2.1
  have hid := hv.2.2.1
  have hH8 := hok.1.2
  rw [e_M_layCorners]
  have enH : ∀ a b M J2, rm_inv I J p q a b M J2 → M 95 0 = nI (m_nH I) := by
    intro a b M J2 hi
    rw [hi.1.1 95 (by omega)]; exact hok.1.1
  have inner : ∀ a, a < m_nH I → (∀ M J2 o4, rm_inv I J p q (a + 1) 0 M J2 → am_V (d + 9) Q 260 12 [some (.ref 93), some (.int (nI p)), some (.int (nI q)), some (.int (nI (a + 1))), am_oi o4] [] (am_hp N r M J2)) →
      ∀ k b, m_nH I = b + k → ∀ M J2, rm_inv I J p q a b M J2 → am_V (d + 9) Q 260 25 [some (.ref 93), some (.int (nI p)), some (.int (nI q)), some (.int (nI a)), some (.int (nI b))] [] (am_hp N r M J2) := by
    intro a ha hK k
    induction k with
    | zero =>
      intro b hb M J2 hi
      rw [e_M_layCorners_25, am_ifd, enH a b M J2 hi, if_pos (by rw [nI_leI (by omega) (by omega)]; omega), show nI a + nI 1 = nI (a + 1) from nI_add _ _]
      refine hK _ _ _ ⟨hi.1, hi.2.1, hi.2.2.1, ?_⟩
      intro a' b' ha' hb' h
      exact hi.2.2.2 a' b' ha' hb' (by omega)
    | succ k ih =>
      intro b hb M J2 hi
      refine rm_step hv ha (by omega) hi ?_
      intro M3 J3 hi3
      exact ih (b + 1) (by omega) M3 J3 hi3
  have outer : ∀ k a, m_nH I = a + k → ∀ M J2 o4, rm_inv I J p q a 0 M J2 → am_V (d + 9) Q 260 12 [some (.ref 93), some (.int (nI p)), some (.int (nI q)), some (.int (nI a)), am_oi o4] [] (am_hp N r M J2) := by
    intro k
    induction k with
    | zero =>
      intro a ha M J2 o4 hi
      obtain rfl : a = m_nH I := by omega
      rw [e_M_layCorners_12, am_ifd, enH _ _ M J2 hi, if_pos (by rw [nI_leI (by omega) (by omega)]; omega)]
      refine hQ _ _ (mt_mfr (mt_row (mt_row hi.1 (by omega)) (by omega)) ?_) hi.2.2.1 ?_
      · intro k k0 k39 k56 k57 k60 k68
        by_cases c5 : k = 55
        · subst c5; rw [am_uE, hid.2.2.2.1]
        · by_cases c4 : k = 54
          · subst c4; rw [am_uN (by omega), am_uE, hid.2.2.1]
          · rw [am_uN (by omega), am_uN (by omega), hi.2.1 k k39 c4 c5, am_uN (by omega), am_uN (by omega)]
      · intro a b ha hb
        rw [am_uRow (by omega), am_uRow (by omega), am_uRow (by omega), am_uRow (by omega)]
        exact hi.2.2.2 a b ha hb (by omega)
    | succ k ih =>
      intro a ha M J2 o4 hi
      rw [e_M_layCorners_12, am_ifd, enH _ _ M J2 hi, if_neg (by rw [nI_leI (by omega) (by omega)]; omega)]
      exact inner a (by omega) (fun M J2 o4 h => ih (a + 1) (by omega) M J2 o4 h) (m_nH I) 0 (by omega) M J2 hi
  refine outer (m_nH I) 0 (by omega) _ _ none ⟨mt_row (mt_row mt_refl (by omega)) (by omega), fun _ _ _ _ => rfl, rfl, fun a' b' _ _ h => by omega⟩
end
