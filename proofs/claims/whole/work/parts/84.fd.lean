/-! ===== L3: feed answers alike ===== -/
def t_by (x : Int32) (j : Nat) : Int32 := (x >>> (nI (24 - 8 * j) &&& nI 31)).toInt8.toInt32
section
variable {d N : Nat} {Q : Value → am_H → Prop} {r : am_rho} {I : Nat → Nat → Int32} {J : Nat → Nat → Int64}
theorem by_id (x : Int32) : x.toInt8.toInt32.toInt8.toInt32 = x.toInt8.toInt32 := by
  apply Int32.toBitVec_inj.mp
  ext i hi
  simp
theorem by_and (x : Int32) : x.toInt8.toInt32 &&& nI 255 = x &&& nI 255 := by
  apply b_ext
  intro i hi
  rw [b_and, b_and]
  have h255 : ∀ i, i < 32 → bt (nI 255) i = decide (i < 8) := by decide +kernel
  rw [h255 i hi]
  by_cases c : i < 8
  · have : bt x.toInt8.toInt32 i = bt x i := by
      show ((x.toBitVec.signExtend 8).signExtend 32).getLsbD i = x.toBitVec.getLsbD i
      rw [BitVec.getLsbD_signExtend, BitVec.getLsbD_signExtend]
      simp only [hi, c, decide_true, Bool.true_and, if_true]
    rw [this]
  · rw [decide_eq_false c, Bool.and_false, Bool.and_false]
theorem s_S_append {x : Int32} {n : Nat} (h : I 1 1 = nI n) (hn : n + 4 ≤ 700)
    (hQ : ∀ I', (∀ a, a ≠ 1 → a ≠ 2 → I' a = I a) → (∀ k, k ≠ 1 → I' 1 k = I 1 k) → I' 1 1 = nI (n + 4) → (∀ k, k < n → I' 2 k = I 2 k) → (∀ j, j < 4 → I' 2 (n + j) = t_by x j) → Q .null (am_hp N r I' J)) :
    am_D (d + 1) 149 [.ref 1, .int x] (am_hp N r I J) Q := by
  have lp : ∀ k j, 4 = j + k → ∀ I', (∀ a, a ≠ 1 → a ≠ 2 → I' a = I a) → (∀ k, k ≠ 1 → I' 1 k = I 1 k) → I' 1 1 = nI (n + j) → (∀ k, k < n → I' 2 k = I 2 k) → (∀ i, i < j → I' 2 (n + i) = t_by x i) → ∀ s, s = (if j = 4 then -nI 8 else nI (24 - 8 * j)) → am_V d Q 149 3 [some (.ref 1), some (.int x), some (.int s)] [] (am_hp N r I' J) := by
    intro k
    induction k with
    | zero =>
      intro j hj I' h1 h2 h3 h4 h5 s hs
      obtain rfl : j = 4 := by omega
      rw [if_pos rfl] at hs
      subst hs
      rw [e_S_append_3, am_ifd, if_pos (by decide +kernel)]
      exact hQ I' h1 h2 h3 h4 h5
    | succ k ih =>
      intro j hj I' h1 h2 h3 h4 h5 s hs
      rw [if_neg (by omega)] at hs
      subst hs
      rw [e_S_append_3, h3]
      try simp (config := {maxSteps := 1000000}) (disch := omega) only [nI_add, nI_1, am_mulN, nI_clamp, am_gI, am_ifd, am_ifn, am_asIe, am_asLe, nI_leI, nI_ltI, nI_eq, am_neg1, am_neg1b, by_id]
      rw [if_neg (by omega), if_neg (by omega)]
      refine ih (j + 1) (by omega) _ ?_ ?_ ?_ ?_ ?_ _ ?_
      · intro a ha hb
        rw [am_uRow (by omega), am_uRow (by omega), h1 a ha hb]
      · intro k hk
        rw [am_uN (by omega), am_uN (by omega), h2 k hk]
      · rw [am_uE, am_uN (by omega), h3, nI_add]; rfl
      · intro k hk
        rw [am_uN (by omega), am_uN (by omega), h4 k hk]
      · intro i hi
        rw [am_uN (by omega)]
        by_cases e : i = j
        · subst e; rw [am_uE]; rfl
        · rw [am_uN (by omega), h5 i (by omega)]
      · have : j = 0 ∨ j = 1 ∨ j = 2 ∨ j = 3 := by omega
        rcases this with rfl | rfl | rfl | rfl <;> decide +kernel
  rw [e_S_append]
  exact lp 4 0 (by omega) I (fun _ _ _ => rfl) (fun _ _ => rfl) h (fun _ _ => rfl) (fun i hi => by omega) _ rfl
def t_sel (x1 x2 x3 x4 x5 : Int32) (k : Nat) : Int32 := if k < 4 then x1 else if k < 8 then x2 else if k < 12 then x3 else if k < 16 then x4 else x5
theorem t_sh : ∀ k, k < 20 → ((nI 24 - (nI 8 * (nI k - nI k / nI 4 * nI 4))) &&& nI 31) = (nI (24 - 8 * (k % 4)) &&& nI 31) := by decide +kernel
theorem s_M_feedL {x1 x2 x3 x4 x5 : Int32} {n : Nat} (h : I 93 2 = nI n) (hn : n + 20 ≤ 700)
    (hQ : ∀ I', (∀ a, a ≠ 94 → I' a = I a) → (∀ k, k < n → I' 94 k = I 94 k) → (∀ i, i < 20 → I' 94 (n + i) = t_by (t_sel x1 x2 x3 x4 x5 i) (i % 4) &&& nI 255) → Q (.int (nI (n + 20))) (am_hp N r (am_u I' 93 2 (nI (n + 20))) J)) :
    ∀ k j, 20 = j + k → ∀ I' o, (∀ a, a ≠ 94 → I' a = I a) → (∀ k, k < n → I' 94 k = I 94 k) → (∀ i, i < j → I' 94 (n + i) = t_by (t_sel x1 x2 x3 x4 x5 i) (i % 4) &&& nI 255) →
    am_V d Q 160 20 [some (.ref 93), some (.int x1), some (.int x2), some (.int x3), some (.int x4), some (.int x5), some (.int (nI j)), am_oi o] [] (am_hp N r I' J) := by
  intro k
  induction k with
  | zero =>
    intro j hj I' o h1 h2 h3
    obtain rfl : j = 20 := by omega
    rw [e_M_feed_20, am_uE, h1 93 (by omega), h, nI_add, am_ifd, if_pos (by decide +kernel)]
    exact hQ I' h1 h2 h3
  | succ k ih =>
    intro j hj I' o h1 h2 h3
    have gb : am_inb (nI (n + j)) 700 = true := am_inbT (by omega) (by omega)
    have n20 : ¬ (nI 20 : Int32) ≤ nI j := by rw [nI_leI (by omega) (by omega)]; omega
    rw [e_M_feed_20, h1 93 (by omega), h, show nI n + nI j = nI (n + j) from nI_add _ _, t_sh j (by omega), nI_clamp (by omega), am_ifd, if_neg n20, am_ifd, am_ifd, am_ifd, am_ifd, am_gT gb, am_gT gb, am_gT gb, am_gT gb, am_gT gb, show nI j + nI 1 = nI (j + 1) from nI_add _ _]
    have q : ∀ k, k < 100 → (((nI k : Int32) ≤ nI j) ↔ (k ≤ j)) := fun k hk => nI_leI (by omega) (by omega)
    have fin : ∀ y o', t_sel x1 x2 x3 x4 x5 j = y → am_V d Q 160 20 [some (.ref 93), some (.int x1), some (.int x2), some (.int x3), some (.int x4), some (.int x5), some (.int (nI (j + 1))), am_oi o'] [] (am_hp N r (am_u I' 94 (n + j) ((y >>> (nI (24 - 8 * (j % 4)) &&& nI 31)) &&& nI 255)) J) := by
      intro y o' hy
      refine ih (j + 1) (by omega) _ _ ?_ ?_ ?_
      · intro a ha
        rw [am_uRow (by omega), h1 a ha]
      · intro k hk
        rw [am_uN (by omega), h2 k hk]
      · intro i hi
        by_cases e : i = j
        · subst e; rw [am_uE, hy]
          unfold t_by
          rw [by_and]
        · rw [am_uN (by omega), h3 i (by omega)]
    by_cases c4 : 4 ≤ j
    · rw [if_pos ((q 4 (by omega)).mpr c4)]
      by_cases c8 : 8 ≤ j
      · rw [if_pos ((q 8 (by omega)).mpr c8)]
        by_cases c12 : 12 ≤ j
        · rw [if_pos ((q 12 (by omega)).mpr c12)]
          by_cases c16 : 16 ≤ j
          · rw [if_pos ((q 16 (by omega)).mpr c16)]
            exact fin x5 _ (by unfold t_sel; rw [if_neg (by omega), if_neg (by omega), if_neg (by omega), if_neg (by omega)])
          · rw [if_neg (fun g => c16 ((q 16 (by omega)).mp g))]
            exact fin x4 _ (by unfold t_sel; rw [if_neg (by omega), if_neg (by omega), if_neg (by omega), if_pos (by omega)])
        · rw [if_neg (fun g => c12 ((q 12 (by omega)).mp g))]
          exact fin x3 _ (by unfold t_sel; rw [if_neg (by omega), if_neg (by omega), if_pos (by omega)])
      · rw [if_neg (fun g => c8 ((q 8 (by omega)).mp g))]
        exact fin x2 _ (by unfold t_sel; rw [if_neg (by omega), if_pos (by omega)])
    · rw [if_neg (fun g => c4 ((q 4 (by omega)).mp g))]
      exact fin x1 _ (by unfold t_sel; rw [if_pos (by omega)])
theorem op_feed {x1 x2 x3 x4 x5 : Int32} (hv : i_inv r I J) : op2 (d + 12) N 115 160 [.int x1, .int x2, .int x3, .int x4, .int x5] r I J := by
  have hok := hv.2.1.1.2.1
  obtain ⟨n, hn, p1, p2, p3⟩ := hv.2.2.2.2.2.2.2.1
  by_cases c : n + 20 ≤ 700
  · intro Q hQ
    rw [e_S_feed, p1, nI_add, am_ifd, if_pos (by rw [nI_leI (by omega) (by omega)]; exact c)]
    refine s_S_append p1 (by omega) ?_
    intro I1 a1 a2 a3 a4 a5
    rw [e_S_feed_20]
    refine s_S_append a3 (by omega) ?_
    intro I2 b1 b2 b3 b4 b5
    rw [e_S_feed_25]
    refine s_S_append b3 (by omega) ?_
    intro I3 c1 c2 c3 c4 c5
    rw [e_S_feed_30]
    refine s_S_append c3 (by omega) ?_
    intro I4 d1 d2 d3 d4 d5
    rw [e_S_feed_36]
    refine s_S_append d3 (by omega) ?_
    intro I5 e1 e2 e3 e4 e5
    rw [e_S_feed_42, e3]
    have row : ∀ a, a ≠ 1 → a ≠ 2 → I5 a = I a := fun a h1 h2 => by rw [e1 a h1 h2, d1 a h1 h2, c1 a h1 h2, b1 a h1 h2, a1 a h1 h2]
    have cel : ∀ k, k ≠ 1 → I5 1 k = I 1 k := fun k h => by rw [e2 k h, d2 k h, c2 k h, b2 k h, a2 k h]
    have low : ∀ k, k < n → I5 2 k = I 2 k := fun k h => by rw [e4 k (by omega), d4 k (by omega), c4 k (by omega), b4 k (by omega), a4 k h]
    have new : ∀ i, i < 20 → I5 2 (n + i) = t_by (t_sel x1 x2 x3 x4 x5 i) (i % 4) := by
      intro i hi
      unfold t_sel
      by_cases k1 : i < 4
      · rw [if_pos k1, e4 _ (by omega), d4 _ (by omega), c4 _ (by omega), b4 _ (by omega), a5 i k1, show i % 4 = i by omega]
      rw [if_neg k1]
      by_cases k2 : i < 8
      · rw [if_pos k2, e4 _ (by omega), d4 _ (by omega), c4 _ (by omega), show n + i = n + 4 + i % 4 by omega, b5 _ (by omega)]
      rw [if_neg k2]
      by_cases k3 : i < 12
      · rw [if_pos k3, e4 _ (by omega), d4 _ (by omega), show n + i = n + 4 + 4 + i % 4 by omega, c5 _ (by omega)]
      rw [if_neg k3]
      by_cases k4 : i < 16
      · rw [if_pos k4, e4 _ (by omega), show n + i = n + 4 + 4 + 4 + i % 4 by omega, d5 _ (by omega)]
      rw [if_neg k4, show n + i = n + 4 + 4 + 4 + 4 + i % 4 by omega, e5 _ (by omega)]
    rw [e_M_feed, am_uN (by omega), row 93 (by omega) (by omega), p2, am_ifd, if_pos (by rw [nI_leI (by omega) (by omega)]; omega)]
    have hm : (am_u I5 93 0 (nI 0)) 93 2 = nI n := by rw [am_uN (by omega), row 93 (by omega) (by omega)]; exact p2
    refine s_M_feedL hm c ?_ 20 0 (by omega) _ none (fun _ _ => rfl) (fun _ _ => rfl) (fun i hi => by omega)
    intro I' f1 f2 f3
    have row' : ∀ a, a ≠ 1 → a ≠ 2 → a ≠ 93 → a ≠ 94 → (am_u I' 93 2 (nI (n + 20))) a = I a := fun a h1 h2 h3 h4 => by rw [am_uRow (by omega), f1 a h4, am_uRow (by omega), row a h1 h2]
    have cel' : ∀ k, k ≠ 0 → k ≠ 2 → (am_u I' 93 2 (nI (n + 20))) 93 k = I 93 k := fun k h1 h2 => by rw [am_uN (by omega), f1 93 (by omega), am_uN (by omega), row 93 (by omega) (by omega)]
    have cel1 : ∀ k, k ≠ 1 → (am_u I' 93 2 (nI (n + 20))) 1 k = I 1 k := fun k h1 => by rw [am_uN (by omega), f1 1 (by omega), am_uN (by omega), cel k h1]
    have hte : te I (am_u I' 93 2 (nI (n + 20))) := fun a h1 h2 => row' a (by omega) (by omega) (by omega) (by omega)
    have gg : ∀ m, m_g (am_u I' 93 2 (nI (n + 20))) m = m_g I m := fun m => g_row (fun a h1 h2 => row' a (by omega) (by omega) (by omega) (by omega))
    refine hQ _ _ _ _ (inv_row hv hte (fun a h1 h2 => row' a (by omega) (by omega) (by omega) (by omega)) (fun a h => row' a (by omega) (by omega) (by omega) (by omega)) (row' 63 (by omega) (by omega) (by omega) (by omega)) rfl (fun k h1 h2 => cel' k (by omega) (by omega)) ?_ ?_ ?_ ?_ ?_ ?_)
    · exact f_now hok hte (fun a h1 h2 => row' a (by omega) (by omega) (by omega) (by omega)) (by rw [gg]; exact wq_refl) hv.2.2.2.1
    · exact f_img hok hte (fun a h1 h2 => row' a (by omega) (by omega) (by omega) (by omega)) (cel1 7 (by omega)) (cel' 50 (by omega) (by omega)) (by rw [gg]; exact wq_refl) hv.2.2.2.2.1
    · exact f_und hok hte (by rw [row' 77 (by omega) (by omega) (by omega) (by omega)]) (fun a h1 h2 => row' a (by omega) (by omega) (by omega) (by omega)) (cel' 51 (by omega) (by omega)) (fun m _ _ _ => by rw [gg]; exact wq_refl) hv.2.2.2.2.2.1
    · exact f_sig hte (fun a h => row' a (by omega) (by omega) (by omega) (by omega)) (cel' 69 (by omega) (by omega)) (cel' 70 (by omega) (by omega)) hv.2.2.2.2.2.2.1
    · refine ⟨n + 20, c, ?_, by rw [am_uE], ?_⟩
      · rw [am_uN (by omega), f1 1 (by omega), am_uN (by omega)]; exact e3
      · intro k hk
        rw [am_uN (by omega), am_uN (by omega), f1 2 (by omega), am_uN (by omega)]
        by_cases e : k < n
        · rw [f2 k e, am_uN (by omega), row 94 (by omega) (by omega), low k e]
          exact p3 k e
        · obtain ⟨i, rfl⟩ : ∃ i, k = n + i := ⟨k - n, by omega⟩
          rw [f3 i (by omega), new i (by omega)]
          refine ⟨rfl, ?_⟩
          unfold t_by
          rw [by_id]
    · exact f_flt ⟨by rw [row' 43 (by omega) (by omega) (by omega) (by omega)], by rw [row' 43 (by omega) (by omega) (by omega) (by omega)]⟩ ⟨cel' 33 (by omega) (by omega), cel' 34 (by omega) (by omega)⟩ hv.2.2.2.2.2.2.2.2.1
  · refine op2_q (v := .int (-nI 1)) hv (iv_ans hv ?_) ?_
    · intro Q hQ
      rw [e_S_feed, p1, nI_add, am_ifd, if_neg (by rw [nI_leI (by omega) (by omega)]; exact c)]
      exact hQ
    · intro r' I' J' hv' he
      refine iv_mans ?_
      intro Q hQ
      rw [e_M_feed, am_uN (by omega), he 93 (by omega), p2, am_ifd, if_neg (by rw [nI_leI (by omega) (by omega)]; omega)]
      exact hQ
end
