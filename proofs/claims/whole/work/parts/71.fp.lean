/-! ===== L3: what stands, part by part ===== -/
section
variable {I I' : Nat → Nat → Int32} {J J' : Nat → Nat → Int64}
theorem f_now (hok : m_ok I) (h : te I I') (hr : ∀ a, 49 ≤ a → a ≤ 54 → I' a = I a) (hg : wq (m_g I' 0) (m_g I 0)) (k : i_now I) : i_now I' := by
  obtain ⟨a1, a2, a3⟩ := k
  have bZ := hok.2.2.1.2
  have bL := hok.2.2.2.1.2
  have bH := hok.1.2
  refine ⟨?_, ?_, ?_⟩
  · have : c_w I' 49 = c_w I 49 := by
      funext i j
      unfold c_w
      by_cases hi : i ≤ 5
      · rw [if_pos hi, if_pos hi, hr _ (by omega) (by omega)]
      · rw [if_neg hi, if_neg hi]
    rw [this]
    exact e_cw h (cw_q bZ bL bH (wq_symm hg) a1)
  · rw [hr 49 (by omega) (by omega), hg.1 3 (by omega)]; exact a2
  · exact e_okX h (okX_q bZ bL bH (wq_symm hg) a3)
theorem f_img (hok : m_ok I) (h : te I I') (hr : ∀ a, 55 ≤ a → a ≤ 60 → I' a = I a) (h1 : I' 1 7 = I 1 7) (h5 : I' 93 50 = I 93 50) (hg : wq (m_g I' 2) (m_g I 2)) (k : i_img I) : i_img I' := by
  have bZ := hok.2.2.1.2
  have bL := hok.2.2.2.1.2
  have bH := hok.1.2
  obtain ⟨b, a1, a2, a3⟩ := k
  refine ⟨b, h1.trans a1, h5.trans a2, ?_⟩
  intro hb
  obtain ⟨c1, c2, c3⟩ := a3 hb
  refine ⟨?_, ?_, ?_⟩
  · have : c_w I' 55 = c_w I 55 := by
      funext i j
      unfold c_w
      by_cases hi : i ≤ 5
      · rw [if_pos hi, if_pos hi, hr _ (by omega) (by omega)]
      · rw [if_neg hi, if_neg hi]
    rw [this]
    exact e_cw h (cw_q bZ bL bH (wq_symm hg) c1)
  · rw [hr 55 (by omega) (by omega), hg.1 3 (by omega)]; exact c2
  · exact e_okX h (okX_q bZ bL bH (wq_symm hg) c3)
theorem f_und (hok : m_ok I) (h : te I I') (h0 : I' 77 0 = I 77 0) (hr : ∀ a, 78 ≤ a → a ≤ 80 → I' a = I a) (h5 : I' 93 51 = I 93 51) (hg : ∀ n, n ≠ 1 → n ≠ 2 → n < 23 → wq (m_g I' n) (m_g I n)) (k : i_und I) : i_und I' := by
  have bZ := hok.2.2.1.2
  have bL := hok.2.2.2.1.2
  have bH := hok.1.2
  obtain ⟨n, hn, a1, a2, a3⟩ := k
  refine ⟨n, hn, h0.trans a1, h5.trans a2, ?_⟩
  intro k hk
  obtain ⟨c1, c2⟩ := a3 k hk
  rw [hr 78 (by omega) (by omega), hr 79 (by omega) (by omega), hr 80 (by omega) (by omega)]
  refine ⟨e_okX h (okX_q bZ bL bH (wq_symm (hg (3 + k) (by omega) (by omega) (by omega))) c1), e_u h (u_q bL bH (wq_symm (hg (3 + k) (by omega) (by omega) (by omega))) (wq_symm (hg _ ?_ ?_ ?_)) c2)⟩
  · split <;> omega
  · split <;> omega
  · split <;> omega
theorem f_sig (h : te I I') (hr : ∀ a, (72 ≤ a ∧ a ≤ 76) ∨ (132 ≤ a ∧ a ≤ 135) → I' a = I a) (h1 : I' 93 69 = I 93 69) (h2 : I' 93 70 = I 93 70) (k : i_sig I) : i_sig I' := by
  obtain ⟨n, hn, a1, a2, a3, a4, a5⟩ := k
  refine ⟨n, hn, ?_, h1.trans a2, ?_, ?_, ?_⟩
  · rw [hr 72 (by omega)]; exact a1
  · rw [hr 72 (by omega), h2]; exact a3
  · rw [h2]; exact a4
  · rw [hr 73 (by omega), hr 74 (by omega), hr 75 (by omega), hr 76 (by omega), hr 132 (by omega), hr 133 (by omega), hr 134 (by omega), hr 135 (by omega), e_nZ h, e_nH h]
    exact a5
theorem f_tap (h1 : I' 1 1 = I 1 1) (h2 : I' 93 2 = I 93 2) (h3 : I' 94 = I 94) (h4 : I' 2 = I 2) (k : i_tap I) : i_tap I' := by
  obtain ⟨n, hn, a1, a2, a3⟩ := k
  refine ⟨n, hn, h1.trans a1, h2.trans a2, ?_⟩
  rw [h3, h4]; exact a3
theorem f_flt (h1 : I' 43 6 = I 43 6 ∧ I' 43 7 = I 43 7) (h2 : I' 93 33 = I 93 33 ∧ I' 93 34 = I 93 34) (k : i_flt I) : i_flt I' := by
  unfold i_flt
  rw [h1.1, h1.2, h2.1, h2.2]; exact k
theorem f_idl (h : ∀ k, 52 ≤ k → k ≤ 63 → I' 93 k = I 93 k) (k : m_idle I) : m_idle I' := by
  unfold m_idle
  rw [h 52 (by omega) (by omega), h 53 (by omega) (by omega), h 54 (by omega) (by omega), h 55 (by omega) (by omega), h 58 (by omega) (by omega), h 59 (by omega) (by omega), h 61 (by omega) (by omega), h 62 (by omega) (by omega), h 63 (by omega) (by omega)]
  exact k
/-- all rows as they were, but these of the class and of the model -/
theorem inv_row {r : am_rho} (hv : i_inv r I J) (hte : te I I') (hs : ∀ a, a < 43 → 2 < a → I' a = I a) (hro : ∀ a, 140 < a → I' a = I a) (h63 : I' 63 = I 63) (hJ : J' 64 = J 64) (hid : ∀ k, 52 ≤ k → k ≤ 63 → I' 93 k = I 93 k) (hnow : i_now I') (himg : i_img I') (hund : i_und I') (hsig : i_sig I') (htap : i_tap I') (hflt : i_flt I') : i_inv r I' J' := by
  have ht3 : r.1 = 3 ∨ r.1 = 23 := hv.2.1.1.1
  refine ⟨hv.1, ?_, f_idl hid hv.2.2.1, hnow, himg, hund, hsig, htap, hflt, ?_⟩
  · exact e_trel hte (fun i hi => hs _ (by omega) (by omega)) ⟨hro _ (by omega), hro _ (by omega)⟩ hv.2.1
  · rw [h63, hJ]
    exact e_cache hte (hs _ (by omega) (by omega)) hv.2.2.2.2.2.2.2.2.2
theorem g_row {n : Nat} (h : ∀ a, 118 ≤ a → a ≤ 127 → I' a = I a) : m_g I' n = m_g I n := by
  funext f k
  unfold m_g
  by_cases c : f < 5
  · rw [if_pos c, if_pos c, h _ (by omega) (by omega)]
  · rw [if_neg c, if_neg c]
    by_cases c5 : f = 5
    · rw [if_pos c5, if_pos c5, h 123 (by omega) (by omega)]
    · rw [if_neg c5, if_neg c5]
      by_cases ck : f < 10 ∧ k < 8
      · rw [if_pos ck, if_pos ck, h _ (by omega) (by omega)]
      · rw [if_neg ck, if_neg ck]
end
section
variable {d N : Nat} {Q : Value → am_H → Prop} {r : am_rho} {I : Nat → Nat → Int32} {J : Nat → Nat → Int64}
theorem op_fault {a : Int32} (hv : i_inv r I J) : op2 (d + 12) N 117 197 [.int a] r I J := by
  have hf := hv.2.2.2.2.2.2.2.2.1
  refine op2_q (v := .int (if a = nI 0 then I 43 6 else if a = nI 1 then I 43 7 else -nI 1)) hv (iv_ans hv ?_) ?_
  · intro Q hQ
    rw [e_S_fault]
    simp only [am_ifd]
    split
    · rename_i c; rw [if_pos c] at hQ; exact hQ
    · rename_i c
      rw [if_neg c] at hQ
      split
      · rename_i c2; rw [if_pos c2] at hQ; exact hQ
      · rename_i c2; rw [if_neg c2] at hQ; exact hQ
  · intro r' I' J' hv' he
    refine iv_mans ?_
    intro Q hQ
    rw [e_M_fault, am_uN (by omega), am_uN (by omega), he 93 (by omega), ← hf.1, ← hf.2]
    simp only [am_ifn]
    split
    · rename_i c; rw [if_pos c] at hQ; exact hQ
    · rename_i c
      rw [if_neg c] at hQ
      split
      · rename_i c2; rw [if_pos c2] at hQ; exact hQ
      · rename_i c2; rw [if_neg c2] at hQ; exact hQ
/-- the number of a name -/
def q_num (f : Nat → Int32) (n : Nat) (x : Int32) : Int32 := if fa_first (fun k => decide (f k = x)) n < n then nI (fa_first (fun k => decide (f k = x)) n) else -nI 1
theorem q_num_c {f g : Nat → Int32} {n : Nat} {x : Int32} (h : ∀ k, k < n → f k = g k) : q_num f n x = q_num g n x := by
  have e : fa_first (fun k => decide (f k = x)) n = fa_first (fun k => decide (g k = x)) n := by
    have : ∀ m, m ≤ n → fa_first (fun k => decide (f k = x)) m = fa_first (fun k => decide (g k = x)) m := by
      intro m hm
      induction m with
      | zero => rfl
      | succ m ih => rw [fa_first_S, fa_first_S, ih (by omega), h m (by omega)]
    exact this n (Nat.le_refl _)
  unfold q_num
  rw [e]
theorem s_S_numberOf {a la n : Nat} {x : Int32} (ha : am_TT N a = (1, la)) (hn : n ≤ la) (hl : la < 1000) : am_D (d + 1) 157 [.int x, .ref a, .int (nI n)] (am_hp N r I J) Q = Q (.int (q_num (I a) n x)) (am_hp N r I J) := by
  have lp : ∀ k j, n = j + k → (∀ i, i < j → decide (I a i = x) = false) → am_V d Q 157 2 [some (.int x), some (.ref a), some (.int (nI n)), some (.int (nI j))] [] (am_hp N r I J) = Q (.int (q_num (I a) n x)) (am_hp N r I J) := by
    intro k
    induction k with
    | zero =>
      intro j hj hp
      obtain rfl : n = j := by omega
      rw [e_S_numberOf_2]
      try simp (config := {maxSteps := 1000000}) (disch := omega) only [nI_add, nI_1, am_mulN, nI_clamp, am_gI, am_ifd, am_ifn, am_asIe, am_asLe, nI_leI, nI_ltI, nI_eq, am_neg1, am_neg1b, Nat.le_refl, if_true]
      unfold q_num
      rw [fa_first_none hp, if_neg (by omega)]
    | succ k ih =>
      intro j hj hp
      have hg1 : (!(Nat.beq ((1, la) : Nat × Nat).1 0) && Nat.ble ((1, la) : Nat × Nat).1 7) = true := rfl
      have hg2 : ((Nat.beq ((1, la) : Nat × Nat).1 1 || Nat.beq ((1, la) : Nat × Nat).1 5) && am_inb (nI j) ((1, la) : Nat × Nat).2) = true := by
        show (true && am_inb (nI j) la) = true
        rw [am_inbT (by omega) (by omega)]; rfl
      rw [e_S_numberOf_2, ha, am_gT hg1, am_gT hg2]
      try simp (config := {maxSteps := 1000000}) (disch := omega) only [nI_add, nI_1, am_mulN, nI_clamp, am_gI, am_ifd, am_ifn, am_asIe, am_asLe, nI_leI, nI_ltI, nI_eq, am_neg1, am_neg1b]
      rw [if_neg (by omega), if_neg (by omega)]
      by_cases c : I a j = x
      · rw [if_pos c]
        unfold q_num
        rw [fa_first_step (show j < n by omega) hp (by simp [c]), if_pos (by omega)]
      · rw [if_neg c]
        refine ih (j + 1) (by omega) ?_
        intro i hi
        by_cases e : i = j
        · subst e; simp [c]
        · exact hp i (by omega)
  rw [e_S_numberOf]
  exact lp n 0 (by omega) (fun i hi => by omega)
theorem s_M_found {a la fr n : Nat} {x : Int32} (ha : am_TT N a = (1, la)) (hn : fr + n ≤ la) (hl : la < 1000) : am_D (d + 1) 173 [.ref a, .int (nI fr), .int (nI n), .int x] (am_hp N r I J) Q = Q (.int (q_num (fun k => I a (fr + k)) n x)) (am_hp N r I J) := by
  have lp : ∀ k j, n = j + k → (∀ i, i < j → decide (I a (fr + i) = x) = false) → am_V d Q 173 3 [some (.ref a), some (.int (nI fr)), some (.int (nI n)), some (.int x), some (.int (nI j))] [] (am_hp N r I J) = Q (.int (q_num (fun k => I a (fr + k)) n x)) (am_hp N r I J) := by
    intro k
    induction k with
    | zero =>
      intro j hj hp
      obtain rfl : n = j := by omega
      rw [e_M_found_3]
      try simp (config := {maxSteps := 1000000}) (disch := omega) only [nI_add, nI_1, am_mulN, nI_clamp, am_gI, am_ifd, am_ifn, am_asIe, am_asLe, nI_leI, nI_ltI, nI_eq, am_neg1, am_neg1b, Nat.le_refl, if_true]
      unfold q_num
      rw [fa_first_none hp, if_neg (by omega)]
    | succ k ih =>
      intro j hj hp
      have hg2 : ((Nat.beq ((1, la) : Nat × Nat).1 1 || Nat.beq ((1, la) : Nat × Nat).1 5) && am_inb (nI (fr + j)) ((1, la) : Nat × Nat).2) = true := by
        show (true && am_inb (nI (fr + j)) la) = true
        rw [am_inbT (by omega) (by omega)]; rfl
      rw [e_M_found_3, ha, nI_add, am_gT hg2]
      try simp (config := {maxSteps := 1000000}) (disch := omega) only [nI_add, nI_1, am_mulN, nI_clamp, am_gI, am_ifd, am_ifn, am_asIe, am_asLe, nI_leI, nI_ltI, nI_eq, am_neg1, am_neg1b]
      rw [if_neg (by omega)]
      by_cases c : I a (fr + j) = x
      · rw [if_pos c]
        unfold q_num
        rw [fa_first_step (show j < n by omega) hp (by simp [c]), if_pos (by omega)]
      · rw [if_neg c]
        refine ih (j + 1) (by omega) ?_
        intro i hi
        by_cases e : i = j
        · subst e; simp [c]
        · exact hp i (by omega)
  rw [e_M_found]
  exact lp n 0 (by omega) (fun i hi => by omega)
theorem op_named {a b : Int32} (hv : i_inv r I J) : op2 (d + 12) N 118 198 [.int a, .int b] r I J := by
  obtain ⟨rt, rs, rd, rl, rx, nt, nw, nf⟩ := r
  obtain ⟨ht, hok, eH, eZ, eL, h0, h12, e49, e118⟩ := iv_ref hv
  have hH := hok.1.1
  have h8 := hok.1.2
  have hZ := hok.2.2.1.1
  have hZ5 := hok.2.2.1.2
  have ehn := hv.2.1.2.2.2.1
  have esn := hv.2.1.2.2.2.2.1
  have T1 : am_TT N (rt + 1) = (1, 8) := by rcases ht with rfl | rfl <;> rfl
  have T2 : am_TT N (rt + 2) = (1, 5) := by rcases ht with rfl | rfl <;> rfl
  by_cases c0 : a = nI 0
  · subst c0
    refine op2_q (v := .int (q_num (I 96) (m_nH I) b)) hv (iv_ans hv ?_) ?_
    · intro Q hQ
      rw [e_S_named ht, eH]
      try simp (config := {maxSteps := 1000000}) (disch := omega) only [nI_add, nI_1, am_mulN, nI_clamp, am_gI, am_ifd, am_ifn, am_asIe, am_asLe, nI_leI, nI_ltI, nI_eq, am_neg1, am_neg1b, if_true]
      rw [s_S_numberOf T1 h8 (by omega)]
      try simp (config := {maxSteps := 1000000}) (disch := omega) only [nI_add, nI_1, am_mulN, nI_clamp, am_gI, am_ifd, am_ifn, am_asIe, am_asLe, nI_leI, nI_ltI, nI_eq, am_neg1, am_neg1b]
      rw [e_S_named_46, q_num_c ehn]
      exact hQ
    · intro r' I' J' hv' he
      refine iv_mans ?_
      intro Q hQ
      have hH' : I' 95 0 = nI (m_nH I) := by rw [he 95 (by omega)]; exact hH
      rw [e_M_named, am_uN (by omega), am_uN (by omega), hH']
      try simp (config := {maxSteps := 1000000}) (disch := omega) only [nI_add, nI_1, am_mulN, nI_clamp, am_gI, am_ifd, am_ifn, am_asIe, am_asLe, nI_leI, nI_ltI, nI_eq, am_neg1, am_neg1b, if_true]
      rw [s_M_found (la := 16) (by rfl) (by omega) (by omega)]
      try simp (config := {maxSteps := 1000000}) (disch := omega) only [nI_add, nI_1, am_mulN, nI_clamp, am_gI, am_ifd, am_ifn, am_asIe, am_asLe, nI_leI, nI_ltI, nI_eq, am_neg1, am_neg1b]
      rw [e_M_named_24]
      have : (fun k => am_u I' 93 0 (nI 0) 96 (0 + k)) = I 96 := by
        funext k; rw [am_uN (by omega), he 96 (by omega), Nat.zero_add]
      rw [this]
      exact hQ
  · by_cases c1 : a = nI 1
    · subst c1
      refine op2_q (v := .int (q_num (I 103) (m_nZ I) b)) hv (iv_ans hv ?_) ?_
      · intro Q hQ
        rw [e_S_named ht, eZ]
        try simp (config := {maxSteps := 1000000}) (disch := omega) only [nI_add, nI_1, am_mulN, nI_clamp, am_gI, am_ifd, am_ifn, am_asIe, am_asLe, nI_leI, nI_ltI, nI_eq, am_neg1, am_neg1b]
        rw [if_neg (by omega), if_pos trivial, s_S_numberOf T2 hZ5 (by omega)]
        try simp (config := {maxSteps := 1000000}) (disch := omega) only [nI_add, nI_1, am_mulN, nI_clamp, am_gI, am_ifd, am_ifn, am_asIe, am_asLe, nI_leI, nI_ltI, nI_eq, am_neg1, am_neg1b]
        rw [e_S_named_65, q_num_c esn]
        exact hQ
      · intro r' I' J' hv' he
        refine iv_mans ?_
        intro Q hQ
        have hZ' : I' 95 2 = nI (m_nZ I) := by rw [he 95 (by omega)]; exact hZ
        rw [e_M_named, am_uN (by omega), am_uN (by omega), hZ']
        try simp (config := {maxSteps := 1000000}) (disch := omega) only [nI_add, nI_1, am_mulN, nI_clamp, am_gI, am_ifd, am_ifn, am_asIe, am_asLe, nI_leI, nI_ltI, nI_eq, am_neg1, am_neg1b]
        rw [if_neg (by omega), if_pos trivial, s_M_found (la := 10) (by rfl) (by omega) (by omega)]
        try simp (config := {maxSteps := 1000000}) (disch := omega) only [nI_add, nI_1, am_mulN, nI_clamp, am_gI, am_ifd, am_ifn, am_asIe, am_asLe, nI_leI, nI_ltI, nI_eq, am_neg1, am_neg1b]
        rw [e_M_named_47]
        have : (fun k => am_u I' 93 0 (nI 0) 103 (0 + k)) = I 103 := by
          funext k; rw [am_uN (by omega), he 103 (by omega), Nat.zero_add]
        rw [this]
        exact hQ
    · refine op2_q (v := .int (-nI 1)) hv (iv_ans hv ?_) ?_
      · intro Q hQ
        rw [e_S_named ht]
        try simp (config := {maxSteps := 1000000}) (disch := omega) only [nI_add, nI_1, am_mulN, nI_clamp, am_gI, am_ifd, am_ifn, am_asIe, am_asLe, nI_leI, nI_ltI, nI_eq, am_neg1, am_neg1b]
        rw [if_neg c0, if_neg c1]
        exact hQ
      · intro r' I' J' hv' he
        refine iv_mans ?_
        intro Q hQ
        rw [e_M_named]
        try simp (config := {maxSteps := 1000000}) (disch := omega) only [nI_add, nI_1, am_mulN, nI_clamp, am_gI, am_ifd, am_ifn, am_asIe, am_asLe, nI_leI, nI_ltI, nI_eq, am_neg1, am_neg1b]
        rw [if_neg c0, if_neg c1]
        exact hQ
end
