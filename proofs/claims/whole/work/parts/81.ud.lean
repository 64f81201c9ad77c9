/-! ===== L3: undo answers alike ===== -/
section
variable {d N : Nat} {Q : Value → am_H → Prop} {r : am_rho} {I C W : Nat → Nat → Int32} {J : Nat → Nat → Int64}
theorem cw_lit {M : Nat → Nat → Int32} {x y : Int32} (hr : cw_rel M C W) : cw_rel M (am_u C 0 5 x) (am_u W 3 0 y) := by
  obtain ⟨r0, r1, r2, r3, r4, r5, r6, r7, r8, r9⟩ := hr
  have hC : ∀ {i j : Nat}, (i ≠ 0 ∨ j ≠ 5) → am_u C 0 5 x i j = C i j := fun h => am_uN (by omega)
  have uw : ∀ {f k : Nat}, f ≠ 3 → am_u W 3 0 y f k = W f k := fun h => am_uN (by omega)
  refine ⟨?_, ?_, ?_, ?_, ?_, ?_, ?_, ?_, ?_, ?_⟩
  · rw [hC (by omega), uw (by omega)]; exact r0
  · rw [hC (by omega), uw (by omega)]; exact r1
  · rw [hC (by omega), uw (by omega)]; exact r2
  · rw [hC (by omega), uw (by omega)]; exact r3
  · intro k hk; rw [hC (by omega), uw (by omega)]; exact r4 k hk
  · intro k hk l hl; rw [hC (by omega), uw (by omega), uw (by omega)]; exact r5 k hk l hl
  · intro k hk l hl; rw [hC (by omega), uw (by omega), uw (by omega)]; exact r6 k hk l hl
  · intro l hl; rw [hC (by omega), uw (by omega)]; exact r7 l hl
  · intro l hl; rw [hC (by omega), uw (by omega)]; exact r8 l hl
  · intro k hk; rw [hC (by omega), uw (by omega)]; exact r9 k hk
theorem cw_bell {M : Nat → Nat → Int32} {x : Int32} {h : Nat} (hr : cw_rel M C W) : cw_rel M (am_u C 5 h x) (am_u W 9 h x) := by
  obtain ⟨r0, r1, r2, r3, r4, r5, r6, r7, r8, r9⟩ := hr
  have hC : ∀ {i j : Nat}, (i ≠ 5 ∨ j ≠ h) → am_u C 5 h x i j = C i j := fun h => am_uN (by omega)
  have uw : ∀ {f k : Nat}, f ≠ 9 → am_u W 9 h x f k = W f k := fun h => am_uN (by omega)
  refine ⟨?_, ?_, ?_, ?_, ?_, ?_, ?_, ?_, ?_, ?_⟩
  · rw [hC (by omega), uw (by omega)]; exact r0
  · rw [hC (by omega), uw (by omega)]; exact r1
  · rw [hC (by omega), uw (by omega)]; exact r2
  · rw [hC (by omega), uw (by omega)]; exact r3
  · intro k hk; rw [hC (by omega), uw (by omega)]; exact r4 k hk
  · intro k hk l hl; rw [hC (by omega), uw (by omega), uw (by omega)]; exact r5 k hk l hl
  · intro k hk l hl; rw [hC (by omega), uw (by omega), uw (by omega)]; exact r6 k hk l hl
  · intro l hl; rw [hC (by omega), uw (by omega)]; exact r7 l hl
  · intro l hl; rw [hC (by omega), uw (by omega)]; exact r8 l hl
  · intro k hk
    by_cases e : k = h
    · subst e; rw [am_uE, am_uE]
    · rw [hC (by omega), am_uN (by omega)]; exact r9 k hk
theorem wq_back {V : Nat → Nat → Int32} {f k : Nat} {x y : Int32} (h : wq V (am_u W f k x)) (hy : W f k = y) : wq (am_u V f k y) W := by
  have e : am_u (am_u W f k x) f k y = W := by
    funext a b; unfold am_u
    by_cases c : a = f ∧ b = k
    · rw [if_pos c, c.1, c.2, hy]
    · rw [if_neg c, if_neg c]
  have := wq_u (f := f) (k := k) (x := y) h
  rw [e] at this
  exact this
theorem undo_fin {I2 : Nat → Nat → Int32} {m : Nat} {P : Value → am_H → Prop} (hv : i_inv r I J) (u1 : I 77 0 = nI (m + 1)) (u2 : I 93 51 = nI (m + 1)) (hm : m + 1 ≤ 20)
    (rw_ : ∀ a, (a < 49 ∨ 54 < a) → a ≠ 77 → I2 a = I a) (h77 : I2 77 0 = nI m) (hcw : cw_rel I (c_w I2 49) (m_g I (3 + m))) (hlit : I2 49 5 = m_g I (3 + m) 3 0)
    (hP : ∀ I', i_inv r I' J → P (.int (nI m)) (am_hp N r I' J)) : am_D (d + 12) 273 [.ref 93] (am_hp N r I2 J) P := by
  have hok := hv.2.1.1.2.1
  have bZ := hok.2.2.1.2
  have bL := hok.2.2.2.1.2
  have bH := hok.1.2
  obtain ⟨n', hn', v1, v2, v3⟩ := hv.2.2.2.2.2.1
  obtain rfl : n' = m + 1 := (nI_eq (by omega) (by omega)).mp (v1.symm.trans u1)
  have nz : ¬ nI (m + 1) = nI 0 := by rw [nI_eq (by omega) (by omega)]; omega
  rw [e_M_undo, am_uE, am_uN (by omega), rw_ 93 (by omega) (by omega), u2, am_ifn, if_neg nz, am_subN (by omega), nI_add, show m + 1 - 1 = m by omega, s_M_cpy (by omega) (by omega) (by omega), e_M_undo_35]
  generalize hI3 : m_cpy (am_u (am_u I2 93 0 (nI 0)) 93 51 (nI m)) 0 (3 + m) = I3
  have c51 : I3 93 51 = nI m := by rw [← hI3, cpy_row (by omega), am_uE]
  have cl : ∀ k, k ≠ 0 → k ≠ 51 → I3 93 k = I 93 k := by
    intro k h0 h1
    rw [← hI3, cpy_row (by omega), am_uN (by omega), am_uN (by omega), rw_ 93 (by omega) (by omega)]
  have r2 : ∀ a, a ≠ 93 → (a < 118 ∨ 127 < a) → I3 a = I2 a := by
    intro a h1 h2
    rw [← hI3, cpy_row h2, am_uRow (by omega), am_uRow (by omega)]
  have gI : ∀ k, m_g (am_u (am_u I2 93 0 (nI 0)) 93 51 (nI m)) k = m_g I k := by
    intro k
    exact g_row (fun a h1 h2 => by rw [am_uRow (by omega), am_uRow (by omega), rw_ a (by omega) (by omega)])
  have g0 : m_g I3 0 = m_g I (3 + m) := by rw [← hI3, cpy_n, gI]
  have go_ : ∀ k, k ≠ 0 → m_g I3 k = m_g I k := by intro k hk; rw [← hI3, cpy_o hk, gI]
  have hte : te I I3 := fun a h1 h2 => by rw [r2 a (by omega) (by omega), rw_ a (by omega) (by omega)]
  rw [c51]
  refine hP _ (inv_fr2 hv ⟨?_, ?_, ?_⟩ hv.1 rfl ?_ ?_ ?_)
  · intro a ha
    unfold fr2_row at ha
    rw [r2 a (by omega) (by omega), rw_ a (by omega) (by omega)]
  · intro k k0 _ k51 _ _ _ _
    exact cl k k0 k51
  · rw [go_ 2 (by omega)]; exact wq_refl
  · rw [r2 63 (by omega) (by omega), rw_ 63 (by omega) (by omega)]
    exact hv.2.2.2.2.2.2.2.2.2
  · refine ⟨?_, ?_, ?_⟩
    · rw [g0]
      refine e_cw hte (cw_cong (C := c_w I2 49) ?_ hcw)
      intro i j hi
      rw [c_wI hi, c_wI hi, r2 _ (by omega) (by omega)]
    · rw [g0, r2 49 (by omega) (by omega)]; exact hlit
    · rw [g0]
      have := (v3 m (by omega)).1
      exact e_okX hte this
  · refine ⟨m, by omega, ?_, c51, ?_⟩
    · rw [r2 77 (by omega) (by omega)]; exact h77
    · intro k hk
      obtain ⟨o1, o2⟩ := v3 k (by omega)
      rw [if_neg (by omega)] at o2
      rw [go_ _ (by omega), r2 78 (by omega) (by omega), r2 79 (by omega) (by omega), r2 80 (by omega) (by omega), rw_ 78 (by omega) (by omega), rw_ 79 (by omega) (by omega), rw_ 80 (by omega) (by omega)]
      refine ⟨e_okX hte o1, e_u hte ?_⟩
      by_cases e : k + 1 = m
      · rw [if_pos e, g0, ← e]; exact o2
      · rw [if_neg e, go_ _ (by omega)]; exact o2
theorem op_undo (hv : i_inv r I J) : op2 (d + 12) N 145 273 [] r I J := by
  have hok := hv.2.1.1.2.1
  obtain ⟨n, hn, u1, u2, u3⟩ := hv.2.2.2.2.2.1
  obtain ⟨n1, n2, n3⟩ := hv.2.2.2.1
  have bZ := hok.2.2.1.2
  have bL := hok.2.2.2.1.2
  have bH := hok.1.2
  cases n with
  | zero =>
    refine op2_q (v := .int (-nI 1)) hv (iv_ans hv ?_) ?_
    · intro Q hQ
      rw [e_S_undo, u1, am_ifn, if_pos rfl]
      exact hQ
    · intro r' I' J' hv' he
      refine iv_mans ?_
      intro Q hQ
      rw [e_M_undo, am_uN (by omega), he 93 (by omega), u2, am_ifn, if_pos rfl]
      exact hQ
  | succ m =>
    intro Q hQ
    obtain ⟨o1, o2⟩ := u3 m (by omega)
    rw [if_pos rfl] at o2
    have nz : ¬ nI (m + 1) = nI 0 := by rw [nI_eq (by omega) (by omega)]; omega
    have gb : am_inb (nI m) 20 = true := am_inbT (by omega) (by omega)
    rw [e_S_undo, u1, am_ifn, if_neg nz, am_subN (by omega), show m + 1 - 1 = m by omega, am_gT gb, am_gT gb, am_gT gb, nI_clamp (by omega)]
    rcases o2 with ⟨k0, l, h, h', k1, k2, k3, k4, k5, k6, k7, k8, k9⟩ | ⟨k0, h, k1, k2, k3⟩ | ⟨k0, h, x, k1, k2, k3, k4, k5⟩
    · have w6 : m_g I 0 6 l = nI 0 := by rw [k9.2.2 6 l (by omega) (by omega) (by omega), am_uN (by omega)]; exact k7
      have w7 : m_g I 0 7 l = nI h' := by rw [k9.2.2 7 l (by omega) (by omega) (by omega), am_uE]
      have hlie := lie_eq n1 n3 bL bH k1
      have e52 : c_w I 49 3 = I 52 := by funext j; rw [c_wI (by omega)]
      rw [e52, if_pos w6, w7] at hlie
      rw [k0, k5, k6, am_ifd, if_pos rfl, s_W_lyingIn (by omega) (by omega), hlie]
      have ehp : ∀ (Q : Value → am_H → Prop), am_D (d + 11) 107 [.ref 49, .int (nI l), .int (nI h'), .int (nI h)] (am_hp N r I J) Q = Q .null (am_hp N r (c_C I 49 (c_shift (c_w I 49) l h' h) (I 63) (I 68)) J) := by
        intro Q
        have := s_W_shift (d := d + 10) (N := N) (Q := Q) (r := r) (I := I) (C := c_w I 49) (J := J) (w := 49) (l := l) (h := h') (h' := h) (K := I 63) (P := I 68) (by omega) (by omega) (by omega)
        rw [c_wid] at this
        exact this
      try simp (config := {maxSteps := 1000000}) (disch := omega) only [nI_add, nI_1, am_mulN, nI_clamp, am_gI, am_ifd, am_ifn, am_asIe, am_asLe, nI_leI, nI_ltI, nI_eq, am_neg1, am_neg1b]
      rw [e_S_undo_89, ehp, e_S_undo_93]
      refine undo_fin hv u1 u2 hn ?_ (by rw [am_uE]) ?_ ?_ (fun I' h => hQ _ _ _ _ h)
      · intro a ha hb
        rw [am_uRow (by omega)]
        funext j
        by_cases c : a = 63
        · subst c; rfl
        · by_cases c2 : a = 68
          · subst c2; rfl
          · exact c_Co (by omega)
      · refine cw_q bZ bL bH (wq_back k9 k8) ?_
        refine cw_cong ?_ (cw_shift n1 k1 bL (by omega) (by omega) w6 w7)
        intro i j hi
        rw [c_wI hi, am_uN (by omega), c_Ci (by omega) hi]
      · rw [am_uN (by omega), show (49 : Nat) = 49 + 0 from rfl, c_Ci (by omega) (by omega)]
        unfold c_shift
        rw [am_uN (by omega), am_uN (by omega), c_wI (by omega)]
        have := k9.1 3 (by omega)
        rw [am_uN (by omega)] at this
        rw [← this]
        exact n2
    · rw [k0, k2, am_ifd, if_neg (by decide +kernel), am_ifd, if_pos rfl, am_pwe]
      refine undo_fin hv u1 u2 hn ?_ (by rw [am_uE]) ?_ ?_ (fun I' h => hQ _ _ _ _ h)
      · intro a ha hb
        rw [am_uRow (by omega), am_uRow (by omega)]
      · refine cw_q bZ bL bH (wq_back k3 rfl) ?_
        refine cw_cong ?_ (cw_lit (x := I 49 5 ^^^ am_pw h) n1)
        intro i j hi
        rw [c_wI hi, am_uN (by omega)]
        by_cases e : i = 0 ∧ j = 5
        · rw [e.1, e.2, am_uE, am_uE]
        · rw [am_uN (by omega), am_uN (by omega), c_wI hi]
      · rw [am_uN (by omega), am_uE, n2]
        have := k3.1 3 (by omega)
        rw [am_uE] at this
        rw [this, Int32.xor_assoc, Int32.xor_self, Int32.xor_zero]
    · have ni2 : ¬ nI 2 = nI 0 := by decide +kernel
      have gb8 : am_inb (nI h) 8 = true := am_inbT (by omega) (by omega)
      rw [k0, k3, k4, am_ifd, if_neg ni2, am_ifd, if_neg (by decide +kernel), am_gT gb8, nI_clamp (by omega)]
      refine undo_fin hv u1 u2 hn ?_ (by rw [am_uE]) ?_ ?_ (fun I' h => hQ _ _ _ _ h)
      · intro a ha hb
        rw [am_uRow (by omega), am_uRow (by omega)]
      · refine cw_q bZ bL bH (wq_back k5 rfl) ?_
        refine cw_cong ?_ (cw_bell n1)
        intro i j hi
        rw [c_wI hi, am_uN (by omega)]
        by_cases e : i = 5 ∧ j = h
        · rw [e.1, e.2, am_uE, am_uE]
        · rw [am_uN (by omega), am_uN (by omega), c_wI hi]
      · rw [am_uN (by omega), am_uN (by omega), n2]
        have := k5.1 3 (by omega)
        rw [am_uN (by omega)] at this
        exact this
end
