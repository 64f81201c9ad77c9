/-! ===== L3: hours answers alike ===== -/
section
variable {d N : Nat} {Q : Value → am_H → Prop} {r : am_rho} {I : Nat → Nat → Int32} {J : Nat → Nat → Int64}
theorem env_by {rt rs rd rl rx nt nw nf : Nat} (hv : i_inv (rt, rs, rd, rl, rx, nt, nw, nf) I J) {I2 : Nat → Nat → Int32} (hrow : ∀ a, a ≠ 61 → a ≠ 77 → I2 a = c_suit I rt 49 (m_nZ I) a) (h61 : I2 61 10 = c_all (m_nZ I) ∧ I2 61 11 = nI 0 ∧ I2 61 12 = nI 1) : c_env I2 I rt (rt + 4) (rt + 5) (m_far I (I 128)) true (m_g I 0 9) (m_g I 0 3 0) (m_g I 0 3 0) := by
  have hbell := iv_bell hv
  have ht := hv.2.1.1.1
  have henv0 := env_idle (w := 49) (F := I 128) (W := m_g I 0) (by omega) hv.2.1 hv.2.2.1 hbell
  have he' := henv0
  obtain ⟨_, _, eb, em, en, ed, edr, el, ef, ew, ewk, ebn, elr, eus, ero⟩ := he'
  have ht' : rt = 3 ∨ rt = 23 := ht
  refine env_x (fun a _ _ => rfl) henv0 (fun a h => hrow a (by omega) (by omega)) ⟨by omega, by omega⟩ ?_ ?_ ?_ ?_ ?_ ?_ ?_ ?_
  · rw [hrow 69 (by omega) (by omega)]; exact en
  · rw [hrow 70 (by omega) (by omega)]; exact ed
  · rw [hrow 71 (by omega) (by omega)]; exact edr
  · intro k hk hr hhr
    have := el k hk hr hhr
    unfold cl_light at this ⊢
    rw [h61.2.1, hrow _ (by omega) (by omega)]
    rw [su_61.2.1] at this
    exact this
  · rw [hrow _ (by omega) (by omega)]; exact ef
  · rw [hrow _ (by omega) (by omega)]; exact ew
  · rw [h61.1]
    rw [su_61.1] at ewk
    exact ewk
  · exact h61.2.2
theorem op_hours {a : Int32} (hv : i_inv r I J) : op2 (d + 12) N 127 244 [.int a] r I J := by
  obtain ⟨rt, rs, rd, rl, rx, nt, nw, nf⟩ := r
  obtain ⟨ht, hok, eH, eZ, eL, h0, h12, e49, e118⟩ := iv_ref hv
  have hZ5 := hok.2.2.1.2
  have hX := hv.2.2.2.1.2.2
  have hrel := hv.2.2.2.1.1
  have hlit : I 49 5 = m_g I 0 3 0 := hv.2.2.2.1.2.1
  have hst := hv.2.1.1.2.2.1
  have hid := hv.2.2.1
  have e1 : I 49 1 = I 119 0 := by
    have := hrel.2.1
    rw [c_wI (by omega)] at this
    exact this
  by_cases cond : ¬ a < nI 0 ∧ ¬ nI 36 < a ∧ I 119 0 + (nI h0 + a) / nI 12 ≤ nI 999
  · obtain ⟨c1, c2, c3⟩ := cond
    obtain ⟨n, hn, rfl⟩ : ∃ n, n ≤ 36 ∧ a = nI n := by
      rw [fa_lt, nI_toInt (by omega)] at c1 c2
      refine ⟨a.toInt.toNat, by omega, ?_⟩
      rw [fa_eq, nI_toInt (by omega)]
      omega
    by_cases n0 : n = 0
    · subst n0
      refine op2_q (v := .int (nI h0)) hv ?_ ?_
      · intro Q hQ
        rw [e_S_hours ht, e49, e1]
        simp only [am_ifd]
        rw [if_neg c1, if_neg c2, if_pos c3, if_pos (by decide +kernel), s_N_suit ht (by omega) eZ hZ5, e_S_hours_65, e_S_hours_75]
        try simp (config := {maxSteps := 1000000}) (disch := omega) only [nI_add, nI_1, am_mulN, nI_clamp, am_gI, am_ifd, am_ifn, am_asIe, am_asLe, nI_leI, nI_ltI, nI_eq, am_neg1, am_neg1b, Nat.le_refl, if_true]
        rw [am_uN (by omega), su_o (by omega), e49]
        refine hQ _ _ _ ?_ (ref_t hv.1 ht) rfl ?_
        · refine cfr_trans (su_cfr (t := rt) (w := 49) (z := m_nZ I)) ⟨fun a h => am_uRow (by omega), fun a h => am_uRow (by omega)⟩
        · rw [am_uRow (by omega), su_row (by omega)]; exact hv.2.2.2.2.2.2.2.2.2
      · intro r' I' J' hv' he
        intro Q hQ
        have h2 := @th0_e2 I' (nI 0)
        have hst' := hv'.2.1.1.2.2.1
        have hok' := hv'.2.1.1.2.1
        rw [e_M_hours, am_uN (by omega), am_uN (by omega), he 119 (by omega), he 118 (by omega), e118]
        simp only [am_ifd]
        rw [if_neg c1, if_neg c2, if_pos c3, if_pos (by decide +kernel), m_idM (n := 1), s_M_layFar (k_ok h2 hok') (k_okS h2 (m_okS_of hst')), e_M_hours_54, e_M_hours_56]
        try simp (config := {maxSteps := 1000000}) (disch := omega) only [nI_add, nI_1, am_mulN, nI_clamp, am_gI, am_ifd, am_ifn, am_asIe, am_asLe, nI_leI, nI_ltI, nI_eq, am_neg1, am_neg1b, Nat.le_refl, if_true]
        rw [m_Mx (by omega) (by omega) (by omega) (by omega) (by omega), am_uN (by omega), he 118 (by omega), e118]
        exact hQ _ _ (mfr_trans th0_mfr mfr_M) rfl
    · have hnp : ¬ nI n ≤ nI 0 := by rw [nI_leI (by omega) (by omega)]; omega
      intro Q hQ
      rw [e_S_hours ht, e49, e1]
      simp only [am_ifd]
      rw [if_neg c1, if_neg c2, if_pos c3, if_neg hnp, s_N_suit ht (by omega) (by rw [am_uN (by omega)]; exact eZ) hZ5, e_S_hours_65, su_u77 ht]
      generalize hI2 : am_u (am_u (c_suit I rt 49 (m_nZ I)) 77 0 (nI 0)) 61 12 (nI 1) = I2
      have hrow : ∀ a, a ≠ 61 → a ≠ 77 → I2 a = c_suit I rt 49 (m_nZ I) a := by
        intro a h1 h2
        rw [← hI2, am_uRow (by omega), am_uRow (by omega)]
      have h61 : I2 61 10 = c_all (m_nZ I) ∧ I2 61 11 = nI 0 ∧ I2 61 12 = nI 1 := by
        rw [← hI2]
        refine ⟨?_, ?_, am_uE⟩
        · rw [am_uN (by omega), am_uN (by omega)]; exact su_61.1
        · rw [am_uN (by omega), am_uN (by omega)]; exact su_61.2.1
      have h77 : I2 77 0 = nI 0 := by rw [← hI2, am_uN (by omega), am_uE]
      have henv := env_by hv hrow h61
      have hrow2 : ∀ a, (a < 61 ∨ a = 62 ∨ a = 63 ∨ (72 ≤ a ∧ a ≤ 76) ∨ (78 ≤ a ∧ a ≤ 80) ∨ 93 ≤ a) → I2 a = I a := fun a h => by rw [hrow a (by omega) (by omega), su_row (by omega)]
      have ecw : c_w I2 49 = c_w I 49 := by
        funext i j; unfold c_w
        by_cases h : i ≤ 5
        · rw [if_pos h, if_pos h, hrow2 _ (by omega)]
        · rw [if_neg h, if_neg h]
      have ehp : am_hp N (rt, rs, rd, rl, rx, rt, rt + 4, rt + 5) I2 J = am_hp N (rt, rs, rd, rl, rx, rt, rt + 4, rt + 5) (c_C I2 49 (c_w I 49) (I2 63) (I2 68)) (c_J J (J 64) (J 65)) := by rw [← ecw, c_wid, c_Jid]
      have hcac : c_cache I2 I (rt + 15) (I2 63) (J 64) := by
        rw [hrow2 63 (by omega)]
        exact c_cache_row (hrow2 _ (by omega)) hv.2.2.2.2.2.2.2.2.2
      rw [ehp]
      refine c_hours (d := d + 4) (n := n) (h0 := 0) (vl := J 64) (st := J 65) ht hok henv hX (by omega) ?_ n 0 (by omega) _ _ _ _ _ hrel (by rw [c_wI (by omega)]; exact hlit) hcac
      intro C' K' P' vl' st' g1 g2 g3
      -- the class's heap now
      have rC : ∀ a, (a < 49 ∨ (55 ≤ a ∧ a < 61) ∨ a = 62 ∨ (72 ≤ a ∧ a ≤ 76) ∨ (78 ≤ a ∧ a ≤ 80) ∨ 93 ≤ a) → c_C I2 49 C' K' P' a = I a := by
        intro a h
        funext j
        rw [c_Co (by omega), hrow2 a (by omega)]
      have rC77 : c_C I2 49 C' K' P' 77 0 = nI 0 := by rw [c_Co (by omega)]; exact h77
      have rC49 : ∀ i j, i ≤ 5 → c_C I2 49 C' K' P' (49 + i) j = C' i j := fun i j h => c_Ci (by omega) h
      have hK : c_C I2 49 C' K' P' 63 = K' := rfl
      generalize c_C I2 49 C' K' P' = Ic at rC rC77 rC49 hK ⊢
      have he : m_eq I Ic := fun a h => rC a (by omega)
      generalize hM : am_u (am_u Ic 93 0 (nI 0)) 93 51 (nI 0) = M
      have hteM : te I M := fun a h1 h2 => by rw [← hM, am_uRow (by omega), am_uRow (by omega), he a (by omega)]
      have h2 : m_e2 I M := by
        refine ⟨fun a h1 h2 => by rw [← hM, am_uRow (by omega), am_uRow (by omega), he a (by omega)], fun k h1 h2 => ?_⟩
        rw [← hM, am_uN (by omega), am_uN (by omega), he 93 (by omega)]
      have hgM : ∀ m, m_g M m = m_g I m := by
        intro m
        rw [← hM, ← g_g he]
        funext f k
        unfold m_g
        rw [am_uRow (by omega), am_uRow (by omega), am_uRow (by omega), am_uRow (by omega)]
      have hokM := k_ok h2 hok
      have hD : m_okD M := by
        refine k_okD h2 ?_
        intro s hs
        rw [m_dream_idle hid (by omega)]
        obtain ⟨_, _, _, _, h, hh, e⟩ := hv.2.1.2.2.2.2.2.2.2.2.1 s hs
        exact ⟨h, by have := hok.1.2; omega, e⟩
      have e128 : M 128 = I 128 := by rw [← hM, am_uRow (by omega), am_uRow (by omega), he 128 (by omega)]
      rw [e_M_hours, am_uN (by omega), am_uN (by omega), he 119 (by omega), he 118 (by omega), e118]
      simp only [am_ifd]
      rw [if_neg c1, if_neg c2, if_pos c3, if_neg hnp, hM, m_idM (n := 0), s_M_layFar hokM (k_okS h2 (m_okS_of hst)), e_M_hours_54, hgM, e128, k_far h2]
      refine m_hours (d := d + 4) (v := 0) (n := n) hokM hD (W0 := m_g I 0) (e_okX hteM hX) (by omega) ?_ n 0 (by omega) _ _ _
      intro v' nm' wk'
      have ests : m_sts M (m_far I (I 128)) (m_g I 0) n = m_sts I (m_far I (I 128)) (m_g I 0) n := by
        have : ∀ n, m_sts M (m_far I (I 128)) (m_g I 0) n = m_sts I (m_far I (I 128)) (m_g I 0) n := by
          intro n
          induction n with
          | zero => rfl
          | succ n ih => unfold m_sts m_st; rw [ih, k_end h2, k_pass h2, k_nZ h2]
        exact this n
      rw [ests]
      have hXn := okX_sts (F := m_far I (I 128)) hok hX n
      generalize hWn : m_sts I (m_far I (I 128)) (m_g I 0) n = Wn at g1 hXn ⊢
      have hw3 : Wn 3 0 = m_g I 0 3 0 := by rw [← hWn, m_sts_k (by omega)]
      generalize hMM : m_M M 0 Wn v' (m_far I (I 128)) (M 129) = Im
      have rM : ∀ a, (a < 93 ∨ (94 ≤ a ∧ a < 118) ∨ (132 ≤ a ∧ a ≤ 135) ∨ 140 < a) → Im a = Ic a := by
        intro a h
        funext j
        rw [← hMM, m_Mx (by omega) (by omega) (by omega) (by omega) (by omega), ← hM, am_uN (by omega), am_uN (by omega)]
      have hte2 : te I Im := fun a h1 h2 => by rw [rM a (by omega), rC a (by omega)]
      have hw0 : wq (m_g Im 0) Wn := by
        rw [← hMM]
        exact ⟨fun f hf => m_gn (by omega) (by omega) (by omega) (by omega), fun s hs => m_gn (by omega) (by omega) (by omega) (by omega), fun f l h1 h2 h3 => m_gn (by omega) (by omega) (by omega) (by omega)⟩
      have hgX : ∀ m, m ≠ 0 → m_g Im m = m_g I m := by
        intro m hm
        rw [← hMM, m_gX hm, hgM]
      refine hQ _ _ _ _ (inv_fr2 hv ⟨?_, ?_, ?_⟩ (ref_t hv.1 ht) rfl ?_ ?_ ?_)
      · intro a ha
        unfold fr2_row at ha
        rw [rM a (by omega), rC a (by omega)]
      · intro k k0 k39 k51 _ _ _ _
        rw [← hMM, m_Mo (by omega), ← hM, am_uN (by omega), am_uN (by omega), he 93 (by omega)]
      · rw [hgX 2 (by omega)]; exact wq_refl
      · rw [rM 63 (by omega), hK]
        exact c_cache_row (hrow2 _ (by omega)).symm g3
      · refine ⟨?_, ?_, ?_⟩
        · refine e_cw hte2 (cw_q hZ5 hok.2.2.2.1.2 hok.1.2 (wq_symm hw0) ?_)
          have ec : ∀ i j, i ≤ 5 → c_w Im 49 i j = C' i j := by
            intro i j hi
            rw [c_wI hi, rM _ (by omega), rC49 i j hi]
          obtain ⟨r0, r1, r2, r3, r4, r5, r6, r7, r8, r9⟩ := g1
          refine ⟨?_, ?_, ?_, ?_, ?_, ?_, ?_, ?_, ?_, ?_⟩
          · rw [ec _ _ (by omega)]; exact r0
          · rw [ec _ _ (by omega)]; exact r1
          · rw [ec _ _ (by omega)]; exact r2
          · rw [ec _ _ (by omega)]; exact r3
          · intro k hk; rw [ec _ _ (by omega)]; exact r4 k hk
          · intro k hk l hl; rw [ec _ _ (by omega)]; exact r5 k hk l hl
          · intro k hk l hl; rw [ec _ _ (by omega)]; exact r6 k hk l hl
          · intro l hl; rw [ec _ _ (by omega)]; exact r7 l hl
          · intro l hl; rw [ec _ _ (by omega)]; exact r8 l hl
          · intro k hk; rw [ec _ _ (by omega)]; exact r9 k hk
        · rw [hw0.1 3 (by omega), hw3, rM 49 (by omega)]
          have := rC49 0 5 (by omega)
          exact this.trans g2
        · exact e_okX hte2 (okX_q hZ5 hok.2.2.2.1.2 hok.1.2 (wq_symm hw0) hXn)
      · refine ⟨0, by omega, ?_, ?_, fun k hk => by omega⟩
        · rw [rM 77 (by omega)]; exact rC77
        · rw [← hMM, m_Mo (by omega), ← hM, am_uE]
  · have cond' : a < nI 0 ∨ (¬ a < nI 0 ∧ nI 36 < a) ∨ (¬ a < nI 0 ∧ ¬ nI 36 < a ∧ ¬ I 119 0 + (nI h0 + a) / nI 12 ≤ nI 999) := by
      by_cases g1 : a < nI 0
      · exact Or.inl g1
      · by_cases g2 : nI 36 < a
        · exact Or.inr (Or.inl ⟨g1, g2⟩)
        · exact Or.inr (Or.inr ⟨g1, g2, fun g3 => cond ⟨g1, g2, g3⟩⟩)
    refine op2_q (v := .int (-nI 1)) hv (iv_ans hv ?_) ?_
    · intro Q hQ
      rw [e_S_hours ht, e49, e1]
      simp only [am_ifd]
      rcases cond' with g | ⟨g, g2⟩ | ⟨g, g2, g3⟩
      · rw [if_pos g]; exact hQ
      · rw [if_neg g, if_pos g2]; exact hQ
      · rw [if_neg g, if_neg g2, if_neg g3]; exact hQ
    · intro r' I' J' hv' he
      refine iv_mans ?_
      intro Q hQ
      rw [e_M_hours, am_uN (by omega), am_uN (by omega), he 119 (by omega), he 118 (by omega), e118]
      simp only [am_ifd]
      rcases cond' with g | ⟨g, g2⟩ | ⟨g, g2, g3⟩
      · rw [if_pos g]; exact hQ
      · rw [if_neg g, if_pos g2]; exact hQ
      · rw [if_neg g, if_neg g2, if_neg g3]; exact hQ
end
