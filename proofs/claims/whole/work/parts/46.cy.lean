/-! ===== L3: the class walks to an hour's end ===== -/
theorem am_self {C : Nat → Nat → Int32} {a k : Nat} {x : Int32} (h : C a k = x) : am_u C a k x = C := by
  funext f j; unfold am_u
  by_cases c : f = a ∧ j = k
  · rw [if_pos c, c.1, c.2, h]
  · rw [if_neg c]
def w_cl (z : Int64) : Nat := if z.toInt ≤ 0 then 0 else if 100 ≤ z.toInt then 100 else z.toInt.toNat
theorem w_clE {z : Int64} : (if (0 : Int64) < (if z < Int64.ofNat 100 then z else Int64.ofNat 100) then (if z < Int64.ofNat 100 then z else Int64.ofNat 100) else 0).toInt32 = nI (w_cl z) := by
  have h100 : (Int64.ofNat 100).toInt = 100 := by decide +kernel
  have h0 : (0 : Int64).toInt = 0 := rfl
  unfold w_cl
  by_cases c1 : z < Int64.ofNat 100
  · rw [if_pos c1]
    rw [fa_lt64, h100] at c1
    by_cases c2 : 0 < z
    · rw [if_pos c2]
      rw [fa_lt64, h0] at c2
      rw [if_neg (by omega), if_neg (by omega)]
      have : z = lN z.toInt.toNat := by
        rw [fa_eq64, lN_toInt (by omega)]
        omega
      conv => lhs; rw [this]
      exact lN_i _
    · rw [if_neg c2]
      rw [fa_lt64, h0] at c2
      rw [if_pos (by omega)]
      rfl
  · rw [if_neg c1]
    rw [fa_lt64, h100] at c1
    rw [if_pos (by decide +kernel), if_neg (by omega), if_pos (by omega)]
    rfl
theorem w_cl100 {z : Int64} : w_cl z ≤ 100 := by
  unfold w_cl
  split
  · omega
  · split <;> omega
section
variable {d N w : Nat} {Q : Value → am_H → Prop} {r : am_rho} {I M C W : Nat → Nat → Int32} {J : Nat → Nat → Int64} {K P : Nat → Int32} {vl st : Nat → Int64} {t nw nf rt rs rd rl rx : Nat} {F : Nat → Int32} {b : Bool} {bl : Nat → Int32} {lit ml : Int32}
theorem s_N_wakes {s h : Nat} {x : Int32} (he : c_env I M t nw nf F b (W 9) lit (W 3 0)) (hok : m_ok M) (hr : cw_rel M C W) (hw : w = 49 ∨ w = 55 ∨ w = 82) (hs : s < m_nZ M) (hh : h < m_nH M) (hat : W 5 s = nI h) (hx : ∀ j, j < 7 → c_nm x j = m_nm0 M W F s h (nI 0) j)
    (hQ : Q (.int (nI (m_woke (m_wake M W F s h) b (W 2 0)).1.toNat)) (am_hp N r (c_C I w (am_u C 0 2 (m_woke (m_wake M W F s h) b (W 2 0)).2) K P) J)) : am_D (d + 2) 29 [.ref 61, .ref w, .int (nI s), .long ((m_law M 1 (c_nm x)).getD lw_E)] (am_hp N r (c_C I w C K P) J) Q := by
  obtain ⟨⟨ht, hnw, hnf⟩, ⟨e0, e2⟩, eb, em, en, ed, edr, el, ef, ew, ewk, ebn, elr, eus, ero⟩ := he
  obtain ⟨⟨hH, hH8⟩, ⟨hS, hS12⟩, ⟨hZ, hZ5⟩, ⟨hL, hL8⟩, ⟨hA, hA6⟩, hB, hl⟩ := hok
  have hC1 : C 1 s = nI h := by rw [hr.2.2.2.2.1 s hs]; exact hat
  have hC2 : C 0 2 = W 2 0 := hr.2.2.1
  have hself : am_u C 0 2 (W 2 0) = C := am_self hC2
  have hE : Int64.ofNat 9223372036854775808 = lw_E := rfl
  obtain ⟨en1, kn, hkn, en2⟩ := en h hh
  obtain ⟨ed1, kd, hkd, ed2⟩ := ed s hs
  have hwk : m_wake M W F s h = m_wake M W F s h := rfl
  conv at hwk => rhs; unfold m_wake
  rw [← c_law_eq (by omega) hl hx] at hwk
  rw [e_Night_wakes hw, hE]
  cases hz : m_law M 1 (c_nm x) with
  | none =>
    rw [hz] at hwk
    dsimp only at hwk
    rw [← ed1, ← en1, ed2, en2, nI_l (by omega), nI_l (by omega)] at hwk
    rw [Option.getD_none]
    try simp (config := {maxSteps := 1000000}) (disch := omega) only [nI_add, nI_1, am_mulN, nI_clamp, am_gI, am_ifd, am_ifn, am_asIe, am_asLe, nI_leI, nI_ltI, nI_eq, am_neg1, am_neg1b, c_CK, c_CP, c_Co, c_C0, c_Ci, c_ui, c_u0, c_uK, c_uP, c_Jv, c_Js, c_uv, c_us, am_lgE, if_true, hC1, ed2, en2]
    unfold m_woke at hQ
    rw [hwk] at hQ
    by_cases c : kd < kn
    · rw [if_pos ((lN_lt (by omega) (by omega)).mpr c)] at hQ
      rw [if_neg (by omega)]
      cases b
      · rw [if_neg (by decide)] at hQ
        dsimp only at hQ
        rw [hself] at hQ
        exact hQ
      · rw [if_pos rfl, if_neg (by decide +kernel), if_pos rfl] at hQ
        dsimp only at hQ
        rw [hself] at hQ
        exact hQ
    · rw [if_neg (fun g => c ((lN_lt (by omega) (by omega)).mp g))] at hQ
      rw [if_pos (by omega)]
      cases b
      · rw [if_neg (by decide)] at hQ
        dsimp only at hQ
        rw [hself] at hQ
        exact hQ
      · rw [if_pos rfl, if_pos rfl] at hQ
        dsimp only at hQ
        rw [hself] at hQ
        exact hQ
  | some z =>
    have hzB := m_law_B (by omega) hl elr (fun j hj => lw_nmB x j hj) hz
    rw [hz] at hwk
    dsimp only at hwk
    rw [w_clE] at hwk
    have hne : ¬ z = lw_E := lw_B_E hzB
    have hk := @w_cl100 z
    have h100 : (Int64.ofNat 100).toInt = 100 := by decide +kernel
    have h50 : (Int64.ofNat 50).toInt = 50 := by decide +kernel
    have h0 : (0 : Int64).toInt = 0 := rfl
    rw [Option.getD_some]
    try simp (config := {maxSteps := 1000000}) (disch := omega) only [nI_add, nI_1, am_mulN, nI_clamp, am_gI, am_ifd, am_ifn, am_asIe, am_asLe, nI_leI, nI_ltI, nI_eq, am_neg1, am_neg1b, c_CK, c_CP, c_Co, c_C0, c_Ci, c_ui, c_u0, c_uK, c_uP, c_Jv, c_Js, c_uv, c_us, am_lgE, am_lgG, am_lgL, am_lgl, ebn, b_v0]
    rw [if_neg hne]
    unfold m_woke at hQ
    rw [hwk] at hQ
    cases b
    · rw [if_neg (by decide)] at hQ
      rw [if_pos rfl, am_iteQ]
      dsimp only at hQ
      rw [hself] at hQ
      have : decide (z < Int64.ofNat 50) = decide (nI (w_cl z) < nI 50) := by
        apply decide_eq_decide.mpr
        rw [nI_ltI (by omega) (by omega), fa_lt64, h50]
        unfold w_cl
        split
        · omega
        · split <;> omega
      rw [this]
      exact hQ
    · rw [if_pos rfl] at hQ
      rw [if_neg (by decide)]
      by_cases c1 : Int64.ofNat 100 ≤ z
      · rw [if_pos c1]
        rw [fa_le64, h100] at c1
        have : w_cl z = 100 := by unfold w_cl; rw [if_neg (by omega), if_pos (by omega)]
        rw [this, if_neg (by decide +kernel), if_pos rfl] at hQ
        dsimp only at hQ
        rw [hself] at hQ
        exact hQ
      · rw [if_neg c1]
        rw [fa_le64, h100] at c1
        by_cases c2 : z ≤ 0
        · rw [if_pos c2]
          rw [fa_le64, h0] at c2
          have : w_cl z = 0 := by unfold w_cl; rw [if_pos (by omega)]
          rw [this, if_pos rfl] at hQ
          dsimp only at hQ
          rw [hself] at hQ
          exact hQ
        · rw [if_neg c2]
          rw [fa_le64, h0] at c2
          have hcl : w_cl z = z.toInt.toNat := by unfold w_cl; rw [if_neg (by omega), if_neg (by omega)]
          have hz2 : z = lN (w_cl z) := by
            rw [fa_eq64, lN_toInt (by omega), hcl]
            omega
          rw [if_neg (by rw [nI_eq (by omega) (by omega)]; omega), if_neg (by rw [nI_eq (by omega) (by omega)]; omega)] at hQ
          rw [s_W_draw hw]
          try simp (config := {maxSteps := 1000000}) (disch := omega) only [nI_add, nI_1, am_mulN, nI_clamp, am_gI, am_ifd, am_ifn, am_asIe, am_asLe, nI_leI, nI_ltI, nI_eq, am_neg1, am_neg1b, c_CK, c_CP, c_Co, c_C0, c_Ci, c_ui, c_u0, c_uK, c_uP, c_Jv, c_Js, c_uv, c_us]
          rw [e_Night_wakes_73 hw, hC2]
          try simp (config := {maxSteps := 1000000}) (disch := omega) only [nI_add, nI_1, am_mulN, nI_clamp, am_gI, am_ifd, am_ifn, am_asIe, am_asLe, nI_leI, nI_ltI, nI_eq, am_neg1, am_neg1b, c_CK, c_CP, c_Co, c_C0, c_Ci, c_ui, c_u0, c_uK, c_uP, c_Jv, c_Js, c_uv, c_us, am_lgG]
          rw [am_iteQ]
          have : (!decide (z ≤ (m_rnd (W 2 0) >>> (nI 16 &&& nI 31) - m_rnd (W 2 0) >>> (nI 16 &&& nI 31) / nI 100 * nI 100).toInt64)) = decide (m_d100 (m_rnd (W 2 0)) < nI (w_cl z)) := by
            rw [← am_nle]
            congr 1
            apply decide_eq_decide.mpr
            conv => lhs; rw [hz2]
            rw [← nI_l (by omega), fa_wide_le]
            rfl
          rw [this]
          exact hQ
end
