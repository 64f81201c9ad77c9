/-! ===== L3: the class's letters in hand and down; its laws' values ===== -/
def c_lwr (I M : Nat → Nat → Int32) (q : Nat) : Prop :=
  (∀ k, k < 3 → I (q + 2) k = M 112 k ∧ I (q + 3) k = M 113 k) ∧
  (∀ k, k < 3 → ∀ i, (M 112 k).toNatClampNeg ≤ i → i < (M 113 k).toNatClampNeg →
    (M 114 i = nI 0 ∧ ∃ z, z ≤ 9999 ∧ M 115 i = nI z ∧ I (q + 1) i = nI z) ∨ (M 114 i = nI 1 ∧ ∃ j, j < 7 ∧ M 115 i = nI j ∧ I (q + 1) i = nI (10020 + j)) ∨
    (M 114 i = nI 2 ∧ ∃ s, (lw_sg s ∨ s = 260) ∧ M 115 i = nI s ∧ I (q + 1) i = nI (10000 + lw_kd s)))
/-- the name that has a bit -/
def lw_nb (p : Nat) : Nat := if p < 4 then 6 else if p < 8 then 5 else if p < 12 then 4 else if p < 16 then 0 else if p < 22 then 3 else if p < 29 then 1 else if p < 30 then 2 else 7
def lw_sh (j : Nat) : Nat := if j = 0 then 12 else if j = 1 then 22 else if j = 2 then 29 else if j = 3 then 16 else if j = 4 then 8 else if j = 5 then 4 else 0
def lw_mk (j : Nat) : Nat := if j = 1 then 127 else if j = 2 then 1 else if j = 3 then 63 else 15
def c_used (I M : Nat → Nat → Int32) (q : Nat) : Prop := ∀ k, k < 3 → ∀ p, p < 32 → (bt (I (q + 4) k) p = true ↔ p < 30 ∧ ∃ i, (M 112 k).toNatClampNeg ≤ i ∧ i < (M 113 k).toNatClampNeg ∧ M 114 i = nI 1 ∧ M 115 i = nI (lw_nb p))
def c_ro (I : Nat → Nat → Int32) : Prop := ∀ j, j < 7 → I 2001 j = nI (lw_sh j) ∧ I 2002 j = nI (lw_mk j)
def c_nm (x : Int32) : Nat → Int64 := fun j => ((x >>> (nI (lw_sh j) &&& nI 31)) &&& nI (lw_mk j)).toInt64
def c_key (I : Nat → Nat → Int32) (q k : Nat) (x : Int32) : Int32 := (x &&& I (q + 4) k) ||| (nI k <<< (nI 30 &&& nI 31))
def c_hash (x : Int32) : Int32 := (Int32.toUInt32 (x * nI 2654435761) >>> (Int32.toUInt32 (nI 23) &&& Int32.toUInt32 31)).toInt32
def c_cache (I M : Nat → Nat → Int32) (q : Nat) (K : Nat → Int32) (vl : Nat → Int64) : Prop := ∀ z, z < 512 → K z = -nI 1 ∨ ∃ k x, k < 3 ∧ m_has M k = true ∧ K z = c_key I q k x ∧ vl z = (m_law M k (c_nm x)).getD lw_E
theorem lw_nmI (x : Int32) (j : Nat) (hj : j < 7) : ∃ a : Nat, a < 128 ∧ ((x >>> (nI (lw_sh j) &&& nI 31)) &&& nI (lw_mk j)) = nI a := by
  have h : ∀ j, j < 7 → ∃ k, k ≤ 7 ∧ (nI (lw_mk j)).toBitVec.toNat = 2 ^ k - 1 := by
    intro j hj
    have : j = 0 ∨ j = 1 ∨ j = 2 ∨ j = 3 ∨ j = 4 ∨ j = 5 ∨ j = 6 := by omega
    rcases this with rfl | rfl | rfl | rfl | rfl | rfl | rfl
    · exact ⟨4, by omega, rfl⟩
    · exact ⟨7, by omega, rfl⟩
    · exact ⟨1, by omega, rfl⟩
    · exact ⟨6, by omega, rfl⟩
    · exact ⟨4, by omega, rfl⟩
    · exact ⟨4, by omega, rfl⟩
    · exact ⟨4, by omega, rfl⟩
  obtain ⟨k, hk, he⟩ := h j hj
  obtain ⟨a, ha, ha'⟩ := pk_andE (x >>> (nI (lw_sh j) &&& nI 31)) k he
  have : 2 ^ k ≤ 2 ^ 7 := Nat.pow_le_pow_right (by omega) hk
  exact ⟨a, by omega, ha'⟩
theorem lw_nmB (x : Int32) (j : Nat) (hj : j < 7) : lw_B (c_nm x j) := by
  obtain ⟨a, ha, he⟩ := lw_nmI x j hj
  unfold c_nm lw_B
  rw [he, Int32.toInt_toInt64, nI_toInt (by omega)]
  omega
/-- numbers on the stack are small -/
def lw_Bs : List Int64 → Prop
  | [] => True
  | x :: t => lw_B x ∧ lw_Bs t
section
variable {d N w : Nat} {Q : Value → am_H → Prop} {r : am_rho} {I M C : Nat → Nat → Int32} {J : Nat → Nat → Int64} {K P : Nat → Int32} {vl st : Nat → Int64}
theorem s_L_has {q k : Nat} (hq : q = 18 ∨ q = 38) (hk : k < 3) (hl : c_lwr I M q) : am_D (d + 1) 12 [.ref q, .int (nI k)] (am_hp N r I J) Q = Q (.int (nI (m_has M k).toNat)) (am_hp N r I J) := by
  rw [e_Laws_has hq]
  try simp (config := {maxSteps := 1000000}) (disch := omega) only [nI_add, nI_1, am_mulN, nI_clamp, am_gI, am_ifd, am_ifn, am_asIe, am_asLe, nI_leI, nI_ltI, nI_eq, am_neg1, am_neg1b, (hl.1 k hk).1, (hl.1 k hk).2, am_iteQ, m_has, am_nle]
theorem s_L_isName {x : Int32} : am_D (d + 1) 16 [.int x] (am_hp N r I J) Q = Q (.int (nI (decide (nI 0 ≤ x ∧ x < nI 7)).toNat)) (am_hp N r I J) := by
  rw [e_Laws_isName]
  try simp (config := {maxSteps := 1000000}) (disch := omega) only [nI_add, nI_1, am_mulN, nI_clamp, am_gI, am_ifd, am_ifn, am_asIe, am_asLe, nI_leI, nI_ltI, nI_eq, am_neg1, am_neg1b, am_inrange]
theorem s_L_nameIn {x : Int32} {j : Nat} (hj : j < 7) (hro : c_ro I) : am_D (d + 1) 17 [.int x, .int (nI j)] (am_hp N r I J) Q = Q (.int ((x >>> (nI (lw_sh j) &&& nI 31)) &&& nI (lw_mk j))) (am_hp N r I J) := by
  rw [e_Laws_nameIn]
  try simp (config := {maxSteps := 1000000}) (disch := omega) only [nI_add, nI_1, am_mulN, nI_clamp, am_gI, am_ifd, am_ifn, am_asIe, am_asLe, nI_leI, nI_ltI, nI_eq, am_neg1, am_neg1b, (hro j hj).1, (hro j hj).2]
theorem lw_sub {a : Nat} {b : Nat} (h : a < b) (hb : b < 2 ^ 31) : nI a - nI b < nI 0 := by
  rw [fa_lt, Int32.toInt_sub, nI_toInt (by omega), nI_toInt hb, nI_toInt (by omega)]
  have : ((a : Int) - (b : Int)).bmod (2 ^ 32) = (a : Int) - (b : Int) := by
    rw [Int.bmod_eq_of_le] <;> omega
  rw [this]
  omega
theorem am_m1a {k : Nat} : nI (k + 1) + Int32.ofInt (-1) = nI k := by
  rw [nI_succ]
  have : Int32.ofInt (-1) = -1 := rfl
  rw [this, Int32.add_assoc]
  have : (1 : Int32) + -1 = 0 := by decide +kernel
  rw [this]
  exact Int32.add_zero _
theorem lw_kd_lt {s : Nat} : 17 ≤ lw_kd s ∧ lw_kd s < 40 := by
  unfold lw_kd
  repeat' split
  all_goals omega
theorem lw_kd_19 {s : Nat} (h : lw_sg s) : lw_kd s ≠ 19 ∧ (lw_kd s < 20 ∨ 27 ≤ lw_kd s) := by
  rcases h with rfl | rfl | rfl | rfl | rfl | rfl | rfl | rfl | rfl | rfl | rfl | rfl <;> decide
theorem lw_sg26 {s : Nat} (h : lw_sg s) : ¬ nI s = nI 260 := by
  rcases h with rfl | rfl | rfl | rfl | rfl | rfl | rfl | rfl | rfl | rfl | rfl | rfl <;> decide +kernel
theorem s_Re_workL {q k : Nat} {x : Int32} (hq : q = 18 ∨ q = 38) (hk : k < 3) (hw : w = 49 ∨ w = 55 ∨ w = 82) (hl : c_lwr I M q) (hro : c_ro I) {a b : Nat} (ha : M 112 k = nI a) (hb : M 113 k = nI b) (hb64 : b ≤ 64) : ∀ (c i : Nat) (sl : List Int64) (st : Nat → Int64) (o6 o7 o8 : Option Int32), i + c = b → a ≤ i → lw_ok (M 114) (M 115) c i sl.length → sl.length ≤ 64 → lw_Bs sl → sk st sl →
    (∀ st', Q (.long ((lw_hd (lw_run (M 114) (M 115) (c_nm x) c i sl)).getD lw_E)) (am_hp N r (c_C I w C K P) (c_J J vl st'))) →
    am_V (d + 2) Q 53 11 [some (.ref 62), some (.ref q), some (.int (nI k)), some (.int x), some (.int (nI sl.length)), some (.int (nI i)), am_oi o6, am_oi o7, am_oi o8] [] (am_hp N r (c_C I w C K P) (c_J J vl st)) := by
  intro c
  induction c with
  | zero =>
    intro i sl st o6 o7 o8 hi hai ok hlen hB hs h
    obtain rfl : i = b := by omega
    have h1 : sl.length = 1 := ok
    rw [e_Reckoner_workOut_11 hq]
    try simp (config := {maxSteps := 1000000}) (disch := omega) only [nI_add, nI_1, am_mulN, nI_clamp, am_gI, am_ifd, am_ifn, am_asIe, am_asLe, nI_leI, nI_ltI, nI_eq, am_neg1, am_neg1b, c_CK, c_CP, c_Co, c_C0, c_Ci, c_ui, c_u0, c_uK, c_uP, c_Jv, c_Js, c_uv, c_us, (hl.1 k hk).2, hb, Nat.le_refl, if_true, h1]
    rw [if_neg (by omega)]
    match sl, h1, hs, h with
    | [z], _, hs, h =>
      have : st 0 = z := hs.1
      rw [this]
      exact h st
  | succ c ih =>
    intro i sl st o6 o7 o8 hi hai ok hlen hB hs h
    rw [e_Reckoner_workOut_11 hq]
    try simp (config := {maxSteps := 1000000}) (disch := omega) only [nI_add, nI_1, am_mulN, nI_clamp, am_gI, am_ifd, am_ifn, am_asIe, am_asLe, nI_leI, nI_ltI, nI_eq, am_neg1, am_neg1b, c_CK, c_CP, c_Co, c_C0, c_Ci, c_ui, c_u0, c_uK, c_uP, c_Jv, c_Js, c_uv, c_us, (hl.1 k hk).2, hb]
    rw [if_neg (by omega), e_Reckoner_workOut_46 hq]
    have hrow := hl.2 k hk i (by rw [ha, nI_clamp (by omega)]; omega) (by rw [hb, nI_clamp (by omega)]; omega)
    rw [lw_run] at h
    rcases ok with ⟨h1, h2, h3, h4⟩ | ⟨h1, h2, h3, h4⟩ | ⟨h1, h2, h4⟩ | ⟨h1, ⟨j, hj, h2⟩, h3, h4⟩
    · rcases hrow with ⟨e, _⟩ | ⟨e, _⟩ | ⟨_, s, hsg, e1, e2⟩
      · rw [h1] at e; exact absurd e n20
      · rw [h1] at e; exact absurd e n21
      · obtain rfl : s = 260 := by
          rcases hsg with hsg | hsg
          · exact absurd (e1.symm.trans h2) (lw_sg26 hsg)
          · exact hsg
        cases sl with
        | nil => simp at h3
        | cons y t =>
          have hlen' : t.length + 1 ≤ 64 := hlen
          have e3 : nI (10000 + lw_kd 260) - nI 10000 = nI 19 := rfl
          have hy : st t.length = y := hs.1
          rw [lw_step, if_pos h1, if_pos h2] at h
          rw [e2, e3]
          try simp (config := {maxSteps := 1000000}) (disch := omega) only [nI_add, nI_1, am_mulN, nI_clamp, am_gI, am_ifd, am_ifn, am_asIe, am_asLe, nI_leI, nI_ltI, nI_eq, am_neg1, am_neg1b, c_CK, c_CP, c_Co, c_C0, c_Ci, c_ui, c_u0, c_uK, c_uP, c_Jv, c_Js, c_uv, c_us, List.length_cons, am_subN, Nat.add_sub_cancel, hy, am_lgE, if_true, e_Reckoner_workOut_202]
          rw [if_neg (by omega)]
          have ih1 := fun x' => ih (i + 1) (x' :: t) (vp_updL st t.length x')
          unfold lw_not at h
          split
          · rename_i hc
            rw [if_pos hc] at h
            try rw [e_Reckoner_workOut_202 hq]
            try simp (config := {maxSteps := 1000000}) (disch := omega) only [nI_add, nI_1, am_mulN, nI_clamp, am_gI, am_ifd, am_ifn, am_asIe, am_asLe, nI_leI, nI_ltI, nI_eq, am_neg1, am_neg1b, c_CK, c_CP, c_Co, c_C0, c_Ci, c_ui, c_u0, c_uK, c_uP, c_Jv, c_Js, c_uv, c_us]
            exact ih1 1 _ _ _ (by omega) (by omega) h4 hlen ⟨lw_B1, hB.2⟩ (sk_push hs.2) h
          · rename_i hc
            rw [if_neg hc] at h
            try rw [e_Reckoner_workOut_202 hq]
            try simp (config := {maxSteps := 1000000}) (disch := omega) only [nI_add, nI_1, am_mulN, nI_clamp, am_gI, am_ifd, am_ifn, am_asIe, am_asLe, nI_leI, nI_ltI, nI_eq, am_neg1, am_neg1b, c_CK, c_CP, c_Co, c_C0, c_Ci, c_ui, c_u0, c_uK, c_uP, c_Jv, c_Js, c_uv, c_us]
            exact ih1 0 _ _ _ (by omega) (by omega) h4 hlen ⟨lw_B0, hB.2⟩ (sk_push hs.2) h
    · rcases hrow with ⟨e, _⟩ | ⟨e, _⟩ | ⟨_, s, hsg, e1, e2⟩
      · rw [h1] at e; exact absurd e n20
      · rw [h1] at e; exact absurd e n21
      · have hsg : lw_sg s := by
          rcases hsg with hsg | hsg
          · exact hsg
          · subst hsg; exact absurd e1 h2
        cases sl with
        | nil => simp at h3
        | cons y t => cases t with
          | nil => simp at h3
          | cons z t =>
            have hlen' : t.length + 1 + 1 ≤ 64 := hlen
            have hk1 := lw_kd_lt (s := s)
            have hk2 := lw_kd_19 hsg
            have e3 : nI (10000 + lw_kd s) - nI 10000 = nI (lw_kd s) := by rw [am_subN (by omega), Nat.add_sub_cancel_left]
            have hy : st (t.length + 1) = y := hs.1
            have hz : st t.length = z := hs.2.1
            rw [lw_step, if_pos h1, if_neg h2, e1] at h
            dsimp only at h
            rw [e2, e3]
            have ne19 : ¬ nI (lw_kd s) = nI 19 := by rw [nI_eq (by omega) (by omega)]; omega
            try simp (config := {maxSteps := 1000000}) (disch := omega) only [nI_add, nI_1, am_mulN, nI_clamp, am_gI, am_ifd, am_ifn, am_asIe, am_asLe, nI_leI, nI_ltI, nI_eq, am_neg1, am_neg1b, c_CK, c_CP, c_Co, c_C0, c_Ci, c_ui, c_u0, c_uK, c_uP, c_Jv, c_Js, c_uv, c_us]
            rw [if_neg (by omega), e_Reckoner_workOut_89 hq]
            have nn : ¬ nI (lw_kd s) < nI 0 := by rw [nI_ltI (by omega) (by omega)]; omega
            try simp (config := {maxSteps := 1000000}) (disch := omega) only [nI_add, nI_1, am_mulN, nI_clamp, am_gI, am_ifd, am_ifn, am_asIe, am_asLe, nI_leI, nI_ltI, nI_eq, am_neg1, am_neg1b, c_CK, c_CP, c_Co, c_C0, c_Ci, c_ui, c_u0, c_uK, c_uP, c_Jv, c_Js, c_uv, c_us]
            rw [if_neg (by omega), s_L_isName]
            try simp (config := {maxSteps := 1000000}) (disch := omega) only [nI_add, nI_1, am_mulN, nI_clamp, am_gI, am_ifd, am_ifn, am_asIe, am_asLe, nI_leI, nI_ltI, nI_eq, am_neg1, am_neg1b, c_CK, c_CP, c_Co, c_C0, c_Ci, c_ui, c_u0, c_uK, c_uP, c_Jv, c_Js, c_uv, c_us]
            have nname : decide (nI 0 ≤ nI (lw_kd s) - nI 20 ∧ nI (lw_kd s) - nI 20 < nI 7) = false := by
              apply decide_eq_false
              intro ⟨g1, g2⟩
              rcases hk2.2 with g | g
              · have := lw_sub (a := lw_kd s) (b := 20) g (by omega)
                rw [fa_le] at g1
                rw [fa_lt] at this
                omega
              · rw [am_subN (by omega), nI_ltI (by omega) (by omega)] at g2
                omega
            rw [nname, e_Reckoner_workOut_99 hq]
            try simp (config := {maxSteps := 1000000}) (disch := omega) only [nI_add, nI_1, am_mulN, nI_clamp, am_gI, am_ifd, am_ifn, am_asIe, am_asLe, nI_leI, nI_ltI, nI_eq, am_neg1, am_neg1b, c_CK, c_CP, c_Co, c_C0, c_Ci, c_ui, c_u0, c_uK, c_uP, c_Jv, c_Js, c_uv, c_us, b_v0, if_true]
            rw [e_Reckoner_workOut_143 hq]
            try simp (config := {maxSteps := 1000000}) (disch := omega) only [nI_add, nI_1, am_mulN, nI_clamp, am_gI, am_ifd, am_ifn, am_asIe, am_asLe, nI_leI, nI_ltI, nI_eq, am_neg1, am_neg1b, c_CK, c_CP, c_Co, c_C0, c_Ci, c_ui, c_u0, c_uK, c_uP, c_Jv, c_Js, c_uv, c_us, List.length_cons]
            rw [if_neg (by omega), e_Reckoner_workOut_149 hq, am_m1a, e_Reckoner_workOut_152 hq]
            try simp (config := {maxSteps := 1000000}) (disch := omega) only [nI_add, nI_1, am_mulN, nI_clamp, am_gI, am_ifd, am_ifn, am_asIe, am_asLe, nI_leI, nI_ltI, nI_eq, am_neg1, am_neg1b, c_CK, c_CP, c_Co, c_C0, c_Ci, c_ui, c_u0, c_uK, c_uP, c_Jv, c_Js, c_uv, c_us, am_subN, Nat.add_sub_cancel, hy, hz]
            rw [s_Re_joined hsg hB.2.1 hB.1]
            try simp (config := {maxSteps := 1000000}) (disch := omega) only [nI_add, nI_1, am_mulN, nI_clamp, am_gI, am_ifd, am_ifn, am_asIe, am_asLe, nI_leI, nI_ltI, nI_eq, am_neg1, am_neg1b, c_CK, c_CP, c_Co, c_C0, c_Ci, c_ui, c_u0, c_uK, c_uP, c_Jv, c_Js, c_uv, c_us]
            rw [e_Reckoner_workOut_181 hq]
            try simp (config := {maxSteps := 1000000}) (disch := omega) only [nI_add, nI_1, am_mulN, nI_clamp, am_gI, am_ifd, am_ifn, am_asIe, am_asLe, nI_leI, nI_ltI, nI_eq, am_neg1, am_neg1b, c_CK, c_CP, c_Co, c_C0, c_Ci, c_ui, c_u0, c_uK, c_uP, c_Jv, c_Js, c_uv, c_us, am_subN, Nat.add_sub_cancel, am_lgE]
            have hup : vp_updL st t.length ((lw_op (nI s) z y).getD lw_E) t.length = (lw_op (nI s) z y).getD lw_E := by rw [vp_updL, if_pos rfl]
            rw [hup]
            have hE : (Int64.ofNat 9223372036854775808) = lw_E := rfl
            rw [hE]
            cases ho : lw_op (nI s) z y with
            | none =>
              rw [ho] at h
              rw [if_pos (show (none : Option Int64).getD lw_E = lw_E from rfl)]
              exact h _
            | some u =>
              rw [ho] at h
              have hu := lw_op_B ho
              rw [if_neg (show ¬ (some u).getD lw_E = lw_E from lw_B_E hu), e_Reckoner_workOut_202 hq]
              try simp (config := {maxSteps := 1000000}) (disch := omega) only [nI_add, nI_1, am_mulN, nI_clamp, am_gI, am_ifd, am_ifn, am_asIe, am_asLe, nI_leI, nI_ltI, nI_eq, am_neg1, am_neg1b, c_CK, c_CP, c_Co, c_C0, c_Ci, c_ui, c_u0, c_uK, c_uP, c_Jv, c_Js, c_uv, c_us]
              exact ih (i + 1) (u :: t) _ _ _ _ (by omega) (by omega) h4 (by have : (u :: t).length = t.length + 1 := rfl; omega) ⟨hu, hB.2.2⟩ (sk_push hs.2.2) h
    · rcases hrow with ⟨_, z, hz, e1, e2⟩ | ⟨e, _⟩ | ⟨e, _⟩
      · rw [lw_step_n h1, e1] at h
        rw [e2]
        have ng : ∀ q, q < 20000 → q ≠ 0 → ¬ nI z - nI 10000 = nI q := by
          intro q hq1 hq2 e
          have := lw_sub (a := z) (b := 10000) (by omega) (by omega)
          rw [e, nI_ltI (by omega) (by omega)] at this
          omega
        rw [am_ifn, if_neg (ng 19 (by omega) (by omega)), e_Reckoner_workOut_89 hq]
        simp only [am_ifd, lw_sub (show z < 10000 by omega) (show 10000 < 2 ^ 31 by omega), if_true]
        rw [e_Reckoner_workOut_102 hq]
        have nle : ¬ nI 0 ≤ nI z - nI 10000 := by
          have := lw_sub (a := z) (b := 10000) (by omega) (by omega)
          exact (fa_of_lt this).2.1
        try simp (config := {maxSteps := 1000000}) (disch := omega) only [nI_add, nI_1, am_mulN, nI_clamp, am_gI, am_ifd, am_ifn, am_asIe, am_asLe, nI_leI, nI_ltI, nI_eq, am_neg1, am_neg1b, c_CK, c_CP, c_Co, c_C0, c_Ci, c_ui, c_u0, c_uK, c_uP, c_Jv, c_Js, c_uv, c_us]
        rw [if_neg (by omega), if_neg nle, e_Reckoner_workOut_202 hq]
        try simp (config := {maxSteps := 1000000}) (disch := omega) only [nI_add, nI_1, am_mulN, nI_clamp, am_gI, am_ifd, am_ifn, am_asIe, am_asLe, nI_leI, nI_ltI, nI_eq, am_neg1, am_neg1b, c_CK, c_CP, c_Co, c_C0, c_Ci, c_ui, c_u0, c_uK, c_uP, c_Jv, c_Js, c_uv, c_us]
        refine ih (i + 1) ((nI z).toInt64 :: sl) _ _ _ _ (by omega) (by omega) h4 h2 ⟨?_, hB⟩ (sk_push hs) h
        unfold lw_B
        rw [Int32.toInt_toInt64, nI_toInt (by omega)]
        omega
      · rw [h1] at e; exact absurd e n01
      · rw [h1] at e; exact absurd e n02
    · rcases hrow with ⟨e, _⟩ | ⟨_, j', hj', e1, e2⟩ | ⟨e, _⟩
      · rw [h1] at e; exact absurd e n10
      · obtain rfl : j' = j := (nI_eq (by omega) (by omega)).mp (e1.symm.trans h2)
        rw [lw_step_v h1, h2, nI_clamp (by omega)] at h
        have e3 : nI (10020 + j') - nI 10000 = nI (20 + j') := by rw [am_subN (by omega), show 10020 + j' - 10000 = 20 + j' by omega]
        have e4 : nI (20 + j') - nI 20 = nI j' := by rw [am_subN (by omega), show 20 + j' - 20 = j' by omega]
        rw [e2, e3, e4]
        try simp (config := {maxSteps := 1000000}) (disch := omega) only [nI_add, nI_1, am_mulN, nI_clamp, am_gI, am_ifd, am_ifn, am_asIe, am_asLe, nI_leI, nI_ltI, nI_eq, am_neg1, am_neg1b, c_CK, c_CP, c_Co, c_C0, c_Ci, c_ui, c_u0, c_uK, c_uP, c_Jv, c_Js, c_uv, c_us]
        rw [if_neg (by omega), e_Reckoner_workOut_89 hq]
        try simp (config := {maxSteps := 1000000}) (disch := omega) only [nI_add, nI_1, am_mulN, nI_clamp, am_gI, am_ifd, am_ifn, am_asIe, am_asLe, nI_leI, nI_ltI, nI_eq, am_neg1, am_neg1b, c_CK, c_CP, c_Co, c_C0, c_Ci, c_ui, c_u0, c_uK, c_uP, c_Jv, c_Js, c_uv, c_us]
        rw [if_neg (by omega), s_L_isName]
        try simp (config := {maxSteps := 1000000}) (disch := omega) only [nI_add, nI_1, am_mulN, nI_clamp, am_gI, am_ifd, am_ifn, am_asIe, am_asLe, nI_leI, nI_ltI, nI_eq, am_neg1, am_neg1b, c_CK, c_CP, c_Co, c_C0, c_Ci, c_ui, c_u0, c_uK, c_uP, c_Jv, c_Js, c_uv, c_us]
        rw [show decide (0 ≤ j' ∧ j' < 7) = true from decide_eq_true ⟨by omega, hj'⟩, e_Reckoner_workOut_99 hq]
        try simp (config := {maxSteps := 1000000}) (disch := omega) only [nI_add, nI_1, am_mulN, nI_clamp, am_gI, am_ifd, am_ifn, am_asIe, am_asLe, nI_leI, nI_ltI, nI_eq, am_neg1, am_neg1b, c_CK, c_CP, c_Co, c_C0, c_Ci, c_ui, c_u0, c_uK, c_uP, c_Jv, c_Js, c_uv, c_us, b_v0, Bool.true_eq_false, if_false]
        rw [e_Reckoner_workOut_102 hq]
        try simp (config := {maxSteps := 1000000}) (disch := omega) only [nI_add, nI_1, am_mulN, nI_clamp, am_gI, am_ifd, am_ifn, am_asIe, am_asLe, nI_leI, nI_ltI, nI_eq, am_neg1, am_neg1b, c_CK, c_CP, c_Co, c_C0, c_Ci, c_ui, c_u0, c_uK, c_uP, c_Jv, c_Js, c_uv, c_us]
        have hro' : c_ro (c_C I w C K P) := by
          intro j hj
          rw [c_Co (by omega), c_Co (by omega)]
          exact hro j hj
        rw [if_neg (by omega), if_pos (by omega), s_L_nameIn hj' hro']
        try simp (config := {maxSteps := 1000000}) (disch := omega) only [nI_add, nI_1, am_mulN, nI_clamp, am_gI, am_ifd, am_ifn, am_asIe, am_asLe, nI_leI, nI_ltI, nI_eq, am_neg1, am_neg1b, c_CK, c_CP, c_Co, c_C0, c_Ci, c_ui, c_u0, c_uK, c_uP, c_Jv, c_Js, c_uv, c_us]
        rw [e_Reckoner_workOut_135 hq]
        try simp (config := {maxSteps := 1000000}) (disch := omega) only [nI_add, nI_1, am_mulN, nI_clamp, am_gI, am_ifd, am_ifn, am_asIe, am_asLe, nI_leI, nI_ltI, nI_eq, am_neg1, am_neg1b, c_CK, c_CP, c_Co, c_C0, c_Ci, c_ui, c_u0, c_uK, c_uP, c_Jv, c_Js, c_uv, c_us]
        rw [e_Reckoner_workOut_202 hq]
        try simp (config := {maxSteps := 1000000}) (disch := omega) only [nI_add, nI_1, am_mulN, nI_clamp, am_gI, am_ifd, am_ifn, am_asIe, am_asLe, nI_leI, nI_ltI, nI_eq, am_neg1, am_neg1b, c_CK, c_CP, c_Co, c_C0, c_Ci, c_ui, c_u0, c_uK, c_uP, c_Jv, c_Js, c_uv, c_us]
        exact ih (i + 1) (c_nm x j' :: sl) _ _ _ _ (by omega) (by omega) h4 h3 ⟨lw_nmB x j' hj', hB⟩ (sk_push hs) h
      · rw [h1] at e; exact absurd e n12
end
