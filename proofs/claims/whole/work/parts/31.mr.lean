/-! ===== L3: the model's small readers ===== -/
def m_has (I : Nat → Nat → Int32) (k : Nat) : Bool := decide (I 112 k < I 113 k)
def m_gone (I : Nat → Nat → Int32) (l : Nat) : Bool := decide (I 93 52 = nI 7 ∧ I 93 53 = nI l)
def m_stH (I : Nat → Nat → Int32) (a b : Int32) (l : Nat) : Bool := !m_gone I l && (decide (I 100 l = a ∧ I 101 l = b) || decide (I 100 l = b ∧ I 101 l = a))
def m_street (I : Nat → Nat → Int32) (ns : Nat) (a b : Int32) : Int32 := if fa_first (m_stH I a b) ns < ns then I 102 (fa_first (m_stH I a b) ns) else nI 0
def m_lampH (I : Nat → Nat → Int32) (h hr : Int32) (a : Nat) : Bool := decide (I 109 a = h ∧ I 110 a ≤ hr ∧ hr ≤ I 111 a)
def m_lamp (I : Nat → Nat → Int32) (nl : Nat) (h hr : Int32) : Bool := decide (fa_first (m_lampH I h hr) nl < nl)
def m_light (I : Nat → Nat → Int32) (nl : Nat) (lit : Int32) (h : Nat) (hr : Int32) : Bool := !decide (I 93 52 = nI 4) && (decide (I 93 52 = nI 5) || (!decide (I 93 62 = nI 0) || (bt lit h || (bt (I 93 61) h || m_lamp I nl (nI h) hr))))
def m_noise (I : Nat → Nat → Int32) (b : Int32) (h : Nat) : Int32 := (((((if I 93 52 = nI 2 then nI 0 else b) + (if I 93 52 = nI 3 then nI 0 else I 99 h)) + (if I 93 52 = nI 1 then nI 0 else nI 3 * I 98 h)) + (if nI h = I 93 63 then nI 3 else nI 0)) + (if nI h = I 93 54 then I 93 56 else nI 0)) + (if nI h = I 93 55 then I 93 57 else nI 0)
def m_deep (I : Nat → Nat → Int32) (s : Nat) : Int32 := if I 93 52 = nI 6 ∧ I 93 53 = nI s then nI 9 else I 105 s
def m_dream (I : Nat → Nat → Int32) (s : Nat) : Int32 := if nI s = I 93 59 then I 93 60 else I 106 s
theorem fa_first_step {p : Nat → Bool} {n j : Nat} (hj : j < n) (hp : ∀ k, k < j → p k = false) (h : p j = true) : fa_first p n = j := by
  have h1 := fa_first_le p n
  have h2 := fa_first_no p n
  rcases Nat.lt_or_ge (fa_first p n) n with h3 | h3
  · have h4 := fa_first_yes p n h3
    rcases Nat.lt_trichotomy (fa_first p n) j with h5 | h5 | h5
    · rw [hp _ h5] at h4; cases h4
    · exact h5
    · rw [h2 j h5] at h; cases h
  · rw [h2 j (by omega)] at h; cases h
theorem fa_first_none {p : Nat → Bool} {n : Nat} (hp : ∀ k, k < n → p k = false) : fa_first p n = n := by
  have h1 := fa_first_le p n
  rcases Nat.lt_or_ge (fa_first p n) n with h3 | h3
  · have h4 := fa_first_yes p n h3
    rw [hp _ h3] at h4; cases h4
  · omega
section
variable {d N : Nat} {Q : Value → am_H → Prop} {r : am_rho} {I : Nat → Nat → Int32} {J : Nat → Nat → Int64}
theorem am_iteQ {c : Prop} [Decidable c] {H : am_H} : (if c then Q (.int (nI 0)) H else Q (.int (nI 1)) H) = Q (.int (nI (!decide c).toNat)) H := by
  by_cases h : c <;> simp [h]
theorem am_iteQ' {c : Prop} [Decidable c] {H : am_H} : (if c then Q (.int (nI 1)) H else Q (.int (nI 0)) H) = Q (.int (nI (decide c).toNat)) H := by
  by_cases h : c <;> simp [h]
theorem am_nle {a b : Int32} : (!decide (a ≤ b)) = decide (b < a) := by
  by_cases h : a ≤ b
  · have : ¬ b < a := by rw [fa_lt]; rw [fa_le] at h; omega
    simp [h, this]
  · have : b < a := fa_of_nle h
    simp [h, this]
theorem s_M_hasLaw {k : Nat} (hk : k < 6) : am_D (d + 1) 202 [.ref 93, .int (nI k)] (am_hp N r I J) Q = Q (.int (nI (m_has I k).toNat)) (am_hp N r I J) := by
  rw [e_M_hasLaw]
  try simp (config := {maxSteps := 1000000}) (disch := omega) only [nI_add, nI_1, am_mulN, nI_clamp, am_gI, am_ifd, am_ifn, am_asIe, am_asLe, nI_leI, nI_ltI, nI_eq, am_neg1, am_neg1b, am_iteQ, m_has, am_nle]
theorem am_inrange {x : Int32} {a : Int32} {H : am_H} : (if x < nI 0 then Q (.int (nI 0)) H else if a ≤ x then Q (.int (nI 0)) H else Q (.int (nI 1)) H) = Q (.int (nI (decide (nI 0 ≤ x ∧ x < a)).toNat)) H := by
  by_cases h : x < nI 0
  · have : ¬ nI 0 ≤ x := by rw [fa_le]; rw [fa_lt] at h; omega
    simp [h, this]
  · have h' := fa_of_nlt h
    by_cases h2 : a ≤ x
    · have : ¬ x < a := by rw [fa_lt]; rw [fa_le] at h2; omega
      simp [h, h2, this]
    · have := fa_of_nle h2
      simp [h, h2, this, h']
theorem s_M_isHouse {x : Int32} : am_D (d + 1) 206 [.ref 93, .int x] (am_hp N r I J) Q = Q (.int (nI (decide (nI 0 ≤ x ∧ x < I 95 0)).toNat)) (am_hp N r I J) := by
  rw [e_M_isHouse]
  try simp (config := {maxSteps := 1000000}) (disch := omega) only [nI_add, nI_1, am_mulN, nI_clamp, am_gI, am_ifd, am_ifn, am_asIe, am_asLe, nI_leI, nI_ltI, nI_eq, am_neg1, am_neg1b, am_inrange]
theorem s_M_isSleeper {x : Int32} : am_D (d + 1) 207 [.ref 93, .int x] (am_hp N r I J) Q = Q (.int (nI (decide (nI 0 ≤ x ∧ x < I 95 2)).toNat)) (am_hp N r I J) := by
  rw [e_M_isSleeper]
  try simp (config := {maxSteps := 1000000}) (disch := omega) only [nI_add, nI_1, am_mulN, nI_clamp, am_gI, am_ifd, am_ifn, am_asIe, am_asLe, nI_leI, nI_ltI, nI_eq, am_neg1, am_neg1b, am_inrange]
theorem s_M_isLetter {x : Int32} : am_D (d + 1) 208 [.ref 93, .int x] (am_hp N r I J) Q = Q (.int (nI (decide (nI 0 ≤ x ∧ x < I 95 3)).toNat)) (am_hp N r I J) := by
  rw [e_M_isLetter]
  try simp (config := {maxSteps := 1000000}) (disch := omega) only [nI_add, nI_1, am_mulN, nI_clamp, am_gI, am_ifd, am_ifn, am_asIe, am_asLe, nI_leI, nI_ltI, nI_eq, am_neg1, am_neg1b, am_inrange]
theorem s_M_isGone {l : Nat} : am_D (d + 1) 211 [.ref 93, .int (nI l)] (am_hp N r I J) Q = Q (.int (nI (m_gone I l).toNat)) (am_hp N r I J) := by
  rw [e_M_isGone]
  simp only [nI_add, nI_1, am_mulN, nI_clamp, am_gI, am_ifd, am_ifn, am_asIe, am_asLe, nI_leI, nI_ltI, nI_eq, am_neg1, am_neg1b, m_gone]
  by_cases h : I 93 52 = nI 7
  · by_cases h2 : I 93 53 = nI l
    · simp [h, h2]
    · simp [h, h2]
  · simp [h]
theorem s_M_streetTo {ns : Nat} {a b : Int32} (hs : I 95 1 = nI ns) (hns : ns ≤ 12) : am_D (d + 2) 212 [.ref 93, .int a, .int b] (am_hp N r I J) Q = Q (.int (m_street I ns a b)) (am_hp N r I J) := by
  have lp : ∀ k j, ns = j + k → (∀ i, i < j → m_stH I a b i = false) → am_V (d + 1) Q 212 2 [some (.ref 93), some (.int a), some (.int b), some (.int (nI j))] [] (am_hp N r I J) = Q (.int (m_street I ns a b)) (am_hp N r I J) := by
    intro k
    induction k with
    | zero =>
      intro j hj hp
      obtain rfl : ns = j := by omega
      rw [e_M_streetTo_2, hs]
      try simp (config := {maxSteps := 1000000}) (disch := omega) only [nI_add, nI_1, am_mulN, nI_clamp, am_gI, am_ifd, am_ifn, am_asIe, am_asLe, nI_leI, nI_ltI, nI_eq, am_neg1, am_neg1b]
      rw [if_pos (Nat.le_refl _), m_street, fa_first_none hp, if_neg (Nat.lt_irrefl _)]
    | succ k ih =>
      intro j hj hp
      have ih1 := ih (j + 1) (by omega)
      have hy : m_stH I a b j = true → m_street I ns a b = I 102 j := by
        intro h
        rw [m_street, fa_first_step (show j < ns by omega) hp h, if_pos (by omega)]
      have hn : m_stH I a b j = false → ∀ i, i < j + 1 → m_stH I a b i = false := by
        intro h i hi
        rcases Nat.lt_or_ge i j with h1 | h1
        · exact hp i h1
        · obtain rfl : i = j := by omega
          exact h
      rw [e_M_streetTo_2, hs]
      try simp (config := {maxSteps := 1000000}) (disch := omega) only [nI_add, nI_1, am_mulN, nI_clamp, am_gI, am_ifd, am_ifn, am_asIe, am_asLe, nI_leI, nI_ltI, nI_eq, am_neg1, am_neg1b]
      rw [if_neg (by omega), s_M_isGone]
      try simp (config := {maxSteps := 1000000}) (disch := omega) only [nI_add, nI_1, am_mulN, nI_clamp, am_gI, am_ifd, am_ifn, am_asIe, am_asLe, nI_leI, nI_ltI, nI_eq, am_neg1, am_neg1b]
      rw [e_M_streetTo_17]
      try simp (config := {maxSteps := 1000000}) (disch := omega) only [nI_add, nI_1, am_mulN, nI_clamp, am_gI, am_ifd, am_ifn, am_asIe, am_asLe, nI_leI, nI_ltI, nI_eq, am_neg1, am_neg1b, b_v0]
      rw [m_stH] at hy hn
      cases hg : m_gone I j
      · simp only [hg, Bool.not_false, Bool.true_and] at hy hn
        by_cases h1 : I 100 j = a
        · by_cases h2 : I 101 j = b
          · simp only [h1, h2, if_true]
            rw [hy (by simp [h1, h2])]
          · by_cases h3 : I 100 j = b
            · by_cases h4 : I 101 j = a
              · simp only [h1, h2, h3, h4, if_true, if_false, if_pos (h1.symm.trans h3)]
                first
                  | rw [hy (by simp [h3, h4])]
                  | (simp_all)
              · simp_all
            · have := ih1 (hn (by simp [h2, h3]))
              simp_all
        · by_cases h3 : I 100 j = b
          · by_cases h4 : I 101 j = a
            · rw [hy (by simp [h3, h4])]
              simp only [h3, h4, if_true, ite_self]
            · have := ih1 (hn (by simp [h1, h4]))
              simp_all
          · have := ih1 (hn (by simp [h1, h3]))
            simp_all
      · have := ih1 (hn (by simp [hg]))
        simp_all
  rw [e_M_streetTo]
  exact lp ns 0 (by omega) (by omega)
theorem s_M_lightAt {n h nl : Nat} {hr : Int32} (hn : n < 23) (hh : h < 8) (hl : I 95 4 = nI nl) (hnl : nl ≤ 6) : am_D (d + 1) 213 [.ref 93, .int (nI n), .int (nI h), .int hr] (am_hp N r I J) Q = Q (.int (nI (m_light I nl (I 121 n) h hr).toNat)) (am_hp N r I J) := by
  have lp : ∀ k j, nl = j + k → (∀ i, i < j → m_lampH I (nI h) hr i = false) → am_V d Q 213 56 [some (.ref 93), some (.int (nI n)), some (.int (nI h)), some (.int hr), some (.int (nI j))] [] (am_hp N r I J) = Q (.int (nI (m_lamp I nl (nI h) hr).toNat)) (am_hp N r I J) := by
    intro k
    induction k with
    | zero =>
      intro j hj hp
      obtain rfl : nl = j := by omega
      rw [e_M_lightAt_56, hl]
      try simp (config := {maxSteps := 1000000}) (disch := omega) only [nI_add, nI_1, am_mulN, nI_clamp, am_gI, am_ifd, am_ifn, am_asIe, am_asLe, nI_leI, nI_ltI, nI_eq, am_neg1, am_neg1b]
      rw [if_pos (Nat.le_refl _), m_lamp, fa_first_none hp]
      simp
    | succ k ih =>
      intro j hj hp
      have ih1 := ih (j + 1) (by omega)
      have hy : m_lampH I (nI h) hr j = true → m_lamp I nl (nI h) hr = true := by
        intro h
        rw [m_lamp, fa_first_step (show j < nl by omega) hp h]
        exact decide_eq_true (by omega)
      have hn : m_lampH I (nI h) hr j = false → ∀ i, i < j + 1 → m_lampH I (nI h) hr i = false := by
        intro h i hi
        rcases Nat.lt_or_ge i j with h1 | h1
        · exact hp i h1
        · obtain rfl : i = j := by omega
          exact h
      rw [e_M_lightAt_56, hl]
      try simp (config := {maxSteps := 1000000}) (disch := omega) only [nI_add, nI_1, am_mulN, nI_clamp, am_gI, am_ifd, am_ifn, am_asIe, am_asLe, nI_leI, nI_ltI, nI_eq, am_neg1, am_neg1b]
      rw [if_neg (by omega)]
      rw [m_lampH] at hy hn
      by_cases h1 : I 109 j = nI h
      · by_cases h2 : hr < I 110 j
        · have h2' : ¬ I 110 j ≤ hr := (fa_of_lt h2).2.1
          rw [if_pos h1, if_pos h2]
          exact ih1 (hn (by simp [h2']))
        · have h2' := fa_of_nlt h2
          by_cases h3 : I 111 j < hr
          · have h3' : ¬ hr ≤ I 111 j := (fa_of_lt h3).2.1
            rw [if_pos h1, if_neg h2, if_pos h3]
            exact ih1 (hn (by simp [h3']))
          · rw [if_pos h1, if_neg h2, if_neg h3, hy (by simp [h1, h2', fa_of_nlt h3])]
            rfl
      · rw [if_neg h1]
        exact ih1 (hn (by simp [h1]))
  rw [e_M_lightAt]
  try simp (config := {maxSteps := 1000000}) (disch := omega) only [nI_add, nI_1, am_mulN, nI_clamp, am_gI, am_ifd, am_ifn, am_asIe, am_asLe, nI_leI, nI_ltI, nI_eq, am_neg1, am_neg1b, b_v, b_v1]
  rw [lp nl 0 (by omega) (by omega), m_light]
  by_cases h1 : I 93 52 = nI 4
  · simp [h1]
  · by_cases h2 : I 93 52 = nI 5
    · have : ¬ nI 5 = nI 4 := by decide +kernel
      simp [h2, this]
    · by_cases h3 : I 93 62 = nI 0
      · cases h4 : bt (I 121 n) h <;> cases h5 : bt (I 93 61) h <;> simp [h1, h2, h3]
      · simp [h1, h2, h3]
theorem s_M_noiseAt {n h : Nat} (hn : n < 23) (hh : h < 8) : am_D (d + 1) 214 [.ref 93, .int (nI n), .int (nI h)] (am_hp N r I J) Q = Q (.int (m_noise I (I 127 (8 * n + h)) h)) (am_hp N r I J) := by
  have h103 : ∀ x, am_V d Q 214 103 [some (.ref 93), some (.int (nI n)), some (.int (nI h)), some (.int x)] [] (am_hp N r I J) = Q (.int (x + (if nI h = I 93 55 then I 93 57 else nI 0))) (am_hp N r I J) := by
    intro x
    rw [e_M_noiseAt_103]
    simp only [am_ifn, e_M_noiseAt_122]
    split <;> rfl
  have h84 : ∀ x, am_V d Q 214 84 [some (.ref 93), some (.int (nI n)), some (.int (nI h)), some (.int x)] [] (am_hp N r I J) = Q (.int (x + (if nI h = I 93 54 then I 93 56 else nI 0) + (if nI h = I 93 55 then I 93 57 else nI 0))) (am_hp N r I J) := by
    intro x
    rw [e_M_noiseAt_84]
    simp only [am_ifn, h103]
    split <;> rfl
  have h68 : ∀ x, am_V d Q 214 68 [some (.ref 93), some (.int (nI n)), some (.int (nI h)), some (.int x)] [] (am_hp N r I J) = Q (.int (x + (if nI h = I 93 63 then nI 3 else nI 0) + (if nI h = I 93 54 then I 93 56 else nI 0) + (if nI h = I 93 55 then I 93 57 else nI 0))) (am_hp N r I J) := by
    intro x
    rw [e_M_noiseAt_68]
    simp only [am_ifn, h84]
    split <;> rfl
  have h45 : ∀ x, am_V d Q 214 45 [some (.ref 93), some (.int (nI n)), some (.int (nI h)), some (.int x)] [] (am_hp N r I J) = Q (.int (x + (if I 93 52 = nI 1 then nI 0 else nI 3 * I 98 h) + (if nI h = I 93 63 then nI 3 else nI 0) + (if nI h = I 93 54 then I 93 56 else nI 0) + (if nI h = I 93 55 then I 93 57 else nI 0))) (am_hp N r I J) := by
    intro x
    rw [e_M_noiseAt_45]
    simp (disch := omega) only [am_ifn, h68, am_gI, nI_clamp]
    split <;> rfl
  have h24 : ∀ x, am_V d Q 214 24 [some (.ref 93), some (.int (nI n)), some (.int (nI h)), some (.int x)] [] (am_hp N r I J) = Q (.int (x + (if I 93 52 = nI 3 then nI 0 else I 99 h) + (if I 93 52 = nI 1 then nI 0 else nI 3 * I 98 h) + (if nI h = I 93 63 then nI 3 else nI 0) + (if nI h = I 93 54 then I 93 56 else nI 0) + (if nI h = I 93 55 then I 93 57 else nI 0))) (am_hp N r I J) := by
    intro x
    rw [e_M_noiseAt_24]
    simp (disch := omega) only [am_ifn, h45, am_gI, nI_clamp]
    split <;> rfl
  rw [e_M_noiseAt, m_noise]
  simp (disch := omega) only [am_ifn, h24, am_gI, nI_clamp, nI_add, am_mulN]
  split <;> rfl
theorem s_M_inHand {n nl : Nat} {s : Int32} (hn : n < 23) (hl : I 95 3 = nI nl) (hl8 : nl ≤ 8) : am_D (d + 1) 215 [.ref 93, .int (nI n), .int s] (am_hp N r I J) Q =
    Q (.int (am_mk1 (fun l => decide (I 124 (8 * n + l) = nI 1 ∧ I 125 (8 * n + l) = s)) nl)) (am_hp N r I J) := by
  have lp := am_upO (P := fun j o => am_V d Q 215 5 [some (.ref 93), some (.int (nI n)), some (.int s), some (.int (am_mk1 (fun l => decide (I 124 (8 * n + l) = nI 1 ∧ I 125 (8 * n + l) = s)) j)), some (.int (nI j)), am_oi o] [] (am_hp N r I J)) (R := Q (.int (am_mk1 (fun l => decide (I 124 (8 * n + l) = nI 1 ∧ I 125 (8 * n + l) = s)) nl)) (am_hp N r I J)) nl
    (by
      intro o
      try dsimp only
      rw [e_M_inHand_5, hl]
      try simp (config := {maxSteps := 1000000}) (disch := omega) only [nI_add, nI_1, am_mulN, nI_clamp, am_gI, am_ifd, am_ifn, am_asIe, am_asLe, nI_leI, nI_ltI, nI_eq, am_neg1, am_neg1b]
      rw [if_pos (Nat.le_refl _)])
    (by
      intro j hj o
      try dsimp only
      refine ⟨some (nI (8 * n + j)), ?_⟩
      rw [e_M_inHand_5, hl]
      try simp (config := {maxSteps := 1000000}) (disch := omega) only [nI_add, nI_1, am_mulN, nI_clamp, am_gI, am_ifd, am_ifn, am_asIe, am_asLe, nI_leI, nI_ltI, nI_eq, am_neg1, am_neg1b, am_pwe]
      rw [if_neg (by omega), am_mk1]
      by_cases h1 : I 124 (8 * n + j) = nI 1
      · by_cases h2 : I 125 (8 * n + j) = s
        · simp [h1, h2]
        · simp [h1, h2]
      · simp [h1])
  rw [e_M_inHand]
  exact lp 0 (by omega) none
theorem s_M_bitsOf {x : Int32} : am_D (d + 1) 216 [.int x] (am_hp N r I J) Q = Q (.int (nI (fa_cnt (bt x) 8))) (am_hp N r I J) := by
  have lp := am_up (P := fun j => am_V d Q 216 4 [some (.int x), some (.int (nI (fa_cnt (bt x) j))), some (.int (nI j))] [] (am_hp N r I J)) (R := Q (.int (nI (fa_cnt (bt x) 8))) (am_hp N r I J)) 8
    (by
      try dsimp only
      rw [e_M_bitsOf_4]
      try simp (config := {maxSteps := 1000000}) (disch := omega) only [nI_add, nI_1, am_mulN, nI_clamp, am_gI, am_ifd, am_ifn, am_asIe, am_asLe, nI_leI, nI_ltI, nI_eq, am_neg1, am_neg1b, if_true, Nat.le_refl])
    (by
      intro j hj
      try dsimp only
      rw [e_M_bitsOf_4]
      try simp (config := {maxSteps := 1000000}) (disch := omega) only [nI_add, nI_1, am_mulN, nI_clamp, am_gI, am_ifd, am_ifn, am_asIe, am_asLe, nI_leI, nI_ltI, nI_eq, am_neg1, am_neg1b, b_v]
      rw [if_neg (by omega), am_cntb])
  rw [e_M_bitsOf]
  exact lp 0 (by omega)
theorem s_M_deepOf {s : Nat} (hs : s < 5) : am_D (d + 1) 217 [.ref 93, .int (nI s)] (am_hp N r I J) Q = Q (.int (m_deep I s)) (am_hp N r I J) := by
  rw [e_M_deepOf]
  try simp (config := {maxSteps := 1000000}) (disch := omega) only [nI_add, nI_1, am_mulN, nI_clamp, am_gI, am_ifd, am_ifn, am_asIe, am_asLe, nI_leI, nI_ltI, nI_eq, am_neg1, am_neg1b, m_deep]
  by_cases h1 : I 93 52 = nI 6
  · by_cases h2 : I 93 53 = nI s
    · simp [h1, h2]
    · simp [h1, h2]
  · simp [h1]
theorem s_M_dreamOf {s : Nat} (hs : s < 5) : am_D (d + 1) 218 [.ref 93, .int (nI s)] (am_hp N r I J) Q = Q (.int (m_dream I s)) (am_hp N r I J) := by
  rw [e_M_dreamOf]
  try simp (config := {maxSteps := 1000000}) (disch := omega) only [nI_add, nI_1, am_mulN, nI_clamp, am_gI, am_ifd, am_ifn, am_asIe, am_asLe, nI_leI, nI_ltI, nI_eq, am_neg1, am_neg1b, m_dream]
  by_cases h1 : nI s = I 93 59
  · simp only [h1, if_true]
  · simp only [h1, if_false]
end
