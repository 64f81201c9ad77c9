/-! ===== L3: the class's names, pull, wake ===== -/
def cl_light (I : Nat → Nat → Int32) (t : Nat) (lit : Int32) (h hr : Nat) : Bool := decide (I 61 11 = nI 0) && (bt (I (t + 12) h) hr || bt lit h)
/-- the class's night stands as the model's: town t, ways nw, far nf (the model's F), by numbers b, bells bl, lit and the model's ml -/
def c_env (I M : Nat → Nat → Int32) (t nw nf : Nat) (F : Nat → Int32) (b : Bool) (bl : Nat → Int32) (lit ml : Int32) : Prop :=
  ((t = 3 ∨ t = 23) ∧ (nw = 7 ∨ nw = 27 ∨ nw = 66) ∧ (nf = 8 ∨ nf = 28 ∨ nf = 67)) ∧
  (I t 0 = M 95 0 ∧ I t 2 = M 95 2) ∧ (∀ s, s < m_nZ M → I (t + 6) s = M 104 s) ∧
  (∀ h, h < m_nH M → ∀ l, l < 32 → bt (I (t + 11) h) l = decide (l < m_nL M ∧ M 108 l = nI h)) ∧
  (∀ h, h < m_nH M → I 69 h = m_noise M (bl h) h ∧ ∃ k, k < 64 ∧ I 69 h = nI k) ∧
  (∀ s, s < m_nZ M → I 70 s = m_deep M s ∧ ∃ k, k < 16 ∧ I 70 s = nI k) ∧
  (∀ s, s < m_nZ M → I 71 s = m_dream M s ∧ ∃ k, k < 8 ∧ I 71 s = nI k) ∧
  (∀ h, h < m_nH M → ∀ hr, hr < 12 → cl_light I t lit h hr = m_light M (m_nA M) ml h (nI hr)) ∧
  (0 < m_nH M → ∀ k, k < 64 → I nf k = F k ∧ ∃ q, q < 128 ∧ F k = nI q) ∧
  (∀ a h, a < m_nH M → h < m_nH M → I nw (8 * a + h) = m_way M a h ∧ ∃ q, q < 16 ∧ m_way M a h = nI q) ∧
  (∀ s, s < m_nZ M → bt (I 61 10) s = !bt (M 93 58) s) ∧
  I 61 12 = nI b.toNat ∧ c_lwr I M (t + 15) ∧ c_used I M (t + 15) ∧ c_ro I
def j_bc (x0 : Int32) : Int32 := ((((((((x0 - (((Int32.toUInt32 x0 >>> (Int32.toUInt32 (nI 1) &&& Int32.toUInt32 31)).toInt32) &&& (nI 1431655765))) &&& (nI 858993459)) + (((Int32.toUInt32 (x0 - (((Int32.toUInt32 x0 >>> (Int32.toUInt32 (nI 1) &&& Int32.toUInt32 31)).toInt32) &&& (nI 1431655765))) >>> (Int32.toUInt32 (nI 2) &&& Int32.toUInt32 31)).toInt32) &&& (nI 858993459))) + ((Int32.toUInt32 (((x0 - (((Int32.toUInt32 x0 >>> (Int32.toUInt32 (nI 1) &&& Int32.toUInt32 31)).toInt32) &&& (nI 1431655765))) &&& (nI 858993459)) + (((Int32.toUInt32 (x0 - (((Int32.toUInt32 x0 >>> (Int32.toUInt32 (nI 1) &&& Int32.toUInt32 31)).toInt32) &&& (nI 1431655765))) >>> (Int32.toUInt32 (nI 2) &&& Int32.toUInt32 31)).toInt32) &&& (nI 858993459))) >>> (Int32.toUInt32 (nI 4) &&& Int32.toUInt32 31)).toInt32)) &&& (nI 252645135)) + ((Int32.toUInt32 (((((x0 - (((Int32.toUInt32 x0 >>> (Int32.toUInt32 (nI 1) &&& Int32.toUInt32 31)).toInt32) &&& (nI 1431655765))) &&& (nI 858993459)) + (((Int32.toUInt32 (x0 - (((Int32.toUInt32 x0 >>> (Int32.toUInt32 (nI 1) &&& Int32.toUInt32 31)).toInt32) &&& (nI 1431655765))) >>> (Int32.toUInt32 (nI 2) &&& Int32.toUInt32 31)).toInt32) &&& (nI 858993459))) + ((Int32.toUInt32 (((x0 - (((Int32.toUInt32 x0 >>> (Int32.toUInt32 (nI 1) &&& Int32.toUInt32 31)).toInt32) &&& (nI 1431655765))) &&& (nI 858993459)) + (((Int32.toUInt32 (x0 - (((Int32.toUInt32 x0 >>> (Int32.toUInt32 (nI 1) &&& Int32.toUInt32 31)).toInt32) &&& (nI 1431655765))) >>> (Int32.toUInt32 (nI 2) &&& Int32.toUInt32 31)).toInt32) &&& (nI 858993459))) >>> (Int32.toUInt32 (nI 4) &&& Int32.toUInt32 31)).toInt32)) &&& (nI 252645135)) >>> (Int32.toUInt32 (nI 8) &&& Int32.toUInt32 31)).toInt32)) + ((Int32.toUInt32 ((((((x0 - (((Int32.toUInt32 x0 >>> (Int32.toUInt32 (nI 1) &&& Int32.toUInt32 31)).toInt32) &&& (nI 1431655765))) &&& (nI 858993459)) + (((Int32.toUInt32 (x0 - (((Int32.toUInt32 x0 >>> (Int32.toUInt32 (nI 1) &&& Int32.toUInt32 31)).toInt32) &&& (nI 1431655765))) >>> (Int32.toUInt32 (nI 2) &&& Int32.toUInt32 31)).toInt32) &&& (nI 858993459))) + ((Int32.toUInt32 (((x0 - (((Int32.toUInt32 x0 >>> (Int32.toUInt32 (nI 1) &&& Int32.toUInt32 31)).toInt32) &&& (nI 1431655765))) &&& (nI 858993459)) + (((Int32.toUInt32 (x0 - (((Int32.toUInt32 x0 >>> (Int32.toUInt32 (nI 1) &&& Int32.toUInt32 31)).toInt32) &&& (nI 1431655765))) >>> (Int32.toUInt32 (nI 2) &&& Int32.toUInt32 31)).toInt32) &&& (nI 858993459))) >>> (Int32.toUInt32 (nI 4) &&& Int32.toUInt32 31)).toInt32)) &&& (nI 252645135)) + ((Int32.toUInt32 (((((x0 - (((Int32.toUInt32 x0 >>> (Int32.toUInt32 (nI 1) &&& Int32.toUInt32 31)).toInt32) &&& (nI 1431655765))) &&& (nI 858993459)) + (((Int32.toUInt32 (x0 - (((Int32.toUInt32 x0 >>> (Int32.toUInt32 (nI 1) &&& Int32.toUInt32 31)).toInt32) &&& (nI 1431655765))) >>> (Int32.toUInt32 (nI 2) &&& Int32.toUInt32 31)).toInt32) &&& (nI 858993459))) + ((Int32.toUInt32 (((x0 - (((Int32.toUInt32 x0 >>> (Int32.toUInt32 (nI 1) &&& Int32.toUInt32 31)).toInt32) &&& (nI 1431655765))) &&& (nI 858993459)) + (((Int32.toUInt32 (x0 - (((Int32.toUInt32 x0 >>> (Int32.toUInt32 (nI 1) &&& Int32.toUInt32 31)).toInt32) &&& (nI 1431655765))) >>> (Int32.toUInt32 (nI 2) &&& Int32.toUInt32 31)).toInt32) &&& (nI 858993459))) >>> (Int32.toUInt32 (nI 4) &&& Int32.toUInt32 31)).toInt32)) &&& (nI 252645135)) >>> (Int32.toUInt32 (nI 8) &&& Int32.toUInt32 31)).toInt32)) >>> (Int32.toUInt32 (nI 16) &&& Int32.toUInt32 31)).toInt32)) &&& (nI 63))
theorem j_bc8 : ∀ n, n < 256 → j_bc (nI n) = nI (fa_cnt (bt (nI n)) 8) := by decide +kernel
section
variable {d N w : Nat} {Q : Value → am_H → Prop} {r : am_rho} {I M C W : Nat → Nat → Int32} {J : Nat → Nat → Int64} {K P : Nat → Int32} {vl st : Nat → Int64}
theorem b_low8 {x : Int32} (hx : ∀ i, 8 ≤ i → i < 32 → bt x i = false) : ∃ n, n < 256 ∧ x = nI n := by
  obtain ⟨j, hj, he⟩ := pk_andE x (m := nI 255) 8 (by decide +kernel)
  refine ⟨j, hj, ?_⟩
  rw [← he]
  apply b_ext
  intro i hi
  rw [b_and]
  have h255 : bt (nI 255) i = decide (i < 8) := b_255 i
  rw [h255]
  by_cases h : i < 8
  · simp [h]
  · rw [hx i (by omega) hi]; rfl
theorem s_J_bitCount {x : Int32} (hx : ∀ i, 8 ≤ i → i < 32 → bt x i = false) : am_D (d + 1) 277 [.int x] (am_hp N r I J) Q = Q (.int (nI (fa_cnt (bt x) 8))) (am_hp N r I J) := by
  obtain ⟨n, hn, rfl⟩ := b_low8 hx
  rw [← j_bc8 n hn]
  exact e_J_bitCount
theorem b_2 {x y : Int32} {a c : Nat} (ha : a < 32) (hc : c < 32) : (((x >>> (nI a &&& nI 31)) ||| (y >>> (nI c &&& nI 31))) &&& nI 1) = nI (bt x a || bt y c).toNat := by
  apply b_ext
  intro i hi
  have h1 : ∀ i, i < 32 → bt (nI 1) i = decide (i = 0) := by decide +kernel
  have h2 : ∀ i, i < 32 → ∀ b : Bool, bt (nI b.toNat) i = (decide (i = 0) && b) := by decide +kernel
  rw [b_and, h2 i hi, h1 i hi, b_or]
  have e1 : bt (x >>> (nI a &&& nI 31)) i = _ := b_sshr a ha x hi
  have e2 : bt (y >>> (nI c &&& nI 31)) i = _ := b_sshr c hc y hi
  rw [e1, e2]
  by_cases h : i = 0
  · subst h
    simp [ha, hc]
  · simp [h]
theorem fa_cnt8 {p : Nat → Bool} : fa_cnt p 8 < 16 := by have := fa_cnt_le p 8; omega
theorem cw_hand {s : Nat} (hr : cw_rel M C W) (hs : s < 5) (hL : m_nL M ≤ 8) : C 2 s = m_hand M W (nI s) ∧ ∀ i, 8 ≤ i → i < 32 → bt (C 2 s) i = false := by
  refine ⟨?_, ?_⟩
  · apply b_ext
    intro l hl
    rw [hr.2.2.2.2.2.1 s hs l hl]
    unfold m_hand
    rw [b_mk (by omega) hl]
    by_cases c : l < m_nL M <;> simp [c]
  · intro i h1 h2
    rw [hr.2.2.2.2.2.1 s hs i h2]
    exact decide_eq_false (by omega)
variable {t nw nf rt rs rd rl rx : Nat} {F : Nat → Int32} {b : Bool} {bl : Nat → Int32} {lit ml : Int32}
theorem s_N_names {s h y : Nat} (he : c_env I M t nw nf F b (W 9) lit (W 3 0)) (hok : m_ok M) (hr : cw_rel M C W) (hw : w = 49 ∨ w = 55 ∨ w = 82) (hlit : C 0 5 = lit) (hhr : ∃ q, q < 12 ∧ W 0 0 = nI q) (hs : s < m_nZ M) (hh : h < m_nH M) (hy : y < 16)
    (hQ : ∀ x, (∀ j, j < 7 → c_nm x j = m_nm0 M W F s h (nI y) j) → Q (.int x) (am_hp N (rt, rs, rd, rl, rx, t, nw, nf) (c_C I w C K P) J)) : am_D (d + 2) 23 [.ref 61, .ref w, .int (nI s), .int (nI h), .int (nI y)] (am_hp N (rt, rs, rd, rl, rx, t, nw, nf) (c_C I w C K P) J) Q := by
  obtain ⟨⟨ht, hnw, hnf⟩, ⟨e0, e2⟩, eb, em, en, ed, edr, el, ef, ew, ewk, ebn, elr, eus, ero⟩ := he
  obtain ⟨⟨hH, hH8⟩, ⟨hS, hS12⟩, ⟨hZ, hZ5⟩, ⟨hL, hL8⟩, ⟨hA, hA6⟩, hB, hl⟩ := hok
  obtain ⟨q, hq, hq'⟩ := hhr
  obtain ⟨en1, kn, hkn, en2⟩ := en h hh
  obtain ⟨ed1, kd, hkd, ed2⟩ := ed s hs
  obtain ⟨er1, kr, hkr, er2⟩ := edr s hs
  obtain ⟨ef1, kf, hkf, ef2⟩ := ef (by omega) (8 * h + kr) (by omega)
  obtain ⟨hc1, hc2⟩ := cw_hand hr (show s < 5 by omega) hL8
  have hh0 : C 0 0 = nI q := by rw [hr.1]; exact hq'
  rw [e_Night_names hw, e_Night_light hw ht]
  try simp (config := {maxSteps := 1000000}) (disch := omega) only [nI_add, nI_1, am_mulN, nI_clamp, am_gI, am_ifd, am_ifn, am_asIe, am_asLe, nI_leI, nI_ltI, nI_eq, am_neg1, am_neg1b, c_CK, c_CP, c_Co, c_C0, c_Ci, c_ui, c_u0, c_uK, c_uP, c_Jv, c_Js, c_uv, c_us, hh0, hlit, b_2]
  have hlt : (if I 61 11 = nI 0 then am_V (d + 1) Q 23 10 [some (.ref 61), some (.ref w), some (.int (nI s)), some (.int (nI h)), some (.int (nI y))] [.int (nI (bt (I (t + 12) h) q || bt lit h).toNat)] (am_hp N (rt, rs, rd, rl, rx, t, nw, nf) (c_C I w C K P) J) else am_V (d + 1) Q 23 10 [some (.ref 61), some (.ref w), some (.int (nI s)), some (.int (nI h)), some (.int (nI y))] [.int (nI 0)] (am_hp N (rt, rs, rd, rl, rx, t, nw, nf) (c_C I w C K P) J)) = am_V (d + 1) Q 23 10 [some (.ref 61), some (.ref w), some (.int (nI s)), some (.int (nI h)), some (.int (nI y))] [.int (nI (cl_light I t lit h q).toNat)] (am_hp N (rt, rs, rd, rl, rx, t, nw, nf) (c_C I w C K P) J) := by
    unfold cl_light
    by_cases c : I 61 11 = nI 0
    · rw [if_pos c, decide_eq_true c, Bool.true_and]
    · rw [if_neg c, decide_eq_false c, Bool.false_and]; rfl
  rw [hlt, el h hh q hq, e_Night_names_10 hw hnf]
  have e8 : h * 8 + kr = 8 * h + kr := by omega
  try simp (config := {maxSteps := 1000000}) (disch := omega) only [nI_add, nI_1, am_mulN, nI_clamp, am_gI, am_ifd, am_ifn, am_asIe, am_asLe, nI_leI, nI_ltI, nI_eq, am_neg1, am_neg1b, c_CK, c_CP, c_Co, c_C0, c_Ci, c_ui, c_u0, c_uK, c_uP, c_Jv, c_Js, c_uv, c_us, er2, e8, ef1, ef2, en2, ed2]
  rw [s_J_bitCount hc2]
  try simp (config := {maxSteps := 1000000}) (disch := omega) only [nI_add, nI_1, am_mulN, nI_clamp, am_gI, am_ifd, am_ifn, am_asIe, am_asLe, nI_leI, nI_ltI, nI_eq, am_neg1, am_neg1b, c_CK, c_CP, c_Co, c_C0, c_Ci, c_ui, c_u0, c_uK, c_uP, c_Jv, c_Js, c_uv, c_us]
  rw [e_Night_names_62 hw]
  try simp (config := {maxSteps := 1000000}) (disch := omega) only [nI_add, nI_1, am_mulN, nI_clamp, am_gI, am_ifd, am_ifn, am_asIe, am_asLe, nI_leI, nI_ltI, nI_eq, am_neg1, am_neg1b, c_CK, c_CP, c_Co, c_C0, c_Ci, c_ui, c_u0, c_uK, c_uP, c_Jv, c_Js, c_uv, c_us, hh0]
  have hl2 : ∀ b : Bool, b.toNat < 2 := by intro b; cases b <;> decide
  rw [c_pack (hl2 _) hkf hkn hkd fa_cnt8 (by omega) hy]
  apply hQ
  obtain ⟨u0, u1, u2, u3, u4, u5, u6⟩ := c_unpack (hl2 (m_light M (m_nA M) (W 3 0) h (nI q))) hkf hkn hkd (fa_cnt8 (p := bt (C 2 s))) (show q < 16 by omega) hy
  intro j hj
  match j with
  | 0 => rw [u0, ← ed2, ed1]; rfl
  | 1 =>
    rw [u1, ← ef2]
    show _ = (F (8 * h + (m_dream M s).toNatClampNeg)).toInt64
    rw [← er1, er2, nI_clamp (by omega)]
  | 2 =>
    rw [u2, ← hq']
    rfl
  | 3 => rw [u3, ← en2, en1]; rfl
  | 4 => rw [u4, hc1]; rfl
  | 5 => rw [u5, ← hq']; rfl
  | 6 => rw [u6]; rfl
  | j + 7 => omega
end
/-! values are small -/
theorem lw_run_B {so va : Nat → Int32} {nm : Nat → Int64} : ∀ {c i : Nat} {st st' : List Int64}, (∀ e, i ≤ e → e < i + c → so e = nI 0 → lw_B (va e).toInt64) → (∀ j, j < 7 → lw_B (nm j)) → lw_ok so va c i st.length → lw_Bs st → lw_run so va nm c i st = some st' → lw_Bs st'
  | 0, _, st, st', _, _, _, hB, e => by
    have e' : some st = some st' := e
    injection e' with e'
    rw [← e']; exact hB
  | c + 1, i, st, st', hv, hn, h, hB, e => by
    have hv' : ∀ e, i + 1 ≤ e → e < i + 1 + c → so e = nI 0 → lw_B (va e).toInt64 := fun e h1 h2 => hv e (by omega) (by omega)
    unfold lw_run at e
    rcases h with ⟨h1, h2, h3, h4⟩ | ⟨h1, h2, h3, h4⟩ | ⟨h1, h2, h4⟩ | ⟨h1, ⟨j, hj, h2⟩, h3, h4⟩
    · cases st with
      | nil => simp at h3
      | cons y t =>
        rw [lw_step, if_pos h1, if_pos h2] at e
        refine lw_run_B hv' hn (st := lw_not y :: t) h4 ⟨?_, hB.2⟩ e
        unfold lw_not
        exact lw_Bj
    · cases st with
      | nil => simp at h3
      | cons y t => cases t with
        | nil => simp at h3
        | cons x t =>
          rw [lw_step, if_pos h1, if_neg h2] at e
          try dsimp only at e
          cases ho : lw_op (va i) x y with
          | none => rw [ho] at e; exact absurd e (by simp)
          | some z => rw [ho] at e; exact lw_run_B hv' hn (st := z :: t) h4 ⟨lw_op_B ho, hB.2.2⟩ e
    · rw [lw_step_n h1] at e
      exact lw_run_B hv' hn (st := _ :: st) h4 ⟨hv i (by omega) (by omega) h1, hB⟩ e
    · rw [lw_step_v h1, h2, nI_clamp (by omega)] at e
      exact lw_run_B hv' hn (st := _ :: st) h4 ⟨hn j hj, hB⟩ e
theorem m_law_B {I M : Nat → Nat → Int32} {q k : Nat} {nm : Nat → Int64} {z : Int64} (hk : k < 3) (hok : m_lok M) (hl : c_lwr I M q) (hn : ∀ j, j < 7 → lw_B (nm j)) (h : m_law M k nm = some z) : lw_B z := by
  obtain ⟨a, b, ha, hb, hab, hb64, hlo⟩ := hok k hk
  unfold m_law at h
  cases hh : m_has M k
  · rw [hh] at h; cases h
  · have hlt := m_has_lt ha hb (by omega) (by omega) hh
    rw [if_pos hh, ha, hb, nI_clamp (by omega), nI_clamp (by omega), lw_val] at h
    cases hr : lw_run (M 114) (M 115) nm (b - a) a [] with
    | none => rw [hr] at h; cases h
    | some st' =>
      have hB := lw_run_B (st := []) (by
        intro e h1 h2 h3
        rcases hl.2 k hk e (by rw [ha, nI_clamp (by omega)]; exact h1) (by rw [hb, nI_clamp (by omega)]; omega) with ⟨_, z, hz, e1, _⟩ | ⟨g, _⟩ | ⟨g, _⟩
        · rw [e1]
          unfold lw_B
          rw [Int32.toInt_toInt64, nI_toInt (by omega)]
          omega
        · rw [h3] at g; exact absurd g n01
        · rw [h3] at g; exact absurd g n02) hn (hlo hlt) trivial hr
      rw [hr] at h
      cases st' with
      | nil => cases h
      | cons y t =>
        have : some y = some z := h
        injection this with this
        rw [← this]
        exact hB.1
theorem c_100 : ∀ q, q < 128 → (nI 100 - nI q).toInt64 = Int64.ofNat 100 - (nI q).toInt64 := by decide +kernel
theorem c_100B : ∀ q, q < 128 → lw_B (Int64.ofNat 100 - (nI q).toInt64) := by unfold lw_B; decide +kernel
