/-! ===== L3: the class's kept values ===== -/
theorem c_of32 (y : Int32) : ∃ m, m < 2 ^ 32 ∧ y = nI m := ⟨y.toBitVec.toNat, y.toBitVec.isLt, Int32.toBitVec_inj.mp (by show _ = BitVec.ofNat 32 _; simp)⟩
theorem c_hash_lt (x : Int32) : ∃ z, z < 512 ∧ c_hash x = nI z := by
  unfold c_hash
  generalize x * nI 2654435761 = y
  obtain ⟨m, hm, he⟩ := c_of32 y
  refine ⟨m / 2 ^ 23, by omega, ?_⟩
  rw [he]
  exact pk_ushrN hm (nI 23) 23 (by decide +kernel)
theorem lw_mkb : ∀ j, j < 7 → ∀ i, i < 32 → bt (nI (lw_mk j)) i = true → lw_sh j + i < 30 ∧ lw_nb (lw_sh j + i) = j := by decide +kernel
theorem lw_sh32 {j : Nat} : lw_sh j < 30 := by
  unfold lw_sh
  repeat' split
  all_goals omega
/-- laws hang on the names that they use -/
theorem lw_run_us {so va : Nat → Int32} {nm nm' : Nat → Int64} : ∀ {c i : Nat} {st : List Int64}, (∀ e, i ≤ e → e < i + c → so e = nI 1 → nm (va e).toNatClampNeg = nm' (va e).toNatClampNeg) → lw_ok so va c i st.length → lw_run so va nm c i st = lw_run so va nm' c i st
  | 0, _, _, _, _ => rfl
  | c + 1, i, st, hn, h => by
    have hn' : ∀ e, i + 1 ≤ e → e < i + 1 + c → so e = nI 1 → nm (va e).toNatClampNeg = nm' (va e).toNatClampNeg := fun e h1 h2 => hn e (by omega) (by omega)
    unfold lw_run
    rcases h with ⟨h1, h2, h3, h4⟩ | ⟨h1, h2, h3, h4⟩ | ⟨h1, h2, h4⟩ | ⟨h1, ⟨j, hj, h2⟩, h3, h4⟩
    · cases st with
      | nil => simp at h3
      | cons y t =>
        rw [lw_step, lw_step, if_pos h1, if_pos h2, if_pos h1]
        exact lw_run_us hn' (st := lw_not y :: t) h4
    · cases st with
      | nil => simp at h3
      | cons y t => cases t with
        | nil => simp at h3
        | cons x t =>
          rw [lw_step, lw_step, if_pos h1, if_neg h2, if_pos h1]
          try dsimp only
          cases ho : lw_op (va i) x y with
          | none => rfl
          | some z => exact lw_run_us hn' (st := z :: t) h4
    · rw [lw_step_n h1, lw_step_n h1]
      exact lw_run_us hn' (st := _ :: st) h4
    · rw [lw_step_v h1, lw_step_v h1, hn i (by omega) (by omega) h1]
      exact lw_run_us hn' (st := _ :: st) h4
theorem m_has_lt {M : Nat → Nat → Int32} {k a b : Nat} (ha : M 112 k = nI a) (hb : M 113 k = nI b) (ha' : a < 2 ^ 31) (hb' : b < 2 ^ 31) (hh : m_has M k = true) : a < b := by
  unfold m_has at hh
  rw [ha, hb] at hh
  have := of_decide_eq_true hh
  exact (nI_ltI ha' hb').mp this
theorem c_nm_us {x x' : Int32} {j : Nat} (hj : j < 7) (hx : ∀ p, p < 30 → lw_nb p = j → bt x p = bt x' p) : c_nm x j = c_nm x' j := by
  have key : ∀ s m : Nat, s < 30 → (∀ i, i < 32 → bt (nI m) i = true → s + i < 30 ∧ bt x (s + i) = bt x' (s + i)) → ((x >>> (nI s &&& nI 31)) &&& nI m) = ((x' >>> (nI s &&& nI 31)) &&& nI m) := by
    intro s m hs h
    apply b_ext
    intro i hi
    rw [b_and, b_and]
    cases hm : bt (nI m) i
    · rw [Bool.and_false, Bool.and_false]
    · obtain ⟨g1, g2⟩ := h i hi hm
      have e1 : bt (x >>> (nI s &&& nI 31)) i = _ := b_sshr s (by omega) x hi
      have e2 : bt (x' >>> (nI s &&& nI 31)) i = _ := b_sshr s (by omega) x' hi
      rw [e1, e2, if_pos (by omega), if_pos (by omega), g2]
  unfold c_nm
  rw [key (lw_sh j) (lw_mk j) lw_sh32 ?_]
  intro i hi hm
  obtain ⟨g1, g2⟩ := lw_mkb j hj i hi hm
  exact ⟨g1, hx _ g1 g2⟩
theorem m_law_us {I M : Nat → Nat → Int32} {q k : Nat} {x x' : Int32} (hk : k < 3) (hok : m_lok M) (hus : c_used I M q) (hx : ∀ p, p < 30 → bt (I (q + 4) k) p = true → bt x p = bt x' p) : m_law M k (c_nm x) = m_law M k (c_nm x') := by
  obtain ⟨a, b, ha, hb, hab, hb64, hl⟩ := hok k hk
  unfold m_law
  cases hh : m_has M k
  · rw [if_neg (by decide), if_neg (by decide)]
  · have hlt := m_has_lt ha hb (by omega) (by omega) hh
    rw [if_pos rfl, if_pos rfl, ha, hb, nI_clamp (by omega), nI_clamp (by omega), lw_val, lw_val, lw_run_us ?_ (hl hlt)]
    intro e h1 h2 h3
    have hj : ∃ j, j < 7 ∧ M 115 e = nI j := by
      have : ∀ c i k, lw_ok (M 114) (M 115) c i k → i ≤ e → e < i + c → ∃ j, j < 7 ∧ M 115 e = nI j := by
        intro c
        induction c with
        | zero => intro i k _ _ _; omega
        | succ c ih =>
          intro i k h g1 g2
          by_cases ee : e = i
          · subst ee
            rcases h with ⟨h1, _⟩ | ⟨h1, _⟩ | ⟨h1, _⟩ | ⟨h1, h2, _⟩
            · rw [h3] at h1; exact absurd h1 n12
            · rw [h3] at h1; exact absurd h1 n12
            · rw [h3] at h1; exact absurd h1 n10
            · exact h2
          · rcases h with ⟨_, _, _, h4⟩ | ⟨_, _, _, h4⟩ | ⟨_, _, h4⟩ | ⟨_, _, _, h4⟩ <;> exact ih _ _ h4 (by omega) (by omega)
      exact this _ _ _ (hl hlt) h1 h2
    obtain ⟨j, hj7, hj'⟩ := hj
    rw [hj', nI_clamp (by omega)]
    refine c_nm_us hj7 ?_
    intro p g1 g2
    refine hx p g1 ((hus k hk p (by omega)).mpr ⟨g1, e, ?_, ?_, h3, ?_⟩)
    · rw [ha, nI_clamp (by omega)]; exact h1
    · rw [hb, nI_clamp (by omega)]; omega
    · rw [g2]; exact hj'
theorem c_key_b {I M : Nat → Nat → Int32} {q k : Nat} {x : Int32} (hk : k < 3) (hus : c_used I M q) : (∀ p, p < 30 → bt (c_key I q k x) p = (bt x p && bt (I (q + 4) k) p)) ∧ bt (c_key I q k x) 30 = bt (nI k) 0 ∧ bt (c_key I q k x) 31 = bt (nI k) 1 := by
  have hs : ∀ p, p < 32 → bt (nI k <<< (nI 30 &&& nI 31)) p = (decide (30 ≤ p) && bt (nI k) (p - 30)) := fun p hp => b_shl 30 (by omega) (nI k) hp
  have h30 : ∀ p, p < 32 → 30 ≤ p → bt (I (q + 4) k) p = false := by
    intro p hp h
    cases hb : bt (I (q + 4) k) p
    · rfl
    · have := ((hus k hk p hp).mp hb).1; omega
  refine ⟨?_, ?_, ?_⟩
  · intro p hp
    unfold c_key
    rw [b_or, b_and, hs p (by omega), decide_eq_false (by omega), Bool.false_and, Bool.or_false]
  · unfold c_key
    rw [b_or, b_and, hs 30 (by omega), h30 30 (by omega) (by omega), Bool.and_false, Bool.false_or]
    rfl
  · unfold c_key
    rw [b_or, b_and, hs 31 (by omega), h30 31 (by omega) (by omega), Bool.and_false, Bool.false_or]
    rfl
theorem c_key_inj {I M : Nat → Nat → Int32} {q k k' : Nat} {x x' : Int32} (hk : k < 3) (hk' : k' < 3) (hus : c_used I M q) (h : c_key I q k x = c_key I q k' x') : k = k' ∧ ∀ p, p < 30 → bt (I (q + 4) k) p = true → bt x p = bt x' p := by
  obtain ⟨a1, a2, a3⟩ := c_key_b (x := x) hk hus
  obtain ⟨b1, b2, b3⟩ := c_key_b (x := x') hk' hus
  have e0 : bt (nI k) 0 = bt (nI k') 0 := by rw [← a2, ← b2, h]
  have e1 : bt (nI k) 1 = bt (nI k') 1 := by rw [← a3, ← b3, h]
  have hkk : ∀ k, k < 3 → ∀ k', k' < 3 → bt (nI k) 0 = bt (nI k') 0 → bt (nI k) 1 = bt (nI k') 1 → k = k' := by decide +kernel
  have hkk := hkk k hk k' hk' e0 e1
  refine ⟨hkk, ?_⟩
  intro p hp hu
  have e2 := a1 p hp
  rw [h, b1 p hp, ← hkk, hu, Bool.and_true, Bool.and_true] at e2
  exact e2.symm
theorem c_key_m1 {I M : Nat → Nat → Int32} {q k : Nat} {x : Int32} (hk : k < 3) (hus : c_used I M q) : c_key I q k x ≠ -nI 1 := by
  obtain ⟨a1, a2, a3⟩ := c_key_b (x := x) hk hus
  intro e
  rw [e, b_m (by omega)] at a2 a3
  have : ∀ k, k < 3 → ¬ (true = bt (nI k) 0 ∧ true = bt (nI k) 1) := by decide +kernel
  exact this k hk ⟨a2, a3⟩
section
variable {d N w : Nat} {Q : Value → am_H → Prop} {r : am_rho} {I M C : Nat → Nat → Int32} {J : Nat → Nat → Int64} {K P : Nat → Int32} {vl st : Nat → Int64}
theorem s_Re_value {q k : Nat} {x : Int32} (hq : q = 18 ∨ q = 38) (hk : k < 3) (hw : w = 49 ∨ w = 55 ∨ w = 82) (hok : m_lok M) (hl : c_lwr I M q) (hus : c_used I M q) (hro : c_ro I) (hc : c_cache I M q K vl)
    (hQ : ∀ K' vl' st', c_cache I M q K' vl' → Q (.long ((m_law M k (c_nm x)).getD lw_E)) (am_hp N r (c_C I w C K' P) (c_J J vl' st'))) : am_D (d + 4) 52 [.ref 62, .ref q, .int (nI k), .int x] (am_hp N r (c_C I w C K P) (c_J J vl st)) Q := by
  obtain ⟨a, b, ha, hb, hab, hb64, hlo⟩ := hok k hk
  rw [e_Reckoner_value hq, e_Laws_has hq]
  try simp (config := {maxSteps := 1000000}) (disch := omega) only [nI_add, nI_1, am_mulN, nI_clamp, am_gI, am_ifd, am_ifn, am_asIe, am_asLe, nI_leI, nI_ltI, nI_eq, am_neg1, am_neg1b, c_CK, c_CP, c_Co, c_C0, c_Ci, c_ui, c_u0, c_uK, c_uP, c_Jv, c_Js, c_uv, c_us, (hl.1 k hk).1, (hl.1 k hk).2]
  have e0 : (if M 113 k ≤ M 112 k then am_V (d + 3) Q 52 5 [some (.ref 62), some (.ref q), some (.int (nI k)), some (.int x), none, none] [.int (nI 0)] (am_hp N r (c_C I w C K P) (c_J J vl st)) else am_V (d + 3) Q 52 5 [some (.ref 62), some (.ref q), some (.int (nI k)), some (.int x), none, none] [.int (nI 1)] (am_hp N r (c_C I w C K P) (c_J J vl st))) = am_V (d + 3) Q 52 5 [some (.ref 62), some (.ref q), some (.int (nI k)), some (.int x), none, none] [.int (nI (m_has M k).toNat)] (am_hp N r (c_C I w C K P) (c_J J vl st)) := by
    unfold m_has
    rw [← am_nle]
    by_cases c : M 113 k ≤ M 112 k
    · rw [if_pos c, decide_eq_true c]; rfl
    · rw [if_neg c, decide_eq_false c]; rfl
  rw [e0, e_Reckoner_value_5 hq]
  try simp (config := {maxSteps := 1000000}) (disch := omega) only [nI_add, nI_1, am_mulN, nI_clamp, am_gI, am_ifd, am_ifn, am_asIe, am_asLe, nI_leI, nI_ltI, nI_eq, am_neg1, am_neg1b, c_CK, c_CP, c_Co, c_C0, c_Ci, c_ui, c_u0, c_uK, c_uP, c_Jv, c_Js, c_uv, c_us, b_v0]
  cases hh : m_has M k
  · rw [if_pos rfl]
    have := hQ K vl st hc
    rw [m_law, hh] at this
    exact this
  · rw [if_neg (by decide), e_Reckoner_value_27 hq, e_Reckoner_value_37 hq]
    have hkey : (x &&& I (q + 4) k) ||| (nI k <<< (nI 30 &&& nI 31)) = c_key I q k x := rfl
    rw [hkey]
    have hhash : (Int32.toUInt32 (c_key I q k x * nI 2654435761) >>> (Int32.toUInt32 (nI 23) &&& Int32.toUInt32 31)).toInt32 = c_hash (c_key I q k x) := rfl
    rw [hhash]
    obtain ⟨z, hz, hz'⟩ := c_hash_lt (c_key I q k x)
    rw [hz']
    try simp (config := {maxSteps := 1000000}) (disch := omega) only [nI_add, nI_1, am_mulN, nI_clamp, am_gI, am_ifd, am_ifn, am_asIe, am_asLe, nI_leI, nI_ltI, nI_eq, am_neg1, am_neg1b, c_CK, c_CP, c_Co, c_C0, c_Ci, c_ui, c_u0, c_uK, c_uP, c_Jv, c_Js, c_uv, c_us]
    by_cases hit : K z = c_key I q k x
    · rw [if_pos hit]
      have := hQ K vl st hc
      rcases hc z hz with h1 | ⟨k', x', hk', hh', h2, h3⟩
      · exact absurd (hit.symm.trans h1) (c_key_m1 hk hus)
      · obtain ⟨e1, e2⟩ := c_key_inj hk hk' hus (hit.symm.trans h2)
        subst e1
        rw [h3, ← m_law_us hk hok hus e2]
        exact this
    · rw [if_neg hit, e_Reckoner_workOut hq]
      have hlt := m_has_lt ha hb (by omega) (by omega) hh
      try simp (config := {maxSteps := 1000000}) (disch := omega) only [nI_add, nI_1, am_mulN, nI_clamp, am_gI, am_ifd, am_ifn, am_asIe, am_asLe, nI_leI, nI_ltI, nI_eq, am_neg1, am_neg1b, c_CK, c_CP, c_Co, c_C0, c_Ci, c_ui, c_u0, c_uK, c_uP, c_Jv, c_Js, c_uv, c_us, (hl.1 k hk).1, ha]
      refine s_Re_workL (K := upd K z (c_key I q k x)) hq hk hw hl hro ha hb hb64 (b - a) a [] st none none none (by omega) (by omega) (hlo hlt) (by simp) trivial trivial ?_
      intro st'
      try simp (config := {maxSteps := 1000000}) (disch := omega) only [nI_add, nI_1, am_mulN, nI_clamp, am_gI, am_ifd, am_ifn, am_asIe, am_asLe, nI_leI, nI_ltI, nI_eq, am_neg1, am_neg1b, c_CK, c_CP, c_Co, c_C0, c_Ci, c_ui, c_u0, c_uK, c_uP, c_Jv, c_Js, c_uv, c_us]
      have hval : lw_hd (lw_run (M 114) (M 115) (c_nm x) (b - a) a []) = m_law M k (c_nm x) := by
        rw [m_law, if_pos hh, ha, hb, nI_clamp (by omega), nI_clamp (by omega), lw_val]
      rw [hval, e_Reckoner_value_71 hq]
      try simp (config := {maxSteps := 1000000}) (disch := omega) only [nI_add, nI_1, am_mulN, nI_clamp, am_gI, am_ifd, am_ifn, am_asIe, am_asLe, nI_leI, nI_ltI, nI_eq, am_neg1, am_neg1b, c_CK, c_CP, c_Co, c_C0, c_Ci, c_ui, c_u0, c_uK, c_uP, c_Jv, c_Js, c_uv, c_us]
      have hu : vp_updL vl z ((m_law M k (c_nm x)).getD lw_E) z = (m_law M k (c_nm x)).getD lw_E := by rw [vp_updL, if_pos rfl]
      rw [hu]
      refine hQ _ _ _ ?_
      intro z' hz2
      by_cases ez : z' = z
      · subst ez
        right
        refine ⟨k, x, hk, hh, pk_us, hu⟩
      · rw [pk_un ez]
        have : vp_updL vl z ((m_law M k (c_nm x)).getD lw_E) z' = vl z' := by rw [vp_updL, if_neg ez]
        rw [this]
        exact hc z' hz2
end
/-! the names in one number -/
theorem c_shl {a k : Nat} (hk : k < 32) (h : a * 2 ^ k < 2 ^ 32) : nI a <<< (nI k &&& nI 31) = nI (a * 2 ^ k) := pk_shlN _ k (s_l k hk) h
theorem c_shr {a k : Nat} (hk : k < 32) (h : a < 2 ^ 31) : nI a >>> (nI k &&& nI 31) = nI (a / 2 ^ k) := pk_shrN h _ k (s_l k hk)
theorem c_orS {a b k p : Nat} (hp : 2 ^ k = p) (hb : b < p) : nI (p * a) ||| nI b = nI (p * a + b) := by subst hp; exact fa_or_sum a hb
def c_pk (l f n d m h y : Nat) : Nat := l * 536870912 + f * 4194304 + n * 65536 + d * 4096 + m * 256 + h * 16 + y
theorem c_pack {l f n d m h y : Nat} (hl : l < 2) (hf : f < 128) (hn : n < 64) (hd : d < 16) (hm : m < 16) (hh : h < 16) (hy : y < 16) :
    ((((((nI l <<< (nI 29 &&& nI 31)) ||| (nI f <<< (nI 22 &&& nI 31))) ||| (nI n <<< (nI 16 &&& nI 31))) ||| (nI d <<< (nI 12 &&& nI 31))) ||| (nI m <<< (nI 8 &&& nI 31))) ||| (nI h <<< (nI 4 &&& nI 31))) ||| nI y = nI (c_pk l f n d m h y) := by
  rw [c_shl (a := l) (by omega) (by omega), c_shl (a := f) (by omega) (by omega), c_shl (a := n) (by omega) (by omega), c_shl (a := d) (by omega) (by omega), c_shl (a := m) (by omega) (by omega), c_shl (a := h) (by omega) (by omega)]
  rw [show l * 2 ^ 29 = 536870912 * l by omega, c_orS (k := 29) (by decide) (by omega)]
  rw [show 536870912 * l + f * 2 ^ 22 = 4194304 * (l * 128 + f) by omega, c_orS (k := 22) (by decide) (by omega)]
  rw [show 4194304 * (l * 128 + f) + n * 2 ^ 16 = 65536 * ((l * 128 + f) * 64 + n) by omega, c_orS (k := 16) (by decide) (by omega)]
  rw [show 65536 * ((l * 128 + f) * 64 + n) + d * 2 ^ 12 = 4096 * (((l * 128 + f) * 64 + n) * 16 + d) by omega, c_orS (k := 12) (by decide) (by omega)]
  rw [show 4096 * (((l * 128 + f) * 64 + n) * 16 + d) + m * 2 ^ 8 = 256 * ((((l * 128 + f) * 64 + n) * 16 + d) * 16 + m) by omega, c_orS (k := 8) (by decide) (by omega)]
  rw [show 256 * ((((l * 128 + f) * 64 + n) * 16 + d) * 16 + m) + h * 2 ^ 4 = 16 * (((((l * 128 + f) * 64 + n) * 16 + d) * 16 + m) * 16 + h) by omega, c_orS (k := 4) (by decide) (by omega)]
  congr 1
  unfold c_pk
  omega
theorem c_unpack {l f n d m h y : Nat} (hl : l < 2) (hf : f < 128) (hn : n < 64) (hd : d < 16) (hm : m < 16) (hh : h < 16) (hy : y < 16) :
    c_nm (nI (c_pk l f n d m h y)) 0 = (nI d).toInt64 ∧ c_nm (nI (c_pk l f n d m h y)) 1 = (nI f).toInt64 ∧ c_nm (nI (c_pk l f n d m h y)) 2 = (nI l).toInt64 ∧ c_nm (nI (c_pk l f n d m h y)) 3 = (nI n).toInt64 ∧
    c_nm (nI (c_pk l f n d m h y)) 4 = (nI m).toInt64 ∧ c_nm (nI (c_pk l f n d m h y)) 5 = (nI h).toInt64 ∧ c_nm (nI (c_pk l f n d m h y)) 6 = (nI y).toInt64 := by
  have hb : c_pk l f n d m h y < 2 ^ 31 := by unfold c_pk; omega
  have go : ∀ j k w v, lw_sh j = k → lw_mk j = 2 ^ w - 1 → k < 32 → c_pk l f n d m h y / 2 ^ k % 2 ^ w = v → c_nm (nI (c_pk l f n d m h y)) j = (nI v).toInt64 := by
    intro j k w v e1 e2 hk e
    unfold c_nm
    rw [e1, e2, c_shr hk hb, fa_mask, e]
  refine ⟨go 0 12 4 d rfl rfl (by omega) ?_, go 1 22 7 f rfl rfl (by omega) ?_, go 2 29 1 l rfl rfl (by omega) ?_, go 3 16 6 n rfl rfl (by omega) ?_, go 4 8 4 m rfl rfl (by omega) ?_, go 5 4 4 h rfl rfl (by omega) ?_, go 6 0 4 y rfl rfl (by omega) ?_⟩ <;> (unfold c_pk; omega)
