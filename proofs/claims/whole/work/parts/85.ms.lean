/-! ===== L3: the class measures its ways ===== -/
def setrow (I : Nat → Nat → Int32) (a : Nat) (f : Nat → Int32) : Nat → Nat → Int32 := fun b j => if b = a then f j else I b j
section
variable {d N : Nat} {Q : Value → am_H → Prop} {r : am_rho} {I : Nat → Nat → Int32} {J : Nat → Nat → Int64}
theorem sr_E {a : Nat} {f : Nat → Int32} : setrow I a f a = f := by funext j; unfold setrow; rw [if_pos rfl]
theorem sr_N {a b : Nat} {f : Nat → Int32} (h : b ≠ a) : setrow I a f b = I b := by funext j; unfold setrow; rw [if_neg h]
theorem sr_id {a : Nat} : setrow I a (I a) = I := by
  funext b j; unfold setrow
  by_cases h : b = a
  · rw [if_pos h, h]
  · rw [if_neg h]
theorem sr_u {a k : Nat} {f : Nat → Int32} {x : Int32} : am_u (setrow I a f) a k x = setrow I a (upd f k x) := by
  funext b j; unfold am_u setrow upd
  by_cases h : b = a
  · by_cases g : j = k
    · simp [h, g]
    · simp [h, g]
  · simp [h]
theorem d8 : ∀ i, i < 64 → nI i / nI 8 = nI (i / 8) ∧ nI i - nI i / nI 8 * nI 8 = nI (i % 8) := by decide +kernel
def ms_0 (w f : Nat → Int32) (i : Nat) : Nat → Int32 := fun k => if k < i then fl_i w k else f k
theorem ms_S {w f : Nat → Int32} {i : Nat} {x : Int32} (hx : x = fl_i w i) : upd (ms_0 w f i) i x = ms_0 w f (i + 1) := by
  funext k; unfold ms_0 upd
  by_cases h : k = i
  · rw [if_pos h, if_pos (by omega), hx, h]
  · rw [if_neg h]
    try dsimp only
    by_cases g : k < i
    · rw [if_pos g, if_pos (by omega)]
    · rw [if_neg g, if_neg (by omega)]
theorem s_T_measure {a b : Nat} (ha : am_TT N a = (1, 64)) (hb : am_TT N b = (1, 64)) (hne : a ≠ b) : am_D (d + 2) 79 [.ref a, .ref b] (am_hp N r I J) Q = Q .null (am_hp N r (setrow I b (fl_out (ms_0 (I a) (I b) 64) 8)) J) := by
  have g1 : (!(Nat.beq (am_TT N b).1 0) && Nat.ble (am_TT N b).1 7) = true := by rw [hb]; rfl
  have ga : ∀ {x : Int32}, ((Nat.beq (am_TT N a).1 1 || Nat.beq (am_TT N a).1 5) && am_inb x (am_TT N a).2) = am_inb x 64 := by intro x; rw [ha]; rfl
  have gb : ∀ {x : Int32}, ((Nat.beq (am_TT N b).1 1 || Nat.beq (am_TT N b).1 5) && am_inb x (am_TT N b).2) = am_inb x 64 := by intro x; rw [hb]; rfl
  have gw : ∀ {x : Int32}, (Nat.beq (am_TT N b).1 1 && am_inb x (am_TT N b).2) = am_inb x 64 := by intro x; rw [hb]; rfl
  have h64 : (am_TT N b).2 = 64 := by rw [hb]
  have rb : ∀ {f : Nat → Int32}, setrow I b f a = I a := sr_N hne
  have st : ∀ m f i o, m < 8 → i < 64 → am_V (d + 1) Q 79 56 [some (.ref a), some (.ref b), some (.int (nI m)), some (.int (nI i)), am_oi o] [] (am_hp N r (setrow I b (fl_in m f i)) J) = am_V (d + 1) Q 79 56 [some (.ref a), some (.ref b), some (.int (nI m)), some (.int (nI (i + 1))), am_oi (some (fl_in m f i (8 * (i / 8) + m) + fl_in m f i (8 * m + i % 8)))] [] (am_hp N r (setrow I b (fl_in m f (i + 1))) J) := by
    intro m f i o hm hi
    obtain ⟨e1, e2⟩ := d8 i hi
    rw [e_Town_measure_56, am_gT g1, gb, gb, gb, e2, e1, h64]
    try simp (config := {maxSteps := 1000000}) (disch := omega) only [nI_add, nI_1, am_mulN, nI_clamp, am_gI, am_ifd, am_ifn, am_asIe, am_asLe, nI_leI, nI_ltI, nI_eq, am_neg1, am_neg1b]
    rw [if_neg (by omega), sr_E, show i / 8 * 8 + m = 8 * (i / 8) + m by omega, show m * 8 + i % 8 = 8 * m + i % 8 by omega, s_J_min]
    try simp (config := {maxSteps := 1000000}) (disch := omega) only [nI_add, nI_1, am_mulN, nI_clamp, am_gI, am_ifd, am_ifn, am_asIe, am_asLe, nI_leI, nI_ltI, nI_eq, am_neg1, am_neg1b]
    rw [e_Town_measure_97, gw]
    try simp (config := {maxSteps := 1000000}) (disch := omega) only [nI_add, nI_1, am_mulN, nI_clamp, am_gI, am_ifd, am_ifn, am_asIe, am_asLe, nI_leI, nI_ltI, nI_eq, am_neg1, am_neg1b, sr_u]
    rfl
  have inner : ∀ m f R, m < 8 → (∀ o, am_V (d + 1) Q 79 48 [some (.ref a), some (.ref b), some (.int (nI (m + 1))), am_oi (some (nI 64)), am_oi o] [] (am_hp N r (setrow I b (fl_in m f 64)) J) = R) → ∀ k i, 64 = i + k → ∀ o, am_V (d + 1) Q 79 56 [some (.ref a), some (.ref b), some (.int (nI m)), some (.int (nI i)), am_oi o] [] (am_hp N r (setrow I b (fl_in m f i)) J) = R := by
    intro m f R hm hR k
    induction k with
    | zero =>
      intro i hi o
      obtain rfl : i = 64 := by omega
      rw [e_Town_measure_56, am_gT g1, h64]
      try simp (config := {maxSteps := 1000000}) (disch := omega) only [nI_add, nI_1, am_mulN, nI_clamp, am_gI, am_ifd, am_ifn, am_asIe, am_asLe, nI_leI, nI_ltI, nI_eq, am_neg1, am_neg1b]
      rw [if_pos (by omega)]
      exact hR o
    | succ k ih =>
      intro i hi o
      rw [st m f i o hm (by omega)]
      exact ih (i + 1) (by omega) _
  have outer : ∀ f0 k m, 8 = m + k → ∀ o3 o4, am_V (d + 1) Q 79 48 [some (.ref a), some (.ref b), some (.int (nI m)), am_oi o3, am_oi o4] [] (am_hp N r (setrow I b (fl_out f0 m)) J) = Q .null (am_hp N r (setrow I b (fl_out f0 8)) J) := by
    intro f0 k
    induction k with
    | zero =>
      intro m hm o3 o4
      obtain rfl : m = 8 := by omega
      rw [e_Town_measure_48]
      try simp (config := {maxSteps := 1000000}) (disch := omega) only [nI_add, nI_1, am_mulN, nI_clamp, am_gI, am_ifd, am_ifn, am_asIe, am_asLe, nI_leI, nI_ltI, nI_eq, am_neg1, am_neg1b]
      rw [if_pos (by omega)]
    | succ k ih =>
      intro m hm o3 o4
      rw [e_Town_measure_48]
      try simp (config := {maxSteps := 1000000}) (disch := omega) only [nI_add, nI_1, am_mulN, nI_clamp, am_gI, am_ifd, am_ifn, am_asIe, am_asLe, nI_leI, nI_ltI, nI_eq, am_neg1, am_neg1b]
      rw [if_neg (by omega)]
      exact inner m (fl_out f0 m) _ (by omega) (fun o => ih (m + 1) (by omega) _ _) 64 0 (by omega) _
  have first : ∀ k i, 64 = i + k → am_V (d + 1) Q 79 2 [some (.ref a), some (.ref b), some (.int (nI i)), none, none] [] (am_hp N r (setrow I b (ms_0 (I a) (I b) i)) J) = Q .null (am_hp N r (setrow I b (fl_out (ms_0 (I a) (I b) 64) 8)) J) := by
    intro k
    induction k with
    | zero =>
      intro i hi
      obtain rfl : i = 64 := by omega
      rw [e_Town_measure_2, am_gT g1, h64]
      try simp (config := {maxSteps := 1000000}) (disch := omega) only [nI_add, nI_1, am_mulN, nI_clamp, am_gI, am_ifd, am_ifn, am_asIe, am_asLe, nI_leI, nI_ltI, nI_eq, am_neg1, am_neg1b]
      rw [if_pos (by omega)]
      exact outer (ms_0 (I a) (I b) 64) 8 0 (by omega) none none
    | succ k ih =>
      intro i hi
      obtain ⟨e1, e2⟩ := d8 i (by omega)
      have q := ih (i + 1) (by omega)
      rw [e_Town_measure_2, am_gT g1, ga, gw, e2, e1, h64, rb]
      try simp (config := {maxSteps := 1000000}) (disch := omega) only [nI_add, nI_1, am_mulN, nI_clamp, am_gI, am_ifd, am_ifn, am_asIe, am_asLe, nI_leI, nI_ltI, nI_eq, am_neg1, am_neg1b, sr_u]
      rw [if_neg (by omega)]
      by_cases c : i / 8 = i % 8
      · rw [if_pos c, ms_S (by unfold fl_i; rw [if_pos c])]
        exact q
      · rw [if_neg c]
        by_cases c2 : I a i ≤ nI 0
        · rw [if_pos c2, ms_S (by unfold fl_i; rw [if_neg c, if_pos c2])]
          exact q
        · rw [if_neg c2, ms_S (by unfold fl_i; rw [if_neg c, if_neg c2])]
          exact q
  have e0 : setrow I b (ms_0 (I a) (I b) 0) = I := by
    have : ms_0 (I a) (I b) 0 = I b := by funext k; unfold ms_0; rw [if_neg (by omega)]
    rw [this, sr_id]
  rw [e_Town_measure]
  have := first 64 0 (by omega)
  rw [e0] at this
  exact this
theorem ms_out {w f : Nat → Int32} {k : Nat} (hk : k < 64) : fl_out (ms_0 w f 64) 8 k = fl_out (fl_i w) 8 k :=
  fl_out_c (fun k hk => by unfold ms_0; rw [if_pos hk]) 8 (Nat.le_refl _) k hk
end
