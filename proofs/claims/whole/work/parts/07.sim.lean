/-! ===== the small machine's heap and the kit's: cells, what stays, locals ===== -/
/-- first address, addresses of what stays, a reference or null, array kinds, the tables' numbers -/
abbrev am_Z : Type := Nat × (Nat → Nat) × Value × (Nat → ClassId) × va_G
def am_aa (Z : am_Z) (k : Nat) : Nat := if k ≤ 140 then Z.1 + (k - 1) else Z.2.1 k
def am_tr (Z : am_Z) (k : Nat) : Value := if k = 0 then .null else if k = 2010 then Z.2.2.1 else .ref (am_aa Z k)
def am_t (Z : am_Z) : Value → Value
  | .ref k => am_tr Z k
  | v => v
def am_fd (Z : am_Z) (h : am_H) (a ci k : Nat) : Value := am_t Z (am_fv (am_ft ci k) h a k)
def am_cell (Z : am_Z) (h : am_H) (a : Nat) : va_E :=
  if am_kd h a = 1 then .inl (Z.2.2.2.1 0, am_len h a, .inl (h.2.2.1 a)) else if am_kd h a = 2 then .inl (Z.2.2.2.1 1, am_len h a, .inr (.inl (h.2.2.2.1 a)))
  else if am_kd h a = 3 then .inl (Z.2.2.2.1 2, am_len h a, .inl (h.2.2.1 a)) else if am_kd h a = 4 then .inl (Z.2.2.2.1 3, am_len h a, .inl (h.2.2.1 a))
  else .inr (am_kd h a - 10, (List.range (am_len h a)).map (am_fd Z h a (am_kd h a - 10)))
def am_ws (Z : am_Z) (h : am_H) : va_W := (List.range h.1).map fun k => (Z.1 + k, am_cell Z h (k + 1))
def am_tys (Z : am_Z) : List (ClassId × FieldType) := [(Z.2.2.2.1 0, .int), (Z.2.2.2.1 1, .long), (Z.2.2.2.1 2, .byte), (Z.2.2.2.1 3, .boolean)]
def am_wf (h : am_H) : Prop := h.1 ≤ 140 ∧ ∀ a, am_kd h a ≠ 0 → (1 ≤ a ∧ a ≤ h.1 ∧ (am_kd h a ≤ 4 ∨ (10 ≤ am_kd h a ∧ am_kd h a < 23 ∧ am_len h a = am_Nf (am_kd h a - 10)))) ∨ (141 ≤ a ∧ a ≠ 2010 ∧ (am_kd h a = 5 ∨ am_kd h a = 7 ∨ am_kd h a = 60))
def am_B (Z : am_Z) : Nat → Prop := fun q => Z.1 ≤ q
def am_Ar (Z : am_Z) (sz : Nat) : Nat → Prop := fun q => (Z.1 ≤ q ∧ q < Z.1 + 140) ∨ sz ≤ q
def am_RO (Z : am_Z) (h : am_H) (U : State) (H : Heap) : Prop :=
  (∀ a, am_kd h a = 5 → va_T .int (Z.2.1 a) (am_len h a) (fun j => .int (h.2.2.1 a j)) (am_B Z) U H) ∧
  (∀ a, am_kd h a = 7 → va_T .byte (Z.2.1 a) (am_len h a) (fun j => .int (h.2.2.1 a j)) (am_B Z) U H) ∧
  (∀ a, am_kd h a = 60 → (141 ≤ h.2.2.2.2 a 0 ∧ h.2.2.2.2 a 0 ≠ 2010) ∧ va_O "java/lang/String" (Z.2.1 a) (am_B Z) U H ∧ va_OF "java/lang/String" "value" "[B" (.ref (Z.2.1 (h.2.2.2.2 a 0))) (Z.2.1 a) (am_B Z) U H ∧ va_OF "java/lang/String" "coder" "B" (.int (h.2.2.1 a 1)) (Z.2.1 a) (am_B Z) U H) ∧
  va_Z "SleepPost$Laws" "SHIFTS" "[I" (.ref (Z.2.1 2001)) (am_B Z) U H ∧ va_Z "SleepPost$Laws" "MASKS" "[I" (.ref (Z.2.1 2002)) (am_B Z) U H ∧
  va_Z "java/lang/String" "COMPACT_STRINGS" "Z" (.int 1) (am_B Z) U H ∧ va_Z "jdk/internal/util/Preconditions" "SIOOBE_FORMATTER" "Ljava/util/function/BiFunction;" Z.2.2.1 (am_B Z) U H
def am_US (Z : am_Z) (U : State) : Prop := va_K Z.2.2.2.2 vwCl (am_tys Z) U ∧ (∀ q ∈ am_NL, va_Nw (.methodLinkNest (am_on q.1) q.2.1 (am_y q.2.2) "SleepPost") U) ∧ ∀ q ∈ am_KS, ∃ tx : String, vk_R (am_on q.1) q.2.1 tx (Z.2.1 q.2.2) U
def am_St (Z : am_Z) (h : am_H) (H : Heap) : Prop := am_wf h ∧ Z.1 + h.1 ≤ H.size ∧ va_P Z.2.2.2.2 vwCl (am_ws Z h) H
def am_sv (v : Value) : Bool := match v with
  | .int _ => true
  | .long _ => true
  | .ref _ => true
  | _ => false
def am_LR (Z : am_Z) (nL : Nat) (L : am_L) (ls : Array Slot) : Prop := L.length = nL ∧ ls.size = nL ∧ lv_wf ls ∧ ∀ i v, am_get L i = some v → am_sv v = true ∧ ls[i]? = some (.val (am_t Z v))
/-! cells -/
theorem am_aa_lo (Z : am_Z) {a : Nat} (h1 : 1 ≤ a) (h2 : a ≤ 140) : am_aa Z a = Z.1 + (a - 1) := by simp [am_aa, h2]
theorem am_aa_hi (Z : am_Z) {a : Nat} (h1 : 141 ≤ a) : am_aa Z a = Z.2.1 a := by
  have : ¬ a ≤ 140 := by omega
  simp [am_aa, this]
theorem am_t_ref (Z : am_Z) {a : Nat} (h1 : a ≠ 0) (h2 : a ≠ 2010) : am_t Z (.ref a) = .ref (am_aa Z a) := by simp [am_t, am_tr, h1, h2]
theorem am_ws_len (Z : am_Z) (h : am_H) : (am_ws Z h).length = h.1 := by simp [am_ws]
theorem am_ws_at (Z : am_Z) (h : am_H) {k : Nat} (hk : k < h.1) : (am_ws Z h)[k]? = some (Z.1 + k, am_cell Z h (k + 1)) := by
  simp [am_ws, List.getElem?_map, List.getElem?_range hk]
theorem am_ws_get (Z : am_Z) (h : am_H) {a : Nat} (h1 : 1 ≤ a) (h2 : a ≤ h.1) (h3 : h.1 ≤ 140) : (am_ws Z h)[a - 1]? = some (am_aa Z a, am_cell Z h a) := by
  rw [am_ws_at Z h (by omega), am_aa_lo Z h1 (by omega)]
  rw [show a - 1 + 1 = a by omega]
theorem am_ws_D (Z : am_Z) {h : am_H} (h3 : h.1 ≤ 140) (sz : Nat) : va_D (am_Ar Z sz) (am_ws Z h) := by
  refine ⟨fun i j p q hi hj e => ?_, fun k q hk => ?_⟩
  · have li : i < h.1 := by rw [← am_ws_len Z h]; exact (List.getElem?_eq_some_iff.mp hi).1
    have lj : j < h.1 := by rw [← am_ws_len Z h]; exact (List.getElem?_eq_some_iff.mp hj).1
    rw [am_ws_at Z h li] at hi
    rw [am_ws_at Z h lj] at hj
    cases hi; cases hj
    simp only at e
    omega
  · have lk : k < h.1 := by rw [← am_ws_len Z h]; exact (List.getElem?_eq_some_iff.mp hk).1
    rw [am_ws_at Z h lk] at hk
    cases hk
    exact Or.inl ⟨by simp, by simp only; omega⟩
/-- a changed cell -/
theorem am_ws_set (Z : am_Z) {h h' : am_H} {a : Nat} (h1 : 1 ≤ a) (h2 : a ≤ h.1) (h3 : h.1 ≤ 140) (hn : h'.1 = h.1) (ho : ∀ b, b ≠ a → am_cell Z h' b = am_cell Z h b) : am_ws Z h' = (am_ws Z h).set (a - 1) (am_aa Z a, am_cell Z h' a) := by
  apply List.ext_getElem?
  intro k
  by_cases hk : k < h.1
  · rw [am_ws_at Z h' (by omega)]
    by_cases hka : k = a - 1
    · subst hka
      rw [List.getElem?_set_self (by rw [am_ws_len]; omega), am_aa_lo Z h1 (by omega), show a - 1 + 1 = a by omega]
    · rw [List.getElem?_set_ne (by omega), am_ws_at Z h hk, ho _ (by omega)]
  · rw [List.getElem?_eq_none (by rw [am_ws_len]; omega), List.getElem?_eq_none (by rw [List.length_set, am_ws_len]; omega)]
theorem am_cell_1 (Z : am_Z) {h : am_H} {a : Nat} (e : am_kd h a = 1) : am_cell Z h a = .inl (Z.2.2.2.1 0, am_len h a, .inl (h.2.2.1 a)) := by simp [am_cell, e]
theorem am_cell_2 (Z : am_Z) {h : am_H} {a : Nat} (e : am_kd h a = 2) : am_cell Z h a = .inl (Z.2.2.2.1 1, am_len h a, .inr (.inl (h.2.2.2.1 a))) := by simp [am_cell, e]
theorem am_cell_3 (Z : am_Z) {h : am_H} {a : Nat} (e : am_kd h a = 3) : am_cell Z h a = .inl (Z.2.2.2.1 2, am_len h a, .inl (h.2.2.1 a)) := by simp [am_cell, e]
theorem am_cell_4 (Z : am_Z) {h : am_H} {a : Nat} (e : am_kd h a = 4) : am_cell Z h a = .inl (Z.2.2.2.1 3, am_len h a, .inl (h.2.2.1 a)) := by simp [am_cell, e]
theorem am_cell_o (Z : am_Z) {h : am_H} {a ci : Nat} (e : am_kd h a = 10 + ci) : am_cell Z h a = .inr (ci, (List.range (am_len h a)).map (am_fd Z h a ci)) := by
  simp only [am_cell, e]
  rw [if_neg (by omega), if_neg (by omega), if_neg (by omega), if_neg (by omega), show 10 + ci - 10 = ci by omega]
theorem am_wf_rw {h : am_H} (w : am_wf h) {a : Nat} (h0 : am_kd h a ≠ 0) (h5 : am_kd h a ≠ 5) (h7 : am_kd h a ≠ 7) (h60 : am_kd h a ≠ 60) : 1 ≤ a ∧ a ≤ h.1 ∧ a ≤ 140 := by
  rcases w.2 a h0 with ⟨p, q, -⟩ | ⟨p, -, q⟩
  · exact ⟨p, q, by have := w.1; omega⟩
  · omega
theorem am_wf_ro {h : am_H} (w : am_wf h) {a : Nat} (e : am_kd h a = 5 ∨ am_kd h a = 7 ∨ am_kd h a = 60) : 141 ≤ a ∧ a ≠ 2010 := by
  rcases w.2 a (by omega) with ⟨-, -, q⟩ | ⟨p, q, -⟩
  · omega
  · exact ⟨p, q⟩
/-! what stays -/
theorem am_RO_move {Z : am_Z} {h : am_H} {u U : State} {H H1 : Heap} (hvm : u.vm.Alike U.vm) (hq : ∀ q : Nat, q < Z.1 → H1[q]? = H[q]?) (r : am_RO Z h u H) : am_RO Z h U H1 := by
  have hk : ∀ a : Nat, a < H.size → ¬ am_B Z a → H1[a]? = H[a]? := fun a _ n => hq a (by unfold am_B at n; omega)
  obtain ⟨r1, r2, r3, r4, r5, r6, r7⟩ := r
  exact ⟨fun a e => ((r1 a e).moved hvm).kept hk, fun a e => ((r2 a e).moved hvm).kept hk, fun a e => ⟨(r3 a e).1, ((r3 a e).2.1.moved hvm).kept hk, ((r3 a e).2.2.1.moved hvm).kept hk, ((r3 a e).2.2.2.moved hvm).kept hk⟩, (r4.moved hvm).kept hk, (r5.moved hvm).kept hk, (r6.moved hvm).kept hk, (r7.moved hvm).kept hk⟩
/-- another heap that is the same from 141 on -/
theorem am_RO_same {Z : am_Z} {h h' : am_H} {U : State} {H : Heap} (hT : ∀ a, 141 ≤ a → h'.2.1 a = h.2.1 a) (hT2 : ∀ a, am_kd h' a = 5 ∨ am_kd h' a = 7 ∨ am_kd h' a = 60 → 141 ≤ a) (hI : ∀ a k, 141 ≤ a → h'.2.2.1 a k = h.2.2.1 a k) (hR : ∀ a k, 141 ≤ a → h'.2.2.2.2 a k = h.2.2.2.2 a k) (r : am_RO Z h U H) : am_RO Z h' U H := by
  obtain ⟨r1, r2, r3, r4, r5, r6, r7⟩ := r
  have kd : ∀ a, 141 ≤ a → am_kd h' a = am_kd h a := fun a ha => by unfold am_kd; rw [hT a ha]
  have ln : ∀ a, 141 ≤ a → am_len h' a = am_len h a := fun a ha => by unfold am_len; rw [hT a ha]
  refine ⟨fun a e => ?_, fun a e => ?_, fun a e => ?_, r4, r5, r6, r7⟩
  · have ha := hT2 a (Or.inl e)
    have := r1 a (by rw [← kd a ha]; exact e)
    rw [ln a ha]
    simpa only [hI a _ ha] using this
  · have ha := hT2 a (Or.inr (Or.inl e))
    have := r2 a (by rw [← kd a ha]; exact e)
    rw [ln a ha]
    simpa only [hI a _ ha] using this
  · have ha := hT2 a (Or.inr (Or.inr e))
    have := r3 a (by rw [← kd a ha]; exact e)
    rw [hR a 0 ha, hI a 1 ha]
    exact this
theorem am_US_warm {Z : am_Z} {s U : State} (hW : s.WarmedH U.vm) (h : am_US Z s) : am_US Z U :=
  ⟨va_K.moved hW.alike h.1, fun q hq => va_Nw.warmM hW (h.2.1 q hq), fun q hq => (h.2.2 q hq).imp fun _ k => k.warm hW⟩
theorem am_Ar_sub {Z : am_Z} {a b : Nat} (h : a ≤ b) {q : Nat} (k : am_Ar Z b q) : am_Ar Z a q := by
  rcases k with k | k
  · exact Or.inl k
  · exact Or.inr (Nat.le_trans h k)
theorem am_B_of {Z : am_Z} {sz q : Nat} (h : Z.1 ≤ sz) (k : am_Ar Z sz q) : am_B Z q := by
  rcases k with k | k
  · exact k.1
  · exact Nat.le_trans h k
/-! locals -/
theorem am_nth_put (L : am_L) (k : Nat) (x : Option Value) (j : Nat) : am_nth (am_put L k x) j = if j = k ∧ k < L.length then some x else am_nth L j := by
  induction L generalizing k j with
  | nil => simp [am_put, am_nth]
  | cons y L ih =>
    cases k with
    | zero => cases j <;> simp [am_put, am_nth]
    | succ k =>
      cases j with
      | zero => simp [am_put, am_nth]
      | succ j => simp [am_put, am_nth, ih]
theorem am_len_put (L : am_L) (k : Nat) (x : Option Value) : (am_put L k x).length = L.length := by
  induction L generalizing k with
  | nil => rfl
  | cons y L ih => cases k <;> simp [am_put, ih]
theorem am_get_put (L : am_L) (k : Nat) (x : Option Value) (j : Nat) : am_get (am_put L k x) j = if j = k ∧ k < L.length then x else am_get L j := by
  unfold am_get
  rw [am_nth_put]
  by_cases h : j = k ∧ k < L.length
  · rw [if_pos h, if_pos h]
    cases x <;> rfl
  · rw [if_neg h, if_neg h]
theorem am_len_cp (L : am_L) (k : Nat) : (am_cp L k).length = L.length := by
  unfold am_cp
  split
  · rfl
  · split
    · exact am_len_put _ _ _
    · rfl
theorem am_get_cp {L : am_L} {k j : Nat} {v : Value} (hs : am_sv v = true) (h : am_get (am_cp L k) j = some v) : am_get L j = some v ∧ ¬ (j + 1 = k ∧ v.category = 2) := by
  unfold am_cp at h
  split at h
  · exact ⟨h, by omega⟩
  · next k =>
    split at h
    · next x hx =>
      rw [am_get_put] at h
      split at h
      · cases h
      · next hn =>
        refine ⟨h, fun ⟨e, _⟩ => hn ⟨by omega, ?_⟩⟩
        have : j = k := by omega
        subst this
        rcases Nat.lt_or_ge j L.length with q | q
        · exact q
        · have hz : ∀ (L : am_L) (j : Nat), L.length ≤ j → am_nth L j = none := by
            intro L
            induction L with
            | nil => intros; rfl
            | cons y L ih =>
              intro j hj
              cases j with
              | zero => simp at hj
              | succ j => exact ih j (by simpa using hj)
          simp [am_get, hz L j q] at h
    · next hx =>
      refine ⟨h, fun ⟨e, hc⟩ => ?_⟩
      have : j = k := by omega
      subst this
      cases v with
      | long x => exact hx x h
      | double x => cases hs
      | _ => simp [Value.category] at hc
theorem am_t_cat {Z : am_Z} (hnv : Z.2.2.1.category = 1) {v : Value} (h : am_sv v = true) : (am_t Z v).category = v.category := by
  cases v with
  | ref k =>
    simp only [am_t, am_tr]
    split
    · rfl
    · split
      · exact hnv
      · rfl
  | _ => first | rfl | cases h
/-- the list of locals that the kit's rows take -/
def am_lv (Z : am_Z) (L : am_L) : List (Nat × Value) := (List.range L.length).filterMap fun i => (am_get L i).map fun v => (i, am_t Z v)
theorem am_get_lt {L : am_L} {j : Nat} {v : Value} (h : am_get L j = some v) : j < L.length := by
  induction L generalizing j with
  | nil => cases h
  | cons y L ih =>
    cases j with
    | zero => simp
    | succ j => have := ih (j := j) h; simpa using this
theorem am_lv_mem {Z : am_Z} {L : am_L} {i : Nat} {v : Value} (h : am_get L i = some v) : (i, am_t Z v) ∈ am_lv Z L :=
  List.mem_filterMap.mpr ⟨i, List.mem_range.mpr (am_get_lt h), by rw [h]; rfl⟩
theorem am_LR_has {Z : am_Z} {nL : Nat} {L : am_L} {ls : Array Slot} (h : am_LR Z nL L ls) : lv_has ls nL (am_lv Z L) := by
  refine ⟨h.2.1, h.2.2.1, fun q hq => ?_⟩
  obtain ⟨i, -, hi⟩ := List.mem_filterMap.mp hq
  cases hg : am_get L i with
  | none => rw [hg] at hi; cases hi
  | some v =>
    rw [hg] at hi
    cases hi
    exact (h.2.2.2 i v hg).2
theorem am_LR_at {Z : am_Z} {nL : Nat} {L : am_L} {ls : Array Slot} (h : am_LR Z nL L ls) {i : Nat} {v : Value} (hg : am_get L i = some v) : ls[i]? = some (.val (am_t Z v)) := (h.2.2.2 i v hg).2
theorem am_LR_st1 {Z : am_Z} (hnv : Z.2.2.1.category = 1) {nL : Nat} {L : am_L} {ls ls' : Array Slot} (h : am_LR Z nL L ls) {i : Nat} (hi : i < nL) {v : Value} (hv : am_sv v = true)
    (h' : lv_has ls' nL ((i, am_t Z v) :: (am_lv Z L).filter (fun q => !(q.1 == i) && !(q.1 + 1 == i && q.2.category == 2)))) : am_LR Z nL (am_st1 L i v) ls' := by
  refine ⟨by rw [am_st1, am_len_put, am_len_cp]; exact h.1, h'.1, h'.2.1, fun j w hw => ?_⟩
  rw [am_st1, am_get_put, am_len_cp] at hw
  by_cases e : j = i ∧ i < L.length
  · rw [if_pos e] at hw
    cases hw
    rw [e.1]
    exact ⟨hv, h'.2.2 (i, am_t Z v) List.mem_cons_self⟩
  · rw [if_neg e] at hw
    have hji : j ≠ i := fun q => e ⟨q, by rw [h.1]; exact hi⟩
    have hsv : am_sv w = true := by
      have : am_get L j = some w := by
        unfold am_cp at hw
        split at hw
        · exact hw
        · split at hw
          · rw [am_get_put] at hw
            split at hw
            · cases hw
            · exact hw
          · exact hw
      exact (h.2.2.2 j w this).1
    obtain ⟨g, n⟩ := am_get_cp hsv hw
    refine ⟨hsv, h'.2.2 (j, am_t Z w) (List.mem_cons_of_mem _ (List.mem_filter.mpr ⟨am_lv_mem g, ?_⟩))⟩
    have hc := am_t_cat hnv hsv
    simp only [hc]
    by_cases q : j + 1 = i
    · have : ¬ w.category = 2 := fun c => n ⟨q, c⟩
      simp [hji, this]
    · simp [hji, q]
theorem am_LR_st2 {Z : am_Z} (hnv : Z.2.2.1.category = 1) {nL : Nat} {L : am_L} {ls ls' : Array Slot} (h : am_LR Z nL L ls) {i : Nat} (hi : i + 1 < nL) {v : Value} (hv : am_sv v = true)
    (h' : lv_has ls' nL ((i, am_t Z v) :: (am_lv Z L).filter (fun q => !(q.1 == i) && (!(q.1 == i + 1) && !(q.1 + 1 == i && q.2.category == 2))))) : am_LR Z nL (am_st2 L i v) ls' := by
  refine ⟨by rw [am_st2, am_len_put, am_len_put, am_len_cp]; exact h.1, h'.1, h'.2.1, fun j w hw => ?_⟩
  rw [am_st2, am_get_put, am_len_put, am_len_cp] at hw
  by_cases e1 : j = i + 1 ∧ i + 1 < L.length
  · rw [if_pos e1] at hw
    cases hw
  · rw [if_neg e1] at hw
    have hj1 : j ≠ i + 1 := fun q => e1 ⟨q, by rw [h.1]; exact hi⟩
    rw [am_get_put, am_len_cp] at hw
    by_cases e : j = i ∧ i < L.length
    · rw [if_pos e] at hw
      cases hw
      rw [e.1]
      exact ⟨hv, h'.2.2 (i, am_t Z v) List.mem_cons_self⟩
    · rw [if_neg e] at hw
      have hji : j ≠ i := fun q => e ⟨q, by rw [h.1]; omega⟩
      have hsv : am_sv w = true := by
        have : am_get L j = some w := by
          unfold am_cp at hw
          split at hw
          · exact hw
          · split at hw
            · rw [am_get_put] at hw
              split at hw
              · cases hw
              · exact hw
            · exact hw
        exact (h.2.2.2 j w this).1
      obtain ⟨g, n⟩ := am_get_cp hsv hw
      refine ⟨hsv, h'.2.2 (j, am_t Z w) (List.mem_cons_of_mem _ (List.mem_filter.mpr ⟨am_lv_mem g, ?_⟩))⟩
      have hc := am_t_cat hnv hsv
      simp only [hc]
      by_cases q : j + 1 = i
      · have : ¬ w.category = 2 := fun c => n ⟨q, c⟩
        simp [hji, hj1, this]
      · simp [hji, hj1, q]
/-- the heap behind a store -/
theorem am_wf_same {h h' : am_H} (w : am_wf h) (h1 : h'.1 = h.1) (hT : h'.2.1 = h.2.1) : am_wf h' := by
  refine ⟨by rw [h1]; exact w.1, fun a e => ?_⟩
  unfold am_kd am_len at *
  rw [hT] at e ⊢
  rw [h1]
  exact w.2 a e
theorem am_cell_wI_ne (Z : am_Z) (h : am_H) {a b k : Nat} {v : Int32} (e : b ≠ a) : am_cell Z (am_wI h a k v) b = am_cell Z h b := by
  have hI : am_u h.2.2.1 a k v b = h.2.2.1 b := by funext j; simp [am_u, e]
  have hf : ∀ ci, am_fd Z (am_wI h a k v) b ci = am_fd Z h b ci := by
    intro ci; funext j
    unfold am_fd am_fv am_wI
    simp only [hI]
  simp only [am_cell, hf]
  simp only [am_wI, am_kd, am_len, hI]
  rfl
theorem am_cell_wJ_ne (Z : am_Z) (h : am_H) {a b k : Nat} {v : Int64} (e : b ≠ a) : am_cell Z (am_wJ h a k v) b = am_cell Z h b := by
  have hI : am_uJ h.2.2.2.1 a k v b = h.2.2.2.1 b := by funext j; simp [am_uJ, e]
  have hf : ∀ ci, am_fd Z (am_wJ h a k v) b ci = am_fd Z h b ci := by
    intro ci; funext j
    unfold am_fd am_fv am_wJ
    simp only [hI]
  simp only [am_cell, hf]
  simp only [am_wJ, am_kd, am_len, hI]
  rfl
theorem am_bne {a b : Nat} (e : b ≠ a) : Nat.beq b a = false := by
  cases h : Nat.beq b a with
  | false => rfl
  | true => exact absurd (Nat.eq_of_beq_eq_true h) e
theorem am_uR_ne (R : Nat → Nat → Nat) {a b k : Nat} {v : Nat} (e : b ≠ a) (j : Nat) : am_uR R a k v b j = R b j := by
  simp only [am_uR, am_bne e]; rfl
theorem am_cell_wR_ne (Z : am_Z) (h : am_H) {a b k : Nat} {v : Nat} (e : b ≠ a) : am_cell Z (am_wR h a k v) b = am_cell Z h b := by
  have hf : ∀ ci, am_fd Z (am_wR h a k v) b ci = am_fd Z h b ci := by
    intro ci; funext j
    unfold am_fd am_fv am_wR
    simp only [am_uR_ne h.2.2.2.2 e]
  simp only [am_cell, hf]
  simp only [am_wR, am_kd, am_len]
  rfl
