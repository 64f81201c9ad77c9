/-! ===== a run of the small machine is a run of the kit's machine ===== -/
theorem am_i_of {st : List Value} {f : Int32 → List Value → Prop} (h : am_i st f) : ∃ x r, st = .int x :: r ∧ f x r := by
  unfold am_i at h; split at h
  · exact ⟨_, _, rfl, h⟩
  · exact h.elim
theorem am_l_of {st : List Value} {f : Int64 → List Value → Prop} (h : am_l st f) : ∃ x r, st = .long x :: r ∧ f x r := by
  unfold am_l at h; split at h
  · exact ⟨_, _, rfl, h⟩
  · exact h.elim
theorem am_r_of {st : List Value} {f : Nat → List Value → Prop} (h : am_r st f) : ∃ x r, st = .ref x :: r ∧ f x r := by
  unfold am_r at h; split at h
  · exact ⟨_, _, rfl, h⟩
  · exact h.elim
theorem am_ii_of {st : List Value} {f : Int32 → Int32 → List Value → Prop} (h : am_ii st f) : ∃ x y r, st = .int y :: .int x :: r ∧ f x y r := by
  unfold am_ii at h; split at h
  · exact ⟨_, _, _, rfl, h⟩
  · exact h.elim
theorem am_ll_of {st : List Value} {f : Int64 → Int64 → List Value → Prop} (h : am_ll st f) : ∃ x y r, st = .long y :: .long x :: r ∧ f x y r := by
  unfold am_ll at h; split at h
  · exact ⟨_, _, _, rfl, h⟩
  · exact h.elim
theorem am_ri_of {st : List Value} {f : Nat → Int32 → List Value → Prop} (h : am_ri st f) : ∃ a i r, st = .int i :: .ref a :: r ∧ f a i r := by
  unfold am_ri at h; split at h
  · exact ⟨_, _, _, rfl, h⟩
  · exact h.elim
theorem am_rii_of {st : List Value} {f : Nat → Int32 → Int32 → List Value → Prop} (h : am_rii st f) : ∃ a i x r, st = .int x :: .int i :: .ref a :: r ∧ f a i x r := by
  unfold am_rii at h; split at h
  · exact ⟨_, _, _, _, rfl, h⟩
  · exact h.elim
theorem am_ril_of {st : List Value} {f : Nat → Int32 → Int64 → List Value → Prop} (h : am_ril st f) : ∃ a i x r, st = .long x :: .int i :: .ref a :: r ∧ f a i x r := by
  unfold am_ril at h; split at h
  · exact ⟨_, _, _, _, rfl, h⟩
  · exact h.elim
theorem am_asI_of {v : Value} {f : Int32 → Prop} (h : am_asI v f) : ∃ x, v = .int x ∧ f x := by
  unfold am_asI at h; split at h
  · exact ⟨_, rfl, h⟩
  · exact h.elim
theorem am_asL_of {v : Value} {f : Int64 → Prop} (h : am_asL v f) : ∃ x, v = .long x ∧ f x := by
  unfold am_asL at h; split at h
  · exact ⟨_, rfl, h⟩
  · exact h.elim
theorem am_g_of {b : Bool} {p : Prop} (h : am_g b p) : b = true ∧ p := by cases b <;> simp_all [am_g]
theorem am_if_of {b : Bool} {p q : Prop} (h : am_if b p q) : (b = true → p) ∧ (b = false → q) := by cases b <;> simp_all [am_if]
theorem am_inb_of {i : Int32} {n : Nat} (h : am_inb i n = true) : vp_in i n := by
  unfold am_inb at h
  simp only [Bool.and_eq_true, Bool.not_eq_true', decide_eq_false_iff_not] at h
  have h2 : i.toNatClampNeg < n := Nat.le_of_ble_eq_true h.2
  rintro (q | q)
  · exact h.1 q
  · omega
theorem am_pop_of : ∀ (n : Nat) (acc st As r : List Value), am_pop n acc st = some (As, r) → ∃ bs : List Value, st = bs ++ r ∧ As = bs.reverse ++ acc ∧ bs.length = n
  | 0, acc, st, As, r, h => by cases h; exact ⟨[], rfl, rfl, rfl⟩
  | n + 1, acc, [], As, r, h => by cases h
  | n + 1, acc, v :: st, As, r, h => by
    obtain ⟨bs, h1, h2, h3⟩ := am_pop_of n (v :: acc) st As r h
    exact ⟨v :: bs, by rw [h1]; rfl, by rw [h2]; simp, by simp [h3]⟩
theorem am_arg_of {n : Nat} {st : List Value} {f : List Value → List Value → Prop} (h : am_arg n st f) : ∃ As r, st = As.reverse ++ r ∧ As.length = n ∧ f As r := by
  unfold am_arg at h
  split at h
  · next As r e =>
    obtain ⟨bs, h1, h2, h3⟩ := am_pop_of _ _ _ _ _ e
    rw [List.append_nil] at h2
    subst h2
    exact ⟨_, _, by rw [List.reverse_reverse]; exact h1, by rw [List.length_reverse]; exact h3, h⟩
  · exact h.elim
theorem am_seek_of : ∀ (l : List am_W) (pc : Nat) (r : am_W) (rs : List am_W), am_seek l pc = r :: rs → r.1 = pc ∧ ∃ pre, l = pre ++ (r :: rs)
  | [], pc, r, rs, h => by cases h
  | q :: l, pc, r, rs, h => by
    unfold am_seek at h
    cases hb : Nat.beq q.1 pc with
    | true =>
      rw [hb] at h
      cases h
      exact ⟨Nat.eq_of_beq_eq_true hb, [], rfl⟩
    | false =>
      rw [hb] at h
      obtain ⟨h1, pre, h2⟩ := am_seek_of l pc r rs h
      exact ⟨h1, q :: pre, by rw [h2]; rfl⟩
theorem am_ch_of : ∀ (pre : List am_W) (r q : am_W) (rs : List am_W), am_ch (pre ++ r :: q :: rs) = true → r.1 + r.2.2.1 = q.1
  | [], r, q, rs, h => by
    simp only [List.nil_append, am_ch, Bool.and_eq_true] at h
    exact Nat.eq_of_beq_eq_true h.1
  | x :: pre, r, q, rs, h => by
    simp only [List.cons_append, am_ch, Bool.and_eq_true] at h
    exact am_ch_of pre r q rs h.2
theorem am_h3_of {l : List (Nat × Nat × Nat)} {a b c : Nat} (h : am_h3 l a b c = true) : (a, b, c) ∈ l := by
  unfold am_h3 at h
  obtain ⟨⟨x, y, z⟩, hq, e⟩ := List.any_eq_true.mp h
  simp only [Bool.and_eq_true] at e
  rw [← Nat.eq_of_beq_eq_true e.1, ← Nat.eq_of_beq_eq_true e.2.1, ← Nat.eq_of_beq_eq_true e.2.2]
  exact hq
theorem am_h4_of {l : List (Nat × Nat × Nat × Nat)} {a b c d : Nat} (h : am_h4 l a b c d = true) : (a, b, c, d) ∈ l := by
  unfold am_h4 at h
  obtain ⟨⟨x, y, z, w⟩, hq, e⟩ := List.any_eq_true.mp h
  simp only [Bool.and_eq_true] at e
  rw [← Nat.eq_of_beq_eq_true e.1, ← Nat.eq_of_beq_eq_true e.2.1, ← Nat.eq_of_beq_eq_true e.2.2.1, ← Nat.eq_of_beq_eq_true e.2.2.2]
  exact hq
theorem am_h1_of {l : List Nat} {a : Nat} (h : am_h1 l a = true) : a ∈ l := by
  unfold am_h1 at h
  obtain ⟨x, hq, e⟩ := List.any_eq_true.mp h
  rw [← Nat.eq_of_beq_eq_true e]
  exact hq
/-! words -/
theorem am_in1_fl {q : Nat × Nat × Nat × Nat} (h : q ∈ am_FL) : Cond.fieldLink (am_on q.1) q.2.1 (am_Tf q.2.2.1 q.2.2.2).1 (am_Tf q.2.2.1 q.2.2.2).2.1 (am_Tf q.2.2.1 q.2.2.2).2.2.1 ∈ am_AT := am_in_fl (List.mem_map_of_mem h)
theorem am_in1_ml {q : Nat × Nat × Nat} (h : q ∈ am_ML) : Cond.methodLink (am_on q.1) q.2.1 (am_y q.2.2) ∈ am_AT := am_in_ml (List.mem_map_of_mem h)
theorem am_in1_ck {q : Nat × Nat × Nat} (h : q ∈ am_CK) : Cond.classLink (am_on q.1) q.2.1 (am_on q.2.2) ∈ am_AT := am_in_ck (List.mem_map_of_mem h)
theorem am_in1_kc {q : Nat × Nat × Nat} (h : q ∈ am_KC) : Cond.constant (am_on q.1) q.2.1 (Int32.ofNat q.2.2) ∈ am_AT := am_in_kc (List.mem_map_of_mem h)
theorem am_in1_kl {q : Nat × Nat × Nat} (h : q ∈ am_KL) : Cond.constantLong (am_on q.1) q.2.1 (Int64.ofNat q.2.2) ∈ am_AT := am_in_kl (List.mem_map_of_mem h)
