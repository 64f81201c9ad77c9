/-! ===== L3: the model's E, 1 ===== -/
def mwU (I : Nat → Nat → Int32) (st : Nat) : List Nat → Prop
  | [] => True
  | x :: R => (I 114 (64 + (st + R.length)) = nI (cso x) ∧ I 115 (64 + (st + R.length)) = nI (cva x)) ∧ mwU I st R
def exM (st kn op : Nat) (R : List Nat) (I : Nat → Nat → Int32) : Prop := I 93 35 = nI op ∧ I 93 36 = nI kn ∧ I 95 13 = nI (st + R.length) ∧ mwU I st R
def frE (st : Nat) (I I' : Nat → Nat → Int32) : Prop := (∀ a, a ≠ 93 → a ≠ 95 → a ≠ 114 → a ≠ 115 → I' a = I a) ∧ (∀ k, k ≠ 13 → I' 95 k = I 95 k) ∧ (∀ k, k < 64 + st → I' 114 k = I 114 k ∧ I' 115 k = I 115 k) ∧ (∀ k, k ≠ 35 → k ≠ 36 → I' 93 k = I 93 k)
theorem frE_re {st : Nat} {I : Nat → Nat → Int32} : frE st I I := ⟨fun _ _ _ _ _ => rfl, fun _ _ => rfl, fun _ _ => ⟨rfl, rfl⟩, fun _ _ _ => rfl⟩
theorem frE_tr {st : Nat} {I I' I'' : Nat → Nat → Int32} (h : frE st I I') (k : frE st I' I'') : frE st I I'' := ⟨fun a h1 h2 h3 h4 => (k.1 a h1 h2 h3 h4).trans (h.1 a h1 h2 h3 h4), fun j hj => (k.2.1 j hj).trans (h.2.1 j hj), fun j hj => ⟨(k.2.2.1 j hj).1.trans (h.2.2.1 j hj).1, (k.2.2.1 j hj).2.trans (h.2.2.1 j hj).2⟩, fun j h1 h2 => (k.2.2.2 j h1 h2).trans (h.2.2.2 j h1 h2)⟩
theorem frE_frm {st : Nat} {I I' : Nat → Nat → Int32} (h : frE st I I') : frm I I' := by
  refine ⟨fun a h1 h2 => h.1 a h1 (by omega) (by omega) (by omega), fun a k h1 h2 h3 => ?_, fun k hk => h.2.2.2 k (by omega) (by omega)⟩
  by_cases e95 : a = 95
  · subst e95
    have h3' : k < 7 := h3
    exact h.2.1 k (by omega)
  · by_cases e14 : a = 114
    · subst e14
      have h3' : k < 64 := h3
      exact (h.2.2.1 k (by omega)).1
    · by_cases e15 : a = 115
      · subst e15
        have h3' : k < 64 := h3
        exact (h.2.2.1 k (by omega)).2
      · rw [h.1 a (by omega) e95 e14 e15]
/-- signs that wait, written -/
def apd : List Nat → List Nat → List Nat
  | [], R => R
  | k :: s, R => apd s ((10000 + k) :: R)
theorem apd_app {k : Nat} : ∀ {s R : List Nat}, apd (s ++ [k]) R = (10000 + k) :: apd s R
  | [], R => rfl
  | j :: s, R => by
    show apd (s ++ [k]) ((10000 + j) :: R) = (10000 + k) :: apd s ((10000 + j) :: R)
    exact apd_app
theorem apd_len : ∀ {s R : List Nat}, (apd s R).length = R.length + s.length
  | [], R => rfl
  | j :: s, R => by
    show (apd s ((10000 + j) :: R)).length = R.length + (s.length + 1)
    rw [apd_len]
    show R.length + 1 + s.length = _
    omega
/-- what stands on top binds less -/
def hdw (b : Nat) : List Nat → Prop
  | [] => True
  | k :: _ => k = 28 ∨ bnd k < b
theorem hdw_le {b c : Nat} (h : b ≤ c) : ∀ {w : List Nat}, hdw b w → hdw c w
  | [], _ => trivial
  | k :: w, g => by
    rcases g with g | g
    · exact Or.inl g
    · exact Or.inr (Nat.lt_of_lt_of_le g h)
theorem stl_app {b : Nat} : ∀ {s w R : List Nat}, (∀ k ∈ s, k ≠ 28 ∧ b ≤ bnd k) → hdw b w → stl b (s ++ w) R = (w, apd s R)
  | [], [], R, _, _ => rfl
  | [], k :: w, R, _, h => by
    show stl b (k :: w) R = (k :: w, R)
    unfold stl
    rw [if_pos (show k = 28 ∨ bnd k < b from h)]
  | j :: s, w, R, hs, h => by
    show stl b (j :: (s ++ w)) R = (w, apd s ((10000 + j) :: R))
    have hj := hs j (List.mem_cons_self ..)
    unfold stl
    rw [if_neg (by omega)]
    exact stl_app (fun k hk => hs k (List.mem_cons_of_mem _ hk)) h
theorem opc_app : ∀ {s w : List Nat}, (∀ k ∈ s, k ≠ 28) → opc (s ++ w) = s.length + opc w
  | [], w, _ => by show opc w = 0 + opc w; omega
  | j :: s, w, h => by
    show (if j = 28 then 0 else 1) + opc (s ++ w) = s.length + 1 + opc w
    rw [if_neg (h j (List.mem_cons_self ..)), opc_app (fun k hk => h k (List.mem_cons_of_mem _ hk))]
    omega
section
variable {I I' : Nat → Nat → Int32} {st kn op : Nat} {R : List Nat}
theorem mwU_c (h : ∀ k, k < 64 + (st + R.length) → I' 114 k = I 114 k ∧ I' 115 k = I 115 k) (k : mwU I st R) : mwU I' st R := by
  induction R with
  | nil => trivial
  | cons x R ih =>
    have h1 := h (64 + (st + R.length)) (by show _ < 64 + (st + (R.length + 1)); omega)
    exact ⟨⟨h1.1.trans k.1.1, h1.2.trans k.1.2⟩, ih (fun j hj => h j (by show _ < 64 + (st + (R.length + 1)); omega)) k.2⟩
end
section
variable {d N : Nat} {Q : Value → am_H → Prop} {r : am_rho} {I : Nat → Nat → Int32} {J : Nat → Nat → Int64} {n : Nat} {T : Nat → Nat} {v : Int32} {o : Nat × Nat} {st kn op : Nat} {R : List Nat}
theorem md_puts0 {x y : Int32} (hf : o.1 ≠ 0) (h9 : o.1 ≤ 9) : am_D (d + 3) 187 [.ref 93, .int x, .int y] (am_hp N r (mS I n T o v) J) Q = Q .null (am_hp N r (mS I n T o v) J) := by
  rw [e_M_puts, mS_31, am_ifi (nI_eq (by omega) (by omega)), if_neg hf]
theorem md_puts {q x : Nat} (hM : exM st kn op R I) (h64 : st + R.length < 64) (hQ : ∀ I', exM st kn op (x :: R) I' → frE st I I' → Q .null (am_hp N r (mS I' n T (0, q) v) J)) : am_D (d + 3) 187 [.ref 93, .int (nI (cso x)), .int (nI (cva x))] (am_hp N r (mS I n T (0, q) v) J) Q := by
  obtain ⟨m1, m2, m3, m4⟩ := hM
  rw [e_M_puts, mS_31, am_ifi (nI_eq (by omega) (by omega)), if_pos rfl, md_fresher (by omega), am_asIe, e_M_puts_20, show 7 + 6 = 13 from rfl, m3, nI_add, am_gI (by omega) (by omega), nI_clamp (by omega), mS_u (by omega), md_fresher (by omega), am_asIe, e_M_puts_35, am_uN (by omega), show 7 + 6 = 13 from rfl, m3, nI_add, am_gI (by omega) (by omega), nI_clamp (by omega), mS_u (by omega), md_fresher (by omega), am_asIe, e_M_puts_47, am_uN (by omega), am_uN (by omega), show 7 + 6 = 13 from rfl, m3, nI_add, md_reads (by omega), e_M_puts_52]
  refine hQ _ ⟨?_, ?_, ?_, ⟨⟨?_, ?_⟩, ?_⟩⟩ ⟨?_, ?_, ?_, ?_⟩
  · rw [am_uN (by omega), am_uN (by omega), am_uN (by omega)]; exact m1
  · rw [am_uN (by omega), am_uN (by omega), am_uN (by omega)]; exact m2
  · rw [am_uE]; rfl
  · rw [am_uN (by omega), am_uN (by omega), am_uE]
  · rw [am_uN (by omega), am_uE]
  · exact mwU_c (fun k hk => ⟨by rw [am_uN (by omega), am_uN (by omega), am_uN (by omega)], by rw [am_uN (by omega), am_uN (by omega), am_uN (by omega)]⟩) m4
  · intro a h1 h2 h3 h4
    rw [am_uRow (by omega), am_uRow (by omega), am_uRow (by omega)]
  · intro k hk
    rw [am_uN (by omega), am_uN (by omega), am_uN (by omega)]
  · intro k hk
    exact ⟨by rw [am_uN (by omega), am_uN (by omega), am_uN (by omega)], by rw [am_uN (by omega), am_uN (by omega), am_uN (by omega)]⟩
  · intro k h1 h2
    rw [am_uN (by omega), am_uN (by omega), am_uN (by omega)]
theorem md_knot0 (hf : o.1 ≠ 0) (h9 : o.1 ≤ 9) : am_D (d + 2) 188 [.ref 93] (am_hp N r (mS I n T o v) J) Q = Q .null (am_hp N r (mS I n T o v) J) := by
  rw [e_M_knot, mS_31, am_ifi (nI_eq (by omega) (by omega)), if_neg hf]
theorem md_knotF {q : Nat} (hM : exM 0 kn op [] I ∨ exM st kn op R I) (hk : kn = 64) : am_D (d + 2) 188 [.ref 93] (am_hp N r (mS I n T (0, q) v) J) Q = Q .null (am_hp N r (mS I n T (2, q) v) J) := by
  have m2 : I 93 36 = nI kn := by rcases hM with h | h <;> exact h.2.1
  rw [e_M_knot, mS_31, am_ifi (nI_eq (by omega) (by omega)), if_pos rfl, mS_o (by omega), m2, am_ifni (nI_eq (by omega) (by omega)), if_pos hk, md_wrong (by omega) (by show 0 ≤ 9; omega), e_M_knot_22]
  rfl
theorem md_knot {q : Nat} (hM : exM st kn op R I) (hk : kn < 64) (hQ : ∀ I', exM st (kn + 1) op R I' → frE st I I' → Q .null (am_hp N r (mS I' n T (0, q) v) J)) : am_D (d + 2) 188 [.ref 93] (am_hp N r (mS I n T (0, q) v) J) Q := by
  obtain ⟨m1, m2, m3, m4⟩ := hM
  rw [e_M_knot, mS_31, am_ifi (nI_eq (by omega) (by omega)), if_pos rfl, mS_o (by omega), m2, am_ifni (nI_eq (by omega) (by omega)), if_neg (by omega), nI_add, mS_u (by omega)]
  refine hQ _ ⟨?_, ?_, ?_, ?_⟩ ⟨?_, ?_, ?_, ?_⟩
  · rw [am_uN (by omega)]; exact m1
  · rw [am_uE]
  · rw [am_uN (by omega)]; exact m3
  · exact mwU_c (fun k hk => ⟨by rw [am_uN (by omega)], by rw [am_uN (by omega)]⟩) m4
  · intro a h1 h2 h3 h4; rw [am_uRow (by omega)]
  · intro k hk; rw [am_uN (by omega)]
  · intro k hk; exact ⟨by rw [am_uN (by omega)], by rw [am_uN (by omega)]⟩
  · intro k h1 h2; rw [am_uN (by omega)]
/-- with a fault nothing more is read -/
theorem mf_pri {f q : Nat} (hf : f ≠ 0) (h9 : f ≤ 9) : am_D (d + 1) 194 [.ref 93] (am_hp N r (mS I n T (f, q) v) J) Q = Q .null (am_hp N r (mS I n T (f, q) v) J) := by
  rw [e_M_primary, mS_31, am_ifi (nI_eq (by show f < _; omega) (by omega)), if_neg hf]
theorem mf_sgn {f q : Nat} {x : Int32} (hf : f ≠ 0) (h9 : f ≤ 9) : am_D (d + 1) 170 [.ref 93, .int x] (am_hp N r (mS I n T (f, q) v) J) Q = Q (.int (nI 0)) (am_hp N r (mS I n T (f, q) v) J) := by
  rw [e_M_isSign, mS_31, am_ifni (nI_eq (by show f < _; omega) (by omega)), if_neg hf]
theorem mf_wrd {f q : Nat} {x : Int32} (hf : f ≠ 0) (h9 : f ≤ 9) : am_D (d + 1) 169 [.ref 93, .int x] (am_hp N r (mS I n T (f, q) v) J) Q = Q (.int (nI 0)) (am_hp N r (mS I n T (f, q) v) J) := by
  rw [e_M_isWord, mS_31, am_ifni (nI_eq (by show f < _; omega) (by omega)), if_neg hf]
theorem mf_goOn {f q : Nat} (hf : f ≠ 0) (h9 : f ≤ 9) : am_D (d + 1) 171 [.ref 93] (am_hp N r (mS I n T (f, q) v) J) Q = Q .null (am_hp N r (mS I n T (f, q) v) J) := by
  rw [e_M_goOn, mS_31, am_ifni (nI_eq (by show f < _; omega) (by omega)), if_neg hf, e_M_goOn_11]
theorem mf_prod4 {f q : Nat} {o1 : Option Int32} (hf : f ≠ 0) (h9 : f ≤ 9) : am_V (d + 1) Q 193 4 [some (.ref 93), am_oi o1] [] (am_hp N r (mS I n T (f, q) v) J) = Q .null (am_hp N r (mS I n T (f, q) v) J) := by
  rw [e_M_product_4, mf_sgn hf h9, am_asIe, e_M_product_10, am_ifn, if_pos rfl, mf_sgn hf h9, am_asIe, e_M_product_19, am_ifd, if_pos rfl]
theorem mf_prod {f q : Nat} (hf : f ≠ 0) (h9 : f ≤ 9) : am_D (d + 2) 193 [.ref 93] (am_hp N r (mS I n T (f, q) v) J) Q = Q .null (am_hp N r (mS I n T (f, q) v) J) := by
  rw [e_M_product, mf_pri hf h9, mf_prod4 hf h9]
theorem mf_sum4 {f q : Nat} {o1 : Option Int32} (hf : f ≠ 0) (h9 : f ≤ 9) : am_V (d + 1) Q 192 4 [some (.ref 93), am_oi o1] [] (am_hp N r (mS I n T (f, q) v) J) = Q .null (am_hp N r (mS I n T (f, q) v) J) := by
  rw [e_M_sum_4, mf_sgn hf h9, am_asIe, e_M_sum_10, am_ifn, if_pos rfl, mf_sgn hf h9, am_asIe, e_M_sum_19, am_ifd, if_pos rfl]
theorem mf_sum {f q : Nat} (hf : f ≠ 0) (h9 : f ≤ 9) : am_D (d + 3) 192 [.ref 93] (am_hp N r (mS I n T (f, q) v) J) Q = Q .null (am_hp N r (mS I n T (f, q) v) J) := by
  rw [e_M_sum, mf_prod hf h9, mf_sum4 hf h9]
theorem mf_neg {f q : Nat} (hf : f ≠ 0) (h9 : f ≤ 9) : am_D (d + 4) 191 [.ref 93] (am_hp N r (mS I n T (f, q) v) J) Q = Q .null (am_hp N r (mS I n T (f, q) v) J) := by
  rw [e_M_negation, mf_wrd hf h9, am_asIe, e_M_negation_6, am_ifd, if_pos rfl, mf_sum hf h9, e_M_negation_34, mS_31, am_ifni (nI_eq (by show f < _; omega) (by omega)), if_neg hf]
theorem mf_con4 {f q : Nat} (hf : f ≠ 0) (h9 : f ≤ 9) : am_V (d + 1) Q 190 4 [some (.ref 93)] [] (am_hp N r (mS I n T (f, q) v) J) = Q .null (am_hp N r (mS I n T (f, q) v) J) := by
  rw [e_M_conjunction_4, mf_wrd hf h9, am_asIe, e_M_conjunction_10, am_ifd, if_pos rfl]
theorem mf_con {f q : Nat} (hf : f ≠ 0) (h9 : f ≤ 9) : am_D (d + 5) 190 [.ref 93] (am_hp N r (mS I n T (f, q) v) J) Q = Q .null (am_hp N r (mS I n T (f, q) v) J) := by
  rw [e_M_conjunction, mf_neg hf h9, mf_con4 hf h9]
theorem mf_exp4 {f q : Nat} (hf : f ≠ 0) (h9 : f ≤ 9) : am_V (d + 1) Q 189 4 [some (.ref 93)] [] (am_hp N r (mS I n T (f, q) v) J) = Q .null (am_hp N r (mS I n T (f, q) v) J) := by
  rw [e_M_expression_4, mf_wrd hf h9, am_asIe, e_M_expression_10, am_ifd, if_pos rfl]
end
