/-! ===== L3: the laws' values, on a stack ===== -/
def lw_L : Int64 := Int64.ofNat 1000000000000
def lw_nL : Int64 := Int64.ofNat 18446743073709551616
def lw_c (z : Int64) : Option Int64 := if lw_L < z then none else if z < lw_nL then none else some z
def lw_abs (x : Int64) : Int64 := if 0 ≤ x then x else -x
def lw_not (y : Int64) : Int64 := if y = 0 then 1 else 0
/-- what a sign makes of its two sides; signs by the model's numbers -/
def lw_op (s : Int32) (x y : Int64) : Option Int64 :=
  if s = nI 42 then (if x = 0 then lw_c (x * y) else if lw_abs y ≤ lw_L / lw_abs x then lw_c (x * y) else none)
  else if s = nI 43 then lw_c (x + y)
  else if s = nI 45 then lw_c (x - y)
  else if s = nI 47 then (if y = 0 then none else lw_c (x / y))
  else if s = nI 60 then lw_c (if y ≤ x then 0 else 1)
  else if s = nI 61 then lw_c (if x = y then 1 else 0)
  else if s = nI 62 then lw_c (if x ≤ y then 0 else 1)
  else if s = nI 256 then lw_c (if y < x then 0 else 1)
  else if s = nI 257 then lw_c (if x = y then 0 else 1)
  else if s = nI 258 then lw_c (if x < y then 0 else 1)
  else if s = nI 261 then lw_c (if x = 0 then 0 else if y = 0 then 0 else 1)
  else lw_c (if x = 0 then (if y = 0 then 0 else 1) else 1)
def lw_P {α : Type} (o : Option α) (A : α → Prop) (B : Prop) : Prop := match o with
  | some z => A z
  | none => B
/-- a stack: its top lies at the place that is the rest's length -/
def sk (f : Nat → Int64) : List Int64 → Prop
  | [] => True
  | v :: st => f st.length = v ∧ sk f st
theorem sk_upd {f : Nat → Int64} {k : Nat} {x : Int64} : ∀ {st : List Int64}, st.length ≤ k → sk f st → sk (vp_updL f k x) st
  | [], _, _ => trivial
  | v :: st, h, hs => ⟨by
      have h' : st.length + 1 ≤ k := h
      rw [vp_updL, if_neg (by omega)]; exact hs.1, sk_upd (by have h' : st.length + 1 ≤ k := h; omega) hs.2⟩
theorem sk_push {f : Nat → Int64} {x : Int64} {st : List Int64} (hs : sk f st) : sk (vp_updL f st.length x) (x :: st) := ⟨by rw [vp_updL, if_pos rfl], sk_upd (Nat.le_refl _) hs⟩
def lw_step (so va : Int32) (nm : Nat → Int64) (st : List Int64) : Option (List Int64) :=
  if so = nI 2 then
    if va = nI 260 then match st with
      | y :: t => some (lw_not y :: t)
      | [] => none
    else match st with
      | y :: x :: t => (lw_op va x y).map (· :: t)
      | _ => none
  else some ((if so = nI 0 then va.toInt64 else nm va.toNatClampNeg) :: st)
theorem lw_step_n {so va : Int32} {nm : Nat → Int64} {st : List Int64} (h : so = nI 0) : lw_step so va nm st = some (va.toInt64 :: st) := by
  have n20 : ¬ nI 0 = nI 2 := by decide +kernel
  unfold lw_step; rw [h, if_neg n20, if_pos rfl]
theorem lw_step_v {so va : Int32} {nm : Nat → Int64} {st : List Int64} (h : so = nI 1) : lw_step so va nm st = some (nm va.toNatClampNeg :: st) := by
  have n21 : ¬ nI 1 = nI 2 := by decide +kernel
  have n10 : ¬ nI 1 = nI 0 := by decide +kernel
  unfold lw_step; rw [h, if_neg n21, if_neg n10]
def lw_run (so va : Nat → Int32) (nm : Nat → Int64) : Nat → Nat → List Int64 → Option (List Int64)
  | 0, _, st => some st
  | c + 1, i, st => match lw_step (so i) (va i) nm st with
    | some st' => lw_run so va nm c (i + 1) st'
    | none => none
/-- the signs have their sides: c knots from i on, k on the stack -/
def lw_ok (so va : Nat → Int32) : Nat → Nat → Nat → Prop
  | 0, _, k => k = 1
  | c + 1, i, k => (so i = nI 2 ∧ va i = nI 260 ∧ 1 ≤ k ∧ lw_ok so va c (i + 1) k) ∨ (so i = nI 2 ∧ va i ≠ nI 260 ∧ 2 ≤ k ∧ lw_ok so va c (i + 1) (k - 1)) ∨ (so i = nI 0 ∧ k < 64 ∧ lw_ok so va c (i + 1) (k + 1)) ∨ (so i = nI 1 ∧ (∃ j, j < 7 ∧ va i = nI j) ∧ k < 64 ∧ lw_ok so va c (i + 1) (k + 1))
def lw_hd (o : Option (List Int64)) : Option Int64 := match o with
  | some (z :: _) => some z
  | _ => none
def lw_val (so va : Nat → Int32) (nm : Nat → Int64) (a b : Nat) : Option Int64 := lw_hd (lw_run so va nm (b - a) a [])
theorem lw_len {so va : Nat → Int32} {nm : Nat → Int64} : ∀ {c i : Nat} {st st' : List Int64}, lw_ok so va c i st.length → lw_run so va nm c i st = some st' → st'.length = 1
  | 0, i, st, st', h, e => by
    have e' : some st = some st' := e
    injection e' with e'
    rw [← e']; exact h
  | c + 1, i, st, st', h, e => by
    unfold lw_run at e
    have n20 : ¬ nI 0 = nI 2 := by decide +kernel
    have n21 : ¬ nI 1 = nI 2 := by decide +kernel
    rcases h with ⟨h1, h2, h3, h4⟩ | ⟨h1, h2, h3, h4⟩ | ⟨h1, h2, h4⟩ | ⟨h1, h2, h3, h4⟩
    · cases st with
      | nil => simp at h3
      | cons y t =>
        rw [lw_step, if_pos h1, if_pos h2] at e
        exact lw_len (st := lw_not y :: t) h4 e
    · cases st with
      | nil => simp at h3
      | cons y t => cases t with
        | nil => simp at h3
        | cons x t =>
          rw [lw_step, if_pos h1, if_neg h2] at e
          try dsimp only at e
          cases ho : lw_op (va i) x y with
          | none => rw [ho] at e; exact absurd e (by simp)
          | some z => rw [ho] at e; exact lw_len (st := z :: t) h4 e
    · rw [lw_step_n h1] at e
      exact lw_len (st := _ :: st) h4 e
    · rw [lw_step_v h1] at e
      exact lw_len (st := _ :: st) h4 e
def m_law (I : Nat → Nat → Int32) (k : Nat) (nm : Nat → Int64) : Option Int64 := if m_has I k then lw_val (I 114) (I 115) nm (I 112 k).toNatClampNeg (I 113 k).toNatClampNeg else none
def m_lok (I : Nat → Nat → Int32) : Prop := ∀ k, k < 3 → ∃ a b, I 112 k = nI a ∧ I 113 k = nI b ∧ a ≤ b ∧ b ≤ 64 ∧ (a < b → lw_ok (I 114) (I 115) (b - a) a 0)
section
variable {d N n : Nat} {Q : Value → am_H → Prop} {r : am_rho} {I : Nat → Nat → Int32} {J : Nat → Nat → Int64} {W : Nat → Nat → Int32} {v : Int32} {F T : Nat → Int32} {nm wk : Nat → Int64}
theorem s_M_is0 : am_D (d + 1) 199 [.int (nI 0)] (am_hp N r I J) Q = Q (.long 0) (am_hp N r I J) := by
  rw [e_M_is]
  rfl
theorem s_M_is1 : am_D (d + 1) 199 [.int (nI 1)] (am_hp N r I J) Q = Q (.long 1) (am_hp N r I J) := by
  rw [e_M_is]
  rfl
theorem s_M_works407 {s : Int32} {x y z : Int64} {k : Nat} (hk : k < 64) (h : lw_P (lw_c z) (fun z => Q (.int (nI 1)) (am_hp N r (m_M I n W (nI (k + 1)) F T) (m_J J nm (vp_updL wk k z)))) (∀ v' wk', Q (.int (nI 0)) (am_hp N r (m_M I n W v' F T) (m_J J nm wk')))) :
    am_V d Q 200 407 [some (.ref 93), some (.int s), some (.long y), none, some (.long x), none, some (.long z), none] [] (am_hp N r (m_M I n W (nI (k + 1)) F T) (m_J J nm wk)) := by
  rw [e_M_works_407]
  have e1 : nI (k + 1) - nI 1 = nI k := am_subN (by omega)
  try simp (config := {maxSteps := 1000000}) (disch := omega) only [nI_add, nI_1, am_mulN, nI_clamp, am_gI, am_ifd, am_ifn, am_asIe, am_asLe, nI_leI, nI_ltI, nI_eq, am_neg1, am_neg1b, m_Mo, m_Mv, m_MF, m_MT, m_M0, m_M1, m_M2, m_M3, m_M4, m_M5, m_M6, m_M7, m_M8, m_M9, m_wv, m_w0, m_w1, m_w2, m_w3, m_w4, m_w5, m_w6, m_w7, m_w8, m_w9, m_wF, m_wT, m_Jn, m_Jw, m_Jo, m_un, m_uw, e_M_works_442, am_lgg, am_lgl, e1]
  unfold lw_c lw_L lw_nL at h
  split
  · rename_i hc
    rw [if_pos hc] at h
    exact h _ _
  · rename_i hc
    rw [if_neg hc] at h
    split
    · rename_i hd
      rw [if_pos hd] at h
      exact h _ _
    · rename_i hd
      rw [if_neg hd] at h
      exact h
theorem s_J_abs {x : Int64} : am_D (d + 1) 278 [.long x] (am_hp N r I J) Q = Q (.long (lw_abs x)) (am_hp N r I J) := by
  rw [e_J_abs]
  try simp (config := {maxSteps := 1000000}) (disch := omega) only [nI_add, nI_1, am_mulN, nI_clamp, am_gI, am_ifd, am_ifn, am_asIe, am_asLe, nI_leI, nI_ltI, nI_eq, am_neg1, am_neg1b, am_lgG, lw_abs]
  split <;> rfl
theorem s_M_works {s : Int32} {x y : Int64} {t : List Int64} (hk : t.length < 63) (hs : sk wk (y :: x :: t)) (h26 : s ≠ nI 260) (hv : v = nI (t.length + 2))
    (h : lw_P (lw_op s x y) (fun z => Q (.int (nI 1)) (am_hp N r (m_M I n W (nI (t.length + 1)) F T) (m_J J nm (vp_updL wk t.length z)))) (∀ v' wk', Q (.int (nI 0)) (am_hp N r (m_M I n W v' F T) (m_J J nm wk')))) :
    am_D (d + 2) 200 [.ref 93, .int s] (am_hp N r (m_M I n W v F T) (m_J J nm wk)) Q := by
  subst hv
  have e1 : nI (t.length + 2) - nI 1 = nI (t.length + 1) := am_subN (by omega)
  have e2 : nI (t.length + 2) - nI 2 = nI t.length := am_subN (by omega)
  have hy : wk (t.length + 1) = y := hs.1
  have hx : wk t.length = x := hs.2.1
  have fin := fun z => s_M_works407 (d := d + 1) (Q := Q) (N := N) (r := r) (I := I) (J := J) (n := n) (W := W) (F := F) (T := T) (nm := nm) (wk := wk) (s := s) (x := x) (y := y) (z := z) (k := t.length) (by omega)
  rw [e_M_works]
  simp only [m_Mv]
  simp only [e1, e2]
  simp only [m_wv]
  simp (disch := omega) only [nI_clamp, am_gI]
  simp only [m_Jw, hy, hx]
  simp only [am_ifd, am_ifn, am_lgE, am_lgG, am_lgL, am_lgg, am_lgl]
  rw [if_neg h26]
  unfold lw_op at h
  by_cases h1 : s = nI 42
  · rw [if_pos h1] at h ⊢
    try simp only [s_M_is0, s_M_is1, s_J_abs, am_asLe, am_ifd, am_lgL, e_M_works_197, e_M_works_205, e_M_works_212, e_M_works_253, e_M_works_255, e_M_works_273, e_M_works_275, e_M_works_293, e_M_works_295, e_M_works_313, e_M_works_315, e_M_works_333, e_M_works_335, e_M_works_353, e_M_works_355, e_M_works_375, e_M_works_379, e_M_works_381, e_M_works_397, e_M_works_405]
    by_cases hx0 : x = 0
    · rw [if_pos hx0] at h ⊢
      exact fin _ h
    · rw [if_neg hx0] at h ⊢
      have ha : ¬ lw_abs x = 0 := by
        unfold lw_abs
        split
        · exact hx0
        · intro e
          apply hx0
          have := congrArg (fun z => -z) e
          simpa using this
      rw [am_gn ha]
      by_cases hc : lw_abs y ≤ lw_L / lw_abs x
      · rw [if_pos hc] at h
        rw [if_pos (show lw_abs y ≤ Int64.ofNat 1000000000000 / lw_abs x from hc)]
        exact fin _ h
      · rw [if_neg hc] at h
        rw [if_neg (show ¬ lw_abs y ≤ Int64.ofNat 1000000000000 / lw_abs x from hc)]
        exact h _ _
  rw [if_neg h1] at h ⊢
  by_cases h1 : s = nI 43
  · rw [if_pos h1] at h ⊢
    try simp only [s_M_is0, s_M_is1, s_J_abs, am_asLe, am_ifd, am_lgL, e_M_works_197, e_M_works_205, e_M_works_212, e_M_works_253, e_M_works_255, e_M_works_273, e_M_works_275, e_M_works_293, e_M_works_295, e_M_works_313, e_M_works_315, e_M_works_333, e_M_works_335, e_M_works_353, e_M_works_355, e_M_works_375, e_M_works_379, e_M_works_381, e_M_works_397, e_M_works_405]
    exact fin _ h
  rw [if_neg h1] at h ⊢
  by_cases h1 : s = nI 45
  · rw [if_pos h1] at h ⊢
    try simp only [s_M_is0, s_M_is1, s_J_abs, am_asLe, am_ifd, am_lgL, e_M_works_197, e_M_works_205, e_M_works_212, e_M_works_253, e_M_works_255, e_M_works_273, e_M_works_275, e_M_works_293, e_M_works_295, e_M_works_313, e_M_works_315, e_M_works_333, e_M_works_335, e_M_works_353, e_M_works_355, e_M_works_375, e_M_works_379, e_M_works_381, e_M_works_397, e_M_works_405]
    exact fin _ h
  rw [if_neg h1] at h ⊢
  by_cases h1 : s = nI 47
  · rw [if_pos h1] at h ⊢
    try simp only [s_M_is0, s_M_is1, s_J_abs, am_asLe, am_ifd, am_lgL, e_M_works_197, e_M_works_205, e_M_works_212, e_M_works_253, e_M_works_255, e_M_works_273, e_M_works_275, e_M_works_293, e_M_works_295, e_M_works_313, e_M_works_315, e_M_works_333, e_M_works_335, e_M_works_353, e_M_works_355, e_M_works_375, e_M_works_379, e_M_works_381, e_M_works_397, e_M_works_405]
    by_cases hy0 : y = 0
    · rw [if_pos hy0] at h ⊢
      exact h _ _
    · rw [if_neg hy0] at h ⊢
      rw [am_gn hy0]
      exact fin _ h
  rw [if_neg h1] at h ⊢
  by_cases h1 : s = nI 60
  · rw [if_pos h1] at h ⊢
    try simp only [s_M_is0, s_M_is1, s_J_abs, am_asLe, am_ifd, am_lgL, e_M_works_197, e_M_works_205, e_M_works_212, e_M_works_253, e_M_works_255, e_M_works_273, e_M_works_275, e_M_works_293, e_M_works_295, e_M_works_313, e_M_works_315, e_M_works_333, e_M_works_335, e_M_works_353, e_M_works_355, e_M_works_375, e_M_works_379, e_M_works_381, e_M_works_397, e_M_works_405]
    split <;> rename_i hc <;> simp only [hc, if_true, if_false] at h <;> exact fin _ h
  rw [if_neg h1] at h ⊢
  by_cases h1 : s = nI 61
  · rw [if_pos h1] at h ⊢
    try simp only [s_M_is0, s_M_is1, s_J_abs, am_asLe, am_ifd, am_lgL, e_M_works_197, e_M_works_205, e_M_works_212, e_M_works_253, e_M_works_255, e_M_works_273, e_M_works_275, e_M_works_293, e_M_works_295, e_M_works_313, e_M_works_315, e_M_works_333, e_M_works_335, e_M_works_353, e_M_works_355, e_M_works_375, e_M_works_379, e_M_works_381, e_M_works_397, e_M_works_405]
    split <;> rename_i hc <;> simp only [hc, if_true, if_false] at h <;> exact fin _ h
  rw [if_neg h1] at h ⊢
  by_cases h1 : s = nI 62
  · rw [if_pos h1] at h ⊢
    try simp only [s_M_is0, s_M_is1, s_J_abs, am_asLe, am_ifd, am_lgL, e_M_works_197, e_M_works_205, e_M_works_212, e_M_works_253, e_M_works_255, e_M_works_273, e_M_works_275, e_M_works_293, e_M_works_295, e_M_works_313, e_M_works_315, e_M_works_333, e_M_works_335, e_M_works_353, e_M_works_355, e_M_works_375, e_M_works_379, e_M_works_381, e_M_works_397, e_M_works_405]
    split <;> rename_i hc <;> simp only [hc, if_true, if_false] at h <;> exact fin _ h
  rw [if_neg h1] at h ⊢
  by_cases h1 : s = nI 256
  · rw [if_pos h1] at h ⊢
    try simp only [s_M_is0, s_M_is1, s_J_abs, am_asLe, am_ifd, am_lgL, e_M_works_197, e_M_works_205, e_M_works_212, e_M_works_253, e_M_works_255, e_M_works_273, e_M_works_275, e_M_works_293, e_M_works_295, e_M_works_313, e_M_works_315, e_M_works_333, e_M_works_335, e_M_works_353, e_M_works_355, e_M_works_375, e_M_works_379, e_M_works_381, e_M_works_397, e_M_works_405]
    split <;> rename_i hc <;> simp only [hc, if_true, if_false] at h <;> exact fin _ h
  rw [if_neg h1] at h ⊢
  by_cases h1 : s = nI 257
  · rw [if_pos h1] at h ⊢
    try simp only [s_M_is0, s_M_is1, s_J_abs, am_asLe, am_ifd, am_lgL, e_M_works_197, e_M_works_205, e_M_works_212, e_M_works_253, e_M_works_255, e_M_works_273, e_M_works_275, e_M_works_293, e_M_works_295, e_M_works_313, e_M_works_315, e_M_works_333, e_M_works_335, e_M_works_353, e_M_works_355, e_M_works_375, e_M_works_379, e_M_works_381, e_M_works_397, e_M_works_405]
    split <;> rename_i hc <;> simp only [hc, if_true, if_false] at h <;> exact fin _ h
  rw [if_neg h1] at h ⊢
  by_cases h1 : s = nI 258
  · rw [if_pos h1] at h ⊢
    try simp only [s_M_is0, s_M_is1, s_J_abs, am_asLe, am_ifd, am_lgL, e_M_works_197, e_M_works_205, e_M_works_212, e_M_works_253, e_M_works_255, e_M_works_273, e_M_works_275, e_M_works_293, e_M_works_295, e_M_works_313, e_M_works_315, e_M_works_333, e_M_works_335, e_M_works_353, e_M_works_355, e_M_works_375, e_M_works_379, e_M_works_381, e_M_works_397, e_M_works_405]
    split <;> rename_i hc <;> simp only [hc, if_true, if_false] at h <;> exact fin _ h
  rw [if_neg h1] at h ⊢
  by_cases h1 : s = nI 261
  · rw [if_pos h1] at h ⊢
    try simp only [s_M_is0, s_M_is1, s_J_abs, am_asLe, am_ifd, am_lgL, e_M_works_197, e_M_works_205, e_M_works_212, e_M_works_253, e_M_works_255, e_M_works_273, e_M_works_275, e_M_works_293, e_M_works_295, e_M_works_313, e_M_works_315, e_M_works_333, e_M_works_335, e_M_works_353, e_M_works_355, e_M_works_375, e_M_works_379, e_M_works_381, e_M_works_397, e_M_works_405]
    by_cases hx0 : x = 0
    · rw [if_pos hx0] at h ⊢
      exact fin _ h
    · rw [if_neg hx0] at h ⊢
      split <;> rename_i hc <;> simp only [hc, if_true, if_false] at h <;> exact fin _ h
  rw [if_neg h1] at h ⊢
  try simp only [s_M_is0, s_M_is1, s_J_abs, am_asLe, am_ifd, am_lgL, e_M_works_197, e_M_works_205, e_M_works_212, e_M_works_253, e_M_works_255, e_M_works_273, e_M_works_275, e_M_works_293, e_M_works_295, e_M_works_313, e_M_works_315, e_M_works_333, e_M_works_335, e_M_works_353, e_M_works_355, e_M_works_375, e_M_works_379, e_M_works_381, e_M_works_397, e_M_works_405]
  by_cases hx0 : x = 0
  · rw [if_pos hx0] at h ⊢
    split <;> rename_i hc <;> simp only [hc, if_true, if_false] at h <;> exact fin _ h
  · rw [if_neg hx0] at h ⊢
    exact fin _ h
theorem s_M_worksN {y : Int64} {t : List Int64} (hk : t.length < 64) (hs : sk wk (y :: t)) (hv : v = nI (t.length + 1)) :
    am_D (d + 2) 200 [.ref 93, .int (nI 260)] (am_hp N r (m_M I n W v F T) (m_J J nm wk)) Q = Q (.int (nI 1)) (am_hp N r (m_M I n W v F T) (m_J J nm (vp_updL wk t.length (lw_not y)))) := by
  subst hv
  have e1 : nI (t.length + 1) - nI 1 = nI t.length := am_subN (by omega)
  have hy : wk t.length = y := hs.1
  rw [e_M_works]
  simp only [m_Mv]
  simp only [e1]
  simp (disch := omega) only [nI_clamp, am_gI]
  rw [am_ifn, if_pos trivial]
  simp only [m_Jw, hy]
  simp only [am_ifn, am_lgE, s_M_is0, s_M_is1, am_asLe]
  simp (disch := omega) only [e_M_works_43, e_M_works_44, am_gI, nI_clamp, m_uw, lw_not]
  split <;> rfl
theorem s_M_goesL {k a b : Nat} (hk : k < 6) (ha : I 112 k = nI a) (hb : I 113 k = nI b) (hb64 : b ≤ 64) : ∀ (c i : Nat) (st : List Int64) (v : Int32) (wk : Nat → Int64), i + c = b → lw_ok (I 114) (I 115) c i st.length → st.length ≤ 64 → sk wk st → v = nI st.length →
    lw_P (lw_run (I 114) (I 115) nm c i st) (fun st' => ∀ wk', sk wk' st' → Q (.int (nI 1)) (am_hp N r (m_M I n W (nI st'.length) F T) (m_J J nm wk'))) (∀ v' wk', Q (.int (nI 0)) (am_hp N r (m_M I n W v' F T) (m_J J nm wk'))) →
    am_V (d + 2) Q 201 12 [some (.ref 93), some (.int (nI k)), some (.int (nI i))] [] (am_hp N r (m_M I n W v F T) (m_J J nm wk)) := by
  have n20 : ¬ nI 0 = nI 2 := by decide +kernel
  have n21 : ¬ nI 1 = nI 2 := by decide +kernel
  have n10 : ¬ nI 1 = nI 0 := by decide +kernel
  intro c
  induction c with
  | zero =>
    intro i st v wk hi ok hl hs hv h
    obtain rfl : i = b := by omega
    subst hv
    rw [e_M_goes_12]
    try simp (config := {maxSteps := 1000000}) (disch := omega) only [nI_add, nI_1, am_mulN, nI_clamp, am_gI, am_ifd, am_ifn, am_asIe, am_asLe, nI_leI, nI_ltI, nI_eq, am_neg1, am_neg1b, m_Mo, m_Mv, m_MF, m_MT, m_M0, m_M1, m_M2, m_M3, m_M4, m_M5, m_M6, m_M7, m_M8, m_M9, m_wv, m_w0, m_w1, m_w2, m_w3, m_w4, m_w5, m_w6, m_w7, m_w8, m_w9, m_wF, m_wT, m_Jn, m_Jw, m_Jo, m_un, m_uw, hb, Nat.le_refl, if_true]
    exact h wk hs
  | succ c ih =>
    intro i st v wk hi ok hl hs hv h
    subst hv
    rw [e_M_goes_12]
    try simp (config := {maxSteps := 1000000}) (disch := omega) only [nI_add, nI_1, am_mulN, nI_clamp, am_gI, am_ifd, am_ifn, am_asIe, am_asLe, nI_leI, nI_ltI, nI_eq, am_neg1, am_neg1b, m_Mo, m_Mv, m_MF, m_MT, m_M0, m_M1, m_M2, m_M3, m_M4, m_M5, m_M6, m_M7, m_M8, m_M9, m_wv, m_w0, m_w1, m_w2, m_w3, m_w4, m_w5, m_w6, m_w7, m_w8, m_w9, m_wF, m_wT, m_Jn, m_Jw, m_Jo, m_un, m_uw, hb]
    rw [if_neg (by omega)]
    rw [lw_run] at h
    rcases ok with ⟨h1, h2, h3, h4⟩ | ⟨h1, h2, h3, h4⟩ | ⟨h1, h2, h4⟩ | ⟨h1, ⟨j, hj, h2⟩, h3, h4⟩
    · cases st with
      | nil => simp at h3
      | cons y t =>
        rw [if_pos h1, h2, s_M_worksN (v := nI (y :: t).length) (t := t) (y := y) (by have : t.length + 1 ≤ 64 := hl; omega) hs rfl]
        try simp (config := {maxSteps := 1000000}) (disch := omega) only [nI_add, nI_1, am_mulN, nI_clamp, am_gI, am_ifd, am_ifn, am_asIe, am_asLe, nI_leI, nI_ltI, nI_eq, am_neg1, am_neg1b, m_Mo, m_Mv, m_MF, m_MT, m_M0, m_M1, m_M2, m_M3, m_M4, m_M5, m_M6, m_M7, m_M8, m_M9, m_wv, m_w0, m_w1, m_w2, m_w3, m_w4, m_w5, m_w6, m_w7, m_w8, m_w9, m_wF, m_wT, m_Jn, m_Jw, m_Jo, m_un, m_uw]
        rw [e_M_goes_42]
        try simp (config := {maxSteps := 1000000}) (disch := omega) only [nI_add, nI_1, am_mulN, nI_clamp, am_gI, am_ifd, am_ifn, am_asIe, am_asLe, nI_leI, nI_ltI, nI_eq, am_neg1, am_neg1b, m_Mo, m_Mv, m_MF, m_MT, m_M0, m_M1, m_M2, m_M3, m_M4, m_M5, m_M6, m_M7, m_M8, m_M9, m_wv, m_w0, m_w1, m_w2, m_w3, m_w4, m_w5, m_w6, m_w7, m_w8, m_w9, m_wF, m_wT, m_Jn, m_Jw, m_Jo, m_un, m_uw, n10, if_false]
        rw [lw_step, if_pos h1, if_pos h2] at h
        exact ih (i + 1) (lw_not y :: t) _ _ (by omega) h4 hl (sk_push hs.2) rfl h
    · cases st with
      | nil => simp at h3
      | cons y t => cases t with
        | nil => simp at h3
        | cons x t =>
          rw [if_pos h1]
          have hl' : t.length + 1 + 1 ≤ 64 := hl
          refine s_M_works (x := x) (y := y) (t := t) (by omega) hs h2 rfl ?_
          rw [lw_step, if_pos h1, if_neg h2] at h
          try dsimp only at h
          cases ho : lw_op (I 115 i) x y with
          | none =>
            rw [ho] at h
            intro v' wk'
            try simp (config := {maxSteps := 1000000}) (disch := omega) only [nI_add, nI_1, am_mulN, nI_clamp, am_gI, am_ifd, am_ifn, am_asIe, am_asLe, nI_leI, nI_ltI, nI_eq, am_neg1, am_neg1b, m_Mo, m_Mv, m_MF, m_MT, m_M0, m_M1, m_M2, m_M3, m_M4, m_M5, m_M6, m_M7, m_M8, m_M9, m_wv, m_w0, m_w1, m_w2, m_w3, m_w4, m_w5, m_w6, m_w7, m_w8, m_w9, m_wF, m_wT, m_Jn, m_Jw, m_Jo, m_un, m_uw]
            rw [e_M_goes_42]
            try simp (config := {maxSteps := 1000000}) (disch := omega) only [nI_add, nI_1, am_mulN, nI_clamp, am_gI, am_ifd, am_ifn, am_asIe, am_asLe, nI_leI, nI_ltI, nI_eq, am_neg1, am_neg1b, m_Mo, m_Mv, m_MF, m_MT, m_M0, m_M1, m_M2, m_M3, m_M4, m_M5, m_M6, m_M7, m_M8, m_M9, m_wv, m_w0, m_w1, m_w2, m_w3, m_w4, m_w5, m_w6, m_w7, m_w8, m_w9, m_wF, m_wT, m_Jn, m_Jw, m_Jo, m_un, m_uw, if_true]
            exact h _ _
          | some z =>
            rw [ho] at h
            dsimp only [lw_P]
            try simp (config := {maxSteps := 1000000}) (disch := omega) only [nI_add, nI_1, am_mulN, nI_clamp, am_gI, am_ifd, am_ifn, am_asIe, am_asLe, nI_leI, nI_ltI, nI_eq, am_neg1, am_neg1b, m_Mo, m_Mv, m_MF, m_MT, m_M0, m_M1, m_M2, m_M3, m_M4, m_M5, m_M6, m_M7, m_M8, m_M9, m_wv, m_w0, m_w1, m_w2, m_w3, m_w4, m_w5, m_w6, m_w7, m_w8, m_w9, m_wF, m_wT, m_Jn, m_Jw, m_Jo, m_un, m_uw]
            rw [e_M_goes_42]
            try simp (config := {maxSteps := 1000000}) (disch := omega) only [nI_add, nI_1, am_mulN, nI_clamp, am_gI, am_ifd, am_ifn, am_asIe, am_asLe, nI_leI, nI_ltI, nI_eq, am_neg1, am_neg1b, m_Mo, m_Mv, m_MF, m_MT, m_M0, m_M1, m_M2, m_M3, m_M4, m_M5, m_M6, m_M7, m_M8, m_M9, m_wv, m_w0, m_w1, m_w2, m_w3, m_w4, m_w5, m_w6, m_w7, m_w8, m_w9, m_wF, m_wT, m_Jn, m_Jw, m_Jo, m_un, m_uw, n10, if_false]
            exact ih (i + 1) (z :: t) _ _ (by omega) h4 (by have : (z :: t).length = t.length + 1 := rfl; omega) (sk_push hs.2.2) rfl h
    · rw [h1, if_neg n20, if_pos rfl]
      try simp (config := {maxSteps := 1000000}) (disch := omega) only [nI_add, nI_1, am_mulN, nI_clamp, am_gI, am_ifd, am_ifn, am_asIe, am_asLe, nI_leI, nI_ltI, nI_eq, am_neg1, am_neg1b, m_Mo, m_Mv, m_MF, m_MT, m_M0, m_M1, m_M2, m_M3, m_M4, m_M5, m_M6, m_M7, m_M8, m_M9, m_wv, m_w0, m_w1, m_w2, m_w3, m_w4, m_w5, m_w6, m_w7, m_w8, m_w9, m_wF, m_wT, m_Jn, m_Jw, m_Jo, m_un, m_uw]
      rw [lw_step_n h1] at h
      exact ih (i + 1) (_ :: st) _ _ (by omega) h4 h2 (sk_push hs) rfl h
    · rw [h1, if_neg n21, if_neg n10, h2]
      try simp (config := {maxSteps := 1000000}) (disch := omega) only [nI_add, nI_1, am_mulN, nI_clamp, am_gI, am_ifd, am_ifn, am_asIe, am_asLe, nI_leI, nI_ltI, nI_eq, am_neg1, am_neg1b, m_Mo, m_Mv, m_MF, m_MT, m_M0, m_M1, m_M2, m_M3, m_M4, m_M5, m_M6, m_M7, m_M8, m_M9, m_wv, m_w0, m_w1, m_w2, m_w3, m_w4, m_w5, m_w6, m_w7, m_w8, m_w9, m_wF, m_wT, m_Jn, m_Jw, m_Jo, m_un, m_uw]
      rw [lw_step_v h1, h2, nI_clamp (by omega)] at h
      exact ih (i + 1) (_ :: st) _ _ (by omega) h4 h3 (sk_push hs) rfl h
/-- a law's value -/
theorem s_M_goes {k : Nat} (hk : k < 3) (hl : m_lok I) (hh : m_has I k = true) (h : lw_P (m_law I k nm) (fun z => ∀ v' wk', wk' 0 = z → Q (.int (nI 1)) (am_hp N r (m_M I n W v' F T) (m_J J nm wk'))) (∀ v' wk', Q (.int (nI 0)) (am_hp N r (m_M I n W v' F T) (m_J J nm wk')))) :
    am_D (d + 3) 201 [.ref 93, .int (nI k)] (am_hp N r (m_M I n W v F T) (m_J J nm wk)) Q := by
  obtain ⟨a, b, ha, hb, hab, hb64, hok⟩ := hl k hk
  have hlt : a < b := by
    unfold m_has at hh
    rw [ha, hb] at hh
    have := of_decide_eq_true hh
    exact (nI_ltI (by omega) (by omega)).mp this
  rw [e_M_goes]
  try simp (config := {maxSteps := 1000000}) (disch := omega) only [nI_add, nI_1, am_mulN, nI_clamp, am_gI, am_ifd, am_ifn, am_asIe, am_asLe, nI_leI, nI_ltI, nI_eq, am_neg1, am_neg1b, m_Mo, m_Mv, m_MF, m_MT, m_M0, m_M1, m_M2, m_M3, m_M4, m_M5, m_M6, m_M7, m_M8, m_M9, m_wv, m_w0, m_w1, m_w2, m_w3, m_w4, m_w5, m_w6, m_w7, m_w8, m_w9, m_wF, m_wT, m_Jn, m_Jw, m_Jo, m_un, m_uw, ha]
  refine s_M_goesL (by omega) ha hb hb64 (b - a) a [] (nI 0) wk (by omega) (hok hlt) (by simp) trivial rfl ?_
  rw [m_law, if_pos hh, ha, hb, nI_clamp (by omega), nI_clamp (by omega), lw_val] at h
  cases hr : lw_run (I 114) (I 115) nm (b - a) a [] with
  | none => rw [hr] at h; exact h
  | some st' =>
    rw [hr] at h
    have hlen := lw_len (st := []) (hok hlt) hr
    intro wk' hs'
    match st', hlen, hs', h with
    | [z], _, hs', h => exact h _ _ hs'.1
end
