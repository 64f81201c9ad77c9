/-! ===== L3: the E of a law, as the class reads it ===== -/
def bnd (k : Nat) : Nat := if k = 17 then 1 else if k = 18 then 2 else if k = 19 then 3 else if k = 30 ∨ k = 31 then 5 else if k = 32 ∨ k = 33 then 6 else if 34 ≤ k then 4 else 0
/-- signs that bind at least so much are written -/
def stl (b : Nat) : List Nat → List Nat → List Nat × List Nat
  | [], R => ([], R)
  | k :: w, R => if k = 28 ∨ bnd k < b then (k :: w, R) else stl b w ((10000 + k) :: R)
def opc : List Nat → Nat
  | [] => 0
  | k :: w => (if k = 28 then 0 else 1) + opc w
def hdb : List Bool → Bool
  | [] => false
  | b :: _ => b
def sy (n : Nat) (T : Nat → Nat) : Nat → Nat → List Nat → List Bool → Bool → Bool → Nat → List Nat → Nat × Nat × Nat × List Nat
  | 0, p, _, _, _, _, kn, R => (0, p, kn, R)
  | m + 1, p, w, cp, sd, nm, kn, R =>
    if tkK n T p = 27 ∧ sd = false ∧ cp.length = 1 then (0, p, kn, (stl 0 w R).2)
    else if sd = true then
      if tkK n T p = 28 then (if 9 ≤ cp.length then (2, p, kn, R) else sy n T m (tkE n T p) (28 :: w) (false :: cp) true true kn R)
      else if tkK n T p = 19 ∧ nm = true then (if 64 ≤ kn then (2, p, kn, R) else sy n T m (tkE n T p) (19 :: w) cp true true (kn + 1) R)
      else if tkK n T p ≠ 2 ∧ (tkK n T p < 20 ∨ 26 < tkK n T p) then (1, p, kn, R)
      else if (tkK n T p = 2 ∧ 9999 < tkV n T p) ∨ 64 ≤ kn then (2, p, kn, R)
      else sy n T m (tkE n T p) w cp false nm (kn + 1) ((if tkK n T p = 2 then tkV n T p else 10000 + tkK n T p) :: R)
    else if tkK n T p = 29 ∧ 1 < cp.length then sy n T m (tkE n T p) (stl 0 w R).1.tail cp.tail false nm kn (stl 0 w R).2
    else if bnd (tkK n T p) = 0 ∨ tkK n T p = 19 ∨ (bnd (tkK n T p) = 4 ∧ hdb cp = true) then (1, p, kn, R)
    else if 64 ≤ kn then (2, p, kn, R)
    else sy n T m (tkE n T p) (tkK n T p :: (stl (bnd (tkK n T p)) w R).1) ((decide (bnd (tkK n T p) = 4) || (hdb cp && decide (4 < bnd (tkK n T p)))) :: cp.tail) true (decide (bnd (tkK n T p) < 4)) (kn + 1) (stl (bnd (tkK n T p)) w R).2
/-! the class's cells -/
def wrl (I : Nat → Nat → Int32) : List Nat → Prop
  | [] => True
  | k :: w => I 47 w.length = nI k ∧ wrl I w
def cpl (I : Nat → Nat → Int32) : List Bool → Prop
  | [] => True
  | b :: c => I 48 c.length = nI b.toNat ∧ cpl I c
def rwl (I : Nat → Nat → Int32) (q st : Nat) : List Nat → Prop
  | [] => True
  | x :: R => I (q + 1) (st + R.length) = nI x ∧ rwl I q st R
def nmk (x : Nat) : Int32 := nI (lw_mk (x - 10020)) <<< (nI (lw_sh (x - 10020)) &&& nI 31)
def uz : List Nat → Int32
  | [] => nI 0
  | x :: R => if 10020 ≤ x ∧ x < 10027 then uz R ||| nmk x else uz R
def exL (q ru st kn : Nat) (R : List Nat) (I : Nat → Nat → Int32) : Prop := I q 0 = nI kn ∧ I q 1 = nI (st + R.length) ∧ rwl I q st R ∧ I (q + 3) ru = nI (st + R.length) ∧ I (q + 4) ru = uz R
def exW (ru : Nat) (w : List Nat) (cp : List Bool) (sd nm : Bool) (I : Nat → Nat → Int32) : Prop := I 46 2 = nI ru ∧ I 46 4 = nI w.length ∧ I 46 6 = nI (cp.length - 1) ∧ I 46 7 = nI sd.toNat ∧ I 46 8 = nI nm.toNat ∧ wrl I w ∧ cpl I cp
def exN (st kn : Nat) (w : List Nat) (cp : List Bool) (R : List Nat) : Prop := kn ≤ 64 ∧ st + R.length + opc w = kn ∧ w.length = opc w + (cp.length - 1) ∧ 1 ≤ cp.length ∧ cp.length ≤ 9 ∧ ∀ k ∈ w, k < 40
/-- what it leaves -/
def frx (q ru st : Nat) (I0 I : Nat → Nat → Int32) : Prop := (∀ a, a ≠ 44 → a ≠ 46 → a ≠ 47 → a ≠ 48 → a ≠ q → a ≠ q + 1 → a ≠ q + 3 → a ≠ q + 4 → I a = I0 a) ∧ (∀ k, k < st → I (q + 1) k = I0 (q + 1) k) ∧ (∀ j, j ≠ ru → I (q + 3) j = I0 (q + 3) j ∧ I (q + 4) j = I0 (q + 4) j)
theorem frx_re {q ru st : Nat} {I : Nat → Nat → Int32} : frx q ru st I I := ⟨fun _ _ _ _ _ _ _ _ _ => rfl, fun _ _ => rfl, fun _ _ => ⟨rfl, rfl⟩⟩
theorem frx_tr {q ru st : Nat} {I I' I'' : Nat → Nat → Int32} (h : frx q ru st I I') (k : frx q ru st I' I'') : frx q ru st I I'' :=
  ⟨fun a h1 h2 h3 h4 h5 h6 h7 h8 => (k.1 a h1 h2 h3 h4 h5 h6 h7 h8).trans (h.1 a h1 h2 h3 h4 h5 h6 h7 h8), fun j hj => (k.2.1 j hj).trans (h.2.1 j hj), fun j hj => ⟨(k.2.2 j hj).1.trans (h.2.2 j hj).1, (k.2.2 j hj).2.trans (h.2.2 j hj).2⟩⟩
theorem frx_u {q ru st a k : Nat} {I : Nat → Nat → Int32} {x : Int32} (hq : q = 18 ∨ q = 38) (h : a = 46 ∨ a = 47 ∨ a = 48 ∨ a = q) : frx q ru st I (am_u I a k x) :=
  ⟨fun b h1 h2 h3 h4 h5 h6 h7 h8 => am_uRow (by omega), fun j hj => by rw [am_uN (by omega)], fun j hj => ⟨by rw [am_uN (by omega)], by rw [am_uN (by omega)]⟩⟩
section
variable {I I' : Nat → Nat → Int32} {q ru st kn : Nat} {w : List Nat} {cp : List Bool} {R : List Nat} {sd nm : Bool}
theorem wrl_c (h : ∀ k, k < w.length → I' 47 k = I 47 k) (k : wrl I w) : wrl I' w := by
  induction w with
  | nil => trivial
  | cons x w ih => exact ⟨by rw [h w.length (by simp)]; exact k.1, ih (fun j hj => h j (by simp; omega)) k.2⟩
theorem cpl_c (h : ∀ k, k < cp.length → I' 48 k = I 48 k) (k : cpl I cp) : cpl I' cp := by
  induction cp with
  | nil => trivial
  | cons x w ih => exact ⟨by rw [h w.length (by simp)]; exact k.1, ih (fun j hj => h j (by simp; omega)) k.2⟩
theorem rwl_c (h : ∀ k, k < st + R.length → I' (q + 1) k = I (q + 1) k) (k : rwl I q st R) : rwl I' q st R := by
  induction R with
  | nil => trivial
  | cons x w ih => exact ⟨by rw [h (st + w.length) (by simp)]; exact k.1, ih (fun j hj => h j (by simp; omega)) k.2⟩
theorem exL_c (h : ∀ a, (a = q ∨ a = q + 1 ∨ a = q + 3 ∨ a = q + 4) → I' a = I a) (k : exL q ru st kn R I) : exL q ru st kn R I' := by
  unfold exL
  rw [h q (by omega), h (q + 3) (by omega), h (q + 4) (by omega)]
  exact ⟨k.1, k.2.1, rwl_c (fun j _ => by rw [h (q + 1) (by omega)]) k.2.2.1, k.2.2.2⟩
theorem exW_c (h : ∀ a, (a = 46 ∨ a = 47 ∨ a = 48) → I' a = I a) (k : exW ru w cp sd nm I) : exW ru w cp sd nm I' := by
  unfold exW
  rw [h 46 (by omega)]
  exact ⟨k.1, k.2.1, k.2.2.1, k.2.2.2.1, k.2.2.2.2.1, wrl_c (fun j _ => by rw [h 47 (by omega)]) k.2.2.2.2.2.1, cpl_c (fun j _ => by rw [h 48 (by omega)]) k.2.2.2.2.2.2⟩
theorem opc_le : ∀ w : List Nat, opc w ≤ w.length
  | [] => Nat.le_refl _
  | k :: w => by
    have := opc_le w
    show (if k = 28 then 0 else 1) + opc w ≤ w.length + 1
    split <;> omega
theorem stl_p {b : Nat} : ∀ {w R : List Nat}, (stl b w R).2.length + opc (stl b w R).1 = R.length + opc w ∧ (stl b w R).1.length - opc (stl b w R).1 = w.length - opc w ∧ (stl b w R).1.length ≤ w.length ∧ ∀ k ∈ (stl b w R).1, k ∈ w
  | [], R => ⟨rfl, rfl, Nat.le_refl _, fun _ h => h⟩
  | k :: w, R => by
    unfold stl
    split
    · exact ⟨rfl, rfl, Nat.le_refl _, fun _ h => h⟩
    · rename_i hk
      obtain ⟨h1, h2, h3, h4⟩ := @stl_p b w ((10000 + k) :: R)
      have e : opc (k :: w) = 1 + opc w := by show (if k = 28 then 0 else 1) + opc w = _; rw [if_neg (by omega)]
      have e2 : (k :: w).length = w.length + 1 := rfl
      have e3 : ((10000 + k) :: R).length = R.length + 1 := rfl
      have := opc_le w
      rw [e, e2]
      rw [e3] at h1
      exact ⟨by omega, by omega, by omega, fun j hj => List.mem_cons_of_mem _ (h4 j hj)⟩
end
section
variable {d N : Nat} {Q : Value → am_H → Prop} {r : am_rho} {I : Nat → Nat → Int32} {J : Nat → Nat → Int64} {rt rs t rl nt nw nf n p q ru st kn : Nat} {T : Nat → Nat} {v : Int32} {w : List Nat} {cp : List Bool} {R : List Nat} {sd nm : Bool}
theorem s_binding {k : Nat} (hk : k < 40) : am_D (d + 1) 9 [.int (nI k)] (am_hp N r I J) Q = Q (.int (nI (bnd k))) (am_hp N r I J) := by
  rw [e_Expression_binding]
  simp only [am_ifd]
  have : ∀ k, k < 40 → ∀ (A : Nat → Prop), (if nI k = nI 17 then A 1 else if nI k = nI 18 then A 2 else if nI k = nI 19 then A 3 else if nI k = nI 20 then (if nI k < nI 34 then A 0 else A 4) else if nI k = nI 21 then (if nI k < nI 34 then A 0 else A 4) else if nI k = nI 22 then (if nI k < nI 34 then A 0 else A 4) else if nI k = nI 23 then (if nI k < nI 34 then A 0 else A 4) else if nI k = nI 24 then (if nI k < nI 34 then A 0 else A 4) else if nI k = nI 25 then (if nI k < nI 34 then A 0 else A 4) else if nI k = nI 26 then (if nI k < nI 34 then A 0 else A 4) else if nI k = nI 27 then (if nI k < nI 34 then A 0 else A 4) else if nI k = nI 28 then (if nI k < nI 34 then A 0 else A 4) else if nI k = nI 29 then (if nI k < nI 34 then A 0 else A 4) else if nI k = nI 30 then A 5 else if nI k = nI 31 then A 5 else if nI k = nI 32 then A 6 else if nI k = nI 33 then A 6 else if nI k < nI 34 then A 0 else A 4) = A (bnd k) := by
    intro k hk A
    have key : ∀ j, j < 100 → ((nI k = nI j) = (k = j)) := fun j hj => propext (nI_eq (by omega) (by omega))
    have kl : (nI k < nI 34) = (k < 34) := propext (nI_ltI (by omega) (by omega))
    simp only [key 17 (by omega), key 18 (by omega), key 19 (by omega), key 20 (by omega), key 21 (by omega), key 22 (by omega), key 23 (by omega), key 24 (by omega), key 25 (by omega), key 26 (by omega), key 27 (by omega), key 28 (by omega), key 29 (by omega), key 30 (by omega), key 31 (by omega), key 32 (by omega), key 33 (by omega), kl]
    unfold bnd
    by_cases h17 : k = 17
    · rw [if_pos h17, if_pos h17]
    rw [if_neg h17, if_neg h17]
    by_cases h18 : k = 18
    · rw [if_pos h18, if_pos h18]
    rw [if_neg h18, if_neg h18]
    by_cases h19 : k = 19
    · rw [if_pos h19, if_pos h19]
    rw [if_neg h19, if_neg h19]
    by_cases hA : 30 ≤ k
    · rw [if_neg (show ¬ k = 20 by omega), if_neg (show ¬ k = 21 by omega), if_neg (show ¬ k = 22 by omega), if_neg (show ¬ k = 23 by omega), if_neg (show ¬ k = 24 by omega), if_neg (show ¬ k = 25 by omega), if_neg (show ¬ k = 26 by omega), if_neg (show ¬ k = 27 by omega), if_neg (show ¬ k = 28 by omega), if_neg (show ¬ k = 29 by omega)]
      by_cases h30 : k = 30
      · rw [if_pos h30, if_pos (by omega)]
      rw [if_neg h30]
      by_cases h31 : k = 31
      · rw [if_pos h31, if_pos (by omega)]
      rw [if_neg h31, if_neg (show ¬ (k = 30 ∨ k = 31) by omega)]
      by_cases h32 : k = 32
      · rw [if_pos h32, if_pos (by omega)]
      rw [if_neg h32]
      by_cases h33 : k = 33
      · rw [if_pos h33, if_pos (by omega)]
      rw [if_neg h33, if_neg (show ¬ (k = 32 ∨ k = 33) by omega), if_neg (by omega), if_pos (by omega)]
    · have h34 : k < 34 := by omega
      rw [if_neg (show ¬ (k = 30 ∨ k = 31) by omega), if_neg (show ¬ (k = 32 ∨ k = 33) by omega), if_neg (show ¬ 34 ≤ k by omega), if_neg (show ¬ k = 30 by omega), if_neg (show ¬ k = 31 by omega), if_neg (show ¬ k = 32 by omega), if_neg (show ¬ k = 33 by omega)]
      simp only [if_pos h34, ite_self]
  exact this k hk (fun x => Q (.int (nI x)) (am_hp N r I J))
/-- one knot is written -/
theorem s_write {x : Nat} (hq : q = 18 ∨ q = 38) (hro : c_ro I) (hru : ru < 3) (hx : x < 10040) (hL : exL q ru st kn R I) (h64 : st + R.length < 64) (hQ : ∀ I', exL q ru st kn (x :: R) I' → frx q ru st I I' → (∀ a, a ≠ q → a ≠ q + 1 → a ≠ q + 3 → a ≠ q + 4 → I' a = I a) → Q .null (am_hp N r I' J)) : am_D (d + 1) 15 [.ref q, .int (nI ru), .int (nI x)] (am_hp N r I J) Q := by
  obtain ⟨l0, l1, l2, l3, l4⟩ := hL
  have fin : ∀ I', (∀ a, a ≠ q → a ≠ q + 1 → a ≠ q + 3 → a ≠ q + 4 → I' a = I a) → I' q 0 = I q 0 → I' q 1 = nI (st + R.length + 1) → (∀ k, k ≠ st + R.length → I' (q + 1) k = I (q + 1) k) → I' (q + 1) (st + R.length) = nI x → (∀ j, j ≠ ru → I' (q + 3) j = I (q + 3) j ∧ I' (q + 4) j = I (q + 4) j) → I' (q + 3) ru = nI (st + R.length + 1) → I' (q + 4) ru = uz (x :: R) → Q .null (am_hp N r I' J) := by
    intro I' g1 g2 g3 g4 g5 g6 g7 g8
    refine hQ I' ⟨by rw [g2]; exact l0, by rw [g3]; rfl, ⟨g5, rwl_c (fun k hk => g4 k (by omega)) l2⟩, by rw [g7]; rfl, g8⟩ ⟨fun a h1 h2 h3 h4 h5 h6 h7 h8 => g1 a h5 h6 h7 h8, fun k hk => g4 k (by omega), g6⟩ g1
  have e1 : uz (x :: R) = if 10020 ≤ x ∧ x < 10027 then uz R ||| nmk x else uz R := rfl
  rw [e_Laws_write hq, l1, am_ifi (nI_ltI (by omega) (by omega)), if_pos h64, am_gI (by omega) (by omega), am_gI (by omega) (by omega), nI_clamp (by omega), nI_clamp (by omega)]
  have n1 : nI (st + R.length) + nI 1 = nI (st + R.length + 1) := nI_add _ _
  by_cases c : 10020 ≤ x
  · obtain ⟨y, hy⟩ : ∃ y, y = x - 10020 := ⟨_, rfl⟩
    have e3 : nmk x = nI (lw_mk y) <<< (nI (lw_sh y) &&& nI 31) := by unfold nmk; rw [← hy]
    have e2 : (nI x - nI 10000) - nI 20 = nI y := by rw [am_subN (by omega), am_subN (by omega), show x - 10000 - 20 = y by omega]
    rw [e2, am_ifi (nI_ltI (by omega) (by omega)), if_neg (by omega), am_ifi (nI_leI (by omega) (by omega))]
    by_cases c2 : x < 10027
    · obtain ⟨o1, o2⟩ := hro y (by omega)
      rw [if_neg (by omega), am_gI (by omega) (by omega), am_gI (by omega) (by omega), am_gI (by omega) (by omega), am_gI (by omega) (by omega), nI_clamp (by omega)]
      refine fin _ ?_ ?_ ?_ ?_ ?_ ?_ ?_ ?_
      · intro a h1 h2 h3 h4
        rw [am_uRow (by omega), am_uRow (by omega), am_uRow (by omega), am_uRow (by omega)]
      · try simp (config := {maxSteps := 1000000}) (disch := omega) only [nI_add, nI_1, am_mulN, nI_clamp, am_gI, am_ifd, am_ifn, am_asIe, am_asLe, nI_leI, nI_ltI, nI_eq, am_neg1, am_neg1b, tK_u, tK_o, tK_1, tK_2, tK_3, tK_4, tK_5, am_uE, am_uN]
      · try simp (config := {maxSteps := 1000000}) (disch := omega) only [nI_add, nI_1, am_mulN, nI_clamp, am_gI, am_ifd, am_ifn, am_asIe, am_asLe, nI_leI, nI_ltI, nI_eq, am_neg1, am_neg1b, tK_u, tK_o, tK_1, tK_2, tK_3, tK_4, tK_5, am_uE, am_uN, l1, n1]
      · intro k hk; try simp (config := {maxSteps := 1000000}) (disch := omega) only [nI_add, nI_1, am_mulN, nI_clamp, am_gI, am_ifd, am_ifn, am_asIe, am_asLe, nI_leI, nI_ltI, nI_eq, am_neg1, am_neg1b, tK_u, tK_o, tK_1, tK_2, tK_3, tK_4, tK_5, am_uE, am_uN]
      · try simp (config := {maxSteps := 1000000}) (disch := omega) only [nI_add, nI_1, am_mulN, nI_clamp, am_gI, am_ifd, am_ifn, am_asIe, am_asLe, nI_leI, nI_ltI, nI_eq, am_neg1, am_neg1b, tK_u, tK_o, tK_1, tK_2, tK_3, tK_4, tK_5, am_uE, am_uN]
      · intro j hj; constructor <;> try simp (config := {maxSteps := 1000000}) (disch := omega) only [nI_add, nI_1, am_mulN, nI_clamp, am_gI, am_ifd, am_ifn, am_asIe, am_asLe, nI_leI, nI_ltI, nI_eq, am_neg1, am_neg1b, tK_u, tK_o, tK_1, tK_2, tK_3, tK_4, tK_5, am_uE, am_uN]
      · try simp (config := {maxSteps := 1000000}) (disch := omega) only [nI_add, nI_1, am_mulN, nI_clamp, am_gI, am_ifd, am_ifn, am_asIe, am_asLe, nI_leI, nI_ltI, nI_eq, am_neg1, am_neg1b, tK_u, tK_o, tK_1, tK_2, tK_3, tK_4, tK_5, am_uE, am_uN, l1, n1]
      · rw [e1, if_pos (by omega), e3]
        try simp (config := {maxSteps := 1000000}) (disch := omega) only [nI_add, nI_1, am_mulN, nI_clamp, am_gI, am_ifd, am_ifn, am_asIe, am_asLe, nI_leI, nI_ltI, nI_eq, am_neg1, am_neg1b, tK_u, tK_o, tK_1, tK_2, tK_3, tK_4, tK_5, am_uE, am_uN, l4, o1, o2]
    · rw [if_pos (by omega)]
      refine fin _ ?_ ?_ ?_ ?_ ?_ ?_ ?_ ?_
      · intro a h1 h2 h3 h4
        rw [am_uRow (by omega), am_uRow (by omega), am_uRow (by omega)]
      · try simp (config := {maxSteps := 1000000}) (disch := omega) only [nI_add, nI_1, am_mulN, nI_clamp, am_gI, am_ifd, am_ifn, am_asIe, am_asLe, nI_leI, nI_ltI, nI_eq, am_neg1, am_neg1b, tK_u, tK_o, tK_1, tK_2, tK_3, tK_4, tK_5, am_uE, am_uN]
      · try simp (config := {maxSteps := 1000000}) (disch := omega) only [nI_add, nI_1, am_mulN, nI_clamp, am_gI, am_ifd, am_ifn, am_asIe, am_asLe, nI_leI, nI_ltI, nI_eq, am_neg1, am_neg1b, tK_u, tK_o, tK_1, tK_2, tK_3, tK_4, tK_5, am_uE, am_uN, l1, n1]
      · intro k hk; try simp (config := {maxSteps := 1000000}) (disch := omega) only [nI_add, nI_1, am_mulN, nI_clamp, am_gI, am_ifd, am_ifn, am_asIe, am_asLe, nI_leI, nI_ltI, nI_eq, am_neg1, am_neg1b, tK_u, tK_o, tK_1, tK_2, tK_3, tK_4, tK_5, am_uE, am_uN]
      · try simp (config := {maxSteps := 1000000}) (disch := omega) only [nI_add, nI_1, am_mulN, nI_clamp, am_gI, am_ifd, am_ifn, am_asIe, am_asLe, nI_leI, nI_ltI, nI_eq, am_neg1, am_neg1b, tK_u, tK_o, tK_1, tK_2, tK_3, tK_4, tK_5, am_uE, am_uN]
      · intro j hj; constructor <;> try simp (config := {maxSteps := 1000000}) (disch := omega) only [nI_add, nI_1, am_mulN, nI_clamp, am_gI, am_ifd, am_ifn, am_asIe, am_asLe, nI_leI, nI_ltI, nI_eq, am_neg1, am_neg1b, tK_u, tK_o, tK_1, tK_2, tK_3, tK_4, tK_5, am_uE, am_uN]
      · try simp (config := {maxSteps := 1000000}) (disch := omega) only [nI_add, nI_1, am_mulN, nI_clamp, am_gI, am_ifd, am_ifn, am_asIe, am_asLe, nI_leI, nI_ltI, nI_eq, am_neg1, am_neg1b, tK_u, tK_o, tK_1, tK_2, tK_3, tK_4, tK_5, am_uE, am_uN, l1, n1]
      · rw [e1, if_neg (by omega)]
        try simp (config := {maxSteps := 1000000}) (disch := omega) only [nI_add, nI_1, am_mulN, nI_clamp, am_gI, am_ifd, am_ifn, am_asIe, am_asLe, nI_leI, nI_ltI, nI_eq, am_neg1, am_neg1b, tK_u, tK_o, tK_1, tK_2, tK_3, tK_4, tK_5, am_uE, am_uN, l4]
  · have e2 : (nI x - nI 10000) - nI 20 < nI 0 := by
      have h1 : ((nI x - nI 10000) - nI 20).toInt = (x : Int) - 10020 := by
        rw [Int32.toInt_sub, Int32.toInt_sub, nI_toInt (by omega), nI_toInt (by omega), nI_toInt (by omega)]
        have hb : ((x : Int) - (10000 : Nat)).bmod (2 ^ 32) = (x : Int) - (10000 : Nat) := Int.bmod_eq_of_le (by omega) (by omega)
        rw [hb, Int.bmod_eq_of_le (by omega) (by omega)]
        omega
      rw [fa_lt, h1, nI_toInt (by omega)]
      omega
    rw [am_ifd, if_pos e2]
    refine fin _ ?_ ?_ ?_ ?_ ?_ ?_ ?_ ?_
    · intro a h1 h2 h3 h4
      rw [am_uRow (by omega), am_uRow (by omega), am_uRow (by omega)]
    · try simp (config := {maxSteps := 1000000}) (disch := omega) only [nI_add, nI_1, am_mulN, nI_clamp, am_gI, am_ifd, am_ifn, am_asIe, am_asLe, nI_leI, nI_ltI, nI_eq, am_neg1, am_neg1b, tK_u, tK_o, tK_1, tK_2, tK_3, tK_4, tK_5, am_uE, am_uN]
    · try simp (config := {maxSteps := 1000000}) (disch := omega) only [nI_add, nI_1, am_mulN, nI_clamp, am_gI, am_ifd, am_ifn, am_asIe, am_asLe, nI_leI, nI_ltI, nI_eq, am_neg1, am_neg1b, tK_u, tK_o, tK_1, tK_2, tK_3, tK_4, tK_5, am_uE, am_uN, l1, n1]
    · intro k hk; try simp (config := {maxSteps := 1000000}) (disch := omega) only [nI_add, nI_1, am_mulN, nI_clamp, am_gI, am_ifd, am_ifn, am_asIe, am_asLe, nI_leI, nI_ltI, nI_eq, am_neg1, am_neg1b, tK_u, tK_o, tK_1, tK_2, tK_3, tK_4, tK_5, am_uE, am_uN]
    · try simp (config := {maxSteps := 1000000}) (disch := omega) only [nI_add, nI_1, am_mulN, nI_clamp, am_gI, am_ifd, am_ifn, am_asIe, am_asLe, nI_leI, nI_ltI, nI_eq, am_neg1, am_neg1b, tK_u, tK_o, tK_1, tK_2, tK_3, tK_4, tK_5, am_uE, am_uN]
    · intro j hj; constructor <;> try simp (config := {maxSteps := 1000000}) (disch := omega) only [nI_add, nI_1, am_mulN, nI_clamp, am_gI, am_ifd, am_ifn, am_asIe, am_asLe, nI_leI, nI_ltI, nI_eq, am_neg1, am_neg1b, tK_u, tK_o, tK_1, tK_2, tK_3, tK_4, tK_5, am_uE, am_uN]
    · try simp (config := {maxSteps := 1000000}) (disch := omega) only [nI_add, nI_1, am_mulN, nI_clamp, am_gI, am_ifd, am_ifn, am_asIe, am_asLe, nI_leI, nI_ltI, nI_eq, am_neg1, am_neg1b, tK_u, tK_o, tK_1, tK_2, tK_3, tK_4, tK_5, am_uE, am_uN, l1, n1]
    · rw [e1, if_neg (by omega)]
      try simp (config := {maxSteps := 1000000}) (disch := omega) only [nI_add, nI_1, am_mulN, nI_clamp, am_gI, am_ifd, am_ifn, am_asIe, am_asLe, nI_leI, nI_ltI, nI_eq, am_neg1, am_neg1b, tK_u, tK_o, tK_1, tK_2, tK_3, tK_4, tK_5, am_uE, am_uN, l4]
theorem tK_re {X I2 : Nat → Nat → Int32} (h : I2 44 = tK X n T p v 44) : tK I2 n T p v = I2 := by
  funext a j
  by_cases ha : a = 44
  · subst ha
    unfold tK tH
    rw [if_pos rfl]
    by_cases c1 : j = 1
    · subst c1; rw [if_pos rfl, h]; exact tK_1.symm
    rw [if_neg c1]
    by_cases c2 : j = 2
    · subst c2; rw [if_pos rfl, h]; exact tK_2.symm
    rw [if_neg c2]
    by_cases c3 : j = 3
    · subst c3; rw [if_pos rfl, h]; exact tK_3.symm
    rw [if_neg c3]
    by_cases c4 : j = 4
    · subst c4; rw [if_pos rfl, h]; exact tK_4.symm
    rw [if_neg c4]
    by_cases c5 : j = 5
    · subst c5; rw [if_pos rfl, h]; exact tK_5.symm
    rw [if_neg c5]
  · rw [tK_o ha]
/-- signs that have both sides are written -/
theorem s_settle {b : Nat} (hq : q = 18 ∨ q = 38) (hru : ru < 3) (hb : b < 8) : ∀ {w R : List Nat} {I : Nat → Nat → Int32}, c_ro I → exW ru w cp sd nm I → exL q ru st kn R I → st + R.length + opc w ≤ 64 → w.length ≤ 72 → (∀ k ∈ w, k < 40) →
    (∀ I', exW ru (stl b w R).1 cp sd nm I' → exL q ru st kn (stl b w R).2 I' → frx q ru st I I' → (∀ a, a ≠ 44 → a ≠ 46 → a ≠ q → a ≠ q + 1 → a ≠ q + 3 → a ≠ q + 4 → I' a = I a) → Q .null (am_hp N (rt, rs, t, q, 2, nt, nw, nf) (tK I' n T p v) J)) →
    am_V (d + 1) Q 8 0 [some (.ref 46), some (.int (nI b))] [] (am_hp N (rt, rs, t, q, 2, nt, nw, nf) (tK I n T p v) J) := by
  intro w
  induction w with
  | nil =>
    intro R I hro hW hL h64 h72 hk hQ
    have w4 := hW.2.1
    rw [e_Expression_settle_0]
    try simp (config := {maxSteps := 1000000}) (disch := omega) only [nI_add, nI_1, am_mulN, nI_clamp, am_gI, am_ifd, am_ifn, am_asIe, am_asLe, nI_leI, nI_ltI, nI_eq, am_neg1, am_neg1b, tK_u, tK_o, tK_1, tK_2, tK_3, tK_4, tK_5, am_uE, am_uN, w4]
    rw [if_pos (by show (0 : Nat) ≤ 0; omega)]
    exact hQ I hW hL frx_re (fun _ _ _ _ _ _ _ => rfl)
  | cons k w ih =>
    intro R I hro hW hL h64 h72 hk hQ
    have w4 : I 46 4 = nI (w.length + 1) := hW.2.1
    have w47 : I 47 w.length = nI k := hW.2.2.2.2.2.1.1
    have hk40 : k < 40 := hk k (List.mem_cons_self ..)
    have h72' : w.length + 1 ≤ 72 := h72
    have e1 : nI (w.length + 1) - nI 1 = nI w.length := am_subN (by omega)
    have hb40 : bnd k < 8 := by unfold bnd; split; omega; split; omega; split; omega; split; omega; split; omega; split <;> omega
    unfold stl at hQ
    rw [e_Expression_settle_0]
    try simp (config := {maxSteps := 1000000}) (disch := omega) only [nI_add, nI_1, am_mulN, nI_clamp, am_gI, am_ifd, am_ifn, am_asIe, am_asLe, nI_leI, nI_ltI, nI_eq, am_neg1, am_neg1b, tK_u, tK_o, tK_1, tK_2, tK_3, tK_4, tK_5, am_uE, am_uN, w4, e1, w47]
    rw [if_neg (by omega)]
    by_cases c28 : k = 28
    · rw [if_pos (Or.inl c28)] at hQ
      rw [if_pos c28]
      exact hQ I hW hL frx_re (fun _ _ _ _ _ _ _ => rfl)
    · rw [if_neg c28, s_binding hk40, am_asIe, e_Expression_settle_37 hq, am_ifi (nI_ltI (by omega) (by omega))]
      by_cases cb : bnd k < b
      · rw [if_pos (Or.inr cb)] at hQ
        rw [if_pos cb]
        exact hQ I hW hL frx_re (fun _ _ _ _ _ _ _ => rfl)
      · rw [if_neg (by omega)] at hQ
        rw [if_neg cb]
        have hop : opc (k :: w) = 1 + opc w := by show (if k = 28 then 0 else 1) + opc w = _; rw [if_neg c28]
        have w2 : I 46 2 = nI ru := hW.1
        try simp (config := {maxSteps := 1000000}) (disch := omega) only [nI_add, nI_1, am_mulN, nI_clamp, am_gI, am_ifd, am_ifn, am_asIe, am_asLe, nI_leI, nI_ltI, nI_eq, am_neg1, am_neg1b, tK_u, tK_o, tK_1, tK_2, tK_3, tK_4, tK_5, am_uE, am_uN, w4, e1, w47, w2]
        have hW1 : exW ru w cp sd nm (am_u I 46 4 (nI w.length)) := by
          obtain ⟨a1, a2, a3, a4, a5, a6, a7⟩ := hW
          refine ⟨?_, ?_, ?_, ?_, ?_, wrl_c (fun j _ => by rw [am_uN (by omega)]) a6.2, cpl_c (fun j _ => by rw [am_uN (by omega)]) a7⟩
          · rw [am_uN (by omega)]; exact a1
          · rw [am_uE]
          · rw [am_uN (by omega)]; exact a3
          · rw [am_uN (by omega)]; exact a4
          · rw [am_uN (by omega)]; exact a5
        have hL1 : exL q ru st kn R (am_u I 46 4 (nI w.length)) := exL_c (fun a h => am_uRow (by omega)) hL
        have hro1 : c_ro (am_u I 46 4 (nI w.length)) := by unfold c_ro; rw [am_uRow (by omega), am_uRow (by omega)]; exact hro
        have hL2 : exL q ru st kn R (tK (am_u I 46 4 (nI w.length)) n T p v) := exL_c (fun a h => tK_row (by omega)) hL1
        have hro2 : c_ro (tK (am_u I 46 4 (nI w.length)) n T p v) := by unfold c_ro; rw [tK_row (by omega), tK_row (by omega)]; exact hro1
        refine s_write hq hro2 hru (by omega) hL2 (by omega) ?_
        intro I2 g1 g2 g3
        have eI : tK I2 n T p v = I2 := tK_re (g3 44 (by omega) (by omega) (by omega) (by omega))
        rw [← eI, e_Expression_settle_75]
        refine ih ?_ ?_ g1 (by show st + (R.length + 1) + opc w ≤ 64; omega) (by omega) (fun j hj => hk j (List.mem_cons_of_mem _ hj)) ?_
        · unfold c_ro; rw [g3 2001 (by omega) (by omega) (by omega) (by omega), g3 2002 (by omega) (by omega) (by omega) (by omega)]; exact hro2
        · exact exW_c (fun a h => by rw [g3 a (by omega) (by omega) (by omega) (by omega), tK_row (by omega)]) hW1
        · intro I' k1 k2 k3 k4
          refine hQ I' k1 k2 ?_ ?_
          · refine frx_tr (I' := am_u I 46 4 (nI w.length)) (frx_u hq (by omega)) (frx_tr ?_ k3)
            refine ⟨fun a h1 h2 h3 h4 h5 h6 h7 h8 => ?_, fun j hj => ?_, fun j hj => ⟨?_, ?_⟩⟩
            · rw [g2.1 a h1 h2 h3 h4 h5 h6 h7 h8, tK_row h1]
            · rw [g2.2.1 j hj, tK_o (by omega)]
            · rw [(g2.2.2 j hj).1, tK_o (by omega)]
            · rw [(g2.2.2 j hj).2, tK_o (by omega)]
          · intro a h0 h1 h2 h3 h4 h5
            rw [k4 a h0 h1 h2 h3 h4 h5, g3 a h2 h3 h4 h5, tK_row h0, am_uRow h1]
end
