/-! ===== L3: the model reads a law line ===== -/
section
variable {n m p kn : Nat} {T : Nat → Nat} {w R : List Nat} {cp : List Bool} {nm : Bool}
theorem sy_stop (h7 : tkK n T p ≠ 27) (hc : cp.length = 1) (hn : nxt n T 5 p cp) (hm : 1 ≤ m) : (sy n T m p w cp false nm kn R).1 = 1 ∧ (sy n T m p w cp false nm kn R).2.1 = p := by
  obtain ⟨m, rfl⟩ : ∃ m', m = m' + 1 := ⟨m - 1, by omega⟩
  obtain ⟨a1, a2, a3, a4, a5⟩ := hn
  have b1 := a1 (by omega)
  have b2 := a2 (by omega)
  have b4 := a4 (by omega)
  have b5 := a5 (by omega)
  have c : bnd (tkK n T p) = 0 ∨ tkK n T p = 19 ∨ (bnd (tkK n T p) = 4 ∧ hdb cp = true) := by
    by_cases c34 : 34 ≤ tkK n T p
    · exact Or.inr (Or.inr ⟨bnd_4 c34, a3 (by omega) c34⟩)
    · by_cases c19 : tkK n T p = 19
      · exact Or.inr (Or.inl c19)
      · exact Or.inl (bnd_0 b5 b4 c19 (by omega))
  rw [sy_S, if_neg (fun g => h7 g.1), if_neg (by simp), if_neg (fun g => by omega), if_pos c]
  exact ⟨rfl, rfl⟩
theorem rwz_oo : ∀ {R : List Nat} {Z : Nat → Nat → Int32} {st a : Nat}, a ≠ 114 → a ≠ 115 → rwz st R Z a = Z a
  | [], _, _, _, _, _ => rfl
  | x :: R, Z, st, a, h1, h2 => by
    unfold rwz
    rw [am_uRow (by omega), am_uRow (by omega)]
    exact rwz_oo h1 h2
theorem rwz_lo : ∀ {R : List Nat} {Z : Nat → Nat → Int32} {st k : Nat}, k < st → rwz st R Z 114 k = Z 114 k ∧ rwz st R Z 115 k = Z 115 k
  | [], _, _, _, _ => ⟨rfl, rfl⟩
  | x :: R, Z, st, k, h => by
    unfold rwz
    rw [am_uN (by omega), am_uN (by omega), am_uN (by omega), am_uN (by omega)]
    exact rwz_lo h
theorem rwz_mw {I Z : Nat → Nat → Int32} : ∀ {R : List Nat} {st k : Nat}, mwU I st R → st ≤ k → k < st + R.length → I 114 (64 + k) = rwz st R Z 114 k ∧ I 115 (64 + k) = rwz st R Z 115 k
  | [], st, k, _, h1, h2 => absurd h2 (by show ¬ k < st + 0; omega)
  | x :: R, st, k, h, h1, h2 => by
    obtain ⟨⟨g1, g2⟩, g3⟩ := h
    have h2' : k < st + (R.length + 1) := h2
    unfold rwz
    by_cases e : k = st + R.length
    · subst e
      refine ⟨?_, ?_⟩
      · rw [am_uN (by omega), am_uE]; exact g1
      · rw [am_uE]; exact g2
    · rw [am_uN (by omega), am_uN (by omega), am_uN (by omega), am_uN (by omega)]
      exact rwz_mw g3 h1 (by omega)
end
