/-! ===== L3: a law told ===== -/
def sgs (k : Nat) : Prop := k = 17 ∨ k = 18 ∨ k = 19 ∨ (30 ≤ k ∧ k < 40)
/-- a knot's code is one -/
def cok (x : Nat) : Prop := x ≤ 9999 ∨ (10020 ≤ x ∧ x < 10027) ∨ ∃ k, sgs k ∧ x = 10000 + k
/-- the signs have their sides, so far: k on the stack -/
def stp (x k k' : Nat) : Prop := ((x ≤ 9999 ∨ (10020 ≤ x ∧ x < 10027)) ∧ k < 64 ∧ k' = k + 1) ∨ (x = 10019 ∧ 1 ≤ k ∧ k' = k) ∨ ((∃ s, sgs s ∧ s ≠ 19 ∧ x = 10000 + s) ∧ 2 ≤ k ∧ k' = k - 1)
def dps : List Nat → Nat → Prop
  | [], k => k = 0
  | x :: R, k => ∃ k1, dps R k1 ∧ stp x k1 k
/-- signs with two sides that wait -/
def bnc : List Nat → Nat
  | [] => 0
  | k :: w => (if k = 28 ∨ k = 19 then 0 else 1) + bnc w
def wok (w : List Nat) : Prop := ∀ k ∈ w, k = 28 ∨ sgs k
theorem dps_len : ∀ {R : List Nat} {k : Nat}, dps R k → k ≤ R.length
  | [], k, h => by have : k = 0 := h; omega
  | x :: R, k, h => by
    obtain ⟨k1, h1, h2⟩ := h
    have := dps_len h1
    show k ≤ R.length + 1
    rcases h2 with ⟨_, _, e⟩ | ⟨_, _, e⟩ | ⟨_, _, e⟩ <;> omega
theorem stl_dps {b : Nat} : ∀ {w R : List Nat}, wok w → dps R (1 + bnc w) → dps (stl b w R).2 (1 + bnc (stl b w R).1) ∧ wok (stl b w R).1
  | [], R, hw, hd => ⟨hd, hw⟩
  | k :: w, R, hw, hd => by
    unfold stl
    split
    · exact ⟨hd, hw⟩
    · rename_i c
      have hw' : wok w := fun j hj => hw j (List.mem_cons_of_mem _ hj)
      refine stl_dps hw' ⟨1 + bnc (k :: w), hd, ?_⟩
      have hk := hw k (List.mem_cons_self ..)
      by_cases e : k = 19
      · refine Or.inr (Or.inl ⟨by omega, by omega, ?_⟩)
        show 1 + bnc w = 1 + ((if k = 28 ∨ k = 19 then 0 else 1) + bnc w)
        rw [if_pos (Or.inr e)]; omega
      · have h1 : bnc (k :: w) = 1 + bnc w := by show (if k = 28 ∨ k = 19 then 0 else 1) + bnc w = _; rw [if_neg (by omega)]
        refine Or.inr (Or.inr ⟨⟨k, ?_, e, rfl⟩, by omega, by omega⟩)
        rcases hk with hk | hk
        · omega
        · exact hk
theorem stl_cok {b : Nat} : ∀ {w R : List Nat}, wok w → (∀ x ∈ R, cok x) → ∀ x ∈ (stl b w R).2, cok x
  | [], R, hw, hd => hd
  | k :: w, R, hw, hd => by
    unfold stl
    split
    · exact hd
    · rename_i c
      refine stl_cok (fun j hj => hw j (List.mem_cons_of_mem _ hj)) ?_
      intro x hx
      rcases List.mem_cons.mp hx with rfl | hx
      · rcases hw k (List.mem_cons_self ..) with hk | hk
        · omega
        · exact Or.inr (Or.inr ⟨k, hk, rfl⟩)
      · exact hd x hx
theorem stl0_all : ∀ {w R : List Nat}, (∀ k ∈ w, k ≠ 28) → (stl 0 w R).1 = []
  | [], R, _ => rfl
  | k :: w, R, h => by
    unfold stl
    rw [if_neg (by have := h k (List.mem_cons_self ..); omega)]
    exact stl0_all (fun j hj => h j (List.mem_cons_of_mem _ hj))
theorem opn_none : ∀ {w : List Nat}, w.length = opc w → ∀ k ∈ w, k ≠ 28
  | [], _, k, hk => by cases hk
  | j :: w, h, k, hk => by
    have h1 : w.length + 1 = (if j = 28 then 0 else 1) + opc w := h
    have := opc_le w
    have hj : j ≠ 28 := by
      intro e; rw [if_pos e] at h1; omega
    rw [if_neg hj] at h1
    rcases List.mem_cons.mp hk with rfl | hk
    · exact hj
    · exact opn_none (by omega) k hk
section
variable {n : Nat} {T : Nat → Nat} {st : Nat}
theorem bnd_sg {k : Nat} (hk : k < 40) (h : bnd k ≠ 0) : sgs k := by
  unfold bnd at h
  unfold sgs
  split at h
  · omega
  · split at h
    · omega
    · split at h
      · omega
      · split at h
        · omega
        · split at h
          · omega
          · split at h <;> omega
/-- what an E that is read leaves -/
theorem sy_ok (h7 : n ≤ 700) : ∀ {m p : Nat} {w : List Nat} {cp : List Bool} {sd nm : Bool} {kn : Nat} {R : List Nat}, p ≤ n → n < tkP n T p + m → exN st kn w cp R → wok w → (∀ x ∈ R, cok x) → dps R ((if sd = true then 0 else 1) + bnc w) → (sy n T m p w cp sd nm kn R).1 = 0 →
    (∀ x ∈ (sy n T m p w cp sd nm kn R).2.2.2, cok x) ∧ dps (sy n T m p w cp sd nm kn R).2.2.2 1 ∧ st + (sy n T m p w cp sd nm kn R).2.2.2.length = (sy n T m p w cp sd nm kn R).2.2.1 ∧ (sy n T m p w cp sd nm kn R).2.2.1 ≤ 64 ∧ tkK n T (sy n T m p w cp sd nm kn R).2.1 = 27 ∧ (sy n T m p w cp sd nm kn R).2.1 ≤ n ∧ tkP n T p ≤ tkP n T (sy n T m p w cp sd nm kn R).2.1
  | 0, p, w, cp, sd, nm, kn, R, hp, hm, hN, hw, hc, hd, hz => by
    have := (tk_pos (T := T) h7 hp).2.1
    omega
  | m + 1, p, w, cp, sd, nm, kn, R, hp, hm, hN, hw, hc, hd, hz => by
    obtain ⟨k1, k2, k3, k4, k5, k6⟩ := tk_pos (T := T) h7 hp
    obtain ⟨n1, n2, n3, n4, n5, n6⟩ := hN
    have hop := opc_le w
    have nxt : tkK n T p ≠ 0 → n < tkP n T (tkE n T p) + m ∧ tkP n T p ≤ tkP n T (tkE n T p) := by
      intro g
      have := (tk_pos (T := T) h7 k3).1
      have := k4 g
      omega
    have tr : ∀ {a b : Nat × Nat × Nat × List Nat}, a = b → tkK n T p ≠ 0 → ((∀ x ∈ b.2.2.2, cok x) ∧ dps b.2.2.2 1 ∧ st + b.2.2.2.length = b.2.2.1 ∧ b.2.2.1 ≤ 64 ∧ tkK n T b.2.1 = 27 ∧ b.2.1 ≤ n ∧ tkP n T (tkE n T p) ≤ tkP n T b.2.1) → ((∀ x ∈ a.2.2.2, cok x) ∧ dps a.2.2.2 1 ∧ st + a.2.2.2.length = a.2.2.1 ∧ a.2.2.1 ≤ 64 ∧ tkK n T a.2.1 = 27 ∧ a.2.1 ≤ n ∧ tkP n T p ≤ tkP n T a.2.1) := by
      intro a b e g h
      subst e
      have := (nxt g).2
      exact ⟨h.1, h.2.1, h.2.2.1, h.2.2.2.1, h.2.2.2.2.1, h.2.2.2.2.2.1, by omega⟩
    cases sd with
    | true =>
      rw [if_pos rfl, Nat.zero_add] at hd
      by_cases c28 : tkK n T p = 28
      · by_cases c9 : 9 ≤ cp.length
        · rw [sy_openF c28 c9] at hz; exact absurd (show (2 : Nat) = 0 from hz) (by omega)
        · have e := sy_open (n := n) (T := T) (m := m) (p := p) (w := w) (cp := cp) (nm := nm) (kn := kn) (R := R) c28 (by omega)
          rw [e] at hz
          refine tr e (by omega) (sy_ok h7 k3 (nxt (by omega)).1 ⟨n1, ?_, ?_, ?_, ?_, ?_⟩ ?_ hc ?_ hz)
          · show st + R.length + (0 + opc w) = kn; omega
          · show w.length + 1 = (0 + opc w) + (cp.length + 1 - 1); omega
          · show 1 ≤ cp.length + 1; omega
          · show cp.length + 1 ≤ 9; omega
          · intro k hk
            rcases List.mem_cons.mp hk with rfl | hk
            · omega
            · exact n6 k hk
          · intro k hk
            rcases List.mem_cons.mp hk with rfl | hk
            · exact Or.inl rfl
            · exact hw k hk
          · rw [if_pos rfl]
            show dps R (0 + (0 + bnc w))
            rw [Nat.zero_add, Nat.zero_add]; exact hd
      · by_cases c19 : tkK n T p = 19 ∧ nm = true
        · obtain ⟨c19, rfl⟩ := c19
          by_cases c64 : 64 ≤ kn
          · rw [sy_notF c19 c64] at hz; exact absurd (show (2 : Nat) = 0 from hz) (by omega)
          · have e := sy_not (n := n) (T := T) (m := m) (p := p) (w := w) (cp := cp) (kn := kn) (R := R) c19 (by omega)
            rw [e] at hz
            refine tr e (by omega) (sy_ok h7 k3 (nxt (by omega)).1 ⟨by omega, ?_, ?_, n4, n5, ?_⟩ ?_ hc ?_ hz)
            · show st + R.length + (1 + opc w) = kn + 1; omega
            · show w.length + 1 = (1 + opc w) + (cp.length - 1); omega
            · intro k hk
              rcases List.mem_cons.mp hk with rfl | hk
              · omega
              · exact n6 k hk
            · intro k hk
              rcases List.mem_cons.mp hk with rfl | hk
              · exact Or.inr (by unfold sgs; omega)
              · exact hw k hk
            · rw [if_pos rfl]
              show dps R (0 + (0 + bnc w))
              rw [Nat.zero_add, Nat.zero_add]; exact hd
        · by_cases c3 : tkK n T p ≠ 2 ∧ (tkK n T p < 20 ∨ 26 < tkK n T p)
          · rw [sy_mis c28 c19 c3] at hz; exact absurd (show (1 : Nat) = 0 from hz) (by omega)
          · by_cases c4 : (tkK n T p = 2 ∧ 9999 < tkV n T p) ∨ 64 ≤ kn
            · rw [sy_muc c28 c19 c3 c4] at hz; exact absurd (show (2 : Nat) = 0 from hz) (by omega)
            · have e := sy_side (n := n) (T := T) (m := m) (p := p) (w := w) (cp := cp) (nm := nm) (kn := kn) (R := R) c28 c19 c3 c4
              rw [e] at hz
              have hx : (if tkK n T p = 2 then tkV n T p else 10000 + tkK n T p) ≤ 9999 ∨ (10020 ≤ (if tkK n T p = 2 then tkV n T p else 10000 + tkK n T p) ∧ (if tkK n T p = 2 then tkV n T p else 10000 + tkK n T p) < 10027) := by
                by_cases c2 : tkK n T p = 2
                · rw [if_pos c2]; omega
                · rw [if_neg c2]; omega
              refine tr e (by omega) (sy_ok h7 k3 (nxt (by omega)).1 ⟨by omega, ?_, n3, n4, n5, n6⟩ hw ?_ ?_ hz)
              · show st + (R.length + 1) + opc w = kn + 1; omega
              · intro x hxm
                rcases List.mem_cons.mp hxm with rfl | hxm
                · rcases hx with hx | hx
                  · exact Or.inl hx
                  · exact Or.inr (Or.inl hx)
                · exact hc x hxm
              · have hl := dps_len hd
                exact ⟨bnc w, hd, Or.inl ⟨hx, by omega, by show 1 + bnc w = bnc w + 1; omega⟩⟩
    | false =>
      rw [if_neg (by simp)] at hd
      by_cases c27 : tkK n T p = 27 ∧ cp.length = 1
      · have e := sy_end (n := n) (T := T) (m := m) (p := p) (w := w) (cp := cp) (nm := nm) (kn := kn) (R := R) c27.1 c27.2
        rw [e]
        obtain ⟨p1, p2, p3, p4⟩ := @stl_p 0 w R
        obtain ⟨q1, q2⟩ := stl_dps (b := 0) hw hd
        have hnil : (stl 0 w R).1 = [] := stl0_all (opn_none (by omega))
        rw [hnil] at p1 q1
        have z1 : opc ([] : List Nat) = 0 := rfl
        refine ⟨stl_cok hw hc, q1, ?_, n1, c27.1, hp, Nat.le_refl _⟩
        show st + (stl 0 w R).2.length = kn
        omega
      · by_cases c29 : tkK n T p = 29 ∧ 1 < cp.length
        · have e := sy_close (n := n) (T := T) (m := m) (p := p) (w := w) (cp := cp) (nm := nm) (kn := kn) (R := R) c29.1 c29.2
          rw [e] at hz
          obtain ⟨p1, p2, p3, p4⟩ := @stl_p 0 w R
          have hop1 := opc_le (stl 0 w R).1
          obtain ⟨q1, q2⟩ := stl_dps (b := 0) hw hd
          rcases @stl0_hd w R with hh | ⟨w', hh⟩
          · exfalso
            rw [hh] at p1 p2
            have z1 : opc ([] : List Nat) = 0 := rfl
            have z2 : ([] : List Nat).length = 0 := rfl
            omega
          · rw [hh] at hz p1 p2 p3 p4 hop1 q1 q2
            refine tr e (by omega) ?_
            rw [hh]
            have h28 : opc (28 :: w') = opc w' := by show (if 28 = 28 then 0 else 1) + opc w' = opc w'; rw [if_pos rfl]; omega
            have hl2 : (28 :: w').length = w'.length + 1 := rfl
            have hb28 : bnc (28 :: w') = bnc w' := by show (if 28 = 28 ∨ 28 = 19 then 0 else 1) + bnc w' = bnc w'; rw [if_pos (Or.inl rfl)]; omega
            have hct : cp.tail.length = cp.length - 1 := List.length_tail
            refine sy_ok h7 k3 (nxt (by omega)).1 ⟨n1, ?_, ?_, ?_, ?_, ?_⟩ (fun j hj => q2 j (List.mem_cons_of_mem _ hj)) (stl_cok hw hc) ?_ hz
            · show st + (stl 0 w R).2.length + opc w' = kn; omega
            · show w'.length = opc w' + (cp.tail.length - 1); omega
            · omega
            · omega
            · intro k hk; exact n6 k (p4 k (List.mem_cons_of_mem _ hk))
            · rw [if_neg (by simp)]
              show dps (stl 0 w R).2 (1 + bnc w')
              rw [hb28] at q1; exact q1
        · by_cases c3 : bnd (tkK n T p) = 0 ∨ tkK n T p = 19 ∨ (bnd (tkK n T p) = 4 ∧ hdb cp = true)
          · rw [sy_sgM c27 c29 c3] at hz; exact absurd (show (1 : Nat) = 0 from hz) (by omega)
          · by_cases c4 : 64 ≤ kn
            · rw [sy_sgF c27 c29 c3 c4] at hz; exact absurd (show (2 : Nat) = 0 from hz) (by omega)
            · have e := sy_sg (n := n) (T := T) (m := m) (p := p) (w := w) (cp := cp) (nm := nm) (kn := kn) (R := R) c27 c29 c3 c4
              rw [e] at hz
              obtain ⟨p1, p2, p3, p4⟩ := @stl_p (bnd (tkK n T p)) w R
              have hop1 := opc_le (stl (bnd (tkK n T p)) w R).1
              obtain ⟨q1, q2⟩ := stl_dps (b := bnd (tkK n T p)) hw hd
              have hsg := bnd_sg k6 (fun g => c3 (Or.inl g))
              have h28 : tkK n T p ≠ 28 := by unfold sgs at hsg; omega
              have h19 : tkK n T p ≠ 19 := fun g => c3 (Or.inr (Or.inl g))
              have hct : cp.tail.length = cp.length - 1 := List.length_tail
              refine tr e (by unfold sgs at hsg; omega) (sy_ok h7 k3 (nxt (by unfold sgs at hsg; omega)).1 ⟨by omega, ?_, ?_, ?_, ?_, ?_⟩ ?_ (stl_cok hw hc) ?_ hz)
              · show st + (stl (bnd (tkK n T p)) w R).2.length + ((if tkK n T p = 28 then 0 else 1) + opc (stl (bnd (tkK n T p)) w R).1) = kn + 1
                rw [if_neg h28]; omega
              · show (stl (bnd (tkK n T p)) w R).1.length + 1 = ((if tkK n T p = 28 then 0 else 1) + opc (stl (bnd (tkK n T p)) w R).1) + (cp.tail.length + 1 - 1)
                rw [if_neg h28]; omega
              · show 1 ≤ cp.tail.length + 1; omega
              · show cp.tail.length + 1 ≤ 9; omega
              · intro k hk
                rcases List.mem_cons.mp hk with rfl | hk
                · exact k6
                · exact n6 k (p4 k hk)
              · intro k hk
                rcases List.mem_cons.mp hk with rfl | hk
                · exact Or.inr hsg
                · exact q2 k hk
              · rw [if_pos rfl]
                show dps _ (0 + ((if tkK n T p = 28 ∨ tkK n T p = 19 then 0 else 1) + bnc (stl (bnd (tkK n T p)) w R).1))
                rw [if_neg (by omega), Nat.zero_add]; exact q1
end
