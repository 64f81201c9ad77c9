/-! ===== L3: the class's heap while it walks: world w, the keys, the path; values and stack ===== -/
def c_C (I : Nat → Nat → Int32) (w : Nat) (C : Nat → Nat → Int32) (K P : Nat → Int32) : Nat → Nat → Int32 := fun a j =>
  if a = 63 then K j else if a = 68 then P j else if w ≤ a ∧ a ≤ w + 5 then C (a - w) j else I a j
def c_J (J : Nat → Nat → Int64) (vl st : Nat → Int64) : Nat → Nat → Int64 := fun a k => if a = 64 then vl k else if a = 65 then st k else J a k
section
variable {I : Nat → Nat → Int32} {w : Nat} {C : Nat → Nat → Int32} {K P : Nat → Int32} {x : Int32} {J : Nat → Nat → Int64} {vl st : Nat → Int64} {y : Int64}
theorem c_CK {j : Nat} : c_C I w C K P 63 j = K j := rfl
theorem c_CP {j : Nat} : c_C I w C K P 68 j = P j := rfl
theorem c_Co {a j : Nat} (h : a ≠ 63 ∧ a ≠ 68 ∧ (a < w ∨ w + 5 < a)) : c_C I w C K P a j = I a j := by
  unfold c_C; rw [if_neg h.1, if_neg h.2.1, if_neg (by omega)]
theorem c_C0 (hw : w = 49 ∨ w = 55 ∨ w = 82) {j : Nat} : c_C I w C K P w j = C 0 j := by
  unfold c_C; rw [if_neg (by omega), if_neg (by omega), if_pos (by omega), show w - w = 0 by omega]
theorem c_Ci (hw : w = 49 ∨ w = 55 ∨ w = 82) {i j : Nat} (hi : i ≤ 5) : c_C I w C K P (w + i) j = C i j := by
  unfold c_C; rw [if_neg (by omega), if_neg (by omega), if_pos (by omega), show w + i - w = i by omega]
theorem c_ui (hw : w = 49 ∨ w = 55 ∨ w = 82) {i k : Nat} (hi : i ≤ 5) : am_u (c_C I w C K P) (w + i) k x = c_C I w (am_u C i k x) K P := by
  funext a j; unfold am_u c_C; try dsimp only
  by_cases h : a = w + i ∧ j = k
  · rw [if_pos h, if_neg (by omega), if_neg (by omega), if_pos (by omega), if_pos (by omega)]
  · rw [if_neg h]
    by_cases h1 : a = 63
    · rw [if_pos h1, if_pos h1]
    rw [if_neg h1, if_neg h1]
    by_cases h2 : a = 68
    · rw [if_pos h2, if_pos h2]
    rw [if_neg h2, if_neg h2]
    by_cases h3 : w ≤ a ∧ a ≤ w + 5
    · rw [if_pos h3, if_pos h3, if_neg (by omega)]
    · rw [if_neg h3, if_neg h3]
theorem c_u0 (hw : w = 49 ∨ w = 55 ∨ w = 82) {k : Nat} : am_u (c_C I w C K P) w k x = c_C I w (am_u C 0 k x) K P := c_ui hw (i := 0) (by omega)
theorem c_uK {k : Nat} : am_u (c_C I w C K P) 63 k x = c_C I w C (upd K k x) P := by
  funext a j; unfold am_u c_C upd
  by_cases h : a = 63
  · subst h
    by_cases h2 : j = k <;> simp [h2]
  · rw [if_neg (by omega)]
    simp only [h, if_false]
theorem c_uP {k : Nat} : am_u (c_C I w C K P) 68 k x = c_C I w C K (upd P k x) := by
  funext a j; unfold am_u c_C upd
  by_cases h : a = 68
  · subst h
    by_cases h2 : j = k <;> simp [h2]
  · rw [if_neg (by omega)]
    simp only [h, if_false]
theorem c_id : c_C I w (fun i j => I (w + i) j) (I 63) (I 68) = I := by
  funext a j; unfold c_C
  by_cases h1 : a = 63
  · rw [if_pos h1, h1]
  rw [if_neg h1]
  by_cases h2 : a = 68
  · rw [if_pos h2, h2]
  rw [if_neg h2]
  by_cases h3 : w ≤ a ∧ a ≤ w + 5
  · rw [if_pos h3]; show I (w + (a - w)) j = _; rw [show w + (a - w) = a by omega]
  · rw [if_neg h3]
theorem c_Jv {k : Nat} : c_J J vl st 64 k = vl k := rfl
theorem c_Js {k : Nat} : c_J J vl st 65 k = st k := rfl
theorem c_uv {k : Nat} : am_uJ (c_J J vl st) 64 k y = c_J J (vp_updL vl k y) st := by
  funext a j; unfold am_uJ c_J vp_updL
  by_cases h : a = 64
  · subst h
    by_cases h2 : j = k <;> simp [h2]
  · simp [h]
theorem c_us {k : Nat} : am_uJ (c_J J vl st) 65 k y = c_J J vl (vp_updL st k y) := by
  funext a j; unfold am_uJ c_J vp_updL
  by_cases h : a = 65
  · subst h
    by_cases h2 : j = k <;> simp [h2]
  · simp [h]
theorem c_Jid : c_J J (J 64) (J 65) = J := by
  funext a j; unfold c_J
  by_cases h : a = 64
  · rw [if_pos h, h]
  · rw [if_neg h]
    by_cases h2 : a = 65
    · rw [if_pos h2, h2]
    · rw [if_neg h2]
end
/-- worlds: the class's (rows C) and the model's (W); lit apart -/
def cw_rel (I : Nat → Nat → Int32) (C W : Nat → Nat → Int32) : Prop :=
  C 0 0 = W 0 0 ∧ C 0 1 = W 1 0 ∧ C 0 2 = W 2 0 ∧ C 0 3 = W 4 0 ∧ (∀ s, s < m_nZ I → C 1 s = W 5 s) ∧
  (∀ s, s < 5 → ∀ l, l < 32 → bt (C 2 s) l = decide (l < m_nL I ∧ W 6 l = nI 1 ∧ W 7 l = nI s)) ∧
  (∀ h, h < 8 → ∀ l, l < 32 → bt (C 3 h) l = decide (l < m_nL I ∧ W 6 l = nI 0 ∧ W 7 l = nI h)) ∧
  (∀ l, l < 32 → bt (C 0 4) l = decide (l < m_nL I ∧ W 6 l = nI 2)) ∧
  (∀ l, l < m_nL I → C 4 l = W 8 l) ∧ (∀ h, h < m_nH I → C 5 h = W 9 h)
def c_take (C : Nat → Nat → Int32) (s b : Nat) : Nat → Nat → Int32 := fun f l =>
  if f = 4 ∧ l < 8 ∧ bt (C 3 b) l = true then nI s else am_u (am_u C 3 b (nI 0)) 2 s (C 2 s ||| C 3 b) f l
def c_over (C : Nat → Nat → Int32) (s : Nat) (m : Int32) : Nat → Nat → Int32 := am_u (am_u C 0 4 (C 0 4 ||| (C 2 s &&& m))) 2 s (C 2 s &&& (m ^^^ (-nI 1)))
def c_down (C : Nat → Nat → Int32) (s h : Nat) : Nat → Nat → Int32 := am_u (am_u C 3 h (C 3 h ||| C 2 s)) 2 s (nI 0)
theorem n01 : ¬ nI 0 = nI 1 := by decide +kernel
theorem n02 : ¬ nI 0 = nI 2 := by decide +kernel
theorem n10 : ¬ nI 1 = nI 0 := by decide +kernel
theorem n12 : ¬ nI 1 = nI 2 := by decide +kernel
theorem n20 : ¬ nI 2 = nI 0 := by decide +kernel
theorem n21 : ¬ nI 2 = nI 1 := by decide +kernel
theorem n8 {a b : Nat} (ha : a < 100) (hb : b < 100) : (nI a = nI b) = (a = b) := propext (nI_eq (by omega) (by omega))
section
variable {I C W : Nat → Nat → Int32}
theorem cw_take {s b : Nat} (hr : cw_rel I C W) (hs : s < 5) (hb : b < 8) (hL : m_nL I ≤ 8) : cw_rel I (c_take C s b) (m_takeF I (nI s) (nI b) W (m_nL I)) := by
  obtain ⟨r0, r1, r2, r3, r4, r5, r6, r7, r8, r9⟩ := hr
  have c0 : ∀ k, c_take C s b 0 k = C 0 k := by
    intro k; unfold c_take; rw [if_neg (by omega), am_uN (by omega), am_uN (by omega)]
  have c1 : ∀ k, c_take C s b 1 k = C 1 k := by
    intro k; unfold c_take; rw [if_neg (by omega), am_uN (by omega), am_uN (by omega)]
  have c5 : ∀ k, c_take C s b 5 k = C 5 k := by
    intro k; unfold c_take; rw [if_neg (by omega), am_uN (by omega), am_uN (by omega)]
  have w0 : ∀ f k, f < 6 ∨ f = 9 → m_takeF I (nI s) (nI b) W (m_nL I) f k = W f k := by
    intro f k h; unfold m_takeF; rw [if_neg (by omega)]
  have w6 : ∀ l, m_takeF I (nI s) (nI b) W (m_nL I) 6 l = if l < m_nL I ∧ W 6 l = nI 0 ∧ W 7 l = nI b then nI 1 else W 6 l := by
    intro l; unfold m_takeF; simp
  have w7 : ∀ l, m_takeF I (nI s) (nI b) W (m_nL I) 7 l = if l < m_nL I ∧ W 6 l = nI 0 ∧ W 7 l = nI b then nI s else W 7 l := by
    intro l; unfold m_takeF; simp
  have w8 : ∀ l, m_takeF I (nI s) (nI b) W (m_nL I) 8 l = if l < m_nL I ∧ W 6 l = nI 0 ∧ W 7 l = nI b then nI s else W 8 l := by
    intro l; unfold m_takeF; simp
  refine ⟨?_, ?_, ?_, ?_, ?_, ?_, ?_, ?_, ?_, ?_⟩
  · rw [c0, w0 _ _ (by omega)]; exact r0
  · rw [c0, w0 _ _ (by omega)]; exact r1
  · rw [c0, w0 _ _ (by omega)]; exact r2
  · rw [c0, w0 _ _ (by omega)]; exact r3
  · intro k hk; rw [c1, w0 _ _ (by omega)]; exact r4 k hk
  · intro k hk l hl
    rw [w6, w7]
    unfold c_take
    rw [if_neg (by omega)]
    by_cases e : k = s
    · subst e
      rw [am_uE, b_or, r5 k hk l hl, r6 b hb l hl]
      by_cases c : l < m_nL I ∧ W 6 l = nI 0 ∧ W 7 l = nI b
      · simp [c]
      · simp only [c, if_false, decide_false, Bool.or_false]
    · rw [am_uN (by omega), am_uN (by omega), r5 k hk l hl]
      by_cases c : l < m_nL I ∧ W 6 l = nI 0 ∧ W 7 l = nI b
      · simp [c, n01, n8 (show s < 100 by omega) (show k < 100 by omega), Ne.symm e]
      · simp only [c, if_false]
  · intro k hk l hl
    rw [w6, w7]
    unfold c_take
    rw [if_neg (by omega), am_uN (by omega)]
    by_cases e : k = b
    · subst e
      rw [am_uE, b_z]
      by_cases c : l < m_nL I ∧ W 6 l = nI 0 ∧ W 7 l = nI k
      · simp [c, n10]
      · simp only [c, if_false, decide_false]
    · rw [am_uN (by omega), r6 k hk l hl]
      by_cases c : l < m_nL I ∧ W 6 l = nI 0 ∧ W 7 l = nI b
      · simp [c, n10, n8 (show b < 100 by omega) (show k < 100 by omega), Ne.symm e]
      · simp only [c, if_false]
  · intro l hl
    rw [c0, w6, r7 l hl]
    by_cases c : l < m_nL I ∧ W 6 l = nI 0 ∧ W 7 l = nI b
    · simp [c, n02, n12]
    · simp only [c, if_false]
  · intro l hl
    rw [w8]
    unfold c_take
    rw [am_uN (by omega), am_uN (by omega), r6 b hb l (by omega)]
    by_cases c : l < m_nL I ∧ W 6 l = nI 0 ∧ W 7 l = nI b
    · simp [c, show l < 8 by omega]
    · simp only [c, if_false, decide_false, Bool.false_eq_true, and_false]
      exact r8 l hl
  · intro k hk; rw [c5, w0 _ _ (by omega)]; exact r9 k hk
theorem cw_over {s h : Nat} {m : Int32} (hr : cw_rel I C W) (hs : s < 5) (hm : ∀ l, l < 32 → bt m l = decide (l < m_nL I ∧ I 108 l = nI h)) : cw_rel I (c_over C s m) (m_bringF I (nI s) (nI h) W (m_nL I)) := by
  obtain ⟨r0, r1, r2, r3, r4, r5, r6, r7, r8, r9⟩ := hr
  have c0 : ∀ f k, f ≠ 0 ∨ k ≠ 4 → f ≠ 2 → c_over C s m f k = C f k := by
    intro f k h1 h2; unfold c_over; rw [am_uN (by omega), am_uN (by omega)]
  have w0 : ∀ f k, f < 6 ∨ f = 8 ∨ f = 9 → m_bringF I (nI s) (nI h) W (m_nL I) f k = W f k := by
    intro f k h; unfold m_bringF; rw [if_neg (by omega)]
  have w6 : ∀ l, m_bringF I (nI s) (nI h) W (m_nL I) 6 l = if l < m_nL I ∧ (W 6 l = nI 1 ∧ W 7 l = nI s) ∧ I 108 l = nI h then nI 2 else W 6 l := by
    intro l; unfold m_bringF; simp
  have w7 : ∀ l, m_bringF I (nI s) (nI h) W (m_nL I) 7 l = if l < m_nL I ∧ (W 6 l = nI 1 ∧ W 7 l = nI s) ∧ I 108 l = nI h then nI h else W 7 l := by
    intro l; unfold m_bringF; simp
  refine ⟨?_, ?_, ?_, ?_, ?_, ?_, ?_, ?_, ?_, ?_⟩
  · rw [c0 _ _ (by omega) (by omega), w0 _ _ (by omega)]; exact r0
  · rw [c0 _ _ (by omega) (by omega), w0 _ _ (by omega)]; exact r1
  · rw [c0 _ _ (by omega) (by omega), w0 _ _ (by omega)]; exact r2
  · rw [c0 _ _ (by omega) (by omega), w0 _ _ (by omega)]; exact r3
  · intro k hk; rw [c0 _ _ (by omega) (by omega), w0 _ _ (by omega)]; exact r4 k hk
  · intro k hk l hl
    rw [w6, w7]
    unfold c_over
    by_cases e : k = s
    · subst e
      rw [am_uE, b_and, b_not hl, r5 k hk l hl, hm l hl]
      by_cases c : l < m_nL I ∧ (W 6 l = nI 1 ∧ W 7 l = nI k) ∧ I 108 l = nI h
      · simp [c, n21]
      · simp only [c, if_false]
        by_cases c1 : l < m_nL I <;> by_cases c2 : W 6 l = nI 1 <;> by_cases c3 : W 7 l = nI k <;> simp_all <;> (intros; omega)
    · rw [am_uN (by omega), am_uN (by omega), r5 k hk l hl]
      by_cases c : l < m_nL I ∧ (W 6 l = nI 1 ∧ W 7 l = nI s) ∧ I 108 l = nI h
      · simp [c, n21, n8 (show s < 100 by omega) (show k < 100 by omega), Ne.symm e]
      · simp only [c, if_false]
  · intro k hk l hl
    rw [w6, w7, c0 _ _ (by omega) (by omega), r6 k hk l hl]
    by_cases c : l < m_nL I ∧ (W 6 l = nI 1 ∧ W 7 l = nI s) ∧ I 108 l = nI h
    · simp [c, n10, n20]
    · simp only [c, if_false]
  · intro l hl
    rw [w6]
    unfold c_over
    rw [am_uN (by omega), am_uE, b_or, b_and, r7 l hl, r5 s hs l hl, hm l hl]
    by_cases c : l < m_nL I ∧ (W 6 l = nI 1 ∧ W 7 l = nI s) ∧ I 108 l = nI h
    · simp [c, n12]
    · simp only [c, if_false]
      by_cases c1 : l < m_nL I <;> by_cases c2 : W 6 l = nI 1 <;> by_cases c3 : W 7 l = nI s <;> simp_all <;> (intros; omega)
  · intro l hl; rw [c0 _ _ (by omega) (by omega), w0 _ _ (by omega)]; exact r8 l hl
  · intro k hk; rw [c0 _ _ (by omega) (by omega), w0 _ _ (by omega)]; exact r9 k hk
theorem cw_down {s h : Nat} (hr : cw_rel I C W) (hs : s < 5) (hh : h < 8) : cw_rel I (c_down C s h) (m_downF (nI s) (nI h) W (m_nL I)) := by
  obtain ⟨r0, r1, r2, r3, r4, r5, r6, r7, r8, r9⟩ := hr
  have c0 : ∀ f k, f ≠ 2 → f ≠ 3 → c_down C s h f k = C f k := by
    intro f k h1 h2; unfold c_down; rw [am_uN (by omega), am_uN (by omega)]
  have w0 : ∀ f k, f < 6 ∨ f = 8 ∨ f = 9 → m_downF (nI s) (nI h) W (m_nL I) f k = W f k := by
    intro f k h; unfold m_downF; rw [if_neg (by omega)]
  have w6 : ∀ l, m_downF (nI s) (nI h) W (m_nL I) 6 l = if l < m_nL I ∧ W 6 l = nI 1 ∧ W 7 l = nI s then nI 0 else W 6 l := by
    intro l; unfold m_downF; simp
  have w7 : ∀ l, m_downF (nI s) (nI h) W (m_nL I) 7 l = if l < m_nL I ∧ W 6 l = nI 1 ∧ W 7 l = nI s then nI h else W 7 l := by
    intro l; unfold m_downF; simp
  refine ⟨?_, ?_, ?_, ?_, ?_, ?_, ?_, ?_, ?_, ?_⟩
  · rw [c0 _ _ (by omega) (by omega), w0 _ _ (by omega)]; exact r0
  · rw [c0 _ _ (by omega) (by omega), w0 _ _ (by omega)]; exact r1
  · rw [c0 _ _ (by omega) (by omega), w0 _ _ (by omega)]; exact r2
  · rw [c0 _ _ (by omega) (by omega), w0 _ _ (by omega)]; exact r3
  · intro k hk; rw [c0 _ _ (by omega) (by omega), w0 _ _ (by omega)]; exact r4 k hk
  · intro k hk l hl
    rw [w6, w7]
    unfold c_down
    by_cases e : k = s
    · subst e
      rw [am_uE, b_z]
      by_cases c : l < m_nL I ∧ W 6 l = nI 1 ∧ W 7 l = nI k
      · simp [c, n01]
      · simp only [c, if_false, decide_false]
    · rw [am_uN (by omega), am_uN (by omega), r5 k hk l hl]
      by_cases c : l < m_nL I ∧ W 6 l = nI 1 ∧ W 7 l = nI s
      · simp [c, n01, n8 (show s < 100 by omega) (show k < 100 by omega), Ne.symm e]
      · simp only [c, if_false]
  · intro k hk l hl
    rw [w6, w7]
    unfold c_down
    rw [am_uN (by omega)]
    by_cases e : k = h
    · subst e
      rw [am_uE, b_or, r6 k hk l hl, r5 s hs l hl]
      by_cases c : l < m_nL I ∧ W 6 l = nI 1 ∧ W 7 l = nI s
      · simp [c]
      · simp only [c, if_false, decide_false, Bool.or_false]
    · rw [am_uN (by omega), r6 k hk l hl]
      by_cases c : l < m_nL I ∧ W 6 l = nI 1 ∧ W 7 l = nI s
      · simp [c, n10, n8 (show h < 100 by omega) (show k < 100 by omega), Ne.symm e]
      · simp only [c, if_false]
  · intro l hl
    rw [w6, c0 _ _ (by omega) (by omega), r7 l hl]
    by_cases c : l < m_nL I ∧ W 6 l = nI 1 ∧ W 7 l = nI s
    · simp [c, n02, n12]
    · simp only [c, if_false]
  · intro l hl; rw [c0 _ _ (by omega) (by omega), w0 _ _ (by omega)]; exact r8 l hl
  · intro k hk; rw [c0 _ _ (by omega) (by omega), w0 _ _ (by omega)]; exact r9 k hk
end
