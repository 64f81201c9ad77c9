/-! ===== L3: the model's heap while it walks: its world n, workedMany, far, trace; names and worked ===== -/
def m_M (I : Nat → Nat → Int32) (n : Nat) (W : Nat → Nat → Int32) (v : Int32) (F T : Nat → Int32) : Nat → Nat → Int32 := fun a j =>
  if a = 93 ∧ j = 39 then v
  else if a = 128 then F j else if a = 129 then T j
  else if 118 ≤ a ∧ a ≤ 122 ∧ j = n then W (a - 118) 0
  else if a = 123 ∧ 5 * n ≤ j ∧ j < 5 * n + 5 then W 5 (j - 5 * n)
  else if 124 ≤ a ∧ a ≤ 127 ∧ 8 * n ≤ j ∧ j < 8 * n + 8 then W (a - 118) (j - 8 * n)
  else I a j
/-- world n as it lies in the rows -/
def m_g (I : Nat → Nat → Int32) (n : Nat) : Nat → Nat → Int32 := fun f k =>
  if f < 5 then I (118 + f) n else if f = 5 then (if k < 5 then I 123 (5 * n + k) else nI 0) else if f < 10 ∧ k < 8 then I (118 + f) (8 * n + k) else nI 0
def m_J (J : Nat → Nat → Int64) (nm wk : Nat → Int64) : Nat → Nat → Int64 := fun a k => if a = 116 then nm k else if a = 117 then wk k else J a k
section
variable {I : Nat → Nat → Int32} {n : Nat} {W : Nat → Nat → Int32} {v x : Int32} {F T : Nat → Int32} {J : Nat → Nat → Int64} {nm wk : Nat → Int64} {y : Int64}
theorem m_Mo {a j : Nat} (h : (a < 93 ∨ a = 93 ∧ j ≠ 39) ∨ (93 < a ∧ a < 118) ∨ 129 < a) : m_M I n W v F T a j = I a j := by
  unfold m_M
  rw [if_neg (by omega), if_neg (by omega), if_neg (by omega), if_neg (by omega), if_neg (by omega), if_neg (by omega)]
theorem m_Mv : m_M I n W v F T 93 39 = v := by unfold m_M; rw [if_pos ⟨rfl, rfl⟩]
theorem m_MF {j : Nat} : m_M I n W v F T 128 j = F j := by unfold m_M; rw [if_neg (by omega), if_pos rfl]
theorem m_MT {j : Nat} : m_M I n W v F T 129 j = T j := by unfold m_M; rw [if_neg (by omega), if_neg (by omega), if_pos rfl]
theorem m_M0 : m_M I n W v F T 118 n = W 0 0 := by unfold m_M; rw [if_neg (by omega), if_neg (by omega), if_neg (by omega), if_pos (by omega)]
theorem m_M1 : m_M I n W v F T 119 n = W 1 0 := by unfold m_M; rw [if_neg (by omega), if_neg (by omega), if_neg (by omega), if_pos (by omega)]
theorem m_M2 : m_M I n W v F T 120 n = W 2 0 := by unfold m_M; rw [if_neg (by omega), if_neg (by omega), if_neg (by omega), if_pos (by omega)]
theorem m_M3 : m_M I n W v F T 121 n = W 3 0 := by unfold m_M; rw [if_neg (by omega), if_neg (by omega), if_neg (by omega), if_pos (by omega)]
theorem m_M4 : m_M I n W v F T 122 n = W 4 0 := by unfold m_M; rw [if_neg (by omega), if_neg (by omega), if_neg (by omega), if_pos (by omega)]
theorem m_M5 {s : Nat} (h : s < 5) : m_M I n W v F T 123 (5 * n + s) = W 5 s := by
  unfold m_M; rw [if_neg (by omega), if_neg (by omega), if_neg (by omega), if_neg (by omega), if_pos (by omega), show 5 * n + s - 5 * n = s by omega]
theorem m_M6 {l : Nat} (h : l < 8) : m_M I n W v F T 124 (8 * n + l) = W 6 l := by
  unfold m_M; rw [if_neg (by omega), if_neg (by omega), if_neg (by omega), if_neg (by omega), if_neg (by omega), if_pos (by omega), show 8 * n + l - 8 * n = l by omega]
theorem m_M7 {l : Nat} (h : l < 8) : m_M I n W v F T 125 (8 * n + l) = W 7 l := by
  unfold m_M; rw [if_neg (by omega), if_neg (by omega), if_neg (by omega), if_neg (by omega), if_neg (by omega), if_pos (by omega), show 8 * n + l - 8 * n = l by omega]
theorem m_M8 {l : Nat} (h : l < 8) : m_M I n W v F T 126 (8 * n + l) = W 8 l := by
  unfold m_M; rw [if_neg (by omega), if_neg (by omega), if_neg (by omega), if_neg (by omega), if_neg (by omega), if_pos (by omega), show 8 * n + l - 8 * n = l by omega]
theorem m_M9 {l : Nat} (h : l < 8) : m_M I n W v F T 127 (8 * n + l) = W 9 l := by
  unfold m_M; rw [if_neg (by omega), if_neg (by omega), if_neg (by omega), if_neg (by omega), if_neg (by omega), if_pos (by omega), show 8 * n + l - 8 * n = l by omega]
theorem m_wv : am_u (m_M I n W v F T) 93 39 x = m_M I n W x F T := by
  funext a j; unfold am_u m_M; try dsimp only
  by_cases h : a = 93 ∧ j = 39
  · rw [if_pos h, if_pos h]
  · rw [if_neg h, if_neg h, if_neg h]
theorem m_wS {f : Nat} (hf : f < 5) : am_u (m_M I n W v F T) (118 + f) n x = m_M I n (am_u W f 0 x) v F T := by
  funext a j; unfold am_u m_M; try dsimp only
  by_cases h : a = 118 + f ∧ j = n
  · rw [if_pos h, if_neg (by omega), if_neg (by omega), if_neg (by omega), if_pos (by omega), if_pos (by omega)]
  · rw [if_neg h]
    by_cases h1 : 118 ≤ a ∧ a ≤ 122 ∧ j = n
    · rw [if_neg (by omega), if_neg (by omega), if_neg (by omega), if_pos h1, if_neg (by omega), if_neg (by omega), if_neg (by omega), if_pos h1, if_neg (by omega)]
    · simp only [h1, if_false]
      by_cases h2 : a = 123 ∧ 5 * n ≤ j ∧ j < 5 * n + 5
      · simp only [h2, true_and, and_self, if_true, show ¬ (5 = f ∧ j - 5 * n = 0) by omega, if_false]
      · by_cases h3 : 124 ≤ a ∧ a ≤ 127 ∧ 8 * n ≤ j ∧ j < 8 * n + 8
        · simp only [h2, h3, show ¬ (a - 118 = f ∧ j - 8 * n = 0) by omega, if_false, if_true, and_self]
        · simp only [h2, h3, if_false]
theorem m_w0 : am_u (m_M I n W v F T) 118 n x = m_M I n (am_u W 0 0 x) v F T := m_wS (f := 0) (by omega)
theorem m_w1 : am_u (m_M I n W v F T) 119 n x = m_M I n (am_u W 1 0 x) v F T := m_wS (f := 1) (by omega)
theorem m_w2 : am_u (m_M I n W v F T) 120 n x = m_M I n (am_u W 2 0 x) v F T := m_wS (f := 2) (by omega)
theorem m_w3 : am_u (m_M I n W v F T) 121 n x = m_M I n (am_u W 3 0 x) v F T := m_wS (f := 3) (by omega)
theorem m_w4 : am_u (m_M I n W v F T) 122 n x = m_M I n (am_u W 4 0 x) v F T := m_wS (f := 4) (by omega)
theorem m_w5 {s : Nat} (hs : s < 5) : am_u (m_M I n W v F T) 123 (5 * n + s) x = m_M I n (am_u W 5 s x) v F T := by
  funext a j; unfold am_u m_M; try dsimp only
  by_cases h : a = 123 ∧ j = 5 * n + s
  · rw [if_pos h, if_neg (by omega), if_neg (by omega), if_neg (by omega), if_neg (by omega), if_pos (by omega), if_pos (by omega)]
  · rw [if_neg h]
    by_cases h1 : 118 ≤ a ∧ a ≤ 122 ∧ j = n
    · rw [if_neg (by omega), if_neg (by omega), if_neg (by omega), if_pos h1, if_neg (by omega), if_neg (by omega), if_neg (by omega), if_pos h1, if_neg (by omega)]
    · simp only [h1, if_false]
      by_cases h2 : a = 123 ∧ 5 * n ≤ j ∧ j < 5 * n + 5
      · simp only [h2, true_and, and_self, if_true, show ¬ (j - 5 * n = s) by omega, if_false, and_false]
      · by_cases h3 : 124 ≤ a ∧ a ≤ 127 ∧ 8 * n ≤ j ∧ j < 8 * n + 8
        · simp only [h2, h3, show ¬ (a - 118 = 5 ∧ j - 8 * n = s) by omega, if_false, if_true, and_self]
        · simp only [h2, h3, if_false]
theorem m_wL {f l : Nat} (hf : 6 ≤ f ∧ f < 10) (hl : l < 8) : am_u (m_M I n W v F T) (118 + f) (8 * n + l) x = m_M I n (am_u W f l x) v F T := by
  funext a j; unfold am_u m_M; try dsimp only
  by_cases h : a = 118 + f ∧ j = 8 * n + l
  · rw [if_pos h, if_neg (by omega), if_neg (by omega), if_neg (by omega), if_neg (by omega), if_neg (by omega), if_pos (by omega), if_pos (by omega)]
  · rw [if_neg h]
    by_cases h1 : 118 ≤ a ∧ a ≤ 122 ∧ j = n
    · rw [if_neg (by omega), if_neg (by omega), if_neg (by omega), if_pos h1, if_neg (by omega), if_neg (by omega), if_neg (by omega), if_pos h1, if_neg (by omega)]
    · simp only [h1, if_false]
      by_cases h2 : a = 123 ∧ 5 * n ≤ j ∧ j < 5 * n + 5
      · simp only [h2, true_and, and_self, if_true, show ¬ (5 = f ∧ j - 5 * n = l) by omega, if_false]
      · by_cases h3 : 124 ≤ a ∧ a ≤ 127 ∧ 8 * n ≤ j ∧ j < 8 * n + 8
        · simp only [h2, h3, show ¬ (a - 118 = f ∧ j - 8 * n = l) by omega, if_false, if_true, and_self]
        · simp only [h2, h3, if_false]
theorem m_w6 {l : Nat} (hl : l < 8) : am_u (m_M I n W v F T) 124 (8 * n + l) x = m_M I n (am_u W 6 l x) v F T := m_wL (f := 6) (by omega) hl
theorem m_w7 {l : Nat} (hl : l < 8) : am_u (m_M I n W v F T) 125 (8 * n + l) x = m_M I n (am_u W 7 l x) v F T := m_wL (f := 7) (by omega) hl
theorem m_w8 {l : Nat} (hl : l < 8) : am_u (m_M I n W v F T) 126 (8 * n + l) x = m_M I n (am_u W 8 l x) v F T := m_wL (f := 8) (by omega) hl
theorem m_w9 {l : Nat} (hl : l < 8) : am_u (m_M I n W v F T) 127 (8 * n + l) x = m_M I n (am_u W 9 l x) v F T := m_wL (f := 9) (by omega) hl
theorem m_wF {k : Nat} : am_u (m_M I n W v F T) 128 k x = m_M I n W v (upd F k x) T := by
  funext a j; unfold am_u m_M upd
  by_cases h : a = 128
  · subst h
    by_cases h2 : j = k
    · simp [h2]
    · simp [h2]
  · have : ¬ (a = 128 ∧ j = k) := by omega
    rw [if_neg this]
    simp only [h, if_false]
theorem m_wT {k : Nat} : am_u (m_M I n W v F T) 129 k x = m_M I n W v F (upd T k x) := by
  funext a j; unfold am_u m_M upd
  by_cases h : a = 129
  · subst h
    by_cases h2 : j = k
    · simp [h2]
    · simp [h2]
  · have : ¬ (a = 129 ∧ j = k) := by omega
    rw [if_neg this]
    simp only [h, if_false]
theorem m_id : m_M I n (m_g I n) (I 93 39) (I 128) (I 129) = I := by
  funext a j; unfold m_M m_g
  by_cases h0 : a = 93 ∧ j = 39
  · rw [if_pos h0, h0.1, h0.2]
  · rw [if_neg h0]
    by_cases h1 : a = 128
    · rw [if_pos h1, h1]
    · rw [if_neg h1]
      by_cases h2 : a = 129
      · rw [if_pos h2, h2]
      · rw [if_neg h2]
        by_cases h3 : 118 ≤ a ∧ a ≤ 122 ∧ j = n
        · rw [if_pos h3, if_pos (by omega), show 118 + (a - 118) = a by omega, h3.2.2]
        · rw [if_neg h3]
          by_cases h4 : a = 123 ∧ 5 * n ≤ j ∧ j < 5 * n + 5
          · rw [if_pos h4, if_neg (by omega), if_pos rfl, if_pos (by omega), h4.1, show 5 * n + (j - 5 * n) = j by omega]
          · rw [if_neg h4]
            by_cases h5 : 124 ≤ a ∧ a ≤ 127 ∧ 8 * n ≤ j ∧ j < 8 * n + 8
            · rw [if_pos h5, if_neg (by omega), if_neg (by omega), if_pos (by omega), show 118 + (a - 118) = a by omega, show 8 * n + (j - 8 * n) = j by omega]
            · rw [if_neg h5]
theorem m_Jn {k : Nat} : m_J J nm wk 116 k = nm k := rfl
theorem m_Jw {k : Nat} : m_J J nm wk 117 k = wk k := rfl
theorem m_Jo {a k : Nat} (h : a ≠ 116 ∧ a ≠ 117) : m_J J nm wk a k = J a k := by unfold m_J; rw [if_neg h.1, if_neg h.2]
theorem m_un {k : Nat} : am_uJ (m_J J nm wk) 116 k y = m_J J (vp_updL nm k y) wk := by
  funext a j; unfold am_uJ m_J vp_updL
  by_cases h : a = 116
  · subst h
    by_cases h2 : j = k <;> simp [h2]
  · have : ¬ (a = 116 ∧ j = k) := by omega
    simp [h]
theorem m_uw {k : Nat} : am_uJ (m_J J nm wk) 117 k y = m_J J nm (vp_updL wk k y) := by
  funext a j; unfold am_uJ m_J vp_updL
  by_cases h : a = 117
  · subst h
    by_cases h2 : j = k <;> simp [h2]
  · simp [h]
theorem m_Jid : m_J J (J 116) (J 117) = J := by
  funext a j; unfold m_J
  by_cases h : a = 116
  · rw [if_pos h, h]
  · rw [if_neg h]
    by_cases h2 : a = 117
    · rw [if_pos h2, h2]
    · rw [if_neg h2]
end
