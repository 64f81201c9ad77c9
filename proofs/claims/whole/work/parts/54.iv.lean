/-! ===== L3: what stands between the calls ===== -/
def wq (W W' : Nat → Nat → Int32) : Prop := (∀ f, f < 5 → W f 0 = W' f 0) ∧ (∀ s, s < 5 → W 5 s = W' 5 s) ∧ (∀ f l, 6 ≤ f → f < 10 → l < 8 → W f l = W' f l)
theorem wq_refl {W : Nat → Nat → Int32} : wq W W := ⟨fun _ _ => rfl, fun _ _ => rfl, fun _ _ _ _ _ => rfl⟩
theorem wq_symm {W W' : Nat → Nat → Int32} (h : wq W W') : wq W' W := ⟨fun f a => (h.1 f a).symm, fun s a => (h.2.1 s a).symm, fun f l a b c => (h.2.2 f l a b c).symm⟩
theorem wq_trans {W W' W'' : Nat → Nat → Int32} (h : wq W W') (k : wq W' W'') : wq W W'' := ⟨fun f a => (h.1 f a).trans (k.1 f a), fun s a => (h.2.1 s a).trans (k.2.1 s a), fun f l a b c => (h.2.2 f l a b c).trans (k.2.2 f l a b c)⟩
theorem g_wq {I I' : Nat → Nat → Int32} {n n' : Nat} (h : wq (m_g I' n') (m_g I n)) : m_g I' n' = m_g I n := by
  funext f k
  by_cases c : f < 5
  · have := h.1 f c
    unfold m_g at this ⊢
    rw [if_pos c, if_pos c] at this
    rw [if_pos c, if_pos c]
    exact this
  · by_cases c5 : f = 5
    · subst c5
      by_cases ck : k < 5
      · exact h.2.1 k ck
      · unfold m_g
        rw [if_neg (by omega), if_pos rfl, if_neg ck, if_neg (by omega), if_pos rfl, if_neg ck]
    · by_cases ck : f < 10 ∧ k < 8
      · exact h.2.2 f k (by omega) ck.1 ck.2
      · unfold m_g
        rw [if_neg c, if_neg c5, if_neg ck, if_neg c, if_neg c5, if_neg ck]
/-- a world is sound -/
def m_okX (I W : Nat → Nat → Int32) : Prop := m_okW I W ∧ (∃ q, q < 12 ∧ W 0 0 = nI q) ∧
  (∀ l, l < m_nL I → (W 6 l = nI 0 ∧ ∃ h, h < m_nH I ∧ W 7 l = nI h) ∨ (W 6 l = nI 1 ∧ ∃ s, s < m_nZ I ∧ W 7 l = nI s) ∨ (W 6 l = nI 2 ∧ W 7 l = I 108 l)) ∧
  (∀ i, 5 ≤ i → i < 32 → bt (W 4 0) i = false) ∧ (∀ h, h < m_nH I → ∃ k, k ≤ 9 ∧ W 9 h = nI k)
/-- a change by call, and the world before it -/
def u_rel (I : Nat → Nat → Int32) (kd wh bf : Int32) (W W' : Nat → Nat → Int32) : Prop :=
  (kd = nI 0 ∧ ∃ l h h', l < m_nL I ∧ h < m_nH I ∧ h' < m_nH I ∧ h ≠ h' ∧ wh = nI l ∧ bf = nI h ∧ W 6 l = nI 0 ∧ W 7 l = nI h ∧ wq W' (am_u W 7 l (nI h'))) ∨
  (kd = nI 1 ∧ ∃ h, h < m_nH I ∧ wh = nI h ∧ wq W' (am_u W 3 0 (W 3 0 ^^^ am_pw h))) ∨
  (kd = nI 2 ∧ ∃ h x, h < m_nH I ∧ x ≤ 9 ∧ wh = nI h ∧ bf = W 9 h ∧ wq W' (am_u W 9 h (nI x)))
def c_w (I : Nat → Nat → Int32) (w : Nat) : Nat → Nat → Int32 := fun i j => if i ≤ 5 then I (w + i) j else nI 0
theorem c_wI {I : Nat → Nat → Int32} {w i j : Nat} (h : i ≤ 5) : c_w I w i j = I (w + i) j := if_pos h
theorem c_wid {I : Nat → Nat → Int32} {w : Nat} : c_C I w (c_w I w) (I 63) (I 68) = I := by
  funext a j; unfold c_C
  by_cases h1 : a = 63
  · rw [if_pos h1, h1]
  rw [if_neg h1]
  by_cases h2 : a = 68
  · rw [if_pos h2, h2]
  rw [if_neg h2]
  by_cases h3 : w ≤ a ∧ a ≤ w + 5
  · rw [if_pos h3, c_wI (by omega), show w + (a - w) = a by omega]
  · rw [if_neg h3]
theorem c_cpw {I C : Nat → Nat → Int32} {v : Nat} : c_cp C (fun i j => I (v + i) j) = c_cp C (c_w I v) := by
  funext i j
  unfold c_cp
  by_cases h : (i = 0 ∧ j < 6) ∨ ((i = 1 ∨ i = 2) ∧ j < 5) ∨ ((3 ≤ i ∧ i ≤ 5) ∧ j < 8)
  · rw [if_pos h, if_pos h, c_wI (by omega)]
  · rw [if_neg h, if_neg h]
def i_now (I : Nat → Nat → Int32) : Prop := cw_rel I (c_w I 49) (m_g I 0) ∧ I 49 5 = m_g I 0 3 0 ∧ m_okX I (m_g I 0)
def i_img (I : Nat → Nat → Int32) : Prop := ∃ b : Bool, I 1 7 = nI b.toNat ∧ I 93 50 = nI b.toNat ∧ (b = true → cw_rel I (c_w I 55) (m_g I 2) ∧ I 55 5 = m_g I 2 3 0 ∧ m_okX I (m_g I 2))
def i_und (I : Nat → Nat → Int32) : Prop := ∃ n, n ≤ 20 ∧ I 77 0 = nI n ∧ I 93 51 = nI n ∧ ∀ k, k < n → m_okX I (m_g I (3 + k)) ∧ u_rel I (I 78 k) (I 79 k) (I 80 k) (m_g I (3 + k)) (m_g I (if k + 1 = n then 0 else 3 + (k + 1)))
def i_sig (I : Nat → Nat → Int32) : Prop := ∃ n, n ≤ 24 ∧ I 72 0 = nI n ∧ I 93 69 = nI n ∧ I 72 1 = I 93 70 ∧ (I 93 70 = -nI 1 ∨ ∃ k, k ≤ n ∧ I 93 70 = nI k) ∧
  ∀ k, k < n → I 76 k = I 135 k ∧ ((I 135 k = -nI 1 ∧ I 73 k = I 132 k ∧ I 74 k = I 133 k ∧ I 75 k = I 134 k ∧ ∃ hr s h, hr < 12 ∧ s < m_nZ I ∧ h < m_nH I ∧ I 132 k = nI hr ∧ I 133 k = nI s ∧ I 134 k = nI h) ∨ (I 74 k = -nI 1 ∧ ∃ j, j < k ∧ I 135 k = nI j))
def i_tap (I : Nat → Nat → Int32) : Prop := ∃ n, n ≤ 700 ∧ I 1 1 = nI n ∧ I 93 2 = nI n ∧ ∀ k, k < n → I 94 k = I 2 k &&& nI 255 ∧ I 2 k = (I 2 k).toInt8.toInt32
def i_flt (I : Nat → Nat → Int32) : Prop := I 43 6 = I 93 33 ∧ I 43 7 = I 93 34
def i_ref (r : am_rho) : Prop := match r with
  | (rt, rs, rd, rl, rx, nt, nw, nf) => ((rt = 3 ∧ rs = 23) ∨ (rt = 23 ∧ rs = 3)) ∧ (rd = 3 ∨ rd = 23) ∧ (rl = 18 ∨ rl = 38) ∧ (rx = 2 ∨ rx = 45) ∧ (nt = 3 ∨ nt = 23) ∧ (nw = 7 ∨ nw = 27 ∨ nw = 66) ∧ (nf = 8 ∨ nf = 28 ∨ nf = 67)
def i_inv (r : am_rho) (I : Nat → Nat → Int32) (J : Nat → Nat → Int64) : Prop := i_ref r ∧ t_rel I r.1 ∧ m_idle I ∧ i_now I ∧ i_img I ∧ i_und I ∧ i_sig I ∧ i_tap I ∧ i_flt I ∧ c_cache I I (r.1 + 15) (I 63) (J 64)
/-- rows that a question leaves as they are -/
def fr_row (a : Nat) : Prop := a < 61 ∨ a = 62 ∨ (72 ≤ a ∧ a ≤ 80) ∨ (94 ≤ a ∧ a < 118) ∨ (132 ≤ a ∧ a ≤ 135) ∨ 140 < a
def fr (I I' : Nat → Nat → Int32) : Prop := (∀ a, fr_row a → I' a = I a) ∧ (∀ k, k ≠ 0 → k ≠ 39 → k ≠ 56 → k ≠ 57 → k ≠ 60 → k ≠ 68 → I' 93 k = I 93 k) ∧ (∀ n, n ≠ 1 → n < 23 → wq (m_g I' n) (m_g I n))
theorem fr_refl {I : Nat → Nat → Int32} : fr I I := ⟨fun _ _ => rfl, fun _ _ _ _ _ _ _ => rfl, fun _ _ _ => wq_refl⟩
theorem fr_trans {I I' I'' : Nat → Nat → Int32} (h : fr I I') (k : fr I' I'') : fr I I'' :=
  ⟨fun a ha => (k.1 a ha).trans (h.1 a ha), fun j a b c d e f => (k.2.1 j a b c d e f).trans (h.2.1 j a b c d e f), fun n a b => wq_trans (k.2.2 n a b) (h.2.2 n a b)⟩
section
variable {I I' C W W' : Nat → Nat → Int32} {J J' : Nat → Nat → Int64}
theorem q_nH (h : I' 95 = I 95) : m_nH I' = m_nH I := by unfold m_nH; rw [h]
theorem q_nS (h : I' 95 = I 95) : m_nS I' = m_nS I := by unfold m_nS; rw [h]
theorem q_nZ (h : I' 95 = I 95) : m_nZ I' = m_nZ I := by unfold m_nZ; rw [h]
theorem q_nL (h : I' 95 = I 95) : m_nL I' = m_nL I := by unfold m_nL; rw [h]
theorem q_nA (h : I' 95 = I 95) : m_nA I' = m_nA I := by unfold m_nA; rw [h]
theorem cw_q (hZ : m_nZ I ≤ 5) (hL : m_nL I ≤ 8) (hH : m_nH I ≤ 8) (h : wq W W') (k : cw_rel I C W) : cw_rel I C W' := by
  obtain ⟨r0, r1, r2, r3, r4, r5, r6, r7, r8, r9⟩ := k
  have e6 : ∀ l, l < m_nL I → W 6 l = W' 6 l := fun l hl => h.2.2 6 l (by omega) (by omega) (by omega)
  have e7 : ∀ l, l < m_nL I → W 7 l = W' 7 l := fun l hl => h.2.2 7 l (by omega) (by omega) (by omega)
  refine ⟨?_, ?_, ?_, ?_, ?_, ?_, ?_, ?_, ?_, ?_⟩
  · rw [← h.1 0 (by omega)]; exact r0
  · rw [← h.1 1 (by omega)]; exact r1
  · rw [← h.1 2 (by omega)]; exact r2
  · rw [← h.1 4 (by omega)]; exact r3
  · intro s hs; rw [← h.2.1 s (by omega)]; exact r4 s hs
  · intro s hs l hl
    rw [r5 s hs l hl]
    apply decide_eq_decide.mpr
    constructor
    · intro g; rw [← e6 l g.1, ← e7 l g.1]; exact g
    · intro g; rw [e6 l g.1, e7 l g.1]; exact g
  · intro s hs l hl
    rw [r6 s hs l hl]
    apply decide_eq_decide.mpr
    constructor
    · intro g; rw [← e6 l g.1, ← e7 l g.1]; exact g
    · intro g; rw [e6 l g.1, e7 l g.1]; exact g
  · intro l hl
    rw [r7 l hl]
    apply decide_eq_decide.mpr
    constructor
    · intro g; rw [← e6 l g.1]; exact g
    · intro g; rw [e6 l g.1]; exact g
  · intro l hl; rw [← h.2.2 8 l (by omega) (by omega) (by omega)]; exact r8 l hl
  · intro k hk; rw [← h.2.2 9 k (by omega) (by omega) (by omega)]; exact r9 k hk
theorem okW_q (hZ : m_nZ I ≤ 5) (h : wq W W') (k : m_okW I W) : m_okW I W' := by
  intro s hs
  rw [← h.2.1 s (by omega)]; exact k s hs
theorem okX_q (hZ : m_nZ I ≤ 5) (hL : m_nL I ≤ 8) (hH : m_nH I ≤ 8) (h : wq W W') (k : m_okX I W) : m_okX I W' := by
  obtain ⟨k1, k2, k3, k4, k5⟩ := k
  refine ⟨okW_q hZ h k1, ?_, ?_, ?_, ?_⟩
  · rw [← h.1 0 (by omega)]; exact k2
  · intro l hl
    rw [← h.2.2 6 l (by omega) (by omega) (by omega), ← h.2.2 7 l (by omega) (by omega) (by omega)]; exact k3 l hl
  · rw [← h.1 4 (by omega)]; exact k4
  · intro x hx; rw [← h.2.2 9 x (by omega) (by omega) (by omega)]; exact k5 x hx
theorem wq_u {f k : Nat} {x : Int32} (h : wq W W') : wq (am_u W f k x) (am_u W' f k x) := by
  have e : ∀ g j, W g j = W' g j → am_u W f k x g j = am_u W' f k x g j := by
    intro g j h; unfold am_u; split
    · rfl
    · exact h
  exact ⟨fun g a => e _ _ (h.1 g a), fun s a => e _ _ (h.2.1 s a), fun g l a b c => e _ _ (h.2.2 g l a b c)⟩
theorem u_q {kd wh bf : Int32} {V V' : Nat → Nat → Int32} (hL : m_nL I ≤ 8) (hH : m_nH I ≤ 8) (h : wq W W') (h' : wq V V') (k : u_rel I kd wh bf W V) : u_rel I kd wh bf W' V' := by
  rcases k with ⟨k0, l, x, y, k1, k2, k3, k4, k5, k6, k7, k8, k9⟩ | ⟨k0, x, k1, k2, k3⟩ | ⟨k0, x, y, k1, k2, k3, k4, k5⟩
  · refine Or.inl ⟨k0, l, x, y, k1, k2, k3, k4, k5, k6, ?_, ?_, ?_⟩
    · rw [← h.2.2 6 l (by omega) (by omega) (by omega)]; exact k7
    · rw [← h.2.2 7 l (by omega) (by omega) (by omega)]; exact k8
    · exact wq_trans (wq_symm h') (wq_trans k9 (wq_u h))
  · refine Or.inr (Or.inl ⟨k0, x, k1, k2, ?_⟩)
    rw [← h.1 3 (by omega)]
    exact wq_trans (wq_symm h') (wq_trans k3 (wq_u h))
  · refine Or.inr (Or.inr ⟨k0, x, y, k1, k2, k3, ?_, ?_⟩)
    · rw [← h.2.2 9 x (by omega) (by omega) (by omega)]; exact k4
    · exact wq_trans (wq_symm h') (wq_trans k5 (wq_u h))
end
