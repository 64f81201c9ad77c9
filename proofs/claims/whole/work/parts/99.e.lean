/-! ===== L3: who should have which ===== -/
def ml_p (I : Nat → Nat → Int32) (l : Nat) : Bool := decide (I 124 l = nI 0)
def ml_c (I : Nat → Nat → Int32) (l : Nat) : Nat := fa_cnt (ml_p I) l
def dg (z m w i : Nat) : Nat := w / z ^ (m - 1 - i) % z
def mw_W (I : Nat → Nat → Int32) (m w j : Nat) : Nat → Nat → Int32 := fun f l => if f = 7 ∧ l < m_nL I ∧ ml_p I l = true ∧ ml_c I l < j then I 104 (dg (m_nZ I) m w (ml_c I l)) else m_g I 0 f l
def q_mf (I : Nat → Nat → Int32) (m w : Nat) : Nat → Nat → Int32 := m_Wj I (m_far I (I 128)) false (mw_W I m w m) (I 118 0).toNatClampNeg (12 - (I 118 0).toNatClampNeg)
def q_ma (I : Nat → Nat → Int32) (m w : Nat) : Bool := nbad (fun l => ml_p I l && !decide (q_mf I m w 6 l = nI 2)) (m_nL I)
theorem nbad_iff {p : Nat → Bool} : ∀ n, nbad p n = true ↔ ∀ l, l < n → p l = false
  | 0 => ⟨fun _ l hl => by omega, fun _ => rfl⟩
  | n + 1 => by
    unfold nbad
    rw [Bool.and_eq_true, nbad_iff n]
    constructor
    · intro ⟨h1, h2⟩ l hl
      by_cases e : l = n
      · subst e
        cases g : p l
        · rfl
        · rw [g] at h2; cases h2
      · exact h1 l (by omega)
    · intro h
      exact ⟨fun l hl => h l (by omega), by rw [h n (by omega)]; rfl⟩
theorem cnt_ex {p : Nat → Bool} : ∀ n i, i < fa_cnt p n → ∃ l, l < n ∧ p l = true ∧ fa_cnt p l = i
  | 0, i, h => by
    have : fa_cnt p 0 = 0 := rfl
    omega
  | n + 1, i, h => by
    rw [fa_cnt_succ] at h
    by_cases c : i < fa_cnt p n
    · obtain ⟨l, h1, h2, h3⟩ := cnt_ex n i c
      exact ⟨l, by omega, h2, h3⟩
    · cases g : p n
      · rw [g, show false.toNat = 0 from rfl] at h; omega
      · rw [g, show true.toNat = 1 from rfl] at h
        exact ⟨n, by omega, g, by omega⟩
theorem cnt_lt {p : Nat → Bool} {l l' : Nat} (h : l < l') (hp : p l = true) : fa_cnt p l < fa_cnt p l' := by
  have := fa_cnt_mn (p := p) (show l + 1 ≤ l' by omega)
  rw [fa_cnt_succ, hp, show true.toNat = 1 from rfl] at this
  omega
theorem cnt_inj {p : Nat → Bool} {l l' : Nat} (hp : p l = true) (hp' : p l' = true) (h : fa_cnt p l = fa_cnt p l') : l = l' := by
  by_cases c : l < l'
  · have := cnt_lt c hp; omega
  · by_cases c2 : l' < l
    · have := cnt_lt c2 hp'; omega
    · omega
theorem dg_0 {z k P s : Nat} (hs : s < z) : dg z (k + 1) (P * z + s) k = s := by
  unfold dg
  rw [show k + 1 - 1 - k = 0 by omega, Nat.pow_zero, Nat.div_one, Nat.add_comm, Nat.add_mul_mod_self_right, Nat.mod_eq_of_lt hs]
theorem dg_S {z k P s i : Nat} (hs : s < z) (hi : i < k) : dg z (k + 1) (P * z + s) i = dg z k P i := by
  unfold dg
  rw [show k + 1 - 1 - i = (k - 1 - i) + 1 by omega, Nat.pow_succ, Nat.mul_comm (z ^ (k - 1 - i)) z, ← Nat.div_div_eq_div_mul, Nat.add_comm, Nat.add_mul_div_right _ _ (by omega), Nat.div_eq_of_lt hs, Nat.zero_add]
theorem dg_lt {z m w i : Nat} (h : 0 < z) : dg z m w i < z := Nat.mod_lt _ h
section
variable {d N : Nat} {Q : Value → am_H → Prop} {r : am_rho} {I : Nat → Nat → Int32} {J : Nat → Nat → Int64}
theorem s_T_sleeperOf {rt z w e : Nat} (ht : rt = 3 ∨ rt = 23) (hz : I rt 2 = nI z) (h0 : 0 < z) (hz5 : z ≤ 5) (hw : w < 2 ^ 31) (he : e < 100) : am_D (d + 1) 83 [.ref rt, .int (nI w), .int (nI e)] (am_hp N r I J) Q = Q (.int (nI (w / z ^ e % z))) (am_hp N r I J) := by
  have hn : ¬ nI z ≤ nI 0 := by rw [nI_leI (by omega) (by omega)]; omega
  have hn0 : ¬ nI z = nI 0 := by rw [nI_eq (by omega) (by omega)]; omega
  have hd : ∀ j, w / z ^ j < 2 ^ 31 := fun j => Nat.lt_of_le_of_lt (Nat.div_le_self _ _) hw
  have lp := am_up (P := fun j => am_V d Q 83 5 [some (.ref rt), some (.int (nI w)), some (.int (nI e)), some (.int (nI (w / z ^ j))), some (.int (nI j))] [] (am_hp N r I J)) (R := Q (.int (nI (w / z ^ e % z))) (am_hp N r I J)) e
    (by
      try dsimp only
      rw [e_Tries_sleeperOf_5 ht, am_ifd, if_pos (by rw [nI_leI (by omega) (by omega)]; omega), am_ifd, hz, if_neg hn, am_gn hn0, pk_rem (hd e) h0 (by omega)])
    (by
      intro j hj
      try dsimp only
      rw [e_Tries_sleeperOf_5 ht, am_ifd, if_neg (by rw [nI_leI (by omega) (by omega)]; omega), am_ifd, hz, if_neg hn, am_gn hn0, pk_div (hd j) h0 (by omega), Nat.div_div_eq_div_mul, ← Nat.pow_succ, nI_add])
  rw [e_Tries_sleeperOf ht]
  have := lp 0 (by omega)
  rw [Nat.pow_zero, Nat.div_one] at this
  exact this
theorem mw_k {m w j f l : Nat} (h : f ≠ 7) : mw_W I m w j f l = m_g I 0 f l := by unfold mw_W; rw [if_neg (by omega)]
theorem mw_row {m w j f : Nat} (h : f ≠ 7) : mw_W I m w j f = m_g I 0 f := by funext l; exact mw_k h
/-- one way to lay them, tried by the class -/
theorem ma_try {S I1 : Nat → Nat → Int32} {J1 : Nat → Nat → Int64} {rt rs rd rl rx nt nw nf m w : Nat} (hv : i_inv (rt, rs, rd, rl, rx, nt, nw, nf) I J) (hz : 0 < m_nZ I) (hm : m = ml_c I (m_nL I)) (hm4 : m ≤ 4) (hw : w < 1000)
    (henv0 : c_env S I rt (rt + 4) (rt + 5) (m_far I (I 128)) false (m_g I 0 9) (m_g I 0 3 0) (m_g I 0 3 0)) (srow : ∀ c, (c < 61 ∨ c = 62 ∨ (63 ≤ c ∧ c < 69) ∨ (72 ≤ c ∧ c ≠ 88)) → S c = I c)
    (hi : ∀ c, c ≠ 63 → c ≠ 68 → (c < 82 ∨ 87 < c) → I1 c = S c) (h88 : ∀ l, l < m_nL I → ml_p I l = true → S 88 (ml_c I l) = nI l) (hc : c_cache I I (rt + 15) (I1 63) (J1 64))
    (hQ : ∀ I3 J3, (∀ c, c ≠ 63 → c ≠ 68 → (c < 82 ∨ 87 < c) → I3 c = S c) → c_cache I I (rt + 15) (I3 63) (J3 64) → Q (.int (nI (q_ma I m w).toNat)) (am_hp N (rt, rs, rd, rl, rx, rt, rt + 4, rt + 5) I3 J3)) :
    am_D (d + 8) 84 [.ref 81, .ref rt, .int (nI m), .int (nI w)] (am_hp N (rt, rs, rd, rl, rx, rt, rt + 4, rt + 5) I1 J1) Q := by
  obtain ⟨ht, hok, eH, eZ, eL, h0, h12, e49, e118⟩ := iv_ref hv
  obtain ⟨href, htr, hid, hnow, himg, hund, hsig, htap, hflt, hca⟩ := hv
  have hH8 := hok.1.2
  have hZ5 := hok.2.2.1.2
  have hL8 := hok.2.2.2.1.2
  have ep : ∀ l, l < 8 → ml_p I l = decide (m_g I 0 6 l = nI 0) := fun l hl => by unfold ml_p; rw [(iv_67 (I := I) hl).1]
  rw [e_Tries_allArrive ht]
  refine ct_become (I := I) hok hnow (fun c h1 h2 => by rw [hi c (by omega) (by omega) (by omega), srow c (by omega)]) ?_
  intro I2 k1 k2 k3
  rw [e_Tries_allArrive_11 ht, s_J_fill (show am_TT N 85 = (1, 8) from rfl) (by omega), e_Tries_allArrive_22 ht]
  have f1 : ∀ c, c ≠ 85 → am_fl I2 85 8 (nI 0) c = I2 c := by
    intro c hc
    funext j
    unfold am_fl
    rw [if_neg (by omega)]
  have f2 : ∀ h, h < 8 → am_fl I2 85 8 (nI 0) 85 h = nI 0 := by
    intro h hh
    unfold am_fl
    rw [if_pos (by omega)]
  generalize am_fl I2 85 8 (nI 0) = I3 at f1 f2 ⊢
  have r3 : ∀ c, c ≠ 63 → c ≠ 68 → (c < 82 ∨ 87 < c) → I3 c = S c := fun c h1 h2 h3 => by rw [f1 c (by omega), k1 c h3, hi c h1 h2 h3]
  have lp : ∀ k i, m = i + k → ∀ I4 x4 o6, (∀ c, c ≠ 85 → I4 c = I3 c) → (∀ h, h < 8 → ∀ l, l < 32 → bt (I4 85 h) l = decide (l < m_nL I ∧ ml_p I l = true ∧ ml_c I l < i ∧ I 104 (dg (m_nZ I) m w (ml_c I l)) = nI h)) → (∀ l, l < 32 → bt x4 l = decide (l < m_nL I ∧ ml_p I l = true ∧ ml_c I l < i)) → am_V (d + 7) Q 84 28 [some (.ref 81), some (.ref rt), some (.int (nI m)), some (.int (nI w)), some (.int x4), some (.int (nI i)), am_oi o6] [] (am_hp N (rt, rs, rd, rl, rx, rt, rt + 4, rt + 5) I4 J1) := by
    intro k
    induction k with
    | zero =>
      intro i hi' I4 x4 o6 g1 g2 g3
      obtain rfl : i = m := by omega
      rw [e_Tries_allArrive_28 ht, am_ifd, if_pos (by rw [nI_leI (by omega) (by omega)]; omega)]
      have r4 : ∀ c, c ≠ 63 → c ≠ 68 → (c < 82 ∨ 87 < c) → I4 c = S c := fun c h1 h2 h3 => by rw [g1 c (by omega), r3 c h1 h2 h3]
      have hall : ∀ l, l < m_nL I → ml_p I l = true → ml_c I l < i := by
        intro l hl hp
        rw [hm]
        exact cnt_lt hl hp
      have hrel : cw_rel I (c_w I4 82) (mw_W I i w i) := by
        have q : ∀ a j, a ≤ 5 → a ≠ 3 → c_w I4 82 a j = c_w I2 82 a j := by
          intro a j h1 h2
          rw [c_wI h1, c_wI h1, g1 _ (by omega), f1 _ (by omega)]
        obtain ⟨r0, r1, r2, r3', r4', r5, r6, r7, r8, r9⟩ := k2
        refine ⟨?_, ?_, ?_, ?_, ?_, ?_, ?_, ?_, ?_, ?_⟩
        · rw [q _ _ (by omega) (by omega), mw_k (by omega)]; exact r0
        · rw [q _ _ (by omega) (by omega), mw_k (by omega)]; exact r1
        · rw [q _ _ (by omega) (by omega), mw_k (by omega)]; exact r2
        · rw [q _ _ (by omega) (by omega), mw_k (by omega)]; exact r3'
        · intro k hk; rw [q _ _ (by omega) (by omega), mw_k (by omega)]; exact r4' k hk
        · intro k hk l hl
          rw [q _ _ (by omega) (by omega), r5 k hk l hl]
          apply decide_eq_decide.mpr
          have e7 : l < m_nL I → m_g I 0 6 l = nI 1 → mw_W I i w i 7 l = m_g I 0 7 l := by
            intro h1 h2
            unfold mw_W
            rw [if_neg]
            intro g
            have := g.2.2.1
            rw [ep l (by omega), h2] at this
            exact absurd (of_decide_eq_true this) n10
          rw [mw_k (by omega)]
          constructor
          · intro g; exact ⟨g.1, g.2.1, by rw [e7 g.1 g.2.1]; exact g.2.2⟩
          · intro g; exact ⟨g.1, g.2.1, by rw [← e7 g.1 g.2.1]; exact g.2.2⟩
        · intro h hh l hl
          rw [c_wI (by omega), show 82 + 3 = 85 from rfl, g2 h hh l hl]
          apply decide_eq_decide.mpr
          rw [mw_k (by omega)]
          constructor
          · intro g
            refine ⟨g.1, ?_, ?_⟩
            · have := g.2.1
              rw [ep l (by omega)] at this
              exact of_decide_eq_true this
            · unfold mw_W
              rw [if_pos ⟨rfl, g.1, g.2.1, g.2.2.1⟩]
              exact g.2.2.2
          · intro g
            have hp : ml_p I l = true := by rw [ep l (by omega)]; exact decide_eq_true g.2.1
            refine ⟨g.1, hp, hall l g.1 hp, ?_⟩
            have := g.2.2
            unfold mw_W at this
            rw [if_pos ⟨rfl, g.1, hp, hall l g.1 hp⟩] at this
            exact this
        · intro l hl; rw [q _ _ (by omega) (by omega), r7 l hl, mw_k (by omega)]
        · intro l hl; rw [q _ _ (by omega) (by omega), mw_k (by omega)]; exact r8 l hl
        · intro k hk; rw [q _ _ (by omega) (by omega), mw_k (by omega)]; exact r9 k hk
      have henv : c_env I4 I rt (rt + 4) (rt + 5) (m_far I (I 128)) false (mw_W I i w i 9) (m_g I 0 3 0) (mw_W I i w i 3 0) := by
        rw [mw_row (by omega), mw_row (by omega)]
        have he' := henv0
        obtain ⟨_, _, eb, em, en, ed, edr, el, ef, ew, ewk, ebn, elr, eus, ero⟩ := he'
        refine env_x (fun _ _ _ => rfl) henv0 (fun c h => r4 c (by omega) (by omega) (by omega)) ⟨by omega, by omega⟩ ?_ ?_ ?_ ?_ ?_ ?_ ?_ ?_
        · rw [r4 69 (by omega) (by omega) (by omega)]; exact en
        · rw [r4 70 (by omega) (by omega) (by omega)]; exact ed
        · rw [r4 71 (by omega) (by omega) (by omega)]; exact edr
        · intro k hk hr hhr
          have := el k hk hr hhr
          unfold cl_light at this ⊢
          rw [r4 61 (by omega) (by omega) (by omega), r4 (rt + 12) (by omega) (by omega) (by omega)]; exact this
        · rw [r4 (rt + 5) (by omega) (by omega) (by omega)]; exact ef
        · rw [r4 (rt + 4) (by omega) (by omega) (by omega)]; exact ew
        · rw [r4 61 (by omega) (by omega) (by omega)]; exact ewk
        · rw [r4 61 (by omega) (by omega) (by omega)]; exact ebn
      have hW : m_okW I (mw_W I i w i) := by
        intro s hs
        rw [mw_k (by omega)]; exact hnow.2.2.1 s hs
      refine s_T_walk (I := I) (M := I) (W := mw_W I i w i) (h0 := h0) (j := 12 - h0) (fun _ _ _ => rfl) hok henv hrel hW (by rw [g1 82 (by omega), f1 82 (by omega)]; exact k3) (by rw [mw_k (by omega)]; exact e118) (by omega) (by omega) (by rw [show h0 + (12 - h0) - 1 = 11 by omega]) (by rw [r4 (rt + 19) (by omega) (by omega) (by omega), srow (rt + 19) (by omega)]) (by rw [g1 63 (by omega), f1 63 (by omega), k1 63 (by omega)]; exact hc) ?_
      intro I5 J5 w1 w2 w3 w4 w5
      have ef : m_Wj I (m_far I (I 128)) false (mw_W I i w i) h0 (12 - h0) = q_mf I i w := by
        unfold q_mf; rw [e118, nI_clamp (by omega)]
      rw [ef] at w3
      have earr : ∀ l, l < 32 → bt (I5 82 4) l = decide (l < m_nL I ∧ q_mf I i w 6 l = nI 2) := by
        intro l hl
        have := w3.2.2.2.2.2.2.2.1 l hl
        rw [c_wI (by omega)] at this
        exact this
      have key : (x4 &&& (I5 82 4 ^^^ (-nI 1)) = nI 0) ↔ q_ma I i w = true := by
        unfold q_ma
        rw [nbad_iff]
        constructor
        · intro h l hl
          cases c : ml_p I l
          · rfl
          · have hb : bt (x4 &&& (I5 82 4 ^^^ (-nI 1))) l = false := by rw [h]; exact b_z l
            rw [b_and_not (by omega), g3 l (by omega), earr l (by omega), decide_eq_true ⟨hl, c, hall l hl c⟩, Bool.true_and] at hb
            by_cases c2 : q_mf I i w 6 l = nI 2
            · rw [decide_eq_true c2]; rfl
            · rw [decide_eq_false (fun g => c2 g.2)] at hb
              cases hb
        · intro h
          apply b_ext
          intro l hl
          rw [b_and_not hl, b_z, g3 l hl, earr l hl]
          by_cases c : l < m_nL I ∧ ml_p I l = true ∧ ml_c I l < i
          · have := h l c.1
            rw [c.2.1, Bool.true_and] at this
            by_cases c2 : q_mf I i w 6 l = nI 2
            · rw [decide_eq_true (⟨c.1, c2⟩ : l < m_nL I ∧ q_mf I i w 6 l = nI 2)]; exact Bool.and_false _
            · rw [decide_eq_false c2] at this; cases this
          · rw [decide_eq_false c]; rfl
      have hq := hQ I5 J5 (fun c h1 h2 h3 => by rw [w1 c h1 h2 h3, r4 c h1 h2 h3]) w2
      rw [e_Tries_allArrive_113 ht, am_ifn]
      by_cases c : x4 &&& (I5 82 4 ^^^ (-nI 1)) = nI 0
      · rw [if_pos c]
        rw [key.mp c] at hq
        exact hq
      · rw [if_neg c]
        have : q_ma I i w = false := by
          cases g : q_ma I i w
          · rfl
          · exact absurd (key.mpr g) c
        rw [this] at hq
        exact hq
    | succ k ih =>
      intro i hi' I4 x4 o6 g1 g2 g3
      obtain ⟨l, hl, hp, hcl⟩ := cnt_ex (p := ml_p I) (m_nL I) i (by rw [show fa_cnt (ml_p I) (m_nL I) = m from hm.symm]; omega)
      have r4 : ∀ c, c ≠ 63 → c ≠ 68 → (c < 82 ∨ 87 < c) → I4 c = S c := fun c h1 h2 h3 => by rw [g1 c (by omega), r3 c h1 h2 h3]
      have z4 : I4 rt 2 = nI (m_nZ I) := by rw [r4 rt (by omega) (by omega) (by omega), srow rt (by omega)]; exact eZ
      have hdl := dg_lt (z := m_nZ I) (m := m) (w := w) (i := i) hz
      obtain ⟨h, hh, eh⟩ := hok.2.2.2.2.2.1 _ hdl
      have e6 : I4 (rt + 6) (dg (m_nZ I) m w i) = nI h := by
        rw [r4 (rt + 6) (by omega) (by omega) (by omega), srow (rt + 6) (by omega), (htr.2.2.2.2.2.2.2.2.1 _ hdl).1]; exact eh
      have e88 : I4 88 i = nI l := by
        rw [r4 88 (by omega) (by omega) (by omega), ← hcl]
        exact h88 l hl hp
      have e88' : ∀ x, am_u I4 85 h x 88 i = nI l := fun x => by rw [am_uN (by omega)]; exact e88
      rw [e_Tries_allArrive_28 ht, am_ifd, if_neg (by rw [nI_leI (by omega) (by omega)]; omega), am_subN (show 1 ≤ m by omega), am_subN (show i ≤ m - 1 by omega), s_T_sleeperOf ht z4 hz hZ5 (by omega) (by omega), am_asIe, show w / m_nZ I ^ (m - 1 - i) % m_nZ I = dg (m_nZ I) m w i from rfl, e_Tries_allArrive_45 ht, am_ifd, if_neg (am_neg1' (by omega)), am_gI (by omega) (by omega), nI_clamp (show dg (m_nZ I) m w i < 2 ^ 31 by omega), e6, am_gI (by omega) (by omega), am_gI (show i < 4 by omega) (by omega), am_gI (by omega) (by omega), am_gI (show i < 4 by omega) (by omega), nI_clamp (show i < 2 ^ 31 by omega), nI_clamp (show h < 2 ^ 31 by omega), e88', e88, am_pwe, show nI i + nI 1 = nI (i + 1) from nI_add _ _]
      have two : ∀ l', l' < m_nL I ∧ ml_p I l' = true ∧ ml_c I l' < i + 1 ↔ (l' < m_nL I ∧ ml_p I l' = true ∧ ml_c I l' < i) ∨ l' = l := by
        intro l'
        constructor
        · intro g
          by_cases c : ml_c I l' < i
          · exact Or.inl ⟨g.1, g.2.1, c⟩
          · exact Or.inr (cnt_inj g.2.1 hp (by rw [hcl]; have := g.2.2; unfold ml_c at this c; omega))
        · intro g
          rcases g with g | rfl
          · exact ⟨g.1, g.2.1, by omega⟩
          · exact ⟨hl, hp, by unfold ml_c; omega⟩
      refine ih (i + 1) (by omega) _ _ _ (fun c hc' => by rw [am_uRow hc', g1 c hc']) ?_ ?_
      · intro h' hh' l' hl'
        by_cases ch : h' = h
        · subst ch
          rw [am_uE, b_or, b_pw (by omega) hl', g2 h' hh' l' hl']
          by_cases cl : l' = l
          · subst cl
            rw [decide_eq_true rfl, Bool.or_true]
            symm
            exact decide_eq_true ⟨hl, hp, by unfold ml_c; omega, by unfold ml_c; rw [hcl]; exact eh⟩
          · rw [decide_eq_false cl, Bool.or_false]
            apply decide_eq_decide.mpr
            constructor
            · intro g; exact ⟨g.1, g.2.1, by omega, g.2.2.2⟩
            · intro g
              rcases (two l').mp ⟨g.1, g.2.1, g.2.2.1⟩ with q | q
              · exact ⟨q.1, q.2.1, q.2.2, g.2.2.2⟩
              · exact absurd q cl
        · rw [am_uN (by omega), g2 h' hh' l' hl']
          apply decide_eq_decide.mpr
          constructor
          · intro g; exact ⟨g.1, g.2.1, by omega, g.2.2.2⟩
          · intro g
            rcases (two l').mp ⟨g.1, g.2.1, g.2.2.1⟩ with q | q
            · exact ⟨q.1, q.2.1, q.2.2, g.2.2.2⟩
            · subst q
              have := g.2.2.2
              unfold ml_c at this
              rw [hcl, eh] at this
              exact absurd ((nI_eq (by omega) (by omega)).mp this).symm ch
      · intro l' hl'
        rw [b_or, b_pw (by omega) hl', g3 l' hl']
        by_cases cl : l' = l
        · subst cl
          rw [decide_eq_true rfl, Bool.or_true]
          symm
          exact decide_eq_true ((two l').mpr (Or.inr rfl))
        · rw [decide_eq_false cl, Bool.or_false]
          apply decide_eq_decide.mpr
          constructor
          · intro g; exact (two l').mpr (Or.inl g)
          · intro g
            rcases (two l').mp g with q | q
            · exact q
            · exact absurd q cl
  refine lp m 0 (by omega) I3 (nI 0) none (fun _ _ => rfl) ?_ ?_
  · intro h hh l hl
    rw [f2 h hh, b_z]
    symm
    exact decide_eq_false (by omega)
  · intro l hl
    rw [b_z]
    symm
    exact decide_eq_false (by omega)
end
