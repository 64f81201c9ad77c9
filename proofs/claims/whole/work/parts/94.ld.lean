/-! ===== L3: more light, and where it does not matter ===== -/
def lgt (M M' : Nat → Nat → Int32) (L : Int32) : Prop := te M M' ∧ (∀ k, 52 ≤ k → k ≤ 63 → k ≠ 61 → M' 93 k = M 93 k) ∧ (∀ (W : Nat → Nat → Int32) (F : Nat → Int32) (s h : Nat) (way : Int32) (k : Nat), k < 3 → W 3 0 = L → m_law M' k (m_nm0 M' W F s h way) = m_law M k (m_nm0 M W F s h way))
section
variable {M M' W : Nat → Nat → Int32} {F : Nat → Int32} {L : Int32} {s : Nat} {b : Bool}
theorem lg_pull (h : lgt M M' L) (hW : W 3 0 = L) {x : Nat} {way : Int32} : m_pull M' W F s x way = m_pull M W F s x way := by
  unfold m_pull
  rw [h.2.2 W F s x way 0 (by omega) hW, n_dream h.1 ⟨h.2.1 59 (by omega) (by omega) (by omega), h.2.1 60 (by omega) (by omega) (by omega)⟩]
theorem lg_drop (h : lgt M M' L) (hW : W 3 0 = L) {x : Nat} : m_drop M' W F s x = m_drop M W F s x := by
  unfold m_drop
  rw [h.2.2 W F s x _ 2 (by omega) hW]
theorem lg_wake (h : lgt M M' L) (hW : W 3 0 = L) {x : Nat} : m_wake M' W F s x = m_wake M W F s x := by
  unfold m_wake
  rw [h.2.2 W F s x _ 1 (by omega) hW, n_deep h.1 ⟨h.2.1 52 (by omega) (by omega) (by omega), h.2.1 53 (by omega) (by omega) (by omega)⟩, n_noise h.1 ⟨h.2.1 52 (by omega) (by omega) (by omega), h.2.1 54 (by omega) (by omega) (by omega), h.2.1 55 (by omega) (by omega) (by omega), h.2.1 56 (by omega) (by omega) (by omega), h.2.1 57 (by omega) (by omega) (by omega), h.2.1 63 (by omega) (by omega) (by omega)⟩]
theorem lg_goL (h : lgt M M' L) (hW : W 3 0 = L) {fr : Nat} : ∀ n, m_goL M' W F s fr n = m_goL M W F s fr n
  | 0 => by unfold m_goL; rw [lg_pull h hW]
  | n + 1 => by
    unfold m_goL
    rw [lg_goL h hW n, lg_pull h hW, n_way h.1 ⟨h.2.1 52 (by omega) (by omega) (by omega), h.2.1 53 (by omega) (by omega) (by omega)⟩]
theorem lg_go (h : lgt M M' L) (hW : W 3 0 = L) {fr : Nat} : m_go M' W F s fr = m_go M W F s fr := by
  unfold m_go; rw [e_nH h.1, lg_goL h hW]
theorem lg_walk (h : lgt M M' L) (hW : W 3 0 = L) : m_walk M' F b W s = m_walk M F b W s := by
  have e1 : m_walk1 M' W s = m_walk1 M W s := by
    unfold m_walk1 m_takeF
    rw [h.1 104 (by omega) (by omega), e_nL h.1]
  have h1 : m_walk1 M W s 3 0 = L := by rw [m_walk1_k (by omega)]; exact hW
  have e2 : m_walk2 M' F (m_walk1 M W s) s = m_walk2 M F (m_walk1 M W s) s := by
    unfold m_walk2
    rw [lg_go h h1]
  have h2 : m_walk2 M F (m_walk1 M W s) s 3 0 = L := by rw [m_walk2_k (by omega)]; exact h1
  have e3 : m_walk3 M' (m_walk2 M F (m_walk1 M W s) s) s = m_walk3 M (m_walk2 M F (m_walk1 M W s) s) s := by
    unfold m_walk3 m_bringF
    rw [h.1 108 (by omega) (by omega), e_nL h.1]
  have h3 : m_walk3 M (m_walk2 M F (m_walk1 M W s) s) s 3 0 = L := by rw [m_walk3_k (by omega)]; exact h2
  have e4 : ∀ V : Nat → Nat → Int32, V 3 0 = L → m_walk4 M' F b V s = m_walk4 M F b V s := by
    intro V hV
    unfold m_walk4
    simp only [lg_drop h hV, lg_wake h hV, e_nL h.1]
  unfold m_walk
  rw [e1, e2, e3, e4 _ h3]
theorem lg_pass (h : lgt M M' L) (hW : W 3 0 = L) : ∀ n, m_pass M' F b W n = m_pass M F b W n
  | 0 => rfl
  | n + 1 => by
    unfold m_pass
    rw [lg_pass h hW n, h.2.1 58 (by omega) (by omega) (by omega), lg_walk h (by rw [m_pass_k (by omega)]; exact hW)]
theorem lg_Wj (h : lgt M M' L) (hW : W 3 0 = L) {h0 : Nat} : ∀ j, m_Wj M' F b W h0 j = m_Wj M F b W h0 j
  | 0 => rfl
  | j + 1 => by
    unfold m_Wj m_hr
    rw [lg_Wj h hW j, e_nZ h.1]
    exact lg_pass h (by rw [am_uN (by omega), m_Wj_k (by omega)]; exact hW) _
theorem lg_tr {I : Nat → Nat → Int32} (h : lgt M M' (m_g I 0 3 0)) {x : Nat} : q_tr I M' s x = q_tr I M s x := by
  unfold q_tr
  rw [n_far h.1 ⟨h.2.1 52 (by omega) (by omega) (by omega), h.2.1 53 (by omega) (by omega) (by omega)⟩, lg_Wj h rfl]
/-- lit already: the same light -/
theorem lg_A {I : Nat → Nat → Int32} {x y : Int32} (h : ∀ i, (bt L i || bt x i) = (bt L i || bt y i)) : lgt (am_u I 93 61 x) (am_u I 93 61 y) L := by
  have hte : te (am_u I 93 61 x) (am_u I 93 61 y) := fun a h1 h2 => by rw [am_uRow (by omega), am_uRow (by omega)]
  have hf : ∀ k, 52 ≤ k → k ≤ 63 → k ≠ 61 → am_u I 93 61 y 93 k = am_u I 93 61 x 93 k := fun k _ _ h => by rw [am_uN (by omega), am_uN (by omega)]
  refine ⟨hte, hf, ?_⟩
  intro W F s p way k hk hW
  rw [e_law hte]
  congr 1
  unfold m_nm0
  funext j
  unfold m_nmv
  rw [n_deep hte ⟨hf 52 (by omega) (by omega) (by omega), hf 53 (by omega) (by omega) (by omega)⟩, n_dream hte ⟨hf 59 (by omega) (by omega) (by omega), hf 60 (by omega) (by omega) (by omega)⟩, n_noise hte ⟨hf 52 (by omega) (by omega) (by omega), hf 54 (by omega) (by omega) (by omega), hf 55 (by omega) (by omega) (by omega), hf 56 (by omega) (by omega) (by omega), hf 57 (by omega) (by omega) (by omega), hf 63 (by omega) (by omega) (by omega)⟩]
  have el : m_light (am_u I 93 61 y) (m_nA (am_u I 93 61 y)) (W 3 0) p (W 0 0) = m_light (am_u I 93 61 x) (m_nA (am_u I 93 61 x)) (W 3 0) p (W 0 0) := by
    unfold m_light
    rw [hf 52 (by omega) (by omega) (by omega), hf 62 (by omega) (by omega) (by omega), am_uE, am_uE, e_lamp hte, e_nA hte, hW, ← Bool.or_assoc (bt L p), ← Bool.or_assoc (bt L p), h p]
  have eh : m_hand (am_u I 93 61 y) W = m_hand (am_u I 93 61 x) W := by
    funext z; unfold m_hand; rw [e_nL hte]
  rw [el, eh]
/-- no law asks for light -/
theorem lg_B {I : Nat → Nat → Int32} {q : Nat} {x y : Int32} (hok : m_lok I) (hus : c_used I I q) (hn : ∀ k, k < 3 → bt (I (q + 4) k) 29 = false) : lgt (am_u I 93 61 x) (am_u I 93 61 y) L := by
  have hte : te (am_u I 93 61 x) (am_u I 93 61 y) := fun a h1 h2 => by rw [am_uRow (by omega), am_uRow (by omega)]
  have hte0 : te I (am_u I 93 61 x) := te_93
  have hf : ∀ k, 52 ≤ k → k ≤ 63 → k ≠ 61 → am_u I 93 61 y 93 k = am_u I 93 61 x 93 k := fun k _ _ h => by rw [am_uN (by omega), am_uN (by omega)]
  refine ⟨hte, hf, ?_⟩
  intro W F s p way k hk hW
  rw [e_law hte, e_law hte0]
  obtain ⟨a, c, ha, hb, hab, hb64, hl⟩ := hok k hk
  unfold m_law
  cases hh : m_has I k
  · rw [if_neg (by decide), if_neg (by decide)]
  · have hlt := m_has_lt ha hb (by omega) (by omega) hh
    rw [if_pos rfl, if_pos rfl, ha, hb, nI_clamp (by omega), nI_clamp (by omega), lw_val, lw_val, lw_run_us ?_ (hl hlt)]
    intro e h1 h2 h3
    have hj : ∃ j, j < 7 ∧ I 115 e = nI j := by
      have : ∀ c i k, lw_ok (I 114) (I 115) c i k → i ≤ e → e < i + c → ∃ j, j < 7 ∧ I 115 e = nI j := by
        intro c
        induction c with
        | zero => intro i k _ _ _; omega
        | succ c ih =>
          intro i k h g1 g2
          by_cases ee : e = i
          · subst ee
            rcases h with ⟨h1, _⟩ | ⟨h1, _⟩ | ⟨h1, _⟩ | ⟨h1, h2, _⟩
            · rw [h3] at h1; exact absurd h1 n12
            · rw [h3] at h1; exact absurd h1 n12
            · rw [h3] at h1; exact absurd h1 n10
            · exact h2
          · rcases h with ⟨_, _, _, h4⟩ | ⟨_, _, _, h4⟩ | ⟨_, _, h4⟩ | ⟨_, _, _, h4⟩ <;> exact ih _ _ h4 (by omega) (by omega)
      exact this _ _ _ (hl hlt) h1 h2
    obtain ⟨j, hj7, hj'⟩ := hj
    rw [hj', nI_clamp (by omega)]
    have hj2 : j ≠ 2 := by
      intro e2
      have := (hus k hk 29 (by omega)).mpr ⟨by omega, e, by rw [ha, nI_clamp (by omega)]; exact h1, by rw [hb, nI_clamp (by omega)]; omega, h3, hj'.trans (congrArg nI (e2.trans (by decide)))⟩
      rw [hn k hk] at this
      cases this
    have key : m_nm0 (am_u I 93 61 y) W F s p way j = m_nm0 (am_u I 93 61 x) W F s p way j := by
      rcases (show j = 0 ∨ j = 1 ∨ j = 3 ∨ j = 4 ∨ j = 5 ∨ j = 6 by omega) with rfl | rfl | rfl | rfl | rfl | rfl
      · show (m_deep (am_u I 93 61 y) s).toInt64 = (m_deep (am_u I 93 61 x) s).toInt64
        rw [n_deep hte ⟨hf 52 (by omega) (by omega) (by omega), hf 53 (by omega) (by omega) (by omega)⟩]
      · show (F (8 * p + (m_dream (am_u I 93 61 y) s).toNatClampNeg)).toInt64 = (F (8 * p + (m_dream (am_u I 93 61 x) s).toNatClampNeg)).toInt64
        rw [n_dream hte ⟨hf 59 (by omega) (by omega) (by omega), hf 60 (by omega) (by omega) (by omega)⟩]
      · show (m_noise (am_u I 93 61 y) (W 9 p) p).toInt64 = (m_noise (am_u I 93 61 x) (W 9 p) p).toInt64
        rw [n_noise hte ⟨hf 52 (by omega) (by omega) (by omega), hf 54 (by omega) (by omega) (by omega), hf 55 (by omega) (by omega) (by omega), hf 56 (by omega) (by omega) (by omega), hf 57 (by omega) (by omega) (by omega), hf 63 (by omega) (by omega) (by omega)⟩]
      · show (nI (fa_cnt (bt (m_hand (am_u I 93 61 y) W (nI s))) 8)).toInt64 = (nI (fa_cnt (bt (m_hand (am_u I 93 61 x) W (nI s))) 8)).toInt64
        have eh : m_hand (am_u I 93 61 y) W = m_hand (am_u I 93 61 x) W := by
          funext z; unfold m_hand; rw [e_nL hte]
        rw [eh]
      · show (W 0 0).toInt64 = (W 0 0).toInt64
        rfl
      · show way.toInt64 = way.toInt64
        rfl
    first
      | exact key
      | exact key.symm
theorem fa_cnt_lt {p q : Nat → Bool} : ∀ n, (∀ k, k < n → p k = true → q k = true) → (∃ k, k < n ∧ q k = true ∧ p k = false) → fa_cnt p n < fa_cnt q n
  | 0, _, ⟨k, hk, _⟩ => by omega
  | n + 1, h, ⟨k, hk, h1, h2⟩ => by
    have hle : ∀ n, (∀ k, k < n → p k = true → q k = true) → fa_cnt p n ≤ fa_cnt q n := by
      intro n
      induction n with
      | zero => intro _; exact Nat.le_refl _
      | succ n ih =>
        intro h
        have := ih (fun k hk => h k (by omega))
        rw [fa_cnt_succ, fa_cnt_succ]
        have h3 := h n (by omega)
        cases c : p n
        · show _ + 0 ≤ _; omega
        · rw [h3 c]; omega
    rw [fa_cnt_succ, fa_cnt_succ]
    by_cases e : k = n
    · subst e
      have := hle k (fun i hi => h i (by omega))
      rw [h1, h2]
      show _ + 0 < _ + 1
      omega
    · have := fa_cnt_lt n (fun i hi => h i (by omega)) ⟨k, by omega, h1, h2⟩
      have h3 := h n (by omega)
      cases c : p n
      · show _ + 0 < _; omega
      · rw [h3 c]; omega
theorem n_bits_le : ∀ z, z < 9 → ∀ y, y < 2 ^ z → n_bits y ≤ z := by decide +kernel
theorem q_min_ex {p : Nat → Bool} {n : Nat} (hn : n ≤ 512) : ∃ x, q_min p n x := by
  by_cases c : ∃ y, y < n ∧ p y = true
  · have key : ∀ m, (∃ y, y < n ∧ p y = true ∧ n_bits y * 1024 + y = m) → ∃ x, q_min p n x := by
      intro m
      induction m using Nat.strongRecOn with
      | ind m ih =>
        intro ⟨y, h1, h2, h3⟩
        by_cases c2 : ∃ y', y' < n ∧ p y' = true ∧ n_bits y' * 1024 + y' < m
        · obtain ⟨y', k1, k2, k3⟩ := c2
          exact ih _ k3 ⟨y', k1, k2, rfl⟩
        · refine ⟨y, Or.inr ⟨h1, h2, ?_⟩⟩
          intro z k1 k2
          have : ¬ n_bits z * 1024 + z < m := fun g => c2 ⟨z, k1, k2, g⟩
          omega
    obtain ⟨y, h1, h2⟩ := c
    exact key _ ⟨y, h1, h2, rfl⟩
  · refine ⟨_, Or.inl ⟨rfl, ?_⟩⟩
    intro y hy
    cases e : p y
    · rfl
    · exact absurd ⟨y, hy, e⟩ c
end
section
variable {d N : Nat} {Q : Value → am_H → Prop} {r : am_rho} {I : Nat → Nat → Int32} {J : Nat → Nat → Int64}
/-- the trial's rows, its light apart -/
theorem cw_82 {M W I1 I3 : Nat → Nat → Int32} (h : ∀ a j, 82 ≤ a → a ≤ 87 → (a ≠ 82 ∨ j ≠ 5) → I3 a j = I1 a j) (g1 : cw_rel M (c_w I1 82) W) : cw_rel M (c_w I3 82) W := by
  have this : ∀ i j, i ≤ 5 → (i ≠ 0 ∨ j ≠ 5) → c_w I3 82 i j = c_w I1 82 i j := by
    intro i j hi hj
    rw [c_wI hi, c_wI hi, h _ _ (by omega) (by omega) (by omega)]
  obtain ⟨r0, r1, r2, r3, r4, r5, r6, r7, r8, r9⟩ := g1
  refine ⟨?_, ?_, ?_, ?_, ?_, ?_, ?_, ?_, ?_, ?_⟩
  · rw [this _ _ (by omega) (by omega)]; exact r0
  · rw [this _ _ (by omega) (by omega)]; exact r1
  · rw [this _ _ (by omega) (by omega)]; exact r2
  · rw [this _ _ (by omega) (by omega)]; exact r3
  · intro k hk; rw [this _ _ (by omega) (by omega)]; exact r4 k hk
  · intro k hk l hl; rw [this _ _ (by omega) (by omega)]; exact r5 k hk l hl
  · intro k hk l hl; rw [this _ _ (by omega) (by omega)]; exact r6 k hk l hl
  · intro l hl; rw [this _ _ (by omega) (by omega)]; exact r7 l hl
  · intro l hl; rw [this _ _ (by omega) (by omega)]; exact r8 l hl
  · intro k hk; rw [this _ _ (by omega) (by omega)]; exact r9 k hk
/-- so many houses lit: does s stand there then -/
def q_lp (I : Nat → Nat → Int32) (s h hr y : Nat) : Bool := decide (q_tr I (am_u I 93 61 (nI y)) s hr = nI h)
/-- one try of the class -/
theorem ld_try {S I1 : Nat → Nat → Int32} {J1 : Nat → Nat → Int64} {rt rs rd rl rx nt nw nf s h hr y : Nat} {x5 x6 : Int32} (hv : i_inv (rt, rs, rd, rl, rx, nt, nw, nf) I J) (hs : s < m_nZ I)
    (henv0 : c_env S I rt (rt + 4) (rt + 5) (m_far I (I 128)) false (m_g I 0 9) (m_g I 0 3 0) (m_g I 0 3 0)) (srow : ∀ c, (c < 61 ∨ c = 62 ∨ (63 ≤ c ∧ c < 69) ∨ 72 ≤ c) → S c = I c)
    (h11 : S 61 11 = nI 0) (hr0 : (I 118 0).toNatClampNeg ≤ hr) (hr12 : hr < 12)
    (hi : ∀ c, c ≠ 63 → c ≠ 68 → (c < 82 ∨ 87 < c) → I1 c = S c) (hc : c_cache I I (rt + 15) (I1 63) (J1 64))
    (hQ : ∀ I3 J3, (∀ c, c ≠ 63 → c ≠ 68 → (c < 82 ∨ 87 < c) → I3 c = S c) → c_cache I I (rt + 15) (I3 63) (J3 64) → am_V (d + 7) Q 85 128 [some (.ref 81), some (.ref rt), some (.int (nI s)), some (.int (nI h)), some (.int (nI hr)), some (.int x5), some (.int x6), some (.int (nI y))] [.int (q_tr I (am_u I 93 61 (nI y)) s hr)] (am_hp N (rt, rs, rd, rl, rx, rt, rt + 4, rt + 5) I3 J3)) :
    am_D (d + 7) 101 [.ref 82, .ref 49] (am_hp N (rt, rs, rd, rl, rx, rt, rt + 4, rt + 5) I1 J1) (fun v h' => am_V (d + 7) Q 85 91 [some (.ref 81), some (.ref rt), some (.int (nI s)), some (.int (nI h)), some (.int (nI hr)), some (.int x5), some (.int x6), some (.int (nI y))] [] h') := by
  obtain ⟨ht, hok, eH, eZ, eL, h0, h12, e49, e118⟩ := iv_ref hv
  obtain ⟨href, htr, hid, hnow, himg, hund, hsig, htap, hflt, hca⟩ := hv
  have htr' := htr
  obtain ⟨⟨_, _, hst, hokL⟩, ⟨e0, e1, e2, e3, e4, e6⟩, ecat, ehn, esn, ese, ewy, efa, esl, ele, ema, ela, ebe, elw, eus, ekn, ero⟩ := htr'
  have hZ5 := hok.2.2.1.2
  rw [e118, nI_clamp (by omega)] at hr0
  refine ct_become (I := I) hok hnow (fun c h1 h2 => by rw [hi c (by omega) (by omega) (by omega), srow c (by omega)]) ?_
  intro I2 k1 k2 k3
  rw [e_Tries_fewestLamps_91 ht, k3]
  have r5 : ∀ c, c ≠ 63 → c ≠ 68 → (c < 82 ∨ 87 < c) → am_u I2 82 5 (m_g I 0 3 0 ||| nI y) c = S c := fun c h1 h2 h3 => by rw [am_uRow (by omega), k1 c h3, hi c h1 h2 h3]
  have hrel : cw_rel I (c_w (am_u I2 82 5 (m_g I 0 3 0 ||| nI y)) 82) (m_g I 0) := cw_82 (fun a j h1 h2 h3 => am_uN (by omega)) k2
  have hlit : am_u I2 82 5 (m_g I 0 3 0 ||| nI y) 82 5 = m_g I 0 3 0 ||| nI y := am_uE
  have h63 : am_u I2 82 5 (m_g I 0 3 0 ||| nI y) 63 = I1 63 := by rw [am_uRow (by omega), k1 63 (by omega)]
  generalize am_u I2 82 5 (m_g I 0 3 0 ||| nI y) = I4 at r5 hrel hlit h63 ⊢
  have hte : te I (am_u I 93 61 (nI y)) := te_93
  have hf : ∀ k, k ≠ 61 → am_u I 93 61 (nI y) 93 k = I 93 k := fun k h => am_uN (by omega)
  have henv : c_env I4 (am_u I 93 61 (nI y)) rt (rt + 4) (rt + 5) (m_far (am_u I 93 61 (nI y)) (I 128)) false (m_g I 0 9) (m_g I 0 3 0 ||| nI y) (m_g I 0 3 0) := by
    have he' := henv0
    obtain ⟨_, _, eb, em, en, ed, edr, el, ef, ew, ewk, ebn, elr, eus, ero⟩ := he'
    refine env_x hte henv0 (fun c h => r5 c (by omega) (by omega) (by omega)) ⟨by omega, by omega⟩ ?_ ?_ ?_ ?_ ?_ ?_ ?_ ?_
    · rw [n_noise hte ⟨hf _ (by omega), hf _ (by omega), hf _ (by omega), hf _ (by omega), hf _ (by omega), hf _ (by omega)⟩, r5 69 (by omega) (by omega) (by omega)]; exact en
    · rw [n_deep hte ⟨hf _ (by omega), hf _ (by omega)⟩, r5 70 (by omega) (by omega) (by omega)]; exact ed
    · rw [n_dream hte ⟨hf _ (by omega), hf _ (by omega)⟩, r5 71 (by omega) (by omega) (by omega)]; exact edr
    · intro k hk hr hhr
      have h0' := el k hk hr hhr
      rw [m_light_idle hid] at h0'
      unfold cl_light at h0' ⊢
      rw [r5 61 (by omega) (by omega) (by omega), r5 (rt + 12) (by omega) (by omega) (by omega)]
      have hd : decide (S 61 11 = nI 0) = true := decide_eq_true h11
      rw [hd, Bool.true_and] at h0' ⊢
      unfold m_light
      rw [hf 52 (by omega), hf 62 (by omega), am_uE, hid.1, hid.2.2.2.2.2.2.2.1, decide_eq_false (show ¬ nI 0 = nI 4 by decide +kernel), decide_eq_false (show ¬ nI 0 = nI 5 by decide +kernel), decide_eq_true rfl, e_lamp hte, b_or, ← ela k hk hr hhr, srow (rt + 12) (by omega)]
      cases bt (I (rt + 12) k) hr <;> cases bt (m_g I 0 3 0) k <;> cases bt (nI y) k <;> rfl
    · rw [n_far hte ⟨hf _ (by omega), hf _ (by omega)⟩, r5 (rt + 5) (by omega) (by omega) (by omega)]; exact ef
    · rw [n_way hte ⟨hf _ (by omega), hf _ (by omega)⟩, r5 (rt + 4) (by omega) (by omega) (by omega)]; exact ew
    · rw [r5 61 (by omega) (by omega) (by omega), hf _ (by omega)]; exact ewk
    · rw [r5 61 (by omega) (by omega) (by omega)]; exact ebn
  refine s_T_walk (I := I) (M := am_u I 93 61 (nI y)) (W := m_g I 0) (h0 := h0) (j := hr - h0 + 1) hte hok henv (e_cw hte hrel) hnow.2.2.1 hlit e118 (by omega) (by omega) (by rw [show h0 + (hr - h0 + 1) - 1 = hr by omega]) (by rw [r5 (rt + 19) (by omega) (by omega) (by omega), srow (rt + 19) (by omega)]) (by rw [h63]; exact hc) ?_
  intro I5 J5 w1 w2 w3 w4 w5
  rw [e_Tries_fewestLamps_118 ht, s_N_stood (by omega) hr12, am_asIe]
  have e5 : I5 68 (5 * hr + s) = q_tr I (am_u I 93 61 (nI y)) s hr := by
    have := w5 (hr - h0) (by omega) s hs
    rw [show h0 + (hr - h0) = hr by omega] at this
    rw [this]
    unfold q_tr
    rw [e118, nI_clamp (by omega)]
  rw [e5]
  refine hQ _ _ ?_ w2
  intro c h1 h2 h3
  rw [w1 c h1 h2 h3, r5 c h1 h2 h3]
end
