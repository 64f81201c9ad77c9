/-! ===== L3: two singers, the class's corners ===== -/
def rs_M (I : Nat → Nat → Int32) (x y : Int32) (a b : Nat) : Nat → Nat → Int32 := am_u (am_u (am_u (am_u I 93 56 x) 93 57 y) 93 54 (nI a)) 93 55 (nI b)
/-- a rest: neither would have more -/
def q_rsb (A B : Nat → Nat → Int32) (n a b : Nat) : Bool := !decide (fa_first (fun k => decide (A a b < A k b) || !decide (B a k ≤ B a b)) n < n)
def rcA (p : Nat → Nat → Bool) (n : Nat) : Nat → Nat
  | 0 => 0
  | a + 1 => rcA p n a + fa_cnt (p a) n
def rc (p : Nat → Nat → Bool) (n a b : Nat) : Nat := rcA p n a + fa_cnt (p a) b
theorem fa_cnt_mono {p : Nat → Bool} {m : Nat} : ∀ k, fa_cnt p m ≤ fa_cnt p (m + k)
  | 0 => Nat.le_refl _
  | k + 1 => by
    have := fa_cnt_mono (p := p) (m := m) k
    rw [show m + (k + 1) = (m + k) + 1 by omega, fa_cnt]
    omega
theorem fa_cnt_mn {p : Nat → Bool} {m n : Nat} (h : m ≤ n) : fa_cnt p m ≤ fa_cnt p n := by
  obtain ⟨k, rfl⟩ : ∃ k, n = m + k := ⟨n - m, by omega⟩
  exact fa_cnt_mono k
theorem rcA_mono {p : Nat → Nat → Bool} {n m : Nat} : ∀ k, rcA p n m ≤ rcA p n (m + k)
  | 0 => Nat.le_refl _
  | k + 1 => by
    have := rcA_mono (p := p) (n := n) (m := m) k
    rw [show m + (k + 1) = (m + k) + 1 by omega, rcA]
    omega
theorem rcA_mn {p : Nat → Nat → Bool} {n m k : Nat} (h : m ≤ k) : rcA p n m ≤ rcA p n k := by
  obtain ⟨j, rfl⟩ : ∃ j, k = m + j := ⟨k - m, by omega⟩
  exact rcA_mono j
theorem rc_mn {p : Nat → Nat → Bool} {n a b a' b' : Nat} (h : a' < a ∨ (a' = a ∧ b' ≤ b)) (hb : b' ≤ n) : rc p n a' b' ≤ rc p n a b := by
  rcases h with h | ⟨rfl, h⟩
  · have h1 := rcA_mn (p := p) (n := n) (show a' + 1 ≤ a by omega)
    have h2 := fa_cnt_mn (p := p a') hb
    rw [rcA] at h1
    unfold rc
    omega
  · have := fa_cnt_mn (p := p a') h
    unfold rc
    omega
theorem rc_S {p : Nat → Nat → Bool} {n a b : Nat} : rc p n a (b + 1) = rc p n a b + (p a b).toNat := by
  unfold rc
  rw [fa_cnt_succ]
  omega
theorem rc_lt {p : Nat → Nat → Bool} {n a b a' b' : Nat} (h : a' < a ∨ (a' = a ∧ b' < b)) (hb : b' < n) (hp : p a' b' = true) : rc p n a' b' < rc p n a b := by
  have h1 := rc_mn (p := p) (n := n) (a := a) (b := b) (a' := a') (b' := b' + 1) (by omega) (by omega)
  rw [rc_S, hp] at h1
  have : true.toNat = 1 := rfl
  omega
theorem rcA_le {p : Nat → Nat → Bool} {n : Nat} (h : n ≤ 8) : ∀ a, rcA p n a ≤ 8 * a
  | 0 => Nat.le_refl _
  | a + 1 => by
    have := rcA_le (p := p) h a
    have h2 := fa_cnt_le (p a) n
    rw [rcA]
    omega
theorem rc_n {p : Nat → Nat → Bool} {n a : Nat} : rc p n a n = rcA p n (a + 1) := rfl
theorem rc_0 {p : Nat → Nat → Bool} {n a : Nat} : rc p n a 0 = rcA p n a := rfl
theorem rsb_c {A A' B B' : Nat → Nat → Int32} {n a b : Nat} (ha : a < n) (hb : b < n) (h : ∀ i j, i < n → j < n → A i j = A' i j ∧ B i j = B' i j) : q_rsb A B n a b = q_rsb A' B' n a b := by
  unfold q_rsb
  have : fa_first (fun k => decide (A a b < A k b) || !decide (B a k ≤ B a b)) n = fa_first (fun k => decide (A' a b < A' k b) || !decide (B' a k ≤ B' a b)) n := by
    refine fa_fcg n ?_
    intro k hk
    rw [(h a b ha hb).1, (h a b ha hb).2, (h k b hk hb).1, (h a k ha hk).2]
  rw [this]
theorem rc_c {p p' : Nat → Nat → Bool} {n : Nat} (h : ∀ a b, a < n → b < n → p a b = p' a b) {a b : Nat} (ha : a ≤ n) (hb : b ≤ n) (hab : a < n ∨ b = 0) : rc p n a b = rc p' n a b := by
  have hA : ∀ a, a ≤ n → rcA p n a = rcA p' n a := by
    intro a
    induction a with
    | zero => intro _; rfl
    | succ a ih =>
      intro ha
      rw [rcA, rcA, ih (by omega), fa_cnt_cong (fun k hk => h a k (by omega) hk)]
  unfold rc
  rw [hA a ha]
  rcases hab with h1 | h1
  · rw [fa_cnt_cong (fun k hk => h a k h1 (by omega))]
  · subst h1; rfl
section
variable {d N : Nat} {Q : Value → am_H → Prop} {r : am_rho} {I : Nat → Nat → Int32} {J : Nat → Nat → Int64}
theorem rs_te {x y : Int32} {a b : Nat} : te I (rs_M I x y a b) := te_trans (te_trans te_93 te_93) (te_trans te_93 te_93)
theorem rs_o {x y : Int32} {a b k : Nat} (h : k < 54 ∨ 57 < k) : rs_M I x y a b 93 k = I 93 k := by
  unfold rs_M; rw [am_uN (by omega), am_uN (by omega), am_uN (by omega), am_uN (by omega)]
theorem rs_55 {x y : Int32} {a b : Nat} : rs_M I x y a b 93 55 = nI b := by unfold rs_M; rw [am_uE]
theorem rs_54 {x y : Int32} {a b : Nat} : rs_M I x y a b 93 54 = nI a := by unfold rs_M; rw [am_uN (by omega), am_uE]
theorem rs_57 {x y : Int32} {a b : Nat} : rs_M I x y a b 93 57 = y := by unfold rs_M; rw [am_uN (by omega), am_uN (by omega), am_uE]
theorem rs_56 {x y : Int32} {a b : Nat} : rs_M I x y a b 93 56 = x := by unfold rs_M; rw [am_uN (by omega), am_uN (by omega), am_uN (by omega), am_uE]
theorem rs_row {x y : Int32} {a b c : Nat} (h : c ≠ 93) : rs_M I x y a b c = I c := by unfold rs_M; rw [am_uRow h, am_uRow h, am_uRow h, am_uRow h]
theorem rs_noise {p q a b h kb ks kc : Nat} {bl : Int32} (hi : m_idle I) (hb : bl = nI kb) (hs : I 99 h = nI ks) (hc : I 98 h = nI kc) (hh : h < 8) (ha : a < 8) (hb8 : b < 8) : m_noise (rs_M I (nI p) (nI q) a b) bl h = nI (kb + ks + kc * 3 + (if h = a then p else 0) + (if h = b then q else 0)) := by
  obtain ⟨i0, i1, i2, i3, i4, i5, i6, i7, i8⟩ := hi
  have e : ∀ k z, k < 8 → (if nI h = nI k then nI z else nI 0) = nI (if h = k then z else 0) := by
    intro k z hk
    by_cases c : h = k
    · rw [if_pos c, if_pos (by rw [c])]
    · rw [if_neg c, if_neg (by rw [nI_eq (by omega) (by omega)]; exact c)]
  unfold m_noise
  rw [rs_o (k := 52) (by omega), rs_o (k := 63) (by omega), rs_54, rs_55, rs_56, rs_57, rs_row (by omega), rs_row (by omega), i0, i8, if_neg n02, if_neg (show ¬ nI 0 = nI 3 by decide +kernel), if_neg n01, if_neg (am_neg1' (by omega)), e a p ha, e b q hb8, hb, hs, hc, am_mulN, nI_add, nI_add, nI_add, nI_add, nI_add]
  congr 1
  omega
def q_rsW (I : Nat → Nat → Int32) (p q a b : Nat) : Nat → Nat → Int32 := q_run I (rs_M I (nI p) (nI q) a b) false
def q_c1 (I : Nat → Nat → Int32) (p q a b : Nat) : Int32 := nI (fa_cnt (fun s => decide (q_rsW I p q a b 5 s = nI a)) (m_nZ I) / (if a = b then 2 else 1))
def q_c2 (I : Nat → Nat → Int32) (p q a b : Nat) : Int32 := nI (fa_cnt (fun s => decide (q_rsW I p q a b 5 s = nI b)) (m_nZ I) / (if a = b then 2 else 1))
def q_rp (I : Nat → Nat → Int32) (p q : Nat) : Nat → Nat → Bool := q_rsb (q_c1 I p q) (q_c2 I p q) (m_nH I)
theorem s_T_listeners {rt z : Nat} {x : Int32} (ht : rt = 3 ∨ rt = 23) (hz : I rt 2 = nI z) (hz5 : z ≤ 5) : am_D (d + 1) 92 [.ref 81, .ref rt, .int x] (am_hp N r I J) Q = Q (.int (nI (fa_cnt (fun s => decide (I 83 s = x)) z))) (am_hp N r I J) := by
  have lp := am_up (P := fun j => am_V d Q 92 5 [some (.ref 81), some (.ref rt), some (.int x), some (.int (nI (fa_cnt (fun s => decide (I 83 s = x)) j))), some (.int (nI j))] [] (am_hp N r I J)) (R := Q (.int (nI (fa_cnt (fun s => decide (I 83 s = x)) z))) (am_hp N r I J)) z
    (by
      try dsimp only
      rw [e_Tries_listeners_5 ht, am_ifd, hz, if_pos (by rw [nI_leI (by omega) (by omega)]; omega)])
    (by
      intro j hj
      try dsimp only
      rw [e_Tries_listeners_5 ht, am_ifd, hz, if_neg (by rw [nI_leI (by omega) (by omega)]; omega), am_gI (by omega) (by omega), am_ifn, nI_clamp (by omega), nI_add, nI_add, nI_add]
      by_cases c : I 83 j = x
      · rw [if_pos c, fa_cnt_yes (by simp [c])]
      · rw [if_neg c, fa_cnt_no (by simp [c])]; rfl)
  rw [e_Tries_listeners ht]
  exact lp 0 (by omega)
theorem s_T_isRest {rt n a b : Nat} (ht : rt = 3 ∨ rt = 23) (hn : I rt 0 = nI n) (hn8 : n ≤ 8) (ha : a < 8) (hb : b < 8) : am_D (d + 1) 93 [.ref 81, .ref rt, .int (nI a), .int (nI b)] (am_hp N r I J) Q = Q (.int (nI (q_rsb (fun i j => I 90 (8 * i + j)) (fun i j => I 91 (8 * i + j)) n a b).toNat)) (am_hp N r I J) := by
  have e8 : ∀ i j, nI i * nI 8 + nI j = nI (8 * i + j) := fun i j => by rw [am_mulN, nI_add, Nat.mul_comm]
  have lp := am_find (P := fun j => am_V d Q 93 11 [some (.ref 81), some (.ref rt), some (.int (nI a)), some (.int (nI b)), some (.int (nI (8 * a + b))), some (.int (nI j))] [] (am_hp N r I J)) (p := fun k => decide (I 90 (8 * a + b) < I 90 (8 * k + b)) || !decide (I 91 (8 * a + k) ≤ I 91 (8 * a + b))) (Y := fun _ => Q (.int (nI 0)) (am_hp N r I J)) (R := Q (.int (nI 1)) (am_hp N r I J)) n
    (by
      try dsimp only
      rw [e_Tries_isRest_11 ht, am_ifd, hn, if_pos (by rw [nI_leI (by omega) (by omega)]; omega)])
    (by
      intro j hj
      try dsimp only
      rw [e_Tries_isRest_11 ht, am_ifd, hn, if_neg (by rw [nI_leI (by omega) (by omega)]; omega), e8, e8, am_gI (by omega) (by omega), am_gI (by omega) (by omega), am_ifd, am_gI (by omega) (by omega), am_gI (by omega) (by omega), am_ifd, nI_clamp (by omega), nI_clamp (by omega), nI_clamp (by omega), nI_add]
      by_cases c : I 90 (8 * a + b) < I 90 (8 * j + b)
      · rw [if_pos c, if_pos (by rw [decide_eq_true c]; rfl)]
      · rw [if_neg c]
        by_cases c2 : I 91 (8 * a + j) ≤ I 91 (8 * a + b)
        · rw [if_pos c2, if_neg (by rw [decide_eq_false c, decide_eq_true c2]; decide)]
        · rw [if_neg c2, if_pos (by rw [decide_eq_false c, decide_eq_false c2]; rfl)])
  rw [e_Tries_isRest ht, e8]
  refine lp.trans ?_
  unfold q_rsb
  by_cases c : fa_first (fun k => decide (I 90 (8 * a + b) < I 90 (8 * k + b)) || !decide (I 91 (8 * a + k) ≤ I 91 (8 * a + b))) n < n
  · rw [if_pos c, decide_eq_true c]; rfl
  · rw [if_neg c, decide_eq_false c]; rfl
/-- the class's corners so far -/
def rs_inv (I S : Nat → Nat → Int32) (t p q a b : Nat) (I2 : Nat → Nat → Int32) (J2 : Nat → Nat → Int64) : Prop :=
  (∀ c, c ≠ 63 → c ≠ 68 → (c < 82 ∨ 87 < c) → c ≠ 90 → c ≠ 91 → I2 c = S c) ∧ c_cache I I (t + 15) (I2 63) (J2 64) ∧
  (∀ a' b', a' < m_nH I → b' < m_nH I → (a' < a ∨ (a' = a ∧ b' < b)) → I2 90 (8 * a' + b') = q_c1 I p q a' b' ∧ I2 91 (8 * a' + b') = q_c2 I p q a' b')
theorem rs_up {a b k : Nat} {x y : Int32} : am_u (am_u I 69 a (I 69 a + x)) 69 b ((am_u I 69 a (I 69 a + x)) 69 b + y) 69 k = (I 69 k + (if k = a then x else nI 0)) + (if k = b then y else nI 0) := by
  have z : ∀ w : Int32, w + nI 0 = w := fun w => Int32.add_zero w
  by_cases c : k = b
  · subst c
    rw [am_uE, if_pos rfl]
    by_cases c2 : k = a
    · subst c2; rw [am_uE, if_pos rfl]
    · rw [am_uN (by omega), if_neg c2, z]
  · rw [am_uN (by omega), if_neg c, z]
    by_cases c2 : k = a
    · subst c2; rw [am_uE, if_pos rfl]
    · rw [am_uN (by omega), if_neg c2, z]
theorem rs_dn {a b k : Nat} {x y : Int32} : am_u (am_u I 69 a (I 69 a - x)) 69 b ((am_u I 69 a (I 69 a - x)) 69 b - y) 69 k = (I 69 k - (if k = a then x else nI 0)) - (if k = b then y else nI 0) := by
  have z : ∀ w : Int32, w - nI 0 = w := fun w => Int32.sub_zero w
  by_cases c : k = b
  · subst c
    rw [am_uE, if_pos rfl]
    by_cases c2 : k = a
    · subst c2; rw [am_uE, if_pos rfl]
    · rw [am_uN (by omega), if_neg c2, z]
  · rw [am_uN (by omega), if_neg c, z]
    by_cases c2 : k = a
    · subst c2; rw [am_uE, if_pos rfl]
    · rw [am_uN (by omega), if_neg c2, z]
theorem rs_zero (z u v : Int32) : (((z + u) + v) - u) - v = z := by
  rw [show z + u + v = z + v + u by rw [Int32.add_assoc, Int32.add_comm u v, ← Int32.add_assoc], Int32.add_sub_cancel, Int32.add_sub_cancel]
theorem rs_div : ∀ c, c < 6 → nI c / nI 1 = nI (c / 1) ∧ nI c / nI 2 = nI (c / 2) := by decide +kernel
theorem rs_step {S : Nat → Nat → Int32} {rt rs rd rl rx nt nw nf p q a b : Nat} {o6 : Option Int32} {I2 : Nat → Nat → Int32} {J2 : Nat → Nat → Int64} (hv : i_inv (rt, rs, rd, rl, rx, nt, nw, nf) I J)
    (henv0 : c_env S I rt (rt + 4) (rt + 5) (m_far I (I 128)) false (m_g I 0 9) (m_g I 0 3 0) (m_g I 0 3 0)) (srow : ∀ c, (c < 61 ∨ c = 62 ∨ (63 ≤ c ∧ c < 69) ∨ 72 ≤ c) → S c = I c)
    (hp : p ≤ 9) (hq : q ≤ 9) (ha : a < m_nH I) (hb : b < m_nH I) (hi : rs_inv I S rt p q a b I2 J2)
    (hQ : ∀ I3 J3 o6, rs_inv I S rt p q a (b + 1) I3 J3 → am_V (d + 7) Q 91 27 [some (.ref 81), some (.ref rt), some (.int (nI p)), some (.int (nI q)), some (.int (nI a)), some (.int (nI (b + 1))), am_oi o6] [] (am_hp N (rt, rs, rd, rl, rx, rt, rt + 4, rt + 5) I3 J3)) :
    am_V (d + 7) Q 91 27 [some (.ref 81), some (.ref rt), some (.int (nI p)), some (.int (nI q)), some (.int (nI a)), some (.int (nI b)), am_oi o6] [] (am_hp N (rt, rs, rd, rl, rx, rt, rt + 4, rt + 5) I2 J2) := by
  obtain ⟨ht, hok, eH, eZ, eL, h0, h12, e49, e118⟩ := iv_ref hv
  have hbell := iv_bell hv
  obtain ⟨href, htr, hid, hnow, himg, hund, hsig, htap, hflt, hca⟩ := hv
  have htr' := htr
  obtain ⟨⟨_, _, hst, hokL⟩, ⟨e0, e1, e2, e3, e4, e6⟩, ecat, ehn, esn, ese, ewy, efa, esl, ele, ema, ela, ebe, elw, eus, ekn, ero⟩ := htr'
  have hH8 := hok.1.2
  have hZ5 := hok.2.2.1.2
  obtain ⟨i1, i2, i3⟩ := hi
  have nle : ¬ (nI (m_nH I) : Int32) ≤ nI b := by rw [nI_leI (by omega) (by omega)]; omega
  have ga : am_inb (nI a) 8 = true := am_inbT (by omega) (by omega)
  have gb : am_inb (nI b) 8 = true := am_inbT (by omega) (by omega)
  have ert : I2 rt = I rt := by rw [i1 rt (by omega) (by omega) (by omega) (by omega) (by omega), srow rt (by omega)]
  rw [e_Tries_sing_27 ht, am_ifd, ert, eH, if_neg nle, am_gT ga, am_gT ga, am_gT gb, am_gT gb, nI_clamp (show a < 2 ^ 31 by omega), nI_clamp (show b < 2 ^ 31 by omega)]
  have hraise : ∀ k, am_u (am_u I2 69 a (I2 69 a + nI p)) 69 b ((am_u I2 69 a (I2 69 a + nI p)) 69 b + nI q) 69 k = (I2 69 k + (if k = a then nI p else nI 0)) + (if k = b then nI q else nI 0) := fun k => rs_up
  have hrowU : ∀ c, c ≠ 69 → am_u (am_u I2 69 a (I2 69 a + nI p)) 69 b ((am_u I2 69 a (I2 69 a + nI p)) 69 b + nI q) c = I2 c := fun c h => by rw [am_uRow h, am_uRow h]
  generalize am_u (am_u I2 69 a (I2 69 a + nI p)) 69 b ((am_u I2 69 a (I2 69 a + nI p)) 69 b + nI q) = I3 at hraise hrowU ⊢
  refine ct_become (I := I) hok hnow (fun c h1 h2 => by rw [hrowU c (by omega), i1 c (by omega) (by omega) (by omega) (by omega) (by omega), srow c (by omega)]) ?_
  intro I4 k1 k2 k3
  rw [e_Tries_sing_75 ht]
  have hte : te I (rs_M I (nI p) (nI q) a b) := rs_te
  have r4 : ∀ c, c ≠ 63 → c ≠ 68 → c ≠ 69 → (c < 82 ∨ 87 < c) → c ≠ 90 → c ≠ 91 → I4 c = S c := fun c h1 h2 h3 h4 h5 h6 => by rw [k1 c h4, hrowU c h3, i1 c h1 h2 h4 h5 h6]
  have c5 : rs_M I (nI p) (nI q) a b 93 52 = I 93 52 ∧ rs_M I (nI p) (nI q) a b 93 53 = I 93 53 := ⟨rs_o (by omega), rs_o (by omega)⟩
  have henv : c_env I4 (rs_M I (nI p) (nI q) a b) rt (rt + 4) (rt + 5) (m_far (rs_M I (nI p) (nI q) a b) (I 128)) false (m_g I 0 9) (m_g I 0 3 0) (m_g I 0 3 0) := by
    have he' := henv0
    obtain ⟨_, _, eb, em, en, ed, edr, el, ef, ew, ewk, ebn, elr, eus, ero⟩ := he'
    refine env_x hte henv0 (fun c h => ?_) ⟨by omega, by omega⟩ ?_ ?_ ?_ ?_ ?_ ?_ ?_ ?_
    · by_cases c8 : c < 61
      · exact r4 c (by omega) (by omega) (by omega) (by omega) (by omega) (by omega)
      · exact r4 c (by omega) (by omega) (by omega) (by omega) (by omega) (by omega)
    · intro k hk
      obtain ⟨b1, kb, hkb, b2⟩ := hbell k hk
      obtain ⟨_, b4, _, ks, hks, b5⟩ := ebe k hk
      have hc := bt_toNat2 (bt (I rt 5) k)
      have en1 := (en k hk).1
      rw [m_noise_idle hid b2 b5 (ecat k hk) (by omega)] at en1
      rw [rs_noise hid b2 b5 (ecat k hk) (by omega) (by omega) (by omega), k1 69 (by omega), hraise k, i1 69 (by omega) (by omega) (by omega) (by omega) (by omega), en1]
      have e : ∀ (c : Prop) [Decidable c] z, (if c then nI z else nI 0) = nI (if c then z else 0) := by
        intro c _ z; split <;> rfl
      rw [e, e, nI_add, nI_add]
      refine ⟨rfl, _, ?_, rfl⟩
      have t1 : (if k = a then p else 0) ≤ p := by split <;> omega
      have t2 : (if k = b then q else 0) ≤ q := by split <;> omega
      have hc2 := bt_toNat2 (bt (I (rt, rs, rd, rl, rx, nt, nw, nf).fst 5) k)
      omega
    · rw [n_deep hte c5, r4 70 (by omega) (by omega) (by omega) (by omega) (by omega) (by omega)]; exact ed
    · rw [n_dream hte ⟨rs_o (by omega), rs_o (by omega)⟩, r4 71 (by omega) (by omega) (by omega) (by omega) (by omega) (by omega)]; exact edr
    · rw [n_light hte ⟨c5.1, rs_o (by omega), rs_o (by omega)⟩]
      intro k hk hr hhr
      have := el k hk hr hhr
      unfold cl_light at this ⊢
      rw [r4 61 (by omega) (by omega) (by omega) (by omega) (by omega) (by omega), r4 (rt + 12) (by omega) (by omega) (by omega) (by omega) (by omega) (by omega)]; exact this
    · rw [n_far hte c5, r4 (rt + 5) (by omega) (by omega) (by omega) (by omega) (by omega) (by omega)]; exact ef
    · rw [n_way hte c5, r4 (rt + 4) (by omega) (by omega) (by omega) (by omega) (by omega) (by omega)]; exact ew
    · rw [r4 61 (by omega) (by omega) (by omega) (by omega) (by omega) (by omega), rs_o (by omega)]; exact ewk
    · rw [r4 61 (by omega) (by omega) (by omega) (by omega) (by omega) (by omega)]; exact ebn
  refine s_T_walk (I := I) (M := rs_M I (nI p) (nI q) a b) (W := m_g I 0) (h0 := h0) (j := 12 - h0) hte hok henv (e_cw hte k2) hnow.2.2.1 k3 e118 (by omega) (by omega) (by rw [show h0 + (12 - h0) - 1 = 11 by omega]) (by rw [r4 (rt + 19) (by omega) (by omega) (by omega) (by omega) (by omega) (by omega), srow (rt + 19) (by omega)]) (by rw [k1 63 (by omega), hrowU 63 (by omega)]; exact i2) ?_
  intro I5 J5 w1 w2 w3 w4 w5
  rw [e_Tries_sing_88 ht, am_gT ga, am_gT ga, am_gT gb, am_gT gb, nI_clamp (show a < 2 ^ 31 by omega), nI_clamp (show b < 2 ^ 31 by omega), am_ifn]
  have hlow : ∀ k, am_u (am_u I5 69 a (I5 69 a - nI p)) 69 b ((am_u I5 69 a (I5 69 a - nI p)) 69 b - nI q) 69 k = I2 69 k := by
    intro k
    rw [rs_dn, w1 69 (by omega) (by omega) (by omega), k1 69 (by omega), hraise k]
    exact rs_zero _ _ _
  have hrowL : ∀ c, c ≠ 69 → am_u (am_u I5 69 a (I5 69 a - nI p)) 69 b ((am_u I5 69 a (I5 69 a - nI p)) 69 b - nI q) c = I5 c := fun c h => by rw [am_uRow h, am_uRow h]
  generalize am_u (am_u I5 69 a (I5 69 a - nI p)) 69 b ((am_u I5 69 a (I5 69 a - nI p)) 69 b - nI q) = I6 at hlow hrowL ⊢
  have r6 : ∀ c, c ≠ 63 → c ≠ 68 → (c < 82 ∨ 87 < c) → c ≠ 90 → c ≠ 91 → I6 c = S c := by
    intro c h1 h2 h3 h4 h5
    by_cases e : c = 69
    · subst e; funext k; rw [hlow k, i1 69 (by omega) (by omega) (by omega) (by omega) (by omega)]
    · rw [hrowL c e, w1 c h1 h2 h3, k1 c h3, hrowU c e, i1 c h1 h2 h3 h4 h5]
  have r90 : ∀ c, c = 90 ∨ c = 91 → I6 c = I2 c := by
    intro c h
    rw [hrowL c (by omega), w1 c (by omega) (by omega) (by omega), k1 c (by omega), hrowU c (by omega)]
  have z6 : I6 rt 2 = nI (m_nZ I) := by rw [r6 rt (by omega) (by omega) (by omega) (by omega) (by omega), srow rt (by omega)]; exact eZ
  have e83 : ∀ s, s < m_nZ I → I6 83 s = q_rsW I p q a b 5 s := by
    intro s hs
    rw [hrowL 83 (by omega)]
    have := w3.2.2.2.2.1 s (by rw [e_nZ hte]; exact hs)
    rw [c_wI (by omega)] at this
    refine this.trans ?_
    unfold q_rsW q_run
    rw [e118, nI_clamp (by omega)]
  have cnt : ∀ c, fa_cnt (fun s => decide (I6 83 s = nI c)) (m_nZ I) = fa_cnt (fun s => decide (q_rsW I p q a b 5 s = nI c)) (m_nZ I) := by
    intro c
    refine fa_cnt_cong ?_
    intro s hs
    rw [e83 s hs]
  have e8 : nI a * nI 8 + nI b = nI (8 * a + b) := by rw [am_mulN, nI_add, Nat.mul_comm]
  have g64 : am_inb (nI (8 * a + b)) 64 = true := am_inbT (by omega) (by omega)
  have fin : ∀ sh, (sh = 1 ∨ sh = 2) → sh = (if a = b then 2 else 1) → am_D (d + 7) 92 [.ref 81, .ref rt, .int (nI a)] (am_hp N (rt, rs, rd, rl, rx, rt, rt + 4, rt + 5) I6 J5) (fun v h => am_asI v (fun y => am_V (d + 7) Q 91 149 [some (.ref 81), some (.ref rt), some (.int (nI p)), some (.int (nI q)), some (.int (nI a)), some (.int (nI b)), some (.int (nI sh))] [.int y, .int (nI a * nI 8 + nI b), .ref 90] h)) := by
    intro sh hsh esh
    have ns : ¬ nI sh = nI 0 := by rw [nI_eq (by omega) (by omega)]; omega
    have dv : ∀ c, nI (fa_cnt (fun s => decide (q_rsW I p q a b 5 s = nI c)) (m_nZ I)) / nI sh = nI (fa_cnt (fun s => decide (q_rsW I p q a b 5 s = nI c)) (m_nZ I) / (if a = b then 2 else 1)) := by
      intro c
      have hc := fa_cnt_le (fun s => decide (q_rsW I p q a b 5 s = nI c)) (m_nZ I)
      rw [← esh]
      rcases hsh with rfl | rfl
      · exact (rs_div _ (by omega)).1
      · exact (rs_div _ (by omega)).2
    rw [s_T_listeners ht z6 hZ5, am_asIe, e_Tries_sing_149 ht, am_gn ns, e8, am_gT g64, s_T_listeners ht (by rw [am_uRow (by omega)]; exact z6) hZ5, am_asIe, e_Tries_sing_172 ht, am_gn ns, am_gT g64, nI_clamp (show 8 * a + b < 2 ^ 31 by omega), am_uRow (show 83 ≠ 90 by omega), cnt, cnt, dv, dv, show nI b + nI 1 = nI (b + 1) from nI_add _ _]
    refine hQ _ _ _ ⟨?_, ?_, ?_⟩
    · intro c h1 h2 h3 h4 h5
      rw [am_uRow h5, am_uRow h4, r6 c h1 h2 h3 h4 h5]
    · rw [am_uRow (by omega), am_uRow (by omega), hrowL 63 (by omega)]; exact w2
    · intro a' b' ha' hb' hl
      by_cases e : a' = a ∧ b' = b
      · obtain ⟨rfl, rfl⟩ := e
        rw [am_uN (by omega), am_uE, am_uE]
        exact ⟨rfl, rfl⟩
      · rw [am_uN (by omega), am_uN (by omega), am_uN (by omega), am_uN (by omega), r90 90 (by omega), r90 91 (by omega)]
        exact i3 a' b' ha' hb' (by omega)
  by_cases c : a = b
  · rw [if_pos (by rw [c])]
    exact fin 2 (by omega) (by rw [if_pos c])
  · rw [if_neg (by rw [nI_eq (by omega) (by omega)]; exact c)]
    exact fin 1 (by omega) (by rw [if_neg c])
/-- all corners -/
theorem s_T_sing {rt rs rd rl rx nt nw nf p q : Nat} (hv : i_inv (rt, rs, rd, rl, rx, nt, nw, nf) I J) (hp : p ≤ 9) (hq : q ≤ 9)
    (hQ : ∀ I2 J2, cfr I I2 → c_cache I I (rt + 15) (I2 63) (J2 64) → (∀ a b, a < m_nH I → b < m_nH I → I2 90 (8 * a + b) = q_c1 I p q a b ∧ I2 91 (8 * a + b) = q_c2 I p q a b) → Q .null (am_hp N (rt, rs, rd, rl, rx, rt, rt + 4, rt + 5) I2 J2)) :
    am_D (d + 8) 91 [.ref 81, .ref rt, .int (nI p), .int (nI q)] (am_hp N (rt, rs, rd, rl, rx, nt, nw, nf) I J) Q := by
  obtain ⟨ht, hok, eH, eZ, eL, h0, h12, e49, e118⟩ := iv_ref hv
  have hbell := iv_bell hv
  have hH8 := hok.1.2
  have hZ5 := hok.2.2.1.2
  have henv0 := env_idle (w := 49) (F := I 128) (W := m_g I 0) (by omega) hv.2.1 hv.2.2.1 hbell
  have srow : ∀ c, (c < 61 ∨ c = 62 ∨ (63 ≤ c ∧ c < 69) ∨ 72 ≤ c) → c_suit I rt 49 (m_nZ I) c = I c := fun c h => su_row (by omega)
  rw [e_Tries_sing ht, s_N_suit ht (by omega) eZ hZ5, e_Tries_sing_12 ht]
  have hS : rs_inv I (c_suit I rt 49 (m_nZ I)) rt p q 0 0 (c_suit I rt 49 (m_nZ I)) J := by
    refine ⟨fun _ _ _ _ _ _ => rfl, ?_, fun a' b' _ _ h => by omega⟩
    rw [srow 63 (by omega)]
    exact hv.2.2.2.2.2.2.2.2.2
  have fin : ∀ I2 J2, rs_inv I (c_suit I rt 49 (m_nZ I)) rt p q (m_nH I) 0 I2 J2 → Q .null (am_hp N (rt, rs, rd, rl, rx, rt, rt + 4, rt + 5) I2 J2) := by
    intro I2 J2 hi
    refine hQ I2 J2 ⟨?_, ?_⟩ hi.2.1 (fun a b ha hb => hi.2.2 a b ha hb (by omega))
    · intro c hc
      rw [hi.1 c (by omega) (by omega) (by omega) (by omega) (by omega), srow c (by omega)]
    · intro c hc
      rw [hi.1 c (by omega) (by omega) (by omega) (by omega) (by omega), srow c (by omega)]
  generalize c_suit I rt 49 (m_nZ I) = S at henv0 srow hS fin ⊢
  have ert : ∀ a b I2 J2, rs_inv I S rt p q a b I2 J2 → I2 rt 0 = nI (m_nH I) := by
    intro a b I2 J2 hi
    rw [hi.1 rt (by omega) (by omega) (by omega) (by omega) (by omega), srow rt (by omega)]; exact eH
  have inner : ∀ a, a < m_nH I → (∀ I2 J2 o5 o6, rs_inv I S rt p q (a + 1) 0 I2 J2 → am_V (d + 7) Q 91 15 [some (.ref 81), some (.ref rt), some (.int (nI p)), some (.int (nI q)), some (.int (nI (a + 1))), am_oi o5, am_oi o6] [] (am_hp N (rt, rs, rd, rl, rx, rt, rt + 4, rt + 5) I2 J2)) →
      ∀ k b, m_nH I = b + k → ∀ I2 J2 o6, rs_inv I S rt p q a b I2 J2 → am_V (d + 7) Q 91 27 [some (.ref 81), some (.ref rt), some (.int (nI p)), some (.int (nI q)), some (.int (nI a)), some (.int (nI b)), am_oi o6] [] (am_hp N (rt, rs, rd, rl, rx, rt, rt + 4, rt + 5) I2 J2) := by
    intro a ha hK k
    induction k with
    | zero =>
      intro b hb I2 J2 o6 hi
      rw [e_Tries_sing_27 ht, am_ifd, ert a b I2 J2 hi, if_pos (by rw [nI_leI (by omega) (by omega)]; omega), show nI a + nI 1 = nI (a + 1) from nI_add _ _]
      refine hK _ _ _ _ ⟨hi.1, hi.2.1, ?_⟩
      intro a' b' ha' hb' h
      exact hi.2.2 a' b' ha' hb' (by omega)
    | succ k ih =>
      intro b hb I2 J2 o6 hi
      refine rs_step hv henv0 srow hp hq ha (by omega) hi ?_
      intro I3 J3 o6 hi3
      exact ih (b + 1) (by omega) I3 J3 o6 hi3
  have outer : ∀ k a, m_nH I = a + k → ∀ I2 J2 o5 o6, rs_inv I S rt p q a 0 I2 J2 → am_V (d + 7) Q 91 15 [some (.ref 81), some (.ref rt), some (.int (nI p)), some (.int (nI q)), some (.int (nI a)), am_oi o5, am_oi o6] [] (am_hp N (rt, rs, rd, rl, rx, rt, rt + 4, rt + 5) I2 J2) := by
    intro k
    induction k with
    | zero =>
      intro a ha I2 J2 o5 o6 hi
      rw [e_Tries_sing_15 ht, am_ifd, ert a 0 I2 J2 hi, if_pos (by rw [nI_leI (by omega) (by omega)]; omega)]
      obtain rfl : a = m_nH I := by omega
      exact fin I2 J2 hi
    | succ k ih =>
      intro a ha I2 J2 o5 o6 hi
      rw [e_Tries_sing_15 ht, am_ifd, ert a 0 I2 J2 hi, if_neg (by rw [nI_leI (by omega) (by omega)]; omega)]
      exact inner a (by omega) (fun I2 J2 o5 o6 h => ih (a + 1) (by omega) I2 J2 o5 o6 h) (m_nH I) 0 (by omega) I2 J2 o6 hi
  exact outer (m_nH I) 0 (by omega) S J none none hS
end
