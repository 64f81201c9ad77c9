/-! ===== L3: tries, one after another ===== -/
section
variable {d N : Nat} {Q : Value → am_H → Prop} {r : am_rho} {I : Nat → Nat → Int32} {J : Nat → Nat → Int64}
/-- a search, from 0 to its end -/
theorem am_find {P : Nat → Prop} {p : Nat → Bool} {Y : Nat → Prop} {R : Prop} (n : Nat) (he : P n = R) (hs : ∀ j, j < n → P j = if p j = true then Y j else P (j + 1)) : P 0 = if fa_first p n < n then Y (fa_first p n) else R := by
  have lp : ∀ k j, n = j + k → (∀ i, i < j → p i = false) → P j = if fa_first p n < n then Y (fa_first p n) else R := by
    intro k
    induction k with
    | zero =>
      intro j hj hp
      obtain rfl : n = j := by omega
      rw [fa_first_none hp, if_neg (by omega), he]
    | succ k ih =>
      intro j hj hp
      rw [hs j (by omega)]
      by_cases c : p j = true
      · rw [if_pos c, fa_first_step (by omega) hp c, if_pos (by omega)]
      · rw [if_neg c]
        refine ih (j + 1) (by omega) ?_
        intro i hi
        by_cases e : i = j
        · subst e; exact ts_ne c
        · exact hp i (by omega)
  exact lp n 0 (by omega) (fun i hi => by omega)
theorem op2_r {D N mc mm : Nat} {as : List Value} {r : am_rho} {A : Value → Prop} (hv : i_inv r I J)
    (hc : ∀ Q : Value → am_H → Prop, (∀ v r' I' J', A v → cfr I I' → i_ref r' → r'.1 = r.1 → c_cache I I (r.1 + 15) (I' 63) (J' 64) → Q v (am_hp N r' I' J')) → am_D D mc (.ref 1 :: as) (am_hp N r I J) Q)
    (hm : ∀ v, A v → ∀ r' I' J', i_inv r' I' J' → m_eq I I' → m_ans D N mm as r' I' J' v) : op2 D N mc mm as r I J := by
  intro Q hQ
  refine hc _ ?_
  intro v r1 I1 J1 hA h1 h2 h3 h4
  have hv1 := inv_fr hv (cfr_fr h1) h2 h3 h4
  refine hm v hA r1 I1 J1 hv1 h1.1 _ ?_
  intro I2 J2 h5 h6
  refine hQ v r1 I2 J2 (inv_fr hv1 (mfr_fr h5) h2 rfl ?_)
  rw [mfr_63 h5, h6]
  exact hv1.2.2.2.2.2.2.2.2.2
/-- the trial becomes what is now -/
theorem ct_become {I1 : Nat → Nat → Int32} (hok : m_ok I) (hn : i_now I) (h49 : ∀ a, 49 ≤ a → a ≤ 54 → I1 a = I a)
    (hQ : ∀ I2, (∀ a, (a < 82 ∨ 87 < a) → I2 a = I1 a) → cw_rel I (c_w I2 82) (m_g I 0) → I2 82 5 = m_g I 0 3 0 → Q .null (am_hp N r I2 J)) :
    am_D (d + 2) 101 [.ref 82, .ref 49] (am_hp N r I1 J) Q := by
  have e49w : c_w I1 49 = c_w I 49 := by
    funext i j; unfold c_w
    by_cases h : i ≤ 5
    · rw [if_pos h, if_pos h, h49 _ (by omega) (by omega)]
    · rw [if_neg h, if_neg h]
  have eS : am_hp N r I1 J = am_hp N r (c_C I1 82 (c_w I1 82) (I1 63) (I1 68)) J := by rw [c_wid]
  rw [eS, s_W_become (by omega) (by omega) (by omega), c_cpw, e49w]
  refine hQ _ ?_ (cw_wC (by omega) (cw_cp hok hn.1)) ?_
  · intro a ha
    by_cases c : a = 63
    · subst c; rfl
    · by_cases c2 : a = 68
      · subst c2; rfl
      · funext j; exact c_Co (by omega)
  · rw [show (82 : Nat) = 82 + 0 from rfl, c_Ci (by omega) (by omega)]
    unfold c_cp
    rw [if_pos (by omega), c_wI (by omega)]
    exact hn.2.1
/-- what the model's tries leave as it was; row 93 apart -/
def mtd (I M : Nat → Nat → Int32) : Prop := (∀ a, (a < 93 ∨ (94 ≤ a ∧ a < 118) ∨ (132 ≤ a ∧ a ≤ 135) ∨ 140 < a) → M a = I a) ∧ (∀ k, 64 ≤ k → M 128 k = I 128 k) ∧ (∀ n, n ≠ 1 → n < 23 → wq (m_g M n) (m_g I n))
theorem mt_refl : mtd I I := ⟨fun _ _ => rfl, fun _ _ => rfl, fun _ _ _ => wq_refl⟩
theorem mt_trans {M M' : Nat → Nat → Int32} (h : mtd I M) (k : mtd M M') : mtd I M' := ⟨fun a ha => (k.1 a ha).trans (h.1 a ha), fun j hj => (k.2.1 j hj).trans (h.2.1 j hj), fun n a b => wq_trans (k.2.2 n a b) (h.2.2 n a b)⟩
theorem mt_row {M : Nat → Nat → Int32} {a k : Nat} {x : Int32} (h : mtd I M) (ha : a = 93 ∨ (129 ≤ a ∧ a ≤ 131) ∨ (136 ≤ a ∧ a ≤ 140)) : mtd I (am_u M a k x) := by
  refine ⟨fun b hb => ?_, fun j hj => ?_, fun n h1 h2 => ?_⟩
  · rw [am_uRow (by omega), h.1 b hb]
  · rw [am_uRow (by omega), h.2.1 j hj]
  · rw [g_row (fun b h1 h2 => am_uRow (by omega))]
    exact h.2.2 n h1 h2
theorem mt_te {M : Nat → Nat → Int32} (h : mtd I M) : te I M := fun a h1 h2 => h.1 a (by omega)
theorem mt_g0 {M : Nat → Nat → Int32} (h : mtd I M) : m_g M 0 = m_g I 0 := g_wq (h.2.2 0 (by omega) (by omega))
theorem mt_118 {M : Nat → Nat → Int32} (h : mtd I M) : M 118 0 = I 118 0 := congrFun (congrFun (mt_g0 h) 0) 0
theorem mt_mfr {M : Nat → Nat → Int32} (h : mtd I M) (h93 : ∀ k, k ≠ 0 → k ≠ 39 → k ≠ 56 → k ≠ 57 → k ≠ 60 → k ≠ 68 → M 93 k = I 93 k) : mfr I M := ⟨h.1, h93, h.2.2⟩
theorem mt_far {M M0 : Nat → Nat → Int32} (h : mtd I M) (hst : st_ok M0) (h8 : m_nH M0 ≤ 8) : m_far M0 (M 128) = m_far M0 (I 128) := by
  funext j
  rcases Nat.lt_or_ge j 64 with hj | hj
  · exact m_far_lo hst h8 hj
  · rw [m_far_hi hst h8 hj, m_far_hi hst h8 hj, h.2.1 j hj]
theorem mt_qrun {I' M M' : Nat → Nat → Int32} (h : mtd I I') (k : m_e2 M M') (hst : st_ok M) (h8 : m_nH M ≤ 8) : q_run I' M' = q_run I M := by
  funext b
  unfold q_run
  rw [k_Wj k, k_far k, mt_g0 h, mt_118 h, mt_far h hst h8]
theorem mt_M {M W : Nat → Nat → Int32} {v : Int32} {F T : Nat → Int32} (h : mtd I M) (hF : ∀ k, 64 ≤ k → F k = M 128 k) : mtd I (m_M M 1 W v F T) := by
  refine ⟨fun a ha => ?_, fun k hk => ?_, fun n hn h2 => ?_⟩
  · funext j
    by_cases c : a = 93 ∧ j = 39
    · omega
    · rw [m_Mx (by omega) (by omega) (by omega) (by omega) (by omega), h.1 a ha]
  · rw [m_MF, hF k hk, h.2.1 k hk]
  · rw [m_gX hn]; exact h.2.2 n hn h2
/-- where s stands behind h in the night ahead, the model's fields as in M -/
def q_tr (I M : Nat → Nat → Int32) (s h : Nat) : Int32 := m_Wj M (m_far M (I 128)) false (m_g I 0) (I 118 0).toNatClampNeg (h - (I 118 0).toNatClampNeg + 1) 5 s
theorem q_tr11 {M : Nat → Nat → Int32} {h0 s : Nat} (h12 : h0 < 12) (hh : I 118 0 = nI h0) : q_tr I M s 11 = q_run I M false 5 s := by
  unfold q_tr q_run
  rw [hh, nI_clamp (by omega), show 11 - h0 + 1 = 12 - h0 by omega]
/-- the model tries the night, its fields as in M0 -/
theorem mt_run {M M0 : Nat → Nat → Int32} {h0 : Nat} (hok : m_ok I) (hst : st_ok I) (hW0 : m_okW I (m_g I 0)) (hmt : mtd I M) (hte0 : te I M0) (hD : m_okD M0) (he : m_e2 M0 M) (h12 : h0 < 12) (hh : I 118 0 = nI h0)
    (hQ : ∀ M' J', mtd I M' → (∀ k, k ≠ 39 → M' 93 k = M 93 k) → (∀ a, 129 < a → M' a = M a) → J' 64 = J 64 → wq (m_g M' 1) (q_run I M0 false) → (∀ s h, s < m_nZ I → h0 ≤ h → h < 12 → M' 129 (12 * s + h) = q_tr I M0 s h) → Q .null (am_hp N r M' J')) :
    am_D (d + 9) 232 [.ref 93] (am_hp N r M J) Q := by
  have hte := mt_te hmt
  have eg := mt_g0 hmt
  have hst0 := e_stok hte0 hst
  have h80 : m_nH M0 ≤ 8 := by rw [e_nH hte0]; exact hok.1.2
  have er : q_run M M = q_run I M0 := mt_qrun hmt he hst0 h80
  refine s_M_run (I := I) (h0 := h0) hte hok hst (k_okD he hD) (by rw [eg]; exact hW0) h12 (by rw [mt_118 hmt]; exact hh) ?_
  intro v' nm' wk'
  refine hQ _ _ ?_ ?_ ?_ rfl ?_ ?_
  · refine mt_M hmt ?_
    intro k hk
    exact m_far_hi (e_stok hte hst) (by rw [e_nH hte]; exact hok.1.2) hk
  · intro k hk
    exact m_Mo (by omega)
  · intro a ha
    funext j
    exact m_Mo (by omega)
  · rw [er]; exact wq_n
  · intro s h hs h1 h2
    have := m_Tj_in (I := M) (F := m_far M (M 128)) (b := false) (W := m_g M 0) (T := M 129) (h0 := h0) (s := s) (i := h - h0) (j := 12 - h0) (by rw [e_nZ hte]; exact hs) (by omega) (by omega)
    rw [show h0 + (h - h0) = h by omega] at this
    rw [m_MT, this]
    unfold q_tr
    rw [hh, nI_clamp (by omega), k_Wj he, k_far he, eg, mt_far hmt hst0 h80]
end
