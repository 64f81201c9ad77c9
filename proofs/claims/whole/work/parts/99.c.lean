/-! ===== L3: nights by chance ===== -/
def q_rm (x : Int32) (k : Nat) : Nat := (m_rnd x).toNatClampNeg / 65536 % k
def cd_M (I W : Nat → Nat → Int32) : Nat → Nat → Int32 := if W 0 0 = nI 0 then (if q_rm (W 2 0) 3 = 0 then am_u I 93 62 (nI 1) else if q_rm (W 2 0) 3 = 1 then am_u I 93 63 (nI (q_rm (m_rnd (W 2 0)) (m_nH I))) else I) else I
def cd_W (W : Nat → Nat → Int32) : Nat → Nat → Int32 := if W 0 0 = nI 0 then am_u W 2 0 (if q_rm (W 2 0) 3 = 1 then m_rnd (m_rnd (W 2 0)) else m_rnd (W 2 0)) else W
def q_cn (I W : Nat → Nat → Int32) : Nat → Nat → Int32 := m_nt (cd_M I W) (m_far I (I 128)) true (cd_W W)
def q_cns (I W : Nat → Nat → Int32) : Nat → Nat → Nat → Int32
  | 0 => W
  | k + 1 => q_cn I (q_cns I W k)
def q_cl (I : Nat → Nat → Int32) (n : Nat) (x : Int32) : Nat → Int32
  | 0 => x
  | t + 1 => q_cns I (am_u (m_g I 0) 2 0 (q_cl I n x t)) n 2 0
def q_cp (I : Nat → Nat → Int32) (n : Nat) (x : Int32) (l t : Nat) : Bool := decide (q_cns I (am_u (m_g I 0) 2 0 (q_cl I n x t)) n 6 l = nI 2)
theorem rm_e {x : Int32} {k : Nat} (h0 : 0 < k) (hk : k < 2 ^ 31) : (m_rnd x >>> (nI 16 &&& nI 31)) - (m_rnd x >>> (nI 16 &&& nI 31)) / nI k * nI k = nI (q_rm x k) := by
  obtain ⟨m, hm, e⟩ := c_rndN x
  unfold q_rm
  rw [e, nI_clamp hm, c_shr (by omega) hm]
  exact pk_rem (by omega) h0 hk
theorem rm_lt {x : Int32} {k : Nat} (h0 : 0 < k) : q_rm x k < k := Nat.mod_lt _ h0
section
variable {I W : Nat → Nat → Int32}
theorem cd_te : te I (cd_M I W) := by
  unfold cd_M
  split
  · split
    · exact te_93
    · split
      · exact te_93
      · exact fun _ _ _ => rfl
  · exact fun _ _ _ => rfl
theorem cd_o {k : Nat} (h : k ≠ 62) (h' : k ≠ 63) : cd_M I W 93 k = I 93 k := by
  unfold cd_M
  split
  · split
    · exact am_uN (by omega)
    · split
      · exact am_uN (by omega)
      · rfl
  · rfl
theorem cd_row {a : Nat} (h : a ≠ 93) : cd_M I W a = I a := by
  unfold cd_M
  split
  · split
    · exact am_uRow h
    · split
      · exact am_uRow h
      · rfl
  · rfl
theorem cdW_k {f : Nat} (h : f ≠ 2) : cd_W W f = W f := by
  unfold cd_W
  split
  · exact am_uRow h
  · rfl
theorem okX_2 {x : Int32} (hX : m_okX I W) : m_okX I (am_u W 2 0 x) := by
  obtain ⟨h1, h2, h3, h4, h5⟩ := hX
  refine ⟨?_, ?_, okLt_u h3 (by omega), ?_, ?_⟩
  · intro s hs; rw [am_uN (by omega)]; exact h1 s hs
  · rw [am_uN (by omega)]; exact h2
  · intro i i1 i2; rw [am_uN (by omega)]; exact h4 i i1 i2
  · intro y hy; rw [am_uN (by omega)]; exact h5 y hy
theorem okX_cdW (hX : m_okX I W) : m_okX I (cd_W W) := by
  unfold cd_W
  split
  · exact okX_2 hX
  · exact hX
theorem okX_cn (hok : m_ok I) (hX : m_okX I W) : m_okX I (q_cn I W) := by
  have h := okX_nt (F := m_far I (I 128)) (b := true) (e_ok cd_te hok) (e_okX (cd_te (W := W)) (okX_cdW hX))
  exact e_okX (fun a h1 h2 => (cd_te (I := I) (W := W) a h1 h2).symm) h
theorem okX_cns (hok : m_ok I) (hX : m_okX I W) : ∀ k, m_okX I (q_cns I W k)
  | 0 => hX
  | k + 1 => okX_cn hok (okX_cns hok hX k)
theorem cn_k {f : Nat} (hf : f = 3 ∨ f = 9) : q_cn I W f = W f := by
  unfold q_cn
  rw [nt_k hf, cdW_k (by omega)]
theorem cns_k {f : Nat} (hf : f = 3 ∨ f = 9) : ∀ k, q_cns I W k f = W f
  | 0 => rfl
  | k + 1 => by rw [q_cns, cn_k hf, cns_k hf k]
theorem cd_dream (hid : m_idle I) {s : Nat} (hs : s < 8) : m_dream (cd_M I W) s = I 106 s := by
  rw [n_dream cd_te ⟨cd_o (by omega) (by omega), cd_o (by omega) (by omega)⟩, m_dream_idle hid hs]
end
section
variable {d N : Nat} {Q : Value → am_H → Prop} {r : am_rho} {I : Nat → Nat → Int32} {J : Nat → Nat → Int64}
theorem ct_draw {I1 : Nat → Nat → Int32} : am_D (d + 1) 113 [.ref 82] (am_hp N r I1 J) Q = Q (.int (m_rnd (I1 82 2) >>> (nI 16 &&& nI 31))) (am_hp N r (am_u I1 82 2 (m_rnd (I1 82 2))) J) := by
  have eS : am_hp N r I1 J = am_hp N r (c_C I1 82 (c_w I1 82) (I1 63) (I1 68)) J := by rw [c_wid]
  rw [eS, s_W_draw (by omega), ← c_u0 (by omega), c_wid, c_wI (by omega)]
theorem cw_2 {M W I1 : Nat → Nat → Int32} {x : Int32} (h : cw_rel M (c_w I1 82) W) : cw_rel M (c_w (am_u I1 82 2 x) 82) (am_u W 2 0 x) := by
  refine cw_cong ?_ (cw_u2 (x := x) h)
  intro i j hi
  rw [c_wI hi]
  by_cases c : i = 0 ∧ j = 2
  · obtain ⟨rfl, rfl⟩ := c
    rw [am_uE, am_uE]
  · rw [am_uN (by omega), am_uN (by omega), c_wI hi]
/-- the class deals a night -/
theorem s_T_deal {rt rs rd rl rx nt nw nf : Nat} {W I1 : Nat → Nat → Int32} (hT : t_rel I rt) (hid : m_idle I) (hnow : i_now I) (hH : 0 < m_nH I) (hX : m_okX I W) (h9 : W 9 = m_g I 0 9) (h3 : W 3 0 = m_g I 0 3 0)
    (hi : ∀ c, (c < 61 ∨ c = 62 ∨ (72 ≤ c ∧ c ≤ 80) ∨ 93 ≤ c) → I1 c = I c) (hr : cw_rel I (c_w I1 82) W)
    (hQ : ∀ I3 lit, (∀ c, (c < 61 ∨ c = 62 ∨ (72 ≤ c ∧ c ≤ 80) ∨ 93 ≤ c) → I3 c = I c) → I3 63 = I1 63 → c_env I3 (cd_M I W) rt (rt + 4) (rt + 5) (m_far I (I 128)) true (cd_W W 9) lit (cd_W W 3 0) → cw_rel I (c_w I3 82) (cd_W W) → I3 82 5 = lit → Q .null (am_hp N (rt, rs, rd, rl, rx, rt, rt + 4, rt + 5) I3 J)) :
    am_D (d + 3) 97 [.ref 81, .ref rt] (am_hp N (rt, rs, rd, rl, rx, nt, nw, nf) I1 J) Q := by
  have hT' := hT
  obtain ⟨⟨ht, hok, hst, hokL⟩, ⟨e0, e1, e2, e3, e4, e6⟩, ecat, ehn, esn, ese, ewy, efa, esl, ele, ema, ela, ebe, elw, eus, ekn, ero⟩ := hT'
  have hH8 := hok.1.2
  have hZ5 := hok.2.2.1.2
  have hte1 : te I I1 := fun a h1 h2 => hi a (by omega)
  have hm1 : m_eq I I1 := fun a h => hi a (by omega)
  have hT1 : t_rel I1 rt := e_trel hte1 (fun i hi' => hi _ (by omega)) ⟨hi 2001 (by omega), hi 2002 (by omega)⟩ hT
  have hid1 : m_idle I1 := f_idl (fun k _ _ => by rw [hi 93 (by omega)]) hid
  have hbell : ∀ h, h < m_nH I1 → I1 (49 + 5) h = m_g I 0 9 h ∧ ∃ k, k ≤ 9 ∧ m_g I 0 9 h = nI k := by
    intro h hh
    rw [g_nH hm1] at hh
    have := hnow.1.2.2.2.2.2.2.2.2.2 h hh
    rw [c_wI (by omega)] at this
    rw [hi (49 + 5) (by omega)]
    exact ⟨this, hnow.2.2.2.2.2.2 h hh⟩
  have henv0 := env_idle (w := 49) (F := I 128) (W := m_g I 0) (by omega) hT1 hid1 hbell
  rw [g_nZ hm1, g_far hm1] at henv0
  rw [e_Tries_deal ht, s_N_suit (z := m_nZ I) ht (by omega) (by rw [hi rt (by omega), e2]; exact hok.2.2.1.1) hZ5, e_Tries_deal_12 ht]
  have srow : ∀ c, (c < 61 ∨ (62 ≤ c ∧ c < 69) ∨ 72 ≤ c) → c_suit I1 rt 49 (m_nZ I) c = I1 c := fun c h => su_row (by omega)
  have s61 : c_suit I1 rt 49 (m_nZ I) 61 11 = nI 0 := su_61.2.1
  have s69 : ∀ j, j < 8 → c_suit I1 rt 49 (m_nZ I) 69 j = (I1 (49 + 5) j + I1 (rt + 14) j) + nI ((bt (I1 rt 5) j).toNat * 3) := fun j hj => su_69 hj
  generalize c_suit I1 rt 49 (m_nZ I) = S at henv0 srow s61 s69 ⊢
  have e5 : am_u S 61 12 (nI 1) 49 5 = m_g I 0 3 0 := by rw [am_uN (by omega), srow 49 (by omega), hi 49 (by omega)]; exact hnow.2.1
  rw [e5]
  -- what is so in all cases
  have p1 : ∀ c, c ≠ 61 → c ≠ 82 → am_u (am_u S 61 12 (nI 1)) 82 5 (m_g I 0 3 0) c = S c := fun c h1 h2 => by rw [am_uRow h2, am_uRow h1]
  have p61 : am_u (am_u S 61 12 (nI 1)) 82 5 (m_g I 0 3 0) 61 10 = S 61 10 ∧ am_u (am_u S 61 12 (nI 1)) 82 5 (m_g I 0 3 0) 61 11 = nI 0 ∧ am_u (am_u S 61 12 (nI 1)) 82 5 (m_g I 0 3 0) 61 12 = nI 1 := by
    refine ⟨?_, ?_, ?_⟩
    · rw [am_uN (by omega), am_uN (by omega)]
    · rw [am_uN (by omega), am_uN (by omega), s61]
    · rw [am_uN (by omega), am_uE]
  have p5 : am_u (am_u S 61 12 (nI 1)) 82 5 (m_g I 0 3 0) 82 5 = m_g I 0 3 0 := am_uE
  have pr : cw_rel I (c_w (am_u (am_u S 61 12 (nI 1)) 82 5 (m_g I 0 3 0)) 82) W := by
    refine cw_82 (I1 := I1) ?_ hr
    intro a j h1 h2 h3
    rw [am_uN (by omega), am_uN (by omega), srow a (by omega)]
  have p0 : am_u (am_u S 61 12 (nI 1)) 82 5 (m_g I 0 3 0) 82 0 = W 0 0 := by
    have := pr.1
    rw [c_wI (by omega)] at this
    exact this
  have p2 : am_u (am_u S 61 12 (nI 1)) 82 5 (m_g I 0 3 0) 82 2 = W 2 0 := by
    have := pr.2.2.1
    rw [c_wI (by omega)] at this
    exact this
  generalize am_u (am_u S 61 12 (nI 1)) 82 5 (m_g I 0 3 0) = S1 at p1 p61 p5 pr p0 p2 ⊢
  have q1 : ∀ c, (c < 61 ∨ c = 62 ∨ (72 ≤ c ∧ c ≤ 80) ∨ 93 ≤ c) → S1 c = I c := fun c h => by rw [p1 c (by omega) (by omega), srow c (by omega), hi c h]
  -- the night's rows, whatever the noise and the light
  have mk : ∀ (M I3 : Nat → Nat → Int32) lit, te I M → (∀ k, k ≠ 62 → k ≠ 63 → M 93 k = I 93 k) → (∀ c, c ≠ 69 → c ≠ 82 → I3 c = S1 c) → (∀ k, k < m_nH I → I3 69 k = m_noise M (m_g I 0 9 k) k ∧ ∃ q, q < 64 ∧ I3 69 k = nI q) → (∀ k, k < m_nH I → ∀ hr, hr < 12 → cl_light I3 rt lit k hr = m_light M (m_nA I) (m_g I 0 3 0) k (nI hr)) → c_env I3 M rt (rt + 4) (rt + 5) (m_far I (I 128)) true (cd_W W 9) lit (cd_W W 3 0) := by
    intro M I3 lit hte hf rows noi lig
    rw [cdW_k (by omega), cdW_k (by omega), h9, h3]
    have hteM : te I1 M := fun a h1 h2 => by rw [hte a h1 h2, hi a (by omega)]
    have hf1 : ∀ k, k ≠ 62 → k ≠ 63 → M 93 k = I1 93 k := fun k h1 h2 => by rw [hf k h1 h2, hi 93 (by omega)]
    have he' := henv0
    obtain ⟨_, _, eb, em, en, ed, edr, el, ef, ew, ewk, ebn, elr, eus, ero⟩ := he'
    refine env_x hteM henv0 (fun c h => by rw [rows c (by omega) (by omega), p1 c (by omega) (by omega)]) ⟨by omega, by omega⟩ ?_ ?_ ?_ ?_ ?_ ?_ ?_ ?_
    · rw [g_nH hm1]; exact noi
    · rw [n_deep hteM ⟨hf1 _ (by omega) (by omega), hf1 _ (by omega) (by omega)⟩, rows 70 (by omega) (by omega), p1 70 (by omega) (by omega)]; exact ed
    · rw [n_dream hteM ⟨hf1 _ (by omega) (by omega), hf1 _ (by omega) (by omega)⟩, rows 71 (by omega) (by omega), p1 71 (by omega) (by omega)]; exact edr
    · rw [g_nH hm1, g_nA hm1]; exact lig
    · rw [rows (rt + 5) (by omega) (by omega), p1 (rt + 5) (by omega) (by omega)]; exact ef
    · rw [n_way hteM ⟨hf1 _ (by omega) (by omega), hf1 _ (by omega) (by omega)⟩, rows (rt + 4) (by omega) (by omega), p1 (rt + 4) (by omega) (by omega)]; exact ew
    · rw [rows 61 (by omega) (by omega), p61.1, hf1 _ (by omega) (by omega)]; exact ewk
    · rw [rows 61 (by omega) (by omega), p61.2.2]; rfl
  have noi0 : ∀ M : Nat → Nat → Int32, te I M → (∀ k, k ≠ 62 → M 93 k = I 93 k) → ∀ k, k < m_nH I → S 69 k = m_noise M (m_g I 0 9 k) k ∧ ∃ q, q < 64 ∧ S 69 k = nI q := by
    intro M hte hf k hk
    rw [n_noise hte ⟨hf _ (by omega), hf _ (by omega), hf _ (by omega), hf _ (by omega), hf _ (by omega), hf _ (by omega)⟩]
    have := henv0.2.2.2.2.1 k (by rw [g_nH hm1]; exact hk)
    rw [g_noise hm1] at this
    exact this
  have lig0 : ∀ M I3 : Nat → Nat → Int32, te I M → (∀ k, k ≠ 63 → M 93 k = I 93 k) → (∀ c, c ≠ 69 → c ≠ 82 → I3 c = S1 c) → ∀ k, k < m_nH I → ∀ hr, hr < 12 → cl_light I3 rt (m_g I 0 3 0) k hr = m_light M (m_nA I) (m_g I 0 3 0) k (nI hr) := by
    intro M I3 hte hf rows k hk hr hhr
    rw [n_light hte ⟨hf _ (by omega), hf _ (by omega), hf _ (by omega)⟩, m_light_idle hid, ← ela k hk hr hhr]
    unfold cl_light
    rw [rows 61 (by omega) (by omega), p61.2.1, rows (rt + 12) (by omega) (by omega), q1 (rt + 12) (by omega), decide_eq_true rfl, Bool.true_and, Bool.or_comm]
  have q63 : S1 63 = I1 63 := by rw [p1 63 (by omega) (by omega), srow 63 (by omega)]
  obtain ⟨h, h12, eh⟩ := hX.2.1
  rw [am_ifd, p0, eh, am_ifn]
  by_cases c0 : 0 < h
  · rw [if_pos (by rw [nI_ltI (by omega) (by omega)]; exact c0)]
    have nz : ¬ W 0 0 = nI 0 := by rw [eh, nI_eq (by omega) (by omega)]; omega
    have eM : cd_M I W = I := by unfold cd_M; rw [if_neg nz]
    have eW : cd_W W = W := by unfold cd_W; rw [if_neg nz]
    refine hQ S1 (m_g I 0 3 0) q1 q63 (mk _ _ _ cd_te (fun k h1 h2 => cd_o h1 h2) (fun _ _ _ => rfl) ?_ ?_) (by rw [eW]; exact pr) p5
    · rw [eM, p1 69 (by omega) (by omega)]; exact noi0 I (fun _ _ _ => rfl) (fun _ _ => rfl)
    · rw [eM]; exact lig0 I S1 (fun _ _ _ => rfl) (fun _ _ => rfl) (fun _ _ _ => rfl)
  · have hz : W 0 0 = nI 0 := by rw [eh, show h = 0 by omega]
    rw [if_neg (by rw [nI_ltI (by omega) (by omega)]; exact c0), q1 rt (by omega), e0, hok.1.1, if_neg (by rw [nI_eq (by omega) (by omega)]; omega), ct_draw, am_asIe, e_Tries_deal_59 ht, p2, rm_e (by omega) (by omega), am_ifn, am_ifn]
    have h3l := rm_lt (x := W 2 0) (k := 3) (by omega)
    have d1 : ∀ c, c ≠ 82 → am_u S1 82 2 (m_rnd (W 2 0)) c = S1 c := fun c h => am_uRow h
    have d5 : am_u S1 82 2 (m_rnd (W 2 0)) 82 5 = m_g I 0 3 0 := by rw [am_uN (by omega)]; exact p5
    have dr : cw_rel I (c_w (am_u S1 82 2 (m_rnd (W 2 0))) 82) (am_u W 2 0 (m_rnd (W 2 0))) := cw_2 pr
    have d2 : am_u S1 82 2 (m_rnd (W 2 0)) 82 2 = m_rnd (W 2 0) := am_uE
    generalize am_u S1 82 2 (m_rnd (W 2 0)) = S2 at d1 d5 dr d2 ⊢
    have q2 : ∀ c, (c < 61 ∨ c = 62 ∨ (72 ≤ c ∧ c ≤ 80) ∨ 93 ≤ c) → S2 c = I c := fun c h => by rw [d1 c (by omega), q1 c h]
    by_cases c1 : q_rm (W 2 0) 3 = 0
    · rw [if_pos (by rw [c1]), s_T_allH (n := m_nH I) ht (by rw [q2 rt (by omega), e0]; exact hok.1.1) hH8, am_asIe, e_Tries_deal_74 ht]
      have eM : cd_M I W = am_u I 93 62 (nI 1) := by unfold cd_M; rw [if_pos hz, if_pos c1]
      have eW : cd_W W = am_u W 2 0 (m_rnd (W 2 0)) := by unfold cd_W; rw [if_pos hz, if_neg (by omega)]
      refine hQ _ (c_all (m_nH I)) (fun c h => by rw [am_uRow (by omega), q2 c h]) (by rw [am_uRow (by omega), d1 63 (by omega), q63]) (mk _ _ _ cd_te (fun k h1 h2 => cd_o h1 h2) (fun c h1 h2 => by rw [am_uRow h2, d1 c h2]) ?_ ?_) (by rw [eW]; exact cw_82 (fun a j h1 h2 h3 => am_uN (by omega)) dr) am_uE
      · rw [eM, am_uRow (by omega), d1 69 (by omega), p1 69 (by omega) (by omega)]
        exact noi0 _ te_93 (fun k hk => am_uN (by omega))
      · intro k hk hr hhr
        rw [eM]
        unfold cl_light m_light c_all
        rw [am_uN (by omega), d1 61 (by omega), p61.2.1, am_uN (by omega), am_uE, show am_u I 93 62 (nI 1) 93 52 = nI 0 from (am_uN (by omega)).trans hid.1, b_2k _ (by omega) _ (by omega), decide_eq_true hk, decide_eq_true rfl, decide_eq_false (show ¬ nI 0 = nI 4 by decide +kernel), decide_eq_false n10]
        simp
    · rw [if_neg (by rw [nI_eq (by omega) (by omega)]; exact c1)]
      by_cases c2 : q_rm (W 2 0) 3 = 1
      · have hcl := rm_lt (x := m_rnd (W 2 0)) (k := m_nH I) hH
        have eM : cd_M I W = am_u I 93 63 (nI (q_rm (m_rnd (W 2 0)) (m_nH I))) := by unfold cd_M; rw [if_pos hz, if_neg c1, if_pos c2]
        have eW : cd_W W = am_u (am_u W 2 0 (m_rnd (W 2 0))) 2 0 (m_rnd (m_rnd (W 2 0))) := by unfold cd_W; rw [if_pos hz, if_pos c2, am_uu]
        rw [if_pos (by rw [c2]), ct_draw, am_asIe, d2, e_Tries_deal_99 ht, am_uRow (show rt ≠ 82 by omega), q2 rt (by omega), e0, hok.1.1, am_gn (by rw [nI_eq (by omega) (by omega)]; omega), rm_e hH (by omega), am_gI (by omega) (by omega), am_gI (by omega) (by omega), nI_clamp (by omega)]
        have dr2 : cw_rel I (c_w (am_u S2 82 2 (m_rnd (m_rnd (W 2 0)))) 82) (cd_W W) := by rw [eW]; exact cw_2 dr
        have d12 : ∀ c, c ≠ 82 → am_u S2 82 2 (m_rnd (m_rnd (W 2 0))) c = S1 c := fun c h => by rw [am_uRow h, d1 c h]
        have d52 : am_u S2 82 2 (m_rnd (m_rnd (W 2 0))) 82 5 = m_g I 0 3 0 := by rw [am_uN (by omega)]; exact d5
        generalize am_u S2 82 2 (m_rnd (m_rnd (W 2 0))) = S3 at dr2 d12 d52 ⊢
        refine hQ _ (m_g I 0 3 0) (fun c h => by rw [am_uRow (by omega), d12 c (by omega), q1 c h]) (by rw [am_uRow (by omega), d12 63 (by omega), q63]) (mk _ _ _ cd_te (fun k h1 h2 => cd_o h1 h2) (fun c h1 h2 => by rw [am_uRow h1, d12 c h2]) ?_ ?_) (cw_82 (fun a j h1 h2 h3 => am_uN (by omega)) dr2) (by rw [am_uN (by omega)]; exact d52)
        · rw [eM]
          intro k hk
          obtain ⟨b1, kb, hkb, b2⟩ := hbell k (by rw [g_nH hm1]; exact hk)
          obtain ⟨_, b4, _, ks, hks, b5⟩ := ebe k hk
          have hc := bt_toNat2 (bt (I rt 5) k)
          have en : S 69 k = nI (kb + ks + (bt (I rt 5) k).toNat * 3) := by
            rw [s69 k (by omega), b1, b2, hi (rt + 14) (by omega), b4, b5, hi rt (by omega), nI_add, nI_add]
          have em : m_noise (am_u I 93 63 (nI (q_rm (m_rnd (W 2 0)) (m_nH I)))) (m_g I 0 9 k) k = nI (kb + ks + (bt (I rt 5) k).toNat * 3 + (if k = q_rm (m_rnd (W 2 0)) (m_nH I) then 3 else 0)) := by
            obtain ⟨i0, i1, i2, i3, i4, i5, i6, i7, i8⟩ := hid
            unfold m_noise
            rw [am_uN (show 93 ≠ 93 ∨ 52 ≠ 63 by omega), am_uE, am_uN (show 93 ≠ 93 ∨ 54 ≠ 63 by omega), am_uN (show 93 ≠ 93 ∨ 55 ≠ 63 by omega), i0, i2, i3, if_neg n02, if_neg (show ¬ nI 0 = nI 3 by decide +kernel), if_neg n01, if_neg (am_neg1' (by omega)), if_neg (am_neg1' (by omega)), am_uRow (by omega), am_uRow (by omega), b2, b5, ecat k hk, am_mulN]
            have ei : (if nI k = nI (q_rm (m_rnd (W 2 0)) (m_nH I)) then nI 3 else nI 0) = nI (if k = q_rm (m_rnd (W 2 0)) (m_nH I) then 3 else 0) := by
              by_cases cc : k = q_rm (m_rnd (W 2 0)) (m_nH I)
              · rw [if_pos cc, if_pos (by rw [← cc])]
              · rw [if_neg cc, if_neg (by rw [nI_eq (by omega) (by omega)]; exact cc)]
            rw [ei, nI_add, nI_add, nI_add, nI_add, nI_add]
            congr 1
            omega
          rw [em]
          by_cases cc : k = q_rm (m_rnd (W 2 0)) (m_nH I)
          · rw [← cc, am_uE, if_pos rfl, d12 69 (by omega), p1 69 (by omega) (by omega), en, nI_add]
            exact ⟨rfl, _, by omega, rfl⟩
          · rw [am_uN (by omega), if_neg cc, d12 69 (by omega), p1 69 (by omega) (by omega), en]
            exact ⟨rfl, _, by omega, rfl⟩
        · rw [eM]
          exact lig0 _ _ te_93 (fun k hk => am_uN (by omega)) (fun c h1 h2 => by rw [am_uRow h1, d12 c h2])
      · have eM : cd_M I W = I := by unfold cd_M; rw [if_pos hz, if_neg c1, if_neg c2]
        have eW : cd_W W = am_u W 2 0 (m_rnd (W 2 0)) := by unfold cd_W; rw [if_pos hz, if_neg c2]
        rw [if_neg (by rw [nI_eq (by omega) (by omega)]; exact c2)]
        refine hQ S2 (m_g I 0 3 0) q2 (by rw [d1 63 (by omega), q63]) (mk _ _ _ cd_te (fun k h1 h2 => cd_o h1 h2) (fun c h1 h2 => d1 c h2) ?_ ?_) (by rw [eW]; exact dr) d5
        · rw [eM, d1 69 (by omega), p1 69 (by omega) (by omega)]; exact noi0 I (fun _ _ _ => rfl) (fun _ _ => rfl)
        · rw [eM]; exact lig0 I S2 (fun _ _ _ => rfl) (fun _ _ => rfl) (fun c h1 h2 => d1 c h2)
end
