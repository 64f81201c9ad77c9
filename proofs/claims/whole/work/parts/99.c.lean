/-! ===== L3: nights by chance ===== -/
def q_rm (x : Int32) (k : Nat) : Nat := (m_rnd x).toNatClampNeg / 65536 % k
def cd_M (I W : Nat → Nat → Int32) : Nat → Nat → Int32 := if W 0 0 = nI 0 then (if q_rm (W 2 0) 3 = 0 then am_u I 93 62 (nI 1) else if q_rm (W 2 0) 3 = 1 then am_u I 93 63 (nI (q_rm (m_rnd (W 2 0)) (m_nH I))) else I) else I
def cd_W (W : Nat → Nat → Int32) : Nat → Nat → Int32 := if W 0 0 = nI 0 then am_u W 2 0 (if q_rm (W 2 0) 3 = 1 then m_rnd (m_rnd (W 2 0)) else m_rnd (W 2 0)) else W
def q_cn (I W : Nat → Nat → Int32) : Nat → Nat → Int32 := m_nt (cd_M I W) (m_far I (I 128)) true (cd_W W)
def q_cns (I W : Nat → Nat → Int32) : Nat → Nat → Nat → Int32
  | 0 => W
  | k + 1 => q_cn I (q_cns I W k)
def q_cl (I : Nat → Nat → Int32) (n : Nat) (x : Int32) : Nat → Int32
  | 0 => x
  | t + 1 => q_cns I (am_u (m_g I 0) 2 0 (q_cl I n x t)) n 2 0
def q_cp (I : Nat → Nat → Int32) (n : Nat) (x : Int32) (l t : Nat) : Bool := decide (q_cns I (am_u (m_g I 0) 2 0 (q_cl I n x t)) n 6 l = nI 2)
theorem rm_e {x : Int32} {k : Nat} (h0 : 0 < k) (hk : k < 2 ^ 31) : (m_rnd x >>> (nI 16 &&& nI 31)) - (m_rnd x >>> (nI 16 &&& nI 31)) / nI k * nI k = nI (q_rm x k) := by
  obtain ⟨m, hm, e⟩ := c_rndN x
  unfold q_rm
  rw [e, nI_clamp hm, c_shr (by omega) hm]
  exact pk_rem (by omega) h0 hk
theorem rm_lt {x : Int32} {k : Nat} (h0 : 0 < k) : q_rm x k < k := Nat.mod_lt _ h0
section
variable {I W : Nat → Nat → Int32}
theorem cd_te : te I (cd_M I W) := by
  unfold cd_M
  split
  · split
    · exact te_93
    · split
      · exact te_93
      · exact fun _ _ _ => rfl
  · exact fun _ _ _ => rfl
theorem cd_o {k : Nat} (h : k ≠ 62) (h' : k ≠ 63) : cd_M I W 93 k = I 93 k := by
  unfold cd_M
  split
  · split
    · exact am_uN (by omega)
    · split
      · exact am_uN (by omega)
      · rfl
  · rfl
theorem cd_row {a : Nat} (h : a ≠ 93) : cd_M I W a = I a := by
  unfold cd_M
  split
  · split
    · exact am_uRow h
    · split
      · exact am_uRow h
      · rfl
  · rfl
theorem cdW_k {f : Nat} (h : f ≠ 2) : cd_W W f = W f := by
  unfold cd_W
  split
  · exact am_uRow h
  · rfl
theorem okX_2 {x : Int32} (hX : m_okX I W) : m_okX I (am_u W 2 0 x) := by
  obtain ⟨h1, h2, h3, h4, h5⟩ := hX
  refine ⟨?_, ?_, okLt_u h3 (by omega), ?_, ?_⟩
  · intro s hs; rw [am_uN (by omega)]; exact h1 s hs
  · rw [am_uN (by omega)]; exact h2
  · intro i i1 i2; rw [am_uN (by omega)]; exact h4 i i1 i2
  · intro y hy; rw [am_uN (by omega)]; exact h5 y hy
theorem okX_cdW (hX : m_okX I W) : m_okX I (cd_W W) := by
  unfold cd_W
  split
  · exact okX_2 hX
  · exact hX
theorem okX_cn (hok : m_ok I) (hX : m_okX I W) : m_okX I (q_cn I W) := by
  have h := okX_nt (F := m_far I (I 128)) (b := true) (e_ok cd_te hok) (e_okX (cd_te (W := W)) (okX_cdW hX))
  exact e_okX (fun a h1 h2 => (cd_te (I := I) (W := W) a h1 h2).symm) h
theorem okX_cns (hok : m_ok I) (hX : m_okX I W) : ∀ k, m_okX I (q_cns I W k)
  | 0 => hX
  | k + 1 => okX_cn hok (okX_cns hok hX k)
theorem cn_k {f : Nat} (hf : f = 3 ∨ f = 9) : q_cn I W f = W f := by
  unfold q_cn
  rw [nt_k hf, cdW_k (by omega)]
theorem cns_k {f : Nat} (hf : f = 3 ∨ f = 9) : ∀ k, q_cns I W k f = W f
  | 0 => rfl
  | k + 1 => by rw [q_cns, cn_k hf, cns_k hf k]
theorem cd_dream (hid : m_idle I) {s : Nat} (hs : s < 8) : m_dream (cd_M I W) s = I 106 s := by
  rw [n_dream cd_te ⟨cd_o (by omega) (by omega), cd_o (by omega) (by omega)⟩, m_dream_idle hid hs]
end
section
variable {d N : Nat} {Q : Value → am_H → Prop} {r : am_rho} {I : Nat → Nat → Int32} {J : Nat → Nat → Int64}
theorem ct_draw {I1 : Nat → Nat → Int32} : am_D (d + 1) 113 [.ref 82] (am_hp N r I1 J) Q = Q (.int (m_rnd (I1 82 2) >>> (nI 16 &&& nI 31))) (am_hp N r (am_u I1 82 2 (m_rnd (I1 82 2))) J) := by
  have eS : am_hp N r I1 J = am_hp N r (c_C I1 82 (c_w I1 82) (I1 63) (I1 68)) J := by rw [c_wid]
  rw [eS, s_W_draw (by omega), ← c_u0 (by omega), c_wid, c_wI (by omega)]
theorem cw_2 {M W I1 : Nat → Nat → Int32} {x : Int32} (h : cw_rel M (c_w I1 82) W) : cw_rel M (c_w (am_u I1 82 2 x) 82) (am_u W 2 0 x) := by
  refine cw_cong ?_ (cw_u2 (x := x) h)
  intro i j hi
  rw [c_wI hi]
  by_cases c : i = 0 ∧ j = 2
  · obtain ⟨rfl, rfl⟩ := c
    rw [am_uE, am_uE]
  · rw [am_uN (by omega), am_uN (by omega), c_wI hi]
/-- the class deals a night -/
theorem s_T_deal {rt rs rd rl rx nt nw nf : Nat} {W I1 : Nat → Nat → Int32} (hT : t_rel I rt) (hid : m_idle I) (hnow : i_now I) (hH : 0 < m_nH I) (hX : m_okX I W) (h9 : W 9 = m_g I 0 9) (h3 : W 3 0 = m_g I 0 3 0)
    (hi : ∀ c, (c < 61 ∨ c = 62 ∨ (72 ≤ c ∧ c ≤ 80) ∨ 93 ≤ c) → I1 c = I c) (hr : cw_rel I (c_w I1 82) W)
    (hQ : ∀ I3 lit, (∀ c, (c < 61 ∨ c = 62 ∨ (72 ≤ c ∧ c ≤ 80) ∨ 93 ≤ c) → I3 c = I c) → I3 63 = I1 63 → c_env I3 (cd_M I W) rt (rt + 4) (rt + 5) (m_far I (I 128)) true (cd_W W 9) lit (cd_W W 3 0) → cw_rel I (c_w I3 82) (cd_W W) → I3 82 5 = lit → Q .null (am_hp N (rt, rs, rd, rl, rx, rt, rt + 4, rt + 5) I3 J)) :
    am_D (d + 3) 97 [.ref 81, .ref rt] (am_hp N (rt, rs, rd, rl, rx, nt, nw, nf) I1 J) Q := sorry
end
