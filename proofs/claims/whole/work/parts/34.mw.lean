/-! ===== L3: the model walks ===== -/
def m_nH (I : Nat → Nat → Int32) : Nat := (I 95 0).toNatClampNeg
def m_nS (I : Nat → Nat → Int32) : Nat := (I 95 1).toNatClampNeg
def m_nZ (I : Nat → Nat → Int32) : Nat := (I 95 2).toNatClampNeg
def m_nL (I : Nat → Nat → Int32) : Nat := (I 95 3).toNatClampNeg
def m_nA (I : Nat → Nat → Int32) : Nat := (I 95 4).toNatClampNeg
/-- what the model's town is, where it walks -/
def m_ok (I : Nat → Nat → Int32) : Prop :=
  (I 95 0 = nI (m_nH I) ∧ m_nH I ≤ 8) ∧ (I 95 1 = nI (m_nS I) ∧ m_nS I ≤ 12) ∧ (I 95 2 = nI (m_nZ I) ∧ m_nZ I ≤ 5) ∧ (I 95 3 = nI (m_nL I) ∧ m_nL I ≤ 8) ∧ (I 95 4 = nI (m_nA I) ∧ m_nA I ≤ 6) ∧
  (∀ s, s < m_nZ I → ∃ h, h < m_nH I ∧ I 104 s = nI h) ∧ m_lok I
/-- what it dreams of is a house -/
def m_okD (I : Nat → Nat → Int32) : Prop := ∀ s, s < m_nZ I → ∃ h, h < 8 ∧ m_dream I s = nI h
def m_okW (I : Nat → Nat → Int32) (W : Nat → Nat → Int32) : Prop := ∀ s, s < m_nZ I → ∃ h, h < m_nH I ∧ W 5 s = nI h
def m_hand (I : Nat → Nat → Int32) (W : Nat → Nat → Int32) (s : Int32) : Int32 := am_mk1 (fun l => decide (W 6 l = nI 1 ∧ W 7 l = s)) (m_nL I)
def m_nmv (I : Nat → Nat → Int32) (W : Nat → Nat → Int32) (F : Nat → Int32) (s h : Nat) (way : Int32) (nm : Nat → Int64) : Nat → Int64
  | 0 => (m_deep I s).toInt64
  | 1 => (F (8 * h + (m_dream I s).toNatClampNeg)).toInt64
  | 2 => (nI (m_light I (m_nA I) (W 3 0) h (W 0 0)).toNat).toInt64
  | 3 => (m_noise I (W 9 h) h).toInt64
  | 4 => (nI (fa_cnt (bt (m_hand I W (nI s))) 8)).toInt64
  | 5 => (W 0 0).toInt64
  | 6 => way.toInt64
  | k => nm k
theorem m_nmv_nmv {I W : Nat → Nat → Int32} {F F' : Nat → Int32} {s h s' h' : Nat} {way way' : Int32} {W' I' : Nat → Nat → Int32} {nm : Nat → Int64} : m_nmv I W F s h way (m_nmv I' W' F' s' h' way' nm) = m_nmv I W F s h way nm := by
  funext k
  match k with
  | 0 => rfl
  | 1 => rfl
  | 2 => rfl
  | 3 => rfl
  | 4 => rfl
  | 5 => rfl
  | 6 => rfl
  | k + 7 => rfl
theorem lw_run_nm {so va : Nat → Int32} {nm nm' : Nat → Int64} (hn : ∀ j, j < 7 → nm j = nm' j) : ∀ {c i : Nat} {st : List Int64}, lw_ok so va c i st.length → lw_run so va nm c i st = lw_run so va nm' c i st
  | 0, _, _, _ => rfl
  | c + 1, i, st, h => by
    have n20 : ¬ nI 0 = nI 2 := by decide +kernel
    have n21 : ¬ nI 1 = nI 2 := by decide +kernel
    have n10 : ¬ nI 1 = nI 0 := by decide +kernel
    unfold lw_run
    rcases h with ⟨h1, h2, h3, h4⟩ | ⟨h1, h2, h3, h4⟩ | ⟨h1, h2, h4⟩ | ⟨h1, ⟨j, hj, h2⟩, h3, h4⟩
    · cases st with
      | nil => simp at h3
      | cons y t =>
        rw [lw_step, lw_step, if_pos h1, if_pos h2, if_pos h1]
        exact lw_run_nm hn (st := lw_not y :: t) h4
    · cases st with
      | nil => simp at h3
      | cons y t => cases t with
        | nil => simp at h3
        | cons x t =>
          rw [lw_step, lw_step, if_pos h1, if_neg h2, if_pos h1]
          try dsimp only
          cases ho : lw_op (va i) x y with
          | none => rfl
          | some z => exact lw_run_nm hn (st := z :: t) h4
    · rw [lw_step_n h1, lw_step_n h1]
      exact lw_run_nm hn (st := _ :: st) h4
    · rw [lw_step_v h1, lw_step_v h1, h2, nI_clamp (by omega), hn j hj]
      exact lw_run_nm hn (st := _ :: st) h4
theorem m_law_nm {I : Nat → Nat → Int32} {k : Nat} {nm nm' : Nat → Int64} (hk : k < 3) (hl : m_lok I) (hn : ∀ j, j < 7 → nm j = nm' j) : m_law I k nm = m_law I k nm' := by
  obtain ⟨a, b, ha, hb, hab, hb64, hok⟩ := hl k hk
  unfold m_law
  cases hh : m_has I k
  · rfl
  · have hlt : a < b := by
      unfold m_has at hh
      rw [ha, hb] at hh
      have := of_decide_eq_true hh
      exact (nI_ltI (by omega) (by omega)).mp this
    rw [ha, hb, nI_clamp (by omega), nI_clamp (by omega), lw_val, lw_val, lw_run_nm hn (hok hlt)]
def m_nm0 (I : Nat → Nat → Int32) (W : Nat → Nat → Int32) (F : Nat → Int32) (s h : Nat) (way : Int32) : Nat → Int64 := m_nmv I W F s h way (fun _ => 0)
theorem m_nm07 {I W : Nat → Nat → Int32} {F : Nat → Int32} {s h : Nat} {way : Int32} {nm : Nat → Int64} : ∀ j, j < 7 → m_nmv I W F s h way nm j = m_nm0 I W F s h way j := by
  intro j hj
  match j with
  | 0 => rfl
  | 1 => rfl
  | 2 => rfl
  | 3 => rfl
  | 4 => rfl
  | 5 => rfl
  | 6 => rfl
  | j + 7 => omega
def m_pull (I : Nat → Nat → Int32) (W : Nat → Nat → Int32) (F : Nat → Int32) (s h : Nat) (way : Int32) : Int64 := match m_law I 0 (m_nm0 I W F s h way) with
  | some z => z
  | none => Int64.ofNat 100 - (F (8 * h + (m_dream I s).toNatClampNeg)).toInt64
def m_drop (I : Nat → Nat → Int32) (W : Nat → Nat → Int32) (F : Nat → Int32) (s h : Nat) : Bool := match m_law I 2 (m_nm0 I W F s h (nI 0)) with
  | some z => decide (0 < z)
  | none => false
def m_wake (I : Nat → Nat → Int32) (W : Nat → Nat → Int32) (F : Nat → Int32) (s h : Nat) : Int32 := match m_law I 1 (m_nm0 I W F s h (nI 0)) with
  | some z => (let m := if z < Int64.ofNat 100 then z else Int64.ofNat 100; if (0 : Int64) < m then m else 0).toInt32
  | none => if (m_deep I s).toInt64 < (m_noise I (W 9 h) h).toInt64 then nI 100 else nI 0
def m_way (I : Nat → Nat → Int32) (fr h : Nat) : Int32 := if h = fr then nI 0 else m_street I (m_nS I) (nI fr) (nI h)
def m_goL (I : Nat → Nat → Int32) (W : Nat → Nat → Int32) (F : Nat → Int32) (s fr : Nat) : Nat → Nat × Int64
  | 0 => (fr, m_pull I W F s fr (nI 0))
  | h + 1 => if m_way I fr h = nI 0 then m_goL I W F s fr h else if (m_goL I W F s fr h).2 < m_pull I W F s h (m_way I fr h) then (h, m_pull I W F s h (m_way I fr h)) else m_goL I W F s fr h
def m_go (I : Nat → Nat → Int32) (W : Nat → Nat → Int32) (F : Nat → Int32) (s fr : Nat) : Nat := (m_goL I W F s fr (m_nH I)).1
theorem m_goL_lt {I W : Nat → Nat → Int32} {F : Nat → Int32} {s fr m : Nat} (hf : fr < m) : ∀ k, k ≤ m → (m_goL I W F s fr k).1 < m
  | 0, _ => hf
  | k + 1, h => by
    unfold m_goL
    split
    · exact m_goL_lt hf k (by omega)
    · split
      · show k < m
        omega
      · exact m_goL_lt hf k (by omega)
/-- letters taken, laid down, brought -/
def m_takeF (I : Nat → Nat → Int32) (s h : Int32) (W : Nat → Nat → Int32) (k : Nat) : Nat → Nat → Int32 := fun f l =>
  if l < k ∧ (W 6 l = nI 0 ∧ W 7 l = h) ∧ (f = 6 ∨ f = 7 ∨ f = 8) then (if f = 6 then nI 1 else s) else W f l
def m_downF (s h : Int32) (W : Nat → Nat → Int32) (k : Nat) : Nat → Nat → Int32 := fun f l =>
  if l < k ∧ (W 6 l = nI 1 ∧ W 7 l = s) ∧ (f = 6 ∨ f = 7) then (if f = 6 then nI 0 else h) else W f l
def m_bringF (I : Nat → Nat → Int32) (s h : Int32) (W : Nat → Nat → Int32) (k : Nat) : Nat → Nat → Int32 := fun f l =>
  if l < k ∧ ((W 6 l = nI 1 ∧ W 7 l = s) ∧ I 108 l = h) ∧ (f = 6 ∨ f = 7) then (if f = 6 then nI 2 else h) else W f l
def m_rnd (x : Int32) : Int32 := (x * nI 1103515245 + nI 12345) &&& nI 2147483647
def m_d100 (x : Int32) : Int32 := (x >>> (nI 16 &&& nI 31)) - (x >>> (nI 16 &&& nI 31)) / nI 100 * nI 100
/-- is it woken, and the numbers then -/
def m_woke (wk : Int32) (by_ : Bool) (rd : Int32) : Bool × Int32 := if by_ then (if wk = nI 0 then (false, rd) else if wk = nI 100 then (true, rd) else (decide (m_d100 (m_rnd rd) < wk), m_rnd rd)) else (!decide (wk < nI 50), rd)
def m_walk1 (I : Nat → Nat → Int32) (W : Nat → Nat → Int32) (s : Nat) : Nat → Nat → Int32 := if W 5 s = I 104 s then m_takeF I (nI s) (I 104 s) W (m_nL I) else W
def m_walk2 (I : Nat → Nat → Int32) (F : Nat → Int32) (W : Nat → Nat → Int32) (s : Nat) : Nat → Nat → Int32 := am_u W 5 s (nI (m_go I W F s (W 5 s).toNatClampNeg))
def m_walk3 (I : Nat → Nat → Int32) (W : Nat → Nat → Int32) (s : Nat) : Nat → Nat → Int32 := m_bringF I (nI s) (W 5 s) W (m_nL I)
def m_walk4 (I : Nat → Nat → Int32) (F : Nat → Int32) (by_ : Bool) (W : Nat → Nat → Int32) (s : Nat) : Nat → Nat → Int32 :=
  let h := (W 5 s).toNatClampNeg
  if m_drop I W F s h then m_downF (nI s) (W 5 s) W (m_nL I)
  else
    let q := m_woke (m_wake I W F s h) by_ (W 2 0)
    let W' := if q.2 = W 2 0 then W else am_u W 2 0 q.2
    if q.1 then m_downF (nI s) (W 5 s) (am_u W' 4 0 (W 4 0 ||| am_pw s)) (m_nL I) else W'
def m_walk (I : Nat → Nat → Int32) (F : Nat → Int32) (by_ : Bool) (W : Nat → Nat → Int32) (s : Nat) : Nat → Nat → Int32 := m_walk4 I F by_ (m_walk3 I (m_walk2 I F (m_walk1 I W s) s) s) s
def m_pass (I : Nat → Nat → Int32) (F : Nat → Int32) (by_ : Bool) (W : Nat → Nat → Int32) : Nat → Nat → Nat → Int32
  | 0 => W
  | s + 1 => if bt (m_pass I F by_ W s 4 0) s = false ∧ bt (I 93 58) s = false then m_walk I F by_ (m_pass I F by_ W s) s else m_pass I F by_ W s
section
variable {d N n : Nat} {Q : Value → am_H → Prop} {r : am_rho} {I : Nat → Nat → Int32} {J : Nat → Nat → Int64} {W : Nat → Nat → Int32} {v : Int32} {F T : Nat → Int32} {nm wk : Nat → Int64}
theorem m_has_M {k : Nat} : m_has (m_M I n W v F T) k = m_has I k := by try simp (config := {maxSteps := 1000000}) (disch := omega) only [nI_add, nI_1, am_mulN, nI_clamp, am_gI, am_ifd, am_ifn, am_asIe, am_asLe, nI_leI, nI_ltI, nI_eq, am_neg1, am_neg1b, m_Mo, m_Mv, m_MF, m_MT, m_M0, m_M1, m_M2, m_M3, m_M4, m_M5, m_M6, m_M7, m_M8, m_M9, m_wv, m_w0, m_w1, m_w2, m_w3, m_w4, m_w5, m_w6, m_w7, m_w8, m_w9, m_wF, m_wT, m_Jn, m_Jw, m_Jo, m_un, m_uw, m_has]
theorem m_gone_M {k : Nat} : m_gone (m_M I n W v F T) k = m_gone I k := by try simp (config := {maxSteps := 1000000}) (disch := omega) only [nI_add, nI_1, am_mulN, nI_clamp, am_gI, am_ifd, am_ifn, am_asIe, am_asLe, nI_leI, nI_ltI, nI_eq, am_neg1, am_neg1b, m_Mo, m_Mv, m_MF, m_MT, m_M0, m_M1, m_M2, m_M3, m_M4, m_M5, m_M6, m_M7, m_M8, m_M9, m_wv, m_w0, m_w1, m_w2, m_w3, m_w4, m_w5, m_w6, m_w7, m_w8, m_w9, m_wF, m_wT, m_Jn, m_Jw, m_Jo, m_un, m_uw, m_gone]
theorem m_stH_M {a b : Int32} : m_stH (m_M I n W v F T) a b = m_stH I a b := by funext l; try simp (config := {maxSteps := 1000000}) (disch := omega) only [nI_add, nI_1, am_mulN, nI_clamp, am_gI, am_ifd, am_ifn, am_asIe, am_asLe, nI_leI, nI_ltI, nI_eq, am_neg1, am_neg1b, m_Mo, m_Mv, m_MF, m_MT, m_M0, m_M1, m_M2, m_M3, m_M4, m_M5, m_M6, m_M7, m_M8, m_M9, m_wv, m_w0, m_w1, m_w2, m_w3, m_w4, m_w5, m_w6, m_w7, m_w8, m_w9, m_wF, m_wT, m_Jn, m_Jw, m_Jo, m_un, m_uw, m_stH, m_gone_M]
theorem m_street_M {k : Nat} {a b : Int32} : m_street (m_M I n W v F T) k a b = m_street I k a b := by try simp (config := {maxSteps := 1000000}) (disch := omega) only [nI_add, nI_1, am_mulN, nI_clamp, am_gI, am_ifd, am_ifn, am_asIe, am_asLe, nI_leI, nI_ltI, nI_eq, am_neg1, am_neg1b, m_Mo, m_Mv, m_MF, m_MT, m_M0, m_M1, m_M2, m_M3, m_M4, m_M5, m_M6, m_M7, m_M8, m_M9, m_wv, m_w0, m_w1, m_w2, m_w3, m_w4, m_w5, m_w6, m_w7, m_w8, m_w9, m_wF, m_wT, m_Jn, m_Jw, m_Jo, m_un, m_uw, m_street, m_stH_M]
theorem m_lampH_M {a b : Int32} : m_lampH (m_M I n W v F T) a b = m_lampH I a b := by funext l; try simp (config := {maxSteps := 1000000}) (disch := omega) only [nI_add, nI_1, am_mulN, nI_clamp, am_gI, am_ifd, am_ifn, am_asIe, am_asLe, nI_leI, nI_ltI, nI_eq, am_neg1, am_neg1b, m_Mo, m_Mv, m_MF, m_MT, m_M0, m_M1, m_M2, m_M3, m_M4, m_M5, m_M6, m_M7, m_M8, m_M9, m_wv, m_w0, m_w1, m_w2, m_w3, m_w4, m_w5, m_w6, m_w7, m_w8, m_w9, m_wF, m_wT, m_Jn, m_Jw, m_Jo, m_un, m_uw, m_lampH]
theorem m_lamp_M {k : Nat} {a b : Int32} : m_lamp (m_M I n W v F T) k a b = m_lamp I k a b := by try simp (config := {maxSteps := 1000000}) (disch := omega) only [nI_add, nI_1, am_mulN, nI_clamp, am_gI, am_ifd, am_ifn, am_asIe, am_asLe, nI_leI, nI_ltI, nI_eq, am_neg1, am_neg1b, m_Mo, m_Mv, m_MF, m_MT, m_M0, m_M1, m_M2, m_M3, m_M4, m_M5, m_M6, m_M7, m_M8, m_M9, m_wv, m_w0, m_w1, m_w2, m_w3, m_w4, m_w5, m_w6, m_w7, m_w8, m_w9, m_wF, m_wT, m_Jn, m_Jw, m_Jo, m_un, m_uw, m_lamp, m_lampH_M]
theorem m_light_M {k h : Nat} {a b : Int32} : m_light (m_M I n W v F T) k a h b = m_light I k a h b := by try simp (config := {maxSteps := 1000000}) (disch := omega) only [nI_add, nI_1, am_mulN, nI_clamp, am_gI, am_ifd, am_ifn, am_asIe, am_asLe, nI_leI, nI_ltI, nI_eq, am_neg1, am_neg1b, m_Mo, m_Mv, m_MF, m_MT, m_M0, m_M1, m_M2, m_M3, m_M4, m_M5, m_M6, m_M7, m_M8, m_M9, m_wv, m_w0, m_w1, m_w2, m_w3, m_w4, m_w5, m_w6, m_w7, m_w8, m_w9, m_wF, m_wT, m_Jn, m_Jw, m_Jo, m_un, m_uw, m_light, m_lamp_M]
theorem m_noise_M {h : Nat} {a : Int32} : m_noise (m_M I n W v F T) a h = m_noise I a h := by try simp (config := {maxSteps := 1000000}) (disch := omega) only [nI_add, nI_1, am_mulN, nI_clamp, am_gI, am_ifd, am_ifn, am_asIe, am_asLe, nI_leI, nI_ltI, nI_eq, am_neg1, am_neg1b, m_Mo, m_Mv, m_MF, m_MT, m_M0, m_M1, m_M2, m_M3, m_M4, m_M5, m_M6, m_M7, m_M8, m_M9, m_wv, m_w0, m_w1, m_w2, m_w3, m_w4, m_w5, m_w6, m_w7, m_w8, m_w9, m_wF, m_wT, m_Jn, m_Jw, m_Jo, m_un, m_uw, m_noise]
theorem m_deep_M {s : Nat} : m_deep (m_M I n W v F T) s = m_deep I s := by try simp (config := {maxSteps := 1000000}) (disch := omega) only [nI_add, nI_1, am_mulN, nI_clamp, am_gI, am_ifd, am_ifn, am_asIe, am_asLe, nI_leI, nI_ltI, nI_eq, am_neg1, am_neg1b, m_Mo, m_Mv, m_MF, m_MT, m_M0, m_M1, m_M2, m_M3, m_M4, m_M5, m_M6, m_M7, m_M8, m_M9, m_wv, m_w0, m_w1, m_w2, m_w3, m_w4, m_w5, m_w6, m_w7, m_w8, m_w9, m_wF, m_wT, m_Jn, m_Jw, m_Jo, m_un, m_uw, m_deep]
theorem m_dream_M {s : Nat} : m_dream (m_M I n W v F T) s = m_dream I s := by try simp (config := {maxSteps := 1000000}) (disch := omega) only [nI_add, nI_1, am_mulN, nI_clamp, am_gI, am_ifd, am_ifn, am_asIe, am_asLe, nI_leI, nI_ltI, nI_eq, am_neg1, am_neg1b, m_Mo, m_Mv, m_MF, m_MT, m_M0, m_M1, m_M2, m_M3, m_M4, m_M5, m_M6, m_M7, m_M8, m_M9, m_wv, m_w0, m_w1, m_w2, m_w3, m_w4, m_w5, m_w6, m_w7, m_w8, m_w9, m_wF, m_wT, m_Jn, m_Jw, m_Jo, m_un, m_uw, m_dream]
theorem m_hand_e (hL : m_nL I ≤ 8) {s : Int32} : am_mk1 (fun l => decide (m_M I n W v F T 124 (8 * n + l) = nI 1 ∧ m_M I n W v F T 125 (8 * n + l) = s)) (m_nL I) = m_hand I W s := by
  unfold m_hand
  refine am_mkc fun l hl => ?_
  try dsimp only
  rw [m_M6 (by omega), m_M7 (by omega)]
theorem s_M_calls {s h : Nat} {way : Int32} (hok : m_ok I) (hD : m_okD I) (hn : n < 23) (hs : s < m_nZ I) (hh : h < m_nH I) : am_D (d + 2) 219 [.ref 93, .int (nI n), .int (nI s), .int (nI h), .int way] (am_hp N r (m_M I n W v F T) (m_J J nm wk)) Q =
    Q .null (am_hp N r (m_M I n W v F T) (m_J J (m_nmv I W F s h way nm) wk)) := by
  obtain ⟨⟨hH, hH8⟩, ⟨hS, hS12⟩, ⟨hZ, hZ5⟩, ⟨hL, hL8⟩, ⟨hA, hA6⟩, hB, hl⟩ := hok
  obtain ⟨q, hq, hq'⟩ := hD s hs
  have eL : m_M I n W v F T 95 3 = nI (m_nL I) := by rw [m_Mo (by omega)]; exact hL
  have eA : m_M I n W v F T 95 4 = nI (m_nA I) := by rw [m_Mo (by omega)]; exact hA
  rw [e_M_calls, s_M_deepOf (by omega)]
  try simp (config := {maxSteps := 1000000}) (disch := omega) only [nI_add, nI_1, am_mulN, nI_clamp, am_gI, am_ifd, am_ifn, am_asIe, am_asLe, nI_leI, nI_ltI, nI_eq, am_neg1, am_neg1b, m_Mo, m_Mv, m_MF, m_MT, m_M0, m_M1, m_M2, m_M3, m_M4, m_M5, m_M6, m_M7, m_M8, m_M9, m_wv, m_w0, m_w1, m_w2, m_w3, m_w4, m_w5, m_w6, m_w7, m_w8, m_w9, m_wF, m_wT, m_Jn, m_Jw, m_Jo, m_un, m_uw, m_deep_M]
  rw [e_M_calls_10]
  try simp (config := {maxSteps := 1000000}) (disch := omega) only [nI_add, nI_1, am_mulN, nI_clamp, am_gI, am_ifd, am_ifn, am_asIe, am_asLe, nI_leI, nI_ltI, nI_eq, am_neg1, am_neg1b, m_Mo, m_Mv, m_MF, m_MT, m_M0, m_M1, m_M2, m_M3, m_M4, m_M5, m_M6, m_M7, m_M8, m_M9, m_wv, m_w0, m_w1, m_w2, m_w3, m_w4, m_w5, m_w6, m_w7, m_w8, m_w9, m_wF, m_wT, m_Jn, m_Jw, m_Jo, m_un, m_uw]
  rw [s_M_dreamOf (by omega)]
  try simp (config := {maxSteps := 1000000}) (disch := omega) only [nI_add, nI_1, am_mulN, nI_clamp, am_gI, am_ifd, am_ifn, am_asIe, am_asLe, nI_leI, nI_ltI, nI_eq, am_neg1, am_neg1b, m_Mo, m_Mv, m_MF, m_MT, m_M0, m_M1, m_M2, m_M3, m_M4, m_M5, m_M6, m_M7, m_M8, m_M9, m_wv, m_w0, m_w1, m_w2, m_w3, m_w4, m_w5, m_w6, m_w7, m_w8, m_w9, m_wF, m_wT, m_Jn, m_Jw, m_Jo, m_un, m_uw, m_dream_M, hq']
  rw [e_M_calls_30]
  try simp (config := {maxSteps := 1000000}) (disch := omega) only [nI_add, nI_1, am_mulN, nI_clamp, am_gI, am_ifd, am_ifn, am_asIe, am_asLe, nI_leI, nI_ltI, nI_eq, am_neg1, am_neg1b, m_Mo, m_Mv, m_MF, m_MT, m_M0, m_M1, m_M2, m_M3, m_M4, m_M5, m_M6, m_M7, m_M8, m_M9, m_wv, m_w0, m_w1, m_w2, m_w3, m_w4, m_w5, m_w6, m_w7, m_w8, m_w9, m_wF, m_wT, m_Jn, m_Jw, m_Jo, m_un, m_uw]
  rw [s_M_lightAt hn (by omega) eA hA6]
  try simp (config := {maxSteps := 1000000}) (disch := omega) only [nI_add, nI_1, am_mulN, nI_clamp, am_gI, am_ifd, am_ifn, am_asIe, am_asLe, nI_leI, nI_ltI, nI_eq, am_neg1, am_neg1b, m_Mo, m_Mv, m_MF, m_MT, m_M0, m_M1, m_M2, m_M3, m_M4, m_M5, m_M6, m_M7, m_M8, m_M9, m_wv, m_w0, m_w1, m_w2, m_w3, m_w4, m_w5, m_w6, m_w7, m_w8, m_w9, m_wF, m_wT, m_Jn, m_Jw, m_Jo, m_un, m_uw, m_light_M]
  rw [e_M_calls_51]
  try simp (config := {maxSteps := 1000000}) (disch := omega) only [nI_add, nI_1, am_mulN, nI_clamp, am_gI, am_ifd, am_ifn, am_asIe, am_asLe, nI_leI, nI_ltI, nI_eq, am_neg1, am_neg1b, m_Mo, m_Mv, m_MF, m_MT, m_M0, m_M1, m_M2, m_M3, m_M4, m_M5, m_M6, m_M7, m_M8, m_M9, m_wv, m_w0, m_w1, m_w2, m_w3, m_w4, m_w5, m_w6, m_w7, m_w8, m_w9, m_wF, m_wT, m_Jn, m_Jw, m_Jo, m_un, m_uw]
  rw [s_M_noiseAt hn (by omega)]
  try simp (config := {maxSteps := 1000000}) (disch := omega) only [nI_add, nI_1, am_mulN, nI_clamp, am_gI, am_ifd, am_ifn, am_asIe, am_asLe, nI_leI, nI_ltI, nI_eq, am_neg1, am_neg1b, m_Mo, m_Mv, m_MF, m_MT, m_M0, m_M1, m_M2, m_M3, m_M4, m_M5, m_M6, m_M7, m_M8, m_M9, m_wv, m_w0, m_w1, m_w2, m_w3, m_w4, m_w5, m_w6, m_w7, m_w8, m_w9, m_wF, m_wT, m_Jn, m_Jw, m_Jo, m_un, m_uw, m_noise_M]
  rw [e_M_calls_64]
  try simp (config := {maxSteps := 1000000}) (disch := omega) only [nI_add, nI_1, am_mulN, nI_clamp, am_gI, am_ifd, am_ifn, am_asIe, am_asLe, nI_leI, nI_ltI, nI_eq, am_neg1, am_neg1b, m_Mo, m_Mv, m_MF, m_MT, m_M0, m_M1, m_M2, m_M3, m_M4, m_M5, m_M6, m_M7, m_M8, m_M9, m_wv, m_w0, m_w1, m_w2, m_w3, m_w4, m_w5, m_w6, m_w7, m_w8, m_w9, m_wF, m_wT, m_Jn, m_Jw, m_Jo, m_un, m_uw]
  rw [s_M_inHand hn eL hL8, m_hand_e hL8]
  try simp (config := {maxSteps := 1000000}) (disch := omega) only [nI_add, nI_1, am_mulN, nI_clamp, am_gI, am_ifd, am_ifn, am_asIe, am_asLe, nI_leI, nI_ltI, nI_eq, am_neg1, am_neg1b, m_Mo, m_Mv, m_MF, m_MT, m_M0, m_M1, m_M2, m_M3, m_M4, m_M5, m_M6, m_M7, m_M8, m_M9, m_wv, m_w0, m_w1, m_w2, m_w3, m_w4, m_w5, m_w6, m_w7, m_w8, m_w9, m_wF, m_wT, m_Jn, m_Jw, m_Jo, m_un, m_uw]
  rw [e_M_calls_77, s_M_bitsOf]
  try simp (config := {maxSteps := 1000000}) (disch := omega) only [nI_add, nI_1, am_mulN, nI_clamp, am_gI, am_ifd, am_ifn, am_asIe, am_asLe, nI_leI, nI_ltI, nI_eq, am_neg1, am_neg1b, m_Mo, m_Mv, m_MF, m_MT, m_M0, m_M1, m_M2, m_M3, m_M4, m_M5, m_M6, m_M7, m_M8, m_M9, m_wv, m_w0, m_w1, m_w2, m_w3, m_w4, m_w5, m_w6, m_w7, m_w8, m_w9, m_wF, m_wT, m_Jn, m_Jw, m_Jo, m_un, m_uw]
  rw [e_M_calls_80]
  try simp (config := {maxSteps := 1000000}) (disch := omega) only [nI_add, nI_1, am_mulN, nI_clamp, am_gI, am_ifd, am_ifn, am_asIe, am_asLe, nI_leI, nI_ltI, nI_eq, am_neg1, am_neg1b, m_Mo, m_Mv, m_MF, m_MT, m_M0, m_M1, m_M2, m_M3, m_M4, m_M5, m_M6, m_M7, m_M8, m_M9, m_wv, m_w0, m_w1, m_w2, m_w3, m_w4, m_w5, m_w6, m_w7, m_w8, m_w9, m_wF, m_wT, m_Jn, m_Jw, m_Jo, m_un, m_uw]
  have e : (vp_updL (vp_updL (vp_updL (vp_updL (vp_updL (vp_updL (vp_updL nm 0 (m_deep I s).toInt64) 1 (F (8 * h + q)).toInt64) 2 (nI (m_light I (m_nA I) (W 3 0) h (W 0 0)).toNat).toInt64) 3 (m_noise I (W 9 h) h).toInt64) 4 (nI (fa_cnt (bt (m_hand I W (nI s))) 8)).toInt64) 5 (W 0 0).toInt64) 6 way.toInt64) = m_nmv I W F s h way nm := by
    funext k
    match k with
    | 0 => rfl
    | 1 =>
      show _ = (F (8 * h + (m_dream I s).toNatClampNeg)).toInt64
      rw [hq', nI_clamp (by omega)]
      rfl
    | 2 => rfl
    | 3 => rfl
    | 4 => rfl
    | 5 => rfl
    | 6 => rfl
    | k + 7 => rfl
  rw [e]
theorem m_lok_M : m_lok I → m_lok (m_M I n W v F T) := by
  intro h k hk
  obtain ⟨a, b, h1, h2, h3, h4, h5⟩ := h k hk
  have e4 : m_M I n W v F T 114 = I 114 := by funext j; exact m_Mo (by omega)
  have e5 : m_M I n W v F T 115 = I 115 := by funext j; exact m_Mo (by omega)
  refine ⟨a, b, ?_, ?_, h3, h4, ?_⟩
  · rw [m_Mo (by omega)]; exact h1
  · rw [m_Mo (by omega)]; exact h2
  · rw [e4, e5]; exact h5
theorem s_M_pullOf {s h : Nat} {way : Int32} (hok : m_ok I) (hD : m_okD I) (hn : n < 23) (hs : s < m_nZ I) (hh : h < m_nH I) (hQ : ∀ v' nm' wk', Q (.long (m_pull I W F s h way)) (am_hp N r (m_M I n W v' F T) (m_J J nm' wk'))) : am_D (d + 4) 220 [.ref 93, .int (nI n), .int (nI s), .int (nI h), .int way] (am_hp N r (m_M I n W v F T) (m_J J nm wk)) Q := by
  rw [e_M_pullOf, s_M_calls hok hD hn hs hh]
  rw [e_M_pullOf_9, s_M_hasLaw (by omega)]
  try simp (config := {maxSteps := 1000000}) (disch := omega) only [nI_add, nI_1, am_mulN, nI_clamp, am_gI, am_ifd, am_ifn, am_asIe, am_asLe, nI_leI, nI_ltI, nI_eq, am_neg1, am_neg1b, m_Mo, m_Mv, m_MF, m_MT, m_M0, m_M1, m_M2, m_M3, m_M4, m_M5, m_M6, m_M7, m_M8, m_M9, m_wv, m_w0, m_w1, m_w2, m_w3, m_w4, m_w5, m_w6, m_w7, m_w8, m_w9, m_wF, m_wT, m_Jn, m_Jw, m_Jo, m_un, m_uw, m_has_M]
  rw [e_M_pullOf_14]
  try simp (config := {maxSteps := 1000000}) (disch := omega) only [nI_add, nI_1, am_mulN, nI_clamp, am_gI, am_ifd, am_ifn, am_asIe, am_asLe, nI_leI, nI_ltI, nI_eq, am_neg1, am_neg1b, m_Mo, m_Mv, m_MF, m_MT, m_M0, m_M1, m_M2, m_M3, m_M4, m_M5, m_M6, m_M7, m_M8, m_M9, m_wv, m_w0, m_w1, m_w2, m_w3, m_w4, m_w5, m_w6, m_w7, m_w8, m_w9, m_wF, m_wT, m_Jn, m_Jw, m_Jo, m_un, m_uw, b_v0]
  have hp : m_pull I W F s h way = m_pull I W F s h way := rfl
  conv at hp => rhs; unfold m_pull
  rw [← m_law_nm (by omega) hok.2.2.2.2.2.2 (m_nm07 (nm := nm))] at hp
  have e1 : m_nmv I W F s h way nm 1 = (F (8 * h + (m_dream I s).toNatClampNeg)).toInt64 := rfl
  by_cases hh : m_has I 0 = true
  · rw [if_neg (by rw [hh]; decide)]
    refine s_M_goes (by omega) hok.2.2.2.2.2.2 hh ?_
    cases hm : m_law I 0 (m_nmv I W F s h way nm) with
    | none =>
      intro v' wk'
      try simp (config := {maxSteps := 1000000}) (disch := omega) only [nI_add, nI_1, am_mulN, nI_clamp, am_gI, am_ifd, am_ifn, am_asIe, am_asLe, nI_leI, nI_ltI, nI_eq, am_neg1, am_neg1b, m_Mo, m_Mv, m_MF, m_MT, m_M0, m_M1, m_M2, m_M3, m_M4, m_M5, m_M6, m_M7, m_M8, m_M9, m_wv, m_w0, m_w1, m_w2, m_w3, m_w4, m_w5, m_w6, m_w7, m_w8, m_w9, m_wF, m_wT, m_Jn, m_Jw, m_Jo, m_un, m_uw]
      rw [e_M_pullOf_22]
      try simp (config := {maxSteps := 1000000}) (disch := omega) only [nI_add, nI_1, am_mulN, nI_clamp, am_gI, am_ifd, am_ifn, am_asIe, am_asLe, nI_leI, nI_ltI, nI_eq, am_neg1, am_neg1b, m_Mo, m_Mv, m_MF, m_MT, m_M0, m_M1, m_M2, m_M3, m_M4, m_M5, m_M6, m_M7, m_M8, m_M9, m_wv, m_w0, m_w1, m_w2, m_w3, m_w4, m_w5, m_w6, m_w7, m_w8, m_w9, m_wF, m_wT, m_Jn, m_Jw, m_Jo, m_un, m_uw, if_true]
      rw [hm] at hp
      rw [e1]
      rw [hp] at hQ
      exact hQ _ _ _
    | some z =>
      intro v' wk' hz
      try simp (config := {maxSteps := 1000000}) (disch := omega) only [nI_add, nI_1, am_mulN, nI_clamp, am_gI, am_ifd, am_ifn, am_asIe, am_asLe, nI_leI, nI_ltI, nI_eq, am_neg1, am_neg1b, m_Mo, m_Mv, m_MF, m_MT, m_M0, m_M1, m_M2, m_M3, m_M4, m_M5, m_M6, m_M7, m_M8, m_M9, m_wv, m_w0, m_w1, m_w2, m_w3, m_w4, m_w5, m_w6, m_w7, m_w8, m_w9, m_wF, m_wT, m_Jn, m_Jw, m_Jo, m_un, m_uw]
      rw [e_M_pullOf_22]
      try simp (config := {maxSteps := 1000000}) (disch := omega) only [nI_add, nI_1, am_mulN, nI_clamp, am_gI, am_ifd, am_ifn, am_asIe, am_asLe, nI_leI, nI_ltI, nI_eq, am_neg1, am_neg1b, m_Mo, m_Mv, m_MF, m_MT, m_M0, m_M1, m_M2, m_M3, m_M4, m_M5, m_M6, m_M7, m_M8, m_M9, m_wv, m_w0, m_w1, m_w2, m_w3, m_w4, m_w5, m_w6, m_w7, m_w8, m_w9, m_wF, m_wT, m_Jn, m_Jw, m_Jo, m_un, m_uw, show ¬ (1 = 0) by omega, if_false]
      rw [hm] at hp
      rw [hp] at hQ
      rw [hz]
      exact hQ _ _ _
  · have hf : m_has I 0 = false := ts_ne hh
    rw [if_pos hf]
    rw [m_law, if_neg hh] at hp
    rw [e1]
    rw [hp] at hQ
    exact hQ _ _ _
end
