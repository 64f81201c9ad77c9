/-! ===== the rows that touch the heap ===== -/
section AMH
variable {p : Program} {l : Launch} {e : Env} {R : Room} {s : State} {m : MethodId} {args : Array Value} {below : List Frame} {meth : Method} {c : Code}
theorem am_fits_ref {ty : FieldType} (h : (∃ n, ty = .object n) ∨ ∃ t, ty = .array t) {v : Value} (hv : v = .null ∨ ∃ a, v = .ref a) : narrow ty v = v ∧ fits ty v = true := by
  rcases h with ⟨n, rfl⟩ | ⟨n, rfl⟩ <;> rcases hv with rfl | ⟨a, rfl⟩ <;> exact ⟨rfl, rfl⟩
/-- a field's new value among the fields -/
theorem am_flds {Z : am_Z} {h h' : am_H} {a ci k n : Nat} {v : Value} (hv : am_fd Z h' a ci k = v) (ho : ∀ j, j ≠ k → am_fd Z h' a ci j = am_fd Z h a ci j) : (List.range n).map (am_fd Z h' a ci) = ((List.range n).map (am_fd Z h a ci)).set k v := by
  apply List.ext_getElem?
  intro j
  by_cases hj : j < n
  · by_cases e : j = k
    · subst e
      rw [List.getElem?_set_self (by simpa using hj)]
      simp [List.getElem?_range hj, hv]
    · rw [List.getElem?_set_ne (Ne.symm e)]
      simp [List.getElem?_range hj, ho j e]
  · rw [List.getElem?_eq_none (by simpa using hj), List.getElem?_eq_none (by simpa using hj)]
theorem am_St_set {Z : am_Z} {h h' : am_H} {H1 : Heap} {a : Nat} {cell : va_E} (hw : am_wf h) (h1 : 1 ≤ a) (h2 : a ≤ h.1) (hn : h'.1 = h.1) (hT : h'.2.1 = h.2.1) (ho : ∀ b, b ≠ a → am_cell Z h' b = am_cell Z h b) (hc : am_cell Z h' a = cell)
    (hP : va_P Z.2.2.2.2 vwCl ((am_ws Z h).set (a - 1) (am_aa Z a, cell)) H1) : am_St Z h' H1 := by
  have hP' : va_P Z.2.2.2.2 vwCl (am_ws Z h') H1 := by rw [am_ws_set Z h1 h2 hw.1 hn ho, hc]; exact hP
  refine ⟨am_wf_same hw hn hT, ?_, hP'⟩
  have := (hP' (h.1 - 1) _ (am_ws_at Z h' (k := h.1 - 1) (by omega))).lt
  simp only at this
  omega
theorem am_RO_I {Z : am_Z} {h : am_H} {U : State} {H : Heap} (hw : am_wf h) {a k : Nat} {v : Int32} (ha : a ≤ 140) (r : am_RO Z h U H) : am_RO Z (am_wI h a k v) U H := by
  refine am_RO_same (h := h) (fun _ _ => rfl) (fun b e => (am_wf_ro (h := h) hw e).1) (fun b j hb => ?_) (fun _ _ _ => rfl) r
  have : ¬ b = a := by omega
  simp [am_wI, am_u, this]
theorem am_RO_J {Z : am_Z} {h : am_H} {U : State} {H : Heap} (hw : am_wf h) {a k : Nat} {v : Int64} (r : am_RO Z h U H) : am_RO Z (am_wJ h a k v) U H :=
  am_RO_same (h := h) (fun _ _ => rfl) (fun b e => (am_wf_ro (h := h) hw e).1) (fun _ _ _ => rfl) (fun _ _ _ => rfl) r
theorem am_RO_R {Z : am_Z} {h : am_H} {U : State} {H : Heap} (hw : am_wf h) {a k : Nat} {v : Nat} (ha : a ≤ 140) (r : am_RO Z h U H) : am_RO Z (am_wR h a k v) U H :=
  am_RO_same (h := h) (fun _ _ => rfl) (fun b e => (am_wf_ro (h := h) hw e).1) (fun _ _ _ => rfl) (fun b j hb => am_uR_ne _ (by omega) j) r
theorem am_u_row (I : Nat → Nat → Int32) (a k : Nat) (v : Int32) : am_u I a k v a = upd (I a) k v := by funext j; simp [am_u, upd]
theorem am_uJ_row (I : Nat → Nat → Int64) (a k : Nat) (v : Int64) : am_uJ I a k v a = vp_updL (I a) k v := by funext j; simp [am_uJ, vp_updL]
/-- what stands for one -/
theorem am_here {Z : am_Z} {h : am_H} {H : Heap} (hSt : am_St Z h H) {a : Nat} (h0 : am_kd h a ≠ 0) (h5 : am_kd h a ≠ 5) (h7 : am_kd h a ≠ 7) (h60 : am_kd h a ≠ 60) : (1 ≤ a ∧ a ≤ h.1 ∧ a ≤ 140) ∧ (am_ws Z h)[a - 1]? = some (am_aa Z a, am_cell Z h a) ∧ am_t Z (.ref a) = .ref (am_aa Z a) := by
  obtain ⟨q1, q2, q3⟩ := am_wf_rw hSt.1 h0 h5 h7 h60
  exact ⟨⟨q1, q2, q3⟩, am_ws_get Z h q1 q2 hSt.1.1, am_t_ref Z (by omega) (by omega)⟩
theorem am_there {Z : am_Z} {h : am_H} (hw : am_wf h) {a : Nat} (e : am_kd h a = 5 ∨ am_kd h a = 7 ∨ am_kd h a = 60) : am_t Z (.ref a) = .ref (Z.2.1 a) := by
  obtain ⟨q1, q2⟩ := am_wf_ro hw e
  rw [am_t_ref Z (by omega) q2, am_aa_hi Z q1]
theorem am_beq {a b : Nat} (h : Nat.beq a b = true) : a = b := Nat.eq_of_beq_eq_true h
theorem am_orb {a b : Bool} (h : (a || b) = true) : a = true ∨ b = true := by cases a <;> simp_all
abbrev am_seqT (p : Program) (l : Launch) (e : Env) (R : Room) (s : State) (m : MethodId) (args : Array Value) (below : List Frame) (meth : Method) (c : Code) (Z : am_Z) (mid : Nat) (QF : State → Prop) (cs : List am_W) (pc : Nat) : Prop :=
  ∀ {u' : Nat × Nat} {L' : am_L} {st' : List Value} {h' : am_H}, am_P p l e R s m args below meth c Z mid QF u' cs L' st' h' → u'.1 ≤ (am_tb mid).1.2.2.1 → u'.2 ≤ (am_tb mid).1.2.2.2 → am_G p l e R s m args below meth c Z mid QF u' L' st' h' pc
set_option maxHeartbeats 4000000 in
theorem am_w_get {Z : am_Z} {mid d : Nat} {Q : Value → am_H → Prop} {QF : State → Prop} {Ts : List Cond} (hCx : am_Cx p s m args meth c Z mid Ts) {u : Nat × Nat} {L : am_L} {st : List Value} {h : am_H} {cs : List am_W} {pc len i1 i2 i3 i4 k : Nat} (hok : am_okR mid (pc, .getfield k, len, i1, i2, i3, i4) = true)
    (seq : am_seqT p l e R s m args below meth c Z mid QF cs (pc + len)) (hu1 : u.1 ≤ (am_tb mid).1.2.2.1) (hu2 : u.2 ≤ (am_tb mid).1.2.2.2) (hs : am_step (am_D d) am_co (am_tb mid).1 Q (am_P p l e R s m args below meth c Z mid QF) u ((pc, .getfield k, len, i1, i2, i3, i4) :: cs) L st h) : am_G p l e R s m args below meth c Z mid QF u L st h pc := by
  obtain ⟨hx, hb, hml, hown, hts, hgd, hrt, hini, hUS, hZs, hnr⟩ := hCx
  have hAT : ∀ w ∈ am_AT, w.before args s = true := fun w hw => hts w (hgd w hw).1
  simp only [am_okR, am_okI, Bool.and_eq_true, decide_eq_true_eq, Nat.beq_eq] at hok
  obtain ⟨hdg, rfl, hok⟩ := hok
  dsimp only [am_step] at hs
  obtain ⟨a, r, rfl, hs1⟩ := am_r_of hs
  obtain ⟨hk0, hs2⟩ := am_g_of hs1
  have hk := am_beq hk0
  intro H locs ls h1 h2 h3 h4 h5 h6
  show W _ _ _ _ _ _ _ _ _ _ _ _ _ _ _ (F0 m pc ls (am_t Z (.ref a) :: r.map (am_t Z)))
  cases hb50 : Nat.beq i1 50 with
  | true =>
    rw [hb50] at hok
    have := am_beq hb50
    subst this
    simp only [cond_true, Bool.and_eq_true, Bool.or_eq_true, Nat.beq_eq] at hok
    obtain ⟨ho, hok⟩ := hok
    rw [ho] at hown
    obtain ⟨⟨g1, g2⟩, g3, g4, g5⟩ := h3.2.2.1 a (by omega)
    rw [am_there h2.1 (Or.inr (Or.inr (by omega)))]
    have nx := seq hs2 hu1 hu2 H locs ls h1 h2 h3 h4
    rcases hok with ⟨rfl, rfl, rfl⟩ | ⟨rfl, rfl, rfl⟩
    · refine vk_getf hx hb (g4.narrow (fun _ => am_B_of hZs)) h4 hown (hAT _ (am_in_ex (List.mem_of_getElem? (i := 0) rfl))) (fun _ q => q) hdg ?_
      have := nx (am_sc rfl (am_sd h5)) h6
      simp only [List.map_cons, am_fv, am_t_ref Z (show h.2.2.2.2 a 0 ≠ 0 by omega) g2, am_aa_hi Z g1] at this
      exact this
    · refine vk_getf hx hb (g5.narrow (fun _ => am_B_of hZs)) h4 hown (hAT _ (am_in_ex (List.mem_of_getElem? (i := 1) rfl))) (fun _ q => q) hdg ?_
      exact nx (am_sc rfl (am_sd h5)) h6
  | false =>
    rw [hb50] at hok
    simp only [cond_false, Bool.and_eq_true, Nat.beq_eq] at hok
    obtain ⟨hfl, hc13, hN, hft⟩ := hok
    have hc13 := am_blt hc13
    have hN := am_blt hN
    obtain ⟨⟨q1, q2, q3⟩, hws, ht⟩ := am_here h2 (a := a) (by omega) (by omega) (by omega) (by omega)
    rw [ht]
    rw [am_cell_o Z hk] at hws
    have hlen : am_len h a = am_Nf i1 := by
      rcases h2.1.2 a (by omega) with ⟨-, -, q | ⟨-, -, q⟩⟩ | ⟨-, -, q⟩
      · omega
      · rw [q, hk, show 10 + i1 - 10 = i1 by omega]
      · omega
    refine va_get (Ts := Ts) hx hb hts (fun w hw => (hgd w (am_w_lay hc13 w hw)).1) hown hUS.1 h2.2.2 (a - 1) hws (am_w_cl hc13) i2 hN (hAT _ (am_in1_fl (am_h4_of hfl))) (fun _ q => q) (v := am_fd Z h a i1 i2) ?_ hdg ?_
    · simp [hlen, List.getElem?_range hN]
    · have := seq hs2 hu1 hu2 H locs ls h1 h2 h3 h4 (am_sc (by rw [← hft]; unfold am_fv; split <;> rfl) (am_sd h5)) h6
      rw [← hft] at this
      exact this
set_option maxHeartbeats 4000000 in
theorem am_w_put {Z : am_Z} {mid d : Nat} {Q : Value → am_H → Prop} {QF : State → Prop} {Ts : List Cond} (hCx : am_Cx p s m args meth c Z mid Ts) {u : Nat × Nat} {L : am_L} {st : List Value} {h : am_H} {cs : List am_W} {pc len i1 i2 i3 i4 k : Nat} (hok : am_okR mid (pc, .putfield k, len, i1, i2, i3, i4) = true)
    (seq : am_seqT p l e R s m args below meth c Z mid QF cs (pc + len)) (hu1 : u.1 ≤ (am_tb mid).1.2.2.1) (hu2 : u.2 ≤ (am_tb mid).1.2.2.2) (hs : am_step (am_D d) am_co (am_tb mid).1 Q (am_P p l e R s m args below meth c Z mid QF) u ((pc, .putfield k, len, i1, i2, i3, i4) :: cs) L st h) : am_G p l e R s m args below meth c Z mid QF u L st h pc := by
  obtain ⟨hx, hb, hml, hown, hts, hgd, hrt, hini, hUS, hZs, hnr⟩ := hCx
  have hAT : ∀ w ∈ am_AT, w.before args s = true := fun w hw => hts w (hgd w hw).1
  simp only [am_okR, am_okI, Bool.and_eq_true, decide_eq_true_eq, Nat.beq_eq, Bool.or_eq_true, Bool.not_eq_true'] at hok
  obtain ⟨hdg, rfl, hfl, hc13, hN, hft, hfin⟩ := hok
  have hc13 := am_blt hc13
  have hN := am_blt hN
  dsimp only [am_step] at hs
  split at hs
  next v a r =>
    obtain ⟨hk, hs⟩ := am_g_of hs
    have hk := am_beq hk
    intro H locs ls h1 h2 h3 h4 h5 h6
    obtain ⟨⟨q1, q2, q3⟩, hws, ht⟩ := am_here h2 (a := a) (by omega) (by omega) (by omega) (by omega)
    show W _ _ _ _ _ _ _ _ _ _ _ _ _ _ _ (F0 m pc ls (am_t Z v :: am_t Z (.ref a) :: r.map (am_t Z)))
    rw [ht]
    rw [am_cell_o Z hk] at hws
    have hlen : am_len h a = am_Nf i1 := by
      rcases h2.1.2 a (by omega) with ⟨-, -, q | ⟨-, -, q⟩⟩ | ⟨-, -, q⟩
      · omega
      · rw [q, hk, show 10 + i1 - 10 = i1 by omega]
      · omega
    have hD := am_ws_D Z h2.1.1 s.heap.size (h := h)
    -- what the new heap must be
    have fin : ∀ h' : am_H, am_P p l e R s m args below meth c Z mid QF u cs L r h' → h'.1 = h.1 → h'.2.1 = h.2.1 → (∀ b, b ≠ a → am_cell Z h' b = am_cell Z h b) → am_fd Z h' a i1 i2 = am_t Z v → (∀ j, j ≠ i2 → am_fd Z h' a i1 j = am_fd Z h a i1 j) → am_RO Z h' s s.heap → narrow (am_tyf i1 i2) (am_t Z v) = am_t Z v → fits (am_tyf i1 i2) (am_t Z v) = true →
        W p l e R s m args below meth c H locs u.1 u.2 QF (F0 m pc ls (am_t Z v :: .ref (am_aa Z a) :: r.map (am_t Z))) := by
      intro h' hs' e1 e2 e3 e4 e5 e6 e7 e8
      have kk : ∀ (H1 : Heap) (locs1 : List Loc), va_P Z.2.2.2.2 vwCl ((am_ws Z h).set (a - 1) (am_aa Z a, .inr (i1, ((List.range (am_len h a)).map (am_fd Z h a i1)).set i2 (am_t Z v)))) H1 → va_D (am_Ar Z s.heap.size) ((am_ws Z h).set (a - 1) (am_aa Z a, .inr (i1, ((List.range (am_len h a)).map (am_fd Z h a i1)).set i2 (am_t Z v)))) → va_S (am_Ar Z s.heap.size) s.heap H1 locs1 → W p l e R s m args below meth c H1 locs1 u.1 u.2 QF (F0 m (pc + 3) ls (r.map (am_t Z))) := by
        intro H1 locs1 hP1 _ hS1
        refine seq hs' hu1 hu2 H1 locs1 ls h1 (am_St_set h2.1 q1 q2 e1 e2 e3 ?_ hP1) e6 hS1 (am_sd (am_sd h5)) (by rw [e1]; exact h6)
        have hkd : am_kd h' a = 10 + i1 := by unfold am_kd at hk ⊢; rw [e2]; exact hk
        have hln : am_len h' a = am_len h a := by unfold am_len; rw [e2]
        rw [am_cell_o Z hkd, hln, am_flds e4 e5]
      by_cases hf : (am_Tf i1 i2).2.2.2 = true
      · rcases hfin with q | ⟨qo, qn⟩
        · rw [hf] at q; cases q
        · exact va_putF (Ts := Ts) hx hb hts (fun w hw => (hgd w (am_w_lay hc13 w hw)).1) (am_tyf i1) (am_w_ty hc13) (am_w_nm hc13) hown hUS.1 h2.2.2 hD h4 (a - 1) hws (am_w_cl hc13) i2 hN (hAT _ (am_in1_fl (am_h4_of hfl))) (fun _ q => q) hf (hini qn) (by rw [am_w_own hc13 i2 hN, qo]) (am_w_ty hc13 i2 hN) e7 e8 (by simp [hlen, hN]) hdg kk
      · exact va_put (Ts := Ts) hx hb hts (fun w hw => (hgd w (am_w_lay hc13 w hw)).1) (am_tyf i1) (am_w_ty hc13) (am_w_nm hc13) hown hUS.1 h2.2.2 hD h4 (a - 1) hws (am_w_cl hc13) i2 hN (hAT _ (am_in1_fl (am_h4_of hfl))) (fun _ q => q) (by simpa using hf) (am_w_ty hc13 i2 hN) e7 e8 (by simp [hlen, hN]) hdg kk
    have hfo := am_w_ft i1 hc13 i2 hN
    unfold am_fok at hfo
    unfold am_pf at hs
    split at hs
    · -- an int
      obtain ⟨x, rfl, hs⟩ := am_asI_of hs
      rw [hft] at hfo
      have hty : am_tyf i1 i2 = .int := by simpa using hfo
      refine fin _ hs rfl rfl (fun b hb => am_cell_wI_ne Z h hb) ?_ (fun j hj => ?_) (am_RO_I h2.1 q3 h3) (by rw [hty]; rfl) (by rw [hty]; rfl)
      · unfold am_fd; rw [hft]; simp [am_fv, am_wI, am_u, am_t]
      · unfold am_fd am_fv am_wI; simp [am_u, hj]
    · obtain ⟨x, rfl, hs⟩ := am_asI_of hs
      obtain ⟨hx01, hs⟩ := am_g_of hs
      rw [hft] at hfo
      have hty : am_tyf i1 i2 = .boolean := by simpa using hfo
      have hx01 : x = 0 ∨ x = 1 := by simpa [am_bool] using hx01
      refine fin _ hs rfl rfl (fun b hb => am_cell_wI_ne Z h hb) ?_ (fun j hj => ?_) (am_RO_I h2.1 q3 h3) (by rw [hty]; rcases hx01 with rfl | rfl <;> rfl) (by rw [hty]; rcases hx01 with rfl | rfl <;> rfl)
      · unfold am_fd; rw [hft]; simp [am_fv, am_wI, am_u, am_t]
      · unfold am_fd am_fv am_wI; simp [am_u, hj]
    · obtain ⟨b, _, hv, hs⟩ := am_r_of hs
      cases hv
      rw [hft] at hfo
      have hrf : (∃ n, am_tyf i1 i2 = .object n) ∨ ∃ t, am_tyf i1 i2 = .array t := by
        cases hty : am_tyf i1 i2 with
        | object n => exact Or.inl ⟨n, rfl⟩
        | array n => exact Or.inr ⟨n, rfl⟩
        | _ => rw [hty] at hfo; cases hfo
      obtain ⟨f1, f2⟩ := am_fits_ref hrf (v := am_t Z (.ref b)) (am_tr_cases Z hnr b)
      refine fin _ hs rfl rfl (fun b hb => am_cell_wR_ne Z h hb) ?_ (fun j hj => ?_) (am_RO_R h2.1 q3 h3) f1 f2
      · unfold am_fd; rw [hft]
        have e1 : Nat.beq a a = true := Nat.beq_refl a
        have e2 : Nat.beq i2 i2 = true := Nat.beq_refl i2
        simp [am_fv, am_wR, am_uR, e1, e2]
      · have e2 : Nat.beq j i2 = false := am_bne hj
        unfold am_fd am_fv am_wR; simp [am_uR, e2]
    · exact hs.elim
  next => exact hs.elim
end AMH
