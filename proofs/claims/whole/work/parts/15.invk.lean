/-! ===== invocations ===== -/
section AMV
variable {p : Program} {l : Launch} {e : Env} {R : Room} {s : State} {m : MethodId} {args : Array Value} {below : List Frame} {meth : Method} {c : Code}
variable {Z : am_Z} {mid d : Nat} {Q : Value → am_H → Prop} {QF : State → Prop} {Ts : List Cond} {u : Nat × Nat} {L : am_L} {st : List Value} {h : am_H} {cs : List am_W} {pc len i1 i2 i3 i4 k : Nat}
theorem am_nv (hnr : Z.2.2.1 = .null ∨ ∃ a, Z.2.2.1 = .ref a) : Z.2.2.1.category = 1 := by rcases hnr with q | ⟨a, q⟩ <;> rw [q] <;> rfl
theorem am_map_rev (As : List Value) (r : List Value) : (As.reverse ++ r).map (am_t Z) = (As.map (am_t Z)).reverse ++ r.map (am_t Z) := by rw [List.map_append, List.map_reverse]
set_option maxHeartbeats 4000000 in
theorem am_w_ivirt (hCx : am_Cx p s m args meth c Z mid Ts) (hC : am_CallOK l Z d) (hML : ∀ m, m < am_law → (am_tb m).2 ≤ 40) (hRf : d + 1 ≤ R.frames) (hRl : 64 * (d + 1) ≤ R.locals) (hRc : (am_tb mid).1.2.2.1 ≤ R.cells) (hRs : (am_tb mid).1.2.2.2 ≤ R.slots) (hok : am_okR mid (pc, .invokevirtual k, len, i1, i2, i3, i4) = true)
    (seq : am_seqT p l e R s m args below meth c Z mid QF cs (pc + len)) (hs : am_step (am_D d) am_co (am_tb mid).1 Q (am_P p l e R s m args below meth c Z mid QF) u ((pc, .invokevirtual k, len, i1, i2, i3, i4) :: cs) L st h) : am_G p l e R s m args below meth c Z mid QF u L st h pc := by
  obtain ⟨hx, hb, hml, hown, hts, hgd, hrt, hini, hUS, hZs, hnr⟩ := hCx
  have hnv := am_nv hnr
  have hAT : ∀ w ∈ am_AT, w.before args s = true := fun w hw => hts w (hgd w hw).1
  simp only [am_okR, am_okI, Bool.and_eq_true, decide_eq_true_eq, Nat.beq_eq, Bool.or_eq_true] at hok
  obtain ⟨hdg, rfl, hlk, hin, hse, hlt, hcl, hnp, hrk⟩ := hok
  have hlt := am_blt hlt
  dsimp only [am_step] at hs
  obtain ⟨As, r0, rfl, hAn, hs1⟩ := am_arg_of hs
  obtain ⟨a, r, rfl, hs2⟩ := am_r_of hs1
  obtain ⟨hg, hs3⟩ := am_g_of hs2
  simp only [Bool.and_eq_true] at hg
  obtain ⟨hkd, hcat, -, hv1, hv2⟩ := hg
  have hkd := am_beq hkd
  have hcat := Nat.le_of_ble_eq_true hcat
  have hv1 := Nat.le_of_ble_eq_true hv1
  have hv2 := Nat.le_of_ble_eq_true hv2
  intro H locs ls h1 h2 h3 h4 h5 h6
  obtain ⟨h5a, h5r⟩ := am_app h5
  have h5r' := am_sd h5r
  refine am_sizeW fun hszW => ?_
  have hsz : h.1 < 140 → H.size = Z.1 + h.1 := fun hl => by have := h6 hl; have := h2.2.1; omega
  have hM := hC i1 hlt (.ref a :: As) h _ hs3 H.size
  obtain ⟨⟨hpar, hcls, hinn⟩, hmh, -⟩ := am_w_par i1 hlt
  have hAs : am_svs (.ref a :: As) := am_sc rfl (fun v hv => h5a v (List.mem_reverse.mpr hv))
  have rcv : ∃ b : Nat, am_t Z (.ref a) = .ref b ∧ ∃ cell : Cell, H[b]? = some cell ∧ cell.vm.isStatics = false ∧ s.vm.findClass (am_y i1).cls = some cell.cls := by
    rcases hcl with ⟨e1, e2⟩ | ⟨e1, e2⟩
    · have e2 := am_blt e2
      obtain ⟨-, hws, ht⟩ := am_here h2 (a := a) (by omega) (by omega) (by omega) (by omega)
      rw [am_cell_o Z hkd] at hws
      refine ⟨_, ht, ?_⟩
      have := va_recv hUS.1 h2.2.2 (am_w_cl e2) hws
      rw [hcls, ← e1]
      exact this
    · rw [e1] at hkd
      refine ⟨_, am_there h2.1 (Or.inr (Or.inr hkd)), ?_⟩
      obtain ⟨cell, g1, g2, g3, -⟩ := ((h3.2.2.1 a hkd).2.1.narrow (fun _ => am_B_of hZs)).kept h4.2.1
      rw [hcls, e2]
      exact ⟨cell, g1, g2, g3⟩
  obtain ⟨b, hb1, hrc⟩ := rcv
  rw [am_map_rev]
  simp only [List.map_cons, hb1]
  refine am_after (i4 := i4) (r := r) (K := _) hZs hrk rfl (va_runV (As := As.map (am_t Z)) (rest := r.map (am_t Z)) (Ts := Ts) ⟨hx, hb, hml, hown, hts⟩ hM
    (cwV (am_np i1) hts (am_gd hgd (ws := wsV (am_on (am_ow mid)) k (am_y i1).cls (am_y i1) (am_wds i1)) ?_) rfl rfl rfl ⟨rfl, hmh.1, hmh.2, hpar⟩ (am_room (hML i1 hlt) hRf hRl))
    ⟨am_Pre_blind Z h H.size _, hrc, fun U hU hW => ?_⟩ rfl (by rw [List.length_map, hAn, hnp]) h1.2.1 rfl (lv_room (by rw [am_cat_map hnv h5r']; exact hcat)) hdg ⟨Nat.le_trans hv1 hRc, Nat.le_trans hv2 hRs⟩) h4 hsz h6 (fun v h' hK H1 locs1 g1 g2 g3 g4 g5 => am_cont seq h1 h5r' hv1 hv2 v h' hK H1 locs1 g1 g2 g3 g4 g5)
  · intro w hw
    rcases List.mem_append.mp hw with q | q
    · simp only [List.mem_cons, List.not_mem_nil, or_false] at q
      rcases q with rfl | rfl | rfl | rfl
      · exact am_in1_ml (am_h3_of hlk)
      · exact am_in1_im (am_h1_of hin)
      · exact am_in1_se (am_h1_of hse)
      · exact am_in1_in hlt
    · exact am_wds_in hlt w q
  · have := am_pre_at (As := .ref a :: As) hUS hZs h2 h3 h4 hsz hAs U hU hW
    simp only [List.map_cons, hb1] at this
    exact this
theorem am_f900_of {As : List Value} {h : am_H} {K : Value → am_H → Prop} (hs : am_f900 As h K) : K .null h := by
  unfold am_f900 at hs
  split at hs
  · exact hs
  · exact hs.elim
set_option maxHeartbeats 4000000 in
theorem am_w_ispec (hCx : am_Cx p s m args meth c Z mid Ts) (hC : am_CallOK l Z d) (hML : ∀ m, m < am_law → (am_tb m).2 ≤ 40) (hRf : d + 1 ≤ R.frames) (hRl : 64 * (d + 1) ≤ R.locals) (hRc : (am_tb mid).1.2.2.1 ≤ R.cells) (hRs : (am_tb mid).1.2.2.2 ≤ R.slots) (hok : am_okR mid (pc, .invokespecial k, len, i1, i2, i3, i4) = true)
    (seq : am_seqT p l e R s m args below meth c Z mid QF cs (pc + len)) (hs : am_step (am_D d) am_co (am_tb mid).1 Q (am_P p l e R s m args below meth c Z mid QF) u ((pc, .invokespecial k, len, i1, i2, i3, i4) :: cs) L st h) : am_G p l e R s m args below meth c Z mid QF u L st h pc := by
  obtain ⟨hx, hb, hml, hown, hts, hgd, hrt, hini, hUS, hZs, hnr⟩ := hCx
  have hnv := am_nv hnr
  have hAT : ∀ w ∈ am_AT, w.before args s = true := fun w hw => hts w (hgd w hw).1
  simp only [am_okR, am_okI, Bool.and_eq_true, decide_eq_true_eq, Nat.beq_eq] at hok
  obtain ⟨hdg, rfl, hok⟩ := hok
  dsimp only [am_step] at hs
  obtain ⟨As, r0, rfl, hAn, hs1⟩ := am_arg_of hs
  obtain ⟨a, r, rfl, hs2⟩ := am_r_of hs1
  obtain ⟨hg, hs3⟩ := am_g_of hs2
  simp only [Bool.and_eq_true] at hg
  obtain ⟨hkd, hcat, -, hv1, hv2⟩ := hg
  have hkd := am_beq hkd
  have hcat := Nat.le_of_ble_eq_true hcat
  have hv1 := Nat.le_of_ble_eq_true hv1
  have hv2 := Nat.le_of_ble_eq_true hv2
  intro H locs ls h1 h2 h3 h4 h5 h6
  obtain ⟨h5a, h5r⟩ := am_app h5
  have h5r' := am_sd h5r
  rw [am_map_rev]
  cases hb9 : Nat.beq i1 900 with
  | true =>
    rw [hb9] at hok
    have e9 := am_beq hb9
    subst e9
    simp only [cond_true, Bool.and_eq_true, Nat.beq_eq] at hok
    obtain ⟨hlk, h20, h40, h3o⟩ := hok
    subst h20; subst h40
    have hAs : As = [] := List.length_eq_zero_iff.mp hAn
    subst hAs
    have hK : am_P p l e R s m args below meth c Z mid QF (u.1 + (am_co 900).1, u.2 + (am_co 900).2) cs L r h := by
      cases d with
      | zero => exact hs3.elim
      | succ d =>
        rw [am_D_900] at hs3
        exact am_f900_of hs3
    have how : am_ow mid < 13 ∨ ¬ am_ow mid < 13 := Nat.lt_or_ge _ _ |>.imp id Nat.not_lt.mpr
    have hkk : am_kd h a ≠ 0 ∧ am_kd h a ≠ 5 ∧ am_kd h a ≠ 7 := by omega
    have hb1 : ∃ b : Nat, am_t Z (.ref a) = .ref b := by
      by_cases q : am_kd h a = 60
      · exact ⟨_, am_there h2.1 (Or.inr (Or.inr q))⟩
      · exact ⟨_, (am_here h2 hkk.1 hkk.2.1 hkk.2.2 q).2.2⟩
    obtain ⟨b, hb1⟩ := hb1
    simp only [List.map_nil, List.reverse_nil, List.nil_append, List.map_cons, hb1]
    refine W.objInit hx hb hown (hAT _ (am_in1_ml (am_h3_of hlk))) (hAT _ (am_in_ex (List.mem_of_getElem? (i := 9) rfl))) (hAT _ (am_in_ex (List.mem_of_getElem? (i := 10) rfl))) rfl (h1.2.1.trans hml.symm) rfl hdg (by omega) ?_ ?_
    · have := lv_room (m := m) (pc := pc) (ls := ls) (rest := am_t Z (.ref a) :: r.map (am_t Z)) (st := r.map (am_t Z)) (by rw [am_cat_map hnv h5r']; exact hcat)
      rw [hb1] at this
      omega
    · exact seq hK hv1 hv2 H locs ls h1 h2 h3 h4 h5r' h6
  | false =>
    rw [hb9] at hok
    simp only [cond_false, Bool.and_eq_true, Bool.or_eq_true, Nat.beq_eq, decide_eq_true_eq] at hok
    obtain ⟨hlk, hin, hlt, h3o, h313, hnp, h40, hrk0, hnm⟩ := hok
    have hlt := am_blt hlt
    have h313 := am_blt h313
    refine am_sizeW fun hszW => ?_
    have hsz : h.1 < 140 → H.size = Z.1 + h.1 := fun hl => by have := h6 hl; have := h2.2.1; omega
    have hM := hC i1 hlt (.ref a :: As) h _ hs3 H.size
    obtain ⟨⟨hpar, hcls, hinn⟩, hmh, -⟩ := am_w_par i1 hlt
    have hAs : am_svs (.ref a :: As) := am_sc rfl (fun v hv => h5a v (List.mem_reverse.mpr hv))
    obtain ⟨-, -, hb1⟩ := am_here h2 (a := a) (by omega) (by omega) (by omega) (by omega)
    simp only [List.map_cons, hb1]
    have hrt0 := am_rk0 hrk0
    have hw0 : am_wds i1 = Cond.code (am_y i1) (am_bc i1) (am_tb i1).2 none :: am_AT := by unfold am_wds; rw [hrt0]
    have hpre : ∀ U : State, U.heap = H → s.WarmedH U.vm → am_Pre Z h H.size (.ref a :: As) (Value.ref (am_aa Z a) :: As.map (am_t Z)).toArray U := fun U hU hW => by
      have := am_pre_at (As := .ref a :: As) hUS hZs h2 h3 h4 hsz hAs U hU hW
      simp only [List.map_cons, hb1] at this
      exact this
    rcases hlk with hlk | hlk
    · exact am_after (i4 := i4) (r := r) (K := _) hZs (by rw [h40, hrk0]) rfl (va_runI (As := As.map (am_t Z)) (rest := r.map (am_t Z)) (Ts := Ts) ⟨hx, hb, hml, hown, hts⟩ hM
        (cwI (am_np i1) hts (am_gd hgd (am_wds_in hlt)) hw0 rfl rfl (hAT _ (am_in1_in hlt)) (hAT _ (am_in1_ml (am_h3_of hlk))) (hAT _ (am_in1_im (am_h1_of hin))) hnm ⟨hmh.1, hmh.2, hpar⟩ (am_room (hML i1 hlt) hRf hRl))
        ⟨am_Pre_blind Z h H.size _, hpre⟩ rfl (by rw [List.length_map, hAn, hnp]) h1.2.1 rfl (lv_room (by rw [am_cat_map hnv h5r']; exact hcat)) hdg ⟨Nat.le_trans hv1 hRc, Nat.le_trans hv2 hRs⟩) h4 hsz h6 (fun v h' hK H1 locs1 g1 g2 g3 g4 g5 => am_cont seq h1 h5r' hv1 hv2 v h' hK H1 locs1 g1 g2 g3 g4 g5)
    · exact am_after (i4 := i4) (r := r) (K := _) hZs (by rw [h40, hrk0]) rfl (va_runIN (As := As.map (am_t Z)) (rest := r.map (am_t Z)) (Ts := Ts) (host := "SleepPost") ⟨hx, hb, hml, hown, hts⟩ hM
        ⟨va_cnB (am_np i1) hts (am_gd hgd (am_wds_in hlt)) hw0 rfl rfl (hUS.2.1 _ (am_h3_of hlk)) (hAT _ (am_in1_in hlt)) ⟨hmh.1, hmh.2, hpar⟩ (am_room (hML i1 hlt) hRf hRl), hnm, hAT _ (am_in1_im (am_h1_of hin))⟩
        ⟨am_Pre_blind Z h H.size _, hpre⟩ rfl (by rw [List.length_map, hAn, hnp]) h1.2.1 rfl (lv_room (by rw [am_cat_map hnv h5r']; exact hcat)) hdg ⟨Nat.le_trans hv1 hRc, Nat.le_trans hv2 hRs⟩) h4 hsz h6 (fun v h' hK H1 locs1 g1 g2 g3 g4 g5 => am_cont seq h1 h5r' hv1 hv2 v h' hK H1 locs1 g1 g2 g3 g4 g5)
theorem am_cell_cy_ne (Z : am_Z) (h : am_H) {a sp b dp n x : Nat} (e : x ≠ b) : am_cell Z (h.1, h.2.1, am_cyI h.2.2.1 a sp b dp n, h.2.2.2.1, h.2.2.2.2) x = am_cell Z h x := by
  have hI : am_cyI h.2.2.1 a sp b dp n x = h.2.2.1 x := by funext j; simp [am_cyI, e]
  have hf : ∀ ci, am_fd Z (h.1, h.2.1, am_cyI h.2.2.1 a sp b dp n, h.2.2.2.1, h.2.2.2.2) x ci = am_fd Z h x ci := by
    intro ci; funext j
    unfold am_fd am_fv
    simp only [hI]
  simp only [am_cell, hf]
  simp only [am_kd, am_len, hI]
  rfl
theorem am_f901_of {As : List Value} {h : am_H} {K : Value → am_H → Prop} (hs : am_f901 As h K) : ∃ a sp b dp n, As = [.ref a, .int sp, .ref b, .int dp, .int n] ∧ am_g (Nat.beq (am_kd h a) 1 && (Nat.beq (am_kd h b) 1 && (!(decide (sp < 0)) && (!(decide (dp < 0)) && (!(decide (n < 0)) && (Nat.ble (sp.toNatClampNeg + n.toNatClampNeg) (am_len h a) && Nat.ble (dp.toNatClampNeg + n.toNatClampNeg) (am_len h b)))))))
        (K .null (h.1, h.2.1, am_cyI h.2.2.1 a sp.toNatClampNeg b dp.toNatClampNeg n.toNatClampNeg, h.2.2.2.1, h.2.2.2.2)) := by
  unfold am_f901 at hs
  split at hs
  · exact ⟨_, _, _, _, _, rfl, hs⟩
  · exact hs.elim
set_option maxHeartbeats 4000000 in
theorem am_w_istat (hCx : am_Cx p s m args meth c Z mid Ts) (hC : am_CallOK l Z d) (hML : ∀ m, m < am_law → (am_tb m).2 ≤ 40) (hRf : d + 1 ≤ R.frames) (hRl : 64 * (d + 1) ≤ R.locals) (hRc : (am_tb mid).1.2.2.1 ≤ R.cells) (hRs : (am_tb mid).1.2.2.2 ≤ R.slots) (hok : am_okR mid (pc, .invokestatic k, len, i1, i2, i3, i4) = true)
    (seq : am_seqT p l e R s m args below meth c Z mid QF cs (pc + len)) (hu1 : u.1 ≤ (am_tb mid).1.2.2.1) (hu2 : u.2 ≤ (am_tb mid).1.2.2.2) (hs : am_step (am_D d) am_co (am_tb mid).1 Q (am_P p l e R s m args below meth c Z mid QF) u ((pc, .invokestatic k, len, i1, i2, i3, i4) :: cs) L st h)
    (h905 : i1 = 905 → am_G p l e R s m args below meth c Z mid QF u L st h pc) : am_G p l e R s m args below meth c Z mid QF u L st h pc := by
  by_cases e905 : i1 = 905
  · exact h905 e905
  obtain ⟨hx, hb, hml, hown, hts, hgd, hrt, hini, hUS, hZs, hnr⟩ := hCx
  have hnv := am_nv hnr
  have hAT : ∀ w ∈ am_AT, w.before args s = true := fun w hw => hts w (hgd w hw).1
  simp only [am_okR, am_okI, Bool.and_eq_true, decide_eq_true_eq, Nat.beq_eq] at hok
  obtain ⟨hdg, rfl, hok⟩ := hok
  dsimp only [am_step] at hs
  obtain ⟨As, r, rfl, hAn, hs1⟩ := am_arg_of hs
  obtain ⟨hg, hs3⟩ := am_g_of hs1
  simp only [Bool.and_eq_true] at hg
  obtain ⟨hcat, -, hv1, hv2⟩ := hg
  have hcat := Nat.le_of_ble_eq_true hcat
  have hv1 := Nat.le_of_ble_eq_true hv1
  have hv2 := Nat.le_of_ble_eq_true hv2
  intro H locs ls h1 h2 h3 h4 h5 h6
  obtain ⟨h5a, h5r⟩ := am_app h5
  have hAs : am_svs As := fun v hv => h5a v (List.mem_reverse.mpr hv)
  cases hb9 : Nat.beq i1 901 with
  | true =>
    rw [hb9] at hok
    have e9 := am_beq hb9
    subst e9
    simp only [cond_true, Bool.and_eq_true, Nat.beq_eq] at hok
    obtain ⟨hlk, h25, h40⟩ := hok
    subst h40
    cases d with
    | zero => exact hs3.elim
    | succ d =>
      rw [am_D_901] at hs3
      obtain ⟨a, sp, b, dp, n, rfl, hs5⟩ := am_f901_of hs3
      · obtain ⟨hg, hK⟩ := am_g_of hs5
        simp only [Bool.and_eq_true, Bool.not_eq_true', decide_eq_false_iff_not] at hg
        obtain ⟨ka, kb, n1, n2, n3, n4, n5⟩ := hg
        have ka := am_beq ka
        have kb := am_beq kb
        have n4 := Nat.le_of_ble_eq_true n4
        have n5 := Nat.le_of_ble_eq_true n5
        obtain ⟨-, hwa, hta⟩ := am_here h2 (a := a) (by omega) (by omega) (by omega) (by omega)
        obtain ⟨⟨q1, q2, q3⟩, hwb, htb⟩ := am_here h2 (a := b) (by omega) (by omega) (by omega) (by omega)
        rw [am_cell_1 Z ka] at hwa
        rw [am_cell_1 Z kb] at hwb
        show W _ _ _ _ _ _ _ _ _ _ _ _ _ _ _ (F0 m pc ls (.int n :: .int dp :: am_t Z (.ref b) :: .int sp :: am_t Z (.ref a) :: r.map (am_t Z)))
        rw [hta, htb]
        refine va_copyi hx hb (hml.trans h1.2.1.symm) hown (hAT _ (am_in1_ml (am_h3_of hlk))) (hAT _ (am_in_ex (List.mem_of_getElem? (i := 6) rfl))) (hAT _ (am_in_ex (List.mem_of_getElem? (i := 7) rfl))) (hAT _ (am_in_ex (List.mem_of_getElem? (i := 8) rfl))) hUS.1 h2.2.2 (am_ws_D Z h2.1.1 s.heap.size) h4 (a - 1) (b - 1) 0 0 hwa hwb rfl rfl rfl n1 n2 n3 n4 n5 (fun _ _ => rfl) (by omega) ?_ hdg fun H1 locs1 hP1 _ hS1 => ?_
        · rw [am_cat_map hnv h5r]
          have : nativeFrameWords "java/lang/System" "arraycopy" 5 = 7 := by decide +kernel
          omega
        · refine seq hK hv1 hv2 H1 locs1 ls h1 (am_St_set (h := h) h2.1 q1 q2 rfl rfl (fun x hx => am_cell_cy_ne Z h hx) ?_ hP1) ?_ hS1 h5r h6
          · rw [am_cell_1 Z (h := (h.1, h.2.1, am_cyI h.2.2.1 a sp.toNatClampNeg b dp.toNatClampNeg n.toNatClampNeg, h.2.2.2.1, h.2.2.2.2)) kb]
            have : am_cyI h.2.2.1 a sp.toNatClampNeg b dp.toNatClampNeg n.toNatClampNeg b = va_cpy (h.2.2.1 a) (h.2.2.1 b) sp.toNatClampNeg dp.toNatClampNeg n.toNatClampNeg := by
              funext j; simp [am_cyI, va_cpy]
            simp only [this]
            rfl
          · refine am_RO_same (h := h) (fun _ _ => rfl) (fun x ex => (am_wf_ro (h := h) h2.1 ex).1) (fun x j hx => ?_) (fun _ _ _ => rfl) h3
            have : ¬ x = b := by omega
            simp [am_cyI, this]
  | false =>
    have hb5 : Nat.beq i1 905 = false := am_bne e905
    rw [hb9, hb5] at hok
    simp only [cond_false, Bool.and_eq_true, Bool.or_eq_true, Nat.beq_eq] at hok
    obtain ⟨hlk, hst, hlt, hnp, hrk⟩ := hok
    have hlt := am_blt hlt
    refine am_sizeW fun hszW => ?_
    have hsz : h.1 < 140 → H.size = Z.1 + h.1 := fun hl => by have := h6 hl; have := h2.2.1; omega
    have hM := hC i1 hlt As h _ hs3 H.size
    obtain ⟨⟨hpar, hcls, hinn⟩, hmh, -⟩ := am_w_par i1 hlt
    rw [am_map_rev]
    have hpre : ∀ U : State, U.heap = H → s.WarmedH U.vm → am_Pre Z h H.size As (As.map (am_t Z)).toArray U := fun U hU hW => am_pre_at hUS hZs h2 h3 h4 hsz hAs U hU hW
    rcases hlk with hlk | hlk
    · refine am_after (i4 := i4) (r := r) (K := _) hZs hrk rfl (va_runS (As := As.map (am_t Z)) (rest := r.map (am_t Z)) (Ts := Ts) ⟨hx, hb, hml, hown, hts⟩ hM
        (va_cwS (am_np i1) hts (am_gd hgd (ws := va_wsS (am_on (am_ow mid)) k (am_y i1) (am_wds i1)) ?_) rfl rfl rfl ⟨hmh.1, hmh.2, hpar⟩ (am_room (hML i1 hlt) hRf hRl))
        ⟨am_Pre_blind Z h H.size _, hpre⟩ rfl (by rw [List.length_map, hAn, hnp]) h1.2.1 rfl (lv_room (by rw [am_cat_map hnv h5r]; exact hcat)) hdg ⟨Nat.le_trans hv1 hRc, Nat.le_trans hv2 hRs⟩) h4 hsz h6 (fun v h' hK H1 locs1 g1 g2 g3 g4 g5 => am_cont seq h1 h5r hv1 hv2 v h' hK H1 locs1 g1 g2 g3 g4 g5)
      intro w hw
      rcases List.mem_append.mp hw with q | q
      · simp only [List.mem_cons, List.not_mem_nil, or_false] at q
        rcases q with rfl | rfl | rfl
        · exact am_in1_ml (am_h3_of hlk)
        · exact am_in1_st (am_h1_of hst)
        · exact am_in1_in hlt
      · exact am_wds_in hlt w q
    · exact am_after (i4 := i4) (r := r) (K := _) hZs hrk rfl (va_runSN (As := As.map (am_t Z)) (rest := r.map (am_t Z)) (Ts := Ts) (host := "SleepPost") ⟨hx, hb, hml, hown, hts⟩ hM
        ⟨va_cnB (am_np i1) hts (am_gd hgd (am_wds_in hlt)) rfl rfl rfl (hUS.2.1 _ (am_h3_of hlk)) (hAT _ (am_in1_in hlt)) ⟨hmh.1, hmh.2, hpar⟩ (am_room (hML i1 hlt) hRf hRl), hAT _ (am_in1_st (am_h1_of hst)), trivial⟩
        ⟨am_Pre_blind Z h H.size _, hpre⟩ rfl (by rw [List.length_map, hAn, hnp]) h1.2.1 rfl (lv_room (by rw [am_cat_map hnv h5r]; exact hcat)) hdg ⟨Nat.le_trans hv1 hRc, Nat.le_trans hv2 hRs⟩) h4 hsz h6 (fun v h' hK H1 locs1 g1 g2 g3 g4 g5 => am_cont seq h1 h5r hv1 hv2 v h' hK H1 locs1 g1 g2 g3 g4 g5)
end AMV
