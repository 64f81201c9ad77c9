/-! ===== 905: the law's own look, which catches what SleepPost's throws ===== -/
section LK9
def lk_hh : List (Nat × Nat × Nat × Nat) := [(0, 10, 13, 13), (0, 10, 17, 15)]
def lk_W9 : List Cond := [.classLink "SleepPostLaw" 13 lk_I, .classLink "SleepPostLaw" 15 lk_N, .methodLink "SleepPostLaw" 7 (am_y 119), .instanceMethod (am_y 119), .selects (am_y 119).cls (am_y 119) (am_y 119), .initialized "SleepPost"]
def lk_c9 : Cond := .codeWith (am_y 905) method_3_code 5 (some .int) lk_hh
def lk_ws9 : List Cond := lk_c9 :: (lk_W9 ++ (am_AT ++ lk_G))
def lk_V9 : List Cond := [.static (am_y 905), .initialized "SleepPostLaw"] ++ lk_W9
theorem lk_P9 : lk_V9 = [1435, 125, 1437, 1438, 1439, 1440, 1441, 126].filterMap (fun i => lw_tbl[i]?) := by decide +kernel
theorem lk_G9 : lk_V9.all goodWord = true := by decide +kernel
theorem lk_good9 : GoodIn lw_tbl lk_V9 := goodIn_r lk_V9 _ lk_P9 lk_G9
theorem lk_Pc9 : [lk_c9] = [1436].filterMap (fun i => lw_tbl[i]?) := by decide +kernel
theorem lk_goodc : GoodIn lw_tbl [lk_c9] := goodIn_r [lk_c9] _ lk_Pc9 (by decide +kernel)
theorem lk_gd9 : ∀ w ∈ lk_W9, goodWord w = true := fun w hw => List.all_eq_true.mp lk_G9 w (List.mem_append_right _ hw)
def lk_rm9 (n : Nat) : Room := { frames := n, cells := 8, slots := 64, locals := 64 * n }
set_option maxHeartbeats 8000000 in
set_option maxRecDepth 100000 in
theorem lk_met9 (hokA : ∀ m, m < am_law → am_okM m = true) {l : Launch} (hl : l.stackTraces = false) {Z : am_Z} (hnr : Z.2.2.1 = .null ∨ ∃ a, Z.2.2.1 = .ref a) {n x o sa1 sa2 : Nat} {a b : Int32} {h : am_H} {K : Value → am_H → Prop}
    (hkd : am_kd h x = 21) (hkd2 : am_kd h (h.2.2.2.2 x 2) = 18) (ho : am_kd h o = 2) (hol : 1 ≤ am_len h o) (h140 : h.1 = 140)
    (hc : am_if (decide (0 ≤ a) && decide (a < h.2.2.1 (h.2.2.2.2 x 2) 2)) (am_if (decide (0 ≤ b) && decide (b ≤ 5)) (am_D (n + 6) 119 [.ref x, .int a, .int b] h (fun v h => am_asI v (fun y => K (.int 0) (am_wJ h o 0 y.toInt64)))) (K (.int 2) h)) (K (.int 1) h)) (sz : Nat) :
    Met l (am_y 905) lk_ws9 (lk_rm9 (n + 7)) (lk_Pre Z h sz [.ref x, .int a, .int b, .ref o] sa1 sa2) (am_Post Z h 905 sz K) 8 64 (am_Ar Z sz) := by
  have hnv := am_nv hnr
  have hrk : am_rkc 119 = 1 := by decide +kernel
  have hrk9 : am_rkc 905 = 1 := by decide +kernel
  have hc' : am_D (n + 6) 119 [.ref x, .int a, .int b] h (fun v h' => am_asI v (fun y => K (.int 0) (am_wJ h' o 0 y.toInt64)) ∧ am_st4 h h') ∨ (¬ lk_ok h x a ∧ K (.int 1) h) ∨ (lk_ok h x a ∧ ¬ (decide (0 ≤ b) && decide (b ≤ 5)) = true ∧ K (.int 2) h) := by
    obtain ⟨c1, c2⟩ := am_if_of hc
    cases ea : (decide (0 ≤ a) && decide (a < h.2.2.1 (h.2.2.2.2 x 2) 2)) with
    | false =>
      refine Or.inr (Or.inl ⟨fun q => ?_, c2 ea⟩)
      unfold lk_ok at q
      rw [ea] at q
      cases q
    | true =>
      obtain ⟨c3, c4⟩ := am_if_of (c1 ea)
      cases eb : (decide (0 ≤ b) && decide (b ≤ 5)) with
      | false => exact Or.inr (Or.inr ⟨ea, fun q => (by cases q), c4 eb⟩)
      | true => exact Or.inl (am_D_st4 _ _ _ _ _ (c3 eb))
  refine va_MetW (hh := lk_hh) (cc := method_3_code) (maxL := 5) (ret := some .int) (by decide +kernel) rfl ?_
  intro p e s m args below meth c s₁ B hml hv
  obtain ⟨⟨hargs, hsz, hSt, hUS, hRO, hZ, hszh, hsv⟩, hV, hH⟩ := hv
  subst hargs
  subst hsz
  have hx := B.exec
  have hb := B.bytes
  have hr := B.returns
  have hts0 := atoms_spec (ws := lk_ws9) B.pre
  have htab := vx_table (x := am_y 905) B (hts0 lk_c9 List.mem_cons_self)
  have hlocks := B.notSynchronized
  have hown : s.vm.findClass "SleepPostLaw" = some m.cls := findClass_of_methodNamed B.named
  obtain ⟨-, hwx, htx⟩ := am_here hSt (a := x) (by omega) (by omega) (by omega) (by omega)
  obtain ⟨-, -, hto⟩ := am_here hSt (a := o) (by omega) (by omega) (by omega) (by omega)
  rw [am_cell_o Z (ci := 11) hkd] at hwx
  have hrcv := va_recv hUS.1 hSt.2.2 (am_w_cl (show 11 < 13 by decide)) hwx
  have hmap : ([.ref x, .int a, .int b, .ref o] : List Value).map (am_t Z) = [.ref (am_aa Z x), .int a, .int b, .ref (am_aa Z o)] := by
    simp only [List.map_cons, List.map_nil, htx, hto]
    rfl
  have hAs : am_svs [.ref x, .int a, .int b] := fun v hv => hsv v (by
    simp only [List.mem_cons, List.not_mem_nil, or_false] at hv ⊢
    rcases hv with rfl | rfl | rfl <;> simp)
  rw [lg_entry_eq]
  have hle := lv_entry (([.ref x, .int a, .int b, .ref o] : List Value).map (am_t Z)) (n := 5) (by rw [am_sl_len hnv _ hsv]; show 4 ≤ 5; omega)
  generalize (lg_sl (([.ref x, .int a, .int b, .ref o] : List Value).map (am_t Z)) ++ List.replicate (5 - (lg_sl (([.ref x, .int a, .int b, .ref o] : List Value).map (am_t Z))).length) Slot.unset).toArray = ls at hle ⊢
  rw [hmap] at hle
  have g0 : ls[0]? = some (.val (.ref (am_aa Z x))) := hle.2.2 (0, .ref (am_aa Z x)) (by simp [lv_args, Value.category])
  have g1 : ls[1]? = some (.val (.int a)) := hle.2.2 (1, .int a) (by simp [lv_args, Value.category])
  have g2 : ls[2]? = some (.val (.int b)) := hle.2.2 (2, .int b) (by simp [lv_args, Value.category])
  have g3 : ls[3]? = some (.val (.ref (am_aa Z o))) := hle.2.2 (3, .ref (am_aa Z o)) (by simp [lv_args, Value.category])
  have hM := lk_met hokA hl hnr (n := n) (sa1 := sa1) (sa2 := sa2) hkd hkd2 h140 hc' s.heap.size
  have hGI : GoodIn lk_ws9 (wsV "SleepPostLaw" 7 "SleepPost" (am_y 119) lk_ws) := by
    intro w hw
    rcases List.mem_append.mp hw with q | q
    · have hm : w ∈ lk_W9 := by
        simp only [List.mem_cons, List.not_mem_nil, or_false] at q
        rcases q with rfl | rfl | rfl | rfl
        · exact List.mem_of_getElem? (i := 2) rfl
        · exact List.mem_of_getElem? (i := 3) rfl
        · exact List.mem_of_getElem? (i := 4) rfl
        · exact List.mem_of_getElem? (i := 5) rfl
      exact ⟨List.mem_cons_of_mem _ (List.mem_append_left _ hm), good_of_word (lk_gd9 w hm)⟩
    · rcases List.mem_cons.mp q with e9 | q
      · rw [e9]
        have hm := am_w_code (m := 119) (by decide)
        exact ⟨List.mem_cons_of_mem _ (List.mem_append_right _ (List.mem_append_left _ hm)), good_of_word (List.all_eq_true.mp am_GT _ hm)⟩
      · rcases List.mem_append.mp q with q | q
        · exact ⟨List.mem_cons_of_mem _ (List.mem_append_right _ (List.mem_append_left _ q)), good_of_word (List.all_eq_true.mp am_GT _ q)⟩
        · exact ⟨List.mem_cons_of_mem _ (List.mem_append_right _ (List.mem_append_right _ q)), good_of_word (List.all_eq_true.mp lk_GG _ q)⟩
  obtain ⟨⟨hpar, -, -⟩, hmh, -⟩ := am_w_par 119 (by decide)
  -- its end
  have fin : ∀ (v : Int32) (h' : am_H) (H : Heap) (locs : List Loc) (lz : Array Slot) (pc : Nat), K (.int v) h' → am_St Z h' H → am_RO Z h' s s.heap → va_S (am_Ar Z s.heap.size) s.heap H locs → h'.1 = 140 → decode method_3_code pc = .ok (.ireturn, 1) →
      W p l e (headSpec lk_ws9 (lk_rm9 (n + 7))).room s m (([.ref x, .int a, .int b, .ref o] : List Value).map (am_t Z)).toArray below meth c H locs (0 + 1) (0 + 6) (MQ below (am_Post Z h 905 s.heap.size K) (([.ref x, .int a, .int b, .ref o] : List Value).map (am_t Z)).toArray s 8 64 (am_Ar Z s.heap.size)) (F0 m pc lz [.int v]) := by
    intro v h' H locs lz pc hK q1 q2 q3 q4 hdg
    refine W.widen (k := 8) (n := 64) (by omega) (by omega) (W.iret hx hb hr (fun t ht hW => ?_) q3.2.2 hdg (hlocks := hlocks))
    unfold am_Post
    rw [hrk9]
    exact ⟨⟨v, h', rfl, hK, by rw [ht]; exact q1, am_RO_move hW.alike (fun q hq => by rw [ht]; exact am_low q3 hZ hq) q2, by omega, fun q => by omega⟩, q3.F ht⟩
  refine lv_aload_n hx hb (k := 3) (by decide +kernel) rfl g3 ?_
  refine lv_iconst hx hb (n := 0) (v := 0) (by decide +kernel) rfl ?_
  refine lv_aload_n hx hb (k := 0) (by decide +kernel) rfl g0 ?_
  refine lv_iload_n hx hb (k := 1) (by decide +kernel) rfl g1 ?_
  refine lv_iload_n hx hb (k := 2) (by decide +kernel) rfl g2 ?_
  have hrun := vx_runV (p := p) (e := e) (below := below) (meth := meth) (H := s.heap) (locs := []) (cells := 0) (slots := 0) (As := [.int a, .int b]) (rest := [.int 0, .ref (am_aa Z o)]) (b := am_aa Z x) (Ts := lk_ws9) (own := "SleepPostLaw") (C := "SleepPost") (index := 7)
    (g := F0 m 5 ls [.int b, .int a, .ref (am_aa Z x), .int 0, .ref (am_aa Z o)]) ⟨hx, hb, hml, hown, hts0⟩ hM
    (cwV (R := (headSpec lk_ws9 (lk_rm9 (n + 7))).room) 2 hts0 hGI rfl rfl rfl ⟨by decide +kernel, hmh.1, hmh.2, by decide +kernel⟩ ⟨by show n + 6 + 1 ≤ n + 7; omega, by show 8 + ((am_tb 119).2 + 11) + 64 * (n + 6) ≤ 64 * (n + 7); rw [show (am_tb 119).2 = 3 by decide +kernel]; omega⟩)
    ⟨lk_Pre_blind Z h s.heap.size _ sa1 sa2, hrcv, fun U hU hW => by
      have := am_pre_at (As := [.ref x, .int a, .int b]) hUS hZ hSt hRO va_S.rf hszh hAs U hU hW
      simp only [List.map_cons, List.map_nil, htx] at this
      exact ⟨this, lk_V.warm hW hV, lk_H.move hW.alike (fun q _ => by rw [hU]) hH⟩⟩ rfl rfl hle.1 rfl (lv_room (by show 1 + (1 + 0) ≤ 8; omega)) (show decode method_3_code 5 = .ok (.invokevirtual 7, 3) by decide +kernel) ⟨by show 0 + 1 ≤ 8; omega, by show 0 + 6 ≤ 64; omega⟩
  unfold am_Post at hrun
  rw [hrk] at hrun
  refine vx_calli (A0 := am_Ar Z s.heap.size) (H0 := s.heap) hrun va_S.rf (fun q _ k => k) (fun q k => k) (fun q _ k => k) ?_ ?_
  · intro E ce q9 u9 t H1 locs1 ht hal _ hBX hz hkeep hS1 hce hcv hcl
    obtain ⟨hE, hB1, hB2, -, -⟩ := hBX
    rw [ht] at hB1
    rcases hE with ⟨rfl, k1⟩ | ⟨rfl, k2⟩
    · refine vx_catch (own := "SleepPostLaw") (name := lk_I) hown [] ⟨0, 10, 13, 13⟩ [⟨0, 10, 17, 15⟩] (by rw [htab]; rfl) (fun z hz => by cases hz) (by decide +kernel) (by decide) (hts0 _ (List.mem_cons_of_mem _ (List.mem_append_left _ (List.mem_of_getElem? (i := 0) rfl)))) (va_Nw.use rfl hV.1.1) hce hcv hcl ?_
      refine lv_astore hx hb (i := 4) (nL := 5) (by decide +kernel) hle (by decide) rfl (fun ls2 _ => ?_)
      refine lv_iconst hx hb (n := 1) (v := 1) (by decide +kernel) rfl ?_
      exact fin 1 h H1 locs1 ls2 16 k1 hB1 hRO hS1 h140 (by decide +kernel)
    · refine vx_catch (own := "SleepPostLaw") (name := lk_N) hown [⟨0, 10, 13, 13⟩] ⟨0, 10, 17, 15⟩ [] (by rw [htab]; rfl) (fun z hz => by
        rw [List.mem_singleton.mp hz]
        exact Or.inr ⟨by decide, lk_I, hts0 _ (List.mem_cons_of_mem _ (List.mem_append_left _ (List.mem_of_getElem? (i := 0) rfl))), hV.2.1⟩) (by decide +kernel) (by decide) (hts0 _ (List.mem_cons_of_mem _ (List.mem_append_left _ (List.mem_of_getElem? (i := 1) rfl)))) (va_Nw.use rfl hV.1.2.1) hce hcv hcl ?_
      refine lv_astore hx hb (i := 4) (nL := 5) (by decide +kernel) hle (by decide) rfl (fun ls2 _ => ?_)
      refine lv_iconst hx hb (n := 2) (v := 2) (by decide +kernel) rfl ?_
      exact fin 2 h H1 locs1 ls2 20 k2 hB1 hRO hS1 h140 (by decide +kernel)
  · intro y h' t H1 locs1 ht hal hQ hB hz hkeep hS1
    obtain ⟨hK, h4'⟩ := hQ
    have hK : K (.int 0) (am_wJ h' o 0 y.toInt64) := hK
    obtain ⟨e1, e2⟩ := h4' h140
    have ho' : am_kd h' o = 2 := by unfold am_kd; rw [e2]; exact ho
    have hol' : 1 ≤ am_len h' o := by unfold am_len; rw [e2]; exact hol
    obtain ⟨hB1, hB2, -, -⟩ := hB
    rw [ht] at hB1
    have hRO' : am_RO Z h' s s.heap := am_RO_move hal.symm (fun q hq => by rw [ht]; exact (am_low hS1 hZ hq).symm) hB2
    obtain ⟨⟨q1, q2, q3⟩, hws, -⟩ := am_here hB1 (a := o) (by omega) (by omega) (by omega) (by omega)
    rw [am_cell_2 Z ho'] at hws
    refine lv_i2l hx hb (by decide +kernel) rfl ?_
    refine va_last hx hb hUS.1 hB1.2.2 (am_ws_D Z hB1.1.1 s.heap.size) hS1 (o - 1) 1 hws rfl (fun q => ?_) (by decide +kernel) fun H2 locs2 hP2 _ hS2 => ?_
    · rcases q with q | q
      · exact absurd q (by decide +kernel)
      · have : (0 : Int32).toNatClampNeg = 0 := by decide +kernel
        omega
    · refine lv_goto hx hb (off := 11) (tgt := 21) (by decide +kernel) (by rfl) ?_
      refine lv_iconst hx hb (n := 0) (v := 0) (by decide +kernel) rfl ?_
      refine fin 0 (am_wJ h' o 0 y.toInt64) H2 locs2 ls 22 hK (am_St_set (h := h') hB1.1 q1 q2 rfl rfl (fun z hz => am_cell_wJ_ne Z h' hz) ?_ hP2) (am_RO_J hB1.1 hRO') hS2 e1 (by decide +kernel)
      rw [am_cell_2 Z (h := am_wJ h' o 0 y.toInt64) ho', ← am_uJ_row]
      rfl
variable {p : Program} {l : Launch} {e : Env} {R : Room} {s : State} {m : MethodId} {args : Array Value} {below : List Frame} {meth : Method} {c : Code}
set_option maxHeartbeats 8000000 in
set_option maxRecDepth 100000 in
theorem am_h905 (hokA : ∀ m, m < am_law → am_okM m = true) (hl : l.stackTraces = false) {Z : am_Z} {n sa1 sa2 : Nat} {Q : Value → am_H → Prop} {QF : State → Prop} (hCx : am_Cx p s m args meth c Z 296 lw_tbl) (hV : lk_V sa1 sa2 s) (hH : lk_H Z s s.heap)
    (hRf : n + 7 + 1 ≤ R.frames) (hRl : 64 * (n + 7 + 1) ≤ R.locals) (hRc : (am_tb 296).1.2.2.1 ≤ R.cells) (hRs : (am_tb 296).1.2.2.2 ≤ R.slots)
    {u : Nat × Nat} {L : am_L} {st : List Value} {h : am_H} {cs : List am_W} {pc len i2 i3 i4 k : Nat} (hok : am_okR 296 (pc, .invokestatic k, len, 905, i2, i3, i4) = true)
    (seq : am_seqT p l e R s m args below meth c Z 296 QF cs (pc + len)) (hs : am_step (am_D (n + 7)) am_co (am_tb 296).1 Q (am_P p l e R s m args below meth c Z 296 QF) u ((pc, .invokestatic k, len, 905, i2, i3, i4) :: cs) L st h) : am_G p l e R s m args below meth c Z 296 QF u L st h pc := by
  obtain ⟨hx, hb, hml, hown, hts, hgd, hrt, hini, hUS, hZs, hnr⟩ := hCx
  have hnv := am_nv hnr
  simp only [am_okR, am_okI, Bool.and_eq_true, decide_eq_true_eq, Nat.beq_eq] at hok
  obtain ⟨hdg, rfl, hok⟩ := hok
  have e1 : Nat.beq 905 901 = false := rfl
  have e2 : Nat.beq 905 905 = true := rfl
  rw [e1, e2] at hok
  simp only [cond_false, cond_true, Bool.and_eq_true, Nat.beq_eq] at hok
  obtain ⟨hlk, hi2, hi4⟩ := hok
  subst hi2
  subst hi4
  dsimp only [am_step] at hs
  obtain ⟨As, r, rfl, hAn, hs1⟩ := am_arg_of hs
  obtain ⟨hg, hs3⟩ := am_g_of hs1
  simp only [Bool.and_eq_true] at hg
  obtain ⟨hcat, -, hv1, hv2⟩ := hg
  have hcat := Nat.le_of_ble_eq_true hcat
  have hv1 := Nat.le_of_ble_eq_true hv1
  have hv2 := Nat.le_of_ble_eq_true hv2
  obtain ⟨K, hK⟩ : ∃ K : Value → am_H → Prop, (fun (v : Value) (h : am_H) => am_rv 1 v r (fun st => am_P p l e R s m args below meth c Z 296 QF (u.1 + (am_co 905).1, u.2 + (am_co 905).2) cs L st h)) = K := ⟨_, rfl⟩
  have hs4 : am_f905 (am_D (n + 6)) As h K := by
    rw [← hK]
    exact hs3
  unfold am_f905 at hs4
  split at hs4
  · next x a b o =>
    obtain ⟨hg9, hc⟩ := am_g_of hs4
    simp only [Bool.and_eq_true] at hg9
    obtain ⟨k1, k2, k3, k4, k5⟩ := hg9
    have k1 := am_beq k1
    have k2 := am_beq k2
    have k3 := am_beq k3
    have k4 := Nat.le_of_ble_eq_true k4
    have k5 := am_beq k5
    intro H locs ls h1 h2 h3 h4 h5 h6
    obtain ⟨h5a, h5r⟩ := am_app h5
    have hAs : am_svs [.ref x, .int a, .int b, .ref o] := fun v hv => h5a v (List.mem_reverse.mpr hv)
    refine am_sizeW fun hszW => ?_
    have hsz : h.1 < 140 → H.size = Z.1 + h.1 := fun hl => by omega
    have hM := lk_met9 hokA hl hnr (n := n) (x := x) (o := o) (sa1 := sa1) (sa2 := sa2) (a := a) (b := b) (h := h) (K := K) k1 k2 k3 k4 k5 hc H.size
    rw [am_map_rev]
    have hGI : GoodIn lw_tbl (va_wsS "SleepPostLaw" k (am_y 905) lk_ws9) := by
      intro w hw
      rcases List.mem_append.mp hw with q | q
      · simp only [List.mem_cons, List.not_mem_nil, or_false] at q
        rcases q with rfl | rfl | rfl
        · exact hgd _ (am_in1_ml (am_h3_of hlk))
        · exact lk_good9 _ (List.mem_of_getElem? (i := 0) rfl)
        · exact lk_good9 _ (List.mem_of_getElem? (i := 1) rfl)
      · rcases List.mem_cons.mp q with e9 | q
        · rw [e9]; exact lk_goodc _ List.mem_cons_self
        · rcases List.mem_append.mp q with q | q
          · exact lk_good9 _ (List.mem_append_right _ q)
          · rcases List.mem_append.mp q with q | q
            · exact hgd _ q
            · exact lk_good _ q
    exact am_after (i1 := 905) (i4 := 1) (r := r) (K := K) hZs (by decide +kernel) rfl (vx_runSW (hh := lk_hh) (bytes := method_3_code) (maxL := 5) (ret := some .int) (As := ([.ref x, .int a, .int b, .ref o] : List Value).map (am_t Z)) (rest := r.map (am_t Z)) (Ts := lw_tbl) (own := "SleepPostLaw") ⟨hx, hb, hml, hown, hts⟩ hM
      (vx_cwSW (R := R) 4 hts hGI rfl rfl rfl ⟨by decide +kernel, by decide +kernel, by decide +kernel⟩ ⟨hRf, by show 8 + (5 + 11) + 64 * (n + 7) ≤ R.locals; omega⟩)
      ⟨lk_Pre_blind Z h H.size _ sa1 sa2, fun U hU hW => ⟨am_pre_at hUS hZs h2 h3 h4 hsz hAs U hU hW, lk_V.warm hW hV, lk_H.move hW.alike (fun q hq => by rw [hU]; exact am_low h4 hZs hq) hH⟩⟩ rfl rfl h1.2.1 rfl (lv_room (by rw [am_cat_map hnv h5r]; exact hcat)) hdg ⟨Nat.le_trans hv1 hRc, Nat.le_trans hv2 hRs⟩) h4 hsz h6 (fun v h' hKv H1 locs1 g1 g2 g3 g4 g5 => am_cont (i1 := 905) (i4 := 1) seq h1 h5r hv1 hv2 v h' (by rw [← hK] at hKv; exact hKv) H1 locs1 g1 g2 g3 g4 g5)
  · exact hs4.elim
end LK9
