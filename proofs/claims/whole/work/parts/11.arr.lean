/-! ===== arrays, new cells, constants, switches ===== -/
section AMA
variable {p : Program} {l : Launch} {e : Env} {R : Room} {s : State} {m : MethodId} {args : Array Value} {below : List Frame} {meth : Method} {c : Code}
variable {Z : am_Z} {mid d : Nat} {Q : Value → am_H → Prop} {QF : State → Prop} {Ts : List Cond} {u : Nat × Nat} {L : am_L} {st : List Value} {h : am_H} {cs : List am_W} {pc len i1 i2 i3 i4 k : Nat}
theorem am_ty0 (hUS : am_US Z s) : va_K Z.2.2.2.2 vwCl (am_tys Z) s := hUS.1
theorem am_w_iald (hCx : am_Cx p s m args meth c Z mid Ts) (hok : am_okR mid (pc, .iaload, len, i1, i2, i3, i4) = true)
    (seq : am_seqT p l e R s m args below meth c Z mid QF cs (pc + len)) (hu1 : u.1 ≤ (am_tb mid).1.2.2.1) (hu2 : u.2 ≤ (am_tb mid).1.2.2.2) (hs : am_step (am_D d) am_co (am_tb mid).1 Q (am_P p l e R s m args below meth c Z mid QF) u ((pc, .iaload, len, i1, i2, i3, i4) :: cs) L st h) : am_G p l e R s m args below meth c Z mid QF u L st h pc := by
  obtain ⟨hx, hb, hml, hown, hts, hgd, hrt, hini, hUS, hZs, hnr⟩ := hCx
  simp only [am_okR, am_okI, Bool.and_eq_true, decide_eq_true_eq, Nat.beq_eq] at hok
  obtain ⟨hdg, rfl⟩ := hok
  dsimp only [am_step] at hs
  obtain ⟨a, i, r, rfl, hs1⟩ := am_ri_of hs
  obtain ⟨hk, hs2⟩ := am_g_of hs1
  rw [Bool.and_eq_true] at hk
  have hin := am_inb_of hk.2
  intro H locs ls h1 h2 h3 h4 h5 h6
  have nx := seq hs2 hu1 hu2 H locs ls h1 h2 h3 h4 (am_sc rfl (am_sd (am_sd h5))) h6
  show W _ _ _ _ _ _ _ _ _ _ _ _ _ _ _ (F0 m pc ls (.int i :: am_t Z (.ref a) :: r.map (am_t Z)))
  rcases am_orb hk.1 with q | q
  · have q := am_beq q
    obtain ⟨-, hws, ht⟩ := am_here h2 (a := a) (by omega) (by omega) (by omega) (by omega)
    rw [ht]
    rw [am_cell_1 Z q] at hws
    exact va_iald hx hb hUS.1 h2.2.2 (a - 1) 0 hws rfl hin hdg nx
  · have q := am_beq q
    rw [am_there h2.1 (Or.inl q)]
    exact va_ti hx hb ((h3.1 a q).narrow (fun _ => am_B_of hZs)) h4 hin rfl hdg nx
theorem am_w_lald (hCx : am_Cx p s m args meth c Z mid Ts) (hok : am_okR mid (pc, .laload, len, i1, i2, i3, i4) = true)
    (seq : am_seqT p l e R s m args below meth c Z mid QF cs (pc + len)) (hu1 : u.1 ≤ (am_tb mid).1.2.2.1) (hu2 : u.2 ≤ (am_tb mid).1.2.2.2) (hs : am_step (am_D d) am_co (am_tb mid).1 Q (am_P p l e R s m args below meth c Z mid QF) u ((pc, .laload, len, i1, i2, i3, i4) :: cs) L st h) : am_G p l e R s m args below meth c Z mid QF u L st h pc := by
  obtain ⟨hx, hb, hml, hown, hts, hgd, hrt, hini, hUS, hZs, hnr⟩ := hCx
  simp only [am_okR, am_okI, Bool.and_eq_true, decide_eq_true_eq, Nat.beq_eq] at hok
  obtain ⟨hdg, rfl⟩ := hok
  dsimp only [am_step] at hs
  obtain ⟨a, i, r, rfl, hs1⟩ := am_ri_of hs
  obtain ⟨hk, hs2⟩ := am_g_of hs1
  rw [Bool.and_eq_true] at hk
  have hin := am_inb_of hk.2
  intro H locs ls h1 h2 h3 h4 h5 h6
  have nx := seq hs2 hu1 hu2 H locs ls h1 h2 h3 h4 (am_sc rfl (am_sd (am_sd h5))) h6
  show W _ _ _ _ _ _ _ _ _ _ _ _ _ _ _ (F0 m pc ls (.int i :: am_t Z (.ref a) :: r.map (am_t Z)))
  have q := am_beq hk.1
  obtain ⟨-, hws, ht⟩ := am_here h2 (a := a) (by omega) (by omega) (by omega) (by omega)
  rw [ht]
  rw [am_cell_2 Z q] at hws
  exact va_lald hx hb hUS.1 h2.2.2 (a - 1) 1 hws rfl hin hdg nx
theorem am_w_bald (hCx : am_Cx p s m args meth c Z mid Ts) (hok : am_okR mid (pc, .baload, len, i1, i2, i3, i4) = true)
    (seq : am_seqT p l e R s m args below meth c Z mid QF cs (pc + len)) (hu1 : u.1 ≤ (am_tb mid).1.2.2.1) (hu2 : u.2 ≤ (am_tb mid).1.2.2.2) (hs : am_step (am_D d) am_co (am_tb mid).1 Q (am_P p l e R s m args below meth c Z mid QF) u ((pc, .baload, len, i1, i2, i3, i4) :: cs) L st h) : am_G p l e R s m args below meth c Z mid QF u L st h pc := by
  obtain ⟨hx, hb, hml, hown, hts, hgd, hrt, hini, hUS, hZs, hnr⟩ := hCx
  simp only [am_okR, am_okI, Bool.and_eq_true, decide_eq_true_eq, Nat.beq_eq] at hok
  obtain ⟨hdg, rfl⟩ := hok
  dsimp only [am_step] at hs
  obtain ⟨a, i, r, rfl, hs1⟩ := am_ri_of hs
  obtain ⟨hk, hs2⟩ := am_g_of hs1
  rw [Bool.and_eq_true] at hk
  have hin := am_inb_of hk.2
  intro H locs ls h1 h2 h3 h4 h5 h6
  have nx := seq hs2 hu1 hu2 H locs ls h1 h2 h3 h4 (am_sc rfl (am_sd (am_sd h5))) h6
  show W _ _ _ _ _ _ _ _ _ _ _ _ _ _ _ (F0 m pc ls (.int i :: am_t Z (.ref a) :: r.map (am_t Z)))
  rcases am_orb hk.1 with q | q
  · have q := am_beq q
    obtain ⟨-, hws, ht⟩ := am_here h2 (a := a) (by omega) (by omega) (by omega) (by omega)
    rw [ht]
    rw [am_cell_3 Z q] at hws
    exact va_bald hx hb hUS.1 h2.2.2 (a - 1) 2 hws rfl hin hdg nx
  · rcases am_orb q with q | q
    · have q := am_beq q
      obtain ⟨-, hws, ht⟩ := am_here h2 (a := a) (by omega) (by omega) (by omega) (by omega)
      rw [ht]
      rw [am_cell_4 Z q] at hws
      exact va_zald hx hb hUS.1 h2.2.2 (a - 1) 3 hws rfl hin hdg nx
    · have q := am_beq q
      rw [am_there h2.1 (Or.inr (Or.inl q))]
      exact va_tb hx hb ((h3.2.1 a q).narrow (fun _ => am_B_of hZs)) h4 hin rfl hdg nx
theorem am_w_iast (hCx : am_Cx p s m args meth c Z mid Ts) (hok : am_okR mid (pc, .iastore, len, i1, i2, i3, i4) = true)
    (seq : am_seqT p l e R s m args below meth c Z mid QF cs (pc + len)) (hu1 : u.1 ≤ (am_tb mid).1.2.2.1) (hu2 : u.2 ≤ (am_tb mid).1.2.2.2) (hs : am_step (am_D d) am_co (am_tb mid).1 Q (am_P p l e R s m args below meth c Z mid QF) u ((pc, .iastore, len, i1, i2, i3, i4) :: cs) L st h) : am_G p l e R s m args below meth c Z mid QF u L st h pc := by
  obtain ⟨hx, hb, hml, hown, hts, hgd, hrt, hini, hUS, hZs, hnr⟩ := hCx
  simp only [am_okR, am_okI, Bool.and_eq_true, decide_eq_true_eq, Nat.beq_eq] at hok
  obtain ⟨hdg, rfl⟩ := hok
  dsimp only [am_step] at hs
  obtain ⟨a, i, x, r, rfl, hs1⟩ := am_rii_of hs
  obtain ⟨hk, hs2⟩ := am_g_of hs1
  rw [Bool.and_eq_true] at hk
  have hin := am_inb_of hk.2
  have q := am_beq hk.1
  intro H locs ls h1 h2 h3 h4 h5 h6
  obtain ⟨⟨q1, q2, q3⟩, hws, ht⟩ := am_here h2 (a := a) (by omega) (by omega) (by omega) (by omega)
  show W _ _ _ _ _ _ _ _ _ _ _ _ _ _ _ (F0 m pc ls (.int x :: .int i :: am_t Z (.ref a) :: r.map (am_t Z)))
  rw [ht]
  rw [am_cell_1 Z q] at hws
  refine va_iast hx hb hUS.1 h2.2.2 (am_ws_D Z h2.1.1 s.heap.size) h4 (a - 1) 0 hws rfl hin hdg fun H1 locs1 hP1 _ hS1 => ?_
  refine seq hs2 hu1 hu2 H1 locs1 ls h1 (am_St_set (h := h) h2.1 q1 q2 rfl rfl (fun b hb => am_cell_wI_ne Z h hb) ?_ hP1) (am_RO_I h2.1 q3 h3) hS1 (am_sd (am_sd (am_sd h5))) h6
  rw [am_cell_1 Z (h := am_wI h a i.toNatClampNeg x) q, ← am_u_row]
  rfl
theorem am_w_last (hCx : am_Cx p s m args meth c Z mid Ts) (hok : am_okR mid (pc, .lastore, len, i1, i2, i3, i4) = true)
    (seq : am_seqT p l e R s m args below meth c Z mid QF cs (pc + len)) (hu1 : u.1 ≤ (am_tb mid).1.2.2.1) (hu2 : u.2 ≤ (am_tb mid).1.2.2.2) (hs : am_step (am_D d) am_co (am_tb mid).1 Q (am_P p l e R s m args below meth c Z mid QF) u ((pc, .lastore, len, i1, i2, i3, i4) :: cs) L st h) : am_G p l e R s m args below meth c Z mid QF u L st h pc := by
  obtain ⟨hx, hb, hml, hown, hts, hgd, hrt, hini, hUS, hZs, hnr⟩ := hCx
  simp only [am_okR, am_okI, Bool.and_eq_true, decide_eq_true_eq, Nat.beq_eq] at hok
  obtain ⟨hdg, rfl⟩ := hok
  dsimp only [am_step] at hs
  obtain ⟨a, i, x, r, rfl, hs1⟩ := am_ril_of hs
  obtain ⟨hk, hs2⟩ := am_g_of hs1
  rw [Bool.and_eq_true] at hk
  have hin := am_inb_of hk.2
  have q := am_beq hk.1
  intro H locs ls h1 h2 h3 h4 h5 h6
  obtain ⟨⟨q1, q2, q3⟩, hws, ht⟩ := am_here h2 (a := a) (by omega) (by omega) (by omega) (by omega)
  show W _ _ _ _ _ _ _ _ _ _ _ _ _ _ _ (F0 m pc ls (.long x :: .int i :: am_t Z (.ref a) :: r.map (am_t Z)))
  rw [ht]
  rw [am_cell_2 Z q] at hws
  refine va_last hx hb hUS.1 h2.2.2 (am_ws_D Z h2.1.1 s.heap.size) h4 (a - 1) 1 hws rfl hin hdg fun H1 locs1 hP1 _ hS1 => ?_
  refine seq hs2 hu1 hu2 H1 locs1 ls h1 (am_St_set (h := h) h2.1 q1 q2 rfl rfl (fun b hb => am_cell_wJ_ne Z h hb) ?_ hP1) (am_RO_J h2.1 h3) hS1 (am_sd (am_sd (am_sd h5))) h6
  rw [am_cell_2 Z (h := am_wJ h a i.toNatClampNeg x) q, ← am_uJ_row]
  rfl
theorem am_nar_b (x : Int32) : vp_nar .byte x = x.toInt8.toInt32 := vp_nar_byte x
theorem am_nar_z (x : Int32) : vp_nar .boolean x = x &&& 1 := rfl
theorem am_w_bast (hCx : am_Cx p s m args meth c Z mid Ts) (hok : am_okR mid (pc, .bastore, len, i1, i2, i3, i4) = true)
    (seq : am_seqT p l e R s m args below meth c Z mid QF cs (pc + len)) (hu1 : u.1 ≤ (am_tb mid).1.2.2.1) (hu2 : u.2 ≤ (am_tb mid).1.2.2.2) (hs : am_step (am_D d) am_co (am_tb mid).1 Q (am_P p l e R s m args below meth c Z mid QF) u ((pc, .bastore, len, i1, i2, i3, i4) :: cs) L st h) : am_G p l e R s m args below meth c Z mid QF u L st h pc := by
  obtain ⟨hx, hb, hml, hown, hts, hgd, hrt, hini, hUS, hZs, hnr⟩ := hCx
  simp only [am_okR, am_okI, Bool.and_eq_true, decide_eq_true_eq, Nat.beq_eq] at hok
  obtain ⟨hdg, rfl⟩ := hok
  dsimp only [am_step] at hs
  obtain ⟨a, i, x, r, rfl, hs1⟩ := am_rii_of hs
  obtain ⟨hk, hs2⟩ := am_g_of hs1
  rw [Bool.and_eq_true] at hk
  have hin := am_inb_of hk.2
  intro H locs ls h1 h2 h3 h4 h5 h6
  show W _ _ _ _ _ _ _ _ _ _ _ _ _ _ _ (F0 m pc ls (.int x :: .int i :: am_t Z (.ref a) :: r.map (am_t Z)))
  rcases am_orb hk.1 with q | q
  · have q := am_beq q
    obtain ⟨⟨q1, q2, q3⟩, hws, ht⟩ := am_here h2 (a := a) (by omega) (by omega) (by omega) (by omega)
    rw [ht]
    rw [am_cell_3 Z q] at hws
    refine va_bast hx hb hUS.1 h2.2.2 (am_ws_D Z h2.1.1 s.heap.size) h4 (a - 1) 2 hws rfl hin hdg fun H1 locs1 hP1 _ hS1 => ?_
    refine seq hs2 hu1 hu2 H1 locs1 ls h1 (am_St_set (h := h) h2.1 q1 q2 rfl rfl (fun b hb => am_cell_wI_ne Z h hb) ?_ hP1) (am_RO_I h2.1 q3 h3) hS1 (am_sd (am_sd (am_sd h5))) h6
    rw [am_cell_3 Z (h := am_wI h a i.toNatClampNeg _) q, ← am_u_row, am_nar_b, q]
    rfl
  · have q := am_beq q
    obtain ⟨⟨q1, q2, q3⟩, hws, ht⟩ := am_here h2 (a := a) (by omega) (by omega) (by omega) (by omega)
    rw [ht]
    rw [am_cell_4 Z q] at hws
    refine va_zast hx hb hUS.1 h2.2.2 (am_ws_D Z h2.1.1 s.heap.size) h4 (a - 1) 3 hws rfl hin hdg fun H1 locs1 hP1 _ hS1 => ?_
    refine seq hs2 hu1 hu2 H1 locs1 ls h1 (am_St_set (h := h) h2.1 q1 q2 rfl rfl (fun b hb => am_cell_wI_ne Z h hb) ?_ hP1) (am_RO_I h2.1 q3 h3) hS1 (am_sd (am_sd (am_sd h5))) h6
    rw [am_cell_4 Z (h := am_wI h a i.toNatClampNeg _) q, ← am_u_row, am_nar_z, q]
    rfl
theorem am_w_alen (hCx : am_Cx p s m args meth c Z mid Ts) (hok : am_okR mid (pc, .arraylength, len, i1, i2, i3, i4) = true)
    (seq : am_seqT p l e R s m args below meth c Z mid QF cs (pc + len)) (hu1 : u.1 ≤ (am_tb mid).1.2.2.1) (hu2 : u.2 ≤ (am_tb mid).1.2.2.2) (hs : am_step (am_D d) am_co (am_tb mid).1 Q (am_P p l e R s m args below meth c Z mid QF) u ((pc, .arraylength, len, i1, i2, i3, i4) :: cs) L st h) : am_G p l e R s m args below meth c Z mid QF u L st h pc := by
  obtain ⟨hx, hb, hml, hown, hts, hgd, hrt, hini, hUS, hZs, hnr⟩ := hCx
  simp only [am_okR, am_okI, Bool.and_eq_true, decide_eq_true_eq, Nat.beq_eq] at hok
  obtain ⟨hdg, rfl⟩ := hok
  dsimp only [am_step] at hs
  obtain ⟨a, r, rfl, hs1⟩ := am_r_of hs
  obtain ⟨hk, hs2⟩ := am_g_of hs1
  rw [Bool.and_eq_true] at hk
  have hk0 : am_kd h a ≠ 0 := fun e => by have := hk.1; rw [e] at this; cases this
  have hk7 : am_kd h a ≤ 7 := Nat.le_of_ble_eq_true hk.2
  intro H locs ls h1 h2 h3 h4 h5 h6
  have nx := seq hs2 hu1 hu2 H locs ls h1 h2 h3 h4 (am_sc rfl (am_sd h5)) h6
  show W _ _ _ _ _ _ _ _ _ _ _ _ _ _ _ (F0 m pc ls (am_t Z (.ref a) :: r.map (am_t Z)))
  have hcs : am_kd h a = 1 ∨ am_kd h a = 2 ∨ am_kd h a = 3 ∨ am_kd h a = 4 ∨ am_kd h a = 5 ∨ am_kd h a = 7 := by
    rcases h2.1.2 a hk0 with ⟨-, -, q | ⟨q, -⟩⟩ | ⟨-, -, q⟩ <;> omega
  rcases hcs with q | q | q | q | q | q
  · obtain ⟨-, hws, ht⟩ := am_here h2 (a := a) (by omega) (by omega) (by omega) (by omega)
    rw [ht]
    rw [am_cell_1 Z q] at hws
    exact va_alen hx hb hUS.1 h2.2.2 (a - 1) 0 hws rfl rfl hdg nx
  · obtain ⟨-, hws, ht⟩ := am_here h2 (a := a) (by omega) (by omega) (by omega) (by omega)
    rw [ht]
    rw [am_cell_2 Z q] at hws
    exact va_alen hx hb hUS.1 h2.2.2 (a - 1) 1 hws rfl rfl hdg nx
  · obtain ⟨-, hws, ht⟩ := am_here h2 (a := a) (by omega) (by omega) (by omega) (by omega)
    rw [ht]
    rw [am_cell_3 Z q] at hws
    exact va_alen hx hb hUS.1 h2.2.2 (a - 1) 2 hws rfl rfl hdg nx
  · obtain ⟨-, hws, ht⟩ := am_here h2 (a := a) (by omega) (by omega) (by omega) (by omega)
    rw [ht]
    rw [am_cell_4 Z q] at hws
    exact va_alen hx hb hUS.1 h2.2.2 (a - 1) 3 hws rfl rfl hdg nx
  · rw [am_there h2.1 (Or.inl q)]
    exact va_tlen hx hb ((h3.1 a q).narrow (fun _ => am_B_of hZs)) h4 rfl hdg nx
  · rw [am_there h2.1 (Or.inr (Or.inl q))]
    exact va_tlen hx hb ((h3.2.1 a q).narrow (fun _ => am_B_of hZs)) h4 rfl hdg nx
theorem am_ks_ok : ∀ q ∈ am_KS, 141 ≤ q.2.2 ∧ q.2.2 ≠ 2010 := by decide +kernel
theorem am_w_ldc (hCx : am_Cx p s m args meth c Z mid Ts) (hok : am_okR mid (pc, .ldc k, len, i1, i2, i3, i4) = true)
    (seq : am_seqT p l e R s m args below meth c Z mid QF cs (pc + len)) (hu1 : u.1 ≤ (am_tb mid).1.2.2.1) (hu2 : u.2 ≤ (am_tb mid).1.2.2.2) (hs : am_step (am_D d) am_co (am_tb mid).1 Q (am_P p l e R s m args below meth c Z mid QF) u ((pc, .ldc k, len, i1, i2, i3, i4) :: cs) L st h) : am_G p l e R s m args below meth c Z mid QF u L st h pc := by
  obtain ⟨hx, hb, hml, hown, hts, hgd, hrt, hini, hUS, hZs, hnr⟩ := hCx
  have hAT : ∀ w ∈ am_AT, w.before args s = true := fun w hw => hts w (hgd w hw).1
  cases i2 with
  | zero =>
    simp only [am_okR, am_okI, Bool.and_eq_true, decide_eq_true_eq, Nat.beq_eq] at hok
    obtain ⟨hdg, rfl, hk⟩ := hok
    dsimp only [am_step] at hs
    intro H locs ls h1 h2 h3 h4 h5 h6
    exact lv_ldc hx hb hown (hAT _ (am_in1_kc (am_h3_of hk))) hdg (seq hs hu1 hu2 H locs ls h1 h2 h3 h4 (am_sc rfl h5) h6)
  | succ n =>
    simp only [am_okR, am_okI, Bool.and_eq_true, decide_eq_true_eq, Nat.beq_eq] at hok
    obtain ⟨hdg, rfl, hk⟩ := hok
    dsimp only [am_step] at hs
    intro H locs ls h1 h2 h3 h4 h5 h6
    obtain ⟨tx, hZ⟩ := hUS.2.2 _ (am_h3_of hk)
    obtain ⟨g1, g2⟩ := am_ks_ok _ (am_h3_of hk)
    have nx := seq hs hu1 hu2 H locs ls h1 h2 h3 h4 (am_sc rfl h5) h6
    simp only [List.map_cons] at nx
    rw [am_t_ref (a := i1) Z (by simp only at g1; omega) g2, am_aa_hi (a := i1) Z g1] at nx
    exact va_ldcS hx hb hown hZ hdg nx
theorem am_w_gets (hCx : am_Cx p s m args meth c Z mid Ts) (hok : am_okR mid (pc, .getstatic k, len, i1, i2, i3, i4) = true)
    (seq : am_seqT p l e R s m args below meth c Z mid QF cs (pc + len)) (hu1 : u.1 ≤ (am_tb mid).1.2.2.1) (hu2 : u.2 ≤ (am_tb mid).1.2.2.2) (hs : am_step (am_D d) am_co (am_tb mid).1 Q (am_P p l e R s m args below meth c Z mid QF) u ((pc, .getstatic k, len, i1, i2, i3, i4) :: cs) L st h) : am_G p l e R s m args below meth c Z mid QF u L st h pc := by
  obtain ⟨hx, hb, hml, hown, hts, hgd, hrt, hini, hUS, hZs, hnr⟩ := hCx
  have hAT : ∀ w ∈ am_AT, w.before args s = true := fun w hw => hts w (hgd w hw).1
  simp only [am_okR, am_okI, Bool.and_eq_true, decide_eq_true_eq, Nat.beq_eq] at hok
  obtain ⟨hdg, rfl, hk⟩ := hok
  have hk := am_h4_of hk
  generalize ho : am_ow mid = o at hk hown
  simp only [am_SL, List.mem_cons, Prod.mk.injEq, List.not_mem_nil, or_false] at hk
  dsimp only [am_step] at hs
  intro H locs ls h1 h2 h3 h4 h5 h6
  obtain ⟨r1, r2, r3, r4, r5, r6, r7⟩ := id h3
  rcases hk with ⟨rfl, rfl, rfl, rfl⟩ | ⟨rfl, rfl, rfl, rfl⟩ | ⟨rfl, rfl, rfl, rfl⟩ | ⟨rfl, rfl, rfl, rfl⟩
  · exact va_gets hx hb (r4.narrow (fun _ => am_B_of hZs)) h4 hown (hAT _ (am_in_ex (List.mem_of_getElem? (i := 11) rfl))) (fun _ q => q) hdg (seq hs hu1 hu2 H locs ls h1 h2 h3 h4 (am_sc rfl h5) h6)
  · exact va_gets hx hb (r5.narrow (fun _ => am_B_of hZs)) h4 hown (hAT _ (am_in_ex (List.mem_of_getElem? (i := 12) rfl))) (fun _ q => q) hdg (seq hs hu1 hu2 H locs ls h1 h2 h3 h4 (am_sc rfl h5) h6)
  · exact va_gets hx hb (r6.narrow (fun _ => am_B_of hZs)) h4 hown (hAT _ (am_in_ex (List.mem_of_getElem? (i := 13) rfl))) (fun _ q => q) hdg (seq hs hu1 hu2 H locs ls h1 h2 h3 h4 (am_sc rfl h5) h6)
  · exact va_gets hx hb (r7.narrow (fun _ => am_B_of hZs)) h4 hown (hAT _ (am_in_ex (List.mem_of_getElem? (i := 14) rfl))) (fun _ q => q) hdg (seq hs hu1 hu2 H locs ls h1 h2 h3 h4 (am_sc rfl h5) h6)
end AMA
