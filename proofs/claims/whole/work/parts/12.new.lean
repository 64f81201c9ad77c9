/-! ===== new cells, switches, members that are no rows ===== -/
section AMN
variable {p : Program} {l : Launch} {e : Env} {R : Room} {s : State} {m : MethodId} {args : Array Value} {below : List Frame} {meth : Method} {c : Code}
variable {Z : am_Z} {mid d : Nat} {Q : Value → am_H → Prop} {QF : State → Prop} {Ts : List Cond} {u : Nat × Nat} {L : am_L} {st : List Value} {h : am_H} {cs : List am_W} {pc len i1 i2 i3 i4 k : Nat}
theorem am_w_ini : ∀ c, c < 13 → am_h1 am_ini c = true := by decide +kernel
theorem am_cell_mk_ne (Z : am_Z) (h : am_H) {kd n b : Nat} (e : b ≠ h.1 + 1) : am_cell Z (am_mk h kd n) b = am_cell Z h b := by
  have hT : am_uT h.2.1 (h.1 + 1) (kd, n) b = h.2.1 b := by simp only [am_uT, am_bne e]; rfl
  have hI : am_z h.2.2.1 (h.1 + 1) b = h.2.2.1 b := by funext j; simp [am_z, e]
  have hJ : am_zJ h.2.2.2.1 (h.1 + 1) b = h.2.2.2.1 b := by funext j; simp [am_zJ, e]
  have hR : ∀ j, am_zR h.2.2.2.2 (h.1 + 1) b j = h.2.2.2.2 b j := by intro j; simp only [am_zR, am_bne e]; rfl
  have hf : ∀ ci, am_fd Z (am_mk h kd n) b ci = am_fd Z h b ci := by
    intro ci; funext j
    unfold am_fd am_fv am_mk
    simp only [hI, hJ, hR]
  simp only [am_cell, hf]
  simp only [am_mk, am_kd, am_len, hI, hJ, hT]
  rfl
theorem am_ws_push (Z : am_Z) (h : am_H) (kd n : Nat) : am_ws Z (am_mk h kd n) = am_ws Z h ++ [(Z.1 + h.1, am_cell Z (am_mk h kd n) (h.1 + 1))] := by
  show (List.range (h.1 + 1)).map (fun k => (Z.1 + k, am_cell Z (am_mk h kd n) (k + 1))) = _
  rw [List.range_succ, List.map_append]
  congr 1
  apply List.map_congr_left
  intro k hk
  have := List.mem_range.mp hk
  rw [am_cell_mk_ne Z h (by omega)]
theorem am_kd_mk (h : am_H) (kd n : Nat) : am_kd (am_mk h kd n) (h.1 + 1) = kd ∧ am_len (am_mk h kd n) (h.1 + 1) = n := by
  unfold am_kd am_len am_mk am_uT
  simp only [Nat.beq_refl]
  exact ⟨rfl, rfl⟩
theorem am_wf_mk {h : am_H} (w : am_wf h) {kd n : Nat} (hn : h.1 + 1 ≤ 140) (hk : kd ≤ 4 ∨ (10 ≤ kd ∧ kd < 23 ∧ n = am_Nf (kd - 10))) : am_wf (am_mk h kd n) := by
  refine ⟨hn, fun a ha => ?_⟩
  by_cases e : a = h.1 + 1
  · subst e
    left
    rw [(am_kd_mk h kd n).1, (am_kd_mk h kd n).2]
    exact ⟨by omega, Nat.le_refl _, hk⟩
  · have hT : am_uT h.2.1 (h.1 + 1) (kd, n) a = h.2.1 a := by simp only [am_uT, am_bne e]; rfl
    have hkd : am_kd (am_mk h kd n) a = am_kd h a := by unfold am_kd am_mk; simp only [hT]
    have hln : am_len (am_mk h kd n) a = am_len h a := by unfold am_len am_mk; simp only [hT]
    rw [hkd] at ha ⊢
    rw [hln]
    rcases w.2 a ha with ⟨q1, q2, q3⟩ | q
    · exact Or.inl ⟨q1, Nat.le_trans q2 (Nat.le_succ _), q3⟩
    · exact Or.inr q
theorem am_RO_mk {U : State} {H : Heap} (w : am_wf h) {kd n : Nat} (hn : h.1 + 1 ≤ 140) (hk : kd ≤ 4 ∨ (10 ≤ kd ∧ kd < 23 ∧ n = am_Nf (kd - 10))) (r : am_RO Z h U H) : am_RO Z (am_mk h kd n) U H := by
  have ne : ∀ a, 141 ≤ a → a ≠ h.1 + 1 := fun a ha => by omega
  refine am_RO_same (h := h) (fun a ha => ?_) (fun b e => (am_wf_ro (am_wf_mk w hn hk) e).1) (fun b j hb => ?_) (fun b j hb => ?_) r
  · show am_uT h.2.1 (h.1 + 1) (kd, n) a = h.2.1 a
    simp only [am_uT, am_bne (ne a ha)]; rfl
  · show am_z h.2.2.1 (h.1 + 1) b j = h.2.2.1 b j
    simp [am_z, ne b hb]
  · show am_zR h.2.2.2.2 (h.1 + 1) b j = h.2.2.2.2 b j
    simp only [am_zR, am_bne (ne b hb)]; rfl
set_option maxHeartbeats 4000000 in
theorem am_w_new (hCx : am_Cx p s m args meth c Z mid Ts) (hok : am_okR mid (pc, .new k, len, i1, i2, i3, i4) = true) (hRc : (am_tb mid).1.2.2.1 ≤ R.cells) (hRs : (am_tb mid).1.2.2.2 ≤ R.slots)
    (seq : am_seqT p l e R s m args below meth c Z mid QF cs (pc + len)) (hs : am_step (am_D d) am_co (am_tb mid).1 Q (am_P p l e R s m args below meth c Z mid QF) u ((pc, .new k, len, i1, i2, i3, i4) :: cs) L st h) : am_G p l e R s m args below meth c Z mid QF u L st h pc := by
  obtain ⟨hx, hb, hml, hown, hts, hgd, hrt, hini, hUS, hZs, hnr⟩ := hCx
  have hAT : ∀ w ∈ am_AT, w.before args s = true := fun w hw => hts w (hgd w hw).1
  simp only [am_okR, am_okI, Bool.and_eq_true, decide_eq_true_eq, Nat.beq_eq] at hok
  obtain ⟨hdg, rfl, hck, hc13, rfl⟩ := hok
  have hc13 := am_blt hc13
  dsimp only [am_step] at hs
  obtain ⟨hk, hs2⟩ := am_g_of hs
  simp only [Bool.and_eq_true] at hk
  have hn := Nat.le_of_ble_eq_true hk.1
  have hv1 := Nat.le_of_ble_eq_true hk.2.1
  have hv2 := Nat.le_of_ble_eq_true hk.2.2
  intro H locs ls h1 h2 h3 h4 h5 h6
  refine am_sizeW fun hsz => ?_
  have hH : H.size = Z.1 + h.1 := by have := h6 (by omega); have := h2.2.1; omega
  have hKn := hUS.1.1 i1 _ (am_w_cl hc13)
  have hA : ∀ q, s.heap.size ≤ q → am_Ar Z s.heap.size q := fun q hq => Or.inr hq
  refine W.newcK hx hb hown (hAT _ (am_in1_ck (am_h3_of hck))) (hAT _ (am_in_is (List.mem_map_of_mem (f := fun c => Cond.instantiable (am_on c) (am_Nf c)) (List.mem_range.mpr hc13)))) (hAT _ (am_in_in (List.mem_map_of_mem (f := fun o => Cond.initialized (am_on o)) (am_h1_of (am_w_ini i1 hc13))))) rfl hdg (Nat.le_trans hv1 hRc) (Nat.le_trans hv2 hRs) hKn.2.1 rfl fun H1 kC hkC e1 z1 o1 => ?_
  have hwf : am_wf (am_mk h (10 + i1) (am_Nf i1)) := am_wf_mk h2.1 hn (Or.inr ⟨by omega, by omega, by rw [show 10 + i1 - 10 = i1 by omega]⟩)
  have hst : am_St Z (am_mk h (10 + i1) (am_Nf i1)) H1 := by
    refine ⟨hwf, by show Z.1 + (h.1 + 1) ≤ _; omega, ?_⟩
    rw [am_ws_push]
    refine (h2.2.2.kept (fun j x hx => o1 x.1 ((h2.2.2 j x hx).lt))).app (fun j x hx => ?_)
    have hz : j < 1 := (List.getElem?_eq_some_iff.mp hx).1
    rw [show j = 0 by omega] at hx
    cases hx
    rw [am_cell_o Z (am_kd_mk h (10 + i1) (am_Nf i1)).1, (am_kd_mk h (10 + i1) (am_Nf i1)).2]
    rw [← hH]
    refine ⟨_, am_w_cl hc13, (u_born (am_tyf i1) hts (fun w hw => (hgd w (am_w_lay hc13 w hw)).1) hKn hkC e1 (am_w_ty hc13)).to fun j hj => ?_⟩
    have hfo := am_w_ft i1 hc13 j hj
    have hv : vp_V ((List.range (am_Nf i1)).map (am_fd Z (am_mk h (10 + i1) (am_Nf i1)) (h.1 + 1) i1)) j = am_fd Z (am_mk h (10 + i1) (am_Nf i1)) (h.1 + 1) i1 j := by
      simp [vp_V, List.getD, List.getElem?_range hj]
    rw [hv]
    unfold am_fok at hfo
    unfold am_fd am_fv
    split at hfo
    · next q => rw [q]; simp only [decide_eq_true_eq] at hfo; rw [hfo]; simp [am_mk, am_z, am_t, defaultValue]
    · next q => rw [q]; simp only [decide_eq_true_eq] at hfo; rw [hfo]; simp [am_mk, am_z, am_t, defaultValue]
    · next q =>
      rw [q]
      have hz : (am_mk h (10 + i1) (am_Nf i1)).2.2.2.2 (h.1 + 1) j = 0 := by
        show am_zR h.2.2.2.2 (h.1 + 1) (h.1 + 1) j = 0
        simp only [am_zR, Nat.beq_refl]; rfl
      simp only [hz]
      cases hty : am_tyf i1 j with
      | object n => rfl
      | array n => rfl
      | _ => rw [hty] at hfo; cases hfo
    · cases hfo
  have nx := seq hs2 hv1 hv2 H1 locs ls h1 hst (am_RO_mk h2.1 hn (Or.inr ⟨by omega, by omega, by rw [show 10 + i1 - 10 = i1 by omega]⟩) h3) ⟨Nat.le_trans h4.1 (by omega), fun x g1 g2 => (o1 x (Nat.lt_of_lt_of_le g1 h4.1)).trans (h4.2.1 x g1 g2), h4.2.2⟩ (am_sc rfl h5) (fun _ => by have := h6 (by omega); show s.heap.size + (u.1 + 1) = Z.1 + (h.1 + 1); omega)
  simp only [List.map_cons] at nx
  rw [am_t_ref (a := h.1 + 1) Z (by omega) (by omega), am_aa_lo (a := h.1 + 1) Z (by omega) hn, show Z.1 + (h.1 + 1 - 1) = H.size by omega] at nx
  exact nx
set_option maxHeartbeats 4000000 in
theorem am_w_newa (hCx : am_Cx p s m args meth c Z mid Ts) {t : ArrayType} (hok : am_okR mid (pc, .newarray t, len, i1, i2, i3, i4) = true) (hRc : (am_tb mid).1.2.2.1 ≤ R.cells) (hRs : (am_tb mid).1.2.2.2 ≤ R.slots)
    (seq : am_seqT p l e R s m args below meth c Z mid QF cs (pc + len)) (hs : am_step (am_D d) am_co (am_tb mid).1 Q (am_P p l e R s m args below meth c Z mid QF) u ((pc, .newarray t, len, i1, i2, i3, i4) :: cs) L st h) : am_G p l e R s m args below meth c Z mid QF u L st h pc := by
  obtain ⟨hx, hb, hml, hown, hts, hgd, hrt, hini, hUS, hZs, hnr⟩ := hCx
  have hAT : ∀ w ∈ am_AT, w.before args s = true := fun w hw => hts w (hgd w hw).1
  simp only [am_okR, am_okI, Bool.and_eq_true, decide_eq_true_eq, Nat.beq_eq] at hok
  obtain ⟨hdg, rfl⟩ := hok
  dsimp only [am_step] at hs
  obtain ⟨n, r, rfl, hs1⟩ := am_i_of hs
  obtain ⟨hk, hs2⟩ := am_g_of hs1
  simp only [Bool.and_eq_true] at hk
  obtain ⟨hk0, hn, hin, hv1, hv2⟩ := hk
  have hn := Nat.le_of_ble_eq_true hn
  have hv1 := Nat.le_of_ble_eq_true hv1
  have hv2 := Nat.le_of_ble_eq_true hv2
  have hin := am_inb_of hin
  have hn0 : ¬ n < 0 := fun q => hin (Or.inl q)
  have hn6 : n.toNatClampNeg < 65536 := Nat.not_le.mp fun q => hin (Or.inr q)
  intro H locs ls h1 h2 h3 h4 h5 h6
  refine am_sizeW fun hsz => ?_
  have hH : H.size = Z.1 + h.1 := by have := h6 (by omega); have := h2.2.1; omega
  -- the kind's number and its place among the array classes
  have key : ∀ (j : Nat) (ty : FieldType) (dv : Value), newarray.typeOf t = ty → (Cond.arrayClass ty) ∈ am_AT → (am_tys Z)[j]? = some (Z.2.2.2.1 j, ty) → am_ak t ≤ 4 → defaultValue ty = dv → componentBytes ty ≤ 8 → ("[" ++ ty.toString).length ≠ 0 → (match ty with | .object _ => False | _ => True) →
      (∀ cA : ClassId, cA = Z.2.2.2.1 j → va_at Z.2.2.2.2 vwCl (Z.1 + h.1, am_cell Z (am_mk h (am_ak t) n.toNatClampNeg) (h.1 + 1)) (Array.push H (arrV cA n.toNatClampNeg (fun _ => dv)))) →
      W p l e R s m args below meth c H locs u.1 u.2 QF (F0 m pc ls (.int n :: r.map (am_t Z))) := by
    intro j ty dv hty hac htys hak hdv hcb _ hno hcell
    refine va_newaK hx hb (by rw [hty]; exact hAT _ hac) rfl hdg rfl hn0 rfl (by rw [hty]; exact Nat.le_trans (Nat.mul_le_mul (Nat.le_of_lt hn6) hcb) (by decide)) (Nat.le_trans hv1 hRc) (Nat.le_trans hv2 hRs) rfl fun H1 cA e1 z1 o1 hAr hNm => ?_
    rw [hty] at hNm e1
    have hcA : cA = Z.2.2.2.1 j := by
      have hra := (hUS.1.2 j _ htys).2
      have : s.vm.findClass ("[" ++ ty.toString) = some (Z.2.2.2.1 j) := by
        cases ty <;> first | exact hra | exact hno.elim
      exact Option.some.inj (hNm.symm.trans this)
    have hst : am_St Z (am_mk h (am_ak t) n.toNatClampNeg) H1 := by
      refine ⟨am_wf_mk h2.1 hn (Or.inl hak), by show Z.1 + (h.1 + 1) ≤ _; omega, ?_⟩
      rw [am_ws_push]
      refine (h2.2.2.kept (fun j x hx => o1 x.1 ((h2.2.2 j x hx).lt))).app (fun j' x hx => ?_)
      have hz : j' < 1 := (List.getElem?_eq_some_iff.mp hx).1
      rw [show j' = 0 by omega] at hx
      cases hx
      refine (hcell cA hcA).kept ?_
      simp only
      rw [← hH, e1, hdv]
      simp
    have nx := seq hs2 hv1 hv2 H1 locs ls h1 hst (am_RO_mk h2.1 hn (Or.inl hak) h3) ⟨Nat.le_trans h4.1 (by omega), fun x g1 g2 => (o1 x (Nat.lt_of_lt_of_le g1 h4.1)).trans (h4.2.1 x g1 g2), h4.2.2⟩ (am_sc rfl (am_sd h5)) (fun _ => by have := h6 (by omega); show s.heap.size + (u.1 + 1) = Z.1 + (h.1 + 1); omega)
    simp only [List.map_cons] at nx
    rw [am_t_ref (a := h.1 + 1) Z (by omega) (by omega), am_aa_lo (a := h.1 + 1) Z (by omega) hn, show Z.1 + (h.1 + 1 - 1) = H.size by omega] at nx
    exact nx
  have zI : (am_mk h (am_ak t) n.toNatClampNeg).2.2.1 (h.1 + 1) = fun _ => 0 := by funext j; simp [am_mk, am_z]
  have zJ : (am_mk h (am_ak t) n.toNatClampNeg).2.2.2.1 (h.1 + 1) = fun _ => 0 := by funext j; simp [am_mk, am_zJ]
  cases t with
  | int =>
    refine key 0 .int (.int 0) rfl (am_in_ex (List.mem_of_getElem? (i := 2) rfl)) rfl (by decide) rfl (by decide) (by decide) trivial (fun cA hcA => ?_)
    show va_at _ _ (Z.1 + h.1, am_cell Z (am_mk h 1 n.toNatClampNeg) (h.1 + 1)) _
    rw [am_cell_1 Z (am_kd_mk h 1 n.toNatClampNeg).1, hcA]
    show (Array.push H _)[Z.1 + h.1]? = some (vp_cell _ _)
    rw [(am_kd_mk h 1 n.toNatClampNeg).2, show Z.1 + h.1 = H.size by omega]
    rw [show (am_mk h 1 n.toNatClampNeg).2.2.1 (h.1 + 1) = fun _ => 0 from zI]
    simp [vp_cell]
  | long =>
    refine key 1 .long (.long 0) rfl (am_in_ex (List.mem_of_getElem? (i := 3) rfl)) rfl (by decide) rfl (by decide) (by decide) trivial (fun cA hcA => ?_)
    show va_at _ _ (Z.1 + h.1, am_cell Z (am_mk h 2 n.toNatClampNeg) (h.1 + 1)) _
    rw [am_cell_2 Z (am_kd_mk h 2 n.toNatClampNeg).1, hcA]
    show (Array.push H _)[Z.1 + h.1]? = some (vp_cell _ _)
    rw [(am_kd_mk h 2 n.toNatClampNeg).2, show Z.1 + h.1 = H.size by omega]
    rw [show (am_mk h 2 n.toNatClampNeg).2.2.2.1 (h.1 + 1) = fun _ => 0 from zJ]
    simp [vp_cell]
  | byte =>
    refine key 2 .byte (.int 0) rfl (am_in_ex (List.mem_of_getElem? (i := 4) rfl)) rfl (by decide) rfl (by decide) (by decide) trivial (fun cA hcA => ?_)
    show va_at _ _ (Z.1 + h.1, am_cell Z (am_mk h 3 n.toNatClampNeg) (h.1 + 1)) _
    rw [am_cell_3 Z (am_kd_mk h 3 n.toNatClampNeg).1, hcA]
    show (Array.push H _)[Z.1 + h.1]? = some (vp_cell _ _)
    rw [(am_kd_mk h 3 n.toNatClampNeg).2, show Z.1 + h.1 = H.size by omega]
    rw [show (am_mk h 3 n.toNatClampNeg).2.2.1 (h.1 + 1) = fun _ => 0 from zI]
    simp [vp_cell]
  | boolean =>
    refine key 3 .boolean (.int 0) rfl (am_in_ex (List.mem_of_getElem? (i := 5) rfl)) rfl (by decide) rfl (by decide) (by decide) trivial (fun cA hcA => ?_)
    show va_at _ _ (Z.1 + h.1, am_cell Z (am_mk h 4 n.toNatClampNeg) (h.1 + 1)) _
    rw [am_cell_4 Z (am_kd_mk h 4 n.toNatClampNeg).1, hcA]
    show (Array.push H _)[Z.1 + h.1]? = some (vp_cell _ _)
    rw [(am_kd_mk h 4 n.toNatClampNeg).2, show Z.1 + h.1 = H.size by omega]
    rw [show (am_mk h 4 n.toNatClampNeg).2.2.1 (h.1 + 1) = fun _ => 0 from zI]
    simp [vp_cell]
  | _ => cases hk0
end AMN
