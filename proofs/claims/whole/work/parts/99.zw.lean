/-! ===== L3: no call makes cells behind the 140th; what calls answer; the law, case by case (cases by mklw.py) ===== -/
def am_st4 (h h' : am_H) : Prop := h.1 = 140 → h'.1 = 140 ∧ h'.2.1 = h.2.1
theorem am_st4_re {h : am_H} : am_st4 h h := fun e => ⟨e, rfl⟩
theorem am_st4_tr {h h1 h2 : am_H} (p : am_st4 h h1) (q : am_st4 h1 h2) : am_st4 h h2 := fun e => ⟨(q (p e).1).1, (q (p e).1).2.trans (p e).2⟩
theorem am_st4_wI {h0 h : am_H} (hs : am_st4 h0 h) {a k : Nat} {v : Int32} : am_st4 h0 (am_wI h a k v) := hs
theorem am_st4_wJ {h0 h : am_H} (hs : am_st4 h0 h) {a k : Nat} {v : Int64} : am_st4 h0 (am_wJ h a k v) := hs
theorem am_st4_wR {h0 h : am_H} (hs : am_st4 h0 h) {a k : Nat} {v : Nat} : am_st4 h0 (am_wR h a k v) := hs
theorem am_st4_mk {h0 h : am_H} (hs : am_st4 h0 h) {kd n : Nat} (hn : h.1 + 1 ≤ 140) : am_st4 h0 (am_mk h kd n) := fun e => by have := (hs e).1; omega
theorem am_pf_st4 {ft : Nat} {v : Value} {h : am_H} {a k : Nat} {f g : am_H → Prop} (hf : ∀ h', am_st4 h h' → f h' → g h') : am_pf ft v h a k f → am_pf ft v h a k g := by
  unfold am_pf
  split
  · exact am_asI_mono fun _ => hf _ (am_st4_wI am_st4_re)
  · exact am_asI_mono fun _ => am_g_mono (hf _ (am_st4_wI am_st4_re))
  · exact am_r_mono fun _ _ => hf _ (am_st4_wR am_st4_re)
  · exact id
theorem am_st4_E {C : am_K} {co : Nat → Nat × Nat} {M : am_M} {Q : Value → am_H → Prop} (hC : am_Cm C) (hF : ∀ mid args h Q, C mid args h Q → C mid args h (fun v h' => Q v h' ∧ am_st4 h h'))
    {u : Nat × Nat} {cs : List am_W} {L : am_L} {st : List Value} {h : am_H} (k : am_E C co M Q u cs L st h) : ∀ h0, am_st4 h0 h → am_E C co M (fun v h' => Q v h' ∧ am_st4 h0 h') u cs L st h := by
  refine k (fun u cs L st h => ∀ h0, am_st4 h0 h → am_E C co M (fun v h' => Q v h' ∧ am_st4 h0 h') u cs L st h) ?_
  intro u cs L st h q h0 hs
  apply am_E_in hC
  revert q
  cases cs with
  | nil => exact id
  | cons r cs =>
    obtain ⟨pc, ins, len, i1, i2, i3, i4⟩ := r
    cases ins <;> dsimp only [am_step] <;> first
      | exact id
      | exact fun q => q h0 hs
      | exact am_i_mono fun _ _ q => q h0 hs
      | exact am_l_mono fun _ _ q => q h0 hs
      | exact am_r_mono fun _ _ q => q h0 hs
      | exact am_ii_mono fun _ _ _ q => q h0 hs
      | exact am_ll_mono fun _ _ _ q => q h0 hs
      | exact am_ii_mono fun _ _ _ => am_g_mono (fun q => q h0 hs)
      | exact am_ll_mono fun _ _ _ => am_g_mono (fun q => q h0 hs)
      | exact am_i_mono fun _ _ => am_if_mono (fun q => q h0 hs) (fun q => q h0 hs)
      | exact am_ii_mono fun _ _ _ => am_if_mono (fun q => q h0 hs) (fun q => q h0 hs)
      | exact am_i_mono fun _ _ => am_sw_mono (fun _ q => q h0 hs) _ _ _
      | exact am_r_mono fun _ _ => am_g_mono (fun q => q h0 hs)
      | exact am_ri_mono fun _ _ _ => am_g_mono (fun q => q h0 hs)
      | exact am_rii_mono fun _ _ _ _ => am_g_mono (fun q => q h0 (am_st4_wI hs))
      | exact am_ril_mono fun _ _ _ _ => am_g_mono (fun q => q h0 (am_st4_wJ hs))
      | exact am_i_mono fun _ _ => am_gb_mono (fun g q => q h0 (am_st4_mk hs (Nat.le_of_ble_eq_true (am_and_l (am_and_r g)))))
      | exact am_gb_mono (fun g q => q h0 (am_st4_mk hs (Nat.le_of_ble_eq_true (am_and_l g))))
      | exact am_arg_mono fun _ _ => am_g_mono (fun q => hC _ _ _ _ _ (fun v h' w => am_rv_mono (fun _ z => z h0 (am_st4_tr hs w.2)) w.1) (hF _ _ _ _ q))
      | exact am_arg_mono fun _ _ => am_r_mono fun _ _ => am_g_mono (fun q => hC _ _ _ _ _ (fun v h' w => am_rv_mono (fun _ z => z h0 (am_st4_tr hs w.2)) w.1) (hF _ _ _ _ q))
      | (split <;> first
          | exact id
          | exact fun q => q h0 hs
          | exact fun q => ⟨q, hs⟩
          | exact am_g_mono (fun q => q h0 hs)
          | exact am_gb_mono (fun g => am_pf_st4 (fun h' w q => q h0 (am_st4_tr hs w)))
          | exact am_g_mono (fun q => ⟨q, hs⟩)
          | (refine am_g_mono ?_; split <;> first | exact id | exact fun q => ⟨q, hs⟩ | exact am_g_mono (fun q => ⟨q, hs⟩)))
theorem am_D_st4 : ∀ (d mid : Nat) (args : List Value) (h : am_H) (Q : Value → am_H → Prop), am_D d mid args h Q → am_D d mid args h (fun v h' => Q v h' ∧ am_st4 h h')
  | 0, _, _, _, _ => id
  | d + 1, mid, args, h, Q => by
    have ih := am_D_st4 d
    show (bif Nat.ble 900 mid then am_pr (am_D d) mid args h Q else am_g (Nat.ble (am_cat args) (am_tb mid).2) (am_E (am_D d) am_co (am_tb mid).1 Q (0, 0) (am_tb mid).1.1 (am_in args (am_tb mid).2) [] h)) → (bif Nat.ble 900 mid then am_pr (am_D d) mid args h (fun v h' => Q v h' ∧ am_st4 h h') else am_g (Nat.ble (am_cat args) (am_tb mid).2) (am_E (am_D d) am_co (am_tb mid).1 (fun v h' => Q v h' ∧ am_st4 h h') (0, 0) (am_tb mid).1.1 (am_in args (am_tb mid).2) [] h))
    cases Nat.ble 900 mid
    · exact am_g_mono (fun k => am_st4_E (am_D_mono d) ih k h am_st4_re)
    · show am_pr (am_D d) mid args h Q → am_pr (am_D d) mid args h (fun v h' => Q v h' ∧ am_st4 h h')
      unfold am_pr
      cases Nat.beq mid 900
      · cases Nat.beq mid 901
        · cases Nat.beq mid 905
          · exact id
          · simp only [cond_false, cond_true]
            unfold am_f905
            split
            · exact am_g_mono (am_if_mono (am_if_mono (fun q => am_D_mono d _ _ _ _ _ (fun v h' w => am_asI_mono (fun _ z => ⟨z, am_st4_wJ w.2⟩) w.1) (ih _ _ _ _ q)) (fun q => ⟨q, am_st4_re⟩)) (fun q => ⟨q, am_st4_re⟩))
            · exact id
        · simp only [cond_false, cond_true]
          unfold am_f901
          split
          · exact am_g_mono (fun q => ⟨q, fun e => ⟨e, rfl⟩⟩)
          · exact id
      · simp only [cond_true]
        unfold am_f900
        split
        · exact fun q => ⟨q, am_st4_re⟩
        · exact id
/-! what kind of value a call answers -/
def am_kv (k : Nat) (v : Value) : Prop := k = 0 ∨ (k = 2 ∧ ∃ x, v = .long x) ∨ (k ≠ 2 ∧ ∃ x, v = .int x)
def am_kr (k : Nat) (r : am_W) : Bool := match r.2.1 with
  | .ireturn => !(Nat.beq k 2)
  | .lreturn => Nat.beq k 2
  | .return_ => Nat.beq k 0
  | _ => true
def am_krs (k : Nat) : List am_W → Bool
  | [] => true
  | r :: cs => am_kr k r && am_krs k cs
theorem am_kr_sk {k : Nat} {cs : List am_W} (h : am_krs k cs = true) {pc : Nat} : am_krs k (am_seek cs pc) = true := by
  induction cs with
  | nil => exact h
  | cons r cs ih =>
    show am_krs k (bif Nat.beq r.1 pc then r :: cs else am_seek cs pc) = true
    cases Nat.beq r.1 pc
    · exact ih (am_and_r h)
    · exact h
theorem am_kvI {k : Nat} {x : Int32} (h : (!(Nat.beq k 2)) = true) : am_kv k (.int x) := by
  refine Or.inr (Or.inr ⟨?_, x, rfl⟩)
  intro e
  subst e
  cases h
theorem am_kvL {k : Nat} {x : Int64} (h : Nat.beq k 2 = true) : am_kv k (.long x) := Or.inr (Or.inl ⟨Nat.eq_of_beq_eq_true h, x, rfl⟩)
theorem am_kvN {k : Nat} {v : Value} (h : Nat.beq k 0 = true) : am_kv k v := Or.inl (Nat.eq_of_beq_eq_true h)
theorem am_kv_E {C : am_K} {co : Nat → Nat × Nat} {M : am_M} {Q : Value → am_H → Prop} {k0 : Nat} (hC : am_Cm C) (hM : am_krs k0 M.1 = true)
    {u : Nat × Nat} {cs : List am_W} {L : am_L} {st : List Value} {h : am_H} (hcs : am_krs k0 cs = true) (k : am_E C co M Q u cs L st h) : am_E C co M (fun v h' => Q v h' ∧ am_kv k0 v) u cs L st h := by
  refine k (fun u cs L st h => am_krs k0 cs = true → am_E C co M (fun v h' => Q v h' ∧ am_kv k0 v) u cs L st h) ?_ hcs
  intro u cs L st h q hcs
  apply am_E_in hC
  revert q
  cases cs with
  | nil => exact id
  | cons r cs =>
    obtain ⟨pc, ins, len, i1, i2, i3, i4⟩ := r
    have hc : am_krs k0 cs = true := am_and_r hcs
    have hr : am_kr k0 (pc, ins, len, i1, i2, i3, i4) = true := am_and_l hcs
    cases ins <;> dsimp only [am_step] <;> first
      | exact id
      | exact fun q => q hc
      | exact am_i_mono fun _ _ q => q hc
      | exact am_l_mono fun _ _ q => q hc
      | exact am_r_mono fun _ _ q => q hc
      | exact am_ii_mono fun _ _ _ q => q hc
      | exact am_ll_mono fun _ _ _ q => q hc
      | exact am_ii_mono fun _ _ _ => am_g_mono (fun q => q hc)
      | exact am_ll_mono fun _ _ _ => am_g_mono (fun q => q hc)
      | exact fun q => q (am_kr_sk hM)
      | exact am_i_mono fun _ _ => am_if_mono (fun q => q (am_kr_sk hM)) (fun q => q hc)
      | exact am_ii_mono fun _ _ _ => am_if_mono (fun q => q (am_kr_sk hM)) (fun q => q hc)
      | exact am_i_mono fun _ _ => am_sw_mono (fun _ q => q (am_kr_sk hM)) _ _ _
      | exact am_r_mono fun _ _ => am_g_mono (fun q => q hc)
      | exact am_ri_mono fun _ _ _ => am_g_mono (fun q => q hc)
      | exact am_rii_mono fun _ _ _ _ => am_g_mono (fun q => q hc)
      | exact am_ril_mono fun _ _ _ _ => am_g_mono (fun q => q hc)
      | exact am_i_mono fun _ _ => am_g_mono (fun q => q hc)
      | exact am_g_mono (fun q => q hc)
      | exact am_arg_mono fun _ _ => am_g_mono (fun q => hC _ _ _ _ _ (fun v h' w => am_rv_mono (fun _ z => z hc) w) q)
      | exact am_arg_mono fun _ _ => am_r_mono fun _ _ => am_g_mono (fun q => hC _ _ _ _ _ (fun v h' w => am_rv_mono (fun _ z => z hc) w) q)
      | (split <;> first
          | exact id
          | exact fun q => q hc
          | exact am_g_mono (fun q => q hc)
          | exact am_g_mono (am_pf_mono (fun h' q => q hc))
          | exact am_g_mono (fun q => ⟨q, am_kvN hr⟩)
          | exact am_g_mono (fun q => ⟨q, am_kvL hr⟩)
          | (refine am_g_mono ?_; split <;> first | exact id | exact fun q => ⟨q, am_kvI hr⟩ | exact am_g_mono (fun q => ⟨q, am_kvI hr⟩)))
theorem am_kr_tb {m : Nat} (hm : m < 297) : am_krs (am_tb m).1.2.1 (am_tb m).1.1 = true := by
  have : (List.range 297).all (fun m => am_krs (am_tb m).1.2.1 (am_tb m).1.1) = true := by decide +kernel
  exact List.all_eq_true.mp this m (List.mem_range.mpr hm)
theorem am_D_kv {d mid : Nat} {args : List Value} {h : am_H} {Q : Value → am_H → Prop} (hm : mid < 297) (k : am_D d mid args h Q) : am_D d mid args h (fun v h' => Q v h' ∧ am_kv (am_tb mid).1.2.1 v) := by
  cases d with
  | zero => exact (show False from k).elim
  | succ d =>
    have hb : Nat.ble 900 mid = false := by
      cases c : Nat.ble 900 mid with
      | false => rfl
      | true => have := Nat.le_of_ble_eq_true c; omega
    have k' : (bif Nat.ble 900 mid then am_pr (am_D d) mid args h Q else am_g (Nat.ble (am_cat args) (am_tb mid).2) (am_E (am_D d) am_co (am_tb mid).1 Q (0, 0) (am_tb mid).1.1 (am_in args (am_tb mid).2) [] h)) := k
    show (bif Nat.ble 900 mid then am_pr (am_D d) mid args h (fun v h' => Q v h' ∧ am_kv (am_tb mid).1.2.1 v) else am_g (Nat.ble (am_cat args) (am_tb mid).2) (am_E (am_D d) am_co (am_tb mid).1 (fun v h' => Q v h' ∧ am_kv (am_tb mid).1.2.1 v) (0, 0) (am_tb mid).1.1 (am_in args (am_tb mid).2) [] h))
    rw [hb] at k' ⊢
    exact am_g_mono (fun q => am_kv_E (am_D_mono d) (am_kr_tb hm) (am_kr_tb hm) q) k'
/-! two calls, as the law makes them -/
theorem lw_i {k : Nat} {v : Value} (h0 : k ≠ 0) (h2 : k ≠ 2) (h : am_kv k v) : ∃ x, v = .int x := by
  rcases h with e | ⟨e, _⟩ | ⟨_, h⟩
  · exact absurd e h0
  · exact absurd e h2
  · exact h
theorem lw_l {v : Value} (h : am_kv 2 v) : ∃ x, v = .long x := by
  rcases h with e | ⟨_, h⟩ | ⟨e, _⟩
  · exact absurd e (by omega)
  · exact h
  · exact absurd rfl e
theorem lw_gd {a b x y : Nat} (h1 : a + x ≤ 601024) (h2 : b + y ≤ 7293033) : (Nat.ble (a + x) 601024 && Nat.ble (b + y) 7293033) = true := by
  rw [Nat.ble_eq_true_of_le h1, Nat.ble_eq_true_of_le h2]
  rfl
section
variable {d N : Nat} {r : am_rho} {I : Nat → Nat → Int32} {J : Nat → Nat → Int64}
theorem sty_str {R R' : Nat → Nat → Nat} {I' : Nat → Nat → Int32} {J' : Nat → Nat → Int64} (h : am_sty (am_hq N R I J) (am_hq N R' I' J')) (hi : i_str I) : i_str I' ∧ I' 2000 = I 2000 := by
  have e0 : I' 2000 = I 2000 := (h 2000 (by omega) (Or.inl rfl)).1
  have e3 : I' 2003 = I 2003 := (h 2003 (by omega) (Or.inr (Or.inr rfl))).1
  have e4 : I' 2004 = I 2004 := (h 2004 (by omega) (Or.inr (Or.inr rfl))).1
  have e5 : I' 2005 = I 2005 := (h 2005 (by omega) (Or.inr (Or.inr rfl))).1
  have f3 : I' 2013 = I 2013 := (h 2013 (by omega) (Or.inr (Or.inl rfl))).1
  have f4 : I' 2014 = I 2014 := (h 2014 (by omega) (Or.inr (Or.inl rfl))).1
  have f5 : I' 2015 = I 2015 := (h 2015 (by omega) (Or.inr (Or.inl rfl))).1
  refine ⟨?_, e0⟩
  unfold i_str
  rw [e3, e4, e5, f3, f4, f5]
  exact hi
/-- class and model, one behind the other: any heap between them -/
theorem op2_law {D mc mm : Nat} {as : List Value} {C1 : Value → am_H → Prop} (hop : op2 D N mc mm as r I J) (hmc : mc < 297) (hi : i_str I)
    (hC : ∀ v1 I1 J1 R1, am_kv (am_tb mc).1.2.1 v1 → I1 2000 = I 2000 → am_D D mm (.ref 93 :: as) (am_hq N R1 I1 J1) (fun v2 h2 => v2 = v1 ∧ ∃ r' I' J', h2 = am_hp N r' I' J' ∧ i_inv r' I' J' ∧ i_str I') → C1 v1 (am_hq N R1 I1 J1)) :
    am_D D mc (.ref 1 :: as) (am_hp N r I J) C1 := by
  have k := hop (fun v1 v2 h2 => v2 = v1 ∧ ∃ r' I' J', h2 = am_hp N r' I' J' ∧ i_inv r' I' J') (fun v r' I' J' hv => ⟨rfl, r', I', J', rfl, hv⟩)
  refine am_D_mono _ _ _ _ _ _ ?_ (am_D_kv hmc (am_D_st4 _ _ _ _ _ (am_D_sty _ _ _ _ _ k)))
  rintro v1 ⟨n1, T1, I1, J1, R1⟩ ⟨⟨⟨q, s1⟩, s4⟩, kv⟩
  obtain ⟨e1, e2⟩ := s4 rfl
  have e1' : n1 = 140 := e1
  have e2' : T1 = am_TT N := e2
  subst e1' e2'
  obtain ⟨p1, p2⟩ := sty_str (R := am_RR r) (R' := R1) s1 hi
  refine hC v1 I1 J1 R1 kv p2 ?_
  refine am_D_mono _ _ _ _ _ _ ?_ (am_D_sty _ _ _ _ _ q)
  rintro v2 h2 ⟨⟨f1, r', I', J', rfl, hv'⟩, s2⟩
  exact ⟨f1, r', I', J', rfl, hv', (sty_str (R := R1) (R' := am_RR r') s2 p1).1⟩
end
/-- on from the loop's head -/
def lw_nx (d N : Nat) (Q : Value → am_H → Prop) (ua ub i : Nat) : Prop := ∀ o5 o6 ua' ub' r' I' J', ua' ≤ ua + 8 → ub' ≤ ub + 64 → i_inv r' I' J' → i_str I' → am_VU (d + 152) Q 296 (ua', ub') 23 [some (.ref 2000), some (.ref 1), some (.ref 93), some (.ref 140), some (.int (nI i + nI 6)), am_oi o5, am_oi o6] [] (am_hp N r' I' J')
section
variable {d N ua ub i : Nat} {Q : Value → am_H → Prop} {r : am_rho} {I : Nat → Nat → Int32} {J : Nat → Nat → Int64} {o5 o6 : Option Int32}
theorem law_c192 (hi : i + 6 ≤ N) (hN : N ≤ 3072) (ha : ua ≤ 600000) (hb : ub ≤ 7000000) (hv : i_inv r I J) (hs : i_str I) (nxt : lw_nx d N Q ua ub i) : am_VU (d + 152) Q 296 (ua, ub) 192 [some (.ref 2000), some (.ref 1), some (.ref 93), some (.ref 140), some (.int (nI i)), am_oi o5, am_oi o6] [] (am_hp N r I J) := by
  rw [k_law_192, nI_add, nI_add, nI_add, nI_add, nI_add, am_gI (by omega) (by omega), am_gI (by omega) (by omega), am_gI (by omega) (by omega), am_gI (by omega) (by omega), am_gI (by omega) (by omega), nI_clamp (by omega), nI_clamp (by omega), nI_clamp (by omega), nI_clamp (by omega), nI_clamp (by omega), am_gT (lw_gd (by omega) (by omega))]
  refine op2_law (op_feed (d := d + 140) hv) (by omega) hs ?_
  intro v1 I1 J1 R1 hk h2 h
  obtain ⟨y, rfl⟩ := lw_i (by decide +kernel) (by decide +kernel) hk
  rw [am_asIe, k_law_226, nI_add, nI_add, nI_add, nI_add, nI_add, am_gI (by omega) (by omega), am_gI (by omega) (by omega), am_gI (by omega) (by omega), am_gI (by omega) (by omega), am_gI (by omega) (by omega), nI_clamp (by omega), nI_clamp (by omega), nI_clamp (by omega), nI_clamp (by omega), nI_clamp (by omega), h2, am_gT (lw_gd (by omega) (by omega))]
  refine am_D_mono _ _ _ _ _ _ ?_ h
  rintro v2 h2' ⟨rfl, r', I', J', rfl, hv', hs'⟩
  rw [am_asIe, k_law_260, am_ifd, if_pos rfl]
  exact nxt o5 o6 ua ub r' I' J' (by omega) (by omega) hv' hs'
theorem law_c265 (hi : i + 6 ≤ N) (hN : N ≤ 3072) (ha : ua ≤ 600000) (hb : ub ≤ 7000000) (hv : i_inv r I J) (hs : i_str I) (nxt : lw_nx d N Q ua ub i) : am_VU (d + 152) Q 296 (ua, ub) 265 [some (.ref 2000), some (.ref 1), some (.ref 93), some (.ref 140), some (.int (nI i)), am_oi o5, am_oi o6] [] (am_hp N r I J) := by
  rw [k_law_265, nI_add, am_gI (by omega) (by omega), nI_clamp (by omega), am_gT (lw_gd (by omega) (by omega))]
  refine op2_law (op_text (d := d) hv hs) (by omega) hs ?_
  intro v1 I1 J1 R1 hk h2 h
  obtain ⟨y, rfl⟩ := lw_i (by decide +kernel) (by decide +kernel) hk
  rw [am_asIe, k_law_275, nI_add, am_gI (by omega) (by omega), nI_clamp (by omega), h2, am_gT (lw_gd (by omega) (by omega))]
  refine am_D_mono _ _ _ _ _ _ ?_ h
  rintro v2 h2' ⟨rfl, r', I', J', rfl, hv', hs'⟩
  rw [am_asIe, k_law_285, am_ifd, if_pos rfl]
  exact nxt o5 o6 ua ub r' I' J' (by omega) (by omega) hv' hs'
theorem law_c290 (hi : i + 6 ≤ N) (hN : N ≤ 3072) (ha : ua ≤ 600000) (hb : ub ≤ 7000000) (hv : i_inv r I J) (hs : i_str I) (nxt : lw_nx d N Q ua ub i) : am_VU (d + 152) Q 296 (ua, ub) 290 [some (.ref 2000), some (.ref 1), some (.ref 93), some (.ref 140), some (.int (nI i)), am_oi o5, am_oi o6] [] (am_hp N r I J) := by
  rw [k_law_290, nI_add, am_gI (by omega) (by omega), nI_clamp (by omega), am_gT (lw_gd (by omega) (by omega))]
  refine op2_law (op_fault (d := d + 140) hv) (by omega) hs ?_
  intro v1 I1 J1 R1 hk h2 h
  obtain ⟨y, rfl⟩ := lw_i (by decide +kernel) (by decide +kernel) hk
  rw [am_asIe, k_law_300, nI_add, am_gI (by omega) (by omega), nI_clamp (by omega), h2, am_gT (lw_gd (by omega) (by omega))]
  refine am_D_mono _ _ _ _ _ _ ?_ h
  rintro v2 h2' ⟨rfl, r', I', J', rfl, hv', hs'⟩
  rw [am_asIe, k_law_310, am_ifd, if_pos rfl]
  exact nxt o5 o6 ua ub r' I' J' (by omega) (by omega) hv' hs'
theorem law_c315 (hi : i + 6 ≤ N) (hN : N ≤ 3072) (ha : ua ≤ 600000) (hb : ub ≤ 7000000) (hv : i_inv r I J) (hs : i_str I) (nxt : lw_nx d N Q ua ub i) : am_VU (d + 152) Q 296 (ua, ub) 315 [some (.ref 2000), some (.ref 1), some (.ref 93), some (.ref 140), some (.int (nI i)), am_oi o5, am_oi o6] [] (am_hp N r I J) := by
  rw [k_law_315, nI_add, nI_add, am_gI (by omega) (by omega), am_gI (by omega) (by omega), nI_clamp (by omega), nI_clamp (by omega), am_gT (lw_gd (by omega) (by omega))]
  refine op2_law (op_named (d := d + 140) hv) (by omega) hs ?_
  intro v1 I1 J1 R1 hk h2 h
  obtain ⟨y, rfl⟩ := lw_i (by decide +kernel) (by decide +kernel) hk
  rw [am_asIe, k_law_331, nI_add, nI_add, am_gI (by omega) (by omega), am_gI (by omega) (by omega), nI_clamp (by omega), nI_clamp (by omega), h2, am_gT (lw_gd (by omega) (by omega))]
  refine am_D_mono _ _ _ _ _ _ ?_ h
  rintro v2 h2' ⟨rfl, r', I', J', rfl, hv', hs'⟩
  rw [am_asIe, k_law_347, am_ifd, if_pos rfl]
  exact nxt o5 o6 ua ub r' I' J' (by omega) (by omega) hv' hs'
theorem law_c420 (hi : i + 6 ≤ N) (hN : N ≤ 3072) (ha : ua ≤ 600000) (hb : ub ≤ 7000000) (hv : i_inv r I J) (hs : i_str I) (nxt : lw_nx d N Q ua ub i) : am_VU (d + 152) Q 296 (ua, ub) 420 [some (.ref 2000), some (.ref 1), some (.ref 93), some (.ref 140), some (.int (nI i)), am_oi o5, am_oi o6] [] (am_hp N r I J) := by
  rw [k_law_420, nI_add, nI_add, am_gI (by omega) (by omega), am_gI (by omega) (by omega), nI_clamp (by omega), nI_clamp (by omega), am_gT (lw_gd (by omega) (by omega))]
  refine op2_law (op_letter (d := d + 140) hv) (by omega) hs ?_
  intro v1 I1 J1 R1 hk h2 h
  obtain ⟨y, rfl⟩ := lw_i (by decide +kernel) (by decide +kernel) hk
  rw [am_asIe, k_law_436, nI_add, nI_add, am_gI (by omega) (by omega), am_gI (by omega) (by omega), nI_clamp (by omega), nI_clamp (by omega), h2, am_gT (lw_gd (by omega) (by omega))]
  refine am_D_mono _ _ _ _ _ _ ?_ h
  rintro v2 h2' ⟨rfl, r', I', J', rfl, hv', hs'⟩
  rw [am_asIe, k_law_452, am_ifd, if_pos rfl]
  exact nxt o5 o6 ua ub r' I' J' (by omega) (by omega) hv' hs'
theorem law_c457 (hi : i + 6 ≤ N) (hN : N ≤ 3072) (ha : ua ≤ 600000) (hb : ub ≤ 7000000) (hv : i_inv r I J) (hs : i_str I) (nxt : lw_nx d N Q ua ub i) : am_VU (d + 152) Q 296 (ua, ub) 457 [some (.ref 2000), some (.ref 1), some (.ref 93), some (.ref 140), some (.int (nI i)), am_oi o5, am_oi o6] [] (am_hp N r I J) := by
  rw [k_law_457, nI_add, nI_add, am_gI (by omega) (by omega), am_gI (by omega) (by omega), nI_clamp (by omega), nI_clamp (by omega), am_gT (lw_gd (by omega) (by omega))]
  refine op2_law (op_far (d := d + 140) hv) (by omega) hs ?_
  intro v1 I1 J1 R1 hk h2 h
  obtain ⟨y, rfl⟩ := lw_i (by decide +kernel) (by decide +kernel) hk
  rw [am_asIe, k_law_473, nI_add, nI_add, am_gI (by omega) (by omega), am_gI (by omega) (by omega), nI_clamp (by omega), nI_clamp (by omega), h2, am_gT (lw_gd (by omega) (by omega))]
  refine am_D_mono _ _ _ _ _ _ ?_ h
  rintro v2 h2' ⟨rfl, r', I', J', rfl, hv', hs'⟩
  rw [am_asIe, k_law_489, am_ifd, if_pos rfl]
  exact nxt o5 o6 ua ub r' I' J' (by omega) (by omega) hv' hs'
theorem law_c494 (hi : i + 6 ≤ N) (hN : N ≤ 3072) (ha : ua ≤ 600000) (hb : ub ≤ 7000000) (hv : i_inv r I J) (hs : i_str I) (nxt : lw_nx d N Q ua ub i) : am_VU (d + 152) Q 296 (ua, ub) 494 [some (.ref 2000), some (.ref 1), some (.ref 93), some (.ref 140), some (.int (nI i)), am_oi o5, am_oi o6] [] (am_hp N r I J) := by
  rw [k_law_494, nI_add, nI_add, nI_add, am_gI (by omega) (by omega), am_gI (by omega) (by omega), am_gI (by omega) (by omega), nI_clamp (by omega), nI_clamp (by omega), nI_clamp (by omega), am_gT (lw_gd (by omega) (by omega))]
  refine op2_law (op_at (d := d + 140) hv) (by omega) hs ?_
  intro v1 I1 J1 R1 hk h2 h
  obtain ⟨y, rfl⟩ := lw_i (by decide +kernel) (by decide +kernel) hk
  rw [am_asIe, k_law_516, nI_add, nI_add, nI_add, am_gI (by omega) (by omega), am_gI (by omega) (by omega), am_gI (by omega) (by omega), nI_clamp (by omega), nI_clamp (by omega), nI_clamp (by omega), h2, am_gT (lw_gd (by omega) (by omega))]
  refine am_D_mono _ _ _ _ _ _ ?_ h
  rintro v2 h2' ⟨rfl, r', I', J', rfl, hv', hs'⟩
  rw [am_asIe, k_law_538, am_ifd, if_pos rfl]
  exact nxt o5 o6 ua ub r' I' J' (by omega) (by omega) hv' hs'
theorem law_c543 (hi : i + 6 ≤ N) (hN : N ≤ 3072) (ha : ua ≤ 600000) (hb : ub ≤ 7000000) (hv : i_inv r I J) (hs : i_str I) (nxt : lw_nx d N Q ua ub i) : am_VU (d + 152) Q 296 (ua, ub) 543 [some (.ref 2000), some (.ref 1), some (.ref 93), some (.ref 140), some (.int (nI i)), am_oi o5, am_oi o6] [] (am_hp N r I J) := by
  rw [k_law_543, nI_add, nI_add, nI_add, am_gI (by omega) (by omega), am_gI (by omega) (by omega), am_gI (by omega) (by omega), nI_clamp (by omega), nI_clamp (by omega), nI_clamp (by omega), am_gT (lw_gd (by omega) (by omega))]
  refine op2_law (op_law (d := d + 140) hv) (by omega) hs ?_
  intro v1 I1 J1 R1 hk h2 h
  obtain ⟨y, rfl⟩ := lw_l (show am_kv 2 v1 from hk)
  rw [am_asLe, k_law_565, nI_add, nI_add, nI_add, am_gI (by omega) (by omega), am_gI (by omega) (by omega), am_gI (by omega) (by omega), nI_clamp (by omega), nI_clamp (by omega), nI_clamp (by omega), h2, am_gT (lw_gd (by omega) (by omega))]
  refine am_D_mono _ _ _ _ _ _ ?_ h
  rintro v2 h2' ⟨rfl, r', I', J', rfl, hv', hs'⟩
  rw [am_asLe, k_law_587, am_ifd, if_pos ((am_lgE _ _).mpr rfl)]
  exact nxt o5 o6 ua ub r' I' J' (by omega) (by omega) hv' hs'
theorem law_c593 (hi : i + 6 ≤ N) (hN : N ≤ 3072) (ha : ua ≤ 600000) (hb : ub ≤ 7000000) (hv : i_inv r I J) (hs : i_str I) (nxt : lw_nx d N Q ua ub i) : am_VU (d + 152) Q 296 (ua, ub) 593 [some (.ref 2000), some (.ref 1), some (.ref 93), some (.ref 140), some (.int (nI i)), am_oi o5, am_oi o6] [] (am_hp N r I J) := by
  rw [k_law_593, nI_add, nI_add, am_gI (by omega) (by omega), am_gI (by omega) (by omega), nI_clamp (by omega), nI_clamp (by omega), am_gT (lw_gd (by omega) (by omega))]
  refine op2_law (op_lay (d := d + 140) hv) (by omega) hs ?_
  intro v1 I1 J1 R1 hk h2 h
  obtain ⟨y, rfl⟩ := lw_i (by decide +kernel) (by decide +kernel) hk
  rw [am_asIe, k_law_609, nI_add, nI_add, am_gI (by omega) (by omega), am_gI (by omega) (by omega), nI_clamp (by omega), nI_clamp (by omega), h2, am_gT (lw_gd (by omega) (by omega))]
  refine am_D_mono _ _ _ _ _ _ ?_ h
  rintro v2 h2' ⟨rfl, r', I', J', rfl, hv', hs'⟩
  rw [am_asIe, k_law_625, am_ifd, if_pos rfl]
  exact nxt o5 o6 ua ub r' I' J' (by omega) (by omega) hv' hs'
theorem law_c683 (hi : i + 6 ≤ N) (hN : N ≤ 3072) (ha : ua ≤ 600000) (hb : ub ≤ 7000000) (hv : i_inv r I J) (hs : i_str I) (nxt : lw_nx d N Q ua ub i) : am_VU (d + 152) Q 296 (ua, ub) 683 [some (.ref 2000), some (.ref 1), some (.ref 93), some (.ref 140), some (.int (nI i)), am_oi o5, am_oi o6] [] (am_hp N r I J) := by
  rw [k_law_683, nI_add, nI_add, am_gI (by omega) (by omega), am_gI (by omega) (by omega), nI_clamp (by omega), nI_clamp (by omega), am_gT (lw_gd (by omega) (by omega))]
  refine op2_law (op_bell (d := d + 140) hv) (by omega) hs ?_
  intro v1 I1 J1 R1 hk h2 h
  obtain ⟨y, rfl⟩ := lw_i (by decide +kernel) (by decide +kernel) hk
  rw [am_asIe, k_law_699, nI_add, nI_add, am_gI (by omega) (by omega), am_gI (by omega) (by omega), nI_clamp (by omega), nI_clamp (by omega), h2, am_gT (lw_gd (by omega) (by omega))]
  refine am_D_mono _ _ _ _ _ _ ?_ h
  rintro v2 h2' ⟨rfl, r', I', J', rfl, hv', hs'⟩
  rw [am_asIe, k_law_715, am_ifd, if_pos rfl]
  exact nxt o5 o6 ua ub r' I' J' (by omega) (by omega) hv' hs'
theorem law_c720 (hi : i + 6 ≤ N) (hN : N ≤ 3072) (ha : ua ≤ 600000) (hb : ub ≤ 7000000) (hv : i_inv r I J) (hs : i_str I) (nxt : lw_nx d N Q ua ub i) : am_VU (d + 152) Q 296 (ua, ub) 720 [some (.ref 2000), some (.ref 1), some (.ref 93), some (.ref 140), some (.int (nI i)), am_oi o5, am_oi o6] [] (am_hp N r I J) := by
  rw [k_law_720, nI_add, am_gI (by omega) (by omega), nI_clamp (by omega), am_gT (lw_gd (by omega) (by omega))]
  refine op2_law (op_hours (d := d + 140) hv) (by omega) hs ?_
  intro v1 I1 J1 R1 hk h2 h
  obtain ⟨y, rfl⟩ := lw_i (by decide +kernel) (by decide +kernel) hk
  rw [am_asIe, k_law_730, nI_add, am_gI (by omega) (by omega), nI_clamp (by omega), h2, am_gT (lw_gd (by omega) (by omega))]
  refine am_D_mono _ _ _ _ _ _ ?_ h
  rintro v2 h2' ⟨rfl, r', I', J', rfl, hv', hs'⟩
  rw [am_asIe, k_law_740, am_ifd, if_pos rfl]
  exact nxt o5 o6 ua ub r' I' J' (by omega) (by omega) hv' hs'
theorem law_c745 (hi : i + 6 ≤ N) (hN : N ≤ 3072) (ha : ua ≤ 600000) (hb : ub ≤ 7000000) (hv : i_inv r I J) (hs : i_str I) (nxt : lw_nx d N Q ua ub i) : am_VU (d + 152) Q 296 (ua, ub) 745 [some (.ref 2000), some (.ref 1), some (.ref 93), some (.ref 140), some (.int (nI i)), am_oi o5, am_oi o6] [] (am_hp N r I J) := by
  rw [k_law_745, nI_add, nI_add, am_gI (by omega) (by omega), am_gI (by omega) (by omega), nI_clamp (by omega), nI_clamp (by omega), am_gT (lw_gd (by omega) (by omega))]
  refine op2_law (op_where (d := d + 140) hv) (by omega) hs ?_
  intro v1 I1 J1 R1 hk h2 h
  obtain ⟨y, rfl⟩ := lw_i (by decide +kernel) (by decide +kernel) hk
  rw [am_asIe, k_law_761, nI_add, nI_add, am_gI (by omega) (by omega), am_gI (by omega) (by omega), nI_clamp (by omega), nI_clamp (by omega), h2, am_gT (lw_gd (by omega) (by omega))]
  refine am_D_mono _ _ _ _ _ _ ?_ h
  rintro v2 h2' ⟨rfl, r', I', J', rfl, hv', hs'⟩
  rw [am_asIe, k_law_777, am_ifd, if_pos rfl]
  exact nxt o5 o6 ua ub r' I' J' (by omega) (by omega) hv' hs'
theorem law_c782 (hi : i + 6 ≤ N) (hN : N ≤ 3072) (ha : ua ≤ 600000) (hb : ub ≤ 7000000) (hv : i_inv r I J) (hs : i_str I) (nxt : lw_nx d N Q ua ub i) : am_VU (d + 152) Q 296 (ua, ub) 782 [some (.ref 2000), some (.ref 1), some (.ref 93), some (.ref 140), some (.int (nI i)), am_oi o5, am_oi o6] [] (am_hp N r I J) := by
  rw [k_law_782, nI_add, am_gI (by omega) (by omega), nI_clamp (by omega), am_gT (lw_gd (by omega) (by omega))]
  refine op2_law (op_match (d := d + 136) hv) (by omega) hs ?_
  intro v1 I1 J1 R1 hk h2 h
  obtain ⟨y, rfl⟩ := lw_i (by decide +kernel) (by decide +kernel) hk
  rw [am_asIe, k_law_792, nI_add, am_gI (by omega) (by omega), nI_clamp (by omega), h2, am_gT (lw_gd (by omega) (by omega))]
  refine am_D_mono _ _ _ _ _ _ ?_ h
  rintro v2 h2' ⟨rfl, r', I', J', rfl, hv', hs'⟩
  rw [am_asIe, k_law_802, am_ifd, if_pos rfl]
  exact nxt o5 o6 ua ub r' I' J' (by omega) (by omega) hv' hs'
theorem law_c807 (hi : i + 6 ≤ N) (hN : N ≤ 3072) (ha : ua ≤ 600000) (hb : ub ≤ 7000000) (hv : i_inv r I J) (hs : i_str I) (nxt : lw_nx d N Q ua ub i) : am_VU (d + 152) Q 296 (ua, ub) 807 [some (.ref 2000), some (.ref 1), some (.ref 93), some (.ref 140), some (.int (nI i)), am_oi o5, am_oi o6] [] (am_hp N r I J) := by
  rw [k_law_807, nI_add, nI_add, nI_add, am_gI (by omega) (by omega), am_gI (by omega) (by omega), am_gI (by omega) (by omega), nI_clamp (by omega), nI_clamp (by omega), nI_clamp (by omega), am_gT (lw_gd (by omega) (by omega))]
  refine op2_law (op_lead (d := d + 140) hv) (by omega) hs ?_
  intro v1 I1 J1 R1 hk h2 h
  obtain ⟨y, rfl⟩ := lw_i (by decide +kernel) (by decide +kernel) hk
  rw [am_asIe, k_law_829, nI_add, nI_add, nI_add, am_gI (by omega) (by omega), am_gI (by omega) (by omega), am_gI (by omega) (by omega), nI_clamp (by omega), nI_clamp (by omega), nI_clamp (by omega), h2, am_gT (lw_gd (by omega) (by omega))]
  refine am_D_mono _ _ _ _ _ _ ?_ h
  rintro v2 h2' ⟨rfl, r', I', J', rfl, hv', hs'⟩
  rw [am_asIe, k_law_851, am_ifd, if_pos rfl]
  exact nxt o5 o6 ua ub r' I' J' (by omega) (by omega) hv' hs'
theorem law_c856 (hi : i + 6 ≤ N) (hN : N ≤ 3072) (ha : ua ≤ 600000) (hb : ub ≤ 7000000) (hv : i_inv r I J) (hs : i_str I) (nxt : lw_nx d N Q ua ub i) : am_VU (d + 152) Q 296 (ua, ub) 856 [some (.ref 2000), some (.ref 1), some (.ref 93), some (.ref 140), some (.int (nI i)), am_oi o5, am_oi o6] [] (am_hp N r I J) := by
  rw [k_law_856, nI_add, am_gI (by omega) (by omega), nI_clamp (by omega), am_gT (lw_gd (by omega) (by omega))]
  refine op2_law (op_chain (d := d + 140) hv) (by omega) hs ?_
  intro v1 I1 J1 R1 hk h2 h
  obtain ⟨y, rfl⟩ := lw_i (by decide +kernel) (by decide +kernel) hk
  rw [am_asIe, k_law_866, nI_add, am_gI (by omega) (by omega), nI_clamp (by omega), h2, am_gT (lw_gd (by omega) (by omega))]
  refine am_D_mono _ _ _ _ _ _ ?_ h
  rintro v2 h2' ⟨rfl, r', I', J', rfl, hv', hs'⟩
  rw [am_asIe, k_law_876, am_ifd, if_pos rfl]
  exact nxt o5 o6 ua ub r' I' J' (by omega) (by omega) hv' hs'
theorem law_c881 (hi : i + 6 ≤ N) (hN : N ≤ 3072) (ha : ua ≤ 600000) (hb : ub ≤ 7000000) (hv : i_inv r I J) (hs : i_str I) (nxt : lw_nx d N Q ua ub i) : am_VU (d + 152) Q 296 (ua, ub) 881 [some (.ref 2000), some (.ref 1), some (.ref 93), some (.ref 140), some (.int (nI i)), am_oi o5, am_oi o6] [] (am_hp N r I J) := by
  rw [k_law_881, nI_add, nI_add, am_gI (by omega) (by omega), am_gI (by omega) (by omega), nI_clamp (by omega), nI_clamp (by omega), am_gT (lw_gd (by omega) (by omega))]
  refine op2_law (op_meet (d := d + 140) hv) (by omega) hs ?_
  intro v1 I1 J1 R1 hk h2 h
  obtain ⟨y, rfl⟩ := lw_i (by decide +kernel) (by decide +kernel) hk
  rw [am_asIe, k_law_897, nI_add, nI_add, am_gI (by omega) (by omega), am_gI (by omega) (by omega), nI_clamp (by omega), nI_clamp (by omega), h2, am_gT (lw_gd (by omega) (by omega))]
  refine am_D_mono _ _ _ _ _ _ ?_ h
  rintro v2 h2' ⟨rfl, r', I', J', rfl, hv', hs'⟩
  rw [am_asIe, k_law_913, am_ifd, if_pos rfl]
  exact nxt o5 o6 ua ub r' I' J' (by omega) (by omega) hv' hs'
theorem law_c918 (hi : i + 6 ≤ N) (hN : N ≤ 3072) (ha : ua ≤ 600000) (hb : ub ≤ 7000000) (hv : i_inv r I J) (hs : i_str I) (nxt : lw_nx d N Q ua ub i) : am_VU (d + 152) Q 296 (ua, ub) 918 [some (.ref 2000), some (.ref 1), some (.ref 93), some (.ref 140), some (.int (nI i)), am_oi o5, am_oi o6] [] (am_hp N r I J) := by
  rw [k_law_918, nI_add, nI_add, nI_add, am_gI (by omega) (by omega), am_gI (by omega) (by omega), am_gI (by omega) (by omega), nI_clamp (by omega), nI_clamp (by omega), nI_clamp (by omega), am_gT (lw_gd (by omega) (by omega))]
  refine op2_law (op_sight (d := d + 140) hv) (by omega) hs ?_
  intro v1 I1 J1 R1 hk h2 h
  obtain ⟨y, rfl⟩ := lw_i (by decide +kernel) (by decide +kernel) hk
  rw [am_asIe, k_law_940, nI_add, nI_add, nI_add, am_gI (by omega) (by omega), am_gI (by omega) (by omega), am_gI (by omega) (by omega), nI_clamp (by omega), nI_clamp (by omega), nI_clamp (by omega), h2, am_gT (lw_gd (by omega) (by omega))]
  refine am_D_mono _ _ _ _ _ _ ?_ h
  rintro v2 h2' ⟨rfl, r', I', J', rfl, hv', hs'⟩
  rw [am_asIe, k_law_962, am_ifd, if_pos rfl]
  exact nxt o5 o6 ua ub r' I' J' (by omega) (by omega) hv' hs'
theorem law_c967 (hi : i + 6 ≤ N) (hN : N ≤ 3072) (ha : ua ≤ 600000) (hb : ub ≤ 7000000) (hv : i_inv r I J) (hs : i_str I) (nxt : lw_nx d N Q ua ub i) : am_VU (d + 152) Q 296 (ua, ub) 967 [some (.ref 2000), some (.ref 1), some (.ref 93), some (.ref 140), some (.int (nI i)), am_oi o5, am_oi o6] [] (am_hp N r I J) := by
  rw [k_law_967, nI_add, am_gI (by omega) (by omega), nI_clamp (by omega), am_gT (lw_gd (by omega) (by omega))]
  refine op2_law (op_strike (d := d + 140) hv) (by omega) hs ?_
  intro v1 I1 J1 R1 hk h2 h
  obtain ⟨y, rfl⟩ := lw_i (by decide +kernel) (by decide +kernel) hk
  rw [am_asIe, k_law_977, nI_add, am_gI (by omega) (by omega), nI_clamp (by omega), h2, am_gT (lw_gd (by omega) (by omega))]
  refine am_D_mono _ _ _ _ _ _ ?_ h
  rintro v2 h2' ⟨rfl, r', I', J', rfl, hv', hs'⟩
  rw [am_asIe, k_law_987, am_ifd, if_pos rfl]
  exact nxt o5 o6 ua ub r' I' J' (by omega) (by omega) hv' hs'
theorem law_c992 (hi : i + 6 ≤ N) (hN : N ≤ 3072) (ha : ua ≤ 600000) (hb : ub ≤ 7000000) (hv : i_inv r I J) (hs : i_str I) (nxt : lw_nx d N Q ua ub i) : am_VU (d + 152) Q 296 (ua, ub) 992 [some (.ref 2000), some (.ref 1), some (.ref 93), some (.ref 140), some (.int (nI i)), am_oi o5, am_oi o6] [] (am_hp N r I J) := by
  rw [k_law_992, nI_add, am_gI (by omega) (by omega), nI_clamp (by omega), am_gT (lw_gd (by omega) (by omega))]
  refine op2_law (op_known (d := d + 140) hv) (by omega) hs ?_
  intro v1 I1 J1 R1 hk h2 h
  obtain ⟨y, rfl⟩ := lw_i (by decide +kernel) (by decide +kernel) hk
  rw [am_asIe, k_law_1002, nI_add, am_gI (by omega) (by omega), nI_clamp (by omega), h2, am_gT (lw_gd (by omega) (by omega))]
  refine am_D_mono _ _ _ _ _ _ ?_ h
  rintro v2 h2' ⟨rfl, r', I', J', rfl, hv', hs'⟩
  rw [am_asIe, k_law_1012, am_ifd, if_pos rfl]
  exact nxt o5 o6 ua ub r' I' J' (by omega) (by omega) hv' hs'
theorem law_c1017 (hi : i + 6 ≤ N) (hN : N ≤ 3072) (ha : ua ≤ 600000) (hb : ub ≤ 7000000) (hv : i_inv r I J) (hs : i_str I) (nxt : lw_nx d N Q ua ub i) : am_VU (d + 152) Q 296 (ua, ub) 1017 [some (.ref 2000), some (.ref 1), some (.ref 93), some (.ref 140), some (.int (nI i)), am_oi o5, am_oi o6] [] (am_hp N r I J) := by
  rw [k_law_1017, nI_add, am_gI (by omega) (by omega), nI_clamp (by omega), am_gT (lw_gd (by omega) (by omega))]
  refine op2_law (op_dreamt (d := d + 140) hv) (by omega) hs ?_
  intro v1 I1 J1 R1 hk h2 h
  obtain ⟨y, rfl⟩ := lw_i (by decide +kernel) (by decide +kernel) hk
  rw [am_asIe, k_law_1027, nI_add, am_gI (by omega) (by omega), nI_clamp (by omega), h2, am_gT (lw_gd (by omega) (by omega))]
  refine am_D_mono _ _ _ _ _ _ ?_ h
  rintro v2 h2' ⟨rfl, r', I', J', rfl, hv', hs'⟩
  rw [am_asIe, k_law_1037, am_ifd, if_pos rfl]
  exact nxt o5 o6 ua ub r' I' J' (by omega) (by omega) hv' hs'
theorem law_c1042 (hi : i + 6 ≤ N) (hN : N ≤ 3072) (ha : ua ≤ 600000) (hb : ub ≤ 7000000) (hv : i_inv r I J) (hs : i_str I) (nxt : lw_nx d N Q ua ub i) : am_VU (d + 152) Q 296 (ua, ub) 1042 [some (.ref 2000), some (.ref 1), some (.ref 93), some (.ref 140), some (.int (nI i)), am_oi o5, am_oi o6] [] (am_hp N r I J) := by
  rw [k_law_1042, nI_add, nI_add, am_gI (by omega) (by omega), am_gI (by omega) (by omega), nI_clamp (by omega), nI_clamp (by omega), am_gT (lw_gd (by omega) (by omega))]
  refine op2_law (op_tells (d := d + 140) hv) (by omega) hs ?_
  intro v1 I1 J1 R1 hk h2 h
  obtain ⟨y, rfl⟩ := lw_i (by decide +kernel) (by decide +kernel) hk
  rw [am_asIe, k_law_1058, nI_add, nI_add, am_gI (by omega) (by omega), am_gI (by omega) (by omega), nI_clamp (by omega), nI_clamp (by omega), h2, am_gT (lw_gd (by omega) (by omega))]
  refine am_D_mono _ _ _ _ _ _ ?_ h
  rintro v2 h2' ⟨rfl, r', I', J', rfl, hv', hs'⟩
  rw [am_asIe, k_law_1074, am_ifd, if_pos rfl]
  exact nxt o5 o6 ua ub r' I' J' (by omega) (by omega) hv' hs'
theorem law_c1079 (hi : i + 6 ≤ N) (hN : N ≤ 3072) (ha : ua ≤ 600000) (hb : ub ≤ 7000000) (hv : i_inv r I J) (hs : i_str I) (nxt : lw_nx d N Q ua ub i) : am_VU (d + 152) Q 296 (ua, ub) 1079 [some (.ref 2000), some (.ref 1), some (.ref 93), some (.ref 140), some (.int (nI i)), am_oi o5, am_oi o6] [] (am_hp N r I J) := by
  rw [k_law_1079, nI_add, nI_add, am_gI (by omega) (by omega), am_gI (by omega) (by omega), nI_clamp (by omega), nI_clamp (by omega), am_gT (lw_gd (by omega) (by omega))]
  refine op2_law (op_rests (d := d + 140) hv) (by omega) hs ?_
  intro v1 I1 J1 R1 hk h2 h
  obtain ⟨y, rfl⟩ := lw_i (by decide +kernel) (by decide +kernel) hk
  rw [am_asIe, k_law_1095, nI_add, nI_add, am_gI (by omega) (by omega), am_gI (by omega) (by omega), nI_clamp (by omega), nI_clamp (by omega), h2, am_gT (lw_gd (by omega) (by omega))]
  refine am_D_mono _ _ _ _ _ _ ?_ h
  rintro v2 h2' ⟨rfl, r', I', J', rfl, hv', hs'⟩
  rw [am_asIe, k_law_1111, am_ifd, if_pos rfl]
  exact nxt o5 o6 ua ub r' I' J' (by omega) (by omega) hv' hs'
theorem law_c1116 (hi : i + 6 ≤ N) (hN : N ≤ 3072) (ha : ua ≤ 600000) (hb : ub ≤ 7000000) (hv : i_inv r I J) (hs : i_str I) (nxt : lw_nx d N Q ua ub i) : am_VU (d + 152) Q 296 (ua, ub) 1116 [some (.ref 2000), some (.ref 1), some (.ref 93), some (.ref 140), some (.int (nI i)), am_oi o5, am_oi o6] [] (am_hp N r I J) := by
  rw [k_law_1116, nI_add, nI_add, nI_add, am_gI (by omega) (by omega), am_gI (by omega) (by omega), am_gI (by omega) (by omega), nI_clamp (by omega), nI_clamp (by omega), nI_clamp (by omega), am_gT (lw_gd (by omega) (by omega))]
  refine op2_law (op_rest (d := d + 140) hv) (by omega) hs ?_
  intro v1 I1 J1 R1 hk h2 h
  obtain ⟨y, rfl⟩ := lw_i (by decide +kernel) (by decide +kernel) hk
  rw [am_asIe, k_law_1138, nI_add, nI_add, nI_add, am_gI (by omega) (by omega), am_gI (by omega) (by omega), am_gI (by omega) (by omega), nI_clamp (by omega), nI_clamp (by omega), nI_clamp (by omega), h2, am_gT (lw_gd (by omega) (by omega))]
  refine am_D_mono _ _ _ _ _ _ ?_ h
  rintro v2 h2' ⟨rfl, r', I', J', rfl, hv', hs'⟩
  rw [am_asIe, k_law_1160, am_ifd, if_pos rfl]
  exact nxt o5 o6 ua ub r' I' J' (by omega) (by omega) hv' hs'
theorem law_c1165 (hi : i + 6 ≤ N) (hN : N ≤ 3072) (ha : ua ≤ 600000) (hb : ub ≤ 7000000) (hv : i_inv r I J) (hs : i_str I) (nxt : lw_nx d N Q ua ub i) : am_VU (d + 152) Q 296 (ua, ub) 1165 [some (.ref 2000), some (.ref 1), some (.ref 93), some (.ref 140), some (.int (nI i)), am_oi o5, am_oi o6] [] (am_hp N r I J) := by
  rw [k_law_1165, nI_add, am_gI (by omega) (by omega), nI_clamp (by omega), am_gT (lw_gd (by omega) (by omega))]
  refine op2_law (op_brought (d := d + 140) hv) (by omega) hs ?_
  intro v1 I1 J1 R1 hk h2 h
  obtain ⟨y, rfl⟩ := lw_i (by decide +kernel) (by decide +kernel) hk
  rw [am_asIe, k_law_1175, nI_add, am_gI (by omega) (by omega), nI_clamp (by omega), h2, am_gT (lw_gd (by omega) (by omega))]
  refine am_D_mono _ _ _ _ _ _ ?_ h
  rintro v2 h2' ⟨rfl, r', I', J', rfl, hv', hs'⟩
  rw [am_asIe, k_law_1185, am_ifd, if_pos rfl]
  exact nxt o5 o6 ua ub r' I' J' (by omega) (by omega) hv' hs'
theorem law_c1190 (hi : i + 6 ≤ N) (hN : N ≤ 3072) (ha : ua ≤ 600000) (hb : ub ≤ 7000000) (hv : i_inv r I J) (hs : i_str I) (nxt : lw_nx d N Q ua ub i) : am_VU (d + 152) Q 296 (ua, ub) 1190 [some (.ref 2000), some (.ref 1), some (.ref 93), some (.ref 140), some (.int (nI i)), am_oi o5, am_oi o6] [] (am_hp N r I J) := by
  rw [k_law_1190, nI_add, am_gI (by omega) (by omega), nI_clamp (by omega), am_gT (lw_gd (by omega) (by omega))]
  refine op2_law (op_cost (d := d + 138) hv) (by omega) hs ?_
  intro v1 I1 J1 R1 hk h2 h
  obtain ⟨y, rfl⟩ := lw_i (by decide +kernel) (by decide +kernel) hk
  rw [am_asIe, k_law_1200, nI_add, am_gI (by omega) (by omega), nI_clamp (by omega), h2, am_gT (lw_gd (by omega) (by omega))]
  refine am_D_mono _ _ _ _ _ _ ?_ h
  rintro v2 h2' ⟨rfl, r', I', J', rfl, hv', hs'⟩
  rw [am_asIe, k_law_1210, am_ifd, if_pos rfl]
  exact nxt o5 o6 ua ub r' I' J' (by omega) (by omega) hv' hs'
theorem law_c1215 (hi : i + 6 ≤ N) (hN : N ≤ 3072) (ha : ua ≤ 600000) (hb : ub ≤ 7000000) (hv : i_inv r I J) (hs : i_str I) (nxt : lw_nx d N Q ua ub i) : am_VU (d + 152) Q 296 (ua, ub) 1215 [some (.ref 2000), some (.ref 1), some (.ref 93), some (.ref 140), some (.int (nI i)), am_oi o5, am_oi o6] [] (am_hp N r I J) := by
  rw [k_law_1215, am_gT (lw_gd (by omega) (by omega))]
  refine op2_law (op_need (d := d + 138) hv) (by omega) hs ?_
  intro v1 I1 J1 R1 hk h2 h
  obtain ⟨y, rfl⟩ := lw_i (by decide +kernel) (by decide +kernel) hk
  rw [am_asIe, k_law_1219, am_gT (lw_gd (by omega) (by omega))]
  refine am_D_mono _ _ _ _ _ _ ?_ h
  rintro v2 h2' ⟨rfl, r', I', J', rfl, hv', hs'⟩
  rw [am_asIe, k_law_1223, am_ifd, if_pos rfl]
  exact nxt o5 o6 ua ub r' I' J' (by omega) (by omega) hv' hs'
theorem law_c1228 (hi : i + 6 ≤ N) (hN : N ≤ 3072) (ha : ua ≤ 600000) (hb : ub ≤ 7000000) (hv : i_inv r I J) (hs : i_str I) (nxt : lw_nx d N Q ua ub i) : am_VU (d + 152) Q 296 (ua, ub) 1228 [some (.ref 2000), some (.ref 1), some (.ref 93), some (.ref 140), some (.int (nI i)), am_oi o5, am_oi o6] [] (am_hp N r I J) := by
  rw [k_law_1228, nI_add, nI_add, nI_add, am_gI (by omega) (by omega), am_gI (by omega) (by omega), am_gI (by omega) (by omega), nI_clamp (by omega), nI_clamp (by omega), nI_clamp (by omega), am_gT (lw_gd (by omega) (by omega))]
  refine op2_law (op_chance (d := d + 140) hv) (by omega) hs ?_
  intro v1 I1 J1 R1 hk h2 h
  obtain ⟨y, rfl⟩ := lw_i (by decide +kernel) (by decide +kernel) hk
  rw [am_asIe, k_law_1250, nI_add, nI_add, nI_add, am_gI (by omega) (by omega), am_gI (by omega) (by omega), am_gI (by omega) (by omega), nI_clamp (by omega), nI_clamp (by omega), nI_clamp (by omega), h2, am_gT (lw_gd (by omega) (by omega))]
  refine am_D_mono _ _ _ _ _ _ ?_ h
  rintro v2 h2' ⟨rfl, r', I', J', rfl, hv', hs'⟩
  rw [am_asIe, k_law_1272, am_ifd, if_pos rfl]
  exact nxt o5 o6 ua ub r' I' J' (by omega) (by omega) hv' hs'
theorem law_c1277 (hi : i + 6 ≤ N) (hN : N ≤ 3072) (ha : ua ≤ 600000) (hb : ub ≤ 7000000) (hv : i_inv r I J) (hs : i_str I) (nxt : lw_nx d N Q ua ub i) : am_VU (d + 152) Q 296 (ua, ub) 1277 [some (.ref 2000), some (.ref 1), some (.ref 93), some (.ref 140), some (.int (nI i)), am_oi o5, am_oi o6] [] (am_hp N r I J) := by
  rw [k_law_1277, nI_add, nI_add, am_gI (by omega) (by omega), am_gI (by omega) (by omega), nI_clamp (by omega), nI_clamp (by omega), am_gT (lw_gd (by omega) (by omega))]
  refine op2_law (op_tried (d := d + 140) hv) (by omega) hs ?_
  intro v1 I1 J1 R1 hk h2 h
  obtain ⟨y, rfl⟩ := lw_i (by decide +kernel) (by decide +kernel) hk
  rw [am_asIe, k_law_1293, nI_add, nI_add, am_gI (by omega) (by omega), am_gI (by omega) (by omega), nI_clamp (by omega), nI_clamp (by omega), h2, am_gT (lw_gd (by omega) (by omega))]
  refine am_D_mono _ _ _ _ _ _ ?_ h
  rintro v2 h2' ⟨rfl, r', I', J', rfl, hv', hs'⟩
  rw [am_asIe, k_law_1309, am_ifd, if_pos rfl]
  exact nxt o5 o6 ua ub r' I' J' (by omega) (by omega) hv' hs'
theorem law_c1314 (hi : i + 6 ≤ N) (hN : N ≤ 3072) (ha : ua ≤ 600000) (hb : ub ≤ 7000000) (hv : i_inv r I J) (hs : i_str I) (nxt : lw_nx d N Q ua ub i) : am_VU (d + 152) Q 296 (ua, ub) 1314 [some (.ref 2000), some (.ref 1), some (.ref 93), some (.ref 140), some (.int (nI i)), am_oi o5, am_oi o6] [] (am_hp N r I J) := by
  rw [k_law_1314, am_gT (lw_gd (by omega) (by omega))]
  refine op2_law (op_undo (d := d + 140) hv) (by omega) hs ?_
  intro v1 I1 J1 R1 hk h2 h
  obtain ⟨y, rfl⟩ := lw_i (by decide +kernel) (by decide +kernel) hk
  rw [am_asIe, k_law_1318, am_gT (lw_gd (by omega) (by omega))]
  refine am_D_mono _ _ _ _ _ _ ?_ h
  rintro v2 h2' ⟨rfl, r', I', J', rfl, hv', hs'⟩
  rw [am_asIe, k_law_1322, am_ifd, if_pos rfl]
  exact nxt o5 o6 ua ub r' I' J' (by omega) (by omega) hv' hs'
theorem law_c1327 (hi : i + 6 ≤ N) (hN : N ≤ 3072) (ha : ua ≤ 600000) (hb : ub ≤ 7000000) (hv : i_inv r I J) (hs : i_str I) (nxt : lw_nx d N Q ua ub i) : am_VU (d + 152) Q 296 (ua, ub) 1327 [some (.ref 2000), some (.ref 1), some (.ref 93), some (.ref 140), some (.int (nI i)), am_oi o5, am_oi o6] [] (am_hp N r I J) := by
  rw [k_law_1327, am_gT (lw_gd (by omega) (by omega))]
  refine op2_law (op_keep (d := d + 140) hv) (by omega) hs ?_
  intro v1 I1 J1 R1 hk h2 h
  obtain ⟨y, rfl⟩ := lw_i (by decide +kernel) (by decide +kernel) hk
  rw [am_asIe, k_law_1331, am_gT (lw_gd (by omega) (by omega))]
  refine am_D_mono _ _ _ _ _ _ ?_ h
  rintro v2 h2' ⟨rfl, r', I', J', rfl, hv', hs'⟩
  rw [am_asIe, k_law_1335, am_ifd, if_pos rfl]
  exact nxt o5 o6 ua ub r' I' J' (by omega) (by omega) hv' hs'
theorem law_c1340 (hi : i + 6 ≤ N) (hN : N ≤ 3072) (ha : ua ≤ 600000) (hb : ub ≤ 7000000) (hv : i_inv r I J) (hs : i_str I) (nxt : lw_nx d N Q ua ub i) : am_VU (d + 152) Q 296 (ua, ub) 1340 [some (.ref 2000), some (.ref 1), some (.ref 93), some (.ref 140), some (.int (nI i)), am_oi o5, am_oi o6] [] (am_hp N r I J) := by
  rw [k_law_1340, am_gT (lw_gd (by omega) (by omega))]
  refine op2_law (op_back (d := d + 140) hv) (by omega) hs ?_
  intro v1 I1 J1 R1 hk h2 h
  obtain ⟨y, rfl⟩ := lw_i (by decide +kernel) (by decide +kernel) hk
  rw [am_asIe, k_law_1344, am_gT (lw_gd (by omega) (by omega))]
  refine am_D_mono _ _ _ _ _ _ ?_ h
  rintro v2 h2' ⟨rfl, r', I', J', rfl, hv', hs'⟩
  rw [am_asIe, k_law_1348, am_ifd, if_pos rfl]
  exact nxt o5 o6 ua ub r' I' J' (by omega) (by omega) hv' hs'
theorem law_c1353 (hi : i + 6 ≤ N) (hN : N ≤ 3072) (ha : ua ≤ 600000) (hb : ub ≤ 7000000) (hv : i_inv r I J) (hs : i_str I) (nxt : lw_nx d N Q ua ub i) : am_VU (d + 152) Q 296 (ua, ub) 1353 [some (.ref 2000), some (.ref 1), some (.ref 93), some (.ref 140), some (.int (nI i)), am_oi o5, am_oi o6] [] (am_hp N r I J) := by
  rw [k_law_1353, nI_add, am_gI (by omega) (by omega), nI_clamp (by omega), am_gT (lw_gd (by omega) (by omega))]
  refine op2_law (op_count (d := d + 140) hv) (by omega) hs ?_
  intro v1 I1 J1 R1 hk h2 h
  obtain ⟨y, rfl⟩ := lw_i (by decide +kernel) (by decide +kernel) hk
  rw [am_asIe, k_law_1363, nI_add, am_gI (by omega) (by omega), nI_clamp (by omega), h2, am_gT (lw_gd (by omega) (by omega))]
  refine am_D_mono _ _ _ _ _ _ ?_ h
  rintro v2 h2' ⟨rfl, r', I', J', rfl, hv', hs'⟩
  rw [am_asIe, k_law_1373, am_ifd, if_pos rfl]
  exact nxt o5 o6 ua ub r' I' J' (by omega) (by omega) hv' hs'
theorem law_c630 (hi : i + 6 ≤ N) (hN : N ≤ 3072) (ha : ua ≤ 600000) (hb : ub ≤ 7000000) (hv : i_inv r I J) (hs : i_str I) (nxt : lw_nx d N Q ua ub i) : am_VU (d + 152) Q 296 (ua, ub) 630 [some (.ref 2000), some (.ref 1), some (.ref 93), some (.ref 140), some (.int (nI i)), am_oi o5, am_oi o6] [] (am_hp N r I J) := by
  rw [k_law_630, nI_add, nI_add, am_gI (by omega) (by omega), am_gI (by omega) (by omega), nI_clamp (by omega), nI_clamp (by omega), am_ifd]
  by_cases c : I 2000 (i + 2) = nI 0
  · rw [if_pos c, am_gT (lw_gd (by omega) (by omega))]
    refine op2_law (op_lit (d := d + 140) (b := false) hv) (by omega) hs ?_
    intro v1 I1 J1 R1 hk h2 h
    obtain ⟨y, rfl⟩ := lw_i (by decide +kernel) (by decide +kernel) hk
    rw [am_asIe, k_law_654, nI_add, nI_add, am_gI (by omega) (by omega), am_gI (by omega) (by omega), nI_clamp (by omega), nI_clamp (by omega), am_ifd, h2, if_pos c, am_gT (lw_gd (by omega) (by omega))]
    refine am_D_mono _ _ _ _ _ _ ?_ h
    rintro v2 h2' ⟨rfl, r', I', J', rfl, hv', hs'⟩
    rw [am_asIe, k_law_678, am_ifd, if_pos rfl]
    exact nxt o5 o6 ua ub r' I' J' (by omega) (by omega) hv' hs'
  · rw [if_neg c, am_gT (lw_gd (by omega) (by omega))]
    refine op2_law (op_lit (d := d + 140) (b := true) hv) (by omega) hs ?_
    intro v1 I1 J1 R1 hk h2 h
    obtain ⟨y, rfl⟩ := lw_i (by decide +kernel) (by decide +kernel) hk
    rw [am_asIe, k_law_654, nI_add, nI_add, am_gI (by omega) (by omega), am_gI (by omega) (by omega), nI_clamp (by omega), nI_clamp (by omega), am_ifd, h2, if_neg c, am_gT (lw_gd (by omega) (by omega))]
    refine am_D_mono _ _ _ _ _ _ ?_ h
    rintro v2 h2' ⟨rfl, r', I', J', rfl, hv', hs'⟩
    rw [am_asIe, k_law_678, am_ifd, if_pos rfl]
    exact nxt o5 o6 ua ub r' I' J' (by omega) (by omega) hv' hs'
theorem law_c352 (hi : i + 6 ≤ N) (hN : N ≤ 3072) (ha : ua ≤ 600000) (hb : ub ≤ 7000000) (hv : i_inv r I J) (hs : i_str I) (nxt : lw_nx d N Q ua ub i) : am_VU (d + 152) Q 296 (ua, ub) 352 [some (.ref 2000), some (.ref 1), some (.ref 93), some (.ref 140), some (.int (nI i)), am_oi o5, am_oi o6] [] (am_hp N r I J) := by
  rw [k_law_352, nI_add, nI_add, am_gI (by omega) (by omega), am_gI (by omega) (by omega), nI_clamp (by omega), nI_clamp (by omega), am_gT (lw_gd (by omega) (by omega))]
  refine op_look (d := d + 149) hv ?_
  intro k y J1 e1 e2 hm
  rw [am_asIe, k_law_369, nI_add, nI_add, am_gI (by omega) (by omega), am_gI (by omega) (by omega), nI_clamp (by omega), nI_clamp (by omega), am_gT (lw_gd (by omega) (by omega))]
  refine hm _ ?_
  rw [am_asIe, k_law_387, am_gT (lw_gd (by omega) (by omega)), e_M_thrown, am_asIe, am_uE, k_law_393, am_ifd, if_pos rfl, am_ifn]
  have hv' := inv_th (x := k) hv e1
  have hs' : i_str (am_u I 93 0 k) := by
    unfold i_str
    rw [am_uRow (by omega), am_uRow (by omega), am_uRow (by omega), am_uRow (by omega), am_uRow (by omega), am_uRow (by omega)]
    exact hs
  by_cases c : k = nI 0
  · rw [if_pos c, am_ifd, if_pos ((am_lgE _ _).mpr (e2 c))]
    exact nxt (some k) (some y) (ua + 8) (ub + 64) _ _ _ (by omega) (by omega) hv' hs'
  · rw [if_neg c]
    exact nxt (some k) (some y) (ua + 8) (ub + 64) _ _ _ (by omega) (by omega) hv' hs'
end
/-! the law's loop -/
theorem lwl_sub {N i : Nat} (hN : N ≤ 3072) (hi : i ≤ 4000) : nI N - nI 6 < nI i ↔ N < i + 6 := by
  by_cases c : 6 ≤ N
  · rw [am_subN c, nI_ltI (by omega) (by omega)]
    omega
  · have key : ∀ N, N < 6 → (nI N - nI 6).toInt < 0 := by decide +kernel
    have := key N (by omega)
    rw [fa_lt, nI_toInt (by omega)]
    omega
section
variable {d N : Nat} {Q : Value → am_H → Prop}
theorem law_loop (hN : N ≤ 3072) (hQ : ∀ h, Q (.int (nI 1)) h) : ∀ (m i ua ub : Nat) (o5 o6 : Option Int32) (r : am_rho) (I : Nat → Nat → Int32) (J : Nat → Nat → Int64), N ≤ i + m → i ≤ 3078 → ua ≤ 1000 + 2 * i → ub ≤ 10000 + 11 * i → i_inv r I J → i_str I → am_VU (d + 152) Q 296 (ua, ub) 23 [some (.ref 2000), some (.ref 1), some (.ref 93), some (.ref 140), some (.int (nI i)), am_oi o5, am_oi o6] [] (am_hp N r I J) := by
  intro m
  induction m with
  | zero =>
    intro i ua ub o5 o6 r I J hm hi ha hb hv hs
    rw [k_law_23, am_ifi (lwl_sub hN (by omega)), if_pos (by omega), am_orT]
    exact hQ _
  | succ m ih =>
    intro i ua ub o5 o6 r I J hm hi ha hb hv hs
    by_cases hc : N < i + 6
    · rw [k_law_23, am_ifi (lwl_sub hN (by omega)), if_pos hc, am_orT]
      exact hQ _
    have nxt : lw_nx d N Q ua ub i := by
      intro o5' o6' ua' ub' r' I' J' h1 h2 h3 h4
      rw [nI_add]
      exact ih (i + 6) ua' ub' o5' o6' r' I' J' (by omega) (by omega) (by omega) (by omega) h3 h4
    have hi6 : i + 6 ≤ N := by omega
    have ha' : ua ≤ 600000 := by omega
    have hb' : ub ≤ 7000000 := by omega
    rw [k_law_23, am_ifi (lwl_sub hN (by omega)), if_neg hc, am_gI (by omega) (by omega), nI_clamp (by omega)]
    generalize I 2000 i &&& nI 63 = x
    rw [am_ifd]
    by_cases c0 : x = nI 0
    · rw [if_pos c0]
      exact law_c192 hi6 hN ha' hb' hv hs nxt
    rw [if_neg c0]
    rw [am_ifd]
    by_cases c1 : x = nI 1
    · rw [if_pos c1]
      exact law_c265 hi6 hN ha' hb' hv hs nxt
    rw [if_neg c1]
    rw [am_ifd]
    by_cases c2 : x = nI 2
    · rw [if_pos c2]
      exact law_c290 hi6 hN ha' hb' hv hs nxt
    rw [if_neg c2]
    rw [am_ifd]
    by_cases c3 : x = nI 3
    · rw [if_pos c3]
      exact law_c315 hi6 hN ha' hb' hv hs nxt
    rw [if_neg c3]
    rw [am_ifd]
    by_cases c4 : x = nI 4
    · rw [if_pos c4]
      exact law_c352 hi6 hN ha' hb' hv hs nxt
    rw [if_neg c4]
    rw [am_ifd]
    by_cases c5 : x = nI 5
    · rw [if_pos c5]
      exact law_c420 hi6 hN ha' hb' hv hs nxt
    rw [if_neg c5]
    rw [am_ifd]
    by_cases c6 : x = nI 6
    · rw [if_pos c6]
      exact law_c457 hi6 hN ha' hb' hv hs nxt
    rw [if_neg c6]
    rw [am_ifd]
    by_cases c7 : x = nI 7
    · rw [if_pos c7]
      exact law_c494 hi6 hN ha' hb' hv hs nxt
    rw [if_neg c7]
    rw [am_ifd]
    by_cases c8 : x = nI 8
    · rw [if_pos c8]
      exact law_c543 hi6 hN ha' hb' hv hs nxt
    rw [if_neg c8]
    rw [am_ifd]
    by_cases c9 : x = nI 9
    · rw [if_pos c9]
      exact law_c593 hi6 hN ha' hb' hv hs nxt
    rw [if_neg c9]
    rw [am_ifd]
    by_cases c10 : x = nI 10
    · rw [if_pos c10]
      exact law_c630 hi6 hN ha' hb' hv hs nxt
    rw [if_neg c10]
    rw [am_ifd]
    by_cases c11 : x = nI 11
    · rw [if_pos c11]
      exact law_c683 hi6 hN ha' hb' hv hs nxt
    rw [if_neg c11]
    rw [am_ifd]
    by_cases c12 : x = nI 12
    · rw [if_pos c12]
      exact law_c720 hi6 hN ha' hb' hv hs nxt
    rw [if_neg c12]
    rw [am_ifd]
    by_cases c13 : x = nI 13
    · rw [if_pos c13]
      exact law_c745 hi6 hN ha' hb' hv hs nxt
    rw [if_neg c13]
    rw [am_ifd]
    by_cases c14 : x = nI 14
    · rw [if_pos c14]
      exact law_c782 hi6 hN ha' hb' hv hs nxt
    rw [if_neg c14]
    rw [am_ifd]
    by_cases c15 : x = nI 15
    · rw [if_pos c15]
      exact law_c807 hi6 hN ha' hb' hv hs nxt
    rw [if_neg c15]
    rw [am_ifd]
    by_cases c16 : x = nI 16
    · rw [if_pos c16]
      exact law_c856 hi6 hN ha' hb' hv hs nxt
    rw [if_neg c16]
    rw [am_ifd]
    by_cases c17 : x = nI 17
    · rw [if_pos c17]
      exact law_c881 hi6 hN ha' hb' hv hs nxt
    rw [if_neg c17]
    rw [am_ifd]
    by_cases c18 : x = nI 18
    · rw [if_pos c18]
      exact law_c918 hi6 hN ha' hb' hv hs nxt
    rw [if_neg c18]
    rw [am_ifd]
    by_cases c19 : x = nI 19
    · rw [if_pos c19]
      exact law_c967 hi6 hN ha' hb' hv hs nxt
    rw [if_neg c19]
    rw [am_ifd]
    by_cases c20 : x = nI 20
    · rw [if_pos c20]
      exact law_c992 hi6 hN ha' hb' hv hs nxt
    rw [if_neg c20]
    rw [am_ifd]
    by_cases c21 : x = nI 21
    · rw [if_pos c21]
      exact law_c1017 hi6 hN ha' hb' hv hs nxt
    rw [if_neg c21]
    rw [am_ifd]
    by_cases c22 : x = nI 22
    · rw [if_pos c22]
      exact law_c1042 hi6 hN ha' hb' hv hs nxt
    rw [if_neg c22]
    rw [am_ifd]
    by_cases c23 : x = nI 23
    · rw [if_pos c23]
      exact law_c1079 hi6 hN ha' hb' hv hs nxt
    rw [if_neg c23]
    rw [am_ifd]
    by_cases c24 : x = nI 24
    · rw [if_pos c24]
      exact law_c1116 hi6 hN ha' hb' hv hs nxt
    rw [if_neg c24]
    rw [am_ifd]
    by_cases c25 : x = nI 25
    · rw [if_pos c25]
      exact law_c1165 hi6 hN ha' hb' hv hs nxt
    rw [if_neg c25]
    rw [am_ifd]
    by_cases c26 : x = nI 26
    · rw [if_pos c26]
      exact law_c1190 hi6 hN ha' hb' hv hs nxt
    rw [if_neg c26]
    rw [am_ifd]
    by_cases c27 : x = nI 27
    · rw [if_pos c27]
      exact law_c1215 hi6 hN ha' hb' hv hs nxt
    rw [if_neg c27]
    rw [am_ifd]
    by_cases c28 : x = nI 28
    · rw [if_pos c28]
      exact law_c1228 hi6 hN ha' hb' hv hs nxt
    rw [if_neg c28]
    rw [am_ifd]
    by_cases c29 : x = nI 29
    · rw [if_pos c29]
      exact law_c1277 hi6 hN ha' hb' hv hs nxt
    rw [if_neg c29]
    rw [am_ifd]
    by_cases c30 : x = nI 30
    · rw [if_pos c30]
      exact law_c1314 hi6 hN ha' hb' hv hs nxt
    rw [if_neg c30]
    rw [am_ifd]
    by_cases c31 : x = nI 31
    · rw [if_pos c31]
      exact law_c1327 hi6 hN ha' hb' hv hs nxt
    rw [if_neg c31]
    rw [am_ifd]
    by_cases c32 : x = nI 32
    · rw [if_pos c32]
      exact law_c1340 hi6 hN ha' hb' hv hs nxt
    rw [if_neg c32]
    rw [am_ifd]
    by_cases c33 : x = nI 33
    · rw [if_pos c33]
      exact law_c1353 hi6 hN ha' hb' hv hs nxt
    rw [if_neg c33]
    exact nxt o5 o6 ua ub r I J (by omega) (by omega) hv hs
end
