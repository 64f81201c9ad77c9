/-! ===== L3: what stays as it is, over any call ===== -/
def am_ks (x : Nat) : Prop := x = 5 ∨ x = 7 ∨ x = 60
def am_sty (h h' : am_H) : Prop := ∀ a, 140 < a → am_ks (am_kd h a) → h'.2.2.1 a = h.2.2.1 a ∧ h'.2.1 a = h.2.1 a
def am_npr (r : am_W) : Bool := match r.2.1 with
  | .putfield _ => !(Nat.beq r.2.2.2.1 50)
  | _ => true
def am_nps : List am_W → Bool
  | [] => true
  | r :: cs => am_npr r && am_nps cs
theorem am_and_l {a b : Bool} (g : (a && b) = true) : a = true := by cases a <;> cases b <;> first | rfl | cases g
theorem am_and_r {a b : Bool} (g : (a && b) = true) : b = true := by cases a <;> cases b <;> first | rfl | cases g
theorem am_np_sk {cs : List am_W} (h : am_nps cs = true) {pc : Nat} : am_nps (am_seek cs pc) = true := by
  induction cs with
  | nil => exact h
  | cons r cs ih =>
    show am_nps (bif Nat.beq r.1 pc then r :: cs else am_seek cs pc) = true
    cases Nat.beq r.1 pc
    · exact ih (am_and_r h)
    · exact h
theorem am_sty_re {h : am_H} : am_sty h h := fun _ _ _ => ⟨rfl, rfl⟩
theorem am_sty_tr {h h1 h2 : am_H} (p : am_sty h h1) (q : am_sty h1 h2) : am_sty h h2 := by
  intro a ha hk
  have p1 := p a ha hk
  have hk1 : am_ks (am_kd h1 a) := by unfold am_kd; rw [p1.2]; exact hk
  have q1 := q a ha hk1
  exact ⟨q1.1.trans p1.1, q1.2.trans p1.2⟩
theorem am_sty_wI {h0 h : am_H} (hs : am_sty h0 h) {a k : Nat} {v : Int32} (hk : ¬ am_ks (am_kd h a)) : am_sty h0 (am_wI h a k v) := by
  refine am_sty_tr hs ?_
  intro b hb hkb
  refine ⟨?_, rfl⟩
  funext j
  show am_u h.2.2.1 a k v b j = h.2.2.1 b j
  unfold am_u
  rw [if_neg]
  intro e
  exact hk (e.1 ▸ hkb)
theorem am_sty_wJ {h0 h : am_H} (hs : am_sty h0 h) {a k : Nat} {v : Int64} : am_sty h0 (am_wJ h a k v) := hs
theorem am_sty_wR {h0 h : am_H} (hs : am_sty h0 h) {a k : Nat} {v : Nat} : am_sty h0 (am_wR h a k v) := hs
theorem am_beqf {a b : Nat} (h : a ≠ b) : Nat.beq a b = false := by
  cases c : Nat.beq a b with
  | false => rfl
  | true => exact absurd (Nat.eq_of_beq_eq_true c) h
theorem am_sty_mk {h0 h : am_H} (hs : am_sty h0 h) {kd n : Nat} (hn : h.1 + 1 ≤ 140) : am_sty h0 (am_mk h kd n) := by
  refine am_sty_tr hs ?_
  intro b hb _
  refine ⟨?_, ?_⟩
  · funext j
    show am_z h.2.2.1 (h.1 + 1) b j = h.2.2.1 b j
    unfold am_z
    rw [if_neg (by omega)]
  · show am_uT h.2.1 (h.1 + 1) (kd, n) b = h.2.1 b
    unfold am_uT
    rw [show Nat.beq b (h.1 + 1) = false from am_beqf (by omega)]
    rfl
theorem am_gb_mono {b : Bool} {p q : Prop} (h : b = true → p → q) : am_g b p → am_g b q := by
  cases b
  · exact id
  · exact h rfl
theorem am_k60 {x i : Nat} (g : Nat.beq x (10 + i) = true) (n : (!(Nat.beq i 50)) = true) : ¬ am_ks x := by
  have e : x = 10 + i := Nat.eq_of_beq_eq_true g
  intro k
  have : i = 50 := by
    rcases k with k | k | k <;> omega
  subst this
  cases n
theorem am_k1 {x : Nat} (g : Nat.beq x 1 = true) : ¬ am_ks x := by
  have e : x = 1 := Nat.eq_of_beq_eq_true g
  intro k
  rcases k with k | k | k <;> omega
theorem am_k34 {x : Nat} (g : (Nat.beq x 3 || Nat.beq x 4) = true) : ¬ am_ks x := by
  have e : x = 3 ∨ x = 4 := by
    cases c : Nat.beq x 3
    · rw [c] at g; exact Or.inr (Nat.eq_of_beq_eq_true g)
    · exact Or.inl (Nat.eq_of_beq_eq_true c)
  intro k
  rcases k with k | k | k <;> omega
theorem am_pf_sty {ft : Nat} {v : Value} {h : am_H} {a k : Nat} {f g : am_H → Prop} (hk : ¬ am_ks (am_kd h a)) (hf : ∀ h', am_sty h h' → f h' → g h') : am_pf ft v h a k f → am_pf ft v h a k g := by
  unfold am_pf
  split
  · exact am_asI_mono fun _ => hf _ (am_sty_wI am_sty_re hk)
  · exact am_asI_mono fun _ => am_g_mono (hf _ (am_sty_wI am_sty_re hk))
  · exact am_r_mono fun _ _ => hf _ (am_sty_wR am_sty_re)
  · exact id
theorem am_sty_E {C : am_K} {co : Nat → Nat × Nat} {M : am_M} {Q : Value → am_H → Prop} (hC : am_Cm C) (hF : ∀ mid args h Q, C mid args h Q → C mid args h (fun v h' => Q v h' ∧ am_sty h h')) (hM : am_nps M.1 = true)
    {u : Nat × Nat} {cs : List am_W} {L : am_L} {st : List Value} {h : am_H} (hcs : am_nps cs = true) (k : am_E C co M Q u cs L st h) : ∀ h0, am_sty h0 h → am_E C co M (fun v h' => Q v h' ∧ am_sty h0 h') u cs L st h := by
  refine k (fun u cs L st h => am_nps cs = true → ∀ h0, am_sty h0 h → am_E C co M (fun v h' => Q v h' ∧ am_sty h0 h') u cs L st h) ?_ hcs
  intro u cs L st h q hcs h0 hs
  apply am_E_in hC
  revert q
  cases cs with
  | nil => exact id
  | cons r cs =>
    obtain ⟨pc, ins, len, i1, i2, i3, i4⟩ := r
    have hc : am_nps cs = true := am_and_r hcs
    cases ins <;> dsimp only [am_step] <;> first
      | exact id
      | exact fun q => q hc h0 hs
      | exact am_i_mono fun _ _ q => q hc h0 hs
      | exact am_l_mono fun _ _ q => q hc h0 hs
      | exact am_r_mono fun _ _ q => q hc h0 hs
      | exact am_ii_mono fun _ _ _ q => q hc h0 hs
      | exact am_ll_mono fun _ _ _ q => q hc h0 hs
      | exact am_ii_mono fun _ _ _ => am_g_mono (fun q => q hc h0 hs)
      | exact am_ll_mono fun _ _ _ => am_g_mono (fun q => q hc h0 hs)
      | exact fun q => q (am_np_sk hM) h0 hs
      | exact am_i_mono fun _ _ => am_if_mono (fun q => q (am_np_sk hM) h0 hs) (fun q => q hc h0 hs)
      | exact am_ii_mono fun _ _ _ => am_if_mono (fun q => q (am_np_sk hM) h0 hs) (fun q => q hc h0 hs)
      | exact am_i_mono fun _ _ => am_sw_mono (fun _ q => q (am_np_sk hM) h0 hs) _ _ _
      | exact am_r_mono fun _ _ => am_g_mono (fun q => q hc h0 hs)
      | exact am_ri_mono fun _ _ _ => am_g_mono (fun q => q hc h0 hs)
      | exact am_rii_mono fun _ _ _ _ => am_gb_mono (fun g q => q hc h0 (am_sty_wI hs (am_k1 (am_and_l g))))
      | exact am_rii_mono fun _ _ _ _ => am_gb_mono (fun g q => q hc h0 (am_sty_wI hs (am_k34 (am_and_l g))))
      | exact am_ril_mono fun _ _ _ _ => am_g_mono (fun q => q hc h0 (am_sty_wJ hs))
      | exact am_i_mono fun _ _ => am_gb_mono (fun g q => q hc h0 (am_sty_mk hs (Nat.le_of_ble_eq_true (am_and_l (am_and_r g)))))
      | exact am_gb_mono (fun g q => q hc h0 (am_sty_mk hs (Nat.le_of_ble_eq_true (am_and_l g))))
      | exact am_arg_mono fun _ _ => am_g_mono (fun q => hC _ _ _ _ _ (fun v h' w => am_rv_mono (fun _ z => z hc h0 (am_sty_tr hs w.2)) w.1) (hF _ _ _ _ q))
      | exact am_arg_mono fun _ _ => am_r_mono fun _ _ => am_g_mono (fun q => hC _ _ _ _ _ (fun v h' w => am_rv_mono (fun _ z => z hc h0 (am_sty_tr hs w.2)) w.1) (hF _ _ _ _ q))
      | (split <;> first
          | exact id
          | exact fun q => q hc h0 hs
          | exact fun q => ⟨q, hs⟩
          | exact am_g_mono (fun q => q hc h0 hs)
          | exact am_gb_mono (fun g => am_pf_sty (am_k60 g (am_and_l hcs)) (fun h' w q => q hc h0 (am_sty_tr hs w)))
          | exact am_g_mono (fun q => ⟨q, hs⟩)
          | (refine am_g_mono ?_; split <;> first | exact id | exact fun q => ⟨q, hs⟩ | exact am_g_mono (fun q => ⟨q, hs⟩)))
theorem am_tb_hi {m : Nat} (h : 296 ≤ m) : am_tb m = am_tb 296 := by
  have e : ∀ k, k ≤ 296 → Nat.ble k m = true := fun k hk => Nat.ble_eq_true_of_le (Nat.le_trans hk h)
  unfold am_tb
  rw [e 148 (by omega), e 222 (by omega), e 259 (by omega), e 278 (by omega), e 287 (by omega), e 292 (by omega), e 294 (by omega), e 295 (by omega), e 296 (by omega)]
  rfl
theorem am_np_tb (m : Nat) : am_nps (am_tb m).1.1 = true := by
  have key : ∀ m, m < 297 → am_nps (am_tb m).1.1 = true := by
    have : (List.range 297).all (fun m => am_nps (am_tb m).1.1) = true := by decide +kernel
    intro m hm
    exact List.all_eq_true.mp this m (List.mem_range.mpr hm)
  rcases Nat.lt_or_ge m 297 with h | h
  · exact key m h
  · rw [am_tb_hi (by omega)]; exact key 296 (by omega)
theorem am_D_sty : ∀ (d mid : Nat) (args : List Value) (h : am_H) (Q : Value → am_H → Prop), am_D d mid args h Q → am_D d mid args h (fun v h' => Q v h' ∧ am_sty h h')
  | 0, _, _, _, _ => id
  | d + 1, mid, args, h, Q => by
    have ih := am_D_sty d
    show (bif Nat.ble 900 mid then am_pr (am_D d) mid args h Q else am_g (Nat.ble (am_cat args) (am_tb mid).2) (am_E (am_D d) am_co (am_tb mid).1 Q (0, 0) (am_tb mid).1.1 (am_in args (am_tb mid).2) [] h)) → (bif Nat.ble 900 mid then am_pr (am_D d) mid args h (fun v h' => Q v h' ∧ am_sty h h') else am_g (Nat.ble (am_cat args) (am_tb mid).2) (am_E (am_D d) am_co (am_tb mid).1 (fun v h' => Q v h' ∧ am_sty h h') (0, 0) (am_tb mid).1.1 (am_in args (am_tb mid).2) [] h))
    cases Nat.ble 900 mid
    · exact am_g_mono (fun k => am_sty_E (am_D_mono d) ih (am_np_tb mid) (am_np_tb mid) k h am_sty_re)
    · show am_pr (am_D d) mid args h Q → am_pr (am_D d) mid args h (fun v h' => Q v h' ∧ am_sty h h')
      unfold am_pr
      cases Nat.beq mid 900
      · cases Nat.beq mid 901
        · cases Nat.beq mid 905
          · exact id
          · simp only [cond_false, cond_true]
            unfold am_f905
            split
            · exact am_g_mono (am_if_mono (am_if_mono (fun q => am_D_mono d _ _ _ _ _ (fun v h' w => am_asI_mono (fun _ z => ⟨z, am_sty_wJ w.2⟩) w.1) (ih _ _ _ _ q)) (fun q => ⟨q, am_sty_re⟩)) (fun q => ⟨q, am_sty_re⟩))
            · exact id
        · simp only [cond_false, cond_true]
          unfold am_f901
          split
          · rename_i a sp b dp n
            refine am_gb_mono (fun g q => ⟨q, ?_⟩)
            have hk := am_k1 (am_and_l (am_and_r g))
            intro c hc hkc
            refine ⟨?_, rfl⟩
            funext j
            show am_cyI h.2.2.1 a sp.toNatClampNeg b dp.toNatClampNeg n.toNatClampNeg c j = h.2.2.1 c j
            unfold am_cyI
            rw [if_neg]
            intro e
            exact hk (e.1 ▸ hkc)
          · exact id
      · simp only [cond_true]
        unfold am_f900
        split
        · exact fun q => ⟨q, am_sty_re⟩
        · exact id
