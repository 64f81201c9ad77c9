/-! ===== L3: the model's E, 3 ===== -/
section
variable {N : Nat} {r : am_rho} {J : Nat → Nat → Int64} {n : Nat} {T : Nat → Nat} {st : Nat}
theorem ex_prod {K : Nat} (h7 : n ≤ 700) (ih : EXP N r J n T st 0 K) : EXP N r J n T st 1 K := by
  intro D op kn q m w cp nm R I v Q hK hD hP hG hF
  obtain ⟨hq, hv, hx, hM, hN, hop, hm, hnm, h19, hw⟩ := hP
  have hwb : hdw 6 w := hw
  have n5 := hN.2.2.2.2.1
  have n4 := hN.2.2.2.1
  obtain ⟨D, rfl⟩ : ∃ D', D = D' + 1 := ⟨D - 1, by omega⟩
  have hD9 : 11 ≤ D := by omega
  show am_D (D + 1) 193 [.ref 93] _ Q
  have z9 : ∀ q : Nat, ((0, q) : Nat × Nat).1 ≤ 9 := fun _ => Nat.zero_le _
  have lp : ∀ (j q' : Nat) (m' : Nat) (sx : List Nat) (cp' : List Bool) (nm' : Bool) (kn' : Nat) (R' : List Nat) (I' : Nat → Nat → Int32) (v' : Int32) (o1 : Option Int32) , n < tkP n T q' + j → sy n T m q w cp true nm kn R = sy n T m' q' (sx ++ w) cp' false nm' kn' R' → kn ≤ kn' → q' ≤ n → tkP n T q < tkP n T q' → n < tkP n T q' + m' → tvm n T q' v' → frE st I I' → exM st kn' op (apd sx R') I' → exN st kn' (sx ++ w) cp' R' → (∀ k ∈ sx, k ≠ 28 ∧ 6 ≤ bnd k) → cp'.tail = cp.tail → (1 < 3 → cp' = cp) → nxt n T 0 q' cp' → am_V D Q 193 4 [some (.ref 93), am_oi o1] [] (am_hp N r (mS I' n T (0, q') v') J) := by
    intro j
    induction j with
    | zero =>
      intro q' m' sx cp' nm' kn' R' I' v' o1 h0 h1 h2 h3
      have := (tk_pos (T := T) h7 h3).2.1
      omega
    | succ j ihj =>
      intro q' m' sx cp' nm' kn' R' I' v' o1 h0 h1 hkk h2 h3 h4 h5 h6 hM' h8 h9 h10 h11 h12
      obtain ⟨p1, p2, p3, p4, p5, p6⟩ := tk_pos (T := T) h7 h2
      have hx' := txm_f hx (frE_frm h6)
      obtain ⟨m', rfl⟩ : ∃ m2, m' = m2 + 1 := ⟨m' - 1, by omega⟩
      obtain ⟨d, rfl⟩ : ∃ d, D = d + 11 := ⟨D - 11, by omega⟩
      have hN' := h8
      obtain ⟨e1, e2, e3, e4, e5, e6⟩ := hN'
      have hs28 : ∀ k ∈ sx, k ≠ 28 := fun k hk => (h9 k hk).1
      have ho := opc_app (s := sx) (w := w) hs28
      have hal := @apd_len sx R'
      have hlen : cp'.length = cp.length := by
        have : cp'.tail.length = cp.tail.length := by rw [h10]
        rw [List.length_tail, List.length_tail] at this
        omega
      have step : ∀ k, (k = 32 ∨ k = 33) → tkK n T q' = k → am_D (d + 11) 188 [.ref 93] (am_hp N r (mS I' n T (0, q') v') J) (fun _ h => am_V (d + 11) Q 193 31 [some (.ref 93), some (.int (nI (sgc k)))] [] h) := by
        intro k hk hkq
        have hb : bnd k = 6 := by rcases hk with rfl | rfl <;> rfl
        have hk28 : k ≠ 28 := by omega
        have hk0 : tkK n T q' ≠ 0 := by omega
        have c27 : ¬ (tkK n T q' = 27 ∧ cp'.length = 1) := by omega
        have c29 : ¬ (tkK n T q' = 29 ∧ 1 < cp'.length) := by omega
        have c3 : ¬ (bnd (tkK n T q') = 0 ∨ tkK n T q' = 19 ∨ (bnd (tkK n T q') = 4 ∧ hdb cp' = true)) := by rw [hkq, hb]; omega
        have pq := (tk_pos (T := T) h7 p3).1
        have pq2 := p4 hk0
        by_cases c64 : kn' = 64
        · have es := sy_sgF (n := n) (T := T) (m := m') (p := q') (w := sx ++ w) (cp := cp') (nm := nm') (kn := kn') (R := R') c27 c29 c3 (by omega)
          rw [md_knotF (Or.inr hM') c64, e_M_product_31, mf_goOn (by omega) (by omega), e_M_product_35, mf_pri (by omega) (by omega), e_M_product_39, md_puts0 (by show (2 : Nat) ≠ 0; omega) (by show (2 : Nat) ≤ 9; omega), e_M_product_45, mf_prod4 (by omega) (by omega)]
          exact hF 2 q' I' v' (by omega) (by omega) (by rw [h1, es]) (by rw [h1, es]) h2 h6
        · have es := sy_sg (n := n) (T := T) (m := m') (p := q') (w := sx ++ w) (cp := cp') (nm := nm') (kn := kn') (R := R') c27 c29 c3 (by omega)
          rw [hkq, hb, stl_app h9 hwb] at es
          refine md_knot (d := d + 9) hM' (by omega) ?_
          intro I1 g1 g2
          rw [e_M_product_31]
          refine md_goOn (d := d + 3) (txm_f hx' (frE_frm g2)) h2 (z9 _) h5 ?_
          rw [sG_ok]
          intro v1 hv1
          rw [e_M_product_35]
          have hcp : (decide (6 = 4) || (hdb cp' && decide (4 < 6))) :: cp'.tail = cp' := by
            cases cp' with
            | nil => exact absurd e4 (by decide)
            | cons a l => show ((false || (a && true)) :: l) = a :: l; rw [Bool.false_or, Bool.and_true]
          rw [show (decide ((6 : Nat) < 4)) = false from rfl] at es
          have es' : sy n T (m' + 1) q' (sx ++ w) cp' false nm' kn' R' = sy n T m' (tkE n T q') (k :: w) cp' true false (kn' + 1) (apd sx R') := by rw [es, hcp]
          have hct : (cp').length = cp'.length := by rfl
          refine ih (d + 11) op (kn' + 1) (tkE n T q') m' (k :: w) cp' false (apd sx R') I1 v1 _ (by omega) (by omega) ⟨p3, hv1, txm_f hx' (frE_frm g2), g1, ⟨by omega, ?_, ?_, by omega, by omega, ?_⟩, by omega, by omega, fun g => absurd g (by omega), fun _ g => Bool.noConfusion g, Or.inr (by rw [hb]; decide)⟩ ?_ ?_
          · show st + (apd sx R').length + ((if k = 28 then 0 else 1) + opc w) = kn' + 1
            rw [if_neg hk28]; omega
          · show w.length + 1 = ((if k = 28 then 0 else 1) + opc w) + ((cp').length - 1)
            have := hN.2.2.1
            rw [if_neg hk28]; omega
          · intro x hxm
            rcases List.mem_cons.mp hxm with rfl | hxm
            · omega
            · exact hN.2.2.2.2.2 x hxm
          · intro q2 I2 v2 s2 cp2 nm2 kn2 R2 m2 f1 fk f2 f3 f4 f5 f6 f7 f8 f9 f10 f11 f12
            have el : s2 ++ k :: w = (s2 ++ [k]) ++ w := by rw [List.append_assoc]; rfl
            rw [el] at f1 f8
            rw [e_M_product_39]
            have hxk : cso (10000 + k) = 2 ∧ nI (cva (10000 + k)) = nI (sgc k) := by rcases hk with rfl | rfl <;> exact ⟨rfl, rfl⟩
            have s228 : ∀ x ∈ s2, x ≠ 28 := fun x hxm => (f9 x hxm).1
            have hal2 := @apd_len s2 R2
            have ho2 := opc_app (s := s2 ++ [k]) (w := w) (fun x hxm => by
              rcases List.mem_append.mp hxm with h | h
              · exact s228 x h
              · rw [List.mem_singleton.mp h]; exact hk28)
            have hl2 : (s2 ++ [k]).length = s2.length + 1 := by rw [List.length_append]; rfl
            have fin := md_puts (Q := fun _ h => am_V (d + 11) Q 193 45 [some (.ref 93), some (.int (nI (sgc k)))] [] h) (N := N) (r := r) (J := J) (n := n) (T := T) (v := v2) (d := d + 8) (q := q2) (x := 10000 + k) f7 (by have := f8.2.1; have := f8.1; omega) ?_
            · rw [hxk.1, hxk.2] at fin
              exact fin
            · intro I3 f13 f14
              rw [e_M_product_45]
              have eap : (10000 + k) :: apd s2 R2 = apd (s2 ++ [k]) R2 := apd_app.symm
              rw [eap] at f13
              refine ihj q2 m2 (s2 ++ [k]) cp2 nm2 kn2 R2 I3 v2 (some (nI (sgc k))) (by omega) (h1.trans (es'.trans f1)) (by omega) f2 (by omega) f4 f5 (frE_tr h6 (frE_tr g2 (frE_tr f6 f14))) f13 f8 ?_ (f10.trans h10) (fun g => (f11 (by omega)).trans (h11 g)) f12
              intro x hxm
              rcases List.mem_append.mp hxm with h | h
              · have := f9 x h
                exact ⟨this.1, Nat.le_trans (by decide) this.2⟩
              · rw [List.mem_singleton.mp h, hb]; exact ⟨hk28, Nat.le_refl _⟩
          · intro f q2 I2 v2 f0 f2 f3 f4 f5 f6
            rw [e_M_product_39, md_puts0 (by show f ≠ 0; omega) (by show f ≤ 9; omega), e_M_product_45, mf_prod4 f0 (by omega)]
            exact hF f q2 I2 v2 f0 f2 (by rw [h1, es']; exact f3) (by rw [h1, es']; exact f4) f5 (frE_tr h6 (frE_tr g2 f6))
      have ea : (nI 42 : Int32) = nI (sgc 32) := rfl
      have eb : (nI 47 : Int32) = nI (sgc 33) := rfl
      rw [e_M_product_4, ea, md_isSign h7 (by omega) (by omega) h2 (z9 _) h5, am_asIe, e_M_product_10, am_ifn, mS_30]
      by_cases ca : tkK n T q' = 32
      · rw [bo_t (show (0, q').1 = 0 ∧ tkK n T (0, q').2 = 32 from ⟨rfl, ca⟩), if_neg n10]
        have := step 32 (by omega) ca
        have hvv : v' = nI (sgc 32) := by have := h5.2.2.2 (by omega); rw [ca] at this; exact this
        rw [hvv]; rw [hvv] at this; exact this
      · rw [bo_f (fun h => ca h.2), if_pos rfl, eb, md_isSign h7 (by omega) (by omega) h2 (z9 _) h5, am_asIe, e_M_product_19, am_ifd, mS_30]
        by_cases cb : tkK n T q' = 33
        · rw [bo_t (show (0, q').1 = 0 ∧ tkK n T (0, q').2 = 33 from ⟨rfl, cb⟩), if_neg n10]
          have := step 33 (by omega) cb
          have hvv : v' = nI (sgc 33) := by have := h5.2.2.2 (by omega); rw [cb] at this; exact this
          rw [hvv]; rw [hvv] at this; exact this
        · rw [bo_f (fun h => cb h.2), if_pos rfl]
          obtain ⟨y1, y2, y3, y4, y5⟩ := h12
          exact hG q' I' v' sx cp' nm' kn' R' (m' + 1) h1 hkk h2 h3 h4 h5 h6 hM' h8 h9 h10 h11 ⟨fun g => ⟨ca, cb⟩, fun g => by omega, fun g => by omega, fun g => by omega, fun g => by omega⟩
  rw [e_M_product]
  refine ih D op kn q m w cp nm R I v _ hK (by omega) ⟨hq, hv, hx, hM, hN, hop, hm, fun g => by omega, fun g => h19 (by omega), hdw_le (by decide) hwb⟩ ?_ ?_
  · intro q' I' v' s2 cp' nm' kn' R' m' f1 fk f2 f3 f4 f5 f6 f7 f8 f9 f10 f11 f12
    exact lp (n + 1) q' m' s2 cp' nm' kn' R' I' v' none (by omega) f1 fk f2 f3 f4 f5 f6 f7 f8 (fun k hk => ⟨(f9 k hk).1, Nat.le_trans (by decide) (f9 k hk).2⟩) f10 (fun _ => f11 (by omega)) f12
  · intro f q' I' v' f0 f2 f3 f4 f5 f6
    obtain ⟨D2, rfl⟩ : ∃ D2, D = D2 + 1 := ⟨D - 1, by omega⟩
    rw [mf_prod4 f0 (by omega)]
    exact hF f q' I' v' f0 f2 f3 f4 f5 f6
theorem ex_sum {K : Nat} (h7 : n ≤ 700) (ih : EXP N r J n T st 1 K) : EXP N r J n T st 2 K := by
  intro D op kn q m w cp nm R I v Q hK hD hP hG hF
  obtain ⟨hq, hv, hx, hM, hN, hop, hm, hnm, h19, hw⟩ := hP
  have hwb : hdw 5 w := hw
  have n5 := hN.2.2.2.2.1
  have n4 := hN.2.2.2.1
  obtain ⟨D, rfl⟩ : ∃ D', D = D' + 1 := ⟨D - 1, by omega⟩
  have hD9 : 11 ≤ D := by omega
  show am_D (D + 1) 192 [.ref 93] _ Q
  have z9 : ∀ q : Nat, ((0, q) : Nat × Nat).1 ≤ 9 := fun _ => Nat.zero_le _
  have lp : ∀ (j q' : Nat) (m' : Nat) (sx : List Nat) (cp' : List Bool) (nm' : Bool) (kn' : Nat) (R' : List Nat) (I' : Nat → Nat → Int32) (v' : Int32) (o1 : Option Int32) , n < tkP n T q' + j → sy n T m q w cp true nm kn R = sy n T m' q' (sx ++ w) cp' false nm' kn' R' → kn ≤ kn' → q' ≤ n → tkP n T q < tkP n T q' → n < tkP n T q' + m' → tvm n T q' v' → frE st I I' → exM st kn' op (apd sx R') I' → exN st kn' (sx ++ w) cp' R' → (∀ k ∈ sx, k ≠ 28 ∧ 5 ≤ bnd k) → cp'.tail = cp.tail → (2 < 3 → cp' = cp) → nxt n T 1 q' cp' → am_V D Q 192 4 [some (.ref 93), am_oi o1] [] (am_hp N r (mS I' n T (0, q') v') J) := by
    intro j
    induction j with
    | zero =>
      intro q' m' sx cp' nm' kn' R' I' v' o1 h0 h1 h2 h3
      have := (tk_pos (T := T) h7 h3).2.1
      omega
    | succ j ihj =>
      intro q' m' sx cp' nm' kn' R' I' v' o1 h0 h1 hkk h2 h3 h4 h5 h6 hM' h8 h9 h10 h11 h12
      obtain ⟨p1, p2, p3, p4, p5, p6⟩ := tk_pos (T := T) h7 h2
      have hx' := txm_f hx (frE_frm h6)
      obtain ⟨m', rfl⟩ : ∃ m2, m' = m2 + 1 := ⟨m' - 1, by omega⟩
      obtain ⟨d, rfl⟩ : ∃ d, D = d + 11 := ⟨D - 11, by omega⟩
      have hN' := h8
      obtain ⟨e1, e2, e3, e4, e5, e6⟩ := hN'
      have hs28 : ∀ k ∈ sx, k ≠ 28 := fun k hk => (h9 k hk).1
      have ho := opc_app (s := sx) (w := w) hs28
      have hal := @apd_len sx R'
      have hlen : cp'.length = cp.length := by
        have : cp'.tail.length = cp.tail.length := by rw [h10]
        rw [List.length_tail, List.length_tail] at this
        omega
      have step : ∀ k, (k = 30 ∨ k = 31) → tkK n T q' = k → am_D (d + 11) 188 [.ref 93] (am_hp N r (mS I' n T (0, q') v') J) (fun _ h => am_V (d + 11) Q 192 31 [some (.ref 93), some (.int (nI (sgc k)))] [] h) := by
        intro k hk hkq
        have hb : bnd k = 5 := by rcases hk with rfl | rfl <;> rfl
        have hk28 : k ≠ 28 := by omega
        have hk0 : tkK n T q' ≠ 0 := by omega
        have c27 : ¬ (tkK n T q' = 27 ∧ cp'.length = 1) := by omega
        have c29 : ¬ (tkK n T q' = 29 ∧ 1 < cp'.length) := by omega
        have c3 : ¬ (bnd (tkK n T q') = 0 ∨ tkK n T q' = 19 ∨ (bnd (tkK n T q') = 4 ∧ hdb cp' = true)) := by rw [hkq, hb]; omega
        have pq := (tk_pos (T := T) h7 p3).1
        have pq2 := p4 hk0
        by_cases c64 : kn' = 64
        · have es := sy_sgF (n := n) (T := T) (m := m') (p := q') (w := sx ++ w) (cp := cp') (nm := nm') (kn := kn') (R := R') c27 c29 c3 (by omega)
          rw [md_knotF (Or.inr hM') c64, e_M_sum_31, mf_goOn (by omega) (by omega), e_M_sum_35, mf_prod (by omega) (by omega), e_M_sum_39, md_puts0 (by show (2 : Nat) ≠ 0; omega) (by show (2 : Nat) ≤ 9; omega), e_M_sum_45, mf_sum4 (by omega) (by omega)]
          exact hF 2 q' I' v' (by omega) (by omega) (by rw [h1, es]) (by rw [h1, es]) h2 h6
        · have es := sy_sg (n := n) (T := T) (m := m') (p := q') (w := sx ++ w) (cp := cp') (nm := nm') (kn := kn') (R := R') c27 c29 c3 (by omega)
          rw [hkq, hb, stl_app h9 hwb] at es
          refine md_knot (d := d + 9) hM' (by omega) ?_
          intro I1 g1 g2
          rw [e_M_sum_31]
          refine md_goOn (d := d + 3) (txm_f hx' (frE_frm g2)) h2 (z9 _) h5 ?_
          rw [sG_ok]
          intro v1 hv1
          rw [e_M_sum_35]
          have hcp : (decide (5 = 4) || (hdb cp' && decide (4 < 5))) :: cp'.tail = cp' := by
            cases cp' with
            | nil => exact absurd e4 (by decide)
            | cons a l => show ((false || (a && true)) :: l) = a :: l; rw [Bool.false_or, Bool.and_true]
          rw [show (decide ((5 : Nat) < 4)) = false from rfl] at es
          have es' : sy n T (m' + 1) q' (sx ++ w) cp' false nm' kn' R' = sy n T m' (tkE n T q') (k :: w) cp' true false (kn' + 1) (apd sx R') := by rw [es, hcp]
          have hct : (cp').length = cp'.length := by rfl
          refine ih (d + 11) op (kn' + 1) (tkE n T q') m' (k :: w) cp' false (apd sx R') I1 v1 _ (by omega) (by omega) ⟨p3, hv1, txm_f hx' (frE_frm g2), g1, ⟨by omega, ?_, ?_, by omega, by omega, ?_⟩, by omega, by omega, fun g => absurd g (by omega), fun _ g => Bool.noConfusion g, Or.inr (by rw [hb]; decide)⟩ ?_ ?_
          · show st + (apd sx R').length + ((if k = 28 then 0 else 1) + opc w) = kn' + 1
            rw [if_neg hk28]; omega
          · show w.length + 1 = ((if k = 28 then 0 else 1) + opc w) + ((cp').length - 1)
            have := hN.2.2.1
            rw [if_neg hk28]; omega
          · intro x hxm
            rcases List.mem_cons.mp hxm with rfl | hxm
            · omega
            · exact hN.2.2.2.2.2 x hxm
          · intro q2 I2 v2 s2 cp2 nm2 kn2 R2 m2 f1 fk f2 f3 f4 f5 f6 f7 f8 f9 f10 f11 f12
            have el : s2 ++ k :: w = (s2 ++ [k]) ++ w := by rw [List.append_assoc]; rfl
            rw [el] at f1 f8
            rw [e_M_sum_39]
            have hxk : cso (10000 + k) = 2 ∧ nI (cva (10000 + k)) = nI (sgc k) := by rcases hk with rfl | rfl <;> exact ⟨rfl, rfl⟩
            have s228 : ∀ x ∈ s2, x ≠ 28 := fun x hxm => (f9 x hxm).1
            have hal2 := @apd_len s2 R2
            have ho2 := opc_app (s := s2 ++ [k]) (w := w) (fun x hxm => by
              rcases List.mem_append.mp hxm with h | h
              · exact s228 x h
              · rw [List.mem_singleton.mp h]; exact hk28)
            have hl2 : (s2 ++ [k]).length = s2.length + 1 := by rw [List.length_append]; rfl
            have fin := md_puts (Q := fun _ h => am_V (d + 11) Q 192 45 [some (.ref 93), some (.int (nI (sgc k)))] [] h) (N := N) (r := r) (J := J) (n := n) (T := T) (v := v2) (d := d + 8) (q := q2) (x := 10000 + k) f7 (by have := f8.2.1; have := f8.1; omega) ?_
            · rw [hxk.1, hxk.2] at fin
              exact fin
            · intro I3 f13 f14
              rw [e_M_sum_45]
              have eap : (10000 + k) :: apd s2 R2 = apd (s2 ++ [k]) R2 := apd_app.symm
              rw [eap] at f13
              refine ihj q2 m2 (s2 ++ [k]) cp2 nm2 kn2 R2 I3 v2 (some (nI (sgc k))) (by omega) (h1.trans (es'.trans f1)) (by omega) f2 (by omega) f4 f5 (frE_tr h6 (frE_tr g2 (frE_tr f6 f14))) f13 f8 ?_ (f10.trans h10) (fun g => (f11 (by omega)).trans (h11 g)) f12
              intro x hxm
              rcases List.mem_append.mp hxm with h | h
              · have := f9 x h
                exact ⟨this.1, Nat.le_trans (by decide) this.2⟩
              · rw [List.mem_singleton.mp h, hb]; exact ⟨hk28, Nat.le_refl _⟩
          · intro f q2 I2 v2 f0 f2 f3 f4 f5 f6
            rw [e_M_sum_39, md_puts0 (by show f ≠ 0; omega) (by show f ≤ 9; omega), e_M_sum_45, mf_sum4 f0 (by omega)]
            exact hF f q2 I2 v2 f0 f2 (by rw [h1, es']; exact f3) (by rw [h1, es']; exact f4) f5 (frE_tr h6 (frE_tr g2 f6))
      have ea : (nI 43 : Int32) = nI (sgc 30) := rfl
      have eb : (nI 45 : Int32) = nI (sgc 31) := rfl
      rw [e_M_sum_4, ea, md_isSign h7 (by omega) (by omega) h2 (z9 _) h5, am_asIe, e_M_sum_10, am_ifn, mS_30]
      by_cases ca : tkK n T q' = 30
      · rw [bo_t (show (0, q').1 = 0 ∧ tkK n T (0, q').2 = 30 from ⟨rfl, ca⟩), if_neg n10]
        have := step 30 (by omega) ca
        have hvv : v' = nI (sgc 30) := by have := h5.2.2.2 (by omega); rw [ca] at this; exact this
        rw [hvv]; rw [hvv] at this; exact this
      · rw [bo_f (fun h => ca h.2), if_pos rfl, eb, md_isSign h7 (by omega) (by omega) h2 (z9 _) h5, am_asIe, e_M_sum_19, am_ifd, mS_30]
        by_cases cb : tkK n T q' = 31
        · rw [bo_t (show (0, q').1 = 0 ∧ tkK n T (0, q').2 = 31 from ⟨rfl, cb⟩), if_neg n10]
          have := step 31 (by omega) cb
          have hvv : v' = nI (sgc 31) := by have := h5.2.2.2 (by omega); rw [cb] at this; exact this
          rw [hvv]; rw [hvv] at this; exact this
        · rw [bo_f (fun h => cb h.2), if_pos rfl]
          obtain ⟨y1, y2, y3, y4, y5⟩ := h12
          exact hG q' I' v' sx cp' nm' kn' R' (m' + 1) h1 hkk h2 h3 h4 h5 h6 hM' h8 h9 h10 h11 ⟨fun g => y1 (by omega), fun g => ⟨ca, cb⟩, fun g => by omega, fun g => by omega, fun g => by omega⟩
  rw [e_M_sum]
  refine ih D op kn q m w cp nm R I v _ hK (by omega) ⟨hq, hv, hx, hM, hN, hop, hm, fun g => by omega, fun g => h19 (by omega), hdw_le (by decide) hwb⟩ ?_ ?_
  · intro q' I' v' s2 cp' nm' kn' R' m' f1 fk f2 f3 f4 f5 f6 f7 f8 f9 f10 f11 f12
    exact lp (n + 1) q' m' s2 cp' nm' kn' R' I' v' none (by omega) f1 fk f2 f3 f4 f5 f6 f7 f8 (fun k hk => ⟨(f9 k hk).1, Nat.le_trans (by decide) (f9 k hk).2⟩) f10 (fun _ => f11 (by omega)) f12
  · intro f q' I' v' f0 f2 f3 f4 f5 f6
    obtain ⟨D2, rfl⟩ : ∃ D2, D = D2 + 1 := ⟨D - 1, by omega⟩
    rw [mf_sum4 f0 (by omega)]
    exact hF f q' I' v' f0 f2 f3 f4 f5 f6
theorem ex_con {K : Nat} (h7 : n ≤ 700) (ih : EXP N r J n T st 3 K) : EXP N r J n T st 4 K := by
  intro D op kn q m w cp nm R I v Q hK hD hP hG hF
  obtain ⟨hq, hv, hx, hM, hN, hop, hm, hnm, h19, hw⟩ := hP
  have hwb : hdw 2 w := hw
  have n5 := hN.2.2.2.2.1
  have n4 := hN.2.2.2.1
  obtain ⟨D, rfl⟩ : ∃ D', D = D' + 1 := ⟨D - 1, by omega⟩
  have hD9 : 11 ≤ D := by omega
  show am_D (D + 1) 190 [.ref 93] _ Q
  have z9 : ∀ q : Nat, ((0, q) : Nat × Nat).1 ≤ 9 := fun _ => Nat.zero_le _
  have lp : ∀ (j q' : Nat) (m' : Nat) (sx : List Nat) (cp' : List Bool) (nm' : Bool) (kn' : Nat) (R' : List Nat) (I' : Nat → Nat → Int32) (v' : Int32) , n < tkP n T q' + j → sy n T m q w cp true nm kn R = sy n T m' q' (sx ++ w) cp' false nm' kn' R' → kn ≤ kn' → q' ≤ n → tkP n T q < tkP n T q' → n < tkP n T q' + m' → tvm n T q' v' → frE st I I' → exM st kn' op (apd sx R') I' → exN st kn' (sx ++ w) cp' R' → (∀ k ∈ sx, k ≠ 28 ∧ 2 ≤ bnd k) → cp'.tail = cp.tail → (4 < 3 → cp' = cp) → nxt n T 3 q' cp' → am_V D Q 190 4 [some (.ref 93)] [] (am_hp N r (mS I' n T (0, q') v') J) := by
    intro j
    induction j with
    | zero =>
      intro q' m' sx cp' nm' kn' R' I' v'  h0 h1 h2 h3
      have := (tk_pos (T := T) h7 h3).2.1
      omega
    | succ j ihj =>
      intro q' m' sx cp' nm' kn' R' I' v'  h0 h1 hkk h2 h3 h4 h5 h6 hM' h8 h9 h10 h11 h12
      obtain ⟨p1, p2, p3, p4, p5, p6⟩ := tk_pos (T := T) h7 h2
      have hx' := txm_f hx (frE_frm h6)
      obtain ⟨m', rfl⟩ : ∃ m2, m' = m2 + 1 := ⟨m' - 1, by omega⟩
      obtain ⟨d, rfl⟩ : ∃ d, D = d + 11 := ⟨D - 11, by omega⟩
      have hN' := h8
      obtain ⟨e1, e2, e3, e4, e5, e6⟩ := hN'
      have hs28 : ∀ k ∈ sx, k ≠ 28 := fun k hk => (h9 k hk).1
      have ho := opc_app (s := sx) (w := w) hs28
      have hal := @apd_len sx R'
      have hlen : cp'.length = cp.length := by
        have : cp'.tail.length = cp.tail.length := by rw [h10]
        rw [List.length_tail, List.length_tail] at this
        omega
      have step : ∀ k, (k = 18) → tkK n T q' = k → am_D (d + 11) 188 [.ref 93] (am_hp N r (mS I' n T (0, q') v') J) (fun _ h => am_V (d + 11) Q 190 17 [some (.ref 93)] [] h) := by
        intro k hk hkq
        have hb : bnd k = 2 := by rcases hk with rfl <;> rfl
        have hk28 : k ≠ 28 := by omega
        have hk0 : tkK n T q' ≠ 0 := by omega
        have c27 : ¬ (tkK n T q' = 27 ∧ cp'.length = 1) := by omega
        have c29 : ¬ (tkK n T q' = 29 ∧ 1 < cp'.length) := by omega
        have c3 : ¬ (bnd (tkK n T q') = 0 ∨ tkK n T q' = 19 ∨ (bnd (tkK n T q') = 4 ∧ hdb cp' = true)) := by rw [hkq, hb]; omega
        have pq := (tk_pos (T := T) h7 p3).1
        have pq2 := p4 hk0
        by_cases c64 : kn' = 64
        · have es := sy_sgF (n := n) (T := T) (m := m') (p := q') (w := sx ++ w) (cp := cp') (nm := nm') (kn := kn') (R := R') c27 c29 c3 (by omega)
          rw [md_knotF (Or.inr hM') c64, e_M_conjunction_17, mf_goOn (by omega) (by omega), e_M_conjunction_21, mf_neg (by omega) (by omega), e_M_conjunction_25, md_puts0 (by show (2 : Nat) ≠ 0; omega) (by show (2 : Nat) ≤ 9; omega), e_M_conjunction_33, mf_con4 (by omega) (by omega)]
          exact hF 2 q' I' v' (by omega) (by omega) (by rw [h1, es]) (by rw [h1, es]) h2 h6
        · have es := sy_sg (n := n) (T := T) (m := m') (p := q') (w := sx ++ w) (cp := cp') (nm := nm') (kn := kn') (R := R') c27 c29 c3 (by omega)
          rw [hkq, hb, stl_app h9 hwb] at es
          refine md_knot (d := d + 9) hM' (by omega) ?_
          intro I1 g1 g2
          rw [e_M_conjunction_17]
          refine md_goOn (d := d + 3) (txm_f hx' (frE_frm g2)) h2 (z9 _) h5 ?_
          rw [sG_ok]
          intro v1 hv1
          rw [e_M_conjunction_21]
          have es' : sy n T (m' + 1) q' (sx ++ w) cp' false nm' kn' R' = sy n T m' (tkE n T q') (k :: w) (false :: cp'.tail) true true (kn' + 1) (apd sx R') := by
            rw [es, show (decide ((2 : Nat) < 4)) = true from rfl, show (decide ((2 : Nat) = 4) || (hdb cp' && decide (4 < (2 : Nat)))) = false by rw [show decide (4 < (2 : Nat)) = false from rfl, Bool.and_false]; rfl]
          have hct : ((false :: cp'.tail)).length = cp'.length := by show cp'.tail.length + 1 = cp'.length; rw [List.length_tail]; omega
          refine ih (d + 11) op (kn' + 1) (tkE n T q') m' (k :: w) (false :: cp'.tail) true (apd sx R') I1 v1 _ (by omega) (by omega) ⟨p3, hv1, txm_f hx' (frE_frm g2), g1, ⟨by omega, ?_, ?_, by omega, by omega, ?_⟩, by omega, by omega, fun _ => ⟨rfl, rfl⟩, fun g => by omega, Or.inr (by rw [hb]; decide)⟩ ?_ ?_
          · show st + (apd sx R').length + ((if k = 28 then 0 else 1) + opc w) = kn' + 1
            rw [if_neg hk28]; omega
          · show w.length + 1 = ((if k = 28 then 0 else 1) + opc w) + (((false :: cp'.tail)).length - 1)
            have := hN.2.2.1
            rw [if_neg hk28]; omega
          · intro x hxm
            rcases List.mem_cons.mp hxm with rfl | hxm
            · omega
            · exact hN.2.2.2.2.2 x hxm
          · intro q2 I2 v2 s2 cp2 nm2 kn2 R2 m2 f1 fk f2 f3 f4 f5 f6 f7 f8 f9 f10 f11 f12
            have el : s2 ++ k :: w = (s2 ++ [k]) ++ w := by rw [List.append_assoc]; rfl
            rw [el] at f1 f8
            rw [e_M_conjunction_25]
            have hxk : cso (10000 + k) = 2 ∧ nI (cva (10000 + k)) = nI 261 := by rcases hk with rfl <;> exact ⟨rfl, rfl⟩
            have s228 : ∀ x ∈ s2, x ≠ 28 := fun x hxm => (f9 x hxm).1
            have hal2 := @apd_len s2 R2
            have ho2 := opc_app (s := s2 ++ [k]) (w := w) (fun x hxm => by
              rcases List.mem_append.mp hxm with h | h
              · exact s228 x h
              · rw [List.mem_singleton.mp h]; exact hk28)
            have hl2 : (s2 ++ [k]).length = s2.length + 1 := by rw [List.length_append]; rfl
            have fin := md_puts (Q := fun _ h => am_V (d + 11) Q 190 33 [some (.ref 93)] [] h) (N := N) (r := r) (J := J) (n := n) (T := T) (v := v2) (d := d + 8) (q := q2) (x := 10000 + k) f7 (by have := f8.2.1; have := f8.1; omega) ?_
            · rw [hxk.1, hxk.2] at fin
              exact fin
            · intro I3 f13 f14
              rw [e_M_conjunction_33]
              have eap : (10000 + k) :: apd s2 R2 = apd (s2 ++ [k]) R2 := apd_app.symm
              rw [eap] at f13
              refine ihj q2 m2 (s2 ++ [k]) cp2 nm2 kn2 R2 I3 v2 (by omega) (h1.trans (es'.trans f1)) (by omega) f2 (by omega) f4 f5 (frE_tr h6 (frE_tr g2 (frE_tr f6 f14))) f13 f8 ?_ (by rw [f10]; exact h10) (fun g => by omega) f12
              intro x hxm
              rcases List.mem_append.mp hxm with h | h
              · have := f9 x h
                exact ⟨this.1, Nat.le_trans (by decide) this.2⟩
              · rw [List.mem_singleton.mp h, hb]; exact ⟨hk28, Nat.le_refl _⟩
          · intro f q2 I2 v2 f0 f2 f3 f4 f5 f6
            rw [e_M_conjunction_25, md_puts0 (by show f ≠ 0; omega) (by show f ≤ 9; omega), e_M_conjunction_33, mf_con4 f0 (by omega)]
            exact hF f q2 I2 v2 f0 f2 (by rw [h1, es']; exact f3) (by rw [h1, es']; exact f4) f5 (frE_tr h6 (frE_tr g2 f6))
      rw [e_M_conjunction_4, md_isWord h7 (by omega) h2 (z9 _) h5, am_asIe, e_M_conjunction_10, am_ifd]
      by_cases ca : tkK n T q' = 18
      · rw [bo_t (show (0, q').1 = 0 ∧ tkK n T (0, q').2 = 4 + 14 from ⟨rfl, ca⟩), if_neg n10]
        exact step 18 (by omega) ca
      · rw [bo_f (fun h => ca h.2), if_pos rfl]
        obtain ⟨y1, y2, y3, y4, y5⟩ := h12
        exact hG q' I' v' sx cp' nm' kn' R' (m' + 1) h1 hkk h2 h3 h4 h5 h6 hM' h8 h9 h10 (fun g => by omega) ⟨fun g => y1 (by omega), fun g => y2 (by omega), fun g => y3 (by omega), fun g => ca, fun g => by omega⟩
  rw [e_M_conjunction]
  refine ih D op kn q m w cp nm R I v _ hK (by omega) ⟨hq, hv, hx, hM, hN, hop, hm, fun _ => hnm (by omega), fun g => by omega, hdw_le (by decide) hwb⟩ ?_ ?_
  · intro q' I' v' s2 cp' nm' kn' R' m' f1 fk f2 f3 f4 f5 f6 f7 f8 f9 f10 f11 f12
    exact lp (n + 1) q' m' s2 cp' nm' kn' R' I' v' (by omega) f1 fk f2 f3 f4 f5 f6 f7 f8 (fun k hk => ⟨(f9 k hk).1, Nat.le_trans (by decide) (f9 k hk).2⟩) f10 (fun g => by omega) f12
  · intro f q' I' v' f0 f2 f3 f4 f5 f6
    obtain ⟨D2, rfl⟩ : ∃ D2, D = D2 + 1 := ⟨D - 1, by omega⟩
    rw [mf_con4 f0 (by omega)]
    exact hF f q' I' v' f0 f2 f3 f4 f5 f6
theorem ex_exp {K : Nat} (h7 : n ≤ 700) (ih : EXP N r J n T st 4 K) : EXP N r J n T st 5 K := by
  intro D op kn q m w cp nm R I v Q hK hD hP hG hF
  obtain ⟨hq, hv, hx, hM, hN, hop, hm, hnm, h19, hw⟩ := hP
  have hwb : hdw 1 w := hw
  have n5 := hN.2.2.2.2.1
  have n4 := hN.2.2.2.1
  obtain ⟨D, rfl⟩ : ∃ D', D = D' + 1 := ⟨D - 1, by omega⟩
  have hD9 : 11 ≤ D := by omega
  show am_D (D + 1) 189 [.ref 93] _ Q
  have z9 : ∀ q : Nat, ((0, q) : Nat × Nat).1 ≤ 9 := fun _ => Nat.zero_le _
  have lp : ∀ (j q' : Nat) (m' : Nat) (sx : List Nat) (cp' : List Bool) (nm' : Bool) (kn' : Nat) (R' : List Nat) (I' : Nat → Nat → Int32) (v' : Int32) , n < tkP n T q' + j → sy n T m q w cp true nm kn R = sy n T m' q' (sx ++ w) cp' false nm' kn' R' → kn ≤ kn' → q' ≤ n → tkP n T q < tkP n T q' → n < tkP n T q' + m' → tvm n T q' v' → frE st I I' → exM st kn' op (apd sx R') I' → exN st kn' (sx ++ w) cp' R' → (∀ k ∈ sx, k ≠ 28 ∧ 1 ≤ bnd k) → cp'.tail = cp.tail → (5 < 3 → cp' = cp) → nxt n T 4 q' cp' → am_V D Q 189 4 [some (.ref 93)] [] (am_hp N r (mS I' n T (0, q') v') J) := by
    intro j
    induction j with
    | zero =>
      intro q' m' sx cp' nm' kn' R' I' v'  h0 h1 h2 h3
      have := (tk_pos (T := T) h7 h3).2.1
      omega
    | succ j ihj =>
      intro q' m' sx cp' nm' kn' R' I' v'  h0 h1 hkk h2 h3 h4 h5 h6 hM' h8 h9 h10 h11 h12
      obtain ⟨p1, p2, p3, p4, p5, p6⟩ := tk_pos (T := T) h7 h2
      have hx' := txm_f hx (frE_frm h6)
      obtain ⟨m', rfl⟩ : ∃ m2, m' = m2 + 1 := ⟨m' - 1, by omega⟩
      obtain ⟨d, rfl⟩ : ∃ d, D = d + 11 := ⟨D - 11, by omega⟩
      have hN' := h8
      obtain ⟨e1, e2, e3, e4, e5, e6⟩ := hN'
      have hs28 : ∀ k ∈ sx, k ≠ 28 := fun k hk => (h9 k hk).1
      have ho := opc_app (s := sx) (w := w) hs28
      have hal := @apd_len sx R'
      have hlen : cp'.length = cp.length := by
        have : cp'.tail.length = cp.tail.length := by rw [h10]
        rw [List.length_tail, List.length_tail] at this
        omega
      have step : ∀ k, (k = 17) → tkK n T q' = k → am_D (d + 11) 188 [.ref 93] (am_hp N r (mS I' n T (0, q') v') J) (fun _ h => am_V (d + 11) Q 189 17 [some (.ref 93)] [] h) := by
        intro k hk hkq
        have hb : bnd k = 1 := by rcases hk with rfl <;> rfl
        have hk28 : k ≠ 28 := by omega
        have hk0 : tkK n T q' ≠ 0 := by omega
        have c27 : ¬ (tkK n T q' = 27 ∧ cp'.length = 1) := by omega
        have c29 : ¬ (tkK n T q' = 29 ∧ 1 < cp'.length) := by omega
        have c3 : ¬ (bnd (tkK n T q') = 0 ∨ tkK n T q' = 19 ∨ (bnd (tkK n T q') = 4 ∧ hdb cp' = true)) := by rw [hkq, hb]; omega
        have pq := (tk_pos (T := T) h7 p3).1
        have pq2 := p4 hk0
        by_cases c64 : kn' = 64
        · have es := sy_sgF (n := n) (T := T) (m := m') (p := q') (w := sx ++ w) (cp := cp') (nm := nm') (kn := kn') (R := R') c27 c29 c3 (by omega)
          rw [md_knotF (Or.inr hM') c64, e_M_expression_17, mf_goOn (by omega) (by omega), e_M_expression_21, mf_con (by omega) (by omega), e_M_expression_25, md_puts0 (by show (2 : Nat) ≠ 0; omega) (by show (2 : Nat) ≤ 9; omega), e_M_expression_33, mf_exp4 (by omega) (by omega)]
          exact hF 2 q' I' v' (by omega) (by omega) (by rw [h1, es]) (by rw [h1, es]) h2 h6
        · have es := sy_sg (n := n) (T := T) (m := m') (p := q') (w := sx ++ w) (cp := cp') (nm := nm') (kn := kn') (R := R') c27 c29 c3 (by omega)
          rw [hkq, hb, stl_app h9 hwb] at es
          refine md_knot (d := d + 9) hM' (by omega) ?_
          intro I1 g1 g2
          rw [e_M_expression_17]
          refine md_goOn (d := d + 3) (txm_f hx' (frE_frm g2)) h2 (z9 _) h5 ?_
          rw [sG_ok]
          intro v1 hv1
          rw [e_M_expression_21]
          have es' : sy n T (m' + 1) q' (sx ++ w) cp' false nm' kn' R' = sy n T m' (tkE n T q') (k :: w) (false :: cp'.tail) true true (kn' + 1) (apd sx R') := by
            rw [es, show (decide ((1 : Nat) < 4)) = true from rfl, show (decide ((1 : Nat) = 4) || (hdb cp' && decide (4 < (1 : Nat)))) = false by rw [show decide (4 < (1 : Nat)) = false from rfl, Bool.and_false]; rfl]
          have hct : ((false :: cp'.tail)).length = cp'.length := by show cp'.tail.length + 1 = cp'.length; rw [List.length_tail]; omega
          refine ih (d + 11) op (kn' + 1) (tkE n T q') m' (k :: w) (false :: cp'.tail) true (apd sx R') I1 v1 _ (by omega) (by omega) ⟨p3, hv1, txm_f hx' (frE_frm g2), g1, ⟨by omega, ?_, ?_, by omega, by omega, ?_⟩, by omega, by omega, fun _ => ⟨rfl, rfl⟩, fun g => by omega, Or.inr (by rw [hb]; decide)⟩ ?_ ?_
          · show st + (apd sx R').length + ((if k = 28 then 0 else 1) + opc w) = kn' + 1
            rw [if_neg hk28]; omega
          · show w.length + 1 = ((if k = 28 then 0 else 1) + opc w) + (((false :: cp'.tail)).length - 1)
            have := hN.2.2.1
            rw [if_neg hk28]; omega
          · intro x hxm
            rcases List.mem_cons.mp hxm with rfl | hxm
            · omega
            · exact hN.2.2.2.2.2 x hxm
          · intro q2 I2 v2 s2 cp2 nm2 kn2 R2 m2 f1 fk f2 f3 f4 f5 f6 f7 f8 f9 f10 f11 f12
            have el : s2 ++ k :: w = (s2 ++ [k]) ++ w := by rw [List.append_assoc]; rfl
            rw [el] at f1 f8
            rw [e_M_expression_25]
            have hxk : cso (10000 + k) = 2 ∧ nI (cva (10000 + k)) = nI 262 := by rcases hk with rfl <;> exact ⟨rfl, rfl⟩
            have s228 : ∀ x ∈ s2, x ≠ 28 := fun x hxm => (f9 x hxm).1
            have hal2 := @apd_len s2 R2
            have ho2 := opc_app (s := s2 ++ [k]) (w := w) (fun x hxm => by
              rcases List.mem_append.mp hxm with h | h
              · exact s228 x h
              · rw [List.mem_singleton.mp h]; exact hk28)
            have hl2 : (s2 ++ [k]).length = s2.length + 1 := by rw [List.length_append]; rfl
            have fin := md_puts (Q := fun _ h => am_V (d + 11) Q 189 33 [some (.ref 93)] [] h) (N := N) (r := r) (J := J) (n := n) (T := T) (v := v2) (d := d + 8) (q := q2) (x := 10000 + k) f7 (by have := f8.2.1; have := f8.1; omega) ?_
            · rw [hxk.1, hxk.2] at fin
              exact fin
            · intro I3 f13 f14
              rw [e_M_expression_33]
              have eap : (10000 + k) :: apd s2 R2 = apd (s2 ++ [k]) R2 := apd_app.symm
              rw [eap] at f13
              refine ihj q2 m2 (s2 ++ [k]) cp2 nm2 kn2 R2 I3 v2 (by omega) (h1.trans (es'.trans f1)) (by omega) f2 (by omega) f4 f5 (frE_tr h6 (frE_tr g2 (frE_tr f6 f14))) f13 f8 ?_ (by rw [f10]; exact h10) (fun g => by omega) f12
              intro x hxm
              rcases List.mem_append.mp hxm with h | h
              · have := f9 x h
                exact ⟨this.1, Nat.le_trans (by decide) this.2⟩
              · rw [List.mem_singleton.mp h, hb]; exact ⟨hk28, Nat.le_refl _⟩
          · intro f q2 I2 v2 f0 f2 f3 f4 f5 f6
            rw [e_M_expression_25, md_puts0 (by show f ≠ 0; omega) (by show f ≤ 9; omega), e_M_expression_33, mf_exp4 f0 (by omega)]
            exact hF f q2 I2 v2 f0 f2 (by rw [h1, es']; exact f3) (by rw [h1, es']; exact f4) f5 (frE_tr h6 (frE_tr g2 f6))
      rw [e_M_expression_4, md_isWord h7 (by omega) h2 (z9 _) h5, am_asIe, e_M_expression_10, am_ifd]
      by_cases ca : tkK n T q' = 17
      · rw [bo_t (show (0, q').1 = 0 ∧ tkK n T (0, q').2 = 4 + 13 from ⟨rfl, ca⟩), if_neg n10]
        exact step 17 (by omega) ca
      · rw [bo_f (fun h => ca h.2), if_pos rfl]
        obtain ⟨y1, y2, y3, y4, y5⟩ := h12
        exact hG q' I' v' sx cp' nm' kn' R' (m' + 1) h1 hkk h2 h3 h4 h5 h6 hM' h8 h9 h10 (fun g => by omega) ⟨fun g => y1 (by omega), fun g => y2 (by omega), fun g => y3 (by omega), fun g => y4 (by omega), fun g => ca⟩
  rw [e_M_expression]
  refine ih D op kn q m w cp nm R I v _ hK (by omega) ⟨hq, hv, hx, hM, hN, hop, hm, fun _ => hnm (by omega), fun g => by omega, hdw_le (by decide) hwb⟩ ?_ ?_
  · intro q' I' v' s2 cp' nm' kn' R' m' f1 fk f2 f3 f4 f5 f6 f7 f8 f9 f10 f11 f12
    exact lp (n + 1) q' m' s2 cp' nm' kn' R' I' v' (by omega) f1 fk f2 f3 f4 f5 f6 f7 f8 (fun k hk => ⟨(f9 k hk).1, Nat.le_trans (by decide) (f9 k hk).2⟩) f10 (fun g => by omega) f12
  · intro f q' I' v' f0 f2 f3 f4 f5 f6
    obtain ⟨D2, rfl⟩ : ∃ D2, D = D2 + 1 := ⟨D - 1, by omega⟩
    rw [mf_exp4 f0 (by omega)]
    exact hF f q' I' v' f0 f2 f3 f4 f5 f6
end
