/-! ===== L3: the model's E, 4 ===== -/
theorem sgc_cmp : ∀ k, k < 40 → 27 ≤ k → ((sgc k = 60 ∨ sgc k = 62 ∨ sgc k = 61 ∨ 256 ≤ sgc k) ↔ 34 ≤ k) := by decide +kernel
theorem cva_s : ∀ k, k < 40 → 34 ≤ k → cso (10000 + k) = 2 ∧ cva (10000 + k) = sgc k := by decide +kernel
section
variable {N : Nat} {r : am_rho} {J : Nat → Nat → Int64} {n : Nat} {T : Nat → Nat} {st : Nat}
theorem ex_neg {K : Nat} (h7 : n ≤ 700) (ih : EXP N r J n T st 2 K) : ∀ j, j ≤ K → EXP N r J n T st 3 j := by
  intro j
  induction j with
  | zero =>
    intro _ D op kn q m w cp nm R I v Q hK hD hP
    have := (tk_pos (T := T) h7 hP.1).2.1
    omega
  | succ j ihj =>
    intro hjK D op kn q m w cp nm R I v Q hK hD hP hG hF
    obtain ⟨hq, hv, hx, hM, hN, hop, hm, hnm, h19, hw⟩ := hP
    obtain ⟨rfl, hcf⟩ := hnm (by omega)
    have hwb : hdw 4 w := hw
    have hN' := hN
    obtain ⟨n1, n2, n3, n4, n5, n6⟩ := hN'
    obtain ⟨k1, k2, k3, k4, k5, k6⟩ := tk_pos (T := T) h7 hq
    obtain ⟨d, rfl⟩ : ∃ d, D = d + 12 := ⟨D - 12, by omega⟩
    obtain ⟨m, rfl⟩ : ∃ m', m = m' + 1 := ⟨m - 1, by omega⟩
    have z9 : ∀ q : Nat, ((0, q) : Nat × Nat).1 ≤ 9 := fun _ => Nat.zero_le _
    show am_D (d + 12) 191 [.ref 93] _ Q
    rw [e_M_negation, md_isWord h7 (by omega) hq (z9 _) hv, am_asIe, e_M_negation_6, am_ifd]
    by_cases c19 : tkK n T q = 19
    · rw [bo_t (show (0, q).1 = 0 ∧ tkK n T (0, q).2 = 4 + 15 from ⟨rfl, c19⟩), if_neg n10]
      have pq := (tk_pos (T := T) h7 k3).1
      have pq2 := k4 (by omega)
      by_cases c64 : kn = 64
      · have es := sy_notF (n := n) (T := T) (m := m) (p := q) (w := w) (cp := cp) (kn := kn) (R := R) c19 (by omega)
        rw [md_knotF (Or.inr hM) c64, e_M_negation_13, mf_goOn (by omega) (by omega), e_M_negation_17, mf_neg (by omega) (by omega), e_M_negation_21, md_puts0 (by show (2 : Nat) ≠ 0; omega) (by show (2 : Nat) ≤ 9; omega), e_M_negation_29]
        exact hF 2 q I v (by omega) (by omega) (by rw [es]) (by rw [es]) hq frE_re
      · have es := sy_not (n := n) (T := T) (m := m) (p := q) (w := w) (cp := cp) (kn := kn) (R := R) c19 (by omega)
        refine md_knot (d := d + 9) hM (by omega) ?_
        intro I1 g1 g2
        rw [e_M_negation_13]
        refine md_goOn (d := d + 3) (txm_f hx (frE_frm g2)) hq (z9 _) hv ?_
        rw [sG_ok]
        intro v1 hv1
        rw [e_M_negation_17]
        refine ihj (by omega) (d + 11) op (kn + 1) (tkE n T q) m (19 :: w) cp true R I1 v1 _ (by omega) (by omega) ⟨k3, hv1, txm_f hx (frE_frm g2), g1, ⟨by omega, ?_, ?_, n4, n5, ?_⟩, hop, by omega, fun _ => ⟨rfl, hcf⟩, fun g => absurd g (by omega), Or.inr (by decide)⟩ ?_ ?_
        · show st + R.length + (1 + opc w) = kn + 1; omega
        · show w.length + 1 = (1 + opc w) + (cp.length - 1); omega
        · intro x hxm
          rcases List.mem_cons.mp hxm with rfl | hxm
          · omega
          · exact n6 x hxm
        · intro q2 I2 v2 s2 cp2 nm2 kn2 R2 m2 f1 fk f2 f3 f4 f5 f6 f7 f8 f9 f10 f11 f12
          have el : s2 ++ 19 :: w = (s2 ++ [19]) ++ w := by rw [List.append_assoc]; rfl
          rw [el] at f1 f8
          have hal2 := @apd_len s2 R2
          have ho2 := opc_app (s := s2 ++ [19]) (w := w) (fun x hxm => by
            rcases List.mem_append.mp hxm with h | h
            · exact (f9 x h).1
            · rw [List.mem_singleton.mp h]; omega)
          have hl2 : (s2 ++ [19]).length = s2.length + 1 := by rw [List.length_append]; rfl
          rw [e_M_negation_21]
          refine md_puts (d := d + 8) (q := q2) (x := 10019) f7 (by have := f8.2.1; have := f8.1; omega) ?_
          intro I3 f13 f14
          rw [e_M_negation_29]
          have eap : 10019 :: apd s2 R2 = apd (s2 ++ [19]) R2 := (apd_app (k := 19) (s := s2) (R := R2)).symm
          rw [eap] at f13
          refine hG q2 I3 v2 (s2 ++ [19]) cp2 nm2 kn2 R2 m2 (es.trans f1) (by omega) f2 (by omega) f4 f5 (frE_tr g2 (frE_tr f6 f14)) f13 f8 ?_ f10 (fun g => absurd g (by omega)) f12
          intro x hxm
          rcases List.mem_append.mp hxm with h | h
          · exact f9 x h
          · rw [List.mem_singleton.mp h]; exact ⟨by omega, by decide⟩
        · intro f q2 I2 v2 f0 f2 f3 f4 f5 f6
          rw [e_M_negation_21, md_puts0 (by show f ≠ 0; omega) (by show f ≤ 9; omega), e_M_negation_29]
          exact hF f q2 I2 v2 f0 f2 (by rw [es]; exact f3) (by rw [es]; exact f4) f5 (frE_tr g2 f6)
    · rw [bo_f (fun h => c19 h.2), if_pos rfl]
      refine ih (d + 11) op kn q (m + 1) w cp true R I v _ (by omega) (by omega) ⟨hq, hv, hx, hM, hN, hop, hm, fun g => absurd g (by omega), fun _ _ => c19, hdw_le (by decide) hwb⟩ ?_ ?_
      · intro q' I' v' sx cp' nm' kn' R' m' h1 hkk h2 h3 h4 h5 h6 hM' h8 h9 h10 h11 h12
        obtain rfl := h11 (by omega)
        obtain ⟨p1, p2, p3, p4, p5, p6⟩ := tk_pos (T := T) h7 h2
        obtain ⟨_, _, _, t3, _, t6⟩ := tso_t (tkK n T q') p6
        have hx' := txm_f hx (frE_frm h6)
        obtain ⟨y1, y2, _⟩ := h12
        obtain ⟨m', rfl⟩ : ∃ m2, m' = m2 + 1 := ⟨m' - 1, by omega⟩
        have hs28 : ∀ k ∈ sx, k ≠ 28 := fun k hk => (h9 k hk).1
        have ho := opc_app (s := sx) (w := w) hs28
        have hal := @apd_len sx R'
        obtain ⟨e1, e2, e3, e4, e5, e6⟩ := h8
        rw [e_M_negation_34, mS_31, am_ifni (nI_eq (by omega) (by omega)), if_pos rfl, mS_29p, am_ifni (nI_eq (by omega) (by omega)), mS_30]
        have out : ¬ 34 ≤ tkK n T q' → Q .null (am_hp N r (mS I' n T (0, q') v') J) := by
          intro c
          exact hG q' I' v' sx cp' nm' kn' R' (m' + 1) h1 hkk h2 h3 h4 h5 h6 hM' ⟨e1, e2, e3, e4, e5, e6⟩ (fun k hk => ⟨(h9 k hk).1, Nat.le_trans (by decide) (h9 k hk).2⟩) h10 (fun g => absurd g (by omega)) ⟨fun g => y1 (by omega), fun g => y2 (by omega), fun _ g => absurd g c, fun g => absurd g (by omega), fun g => absurd g (by omega)⟩
        have cmp : 34 ≤ tkK n T q' → am_D (d + 11) 188 [.ref 93] (am_hp N r (mS I' n T (0, q') v') J) (fun _ h => am_V (d + 11) Q 191 96 [some (.ref 93), some (.int v')] [] h) := by
          intro c34
          have hb := bnd_4 c34
          have hk28 : tkK n T q' ≠ 28 := by omega
          have c27 : ¬ (tkK n T q' = 27 ∧ cp'.length = 1) := by omega
          have c29 : ¬ (tkK n T q' = 29 ∧ 1 < cp'.length) := by omega
          have c3 : ¬ (bnd (tkK n T q') = 0 ∨ tkK n T q' = 19 ∨ (bnd (tkK n T q') = 4 ∧ hdb cp' = true)) := by rw [hb, hcf]; simp; omega
          have pq := (tk_pos (T := T) h7 p3).1
          have pq2 := p4 (by omega)
          have hvv : v' = nI (sgc (tkK n T q')) := h5.2.2.2 (by omega)
          by_cases c64 : kn' = 64
          · have es := sy_sgF (n := n) (T := T) (m := m') (p := q') (w := sx ++ w) (cp := cp') (nm := nm') (kn := kn') (R := R') c27 c29 c3 (by omega)
            rw [md_knotF (Or.inr hM') c64, e_M_negation_96, mf_goOn (by omega) (by omega), e_M_negation_100, mf_sum (by omega) (by omega), e_M_negation_104, md_puts0 (by show (2 : Nat) ≠ 0; omega) (by show (2 : Nat) ≤ 9; omega), e_M_negation_110]
            exact hF 2 q' I' v' (by omega) (by omega) (by rw [h1, es]) (by rw [h1, es]) h2 h6
          · have es := sy_sg (n := n) (T := T) (m := m') (p := q') (w := sx ++ w) (cp := cp') (nm := nm') (kn := kn') (R := R') c27 c29 c3 (by omega)
            have hst : stl 4 (sx ++ w) R' = (w, apd sx R') := stl_app (fun k hk => ⟨(h9 k hk).1, Nat.le_trans (by decide) (h9 k hk).2⟩) hwb
            rw [hb, hst] at es
            have es' : sy n T (m' + 1) q' (sx ++ w) cp' false nm' kn' R' = sy n T m' (tkE n T q') (tkK n T q' :: w) (true :: cp'.tail) true false (kn' + 1) (apd sx R') := es
            have hct : (true :: cp'.tail).length = cp'.length := by show cp'.tail.length + 1 = cp'.length; rw [List.length_tail]; omega
            refine md_knot (d := d + 9) hM' (by omega) ?_
            intro I1 g1 g2
            rw [e_M_negation_96]
            refine md_goOn (d := d + 3) (txm_f hx' (frE_frm g2)) h2 (z9 _) h5 ?_
            rw [sG_ok]
            intro v1 hv1
            rw [e_M_negation_100]
            refine ih (d + 11) op (kn' + 1) (tkE n T q') m' (tkK n T q' :: w) (true :: cp'.tail) false (apd sx R') I1 v1 _ (by omega) (by omega) ⟨p3, hv1, txm_f hx' (frE_frm g2), g1, ⟨by omega, ?_, ?_, by omega, by omega, ?_⟩, by omega, by omega, fun g => absurd g (by omega), fun _ g => Bool.noConfusion g, Or.inr (by rw [hb]; decide)⟩ ?_ ?_
            · show st + (apd sx R').length + ((if tkK n T q' = 28 then 0 else 1) + opc w) = kn' + 1
              rw [if_neg hk28]; omega
            · show w.length + 1 = ((if tkK n T q' = 28 then 0 else 1) + opc w) + ((true :: cp'.tail).length - 1)
              rw [if_neg hk28]; omega
            · intro x hxm
              rcases List.mem_cons.mp hxm with rfl | hxm
              · exact p6
              · exact n6 x hxm
            · intro q2 I2 v2 s2 cp2 nm2 kn2 R2 m2 f1 fk f2 f3 f4 f5 f6 f7 f8 f9 f10 f11 f12
              obtain rfl := f11 (by omega)
              have el : s2 ++ tkK n T q' :: w = (s2 ++ [tkK n T q']) ++ w := by rw [List.append_assoc]; rfl
              rw [el] at f1 f8
              have hal2 := @apd_len s2 R2
              have ho2 := opc_app (s := s2 ++ [tkK n T q']) (w := w) (fun x hxm => by
                rcases List.mem_append.mp hxm with h | h
                · exact (f9 x h).1
                · rw [List.mem_singleton.mp h]; exact hk28)
              have hl2 : (s2 ++ [tkK n T q']).length = s2.length + 1 := by rw [List.length_append]; rfl
              obtain ⟨w1, w2⟩ := cva_s (tkK n T q') p6 c34
              rw [e_M_negation_104]
              have fin := md_puts (Q := fun _ h => am_V (d + 11) Q 191 110 [some (.ref 93), some (.int v')] [] h) (N := N) (r := r) (J := J) (n := n) (T := T) (v := v2) (d := d + 8) (q := q2) (x := 10000 + tkK n T q') f7 (by have := f8.2.1; have := f8.1; omega) ?_
              · rw [w1, w2, ← hvv] at fin
                exact fin
              · intro I3 f13 f14
                rw [e_M_negation_110]
                have eap : (10000 + tkK n T q') :: apd s2 R2 = apd (s2 ++ [tkK n T q']) R2 := apd_app.symm
                rw [eap] at f13
                obtain ⟨u1, u2, _⟩ := f12
                refine hG q2 I3 v2 (s2 ++ [tkK n T q']) (true :: cp'.tail) nm2 kn2 R2 m2 (h1.trans (es'.trans f1)) (by omega) f2 (by omega) f4 f5 (frE_tr h6 (frE_tr g2 (frE_tr f6 f14))) f13 f8 ?_ rfl (fun g => absurd g (by omega)) ⟨fun g => u1 (by omega), fun g => u2 (by omega), fun _ _ => rfl, fun g => absurd g (by omega), fun g => absurd g (by omega)⟩
                intro x hxm
                rcases List.mem_append.mp hxm with h | h
                · exact ⟨(f9 x h).1, Nat.le_trans (by decide) (f9 x h).2⟩
                · rw [List.mem_singleton.mp h, hb]; exact ⟨hk28, by decide⟩
            · intro f q2 I2 v2 f0 f2 f3 f4 f5 f6
              rw [e_M_negation_104, md_puts0 (by show f ≠ 0; omega) (by show f ≤ 9; omega), e_M_negation_110]
              exact hF f q2 I2 v2 f0 f2 (by rw [h1, es']; exact f3) (by rw [h1, es']; exact f4) f5 (frE_tr h6 (frE_tr g2 f6))
        by_cases c3 : tso (tkK n T q') = 3
        · have h27 := t3.mp c3
          have hvv : v' = nI (sgc (tkK n T q')) := h5.2.2.2 h27
          have hb3 := sgc_b (tkK n T q') p6
          have hcm := sgc_cmp (tkK n T q') p6 h27
          have c60 : v' = nI 60 ↔ sgc (tkK n T q') = 60 := by rw [hvv, nI_eq (by omega) (by omega)]
          have c62 : v' = nI 62 ↔ sgc (tkK n T q') = 62 := by rw [hvv, nI_eq (by omega) (by omega)]
          have c61 : v' = nI 61 ↔ sgc (tkK n T q') = 61 := by rw [hvv, nI_eq (by omega) (by omega)]
          have c256 : nI 256 ≤ v' ↔ 256 ≤ sgc (tkK n T q') := by rw [hvv, nI_leI (by omega) (by omega)]
          rw [if_pos c3, am_ifi c60, am_ifi c62, am_ifi c61, am_ifi c256]
          by_cases a1 : sgc (tkK n T q') = 60
          · rw [if_pos a1]; exact cmp (hcm.mp (Or.inl a1))
          rw [if_neg a1]
          by_cases a2 : sgc (tkK n T q') = 62
          · rw [if_pos a2]; exact cmp (hcm.mp (Or.inr (Or.inl a2)))
          rw [if_neg a2]
          by_cases a3 : sgc (tkK n T q') = 61
          · rw [if_pos a3]; exact cmp (hcm.mp (Or.inr (Or.inr (Or.inl a3))))
          rw [if_neg a3]
          by_cases a4 : 256 ≤ sgc (tkK n T q')
          · rw [if_pos a4]; exact cmp (hcm.mp (Or.inr (Or.inr (Or.inr a4))))
          rw [if_neg a4]
          refine out (fun g => ?_)
          rcases hcm.mpr g with h | h | h | h
          · exact a1 h
          · exact a2 h
          · exact a3 h
          · exact a4 h
        · rw [if_neg c3]
          exact out (fun g => c3 (t3.mpr (by omega)))
      · intro f q2 I2 v2 f0 f2 f3 f4 f5 f6
        rw [e_M_negation_34, mS_31, am_ifni (nI_eq (by show f < _; omega) (by omega)), if_neg f0]
        exact hF f q2 I2 v2 f0 f2 f3 f4 f5 f6
theorem ex_all (h7 : n ≤ 700) : ∀ K, EXP N r J n T st 5 K
  | 0 => by
    intro D op kn q m w cp nm R I v Q hK hD hP
    have := (tk_pos (T := T) h7 hP.1).2.1
    omega
  | K + 1 => ex_exp h7 (ex_con h7 (ex_neg h7 (ex_sum h7 (ex_prod h7 (ex_pri h7 (ex_all h7 K)))) (K + 1) (Nat.le_refl _)))
end
