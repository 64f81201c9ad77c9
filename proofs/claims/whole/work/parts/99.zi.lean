/-! ===== L3: the model's E, 2 ===== -/
def lvB (lv : Nat) : Nat := if lv = 0 then 7 else if lv = 1 then 6 else if lv = 2 then 5 else if lv = 3 then 3 else if lv = 4 then 2 else 1
def lvC (lv : Nat) : Nat := if lv = 0 then 8 else if lv = 1 then 6 else if lv = 2 then 5 else if lv = 3 then 4 else if lv = 4 then 2 else 1
/-- what the next token is not -/
def nxt (n : Nat) (T : Nat → Nat) (lv q : Nat) (cp : List Bool) : Prop := (1 ≤ lv → tkK n T q ≠ 32 ∧ tkK n T q ≠ 33) ∧ (2 ≤ lv → tkK n T q ≠ 30 ∧ tkK n T q ≠ 31) ∧ (3 ≤ lv → 34 ≤ tkK n T q → hdb cp = true) ∧ (4 ≤ lv → tkK n T q ≠ 18) ∧ (5 ≤ lv → tkK n T q ≠ 17)
def eG (N : Nat) (r : am_rho) (J : Nat → Nat → Int64) (Q : Value → am_H → Prop) (n : Nat) (T : Nat → Nat) (st op lv : Nat) (I : Nat → Nat → Int32) (m q : Nat) (w : List Nat) (cp : List Bool) (nm : Bool) (kn : Nat) (R : List Nat) : Prop :=
  ∀ q' I' v' s cp' nm' kn' R' m', sy n T m q w cp true nm kn R = sy n T m' q' (s ++ w) cp' false nm' kn' R' → kn ≤ kn' → q' ≤ n → tkP n T q < tkP n T q' → n < tkP n T q' + m' → tvm n T q' v' → frE st I I' → exM st kn' op (apd s R') I' → exN st kn' (s ++ w) cp' R' → (∀ k ∈ s, k ≠ 28 ∧ lvB lv ≤ bnd k) → cp'.tail = cp.tail → (lv < 3 → cp' = cp) → nxt n T lv q' cp' → Q .null (am_hp N r (mS I' n T (0, q') v') J)
def eF (N : Nat) (r : am_rho) (J : Nat → Nat → Int64) (Q : Value → am_H → Prop) (n : Nat) (T : Nat → Nat) (st : Nat) (I : Nat → Nat → Int32) (m q : Nat) (w : List Nat) (cp : List Bool) (nm : Bool) (kn : Nat) (R : List Nat) : Prop :=
  ∀ f q' I' v', f ≠ 0 → f ≤ 2 → (sy n T m q w cp true nm kn R).1 = f → (sy n T m q w cp true nm kn R).2.1 = q' → q' ≤ n → frE st I I' → Q .null (am_hp N r (mS I' n T (f, q') v') J)
def ePre (n : Nat) (T : Nat → Nat) (st op lv : Nat) (I : Nat → Nat → Int32) (v : Int32) (m q : Nat) (w : List Nat) (cp : List Bool) (nm : Bool) (kn : Nat) (R : List Nat) : Prop :=
  q ≤ n ∧ tvm n T q v ∧ txm I n T ∧ exM st kn op R I ∧ exN st kn w cp R ∧ op + 1 = cp.length ∧ n < tkP n T q + m ∧ (3 ≤ lv → nm = true ∧ hdb cp = false) ∧ (lv < 3 → nm = true → tkK n T q ≠ 19) ∧ hdw (lvC lv) w
def EXP (N : Nat) (r : am_rho) (J : Nat → Nat → Int64) (n : Nat) (T : Nat → Nat) (st lv K : Nat) : Prop :=
  ∀ (D op kn q m : Nat) (w : List Nat) (cp : List Bool) (nm : Bool) (R : List Nat) (I : Nat → Nat → Int32) (v : Int32) (Q : Value → am_H → Prop), n < tkP n T q + K → 6 * (8 - op) + (64 - kn) + 12 + lv ≤ D → ePre n T st op lv I v m q w cp nm kn R → eG N r J Q n T st op lv I m q w cp nm kn R → eF N r J Q n T st I m q w cp nm kn R → am_D D (194 - lv) [.ref 93] (am_hp N r (mS I n T (0, q) v) J) Q
section
variable {N : Nat} {r : am_rho} {J : Nat → Nat → Int64} {n : Nat} {T : Nat → Nat} {st : Nat}
theorem bnd_0 {k : Nat} (h1 : k ≠ 17) (h2 : k ≠ 18) (h3 : k ≠ 19) (h4 : k < 30) : bnd k = 0 := by
  unfold bnd
  rw [if_neg h1, if_neg h2, if_neg h3, if_neg (by omega), if_neg (by omega), if_neg (by omega)]
theorem bnd_4 {k : Nat} (h : 34 ≤ k) : bnd k = 4 := by
  unfold bnd
  rw [if_neg (by omega), if_neg (by omega), if_neg (by omega), if_neg (by omega), if_neg (by omega), if_pos h]
theorem ex_pri {K : Nat} (h7 : n ≤ 700) (ih : EXP N r J n T st 5 K) : EXP N r J n T st 0 (K + 1) := by
  intro D op kn q m w cp nm R I v Q hK hD hP hG hF
  obtain ⟨hq, hv, hx, hM, hN, hop, hm, _, h19, _⟩ := hP
  have h19' : ¬ (tkK n T q = 19 ∧ nm = true) := fun g => h19 (by omega) g.2 g.1
  obtain ⟨n1, n2, n3, n4, n5, n6⟩ := hN
  obtain ⟨k1, k2, k3, k4, k5, k6⟩ := tk_pos (T := T) h7 hq
  have hop8 : op ≤ 8 := by omega
  obtain ⟨d, rfl⟩ : ∃ d, D = d + 12 := ⟨D - 12, by omega⟩
  obtain ⟨m, rfl⟩ : ∃ m', m = m' + 1 := ⟨m - 1, by omega⟩
  obtain ⟨M1, M2, M3, M4⟩ := hM
  have hM : exM st kn op R I := ⟨M1, M2, M3, M4⟩
  obtain ⟨t2, t1, t0, t3, t4, t6⟩ := tso_t (tkK n T q) k6
  have prog : tkK n T q ≠ 0 → tkP n T q < tkP n T (tkE n T q) := by
    intro g
    have := (tk_pos (T := T) h7 k3).1
    have := k4 g
    omega
  have z9 : ((0, q) : Nat × Nat).1 ≤ 9 := Nat.zero_le _
  show am_D (d + 12) 194 [.ref 93] _ Q
  have e40 : (nI 40 : Int32) = nI (sgc 28) := rfl
  have e41 : (nI 41 : Int32) = nI (sgc 29) := rfl
  rw [e_M_primary, mS_31, am_ifi (nI_eq (by omega) (by omega)), if_pos rfl, e40, md_isSign h7 (by omega) (by omega) hq z9 hv, am_asIe, e_M_primary_14, am_ifd]
  by_cases c28 : tkK n T q = 28
  · rw [bo_t (show (0, q).1 = 0 ∧ tkK n T (0, q).2 = 28 from ⟨rfl, c28⟩), if_neg n10, mS_o (by omega), M1, am_ifni (nI_eq (by omega) (by omega))]
    by_cases c8 : op = 8
    · have es := sy_openF (n := n) (T := T) (m := m) (p := q) (w := w) (cp := cp) (nm := nm) (kn := kn) (R := R) c28 (by omega)
      rw [if_pos c8, md_wrong (by omega) z9]
      show am_V (d + 11) Q 194 31 _ [] (am_hp N r (mS I n T (2, q) v) J)
      rw [e_M_primary_31, mS_31, am_ifi (nI_eq (by show (2 : Nat) < _; omega) (by omega)), if_neg (by show ¬ (2 : Nat) = 0; omega)]
      exact hF 2 q I v (by omega) (by omega) (by rw [es]) (by rw [es]) hq frE_re
    · have es := sy_open (n := n) (T := T) (m := m) (p := q) (w := w) (cp := cp) (nm := nm) (kn := kn) (R := R) c28 (by omega)
      rw [if_neg c8, e_M_primary_31, mS_31, am_ifi (nI_eq (by omega) (by omega)), if_pos rfl, mS_o (by omega), M1, nI_add, mS_u (by omega)]
      have frO : frE st I (am_u I 93 35 (nI (op + 1))) := ⟨fun a h1 h2 h3 h4 => by rw [am_uRow (by omega)], fun k hk => by rw [am_uN (by omega)], fun k hk => ⟨by rw [am_uN (by omega)], by rw [am_uN (by omega)]⟩, fun k h1 h2 => by rw [am_uN (by omega)]⟩
      have hxO := txm_f hx (frE_frm frO)
      refine md_tok (d := d + 4) hxO hq ?_
      intro v1 hv1
      have pg := prog (by omega)
      rw [e_M_primary_53]
      refine ih (d + 11) (op + 1) kn (tkE n T q) m (28 :: w) (false :: cp) true R (am_u I 93 35 (nI (op + 1))) v1 _ (by omega) (by omega) ⟨k3, hv1, hxO, ⟨by rw [am_uE], by rw [am_uN (by omega)]; exact M2, by rw [am_uN (by omega)]; exact M3, mwU_c (fun k hk => ⟨by rw [am_uN (by omega)], by rw [am_uN (by omega)]⟩) M4⟩, ⟨n1, ?_, ?_, ?_, ?_, ?_⟩, ?_, by omega, fun _ => ⟨rfl, rfl⟩, fun g => by omega, Or.inl rfl⟩ ?_ ?_
      · show st + R.length + (0 + opc w) = kn; omega
      · show w.length + 1 = (0 + opc w) + (cp.length + 1 - 1); omega
      · show 1 ≤ cp.length + 1; omega
      · show cp.length + 1 ≤ 9; omega
      · intro k hk
        rcases List.mem_cons.mp hk with rfl | hk
        · omega
        · exact n6 k hk
      · show op + 1 + 1 = cp.length + 1; omega
      · intro q' I' v' s cp' nm' kn' R' m' g1 gk g2 g3 g4 g5 g6 g7 g8 g9 g10 g11 g12
        have kq := (tk_pos (T := T) h7 g2).2.2.2.2.2
        obtain ⟨p1, p2, p3, p4, p5, p6⟩ := tk_pos (T := T) h7 g2
        have hx' := txm_f hxO (frE_frm g6)
        have z9' : ((0, q') : Nat × Nat).1 ≤ 9 := Nat.zero_le _
        obtain ⟨G1, G2, G3, G4⟩ := g7
        have hs28 : ∀ k ∈ s, k ≠ 28 := fun k hk => (g9 k hk).1
        have hcl : 1 < cp'.length := by
          have : cp'.tail.length = cp.length := by rw [g10]; rfl
          rw [List.length_tail] at this
          omega
        rw [e_M_primary_57, mS_31, am_ifni (nI_eq (by omega) (by omega)), if_pos rfl, e41, md_isSign h7 (by omega) (by omega) g2 z9' g5, am_asIe, e_M_primary_70, am_ifn]
        obtain ⟨m', rfl⟩ : ∃ m2, m' = m2 + 1 := ⟨m' - 1, by omega⟩
        by_cases c29 : tkK n T q' = 29
        · rw [bo_t (show (0, q').1 = 0 ∧ tkK n T (0, q').2 = 29 from ⟨rfl, c29⟩), if_neg n10, e_M_primary_78, mS_31, am_ifi (nI_eq (by omega) (by omega)), if_pos rfl, mS_o (by omega), G1, am_subN (by omega), mS_u (by omega), show op + 1 - 1 = op by omega]
          have frC : frE st I' (am_u I' 93 35 (nI op)) := ⟨fun a h1 h2 h3 h4 => by rw [am_uRow (by omega)], fun k hk => by rw [am_uN (by omega)], fun k hk => ⟨by rw [am_uN (by omega)], by rw [am_uN (by omega)]⟩, fun k h1 h2 => by rw [am_uN (by omega)]⟩
          refine md_tok (d := d + 4) (txm_f hx' (frE_frm frC)) g2 ?_
          intro v2 hv2
          rw [e_M_primary_100]
          have ec := sy_close (n := n) (T := T) (m := m') (p := q') (w := s ++ 28 :: w) (cp := cp') (nm := nm') (kn := kn') (R := R') c29 hcl
          have hst : stl 0 (s ++ 28 :: w) R' = (28 :: w, apd s R') := stl_app (fun k hk => ⟨hs28 k hk, Nat.zero_le _⟩) (Or.inl rfl)
          rw [hst, g10] at ec
          have pq := (tk_pos (T := T) h7 p3).1
          have pq2 := p4 (by omega)
          obtain ⟨N1, N2, N3, N4, N5, N6⟩ := g8
          have ho := opc_app (s := s) (w := 28 :: w) hs28
          have ho2 : opc (28 :: w) = opc w := by show (if 28 = 28 then 0 else 1) + opc w = opc w; rw [if_pos rfl]; omega
          refine hG (tkE n T q') _ v2 [] cp nm' kn' (apd s R') m' (es.trans (g1.trans ec)) gk p3 (by omega) (by omega) hv2 (frE_tr frO (frE_tr g6 frC)) ⟨by rw [am_uE], by rw [am_uN (by omega)]; exact G2, by rw [am_uN (by omega)]; exact G3, mwU_c (fun k hk => ⟨by rw [am_uN (by omega)], by rw [am_uN (by omega)]⟩) G4⟩ ⟨N1, ?_, n3, n4, n5, n6⟩ (fun k hk => by cases hk) rfl (fun _ => rfl) ⟨fun g => by omega, fun g => by omega, fun g => by omega, fun g => by omega, fun g => by omega⟩
          rw [apd_len]
          show st + (R'.length + s.length) + opc w = kn'
          omega
        · rw [bo_f (fun h => c29 h.2), if_pos rfl, md_wrong (by omega) z9']
          show am_V (d + 11) Q 194 78 _ [] (am_hp N r (mS I' n T (1, q') v') J)
          rw [e_M_primary_78, mS_31, am_ifi (nI_eq (by show (1 : Nat) < _; omega) (by omega)), if_neg (by show ¬ (1 : Nat) = 0; omega)]
          obtain ⟨x1, x2, x3, x4, x5⟩ := g12
          have hbad : bnd (tkK n T q') = 0 ∨ tkK n T q' = 19 ∨ (bnd (tkK n T q') = 4 ∧ hdb cp' = true) := by
            have y1 := x1 (by omega)
            have y2 := x2 (by omega)
            have y4 := x4 (by omega)
            have y5 := x5 (by omega)
            rcases Nat.lt_or_ge (tkK n T q') 34 with g | g
            · by_cases c19 : tkK n T q' = 19
              · exact Or.inr (Or.inl c19)
              · exact Or.inl (bnd_0 y5 y4 c19 (by omega))
            · exact Or.inr (Or.inr ⟨bnd_4 g, x3 (by omega) g⟩)
          have ec := sy_sgM (n := n) (T := T) (m := m') (p := q') (w := s ++ 28 :: w) (cp := cp') (nm := nm') (kn := kn') (R := R') (by omega) (by omega) hbad
          exact hF 1 q' I' v' (by omega) (by omega) (by rw [es, g1, ec]) (by rw [es, g1, ec]) g2 (frE_tr frO g6)
      · intro f q' I' v' f0 f2 g1 g2 g3 g4
        rw [e_M_primary_57, mS_31, am_ifni (nI_eq (by show f < _; omega) (by omega)), if_neg f0, e_M_primary_78, mS_31, am_ifi (nI_eq (by show f < _; omega) (by omega)), if_neg f0]
        exact hF f q' I' v' f0 f2 (by rw [es]; exact g1) (by rw [es]; exact g2) g3 (frE_tr frO g4)
  · rw [bo_f (fun h => c28 h.2), if_pos rfl, mS_29p, am_ifni (nI_eq (by omega) (by omega)), mS_30]
    have bad : ∀ f y, f = 1 ∨ f = 2 → sy n T (m + 1) q w cp true nm kn R = (f, q, kn, R) → am_V (d + 11) Q 194 162 [some (.ref 93), some (.int y)] [] (am_hp N r (mS I n T (f, q) v) J) := by
      intro f y hf es
      rw [e_M_primary_162, md_knot0 (by show f ≠ 0; omega) (by show f ≤ 9; omega), e_M_primary_166]
      have f0 : f ≠ 0 := by omega
      have done : am_V (d + 11) Q 194 197 [some (.ref 93), some (.int y)] [] (am_hp N r (mS I n T (f, q) v) J) := by
        rw [e_M_primary_197, mf_goOn f0 (by omega), e_M_primary_201]
        exact hF f q I v f0 (by omega) (by rw [es]) (by rw [es]) hq frE_re
      rw [md_puts0 (by show f ≠ 0; omega) (by show f ≤ 9; omega), md_puts0 (by show f ≠ 0; omega) (by show f ≤ 9; omega), md_puts0 (by show f ≠ 0; omega) (by show f ≤ 9; omega), md_puts0 (by show f ≠ 0; omega) (by show f ≤ 9; omega)]
      simp only [am_ifd, ite_self]
      exact done
    have good : ∀ (b : Bool) (x : Nat), b = decide (tkK n T q = 2) → x = (if tkK n T q = 2 then tkV n T q else 10000 + tkK n T q) → ¬ (tkK n T q ≠ 2 ∧ (tkK n T q < 20 ∨ 26 < tkK n T q)) → ¬ (tkK n T q = 2 ∧ 9999 < tkV n T q) → am_V (d + 11) Q 194 162 [some (.ref 93), some (.int (nI b.toNat))] [] (am_hp N r (mS I n T (0, q) v) J) := by
      intro b x hb hxe c3 c9
      by_cases c64 : kn = 64
      · have es := sy_muc (n := n) (T := T) (m := m) (p := q) (w := w) (cp := cp) (nm := nm) (kn := kn) (R := R) c28 h19' c3 (by omega)
        rw [e_M_primary_162, md_knotF (Or.inr hM) c64, e_M_primary_166]
        have done : am_V (d + 11) Q 194 197 [some (.ref 93), some (.int (nI b.toNat))] [] (am_hp N r (mS I n T (2, q) v) J) := by
          rw [e_M_primary_197, mf_goOn (by omega) (by omega), e_M_primary_201]
          exact hF 2 q I v (by omega) (by omega) (by rw [es]) (by rw [es]) hq frE_re
        rw [md_puts0 (by show (2 : Nat) ≠ 0; omega) (by show (2 : Nat) ≤ 9; omega), md_puts0 (by show (2 : Nat) ≠ 0; omega) (by show (2 : Nat) ≤ 9; omega), md_puts0 (by show (2 : Nat) ≠ 0; omega) (by show (2 : Nat) ≤ 9; omega), md_puts0 (by show (2 : Nat) ≠ 0; omega) (by show (2 : Nat) ≤ 9; omega)]
        simp only [am_ifd, ite_self]
        exact done
      · have es := sy_side (n := n) (T := T) (m := m) (p := q) (w := w) (cp := cp) (nm := nm) (kn := kn) (R := R) c28 h19' c3 (by omega)
        rw [← hxe] at es
        have hk0 : tkK n T q ≠ 0 := by omega
        have pg := prog hk0
        rw [e_M_primary_162]
        refine md_knot (d := d + 9) hM (by omega) ?_
        intro I1 g1 g2
        have fin : ∀ I2, exM st (kn + 1) op (x :: R) I2 → frE st I1 I2 → am_V (d + 11) Q 194 197 [some (.ref 93), some (.int (nI b.toNat))] [] (am_hp N r (mS I2 n T (0, q) v) J) := by
          intro I2 g3 g4
          rw [e_M_primary_197]
          refine md_goOn (d := d + 3) (txm_f hx (frE_frm (frE_tr g2 g4))) hq z9 hv ?_
          rw [sG_ok]
          intro v2 hv2
          rw [e_M_primary_201]
          refine hG (tkE n T q) I2 v2 [] cp nm (kn + 1) (x :: R) m es (by omega) k3 pg (by omega) hv2 (frE_tr g2 g4) g3 ⟨by omega, ?_, n3, n4, n5, n6⟩ (fun k hk => by cases hk) rfl (fun _ => rfl) ⟨fun g => by omega, fun g => by omega, fun g => by omega, fun g => by omega, fun g => by omega⟩
          show st + (R.length + 1) + opc w = kn + 1
          omega
        rw [e_M_primary_166, mS_30]
        by_cases ck : tkK n T q = 2
        · rw [decide_eq_true ck] at hb
          subst hb
          have hvv : v = nI (tkV n T q) := (hv.2.2.1 ck).1 (by omega)
          rw [if_pos ck] at hxe
          have e1 : cso x = 0 := if_pos (by omega)
          have e2 : cva x = x := if_pos (by omega)
          rw [am_ifd, if_neg nt0, am_ifd, if_neg nt0]
          have := md_puts (Q := fun _ h => am_V (d + 11) Q 194 197 [some (.ref 93), some (.int (nI (true).toNat))] [] h) (N := N) (r := r) (J := J) (n := n) (T := T) (v := v) (d := d + 8) (q := q) (x := x) g1 (by omega) fin
          rw [e1, e2, hxe] at this
          rw [hvv]
          rw [hvv] at this
          exact this
        · rw [decide_eq_false ck] at hb
          subst hb
          have hvv : v = nI (tkK n T q - 4) := hv.1 (by omega) (by omega)
          rw [if_neg ck] at hxe
          have e1 : cso x = 1 := by unfold cso; rw [if_neg (by omega), if_pos (by omega)]
          have e2 : cva x = tkK n T q - 4 - 16 := by unfold cva; rw [if_neg (by omega), if_pos (by omega)]; omega
          rw [am_ifd, if_pos nf0, am_ifd, if_pos nf0]
          have := md_puts (Q := fun _ h => am_V (d + 11) Q 194 197 [some (.ref 93), some (.int (nI (false).toNat))] [] h) (N := N) (r := r) (J := J) (n := n) (T := T) (v := v) (d := d + 8) (q := q) (x := x) g1 (by omega) fin
          rw [e1, e2] at this
          have hsub : v - nI 16 = nI (tkK n T q - 4 - 16) := by rw [hvv, am_subN (by omega)]
          rw [hsub]
          exact this
    by_cases ck : tkK n T q = 2
    · rw [if_pos (t2.mpr ck)]
      have hvr := hv.2.2.1 ck
      have q1 : v ≤ nI 9999 ↔ tkV n T q ≤ 9999 := by
        rcases Nat.lt_or_ge 99999 (tkV n T q) with g | g
        · obtain ⟨x, x1, x2, rfl⟩ := hvr.2 g
          rw [nI_leI (by omega) (by omega)]; omega
        · rw [hvr.1 g, nI_leI (by omega) (by omega)]
      rw [am_ifi q1]
      by_cases c9 : tkV n T q ≤ 9999
      · rw [if_pos c9]
        exact good true _ (by rw [decide_eq_true ck]) rfl (by omega) (by omega)
      · rw [if_neg c9, md_wrong (by omega) z9]
        show am_V (d + 11) Q 194 134 _ [] (am_hp N r (mS I n T (2, q) v) J)
        rw [e_M_primary_134]
        exact bad 2 _ (by omega) (sy_muc c28 h19' (by omega) (by omega))
    · rw [if_neg (fun g => ck (t2.mp g)), am_ifni (nI_eq (by omega) (by omega))]
      by_cases cw : tso (tkK n T q) = 0
      · have h4 := t0.mp cw
        have hvv : v = nI (tkK n T q - 4) := hv.1 h4.1 h4.2
        rw [if_pos cw, hvv, am_ifi (nI_leI (by omega) (by omega)), ← hvv]
        by_cases c16 : 16 ≤ tkK n T q - 4
        · rw [if_pos c16]
          exact good false _ (by rw [decide_eq_false ck]) rfl (by omega) (by omega)
        · rw [if_neg c16, md_wrong (by omega) z9]
          exact bad 1 _ (by omega) (sy_mis c28 h19' (by omega))
      · rw [if_neg cw, md_wrong (by omega) z9]
        exact bad 1 _ (by omega) (sy_mis c28 h19' (by have := fun g => cw (t0.mpr g); omega))
end
