/-! ===== L3: the class reads the lines, but for laws ===== -/
/-- what a line leaves as it is -/
def frt (t : Nat) (I I' : Nat → Nat → Int32) : Prop := ∀ a, a ≠ 43 → a ≠ 44 → ¬ (46 ≤ a ∧ a ≤ 48) → ¬ (t ≤ a ∧ a ≤ t + 19) → I' a = I a
def fltt (t N : Nat) (r : am_rho) (J : Nat → Nat → Int64) (Q : Value → am_H → Prop) (I : Nat → Nat → Int32) (f pl : Nat) : Prop := ∀ I', frt t I I' → I' 43 6 = nI f → I' 43 7 = nI pl → Q (.int (nI 0)) (am_hp N r I' J)
def e43 (I' X : Nat → Nat → Int32) : Prop := (∀ a, a ≠ 43 → I' a = X a) ∧ I' 43 3 = X 43 3 ∧ I' 43 5 = X 43 5 ∧ I' 43 6 = X 43 6 ∧ I' 43 7 = X 43 7
theorem frt_u {t a k : Nat} {I : Nat → Nat → Int32} {x : Int32} (h : a = 43 ∨ a = 44 ∨ (46 ≤ a ∧ a ≤ 48) ∨ (t ≤ a ∧ a ≤ t + 19)) : frt t I (am_u I a k x) := by
  intro b h1 h2 h3 h4
  exact am_uRow (by omega)
theorem frt_tr {t : Nat} {I I' I'' : Nat → Nat → Int32} (h : frt t I I') (k : frt t I' I'') : frt t I I'' := fun a h1 h2 h3 h4 => (k a h1 h2 h3 h4).trans (h a h1 h2 h3 h4)
theorem frt_re {t : Nat} {I : Nat → Nat → Int32} : frt t I I := fun _ _ _ _ _ => rfl
theorem fltt_q {t N f pl : Nat} {r : am_rho} {J : Nat → Nat → Int64} {Q : Value → am_H → Prop} {I X : Nat → Nat → Int32} (h : fltt t N r J Q I f pl) (hx : frt t I X) : fltq N r J Q X f pl := fun I' h1 h2 h3 => h I' (fun a g1 g2 g3 g4 => (h1 a g1 g2).trans (hx a g1 g2 g3 g4)) h2 h3
section
variable (n : Nat) (T : Nat → Nat) (p : Nat)
def ln4 (hn : Nat → Int32) (m : Nat) : Nat × Nat := if m = 8 then (2, p) else if nfF hn m n T (tkE n T p) ≠ 0 then (nfF hn m n T (tkE n T p), tkE n T p) else (0, tkE n T (tkE n T p))
def ln5 (hn : Nat → Int32) (m s : Nat) (wy : Nat → Nat → Bool) : Nat × Nat := if s = 12 then (2, p) else if nhF hn m n T (tkE n T p) ≠ 0 then (nhF hn m n T (tkE n T p), tkE n T p) else if nhF hn m n T (tkE n T (tkE n T p)) ≠ 0 then (nhF hn m n T (tkE n T (tkE n T p)), tkE n T (tkE n T p)) else if nhI hn m n T (tkE n T p) = nhI hn m n T (tkE n T (tkE n T p)) then (5, tkE n T (tkE n T p)) else if wy (nhI hn m n T (tkE n T p)) (nhI hn m n T (tkE n T (tkE n T p))) = true then (3, tkE n T (tkE n T p)) else if nuF 1 9 n T (tkE n T (tkE n T (tkE n T p))) ≠ 0 then (nuF 1 9 n T (tkE n T (tkE n T (tkE n T p))), tkE n T (tkE n T (tkE n T p))) else (0, tkE n T (tkE n T (tkE n T (tkE n T p))))
def ln6 (hn zn : Nat → Int32) (m z : Nat) : Nat × Nat := if z = 5 then (2, p) else if nfF zn z n T (tkE n T p) ≠ 0 then (nfF zn z n T (tkE n T p), tkE n T p) else if nhF hn m n T (tkE n T (tkE n T p)) ≠ 0 then (nhF hn m n T (tkE n T (tkE n T p)), tkE n T (tkE n T p)) else if nuF 0 9 n T (tkE n T (tkE n T (tkE n T p))) ≠ 0 then (nuF 0 9 n T (tkE n T (tkE n T (tkE n T p))), tkE n T (tkE n T (tkE n T p))) else if nhF hn m n T (tkE n T (tkE n T (tkE n T (tkE n T p)))) ≠ 0 then (nhF hn m n T (tkE n T (tkE n T (tkE n T (tkE n T p)))), tkE n T (tkE n T (tkE n T (tkE n T p)))) else (0, tkE n T (tkE n T (tkE n T (tkE n T (tkE n T p)))))
def ln7 (hn zn : Nat → Int32) (m z l : Nat) : Nat × Nat := if l = 8 then (2, p) else if nhF zn z n T (tkE n T p) ≠ 0 then (nhF zn z n T (tkE n T p), tkE n T p) else if nhF hn m n T (tkE n T (tkE n T p)) ≠ 0 then (nhF hn m n T (tkE n T (tkE n T p)), tkE n T (tkE n T p)) else (0, tkE n T (tkE n T (tkE n T p)))
def ln8 (hn : Nat → Int32) (m a : Nat) : Nat × Nat := if a = 6 then (2, p) else if nhF hn m n T (tkE n T p) ≠ 0 then (nhF hn m n T (tkE n T p), tkE n T p) else if nuF 0 11 n T (tkE n T (tkE n T p)) ≠ 0 then (nuF 0 11 n T (tkE n T (tkE n T p)), tkE n T (tkE n T p)) else if nuF (tkV n T (tkE n T (tkE n T p))) 11 n T (tkE n T (tkE n T (tkE n T p))) ≠ 0 then (nuF (tkV n T (tkE n T (tkE n T p))) 11 n T (tkE n T (tkE n T (tkE n T p))), tkE n T (tkE n T (tkE n T p))) else (0, tkE n T (tkE n T (tkE n T (tkE n T p))))
def ln9 (hn : Nat → Int32) (m : Nat) (lo : Nat → Bool) : Nat × Nat := if nhF hn m n T (tkE n T p) ≠ 0 then (nhF hn m n T (tkE n T p), tkE n T p) else if lo (nhI hn m n T (tkE n T p)) = true then (3, tkE n T p) else if nuF 1 9 n T (tkE n T (tkE n T p)) ≠ 0 then (nuF 1 9 n T (tkE n T (tkE n T p)), tkE n T (tkE n T p)) else (0, tkE n T (tkE n T (tkE n T p)))
def ln10 (hn : Nat → Int32) (m : Nat) (ct : Nat → Bool) : Nat × Nat := if nhF hn m n T (tkE n T p) ≠ 0 then (nhF hn m n T (tkE n T p), tkE n T p) else if ct (nhI hn m n T (tkE n T p)) = true then (3, tkE n T p) else (0, tkE n T (tkE n T p))
def ln12 (sd : Bool) : Nat × Nat := if sd = true then (3, p) else if nuF 0 99999 n T (tkE n T p) ≠ 0 then (nuF 0 99999 n T (tkE n T p), tkE n T p) else (0, tkE n T (tkE n T p))
end
section
variable {d N : Nat} {Q : Value → am_H → Prop} {r : am_rho} {I : Nat → Nat → Int32} {J : Nat → Nat → Int64} {rt rs t rl nt nw nf n p m la z l a s : Nat} {T : Nat → Nat} {v : Int32}
theorem nhF_lt {f : Nat → Int32} (h : nhF f m n T p = 0) : nhI f m n T p < m := by
  unfold nhF at h
  split at h
  · omega
  · split at h
    · assumption
    · omega
theorem nuF_in {lo hi : Nat} (h : nuF lo hi n T p = 0) : lo ≤ tkV n T p ∧ tkV n T p ≤ hi := by
  unfold nuF at h
  split at h
  · omega
  · split at h
    · assumption
    · omega
theorem tkE_le (hx : tx I n T) (hp : p ≤ n) : tkE n T p ≤ n := (tk_pos hx.1.1 hp).2.2.1
def uL4 (t m : Nat) (nm : Int32) (I : Nat → Nat → Int32) : Nat → Nat → Int32 := am_u (am_u I (t + 1) m nm) t 0 (nI (m + 1))
theorem cl_house (hx : tx I n T) (ht : t = 3 ∨ t = 23) (hp : p ≤ n) (hm : I t 0 = nI m) (hm8 : m ≤ 8)
    (hF : ∀ f q, ln4 n T p (I (t + 1)) m = (f, q) → f ≠ 0 → fltt t N (rt, rs, t, rl, 2, nt, nw, nf) J Q I f (tkP n T q))
    (hS : ∀ q v' I', ln4 n T p (I (t + 1)) m = (0, q) → tvc n T q v' → e43 I' (uL4 t m (tkN n T (tkE n T p)) I) → Q (.int (nI 1)) (am_hp N (rt, rs, t, rl, 2, nt, nw, nf) (tK I' n T q v') J)) :
    am_D (d + 12) 41 [.ref 43] (am_hp N (rt, rs, t, rl, 2, nt, nw, nf) (tK I n T p v) J) Q := by
  have hp1 := tkE_le hx hp
  rw [e_Reader_readHouse ht, tK_o (by omega), hm]
  refine cl_oneMore hx hp hm8 (by omega) ?_ ?_
  · intro e I' h1 h2 h3
    rw [am_asIe, e_Reader_readHouse_13 ht, am_ifd, if_pos rfl]
    exact fltt_q (hF 2 p (by unfold ln4; rw [if_pos e]) (by omega)) frt_re I' h1 h2 h3
  · intro e v' hv'
    rw [am_asIe, e_Reader_readHouse_13 ht, am_ifd, if_neg n10, tK_o (by omega), hm]
    refine cl_isNew (la := 8) (by rcases ht with rfl | rfl <;> rfl) hm8 (by omega) (by omega) hp1 hx.1.1 hv' ?_ ?_
    · intro g I' h1 h2 h3
      rw [am_asIe, e_Reader_readHouse_34 ht, am_ifn, if_pos rfl]
      exact fltt_q (hF _ _ (by unfold ln4; rw [if_neg e, if_pos g]) g) frt_re I' h1 h2 h3
    · intro g
      rw [am_asIe, e_Reader_readHouse_34 ht, am_ifn, if_neg n10]
      try simp (config := {maxSteps := 1000000}) (disch := omega) only [nI_add, nI_1, am_mulN, nI_clamp, am_gI, am_ifd, am_ifn, am_asIe, am_asLe, nI_leI, nI_ltI, nI_eq, am_neg1, am_neg1b, tK_u, tK_o, tK_1, tK_2, tK_3, tK_4, tK_5, am_uE, am_uN, hm]
      refine cl_adv (tx_u (tx_u (tx_u hx (by omega) (by omega)) (by omega) (by omega)) (by omega) (by omega)) hp1 ?_
      intro v2 hv2
      rw [e_Reader_readHouse_78]
      refine hS _ v2 _ (by unfold ln4; rw [if_neg e, if_neg (by omega)]) hv2 ⟨?_, ?_, ?_⟩
      · intro b hb
        funext j
        unfold uL4 am_u
        simp only [hb, false_and, if_false]
      · unfold uL4; try simp (config := {maxSteps := 1000000}) (disch := omega) only [nI_add, nI_1, am_mulN, nI_clamp, am_gI, am_ifd, am_ifn, am_asIe, am_asLe, nI_leI, nI_ltI, nI_eq, am_neg1, am_neg1b, tK_u, tK_o, tK_1, tK_2, tK_3, tK_4, tK_5, am_uE, am_uN]
      · unfold uL4; try simp (config := {maxSteps := 1000000}) (disch := omega) only [nI_add, nI_1, am_mulN, nI_clamp, am_gI, am_ifd, am_ifn, am_asIe, am_asLe, nI_leI, nI_ltI, nI_eq, am_neg1, am_neg1b, tK_u, tK_o, tK_1, tK_2, tK_3, tK_4, tK_5, am_uE, am_uN, and_self]
def uL5 (t s x y : Nat) (w : Int32) (I : Nat → Nat → Int32) : Nat → Nat → Int32 := am_u (am_u (am_u (am_u I (t + 3) s (nI (8 * x + y))) t 1 (nI (s + 1))) (t + 4) (8 * x + y) w) (t + 4) (8 * y + x) w
theorem cl_street {wy : Nat → Nat → Bool} (hx : tx I n T) (ht : t = 3 ∨ t = 23) (hp : p ≤ n) (hm : I t 0 = nI m) (hm8 : m ≤ 8) (hs : I t 1 = nI s) (hs12 : s ≤ 12) (hw : ∀ x y, x < m → y < m → (wy x y = true ↔ ¬ I (t + 4) (8 * x + y) ≤ nI 0))
    (hF : ∀ f q, ln5 n T p (I (t + 1)) m s wy = (f, q) → f ≠ 0 → fltt t N (rt, rs, t, rl, 2, nt, nw, nf) J Q I f (tkP n T q))
    (hS : ∀ q v' I', ln5 n T p (I (t + 1)) m s wy = (0, q) → tvc n T q v' → e43 I' (uL5 t s (nhI (I (t + 1)) m n T (tkE n T p)) (nhI (I (t + 1)) m n T (tkE n T (tkE n T p))) (nI (tkV n T (tkE n T (tkE n T (tkE n T p))))) I) → Q (.int (nI 1)) (am_hp N (rt, rs, t, rl, 2, nt, nw, nf) (tK I' n T q v') J)) :
    am_D (d + 14) 42 [.ref 43] (am_hp N (rt, rs, t, rl, 2, nt, nw, nf) (tK I n T p v) J) Q := by
  have hp1 := tkE_le hx hp
  have hp2 := tkE_le hx hp1
  have hp3 := tkE_le hx hp2
  unfold ln5 at hF hS
  rw [e_Reader_readStreet ht, tK_o (by omega), hs]
  refine cl_oneMore hx hp hs12 (by omega) ?_ ?_
  · intro e I' h1 h2 h3
    rw [am_asIe, e_Reader_readStreet_13, am_ifd, if_pos rfl]
    exact fltt_q (hF 2 p (by rw [if_pos e]) (by omega)) frt_re I' h1 h2 h3
  · intro e v1 hv1
    rw [if_neg e] at hF hS
    rw [am_asIe, e_Reader_readStreet_13, am_ifd, if_neg n10]
    refine cl_takeHouse hx ht hm hm8 hp1 hv1 ?_ ?_
    · intro g I' h1 h2 h3
      rw [am_asIe, e_Reader_readStreet_20, am_ifn, if_pos rfl]
      exact fltt_q (hF _ _ (by rw [if_pos g]) g) frt_re I' h1 h2 h3
    · intro g v2 hv2
      have gx := nhF_lt g
      rw [if_neg (by omega)] at hF hS
      generalize nhI (I (t + 1)) m n T (tkE n T p) = x at hF hS gx ⊢
      rw [am_asIe, e_Reader_readStreet_20, am_ifn, if_neg n10]
      try simp (config := {maxSteps := 1000000}) (disch := omega) only [nI_add, nI_1, am_mulN, nI_clamp, am_gI, am_ifd, am_ifn, am_asIe, am_asLe, nI_leI, nI_ltI, nI_eq, am_neg1, am_neg1b, tK_u, tK_o, tK_1, tK_2, tK_3, tK_4, tK_5, am_uE, am_uN]
      refine cl_isToldHouse ht (m := m) (by rw [am_uN (by omega)]; exact hm) hm8 hp2 hx.1.1 hv2 ?_ ?_
      · rw [am_uRow (by omega)]
        intro g2 I' h1 h2 h3
        rw [am_asIe, e_Reader_readStreet_34 ht, am_ifn, if_pos rfl]
        exact fltt_q (hF _ _ (by rw [if_pos g2]) g2) (frt_u (by omega)) I' h1 h2 h3
      · rw [am_uRow (by omega), am_uu]
        intro g2
        have gy := nhF_lt g2
        rw [if_neg (by omega)] at hF hS
        generalize nhI (I (t + 1)) m n T (tkE n T (tkE n T p)) = y at hF hS gy ⊢
        have hw' := hw x y gx gy
        rw [am_asIe, e_Reader_readStreet_34 ht, am_ifn, if_neg n10]
        have h64 : am_g (am_inb (nI (8 * x + y)) 64) = id := by funext q; exact am_gI (by omega) (by omega)
        try simp (config := {maxSteps := 1000000}) (disch := omega) only [nI_add, nI_1, am_mulN, nI_clamp, am_gI, am_ifd, am_ifn, am_asIe, am_asLe, nI_leI, nI_ltI, nI_eq, am_neg1, am_neg1b, tK_u, tK_o, tK_1, tK_2, tK_3, tK_4, tK_5, am_uE, am_uN]
        rw [show x * 8 + y = 8 * x + y by omega]
        try simp (config := {maxSteps := 1000000}) (disch := omega) only [nI_add, nI_1, am_mulN, nI_clamp, am_gI, am_ifd, am_ifn, am_asIe, am_asLe, nI_leI, nI_ltI, nI_eq, am_neg1, am_neg1b, tK_u, tK_o, tK_1, tK_2, tK_3, tK_4, tK_5, am_uE, am_uN]
        by_cases exy : x = y
        · rw [if_pos exy] at hF
          rw [if_pos exy]
          refine cl_fail ?_
          intro I' h1 h2 h3
          rw [am_asIe, e_Reader_readStreet_54, am_gT (by rfl)]
          exact fltt_q (hF 5 _ rfl (by omega)) (frt_u (by omega)) I' h1 h2 h3
        · rw [if_neg exy] at hF hS
          rw [if_neg exy]
          by_cases c : I (t + 4) (8 * x + y) ≤ nI 0
          · have hwf : wy x y = false := ts_ne (fun g => hw'.mp g c)
            rw [hwf, if_neg (by simp)] at hF hS
            rw [if_pos c]
            refine cl_adv (tx_u hx (by omega) (by omega)) hp2 ?_
            intro v3 hv3
            rw [e_Reader_readStreet_85]
            refine cl_takeNumber (tx_u hx (by omega) (by omega)) hp3 (by omega) (by omega) hv3 ?_ ?_
            · intro g3 I' h1 h2 h3
              rw [am_asIe, e_Reader_readStreet_92 ht, am_ifn, if_pos rfl]
              exact fltt_q (hF _ _ (by rw [if_pos g3]) g3) (frt_u (by omega)) I' h1 h2 h3
            · rw [am_uu]
              intro g3 v4 hv4
              rw [if_neg (by omega)] at hS
              have hlt : s < 12 := by omega
              rw [am_asIe, e_Reader_readStreet_92 ht, am_ifn, if_neg n10, e_Town_addStreet ht]
              try simp (config := {maxSteps := 1000000}) (disch := omega) only [nI_add, nI_1, am_mulN, nI_clamp, am_gI, am_ifd, am_ifn, am_asIe, am_asLe, nI_leI, nI_ltI, nI_eq, am_neg1, am_neg1b, tK_u, tK_o, tK_1, tK_2, tK_3, tK_4, tK_5, am_uE, am_uN, hs]
              rw [show x * 8 + y = 8 * x + y by omega, s_T_join (by rcases ht with rfl | rfl <;> rfl) (by omega) (by omega), e_Town_addStreet_39 ht, e_Reader_readStreet_110]
              try simp (config := {maxSteps := 1000000}) (disch := omega) only [nI_add, nI_1, am_mulN, nI_clamp, am_gI, am_ifd, am_ifn, am_asIe, am_asLe, nI_leI, nI_ltI, nI_eq, am_neg1, am_neg1b, tK_u, tK_o, tK_1, tK_2, tK_3, tK_4, tK_5, am_uE, am_uN]
              refine hS _ v4 _ rfl hv4 ⟨?_, ?_, ?_⟩
              · intro b hb
                funext j
                unfold uL5 am_u
                simp only [hb, false_and, if_false]
              · unfold uL5; try simp (config := {maxSteps := 1000000}) (disch := omega) only [nI_add, nI_1, am_mulN, nI_clamp, am_gI, am_ifd, am_ifn, am_asIe, am_asLe, nI_leI, nI_ltI, nI_eq, am_neg1, am_neg1b, tK_u, tK_o, tK_1, tK_2, tK_3, tK_4, tK_5, am_uE, am_uN]
              · unfold uL5; try simp (config := {maxSteps := 1000000}) (disch := omega) only [nI_add, nI_1, am_mulN, nI_clamp, am_gI, am_ifd, am_ifn, am_asIe, am_asLe, nI_leI, nI_ltI, nI_eq, am_neg1, am_neg1b, tK_u, tK_o, tK_1, tK_2, tK_3, tK_4, tK_5, am_uE, am_uN, and_self]
          · have hwt : wy x y = true := hw'.mpr c
            rw [if_pos hwt] at hF
            rw [if_neg c]
            refine cl_fail ?_
            intro I' h1 h2 h3
            rw [am_asIe, e_Reader_readStreet_77, am_gT (by rfl)]
            exact fltt_q (hF 3 _ rfl (by omega)) (frt_u (by omega)) I' h1 h2 h3
end
