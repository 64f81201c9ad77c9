/-! ===== L3: the class reads names and numbers ===== -/
section
variable {n : Nat} {T : Nat → Nat} {p : Nat}
theorem tk_pos (h7 : n ≤ 700) (hp : p ≤ n) : p ≤ tkP n T p ∧ tkP n T p ≤ n ∧ tkE n T p ≤ n ∧ (tkK n T p ≠ 0 → tkP n T p < tkE n T p) ∧ (tkK n T p = 0 ↔ tkP n T p = n) ∧ tkK n T p < 40 := by
  obtain ⟨s1, s2, s3, s4⟩ := scn_ex (P := fun q => spc (tcx n T q)) (n := n) (sc_n rfl) 701 p hp (by omega)
  change p ≤ tkP n T p at s2
  change tkP n T p ≤ n at s3
  refine ⟨s2, s3, ?_⟩
  by_cases c : n ≤ tkP n T p
  · have hK : tkK n T p = 0 := by unfold tkK; rw [if_pos c]
    have hE : tkE n T p = tkP n T p := by unfold tkE; rw [if_pos c]
    rw [hK, hE]
    exact ⟨s3, fun g => absurd rfl g, ⟨fun _ => by omega, fun _ => rfl⟩, by omega⟩
  · cases c1 : smc (tkC n T p) with
    | true =>
      obtain ⟨t1, t2, t3, t4⟩ := scn_ex (P := fun q => smc (tcx n T q)) (n := n) (sc_n rfl) 701 (tkP n T p) s3 (by omega)
      change smc (tcx n T (tkW n T p)) = false at t1
      change tkP n T p ≤ tkW n T p at t2
      change tkW n T p ≤ n at t3
      have hne : tkP n T p ≠ tkW n T p := by
        intro e
        rw [← e] at t1
        have : smc (tkC n T p) = false := t1
        rw [c1] at this; cases this
      have hI : tkI n T p ≤ 23 := fa_first_le _ _
      have hK : tkK n T p = (if tkI n T p < 23 then 4 + tkI n T p else if tkW n T p - tkP n T p ≤ 6 then 3 else 1) := by unfold tkK; rw [if_neg c, c1, cond_true]
      have hE : tkE n T p = tkW n T p := by unfold tkE; rw [if_neg c, c1, cond_true]
      have hb : 1 ≤ tkK n T p ∧ tkK n T p < 40 := by
        rw [hK]
        split
        · omega
        · split <;> omega
      rw [hE]
      exact ⟨t3, fun _ => by omega, ⟨fun g => by omega, fun g => by omega⟩, hb.2⟩
    | false =>
      cases c2 : dgc (tkC n T p) with
      | true =>
        obtain ⟨t1, t2, t3, t4⟩ := scn_ex (P := fun q => dgc (tcx n T q)) (n := n) (sc_n rfl) 701 (tkP n T p) s3 (by omega)
        change dgc (tcx n T (tkD n T p)) = false at t1
        change tkP n T p ≤ tkD n T p at t2
        change tkD n T p ≤ n at t3
        have hne : tkP n T p ≠ tkD n T p := by
          intro e
          rw [← e] at t1
          have : dgc (tkC n T p) = false := t1
          rw [c2] at this; cases this
        have hK : tkK n T p = 2 := by unfold tkK; rw [if_neg c, c1, cond_false, c2, cond_true]
        have hE : tkE n T p = tkD n T p := by unfold tkE; rw [if_neg c, c1, cond_false, c2, cond_true]
        rw [hK, hE]
        exact ⟨t3, fun _ => by omega, ⟨fun g => by omega, fun g => by omega⟩, by omega⟩
      | false =>
        have hK : tkK n T p = sgk (tkC n T p) (tcx n T (tkP n T p + 1)) := by unfold tkK; rw [if_neg c, c1, cond_false, c2, cond_false]
        have hE : tkE n T p = if tkK n T p = 35 ∨ tkK n T p = 37 ∨ tkK n T p = 38 then tkP n T p + 2 else tkP n T p + 1 := by unfold tkE; rw [if_neg c, c1, cond_false, c2, cond_false]
        have hb := @sgk_le (tkC n T p) (tcx n T (tkP n T p + 1))
        rw [← hK] at hb
        have h2 : (tkK n T p = 35 ∨ tkK n T p = 37 ∨ tkK n T p = 38) → tkP n T p + 1 < n := by
          intro g
          rcases Nat.lt_or_ge (tkP n T p + 1) n with k | k
          · exact k
          · exfalso
            rw [tc_out k] at hK
            rw [hK] at g
            unfold sgk at g
            have hle := fa_first_le (fun i => decide (sg i = tkC n T p)) 7
            rw [if_neg (show ¬ 256 = 61 by omega), if_neg (show ¬ 256 = 62 by omega), if_neg (show ¬ 256 = 61 by omega)] at g
            split at g
            · omega
            · split at g
              · omega
              · split at g
                · omega
                · split at g <;> omega
        rw [hE]
        by_cases g : tkK n T p = 35 ∨ tkK n T p = 37 ∨ tkK n T p = 38
        · have := h2 g
          rw [if_pos g]
          exact ⟨by omega, fun _ => by omega, ⟨fun g => by omega, fun g => by omega⟩, hb.2⟩
        · rw [if_neg g]
          exact ⟨by omega, fun _ => by omega, ⟨fun g => by omega, fun g => by omega⟩, hb.2⟩
end
def tx (I : Nat → Nat → Int32) (n : Nat) (T : Nat → Nat) : Prop := tx_c I n T ∧ i_str I
theorem tx_u {I : Nat → Nat → Int32} {n : Nat} {T : Nat → Nat} {a k : Nat} {v : Int32} (h : tx I n T) (ha : a ≠ 2) (hb : a < 2000) : tx (am_u I a k v) n T := by
  refine ⟨⟨h.1.1, ?_⟩, ?_⟩
  · rw [am_uRow (by omega)]; exact h.1.2
  · unfold i_str
    rw [am_uRow (by omega), am_uRow (by omega), am_uRow (by omega), am_uRow (by omega), am_uRow (by omega), am_uRow (by omega)]
    exact h.2
theorem tx_mv {I I' : Nat → Nat → Int32} {n : Nat} {T : Nat → Nat} (h : tx I n T) (h2 : I' 2 = I 2) (h3 : ∀ a, 2000 < a → I' a = I a) : tx I' n T := by
  refine ⟨⟨h.1.1, by rw [h2]; exact h.1.2⟩, ?_⟩
  unfold i_str
  rw [h3 _ (by omega), h3 _ (by omega), h3 _ (by omega), h3 _ (by omega), h3 _ (by omega), h3 _ (by omega)]
  exact h.2
/-! names and numbers, at the token that begins at p: the fault, 0 if none -/
def nhI (f : Nat → Int32) (m n : Nat) (T : Nat → Nat) (p : Nat) : Nat := fa_first (fun k => decide (f k = tkN n T p)) m
def nhF (f : Nat → Int32) (m n : Nat) (T : Nat → Nat) (p : Nat) : Nat := if tkK n T p ≠ 3 then 1 else if nhI f m n T p < m then 0 else 4
def nfF (f : Nat → Int32) (m n : Nat) (T : Nat → Nat) (p : Nat) : Nat := if tkK n T p ≠ 3 then 1 else if nhI f m n T p < m then 3 else 0
def nuF (lo hi n : Nat) (T : Nat → Nat) (p : Nat) : Nat := if tkK n T p ≠ 2 then 1 else if lo ≤ tkV n T p ∧ tkV n T p ≤ hi then 0 else 2
theorem nh_c {f g : Nat → Int32} {m n : Nat} {T : Nat → Nat} {p : Nat} (h : ∀ k, k < m → f k = g k) : nhI f m n T p = nhI g m n T p := by
  unfold nhI
  have : ∀ j, j ≤ m → fa_first (fun k => decide (f k = tkN n T p)) j = fa_first (fun k => decide (g k = tkN n T p)) j := by
    intro j hj
    induction j with
    | zero => rfl
    | succ j ih => rw [fa_first_S, fa_first_S, ih (by omega), h j (by omega)]
  exact this m (Nat.le_refl _)
theorem nhF_c {f g : Nat → Int32} {m n : Nat} {T : Nat → Nat} {p : Nat} (h : ∀ k, k < m → f k = g k) : nhF f m n T p = nhF g m n T p := by unfold nhF; rw [nh_c h]
theorem nfF_c {f g : Nat → Int32} {m n : Nat} {T : Nat → Nat} {p : Nat} (h : ∀ k, k < m → f k = g k) : nfF f m n T p = nfF g m n T p := by unfold nfF; rw [nh_c h]
/-- what a fault leaves -/
def fltq (N : Nat) (r : am_rho) (J : Nat → Nat → Int64) (Q : Value → am_H → Prop) (I : Nat → Nat → Int32) (f pl : Nat) : Prop := ∀ I', (∀ a, a ≠ 43 → a ≠ 44 → I' a = I a) → I' 43 6 = nI f → I' 43 7 = nI pl → Q (.int (nI 0)) (am_hp N r I' J)
section
variable {d N : Nat} {Q : Value → am_H → Prop} {r : am_rho} {I : Nat → Nat → Int32} {J : Nat → Nat → Int64} {rt rs t rl nt nw nf n p m la : Nat} {T : Nat → Nat} {v : Int32}
theorem tK_1 : tK I n T p v 44 1 = nI n := tH_1
theorem tK_2 : tK I n T p v 44 2 = nI (tkE n T p) := tH_2
theorem tK_3 : tK I n T p v 44 3 = nI (tkK n T p) := tH_3
theorem tK_4 : tK I n T p v 44 4 = nI (tkP n T p) := tH_4
theorem tK_5 : tK I n T p v 44 5 = v := tH_5
theorem tK_o {a k : Nat} (h : a ≠ 44) : tK I n T p v a k = I a k := tH_o h
theorem tK_row {a : Nat} (h : a ≠ 44) : tK I n T p v a = I a := tH_row h
theorem tK_u {a k : Nat} {x : Int32} (h : a ≠ 44) : am_u (tK I n T p v) a k x = tK (am_u I a k x) n T p v := tH_uo h
theorem cl_adv (hx : tx I n T) (hp : p ≤ n) (hQ : ∀ v', tvc n T (tkE n T p) v' → Q .null (am_hp N (rt, rs, t, rl, 2, nt, nw, nf) (tK I n T (tkE n T p) v') J)) : am_D (d + 9) 64 [.ref 44] (am_hp N (rt, rs, t, rl, 2, nt, nw, nf) (tK I n T p v) J) Q :=
  s_Tk_advance hx.1 hx.2 (tk_pos hx.1.1 hp).2.2.1 hQ
theorem cl_fail {f : Nat} (hF : fltq N r J Q I f (tkP n T p)) : am_D (d + 1) 32 [.ref 43, .int (nI f)] (am_hp N r (tK I n T p v) J) Q := by
  rw [e_Reader_fail, am_uN (by omega), tK_4]
  refine hF _ ?_ ?_ ?_
  · intro a h1 h2
    rw [am_uRow (by omega), am_uRow (by omega), tK_row h2]
  · rw [am_uN (by omega), am_uE]
  · rw [am_uE]
theorem cl_isNew {a : Nat} (ha : am_TT N a = (1, la)) (hm : m ≤ la) (hl : la < 1000) (ha4 : a ≠ 43 ∧ a ≠ 44) (hp : p ≤ n) (h7 : n ≤ 700) (hv : tvc n T p v)
    (hF : nfF (I a) m n T p ≠ 0 → fltq N r J Q I (nfF (I a) m n T p) (tkP n T p))
    (hS : nfF (I a) m n T p = 0 → Q (.int (nI 1)) (am_hp N r (tK (am_u I 43 4 (tkN n T p)) n T p v) J)) :
    am_D (d + 2) 36 [.ref 43, .ref a, .int (nI m)] (am_hp N r (tK I n T p v) J) Q := by
  have hk := (tk_pos (T := T) h7 hp).2.2.2.2.2
  rw [e_Reader_isNew, tK_3, am_ifi (nI_eq (by omega) (by omega))]
  by_cases c : tkK n T p = 3
  · have hvv := hv.2 c
    subst hvv
    rw [if_pos c, tK_5, am_uE, tK_u (by omega), s_S_numberOf ha hm hl, am_asIe, e_Reader_isNew_37, tK_row ha4.2, am_uRow ha4.1]
    unfold nfF at hF hS
    rw [if_neg (by omega)] at hF hS
    by_cases g : nhI (I a) m n T p < m
    · have e : q_num (I a) m (tkN n T p) = nI (nhI (I a) m n T p) := if_pos g
      rw [if_pos g] at hF
      rw [e, am_ifd, if_neg (am_neg1' (by omega))]
      refine cl_fail ?_
      intro I' h1 h2 h3
      rw [am_asIe, e_Reader_isNew_46, am_ifd, if_pos rfl]
      exact hF (by omega) I' (fun a h4 h5 => by rw [h1 a h4 h5, am_uRow h4]) h2 h3
    · have e : q_num (I a) m (tkN n T p) = -nI 1 := if_neg g
      rw [if_neg g] at hS
      rw [e, am_ifd, if_pos rfl]
      exact hS rfl
  · have e : nfF (I a) m n T p = 1 := if_pos c
    rw [e] at hF
    rw [if_neg c]
    refine cl_fail ?_
    intro I' h1 h2 h3
    rw [am_asIe, e_Reader_isNew_16, am_gT (by rfl)]
    exact hF (by omega) I' h1 h2 h3
theorem cl_isTold {a : Nat} (ha : am_TT N a = (1, la)) (hm : m ≤ la) (hl : la < 1000) (ha4 : a ≠ 43 ∧ a ≠ 44) (hp : p ≤ n) (h7 : n ≤ 700) (hv : tvc n T p v)
    (hF : nhF (I a) m n T p ≠ 0 → fltq N r J Q I (nhF (I a) m n T p) (tkP n T p))
    (hS : nhF (I a) m n T p = 0 → Q (.int (nI 1)) (am_hp N r (tK (am_u I 43 4 (nI (nhI (I a) m n T p))) n T p v) J)) :
    am_D (d + 2) 37 [.ref 43, .ref a, .int (nI m)] (am_hp N r (tK I n T p v) J) Q := by
  have hk := (tk_pos (T := T) h7 hp).2.2.2.2.2
  rw [e_Reader_isTold, tK_3, am_ifi (nI_eq (by omega) (by omega))]
  by_cases c : tkK n T p = 3
  · have hvv := hv.2 c
    subst hvv
    rw [if_pos c, tK_5, s_S_numberOf ha hm hl, am_asIe, e_Reader_isTold_30, tK_row ha4.2, am_uE, tK_u (by omega), am_ifn]
    unfold nhF at hF hS
    rw [if_neg (by omega)] at hF hS
    by_cases g : nhI (I a) m n T p < m
    · have e : q_num (I a) m (tkN n T p) = nI (nhI (I a) m n T p) := if_pos g
      rw [if_pos g] at hS
      rw [e, if_neg (am_neg1' (by omega))]
      exact hS rfl
    · have e : q_num (I a) m (tkN n T p) = -nI 1 := if_neg g
      rw [if_neg g] at hF
      rw [e, if_pos rfl]
      refine cl_fail ?_
      intro I' h1 h2 h3
      rw [am_asIe, e_Reader_isTold_46, am_ifd, if_pos rfl]
      exact hF (by omega) I' (fun a h4 h5 => by rw [h1 a h4 h5, am_uRow h4]) h2 h3
  · have e : nhF (I a) m n T p = 1 := if_pos c
    rw [e] at hF
    rw [if_neg c]
    refine cl_fail ?_
    intro I' h1 h2 h3
    rw [am_asIe, e_Reader_isTold_16, am_gT (by rfl)]
    exact hF (by omega) I' h1 h2 h3
theorem cl_isToldHouse (ht : t = 3 ∨ t = 23) (hm : I t 0 = nI m) (hm8 : m ≤ 8) (hp : p ≤ n) (h7 : n ≤ 700) (hv : tvc n T p v)
    (hF : nhF (I (t + 1)) m n T p ≠ 0 → fltq N (rt, rs, t, rl, 2, nt, nw, nf) J Q I (nhF (I (t + 1)) m n T p) (tkP n T p))
    (hS : nhF (I (t + 1)) m n T p = 0 → Q (.int (nI 1)) (am_hp N (rt, rs, t, rl, 2, nt, nw, nf) (tK (am_u I 43 4 (nI (nhI (I (t + 1)) m n T p))) n T p v) J)) :
    am_D (d + 3) 38 [.ref 43] (am_hp N (rt, rs, t, rl, 2, nt, nw, nf) (tK I n T p v) J) Q := by
  rw [e_Reader_isToldHouse ht, tK_o (by omega), hm]
  refine cl_isTold (la := 8) (by rcases ht with rfl | rfl <;> rfl) hm8 (by omega) (by omega) hp h7 hv ?_ ?_
  · intro g I' h1 h2 h3
    rw [am_asIe, e_Reader_isToldHouse_18, am_gT (by rfl)]
    exact hF g I' h1 h2 h3
  · intro g
    rw [am_asIe, e_Reader_isToldHouse_18, am_gT (by rfl)]
    exact hS g
theorem cl_takeHouse (hx : tx I n T) (ht : t = 3 ∨ t = 23) (hm : I t 0 = nI m) (hm8 : m ≤ 8) (hp : p ≤ n) (hv : tvc n T p v)
    (hF : nhF (I (t + 1)) m n T p ≠ 0 → fltq N (rt, rs, t, rl, 2, nt, nw, nf) J Q I (nhF (I (t + 1)) m n T p) (tkP n T p))
    (hS : nhF (I (t + 1)) m n T p = 0 → ∀ v', tvc n T (tkE n T p) v' → Q (.int (nI 1)) (am_hp N (rt, rs, t, rl, 2, nt, nw, nf) (tK (am_u I 43 4 (nI (nhI (I (t + 1)) m n T p))) n T (tkE n T p) v') J)) :
    am_D (d + 10) 39 [.ref 43] (am_hp N (rt, rs, t, rl, 2, nt, nw, nf) (tK I n T p v) J) Q := by
  rw [e_Reader_takeHouse]
  refine cl_isToldHouse ht hm hm8 hp hx.1.1 hv ?_ ?_
  · intro g I' h1 h2 h3
    rw [am_asIe, e_Reader_takeHouse_4, am_ifn, if_pos rfl]
    exact hF g I' h1 h2 h3
  · intro g
    rw [am_asIe, e_Reader_takeHouse_4, am_ifn, if_neg n10]
    refine cl_adv (tx_u hx (by omega) (by omega)) hp ?_
    intro v' hv'
    rw [e_Reader_takeHouse_16]
    exact hS g v' hv'
theorem cl_takeNumber {lo hi : Nat} (hx : tx I n T) (hp : p ≤ n) (hlo : lo ≤ 99999) (hhi : hi ≤ 99999) (hv : tvc n T p v)
    (hF : nuF lo hi n T p ≠ 0 → fltq N (rt, rs, t, rl, 2, nt, nw, nf) J Q I (nuF lo hi n T p) (tkP n T p))
    (hS : nuF lo hi n T p = 0 → ∀ v', tvc n T (tkE n T p) v' → Q (.int (nI 1)) (am_hp N (rt, rs, t, rl, 2, nt, nw, nf) (tK (am_u I 43 4 (nI (tkV n T p))) n T (tkE n T p) v') J)) :
    am_D (d + 10) 40 [.ref 43, .int (nI lo), .int (nI hi)] (am_hp N (rt, rs, t, rl, 2, nt, nw, nf) (tK I n T p v) J) Q := by
  have hk := (tk_pos (T := T) hx.1.1 hp).2.2.2.2.2
  rw [e_Reader_takeNumber, tK_3, am_ifi (nI_eq (by omega) (by omega))]
  by_cases c : tkK n T p = 2
  · have fl2 : nuF lo hi n T p = 2 → am_D (d + 9) 32 [.ref 43, .int (nI 2)] (am_hp N (rt, rs, t, rl, 2, nt, nw, nf) (tK (am_u I 43 4 v) n T p v) J) (fun v h => am_asI v (fun y => am_V (d + 9) Q 40 49 [some (.ref 43), some (.int (nI lo)), some (.int (nI hi))] [.int y] h)) := by
      intro e
      rw [e] at hF
      refine cl_fail ?_
      intro I' h1 h2 h3
      rw [am_asIe, e_Reader_takeNumber_49, am_gT (by rfl)]
      exact hF (by omega) I' (fun a h4 h5 => by rw [h1 a h4 h5, am_uRow h4]) h2 h3
    have hvv := hv.1 c
    rw [if_pos c, tK_5, am_uE, tK_u (by omega)]
    have e0 : nuF lo hi n T p = if lo ≤ tkV n T p ∧ tkV n T p ≤ hi then 0 else 2 := by unfold nuF; rw [if_neg (by omega)]
    have q1 : v < nI lo ↔ tkV n T p < lo := by rw [hvv, nI_ltI (by omega) (by omega)]; omega
    have q2 : v ≤ nI hi ↔ tkV n T p ≤ hi := by rw [hvv, nI_leI (by omega) (by omega)]; omega
    rw [am_ifi q1, am_ifi q2]
    by_cases c1 : tkV n T p < lo
    · rw [if_pos c1]
      exact fl2 (by rw [e0, if_neg (by omega)])
    · rw [if_neg c1]
      by_cases c2 : tkV n T p ≤ hi
      · rw [if_pos c2]
        refine cl_adv (tx_u hx (by omega) (by omega)) hp ?_
        intro v' hv'
        rw [e_Reader_takeNumber_57]
        have := hS (by rw [e0, if_pos (by omega)]) v' hv'
        rw [hvv, show min (tkV n T p) 1000000 = tkV n T p by omega]
        exact this
      · rw [if_neg c2]
        exact fl2 (by rw [e0, if_neg (by omega)])
  · have e : nuF lo hi n T p = 1 := if_pos c
    rw [e] at hF
    rw [if_neg c]
    refine cl_fail ?_
    intro I' h1 h2 h3
    rw [am_asIe, e_Reader_takeNumber_16, am_gT (by rfl)]
    exact hF (by omega) I' h1 h2 h3
theorem cl_oneMore {a b : Nat} (hx : tx I n T) (hp : p ≤ n) (ha : a ≤ b) (hb : b < 100)
    (hF : a = b → fltq N (rt, rs, t, rl, 2, nt, nw, nf) J Q I 2 (tkP n T p))
    (hS : a ≠ b → ∀ v', tvc n T (tkE n T p) v' → Q (.int (nI 1)) (am_hp N (rt, rs, t, rl, 2, nt, nw, nf) (tK I n T (tkE n T p) v') J)) :
    am_D (d + 10) 35 [.ref 43, .int (nI a), .int (nI b)] (am_hp N (rt, rs, t, rl, 2, nt, nw, nf) (tK I n T p v) J) Q := by
  rw [e_Reader_oneMore, am_ifi (nI_ltI (by omega) (by omega))]
  by_cases c : a < b
  · rw [if_pos c]
    refine cl_adv hx hp ?_
    intro v' hv'
    rw [e_Reader_oneMore_18]
    exact hS (by omega) v' hv'
  · rw [if_neg c]
    refine cl_fail ?_
    intro I' h1 h2 h3
    rw [am_asIe, e_Reader_oneMore_10, am_gT (by rfl)]
    exact hF (by omega) I' h1 h2 h3
end
