/-! ===== L3: the model reads names and numbers ===== -/
/-- the model's heap: a fault (0 none) and the token at which it stands -/
def mS (I : Nat → Nat → Int32) (n : Nat) (T : Nat → Nat) (o : Nat × Nat) (v : Int32) : Nat → Nat → Int32 := mK (am_u (am_u I 93 31 (nI o.1)) 93 32 (if o.1 = 0 then -nI 1 else nI (tkP n T o.2))) n T o.2 v
def txm (I : Nat → Nat → Int32) (n : Nat) (T : Nat → Nat) : Prop := tx_m I n T ∧ i_str I
section
variable {I : Nat → Nat → Int32} {n : Nat} {T : Nat → Nat} {o : Nat × Nat} {v : Int32} {a k p : Nat} {x : Int32}
theorem mS_o (h : a ≠ 93 ∨ k < 27 ∨ 32 < k) : mS I n T o v a k = I a k := by
  unfold mS mK
  by_cases ha : a = 93
  · subst ha
    rw [mT_f (by omega), am_uN (by omega), am_uN (by omega)]
  · rw [mT_o ha, am_uN (by omega), am_uN (by omega)]
theorem mS_row (h : a ≠ 93) : mS I n T o v a = I a := by funext k; exact mS_o (Or.inl h)
theorem mS_27 : mS I n T o v 93 27 = nI (tkE n T o.2) := by unfold mS mK; exact mT_1
theorem mS_28 : mS I n T o v 93 28 = nI (tkP n T o.2) := by unfold mS mK; exact mT_2
theorem mS_29 : mS I n T o v 93 29 = nI (tso (tkK n T o.2)) := by unfold mS mK; exact mT_3
theorem mS_29p {g q : Nat} : mS I n T (g, q) v 93 29 = nI (tso (tkK n T q)) := mS_29
theorem mS_30 : mS I n T o v 93 30 = v := by unfold mS mK; exact mT_4
theorem mS_31 : mS I n T o v 93 31 = nI o.1 := by unfold mS mK; rw [mT_f (by omega), am_uN (by omega), am_uE]
theorem mS_32 : mS I n T o v 93 32 = if o.1 = 0 then -nI 1 else nI (tkP n T o.2) := by unfold mS mK; rw [mT_f (by omega), am_uE]
theorem mS_u (h : a ≠ 93 ∨ k < 27 ∨ 32 < k) : am_u (mS I n T o v) a k x = mS (am_u I a k x) n T o v := by
  unfold mS mK
  rw [mT_uo (by omega)]
  congr 1
  funext b j
  unfold am_u
  by_cases h1 : b = a ∧ j = k
  · obtain ⟨rfl, rfl⟩ := h1
    rw [if_pos (And.intro rfl rfl), if_neg (by omega), if_neg (by omega), if_pos (And.intro rfl rfl)]
  · rw [if_neg h1, if_neg h1]
theorem txm_u (h : txm I n T) (ha : a ≠ 94 ∧ a < 2000) (hb : a ≠ 93 ∨ k ≠ 26) : txm (am_u I a k x) n T := by
  refine ⟨⟨h.1.1, ?_, ?_⟩, ?_⟩
  · rw [am_uN (by omega)]; exact h.1.2.1
  · rw [am_uRow (by omega)]; exact h.1.2.2
  · unfold i_str
    rw [am_uRow (by omega), am_uRow (by omega), am_uRow (by omega), am_uRow (by omega), am_uRow (by omega), am_uRow (by omega)]
    exact h.2
theorem mS_wr {f : Nat} {q : Nat} (hf : f ≠ 0) : am_u (am_u (mS I n T (0, q) v) 93 31 (nI f)) 93 32 (nI (tkP n T q)) = mS I n T (f, q) v := by
  unfold mS mK
  rw [mT_uo (by omega), mT_uo (by omega)]
  congr 1
  funext b j
  unfold am_u
  by_cases h1 : b = 93 ∧ j = 32
  · simp [h1, hf]
  · by_cases h2 : b = 93 ∧ j = 31
    · simp [h2]
    · simp [h1, h2]
theorem tso_t : ∀ k, k < 40 → (tso k = 2 ↔ k = 2) ∧ (tso k = 1 ↔ k = 3) ∧ (tso k = 0 ↔ 4 ≤ k ∧ k < 27) ∧ (tso k = 3 ↔ 27 ≤ k) ∧ (tso k = 4 ↔ k = 0) ∧ tso k < 6 := by
  intro k hk
  unfold tso
  refine ⟨?_, ?_, ?_, ?_, ?_, ?_⟩ <;> (split; omega; split; omega; split; omega; split; omega; split <;> omega)
end
/-! what becomes of a state -/
section
variable (n : Nat) (T : Nat → Nat)
def stG (o : Nat × Nat) : Nat × Nat := if o.1 = 0 then (0, tkE n T o.2) else o
def stW (f : Nat) (o : Nat × Nat) : Nat × Nat := if o.1 = 0 then (f, o.2) else o
def sxN (lo hi : Nat) (o : Nat × Nat) : Nat × Nat := if o.1 = 0 then (if nuF lo hi n T o.2 = 0 then (0, tkE n T o.2) else (nuF lo hi n T o.2, o.2)) else o
def sxA (f : Nat → Int32) (m : Nat) (o : Nat × Nat) : Nat × Nat := if o.1 = 0 then (nhF f m n T o.2, o.2) else o
def sxF (f : Nat → Int32) (m : Nat) (o : Nat × Nat) : Nat × Nat := if o.1 = 0 then (if nfF f m n T o.2 = 0 then (0, tkE n T o.2) else (nfF f m n T o.2, o.2)) else o
end
section
variable {d N : Nat} {Q : Value → am_H → Prop} {r : am_rho} {I : Nat → Nat → Int32} {J : Nat → Nat → Int64} {n m la fr : Nat} {T : Nat → Nat} {v : Int32} {o : Nat × Nat}
theorem md_wrong {f : Nat} (hf : f ≠ 0) (hf9 : o.1 ≤ 9) : am_D (d + 1) 168 [.ref 93, .int (nI f)] (am_hp N r (mS I n T o v) J) Q = Q .null (am_hp N r (mS I n T (stW f o) v) J) := by
  obtain ⟨g, q⟩ := o
  rw [e_M_wrong, mS_31, am_ifi (nI_eq (by omega) (by omega))]
  unfold stW
  by_cases c : g = 0
  · subst c
    rw [if_pos rfl, if_pos rfl, am_uN (by omega), mS_28, mS_wr hf]
  · rw [if_neg c, if_neg c]
theorem md_tok {q : Nat} (hx : txm I n T) (hq : q ≤ n) (hQ : ∀ v', tvm n T (tkE n T q) v' → Q .null (am_hp N r (mS I n T (0, tkE n T q) v') J)) : am_D (d + 7) 164 [.ref 93] (am_hp N r (mS I n T (0, q) v) J) Q := by
  have hx1 : tx_m (am_u (am_u I 93 31 (nI 0)) 93 32 (-nI 1)) n T := ⟨hx.1.1, by rw [am_uN (by omega), am_uN (by omega)]; exact hx.1.2.1, by rw [am_uRow (by omega), am_uRow (by omega)]; exact hx.1.2.2⟩
  have hi1 : i_str (am_u (am_u I 93 31 (nI 0)) 93 32 (-nI 1)) := by
    unfold i_str
    rw [am_uRow (by omega), am_uRow (by omega), am_uRow (by omega), am_uRow (by omega), am_uRow (by omega), am_uRow (by omega), am_uRow (by omega), am_uRow (by omega), am_uRow (by omega), am_uRow (by omega), am_uRow (by omega), am_uRow (by omega)]
    exact hx.2
  exact s_M_token hx1 hi1 (tk_pos hx.1.1 hq).2.2.1 hQ
theorem md_goOn (hx : txm I n T) (ho : o.2 ≤ n) (hf9 : o.1 ≤ 9) (hv : tvm n T o.2 v) (hQ : ∀ v', tvm n T (stG n T o).2 v' → Q .null (am_hp N r (mS I n T (stG n T o) v') J)) : am_D (d + 8) 171 [.ref 93] (am_hp N r (mS I n T o v) J) Q := by
  obtain ⟨g, q⟩ := o
  rw [e_M_goOn, mS_31, am_ifni (nI_eq (by omega) (by omega))]
  unfold stG at hQ
  by_cases c : g = 0
  · subst c
    rw [if_pos rfl] at hQ
    rw [if_pos rfl]
    refine md_tok hx ho ?_
    intro v' hv'
    rw [e_M_goOn_11]
    exact hQ v' hv'
  · rw [if_neg c] at hQ
    rw [if_neg c, e_M_goOn_11]
    exact hQ v hv
theorem md_numeral {lo hi : Nat} (hx : txm I n T) (ho : o.2 ≤ n) (hf9 : o.1 ≤ 9) (hv : tvm n T o.2 v) (hlo : lo ≤ 99999) (hhi : hi ≤ 99999)
    (hQ : ∀ v', tvm n T (sxN n T lo hi o).2 v' → Q (.int (nI (if (sxN n T lo hi o).1 = 0 then tkV n T o.2 else lo))) (am_hp N r (mS I n T (sxN n T lo hi o) v') J)) : am_D (d + 8) 172 [.ref 93, .int (nI lo), .int (nI hi)] (am_hp N r (mS I n T o v) J) Q := by
  obtain ⟨g, q⟩ := o
  have ho' : q ≤ n := ho
  have hg9 : g ≤ 9 := hf9
  have hk := (tk_pos (T := T) hx.1.1 ho').2.2.2.2.2
  obtain ⟨t2, _, _, _, _, t6⟩ := tso_t (tkK n T q) hk
  rw [e_M_numeral, mS_31, am_ifi (nI_eq (by omega) (by omega))]
  unfold sxN at hQ
  by_cases c : g = 0
  · subst c
    rw [if_pos rfl] at hQ
    have bad : ∀ f, f ≠ 0 → nuF lo hi n T q = f → am_V (d + 7) Q 172 46 [some (.ref 93), some (.int (nI lo)), some (.int (nI hi)), none] [] (am_hp N r (mS I n T (f, q) v) J) := by
      intro f hf e
      have hf2 : f ≤ 2 := by rw [← e]; unfold nuF; split; omega; split <;> omega
      rw [e_M_numeral_46, mS_31, am_ifi (nI_eq (by omega) (by omega)), if_neg hf]
      have e' : nuF lo hi n T (0, q).2 = f := e
      rw [e', if_neg hf, if_neg hf] at hQ
      exact hQ v hv
    rw [if_pos rfl, mS_29p, am_ifi (nI_eq (by omega) (by omega)), mS_30]
    by_cases c2 : tkK n T q = 2
    · have hvv : tvr v (tkV n T q) := hv.2.2.1 c2
      have q1 : v < nI lo ↔ tkV n T q < lo := by
        rcases Nat.lt_or_ge 99999 (tkV n T q) with g | g
        · obtain ⟨x, x1, x2, rfl⟩ := hvv.2 g
          rw [nI_ltI (by omega) (by omega)]; omega
        · rw [hvv.1 g, nI_ltI (by omega) (by omega)]
      have q2 : v ≤ nI hi ↔ tkV n T q ≤ hi := by
        rcases Nat.lt_or_ge 99999 (tkV n T q) with g | g
        · obtain ⟨x, x1, x2, rfl⟩ := hvv.2 g
          rw [nI_leI (by omega) (by omega)]; omega
        · rw [hvv.1 g, nI_leI (by omega) (by omega)]
      have e0 : nuF lo hi n T q = if lo ≤ tkV n T q ∧ tkV n T q ≤ hi then 0 else 2 := by unfold nuF; rw [if_neg (by omega)]
      rw [if_pos (t2.mpr c2), am_ifi q1, am_ifi q2]
      by_cases c3 : tkV n T q < lo
      · rw [if_pos c3, md_wrong (by omega) (by omega)]
        exact bad 2 (by omega) (by rw [e0, if_neg (by omega)])
      · rw [if_neg c3]
        by_cases c4 : tkV n T q ≤ hi
        · rw [if_pos c4, e_M_numeral_46, mS_31, am_ifi (nI_eq (by omega) (by omega)), if_pos rfl, mS_30]
          refine md_tok hx ho' ?_
          intro v' hv'
          have e1 : nuF lo hi n T (0, q).2 = 0 := by show nuF lo hi n T q = 0; rw [e0, if_pos (by omega)]
          rw [e1, if_pos rfl, if_pos rfl] at hQ
          rw [e_M_numeral_64, hvv.1 (by omega)]
          exact hQ v' hv'
        · rw [if_neg c4, md_wrong (by omega) (by omega)]
          exact bad 2 (by omega) (by rw [e0, if_neg (by omega)])
    · rw [if_neg (fun g => c2 (t2.mp g)), md_wrong (by omega) (by omega), e_M_numeral_22]
      exact bad 1 (by omega) (if_pos c2)
  · rw [if_neg c, if_neg c] at hQ
    rw [if_neg c]
    exact hQ v hv
theorem md_atHand {a : Nat} (hx : txm I n T) (ha : am_TT N a = (1, la)) (hm : fr + m ≤ la) (hl : la < 1000) (h93 : a ≠ 93) (ho : o.2 ≤ n) (hf9 : o.1 ≤ 9) (hv : tvm n T o.2 v)
    (hQ : Q (.int (nI (if (sxA n T (fun k => I a (fr + k)) m o).1 = 0 then nhI (fun k => I a (fr + k)) m n T o.2 else 0))) (am_hp N r (mS I n T (sxA n T (fun k => I a (fr + k)) m o) v) J)) : am_D (d + 2) 177 [.ref 93, .ref a, .int (nI fr), .int (nI m)] (am_hp N r (mS I n T o v) J) Q := by
  obtain ⟨g, q⟩ := o
  have ho' : q ≤ n := ho
  have hg9 : g ≤ 9 := hf9
  have hk := (tk_pos (T := T) hx.1.1 ho').2.2.2.2.2
  obtain ⟨_, t1, _, _, _, t6⟩ := tso_t (tkK n T q) hk
  have er : (fun k => mS I n T (0, q) v a (fr + k)) = (fun k => I a (fr + k)) := by funext k; exact mS_o (Or.inl h93)
  rw [e_M_atHand, mS_31, am_ifi (nI_eq (by omega) (by omega))]
  unfold sxA at hQ
  by_cases c : g = 0
  · subst c
    rw [if_pos rfl] at hQ
    have hQ' : Q (.int (nI (if nhF (fun k => I a (fr + k)) m n T q = 0 then nhI (fun k => I a (fr + k)) m n T q else 0))) (am_hp N r (mS I n T (nhF (fun k => I a (fr + k)) m n T q, q) v) J) := hQ
    rw [if_pos rfl, mS_29p, am_ifi (nI_eq (by omega) (by omega)), mS_30]
    by_cases c3 : tkK n T q = 3
    · have hvv : v = tkN n T q := hv.2.1 c3
      subst hvv
      have e0 : nhF (fun k => I a (fr + k)) m n T q = if nhI (fun k => I a (fr + k)) m n T q < m then 0 else 4 := by unfold nhF; rw [if_neg (by omega)]
      rw [if_pos (t1.mpr c3), s_M_found ha hm hl, er, am_asIe, e_M_atHand_35, am_ifn]
      by_cases g : nhI (fun k => I a (fr + k)) m n T q < m
      · have e : q_num (fun k => I a (fr + k)) m (tkN n T q) = nI (nhI (fun k => I a (fr + k)) m n T q) := if_pos g
        rw [e0, if_pos g, if_pos rfl] at hQ'
        rw [e, if_neg (am_neg1' (by omega)), e_M_atHand_44, mS_31, am_ifi (nI_eq (by omega) (by omega)), if_pos rfl, mS_30, s_M_found ha hm hl, er, am_asIe, e, e_M_atHand_65]
        exact hQ'
      · have e : q_num (fun k => I a (fr + k)) m (tkN n T q) = -nI 1 := if_neg g
        rw [e0, if_neg g, if_neg (by omega)] at hQ'
        rw [e, if_pos rfl, md_wrong (by omega) (by omega)]
        show am_V (d + 1) Q 177 44 _ [] (am_hp N r (mS I n T (4, q) (tkN n T q)) J)
        rw [e_M_atHand_44, mS_31, am_ifi (nI_eq (by omega) (by omega)), if_neg (by omega), e_M_atHand_65]
        exact hQ'
    · have e1 : nhF (fun k => I a (fr + k)) m n T q = 1 := if_pos c3
      rw [e1, if_neg (by omega)] at hQ'
      rw [if_neg (fun g => c3 (t1.mp g)), md_wrong (by omega) (by omega)]
      show am_V (d + 1) Q 177 22 _ [] (am_hp N r (mS I n T (1, q) v) J)
      rw [e_M_atHand_22, e_M_atHand_44, mS_31, am_ifi (nI_eq (by omega) (by omega)), if_neg (by omega), e_M_atHand_65]
      exact hQ'
  · rw [if_neg c, if_neg c] at hQ
    rw [if_neg c]
    exact hQ
theorem md_fresh {a : Nat} (hx : txm I n T) (ha : am_TT N a = (1, la)) (hm : fr + m ≤ la) (hl : la < 1000) (h93 : a ≠ 93) (ho : o.2 ≤ n) (hf9 : o.1 ≤ 9) (hv : tvm n T o.2 v)
    (hQ : ∀ v' x, tvm n T (sxF n T (fun k => I a (fr + k)) m o).2 v' → ((sxF n T (fun k => I a (fr + k)) m o).1 = 0 → x = tkN n T o.2) → Q (.int x) (am_hp N r (mS I n T (sxF n T (fun k => I a (fr + k)) m o) v') J)) : am_D (d + 8) 174 [.ref 93, .ref a, .int (nI fr), .int (nI m)] (am_hp N r (mS I n T o v) J) Q := by
  obtain ⟨g, q⟩ := o
  have ho' : q ≤ n := ho
  have hg9 : g ≤ 9 := hf9
  have hk := (tk_pos (T := T) hx.1.1 ho').2.2.2.2.2
  obtain ⟨_, t1, _, _, _, t6⟩ := tso_t (tkK n T q) hk
  have er : (fun k => mS I n T (0, q) v a (fr + k)) = (fun k => I a (fr + k)) := by funext k; exact mS_o (Or.inl h93)
  rw [e_M_fresh, mS_31, am_ifi (nI_eq (by omega) (by omega))]
  unfold sxF at hQ
  by_cases c : g = 0
  · subst c
    rw [if_pos rfl] at hQ
    have bad : ∀ f, f ≠ 0 → f ≤ 9 → nfF (fun k => I a (fr + k)) m n T q = f → am_V (d + 7) Q 174 44 [some (.ref 93), some (.ref a), some (.int (nI fr)), some (.int (nI m)), none] [] (am_hp N r (mS I n T (f, q) v) J) := by
      intro f hf hf9 e
      have e' : nfF (fun k => I a (fr + k)) m n T (0, q).2 = f := e
      rw [e', if_neg hf] at hQ
      rw [e_M_fresh_44, mS_31, am_ifi (nI_eq (by omega) (by omega)), if_neg hf]
      exact hQ v _ hv (fun g => absurd g hf)
    rw [if_pos rfl, mS_29p, am_ifi (nI_eq (by omega) (by omega)), mS_30]
    by_cases c3 : tkK n T q = 3
    · have hvv : v = tkN n T q := hv.2.1 c3
      have e0 : nfF (fun k => I a (fr + k)) m n T q = if nhI (fun k => I a (fr + k)) m n T q < m then 3 else 0 := by unfold nfF; rw [if_neg (by omega)]
      rw [if_pos (t1.mpr c3), s_M_found ha hm hl, er, am_asIe, e_M_fresh_35, am_ifd, hvv]
      rw [hvv] at bad
      by_cases g : nhI (fun k => I a (fr + k)) m n T q < m
      · have e : q_num (fun k => I a (fr + k)) m (tkN n T q) = nI (nhI (fun k => I a (fr + k)) m n T q) := if_pos g
        rw [e, if_neg (am_neg1' (by omega)), md_wrong (by omega) (by omega)]
        exact bad 3 (by omega) (by omega) (by rw [e0, if_pos g])
      · have e : q_num (fun k => I a (fr + k)) m (tkN n T q) = -nI 1 := if_neg g
        have e1 : nfF (fun k => I a (fr + k)) m n T (0, q).2 = 0 := by show nfF (fun k => I a (fr + k)) m n T q = 0; rw [e0, if_neg g]
        rw [e1, if_pos rfl] at hQ
        rw [e, if_pos rfl, e_M_fresh_44, mS_31, am_ifi (nI_eq (by omega) (by omega)), if_pos rfl, mS_30]
        refine md_tok hx ho' ?_
        intro v' hv'
        rw [e_M_fresh_63]
        exact hQ v' _ hv' (fun _ => rfl)
    · rw [if_neg (fun g => c3 (t1.mp g)), md_wrong (by omega) (by omega), e_M_fresh_22]
      exact bad 1 (by omega) (by omega) (if_pos c3)
  · rw [if_neg c] at hQ
    rw [if_neg c]
    exact hQ v _ hv (fun g => absurd g c)
theorem md_fresher {i : Nat} (hi : i < 7) : am_D (d + 1) 175 [.ref 93, .int (nI i)] (am_hp N r (mS I n T o v) J) Q = Q (.int (I 95 (7 + i))) (am_hp N r (mS I n T o v) J) := by
  rw [e_M_fresher, nI_add, am_gI (by omega) (by omega), nI_clamp (by omega), mS_o (by omega)]
theorem md_reads {i : Nat} {x : Int32} (hi : i < 7) : am_D (d + 1) 176 [.ref 93, .int (nI i), .int x] (am_hp N r (mS I n T o v) J) Q = Q .null (am_hp N r (mS (am_u I 95 (7 + i) x) n T o v) J) := by
  rw [e_M_reads, nI_add, am_gI (by omega) (by omega), nI_clamp (by omega), mS_u (by omega)]
theorem md_houseAtHand (hx : txm I n T) (hm : I 95 7 = nI m) (hm8 : m ≤ 8) (ho : o.2 ≤ n) (hf9 : o.1 ≤ 9) (hv : tvm n T o.2 v)
    (hQ : Q (.int (nI (if (sxA n T (fun k => I 96 (8 + k)) m o).1 = 0 then nhI (fun k => I 96 (8 + k)) m n T o.2 else 0))) (am_hp N r (mS I n T (sxA n T (fun k => I 96 (8 + k)) m o) v) J)) : am_D (d + 3) 178 [.ref 93] (am_hp N r (mS I n T o v) J) Q := by
  rw [e_M_houseAtHand, md_fresher (by omega), am_asIe, e_M_houseAtHand_12, show 7 + 0 = 7 from rfl, hm]
  refine md_atHand (la := 16) hx (by rfl) (by omega) (by omega) (by omega) ho hf9 hv ?_
  rw [am_asIe, e_M_houseAtHand_15]
  exact hQ
theorem sxA_2 {f : Nat → Int32} : (sxA n T f m o).2 = o.2 := by unfold sxA; split <;> rfl
theorem sxA_9 {f : Nat → Int32} (h : o.1 ≤ 9) : (sxA n T f m o).1 ≤ 9 := by
  unfold sxA
  split
  · show nhF f m n T o.2 ≤ 9
    unfold nhF; split; omega; split <;> omega
  · exact h
theorem md_houseAhead (hx : txm I n T) (hm : I 95 7 = nI m) (hm8 : m ≤ 8) (ho : o.2 ≤ n) (hf9 : o.1 ≤ 9) (hv : tvm n T o.2 v)
    (hQ : ∀ v', tvm n T (stG n T (sxA n T (fun k => I 96 (8 + k)) m o)).2 v' → Q (.int (nI (if (sxA n T (fun k => I 96 (8 + k)) m o).1 = 0 then nhI (fun k => I 96 (8 + k)) m n T o.2 else 0))) (am_hp N r (mS I n T (stG n T (sxA n T (fun k => I 96 (8 + k)) m o)) v') J)) : am_D (d + 9) 179 [.ref 93] (am_hp N r (mS I n T o v) J) Q := by
  rw [e_M_houseAhead]
  refine md_houseAtHand hx hm hm8 ho hf9 hv ?_
  rw [am_asIe, e_M_houseAhead_4]
  refine md_goOn hx (by rw [sxA_2]; exact ho) (sxA_9 hf9) (by rw [sxA_2]; exact hv) ?_
  intro v' hv'
  rw [e_M_houseAhead_9]
  exact hQ v' hv'
theorem md_sleeperAhead {z : Nat} (hx : txm I n T) (hz : I 95 9 = nI z) (hz5 : z ≤ 5) (ho : o.2 ≤ n) (hf9 : o.1 ≤ 9) (hv : tvm n T o.2 v)
    (hQ : ∀ v', tvm n T (stG n T (sxA n T (fun k => I 103 (5 + k)) z o)).2 v' → Q (.int (nI (if (sxA n T (fun k => I 103 (5 + k)) z o).1 = 0 then nhI (fun k => I 103 (5 + k)) z n T o.2 else 0))) (am_hp N r (mS I n T (stG n T (sxA n T (fun k => I 103 (5 + k)) z o)) v') J)) : am_D (d + 9) 180 [.ref 93] (am_hp N r (mS I n T o v) J) Q := by
  rw [e_M_sleeperAhead, md_fresher (by omega), am_asIe, e_M_sleeperAhead_11, show 7 + 2 = 9 from rfl, hz]
  refine md_atHand (la := 10) hx (by rfl) (by omega) (by omega) (by omega) ho hf9 hv ?_
  rw [am_asIe, e_M_sleeperAhead_14]
  refine md_goOn hx (by rw [sxA_2]; exact ho) (sxA_9 hf9) (by rw [sxA_2]; exact hv) ?_
  intro v' hv'
  rw [e_M_sleeperAhead_19]
  exact hQ v' hv'
end
