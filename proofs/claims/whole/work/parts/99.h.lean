/-! ===== L3: the texts that stay ===== -/
set_option maxRecDepth 100000 in
theorem e_Lbt_charAt {d : Nat} {Q : Value → am_H → Prop} {N : Nat} {I : Nat → Nat → Int32} {J : Nat → Nat → Int64} {x1 : Int32} {r : am_rho} {a0 : Nat} (h_a0 : a0 = 2013 ∨ a0 = 2014 ∨ a0 = 2015) : am_D (d + 1) 290 [.ref a0, .int x1] (am_hp N r I J) Q =
    am_g (!(Nat.beq (am_TT N a0).1 0) && Nat.ble (am_TT N a0).1 7) (am_D d 289 [.int x1, .int (nI (am_TT N a0).2)] (am_hp N r I J) (fun v h => am_V d Q 290 6 [some (.ref a0), some (.int x1)] [] h)) :=
  by rcases h_a0 with rfl | rfl | rfl <;> exact (am_D_un rfl (fun p => Nat.beq p 6) 6).trans rfl
set_option maxRecDepth 100000 in
theorem e_Lbt_charAt_6 {d : Nat} {Q : Value → am_H → Prop} {N : Nat} {I : Nat → Nat → Int32} {J : Nat → Nat → Int64} {x1 : Int32} {r : am_rho} {a0 : Nat} (h_a0 : a0 = 2013 ∨ a0 = 2014 ∨ a0 = 2015) : am_V d Q 290 6 [some (.ref a0), some (.int x1)] [] (am_hp N r I J) =
    am_g ((Nat.beq (am_TT N a0).1 3 || (Nat.beq (am_TT N a0).1 4 || Nat.beq (am_TT N a0).1 7)) && am_inb x1 (am_TT N a0).2) (am_g (decide ((Int32.toUInt32 (UInt32.toInt32 (Int32.toUInt32 ((I a0 x1.toNatClampNeg) &&& (nI 255)) % 65536)) % 65536).toInt32 = (UInt32.toInt32 (Int32.toUInt32 ((I a0 x1.toNatClampNeg) &&& (nI 255)) % 65536)))) (Q (.int (UInt32.toInt32 (Int32.toUInt32 ((I a0 x1.toNatClampNeg) &&& (nI 255)) % 65536))) (am_hp N r I J))) :=
  by rcases h_a0 with rfl | rfl | rfl <;> exact (am_V_un (fun p => Nat.beq p 6) 9).trans rfl
set_option maxRecDepth 100000 in
theorem e_Lbt_indexOf {d : Nat} {Q : Value → am_H → Prop} {N : Nat} {I : Nat → Nat → Int32} {J : Nat → Nat → Int64} {x1 : Int32} {x2 : Int32} {x3 : Int32} {r : am_rho} {a0 : Nat} (h_a0 : a0 = 2013 ∨ a0 = 2014 ∨ a0 = 2015) : am_D (d + 1) 292 [.ref a0, .int x1, .int x2, .int x3] (am_hp N r I J) Q =
    am_D d 291 [.int x1] (am_hp N r I J) (fun v h => am_asI v (fun y => am_V d Q 292 4 [some (.ref a0), some (.int x1), some (.int x2), some (.int x3)] [.int y] h)) :=
  by rcases h_a0 with rfl | rfl | rfl <;> exact (am_D_un rfl (fun p => Nat.beq p 4 || Nat.beq p 14 || Nat.beq p 21 || Nat.beq p 36) 4).trans rfl
set_option maxRecDepth 100000 in
theorem e_Lbt_indexOf_4 {d : Nat} {Q : Value → am_H → Prop} {N : Nat} {I : Nat → Nat → Int32} {J : Nat → Nat → Int64} {x1 : Int32} {x2 : Int32} {x3 : Int32} {y0 : Int32} {r : am_rho} {a0 : Nat} (h_a0 : a0 = 2013 ∨ a0 = 2014 ∨ a0 = 2015) : am_V d Q 292 4 [some (.ref a0), some (.int x1), some (.int x2), some (.int x3)] [.int y0] (am_hp N r I J) =
    am_if (!(decide (y0 = (nI 0)))) (am_D d 279 [.int x2, .int (nI 0)] (am_hp N r I J) (fun v h => am_asI v (fun y => am_V d Q 292 14 [some (.ref a0), some (.int x1), some (.int x2), some (.int x3)] [.int y] h))) (Q (.int (-nI 1)) (am_hp N r I J)) :=
  by rcases h_a0 with rfl | rfl | rfl <;> exact (am_V_un (fun p => Nat.beq p 4 || Nat.beq p 14 || Nat.beq p 21 || Nat.beq p 36) 6).trans rfl
set_option maxRecDepth 100000 in
theorem e_Lbt_indexOf_14 {d : Nat} {Q : Value → am_H → Prop} {N : Nat} {I : Nat → Nat → Int32} {J : Nat → Nat → Int64} {x1 : Int32} {x2 : Int32} {x3 : Int32} {y0 : Int32} {r : am_rho} {a0 : Nat} (h_a0 : a0 = 2013 ∨ a0 = 2014 ∨ a0 = 2015) : am_V d Q 292 14 [some (.ref a0), some (.int x1), some (.int x2), some (.int x3)] [.int y0] (am_hp N r I J) =
    am_g (!(Nat.beq (am_TT N a0).1 0) && Nat.ble (am_TT N a0).1 7) (am_D d 281 [.int x3, .int (nI (am_TT N a0).2)] (am_hp N r I J) (fun v h => am_asI v (fun y => am_V d Q 292 21 [some (.ref a0), some (.int x1), some (.int y0), some (.int x3)] [.int y] h))) :=
  by rcases h_a0 with rfl | rfl | rfl <;> exact (am_V_un (fun p => Nat.beq p 4 || Nat.beq p 14 || Nat.beq p 21 || Nat.beq p 36) 7).trans rfl
set_option maxRecDepth 100000 in
theorem e_Lbt_indexOf_21 {d : Nat} {Q : Value → am_H → Prop} {N : Nat} {I : Nat → Nat → Int32} {J : Nat → Nat → Int64} {x1 : Int32} {x2 : Int32} {x3 : Int32} {y0 : Int32} {r : am_rho} {a0 : Nat} (h_a0 : a0 = 2013 ∨ a0 = 2014 ∨ a0 = 2015) : am_V d Q 292 21 [some (.ref a0), some (.int x1), some (.int x2), some (.int x3)] [.int y0] (am_hp N r I J) =
    am_if (decide (x2 < y0)) (am_D d 293 [.ref a0, .int x1, .int x2, .int y0] (am_hp N r I J) (fun v h => am_asI v (fun y => am_V d Q 292 36 [some (.ref a0), some (.int x1), some (.int x2), some (.int y0)] [.int y] h))) (Q (.int (-nI 1)) (am_hp N r I J)) :=
  by rcases h_a0 with rfl | rfl | rfl <;> exact (am_V_un (fun p => Nat.beq p 4 || Nat.beq p 14 || Nat.beq p 21 || Nat.beq p 36) 11).trans rfl
set_option maxRecDepth 100000 in
theorem e_Lbt_indexOf_36 {d : Nat} {Q : Value → am_H → Prop} {N : Nat} {I : Nat → Nat → Int32} {J : Nat → Nat → Int64} {x1 : Int32} {x2 : Int32} {x3 : Int32} {y0 : Int32} {r : am_rho} {a0 : Nat} (h_a0 : a0 = 2013 ∨ a0 = 2014 ∨ a0 = 2015) : am_V d Q 292 36 [some (.ref a0), some (.int x1), some (.int x2), some (.int x3)] [.int y0] (am_hp N r I J) =
    Q (.int y0) (am_hp N r I J) :=
  by rcases h_a0 with rfl | rfl | rfl <;> exact (am_V_un (fun p => Nat.beq p 4 || Nat.beq p 14 || Nat.beq p 21 || Nat.beq p 36) 3).trans rfl
set_option maxRecDepth 100000 in
theorem e_Lbt_indexOfChar {d : Nat} {Q : Value → am_H → Prop} {N : Nat} {I : Nat → Nat → Int32} {J : Nat → Nat → Int64} {x1 : Int32} {x2 : Int32} {x3 : Int32} {r : am_rho} {a0 : Nat} (h_a0 : a0 = 2013 ∨ a0 = 2014 ∨ a0 = 2015) : am_D (d + 1) 293 [.ref a0, .int x1, .int x2, .int x3] (am_hp N r I J) Q =
    am_V d Q 293 7 [some (.ref a0), some (.int x1), some (.int x2), some (.int x3), some (.int (Int8.toInt32 (Int32.toInt8 x1))), some (.int x2)] [] (am_hp N r I J) :=
  by rcases h_a0 with rfl | rfl | rfl <;> exact (am_D_un rfl (fun p => Nat.beq p 7) 7).trans rfl
set_option maxRecDepth 100000 in
theorem e_Lbt_indexOfChar_7 {d : Nat} {Q : Value → am_H → Prop} {N : Nat} {I : Nat → Nat → Int32} {J : Nat → Nat → Int64} {x1 : Int32} {x2 : Int32} {x3 : Int32} {x4 : Int32} {x5 : Int32} {r : am_rho} {a0 : Nat} (h_a0 : a0 = 2013 ∨ a0 = 2014 ∨ a0 = 2015) : am_V d Q 293 7 [some (.ref a0), some (.int x1), some (.int x2), some (.int x3), some (.int x4), some (.int x5)] [] (am_hp N r I J) =
    am_if (decide (x3 ≤ x5)) (Q (.int (-nI 1)) (am_hp N r I J)) (am_g ((Nat.beq (am_TT N a0).1 3 || (Nat.beq (am_TT N a0).1 4 || Nat.beq (am_TT N a0).1 7)) && am_inb x5 (am_TT N a0).2) (am_if (!(decide ((I a0 x5.toNatClampNeg) = x4))) (am_V d Q 293 7 [some (.ref a0), some (.int x1), some (.int x2), some (.int x3), some (.int x4), some (.int (x5 + (nI 1)))] [] (am_hp N r I J)) (Q (.int x5) (am_hp N r I J)))) :=
  by rcases h_a0 with rfl | rfl | rfl <;> exact (am_V_un (fun p => Nat.beq p 7) 12).trans rfl
def wdL : List Nat := [104, 111, 117, 115, 101, 32, 115, 116, 114, 101, 101, 116, 32, 115, 108, 101, 101, 112, 101, 114, 32, 108, 101, 116, 116, 101, 114, 32, 108, 97, 109, 112, 32, 98, 101, 108, 108, 32, 99, 97, 116, 32, 99, 111, 114, 110, 101, 114, 32, 115, 101, 101, 100, 32, 108, 97, 119, 32, 112, 117, 108, 108, 32, 119, 97, 107, 101, 32, 100, 114, 111, 112, 32, 111, 114, 32, 97, 110, 100, 32, 110, 111, 116, 32, 100, 101, 101, 112, 32, 102, 97, 114, 32, 108, 105, 103, 104, 116, 32, 110, 111, 105, 115, 101, 32, 109, 97, 105, 108, 32, 104, 111, 117, 114, 32, 119, 97, 121, 32]
def sgLx : List Nat := [59, 40, 41, 43, 45, 42, 47]
def wsL : List Nat := [0, 6, 13, 21, 28, 33, 38, 42, 49, 54, 58, 63, 68, 73, 76, 80, 84, 89, 93, 99, 105, 110, 115, 119]
def wlL : List Nat := [5, 6, 7, 6, 4, 4, 3, 6, 4, 3, 4, 4, 4, 2, 3, 3, 4, 3, 5, 5, 4, 4, 3]
def wd (k : Nat) : Nat := wdL.getD k 0
def sg (k : Nat) : Nat := sgLx.getD k 0
def wsx (w : Nat) : Nat := wsL.getD w 0
def wl (w : Nat) : Nat := wlL.getD w 0
theorem am_ifi {c c' : Prop} [Decidable c] [Decidable c'] {p q : Prop} (h : c ↔ c') : am_if (decide c) p q = if c' then p else q := by
  by_cases k : c
  · rw [decide_eq_true k, if_pos (h.mp k)]; rfl
  · rw [decide_eq_false k, if_neg (fun g => k (h.mpr g))]; rfl
theorem am_ifni {c c' : Prop} [Decidable c] [Decidable c'] {p q : Prop} (h : c ↔ c') : am_if (!(decide c)) p q = if c' then q else p := by
  by_cases k : c
  · rw [decide_eq_true k, if_pos (h.mp k)]; rfl
  · rw [decide_eq_false k, if_neg (fun g => k (h.mpr g))]; rfl
theorem nf0 : nI (false).toNat = nI 0 := rfl
theorem nt0 : ¬ nI (true).toNat = nI 0 := n10
/-- the texts as they stand -/
def i_str (I : Nat → Nat → Int32) : Prop := I 2003 1 = nI 0 ∧ I 2004 1 = nI 0 ∧ I 2005 1 = nI 0 ∧ (∀ k, k < 119 → I 2013 k = nI (wd k)) ∧ (∀ k, k < 7 → I 2014 k = nI (sg k)) ∧ (∀ k, k < 119 → I 2015 k = nI (wd k))
theorem wd_f : ∀ w, w < 23 → wsx (w + 1) = wsx w + wl w + 1 ∧ wsx w + wl w < 119 ∧ wd (wsx w + wl w) = 32 ∧ 0 < wl w := by decide +kernel
theorem wd_c : ∀ w, w < 23 → ∀ j, j < wl w → wd (wsx w + j) ≠ 32 ∧ 97 ≤ wd (wsx w + j) ∧ wd (wsx w + j) ≤ 122 := by decide +kernel
theorem wd_b : ∀ k, k < 119 → wd k < 128 := by decide +kernel
section
variable {d N : Nat} {Q : Value → am_H → Prop} {r : am_rho} {I : Nat → Nat → Int32} {J : Nat → Nat → Int64}
theorem st_T3 : am_TT N 2013 = (7, 119) := rfl
theorem st_T4 : am_TT N 2014 = (7, 7) := rfl
theorem st_T5 : am_TT N 2015 = (7, 119) := rfl
theorem s_Str_len {a n : Nat} (ha : a = 2003 ∨ a = 2004 ∨ a = 2005) (hc : I a 1 = nI 0) (hT : am_TT N (a + 10) = (7, n)) :
    am_D (d + 2) 283 [.ref a] (am_hp N r I J) Q = Q (.int (nI n)) (am_hp N r I J) := by
  rw [e_Str_length ha, hT, am_gT (by rfl), e_Str_coder ha, hc, am_gT (by decide +kernel), am_asIe, e_Str_length_9 ha]
  congr 1
  show Value.int (nI n >>> (nI 0 &&& nI 31)) = _
  congr 1
  apply b_ext
  intro i hi
  rw [show (nI 31 : Int32) = 31 from rfl, b_sshr 0 (by omega) _ hi, if_pos (by omega), Nat.zero_add]
theorem ch_16 : ∀ c, c < 128 → (UInt32.toInt32 (Int32.toUInt32 ((nI c) &&& (nI 255)) % 65536)) = nI c := by decide +kernel
theorem ch_17 : ∀ c, c < 128 → (Int32.toUInt32 (nI c) % 65536).toInt32 = nI c := by decide +kernel
theorem s_Str_charAt {a n c k : Nat} (ha : a = 2003 ∨ a = 2004 ∨ a = 2005) (hc : I a 1 = nI 0) (hT : am_TT N (a + 10) = (7, n)) (hn : n < 200) (hk : k < n) (hv : I (a + 10) k = nI c) (hc8 : c < 128) :
    am_D (d + 5) 284 [.ref a, .int (nI k)] (am_hp N r I J) Q = Q (.int (nI c)) (am_hp N r I J) := by
  have ha' : a + 10 = 2013 ∨ a + 10 = 2014 ∨ a + 10 = 2015 := by omega
  rw [e_Str_charAt ha, e_Str_isLatin1 ha, hc, am_ifn, if_pos rfl, am_asIe, e_Str_charAt_4 ha, am_ifd, if_neg n10, e_Lbt_charAt ha', hT, am_gT (by rfl), e_Str_checkIndex, e_Pre_checkIndex, am_ifd, if_neg (by rw [nI_ltI (by omega) (by omega)]; omega), am_ifd, if_pos (by rw [nI_ltI (by omega) (by omega)]; exact hk), am_asIe, e_Str_checkIndex_8, e_Lbt_charAt_6 ha', hT, nI_clamp (by omega), hv, ch_16 c hc8, ch_17 c hc8, am_gT (by show (true && am_inb (nI k) n) = true; rw [am_inbT hk (by omega)]; rfl), am_gT (by rw [decide_eq_true rfl]), am_asIe, e_Str_charAt_15 ha, ch_17 c hc8, am_gT (by rw [decide_eq_true rfl])]
end
