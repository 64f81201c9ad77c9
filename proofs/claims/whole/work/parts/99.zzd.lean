/-! ===== the start: what the Statement gives of it, as the walk wants it ===== -/
section LWB
variable {args : Array Value} {s : State}
def lw_fl : List Cond := flatC (Jvm.Cond.and given_1 narrow_1)
theorem lw_fi {i : Nat} {w : Cond} (h : ∀ c ∈ lw_fl, c.before args s = true) (e : lw_fl[i]? = some w) : w.before args s = true := h w (List.mem_of_getElem? e)
theorem lw_ti {i : Nat} {w : Cond} (h : ∀ c ∈ lw_tbl, c.before args s = true) (e : lw_tbl[i]? = some w) : w.before args s = true := h w (List.mem_of_getElem? e)
abbrev lw_sS : Term := .static "SleepPost$Laws" "SHIFTS" "[I"
abbrev lw_sM : Term := .static "SleepPost$Laws" "MASKS" "[I"
set_option maxRecDepth 100000 in
theorem lw_eS : ∀ j, j < 7 → lw_fl[12 + j]? = some (.eq (.elem lw_sS (.int (Int32.ofNat j))) (.int (nI (lw_sh j)))) := by decide +kernel
set_option maxRecDepth 100000 in
theorem lw_eM : ∀ j, j < 7 → lw_fl[22 + j]? = some (.eq (.elem lw_sM (.int (Int32.ofNat j))) (.int (nI (lw_mk j)))) := by decide +kernel
abbrev lw_sv (own : String) (k : Nat) : Term := .field (.string own k) "java/lang/String" "value" "[B"
set_option maxRecDepth 100000 in
theorem lw_e3 : ∀ j, j < 119 → lw_fl[63 + j]? = some (.eq (.elem (lw_sv "SleepPost$Tokens" 61) (.int (Int32.ofNat j))) (.int (nI (wd j)))) := by decide +kernel
set_option maxRecDepth 100000 in
theorem lw_e4 : ∀ j, j < 7 → lw_fl[186 + j]? = some (.eq (.elem (lw_sv "SleepPost$Tokens" 75) (.int (Int32.ofNat j))) (.int (nI (sg j)))) := by decide +kernel
set_option maxRecDepth 100000 in
theorem lw_e5 : ∀ j, j < 119 → lw_fl[238 + j]? = some (.eq (.elem (lw_sv "SleepPostModel" 218) (.int (Int32.ofNat j))) (.int (nI (wd j)))) := by decide +kernel
theorem lw_Tc {ty : FieldType} {t N : Nat} {f g : Nat → Value} {A : Nat → Prop} {U : State} {H : Heap} (h : va_T ty t N f A U H) (e : ∀ j, j < N → f j = g j) : va_T ty t N g A U H := by
  obtain ⟨cell, h1, h2, h3, h4, h5, h6, h7⟩ := h
  exact ⟨cell, h1, h2, h3, h4, h5, fun j hj => by rw [← e j hj]; exact h6 j hj, h7⟩
theorem lw_str {A : Nat → Prop} {own : String} {k n : Nat} {f : Nat → Int32} (hn : n < 2 ^ 31) (hex : (Cond.exactly (.string own k) "java/lang/String").before args s = true) (hco : (Cond.eq (.field (.string own k) "java/lang/String" "coder" "B") (.int 0)).before args s = true)
    (har : (Cond.arrayOf (lw_sv own k) .byte).before args s = true) (hle : (Cond.eq (.length (lw_sv own k)) (.int (Int32.ofNat n))).before args s = true) (hel : ∀ j, j < n → (Cond.eq (.elem (lw_sv own k) (.int (Int32.ofNat j))) (.int (f j))).before args s = true) (hA : ∀ a : Nat, a < s.heap.size → ¬ A a) :
    ∃ a v : Nat, (Term.string own k).eval args s none [] s = some (.ref a) ∧ va_O "java/lang/String" a A s s.heap ∧ va_OF "java/lang/String" "coder" "B" (.int 0) a A s s.heap ∧ va_OF "java/lang/String" "value" "[B" (.ref v) a A s s.heap ∧ va_T .byte v n (fun j => .int (f j)) A s s.heap := by
  have hb : ∀ j, j < n → (((List.range n).map f).getD j 0) = f j := fun j hj => by
    rw [List.getD_eq_getElem?_getD, List.getElem?_map, List.getElem?_range hj]
    rfl
  obtain ⟨adK, adV, hS, hev⟩ := vk_Sof (args := args) (s := s) (N := 1) (tm := fun _ => .string own k) (len := [n]) (byt := [(List.range n).map f]) (A := A)
    (fun i hi => by
      obtain rfl : i = 0 := by omega
      exact hn) (fun _ _ => hex) (fun _ _ => hco) (fun _ _ => har) (fun i hi => by
      obtain rfl : i = 0 := by omega
      exact hle) (fun i hi j hj => by
      obtain rfl : i = 0 := by omega
      have h9 := hel j hj
      rw [← hb j hj] at h9
      exact h9) (fun i j hi hj hne => absurd (by omega) hne) hA
  obtain ⟨o1, o2, o3, o4⟩ := hS.1 0 (by omega)
  refine ⟨adK 0, adV 0, hev 0 (by omega), o1, o2, o3, lw_Tc o4 (fun j hj => ?_)⟩
  show Value.int (((List.range n).map f).getD j 0) = .int (f j)
  rw [hb j hj]
theorem lw_at {ty : FieldType} (h : (Cond.arrayClass ty).before args s = true) : ∃ cA, ArrOfT s cA ty ∧ s.vm.findClass ("[" ++ ty.toString) = some cA := by
  obtain ⟨c, k, comp, h1, h2, h3⟩ := Cond.arrayClass_spec h
  exact ⟨c, fun n z => ⟨fun k h => (by cases h), k, h2, comp, h3⟩, h1⟩
theorem lw_TT_hi {N a : Nat} (h : 140 < a) : am_TT N a = (bif Nat.beq a 2000 then (5, N) else (bif Nat.beq a 2001 then (5, 7) else bif Nat.beq a 2002 then (5, 7) else bif Nat.beq a 2003 then (60, 2) else bif Nat.beq a 2004 then (60, 2) else bif Nat.beq a 2005 then (60, 2) else bif Nat.beq a 2013 then (7, 119) else bif Nat.beq a 2014 then (7, 7) else bif Nat.beq a 2015 then (7, 119) else (0, 0))) := by
  have e : Nat.ble a 140 = false := by
    cases d : Nat.ble a 140 with
    | false => rfl
    | true => have := Nat.le_of_ble_eq_true d; omega
  unfold am_TT
  rw [e]
  rfl
theorem lw_Ts {N a : Nat} : am_Ts N 0 a = (0, 0) ∨ (a = 2000 ∧ am_Ts N 0 a = (5, N)) ∨ (a = 2001 ∧ am_Ts N 0 a = (5, 7)) ∨ (a = 2002 ∧ am_Ts N 0 a = (5, 7)) ∨ (a = 2003 ∧ am_Ts N 0 a = (60, 2)) ∨ (a = 2004 ∧ am_Ts N 0 a = (60, 2)) ∨ (a = 2005 ∧ am_Ts N 0 a = (60, 2)) ∨
    (a = 2013 ∧ am_Ts N 0 a = (7, 119)) ∨ (a = 2014 ∧ am_Ts N 0 a = (7, 7)) ∨ (a = 2015 ∧ am_Ts N 0 a = (7, 119)) := by
  by_cases c : a ≤ 140
  · left
    show (bif Nat.ble a 140 then (0, 0) else am_TT N a) = (0, 0)
    rw [Nat.ble_eq_true_of_le c]
    rfl
  · have e : am_Ts N 0 a = am_TT N a := by
      show (bif Nat.ble a 140 then (0, 0) else am_TT N a) = _
      cases d : Nat.ble a 140 with
      | false => rfl
      | true => have := Nat.le_of_ble_eq_true d; omega
    rw [e, lw_TT_hi (by omega)]
    by_cases c0 : a = 2000
    · subst c0; exact Or.inr (Or.inl ⟨rfl, rfl⟩)
    by_cases c1 : a = 2001
    · subst c1; exact Or.inr (Or.inr (Or.inl ⟨rfl, rfl⟩))
    by_cases c2 : a = 2002
    · subst c2; exact Or.inr (Or.inr (Or.inr (Or.inl ⟨rfl, rfl⟩)))
    by_cases c3 : a = 2003
    · subst c3; exact Or.inr (Or.inr (Or.inr (Or.inr (Or.inl ⟨rfl, rfl⟩))))
    by_cases c4 : a = 2004
    · subst c4; exact Or.inr (Or.inr (Or.inr (Or.inr (Or.inr (Or.inl ⟨rfl, rfl⟩)))))
    by_cases c5 : a = 2005
    · subst c5; exact Or.inr (Or.inr (Or.inr (Or.inr (Or.inr (Or.inr (Or.inl ⟨rfl, rfl⟩))))))
    by_cases c6 : a = 2013
    · subst c6; exact Or.inr (Or.inr (Or.inr (Or.inr (Or.inr (Or.inr (Or.inr (Or.inl ⟨rfl, rfl⟩)))))))
    by_cases c7 : a = 2014
    · subst c7; exact Or.inr (Or.inr (Or.inr (Or.inr (Or.inr (Or.inr (Or.inr (Or.inr (Or.inl ⟨rfl, rfl⟩))))))))
    by_cases c8 : a = 2015
    · subst c8; exact Or.inr (Or.inr (Or.inr (Or.inr (Or.inr (Or.inr (Or.inr (Or.inr (Or.inr ⟨rfl, rfl⟩))))))))
    left
    rw [am_bne c0, am_bne c1, am_bne c2, am_bne c3, am_bne c4, am_bne c5, am_bne c6, am_bne c7, am_bne c8]
    rfl
def lw_adr (b tS tM a3 a4 a5 v3 v4 v5 : Nat) (k : Nat) : Nat := bif Nat.beq k 2000 then b else bif Nat.beq k 2001 then tS else bif Nat.beq k 2002 then tM else bif Nat.beq k 2003 then a3 else bif Nat.beq k 2004 then a4 else bif Nat.beq k 2005 then a5 else bif Nat.beq k 2013 then v3 else bif Nat.beq k 2014 then v4 else bif Nat.beq k 2015 then v5 else 0
def lw_I0 (xs : Nat → Int32) (a j : Nat) : Int32 := bif Nat.beq a 2000 then xs j else bif Nat.beq a 2001 then nI (lw_sh j) else bif Nat.beq a 2002 then nI (lw_mk j) else bif Nat.beq a 2013 then nI (wd j) else bif Nat.beq a 2014 then nI (sg j) else bif Nat.beq a 2015 then nI (wd j) else 0
def lw_h0 (L : Nat) (xs : Nat → Int32) : am_H := (0, am_Ts L 0, lw_I0 xs, (fun _ _ => 0), am_Rc0)
theorem lw_wf {L : Nat} {xs : Nat → Int32} : am_wf (lw_h0 L xs) := by
  refine ⟨Nat.zero_le _, fun a ha => Or.inr ?_⟩
  have ha : (am_Ts L 0 a).1 ≠ 0 := ha
  show 141 ≤ a ∧ a ≠ 2010 ∧ ((am_Ts L 0 a).1 = 5 ∨ (am_Ts L 0 a).1 = 7 ∨ (am_Ts L 0 a).1 = 60)
  rcases lw_Ts (N := L) (a := a) with h0 | ⟨rfl, h0⟩ | ⟨rfl, h0⟩ | ⟨rfl, h0⟩ | ⟨rfl, h0⟩ | ⟨rfl, h0⟩ | ⟨rfl, h0⟩ | ⟨rfl, h0⟩ | ⟨rfl, h0⟩ | ⟨rfl, h0⟩
  · rw [h0] at ha; exact absurd rfl ha
  all_goals (rw [h0]; refine ⟨by omega, by omega, ?_⟩; first | exact Or.inl rfl | exact Or.inr (Or.inl rfl) | exact Or.inr (Or.inr rfl))
theorem lw_nl : (am_NL.map fun q => Cond.methodLinkNest (am_on q.1) q.2.1 (am_y q.2.2) "SleepPost") = [494, 333, 906, 169, 614, 163, 426, 559, 586].filterMap (fun i => lw_tbl[i]?) := by decide +kernel
theorem lw_nlm : ∀ q ∈ am_NL, Cond.methodLinkNest (am_on q.1) q.2.1 (am_y q.2.2) "SleepPost" ∈ lw_tbl := by
  intro q hq
  have h := List.mem_map_of_mem (f := fun q => Cond.methodLinkNest (am_on q.1) q.2.1 (am_y q.2.2) "SleepPost") hq
  rw [lw_nl] at h
  obtain ⟨i, -, hi⟩ := List.mem_filterMap.mp h
  exact List.mem_of_getElem? hi
theorem lw_ly {c : Nat} (h : c < 13) : ∀ w ∈ u_ws (am_on c) (am_Tf c) (am_Nf c), w ∈ am_AT := by
  intro w hw
  match c, h, hw with
  | 0, _, hw => exact am_in_ly0 hw
  | 1, _, hw => exact am_in_ly1 hw
  | 2, _, hw => exact am_in_ly2 hw
  | 3, _, hw => exact am_in_ly3 hw
  | 4, _, hw => exact am_in_ly4 hw
  | 5, _, hw => exact am_in_ly5 hw
  | 6, _, hw => exact am_in_ly6 hw
  | 7, _, hw => exact am_in_ly7 hw
  | 8, _, hw => exact am_in_ly8 hw
  | 9, _, hw => exact am_in_ly9 hw
  | 10, _, hw => exact am_in_ly10 hw
  | 11, _, hw => exact am_in_ly11 hw
  | 12, _, hw => exact am_in_ly12 hw
theorem lw_cls (hts : ∀ w ∈ lw_tbl, w.before args s = true) : ∃ G : Nat → ClassId × (Nat → Nat), ∀ c, c < 13 → u_Kn s (am_on c) (am_Tf c) (am_Nf c) (G c).1 (G c).2 := by
  have h : ∀ c, ∃ q : ClassId × (Nat → Nat), c < 13 → u_Kn s (am_on c) (am_Tf c) (am_Nf c) q.1 q.2 := by
    intro c
    by_cases hc : c < 13
    · obtain ⟨cC, iS, h9⟩ := u_known (ws := lw_tbl) (C := am_on c) (T := am_Tf c) (N := am_Nf c) (n := am_Nf c) hts (fun w hw => (am_good w (lw_ly hc w hw)).1)
        (hts _ (am_good _ (am_in_is (List.mem_map_of_mem (f := fun c => Cond.instantiable (am_on c) (am_Nf c)) (List.mem_range.mpr hc)))).1)
      exact ⟨(cC, iS), fun _ => h9⟩
    · exact ⟨(0, fun _ => 0), fun h => absurd h hc⟩
  exact ⟨fun c => Classical.choose (h c), fun c hc => Classical.choose_spec (h c) hc⟩
set_option maxHeartbeats 8000000 in
set_option maxRecDepth 100000 in
theorem lw_begin {b L : Nat} {xs : Nat → Int32} (hts : ∀ w ∈ lw_tbl, w.before args s = true) (hs : ∀ c ∈ lw_fl, c.before args s = true) (hX : va_X b L xs s s.heap) (hbl : b < s.heap.size) :
    ∃ (Z : am_Z) (sa1 sa2 : Nat), Z.1 = s.heap.size ∧ Z.2.1 2000 = b ∧ (Z.2.2.1 = .null ∨ ∃ a, Z.2.2.1 = .ref a) ∧ am_US Z s ∧ am_RO Z (lw_h0 L xs) s s.heap ∧ lk_V sa1 sa2 s ∧ lk_H Z s s.heap := by
  have hA : ∀ a : Nat, a < s.heap.size → ¬ (s.heap.size ≤ a) := fun a h k => by omega
  obtain ⟨tS, evS, TS⟩ := va_Tof (args := args) (s := s) (tm := lw_sS) (ty := .int) (N := 7) (f := fun j => .int (nI (lw_sh j))) (A := fun a => s.heap.size ≤ a) (by decide) (lw_fi (i := 10) hs (by decide +kernel)) (va_eqt (lw_fi (i := 11) hs (by decide +kernel))) (fun j hj => va_eqt (lw_fi hs (lw_eS j hj))) hA
  obtain ⟨tM, evM, TM⟩ := va_Tof (args := args) (s := s) (tm := lw_sM) (ty := .int) (N := 7) (f := fun j => .int (nI (lw_mk j))) (A := fun a => s.heap.size ≤ a) (by decide) (lw_fi (i := 20) hs (by decide +kernel)) (va_eqt (lw_fi (i := 21) hs (by decide +kernel))) (fun j hj => va_eqt (lw_fi hs (lw_eM j hj))) hA
  have ZS : va_Z "SleepPost$Laws" "SHIFTS" "[I" (.ref tS) (fun a => s.heap.size ≤ a) s s.heap := va_Zof (lw_ti (i := 993) hts (by decide +kernel)) (lw_ti (i := 128) hts (by decide +kernel)) evS hA
  have ZM : va_Z "SleepPost$Laws" "MASKS" "[I" (.ref tM) (fun a => s.heap.size ≤ a) s s.heap := va_Zof (lw_ti (i := 995) hts (by decide +kernel)) (lw_ti (i := 128) hts (by decide +kernel)) evM hA
  have ZC : va_Z "java/lang/String" "COMPACT_STRINGS" "Z" (.int 1) (fun a => s.heap.size ≤ a) s s.heap := va_Zof (lw_ti (i := 771) hts (by decide +kernel)) (lw_ti (i := 142) hts (by decide +kernel)) (va_eqt (lw_fi (i := 4) hs (by decide +kernel))) hA
  have hF : (Cond.isRef (.static "jdk/internal/util/Preconditions" "SIOOBE_FORMATTER" "Ljava/util/function/BiFunction;")).before args s = true := lw_fi (i := 5) hs (by decide +kernel)
  obtain ⟨fm, evF, hfm⟩ := Cond.isRef_spec hF
  have ZF : va_Z "jdk/internal/util/Preconditions" "SIOOBE_FORMATTER" "Ljava/util/function/BiFunction;" fm (fun a => s.heap.size ≤ a) s s.heap := va_Zof (lw_ti (i := 787) hts (by decide +kernel)) (lw_ti (i := 144) hts (by decide +kernel)) evF hA
  obtain ⟨a3, v3, ev3, o3, c3, w3, T3⟩ := lw_str (args := args) (s := s) (A := fun a => s.heap.size ≤ a) (own := "SleepPost$Tokens") (k := 61) (n := 119) (f := fun j => nI (wd j)) (by decide) (lw_fi (i := 59) hs (by decide +kernel)) (lw_fi (i := 60) hs (by decide +kernel)) (lw_fi (i := 61) hs (by decide +kernel)) (lw_fi (i := 62) hs (by decide +kernel)) (fun j hj => lw_fi hs (lw_e3 j hj)) hA
  obtain ⟨a4, v4, ev4, o4, c4, w4, T4⟩ := lw_str (args := args) (s := s) (A := fun a => s.heap.size ≤ a) (own := "SleepPost$Tokens") (k := 75) (n := 7) (f := fun j => nI (sg j)) (by decide) (lw_fi (i := 182) hs (by decide +kernel)) (lw_fi (i := 183) hs (by decide +kernel)) (lw_fi (i := 184) hs (by decide +kernel)) (lw_fi (i := 185) hs (by decide +kernel)) (fun j hj => lw_fi hs (lw_e4 j hj)) hA
  obtain ⟨a5, v5, ev5, o5, c5, w5, T5⟩ := lw_str (args := args) (s := s) (A := fun a => s.heap.size ≤ a) (own := "SleepPostModel") (k := 218) (n := 119) (f := fun j => nI (wd j)) (by decide) (lw_fi (i := 234) hs (by decide +kernel)) (lw_fi (i := 235) hs (by decide +kernel)) (lw_fi (i := 236) hs (by decide +kernel)) (lw_fi (i := 237) hs (by decide +kernel)) (fun j hj => lw_fi hs (lw_e5 j hj)) hA
  obtain ⟨G, hG⟩ := lw_cls hts
  obtain ⟨r0, A0, f0⟩ := lw_at (ty := .int) (lw_ti (i := 199) hts (by decide +kernel))
  obtain ⟨r1, A1, f1⟩ := lw_at (ty := .long) (lw_ti (i := 508) hts (by decide +kernel))
  obtain ⟨r2, A2, f2⟩ := lw_at (ty := .byte) (lw_ti (i := 198) hts (by decide +kernel))
  obtain ⟨r3, A3, f3⟩ := lw_at (ty := .boolean) (lw_ti (i := 395) hts (by decide +kernel))
  have hX1 : (Cond.exactly (.string "SleepPost" 128) "java/lang/String").before args s = true := lw_fi (i := 194) hs (by decide +kernel)
  have hX2 : (Cond.exactly (.string "SleepPost" 153) "java/lang/String").before args s = true := lw_fi (i := 215) hs (by decide +kernel)
  obtain ⟨sa1, x1, x2, x3, e1, -⟩ := Cond.exactly_spec (args := args) (first := s) (o := none) (s := s) (idx := []) (t := .string "SleepPost" 128) (cls := "java/lang/String") hX1
  obtain ⟨sa2, y1, y2, y3, e2, -⟩ := Cond.exactly_spec (args := args) (first := s) (o := none) (s := s) (idx := []) (t := .string "SleepPost" 153) (cls := "java/lang/String") hX2
  refine ⟨(s.heap.size, lw_adr b tS tM a3 a4 a5 v3 v4 v5, fm, (fun k => bif Nat.beq k 0 then r0 else bif Nat.beq k 1 then r1 else bif Nat.beq k 2 then r2 else r3), (fun c => (G c).1), (fun c => (G c).2)), sa1, sa2, rfl, rfl, ?_, ⟨⟨?_, ?_⟩, ?_, ?_⟩, ⟨?_, ?_, ?_, ZS, ZM, ZC, ZF⟩, ⟨⟨?_, ?_, ?_, ?_, ?_⟩, ?_, ?_, ?_⟩, ⟨?_, ?_⟩⟩
  · cases fm with
    | null => exact Or.inl rfl
    | ref a => exact Or.inr ⟨a, rfl⟩
    | _ => cases hfm
  · intro c q hq
    have hc : c < 13 := (List.getElem?_eq_some_iff.mp hq).1
    rw [am_w_cl hc] at hq
    cases hq
    exact hG c hc
  · intro k q hq
    have hk : k < 4 := (List.getElem?_eq_some_iff.mp hq).1
    match k, hk, hq with
    | 0, _, hq => cases hq; exact ⟨A0, f0⟩
    | 1, _, hq => cases hq; exact ⟨A1, f1⟩
    | 2, _, hq => cases hq; exact ⟨A2, f2⟩
    | 3, _, hq => cases hq; exact ⟨A3, f3⟩
  · intro q hq
    exact va_Nw.of rfl (hts _ (lw_nlm q hq))
  · intro q hq
    simp only [am_KS, List.mem_cons, List.not_mem_nil, or_false] at hq
    rcases hq with rfl | rfl | rfl
    · exact ⟨"house street sleeper letter lamp bell cat corner seed law pull wake drop or and not deep far light noise mail hour way ", vk_R.of (A := args) (lw_ti (i := 761) hts (by decide +kernel)) ev3⟩
    · exact ⟨";()+-*/", vk_R.of (A := args) (lw_ti (i := 827) hts (by decide +kernel)) ev4⟩
    · exact ⟨"house street sleeper letter lamp bell cat corner seed law pull wake drop or and not deep far light noise mail hour way ", vk_R.of (A := args) (lw_ti (i := 1808) hts (by decide +kernel)) ev5⟩
  · intro a ha
    have ha : (am_Ts L 0 a).1 = 5 := ha
    rcases lw_Ts (N := L) (a := a) with h0 | ⟨rfl, h0⟩ | ⟨rfl, h0⟩ | ⟨rfl, h0⟩ | ⟨rfl, h0⟩ | ⟨rfl, h0⟩ | ⟨rfl, h0⟩ | ⟨rfl, h0⟩ | ⟨rfl, h0⟩ | ⟨rfl, h0⟩
    · rw [h0] at ha; cases ha
    · show va_T .int b (am_Ts L 0 2000).2 (fun j => .int (xs j)) (fun a => s.heap.size ≤ a) s s.heap
      rw [h0]
      obtain ⟨scr, g1, g2, g3, g4, g5⟩ := hX
      exact ⟨scr, g1, g2, g3, by rw [g4]; exact Nat.le_refl _, by rw [g4] <;> rfl, g5, hA b hbl⟩
    · show va_T .int tS (am_Ts L 0 2001).2 (fun j => .int (nI (lw_sh j))) (fun a => s.heap.size ≤ a) s s.heap
      rw [h0]; exact TS
    · show va_T .int tM (am_Ts L 0 2002).2 (fun j => .int (nI (lw_mk j))) (fun a => s.heap.size ≤ a) s s.heap
      rw [h0]; exact TM
    all_goals (rw [h0] at ha; cases ha)
  · intro a ha
    have ha : (am_Ts L 0 a).1 = 7 := ha
    rcases lw_Ts (N := L) (a := a) with h0 | ⟨rfl, h0⟩ | ⟨rfl, h0⟩ | ⟨rfl, h0⟩ | ⟨rfl, h0⟩ | ⟨rfl, h0⟩ | ⟨rfl, h0⟩ | ⟨rfl, h0⟩ | ⟨rfl, h0⟩ | ⟨rfl, h0⟩
    · rw [h0] at ha; cases ha
    · rw [h0] at ha; cases ha
    · rw [h0] at ha; cases ha
    · rw [h0] at ha; cases ha
    · rw [h0] at ha; cases ha
    · rw [h0] at ha; cases ha
    · rw [h0] at ha; cases ha
    · show va_T .byte v3 (am_Ts L 0 2013).2 (fun j => .int (nI (wd j))) (fun a => s.heap.size ≤ a) s s.heap
      rw [h0]; exact T3
    · show va_T .byte v4 (am_Ts L 0 2014).2 (fun j => .int (nI (sg j))) (fun a => s.heap.size ≤ a) s s.heap
      rw [h0]; exact T4
    · show va_T .byte v5 (am_Ts L 0 2015).2 (fun j => .int (nI (wd j))) (fun a => s.heap.size ≤ a) s s.heap
      rw [h0]; exact T5
  · intro a ha
    have ha : (am_Ts L 0 a).1 = 60 := ha
    rcases lw_Ts (N := L) (a := a) with h0 | ⟨rfl, h0⟩ | ⟨rfl, h0⟩ | ⟨rfl, h0⟩ | ⟨rfl, h0⟩ | ⟨rfl, h0⟩ | ⟨rfl, h0⟩ | ⟨rfl, h0⟩ | ⟨rfl, h0⟩ | ⟨rfl, h0⟩
    · rw [h0] at ha; cases ha
    · rw [h0] at ha; cases ha
    · rw [h0] at ha; cases ha
    · rw [h0] at ha; cases ha
    · exact ⟨⟨(by show 141 ≤ am_Rc0 2003 0; decide +kernel), (by show am_Rc0 2003 0 ≠ 2010; decide +kernel)⟩, o3, w3, c3⟩
    · exact ⟨⟨(by show 141 ≤ am_Rc0 2004 0; decide +kernel), (by show am_Rc0 2004 0 ≠ 2010; decide +kernel)⟩, o4, w4, c4⟩
    · exact ⟨⟨(by show 141 ≤ am_Rc0 2005 0; decide +kernel), (by show am_Rc0 2005 0 ≠ 2010; decide +kernel)⟩, o5, w5, c5⟩
    all_goals (rw [h0] at ha; cases ha)
  · exact va_Nw.of rfl (lw_ti (i := 1445) hts (by decide +kernel))
  · exact va_Nw.of rfl (lw_ti (i := 1511) hts (by decide +kernel))
  · exact va_Nw.of rfl (lw_ti (i := 1447) hts (by decide +kernel))
  · exact va_Nw.of rfl (lw_ti (i := 1449) hts (by decide +kernel))
  · exact va_Nw.of rfl (lw_ti (i := 1451) hts (by decide +kernel))
  · exact va_Nc.of (args := args) (lw_fi (i := 44) hs (by decide +kernel))
  · exact vk_R.of (A := args) (lw_ti (i := 1483) hts (by decide +kernel)) e1
  · exact vk_R.of (A := args) (lw_ti (i := 1518) hts (by decide +kernel)) e2
  · exact vx_Zqof (args := args) (lw_ti (i := 1470) hts (by decide +kernel)) (lw_ti (i := 147) hts (by decide +kernel)) (lw_fi (i := 29) hs (by decide +kernel)) hA
  · exact vx_Zqof (args := args) (lw_ti (i := 1472) hts (by decide +kernel)) (lw_ti (i := 147) hts (by decide +kernel)) (lw_fi (i := 30) hs (by decide +kernel)) hA
end LWB
