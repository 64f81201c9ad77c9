/-! ===== one step of the walk (as part 16, but for one row) ===== -/
section AMX1
variable {p : Program} {l : Launch} {e : Env} {R : Room} {s : State} {m : MethodId} {args : Array Value} {below : List Frame} {meth : Method} {c : Code}
set_option maxHeartbeats 4000000 in
set_option maxRecDepth 100000 in
theorem am_walk1 {Z : am_Z} {mid d : Nat} {Q : Value → am_H → Prop} {QF : State → Prop} {Ts : List Cond} (hCx : am_Cx p s m args meth c Z mid Ts) (hokM : am_okM mid = true) (hC : am_CallOK l Z d) (hML : ∀ m, m < am_law → (am_tb m).2 ≤ 40) (hRf : d + 1 ≤ R.frames) (hRl : 64 * (d + 1) ≤ R.locals) (hRc : (am_tb mid).1.2.2.1 ≤ R.cells) (hRs : (am_tb mid).1.2.2.2 ≤ R.slots)
    (hRv : am_rt mid = none → ∀ (h : am_H) (H : Heap) (locs : List Loc) (ls : Array Slot) (pc : Nat), Q .null h → am_St Z h H → am_RO Z h s s.heap → va_S (am_Ar Z s.heap.size) s.heap H locs → (h.1 < 140 → s.heap.size + (am_tb mid).1.2.2.1 = Z.1 + h.1) → decode (am_bc mid) pc = .ok (.return_, 1) → W p l e R s m args below meth c H locs (am_tb mid).1.2.2.1 (am_tb mid).1.2.2.2 QF (F0 m pc ls []))
    (hRi : ∀ (ty : FieldType), am_rt mid = some ty → (ty = .int ∨ ty = .boolean ∨ ty = .char ∨ ty = .byte) → ∀ (x : Int32) (h : am_H) (H : Heap) (locs : List Loc) (ls : Array Slot) (pc : Nat), narrow ty (.int x) = .int x → Q (.int x) h → am_St Z h H → am_RO Z h s s.heap → va_S (am_Ar Z s.heap.size) s.heap H locs → (h.1 < 140 → s.heap.size + (am_tb mid).1.2.2.1 = Z.1 + h.1) → decode (am_bc mid) pc = .ok (.ireturn, 1) → W p l e R s m args below meth c H locs (am_tb mid).1.2.2.1 (am_tb mid).1.2.2.2 QF (F0 m pc ls [.int x]))
    (hRg : am_rt mid = some .long → ∀ (x : Int64) (h : am_H) (H : Heap) (locs : List Loc) (ls : Array Slot) (pc : Nat), Q (.long x) h → am_St Z h H → am_RO Z h s s.heap → va_S (am_Ar Z s.heap.size) s.heap H locs → (h.1 < 140 → s.heap.size + (am_tb mid).1.2.2.1 = Z.1 + h.1) → decode (am_bc mid) pc = .ok (.lreturn, 1) → W p l e R s m args below meth c H locs (am_tb mid).1.2.2.1 (am_tb mid).1.2.2.2 QF (F0 m pc ls [.long x]))
    (h905 : ∀ {u : Nat × Nat} {L : am_L} {st : List Value} {h : am_H} {cs : List am_W} {pc len i2 i3 i4 k : Nat}, am_okR mid (pc, .invokestatic k, len, 905, i2, i3, i4) = true → am_seqT p l e R s m args below meth c Z mid QF cs (pc + len) → am_step (am_D d) am_co (am_tb mid).1 Q (am_P p l e R s m args below meth c Z mid QF) u ((pc, .invokestatic k, len, 905, i2, i3, i4) :: cs) L st h → am_G p l e R s m args below meth c Z mid QF u L st h pc)
    {u : Nat × Nat} {cs : List am_W} {L : am_L} {st : List Value} {h : am_H} (hs : am_step (am_D d) am_co (am_tb mid).1 Q (am_P p l e R s m args below meth c Z mid QF) u cs L st h) : am_P p l e R s m args below meth c Z mid QF u cs L st h := by
  unfold am_okM at hokM
  simp only [Bool.and_eq_true] at hokM
  obtain ⟨hall, hch, -⟩ := hokM
  cases cs with
  | nil => exact hs.elim
  | cons row cs =>
    obtain ⟨pc, ins, len, i1, i2, i3, i4⟩ := row
    rintro ⟨pre, hpre⟩ hu1 hu2
    have hok : am_okR mid (pc, ins, len, i1, i2, i3, i4) = true := List.all_eq_true.mp hall _ (by rw [hpre]; exact List.mem_append_right _ List.mem_cons_self)
    have seq : am_seqT p l e R s m args below meth c Z mid QF cs (pc + len) := by
      intro u' L' st' h' k a b
      cases cs with
      | nil => exact k.elim
      | cons q rs =>
        have hq := am_ch_of pre (pc, ins, len, i1, i2, i3, i4) q rs (by rw [← hpre]; exact hch)
        have := k ⟨pre ++ [(pc, ins, len, i1, i2, i3, i4)], by rw [hpre]; simp⟩ a b
        rw [← hq] at this
        exact this
    have jmp : ∀ t : Nat, am_seqT p l e R s m args below meth c Z mid QF (am_seek (am_tb mid).1.1 t) t := by
      intro t u' L' st' h' k a b
      cases hsk : am_seek (am_tb mid).1.1 t with
      | nil => rw [hsk] at k; exact k.elim
      | cons q rs =>
        obtain ⟨e1, e2⟩ := am_seek_of _ _ _ _ hsk
        rw [hsk] at k
        have := k e2 a b
        rw [e1] at this
        exact this
    refine am_w1 (d := d) hCx hok seq (fun t => jmp t) hu1 hu2 hs (fun hm => ?_)
    cases ins with
    | getfield k => exact am_w_get hCx hok seq hu1 hu2 hs
    | putfield k => exact am_w_put hCx hok seq hu1 hu2 hs
    | getstatic k => exact am_w_gets hCx hok seq hu1 hu2 hs
    | iaload => exact am_w_iald hCx hok seq hu1 hu2 hs
    | baload => exact am_w_bald hCx hok seq hu1 hu2 hs
    | laload => exact am_w_lald hCx hok seq hu1 hu2 hs
    | iastore => exact am_w_iast hCx hok seq hu1 hu2 hs
    | bastore => exact am_w_bast hCx hok seq hu1 hu2 hs
    | lastore => exact am_w_last hCx hok seq hu1 hu2 hs
    | arraylength => exact am_w_alen hCx hok seq hu1 hu2 hs
    | newarray t => exact am_w_newa hCx hok hRc hRs seq hs
    | new k => exact am_w_new hCx hok hRc hRs seq hs
    | invokestatic k => exact am_w_istat hCx hC hML hRf hRl hRc hRs hok seq hu1 hu2 hs (fun e9 => by subst e9; exact h905 hok seq hs)
    | invokevirtual k => exact am_w_ivirt hCx hC hML hRf hRl hRc hRs hok seq hs
    | invokespecial k => exact am_w_ispec hCx hC hML hRf hRl hRc hRs hok seq hs
    | tableswitch a b c e => exact am_w_tsw hCx hok jmp hu1 hu2 hs
    | lookupswitch a b => exact am_w_lsw hCx hok jmp hu1 hu2 hs
    | ldc k => exact am_w_ldc hCx hok seq hu1 hu2 hs
    | return_ =>
      simp only [am_okR, am_okI, Bool.and_eq_true, decide_eq_true_eq, Nat.beq_eq] at hok
      obtain ⟨hdg, rfl, hrt⟩ := hok
      dsimp only [am_step] at hs
      split at hs
      · obtain ⟨hg, hQ⟩ := am_g_of hs
        intro H locs ls h1 h2 h3 h4 h5 h6
        refine W.widen hu1 hu2 (hRv hrt h H locs ls pc hQ h2 h3 h4 (fun hl => ?_) hdg)
        rcases am_orb hg with q | q
        · rw [← am_beq q]; exact h6 hl
        · have := Nat.le_of_ble_eq_true q; omega
      · exact hs.elim
    | lreturn =>
      simp only [am_okR, am_okI, Bool.and_eq_true, decide_eq_true_eq, Nat.beq_eq] at hok
      obtain ⟨hdg, rfl, hrt⟩ := hok
      dsimp only [am_step] at hs
      split at hs
      · next x =>
        obtain ⟨hg, hQ⟩ := am_g_of hs
        intro H locs ls h1 h2 h3 h4 h5 h6
        refine W.widen hu1 hu2 (hRg hrt x h H locs ls pc hQ h2 h3 h4 (fun hl => ?_) hdg)
        rcases am_orb hg with q | q
        · rw [← am_beq q]; exact h6 hl
        · have := Nat.le_of_ble_eq_true q; omega
      · exact hs.elim
    | ireturn =>
      simp only [am_okR, am_okI, Bool.and_eq_true, decide_eq_true_eq, Nat.beq_eq] at hok
      obtain ⟨hdg, rfl, hrt⟩ := hok
      dsimp only [am_step] at hs
      split at hs
      · next x =>
        obtain ⟨hg, hQ⟩ := am_g_of hs
        intro H locs ls h1 h2 h3 h4 h5 h6
        have hsz : h.1 < 140 → s.heap.size + (am_tb mid).1.2.2.1 = Z.1 + h.1 := fun hl => by
          rcases am_orb hg with q | q
          · rw [← am_beq q]; exact h6 hl
          · have := Nat.le_of_ble_eq_true q; omega
        have fin : ∀ ty, am_rt mid = some ty → (ty = .int ∨ ty = .boolean ∨ ty = .char ∨ ty = .byte) → narrow ty (.int x) = .int x → Q (.int x) h → W p l e R s m args below meth c H locs u.1 u.2 QF (F0 m pc ls ([Value.int x].map (am_t Z))) := fun ty e1 e2 e3 e4 => W.widen hu1 hu2 (hRi ty e1 e2 x h H locs ls pc e3 e4 h2 h3 h4 hsz hdg)
        generalize (am_tb mid).1.2.1 = rk at hQ hrt
        split at hQ
        · exact fin .int (by simpa using hrt) (Or.inl rfl) rfl hQ
        · obtain ⟨hb, hQ⟩ := am_g_of hQ
          have hb : x = 0 ∨ x = 1 := by simpa [am_bool] using hb
          exact fin .boolean (by simpa using hrt) (Or.inr (Or.inl rfl)) (by rcases hb with rfl | rfl <;> rfl) hQ
        · obtain ⟨hb, hQ⟩ := am_g_of hQ
          have hb : (x.toUInt32 % 65536).toInt32 = x := by simpa using hb
          exact fin .char (by simpa using hrt) (Or.inr (Or.inr (Or.inl rfl))) (by rw [← hb]; exact pk_nc x) hQ
        · obtain ⟨hb, hQ⟩ := am_g_of hQ
          have hb : x.toInt8.toInt32 = x := by simpa using hb
          exact fin .byte (by simpa using hrt) (Or.inr (Or.inr (Or.inr rfl))) (by rw [← hb]; exact pk_nb x) hQ
        · exact hQ.elim
      · exact hs.elim
    | _ => exact hm.elim
end AMX1
/-! ===== look: it answers or throws ===== -/
section LK
theorem am_g_in {b : Bool} {p : Prop} (hb : b = true) (hp : p) : am_g b p := by subst hb; exact hp
theorem am_if_in {b : Bool} {p q : Prop} (h1 : b = true → p) (h2 : b = false → q) : am_if b p q := by
  cases b
  · exact h2 rfl
  · exact h1 rfl
theorem am_lk_sw {K : Nat → Prop} {D : Nat} {x : Int32} {pc : Nat} : ∀ (os : List Int) (lo : Int), (∀ j : Nat, j < os.length → x ≠ Int32.ofInt (lo + j)) → K D → am_sw K D x (am_ts pc lo os)
  | [], _, _, hK => hK
  | o :: os, lo, hn, hK => by
    refine am_if_in (fun q => absurd (by simpa using q) (by simpa using hn 0 (by simp))) (fun _ => am_lk_sw os (lo + 1) (fun j hj => ?_) hK)
    have := hn (j + 1) (by simpa using hj)
    rw [show lo + 1 + (j : Int) = lo + ((j + 1 : Nat) : Int) by push_cast; omega]
    exact this
abbrev lk_I : String := "java/lang/IndexOutOfBoundsException"
abbrev lk_N : String := "java/util/NoSuchElementException"
abbrev lk_R : String := "java/lang/RuntimeException"
abbrev lk_X : String := "java/lang/Exception"
def lk_r13 : ByteArray := ⟨#[0x2a, 0x2b, 0xb7, 0x00, 0x0d, 0xb1]⟩
def lk_A1 : List Cond := (lk_atoms "SleepPost" 130 lk_I 7 Bundle.six lk_R [lk_X]).filter vx_no
def lk_A2 : List Cond := (lk_atoms "SleepPost" 155 lk_N 13 lk_r13 lk_R [lk_X]).filter vx_no
def lk_W0 : List Cond := [.classLink "SleepPost" 126 lk_I, .initialized lk_I, .classLink "SleepPost" 151 lk_N, .initialized lk_N]
def lk_G : List Cond := lk_W0 ++ (lk_A1.filter goodWord ++ lk_A2.filter goodWord)
def lk_Q : List Nat := [1443, 150, 1509, 151, 147, 1465, 1474, 1477, 1480, 1482, 1466, 1467, 159, 160, 1468, 1473, 1478, 1498, 1455, 1499, 1457, 1500, 1459, 1469, 1471, 1461, 1494, 1495, 1497, 1461, 1485, 1486, 1487, 1488, 1488, 1489, 1490, 1491, 1491, 1492, 1493, 1494, 1484, 1444, 1452, 1453, 1454, 1456, 1458, 1460, 1464, 1463, 1462,
  147, 1465, 1474, 1477, 1480, 1482, 1466, 1467, 159, 160, 1468, 1473, 1478, 1498, 1455, 1499, 1457, 1500, 1459, 1469, 1471, 1461, 1494, 1495, 1497, 1461, 1520, 1521, 1522, 1488, 1488, 1489, 1490, 1491, 1491, 1492, 1493, 1494, 1519, 1510, 1512, 1476, 1513, 1514, 1515, 1516, 1464, 1463, 1517]
set_option maxRecDepth 100000 in
theorem lk_P : lk_G = lk_Q.filterMap (fun i => lw_tbl[i]?) := by decide +kernel
theorem lk_GG : lk_G.all goodWord = true := by decide +kernel
theorem lk_good : GoodIn lw_tbl lk_G := goodIn_r lk_G lk_Q lk_P lk_GG
def lk_B : List Cond := [.castable lk_I lk_I, .castable lk_N lk_N, .declares (Bundle.initS lk_R), .declares (Bundle.initS lk_X), .declares (Bundle.initS Bundle.tN)]
theorem lk_B1 : ∀ w ∈ lk_A1.filter (fun w => !goodWord w), w ∈ lk_B := by decide +kernel
theorem lk_B2 : ∀ w ∈ lk_A2.filter (fun w => !goodWord w), w ∈ lk_B := by decide +kernel
theorem lk_o1 : ∀ w ∈ lk_A1, vx_ot w = true := by decide +kernel
theorem lk_o2 : ∀ w ∈ lk_A2, vx_ot w = true := by decide +kernel
/-- what the tables say beside the good words -/
def lk_V (sa1 sa2 : Nat) (U : State) : Prop := (va_Nw (.castable lk_I lk_I) U ∧ va_Nw (.castable lk_N lk_N) U ∧ va_Nw (.declares (Bundle.initS lk_R)) U ∧ va_Nw (.declares (Bundle.initS lk_X)) U ∧ va_Nw (.declares (Bundle.initS Bundle.tN)) U) ∧
  va_Nc lk_N lk_I U ∧ vk_R "SleepPost" 128 "no such sleeper" sa1 U ∧ vk_R "SleepPost" 153 "no such what" sa2 U
theorem lk_V.warm {sa1 sa2 : Nat} {s U : State} (hW : s.WarmedH U.vm) (h : lk_V sa1 sa2 s) : lk_V sa1 sa2 U :=
  ⟨⟨va_Nw.warmC hW h.1.1, va_Nw.warmC hW h.1.2.1, va_Nw.warmD hW h.1.2.2.1, va_Nw.warmD hW h.1.2.2.2.1, va_Nw.warmD hW h.1.2.2.2.2⟩, va_Nc.moved hW.alike h.2.1, vk_R.warm hW h.2.2.1, vk_R.warm hW h.2.2.2⟩
theorem lk_B3 {sa1 sa2 : Nat} {args : Array Value} {s : State} (h : lk_V sa1 sa2 s) : ∀ w ∈ lk_B, w.before args s = true :=
  vx_c (va_Nw.use rfl h.1.1) (vx_c (va_Nw.use rfl h.1.2.1) (vx_c (va_Nw.use rfl h.1.2.2.1) (vx_c (va_Nw.use rfl h.1.2.2.2.1) (vx_c (va_Nw.use rfl h.1.2.2.2.2) vx_n))))
def lk_H (Z : am_Z) (U : State) (H : Heap) : Prop := vx_Zq Bundle.tN "UNASSIGNED_STACK" Bundle.steD (am_B Z) U H ∧ vx_Zq Bundle.tN "SUPPRESSED_SENTINEL" Bundle.listD (am_B Z) U H
theorem lk_H.move {Z : am_Z} {u U : State} {H H1 : Heap} (hvm : u.vm.Alike U.vm) (hq : ∀ q : Nat, q < Z.1 → H1[q]? = H[q]?) (h : lk_H Z u H) : lk_H Z U H1 :=
  ⟨(vx_Zq.moved hvm h.1).kept (fun a _ k => hq a (Nat.lt_of_not_le k)), (vx_Zq.moved hvm h.2).kept (fun a _ k => hq a (Nat.lt_of_not_le k))⟩
def lk_Pre (Z : am_Z) (h : am_H) (sz : Nat) (As : List Value) (sa1 sa2 : Nat) : Array Value → State → Prop := fun a U => am_Pre Z h sz As a U ∧ lk_V sa1 sa2 U ∧ lk_H Z U U.heap
theorem lk_Pre_blind (Z : am_Z) (h : am_H) (sz : Nat) (As : List Value) (sa1 sa2 : Nat) : FrameBlind (lk_Pre Z h sz As sa1 sa2) := by
  intro a U g mk q
  exact ⟨am_Pre_blind Z h sz As a U g mk q.1, lk_V.warm (s := U) (U := U.calling g mk a) (State.WarmedH.refl U) q.2.1, lk_H.move (u := U) (U := U.calling g mk a) (Vm.Alike.refl U.vm) (fun _ _ => rfl) q.2.2⟩
def lk_ok (h : am_H) (x : Nat) (a : Int32) : Prop := (decide (0 ≤ a) && decide (a < h.2.2.1 (h.2.2.2.2 x 2) 2)) = true
set_option maxHeartbeats 4000000 in
set_option maxRecDepth 100000 in
theorem lk_is {k x : Nat} {a : Int32} {h : am_H} {Q : Value → am_H → Prop} (hkd : am_kd h x = 21) (hkd2 : am_kd h (h.2.2.2.2 x 2) = 18) (h1 : lk_ok h x a → Q (.int 1) h) (h0 : ¬ lk_ok h x a → Q (.int 0) h) : am_D (k + 1) 152 [.ref x, .int a] h Q := by
  rw [am_D_un (d := k) (mid := 152) rfl (fun _ => false) 12]
  refine am_g_in rfl ?_
  show am_if (am_c0 .lt a) (Q (.int (Int32.ofInt 0)) h) (am_g (Nat.beq (am_kd h x) 21) (am_g (Nat.beq (am_kd h (h.2.2.2.2 x 2)) 18) (am_if (am_c2 .ge a (h.2.2.1 (h.2.2.2.2 x 2) 2)) (Q (.int (Int32.ofInt 0)) h) (Q (.int (Int32.ofInt 1)) h))))
  refine am_if_in (fun c1 => h0 ?_) (fun c1 => ?_)
  · intro q
    unfold lk_ok at q
    rw [Bool.and_eq_true, decide_eq_true_eq, decide_eq_true_eq] at q
    have c1 : a < 0 := of_decide_eq_true c1
    rw [Int32.lt_iff_toInt_lt] at c1
    have q1 := q.1
    rw [Int32.le_iff_toInt_le] at q1
    omega
  · have c1 : ¬ a < 0 := of_decide_eq_false c1
    rw [hkd, hkd2]
    refine am_g_in rfl (am_g_in rfl (am_if_in (fun c2 => h0 ?_) (fun c2 => h1 ?_)))
    · intro q
      unfold lk_ok at q
      rw [Bool.and_eq_true, decide_eq_true_eq, decide_eq_true_eq] at q
      have c2 : h.2.2.1 (h.2.2.2.2 x 2) 2 ≤ a := of_decide_eq_true c2
      rw [Int32.le_iff_toInt_le] at c2
      have q2 := q.2
      rw [Int32.lt_iff_toInt_lt] at q2
      omega
    · have c2 : ¬ h.2.2.1 (h.2.2.2.2 x 2) 2 ≤ a := of_decide_eq_false c2
      unfold lk_ok
      rw [Bool.and_eq_true, decide_eq_true_eq, decide_eq_true_eq]
      rw [Int32.lt_iff_toInt_lt] at c1
      rw [Int32.le_iff_toInt_le] at c2
      rw [Int32.le_iff_toInt_le, Int32.lt_iff_toInt_lt]
      omega
def lk_rm (n : Nat) : Room := { frames := n, cells := 1, slots := 6, locals := 64 * n }
def lk_ws : List Cond := .code (am_y 119) (am_bc 119) (am_tb 119).2 (am_rt 119) :: (am_AT ++ lk_G)
def lk_BX (Z : am_Z) (h : am_H) (sz : Nat) (K1 K2 : Prop) : String → Unit → State → Prop := fun E _ t => ((E = lk_I ∧ K1) ∨ (E = lk_N ∧ K2)) ∧ am_Bk Z h 119 sz h t
theorem am_St_grow {Z : am_Z} {h : am_H} {H H1 : Heap} (hs : am_St Z h H) (hz : H.size ≤ H1.size) (hq : ∀ q : Nat, q < H.size → H1[q]? = H[q]?) : am_St Z h H1 :=
  ⟨hs.1, Nat.le_trans hs.2.1 hz, hs.2.2.kept (fun k q hk => hq _ (hs.2.2 k q hk).lt)⟩
set_option maxHeartbeats 8000000 in
set_option maxRecDepth 100000 in
theorem lk_met (hokA : ∀ m, m < am_law → am_okM m = true) {l : Launch} (hl : l.stackTraces = false) {Z : am_Z} (hnr : Z.2.2.1 = .null ∨ ∃ a, Z.2.2.1 = .ref a) {n x sa1 sa2 : Nat} {a b : Int32} {h : am_H} {Q : Value → am_H → Prop} {K1 K2 : Prop}
    (hkd : am_kd h x = 21) (hkd2 : am_kd h (h.2.2.2.2 x 2) = 18) (h140 : h.1 = 140)
    (hc : am_D (n + 6) 119 [.ref x, .int a, .int b] h Q ∨ (¬ lk_ok h x a ∧ K1) ∨ (lk_ok h x a ∧ ¬ (decide (0 ≤ b) && decide (b ≤ 5)) = true ∧ K2)) (sz : Nat) :
    vx_Met l (am_y 119) lk_ws (lk_rm (n + 6)) (lk_Pre Z h sz [.ref x, .int a, .int b] sa1 sa2) (am_Post Z h 119 sz Q) (vx_X (fun _ : Unit => True) (lk_BX Z h sz K1 K2) (am_Ar Z sz)) 1 6 (am_Ar Z sz) := by
  have hnv := am_nv hnr
  have hC := am_callOK hokA l Z hnr (n + 5)
  have hML : ∀ m, m < am_law → (am_tb m).2 ≤ 40 := fun m hm => by
    have := hokA m hm
    unfold am_okM at this
    simp only [Bool.and_eq_true] at this
    exact Nat.le_of_ble_eq_true this.2.2.1
  have hlt : 119 < 296 := by decide
  have hokM := hokA 119 hlt
  have h00 : (am_tb 119).1.2.2.1 = 0 := by decide +kernel
  have h01 : (am_tb 119).1.2.2.2 = 0 := by decide +kernel
  have hc1 : (am_co 119).1 = 0 := by decide +kernel
  have hrk : am_rkc 119 = 1 := by decide +kernel
  refine vx_ofW (cc := am_bc 119) (maxL := (am_tb 119).2) (ret := am_rt 119) (by decide +kernel) rfl ?_
  intro p e s m args below meth c s₁ B hml htab hv
  obtain ⟨⟨hargs, hsz, hSt, hUS, hRO, hZ, hszh, hsv⟩, hV, hH⟩ := hv
  subst hargs
  subst hsz
  have hx := B.exec
  have hb := B.bytes
  have hr := B.returns
  have hts0 := atoms_spec (ws := lk_ws) B.pre
  have hts : ∀ w ∈ am_wds 119, w.before (([.ref x, .int a, .int b] : List Value).map (am_t Z)).toArray s = true := fun w hw => hts0 w (by
    rcases List.mem_cons.mp hw with e | e
    · rw [e]; exact List.mem_cons_self
    · exact List.mem_cons_of_mem _ (List.mem_append_left _ e))
  have htG : ∀ w ∈ lk_G, w.before (([.ref x, .int a, .int b] : List Value).map (am_t Z)).toArray s = true := fun w hw => hts0 w (List.mem_cons_of_mem _ (List.mem_append_right _ hw))
  have hlocks := B.notSynchronized
  have hown : s.vm.findClass "SleepPost" = some m.cls := findClass_of_methodNamed B.named
  have hCx : am_Cx p s m (([.ref x, .int a, .int b] : List Value).map (am_t Z)).toArray meth c Z 119 (am_wds 119) := ⟨hx, hb, hml, hown, hts, fun w hw => ⟨List.mem_cons_of_mem _ hw, good_of_word (List.all_eq_true.mp am_GT w hw)⟩, hr, fun q => by rw [← q]; exact (name_of_methodNamed B.named B.method).1, hUS, hZ, hnr⟩
  have bk : ∀ (h' : am_H) (H : Heap) (locs : List Loc) (t : State), am_St Z h' H → am_RO Z h' s s.heap → va_S (am_Ar Z s.heap.size) s.heap H locs → (h'.1 < 140 → s.heap.size + (am_tb 119).1.2.2.1 = Z.1 + h'.1) → t.heap = H → s.WarmedH t.vm → am_Bk Z h 119 s.heap.size h' t := fun h' H locs t g1 g2 g3 g4 ht hW => by
    refine ⟨by rw [ht]; exact g1, am_RO_move hW.alike (fun q hq => by rw [ht]; exact am_low g3 hZ hq) g2, ?_, fun q => ?_⟩
    · by_cases q : h'.1 < 140
      · have e9 := g4 q; rw [h00] at e9; have := hSt.2.1; omega
      · have := hSt.1.1; omega
    · rw [hc1]; have := g4 q; rw [h00] at this; exact this
  have hRi : ∀ (ty : FieldType), am_rt 119 = some ty → (ty = .int ∨ ty = .boolean ∨ ty = .char ∨ ty = .byte) → ∀ (xv : Int32) (h' : am_H) (H : Heap) (locs : List Loc) (ls : Array Slot) (pc : Nat), narrow ty (.int xv) = .int xv → Q (.int xv) h' → am_St Z h' H → am_RO Z h' s s.heap → va_S (am_Ar Z s.heap.size) s.heap H locs → (h'.1 < 140 → s.heap.size + (am_tb 119).1.2.2.1 = Z.1 + h'.1) → decode (am_bc 119) pc = .ok (.ireturn, 1) →
      W p l e (headSpec lk_ws (lk_rm (n + 6))).room s m (([.ref x, .int a, .int b] : List Value).map (am_t Z)).toArray below meth c H locs (am_tb 119).1.2.2.1 (am_tb 119).1.2.2.2 (vx_MQ below (am_Post Z h 119 s.heap.size Q) (vx_X (fun _ : Unit => True) (lk_BX Z h s.heap.size K1 K2) (am_Ar Z s.heap.size)) (([.ref x, .int a, .int b] : List Value).map (am_t Z)).toArray s 1 6 (am_Ar Z s.heap.size)) (F0 m pc ls [.int xv]) := by
    intro ty hrt hty xv h' H locs ls pc hn hQ g1 g2 g3 g4 hdg
    rw [h00, h01]
    refine W.widen (k := 1) (n := 6) (by omega) (by omega) (vx_ret ?_)
    refine W.zret hx hb (hr.trans hrt) hn (fun t ht hW => ?_) g3.2.2 hdg (hlocks := hlocks)
    unfold am_Post
    rw [hrk]
    exact ⟨⟨xv, h', rfl, hQ, bk h' H locs t g1 g2 g3 g4 ht hW⟩, g3.F ht⟩
  have h9 : ∀ {u : Nat × Nat} {L : am_L} {st : List Value} {h' : am_H} {cs : List am_W} {pc len i2 i3 i4 k : Nat}, am_okR 119 (pc, .invokestatic k, len, 905, i2, i3, i4) = true → False := by
    intro u L st h' cs pc len i2 i3 i4 k hok
    simp only [am_okR, am_okI, Bool.and_eq_true, decide_eq_true_eq, Nat.beq_eq] at hok
    obtain ⟨-, -, hok⟩ := hok
    have e1 : Nat.beq 905 901 = false := rfl
    have e2 : Nat.beq 905 905 = true := rfl
    rw [e1, e2] at hok
    simp only [cond_false, cond_true, Bool.and_eq_true] at hok
    exact am_no905.2 119 hlt (am_no905.1 _ (am_h3_of hok.1) rfl)
  rw [lg_entry_eq]
  have hle := lv_entry (([.ref x, .int a, .int b] : List Value).map (am_t Z)) (n := (am_tb 119).2) (by rw [am_sl_len hnv _ hsv]; show 3 ≤ 3; omega)
  generalize (lg_sl (([.ref x, .int a, .int b] : List Value).map (am_t Z)) ++ List.replicate ((am_tb 119).2 - (lg_sl (([.ref x, .int a, .int b] : List Value).map (am_t Z))).length) Slot.unset).toArray = ls at hle ⊢
  have hLR : am_LR Z (am_tb 119).2 (am_in [.ref x, .int a, .int b] (am_tb 119).2) ls := am_LR_in hnv hsv (by show 3 ≤ 3; omega) hle
  have fin : am_P p l e (headSpec lk_ws (lk_rm (n + 6))).room s m (([.ref x, .int a, .int b] : List Value).map (am_t Z)).toArray below meth c Z 119 (vx_MQ below (am_Post Z h 119 s.heap.size Q) (vx_X (fun _ : Unit => True) (lk_BX Z h s.heap.size K1 K2) (am_Ar Z s.heap.size)) (([.ref x, .int a, .int b] : List Value).map (am_t Z)).toArray s 1 6 (am_Ar Z s.heap.size)) (0, 0) (am_tb 119).1.1 (am_in [.ref x, .int a, .int b] (am_tb 119).2) [] h → W p l e (headSpec lk_ws (lk_rm (n + 6))).room s m (([.ref x, .int a, .int b] : List Value).map (am_t Z)).toArray below meth c s.heap [] 0 0 (vx_MQ below (am_Post Z h 119 s.heap.size Q) (vx_X (fun _ : Unit => True) (lk_BX Z h s.heap.size K1 K2) (am_Ar Z s.heap.size)) (([.ref x, .int a, .int b] : List Value).map (am_t Z)).toArray s 1 6 (am_Ar Z s.heap.size)) (F0 m 0 ls []) := fun k =>
    k ⟨[], rfl⟩ (Nat.zero_le _) (Nat.zero_le _) s.heap [] ls hLR hSt hRO va_S.rf (fun v hv => by cases hv) (fun q => by omega)
  refine fin ?_
  rcases hc with hc | hc
  · have hE : am_g (Nat.ble (am_cat [.ref x, .int a, .int b]) (am_tb 119).2) (am_E (am_D (n + 5)) am_co (am_tb 119).1 Q (0, 0) (am_tb 119).1.1 (am_in [.ref x, .int a, .int b] (am_tb 119).2) [] h) := hc
    exact am_walk (R := (headSpec lk_ws (lk_rm (n + 6))).room) hCx hokM hC hML (by show n + 5 + 1 ≤ n + 6; omega) (by show 64 * (n + 5 + 1) ≤ 64 * (n + 6); omega) (by rw [h00]; exact Nat.zero_le _) (by rw [h01]; exact Nat.zero_le _)
      (fun q => absurd q (by decide +kernel)) hRi (fun q => absurd q (by decide +kernel)) (fun hok => (h9 (u := (0, 0)) (L := []) (st := []) (h' := h) (cs := []) hok).elim) (am_g_of hE).2
  · generalize hqf : vx_MQ below (am_Post Z h 119 s.heap.size Q) (vx_X (fun _ : Unit => True) (lk_BX Z h s.heap.size K1 K2) (am_Ar Z s.heap.size)) (([.ref x, .int a, .int b] : List Value).map (am_t Z)).toArray s 1 6 (am_Ar Z s.heap.size) = QF at hRi ⊢
    have S : ∀ {u : Nat × Nat} {cs : List am_W} {L : am_L} {st : List Value} {h' : am_H}, am_step (am_D (n + 5)) am_co (am_tb 119).1 Q (am_P p l e (headSpec lk_ws (lk_rm (n + 6))).room s m (([.ref x, .int a, .int b] : List Value).map (am_t Z)).toArray below meth c Z 119 QF) u cs L st h' → am_P p l e (headSpec lk_ws (lk_rm (n + 6))).room s m (([.ref x, .int a, .int b] : List Value).map (am_t Z)).toArray below meth c Z 119 QF u cs L st h' := fun hs =>
      am_walk1 (R := (headSpec lk_ws (lk_rm (n + 6))).room) hCx hokM hC hML (by show n + 5 + 1 ≤ n + 6; omega) (by show 64 * (n + 5 + 1) ≤ 64 * (n + 6); omega) (by rw [h00]; exact Nat.zero_le _) (by rw [h01]; exact Nat.zero_le _)
        (fun q => absurd q (by decide +kernel)) hRi (fun q => absurd q (by decide +kernel)) (fun hok => (h9 (u := (0, 0)) (L := []) (st := []) (h' := h) (cs := []) hok).elim) hs
    have nar : ∀ q, am_Ar Z s.heap.size q → am_B Z q := fun q k => by
      rcases k with k | k
      · exact k.1
      · exact Nat.le_trans hZ k
    have thr : ∀ (E : String), ((E = lk_I ∧ K1) ∨ (E = lk_N ∧ K2)) → ∀ (H : Heap) (locs : List Loc), am_St Z h H → va_S (am_Ar Z s.heap.size) s.heap H locs → ∀ t : State, s.vm.Alike t.vm → H.size ≤ t.heap.size → (∀ q : Nat, q < H.size → t.heap[q]? = H[q]?) → vx_X (fun _ : Unit => True) (lk_BX Z h s.heap.size K1 K2) (am_Ar Z s.heap.size) E s t := by
      intro E hE H locs g1 g3 t hal hz hq
      refine ⟨(), trivial, ⟨hE, am_St_grow g1 hz hq, am_RO_move hal (fun q hq9 => ?_) hRO, Nat.le_refl _, fun q => by omega⟩, Nat.le_trans g3.1 hz, fun q q1 q2 => ?_⟩
      · rw [hq q (by have := g3.1; omega)]
        exact am_low g3 hZ hq9
      · rw [hq q (Nat.lt_of_lt_of_le q1 g3.1)]
        exact g3.2.1 q q1 q2
    have t8 : K1 → am_P p l e (headSpec lk_ws (lk_rm (n + 6))).room s m (([.ref x, .int a, .int b] : List Value).map (am_t Z)).toArray below meth c Z 119 QF (0, 0) (am_p119.drop 4) (am_in [.ref x, .int a, .int b] (am_tb 119).2) [] h := by
      intro k
      show _ → _ → _ → am_G p l e (headSpec lk_ws (lk_rm (n + 6))).room s m (([.ref x, .int a, .int b] : List Value).map (am_t Z)).toArray below meth c Z 119 QF (0, 0) (am_in [.ref x, .int a, .int b] (am_tb 119).2) [] h 8
      intro _ _ _ H locs ls2 g1 g2 g3 g4 g5 g6
      subst hqf
      exact lk_throw (rest := []) (cc := am_bc 119) (pc := 8) hx hb hl (own := "SleepPost") (cls := lk_I) (Y := lk_R) (text := "no such sleeper") (names := [lk_X]) (ik := 126) (is := 128) (ic := 130) (ix := 7) (sa := sa1) (rx := Bundle.six) (A := am_Ar Z s.heap.size) hown (by decide +kernel) (by decide +kernel) (by decide +kernel)
        (by decide +kernel) (by decide +kernel) (by decide +kernel) (by decide +kernel) (htG _ (List.mem_append_left _ (by simp [lk_W0]))) (htG _ (List.mem_append_left _ (by simp [lk_W0]))) hV.2.2.1
        (vx_hat (fun w hw => htG w (List.mem_append_right _ (List.mem_append_left _ hw))) lk_B1 (lk_B3 hV)) lk_o1 (hH.1.narrow nar) (hH.2.narrow nar) g4 (g1.2.1.trans hml.symm)
        (by decide +kernel) (by decide +kernel) (by decide +kernel) (by decide +kernel) (by decide +kernel) (fun y hy => (htab y hy).elim) (by show 1 + 4 < n + 6; omega) (by show 0 + (13 * (1 + 2) + 43) ≤ 64 * (n + 6); omega) (by show 0 + 1 ≤ 1; omega) (by show 0 + 6 ≤ 6; omega) hlocks
        (thr lk_I (Or.inl ⟨rfl, k⟩) H locs g2 g4) g4.2.2 (Nat.le_refl _) (Nat.le_refl _)
    have t118 : K2 → am_P p l e (headSpec lk_ws (lk_rm (n + 6))).room s m (([.ref x, .int a, .int b] : List Value).map (am_t Z)).toArray below meth c Z 119 QF (0, 0) (am_p119.drop 49) (am_in [.ref x, .int a, .int b] (am_tb 119).2) [] h := by
      intro k
      show _ → _ → _ → am_G p l e (headSpec lk_ws (lk_rm (n + 6))).room s m (([.ref x, .int a, .int b] : List Value).map (am_t Z)).toArray below meth c Z 119 QF (0, 0) (am_in [.ref x, .int a, .int b] (am_tb 119).2) [] h 118
      intro _ _ _ H locs ls2 g1 g2 g3 g4 g5 g6
      subst hqf
      exact lk_throw (rest := []) (cc := am_bc 119) (pc := 118) hx hb hl (own := "SleepPost") (cls := lk_N) (Y := lk_R) (text := "no such what") (names := [lk_X]) (ik := 151) (is := 153) (ic := 155) (ix := 13) (sa := sa2) (rx := lk_r13) (A := am_Ar Z s.heap.size) hown (by decide +kernel) (by decide +kernel) (by decide +kernel)
        (by decide +kernel) (by decide +kernel) (by decide +kernel) (by decide +kernel) (htG _ (List.mem_append_left _ (by simp [lk_W0]))) (htG _ (List.mem_append_left _ (by simp [lk_W0]))) hV.2.2.2
        (vx_hat (fun w hw => htG w (List.mem_append_right _ (List.mem_append_right _ hw))) lk_B2 (lk_B3 hV)) lk_o2 (hH.1.narrow nar) (hH.2.narrow nar) g4 (g1.2.1.trans hml.symm)
        (by decide +kernel) (by decide +kernel) (by decide +kernel) (by decide +kernel) (by decide +kernel) (fun y hy => (htab y hy).elim) (by show 1 + 4 < n + 6; omega) (by show 0 + (13 * (1 + 2) + 43) ≤ 64 * (n + 6); omega) (by show 0 + 1 ≤ 1; omega) (by show 0 + 6 ≤ 6; omega) hlocks
        (thr lk_N (Or.inr ⟨rfl, k⟩) H locs g2 g4) g4.2.2 (Nat.le_refl _) (Nat.le_refl _)
    refine S ?_
    show am_P p l e _ s m _ below meth c Z 119 QF (0, 0) (am_p119.drop 1) (am_in [.ref x, .int a, .int b] (am_tb 119).2) [.ref x] h
    refine S ?_
    show am_P p l e _ s m _ below meth c Z 119 QF (0, 0) (am_p119.drop 2) (am_in [.ref x, .int a, .int b] (am_tb 119).2) [.int a, .ref x] h
    refine S ?_
    show am_g (Nat.beq (am_kd h x) 21 && _) (am_D (n + 5) 152 [.ref x, .int a] h (fun v h' => am_rv 1 v [] (fun st => am_P p l e (headSpec lk_ws (lk_rm (n + 6))).room s m (([.ref x, .int a, .int b] : List Value).map (am_t Z)).toArray below meth c Z 119 QF (0, 0) (am_p119.drop 3) (am_in [.ref x, .int a, .int b] (am_tb 119).2) st h')))
    refine am_g_in (by rw [hkd]; rfl) ?_
    refine lk_is (k := n + 4) hkd hkd2 (fun ok => ?_) (fun nok => ?_)
    · rcases hc with ⟨c1, -⟩ | ⟨-, c2, k2⟩
      · exact absurd ok c1
      · show am_P p l e _ s m _ below meth c Z 119 QF (0, 0) (am_p119.drop 3) _ [.int 1] h
        refine S ?_
        show am_P p l e _ s m _ below meth c Z 119 QF (0, 0) (am_p119.drop 9) (am_in [.ref x, .int a, .int b] (am_tb 119).2) [] h
        refine S ?_
        show am_P p l e _ s m _ below meth c Z 119 QF (0, 0) (am_p119.drop 10) (am_in [.ref x, .int a, .int b] (am_tb 119).2) [.int b] h
        refine S ?_
        have hb9 : ∀ j : Int, (decide ((0 : Int32) ≤ Int32.ofInt j) && decide (Int32.ofInt j ≤ 5)) = true → b ≠ Int32.ofInt j := fun j hj q => c2 (by rw [q]; exact hj)
        have sw := am_lk_sw (K := fun t => am_P p l e (headSpec lk_ws (lk_rm (n + 6))).room s m (([.ref x, .int a, .int b] : List Value).map (am_t Z)).toArray below meth c Z 119 QF (0, 0) (am_seek (am_tb 119).1.1 t) (am_in [.ref x, .int a, .int b] (am_tb 119).2) [] h) (D := 118) (x := b) (pc := 19) [37, 47, 57, 67, 77, 89] 0 (fun j hj => by
          have : j = 0 ∨ j = 1 ∨ j = 2 ∨ j = 3 ∨ j = 4 ∨ j = 5 := by simp at hj; omega
          rcases this with rfl | rfl | rfl | rfl | rfl | rfl <;> exact hb9 _ (by decide +kernel)) (t118 k2)
        exact sw
    · rcases hc with ⟨-, k1⟩ | ⟨c1, -⟩
      · show am_P p l e _ s m _ below meth c Z 119 QF (0, 0) (am_p119.drop 3) _ [.int 0] h
        refine S ?_
        show am_P p l e _ s m _ below meth c Z 119 QF (0, 0) (am_p119.drop 4) (am_in [.ref x, .int a, .int b] (am_tb 119).2) [] h
        exact t8 k1
      · exact absurd c1 nok
end LK
