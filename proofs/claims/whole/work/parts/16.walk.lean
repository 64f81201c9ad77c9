/-! ===== the walk as a whole; every call by its depth ===== -/
section AMX
variable {p : Program} {l : Launch} {e : Env} {R : Room} {s : State} {m : MethodId} {args : Array Value} {below : List Frame} {meth : Method} {c : Code}
set_option maxHeartbeats 4000000 in
set_option maxRecDepth 100000 in
theorem am_walk {Z : am_Z} {mid d : Nat} {Q : Value → am_H → Prop} {QF : State → Prop} {Ts : List Cond} (hCx : am_Cx p s m args meth c Z mid Ts) (hokM : am_okM mid = true) (hC : am_CallOK l Z d) (hML : ∀ m, m < am_law → (am_tb m).2 ≤ 40) (hRf : d + 1 ≤ R.frames) (hRl : 64 * (d + 1) ≤ R.locals) (hRc : (am_tb mid).1.2.2.1 ≤ R.cells) (hRs : (am_tb mid).1.2.2.2 ≤ R.slots)
    (hRv : am_rt mid = none → ∀ (h : am_H) (H : Heap) (locs : List Loc) (ls : Array Slot) (pc : Nat), Q .null h → am_St Z h H → am_RO Z h s s.heap → va_S (am_Ar Z s.heap.size) s.heap H locs → (h.1 < 140 → s.heap.size + (am_tb mid).1.2.2.1 = Z.1 + h.1) → decode (am_bc mid) pc = .ok (.return_, 1) → W p l e R s m args below meth c H locs (am_tb mid).1.2.2.1 (am_tb mid).1.2.2.2 QF (F0 m pc ls []))
    (hRi : ∀ (ty : FieldType), am_rt mid = some ty → (ty = .int ∨ ty = .boolean ∨ ty = .char ∨ ty = .byte) → ∀ (x : Int32) (h : am_H) (H : Heap) (locs : List Loc) (ls : Array Slot) (pc : Nat), narrow ty (.int x) = .int x → Q (.int x) h → am_St Z h H → am_RO Z h s s.heap → va_S (am_Ar Z s.heap.size) s.heap H locs → (h.1 < 140 → s.heap.size + (am_tb mid).1.2.2.1 = Z.1 + h.1) → decode (am_bc mid) pc = .ok (.ireturn, 1) → W p l e R s m args below meth c H locs (am_tb mid).1.2.2.1 (am_tb mid).1.2.2.2 QF (F0 m pc ls [.int x]))
    (hRg : am_rt mid = some .long → ∀ (x : Int64) (h : am_H) (H : Heap) (locs : List Loc) (ls : Array Slot) (pc : Nat), Q (.long x) h → am_St Z h H → am_RO Z h s s.heap → va_S (am_Ar Z s.heap.size) s.heap H locs → (h.1 < 140 → s.heap.size + (am_tb mid).1.2.2.1 = Z.1 + h.1) → decode (am_bc mid) pc = .ok (.lreturn, 1) → W p l e R s m args below meth c H locs (am_tb mid).1.2.2.1 (am_tb mid).1.2.2.2 QF (F0 m pc ls [.long x]))
    (h905 : ∀ {u : Nat × Nat} {L : am_L} {st : List Value} {h : am_H} {cs : List am_W} {pc len i2 i3 i4 k : Nat}, am_okR mid (pc, .invokestatic k, len, 905, i2, i3, i4) = true → am_seqT p l e R s m args below meth c Z mid QF cs (pc + len) → am_step (am_D d) am_co (am_tb mid).1 Q (am_P p l e R s m args below meth c Z mid QF) u ((pc, .invokestatic k, len, 905, i2, i3, i4) :: cs) L st h → am_G p l e R s m args below meth c Z mid QF u L st h pc)
    {u : Nat × Nat} {cs : List am_W} {L : am_L} {st : List Value} {h : am_H} (hE : am_E (am_D d) am_co (am_tb mid).1 Q u cs L st h) : am_P p l e R s m args below meth c Z mid QF u cs L st h := by
  refine hE (am_P p l e R s m args below meth c Z mid QF) ?_
  clear hE u cs L st h
  intro u cs L st h hs
  unfold am_okM at hokM
  simp only [Bool.and_eq_true] at hokM
  obtain ⟨hall, hch, -⟩ := hokM
  cases cs with
  | nil => exact hs.elim
  | cons row cs =>
    obtain ⟨pc, ins, len, i1, i2, i3, i4⟩ := row
    rintro ⟨pre, hpre⟩ hu1 hu2
    have hok : am_okR mid (pc, ins, len, i1, i2, i3, i4) = true := List.all_eq_true.mp hall _ (by rw [hpre]; exact List.mem_append_right _ List.mem_cons_self)
    have seq : am_seqT p l e R s m args below meth c Z mid QF cs (pc + len) := by
      intro u' L' st' h' k a b
      cases cs with
      | nil => exact k.elim
      | cons q rs =>
        have hq := am_ch_of pre (pc, ins, len, i1, i2, i3, i4) q rs (by rw [← hpre]; exact hch)
        have := k ⟨pre ++ [(pc, ins, len, i1, i2, i3, i4)], by rw [hpre]; simp⟩ a b
        rw [← hq] at this
        exact this
    have jmp : ∀ t : Nat, am_seqT p l e R s m args below meth c Z mid QF (am_seek (am_tb mid).1.1 t) t := by
      intro t u' L' st' h' k a b
      cases hsk : am_seek (am_tb mid).1.1 t with
      | nil => rw [hsk] at k; exact k.elim
      | cons q rs =>
        obtain ⟨e1, e2⟩ := am_seek_of _ _ _ _ hsk
        rw [hsk] at k
        have := k e2 a b
        rw [e1] at this
        exact this
    refine am_w1 (d := d) hCx hok seq (fun t => jmp t) hu1 hu2 hs (fun hm => ?_)
    cases ins with
    | getfield k => exact am_w_get hCx hok seq hu1 hu2 hs
    | putfield k => exact am_w_put hCx hok seq hu1 hu2 hs
    | getstatic k => exact am_w_gets hCx hok seq hu1 hu2 hs
    | iaload => exact am_w_iald hCx hok seq hu1 hu2 hs
    | baload => exact am_w_bald hCx hok seq hu1 hu2 hs
    | laload => exact am_w_lald hCx hok seq hu1 hu2 hs
    | iastore => exact am_w_iast hCx hok seq hu1 hu2 hs
    | bastore => exact am_w_bast hCx hok seq hu1 hu2 hs
    | lastore => exact am_w_last hCx hok seq hu1 hu2 hs
    | arraylength => exact am_w_alen hCx hok seq hu1 hu2 hs
    | newarray t => exact am_w_newa hCx hok hRc hRs seq hs
    | new k => exact am_w_new hCx hok hRc hRs seq hs
    | invokestatic k => exact am_w_istat hCx hC hML hRf hRl hRc hRs hok seq hu1 hu2 hs (fun e9 => by subst e9; exact h905 hok seq hs)
    | invokevirtual k => exact am_w_ivirt hCx hC hML hRf hRl hRc hRs hok seq hs
    | invokespecial k => exact am_w_ispec hCx hC hML hRf hRl hRc hRs hok seq hs
    | tableswitch a b c e => exact am_w_tsw hCx hok jmp hu1 hu2 hs
    | lookupswitch a b => exact am_w_lsw hCx hok jmp hu1 hu2 hs
    | ldc k => exact am_w_ldc hCx hok seq hu1 hu2 hs
    | return_ =>
      simp only [am_okR, am_okI, Bool.and_eq_true, decide_eq_true_eq, Nat.beq_eq] at hok
      obtain ⟨hdg, rfl, hrt⟩ := hok
      dsimp only [am_step] at hs
      split at hs
      · obtain ⟨hg, hQ⟩ := am_g_of hs
        intro H locs ls h1 h2 h3 h4 h5 h6
        refine W.widen hu1 hu2 (hRv hrt h H locs ls pc hQ h2 h3 h4 (fun hl => ?_) hdg)
        rcases am_orb hg with q | q
        · rw [← am_beq q]; exact h6 hl
        · have := Nat.le_of_ble_eq_true q; omega
      · exact hs.elim
    | lreturn =>
      simp only [am_okR, am_okI, Bool.and_eq_true, decide_eq_true_eq, Nat.beq_eq] at hok
      obtain ⟨hdg, rfl, hrt⟩ := hok
      dsimp only [am_step] at hs
      split at hs
      · next x =>
        obtain ⟨hg, hQ⟩ := am_g_of hs
        intro H locs ls h1 h2 h3 h4 h5 h6
        refine W.widen hu1 hu2 (hRg hrt x h H locs ls pc hQ h2 h3 h4 (fun hl => ?_) hdg)
        rcases am_orb hg with q | q
        · rw [← am_beq q]; exact h6 hl
        · have := Nat.le_of_ble_eq_true q; omega
      · exact hs.elim
    | ireturn =>
      simp only [am_okR, am_okI, Bool.and_eq_true, decide_eq_true_eq, Nat.beq_eq] at hok
      obtain ⟨hdg, rfl, hrt⟩ := hok
      dsimp only [am_step] at hs
      split at hs
      · next x =>
        obtain ⟨hg, hQ⟩ := am_g_of hs
        intro H locs ls h1 h2 h3 h4 h5 h6
        have hsz : h.1 < 140 → s.heap.size + (am_tb mid).1.2.2.1 = Z.1 + h.1 := fun hl => by
          rcases am_orb hg with q | q
          · rw [← am_beq q]; exact h6 hl
          · have := Nat.le_of_ble_eq_true q; omega
        have fin : ∀ ty, am_rt mid = some ty → (ty = .int ∨ ty = .boolean ∨ ty = .char ∨ ty = .byte) → narrow ty (.int x) = .int x → Q (.int x) h → W p l e R s m args below meth c H locs u.1 u.2 QF (F0 m pc ls ([Value.int x].map (am_t Z))) := fun ty e1 e2 e3 e4 => W.widen hu1 hu2 (hRi ty e1 e2 x h H locs ls pc e3 e4 h2 h3 h4 hsz hdg)
        generalize (am_tb mid).1.2.1 = rk at hQ hrt
        split at hQ
        · exact fin .int (by simpa using hrt) (Or.inl rfl) rfl hQ
        · obtain ⟨hb, hQ⟩ := am_g_of hQ
          have hb : x = 0 ∨ x = 1 := by simpa [am_bool] using hb
          exact fin .boolean (by simpa using hrt) (Or.inr (Or.inl rfl)) (by rcases hb with rfl | rfl <;> rfl) hQ
        · obtain ⟨hb, hQ⟩ := am_g_of hQ
          have hb : (x.toUInt32 % 65536).toInt32 = x := by simpa using hb
          exact fin .char (by simpa using hrt) (Or.inr (Or.inr (Or.inl rfl))) (by rw [← hb]; exact pk_nc x) hQ
        · obtain ⟨hb, hQ⟩ := am_g_of hQ
          have hb : x.toInt8.toInt32 = x := by simpa using hb
          exact fin .byte (by simpa using hrt) (Or.inr (Or.inr (Or.inr rfl))) (by rw [← hb]; exact pk_nb x) hQ
        · exact hQ.elim
      · exact hs.elim
    | _ => exact hm.elim
/-! the entry -/
theorem am_in_len : ∀ (As : List Value) (n : Nat), am_svs As → am_cat As ≤ n → (am_in As n).length = n
  | [], n, _, _ => by simp [am_in]
  | v :: As, n, hv, hc => by
    have hs := hv v List.mem_cons_self
    cases v with
    | long x =>
      simp only [am_cat] at hc
      obtain ⟨k, rfl⟩ : ∃ k, n = k + 2 := ⟨n - 2, by omega⟩
      simp [am_in, am_in_len As k (am_sd hv) (by omega)]
    | int x =>
      simp only [am_cat] at hc
      obtain ⟨k, rfl⟩ : ∃ k, n = k + 1 := ⟨n - 1, by omega⟩
      simp [am_in, am_in_len As k (am_sd hv) (by omega)]
    | ref x =>
      simp only [am_cat] at hc
      obtain ⟨k, rfl⟩ : ∃ k, n = k + 1 := ⟨n - 1, by omega⟩
      simp [am_in, am_in_len As k (am_sd hv) (by omega)]
    | _ => cases hs
theorem am_get_nil (n i : Nat) : am_get (List.replicate n none) i = none := by
  induction n generalizing i with
  | zero => rfl
  | succ n ih =>
    cases i with
    | zero => rfl
    | succ i => exact ih i
theorem am_in_args {Z : am_Z} (hnv : Z.2.2.1.category = 1) : ∀ (As : List Value) (n b i : Nat) (v : Value), am_svs As → am_cat As ≤ n → am_get (am_in As n) i = some v → am_sv v = true ∧ (b + i, am_t Z v) ∈ lv_args b (As.map (am_t Z))
  | [], n, b, i, v, _, _, hg => by rw [am_in, am_get_nil] at hg; cases hg
  | w :: As, n, b, i, v, hv, hc, hg => by
    have hs := hv w List.mem_cons_self
    have hcw := am_t_cat hnv hs
    cases w with
    | long x =>
      simp only [am_cat] at hc
      obtain ⟨k, rfl⟩ : ∃ k, n = k + 2 := ⟨n - 2, by omega⟩
      have hc2 : (am_t Z (.long x)).category = 2 := hcw
      simp only [List.map_cons, lv_args, hc2, if_true]
      match i with
      | 0 => cases hg; exact ⟨rfl, List.mem_cons_self⟩
      | 1 => cases hg
      | i + 2 =>
        obtain ⟨g1, g2⟩ := am_in_args hnv As k (b + 2) i v (am_sd hv) (by omega) hg
        exact ⟨g1, List.mem_cons_of_mem _ (by rw [show b + (i + 2) = b + 2 + i by omega]; exact g2)⟩
    | int x =>
      simp only [am_cat] at hc
      obtain ⟨k, rfl⟩ : ∃ k, n = k + 1 := ⟨n - 1, by omega⟩
      have hc2 : ¬ (am_t Z (.int x)).category = 2 := fun q => by rw [hcw] at q; cases q
      simp only [List.map_cons, lv_args, hc2, if_false]
      match i with
      | 0 => cases hg; exact ⟨rfl, List.mem_cons_self⟩
      | i + 1 =>
        obtain ⟨g1, g2⟩ := am_in_args hnv As k (b + 1) i v (am_sd hv) (by omega) hg
        exact ⟨g1, List.mem_cons_of_mem _ (by rw [show b + (i + 1) = b + 1 + i by omega]; exact g2)⟩
    | ref x =>
      simp only [am_cat] at hc
      obtain ⟨k, rfl⟩ : ∃ k, n = k + 1 := ⟨n - 1, by omega⟩
      have hc2 : ¬ (am_t Z (.ref x)).category = 2 := fun q => by rw [hcw] at q; cases q
      simp only [List.map_cons, lv_args, hc2, if_false]
      match i with
      | 0 => cases hg; exact ⟨rfl, List.mem_cons_self⟩
      | i + 1 =>
        obtain ⟨g1, g2⟩ := am_in_args hnv As k (b + 1) i v (am_sd hv) (by omega) hg
        exact ⟨g1, List.mem_cons_of_mem _ (by rw [show b + (i + 1) = b + 1 + i by omega]; exact g2)⟩
    | _ => cases hs
theorem am_sl_len {Z : am_Z} (hnv : Z.2.2.1.category = 1) : ∀ As : List Value, am_svs As → (lg_sl (As.map (am_t Z))).length = am_cat As
  | [], _ => rfl
  | v :: As, hv => by
    have hs := hv v List.mem_cons_self
    have hcw := am_t_cat hnv hs
    have ih := am_sl_len hnv As (am_sd hv)
    cases v with
    | long x =>
      have : lg_sl ((Value.long x :: As).map (am_t Z)) = .val (.long x) :: .second :: lg_sl (As.map (am_t Z)) := by simp [lg_sl, am_t, Value.category]
      rw [this]; simp [am_cat, ih]; omega
    | int x =>
      have : lg_sl ((Value.int x :: As).map (am_t Z)) = .val (.int x) :: lg_sl (As.map (am_t Z)) := by simp [lg_sl, am_t, Value.category]
      rw [this]; simp [am_cat, ih]; omega
    | ref x =>
      have hc1 : (am_t Z (.ref x)).category = 1 := hcw
      have : lg_sl ((Value.ref x :: As).map (am_t Z)) = .val (am_t Z (.ref x)) :: lg_sl (As.map (am_t Z)) := by simp [lg_sl, hc1]
      rw [this]; simp [am_cat, ih]; omega
    | _ => cases hs
theorem am_LR_in {Z : am_Z} (hnv : Z.2.2.1.category = 1) {As : List Value} {n : Nat} (hv : am_svs As) (hc : am_cat As ≤ n) {ls : Array Slot} (hl : lv_has ls n (lv_args 0 (As.map (am_t Z)))) : am_LR Z n (am_in As n) ls :=
  ⟨am_in_len As n hv hc, hl.1, hl.2.1, fun i v hg => by
    obtain ⟨g1, g2⟩ := am_in_args hnv As n 0 i v hv hc hg
    rw [Nat.zero_add] at g2
    exact ⟨g1, hl.2.2 _ g2⟩⟩
end AMX
