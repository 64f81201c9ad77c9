/-! ===== the walk ===== -/
section AMW
variable {p : Program} {l : Launch} {e : Env} {R : Room} {s : State} {m : MethodId} {args : Array Value} {below : List Frame} {meth : Method} {c : Code}
def am_Cx (p : Program) (s : State) (m : MethodId) (args : Array Value) (meth : Method) (c : Code) (Z : am_Z) (mid : Nat) (Ts : List Cond) : Prop :=
  p.tables.exec = Jvm.exec ∧ c.code = am_bc mid ∧ c.maxLocals = (am_tb mid).2 ∧ s.vm.findClass (am_on (am_ow mid)) = some m.cls ∧ (∀ w ∈ Ts, w.before args s = true) ∧ GoodIn Ts am_AT ∧
  meth.sig.returnType = am_rt mid ∧ ((am_y mid).name = "<init>" → meth.name = "<init>") ∧ am_US Z s ∧ Z.1 ≤ s.heap.size ∧ (Z.2.2.1 = .null ∨ ∃ a, Z.2.2.1 = .ref a)
def am_svs (st : List Value) : Prop := ∀ v ∈ st, am_sv v = true
def am_G (p : Program) (l : Launch) (e : Env) (R : Room) (s : State) (m : MethodId) (args : Array Value) (below : List Frame) (meth : Method) (c : Code) (Z : am_Z) (mid : Nat) (QF : State → Prop) (u : Nat × Nat) (L : am_L) (st : List Value) (h : am_H) (pc : Nat) : Prop :=
  ∀ (H : Heap) (locs : List Loc) (ls : Array Slot), am_LR Z (am_tb mid).2 L ls → am_St Z h H → am_RO Z h s s.heap → va_S (am_Ar Z s.heap.size) s.heap H locs → am_svs st → (h.1 < 140 → s.heap.size + u.1 = Z.1 + h.1) → W p l e R s m args below meth c H locs u.1 u.2 QF (F0 m pc ls (st.map (am_t Z)))
def am_P (p : Program) (l : Launch) (e : Env) (R : Room) (s : State) (m : MethodId) (args : Array Value) (below : List Frame) (meth : Method) (c : Code) (Z : am_Z) (mid : Nat) (QF : State → Prop) : am_S := fun u cs L st h => match cs with
  | [] => False
  | r :: rs => (∃ pre, (am_tb mid).1.1 = pre ++ (r :: rs)) → u.1 ≤ (am_tb mid).1.2.2.1 → u.2 ≤ (am_tb mid).1.2.2.2 → am_G p l e R s m args below meth c Z mid QF u L st h r.1
/-- what a call gives: by its depth -/
def am_wds (mid : Nat) : List Cond := .code (am_y mid) (am_bc mid) (am_tb mid).2 (am_rt mid) :: am_AT
def am_rm (d mid : Nat) : Room := { frames := d, cells := (am_co mid).1, slots := (am_co mid).2, locals := 64 * d }
def am_Pre (Z : am_Z) (h : am_H) (sz : Nat) (As : List Value) : Array Value → State → Prop := va_Pc (As.map (am_t Z)) (fun U => U.heap.size = sz ∧ am_St Z h U.heap ∧ am_US Z U ∧ am_RO Z h U U.heap ∧ Z.1 ≤ sz ∧ (h.1 < 140 → sz = Z.1 + h.1) ∧ am_svs As)
def am_Bk (Z : am_Z) (h : am_H) (mid sz : Nat) (h' : am_H) (t : State) : Prop := am_St Z h' t.heap ∧ am_RO Z h' t t.heap ∧ h.1 ≤ h'.1 ∧ (h'.1 < 140 → sz + (am_co mid).1 = Z.1 + h'.1)
def am_Post (Z : am_Z) (h : am_H) (mid sz : Nat) (Q : Value → am_H → Prop) : Array Value → State → Outcome → State → Prop := match am_rkc mid with
  | 0 => va_Qv (fun h' : am_H => Q .null h') (am_Bk Z h mid sz) (am_Ar Z sz)
  | 2 => va_Ql (fun (x : Int64) (h' : am_H) => Q (.long x) h') (am_Bk Z h mid sz) (am_Ar Z sz)
  | _ => va_Qi (fun (x : Int32) (h' : am_H) => Q (.int x) h') (am_Bk Z h mid sz) (am_Ar Z sz)
def am_CallOK (l : Launch) (Z : am_Z) (d : Nat) : Prop := ∀ mid, mid < am_law → ∀ As h Q, am_D d mid As h Q → ∀ sz, Met l (am_y mid) (am_wds mid) (am_rm d mid) (am_Pre Z h sz As) (am_Post Z h mid sz Q) (am_co mid).1 (am_co mid).2 (am_Ar Z sz)
theorem am_tr_cases (Z : am_Z) (hr : Z.2.2.1 = .null ∨ ∃ a, Z.2.2.1 = .ref a) (k : Nat) : am_tr Z k = .null ∨ ∃ a, am_tr Z k = .ref a := by
  unfold am_tr
  split
  · exact Or.inl rfl
  · split
    · exact hr
    · exact Or.inr ⟨_, rfl⟩
theorem am_blt {a b : Nat} (h : Nat.blt a b = true) : a < b := Nat.le_of_ble_eq_true h
theorem am_sizeW {H : Heap} {locs : List Loc} {cells slots : Nat} {Q : State → Prop} {g : JFrame} (k : H.size ≤ s.heap.size + cells → W p l e R s m args below meth c H locs cells slots Q g) : W p l e R s m args below meth c H locs cells slots Q g := by
  intro T hT X
  exact k (by have := X.same.2.2.1; rw [← hT]; exact this) T hT X
theorem am_Pre_blind (Z : am_Z) (h : am_H) (sz : Nat) (As : List Value) : FrameBlind (am_Pre Z h sz As) := by
  intro a U g mk q
  obtain ⟨q0, q1, q2, q3, q4, q5⟩ := q
  exact ⟨q0, q1, q2, ⟨va_K.moved (u := U) (U := U.calling g mk a) (Vm.Alike.refl U.vm) q3.1, fun x hx => va_Nw.same rfl rfl (q3.2.1 x hx), fun x hx => (q3.2.2 x hx).imp fun _ k => k.same rfl⟩, am_RO_move (u := U) (U := U.calling g mk a) (Vm.Alike.refl U.vm) (fun _ _ => rfl) q4, q5⟩
theorem am_sc {v : Value} {st : List Value} (h : am_sv v = true) (k : am_svs st) : am_svs (v :: st) := by
  intro w hw
  rcases List.mem_cons.mp hw with e | e
  · rw [e]; exact h
  · exact k w e
theorem am_sd {v : Value} {st : List Value} (k : am_svs (v :: st)) : am_svs st := fun w hw => k w (List.mem_cons_of_mem _ hw)
theorem am_one_cat {Z : am_Z} (hnv : Z.2.2.1.category = 1) {v : Value} (h : am_one v = true) : (am_t Z v).category = 1 := by
  have hs : am_sv v = true := by cases v <;> first | rfl | cases h
  rw [am_t_cat hnv hs]
  cases v <;> first | rfl | cases h
set_option maxHeartbeats 4000000 in
set_option maxRecDepth 100000 in
/-- the rows that touch neither heap nor calls -/
theorem am_w1 {Z : am_Z} {mid d : Nat} {Q : Value → am_H → Prop} {QF : State → Prop} {Ts : List Cond} (hCx : am_Cx p s m args meth c Z mid Ts) {u : Nat × Nat} {L : am_L} {st : List Value} {h : am_H} {cs : List am_W} {pc len i1 i2 i3 i4 : Nat} {ins : Instr} (hok : am_okR mid (pc, ins, len, i1, i2, i3, i4) = true)
    (seq : ∀ {u' : Nat × Nat} {L' : am_L} {st' : List Value} {h' : am_H}, am_P p l e R s m args below meth c Z mid QF u' cs L' st' h' → u'.1 ≤ (am_tb mid).1.2.2.1 → u'.2 ≤ (am_tb mid).1.2.2.2 → am_G p l e R s m args below meth c Z mid QF u' L' st' h' (pc + len))
    (jmp : ∀ {u' : Nat × Nat} {L' : am_L} {st' : List Value} {h' : am_H} (t : Nat), am_P p l e R s m args below meth c Z mid QF u' (am_seek (am_tb mid).1.1 t) L' st' h' → u'.1 ≤ (am_tb mid).1.2.2.1 → u'.2 ≤ (am_tb mid).1.2.2.2 → am_G p l e R s m args below meth c Z mid QF u' L' st' h' t)
    (hu1 : u.1 ≤ (am_tb mid).1.2.2.1) (hu2 : u.2 ≤ (am_tb mid).1.2.2.2) (hs : am_step (am_D d) am_co (am_tb mid).1 Q (am_P p l e R s m args below meth c Z mid QF) u ((pc, ins, len, i1, i2, i3, i4) :: cs) L st h)
    (other : (match ins with
      | .getfield _ | .putfield _ | .getstatic _ | .iaload | .baload | .laload | .iastore | .bastore | .lastore | .arraylength | .newarray _ | .new _ | .invokestatic _ | .invokevirtual _ | .invokespecial _ | .return_ | .ireturn | .lreturn | .tableswitch _ _ _ _ | .lookupswitch _ _ | .ldc _ => True
      | _ => False) → am_G p l e R s m args below meth c Z mid QF u L st h pc) : am_G p l e R s m args below meth c Z mid QF u L st h pc := by
  obtain ⟨hx, hb, hml, hown, hts, hgd, hrt, hini, hUS, hZs, hnr⟩ := hCx
  have hnv : Z.2.2.1.category = 1 := by rcases hnr with q | ⟨a, q⟩ <;> rw [q] <;> rfl
  have hAT : ∀ w ∈ am_AT, w.before args s = true := fun w hw => hts w (hgd w hw).1
  cases ins with
  | iconst n =>
      simp only [am_okR, am_okI, Bool.and_eq_true, decide_eq_true_eq, Nat.beq_eq] at hok
      obtain ⟨hdg, rfl⟩ := hok
      dsimp only [am_step] at hs
      intro H locs ls h1 h2 h3 h4 h5 h6
      exact lv_iconst hx hb hdg rfl (seq hs hu1 hu2 H locs ls h1 h2 h3 h4 (am_sc rfl h5) h6)
  | lconst n =>
      simp only [am_okR, am_okI, Bool.and_eq_true, decide_eq_true_eq, Nat.beq_eq] at hok
      obtain ⟨hdg, rfl⟩ := hok
      dsimp only [am_step] at hs
      intro H locs ls h1 h2 h3 h4 h5 h6
      exact lv_lconst hx hb hdg rfl (seq hs hu1 hu2 H locs ls h1 h2 h3 h4 (am_sc rfl h5) h6)
  | bipush n =>
      simp only [am_okR, am_okI, Bool.and_eq_true, decide_eq_true_eq, Nat.beq_eq] at hok
      obtain ⟨hdg, rfl, hv⟩ := hok
      dsimp only [am_step] at hs
      intro H locs ls h1 h2 h3 h4 h5 h6
      exact lv_bipush hx hb hdg hv (seq hs hu1 hu2 H locs ls h1 h2 h3 h4 (am_sc rfl h5) h6)
  | sipush n =>
      simp only [am_okR, am_okI, Bool.and_eq_true, decide_eq_true_eq, Nat.beq_eq] at hok
      obtain ⟨hdg, rfl, hv⟩ := hok
      dsimp only [am_step] at hs
      intro H locs ls h1 h2 h3 h4 h5 h6
      exact lv_sipush hx hb hdg hv (seq hs hu1 hu2 H locs ls h1 h2 h3 h4 (am_sc rfl h5) h6)
  | ldc_w k =>
      simp only [am_okR, am_okI, Bool.and_eq_true, decide_eq_true_eq, Nat.beq_eq] at hok
      obtain ⟨hdg, rfl, hk⟩ := hok
      dsimp only [am_step] at hs
      intro H locs ls h1 h2 h3 h4 h5 h6
      exact lv_ldcw hx hb hown (hAT _ (am_in1_kc (am_h3_of hk))) hdg (seq hs hu1 hu2 H locs ls h1 h2 h3 h4 (am_sc rfl h5) h6)
  | ldc2_w k =>
      simp only [am_okR, am_okI, Bool.and_eq_true, decide_eq_true_eq, Nat.beq_eq] at hok
      obtain ⟨hdg, rfl, hk⟩ := hok
      dsimp only [am_step] at hs
      intro H locs ls h1 h2 h3 h4 h5 h6
      exact lv_ldc2 hx hb hown (hAT _ (am_in1_kl (am_h3_of hk))) hdg (seq hs hu1 hu2 H locs ls h1 h2 h3 h4 (am_sc rfl h5) h6)
  | iload_n k =>
      simp only [am_okR, am_okI, Bool.and_eq_true, decide_eq_true_eq, Nat.beq_eq] at hok
      obtain ⟨hdg, rfl⟩ := hok
      dsimp only [am_step] at hs
      split at hs
      · next x hg =>
        intro H locs ls h1 h2 h3 h4 h5 h6
        exact lv_iload_n hx hb hdg rfl (am_LR_at h1 hg) (seq hs hu1 hu2 H locs ls h1 h2 h3 h4 (am_sc rfl h5) h6)
      · exact hs.elim
  | iload k =>
      simp only [am_okR, am_okI, Bool.and_eq_true, decide_eq_true_eq, Nat.beq_eq] at hok
      obtain ⟨hdg, rfl⟩ := hok
      dsimp only [am_step] at hs
      split at hs
      · next x hg =>
        intro H locs ls h1 h2 h3 h4 h5 h6
        exact lv_iload hx hb hdg (am_LR_at h1 hg) (seq hs hu1 hu2 H locs ls h1 h2 h3 h4 (am_sc rfl h5) h6)
      · exact hs.elim
  | lload_n k =>
      simp only [am_okR, am_okI, Bool.and_eq_true, decide_eq_true_eq, Nat.beq_eq] at hok
      obtain ⟨hdg, rfl⟩ := hok
      dsimp only [am_step] at hs
      split at hs
      · next x hg =>
        intro H locs ls h1 h2 h3 h4 h5 h6
        exact lv_lload_n hx hb hdg rfl (am_LR_at h1 hg) (seq hs hu1 hu2 H locs ls h1 h2 h3 h4 (am_sc rfl h5) h6)
      · exact hs.elim
  | lload k =>
      simp only [am_okR, am_okI, Bool.and_eq_true, decide_eq_true_eq, Nat.beq_eq] at hok
      obtain ⟨hdg, rfl⟩ := hok
      dsimp only [am_step] at hs
      split at hs
      · next x hg =>
        intro H locs ls h1 h2 h3 h4 h5 h6
        exact lv_lload hx hb hdg (am_LR_at h1 hg) (seq hs hu1 hu2 H locs ls h1 h2 h3 h4 (am_sc rfl h5) h6)
      · exact hs.elim
  | aload_n k =>
      simp only [am_okR, am_okI, Bool.and_eq_true, decide_eq_true_eq, Nat.beq_eq] at hok
      obtain ⟨hdg, rfl⟩ := hok
      dsimp only [am_step] at hs
      split at hs
      · next x hg =>
        intro H locs ls h1 h2 h3 h4 h5 h6
        have k := seq hs hu1 hu2 H locs ls h1 h2 h3 h4 (am_sc rfl h5) h6
        have ha := am_LR_at h1 hg
        rcases am_tr_cases Z hnr x with ea | ⟨a, ea⟩
        · have ha2 : am_t Z (.ref x) = .null := ea
          rw [ha2] at ha
          simp only [List.map_cons, ha2] at k
          exact lv_aload_nN hx hb hdg rfl ha k
        · have ha2 : am_t Z (.ref x) = .ref a := ea
          rw [ha2] at ha
          simp only [List.map_cons, ha2] at k
          exact lv_aload_n hx hb hdg rfl ha k
      · exact hs.elim
  | aload k =>
      simp only [am_okR, am_okI, Bool.and_eq_true, decide_eq_true_eq, Nat.beq_eq] at hok
      obtain ⟨hdg, rfl⟩ := hok
      dsimp only [am_step] at hs
      split at hs
      · next x hg =>
        intro H locs ls h1 h2 h3 h4 h5 h6
        have k := seq hs hu1 hu2 H locs ls h1 h2 h3 h4 (am_sc rfl h5) h6
        have ha := am_LR_at h1 hg
        rcases am_tr_cases Z hnr x with ea | ⟨a, ea⟩
        · have ha2 : am_t Z (.ref x) = .null := ea
          rw [ha2] at ha
          simp only [List.map_cons, ha2] at k
          exact lv_aloadN hx hb hdg  ha k
        · have ha2 : am_t Z (.ref x) = .ref a := ea
          rw [ha2] at ha
          simp only [List.map_cons, ha2] at k
          exact lv_aload hx hb hdg  ha k
      · exact hs.elim
  | istore_n k =>
      simp only [am_okR, am_okI, Bool.and_eq_true, decide_eq_true_eq, Nat.beq_eq] at hok
      obtain ⟨hdg, rfl, hk⟩ := hok
      dsimp only [am_step] at hs
      obtain ⟨x, r, rfl, hs⟩ := am_i_of hs
      intro H locs ls h1 h2 h3 h4 h5 h6
      have hk := am_blt hk
      exact lv_istore_n hx hb hdg rfl (am_LR_has h1) hk rfl (fun ls' hl => seq hs hu1 hu2 H locs ls' (am_LR_st1 hnv h1 hk rfl hl) h2 h3 h4 (am_sd h5) h6)
  | istore k =>
      simp only [am_okR, am_okI, Bool.and_eq_true, decide_eq_true_eq, Nat.beq_eq] at hok
      obtain ⟨hdg, rfl, hk⟩ := hok
      dsimp only [am_step] at hs
      obtain ⟨x, r, rfl, hs⟩ := am_i_of hs
      intro H locs ls h1 h2 h3 h4 h5 h6
      have hk := am_blt hk
      exact lv_istore hx hb hdg (am_LR_has h1) hk rfl (fun ls' hl => seq hs hu1 hu2 H locs ls' (am_LR_st1 hnv h1 hk rfl hl) h2 h3 h4 (am_sd h5) h6)
  | lstore_n k =>
      simp only [am_okR, am_okI, Bool.and_eq_true, decide_eq_true_eq, Nat.beq_eq] at hok
      obtain ⟨hdg, rfl, hk⟩ := hok
      dsimp only [am_step] at hs
      obtain ⟨x, r, rfl, hs⟩ := am_l_of hs
      intro H locs ls h1 h2 h3 h4 h5 h6
      have hk := am_blt hk
      exact lv_lstore_n hx hb hdg rfl (am_LR_has h1) hk rfl (fun ls' hl => seq hs hu1 hu2 H locs ls' (am_LR_st2 hnv h1 hk rfl hl) h2 h3 h4 (am_sd h5) h6)
  | lstore k =>
      simp only [am_okR, am_okI, Bool.and_eq_true, decide_eq_true_eq, Nat.beq_eq] at hok
      obtain ⟨hdg, rfl, hk⟩ := hok
      dsimp only [am_step] at hs
      obtain ⟨x, r, rfl, hs⟩ := am_l_of hs
      intro H locs ls h1 h2 h3 h4 h5 h6
      have hk := am_blt hk
      exact lv_lstore hx hb hdg (am_LR_has h1) hk rfl (fun ls' hl => seq hs hu1 hu2 H locs ls' (am_LR_st2 hnv h1 hk rfl hl) h2 h3 h4 (am_sd h5) h6)
  | astore_n k =>
      simp only [am_okR, am_okI, Bool.and_eq_true, decide_eq_true_eq, Nat.beq_eq] at hok
      obtain ⟨hdg, rfl, hk⟩ := hok
      dsimp only [am_step] at hs
      obtain ⟨x, r, rfl, hs⟩ := am_r_of hs
      intro H locs ls h1 h2 h3 h4 h5 h6
      have hk := am_blt hk
      rcases am_tr_cases Z hnr x with ea | ⟨a, ea⟩
      · have ha2 : am_t Z (.ref x) = .null := ea
        simp only [List.map_cons, ha2]
        exact lv_astore_nN hx hb hdg rfl (am_LR_has h1) hk rfl (fun ls' hl => seq hs hu1 hu2 H locs ls' (am_LR_st1 hnv h1 hk (v := .ref x) rfl (by rw [ha2]; exact hl)) h2 h3 h4 (am_sd h5) h6)
      · have ha2 : am_t Z (.ref x) = .ref a := ea
        simp only [List.map_cons, ha2]
        exact lv_astore_n hx hb hdg rfl (am_LR_has h1) hk rfl (fun ls' hl => seq hs hu1 hu2 H locs ls' (am_LR_st1 hnv h1 hk (v := .ref x) rfl (by rw [ha2]; exact hl)) h2 h3 h4 (am_sd h5) h6)
  | astore k =>
      simp only [am_okR, am_okI, Bool.and_eq_true, decide_eq_true_eq, Nat.beq_eq] at hok
      obtain ⟨hdg, rfl, hk⟩ := hok
      dsimp only [am_step] at hs
      obtain ⟨x, r, rfl, hs⟩ := am_r_of hs
      intro H locs ls h1 h2 h3 h4 h5 h6
      have hk := am_blt hk
      rcases am_tr_cases Z hnr x with ea | ⟨a, ea⟩
      · have ha2 : am_t Z (.ref x) = .null := ea
        simp only [List.map_cons, ha2]
        exact lv_astoreN hx hb hdg (am_LR_has h1) hk rfl (fun ls' hl => seq hs hu1 hu2 H locs ls' (am_LR_st1 hnv h1 hk (v := .ref x) rfl (by rw [ha2]; exact hl)) h2 h3 h4 (am_sd h5) h6)
      · have ha2 : am_t Z (.ref x) = .ref a := ea
        simp only [List.map_cons, ha2]
        exact lv_astore hx hb hdg (am_LR_has h1) hk rfl (fun ls' hl => seq hs hu1 hu2 H locs ls' (am_LR_st1 hnv h1 hk (v := .ref x) rfl (by rw [ha2]; exact hl)) h2 h3 h4 (am_sd h5) h6)
  | iinc k n =>
      simp only [am_okR, am_okI, Bool.and_eq_true, decide_eq_true_eq, Nat.beq_eq] at hok
      obtain ⟨hdg, rfl, hk⟩ := hok
      dsimp only [am_step] at hs
      split at hs
      · next x hg =>
        intro H locs ls h1 h2 h3 h4 h5 h6
        have hk := am_blt hk
        obtain ⟨q, hq⟩ := List.getElem?_of_mem (am_lv_mem (Z := Z) hg)
        exact lv_iinc hx hb hdg (am_LR_has h1) hq rfl hk rfl (fun ls' hl => seq hs hu1 hu2 H locs ls' (am_LR_st1 hnv h1 hk rfl hl) h2 h3 h4 h5 h6)
      · exact hs.elim
  | iadd =>
      simp only [am_okR, am_okI, Bool.and_eq_true, decide_eq_true_eq, Nat.beq_eq] at hok
      obtain ⟨hdg, rfl⟩ := hok
      dsimp only [am_step] at hs
      obtain ⟨x, y, r, rfl, hs⟩ := am_ii_of hs
      intro H locs ls h1 h2 h3 h4 h5 h6
      exact lv_iadd hx hb hdg (seq hs hu1 hu2 H locs ls h1 h2 h3 h4 (am_sc rfl (am_sd (am_sd h5))) h6)
  | isub =>
      simp only [am_okR, am_okI, Bool.and_eq_true, decide_eq_true_eq, Nat.beq_eq] at hok
      obtain ⟨hdg, rfl⟩ := hok
      dsimp only [am_step] at hs
      obtain ⟨x, y, r, rfl, hs⟩ := am_ii_of hs
      intro H locs ls h1 h2 h3 h4 h5 h6
      exact lv_isub hx hb hdg (seq hs hu1 hu2 H locs ls h1 h2 h3 h4 (am_sc rfl (am_sd (am_sd h5))) h6)
  | imul =>
      simp only [am_okR, am_okI, Bool.and_eq_true, decide_eq_true_eq, Nat.beq_eq] at hok
      obtain ⟨hdg, rfl⟩ := hok
      dsimp only [am_step] at hs
      obtain ⟨x, y, r, rfl, hs⟩ := am_ii_of hs
      intro H locs ls h1 h2 h3 h4 h5 h6
      exact lv_imul hx hb hdg (seq hs hu1 hu2 H locs ls h1 h2 h3 h4 (am_sc rfl (am_sd (am_sd h5))) h6)
  | iand =>
      simp only [am_okR, am_okI, Bool.and_eq_true, decide_eq_true_eq, Nat.beq_eq] at hok
      obtain ⟨hdg, rfl⟩ := hok
      dsimp only [am_step] at hs
      obtain ⟨x, y, r, rfl, hs⟩ := am_ii_of hs
      intro H locs ls h1 h2 h3 h4 h5 h6
      exact lv_iand hx hb hdg (seq hs hu1 hu2 H locs ls h1 h2 h3 h4 (am_sc rfl (am_sd (am_sd h5))) h6)
  | ior =>
      simp only [am_okR, am_okI, Bool.and_eq_true, decide_eq_true_eq, Nat.beq_eq] at hok
      obtain ⟨hdg, rfl⟩ := hok
      dsimp only [am_step] at hs
      obtain ⟨x, y, r, rfl, hs⟩ := am_ii_of hs
      intro H locs ls h1 h2 h3 h4 h5 h6
      exact lv_ior hx hb hdg (seq hs hu1 hu2 H locs ls h1 h2 h3 h4 (am_sc rfl (am_sd (am_sd h5))) h6)
  | ixor =>
      simp only [am_okR, am_okI, Bool.and_eq_true, decide_eq_true_eq, Nat.beq_eq] at hok
      obtain ⟨hdg, rfl⟩ := hok
      dsimp only [am_step] at hs
      obtain ⟨x, y, r, rfl, hs⟩ := am_ii_of hs
      intro H locs ls h1 h2 h3 h4 h5 h6
      exact lv_ixor hx hb hdg (seq hs hu1 hu2 H locs ls h1 h2 h3 h4 (am_sc rfl (am_sd (am_sd h5))) h6)
  | ishl =>
      simp only [am_okR, am_okI, Bool.and_eq_true, decide_eq_true_eq, Nat.beq_eq] at hok
      obtain ⟨hdg, rfl⟩ := hok
      dsimp only [am_step] at hs
      obtain ⟨x, y, r, rfl, hs⟩ := am_ii_of hs
      intro H locs ls h1 h2 h3 h4 h5 h6
      exact lv_ishl hx hb hdg (seq hs hu1 hu2 H locs ls h1 h2 h3 h4 (am_sc rfl (am_sd (am_sd h5))) h6)
  | ishr =>
      simp only [am_okR, am_okI, Bool.and_eq_true, decide_eq_true_eq, Nat.beq_eq] at hok
      obtain ⟨hdg, rfl⟩ := hok
      dsimp only [am_step] at hs
      obtain ⟨x, y, r, rfl, hs⟩ := am_ii_of hs
      intro H locs ls h1 h2 h3 h4 h5 h6
      exact lv_ishr hx hb hdg (seq hs hu1 hu2 H locs ls h1 h2 h3 h4 (am_sc rfl (am_sd (am_sd h5))) h6)
  | iushr =>
      simp only [am_okR, am_okI, Bool.and_eq_true, decide_eq_true_eq, Nat.beq_eq] at hok
      obtain ⟨hdg, rfl⟩ := hok
      dsimp only [am_step] at hs
      obtain ⟨x, y, r, rfl, hs⟩ := am_ii_of hs
      intro H locs ls h1 h2 h3 h4 h5 h6
      exact lv_iushr hx hb hdg rfl (seq hs hu1 hu2 H locs ls h1 h2 h3 h4 (am_sc rfl (am_sd (am_sd h5))) h6)
  | idiv =>
      simp only [am_okR, am_okI, Bool.and_eq_true, decide_eq_true_eq, Nat.beq_eq] at hok
      obtain ⟨hdg, rfl⟩ := hok
      dsimp only [am_step] at hs
      obtain ⟨x, y, r, rfl, hs⟩ := am_ii_of hs
      obtain ⟨hy, hs⟩ := am_g_of hs
      have hy : ¬ y = 0 := by simpa using hy
      intro H locs ls h1 h2 h3 h4 h5 h6
      exact lv_idiv hx hb hdg hy (seq hs hu1 hu2 H locs ls h1 h2 h3 h4 (am_sc rfl (am_sd (am_sd h5))) h6)
  | irem =>
      simp only [am_okR, am_okI, Bool.and_eq_true, decide_eq_true_eq, Nat.beq_eq] at hok
      obtain ⟨hdg, rfl⟩ := hok
      dsimp only [am_step] at hs
      obtain ⟨x, y, r, rfl, hs⟩ := am_ii_of hs
      obtain ⟨hy, hs⟩ := am_g_of hs
      have hy : ¬ y = 0 := by simpa using hy
      intro H locs ls h1 h2 h3 h4 h5 h6
      exact lv_irem hx hb hdg hy (seq hs hu1 hu2 H locs ls h1 h2 h3 h4 (am_sc rfl (am_sd (am_sd h5))) h6)
  | ladd =>
      simp only [am_okR, am_okI, Bool.and_eq_true, decide_eq_true_eq, Nat.beq_eq] at hok
      obtain ⟨hdg, rfl⟩ := hok
      dsimp only [am_step] at hs
      obtain ⟨x, y, r, rfl, hs⟩ := am_ll_of hs
      intro H locs ls h1 h2 h3 h4 h5 h6
      exact lv_ladd hx hb hdg (seq hs hu1 hu2 H locs ls h1 h2 h3 h4 (am_sc rfl (am_sd (am_sd h5))) h6)
  | lsub =>
      simp only [am_okR, am_okI, Bool.and_eq_true, decide_eq_true_eq, Nat.beq_eq] at hok
      obtain ⟨hdg, rfl⟩ := hok
      dsimp only [am_step] at hs
      obtain ⟨x, y, r, rfl, hs⟩ := am_ll_of hs
      intro H locs ls h1 h2 h3 h4 h5 h6
      exact lv_lsub hx hb hdg (seq hs hu1 hu2 H locs ls h1 h2 h3 h4 (am_sc rfl (am_sd (am_sd h5))) h6)
  | lmul =>
      simp only [am_okR, am_okI, Bool.and_eq_true, decide_eq_true_eq, Nat.beq_eq] at hok
      obtain ⟨hdg, rfl⟩ := hok
      dsimp only [am_step] at hs
      obtain ⟨x, y, r, rfl, hs⟩ := am_ll_of hs
      intro H locs ls h1 h2 h3 h4 h5 h6
      exact lv_lmul hx hb hdg (seq hs hu1 hu2 H locs ls h1 h2 h3 h4 (am_sc rfl (am_sd (am_sd h5))) h6)
  | land =>
      simp only [am_okR, am_okI, Bool.and_eq_true, decide_eq_true_eq, Nat.beq_eq] at hok
      obtain ⟨hdg, rfl⟩ := hok
      dsimp only [am_step] at hs
      obtain ⟨x, y, r, rfl, hs⟩ := am_ll_of hs
      intro H locs ls h1 h2 h3 h4 h5 h6
      exact lv_land hx hb hdg (seq hs hu1 hu2 H locs ls h1 h2 h3 h4 (am_sc rfl (am_sd (am_sd h5))) h6)
  | ldiv =>
      simp only [am_okR, am_okI, Bool.and_eq_true, decide_eq_true_eq, Nat.beq_eq] at hok
      obtain ⟨hdg, rfl⟩ := hok
      dsimp only [am_step] at hs
      obtain ⟨x, y, r, rfl, hs⟩ := am_ll_of hs
      obtain ⟨hy, hs⟩ := am_g_of hs
      have hy : ¬ y = 0 := by simpa using hy
      intro H locs ls h1 h2 h3 h4 h5 h6
      exact lv_ldiv hx hb hdg hy (seq hs hu1 hu2 H locs ls h1 h2 h3 h4 (am_sc rfl (am_sd (am_sd h5))) h6)
  | lneg =>
      simp only [am_okR, am_okI, Bool.and_eq_true, decide_eq_true_eq, Nat.beq_eq] at hok
      obtain ⟨hdg, rfl⟩ := hok
      dsimp only [am_step] at hs
      obtain ⟨x, r, rfl, hs⟩ := am_l_of hs
      intro H locs ls h1 h2 h3 h4 h5 h6
      exact lv_lneg hx hb hdg (seq hs hu1 hu2 H locs ls h1 h2 h3 h4 (am_sc rfl (am_sd h5)) h6)
  | lcmp =>
      simp only [am_okR, am_okI, Bool.and_eq_true, decide_eq_true_eq, Nat.beq_eq] at hok
      obtain ⟨hdg, rfl⟩ := hok
      dsimp only [am_step] at hs
      obtain ⟨x, y, r, rfl, hs⟩ := am_ll_of hs
      intro H locs ls h1 h2 h3 h4 h5 h6
      exact W.lcmp hx hb hdg (seq hs hu1 hu2 H locs ls h1 h2 h3 h4 (am_sc rfl (am_sd (am_sd h5))) h6)
  | i2l =>
      simp only [am_okR, am_okI, Bool.and_eq_true, decide_eq_true_eq, Nat.beq_eq] at hok
      obtain ⟨hdg, rfl⟩ := hok
      dsimp only [am_step] at hs
      obtain ⟨x, r, rfl, hs⟩ := am_i_of hs
      intro H locs ls h1 h2 h3 h4 h5 h6
      exact lv_i2l hx hb hdg rfl (seq hs hu1 hu2 H locs ls h1 h2 h3 h4 (am_sc rfl (am_sd h5)) h6)
  | l2i =>
      simp only [am_okR, am_okI, Bool.and_eq_true, decide_eq_true_eq, Nat.beq_eq] at hok
      obtain ⟨hdg, rfl⟩ := hok
      dsimp only [am_step] at hs
      obtain ⟨x, r, rfl, hs⟩ := am_l_of hs
      intro H locs ls h1 h2 h3 h4 h5 h6
      exact lv_l2i hx hb hdg rfl (seq hs hu1 hu2 H locs ls h1 h2 h3 h4 (am_sc rfl (am_sd h5)) h6)
  | i2b =>
      simp only [am_okR, am_okI, Bool.and_eq_true, decide_eq_true_eq, Nat.beq_eq] at hok
      obtain ⟨hdg, rfl⟩ := hok
      dsimp only [am_step] at hs
      obtain ⟨x, r, rfl, hs⟩ := am_i_of hs
      intro H locs ls h1 h2 h3 h4 h5 h6
      exact lv_i2b hx hb hdg rfl (seq hs hu1 hu2 H locs ls h1 h2 h3 h4 (am_sc rfl (am_sd h5)) h6)
  | i2c =>
      simp only [am_okR, am_okI, Bool.and_eq_true, decide_eq_true_eq, Nat.beq_eq] at hok
      obtain ⟨hdg, rfl⟩ := hok
      dsimp only [am_step] at hs
      obtain ⟨x, r, rfl, hs⟩ := am_i_of hs
      intro H locs ls h1 h2 h3 h4 h5 h6
      exact lv_i2c hx hb hdg rfl (seq hs hu1 hu2 H locs ls h1 h2 h3 h4 (am_sc rfl (am_sd h5)) h6)
  | pop =>
      simp only [am_okR, am_okI, Bool.and_eq_true, decide_eq_true_eq, Nat.beq_eq] at hok
      obtain ⟨hdg, rfl⟩ := hok
      dsimp only [am_step] at hs
      split at hs
      · next v r =>
        obtain ⟨hv, hs⟩ := am_g_of hs
        intro H locs ls h1 h2 h3 h4 h5 h6
        exact lv_pop hx hb hdg (am_one_cat hnv hv) (seq hs hu1 hu2 H locs ls h1 h2 h3 h4 (am_sd h5) h6)
      · exact hs.elim
  | dup =>
      simp only [am_okR, am_okI, Bool.and_eq_true, decide_eq_true_eq, Nat.beq_eq] at hok
      obtain ⟨hdg, rfl⟩ := hok
      dsimp only [am_step] at hs
      split at hs
      · next v r =>
        obtain ⟨hv, hs⟩ := am_g_of hs
        intro H locs ls h1 h2 h3 h4 h5 h6
        exact lv_dup hx hb hdg (am_one_cat hnv hv) (seq hs hu1 hu2 H locs ls h1 h2 h3 h4 (am_sc (h5 _ List.mem_cons_self) h5) h6)
      · exact hs.elim
  | dup2 =>
      simp only [am_okR, am_okI, Bool.and_eq_true, decide_eq_true_eq, Nat.beq_eq] at hok
      obtain ⟨hdg, rfl⟩ := hok
      dsimp only [am_step] at hs
      split at hs
      · next v w r =>
        obtain ⟨hv, hs⟩ := am_g_of hs
        rw [Bool.and_eq_true] at hv
        intro H locs ls h1 h2 h3 h4 h5 h6
        exact lv_dup2_11 hx hb hdg (am_one_cat hnv hv.1) (am_one_cat hnv hv.2) (seq hs hu1 hu2 H locs ls h1 h2 h3 h4 (am_sc (h5 _ List.mem_cons_self) (am_sc (h5 _ (List.mem_cons_of_mem _ List.mem_cons_self)) h5)) h6)
      · exact hs.elim
  | goto o =>
      simp only [am_okR, am_okI, Bool.and_eq_true, decide_eq_true_eq, Nat.beq_eq] at hok
      obtain ⟨hdg, rfl, ht⟩ := hok
      dsimp only [am_step] at hs
      intro H locs ls h1 h2 h3 h4 h5 h6
      exact lv_goto hx hb hdg ht (jmp i1 hs hu1 hu2 H locs ls h1 h2 h3 h4 h5 h6)
  | ifCond cd o =>
      simp only [am_okR, am_okI, Bool.and_eq_true, decide_eq_true_eq, Nat.beq_eq] at hok
      obtain ⟨hdg, rfl, ht⟩ := hok
      dsimp only [am_step] at hs
      obtain ⟨x, r, rfl, hs⟩ := am_i_of hs
      obtain ⟨kt, kf⟩ := am_if_of hs
      intro H locs ls h1 h2 h3 h4 h5 h6
      cases cd with
      | eq => exact lv_if_eq hx hb hdg ht (fun q => jmp i1 (kt (by simpa [am_c0, am_c2] using q)) hu1 hu2 H locs ls h1 h2 h3 h4 (am_sd h5) h6) (fun q => seq (kf (by simpa [am_c0, am_c2] using q)) hu1 hu2 H locs ls h1 h2 h3 h4 (am_sd h5) h6)
      | ne => exact lv_if_ne hx hb hdg ht (fun q => jmp i1 (kt (by simpa [am_c0, am_c2] using q)) hu1 hu2 H locs ls h1 h2 h3 h4 (am_sd h5) h6) (fun q => seq (kf (by simpa [am_c0, am_c2] using q)) hu1 hu2 H locs ls h1 h2 h3 h4 (am_sd h5) h6)
      | lt => exact lv_if_lt hx hb hdg ht (fun q => jmp i1 (kt (by simpa [am_c0, am_c2] using q)) hu1 hu2 H locs ls h1 h2 h3 h4 (am_sd h5) h6) (fun q => seq (kf (by simpa [am_c0, am_c2] using q)) hu1 hu2 H locs ls h1 h2 h3 h4 (am_sd h5) h6)
      | ge => exact lv_if_ge hx hb hdg ht (fun q => jmp i1 (kt (by simpa [am_c0, am_c2] using q)) hu1 hu2 H locs ls h1 h2 h3 h4 (am_sd h5) h6) (fun q => seq (kf (by simpa [am_c0, am_c2] using q)) hu1 hu2 H locs ls h1 h2 h3 h4 (am_sd h5) h6)
      | gt => exact lv_if_gt hx hb hdg ht (fun q => jmp i1 (kt (by simpa [am_c0, am_c2] using q)) hu1 hu2 H locs ls h1 h2 h3 h4 (am_sd h5) h6) (fun q => seq (kf (by simpa [am_c0, am_c2] using q)) hu1 hu2 H locs ls h1 h2 h3 h4 (am_sd h5) h6)
      | le => exact lv_if_le hx hb hdg ht (fun q => jmp i1 (kt (by simpa [am_c0, am_c2] using q)) hu1 hu2 H locs ls h1 h2 h3 h4 (am_sd h5) h6) (fun q => seq (kf (by simpa [am_c0, am_c2] using q)) hu1 hu2 H locs ls h1 h2 h3 h4 (am_sd h5) h6)
  | if_icmp cd o =>
      simp only [am_okR, am_okI, Bool.and_eq_true, decide_eq_true_eq, Nat.beq_eq] at hok
      obtain ⟨hdg, rfl, ht⟩ := hok
      dsimp only [am_step] at hs
      obtain ⟨x, y, r, rfl, hs⟩ := am_ii_of hs
      obtain ⟨kt, kf⟩ := am_if_of hs
      intro H locs ls h1 h2 h3 h4 h5 h6
      cases cd with
      | eq => exact lv_icmp_eq hx hb hdg ht (fun q => jmp i1 (kt (by simpa [am_c0, am_c2] using q)) hu1 hu2 H locs ls h1 h2 h3 h4 (am_sd (am_sd h5)) h6) (fun q => seq (kf (by simpa [am_c0, am_c2] using q)) hu1 hu2 H locs ls h1 h2 h3 h4 (am_sd (am_sd h5)) h6)
      | ne => exact lv_icmp_ne hx hb hdg ht (fun q => jmp i1 (kt (by simpa [am_c0, am_c2] using q)) hu1 hu2 H locs ls h1 h2 h3 h4 (am_sd (am_sd h5)) h6) (fun q => seq (kf (by simpa [am_c0, am_c2] using q)) hu1 hu2 H locs ls h1 h2 h3 h4 (am_sd (am_sd h5)) h6)
      | lt => exact lv_icmp_lt hx hb hdg ht (fun q => jmp i1 (kt (by simpa [am_c0, am_c2] using q)) hu1 hu2 H locs ls h1 h2 h3 h4 (am_sd (am_sd h5)) h6) (fun q => seq (kf (by simpa [am_c0, am_c2] using q)) hu1 hu2 H locs ls h1 h2 h3 h4 (am_sd (am_sd h5)) h6)
      | ge => exact lv_icmp_ge hx hb hdg ht (fun q => jmp i1 (kt (by simpa [am_c0, am_c2] using q)) hu1 hu2 H locs ls h1 h2 h3 h4 (am_sd (am_sd h5)) h6) (fun q => seq (kf (by simpa [am_c0, am_c2] using q)) hu1 hu2 H locs ls h1 h2 h3 h4 (am_sd (am_sd h5)) h6)
      | gt => exact lv_icmp_gt hx hb hdg ht (fun q => jmp i1 (kt (by simpa [am_c0, am_c2] using q)) hu1 hu2 H locs ls h1 h2 h3 h4 (am_sd (am_sd h5)) h6) (fun q => seq (kf (by simpa [am_c0, am_c2] using q)) hu1 hu2 H locs ls h1 h2 h3 h4 (am_sd (am_sd h5)) h6)
      | le => exact lv_icmp_le hx hb hdg ht (fun q => jmp i1 (kt (by simpa [am_c0, am_c2] using q)) hu1 hu2 H locs ls h1 h2 h3 h4 (am_sd (am_sd h5)) h6) (fun q => seq (kf (by simpa [am_c0, am_c2] using q)) hu1 hu2 H locs ls h1 h2 h3 h4 (am_sd (am_sd h5)) h6)
  | getfield k =>
      exact other trivial
  | putfield k =>
      exact other trivial
  | getstatic k =>
      exact other trivial
  | iaload =>
      exact other trivial
  | baload =>
      exact other trivial
  | laload =>
      exact other trivial
  | iastore =>
      exact other trivial
  | bastore =>
      exact other trivial
  | lastore =>
      exact other trivial
  | arraylength =>
      exact other trivial
  | newarray t =>
      exact other trivial
  | new k =>
      exact other trivial
  | invokestatic k =>
      exact other trivial
  | invokevirtual k =>
      exact other trivial
  | invokespecial k =>
      exact other trivial
  | return_ =>
      exact other trivial
  | ireturn =>
      exact other trivial
  | lreturn =>
      exact other trivial
  | tableswitch a b c e =>
      exact other trivial
  | lookupswitch a b =>
      exact other trivial
  | ldc k =>
      exact other trivial
  | _ => exact (show False from hs).elim
end AMW
