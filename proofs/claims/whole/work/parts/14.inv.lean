/-! ===== calls ===== -/
section AMI
variable {p : Program} {l : Launch} {e : Env} {R : Room} {s : State} {m : MethodId} {args : Array Value} {below : List Frame} {meth : Method} {c : Code}
variable {Z : am_Z} {mid d : Nat} {Q : Value → am_H → Prop} {QF : State → Prop} {Ts : List Cond} {u : Nat × Nat} {L : am_L} {st : List Value} {h : am_H} {cs : List am_W} {pc len i1 i2 i3 i4 k : Nat}
theorem am_cat_map (hnv : Z.2.2.1.category = 1) : ∀ {r : List Value}, am_svs r → ((r.map (am_t Z)).map fun v => v.category).sum = am_cat r
  | [], _ => rfl
  | v :: r, hr => by
    have ih := am_cat_map hnv (am_sd hr)
    have hv := am_t_cat hnv (hr v List.mem_cons_self)
    simp only [List.map_cons, List.sum_cons, ih, hv]
    cases v <;> first | rfl | (have := hr _ List.mem_cons_self; cases this)
theorem am_low {H : Heap} {locs : List Loc} (h4 : va_S (am_Ar Z s.heap.size) s.heap H locs) (hZs : Z.1 ≤ s.heap.size) {q : Nat} (hq : q < Z.1) : H[q]? = s.heap[q]? :=
  h4.2.1 q (by omega) (by rintro (k | k) <;> omega)
theorem am_pre_at {H : Heap} {locs : List Loc} {As : List Value} (hUS : am_US Z s) (hZs : Z.1 ≤ s.heap.size) (h2 : am_St Z h H) (h3 : am_RO Z h s s.heap) (h4 : va_S (am_Ar Z s.heap.size) s.heap H locs) (hsz : h.1 < 140 → H.size = Z.1 + h.1) (hAs : am_svs As) (U : State) (hU : U.heap = H) (hW : s.WarmedH U.vm) : am_Pre Z h H.size As (As.map (am_t Z)).toArray U := by
  refine ⟨rfl, by rw [hU], by rw [hU]; exact h2, am_US_warm hW hUS, am_RO_move hW.alike (fun q hq => ?_) h3, Nat.le_trans hZs h4.1, hsz, hAs⟩
  rw [hU]
  exact am_low h4 hZs hq
def am_rvP (rk : Nat) (v : Value) : Prop := match rk with
  | 0 => v = .null
  | 2 => ∃ x, v = .long x
  | _ => ∃ x, v = .int x
def am_rvS (rk : Nat) (v : Value) (rest : List Value) : List Value := match rk with
  | 0 => rest
  | _ => v :: rest
/-- behind a call -/
theorem am_after {H : Heap} {locs : List Loc} {ls : Array Slot} {st0 rest : List Value} {r : List Value} {K : Value → am_H → Prop} {a : Array Value} (hZs : Z.1 ≤ s.heap.size) (hrk : i4 = am_rkc i1) (hrest : rest = r.map (am_t Z))
    (hr : va_Run p l e R s m args below meth c H locs u.1 u.2 (am_co i1).1 (am_co i1).2 (F0 m pc ls st0) rest (am_Post Z h i1 H.size K a) (am_Ar Z H.size)) (hS : va_S (am_Ar Z s.heap.size) s.heap H locs) (hsz : h.1 < 140 → H.size = Z.1 + h.1) (h6 : h.1 < 140 → s.heap.size + u.1 = Z.1 + h.1)
    (kk : ∀ (v : Value) (h' : am_H), K v h' → ∀ (H1 : Heap) (locs1 : List Loc), am_St Z h' H1 → am_RO Z h' s s.heap → va_S (am_Ar Z s.heap.size) s.heap H1 locs1 → (h'.1 < 140 → s.heap.size + (u.1 + (am_co i1).1) = Z.1 + h'.1) → am_rvP i4 v → W p l e R s m args below meth c H1 locs1 (u.1 + (am_co i1).1) (u.2 + (am_co i1).2) QF (F0 m (pc + 3) ls (am_rvS i4 v rest))) : W p l e R s m args below meth c H locs u.1 u.2 QF (F0 m pc ls st0) := by
  have hA : ∀ q, q < H.size → am_Ar Z H.size q → am_Ar Z s.heap.size q := fun q _ k => am_Ar_sub hS.1 k
  have hF : ∀ q, am_Ar Z H.size q → am_Ar Z s.heap.size q := fun q k => am_Ar_sub hS.1 k
  have fin : ∀ (h' : am_H) (t : State) (H1 : Heap) (locs1 : List Loc), t.heap = H1 → s.vm.Alike t.vm → am_Bk Z h i1 H.size h' t → va_S (am_Ar Z s.heap.size) s.heap H1 locs1 → am_St Z h' H1 ∧ am_RO Z h' s s.heap ∧ (h'.1 < 140 → s.heap.size + (u.1 + (am_co i1).1) = Z.1 + h'.1) := by
    intro h' t H1 locs1 ht hvm hB hS1
    obtain ⟨b1, b2, b3, b4⟩ := hB
    rw [ht] at b1
    refine ⟨b1, am_RO_move hvm.symm (fun q hq => ?_) b2, fun hl => ?_⟩
    · rw [ht]; exact (am_low hS1 hZs hq).symm
    · have := b4 hl; have := h6 (by omega); have := hsz (by omega); omega
  unfold am_Post at hr
  rw [← hrk] at hr
  match i4, hrk, hr, kk with
  | 0, _, hr, kk =>
    exact va_callv hr hS hA hF fun h' t H1 locs1 ht hvm hp hB _ _ hS1 => by
      obtain ⟨f1, f2, f3⟩ := fin h' t H1 locs1 ht hvm hB hS1
      exact kk .null h' hp H1 locs1 f1 f2 hS1 f3 rfl
  | 2, _, hr, kk =>
    exact va_calll hr hS hA hF fun x h' t H1 locs1 ht hvm hp hB _ _ hS1 => by
      obtain ⟨f1, f2, f3⟩ := fin h' t H1 locs1 ht hvm hB hS1
      exact kk (.long x) h' hp H1 locs1 f1 f2 hS1 f3 ⟨x, rfl⟩
  | 1, _, hr, kk =>
    exact va_calli hr hS hA hF fun x h' t H1 locs1 ht hvm hp hB _ _ hS1 => by
      obtain ⟨f1, f2, f3⟩ := fin h' t H1 locs1 ht hvm hB hS1
      exact kk (.int x) h' hp H1 locs1 f1 f2 hS1 f3 ⟨x, rfl⟩
  | n + 3, _, hr, kk =>
    exact va_calli hr hS hA hF fun x h' t H1 locs1 ht hvm hp hB _ _ hS1 => by
      obtain ⟨f1, f2, f3⟩ := fin h' t H1 locs1 ht hvm hB hS1
      exact kk (.int x) h' hp H1 locs1 f1 f2 hS1 f3 ⟨x, rfl⟩
/-- the continuation of an invocation -/
theorem am_cont (seq : am_seqT p l e R s m args below meth c Z mid QF cs (pc + 3)) {r : List Value} {ls : Array Slot} (h1 : am_LR Z (am_tb mid).2 L ls) (hr : am_svs r) (hv1 : u.1 + (am_co i1).1 ≤ (am_tb mid).1.2.2.1) (hv2 : u.2 + (am_co i1).2 ≤ (am_tb mid).1.2.2.2) (v : Value) (h' : am_H)
    (hK : am_rv i4 v r (fun st => am_P p l e R s m args below meth c Z mid QF (u.1 + (am_co i1).1, u.2 + (am_co i1).2) cs L st h')) (H1 : Heap) (locs1 : List Loc) (g1 : am_St Z h' H1) (g2 : am_RO Z h' s s.heap) (g3 : va_S (am_Ar Z s.heap.size) s.heap H1 locs1) (g4 : h'.1 < 140 → s.heap.size + (u.1 + (am_co i1).1) = Z.1 + h'.1)
    (hv : am_rvP i4 v) : W p l e R s m args below meth c H1 locs1 (u.1 + (am_co i1).1) (u.2 + (am_co i1).2) QF (F0 m (pc + 3) ls (am_rvS i4 v (r.map (am_t Z)))) := by
  match i4, hK, hv with
  | 0, hK, hv => exact seq hK hv1 hv2 H1 locs1 ls h1 g1 g2 g3 hr g4
  | 2, hK, hv =>
    obtain ⟨x, rfl⟩ := hv
    exact seq hK hv1 hv2 H1 locs1 ls h1 g1 g2 g3 (am_sc rfl hr) g4
  | 1, hK, hv =>
    obtain ⟨x, rfl⟩ := hv
    exact seq hK hv1 hv2 H1 locs1 ls h1 g1 g2 g3 (am_sc rfl hr) g4
  | n + 3, hK, hv =>
    obtain ⟨x, rfl⟩ := hv
    exact seq hK hv1 hv2 H1 locs1 ls h1 g1 g2 g3 (am_sc rfl hr) g4
theorem am_app {a r : List Value} (h : am_svs (a ++ r)) : am_svs a ∧ am_svs r := ⟨fun v hv => h v (List.mem_append_left _ hv), fun v hv => h v (List.mem_append_right _ hv)⟩
theorem am_in1_im {m : Nat} (h : m ∈ am_inst) : Cond.instanceMethod (am_y m) ∈ am_AT := am_in_im (List.mem_map_of_mem (f := fun m => Cond.instanceMethod (am_y m)) h)
theorem am_in1_se {m : Nat} (h : m ∈ am_sel) : Cond.selects (am_y m).cls (am_y m) (am_y m) ∈ am_AT := am_in_se (List.mem_map_of_mem (f := fun m => Cond.selects (am_y m).cls (am_y m) (am_y m)) h)
theorem am_in1_st {m : Nat} (h : m ∈ am_stat) : Cond.static (am_y m) ∈ am_AT := am_in_st (List.mem_map_of_mem (f := fun m => Cond.static (am_y m)) h)
theorem am_in1_in {m : Nat} (h : m < am_law) : Cond.initialized (am_y m).cls ∈ am_AT := by
  obtain ⟨⟨-, h2, h3⟩, -, -⟩ := am_w_par m h
  rw [h2]
  exact am_in_in (List.mem_map_of_mem (f := fun o => Cond.initialized (am_on o)) (am_h1_of h3))
/-- words in the caller's list -/
theorem am_gd {ws : List Cond} (hgd : GoodIn Ts am_AT) (hw : ∀ w ∈ ws, w ∈ am_AT) : GoodIn Ts ws := fun w h => hgd w (hw w h)
theorem am_wds_in {m : Nat} (h : m < am_law) : ∀ w ∈ am_wds m, w ∈ am_AT := by
  intro w hw
  rcases List.mem_cons.mp hw with e | e
  · rw [e]; exact am_w_code h
  · exact e
theorem am_room (hl : (am_tb i1).2 ≤ 40) (hRf : d + 1 ≤ R.frames) (hRl : 64 * (d + 1) ≤ R.locals) : (am_rm d i1).frames + 1 ≤ R.frames ∧ 8 + ((am_tb i1).2 + 11) + (am_rm d i1).locals ≤ R.locals := ⟨hRf, by show 8 + ((am_tb i1).2 + 11) + 64 * d ≤ R.locals; omega⟩
theorem am_rk0 (h : am_rkc i1 = 0) : am_rt i1 = none := by
  unfold am_rkc at h
  cases hr : am_rt i1 with
  | none => rfl
  | some ty => rw [hr] at h; cases ty <;> cases h
end AMI
