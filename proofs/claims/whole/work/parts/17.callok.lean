/-! ===== every call ===== -/
theorem am_no905 : (∀ q ∈ am_ML, q.2.2 = 905 → q.1 = 13) ∧ (∀ m, m < am_law → am_ow m ≠ 13) := by decide +kernel
set_option maxHeartbeats 4000000 in
theorem am_callOK (hokA : ∀ m, m < am_law → am_okM m = true) (l : Launch) (Z : am_Z) (hnr : Z.2.2.1 = .null ∨ ∃ a, Z.2.2.1 = .ref a) : ∀ d : Nat, am_CallOK l Z d
  | 0 => fun _ _ _ _ _ hc => hc.elim
  | d + 1 => by
    intro mid hlt As h Q hcall sz
    have ih := am_callOK hokA l Z hnr d
    have hnv := am_nv hnr
    have hML : ∀ m, m < am_law → (am_tb m).2 ≤ 40 := fun m hm => by
      have := hokA m hm
      unfold am_okM at this
      simp only [Bool.and_eq_true] at this
      exact Nat.le_of_ble_eq_true this.2.2.1
    have hble : Nat.ble 900 mid = false := by
      cases hb : Nat.ble 900 mid with
      | false => rfl
      | true => have := Nat.le_of_ble_eq_true hb; unfold am_law at hlt; omega
    change (bif Nat.ble 900 mid then _ else _) at hcall
    rw [hble] at hcall
    obtain ⟨hcat, hE⟩ := am_g_of hcall
    have hcat := Nat.le_of_ble_eq_true hcat
    have hokM := hokA mid hlt
    have hok2 := hokM
    unfold am_okM at hok2
    simp only [Bool.and_eq_true] at hok2
    obtain ⟨-, -, -, hc1, hc2, hhd⟩ := hok2
    have hc1 := am_beq hc1
    have hc2 := am_beq hc2
    have hhd := am_beq hhd
    refine va_MetF (cc := am_bc mid) (maxL := (am_tb mid).2) (ret := am_rt mid) (am_w_par mid hlt).2.2 rfl ?_
    intro p e s m args below meth c s₁ B hml hv
    obtain ⟨hargs, hsz, hSt, hUS, hRO, hZ, hszh, hsv⟩ := hv
    subst hargs
    subst hsz
    have hx := B.exec
    have hb := B.bytes
    have hr := B.returns
    have hts := atoms_spec (ws := am_wds mid) B.pre
    have hlocks := B.notSynchronized
    have hCx : am_Cx p s m (As.map (am_t Z)).toArray meth c Z mid (am_wds mid) := ⟨hx, hb, hml, by rw [← (am_w_par mid hlt).1.2.1]; exact findClass_of_methodNamed B.named, hts, fun w hw => ⟨List.mem_cons_of_mem _ hw, good_of_word (List.all_eq_true.mp am_GT w hw)⟩, hr, fun q => by rw [← q]; exact (name_of_methodNamed B.named B.method).1, hUS, hZ, hnr⟩
    have mono : ∀ h' : am_H, am_wf h' → (h'.1 < 140 → s.heap.size + (am_tb mid).1.2.2.1 = Z.1 + h'.1) → h.1 ≤ h'.1 := fun h' hw hq => by
      by_cases q : h'.1 < 140
      · have := hq q; have := hSt.2.1; omega
      · have := hSt.1.1; omega
    have bk : ∀ (h' : am_H) (H : Heap) (locs : List Loc) (t : State), am_St Z h' H → am_RO Z h' s s.heap → va_S (am_Ar Z s.heap.size) s.heap H locs → (h'.1 < 140 → s.heap.size + (am_tb mid).1.2.2.1 = Z.1 + h'.1) → t.heap = H → s.WarmedH t.vm → am_Bk Z h mid s.heap.size h' t := fun h' H locs t g1 g2 g3 g4 ht hW => by
      refine ⟨by rw [ht]; exact g1, am_RO_move hW.alike (fun q hq => by rw [ht]; exact am_low g3 hZ hq) g2, mono h' g1.1 g4, fun q => ?_⟩
      rw [← hc1]; exact g4 q
    have hwalk := am_walk (l := l) (e := e) (R := (headSpec (am_wds mid) (am_rm (d + 1) mid)).room) (below := below) (QF := MQ below (am_Post Z h mid s.heap.size Q) (As.map (am_t Z)).toArray s (am_tb mid).1.2.2.1 (am_tb mid).1.2.2.2 (am_Ar Z s.heap.size)) hCx hokM ih hML (Nat.le_refl _) (Nat.le_refl _) (by rw [hc1]; exact Nat.le_refl _) (by rw [hc2]; exact Nat.le_refl _) ?_ ?_ ?_ ?_ hE
    · rw [lg_entry_eq]
      have hl := lv_entry (As.map (am_t Z)) (n := (am_tb mid).2) (by rw [am_sl_len hnv As hsv]; exact hcat)
      generalize (lg_sl (As.map (am_t Z)) ++ List.replicate ((am_tb mid).2 - (lg_sl (As.map (am_t Z))).length) Slot.unset).toArray = ls at hl ⊢
      rw [← hc1, ← hc2]
      cases hpr : (am_tb mid).1.1 with
      | nil => rw [hpr] at hwalk; exact hwalk.elim
      | cons r rs =>
        rw [hpr] at hwalk hhd
        have := hwalk ⟨[], hpr⟩ (Nat.zero_le _) (Nat.zero_le _) s.heap [] ls (am_LR_in hnv hsv hcat hl) hSt hRO va_S.rf (fun v hv => by cases hv) (fun q => hszh q)
        rw [show r.1 = 0 from hhd] at this
        exact this
    · intro hrt h' H locs ls pc hQ g1 g2 g3 g4 hdg
      refine W.vret hx hb (hr.trans hrt) (fun t ht hW => ?_) g3.2.2 hdg (hlocks := hlocks)
      have hrk : am_rkc mid = 0 := by unfold am_rkc; rw [hrt]
      unfold am_Post
      rw [hrk]
      exact ⟨⟨h', rfl, hQ, bk h' H locs t g1 g2 g3 g4 ht hW⟩, g3.F ht⟩
    · intro ty hrt hty x h' H locs ls pc hn hQ g1 g2 g3 g4 hdg
      refine W.zret hx hb (hr.trans hrt) hn (fun t ht hW => ?_) g3.2.2 hdg (hlocks := hlocks)
      have hrk : am_rkc mid = 1 := by unfold am_rkc; rw [hrt]; rcases hty with rfl | rfl | rfl | rfl <;> rfl
      unfold am_Post
      rw [hrk]
      exact ⟨⟨x, h', rfl, hQ, bk h' H locs t g1 g2 g3 g4 ht hW⟩, g3.F ht⟩
    · intro hrt x h' H locs ls pc hQ g1 g2 g3 g4 hdg
      refine W.lret hx hb (hr.trans hrt) (fun t ht hW => ?_) g3.2.2 hdg (hlocks := hlocks)
      have hrk : am_rkc mid = 2 := by unfold am_rkc; rw [hrt]
      unfold am_Post
      rw [hrk]
      exact ⟨⟨x, h', rfl, hQ, bk h' H locs t g1 g2 g3 g4 ht hW⟩, g3.F ht⟩
    · intro u L st h' cs pc len i2 i3 i4 k hok
      exfalso
      simp only [am_okR, am_okI, Bool.and_eq_true, decide_eq_true_eq, Nat.beq_eq] at hok
      obtain ⟨-, -, hok⟩ := hok
      have e1 : Nat.beq 905 901 = false := rfl
      have e2 : Nat.beq 905 905 = true := rfl
      rw [e1, e2] at hok
      simp only [cond_false, cond_true, Bool.and_eq_true] at hok
      exact am_no905.2 mid hlt (am_no905.1 _ (am_h3_of hok.1) rfl)
