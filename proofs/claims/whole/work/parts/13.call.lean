/-! ===== switches, calls ===== -/
section AMC
variable {p : Program} {l : Launch} {e : Env} {R : Room} {s : State} {m : MethodId} {args : Array Value} {below : List Frame} {meth : Method} {c : Code}
variable {Z : am_Z} {mid d : Nat} {Q : Value → am_H → Prop} {QF : State → Prop} {Ts : List Cond} {u : Nat × Nat} {L : am_L} {st : List Value} {h : am_H} {cs : List am_W} {pc len i1 i2 i3 i4 k : Nat}
theorem am_sw_ts (K : Nat → Prop) (D : Nat) (x : Int32) (pc : Nat) : ∀ (os : List Int) (lo : Int), am_sw K D x (am_ts pc lo os) → (∃ (j : Nat) (off : Int), os[j]? = some off ∧ x = Int32.ofInt (lo + j) ∧ K ((pc : Int) + off).toNat) ∨ ((∀ j : Nat, j < os.length → x ≠ Int32.ofInt (lo + j)) ∧ K D)
  | [], lo, hs => Or.inr ⟨fun j hj => absurd hj (Nat.not_lt_zero j), hs⟩
  | o :: os, lo, hs => by
    obtain ⟨kt, kf⟩ := am_if_of hs
    by_cases q : x = Int32.ofInt lo
    · exact Or.inl ⟨0, o, rfl, by simpa using q, kt (by simpa using q)⟩
    · rcases am_sw_ts K D x pc os (lo + 1) (kf (by simpa using q)) with ⟨j, off, h1, h2, h3⟩ | ⟨h1, h2⟩
      · exact Or.inl ⟨j + 1, off, by simpa using h1, by rw [h2]; congr 1; push_cast; omega, h3⟩
      · refine Or.inr ⟨fun j hj => ?_, h2⟩
        cases j with
        | zero => simpa using q
        | succ j =>
          have := h1 j (by simpa using hj)
          rw [show lo + ((j + 1 : Nat) : Int) = lo + 1 + (j : Int) by push_cast; omega]
          exact this
theorem am_ofInt {a : Int} (h1 : -2147483648 ≤ a) (h2 : a ≤ 2147483647) : (Int32.ofInt a).toInt = a := Int32.toInt_ofInt_of_le h1 (by omega)
theorem am_w_tsw {dd lo hi : Int} {os : Array Int} (hCx : am_Cx p s m args meth c Z mid Ts) (hok : am_okR mid (pc, .tableswitch dd lo hi os, len, i1, i2, i3, i4) = true)
    (jmp : ∀ t : Nat, am_seqT p l e R s m args below meth c Z mid QF (am_seek (am_tb mid).1.1 t) t) (hu1 : u.1 ≤ (am_tb mid).1.2.2.1) (hu2 : u.2 ≤ (am_tb mid).1.2.2.2) (hs : am_step (am_D d) am_co (am_tb mid).1 Q (am_P p l e R s m args below meth c Z mid QF) u ((pc, .tableswitch dd lo hi os, len, i1, i2, i3, i4) :: cs) L st h) : am_G p l e R s m args below meth c Z mid QF u L st h pc := by
  obtain ⟨hx, hb, hml, hown, hts, hgd, hrt, hini, hUS, hZs, hnr⟩ := hCx
  simp only [am_okR, am_okI, Bool.and_eq_true, decide_eq_true_eq, List.all_eq_true] at hok
  obtain ⟨hdg, hd0, hos, hln, hlo, hhi⟩ := hok
  dsimp only [am_step] at hs
  obtain ⟨x, r, rfl, hs1⟩ := am_i_of hs
  intro H locs ls h1 h2 h3 h4 h5 h6
  rcases am_sw_ts _ _ x pc _ _ hs1 with ⟨j, off, g1, g2, g3⟩ | ⟨g1, g2⟩
  · have hj : j < os.toList.length := (List.getElem?_eq_some_iff.mp g1).1
    have hxi : x.toInt = lo + j := by rw [g2]; exact am_ofInt (by omega) (by omega)
    have ho := hos off (List.mem_of_getElem? g1)
    refine lv_tableIn hx hb hdg (by omega) (by omega) (off := off) ?_ (tgt := ((pc : Int) + off).toNat) (by omega) (jmp _ g3 hu1 hu2 H locs ls h1 h2 h3 h4 (am_sd h5) h6)
    rw [hxi, show (lo + (j : Int) - lo).toNat = j by omega]
    simpa using g1
  · refine lv_tableOut hx hb hdg ?_ (tgt := ((pc : Int) + dd).toNat) (by omega) (jmp _ g2 hu1 hu2 H locs ls h1 h2 h3 h4 (am_sd h5) h6)
    apply Classical.byContradiction
    intro q
    have q1 : lo ≤ x.toInt := by omega
    have q2 : x.toInt ≤ hi := by omega
    refine g1 (x.toInt - lo).toNat (by omega) ?_
    rw [show lo + (((x.toInt - lo).toNat : Nat) : Int) = x.toInt by omega]
    exact (Int32.ofInt_toInt x).symm
theorem am_sw_ls (K : Nat → Prop) (dd : Int) (x : Int32) (pc : Nat) : ∀ (ps : List (Int × Int)), (∀ q ∈ ps, -2147483648 ≤ q.1 ∧ q.1 ≤ 2147483647) → am_sw K ((pc : Int) + dd).toNat x (am_ls pc ps) → ∃ off : Int, Op.lookupswitch.offset ps dd x.toInt = off ∧ (off = dd ∨ ∃ q ∈ ps, q.2 = off) ∧ K ((pc : Int) + off).toNat
  | [], _, hs => ⟨dd, by simp [Op.lookupswitch.offset], Or.inl rfl, hs⟩
  | (a, o) :: ps, hr, hs => by
    obtain ⟨kt, kf⟩ := am_if_of hs
    have ha := am_ofInt (hr (a, o) List.mem_cons_self).1 (hr (a, o) List.mem_cons_self).2
    by_cases q : x = Int32.ofInt a
    · exact ⟨o, by rw [q, ha]; simp [Op.lookupswitch.offset], Or.inr ⟨(a, o), List.mem_cons_self, rfl⟩, kt (by simpa using q)⟩
    · obtain ⟨off, h1, h2, h3⟩ := am_sw_ls K dd x pc ps (fun q hq => hr q (List.mem_cons_of_mem _ hq)) (kf (by simpa using q))
      exact ⟨off, by rw [lv_osw q ha]; exact h1, h2.imp id (fun ⟨y, hy, e⟩ => ⟨y, List.mem_cons_of_mem _ hy, e⟩), h3⟩
theorem am_w_lsw {dd : Int} {ps : Array (Int × Int)} (hCx : am_Cx p s m args meth c Z mid Ts) (hok : am_okR mid (pc, .lookupswitch dd ps, len, i1, i2, i3, i4) = true)
    (jmp : ∀ t : Nat, am_seqT p l e R s m args below meth c Z mid QF (am_seek (am_tb mid).1.1 t) t) (hu1 : u.1 ≤ (am_tb mid).1.2.2.1) (hu2 : u.2 ≤ (am_tb mid).1.2.2.2) (hs : am_step (am_D d) am_co (am_tb mid).1 Q (am_P p l e R s m args below meth c Z mid QF) u ((pc, .lookupswitch dd ps, len, i1, i2, i3, i4) :: cs) L st h) : am_G p l e R s m args below meth c Z mid QF u L st h pc := by
  obtain ⟨hx, hb, hml, hown, hts, hgd, hrt, hini, hUS, hZs, hnr⟩ := hCx
  unfold am_okR am_okI at hok
  simp only [Bool.and_eq_true, decide_eq_true_eq] at hok
  obtain ⟨hdg, hd0, hps, hsort⟩ := hok
  have hps := List.all_eq_true.mp hps
  simp only [Bool.and_eq_true, decide_eq_true_eq] at hps
  dsimp only [am_step] at hs
  obtain ⟨x, r, rfl, hs1⟩ := am_i_of hs
  intro H locs ls h1 h2 h3 h4 h5 h6
  obtain ⟨off, g1, g2, g3⟩ := am_sw_ls _ dd x pc _ (fun q hq => (hps q hq).2) hs1
  refine lv_lookup hx hb hdg hsort g1 (tgt := ((pc : Int) + off).toNat) ?_ (jmp _ g3 hu1 hu2 H locs ls h1 h2 h3 h4 (am_sd h5) h6)
  rcases g2 with rfl | ⟨q, hq, rfl⟩
  · omega
  · have := (hps q hq).1; omega
end AMC
