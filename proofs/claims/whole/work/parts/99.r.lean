/-! ===== L3: the class reads a law, a line ===== -/
def ln13 (n : Nat) (T : Nat → Nat) (p : Nat) (hs : Nat → Bool) (kn : Nat) : Nat × Nat := if tkK n T (tkE n T p) < 14 ∨ 16 < tkK n T (tkE n T p) then (1, tkE n T p) else if hs (tkK n T (tkE n T p) - 14) = true then (3, tkE n T p) else ((sy n T 701 (tkE n T (tkE n T p)) [] [false] true true kn []).1, (sy n T 701 (tkE n T (tkE n T p)) [] [false] true true kn []).2.1)
theorem sy_f {n : Nat} {T : Nat → Nat} : ∀ {m p : Nat} {w : List Nat} {cp : List Bool} {sd nm : Bool} {kn : Nat} {R : List Nat}, (sy n T m p w cp sd nm kn R).1 ≤ 2
  | 0, _, _, _, _, _, _, _ => Nat.zero_le _
  | m + 1, p, w, cp, sd, nm, kn, R => by
    rw [sy_S]
    repeat' split
    all_goals first | exact sy_f | (show (0 : Nat) ≤ 2; omega) | (show (1 : Nat) ≤ 2; omega) | (show (2 : Nat) ≤ 2; omega)
section
variable {d N : Nat} {Q : Value → am_H → Prop} {r : am_rho} {I : Nat → Nat → Int32} {J : Nat → Nat → Int64} {rt rs t rl nt nw nf n p m la z l a s kn : Nat} {T : Nat → Nat} {v : Int32}
theorem frx_frt {q ru st : Nat} {I I' : Nat → Nat → Int32} (hq : q = t + 15) (h : frx q ru st I I') : frt t I I' := fun a h1 h2 h3 h4 => h.1 a h2 (by omega) (by omega) (by omega) (by omega) (by omega) (by omega) (by omega)
theorem cl_law {hs : Nat → Bool} (hx : tx I n T) (ht : t = 3 ∨ t = 23) (hp : p ≤ n) (hro : c_ro I) (hkn : I (t + 15) 0 = nI kn) (hk64 : kn ≤ 64) (hwr : I (t + 15) 1 = nI kn) (hhs : ∀ k, k < 3 → (hs k = true ↔ ¬ I (t + 18) k ≤ I (t + 17) k)) (hus : ∀ k, k < 3 → hs k = false → I (t + 19) k = nI 0)
    (hF : ∀ f q rl', ln13 n T p hs kn = (f, q) → f ≠ 0 → (rl' = rl ∨ rl' = t + 15) → fltt t N (rt, rs, t, rl', 2, nt, nw, nf) J Q I f (tkP n T q))
    (hS : ∀ ru q v' I' kn' R', ru < 3 → tkK n T (tkE n T p) = 14 + ru → hs ru = false → sy n T 701 (tkE n T (tkE n T p)) [] [false] true true kn [] = (0, q, kn', R') → ln13 n T p hs kn = (0, q) → q ≤ n → tvc n T q v' → exL (t + 15) ru kn kn' R' I' → frx (t + 15) ru kn (am_u I (t + 17) ru (nI kn)) I' → Q (.int (nI 1)) (am_hp N (rt, rs, t, t + 15, 2, nt, nw, nf) (tK I' n T q v') J)) :
    am_D (d + 15) 49 [.ref 43] (am_hp N (rt, rs, t, rl, 2, nt, nw, nf) (tK I n T p v) J) Q := by
  have hp1 := tkE_le hx hp
  have hp2 := tkE_le hx hp1
  have hk1 := (tk_pos (T := T) hx.1.1 hp1).2.2.2.2.2
  have hq : t + 15 = 18 ∨ t + 15 = 38 := by omega
  unfold ln13 at hF hS
  rw [e_Reader_readLaw]
  refine cl_adv hx hp ?_
  intro v1 hv1
  rw [e_Reader_readLaw_7 ht, tK_3, am_ifi (nI_ltI (by omega) (by omega)), am_ifi (nI_leI (by omega) (by omega))]
  have f1 : (tkK n T (tkE n T p) < 14 ∨ 16 < tkK n T (tkE n T p)) → am_D (d + 14) 32 [.ref 43, .int (nI 1)] (am_hp N (rt, rs, t, rl, 2, nt, nw, nf) (tK I n T (tkE n T p) v1) J) (fun v h => am_asI v (fun y => am_V (d + 14) Q 49 36 [some (.ref 43), none, none] [.int y] h)) := by
    intro c
    refine cl_fail ?_
    intro I' h1 h2 h3
    rw [am_asIe, e_Reader_readLaw_36, am_gT (by rfl)]
    exact fltt_q (hF 1 _ rl (by rw [if_pos c]) (by omega) (Or.inl rfl)) frt_re I' h1 h2 h3
  by_cases c14 : tkK n T (tkE n T p) < 14
  · rw [if_pos c14]; exact f1 (by omega)
  · rw [if_neg c14]
    by_cases c16 : tkK n T (tkE n T p) ≤ 16
    · rw [if_pos c16]
      rw [if_neg (show ¬ (tkK n T (tkE n T p) < 14 ∨ 16 < tkK n T (tkE n T p)) by omega)] at hF
      simp only [if_neg (show ¬ (tkK n T (tkE n T p) < 14 ∨ 16 < tkK n T (tkE n T p)) by omega)] at hS
      obtain ⟨ru, hru⟩ : ∃ ru, tkK n T (tkE n T p) = 14 + ru := ⟨tkK n T (tkE n T p) - 14, by omega⟩
      have hr3 : ru < 3 := by omega
      have e1 : nI (tkK n T (tkE n T p)) - nI 14 = nI ru := by rw [hru, am_subN (by omega), show 14 + ru - 14 = ru by omega]
      rw [show tkK n T (tkE n T p) - 14 = ru by omega] at hF hS
      rw [e1, e_Laws_has hq, am_gI hr3 (by omega), am_gI hr3 (by omega), nI_clamp (by omega), tK_o (by omega), tK_o (by omega), am_ifd, show t + 15 + 3 = t + 18 from rfl, show t + 15 + 2 = t + 17 from rfl]
      cases ch : hs ru with
      | true =>
        rw [if_pos ch] at hF
        rw [if_neg ((hhs ru hr3).mp ch), am_asIe, e_Reader_readLaw_59, am_ifd, if_neg n10]
        refine cl_fail ?_
        intro I' h1 h2 h3
        rw [am_asIe, e_Reader_readLaw_67, am_gT (by rfl)]
        exact fltt_q (hF 3 _ rl rfl (by omega) (Or.inl rfl)) frt_re I' h1 h2 h3
      | false =>
        rw [ch, if_neg (by simp)] at hF
        have hle : I (t + 18) ru ≤ I (t + 17) ru := by
          by_cases g : I (t + 18) ru ≤ I (t + 17) ru
          · exact g
          · have := (hhs ru hr3).mpr g
            rw [ch] at this; cases this
        rw [if_pos hle, am_asIe, e_Reader_readLaw_59, am_ifd, if_pos rfl]
        refine cl_adv hx hp1 ?_
        intro v2 hv2
        rw [e_Reader_readLaw_75 ht, e_Expression_read hq, am_RRu3]
        show am_D (d + 13) 14 [.ref (t + 15), .int (am_u (tK I n T (tkE n T (tkE n T p)) v2) 46 2 (nI ru) 46 2)] (am_hp N (rt, rs, t, t + 15, 2, nt, nw, nf) (am_u (tK I n T (tkE n T (tkE n T p)) v2) 46 2 (nI ru)) J) _
        rw [am_uE, tK_u (by omega), e_Laws_open hq, am_gI hr3 (by omega), am_gI hr3 (by omega), nI_clamp (by omega)]
        try simp (config := {maxSteps := 1000000}) (disch := omega) only [nI_add, nI_1, am_mulN, nI_clamp, am_gI, am_ifd, am_ifn, am_asIe, am_asLe, nI_leI, nI_ltI, nI_eq, am_neg1, am_neg1b, tK_u, tK_o, tK_1, tK_2, tK_3, tK_4, tK_5, am_uE, am_uN, hwr]
        rw [e_Expression_read_21 hq]
        try simp (config := {maxSteps := 1000000}) (disch := omega) only [nI_add, nI_1, am_mulN, nI_clamp, am_gI, am_ifd, am_ifn, am_asIe, am_asLe, nI_leI, nI_ltI, nI_eq, am_neg1, am_neg1b, tK_u, tK_o, tK_1, tK_2, tK_3, tK_4, tK_5, am_uE, am_uN]
        have fb : frt t I (am_u (am_u (am_u (am_u (am_u (am_u (am_u (am_u I 46 2 (nI ru)) (t + 15 + 2) ru (nI kn)) (t + 15 + 3) ru (nI kn)) 46 4 (nI 0)) 46 6 (nI 0)) 48 0 (nI 0)) 46 7 (nI 1)) 46 8 (nI 1)) := frt_tr (frt_u (by omega)) (frt_tr (frt_u (by omega)) (frt_tr (frt_u (by omega)) (frt_tr (frt_u (by omega)) (frt_tr (frt_u (by omega)) (frt_tr (frt_u (by omega)) (frt_tr (frt_u (by omega)) (frt_u (by omega))))))))
        have xb : frx (t + 15) ru kn (am_u I (t + 17) ru (nI kn)) (am_u (am_u (am_u (am_u (am_u (am_u (am_u (am_u I 46 2 (nI ru)) (t + 15 + 2) ru (nI kn)) (t + 15 + 3) ru (nI kn)) 46 4 (nI 0)) 46 6 (nI 0)) 48 0 (nI 0)) 46 7 (nI 1)) 46 8 (nI 1)) := by
          refine ⟨fun b h1 h2 h3 h4 h5 h6 h7 h8 => ?_, fun k hk => ?_, fun j hj => ⟨?_, ?_⟩⟩
          · rw [am_uRow (by omega), am_uRow (by omega), am_uRow (by omega), am_uRow (by omega), am_uRow (by omega), am_uRow (by omega)]
            funext j
            unfold am_u
            simp only [show ¬ b = 46 from h2, false_and, if_false]
          · try simp (config := {maxSteps := 1000000}) (disch := omega) only [nI_add, nI_1, am_mulN, nI_clamp, am_gI, am_ifd, am_ifn, am_asIe, am_asLe, nI_leI, nI_ltI, nI_eq, am_neg1, am_neg1b, tK_u, tK_o, tK_1, tK_2, tK_3, tK_4, tK_5, am_uE, am_uN]
          · try simp (config := {maxSteps := 1000000}) (disch := omega) only [nI_add, nI_1, am_mulN, nI_clamp, am_gI, am_ifd, am_ifn, am_asIe, am_asLe, nI_leI, nI_ltI, nI_eq, am_neg1, am_neg1b, tK_u, tK_o, tK_1, tK_2, tK_3, tK_4, tK_5, am_uE, am_uN]
          · try simp (config := {maxSteps := 1000000}) (disch := omega) only [nI_add, nI_1, am_mulN, nI_clamp, am_gI, am_ifd, am_ifn, am_asIe, am_asLe, nI_leI, nI_ltI, nI_eq, am_neg1, am_neg1b, tK_u, tK_o, tK_1, tK_2, tK_3, tK_4, tK_5, am_uE, am_uN]
        have g0 : exW ru [] [false] true true (am_u (am_u (am_u (am_u (am_u (am_u (am_u (am_u I 46 2 (nI ru)) (t + 15 + 2) ru (nI kn)) (t + 15 + 3) ru (nI kn)) 46 4 (nI 0)) 46 6 (nI 0)) 48 0 (nI 0)) 46 7 (nI 1)) 46 8 (nI 1)) := by
          refine ⟨?_, ?_, ?_, ?_, ?_, trivial, ⟨?_, trivial⟩⟩
          · try simp (config := {maxSteps := 1000000}) (disch := omega) only [nI_add, nI_1, am_mulN, nI_clamp, am_gI, am_ifd, am_ifn, am_asIe, am_asLe, nI_leI, nI_ltI, nI_eq, am_neg1, am_neg1b, tK_u, tK_o, tK_1, tK_2, tK_3, tK_4, tK_5, am_uE, am_uN]
          · try simp (config := {maxSteps := 1000000}) (disch := omega) only [nI_add, nI_1, am_mulN, nI_clamp, am_gI, am_ifd, am_ifn, am_asIe, am_asLe, nI_leI, nI_ltI, nI_eq, am_neg1, am_neg1b, tK_u, tK_o, tK_1, tK_2, tK_3, tK_4, tK_5, am_uE, am_uN]
            rfl
          · try simp (config := {maxSteps := 1000000}) (disch := omega) only [nI_add, nI_1, am_mulN, nI_clamp, am_gI, am_ifd, am_ifn, am_asIe, am_asLe, nI_leI, nI_ltI, nI_eq, am_neg1, am_neg1b, tK_u, tK_o, tK_1, tK_2, tK_3, tK_4, tK_5, am_uE, am_uN]
            rfl
          · try simp (config := {maxSteps := 1000000}) (disch := omega) only [nI_add, nI_1, am_mulN, nI_clamp, am_gI, am_ifd, am_ifn, am_asIe, am_asLe, nI_leI, nI_ltI, nI_eq, am_neg1, am_neg1b, tK_u, tK_o, tK_1, tK_2, tK_3, tK_4, tK_5, am_uE, am_uN]
            rfl
          · try simp (config := {maxSteps := 1000000}) (disch := omega) only [nI_add, nI_1, am_mulN, nI_clamp, am_gI, am_ifd, am_ifn, am_asIe, am_asLe, nI_leI, nI_ltI, nI_eq, am_neg1, am_neg1b, tK_u, tK_o, tK_1, tK_2, tK_3, tK_4, tK_5, am_uE, am_uN]
            rfl
          · show am_u _ 46 8 (nI 1) 48 0 = nI 0
            try simp (config := {maxSteps := 1000000}) (disch := omega) only [nI_add, nI_1, am_mulN, nI_clamp, am_gI, am_ifd, am_ifn, am_asIe, am_asLe, nI_leI, nI_ltI, nI_eq, am_neg1, am_neg1b, tK_u, tK_o, tK_1, tK_2, tK_3, tK_4, tK_5, am_uE, am_uN]
        have g1 : exL (t + 15) ru kn kn [] (am_u (am_u (am_u (am_u (am_u (am_u (am_u (am_u I 46 2 (nI ru)) (t + 15 + 2) ru (nI kn)) (t + 15 + 3) ru (nI kn)) 46 4 (nI 0)) 46 6 (nI 0)) 48 0 (nI 0)) 46 7 (nI 1)) 46 8 (nI 1)) := by
          refine ⟨?_, ?_, trivial, ?_, ?_⟩
          · try simp (config := {maxSteps := 1000000}) (disch := omega) only [nI_add, nI_1, am_mulN, nI_clamp, am_gI, am_ifd, am_ifn, am_asIe, am_asLe, nI_leI, nI_ltI, nI_eq, am_neg1, am_neg1b, tK_u, tK_o, tK_1, tK_2, tK_3, tK_4, tK_5, am_uE, am_uN, hkn]
          · try simp (config := {maxSteps := 1000000}) (disch := omega) only [nI_add, nI_1, am_mulN, nI_clamp, am_gI, am_ifd, am_ifn, am_asIe, am_asLe, nI_leI, nI_ltI, nI_eq, am_neg1, am_neg1b, tK_u, tK_o, tK_1, tK_2, tK_3, tK_4, tK_5, am_uE, am_uN, hwr]
            rfl
          · try simp (config := {maxSteps := 1000000}) (disch := omega) only [nI_add, nI_1, am_mulN, nI_clamp, am_gI, am_ifd, am_ifn, am_asIe, am_asLe, nI_leI, nI_ltI, nI_eq, am_neg1, am_neg1b, tK_u, tK_o, tK_1, tK_2, tK_3, tK_4, tK_5, am_uE, am_uN]
            rfl
          · have := hus ru hr3 ch
            rw [show t + 19 = t + 15 + 4 from rfl] at this
            try simp (config := {maxSteps := 1000000}) (disch := omega) only [nI_add, nI_1, am_mulN, nI_clamp, am_gI, am_ifd, am_ifn, am_asIe, am_asLe, nI_leI, nI_ltI, nI_eq, am_neg1, am_neg1b, tK_u, tK_o, tK_1, tK_2, tK_3, tK_4, tK_5, am_uE, am_uN, this]
            rfl
        generalize am_u (am_u (am_u (am_u (am_u (am_u (am_u (am_u I 46 2 (nI ru)) (t + 15 + 2) ru (nI kn)) (t + 15 + 3) ru (nI kn)) 46 4 (nI 0)) 46 6 (nI 0)) 48 0 (nI 0)) 46 7 (nI 1)) 46 8 (nI 1) = B at fb xb g0 g1 ⊢
        have hxB : tx B n T := tx_mv hx (fb 2 (by omega) (by omega) (by omega) (by omega)) (fun a ha => fb a (by omega) (by omega) (by omega) (by omega))
        have hroB : c_ro B := by unfold c_ro; rw [fb 2001 (by omega) (by omega) (by omega) (by omega), fb 2002 (by omega) (by omega) (by omega) (by omega)]; exact hro
        refine cl_expr hq hr3 701 0 _ [] [false] true true kn [] B v2 (by omega) hxB hp2 hv2 hroB g0 g1 ⟨hk64, by show kn + 0 + 0 = kn; omega, rfl, by decide, by decide, fun k hk => by cases hk⟩ ?_
        intro I' v' k1 k2 k3 k4
        generalize hsy : sy n T 701 (tkE n T (tkE n T p)) [] [false] true true kn [] = o at hF hS k1 k2 k3 k4 ⊢
        obtain ⟨f, q, kn', R'⟩ := o
        rw [am_asIe, e_Reader_readLaw_90, am_ifd]
        by_cases cf : f = 0
        · subst cf
          rw [if_pos rfl]
          exact hS ru q v' I' kn' R' hr3 hru ch rfl (by rw [ch, if_neg (by simp)]) k3 k1 (k4 rfl) (frx_tr xb k2)
        · have hf2 := @sy_f n T 701 (tkE n T (tkE n T p)) [] [false] true true kn []
          rw [hsy] at hf2
          have hf2' : f ≤ 2 := hf2
          rw [if_neg (by rw [nI_eq (by omega) (by omega)]; exact cf)]
          refine cl_fail ?_
          intro I2 h1 h2 h3
          rw [am_asIe, e_Reader_readLaw_100, am_ifd, if_pos rfl]
          exact fltt_q (hF f q (t + 15) rfl cf (Or.inr rfl)) (frt_tr fb (frx_frt rfl k2)) I2 h1 h2 h3
    · rw [if_neg c16]; exact f1 (by omega)
end
