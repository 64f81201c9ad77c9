/-! ===== L3: the same, by the cells that are read ===== -/
section
variable {I I' : Nat → Nat → Int32}
def m_e2 (I I' : Nat → Nat → Int32) : Prop := (∀ a, 94 ≤ a → a < 118 → I' a = I a) ∧ (∀ k, 52 ≤ k → k ≤ 63 → I' 93 k = I 93 k)
theorem m_e2_of (h : m_eq I I') : m_e2 I I' := ⟨fun a h1 _ => h a (by omega), fun k _ _ => by rw [h 93 (by omega)]⟩
theorem k_nH (h : m_e2 I I') : m_nH I' = m_nH I := by unfold m_nH; rw [h.1 95 (by omega) (by omega)]
theorem k_nS (h : m_e2 I I') : m_nS I' = m_nS I := by unfold m_nS; rw [h.1 95 (by omega) (by omega)]
theorem k_nZ (h : m_e2 I I') : m_nZ I' = m_nZ I := by unfold m_nZ; rw [h.1 95 (by omega) (by omega)]
theorem k_nL (h : m_e2 I I') : m_nL I' = m_nL I := by unfold m_nL; rw [h.1 95 (by omega) (by omega)]
theorem k_nA (h : m_e2 I I') : m_nA I' = m_nA I := by unfold m_nA; rw [h.1 95 (by omega) (by omega)]
theorem k_has (h : m_e2 I I') : m_has I' = m_has I := by funext k; unfold m_has; rw [h.1 112 (by omega) (by omega), h.1 113 (by omega) (by omega)]
theorem k_gone (h : m_e2 I I') : m_gone I' = m_gone I := by funext k; unfold m_gone; rw [h.2 52 (by omega) (by omega), h.2 53 (by omega) (by omega)]
theorem k_stH (h : m_e2 I I') : m_stH I' = m_stH I := by funext a b l; unfold m_stH; rw [k_gone h, h.1 100 (by omega) (by omega), h.1 101 (by omega) (by omega)]
theorem k_street (h : m_e2 I I') : m_street I' = m_street I := by funext n a b; unfold m_street; rw [k_stH h, h.1 102 (by omega) (by omega)]
theorem k_way (h : m_e2 I I') : m_way I' = m_way I := by funext a b; unfold m_way; rw [k_street h, k_nS h]
theorem k_lampH (h : m_e2 I I') : m_lampH I' = m_lampH I := by funext a b l; unfold m_lampH; rw [h.1 109 (by omega) (by omega), h.1 110 (by omega) (by omega), h.1 111 (by omega) (by omega)]
theorem k_lamp (h : m_e2 I I') : m_lamp I' = m_lamp I := by funext n a b; unfold m_lamp; rw [k_lampH h]
theorem k_light (h : m_e2 I I') : m_light I' = m_light I := by funext n a b c; unfold m_light; rw [k_lamp h, h.2 52 (by omega) (by omega), h.2 62 (by omega) (by omega), h.2 61 (by omega) (by omega)]
theorem k_noise (h : m_e2 I I') : m_noise I' = m_noise I := by funext a b; unfold m_noise; rw [h.2 52 (by omega) (by omega), h.2 63 (by omega) (by omega), h.2 54 (by omega) (by omega), h.2 56 (by omega) (by omega), h.2 55 (by omega) (by omega), h.2 57 (by omega) (by omega), h.1 98 (by omega) (by omega), h.1 99 (by omega) (by omega)]
theorem k_deep (h : m_e2 I I') : m_deep I' = m_deep I := by funext a; unfold m_deep; rw [h.2 52 (by omega) (by omega), h.2 53 (by omega) (by omega), h.1 105 (by omega) (by omega)]
theorem k_dream (h : m_e2 I I') : m_dream I' = m_dream I := by funext a; unfold m_dream; rw [h.2 59 (by omega) (by omega), h.2 60 (by omega) (by omega), h.1 106 (by omega) (by omega)]
theorem k_law (h : m_e2 I I') : m_law I' = m_law I := by funext k nm; unfold m_law; rw [k_has h, h.1 112 (by omega) (by omega), h.1 113 (by omega) (by omega), h.1 114 (by omega) (by omega), h.1 115 (by omega) (by omega)]
theorem k_lok (h : m_e2 I I') (k : m_lok I) : m_lok I' := by unfold m_lok; rw [h.1 112 (by omega) (by omega), h.1 113 (by omega) (by omega), h.1 114 (by omega) (by omega), h.1 115 (by omega) (by omega)]; exact k
theorem k_ok (h : m_e2 I I') (k : m_ok I) : m_ok I' := by
  have hl := k_lok h k.2.2.2.2.2.2
  unfold m_ok
  rw [k_nH h, k_nS h, k_nZ h, k_nL h, k_nA h, h.1 95 (by omega) (by omega), h.1 104 (by omega) (by omega)]
  exact ⟨k.1, k.2.1, k.2.2.1, k.2.2.2.1, k.2.2.2.2.1, k.2.2.2.2.2.1, hl⟩
theorem k_okD (h : m_e2 I I') (k : m_okD I) : m_okD I' := by unfold m_okD; rw [k_nZ h, k_dream h]; exact k
theorem k_okW (h : m_e2 I I') {W : Nat → Nat → Int32} (k : m_okW I W) : m_okW I' W := by unfold m_okW; rw [k_nZ h, k_nH h]; exact k
theorem k_okS (h : m_e2 I I') (k : m_okS I) : m_okS I' := by unfold m_okS; rw [k_nS h, k_nH h, h.1 100 (by omega) (by omega), h.1 101 (by omega) (by omega), h.1 102 (by omega) (by omega)]; exact k
theorem k_okL (h : m_e2 I I') (k : m_okL I) : m_okL I' := by unfold m_okL; rw [k_nL h, k_nZ h, h.1 107 (by omega) (by omega)]; exact k
theorem k_hand (h : m_e2 I I') : m_hand I' = m_hand I := by funext W s; unfold m_hand; rw [k_nL h]
theorem k_nmv (h : m_e2 I I') : m_nmv I' = m_nmv I := by
  funext W F s hh way nm k
  unfold m_nmv
  rw [k_deep h, k_dream h, k_light h, k_nA h, k_noise h, k_hand h]
theorem k_nm0 (h : m_e2 I I') : m_nm0 I' = m_nm0 I := by funext W F s hh way; unfold m_nm0; rw [k_nmv h]
theorem k_pull (h : m_e2 I I') : m_pull I' = m_pull I := by funext W F s hh way; unfold m_pull; rw [k_law h, k_nm0 h, k_dream h]
theorem k_drop (h : m_e2 I I') : m_drop I' = m_drop I := by funext W F s hh; unfold m_drop; rw [k_law h, k_nm0 h]
theorem k_wake (h : m_e2 I I') : m_wake I' = m_wake I := by funext W F s hh; unfold m_wake; rw [k_law h, k_nm0 h, k_deep h, k_noise h]
theorem k_goL (h : m_e2 I I') : m_goL I' = m_goL I := by
  funext W F s fr k
  induction k with
  | zero => unfold m_goL; rw [k_pull h]
  | succ k ih => unfold m_goL; rw [ih, k_way h, k_pull h]
theorem k_go (h : m_e2 I I') : m_go I' = m_go I := by funext W F s fr; unfold m_go; rw [k_goL h, k_nH h]
theorem k_bringF (h : m_e2 I I') : m_bringF I' = m_bringF I := by funext s x W k f l; unfold m_bringF; rw [h.1 108 (by omega) (by omega)]
theorem k_takeF : m_takeF I' = m_takeF I := rfl
theorem k_walk1 (h : m_e2 I I') : m_walk1 I' = m_walk1 I := by funext W s; unfold m_walk1; rw [k_nL h, h.1 104 (by omega) (by omega), k_takeF (I := I) (I' := I')]
theorem k_walk2 (h : m_e2 I I') : m_walk2 I' = m_walk2 I := by funext F W s; unfold m_walk2; rw [k_go h]
theorem k_walk3 (h : m_e2 I I') : m_walk3 I' = m_walk3 I := by funext W s; unfold m_walk3; rw [k_bringF h, k_nL h]
theorem k_walk4 (h : m_e2 I I') : m_walk4 I' = m_walk4 I := by funext F b W s; unfold m_walk4; rw [k_drop h, k_wake h, k_nL h]
theorem k_walk (h : m_e2 I I') : m_walk I' = m_walk I := by funext F b W s; unfold m_walk; rw [k_walk1 h, k_walk2 h, k_walk3 h, k_walk4 h]
theorem k_pass (h : m_e2 I I') : m_pass I' = m_pass I := by
  funext F b W k
  induction k with
  | zero => rfl
  | succ k ih => unfold m_pass; rw [ih, k_walk h, h.2 58 (by omega) (by omega)]
theorem k_hr (h : m_e2 I I') : m_hr I' = m_hr I := by funext F b W k; unfold m_hr; rw [k_pass h, k_nZ h]
theorem k_Wj (h : m_e2 I I') : m_Wj I' = m_Wj I := by
  funext F b W h0 k
  induction k with
  | zero => rfl
  | succ k ih => unfold m_Wj; rw [ih, k_hr h]
theorem k_Tj (h : m_e2 I I') : m_Tj I' = m_Tj I := by
  funext F b W T h0 k
  induction k with
  | zero => rfl
  | succ k ih => unfold m_Tj; rw [ih, k_Wj h, k_nZ h]
theorem k_endL (h : m_e2 I I') : m_endL I' = m_endL I := by
  funext W k
  induction k with
  | zero => rfl
  | succ k ih => unfold m_endL; rw [ih, k_nL h, h.1 104 (by omega) (by omega)]
theorem k_end (h : m_e2 I I') : m_end I' = m_end I := by funext W; unfold m_end; rw [k_endL h, k_nZ h]
theorem k_start (h : m_e2 I I') : m_start I' = m_start I := by funext W f k; unfold m_start; rw [k_nZ h, k_nL h, k_nH h, h.1 95 (by omega) (by omega), h.1 104 (by omega) (by omega), h.1 107 (by omega) (by omega), h.1 97 (by omega) (by omega)]
theorem k_fls (h : m_e2 I I') : fl_s I' = fl_s I := by
  funext F k
  induction k with
  | zero => rfl
  | succ k ih => unfold fl_s; rw [ih, k_gone h, h.1 100 (by omega) (by omega), h.1 101 (by omega) (by omega), h.1 102 (by omega) (by omega)]
theorem k_far (h : m_e2 I I') : m_far I' = m_far I := by funext F; unfold m_far; rw [k_fls h, k_nS h]
theorem k_cw (h : m_e2 I I') {C W : Nat → Nat → Int32} (k : cw_rel I C W) : cw_rel I' C W := by unfold cw_rel; rw [k_nZ h, k_nL h, k_nH h]; exact k
end
