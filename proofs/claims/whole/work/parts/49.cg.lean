/-! ===== L3: what the model does hangs on its own rows ===== -/
section
variable {I I' : Nat → Nat → Int32}
def m_eq (I I' : Nat → Nat → Int32) : Prop := ∀ a, 93 ≤ a → I' a = I a
theorem g_nH (h : m_eq I I') : m_nH I' = m_nH I := by unfold m_nH; rw [h 95 (by omega)]
theorem g_nS (h : m_eq I I') : m_nS I' = m_nS I := by unfold m_nS; rw [h 95 (by omega)]
theorem g_nZ (h : m_eq I I') : m_nZ I' = m_nZ I := by unfold m_nZ; rw [h 95 (by omega)]
theorem g_nL (h : m_eq I I') : m_nL I' = m_nL I := by unfold m_nL; rw [h 95 (by omega)]
theorem g_nA (h : m_eq I I') : m_nA I' = m_nA I := by unfold m_nA; rw [h 95 (by omega)]
theorem g_has (h : m_eq I I') : m_has I' = m_has I := by funext k; unfold m_has; rw [h 112 (by omega), h 113 (by omega)]
theorem g_gone (h : m_eq I I') : m_gone I' = m_gone I := by funext k; unfold m_gone; rw [h 93 (by omega)]
theorem g_stH (h : m_eq I I') : m_stH I' = m_stH I := by funext a b l; unfold m_stH; rw [g_gone h, h 100 (by omega), h 101 (by omega)]
theorem g_street (h : m_eq I I') : m_street I' = m_street I := by funext n a b; unfold m_street; rw [g_stH h, h 102 (by omega)]
theorem g_way (h : m_eq I I') : m_way I' = m_way I := by funext a b; unfold m_way; rw [g_street h, g_nS h]
theorem g_lampH (h : m_eq I I') : m_lampH I' = m_lampH I := by funext a b l; unfold m_lampH; rw [h 109 (by omega), h 110 (by omega), h 111 (by omega)]
theorem g_lamp (h : m_eq I I') : m_lamp I' = m_lamp I := by funext n a b; unfold m_lamp; rw [g_lampH h]
theorem g_light (h : m_eq I I') : m_light I' = m_light I := by funext n a b c; unfold m_light; rw [g_lamp h, h 93 (by omega)]
theorem g_noise (h : m_eq I I') : m_noise I' = m_noise I := by funext a b; unfold m_noise; rw [h 93 (by omega), h 98 (by omega), h 99 (by omega)]
theorem g_deep (h : m_eq I I') : m_deep I' = m_deep I := by funext a; unfold m_deep; rw [h 93 (by omega), h 105 (by omega)]
theorem g_dream (h : m_eq I I') : m_dream I' = m_dream I := by funext a; unfold m_dream; rw [h 93 (by omega), h 106 (by omega)]
theorem g_law (h : m_eq I I') : m_law I' = m_law I := by funext k nm; unfold m_law; rw [g_has h, h 112 (by omega), h 113 (by omega), h 114 (by omega), h 115 (by omega)]
theorem g_lok (h : m_eq I I') (k : m_lok I) : m_lok I' := by unfold m_lok; rw [h 112 (by omega), h 113 (by omega), h 114 (by omega), h 115 (by omega)]; exact k
theorem g_ok (h : m_eq I I') (k : m_ok I) : m_ok I' := by
  have hl := g_lok h k.2.2.2.2.2.2
  unfold m_ok
  rw [g_nH h, g_nS h, g_nZ h, g_nL h, g_nA h, h 95 (by omega), h 104 (by omega)]
  exact ⟨k.1, k.2.1, k.2.2.1, k.2.2.2.1, k.2.2.2.2.1, k.2.2.2.2.2.1, hl⟩
theorem g_okD (h : m_eq I I') (k : m_okD I) : m_okD I' := by unfold m_okD; rw [g_nZ h, g_dream h]; exact k
theorem g_okW (h : m_eq I I') {W : Nat → Nat → Int32} (k : m_okW I W) : m_okW I' W := by unfold m_okW; rw [g_nZ h, g_nH h]; exact k
theorem g_okS (h : m_eq I I') (k : m_okS I) : m_okS I' := by unfold m_okS; rw [g_nS h, g_nH h, h 100 (by omega), h 101 (by omega), h 102 (by omega)]; exact k
theorem g_okL (h : m_eq I I') (k : m_okL I) : m_okL I' := by unfold m_okL; rw [g_nL h, g_nZ h, h 107 (by omega)]; exact k
theorem g_hand (h : m_eq I I') : m_hand I' = m_hand I := by funext W s; unfold m_hand; rw [g_nL h]
theorem g_nmv (h : m_eq I I') : m_nmv I' = m_nmv I := by
  funext W F s hh way nm k
  unfold m_nmv
  rw [g_deep h, g_dream h, g_light h, g_nA h, g_noise h, g_hand h]
theorem g_nm0 (h : m_eq I I') : m_nm0 I' = m_nm0 I := by funext W F s hh way; unfold m_nm0; rw [g_nmv h]
theorem g_pull (h : m_eq I I') : m_pull I' = m_pull I := by funext W F s hh way; unfold m_pull; rw [g_law h, g_nm0 h, g_dream h]
theorem g_drop (h : m_eq I I') : m_drop I' = m_drop I := by funext W F s hh; unfold m_drop; rw [g_law h, g_nm0 h]
theorem g_wake (h : m_eq I I') : m_wake I' = m_wake I := by funext W F s hh; unfold m_wake; rw [g_law h, g_nm0 h, g_deep h, g_noise h]
theorem g_goL (h : m_eq I I') : m_goL I' = m_goL I := by
  funext W F s fr k
  induction k with
  | zero => unfold m_goL; rw [g_pull h]
  | succ k ih => unfold m_goL; rw [ih, g_way h, g_pull h]
theorem g_go (h : m_eq I I') : m_go I' = m_go I := by funext W F s fr; unfold m_go; rw [g_goL h, g_nH h]
theorem g_bringF (h : m_eq I I') : m_bringF I' = m_bringF I := by funext s x W k f l; unfold m_bringF; rw [h 108 (by omega)]
theorem g_takeF : m_takeF I' = m_takeF I := rfl
theorem g_walk1 (h : m_eq I I') : m_walk1 I' = m_walk1 I := by funext W s; unfold m_walk1; rw [g_nL h, h 104 (by omega), g_takeF (I := I) (I' := I')]
theorem g_walk2 (h : m_eq I I') : m_walk2 I' = m_walk2 I := by funext F W s; unfold m_walk2; rw [g_go h]
theorem g_walk3 (h : m_eq I I') : m_walk3 I' = m_walk3 I := by funext W s; unfold m_walk3; rw [g_bringF h, g_nL h]
theorem g_walk4 (h : m_eq I I') : m_walk4 I' = m_walk4 I := by funext F b W s; unfold m_walk4; rw [g_drop h, g_wake h, g_nL h]
theorem g_walk (h : m_eq I I') : m_walk I' = m_walk I := by funext F b W s; unfold m_walk; rw [g_walk1 h, g_walk2 h, g_walk3 h, g_walk4 h]
theorem g_pass (h : m_eq I I') : m_pass I' = m_pass I := by
  funext F b W k
  induction k with
  | zero => rfl
  | succ k ih => unfold m_pass; rw [ih, g_walk h, h 93 (by omega)]
theorem g_hr (h : m_eq I I') : m_hr I' = m_hr I := by funext F b W k; unfold m_hr; rw [g_pass h, g_nZ h]
theorem g_Wj (h : m_eq I I') : m_Wj I' = m_Wj I := by
  funext F b W h0 k
  induction k with
  | zero => rfl
  | succ k ih => unfold m_Wj; rw [ih, g_hr h]
theorem g_Tj (h : m_eq I I') : m_Tj I' = m_Tj I := by
  funext F b W T h0 k
  induction k with
  | zero => rfl
  | succ k ih => unfold m_Tj; rw [ih, g_Wj h, g_nZ h]
theorem g_endL (h : m_eq I I') : m_endL I' = m_endL I := by
  funext W k
  induction k with
  | zero => rfl
  | succ k ih => unfold m_endL; rw [ih, g_nL h, h 104 (by omega)]
theorem g_end (h : m_eq I I') : m_end I' = m_end I := by funext W; unfold m_end; rw [g_endL h, g_nZ h]
theorem g_start (h : m_eq I I') : m_start I' = m_start I := by funext W f k; unfold m_start; rw [g_nZ h, g_nL h, g_nH h, h 95 (by omega), h 104 (by omega), h 107 (by omega), h 97 (by omega)]
theorem g_fls (h : m_eq I I') : fl_s I' = fl_s I := by
  funext F k
  induction k with
  | zero => rfl
  | succ k ih => unfold fl_s; rw [ih, g_gone h, h 100 (by omega), h 101 (by omega), h 102 (by omega)]
theorem g_far (h : m_eq I I') : m_far I' = m_far I := by funext F; unfold m_far; rw [g_fls h, g_nS h]
theorem g_g (h : m_eq I I') : m_g I' = m_g I := by
  funext n f k
  unfold m_g
  by_cases c : f < 5
  · rw [if_pos c, if_pos c, h _ (by omega)]
  · rw [if_neg c, if_neg c]
    by_cases c5 : f = 5
    · rw [if_pos c5, if_pos c5, h _ (by omega)]
    · rw [if_neg c5, if_neg c5, h _ (by omega)]
theorem g_cw (h : m_eq I I') {C W : Nat → Nat → Int32} (k : cw_rel I C W) : cw_rel I' C W := by unfold cw_rel; rw [g_nZ h, g_nL h, g_nH h]; exact k
end
