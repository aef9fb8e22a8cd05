/-! parties: blanks -/
theorem blank_ex (text : Nat → Int32) {at_ L : Nat} (h : at_ ≤ L) : ∃ p, at_ ≤ p ∧ p ≤ L ∧ (∀ i, at_ ≤ i → i < p → text i = 32) ∧ (p < L → ¬ text p = 32) := by
  obtain ⟨d, h1, h2⟩ := pk_least (fun d => at_ + d = L ∨ ¬ text (at_ + d) = 32) ⟨L - at_, Or.inl (by omega)⟩
  have hd : at_ + d ≤ L := by
    rcases Nat.lt_or_ge L (at_ + d) with hh | hh
    · exact absurd (Or.inl (by omega)) (h2 (L - at_) (by omega))
    · exact hh
  refine ⟨at_ + d, by omega, hd, fun i h3 h4 => ?_, fun h3 => h1.resolve_left (by omega)⟩
  have := h2 (i - at_) (by omega)
  rw [show at_ + (i - at_) = i by omega] at this
  exact Classical.byContradiction (fun hh => this (Or.inr hh))
theorem skip9 {letters text : Nat → Int32} {L at_ p : Nat} (hL : L ≤ 240) (hl : ∀ i, i < L → letters i = text i) (h1 : at_ ≤ p) (h2 : p ≤ L) (h3 : ∀ i, at_ ≤ i → i < p → text i = 32) (h4 : p < L → ¬ text p = 32) : f_X7_skipBlanks (nI L) (nI at_) letters = some (nI p) := by
  unfold f_X7_skipBlanks L_X7_skipBlanks_0
  refine oF_run0 (fun i => nI (at_ + i)) (p - at_) _ rfl (by omega) ?_ ?_
  · intro i hi k
    unfold b_X7_skipBlanks_0
    rw [if_neg (by rw [nI_le_iff (by omega) (by omega)]; omega), oA_n (at_ + i) _ rfl (by omega) (by decide), hl _ (by omega), if_pos (h3 _ (by omega) (by omega)), oL_s, nI_1]
    rfl
  · intro k
    unfold b_X7_skipBlanks_0
    rw [show at_ + (p - at_) = p by omega]
    by_cases e : p < L
    · rw [if_neg (by rw [nI_le_iff (by omega) (by omega)]; omega), oA_n p _ rfl (by omega) (by decide), hl _ e, if_neg (h4 e)]
    · rw [if_pos (by rw [nI_le_iff (by omega) (by omega)]; omega)]
theorem here10 {text : Nat → Int32} {L at_ p : Nat} (hL : L ≤ 240) (h1 : at_ ≤ p) (h2 : p ≤ L) (h3 : ∀ i, at_ ≤ i → i < p → text i = 32) (h4 : p < L → ¬ text p = 32) : f_X10_here (nI L) (nI at_) text = some (if p < L then text p else -1, nI p) := by
  unfold f_X10_here L_X10_here_0
  refine oF_run0 (fun i => nI (at_ + i)) (p - at_) _ rfl (by omega) ?_ ?_
  · intro i hi k
    unfold b_X10_here_0
    rw [if_neg (by rw [nI_le_iff (by omega) (by omega)]; omega), oA_n (at_ + i) _ rfl (by omega) (by decide), if_pos (h3 _ (by omega) (by omega)), oL_s, nI_1]
    rfl
  · intro k
    unfold b_X10_here_0 f_X10_here_38
    rw [show at_ + (p - at_) = p by omega]
    by_cases e : p < L
    · rw [if_neg (by rw [nI_le_iff (by omega) (by omega)]; omega), oA_n p _ rfl (by omega) (by decide), if_neg (h4 e), if_neg (by rw [nI_le_iff (by omega) (by omega)]; omega), oA_n p _ rfl (by omega) (by decide), if_pos e]
    · rw [if_pos (by rw [nI_le_iff (by omega) (by omega)]; omega), if_pos (by rw [nI_le_iff (by omega) (by omega)]; omega), if_neg e]
