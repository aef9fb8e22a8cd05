/-! parties: numbers -/
def fig (x : Int32) : Bool := decide ((48 : Int32) ≤ x ∧ x ≤ 57)
theorem isFigure9 (x : Int32) : f_X7_isFigure x = some (bi (fig x)) := by
  have h48 : (48 : Int32).toInt = 48 := by decide
  have h57 : (57 : Int32).toInt = 57 := by decide
  unfold f_X7_isFigure fig
  by_cases h1 : x < 48
  · rw [if_pos h1, decide_eq_false (by rw [le_toInt, le_toInt]; rw [lt_toInt] at h1; omega)]; rfl
  · rw [if_neg h1]
    by_cases h2 : (57 : Int32) < x
    · rw [if_pos h2, decide_eq_false (by rw [le_toInt, le_toInt]; rw [lt_toInt] at h2; omega)]; rfl
    · rw [if_neg h2, decide_eq_true (by rw [le_toInt, le_toInt]; rw [lt_toInt] at h1 h2; omega)]; rfl
theorem inFig10 (x : Int32) : f_X10_in x.toInt64 48 57 = some (bi (fig x)) := by
  rw [in_eqc x 48 57 48 57 rfl rfl, within_eq]; rfl
theorem run_ex (text : Nat → Int32) {p L : Nat} (h : p ≤ L) : ∃ q, p ≤ q ∧ q ≤ L ∧ (∀ i, p ≤ i → i < q → fig (text i) = true) ∧ (q < L → fig (text q) = false) := by
  obtain ⟨d, h1, h2⟩ := pk_least (fun d => p + d = L ∨ fig (text (p + d)) = false) ⟨L - p, Or.inl (by omega)⟩
  have hd : p + d ≤ L := by
    rcases Nat.lt_or_ge L (p + d) with hh | hh
    · exact absurd (Or.inl (by omega)) (h2 (L - p) (by omega))
    · exact hh
  refine ⟨p + d, by omega, hd, fun i h3 h4 => ?_, fun h3 => h1.resolve_left (by omega)⟩
  have := h2 (i - p) (by omega)
  rw [show p + (i - p) = i by omega] at this
  cases hf : fig (text i)
  · exact absurd (Or.inr hf) this
  · rfl
