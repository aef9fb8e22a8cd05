/-! parties: the class's numbers -/
def dv (text : Nat → Int32) (p : Nat) : Nat → Nat
  | 0 => 0
  | j + 1 => dv text p j * 10 + ((text (p + j)).toNatClampNeg - 48)
theorem fig_nI {x : Int32} (h : fig x = true) : ∃ t, 48 ≤ t ∧ t ≤ 57 ∧ x = nI t := by
  unfold fig at h
  rw [decide_eq_true_iff] at h
  rcases i_cases x 58 (by omega) with ⟨t, ht, rfl⟩ | hx
  · refine ⟨t, ?_, by omega, rfl⟩
    have := h.1
    rw [show (48 : Int32) = nI 48 from rfl, nI_le_iff (by omega) (by omega)] at this
    exact this
  · exfalso
    obtain ⟨h1, h2⟩ := h
    have h48 : (48 : Int32).toInt = 48 := by decide
    have h57 : (57 : Int32).toInt = 57 := by decide
    have h58 : (nI 58).toInt = 58 := by decide
    have h0 : (0 : Int32).toInt = 0 := by decide
    rw [le_toInt] at h1 h2
    rcases hx with hx | hx
    · rw [lt_toInt] at hx; omega
    · rw [le_toInt] at hx; omega
theorem dv_step {text : Nat → Int32} {p j : Nat} (h : fig (text (p + j)) = true) (hb : dv text p j < 1000) : nI (dv text p j) * (10 : Int32) + text (p + j) - 48 = nI (dv text p (j + 1)) ∧ dv text p (j + 1) ≤ dv text p j * 10 + 9 := by
  obtain ⟨t, t1, t2, t3⟩ := fig_nI h
  have e : dv text p (j + 1) = dv text p j * 10 + (t - 48) := by
    rw [dv, t3, nI_clamp (by omega)]
  refine ⟨?_, by omega⟩
  rw [e, t3, i10, nI_mul, nI_add, show dv text p j * 10 + t = dv text p j * 10 + (t - 48) + 48 by omega, ← nI_add (dv text p j * 10 + (t - 48)) 48]
  exact Int32.add_sub_cancel _ _
