/-! parties: takeNumber -/
theorem takeNumber10 {text : Nat → Int32} {L at_ p q b : Nat} {hi : Int32} (hL : L ≤ 240) (h1 : at_ ≤ p) (h2 : p ≤ L) (h3 : ∀ i, at_ ≤ i → i < p → text i = 32) (h4 : p < L → ¬ text p = 32) (k1 : p ≤ q) (k2 : q ≤ L) (k3 : ∀ i, p ≤ i → i < q → fig (text i) = true) (k4 : q < L → fig (text q) = false) (hh : ∀ x, x < 1000 → (nI x ≤ hi ↔ x < b)) (fp num na : Int32) : ∃ num', f_X10_takeNumber (nI L) fp (nI at_) num na text 0 hi = some (if q = p then (1, nI p, nI p, num, na) else if q - p ≤ 3 ∧ dv text p (q - p) < b then (0, fp, nI q, nI (dv text p (q - p)), nI p) else (2, nI p, nI q, num', nI p)) := by
  unfold f_X10_takeNumber
  rw [here10 hL h1 h2 h3 h4, oB2_s, inFig10, oB1_s]
  by_cases q0 : q = p
  · have hf : fig (if p < L then text p else -1) = false := by
      by_cases e : p < L
      · rw [if_pos e, ← q0]; exact k4 (by omega)
      · rw [if_neg e]; decide
    rw [hf, if_pos (show bi false = 0 from rfl)]
    simp only [if_pos q0]
    unfold f_X10_fails
    exact ⟨num, rfl⟩
  · have hf : fig (if p < L then text p else -1) = true := by
      rw [if_pos (by omega)]; exact k3 p (Nat.le_refl _) (by omega)
    rw [hf, if_neg (show ¬ bi true = 0 by decide)]
    simp only [if_neg q0]
    have hb : ∀ j, j ≤ 3 → j ≤ q - p → dv text p j < 1000 := fun j hj hj2 => by
      have := dv_b (text := text) (p := p) j hj (fun i hi => k3 _ (by omega) (by omega))
      have h9 : 10 ^ j ≤ 10 ^ 3 := Nat.pow_le_pow_right (by decide) hj
      omega
    unfold L_X10_takeNumber_42
    refine oF_P0 (σ := Int32 × Int32) (fun i z => z.1 = nI (p + i) ∧ (i ≤ 3 → z.2 = nI (dv text p i))) (q - p) (fun (r : Option (Int32 × Int32 × Int32 × Int32 × Int32)) => ∃ num', r = some (if q - p ≤ 3 ∧ dv text p (q - p) < b then (0, fp, nI q, nI (dv text p (q - p)), nI p) else (2, nI p, nI q, num', nI p))) (nI p, 0) ⟨rfl, fun _ => rfl⟩ (by omega) ?_ ?_
    · rintro i ⟨z1, z2⟩ k hi' ⟨g1, g2⟩ hk
      dsimp only at g1 g2 ⊢
      subst g1
      unfold b_X10_takeNumber_42 f_X10_takeNumber_113
      rw [if_neg (by rw [nI_le_iff (by omega) (by omega)]; omega), oA_n (p + i) _ rfl (by omega) (by decide), inFig10, oB1_s, k3 _ (by omega) (by omega), if_neg (show ¬ bi true = 0 by decide), oA_n (p + i) _ rfl (by omega) (by decide), oL_s, oL_s, nI_1]
      by_cases hi3 : i < 3
      · have hz := g2 (by omega)
        have hbi := hb i (by omega) (by omega)
        rw [hz, if_pos (by rw [show (10000 : Int32) = nI 10000 from rfl, nI_le_iff (by omega) (by omega)]; omega), Int32.mul_comm, (dv_step (k3 _ (by omega) (by omega)) hbi).1]
        exact hk _ ⟨rfl, fun _ => rfl⟩
      · split
        · exact hk _ ⟨rfl, fun hx => absurd hx (by omega)⟩
        · exact hk _ ⟨rfl, fun hx => absurd hx (by omega)⟩
    · rintro ⟨z1, z2⟩ k ⟨g1, g2⟩
      dsimp only at g1 g2 ⊢
      subst g1
      rw [show p + (q - p) = q by omega]
      have e : nI q - nI p = nI (q - p) := by rw [show q = q - p + p by omega, ← nI_add, Int32.add_sub_cancel, show q - p + p - p = q - p by omega]
      have hstop : b_X10_takeNumber_42 (nI L) fp (nI p) text 0 hi k (nI q) z2 = f_X10_takeNumber_129 fp (nI q) z2 (nI p) 0 hi := by
        unfold b_X10_takeNumber_42
        by_cases hq : q < L
        · rw [if_neg (by rw [nI_le_iff (by omega) (by omega)]; omega), oA_n q _ rfl (by omega) (by decide), inFig10, oB1_s, k4 hq, if_pos (show bi false = 0 from rfl)]
        · rw [if_pos (by rw [nI_le_iff (by omega) (by omega)]; omega)]
      rw [hstop]
      unfold f_X10_takeNumber_129 f_X10_takeNumber_157 f_X10_fails
      rw [e, oB2_s, in_eq, within_eq, oB1_s]
      by_cases q3 : q - p ≤ 3
      · rw [if_neg (by rw [i3, nI_lt_iff (by omega) (by omega)]; omega), g2 q3]
        have := hb (q - p) q3 (Nat.le_refl _)
        by_cases qh : dv text p (q - p) < b
        · rw [decide_eq_true ⟨nI_pos' (by omega), (hh _ this).mpr qh⟩, if_neg (show ¬ bi true = 0 by decide)]
          exact ⟨0, by rw [if_pos ⟨q3, qh⟩]⟩
        · rw [decide_eq_false (fun hx => qh ((hh _ this).mp hx.2)), if_pos (show bi false = 0 from rfl)]
          exact ⟨_, by rw [if_neg (fun hx => qh hx.2)]⟩
      · rw [if_pos (by rw [i3, nI_lt_iff (by omega) (by omega)]; omega)]
        exact ⟨_, by rw [if_neg (fun hx => q3 hx.1)]⟩
