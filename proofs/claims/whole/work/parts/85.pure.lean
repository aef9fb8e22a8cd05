/-! seekWeights: the reference's search -/
theorem B_big {m k : Nat} (hm : m ≤ 6) (hk : k ≤ 6) : (m + 1) ^ k ≤ 117649 := by
  have h1 : (m + 1) ^ k ≤ 7 ^ k := Nat.pow_le_pow_left (by omega) k
  have h2 : 7 ^ k ≤ 7 ^ 6 := Nat.pow_le_pow_right (by decide) hk
  have h3 : (7 : Nat) ^ 6 = 117649 := by decide
  omega
def RWS (rows sNum sMost : Nat → Int32) (k : Nat) : Prop := ∀ s, s < k → (∀ x, x < 4 → rows (5 * s + x) = sNum (4 * s + x)) ∧ rows (5 * s + 4) = sMost s
theorem find42 {rows sOf sNum sMost : Nat → Int32} {k m x : Nat} (hr : RWS rows sNum sMost k) (hk : k ≤ 6) (hm : m ≤ 6) (hx : x < (m + 1) ^ k) (wt : Nat → Int32) (k26 : (Nat → Int32) × Int32 → Option (Int32 × (Nat → Int32))) : ∃ w', (∀ s, s < k → w' s = nI (dg (m + 1) k x s)) ∧ L_X10_findWeights_42 (nI k) sOf sNum sMost (nI m) (nI x) k26 (wt, nI x, nI k - 1) = if RF rows (m + 1) k x = true then some (1, w') else k26 (w', nI (x + 1)) := by
  have hb := B_big hm hk
  unfold L_X10_findWeights_42
  refine oF_P0 (σ := (Nat → Int32) × Int32 × Int32) (fun d z => z.2.1 = nI (x / (m + 1) ^ d) ∧ z.2.2 = nI (k - d) - 1 ∧ ∀ s, k - d ≤ s → s < k → z.1 s = nI (dg (m + 1) k x s)) k (fun r => ∃ w', (∀ s, s < k → w' s = nI (dg (m + 1) k x s)) ∧ r = if RF rows (m + 1) k x = true then some (1, w') else k26 (w', nI (x + 1))) (wt, nI x, nI k - 1) ⟨by show nI x = nI (x / (m + 1) ^ 0); rw [Nat.pow_zero, Nat.div_one], rfl, fun s h1 h2 => absurd h1 (by omega)⟩ (by omega) ?_ ?_
  · rintro d ⟨z1, z2, z3⟩ k' hd ⟨g1, g2, g3⟩ hk'
    dsimp only at g1 g2 g3 ⊢
    subst g1; subst g2
    have e1 : nI (k - d) - 1 = nI (k - d - 1) := by rw [show k - d = k - d - 1 + 1 by omega, ← nI_1, Int32.add_sub_cancel, show k - d - 1 + 1 - 1 = k - d - 1 by omega]
    have e2 : nI (k - d - 1) + (-1 : Int32) = nI (k - (d + 1)) - 1 := by rw [show k - (d + 1) = k - d - 1 by omega, Int32.sub_eq_add_neg]
    have hq : x / (m + 1) ^ d ≤ x := Nat.div_le_self _ _
    have hne : ¬ nI (m + 1) = 0 := by rw [i0, nI_inj (by omega) (by omega)]; omega
    unfold b_X10_findWeights_42
    rw [e1, if_neg (nI_pos (by omega)), nI_1, oG_s hne, oA_n (k - d - 1) _ rfl (by omega) (by decide), oL_s, oG_s hne, oL_s, oL_s, pk_rem (by omega) (by omega) (by omega), pk_div (by omega) (by omega) (by omega), e2]
    refine hk' _ ⟨?_, rfl, fun s h1 h2 => ?_⟩
    · dsimp only
      rw [Nat.div_div_eq_div_mul, ← Nat.pow_succ]
    · dsimp only
      by_cases e : s = k - d - 1
      · subst e
        rw [upd_s]
        unfold dg
        rw [show k - 1 - (k - d - 1) = d by omega]
      · rw [upd_n _ _ e]; exact g3 s (by omega) h2
  · rintro ⟨z1, z2, z3⟩ k' ⟨g1, g2, g3⟩
    dsimp only at g1 g2 g3 ⊢
    subst g1; subst g2
    unfold b_X10_findWeights_42
    have hw : ∀ s, s < k → z1 s = nI (dg (m + 1) k x s) := fun s hs => g3 s (by omega) hs
    rw [Nat.sub_self, if_pos (by decide), isRefuted10 (rows := rows) (wt := z1) (by omega) (fun s hs => ⟨(hr s hs).1, (hr s hs).2, rfl⟩), oB1_s]
    have hR : rfB (fun y => wv rows z1 y k) = RF rows (m + 1) k x := by
      unfold RF
      congr 1
      funext y
      exact wv_congr y hw
    rw [hR]
    refine ⟨z1, hw, ?_⟩
    simp only [bi_0, oL_s, nI_1]
    cases RF rows (m + 1) k x <;> rfl
theorem findWeights10 {rows sOf sNum sMost : Nat → Int32} {k m : Nat} (hr : RWS rows sNum sMost k) (hk : k ≤ 6) (hm : m ≤ 6) (wt : Nat → Int32) : (∃ x, x < (m + 1) ^ k ∧ RF rows (m + 1) k x = true ∧ (∀ y, y < x → RF rows (m + 1) k y = false) ∧ ∃ w', f_X10_findWeights (nI k) sOf sNum sMost wt (nI m) = some (1, w') ∧ ∀ s, s < k → w' s = nI (dg (m + 1) k x s)) ∨ ((∀ y, y < (m + 1) ^ k → RF rows (m + 1) k y = false) ∧ ∃ w', f_X10_findWeights (nI k) sOf sNum sMost wt (nI m) = some (0, w')) := by
  have hb := B_big hm hk
  have hfirst : f_X10_findWeights (nI k) sOf sNum sMost wt (nI m) = L_X10_findWeights_26 (nI k) sOf sNum sMost (nI m) (nI ((m + 1) ^ k)) (wt, 0) := by
    unfold f_X10_findWeights L_X10_findWeights_4
    refine oF_run0 (fun i => (nI ((m + 1) ^ i), nI i)) k _ rfl (by omega) ?_ ?_
    · intro i hi k'
      dsimp only
      unfold b_X10_findWeights_4
      rw [if_neg (by rw [nI_le_iff (by omega) (by omega)]; omega), oL_s, oL_s, nI_1, nI_1, nI_mul, ← Nat.pow_succ]
    · intro k'
      dsimp only
      unfold b_X10_findWeights_4
      rw [if_pos (by rw [nI_le_iff (by omega) (by omega)]; omega)]
  rw [hfirst]
  unfold L_X10_findWeights_26
  refine oF_P0 (σ := (Nat → Int32) × Int32) (fun x z => z.2 = nI x ∧ ∀ y, y < x → RF rows (m + 1) k y = false) ((m + 1) ^ k) (fun (r : Option (Int32 × (Nat → Int32))) => (∃ x, x < (m + 1) ^ k ∧ RF rows (m + 1) k x = true ∧ (∀ y, y < x → RF rows (m + 1) k y = false) ∧ ∃ w', r = some (1, w') ∧ ∀ s, s < k → w' s = nI (dg (m + 1) k x s)) ∨ ((∀ y, y < (m + 1) ^ k → RF rows (m + 1) k y = false) ∧ ∃ w', r = some (0, w'))) _ ⟨rfl, fun y hy => absurd hy (by omega)⟩ (by omega) ?_ ?_
  · rintro x ⟨z1, z2⟩ k' hx ⟨g1, g2⟩ hk'
    dsimp only at g1 g2 ⊢
    subst g1
    unfold b_X10_findWeights_26
    rw [if_neg (by rw [nI_le_iff (by omega) (by omega)]; omega), oL_s]
    obtain ⟨w', a1, a2⟩ := find42 (sOf := sOf) hr hk hm hx z1 k'
    rw [a2]
    by_cases hR : RF rows (m + 1) k x = true
    · rw [if_pos hR]
      exact Or.inl ⟨x, hx, hR, g2, w', rfl, a1⟩
    · rw [if_neg hR]
      refine hk' _ ⟨rfl, fun y hy => ?_⟩
      by_cases e : y = x
      · rw [e]; simpa using hR
      · exact g2 y (by omega)
  · rintro ⟨z1, z2⟩ k' ⟨g1, g2⟩
    dsimp only at g1 g2 ⊢
    subst g1
    unfold b_X10_findWeights_26
    rw [if_pos (by rw [nI_le_iff (by omega) (by omega)]; omega)]
    exact Or.inr ⟨g2, z1, rfl⟩
theorem copyRow10 (a b : Nat → Int32) {k : Nat} (hk : k ≤ 8) : ∃ b', f_X10_copyRow 8 8 a b (nI k) = some b' ∧ ∀ s, s < k → b' s = a s := by
  unfold f_X10_copyRow L_X10_copyRow_2
  refine oF_P0 (σ := (Nat → Int32) × Int32) (fun i z => z.2 = nI i ∧ ∀ s, s < i → z.1 s = a s) k (fun (r : Option (Nat → Int32)) => ∃ b', r = some b' ∧ ∀ s, s < k → b' s = a s) _ ⟨rfl, fun s hs => absurd hs (by omega)⟩ (by omega) ?_ ?_
  · rintro i ⟨z1, z2⟩ k' hi ⟨g1, g2⟩ hk'
    dsimp only at g1 g2 ⊢
    subst g1
    unfold b_X10_copyRow_2
    rw [if_neg (by rw [nI_le_iff (by omega) (by omega)]; omega), oA8 (by omega), oA8 (by omega), oL_s, oL_s, nI_1]
    refine hk' _ ⟨rfl, fun s hs => ?_⟩
    dsimp only
    by_cases e : s = i
    · subst e; exact upd_s _ _ _
    · rw [upd_n _ _ e]; exact g2 s (by omega)
  · rintro ⟨z1, z2⟩ k' ⟨g1, g2⟩
    dsimp only at g1 g2 ⊢
    subst g1
    unfold b_X10_copyRow_2
    rw [if_pos (by rw [nI_le_iff (by omega) (by omega)]; omega)]
    exact ⟨z1, rfl, g2⟩
/-- the greatest of the weights -/
def gw (w : Nat → Nat) : Nat → Nat
  | 0 => 0
  | s + 1 => max (gw w s) (w s)
theorem gw_le (w : Nat → Nat) {m : Nat} : ∀ k, (∀ s, s < k → w s ≤ m) → gw w k ≤ m := by
  intro k
  induction k with
  | zero => intro _; exact Nat.zero_le _
  | succ k ih => intro h; rw [gw]; exact Nat.max_le.mpr ⟨ih (fun s hs => h s (by omega)), h k (by omega)⟩
theorem le_gw (w : Nat → Nat) : ∀ k s, s < k → w s ≤ gw w k := by
  intro k
  induction k with
  | zero => intro s hs; exact absurd hs (by omega)
  | succ k ih =>
    intro s hs
    rw [gw]
    by_cases e : s = k
    · rw [e]; exact Nat.le_max_right _ _
    · exact Nat.le_trans (ih s (by omega)) (Nat.le_max_left _ _)
theorem greatest10 {wt : Nat → Int32} {w : Nat → Nat} {k : Nat} (hk : k ≤ 8) (hw : ∀ s, s < k → wt s = nI (w s) ∧ w s ≤ 6) : f_X10_greatestWeight (nI k) wt = some (nI (gw w k)) := by
  unfold f_X10_greatestWeight L_X10_greatestWeight_4
  refine oF_run0 (fun i => (nI (gw w i), nI i)) k _ rfl (by omega) ?_ ?_
  · intro i hi k'
    dsimp only
    unfold b_X10_greatestWeight_4 f_X10_greatestWeight_32
    have h6 := gw_le w (m := 6) i (fun s hs => (hw s (by omega)).2)
    obtain ⟨e1, e2⟩ := hw i hi
    rw [if_neg (by rw [nI_le_iff (by omega) (by omega)]; omega), oA8 (by omega), oA8 (by omega), e1, oL_s, oL_s, nI_1, gw]
    by_cases hc : w i ≤ gw w i
    · rw [if_pos (by rw [nI_le_iff (by omega) (by omega)]; exact hc), Nat.max_eq_left hc]
    · rw [if_neg (by rw [nI_le_iff (by omega) (by omega)]; exact hc), Nat.max_eq_right (by omega)]
  · intro k'
    dsimp only
    unfold b_X10_greatestWeight_4
    rw [if_pos (by rw [nI_le_iff (by omega) (by omega)]; omega)]
