/-! saysMore -/
def aN (P : Nat → Bool) : Nat → Bool
  | 0 => true
  | k + 1 => aN P k && P k
theorem aN_iff (P : Nat → Bool) : ∀ k, aN P k = true ↔ ∀ w, w < k → P w = true := by
  intro k
  induction k with
  | zero => simp [aN]
  | succ k ih =>
    rw [aN, Bool.and_eq_true, ih]
    constructor
    · rintro ⟨h1, h2⟩ w hw
      by_cases e : w = k
      · subst e; exact h2
      · exact h1 w (by omega)
    · intro h
      exact ⟨fun w hw => h w (by omega), h k (by omega)⟩
theorem aN_congr {P Q : Nat → Bool} : ∀ {k : Nat}, (∀ i, i < k → P i = Q i) → aN P k = aN Q k := by
  intro k
  induction k with
  | zero => intro _; rfl
  | succ k ih => intro h; rw [aN, aN, ih (fun i hi => h i (by omega)), h k (by omega)]
theorem aN_add (P : Nat → Bool) (a : Nat) : ∀ b, aN P (a + b) = (aN P a && aN (fun i => P (a + i)) b) := by
  intro b
  induction b with
  | zero => rw [aN, Bool.and_true]; rfl
  | succ b ih => rw [← Nat.add_assoc, aN, aN, ih, Bool.and_assoc]
theorem w_zero {x : Int64} {P : Nat → Bool} (h : ∀ i, i < 64 → bl x i = !(P i)) : (lg_cmp x 0 = 0) ↔ aN P 64 = true := by
  rw [lg_cmp_eq, aN_iff]
  constructor
  · intro hx w hw
    have := h w hw
    rw [hx, l_0] at this
    cases hP : P w
    · rw [hP] at this; exact absurd this (by decide)
    · rfl
  · intro hP
    apply l_ext
    intro i hi
    rw [h i hi, hP i hi, l_0]; rfl
theorem only9 {w1 w2 : Nat → Int64} {t : Nat} {S T : Nat → Bool} (ht : t < 40) (h1 : ∀ q, q < 4 → ∀ i, i < 64 → bl (w1 (4 * t + q)) i = S (64 * q + i)) (h2 : ∀ q, q < 4 → ∀ i, i < 64 → bl (w2 (4 * t + q)) i = T (64 * q + i)) : f_X4_isSoOnlyWhere (nI (4 * t)) w1 (nI (4 * t)) w2 = some (bi (aN (fun w => !(S w) || T w) 256)) := by
  unfold f_X4_isSoOnlyWhere L_X4_isSoOnlyWhere_2
  refine oF_P0 (σ := Int32) (fun q z => z = nI q ∧ aN (fun w => !(S w) || T w) (64 * q) = true) 4 (fun r => r = some (bi (aN (fun w => !(S w) || T w) 256))) _ ⟨rfl, rfl⟩ (by omega) ?_ ?_
  · rintro q z k hq ⟨rfl, g⟩ hk
    unfold b_X4_isSoOnlyWhere_2
    have hx : ∀ i, i < 64 → bl (w1 (4 * t + q) &&& (w2 (4 * t + q) ^^^ -1)) i = !((fun i => !(S (64 * q + i)) || T (64 * q + i)) i) := fun i hi => by
      rw [l_and, l_xor, l_m1 i hi, h1 q hq i hi, h2 q hq i hi]
      dsimp only
      cases S (64 * q + i) <;> cases T (64 * q + i) <;> rfl
    have hz := w_zero hx
    have ha := aN_add (fun w => !(S w) || T w) (64 * q) 64
    rw [if_neg (by rw [i4, nI_le_iff (by omega) (by omega)]; omega), word9 w1 ht hq, oB1_s, word9 w2 ht hq, oB1_s]
    by_cases hc : aN (fun i => !(S (64 * q + i)) || T (64 * q + i)) 64 = true
    · rw [if_pos (hz.mpr hc), oL_s, nI_1]
      refine hk _ ⟨rfl, ?_⟩
      rw [show 64 * (q + 1) = 64 * q + 64 by omega, ha, g, hc]; rfl
    · rw [if_neg (fun hh => hc (hz.mp hh))]
      have : aN (fun w => !(S w) || T w) 256 = false := by
        cases hA : aN (fun w => !(S w) || T w) 256
        · rfl
        · exfalso
          apply hc
          rw [aN_iff] at hA ⊢
          intro w hw
          exact hA (64 * q + w) (by omega)
      rw [this]; rfl
  · rintro z k ⟨rfl, g⟩
    unfold b_X4_isSoOnlyWhere_2
    rw [if_pos (show (4 : Int32) ≤ nI 4 by decide)]
    rw [show 64 * 4 = 256 from rfl] at g
    rw [g]; rfl
theorem says83 {so ot : Nat → Int32} {t : Nat} {S T : Nat → Bool} (ht : t < 40) (h1 : ∀ w, w < 256 → so (256 * t + w) = bi (S w)) (h2 : ∀ w, w < 256 → ot w = bi (T w)) : L_X10_saysMore_83 so ot (nI t) (1, 0) = some (bi (aN (fun w => !(S w) || T w) 256), so, ot) := by
  unfold L_X10_saysMore_83
  refine oF_run0 (fun w => (bi (aN (fun w => !(S w) || T w) w), nI w)) 256 _ rfl (by omega) ?_ ?_
  · intro w hw k
    dsimp only
    unfold b_X10_saysMore_83 f_X10_saysMore_126 f_X10_saysMore_122 f_X10_saysMore_127
    rw [if_neg (by rw [i256, nI_le_iff (by omega) (by omega)]; omega), oA_n (256 * t + w) _ (by rw [i256, nI_mul, nI_add]) (by omega) (by decide), oA_n w _ rfl hw (by decide), h1 w hw, h2 w hw]
    simp only [bi_0, oL_s, nI_1, aN]
    generalize aN (fun w => !(S w) || T w) w = A
    cases A <;> cases S w <;> cases T w <;> rfl
  · intro k
    dsimp only
    unfold b_X10_saysMore_83
    rw [if_pos (show (256 : Int32) ≤ nI 256 by decide)]
    cases aN (fun w => !(S w) || T w) 256 <;> rfl
theorem saysMore_ok {c : Nat → Int32} {R : RW} {cl n : Nat} (h : SRR c R cl n) (base obase : Int32) (wd od : Nat → Int64) (so ot : Nat → Int32) (x y z : Int32) : ∃ r wd' base' od' obase' so' ot', f_X9_saysMore base wd obase od (nI cl) (nI n) (lo (R 0) (R 1) (R 2) 0 cl) (lo (R 0) (R 1) (R 2) 1 cl) c x y z = some (r, wd', base', od', obase') ∧ f_X10_saysMore (nI cl) (nI n) (R 0) (R 1) (R 2) (R 3) (R 4) (R 5) so ot x y z = some (r, so', ot') := by
  have hn : n ≤ 40 := by have := h.1; have := h.2.2.1; omega
  unfold f_X9_saysMore f_X10_saysMore
  rw [isStep_eq (by omega), isSystem9_eq, isSystem10_eq, isSystem9_eq, isSystem10_eq]
  rcases i_cases x n (by omega) with ⟨t, ht, rfl⟩ | hx
  · rw [has_in ht (by omega), oB1_s, oB1_s]
    simp only [show ¬ (1 : Int32) = 0 by decide, if_false]
    rcases i_cases y 3 (by omega) with ⟨s1, hs1, rfl⟩ | hy
    · rw [show f_X9_within (nI s1) 0 2 = some 1 from wi_in (m := 2) (by omega) (by decide), oB1_s, oB1_s]
      simp only [show ¬ (1 : Int32) = 0 by decide, if_false]
      rcases i_cases z 3 (by omega) with ⟨s2, hs2, rfl⟩ | hz
      · rw [show f_X9_within (nI s2) 0 2 = some 1 from wi_in (m := 2) (by omega) (by decide), oB1_s, oB1_s]
        simp only [show ¬ (1 : Int32) = 0 by decide, if_false]
        obtain ⟨wd', a1, a2⟩ := read9 h ht (show s1 ≤ 2 by omega) wd
        obtain ⟨od', a3, a4⟩ := read9 h ht (show s2 ≤ 2 by omega) od
        obtain ⟨so1, b1, b2⟩ := lay10 h ht (nI s2) so
        obtain ⟨so2, b3, b4⟩ := lay10 h ht (nI s1) so1
        rw [a1, oB2_s, a3, oB2_s, only9 (by omega) (fun q hq i hi => a2 t (by omega) q hq i hi) (fun q hq i hi => a4 t (by omega) q hq i hi), oB1_s, b1, oB1_s]
        have hL : ∃ ot', L_X10_saysMore_37 (nI cl) (R 0) (R 1) (R 2) (R 3) (R 4) (R 5) so1 (nI t) (nI s1) (ot, 0) = some (bi (aN (fun w => !(SY R cl (nI s1) (t + 1) t w) || SY R cl (nI s2) (t + 1) t w) 256), so2, ot') := by
          unfold L_X10_saysMore_37
          refine oF_P0 (σ := (Nat → Int32) × Int32) (fun w z => z.2 = nI w ∧ ∀ w', w' < w → z.1 w' = bi (SY R cl (nI s2) (t + 1) t w')) 256 (fun r => ∃ ot', r = some (bi (aN (fun w => !(SY R cl (nI s1) (t + 1) t w) || SY R cl (nI s2) (t + 1) t w) 256), so2, ot')) _ ⟨rfl, fun w hw => absurd hw (by omega)⟩ (by omega) ?_ ?_
          · rintro w ⟨z1, z2⟩ k hw ⟨g1, g2⟩ hk
            dsimp only at g1 g2 ⊢
            subst g1
            unfold b_X10_saysMore_37
            rw [if_neg (by rw [i256, nI_le_iff (by omega) (by omega)]; omega), oA_n (256 * t + w) _ (by rw [i256, nI_mul, nI_add]) (by omega) (by decide), oA_n w _ rfl hw (by decide), b2 t (by omega) w hw, oZ_bi, oL_s, oL_s, nI_1]
            refine hk _ ⟨rfl, fun w' hw' => ?_⟩
            dsimp only
            by_cases e : w' = w
            · subst e; exact upd_s _ _ _
            · rw [upd_n _ _ e]; exact g2 w' (by omega)
          · rintro ⟨z1, z2⟩ k ⟨g1, g2⟩
            dsimp only at g1 g2 ⊢
            subst g1
            unfold b_X10_saysMore_37
            rw [if_pos (show (256 : Int32) ≤ nI 256 by decide), b3, oB1_s, says83 (by omega) (fun w hw => b4 t (by omega) w hw) g2]
            exact ⟨_, rfl⟩
        obtain ⟨ot', hL⟩ := hL
        rw [hL]
        simp only [bi_0]
        cases aN (fun w => !(SY R cl (nI s1) (t + 1) t w) || SY R cl (nI s2) (t + 1) t w) 256
        · exact ⟨_, _, _, _, _, _, _, rfl, rfl⟩
        · exact ⟨_, _, _, _, _, _, _, rfl, rfl⟩
      · rw [show f_X9_within z 0 2 = some 0 from wi_out (m := 2) (by decide) hz, oB1_s, oB1_s]
        exact ⟨_, _, _, _, _, _, _, rfl, rfl⟩
    · rw [show f_X9_within y 0 2 = some 0 from wi_out (m := 2) (by decide) hy, oB1_s, oB1_s]
      exact ⟨_, _, _, _, _, _, _, rfl, rfl⟩
  · rw [has_out hx, oB1_s, oB1_s]
    exact ⟨_, _, _, _, _, _, _, rfl, rfl⟩
