/-! about -/
theorem dn7 : ∀ d, d < 8 → (if d < 8 then nI (7 - d) else (-1 : Int32)) + (-1 : Int32) = (if d + 1 < 8 then nI (7 - (d + 1)) else -1) := by decide
theorem countOf42 {S : Nat → Bool} {names pairs : Nat → Int32} (hN : NMI S names 8 0) : ∃ names' pairs' cnt', L_X3_countOf_42 (0, names, pairs, 7) = some (nI (ptot S 8), names', pairs', cnt') := by
  unfold L_X3_countOf_42
  refine oF_P0 (σ := Int32 × (Nat → Int32) × (Nat → Int32) × Int32) (fun d z => ∃ cnt, z.1 = nI cnt ∧ NMI S z.2.1 (8 - d) cnt ∧ cnt + ptot S (8 - d) = ptot S 8 ∧ cnt + 2 ^ (8 - d) ≤ 256 ∧ z.2.2.2 = if d < 8 then nI (7 - d) else (-1 : Int32)) 8 (fun (r : Option (Int32 × (Nat → Int32) × (Nat → Int32) × Int32)) => ∃ names' pairs' cnt', r = some (nI (ptot S 8), names', pairs', cnt')) _ ⟨0, rfl, hN, by rw [Nat.zero_add], by decide, rfl⟩ (by omega) ?_ ?_
  · rintro d ⟨z1, z2, z3, z4⟩ k hd ⟨cnt, g1, g2, g3, g4, g5⟩ hk
    dsimp only at g1 g2 g3 g4 g5 ⊢
    subst g1; subst g5
    unfold b_X3_countOf_42
    have e8 : 8 - d = 7 - d + 1 := by omega
    rw [e8] at g2 g3 g4
    obtain ⟨n', p', a1, a2⟩ := tellBack9 (pairs := z3) (show 7 - d < 8 by omega) g4 g2
    have e9 : 8 - (d + 1) = 7 - d := by omega
    have hp := (pw_half (show 7 - d < 8 by omega)).2
    have hc := cN_le (fun u => hgn S (7 - d) u && frs S (7 - d) u u) (2 ^ (7 - d))
    have hc' : pcn S (7 - d) (2 ^ (7 - d)) ≤ 2 ^ (7 - d) := hc
    have hz : (if d < 8 then nI (7 - d) else (-1 : Int32)) = nI (7 - d) := if_pos hd
    have hdn := dn7 d hd
    rw [hz] at hdn ⊢
    rw [if_neg (nI_pos (by omega)), a1, oB3_s, oL_s, hdn]
    refine hk _ ⟨cnt + pcn S (7 - d) (2 ^ (7 - d)), rfl, by rw [e9]; exact a2, ?_, ?_, rfl⟩
    · rw [e9]
      have : ptot S (7 - d + 1) = ptot S (7 - d) + pcn S (7 - d) (2 ^ (7 - d)) := rfl
      omega
    · rw [e9]; omega
  · rintro ⟨z1, z2, z3, z4⟩ k ⟨cnt, g1, g2, g3, g4, g5⟩
    dsimp only at g1 g2 g3 g4 g5 ⊢
    subst g1; subst g5
    unfold b_X3_countOf_42
    rw [if_pos (by decide)]
    have : cnt = ptot S 8 := g3
    rw [this]
    exact ⟨_, _, _, rfl⟩
theorem countOf9 {wd : Nat → Int64} {t : Nat} {S : Nat → Bool} (ht : t < 40) (h : ∀ q, q < 4 → ∀ i, i < 64 → bl (wd (4 * t + q)) i = S (64 * q + i)) (names pairs : Nat → Int32) : ∃ names' pairs' cnt', f_X3_countOf names pairs (nI (4 * t)) wd = some (nI (ptot S 8), names', pairs', cnt') := by
  unfold f_X3_countOf L_X3_countOf_2
  refine oF_P0 (σ := (Nat → Int32) × Int32) (fun w z => z.2 = nI w ∧ ∀ u, u < w → z.1 u = bi (S u)) 256 (fun (r : Option (Int32 × (Nat → Int32) × (Nat → Int32) × Int32)) => ∃ names' pairs' cnt', r = some (nI (ptot S 8), names', pairs', cnt')) _ ⟨rfl, fun u hu => absurd hu (by omega)⟩ (by omega) ?_ ?_
  · rintro w ⟨z1, z2⟩ k hw ⟨g1, g2⟩ hk
    dsimp only at g1 g2 ⊢
    subst g1
    unfold b_X3_countOf_2 f_X3_countOf_27
    rw [if_neg (by rw [i256, nI_le_iff (by omega) (by omega)]; omega), isSo9 ht hw, oB1_s, h _ (by omega) _ (by omega), show 64 * (w / 64) + w % 64 = w by omega]
    simp only [bi_0, oA_n w _ rfl (show w < 256 from hw) (by decide), oL_s, nI_1]
    cases hS : S w
    · rw [if_pos rfl]
      refine hk _ ⟨rfl, fun u hu => ?_⟩
      dsimp only
      by_cases e : u = w
      · subst e; rw [upd_s, hS]; rfl
      · rw [upd_n _ _ e]; exact g2 u (by omega)
    · rw [if_neg (by decide)]
      refine hk _ ⟨rfl, fun u hu => ?_⟩
      dsimp only
      by_cases e : u = w
      · subst e; rw [upd_s, hS]; rfl
      · rw [upd_n _ _ e]; exact g2 u (by omega)
  · rintro ⟨z1, z2⟩ k ⟨g1, g2⟩
    dsimp only at g1 g2 ⊢
    subst g1
    unfold b_X3_countOf_2
    rw [if_pos (show (256 : Int32) ≤ nI 256 by decide)]
    apply countOf42
    refine ⟨fun u => if S u then 1 else 0, fun u hu => ?_, fun u u' hu hu' => ?_⟩
    · rw [g2 u hu]
      dsimp only
      cases S u
      · exact ⟨rfl, by decide⟩
      · exact ⟨rfl, by decide⟩
    · rw [alk_iff]
      dsimp only
      constructor
      · intro hh k hk
        have hk0 : k = 0 := by
          have : k < 1 := hk
          omega
        subst hk0
        rw [Nat.mul_zero, Nat.add_zero, Nat.add_zero]
        revert hh
        cases S u <;> cases S u' <;> decide
      · intro hh
        have := hh 0 (by decide)
        rw [Nat.mul_zero, Nat.add_zero, Nat.add_zero] at this
        rw [this]
theorem about_ok {c : Nat → Int32} {R : RW} {cl n : Nat} (h : SRR c R cl n) (base pc : Int32) (wd : Nat → Int64) (names pairs so : Nat → Int32) (x y z : Int32) : ∃ r wd' base' names' pairs' pc' so', f_X9_about base wd pc names pairs (nI cl) (nI n) (lo (R 0) (R 1) (R 2) 0 cl) (lo (R 0) (R 1) (R 2) 1 cl) c x y z = some (r, wd', base', names', pairs', pc') ∧ f_X10_about (nI cl) (nI n) (R 0) (R 1) (R 2) (R 3) (R 4) (R 5) so x y z = some (r, so') := by
  have hn : n ≤ 40 := by have := h.1; have := h.2.2.1; omega
  unfold f_X9_about f_X10_about
  rw [isStep_eq (by omega), isSystem9_eq, isSystem10_eq, in_eq0 z 2 2 rfl]
  rcases i_cases y n (by omega) with ⟨t, ht, rfl⟩ | hy
  · rw [has_in ht (by omega), oB1_s, oB1_s]
    simp only [show ¬ (1 : Int32) = 0 by decide, if_false]
    rcases i_cases x 3 (by omega) with ⟨sys, hsys, rfl⟩ | hx
    · rw [show f_X9_within (nI sys) 0 2 = some 1 from wi_in (m := 2) (by omega) (by decide), oB1_s, oB1_s]
      simp only [show ¬ (1 : Int32) = 0 by decide, if_false]
      rcases i_cases z 3 (by omega) with ⟨w, hw, rfl⟩ | hz
      · rw [show f_X9_within (nI w) 0 2 = some 1 from wi_in (m := 2) (by omega) (by decide), oB1_s, oB1_s]
        simp only [show ¬ (1 : Int32) = 0 by decide, if_false]
        obtain ⟨wd', a1, a2⟩ := read9 h ht (show sys ≤ 2 by omega) wd
        obtain ⟨so', b1, b2⟩ := lay10 h ht (nI sys) so
        have hS := fun q hq i hi => a2 t (by omega) q hq i hi
        have hT := fun w hw => b2 t (by omega) w hw
        obtain ⟨r1, w1, w2⟩ := worldsSo_ok (by omega) hS hT
        obtain ⟨r2, s1, s2⟩ := speaks_ok (by omega) hS hT
        obtain ⟨n', p', c', q1⟩ := countOf9 (by omega) hS names pairs
        rw [a1, oB2_s, b1, oB1_s, w1, w2, s1, s2, q1, parts10 (by omega) hT]
        simp only [oB1_s, oB4_s]
        rcases (show w = 0 ∨ w = 1 ∨ w = 2 by omega) with rfl | rfl | rfl
        · rw [if_pos (show nI 0 = 0 from rfl), if_pos (show nI 0 = 0 from rfl)]
          exact ⟨_, _, _, _, _, _, _, rfl, rfl⟩
        · rw [if_neg (show ¬ nI 1 = 0 by decide), if_neg (show ¬ nI 1 = 0 by decide), if_pos (show nI 1 = 1 from rfl), if_pos (show nI 1 = 1 from rfl)]
          exact ⟨_, _, _, _, _, _, _, rfl, rfl⟩
        · rw [if_neg (show ¬ nI 2 = 0 by decide), if_neg (show ¬ nI 2 = 0 by decide), if_neg (show ¬ nI 2 = 1 by decide), if_neg (show ¬ nI 2 = 1 by decide)]
          exact ⟨_, _, _, _, _, _, _, rfl, rfl⟩
      · rw [show f_X9_within z 0 2 = some 0 from wi_out (m := 2) (by decide) hz, oB1_s, oB1_s]
        exact ⟨_, _, _, _, _, _, _, rfl, rfl⟩
    · rw [show f_X9_within x 0 2 = some 0 from wi_out (m := 2) (by decide) hx, oB1_s, oB1_s]
      exact ⟨_, _, _, _, _, _, _, rfl, rfl⟩
  · rw [has_out hy, oB1_s, oB1_s]
    exact ⟨_, _, _, _, _, _, _, rfl, rfl⟩
