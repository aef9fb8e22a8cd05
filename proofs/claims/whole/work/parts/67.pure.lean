/-! sums -/
theorem or_z (x : Int32) : (x ||| 0) = x := b_ext (fun i _ => by rw [b_or, b_0, Bool.or_false])
theorem add_z (x : Int32) : x + 0 = x := Int32.add_zero x
theorem oA8 {β : Type} {j : Nat} (h : j < 8) (k : Nat → Option β) : oA (nI j) 8 k = k j := oA_n j k rfl h (by decide)
/-- the sums of both -/
def WR (rows pty wt sOf sNum sMost wt' : Nat → Int32) (k : Nat) : Prop := k ≤ 8 ∧ ∀ s, s < k → pty s = sOf s ∧ (sOf s = 0 ∨ sOf s = 1) ∧ wt s = wt' s ∧ (∃ w, w ≤ 20 ∧ wt' s = nI w) ∧ (∀ x, x < 4 → rows (5 * s + x) = sNum (4 * s + x) ∧ -9 ≤ (sNum (4 * s + x)).toInt ∧ (sNum (4 * s + x)).toInt ≤ 9) ∧ rows (5 * s + 4) = sMost s ∧ -99 ≤ (sMost s).toInt ∧ (sMost s).toInt ≤ 99
theorem in_eqc (x : Int32) (lo' hi' : Int64) (lo hi : Int32) (e1 : lo.toInt64 = lo') (e2 : hi.toInt64 = hi') : f_X10_in x.toInt64 lo' hi' = f_X9_within x lo hi := by
  rw [← e1, ← e2]; exact in_eq x lo hi
theorem add9 (rows pty wt : Nat → Int32) {k : Nat} (hk : k < 8) (p a b c d m : Int32) : ∃ rows', f_X6_add (nI k) rows pty wt p a b c d m = some (nI k, rows', upd pty k p, upd wt k 0, nI (k + 1)) ∧ (∀ q, q < 5 * k → rows' q = rows q) ∧ rows' (5 * k) = a ∧ rows' (5 * k + 1) = b ∧ rows' (5 * k + 2) = c ∧ rows' (5 * k + 3) = d ∧ rows' (5 * k + 4) = m := by
  unfold f_X6_add
  simp only [oL_s, i5, nI_mul, oA8 hk, nI_1 k]
  rw [Nat.mul_comm k 5, oA_n (5 * k) _ rfl (by omega) (by decide), oA_n (5 * k + 1) _ (by rw [i1, nI_add]) (by omega) (by decide), oA_n (5 * k + 2) _ (by rw [i2, nI_add]) (by omega) (by decide), oA_n (5 * k + 3) _ (by rw [i3, nI_add]) (by omega) (by decide), oA_n (5 * k + 4) _ (by rw [i4, nI_add]) (by omega) (by decide), nI_pred]
  refine ⟨_, rfl, fun q hq => ?_, ?_, ?_, ?_, ?_, ?_⟩
  · rw [upd_n _ _ (by omega), upd_n _ _ (by omega), upd_n _ _ (by omega), upd_n _ _ (by omega), upd_n _ _ (by omega)]
  · rw [upd_n _ _ (by omega), upd_n _ _ (by omega), upd_n _ _ (by omega), upd_n _ _ (by omega), upd_s]
  · rw [upd_n _ _ (by omega), upd_n _ _ (by omega), upd_n _ _ (by omega), upd_s]
  · rw [upd_n _ _ (by omega), upd_n _ _ (by omega), upd_s]
  · rw [upd_n _ _ (by omega), upd_s]
  · rw [upd_s]
theorem m9_toInt : (-9 : Int32).toInt = -9 := by decide
theorem p9_toInt : (9 : Int32).toInt = 9 := by decide
theorem m99_toInt : (-99 : Int32).toInt = -99 := by decide
theorem p99_toInt : (99 : Int32).toInt = 99 := by decide
theorem sum35_ok {rows pty wt sOf sNum sMost wt' : Nat → Int32} {k : Nat} (h : WR rows pty wt sOf sNum sMost wt' k) (p a b c d m : Int32) (hp : ∃ j, j < 2 ∧ p = nI j) (ha : -9 ≤ a.toInt ∧ a.toInt ≤ 9) (hb : -9 ≤ b.toInt ∧ b.toInt ≤ 9) (hc : -9 ≤ c.toInt ∧ c.toInt ≤ 9) (hd : -9 ≤ d.toInt ∧ d.toInt ≤ 9) (hm : -99 ≤ m.toInt ∧ m.toInt ≤ 99) (hk : k < 8) : ∃ rows' sNum', f_X6_add (nI k) rows pty wt p a b c d m = some (nI k, rows', upd pty k p, upd wt k 0, nI (k + 1)) ∧ f_X10_sum_35 (nI k) sOf sNum sMost wt' p a b c d m 1 = some (nI k, nI (k + 1), upd sOf k p, sNum', upd sMost k m, upd wt' k 0) ∧ WR rows' (upd pty k p) (upd wt k 0) (upd sOf k p) sNum' (upd sMost k m) (upd wt' k 0) (k + 1) := by
  obtain ⟨rows', e1, g0, g1, g2, g3, g4, g5⟩ := add9 rows pty wt hk p a b c d m
  obtain ⟨j, hj, rfl⟩ := hp
  have hw : f_X9_within m (-99) 99 = some 1 := by rw [within_eq, decide_eq_true (by rw [le_toInt, le_toInt, m99_toInt, p99_toInt]; exact hm)]; rfl
  unfold f_X10_sum_35
  rw [in_eq0 _ 1 1 rfl, show f_X9_within (nI j) 0 1 = some 1 from wi_in (m := 1) (by omega) (by decide), oB1_s, in_eqc m (-99) 99 (-99) 99 rfl rfl, hw]
  simp only [show ¬ (1 : Int32) = 0 by decide, if_false, oB1_s, oL_s]
  rw [if_neg (by rw [i8, nI_inj (by omega) (by omega)]; omega)]
  simp only [oA8 hk, i4, nI_mul, nI_1 k]
  rw [oA_n (4 * k) _ rfl (by omega) (by decide), oA_n (4 * k + 1) _ (by rw [i1, nI_add]) (by omega) (by decide), oA_n (4 * k + 2) _ (by rw [i2, nI_add]) (by omega) (by decide), oA_n (4 * k + 3) _ (by rw [i3, nI_add]) (by omega) (by decide), nI_pred]
  refine ⟨rows', _, e1, rfl, by omega, fun s hs => ?_⟩
  by_cases e : s = k
  · subst e
    rw [upd_s, upd_s, upd_s, upd_s, upd_s]
    refine ⟨rfl, ?_, rfl, ⟨0, by omega, rfl⟩, fun x hx => ?_, g5, hm⟩
    · rcases (show j = 0 ∨ j = 1 by omega) with rfl | rfl
      · exact Or.inl rfl
      · exact Or.inr rfl
    · rcases (show x = 0 ∨ x = 1 ∨ x = 2 ∨ x = 3 by omega) with rfl | rfl | rfl | rfl
      · rw [upd_n _ _ (by omega), upd_n _ _ (by omega), upd_n _ _ (by omega), show 4 * s + 0 = 4 * s from rfl, upd_s]; exact ⟨g1, ha⟩
      · rw [upd_n _ _ (by omega), upd_n _ _ (by omega), upd_s]; exact ⟨g2, hb⟩
      · rw [upd_n _ _ (by omega), upd_s]; exact ⟨g3, hc⟩
      · rw [upd_s]; exact ⟨g4, hd⟩
  · obtain ⟨q1, q2, q3, q4, q5, q6, q7⟩ := h.2 s (by omega)
    rw [upd_n _ _ e, upd_n _ _ e, upd_n _ _ e, upd_n _ _ e, upd_n _ _ e, g0 _ (by omega)]
    refine ⟨q1, q2, q3, q4, fun x hx => ?_, q6, q7⟩
    rw [upd_n _ _ (by omega), upd_n _ _ (by omega), upd_n _ _ (by omega), upd_n _ _ (by omega), g0 _ (by omega)]
    exact q5 x hx
theorem sum_ok {rows pty wt sOf sNum sMost wt' : Nat → Int32} {k : Nat} (h : WR rows pty wt sOf sNum sMost wt' k) (p a b c d m : Int32) : ∃ r rows' pty' wt1 sOf' sNum' sMost' wt2 k', f_X9_sum (nI k) rows pty wt p a b c d m = some (r, rows', pty', wt1, nI k') ∧ f_X10_sum (nI k) sOf sNum sMost wt' p a b c d m = some (r, nI k', sOf', sNum', sMost', wt2) ∧ WR rows' pty' wt1 sOf' sNum' sMost' wt2 k' := by
  have hk8 := h.1
  have refuse : ∀ r : Int32, ∃ r' rows' pty' wt1 sOf' sNum' sMost' wt2 k', (some (r, rows, pty, wt, nI k) : Option _) = some (r', rows', pty', wt1, nI k') ∧ (some (r, nI k, sOf, sNum, sMost, wt') : Option _) = some (r', nI k', sOf', sNum', sMost', wt2) ∧ WR rows' pty' wt1 sOf' sNum' sMost' wt2 k' := fun r => ⟨r, rows, pty, wt, sOf, sNum, sMost, wt', k, rfl, rfl, h⟩
  have r34 : f_X10_sum_34 (nI k) sOf sNum sMost wt' p a b c d m = some (-1000000002, nI k, sOf, sNum, sMost, wt') := by
    unfold f_X10_sum_34 f_X10_sum_35
    rw [in_eq0 _ 1 1 rfl, within_eq, oB1_s]
    simp only [if_true]
    cases decide ((0 : Int32) ≤ p ∧ p ≤ 1) <;> rfl
  have w9 : ∀ z : Int32, f_X9_within z (-9) 9 = some (bi (decide (-9 ≤ z.toInt ∧ z.toInt ≤ 9))) := fun z => by
    simp only [within_eq, le_toInt, m9_toInt, p9_toInt]
  unfold f_X9_sum f_X10_sum
  simp only [isNumber9_eq, isNumber10_eq, w9, oB1_s, r34]
  by_cases ha : -9 ≤ a.toInt ∧ a.toInt ≤ 9
  · by_cases hb : -9 ≤ b.toInt ∧ b.toInt ≤ 9
    · by_cases hc : -9 ≤ c.toInt ∧ c.toInt ≤ 9
      · by_cases hd : -9 ≤ d.toInt ∧ d.toInt ≤ 9
        · rw [decide_eq_true ha, decide_eq_true hb, decide_eq_true hc, decide_eq_true hd]
          simp only [show ¬ bi true = 0 by decide, if_false]
          rcases i_cases p 2 (by omega) with ⟨j, hj, rfl⟩ | hp
          · rw [show f_X9_within (nI j) 0 1 = some 1 from wi_in (m := 1) (by omega) (by decide), oB1_s]
            simp only [show ¬ (1 : Int32) = 0 by decide, if_false]
            by_cases hm : -99 ≤ m.toInt ∧ m.toInt ≤ 99
            · have hw : f_X9_within m (-99) 99 = some 1 := by rw [within_eq, decide_eq_true (by rw [le_toInt, le_toInt, m99_toInt, p99_toInt]; exact hm)]; rfl
              rw [hw, oB1_s]
              simp only [show ¬ (1 : Int32) = 0 by decide, if_false]
              rcases Nat.lt_or_ge k 8 with hk | hk
              · obtain ⟨rows', sNum', e1, e2, e3⟩ := sum35_ok h (nI j) a b c d m ⟨j, hj, rfl⟩ ha hb hc hd hm hk
                rw [if_pos (by rw [i8, nI_lt_iff (by omega) (by omega)]; exact hk), e1, e2, oB5_s]
                exact ⟨_, _, _, _, _, _, _, _, _, rfl, rfl, e3⟩
              · have e : k = 8 := by omega
                subst e
                rw [if_neg (by decide)]
                unfold f_X10_sum_35
                rw [in_eq0 _ 1 1 rfl, show f_X9_within (nI j) 0 1 = some 1 from wi_in (m := 1) (by omega) (by decide), oB1_s, in_eqc m (-99) 99 (-99) 99 rfl rfl, hw, oB1_s]
                simp only [show ¬ (1 : Int32) = 0 by decide, if_false]
                rw [if_pos (show nI 8 = 8 from rfl)]
                exact refuse _
            · have hw : f_X9_within m (-99) 99 = some 0 := by rw [within_eq, decide_eq_false (by rw [le_toInt, le_toInt, m99_toInt, p99_toInt]; exact hm)]; rfl
              rw [hw, oB1_s]
              unfold f_X10_sum_35
              rw [in_eq0 _ 1 1 rfl, show f_X9_within (nI j) 0 1 = some 1 from wi_in (m := 1) (by omega) (by decide), oB1_s, in_eqc m (-99) 99 (-99) 99 rfl rfl, hw, oB1_s]
              exact refuse _
          · rw [show f_X9_within p 0 1 = some 0 from wi_out (m := 1) (by decide) hp, oB1_s]
            unfold f_X10_sum_35
            rw [in_eq0 _ 1 1 rfl, show f_X9_within p 0 1 = some 0 from wi_out (m := 1) (by decide) hp, oB1_s]
            exact refuse _
        · rw [decide_eq_true ha, decide_eq_true hb, decide_eq_true hc, decide_eq_false hd]
          simp only [show ¬ bi true = 0 by decide, if_false, show bi false = 0 from rfl, if_true, within_eq, oB1_s]
          cases decide ((0 : Int32) ≤ p ∧ p ≤ 1) <;> exact refuse _
      · rw [decide_eq_true ha, decide_eq_true hb, decide_eq_false hc]
        simp only [show ¬ bi true = 0 by decide, if_false, show bi false = 0 from rfl, if_true, within_eq, oB1_s]
        cases decide ((0 : Int32) ≤ p ∧ p ≤ 1) <;> exact refuse _
    · rw [decide_eq_true ha, decide_eq_false hb]
      simp only [show ¬ bi true = 0 by decide, if_false, show bi false = 0 from rfl, if_true, within_eq, oB1_s]
      cases decide ((0 : Int32) ≤ p ∧ p ≤ 1) <;> exact refuse _
  · rw [decide_eq_false ha]
    simp only [show ¬ bi true = 0 by decide, if_false, show bi false = 0 from rfl, if_true, within_eq, oB1_s]
    cases decide ((0 : Int32) ≤ p ∧ p ≤ 1) <;> exact refuse _
theorem weigh_ok {rows pty wt sOf sNum sMost wt' : Nat → Int32} {k : Nat} (h : WR rows pty wt sOf sNum sMost wt' k) (x y : Int32) : ∃ r wt1 wt2, f_X9_weigh (nI k) wt x y = some (r, wt1) ∧ f_X10_weigh (nI k) wt' x y = some (r, wt2) ∧ WR rows pty wt1 sOf sNum sMost wt2 k := by
  have hk8 := h.1
  unfold f_X9_weigh f_X10_weigh
  rw [in_eq0 x _ (nI k - 1) rfl, in_eq0 y 20 20 rfl, ← has_eq (by omega)]
  rcases i_cases x k (by omega) with ⟨s, hs, rfl⟩ | hx
  · rw [has_in hs (by omega), oB1_s, oB1_s]
    simp only [show ¬ (1 : Int32) = 0 by decide, if_false]
    rcases i_cases y 21 (by omega) with ⟨w, hw, rfl⟩ | hy
    · rw [show f_X9_within (nI w) 0 20 = some 1 from wi_in (m := 20) (by omega) (by decide), oB1_s, oB1_s]
      simp only [show ¬ (1 : Int32) = 0 by decide, if_false, oA8 (show s < 8 by omega), oL_s]
      refine ⟨_, _, _, rfl, by rw [(h.2 s hs).2.2.1], hk8, fun q hq => ?_⟩
      obtain ⟨q1, q2, q3, q4, q5⟩ := h.2 q hq
      by_cases e : q = s
      · subst e; rw [upd_s, upd_s]; exact ⟨q1, q2, rfl, ⟨w, by omega, rfl⟩, q5⟩
      · rw [upd_n _ _ e, upd_n _ _ e]; exact ⟨q1, q2, q3, q4, q5⟩
    · rw [show f_X9_within y 0 20 = some 0 from wi_out (m := 20) (by decide) hy, oB1_s, oB1_s]
      exact ⟨_, wt, wt', rfl, rfl, h⟩
  · rw [has_out hx, oB1_s, oB1_s]
    exact ⟨_, wt, wt', rfl, rfl, h⟩
/-- weighed -/
def wv (rows wt : Nat → Int32) (x : Nat) : Nat → Int32
  | 0 => 0
  | s + 1 => wv rows wt x s + rows (5 * s + x) * wt s
def mv (rows pty wt : Nat → Int32) (x : Nat) : Nat → Int32
  | 0 => 0
  | s + 1 => if pty s = 0 then mv rows pty wt x s + rows (5 * s + x) * wt s else mv rows pty wt x s
theorem whole9 (rows wt : Nat → Int32) {x k : Nat} (hx : x < 5) (hk : k ≤ 8) : f_X6_whole (nI k) rows wt (nI x) = some (wv rows wt x k) := by
  unfold f_X6_whole L_X6_whole_4
  refine oF_run0 (fun s => (wv rows wt x s, nI s)) k _ rfl (by omega) ?_ ?_
  · intro s hs q
    show b_X6_whole_4 _ _ _ _ q (wv rows wt x s) (nI s) = _
    unfold b_X6_whole_4
    rw [if_neg (by rw [nI_le_iff (by omega) (by omega)]; omega), oA_n (5 * s + x) _ (by rw [i5, nI_mul, nI_add, Nat.mul_comm]) (by omega) (by decide), oA8 (by omega), oL_s, oL_s, nI_1]
    rfl
  · intro q
    show b_X6_whole_4 _ _ _ _ q (wv rows wt x k) (nI k) = _
    unfold b_X6_whole_4
    rw [if_pos (by rw [nI_le_iff (by omega) (by omega)]; omega)]
theorem middle9 (rows pty wt : Nat → Int32) {x k : Nat} (hx : x < 5) (hk : k ≤ 8) : f_X6_middle (nI k) rows pty wt (nI x) = some (mv rows pty wt x k) := by
  unfold f_X6_middle L_X6_middle_4
  refine oF_run0 (fun s => (mv rows pty wt x s, nI s)) k _ rfl (by omega) ?_ ?_
  · intro s hs q
    show b_X6_middle_4 _ _ _ _ _ q (mv rows pty wt x s) (nI s) = _
    unfold b_X6_middle_4 f_X6_middle_41
    rw [if_neg (by rw [nI_le_iff (by omega) (by omega)]; omega)]
    simp only [oA8 (show s < 8 by omega), oL_s, nI_1]
    rw [oA_n (5 * s + x) _ (by rw [i5, nI_mul, nI_add, Nat.mul_comm]) (by omega) (by decide)]
    by_cases h : pty s = 0
    · simp only [h, if_true, mv]
    · simp only [h, if_false, mv]
  · intro q
    show b_X6_middle_4 _ _ _ _ _ q (mv rows pty wt x k) (nI k) = _
    unfold b_X6_middle_4
    rw [if_pos (by rw [nI_le_iff (by omega) (by omega)]; omega)]
theorem weighedBy0 {rows pty wt sOf sNum sMost wt' : Nat → Int32} {k : Nat} (hk : k ≤ 8) (h : ∀ s, s < k → (∀ x, x < 4 → rows (5 * s + x) = sNum (4 * s + x)) ∧ rows (5 * s + 4) = sMost s ∧ wt s = wt' s) {x : Nat} (hx : x < 5) : f_X10_weighedBy (nI k) sOf sNum sMost wt' 0 (nI x) = some (wv rows wt x k) := by
  unfold f_X10_weighedBy L_X10_weighedBy_5
  refine oF_run0 (fun s => (wv rows wt x s, nI s)) k _ rfl (by omega) ?_ ?_
  · intro s hs q
    obtain ⟨g1, g2, g3⟩ := h s hs
    show b_X10_weighedBy_5 _ _ _ _ _ _ _ q (wv rows wt x s) (nI s) = _
    unfold b_X10_weighedBy_5 f_X10_weighedBy_40 f_X10_weighedBy_62 f_X10_weighedBy_72
    rw [if_neg (by rw [nI_le_iff (by omega) (by omega)]; omega)]
    simp only [oA8 (show s < 8 by omega), if_true, oL_s, nI_1]
    by_cases e : x = 4
    · subst e
      rw [if_pos (show nI 4 = 4 from rfl), ← g2, ← g3, Int32.mul_comm]
      rfl
    · rw [if_neg (by rw [i4, nI_inj (by omega) (by omega)]; exact e), oA_n (4 * s + x) _ (by rw [i4, nI_mul, nI_add]) (by omega) (by decide), ← g1 x (by omega), ← g3, Int32.mul_comm]
      rfl
  · intro q
    show b_X10_weighedBy_5 _ _ _ _ _ _ _ q (wv rows wt x k) (nI k) = _
    unfold b_X10_weighedBy_5
    rw [if_pos (by rw [nI_le_iff (by omega) (by omega)]; omega)]
theorem weighedBy1 {rows pty wt sOf sNum sMost wt' : Nat → Int32} {k : Nat} (h : WR rows pty wt sOf sNum sMost wt' k) {x : Nat} (hx : x < 5) : f_X10_weighedBy (nI k) sOf sNum sMost wt' 1 (nI x) = some (mv rows pty wt x k) := by
  have hk8 := h.1
  unfold f_X10_weighedBy L_X10_weighedBy_5
  refine oF_run0 (fun s => (mv rows pty wt x s, nI s)) k _ rfl (by omega) ?_ ?_
  · intro s hs q
    obtain ⟨g0, g01, g3, -, g1, g2, -⟩ := h.2 s hs
    show b_X10_weighedBy_5 _ _ _ _ _ _ _ q (mv rows pty wt x s) (nI s) = _
    unfold b_X10_weighedBy_5 f_X10_weighedBy_40 f_X10_weighedBy_62 f_X10_weighedBy_72
    rw [if_neg (by rw [nI_le_iff (by omega) (by omega)]; omega)]
    simp only [oA8 (show s < 8 by omega), show ¬ (1 : Int32) = 0 by decide, if_false, oL_s, nI_1, add_z]
    show _ = q ((if pty s = 0 then mv rows pty wt x s + rows (5 * s + x) * wt s else mv rows pty wt x s), nI (s + 1))
    rw [g0]
    by_cases e : x = 4
    · subst e
      rw [if_pos (show nI 4 = 4 from rfl), g2, ← g3, Int32.mul_comm]
      rcases g01 with e1 | e1
      · rw [e1]; rfl
      · rw [e1]; rfl
    · rw [if_neg (by rw [i4, nI_inj (by omega) (by omega)]; exact e), oA_n (4 * s + x) _ (by rw [i4, nI_mul, nI_add]) (by omega) (by decide), (g1 x (by omega)).1, ← g3, Int32.mul_comm]
      rcases g01 with e1 | e1
      · rw [e1]; rfl
      · rw [e1]; rfl
  · intro q
    show b_X10_weighedBy_5 _ _ _ _ _ _ _ q (mv rows pty wt x k) (nI k) = _
    unfold b_X10_weighedBy_5
    rw [if_pos (by rw [nI_le_iff (by omega) (by omega)]; omega)]
theorem WR_w {rows pty wt sOf sNum sMost wt' : Nat → Int32} {k : Nat} (h : WR rows pty wt sOf sNum sMost wt' k) : ∀ s, s < k → (∀ x, x < 4 → rows (5 * s + x) = sNum (4 * s + x)) ∧ rows (5 * s + 4) = sMost s ∧ wt s = wt' s := fun s hs => ⟨fun x hx => ((h.2 s hs).2.2.2.2.1 x hx).1, (h.2 s hs).2.2.2.2.2.1, (h.2 s hs).2.2.1⟩
