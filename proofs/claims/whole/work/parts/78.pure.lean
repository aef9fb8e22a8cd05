/-! between -/
def pbV (a b : Bool) : Int32 := bi a ||| (if b then 2 else 0)
theorem pb_2 (a b : Bool) : pbV a b &&& (-2) = pbV false b := by cases a <;> cases b <;> decide
theorem pb_3 (a b : Bool) : pbV a b &&& (-3) = pbV a false := by cases a <;> cases b <;> decide
theorem pb_1 (a b : Bool) : pbV a b &&& (-1) = pbV a b := by cases a <;> cases b <;> decide
theorem pb_0 : pbV true true = 3 := by decide
theorem bear9 {c : Nat → Int32} {R : RW} {cl n : Nat} (h : SRR c R cl n) {wd : Nat → Int64} {t : Nat} {S : Nat → Bool} (ht : t < 40) (hS : ∀ q, q < 4 → ∀ i, i < 64 → bl (wd (4 * t + q)) i = S (64 * q + i)) : f_X1_partiesBear (nI cl) c (nI (4 * t)) wd = some (pbV (aN (fun w => !(AL R (fun s => decide ((0 : Int32) = 2) || decide (R 2 s = 0)) (nI w) cl && !(S w))) 256) (aN (fun w => !(AL R (fun s => decide ((1 : Int32) = 2) || decide (R 2 s = 1)) (nI w) cl && S w)) 256)) := by
  unfold f_X1_partiesBear L_X1_partiesBear_5
  generalize hP : (fun w => !(AL R (fun s => decide ((0 : Int32) = 2) || decide (R 2 s = 0)) (nI w) cl && !(S w))) = P
  generalize hQ : (fun w => !(AL R (fun s => decide ((1 : Int32) = 2) || decide (R 2 s = 1)) (nI w) cl && S w)) = Q
  refine oF_run0 (fun q => (pbV (aN P (64 * q)) (aN Q (64 * q)), nI q)) 4 _ (by show (pbV true true, nI 0) = _; rw [pb_0]; rfl) (by omega) ?_ ?_
  · intro q hq k
    dsimp only
    unfold b_X1_partiesBear_5 f_X1_partiesBear_43 f_X1_partiesBear_63
    obtain ⟨x, e1, e2⟩ := whereAll9 h hq 0
    obtain ⟨y, e3, e4⟩ := whereAll9 h hq 1
    have z1 : (lg_cmp (x &&& (wd (4 * t + q) ^^^ (-1 : Int64))) 0 = 0) ↔ aN (fun i => P (64 * q + i)) 64 = true := w_zero (fun i hi => by
      rw [l_and, l_xor, l_m1 i hi, e2 i hi, hS q hq i hi, ← hP, Bool.xor_true, Bool.not_not])
    have z2 : (lg_cmp (y &&& wd (4 * t + q)) 0 = 0) ↔ aN (fun i => Q (64 * q + i)) 64 = true := w_zero (fun i hi => by
      rw [l_and, e4 i hi, hS q hq i hi, ← hQ, Bool.not_not])
    rw [if_neg (by rw [i4, nI_le_iff (by omega) (by omega)]; omega), word9 wd ht hq, oB1_s, e1, oB1_s]
    simp only [e3, oB1_s, oL_s, nI_1, z1, z2]
    rw [show 64 * (q + 1) = 64 * q + 64 by omega, aN_add P, aN_add Q]
    cases aN (fun i => P (64 * q + i)) 64 <;> cases aN (fun i => Q (64 * q + i)) 64
    · rw [if_neg (by decide), if_neg (by decide), pb_2, pb_3, Bool.and_false, Bool.and_false]
    · rw [if_neg (by decide), if_pos rfl, pb_2, Bool.and_false, Bool.and_true]
    · rw [if_pos rfl, if_neg (by decide), pb_3, Bool.and_false, Bool.and_true]
    · rw [if_pos rfl, if_pos rfl, Bool.and_true, Bool.and_true]
  · intro k
    dsimp only
    unfold b_X1_partiesBear_5
    rw [if_pos (show (4 : Int32) ≤ nI 4 by decide)]
theorem bear10 {R : RW} {cl : Nat} (hcl : cl ≤ 10) {so : Nat → Int32} {t : Nat} {S : Nat → Bool} (ht : t < 40) (hS : ∀ w, w < 256 → so (256 * t + w) = bi (S w)) {r : Int32} (hr : f_X10_speaksOf so (nI t) = some r) : L_X10_between_33 (nI cl) (R 0) (R 1) (R 2) so (nI t) (3, 0) = some (pbV (aN (fun w => !(AL R (fun s => decide ((0 : Int32) = 2) || decide (R 2 s = 0)) (nI w) cl && !(S w))) 256) (aN (fun w => !(AL R (fun s => decide ((1 : Int32) = 2) || decide (R 2 s = 1)) (nI w) cl && S w)) 256) ||| (if (r &&& ((lo (R 0) (R 1) (R 2) 0 cl &&& lo (R 0) (R 1) (R 2) 1 cl) ^^^ (-1 : Int32))) = 0 then 4 else 0), so) := by
  unfold L_X10_between_33
  generalize hP : (fun w => !(AL R (fun s => decide ((0 : Int32) = 2) || decide (R 2 s = 0)) (nI w) cl && !(S w))) = P
  generalize hQ : (fun w => !(AL R (fun s => decide ((1 : Int32) = 2) || decide (R 2 s = 1)) (nI w) cl && S w)) = Q
  obtain ⟨s0, c1, c2⟩ := clausesOf10 R hcl 0
  obtain ⟨s1, c3, c4⟩ := clausesOf10 R hcl 1
  refine oF_run0 (fun w => (pbV (aN P w) (aN Q w), nI w)) 256 _ (by show (pbV true true, nI 0) = _; rw [pb_0]; rfl) (by omega) ?_ ?_
  · intro w hw k
    dsimp only
    unfold b_X10_between_33 f_X10_between_81 f_X10_between_82 f_X10_between_109 f_X10_between_110
    have a0 : AL R (fun s => bt s0 s) (nI w) cl = AL R (fun s => decide ((0 : Int32) = 2) || decide (R 2 s = 0)) (nI w) cl := AL_congr _ (fun s hs => by
      rw [c2 s (by omega), decide_eq_true hs, Bool.true_and, decide_eq_false (show ¬ (0 : Int32) = 2 by decide), Bool.false_or])
    have a1 : AL R (fun s => bt s1 s) (nI w) cl = AL R (fun s => decide ((1 : Int32) = 2) || decide (R 2 s = 1)) (nI w) cl := AL_congr _ (fun s hs => by
      rw [c4 s (by omega), decide_eq_true hs, Bool.true_and, decide_eq_false (show ¬ (1 : Int32) = 2 by decide), Bool.false_or])
    have p1 : aN P (w + 1) = (aN P w && !(AL R (fun s => decide ((0 : Int32) = 2) || decide (R 2 s = 0)) (nI w) cl && !(S w))) := by rw [← hP]; rfl
    have q1 : aN Q (w + 1) = (aN Q w && !(AL R (fun s => decide ((1 : Int32) = 2) || decide (R 2 s = 1)) (nI w) cl && S w)) := by rw [← hQ]; rfl
    rw [if_neg (by rw [i256, nI_le_iff (by omega) (by omega)]; omega), oA_n (256 * t + w) _ (by rw [i256, nI_mul, nI_add]) (by omega) (by decide), hS w hw, p1, q1]
    simp only [oL_s, nI_1, c1, c3, oB1_s, allHold10 R hcl, bi_0, a0, a1, pb_1, pb_2, pb_3]
    generalize AL R (fun s => decide ((0 : Int32) = 2) || decide (R 2 s = 0)) (nI w) cl = A
    generalize AL R (fun s => decide ((1 : Int32) = 2) || decide (R 2 s = 1)) (nI w) cl = B
    generalize aN P w = x
    generalize aN Q w = y
    cases S w <;> cases A <;> cases B <;> cases x <;> cases y <;> rfl
  · intro k
    dsimp only
    unfold b_X10_between_33 f_X10_between_139
    rw [if_pos (show (256 : Int32) ≤ nI 256 by decide), hr, oB1_s, shared_eq _ _ _ (by omega), oB1_s]
    split
    · rfl
    · rfl
theorem between_ok {c : Nat → Int32} {R : RW} {cl n : Nat} (h : SRR c R cl n) (base : Int32) (wd : Nat → Int64) (so : Nat → Int32) (x : Int32) : ∃ r wd' base' so', f_X9_between base wd (nI cl) (nI n) (lo (R 0) (R 1) (R 2) 0 cl) (lo (R 0) (R 1) (R 2) 1 cl) c x = some (r, wd', base') ∧ f_X10_between (nI cl) (nI n) (R 0) (R 1) (R 2) (R 3) (R 4) (R 5) so x = some (r, so') := by
  have hn : n ≤ 40 := by have := h.1; have := h.2.2.1; omega
  have hh := h
  obtain ⟨h1, h2, h3, h4, h5, h6⟩ := hh
  unfold f_X9_between f_X10_between
  rw [isSystem9_eq, isSystem10_eq]
  rcases i_cases x 3 (by omega) with ⟨sys, hsys, rfl⟩ | hx
  · rw [show f_X9_within (nI sys) 0 2 = some 1 from wi_in (m := 2) (by omega) (by decide), oB1_s, oB1_s]
    simp only [show ¬ (1 : Int32) = 0 by decide, if_false]
    obtain ⟨e, e1, e2, e3⟩ := first_ex (R 0) (R 1) n
    have hce : ∀ s, s < n → (c (8 * s) ||| c (8 * s + 1)) = (R 0 s ||| R 1 s) := fun s hs => by rw [(h4 s hs).1, (h4 s hs).2.1]
    rw [firstEmpty10 _ _ (by omega) e1 e2 e3, firstEmpty9 c (by omega) e1 (fun i hi => by rw [hce i (by omega)]; exact e2 i hi) (fun hi => by rw [hce e hi]; exact e3 hi), oB1_s, oB1_s]
    unfold feV
    by_cases he : e < n
    · rw [if_pos he, if_neg (nI_ne_m1 (by omega)), if_pos (nI_pos' (by omega))]
      obtain ⟨wd', a1, a2⟩ := read9 h he (show sys ≤ 2 by omega) wd
      obtain ⟨so', b1, b2⟩ := lay10 h he (nI sys) so
      have hS := fun q hq i hi => a2 e (by omega) q hq i hi
      have hT := fun w hw => b2 e (by omega) w hw
      obtain ⟨r, r1, r2⟩ := speaks_ok (by omega) hS hT
      rw [a1, oB2_s, bear9 h (by omega) hS, oB1_s, r1, oB1_s, b1, oB1_s, bear10 h1 (by omega) hT r2]
      unfold f_X5_sharedLetters f_X9_between_80
      rw [oB1_s]
      split
      · exact ⟨_, _, _, _, rfl, rfl⟩
      · rw [if_pos rfl, or_z]; exact ⟨_, _, _, _, rfl, rfl⟩
    · rw [if_neg he, if_pos rfl, if_neg (by decide)]
      exact ⟨_, _, _, _, rfl, rfl⟩
  · rw [show f_X9_within x 0 2 = some 0 from wi_out (m := 2) (by decide) hx, oB1_s, oB1_s]
    exact ⟨_, _, _, _, rfl, rfl⟩
