/-! what is asked of sums -/
def rfB (V : Nat → Int32) : Bool := decide (V 4 < 0) && (decide (V 0 = 0) && (decide (V 1 = 0) && (decide (V 2 = 0) && decide (V 3 = 0))))
theorem refuted9 (rows wt : Nat → Int32) {k : Nat} (hk : k ≤ 8) : f_X6_refuted (nI k) rows wt = some (bi (rfB (fun x => wv rows wt x k))) := by
  unfold f_X6_refuted L_X6_refuted_2
  have step : ∀ x, x < 4 → ∀ q, b_X6_refuted_2 (nI k) rows wt q (nI x) = if wv rows wt x k = 0 then q (nI (x + 1)) else some 0 := by
    intro x hx q
    unfold b_X6_refuted_2
    rw [if_neg (by rw [i4, nI_le_iff (by omega) (by omega)]; omega), whole9 rows wt (by omega) hk, oB1_s, oL_s, nI_1]
  have last : ∀ q, b_X6_refuted_2 (nI k) rows wt q (nI 4) = some (bi (decide (wv rows wt 4 k < 0))) := by
    intro q
    unfold b_X6_refuted_2
    rw [if_pos (show (4 : Int32) ≤ nI 4 by decide), show f_X6_whole (nI k) rows wt 4 = some (wv rows wt 4 k) from whole9 rows wt (x := 4) (by omega) hk, oB1_s]
    by_cases h : 0 ≤ wv rows wt 4 k
    · rw [if_pos h, decide_eq_false (by rw [lt_toInt]; rw [le_toInt] at h; omega)]; rfl
    · rw [if_neg h, decide_eq_true (by rw [lt_toInt]; rw [le_toInt] at h; omega)]; rfl
  unfold rfB
  by_cases h0 : wv rows wt 0 k = 0
  · by_cases h1 : wv rows wt 1 k = 0
    · by_cases h2 : wv rows wt 2 k = 0
      · by_cases h3 : wv rows wt 3 k = 0
        · refine oF_run0 (fun x => nI x) 4 _ rfl (by omega) (fun x hx q => ?_) (fun q => ?_)
          · show b_X6_refuted_2 _ _ _ q (nI x) = _
            rw [step x hx q]
            rcases (show x = 0 ∨ x = 1 ∨ x = 2 ∨ x = 3 by omega) with rfl | rfl | rfl | rfl
            · rw [if_pos h0]
            · rw [if_pos h1]
            · rw [if_pos h2]
            · rw [if_pos h3]
          · show b_X6_refuted_2 _ _ _ q (nI 4) = _
            rw [last q]; simp [h0, h1, h2, h3]
        · refine oF_run0 (fun x => nI x) 3 _ rfl (by omega) (fun x hx q => ?_) (fun q => ?_)
          · show b_X6_refuted_2 _ _ _ q (nI x) = _
            rw [step x (by omega) q]
            rcases (show x = 0 ∨ x = 1 ∨ x = 2 by omega) with rfl | rfl | rfl
            · rw [if_pos h0]
            · rw [if_pos h1]
            · rw [if_pos h2]
          · show b_X6_refuted_2 _ _ _ q (nI 3) = _
            rw [step 3 (by omega) q, if_neg h3]; simp [h3, bi]
      · refine oF_run0 (fun x => nI x) 2 _ rfl (by omega) (fun x hx q => ?_) (fun q => ?_)
        · show b_X6_refuted_2 _ _ _ q (nI x) = _
          rw [step x (by omega) q]
          rcases (show x = 0 ∨ x = 1 by omega) with rfl | rfl
          · rw [if_pos h0]
          · rw [if_pos h1]
        · show b_X6_refuted_2 _ _ _ q (nI 2) = _
          rw [step 2 (by omega) q, if_neg h2]; simp [h2, bi]
    · refine oF_run0 (fun x => nI x) 1 _ rfl (by omega) (fun x hx q => ?_) (fun q => ?_)
      · show b_X6_refuted_2 _ _ _ q (nI x) = _
        rw [step x (by omega) q]
        rcases (show x = 0 by omega) with rfl
        rw [if_pos h0]
      · show b_X6_refuted_2 _ _ _ q (nI 1) = _
        rw [step 1 (by omega) q, if_neg h1]; simp [h1, bi]
  · refine oF_run0 (fun x => nI x) 0 _ rfl (by omega) (fun x hx q => absurd hx (by omega)) (fun q => ?_)
    show b_X6_refuted_2 _ _ _ q (nI 0) = _
    rw [step 0 (by omega) q, if_neg h0]; simp [h0, bi]
def rfP (V : Nat → Int32) : Nat → Bool
  | 0 => decide (V 4 < 0)
  | x + 1 => rfP V x && decide (V x = 0)
theorem rfP4 (V : Nat → Int32) : rfP V 4 = rfB V := by
  show ((((decide (V 4 < 0) && decide (V 0 = 0)) && decide (V 1 = 0)) && decide (V 2 = 0)) && decide (V 3 = 0)) = _
  unfold rfB
  simp only [Bool.and_assoc]
theorem isRefuted10 {rows wt sOf sNum sMost wt' : Nat → Int32} {k : Nat} (hk : k ≤ 8) (h : ∀ s, s < k → (∀ x, x < 4 → rows (5 * s + x) = sNum (4 * s + x)) ∧ rows (5 * s + 4) = sMost s ∧ wt s = wt' s) : f_X10_isRefuted (nI k) sOf sNum sMost wt' = some (bi (rfB (fun x => wv rows wt x k))) := by
  have W4 : f_X10_weighedBy (nI k) sOf sNum sMost wt' 0 4 = some (wv rows wt 4 k) := weighedBy0 (pty := sOf) hk h (x := 4) (by omega)
  unfold f_X10_isRefuted
  rw [W4, oB1_s]
  have e : (if 0 ≤ wv rows wt 4 k then f_X10_isRefuted_14 (nI k) sOf sNum sMost wt' 0 else f_X10_isRefuted_14 (nI k) sOf sNum sMost wt' 1) = f_X10_isRefuted_14 (nI k) sOf sNum sMost wt' (bi (decide (wv rows wt 4 k < 0))) := by
    by_cases h : 0 ≤ wv rows wt 4 k
    · rw [if_pos h, decide_eq_false (by rw [lt_toInt]; rw [le_toInt] at h; omega)]; rfl
    · rw [if_neg h, decide_eq_true (by rw [lt_toInt]; rw [le_toInt] at h; omega)]; rfl
  rw [e]
  unfold f_X10_isRefuted_14 L_X10_isRefuted_17
  rw [← rfP4]
  refine oF_run0 (fun x => (bi (rfP (fun x => wv rows wt x k) x), nI x)) 4 _ rfl (by omega) (fun x hx q => ?_) (fun q => ?_)
  · show b_X10_isRefuted_17 _ _ _ _ _ q (bi (rfP (fun x => wv rows wt x k) x)) (nI x) = q (bi (rfP (fun x => wv rows wt x k) x && decide (wv rows wt x k = 0)), nI (x + 1))
    unfold b_X10_isRefuted_17 f_X10_isRefuted_39 f_X10_isRefuted_40
    rw [if_neg (by rw [i4, nI_le_iff (by omega) (by omega)]; omega), weighedBy0 (pty := sOf) hk h (x := x) (by omega)]
    simp only [oL_s, nI_1, oB1_s]
    cases rfP (fun x => wv rows wt x k) x
    · simp [bi]
    · by_cases q1 : wv rows wt x k = 0
      · simp [q1, bi]
      · simp [q1, bi]
  · show b_X10_isRefuted_17 _ _ _ _ _ q (bi (rfP (fun x => wv rows wt x k) 4)) (nI 4) = _
    unfold b_X10_isRefuted_17
    rw [if_pos (show (4 : Int32) ≤ nI 4 by decide), oZ_bi]
def isin (pty rows : Nat → Int32) (who : Int32) (x : Nat) : Nat → Bool
  | 0 => false
  | s + 1 => isin pty rows who x s || (decide (pty s = who) && decide (¬ rows (5 * s + x) = 0))
theorem isIn10 {rows pty wt sOf sNum sMost wt' : Nat → Int32} {k : Nat} (h : WR rows pty wt sOf sNum sMost wt' k) (who : Int32) {x : Nat} (hx : x < 4) : f_X10_isIn (nI k) sOf sNum who (nI x) = some (bi (isin pty rows who x k)) := by
  have hk8 := h.1
  unfold f_X10_isIn L_X10_isIn_5
  refine oF_run0 (fun s => (bi (isin pty rows who x s), nI s)) k _ rfl (by omega) (fun s hs q => ?_) (fun q => ?_)
  · obtain ⟨g0, -, -, -, g1, -⟩ := h.2 s hs
    show b_X10_isIn_5 _ _ _ _ _ q (bi (isin pty rows who x s)) (nI s) = q (bi (isin pty rows who x s || (decide (pty s = who) && decide (¬ rows (5 * s + x) = 0))), nI (s + 1))
    unfold b_X10_isIn_5 f_X10_isIn_43 f_X10_isIn_47 f_X10_isIn_48
    rw [if_neg (by rw [nI_le_iff (by omega) (by omega)]; omega), g0, (g1 x hx).1]
    simp only [oA8 (show s < 8 by omega), oL_s, nI_1]
    rw [oA_n (4 * s + x) _ (by rw [i4, nI_mul, nI_add]) (by omega) (by decide)]
    cases isin pty rows who x s
    · by_cases q1 : sOf s = who
      · by_cases q2 : sNum (4 * s + x) = 0
        · simp [q1, q2, bi]
        · simp [q1, q2, bi]
      · simp [q1, bi]
    · simp [bi]
  · show b_X10_isIn_5 _ _ _ _ _ q (bi (isin pty rows who x k)) (nI k) = _
    unfold b_X10_isIn_5
    rw [if_pos (by rw [nI_le_iff (by omega) (by omega)]; omega), oZ_bi]
def ui (pty rows : Nat → Int32) (who : Int32) (s : Nat) (acc : Int32) : Nat → Int32
  | 0 => acc
  | x + 1 => if pty s = who ∧ ¬ rows (5 * s + x) = 0 then ui pty rows who s acc x ||| ((1 : Int32) <<< (nI x &&& 31)) else ui pty rows who s acc x
def uo (pty rows : Nat → Int32) (who : Int32) : Nat → Int32
  | 0 => 0
  | s + 1 => ui pty rows who s (uo pty rows who s) 4
theorem bt_1sh {x y : Nat} (hx : x < 32) (hy : y < 32) : bt ((1 : Int32) <<< (nI x &&& 31)) y = decide (y = x) := by
  rw [b_shl x hx 1 hy]
  have h1 : ∀ k, k < 32 → bt 1 k = decide (k = 0) := by decide +kernel
  by_cases h : x ≤ y
  · rw [h1 _ (by omega)]
    by_cases e : y = x
    · subst e; simp
    · simp [e, show ¬ (y - x = 0) by omega]
  · simp [h, show ¬ y = x by omega]
theorem bt_ui (pty rows : Nat → Int32) (who : Int32) (s : Nat) (acc : Int32) {y : Nat} (hy : y < 32) : ∀ x, x ≤ 4 → bt (ui pty rows who s acc x) y = (bt acc y || (decide (y < x) && (decide (pty s = who) && decide (¬ rows (5 * s + y) = 0)))) := by
  intro x
  induction x with
  | zero => intro _; show bt acc y = _; simp
  | succ x ih =>
    intro hx
    have := ih (by omega)
    show bt (if pty s = who ∧ ¬ rows (5 * s + x) = 0 then ui pty rows who s acc x ||| ((1 : Int32) <<< (nI x &&& 31)) else ui pty rows who s acc x) y = _
    by_cases hc : pty s = who ∧ ¬ rows (5 * s + x) = 0
    · rw [if_pos hc, b_or, this, bt_1sh (by omega) hy]
      by_cases e : y = x
      · subst e; simp [hc.1, hc.2]
      · by_cases e2 : y < x
        · simp [e, e2, show y < x + 1 by omega]
        · simp [e, e2, show ¬ y < x + 1 by omega]
    · rw [if_neg hc, this]
      by_cases e : y = x
      · subst e
        have : (decide (pty s = who) && decide (¬ rows (5 * s + y) = 0)) = false := by
          by_cases q : pty s = who
          · have : rows (5 * s + y) = 0 := Classical.byContradiction fun q2 => hc ⟨q, q2⟩
            simp [this]
          · simp [q]
        rw [this]; simp
      · by_cases e2 : y < x
        · simp [e2, show y < x + 1 by omega]
        · simp [e2, show ¬ y < x + 1 by omega]
theorem bt_uo (pty rows : Nat → Int32) (who : Int32) {y : Nat} (hy : y < 32) : ∀ s, bt (uo pty rows who s) y = (decide (y < 4) && isin pty rows who y s) := by
  intro s
  induction s with
  | zero => show bt 0 y = _; rw [b_0]; simp [isin]
  | succ s ih =>
    show bt (ui pty rows who s (uo pty rows who s) 4) y = _
    rw [bt_ui _ _ _ _ _ hy 4 (by omega), ih]
    show _ = (decide (y < 4) && (isin pty rows who y s || (decide (pty s = who) && decide (¬ rows (5 * s + y) = 0))))
    cases decide (y < 4) <;> simp
theorem unknownsOf9 (rows pty : Nat → Int32) (who : Int32) {k : Nat} (hk : k ≤ 8) : f_X6_unknownsOf (nI k) rows pty who = some (uo pty rows who k) := by
  have inner : ∀ s, s < k → ∀ acc (k4 : Int32 × Int32 → Option Int32), L_X6_unknownsOf_15 rows pty who (nI s) k4 (acc, 0) = k4 (ui pty rows who s acc 4, nI (s + 1)) := by
    intro s hs acc k4
    unfold L_X6_unknownsOf_15
    refine oF_run0 (fun x => (ui pty rows who s acc x, nI x)) 4 _ rfl (by omega) (fun x hx q => ?_) (fun q => ?_)
    · show b_X6_unknownsOf_15 _ _ _ _ _ q (ui pty rows who s acc x) (nI x) = q ((if pty s = who ∧ ¬ rows (5 * s + x) = 0 then ui pty rows who s acc x ||| ((1 : Int32) <<< (nI x &&& 31)) else ui pty rows who s acc x), nI (x + 1))
      unfold b_X6_unknownsOf_15 f_X6_unknownsOf_52
      rw [if_neg (by rw [i4, nI_le_iff (by omega) (by omega)]; omega)]
      simp only [oA8 (show s < 8 by omega), oL_s, nI_1]
      rw [oA_n (5 * s + x) _ (by rw [i5, nI_mul, nI_add, Nat.mul_comm]) (by omega) (by decide)]
      by_cases q1 : pty s = who
      · by_cases q2 : rows (5 * s + x) = 0
        · simp [q1, q2]
        · simp [q1, q2]
      · simp [q1]
    · show b_X6_unknownsOf_15 _ _ _ _ _ q (ui pty rows who s acc 4) (nI 4) = _
      unfold b_X6_unknownsOf_15
      rw [if_pos (show (4 : Int32) ≤ nI 4 by decide), oL_s, nI_1]
  unfold f_X6_unknownsOf L_X6_unknownsOf_4
  refine oF_run0 (fun s => (uo pty rows who s, nI s)) k _ rfl (by omega) (fun s hs q => ?_) (fun q => ?_)
  · show b_X6_unknownsOf_4 _ _ _ _ q (uo pty rows who s) (nI s) = _
    unfold b_X6_unknownsOf_4
    rw [if_neg (by rw [nI_le_iff (by omega) (by omega)]; omega), inner s hs]
    rfl
  · show b_X6_unknownsOf_4 _ _ _ _ q (uo pty rows who k) (nI k) = _
    unfold b_X6_unknownsOf_4
    rw [if_pos (by rw [nI_le_iff (by omega) (by omega)]; omega)]
def fo (A B : Nat → Bool) : Nat → Int32
  | 0 => 0
  | x + 1 => fo A B x ||| (if bi (A x) = bi (B x) then (1 : Int32) <<< (nI x &&& 31) else 0)
theorem bi_inj {a b : Bool} : bi a = bi b ↔ a = b := by cases a <;> cases b <;> decide
theorem bt_fo (A B : Nat → Bool) {y : Nat} (hy : y < 32) : ∀ x, x ≤ 4 → bt (fo A B x) y = (decide (y < x) && (A y == B y)) := by
  intro x
  induction x with
  | zero => intro _; show bt 0 y = _; rw [b_0]; simp
  | succ x ih =>
    intro hx
    show bt (fo A B x ||| _) y = _
    rw [b_or, ih (by omega)]
    by_cases hc : bi (A x) = bi (B x)
    · rw [if_pos hc, bt_1sh (by omega) hy]
      by_cases e : y = x
      · subst e; rw [bi_inj] at hc; simp [hc]
      · by_cases e2 : y < x
        · simp [e, e2, show y < x + 1 by omega]
        · simp [e, e2, show ¬ y < x + 1 by omega]
    · rw [if_neg hc, b_0]
      by_cases e : y = x
      · subst e; rw [bi_inj] at hc; simp [hc]
      · by_cases e2 : y < x
        · simp [e2, show y < x + 1 by omega]
        · simp [e2, show ¬ y < x + 1 by omega]
theorem bt_15 : ∀ y, y < 32 → bt 15 y = decide (y < 4) := by decide +kernel
theorem free_ok {rows pty wt sOf sNum sMost wt' : Nat → Int32} {k : Nat} (h : WR rows pty wt sOf sNum sMost wt' k) : ∃ r, f_X6_freeUnknowns (nI k) rows pty = some r ∧ f_X10_freeOnes (nI k) sOf sNum = some r := by
  have hk8 := h.1
  have e2 : f_X10_freeOnes (nI k) sOf sNum = some (fo (fun x => isin pty rows 0 x k) (fun x => isin pty rows 1 x k) 4) := by
    unfold f_X10_freeOnes L_X10_freeOnes_4
    refine oF_run0 (fun x => (fo (fun x => isin pty rows 0 x k) (fun x => isin pty rows 1 x k) x, nI x)) 4 _ rfl (by omega) (fun x hx q => ?_) (fun q => ?_)
    · show b_X10_freeOnes_4 _ _ _ q (fo (fun x => isin pty rows 0 x k) (fun x => isin pty rows 1 x k) x) (nI x) = q (fo (fun x => isin pty rows 0 x k) (fun x => isin pty rows 1 x k) x ||| (if bi (isin pty rows 0 x k) = bi (isin pty rows 1 x k) then (1 : Int32) <<< (nI x &&& 31) else 0), nI (x + 1))
      unfold b_X10_freeOnes_4 f_X10_freeOnes_32
      rw [if_neg (by rw [i4, nI_le_iff (by omega) (by omega)]; omega), isIn10 h 0 hx, isIn10 h 1 hx, oB1_s, oB1_s]
      simp only [oL_s, nI_1]
      by_cases hc : bi (isin pty rows 0 x k) = bi (isin pty rows 1 x k)
      · rw [if_pos hc, if_pos hc]
      · rw [if_neg hc, if_neg hc]
    · show b_X10_freeOnes_4 _ _ _ q (fo (fun x => isin pty rows 0 x k) (fun x => isin pty rows 1 x k) 4) (nI 4) = _
      unfold b_X10_freeOnes_4
      rw [if_pos (show (4 : Int32) ≤ nI 4 by decide)]
  refine ⟨_, ?_, e2⟩
  unfold f_X6_freeUnknowns
  rw [unknownsOf9 _ _ _ hk8, unknownsOf9 _ _ _ hk8, oB1_s, oB1_s, oL_s]
  congr 1
  apply b_ext
  intro y hy
  rw [b_and, b_xor, b_xor, bt_15 y hy, bt_uo _ _ _ hy, bt_uo _ _ _ hy, b_m1 y hy, bt_fo _ _ hy 4 (by omega)]
  cases decide (y < 4) <;> cases isin pty rows 0 y k <;> cases isin pty rows 1 y k <;> rfl
def mu (M : Nat → Int32) : Nat → Int32
  | 0 => 0
  | x + 1 => if M x = 0 then mu M x else mu M x ||| ((1 : Int32) <<< (nI x &&& 31))
theorem middleU_ok {rows pty wt sOf sNum sMost wt' : Nat → Int32} {k : Nat} (h : WR rows pty wt sOf sNum sMost wt' k) : ∃ r, f_X6_middleUnknowns (nI k) rows pty wt = some r ∧ f_X10_middleOnes (nI k) sOf sNum sMost wt' = some r := by
  have hk8 := h.1
  refine ⟨mu (fun x => mv rows pty wt x k) 4, ?_, ?_⟩
  · unfold f_X6_middleUnknowns L_X6_middleUnknowns_4
    refine oF_run0 (fun x => (mu (fun x => mv rows pty wt x k) x, nI x)) 4 _ rfl (by omega) (fun x hx q => ?_) (fun q => ?_)
    · show b_X6_middleUnknowns_4 _ _ _ _ q (mu (fun x => mv rows pty wt x k) x) (nI x) = q ((if mv rows pty wt x k = 0 then mu (fun x => mv rows pty wt x k) x else mu (fun x => mv rows pty wt x k) x ||| ((1 : Int32) <<< (nI x &&& 31))), nI (x + 1))
      unfold b_X6_middleUnknowns_4 f_X6_middleUnknowns_23
      rw [if_neg (by rw [i4, nI_le_iff (by omega) (by omega)]; omega), middle9 _ _ _ (by omega) hk8, oB1_s]
      simp only [oL_s, nI_1]
      by_cases hc : mv rows pty wt x k = 0
      · rw [if_pos hc, if_pos hc]
      · rw [if_neg hc, if_neg hc]
    · show b_X6_middleUnknowns_4 _ _ _ _ q (mu (fun x => mv rows pty wt x k) 4) (nI 4) = _
      unfold b_X6_middleUnknowns_4
      rw [if_pos (show (4 : Int32) ≤ nI 4 by decide)]
  · unfold f_X10_middleOnes L_X10_middleOnes_4
    refine oF_run0 (fun x => (mu (fun x => mv rows pty wt x k) x, nI x)) 4 _ rfl (by omega) (fun x hx q => ?_) (fun q => ?_)
    · show b_X10_middleOnes_4 _ _ _ _ _ q (mu (fun x => mv rows pty wt x k) x) (nI x) = q ((if mv rows pty wt x k = 0 then mu (fun x => mv rows pty wt x k) x else mu (fun x => mv rows pty wt x k) x ||| ((1 : Int32) <<< (nI x &&& 31))), nI (x + 1))
      unfold b_X10_middleOnes_4 f_X10_middleOnes_26
      rw [if_neg (by rw [i4, nI_le_iff (by omega) (by omega)]; omega), weighedBy1 h (by omega), oB1_s]
      simp only [oL_s, nI_1, or_z]
      by_cases hc : mv rows pty wt x k = 0
      · rw [if_pos hc, if_pos hc]
      · rw [if_neg hc, if_neg hc]
    · show b_X10_middleOnes_4 _ _ _ _ _ q (mu (fun x => mv rows pty wt x k) 4) (nI 4) = _
      unfold b_X10_middleOnes_4
      rw [if_pos (show (4 : Int32) ≤ nI 4 by decide)]
theorem sums_ok {rows pty wt sOf sNum sMost wt' : Nat → Int32} {k : Nat} (h : WR rows pty wt sOf sNum sMost wt' k) (x : Int32) : ∃ r, f_X9_sums (nI k) rows pty wt x = some r ∧ f_X10_sums (nI k) sOf sNum sMost wt' x = some r := by
  obtain ⟨f, f1, f2⟩ := free_ok h
  obtain ⟨m, m1, m2⟩ := middleU_ok h
  unfold f_X9_sums f_X10_sums
  rw [f1, f2, m1, m2, refuted9 rows wt h.1, isRefuted10 h.1 (WR_w h)]
  simp only [oB1_s]
  by_cases h0 : x = 0
  · simp only [h0, if_true]
    cases rfB (fun x => wv rows wt x k) <;> exact ⟨_, rfl, rfl⟩
  · simp only [h0, if_false]
    by_cases h1 : x = 1
    · simp only [h1, if_true]; exact ⟨_, rfl, rfl⟩
    · simp only [h1, if_false]
      by_cases h2 : x = 2
      · simp only [h2, if_true]; exact ⟨_, rfl, rfl⟩
      · simp only [h2, if_false]
        by_cases h3 : x = 3
        · simp only [h3, if_true]
          by_cases h4 : (m &&& (f ^^^ (-1 : Int32))) = 0
          · rw [if_pos h4]; exact ⟨_, rfl, rfl⟩
          · rw [if_neg h4]; exact ⟨_, rfl, rfl⟩
        · simp only [h3, if_false]; exact ⟨_, rfl, rfl⟩
theorem weighed_ok {rows pty wt sOf sNum sMost wt' : Nat → Int32} {k : Nat} (h : WR rows pty wt sOf sNum sMost wt' k) (x y : Int32) : ∃ r, f_X9_weighed (nI k) rows pty wt x y = some r ∧ f_X10_weighed (nI k) sOf sNum sMost wt' x y = some r := by
  unfold f_X9_weighed f_X10_weighed
  rw [in_eq0 x 1 1 rfl, in_eq0 y 4 4 rfl]
  rcases i_cases x 2 (by omega) with ⟨i, hi, rfl⟩ | hx
  · rw [show f_X9_within (nI i) 0 1 = some 1 from wi_in (m := 1) (by omega) (by decide), oB1_s, oB1_s]
    simp only [show ¬ (1 : Int32) = 0 by decide, if_false]
    rcases i_cases y 5 (by omega) with ⟨j, hj, rfl⟩ | hy
    · rw [show f_X9_within (nI j) 0 4 = some 1 from wi_in (m := 4) (by omega) (by decide), oB1_s, oB1_s]
      simp only [show ¬ (1 : Int32) = 0 by decide, if_false]
      rcases (show i = 0 ∨ i = 1 by omega) with rfl | rfl
      · rw [if_pos (show nI 0 = 0 from rfl), if_neg (show ¬ nI 0 = 1 by decide)]
        unfold f_X10_weighed_33
        rw [whole9 _ _ hj h.1, weighedBy0 (pty := pty) h.1 (WR_w h) hj, oB1_s]
        exact ⟨_, rfl, rfl⟩
      · rw [if_neg (show ¬ nI 1 = 0 by decide), if_pos (show nI 1 = 1 from rfl)]
        unfold f_X10_weighed_33
        rw [middle9 _ _ _ hj h.1, weighedBy1 h hj, oB1_s]
        exact ⟨_, rfl, rfl⟩
    · rw [show f_X9_within y 0 4 = some 0 from wi_out (m := 4) (by decide) hy, oB1_s, oB1_s]
      exact ⟨_, rfl, rfl⟩
  · rw [show f_X9_within x 0 1 = some 0 from wi_out (m := 1) (by decide) hx, oB1_s, oB1_s]
    exact ⟨_, rfl, rfl⟩
