/-! seekWeights: the bounds are sound -/
theorem sm_mul {a b : Int32} {m : Int} (h : a.toInt * b.toInt = m) (h1 : -1000000 ≤ m) (h2 : m ≤ 1000000) : (a * b).toInt = m := by
  rw [Int32.toInt_mul, h, Int.bmod_eq_of_le (by omega) (by omega)]
theorem m_range {m : Nat} (hm : m ≤ 6) {z b : Int} (h1 : -b ≤ z) (h2 : z ≤ b) (hb : 0 ≤ b) : -(6 * b) ≤ (m : Int) * z ∧ (m : Int) * z ≤ 6 * b := by
  rcases (show m = 0 ∨ m = 1 ∨ m = 2 ∨ m = 3 ∨ m = 4 ∨ m = 5 ∨ m = 6 by omega) with rfl | rfl | rfl | rfl | rfl | rfl | rfl <;> constructor <;> omega
/-- the weighed sums as numbers -/
def wI (rows : Nat → Int32) (w : Nat → Nat) (y : Nat) : Nat → Int
  | 0 => 0
  | s + 1 => wI rows w y s + (w s : Int) * rA rows s y
theorem wI_b {rows : Nat → Int32} {k : Nat} (h : AB rows k) {w : Nat → Nat} (hw : ∀ s, s < k → w s ≤ 6) {y : Nat} (hy : y < 5) : ∀ j, j ≤ k → -(594 * (j : Int)) ≤ wI rows w y j ∧ wI rows w y j ≤ 594 * (j : Int) := by
  intro j
  induction j with
  | zero => intro _; simp [wI]
  | succ j ih =>
    intro hj
    obtain ⟨a1, a2⟩ := ih (by omega)
    obtain ⟨b1, b2⟩ := h j (by omega) y hy
    obtain ⟨c1, c2⟩ := m_range (hw j (by omega)) b1 b2 (by decide)
    rw [wI]
    push_cast
    constructor <;> omega
theorem wv_toInt {rows : Nat → Int32} {k : Nat} (hk : k ≤ 6) (h : AB rows k) {w : Nat → Nat} (hw : ∀ s, s < k → w s ≤ 6) {y : Nat} (hy : y < 5) : ∀ j, j ≤ k → (wv rows (fun s => nI (w s)) y j).toInt = wI rows w y j := by
  intro j
  induction j with
  | zero => intro _; exact (show (0 : Int32).toInt = 0 by decide)
  | succ j ih =>
    intro hj
    have i1 := ih (by omega)
    obtain ⟨a1, a2⟩ := wI_b h hw hy j (by omega)
    obtain ⟨b1, b2⟩ := h j (by omega) y hy
    obtain ⟨c1, c2⟩ := m_range (hw j (by omega)) b1 b2 (by decide)
    have hw6 := hw j (by omega)
    have e1 : (rows (5 * j + y) * nI (w j)).toInt = (w j : Int) * rA rows j y := by
      refine sm_mul ?_ (by omega) (by omega)
      rw [nI_toInt (by omega), Int.mul_comm]; rfl
    rw [wv, wI, sm_add (by rw [i1]; omega) (by rw [i1]; omega) (by rw [e1]; omega) (by rw [e1]; omega), i1, e1]
theorem mm_b {m w : Nat} (hw : w ≤ m) (a : Int) : (m : Int) * min a 0 ≤ (w : Int) * a ∧ (w : Int) * a ≤ (m : Int) * max a 0 := by
  obtain ⟨e, rfl⟩ : ∃ e, m = w + e := ⟨m - w, by omega⟩
  push_cast
  rw [Int.add_mul, Int.add_mul]
  rcases Int.le_total a 0 with ha | ha
  · rw [Int.min_eq_left ha, Int.max_eq_right ha]
    have h1 := Int.mul_nonneg (Int.natCast_nonneg e) (show 0 ≤ -a by omega)
    have h2 := Int.mul_nonneg (Int.natCast_nonneg w) (show 0 ≤ -a by omega)
    rw [Int.mul_neg] at h1 h2
    simp only [Int.mul_zero]
    constructor <;> omega
  · rw [Int.min_eq_right ha, Int.max_eq_left ha]
    have h1 := Int.mul_nonneg (Int.natCast_nonneg e) ha
    have h2 := Int.mul_nonneg (Int.natCast_nonneg w) ha
    simp only [Int.mul_zero]
    constructor <;> omega
theorem wI_rest {rows : Nat → Int32} {k m : Nat} {w : Nat → Nat} (hw : ∀ s, s < k → w s ≤ m) {y : Nat} : ∀ d, d ≤ k → (m : Int) * lowI rows k y d ≤ wI rows w y k - wI rows w y (k - d) ∧ wI rows w y k - wI rows w y (k - d) ≤ (m : Int) * highI rows k y d := by
  intro d
  induction d with
  | zero => intro _; simp [lowI, highI]
  | succ d ih =>
    intro hd
    obtain ⟨a1, a2⟩ := ih (by omega)
    obtain ⟨b1, b2⟩ := mm_b (hw (k - (d + 1)) (by omega)) (rA rows (k - (d + 1)) y)
    have e1 : wI rows w y (k - d) = wI rows w y (k - (d + 1)) + (w (k - (d + 1)) : Int) * rA rows (k - (d + 1)) y := by
      rw [show k - d = k - (d + 1) + 1 by omega]; rfl
    rw [lowI, highI, Int.mul_add, Int.mul_add]
    constructor <;> omega
/-- can it still refute -/
def CSx (T : Nat → Int32) (rows : Nat → Int32) (k m j x : Nat) : Bool := decide ((T x).toInt + (m : Int) * lowI rows k x (k - j) ≤ 0) && decide (0 ≤ (T x).toInt + (m : Int) * highI rows k x (k - j))
def CSt (T : Nat → Int32) (rows : Nat → Int32) (k m j : Nat) : Bool := aN (CSx T rows k m j) 4 && decide ((T 4).toInt + (m : Int) * lowI rows k 4 (k - j) < 0)
theorem canStill9 {rows low high T : Nat → Int32} {k m j : Nat} (hk : k ≤ 6) (hm : m ≤ 6) (hj : j ≤ k) (h : AB rows k) (hl : ∀ y, y < 5 → ∀ j, j ≤ k → LHI rows low high k y j) (hT : ∀ x, x < 5 → -100000 ≤ (T x).toInt ∧ (T x).toInt ≤ 100000) : f_X6_canStillRefute T low high (nI j) (nI m) = some (bi (CSt T rows k m j)) := by
  have hlow : ∀ x, x < 5 → (T x + nI m * low (5 * j + x)).toInt = (T x).toInt + (m : Int) * lowI rows k x (k - j) ∧ (T x + nI m * high (5 * j + x)).toInt = (T x).toInt + (m : Int) * highI rows k x (k - j) := by
    intro x hx
    obtain ⟨l1, l2⟩ := hl x hx j hj
    obtain ⟨b1, b2, b3, b4⟩ := lowI_b h hx (k - j) (by omega)
    obtain ⟨t1, t2⟩ := hT x hx
    obtain ⟨c1, c2⟩ := m_range (z := lowI rows k x (k - j)) (b := 594) hm (by omega) (by omega) (by decide)
    obtain ⟨c3, c4⟩ := m_range (z := highI rows k x (k - j)) (b := 594) hm (by omega) (by omega) (by decide)
    have e1 : (nI m * low (5 * j + x)).toInt = (m : Int) * lowI rows k x (k - j) := sm_mul (by rw [nI_toInt (by omega), l1]) (by omega) (by omega)
    have e2 : (nI m * high (5 * j + x)).toInt = (m : Int) * highI rows k x (k - j) := sm_mul (by rw [nI_toInt (by omega), l2]) (by omega) (by omega)
    exact ⟨by rw [sm_add (by omega) (by omega) (by omega) (by omega), e1], by rw [sm_add (by omega) (by omega) (by omega) (by omega), e2]⟩
  have z0 : (0 : Int32).toInt = 0 := by decide
  unfold f_X6_canStillRefute
  rw [oL_s]
  unfold L_X6_canStillRefute_7
  refine oF_P0 (σ := Int32) (fun x z => z = nI x ∧ aN (CSx T rows k m j) x = true) 4 (fun r => r = some (bi (CSt T rows k m j))) _ ⟨rfl, rfl⟩ (by omega) ?_ ?_
  · rintro x z k' hx ⟨rfl, g⟩ hk'
    unfold b_X6_canStillRefute_7
    obtain ⟨v1, v2⟩ := hlow x (by omega)
    rw [if_neg (by rw [i4, nI_le_iff (by omega) (by omega)]; omega), oA_n x _ rfl (by omega) (by decide), oA_n (5 * j + x) _ (by rw [i5, nI_mul, nI_add, Nat.mul_comm]) (by omega) (by decide), oA_n x _ rfl (by omega) (by decide), oA_n (5 * j + x) _ (by rw [i5, nI_mul, nI_add, Nat.mul_comm]) (by omega) (by decide)]
    have stop : CSx T rows k m j x = false → some (0 : Int32) = some (bi (CSt T rows k m j)) := by
      intro hx0
      have : CSt T rows k m j = false := by
        unfold CSt
        rw [aN_mono (show aN (CSx T rows k m j) (x + 1) = false by rw [aN, hx0, Bool.and_false]) (show x + 1 ≤ 4 by omega), Bool.false_and]
      rw [this]; rfl
    by_cases h1 : (T x).toInt + (m : Int) * lowI rows k x (k - j) ≤ 0
    · rw [if_neg (by rw [lt_toInt, v1, z0]; omega)]
      by_cases h2 : 0 ≤ (T x).toInt + (m : Int) * highI rows k x (k - j)
      · rw [if_pos (by rw [le_toInt, v2, z0]; exact h2), oL_s, nI_1]
        refine hk' _ ⟨rfl, ?_⟩
        rw [aN, g, Bool.true_and]
        unfold CSx
        rw [decide_eq_true h1, decide_eq_true h2]; rfl
      · rw [if_neg (by rw [le_toInt, v2, z0]; exact h2)]
        exact stop (by unfold CSx; rw [decide_eq_false h2, Bool.and_false])
    · rw [if_pos (by rw [lt_toInt, v1, z0]; omega)]
      exact stop (by unfold CSx; rw [decide_eq_false h1, Bool.false_and])
  · rintro z k' ⟨rfl, g⟩
    unfold b_X6_canStillRefute_7
    obtain ⟨v1, v2⟩ := hlow 4 (by omega)
    rw [if_pos (show (4 : Int32) ≤ nI 4 by decide), oA_n 4 _ i4 (by decide) (by decide), oA_n (5 * j + 4) _ (by rw [i5, nI_mul, i4, nI_add, Nat.mul_comm]) (by omega) (by decide)]
    unfold CSt
    rw [g, Bool.true_and]
    by_cases h1 : (T 4).toInt + (m : Int) * lowI rows k 4 (k - j) < 0
    · rw [if_neg (by rw [le_toInt, v1, z0]; omega), decide_eq_true h1]; rfl
    · rw [if_pos (by rw [le_toInt, v1, z0]; omega), decide_eq_false h1]; rfl
/-- a vector that refutes is not passed over -/
theorem CSt_sound {rows T : Nat → Int32} {k m j : Nat} (hk : k ≤ 6) (hm : m ≤ 6) (hj : j ≤ k) (h : AB rows k) {w : Nat → Nat} (hw : ∀ s, s < k → w s ≤ m) (hT : ∀ x, x < 5 → T x = wv rows (fun s => nI (w s)) x j) (hr : rfB (fun x => wv rows (fun s => nI (w s)) x k) = true) : CSt T rows k m j = true := by
  have hw6 : ∀ s, s < k → w s ≤ 6 := fun s hs => Nat.le_trans (hw s hs) hm
  have z0 : (0 : Int32).toInt = 0 := by decide
  have hv : ∀ x, x < 5 → (wv rows (fun s => nI (w s)) x k).toInt = wI rows w x k := fun x hx => wv_toInt hk h hw6 hx k (Nat.le_refl _)
  have ht : ∀ x, x < 5 → (T x).toInt = wI rows w x j := fun x hx => by rw [hT x hx]; exact wv_toInt hk h hw6 hx j hj
  unfold rfB at hr
  simp only [Bool.and_eq_true, decide_eq_true_iff] at hr
  obtain ⟨r4, r0, r1, r2, r3⟩ := hr
  rw [lt_toInt, hv 4 (by omega), z0] at r4
  have rr : ∀ x, x < 4 → wI rows w x k = 0 := by
    intro x hx
    rw [← hv x (by omega)]
    rcases (show x = 0 ∨ x = 1 ∨ x = 2 ∨ x = 3 by omega) with rfl | rfl | rfl | rfl
    · rw [r0]; exact z0
    · rw [r1]; exact z0
    · rw [r2]; exact z0
    · rw [r3]; exact z0
  have rest : ∀ x, x < 5 → (m : Int) * lowI rows k x (k - j) ≤ wI rows w x k - wI rows w x j ∧ wI rows w x k - wI rows w x j ≤ (m : Int) * highI rows k x (k - j) := fun x hx => by
    have := wI_rest (rows := rows) hw (y := x) (k - j) (by omega)
    rw [show k - (k - j) = j by omega] at this
    exact this
  unfold CSt
  rw [Bool.and_eq_true, aN_iff]
  constructor
  · intro x hx
    obtain ⟨q1, q2⟩ := rest x (by omega)
    have q3 := rr x hx
    unfold CSx
    rw [ht x (by omega), Bool.and_eq_true, decide_eq_true_iff, decide_eq_true_iff]
    constructor <;> omega
  · obtain ⟨q1, q2⟩ := rest 4 (by omega)
    rw [ht 4 (by omega), decide_eq_true_iff]
    omega
/-- at the end the test is the refutation itself -/
theorem CSt_end (T rows : Nat → Int32) (k m : Nat) : CSt T rows k m k = rfB T := by
  have z0 : (0 : Int32).toInt = 0 := by decide
  have hx : ∀ x, CSx T rows k m k x = decide (T x = 0) := by
    intro x
    unfold CSx
    rw [Nat.sub_self]
    show (decide ((T x).toInt + (m : Int) * 0 ≤ 0) && decide (0 ≤ (T x).toInt + (m : Int) * 0)) = _
    rw [Int.mul_zero, Int.add_zero, Bool.eq_iff_iff, Bool.and_eq_true, decide_eq_true_iff, decide_eq_true_iff, decide_eq_true_iff, fa_eq, z0]
    omega
  unfold CSt rfB
  simp only [aN, hx, Nat.sub_self]
  have h4 : decide ((T 4).toInt + (m : Int) * lowI rows k 4 0 < 0) = decide (T 4 < 0) := by
    show decide ((T 4).toInt + (m : Int) * 0 < 0) = _
    rw [Int.mul_zero, Int.add_zero, Bool.eq_iff_iff, decide_eq_true_iff, decide_eq_true_iff, lt_toInt, z0]
  rw [h4]
  cases decide (T 0 = 0) <;> cases decide (T 1 = 0) <;> cases decide (T 2 = 0) <;> cases decide (T 3 = 0) <;> cases decide (T 4 < 0) <;> rfl
