/-! seekWeights: rows of the class -/
theorem i32_back (a b c : Int32) : a + b * c + b * (-c) = a := by
  rw [Int32.mul_neg, Int32.add_assoc, Int32.add_right_neg, Int32.add_zero]
theorem addTot9 (rows total : Nat → Int32) {s : Nat} (hs : s < 8) (c : Int32) : ∃ total', f_X6_addToTotal rows total (nI s) c = some total' ∧ ∀ x, x < 5 → total' x = total x + rows (5 * s + x) * c := by
  unfold f_X6_addToTotal L_X6_addToTotal_2
  refine oF_P0 (σ := (Nat → Int32) × Int32) (fun i z => z.2 = nI i ∧ (∀ x, x < i → z.1 x = total x + rows (5 * s + x) * c) ∧ ∀ x, i ≤ x → z.1 x = total x) 5 (fun (r : Option (Nat → Int32)) => ∃ total', r = some total' ∧ ∀ x, x < 5 → total' x = total x + rows (5 * s + x) * c) _ ⟨rfl, fun x hx => absurd hx (by omega), fun x _ => rfl⟩ (by omega) ?_ ?_
  · rintro i ⟨z1, z2⟩ k hi ⟨g1, g2, g3⟩ hk
    dsimp only at g1 g2 g3 ⊢
    subst g1
    unfold b_X6_addToTotal_2
    rw [if_neg (by rw [i5, nI_le_iff (by omega) (by omega)]; omega), oA_n i _ rfl hi (by decide), oA_n (5 * s + i) _ (by rw [i5, nI_mul, nI_add, Nat.mul_comm]) (by omega) (by decide), oA_n i _ rfl hi (by decide), oL_s, oL_s, nI_1, g3 i (Nat.le_refl _)]
    refine hk _ ⟨rfl, fun x hx => ?_, fun x hx => ?_⟩
    · dsimp only
      by_cases e : x = i
      · subst e; rw [upd_s]
      · rw [upd_n _ _ e]; exact g2 x (by omega)
    · dsimp only
      rw [upd_n _ _ (by omega)]; exact g3 x (by omega)
  · rintro ⟨z1, z2⟩ k ⟨g1, g2, g3⟩
    dsimp only at g1 g2 g3 ⊢
    subst g1
    unfold b_X6_addToTotal_2
    rw [if_pos (show (5 : Int32) ≤ nI 5 by decide)]
    exact ⟨z1, rfl, g2⟩
/-- the rows as numbers; what follows -/
def rA (rows : Nat → Int32) (s x : Nat) : Int := (rows (5 * s + x)).toInt
def lowI (rows : Nat → Int32) (k x : Nat) : Nat → Int
  | 0 => 0
  | d + 1 => lowI rows k x d + min (rA rows (k - (d + 1)) x) 0
def highI (rows : Nat → Int32) (k x : Nat) : Nat → Int
  | 0 => 0
  | d + 1 => highI rows k x d + max (rA rows (k - (d + 1)) x) 0
def AB (rows : Nat → Int32) (k : Nat) : Prop := ∀ s, s < k → ∀ x, x < 5 → -99 ≤ rA rows s x ∧ rA rows s x ≤ 99
theorem lowI_b {rows : Nat → Int32} {k : Nat} (h : AB rows k) {x : Nat} (hx : x < 5) : ∀ d, d ≤ k → -(99 * (d : Int)) ≤ lowI rows k x d ∧ lowI rows k x d ≤ 0 ∧ 0 ≤ highI rows k x d ∧ highI rows k x d ≤ 99 * (d : Int) := by
  intro d
  induction d with
  | zero => intro _; simp [lowI, highI]
  | succ d ih =>
    intro hd
    obtain ⟨a1, a2, a3, a4⟩ := ih (by omega)
    obtain ⟨b1, b2⟩ := h (k - (d + 1)) (by omega) x hx
    rw [lowI, highI]
    generalize rA rows (k - (d + 1)) x = r at *
    have c1 : min r 0 ≤ 0 := Int.min_le_right _ _
    have c2 : 0 ≤ max r 0 := Int.le_max_right _ _
    have c3 : -99 ≤ min r 0 := by
      rcases Int.le_total r 0 with hr | hr
      · rw [Int.min_eq_left hr]; exact b1
      · rw [Int.min_eq_right hr]; decide
    have c4 : max r 0 ≤ 99 := by
      rcases Int.le_total r 0 with hr | hr
      · rw [Int.max_eq_right hr]; decide
      · rw [Int.max_eq_left hr]; exact b2
    refine ⟨?_, ?_, ?_, ?_⟩ <;> (push_cast; omega)
theorem sm_add {a b : Int32} (h1 : -1000000 ≤ a.toInt) (h2 : a.toInt ≤ 1000000) (h3 : -1000000 ≤ b.toInt) (h4 : b.toInt ≤ 1000000) : (a + b).toInt = a.toInt + b.toInt := by
  rw [Int32.toInt_add, Int.bmod_eq_of_le (by omega) (by omega)]
theorem i32_eq {a : Int32} {z : Int} (h : a.toInt = z) (hb : -1000000 ≤ z ∧ z ≤ 1000000) : a = Int32.ofInt z := by
  rw [← h, Int32.ofInt_toInt]
theorem i32_min (r : Int32) : (if (0 : Int32) < r then (0 : Int32) else r).toInt = min r.toInt 0 := by
  have h0 : (0 : Int32).toInt = 0 := by decide
  by_cases h : (0 : Int32) < r
  · rw [if_pos h, h0]
    rw [lt_toInt, h0] at h
    rw [Int.min_eq_right (by omega)]
  · rw [if_neg h]
    rw [lt_toInt, h0] at h
    rw [Int.min_eq_left (by omega)]
theorem i32_max (r : Int32) : (if r < (0 : Int32) then (0 : Int32) else r).toInt = max r.toInt 0 := by
  have h0 : (0 : Int32).toInt = 0 := by decide
  by_cases h : r < (0 : Int32)
  · rw [if_pos h, h0]
    rw [lt_toInt, h0] at h
    rw [Int.max_eq_right (by omega)]
  · rw [if_neg h]
    rw [lt_toInt, h0] at h
    rw [Int.max_eq_left (by omega)]
def LHI (rows low high : Nat → Int32) (k x j : Nat) : Prop := (low (5 * j + x)).toInt = lowI rows k x (k - j) ∧ (high (5 * j + x)).toInt = highI rows k x (k - j)
theorem bound42 {rows : Nat → Int32} {k : Nat} (hk : k ≤ 6) (h : AB rows k) {x : Nat} (hx : x < 5) (k2 : (Nat → Int32) × (Nat → Int32) × Int32 → Option ((Nat → Int32) × (Nat → Int32))) (low high : Nat → Int32) (h0 : LHI rows low high k x k) (hold : ∀ y, y < x → ∀ j, j ≤ k → LHI rows low high k y j) : ∃ low' high', L_X6_boundWhatFollows_42 rows (nI x) k2 (low, high, nI k - 1) = k2 (low', high', nI (x + 1)) ∧ ∀ y, y < x + 1 → ∀ j, j ≤ k → LHI rows low' high' k y j := by
  unfold L_X6_boundWhatFollows_42
  refine oF_P0 (σ := (Nat → Int32) × (Nat → Int32) × Int32) (fun d z => z.2.2 = nI (k - d) - 1 ∧ (∀ j, k - d ≤ j → j ≤ k → LHI rows z.1 z.2.1 k x j) ∧ ∀ y, y < x → ∀ j, j ≤ k → LHI rows z.1 z.2.1 k y j) k (fun r => ∃ low' high', r = k2 (low', high', nI (x + 1)) ∧ ∀ y, y < x + 1 → ∀ j, j ≤ k → LHI rows low' high' k y j) _ ⟨rfl, fun j h1 h2 => by rw [show j = k by omega]; exact h0, hold⟩ (by omega) ?_ ?_
  · rintro d ⟨z1, z2, z3⟩ k' hd ⟨g1, g2, g3⟩ hk'
    dsimp only at g1 g2 g3 ⊢
    subst g1
    have e1 : nI (k - d) - 1 = nI (k - d - 1) := by rw [show k - d = k - d - 1 + 1 by omega, ← nI_1, Int32.add_sub_cancel, show k - d - 1 + 1 - 1 = k - d - 1 by omega]
    have e2 : nI (k - d - 1) + (-1 : Int32) = nI (k - (d + 1)) - 1 := by rw [show k - (d + 1) = k - d - 1 by omega, Int32.sub_eq_add_neg]
    unfold b_X6_boundWhatFollows_42
    rw [e1, if_neg (nI_pos (by omega)), e2]
    rw [oA_n (5 * (k - d - 1) + x) _ (by rw [i5, nI_mul, nI_add, Nat.mul_comm]) (by omega) (by decide), oL_s, oA_n (5 * (k - d) + x) _ (by rw [nI_1, i5, nI_mul, nI_add, Nat.mul_comm, show k - d - 1 + 1 = k - d by omega]) (by omega) (by decide), oA_n (5 * (k - d - 1) + x) _ (by rw [i5, nI_mul, nI_add, Nat.mul_comm]) (by omega) (by decide), oL_s, oA_n (5 * (k - d) + x) _ (by rw [nI_1, i5, nI_mul, nI_add, Nat.mul_comm, show k - d - 1 + 1 = k - d by omega]) (by omega) (by decide), oA_n (5 * (k - d - 1) + x) _ (by rw [i5, nI_mul, nI_add, Nat.mul_comm]) (by omega) (by decide), oL_s, oL_s]
    obtain ⟨l1, l2⟩ := g2 (k - d) (by omega) (by omega)
    rw [show k - (k - d) = d by omega] at l1 l2
    obtain ⟨b1, b2, b3, b4⟩ := lowI_b h hx d (by omega)
    obtain ⟨c1, c2⟩ := h (k - d - 1) (by omega) x hx
    have m1 := i32_min (rows (5 * (k - d - 1) + x))
    have m2 := i32_max (rows (5 * (k - d - 1) + x))
    have c1' : -99 ≤ (rows (5 * (k - d - 1) + x)).toInt := c1
    have c2' : (rows (5 * (k - d - 1) + x)).toInt ≤ 99 := c2
    have n1 : -99 ≤ min (rows (5 * (k - d - 1) + x)).toInt 0 ∧ min (rows (5 * (k - d - 1) + x)).toInt 0 ≤ 0 := ⟨Int.le_min.mpr ⟨c1', by decide⟩, Int.min_le_right _ _⟩
    have n2 : 0 ≤ max (rows (5 * (k - d - 1) + x)).toInt 0 ∧ max (rows (5 * (k - d - 1) + x)).toInt 0 ≤ 99 := ⟨Int.le_max_right _ _, Int.max_le.mpr ⟨c2', by decide⟩⟩
    refine hk' _ ⟨rfl, fun j h1 h2 => ?_, fun y hy j hj => ?_⟩
    · dsimp only
      by_cases e : j = k - d - 1
      · subst e
        unfold LHI
        rw [upd_s, upd_s, show k - (k - d - 1) = d + 1 by omega, lowI, highI]
        unfold rA
        rw [show k - (d + 1) = k - d - 1 by omega, sm_add (by omega) (by omega) (by omega) (by omega), sm_add (by omega) (by omega) (by omega) (by omega), l1, l2, m1, m2]
        exact ⟨rfl, rfl⟩
      · unfold LHI
        rw [upd_n _ _ (by omega), upd_n _ _ (by omega)]
        exact g2 j (by omega) h2
    · dsimp only
      unfold LHI
      rw [upd_n _ _ (by omega), upd_n _ _ (by omega)]
      exact g3 y hy j hj
  · rintro ⟨z1, z2, z3⟩ k' ⟨g1, g2, g3⟩
    dsimp only at g1 g2 g3 ⊢
    subst g1
    unfold b_X6_boundWhatFollows_42
    rw [Nat.sub_self, if_pos (by decide), oL_s, nI_1]
    refine ⟨z1, z2, rfl, fun y hy j hj => ?_⟩
    by_cases e : y = x
    · subst e; exact g2 j (by omega) hj
    · exact g3 y (by omega) j hj
theorem bound9 {rows : Nat → Int32} {k : Nat} (hk : k ≤ 6) (h : AB rows k) (low high : Nat → Int32) : ∃ low' high', f_X6_boundWhatFollows (nI k) rows low high = some (low', high') ∧ ∀ y, y < 5 → ∀ j, j ≤ k → LHI rows low' high' k y j := by
  unfold f_X6_boundWhatFollows L_X6_boundWhatFollows_2
  refine oF_P0 (σ := (Nat → Int32) × (Nat → Int32) × Int32) (fun x z => z.2.2 = nI x ∧ ∀ y, y < x → ∀ j, j ≤ k → LHI rows z.1 z.2.1 k y j) 5 (fun (r : Option ((Nat → Int32) × (Nat → Int32))) => ∃ low' high', r = some (low', high') ∧ ∀ y, y < 5 → ∀ j, j ≤ k → LHI rows low' high' k y j) _ ⟨rfl, fun y hy => absurd hy (by omega)⟩ (by omega) ?_ ?_
  · rintro x ⟨z1, z2, z3⟩ k' hx ⟨g1, g2⟩ hk'
    dsimp only at g1 g2 ⊢
    subst g1
    unfold b_X6_boundWhatFollows_2
    rw [if_neg (by rw [i5, nI_le_iff (by omega) (by omega)]; omega), oA_n (5 * k + x) _ (by rw [i5, nI_mul, nI_add, Nat.mul_comm]) (by omega) (by decide), oL_s, oA_n (5 * k + x) _ (by rw [i5, nI_mul, nI_add, Nat.mul_comm]) (by omega) (by decide), oL_s, oL_s]
    obtain ⟨l', h', a1, a2⟩ := bound42 hk h hx k' (upd z1 (5 * k + x) 0) (upd z2 (5 * k + x) 0) (by
      unfold LHI
      rw [upd_s, upd_s, Nat.sub_self]
      exact ⟨show (0 : Int32).toInt = 0 by decide, show (0 : Int32).toInt = 0 by decide⟩) (fun y hy j hj => by
      unfold LHI
      rw [upd_n _ _ (by omega), upd_n _ _ (by omega)]
      exact g2 y hy j hj)
    rw [a1]
    exact hk' _ ⟨rfl, a2⟩
  · rintro ⟨z1, z2, z3⟩ k' ⟨g1, g2⟩
    dsimp only at g1 g2 ⊢
    subst g1
    unfold b_X6_boundWhatFollows_2
    rw [if_pos (show (5 : Int32) ≤ nI 5 by decide)]
    exact ⟨z1, z2, rfl, g2⟩
