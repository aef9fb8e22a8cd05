/-! seekWeights -/
theorem oB6_s {α1 α2 α3 α4 α5 α6 β : Type} (x1 : α1) (x2 : α2) (x3 : α3) (x4 : α4) (x5 : α5) (x6 : α6) (k : α1 → α2 → α3 → α4 → α5 → α6 → Option β) : oB6 (some (x1, x2, x3, x4, x5, x6)) k = k x1 x2 x3 x4 x5 x6 := rfl
def NR (rows : Nat → Int32) (k m : Nat) : Prop := ∀ w : Nat → Nat, (∀ s, s < k → w s ≤ m) → rfB (fun y => wv rows (fun s => nI (w s)) y k) = false
theorem dg_enc {B : Nat} (hB : 0 < B) (w : Nat → Nat) : ∀ k, (∀ s, s < k → w s < B) → ∃ y, y < B ^ k ∧ ∀ s, s < k → dg B k y s = w s := by
  intro k
  induction k with
  | zero => intro _; exact ⟨0, by rw [Nat.pow_zero]; omega, fun s hs => absurd hs (by omega)⟩
  | succ k ih =>
    intro h
    obtain ⟨y, y1, y2⟩ := ih (fun s hs => h s (by omega))
    have hk := h k (by omega)
    refine ⟨y * B + w k, ?_, fun s hs => ?_⟩
    · have : (y + 1) * B ≤ B ^ k * B := Nat.mul_le_mul_right _ y1
      rw [Nat.pow_succ]
      rw [Nat.add_mul, Nat.one_mul] at this
      omega
    · by_cases e : s = k
      · subst e
        unfold dg
        rw [show s + 1 - 1 - s = 0 by omega, Nat.pow_zero, Nat.div_one, Nat.mul_comm, Nat.mul_add_mod, Nat.mod_eq_of_lt hk]
      · rw [dg_pre (d := 1) (N := y) hB rfl (by omega) (by rw [Nat.pow_one]; omega) (by rw [Nat.pow_one, Nat.add_mul]; omega)]
        exact y2 s (by omega)
theorem NR_of {rows : Nat → Int32} {k m : Nat} (h : ∀ y, y < (m + 1) ^ k → RF rows (m + 1) k y = false) : NR rows k m := by
  intro w hw
  obtain ⟨y, y1, y2⟩ := dg_enc (show 0 < m + 1 by omega) w k (fun s hs => by have := hw s hs; omega)
  rw [← h y y1]
  unfold RF
  congr 1
  funext z
  exact wv_congr z (fun s hs => by rw [y2 s hs])
theorem NR_0 (rows : Nat → Int32) (k : Nat) : NR rows k 0 := by
  intro w hw
  have hz : ∀ y j, j ≤ k → wv rows (fun s => nI (w s)) y j = 0 := by
    intro y j
    induction j with
    | zero => intro _; rfl
    | succ j ih =>
      intro hj
      have := hw j (by omega)
      rw [wv, ih (by omega), show w j = 0 by omega, show nI 0 = 0 from rfl, Int32.mul_zero]; rfl
  unfold rfB
  dsimp only
  rw [decide_eq_false (show ¬ wv rows (fun s => nI (w s)) 4 k < 0 by rw [hz 4 k (Nat.le_refl _)]; decide), Bool.false_and]
/-- what both searches answer -/
def SK (rows : Nat → Int32) (k m x : Nat) : Prop := 1 ≤ m ∧ m ≤ 6 ∧ NR rows k (m - 1) ∧ x < (m + 1) ^ k ∧ RF rows (m + 1) k x = true ∧ ∀ y, y < x → RF rows (m + 1) k y = false
theorem SK_not {rows : Nat → Int32} {k m x m' : Nat} (h : SK rows k m x) (hm : m ≤ m') (hn : NR rows k m') : False := by
  obtain ⟨-, -, -, -, h5, -⟩ := h
  have := hn (fun s => dg (m + 1) k x s) (fun s hs => by have := dg_lt (k := k) (x := x) (s := s) (show 0 < m + 1 by omega); show dg (m + 1) k x s ≤ m'; omega)
  unfold RF at h5
  rw [this] at h5
  exact absurd h5 (by decide)
theorem SK_eq {rows : Nat → Int32} {k m x m' x' : Nat} (h : SK rows k m x) (h' : SK rows k m' x') : m = m' ∧ x = x' := by
  have hm : m = m' := by
    rcases Nat.lt_trichotomy m m' with hh | hh | hh
    · exact (SK_not h (by omega) h'.2.2.1).elim
    · exact hh
    · exact (SK_not h' (by omega) h.2.2.1).elim
  subst hm
  refine ⟨rfl, ?_⟩
  rcases Nat.lt_trichotomy x x' with hh | hh | hh
  · have := h'.2.2.2.2.2 x hh
    rw [h.2.2.2.2.1] at this
    exact absurd this (by decide)
  · exact hh
  · have := h.2.2.2.2.2 x' hh
    rw [h'.2.2.2.2.1] at this
    exact absurd this (by decide)
theorem least9 {rows low high tried total wt : Nat → Int32} {k : Nat} (hk : k ≤ 6) (h : AB rows k) (ht : ∀ x, x < 5 → total x = 0) : ∃ r wt1 tried1 total1 low1 high1, f_X6_findLeastWeights (nI k) rows wt tried total low high = some (r, wt1, tried1, total1, low1, high1) ∧ (∀ x, x < 5 → total1 x = 0) ∧ ((∃ m x, SK rows k m x ∧ r = nI m ∧ ∀ s, s < k → wt1 s = nI (dg (m + 1) k x s)) ∨ (NR rows k 6 ∧ r = -1 ∧ wt1 = wt)) := by
  obtain ⟨l1, h1, b1, b2⟩ := bound9 hk h low high
  unfold f_X6_findLeastWeights
  rw [b1, oB2_s]
  unfold L_X6_findLeastWeights_6
  refine oF_P0 (σ := (Nat → Int32) × (Nat → Int32) × Int32) (fun i z => z.2.2 = nI (i + 1) ∧ (∀ x, x < 5 → z.2.1 x = 0) ∧ NR rows k i) 6 (fun (r' : Option (Int32 × (Nat → Int32) × (Nat → Int32) × (Nat → Int32) × (Nat → Int32) × (Nat → Int32))) => ∃ r wt1 tried1 total1 low1 high1, r' = some (r, wt1, tried1, total1, low1, high1) ∧ (∀ x, x < 5 → total1 x = 0) ∧ ((∃ m x, SK rows k m x ∧ r = nI m ∧ ∀ s, s < k → wt1 s = nI (dg (m + 1) k x s)) ∨ (NR rows k 6 ∧ r = -1 ∧ wt1 = wt))) (tried, total, 1) ⟨rfl, ht, NR_0 rows k⟩ (by omega) ?_ ?_
  · rintro i ⟨z1, z2, z3⟩ k' hi ⟨g1, g2, g3⟩ hk'
    dsimp only at g1 g2 g3 ⊢
    subst g1
    unfold b_X6_findLeastWeights_6
    have key := findFrom9 hk (show i + 1 ≤ 6 by omega) h b2 k 0 0 8 z1 z2 (by omega) (by omega) (fun s hs => absurd hs (by omega)) (fun x hx => g2 x hx)
    rw [Nat.zero_mul, Nat.zero_add, Nat.one_mul] at key
    rw [if_neg (by rw [i6, nI_lt_iff (by omega) (by omega)]; omega)]
    unfold f_X6_findFrom
    rw [show (0 : Int32) = nI 0 from rfl]
    rcases key with ⟨x, c1, c2, c3, c4, tr', tot', c5, c6, c7⟩ | ⟨c1, tr', tot', c5, c6, c7⟩
    · rw [c5, oB3_s, if_neg (by decide)]
      unfold oC
      rw [nI_clamp (show k < 2 ^ 31 by omega)]
      rw [if_pos ⟨by decide, by decide, nI_pos (by omega), by show 0 + k ≤ 6; omega, by show 0 + k ≤ 8; omega⟩]
      refine ⟨_, _, _, _, _, _, rfl, fun y hy => by rw [c7 y hy]; exact g2 y hy, Or.inl ⟨i + 1, x, ⟨by omega, by omega, g3, c2, c3, fun y hy => c4 y (by omega) hy⟩, rfl, fun s hs => ?_⟩⟩
      rw [show (nI 0).toNatClampNeg = 0 from rfl, cpy_low hs]
      exact c6 s hs
    · rw [c5, oB3_s, if_pos (show (0 : Int32) = nI 0 from rfl), oL_s, nI_1]
      exact hk' _ ⟨rfl, fun y hy => by dsimp only; rw [c7 y hy]; exact g2 y hy, NR_of (fun y hy => c1 y (by omega) hy)⟩
  · rintro ⟨z1, z2, z3⟩ k' ⟨g1, g2, g3⟩
    dsimp only at g1 g2 g3 ⊢
    subst g1
    unfold b_X6_findLeastWeights_6
    rw [if_pos (show (6 : Int32) < nI 7 by decide)]
    exact ⟨_, _, _, _, _, _, rfl, g2, Or.inr ⟨g3, rfl, rfl⟩⟩
theorem seekL10 {rows sOf sNum sMost held wt : Nat → Int32} {k : Nat} (hr : RWS rows sNum sMost k) (hk : k ≤ 6) : ∃ r wt1, L_X10_seekWeights_35 (nI k) sOf sNum sMost held (wt, 1) = some (r, wt1, held) ∧ ((∃ m x, SK rows k m x ∧ r = nI m ∧ ∀ s, s < k → wt1 s = nI (dg (m + 1) k x s)) ∨ (NR rows k 6 ∧ r = -1 ∧ ∀ s, s < k → wt1 s = held s)) := by
  unfold L_X10_seekWeights_35
  refine oF_P0 (σ := (Nat → Int32) × Int32) (fun i z => z.2 = nI (i + 1) ∧ NR rows k i) 6 (fun (r' : Option (Int32 × (Nat → Int32) × (Nat → Int32))) => ∃ r wt1, r' = some (r, wt1, held) ∧ ((∃ m x, SK rows k m x ∧ r = nI m ∧ ∀ s, s < k → wt1 s = nI (dg (m + 1) k x s)) ∨ (NR rows k 6 ∧ r = -1 ∧ ∀ s, s < k → wt1 s = held s))) (wt, 1) ⟨rfl, NR_0 rows k⟩ (by omega) ?_ ?_
  · rintro i ⟨z1, z2⟩ k' hi ⟨g1, g3⟩ hk'
    dsimp only at g1 g3 ⊢
    subst g1
    unfold b_X10_seekWeights_35
    rw [if_neg (by rw [i6, nI_lt_iff (by omega) (by omega)]; omega)]
    rcases findWeights10 (sOf := sOf) hr hk (show i + 1 ≤ 6 by omega) z1 with ⟨x, c1, c2, c3, w', c4, c5⟩ | ⟨c1, w', c4⟩
    · rw [c4, oB2_s, if_neg (by decide)]
      have hw : ∀ s, s < k → dg (i + 1 + 1) k x s ≤ i + 1 := fun s hs => by have := dg_lt (k := k) (x := x) (s := s) (show 0 < i + 1 + 1 by omega); omega
      rw [greatest10 (w := fun s => dg (i + 1 + 1) k x s) (by omega) (fun s hs => ⟨c5 s hs, by have := hw s hs; show dg (i + 1 + 1) k x s ≤ 6; omega⟩), oB1_s]
      have hsk : SK rows k (i + 1) x := ⟨by omega, by omega, g3, c1, c2, c3⟩
      have hge : gw (fun s => dg (i + 1 + 1) k x s) k = i + 1 := by
        have h1 := gw_le (fun s => dg (i + 1 + 1) k x s) (m := i + 1) k hw
        rcases Nat.lt_or_ge (gw (fun s => dg (i + 1 + 1) k x s) k) (i + 1) with hlt | hge
        · exfalso
          have := g3 (fun s => dg (i + 1 + 1) k x s) (fun s hs => by have h9 : dg (i + 1 + 1) k x s ≤ gw (fun s => dg (i + 1 + 1) k x s) k := le_gw (fun s => dg (i + 1 + 1) k x s) k s hs; show dg (i + 1 + 1) k x s ≤ i; omega)
          unfold RF at c2
          rw [this] at c2
          exact absurd c2 (by decide)
        · omega
      rw [hge]
      exact ⟨_, _, rfl, Or.inl ⟨i + 1, x, hsk, rfl, c5⟩⟩
    · rw [c4, oB2_s, if_pos rfl, oL_s, nI_1]
      exact hk' _ ⟨rfl, NR_of c1⟩
  · rintro ⟨z1, z2⟩ k' ⟨g1, g3⟩
    dsimp only at g1 g3 ⊢
    subst g1
    unfold b_X10_seekWeights_35
    rw [if_pos (show (6 : Int32) < nI 7 by decide)]
    obtain ⟨b', e1, e2⟩ := copyRow10 held z1 (show k ≤ 8 by omega)
    rw [e1, oB1_s]
    exact ⟨_, _, rfl, Or.inr ⟨g3, rfl, e2⟩⟩
theorem seekWeights_ok {rows pty wt sOf sNum sMost wt' : Nat → Int32} {k : Nat} (h : WR rows pty wt sOf sNum sMost wt' k) (tried total low high held : Nat → Int32) (ht : ∀ x, x < 5 → total x = 0) : ∃ r wt1 tried1 total1 low1 high1 wt2 held2, f_X9_seekWeights (nI k) rows wt tried total low high = some (r, wt1, tried1, total1, low1, high1) ∧ f_X10_seekWeights (nI k) sOf sNum sMost wt' held = some (r, wt2, held2) ∧ WR rows pty wt1 sOf sNum sMost wt2 k ∧ ∀ x, x < 5 → total1 x = 0 := by
  obtain ⟨hk8, hs⟩ := h
  unfold f_X9_seekWeights f_X10_seekWeights
  rw [in_eqc (nI k) 1 6 1 6 rfl rfl, within_eq, oB1_s, oB1_s]
  by_cases hr : (1 : Int32) ≤ nI k ∧ nI k ≤ 6
  · rw [decide_eq_true hr]
    simp only [show ¬ bi true = 0 by decide, if_false]
    have hk : k ≤ 6 := by
      have := hr.2
      rw [i6, nI_le_iff (by omega) (by omega)] at this
      exact this
    have hAB : AB rows k := fun s hs' x hx => by
      obtain ⟨-, -, -, -, a5, a6, a7, a8⟩ := hs s hs'
      unfold rA
      by_cases e : x = 4
      · subst e; rw [a6]; exact ⟨a7, a8⟩
      · obtain ⟨q1, q2, q3⟩ := a5 x (by omega)
        rw [q1]
        constructor <;> omega
    have hRW : RWS rows sNum sMost k := fun s hs' => by
      obtain ⟨-, -, -, -, a5, a6, -⟩ := hs s hs'
      exact ⟨fun x hx => (a5 x hx).1, a6⟩
    obtain ⟨r, wt1, tried1, total1, low1, high1, c1, c2, c3⟩ := least9 (low := low) (high := high) (tried := tried) (wt := wt) hk hAB ht
    obtain ⟨hd, d1, d2⟩ := copyRow10 wt' held (show k ≤ 8 by omega)
    obtain ⟨r2, wt2, e1, e2⟩ := seekL10 (sOf := sOf) (held := hd) (wt := wt') hRW hk
    rw [c1, oB6_s, d1, oB1_s, e1]
    have both : r = r2 ∧ ∀ s, s < k → wt1 s = wt2 s ∧ ∃ w, w ≤ 20 ∧ wt2 s = nI w := by
      rcases c3 with ⟨m, x, a1, a2, a3⟩ | ⟨a1, a2, a3⟩
      · rcases e2 with ⟨m', x', b1, b2, b3⟩ | ⟨b1, -, -⟩
        · obtain ⟨rfl, rfl⟩ := SK_eq a1 b1
          refine ⟨by rw [a2, b2], fun s hs' => ⟨by rw [a3 s hs', b3 s hs'], _, ?_, b3 s hs'⟩⟩
          have := dg_lt (k := k) (x := x) (s := s) (show 0 < m + 1 by omega)
          have := a1.2.1
          omega
        · exact (SK_not a1 a1.2.1 b1).elim
      · rcases e2 with ⟨m', x', b1, b2, b3⟩ | ⟨b1, b2, b3⟩
        · exact (SK_not b1 b1.2.1 a1).elim
        · refine ⟨by rw [a2, b2], fun s hs' => ?_⟩
          obtain ⟨-, -, q3, q4, -⟩ := hs s hs'
          rw [a3, b3 s hs', d2 s hs']
          exact ⟨q3, q4⟩
    refine ⟨_, _, _, _, _, _, _, _, rfl, by rw [both.1], ⟨hk8, fun s hs' => ?_⟩, c2⟩
    obtain ⟨a1, a2, a3, a4, a5⟩ := hs s hs'
    exact ⟨a1, a2, (both.2 s hs').1, (both.2 s hs').2, a5⟩
  · rw [decide_eq_false hr]
    exact ⟨_, _, _, _, _, _, _, _, rfl, rfl, ⟨hk8, hs⟩, ht⟩
